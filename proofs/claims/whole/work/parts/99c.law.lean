/-! READ: a law, its branches and its end -/
section PT
variable {X N : Nat} {σ τ σ' τ' : am_Sg} {t sd g P B0 q0 : Nat} {brs : Brs}
def LA (N g sd P B0 q0 : Nat) (σ τ σ' τ' : am_Sg) : Prop := PS N σ' τ' ∧ Fr [27, 46, 47, 48] [] σ σ' ∧ ZF sd τ τ' ∧ (ok0 σ' → ok0 σ) ∧ 0 ≤ σ' 27 19 ∧ (∃ n : Nat, n ≤ 4 ∧ τ' 80 40 = ((B0 + n : Nat) : Int)) ∧ (σ' 47 6 = 0 → ∃ brs', LW N g sd P B0 q0 σ' τ' brs' ∧ brs'.length ≤ 4 ∧ XF P σ σ' ∧ LFm B0 q0 τ τ' ∧ σ 47 4 ≤ σ' 47 4)
theorem LFm.tr {a b c : am_Sg} (h : LFm B0 q0 a b) (h' : LFm B0 q0 b c) : LFm B0 q0 a c := ⟨fun j hj => ⟨((h'.1 j hj).1).trans (h.1 j hj).1, ((h'.1 j hj).2).trans (h.1 j hj).2⟩, fun k j a b d => (h'.2 k j a b d).trans (h.2 k j a b d)⟩
theorem XF.rf : XF P σ σ := XF.of Fr.rf (fun _ _ => rfl) rfl (fun z => z)
theorem LFm.rf : LFm B0 q0 τ τ := ⟨fun _ _ => ⟨rfl, rfl⟩, fun _ _ _ _ _ => rfl⟩
theorem ZF.rf : ZF sd τ τ := ⟨Fr.rf, MG.rf⟩
theorem LA.rf {i : Nat} (h : PS N σ τ) (h0 : 0 ≤ σ 27 19) (h40 : τ 80 40 = ((B0 + i : Nat) : Int)) (hi : i ≤ 4) (hL : σ 47 6 = 0 → LW N g sd P B0 q0 σ τ brs ∧ brs.length = i) : LA N g sd P B0 q0 σ τ σ τ := by
  refine ⟨h, Fr.rf, ZF.rf, fun z => z, h0, ⟨i, hi, h40⟩, fun z => ?_⟩
  obtain ⟨l1, l2⟩ := hL z
  exact ⟨brs, l1, by omega, XF.rf, LFm.rf, Int.le_refl _⟩
theorem LA.tr {σ1 τ1 : am_Sg} (f : Fr [27, 46, 47, 48] [] σ σ1) (z : ZF sd τ τ1) (o : ok0 σ1 → ok0 σ) (kp : σ1 47 6 = 0 → XF P σ σ1 ∧ LFm B0 q0 τ τ1 ∧ σ 47 4 ≤ σ1 47 4) (kz : σ' 47 6 = 0 → σ1 47 6 = 0) (h : LA N g sd P B0 q0 σ1 τ1 σ' τ') : LA N g sd P B0 q0 σ τ σ' τ' := by
  obtain ⟨h1, h2, h3, h4, h5, h6, h7⟩ := h
  refine ⟨h1, f.tr h2, z.tr h3, fun q => o (h4 q), h5, h6, fun q => ?_⟩
  obtain ⟨b, a1, a2, a3, a4, a5⟩ := h7 q
  obtain ⟨c1, c2, c3⟩ := kp (kz q)
  exact ⟨b, a1, a2, c1.tr a3, c2.tr a4, Int.le_trans c3 a5⟩
theorem bB {n : Nat} (h : 50 * sd ≤ B0 ∧ B0 + 5 ≤ 50 * sd + 50) (hn : n ≤ 4) : 50 * sd ≤ B0 + n ∧ B0 + n < 50 * sd + 50 := by omega
noncomputable def cI (X g i : Nat) (σ : am_Sg) : Option (Option am_V × am_Sg) := vv X 181 35 [some (vP 47), some (vI (g : Int)), none, some (vI (i : Int))] [] σ
noncomputable def cE (X g : Nat) (σ : am_Sg) : Option (Option am_V × am_Sg) := vv X 181 81 [some (vP 47), some (vI (g : Int)), none, none] [] σ
noncomputable def mI (X : Nat) (x1 x2 x3 : Int) (i : Nat) (τ : am_Sg) : Option (Option am_V × am_Sg) := vv X 193 26 [some (vP 80), some (vI x1), some (vI x2), some (vI x3), some (vI (i : Int))] [] τ
noncomputable def mE (X : Nat) (x1 x2 x3 : Int) (τ : am_Sg) : Option (Option am_V × am_Sg) := vv X 193 144 [some (vP 80), some (vI x1), some (vI x2), some (vI x3), none] [] τ
theorem l_ifs (X : Nat) {x1 x2 x3 : Int} (sd1 : sd ≤ 1) (hg : g < 2) (hB0 : 50 * sd ≤ B0 ∧ B0 + 5 ≤ 50 * sd + 50) : ∀ (m i : Nat) (σ τ : am_Sg) (brs : Brs), i + m = 4 → PS N σ τ → 0 ≤ σ 27 19 → τ 80 40 = ((B0 + i : Nat) : Int) → (σ 47 6 = 0 → LW N g sd P B0 q0 σ τ brs ∧ brs.length = i) → (∃ σ' τ', cI X g i σ = cE X g σ' ∧ mI X x1 x2 x3 i τ = mE X x1 x2 x3 τ' ∧ LA N g sd P B0 q0 σ τ σ' τ' ∧ (σ' 47 6 = 0 → σ 47 6 = 0)) ∨ (∃ σ' τ', cI X g i σ = cE X g σ' ∧ mI X x1 x2 x3 i τ = some (none, τ') ∧ PS N σ' τ' ∧ ¬ σ' 47 6 = 0 ∧ Fr [27, 46, 47, 48] [] σ σ' ∧ ZF sd τ τ') := by
  intro m
  induction m with
  | zero =>
    intro i σ τ brs e h h0 h40 hL
    have i4 : i = 4 := by omega
    subst i4
    rcases h.cases with ⟨z, fs⟩ | ⟨z, t, f⟩
    · refine Or.inl ⟨σ, τ, ?_, ?_, LA.rf h h0 h40 (Nat.le_refl _) hL, fun q => q⟩
      · unfold cI cE
        rw [bq_181_35, if_neg (by decide), if_pos z]
      · unfold mI mE
        rw [bq_193_26, if_pos (ne0_of fs.1)]
    · have t4 := PS.t400 h.1 f
      have kr := kr_if _ _ (h.1.2.1 t f.1).2.1
      by_cases y : σ 4 t = 265
      · have nx : Nx N σ τ (fl σ t 2) (fm τ t 2) := nx_fault h.1 f (by decide) fm_fr rfl rfl
        refine Or.inr ⟨fl σ t 2, fm τ t 2, ?_, ?_, nx.1, by show ¬ (2 : Int) = 0; decide, fl_fr.mono rfl rfl, ZF.sm fm_fr⟩
        · unfold cI cE
          rw [bq_181_35, if_neg (by decide), if_neg (fun q => q z), f.2.2.2.1, if_neg (fun q => q y), if_neg (fun q => q rfl), cf_go z f.2.2.1.1 t4, bsome, bq_181_75, bq_181_35, if_pos (by decide)]
        · have p13 : ¬ fm τ t 2 80 13 ≤ 0 := by show ¬ (2 : Int) ≤ 0; decide
          unfold mI
          rw [bq_193_26, if_neg (fun q => q f.2.1.2), mi_y f.2.1.2 f.2.2.1.2 t4 (kr.mp y), bsome]
          dsimp +instances only
          rw [if_neg (by decide), if_neg (fun q => q rfl), mf_go f.2.1.2 f.2.2.1.2 t4, bsome, bq_193_53, if_neg p13]
      · refine Or.inl ⟨σ, τ, ?_, ?_, LA.rf h h0 h40 (Nat.le_refl _) hL, fun q => q⟩
        · unfold cI cE
          rw [bq_181_35, if_neg (by decide), if_neg (fun q => q z), f.2.2.2.1, if_pos y]
        · unfold mI mE
          rw [bq_193_26, if_neg (fun q => q f.2.1.2), mi_n f.2.1.2 f.2.2.1.2 t4 (fun q => y (kr.mpr q)), bsome]
          dsimp +instances only
          rw [if_pos rfl]
  | succ m ih =>
    intro i σ τ brs e h h0 h40 hL
    have i4 : i < 4 := by omega
    have i4' : ¬ (4 : Int) < (i : Int) := by omega
    have in4 : ¬ (i : Int) = 4 := by omega
    have hwi : w32 ((i : Int) + 1) = ((i + 1 : Nat) : Int) := w32_s1 (by omega)
    rcases h.cases with ⟨z, fs⟩ | ⟨z, t, f⟩
    · refine Or.inl ⟨σ, τ, ?_, ?_, LA.rf h h0 h40 (Nat.le_of_lt i4) hL, fun q => q⟩
      · unfold cI cE
        rw [bq_181_35, if_neg i4', if_pos z]
      · unfold mI mE
        rw [bq_193_26, if_pos (ne0_of fs.1)]
    · have t4 := PS.t400 h.1 f
      have kr := kr_if _ _ (h.1.2.1 t f.1).2.1
      by_cases y : σ 4 t = 265
      · obtain ⟨hl, hlen⟩ := hL z
        obtain ⟨σ1, τ1, a1, a2, a3, a4, a5, a6, a7, a8, a9⟩ := l_if X (x1 := x1) (x2 := x2) (x3 := x3) (i := i) sd1 hg h hl (f.2.2.2.1.trans y) i4 (by rw [hlen]; exact bB hB0 (Nat.le_of_lt i4))
        have hc : cI X g i σ = cI X g (i + 1) σ1 := by
          unfold cI
          rw [bq_181_35, if_neg i4', if_neg (fun q => q z), f.2.2.2.1, if_neg (fun q => q y), if_pos in4, a1, bsome, bq_181_75, hwi]
        have hm : mI X x1 x2 x3 i τ = mI X x1 x2 x3 (i + 1) τ1 := by
          unfold mI
          rw [bq_193_26, if_neg (fun q => q f.2.1.2), mi_y f.2.1.2 f.2.2.1.2 t4 (kr.mp y), bsome]
          dsimp +instances only
          rw [if_neg (by decide), if_pos in4]
          exact a2
        have key : ∃ brs1, (σ1 47 6 = 0 → LW N g sd P B0 q0 σ1 τ1 brs1 ∧ brs1.length = i + 1) ∧ (σ1 47 6 = 0 → XF P σ σ1 ∧ LFm B0 q0 τ τ1 ∧ σ 47 4 ≤ σ1 47 4) := by
          by_cases z1 : σ1 47 6 = 0
          · obtain ⟨oa, ob, oc, l1, l2, l3, l4⟩ := a9 z1
            exact ⟨brs ++ [(oa, ob, oc)], fun _ => ⟨l1, by rw [List.length_append, hlen]; rfl⟩, fun _ => ⟨l2, l3, Int.le_of_lt l4⟩⟩
          · exact ⟨[], fun q => absurd q z1, fun q => absurd q z1⟩
        obtain ⟨brs1, k1, k2⟩ := key
        rcases ih (i + 1) σ1 τ1 brs1 (by omega) a3 a7 (by rw [a8, hlen]; rfl) k1 with ⟨σ', τ', q1, q2, q3, q4⟩ | ⟨σ', τ', q1, q2, q3, q4, q5, q6⟩
        · exact Or.inl ⟨σ', τ', hc.trans q1, hm.trans q2, q3.tr a4 a5 a6 k2 q4, fun _ => z⟩
        · exact Or.inr ⟨σ', τ', hc.trans q1, hm.trans q2, q3, q4, a4.tr q5, a5.tr q6⟩
      · refine Or.inl ⟨σ, τ, ?_, ?_, LA.rf h h0 h40 (Nat.le_of_lt i4) hL, fun q => q⟩
        · unfold cI cE
          rw [bq_181_35, if_neg i4', if_neg (fun q => q z), f.2.2.2.1, if_pos y]
        · unfold mI mE
          rw [bq_193_26, if_neg (fun q => q f.2.1.2), mi_n f.2.1.2 f.2.2.1.2 t4 (fun q => y (kr.mpr q)), bsome]
          dsimp +instances only
          rw [if_pos rfl]
/-- what the last term leaves -/
def LE (N g sd P B0 q0 : Nat) (σ τ σ' τ' : am_Sg) : Prop := ∃ (t e K bn : Nat) (brs : Brs) (E : Ops), NF N σ' τ' t ∧ (σ' 27 19 = (e : Int) ∧ τ' 80 56 = (K : Int) ∧ τ' 80 12 = 0 ∧ τ' 80 40 = (bn : Int)) ∧ (e ≤ t ∧ 420 * sd ≤ K ∧ K ≤ 420 * sd + t ∧ bn ≤ B0 + 5 ∧ q0 ≤ K) ∧ (0 ≤ σ' 27 20 ∧ σ' 27 20 ≤ 3) ∧ CLw (σ' 46) P brs E e ∧ MLw τ' sd K B0 brs E bn ∧ wfl brs E ∧ (bt1 (σ' 27 20) g = 0 → nvl brs E) ∧ XF P σ σ' ∧ LFm B0 q0 τ τ' ∧ σ 47 4 ≤ σ' 47 4
theorem fin_c {c1 c : Nat → Int} {p e : Nat} {E : Ops} (h : CLp c P brs p) (lo : ∀ j, j < p → c1 j = c j) (hE : SgC c1 p E) (he : e = p + E.length) : CLw (up c1 e (am_or (am_shl 0 3) ((7 : Nat) : Int))) P brs E (e + 1) := by
  subst he
  refine CLp.last (h.ag (fun i _ hi => ?_)) (hE.ag (fun i i1 i2 => ?_)) ?_
  · rw [upa, if_neg (by omega), lo i hi]
  · rw [upa, if_neg (by omega)]
  · rw [upe]; exact enc7
theorem bnd_f {p q u v l : Nat} (hb : p ≤ u ∧ 420 * sd ≤ q ∧ q ≤ 420 * sd + u) (h : l + u ≤ v) (hv : v < 400) : p + l < 400 ∧ (p + l + 1 ≤ v + 1 ∧ 420 * sd ≤ q + l ∧ q + l ≤ 420 * sd + (v + 1)) ∧ u ≤ v + 1 := by omega
noncomputable def mT (X : Nat) (x1 x2 x3 : Int) (τ' : am_Sg) : Option (Option am_V × am_Sg) := (if (τ' 80 13) ≤ 0 then if 0 ≤ (τ' 80 19) ∧ (τ' 80 19) < 2 then if 1 < x1 then vv X 193 193 [none, none, none, none, none] [] (am_upd τ' 104 (τ' 80 19).toNat (w32 ((τ' 104 (τ' 80 19).toNat) + 1))) else if 0 ≤ x2 then if 0 ≤ (w32 ((w32 ((w32 (8 * (τ' 80 19))) + (w32 (4 * x1)))) + x2)) ∧ (w32 ((w32 ((w32 (8 * (τ' 80 19))) + (w32 (4 * x1)))) + x2)) < 16 then vv X 193 213 [some (vP 80), some (vI x1), some (vI x2), some (vI x3), none] [] (am_upd (am_upd τ' 104 (τ' 80 19).toNat (w32 ((τ' 104 (τ' 80 19).toNat) + 1))) 105 (w32 ((w32 ((w32 (8 * (τ' 80 19))) + (w32 (4 * x1)))) + x2)).toNat x3) else none else vv X 193 193 [none, none, none, none, none] [] (am_upd τ' 104 (τ' 80 19).toNat (w32 ((τ' 104 (τ' 80 19).toNat) + 1))) else none else some (none, τ'))
theorem l_fin (X : Nat) {x1 x2 x3 : Int} {σs τs : am_Sg} (sd1 : sd ≤ 1) (hg : g < 2) (hB0 : 50 * sd ≤ B0 ∧ B0 + 5 ≤ 50 * sd + 50) (h : LA N g sd P B0 q0 σs τs σ τ) : ∃ σ' τ', cE X g σ = some (none, σ') ∧ mE X x1 x2 x3 τ = mT X x1 x2 x3 τ' ∧ PS N σ' τ' ∧ Fr [27, 46, 47, 48] [] σ σ' ∧ ZF sd τ τ' ∧ (ok0 σ' → ok0 σ) ∧ (σ' 47 6 = 0 → LE N g sd P B0 q0 σs τs σ' τ') ∧ (σ' 47 6 = 0 → σ 47 6 = 0) := by
  obtain ⟨hps, -, -, -, h0, ⟨n, n4, h40⟩, hk⟩ := h
  have hB := bB hB0 n4
  have r100 := i100 sd1 hB
  have hwb : w32 (((B0 + n : Nat) : Int) + 1) = ((B0 + n + 1 : Nat) : Int) := w32_s1 (by omega)
  generalize hτa : am_upd (am_upd τ 107 (B0 + n) 0) 110 (B0 + n) (τ 80 56) = τa
  have Fa : Fr [107, 110] [] τ τa := by rw [← hτa]; exact (Fr.rf.upd rfl (by decide)).upd rfl (by decide)
  have Za : ZF sd τ τa := by rw [← hτa]; exact (ZF.w hB rfl rfl (by decide)).tr (ZF.w hB rfl rfl (by decide))
  have psa : PS N σ τa := by rw [← hτa]; exact (hps.updm (by decide) (by omega)).updm (by decide) (by omega)
  have ea : σ 47 6 = 0 → EH sd (σ 27 19).toNat (τa 80 56).toNat σ τa := fun z => by
    obtain ⟨b, ⟨t, p, q, f, ⟨h19, h56, h12⟩, hb, h20, -⟩, -⟩ := hk z
    exact EH.of h19 ((Fa.fld 56 rfl).trans h56) ((Fa.fld 12 rfl).trans h12) (f.ag rfl (fun _ _ => rfl) (Fa.get 84 (by decide) rfl) (fun j _ => Fa.fld j rfl)) hb h20
  obtain ⟨σ1, τ1, b1, b2, b3, b4⟩ := e_any2 X (fun τ => vv X 256 24 [some (vP 80)] [] τ) sd1 hg psa ea
  have t1_40 : τ1 80 40 = ((B0 + n : Nat) : Int) := by rw [b3.2.2.1.1.fld 40 rfl, Fa.fld 40 rfl]; exact h40
  generalize hτb : am_upd (am_upd τ1 111 (B0 + n) (τ1 80 56)) 80 40 ((B0 + n + 1 : Nat) : Int) = τb
  have Fb : Fr [111] [40] τ1 τb := by rw [← hτb]; exact (Fr.rf.upd rfl (by decide)).upf rfl
  have Zb : ZF sd τ1 τb := by
    rw [← hτb]
    exact (ZF.w hB rfl rfl (by decide)).tr ⟨Fr.rf.upf rfl, MG.rf.upf rfl⟩
  have f40_5 : ∀ j, [11, 13, 14, 15, 16].contains j = true → [40].contains j = false := fun j hj => by
    cases hc : [40].contains j with
    | false => rfl
    | true =>
      have : j = 40 := by simpa using hc
      rw [this] at hj
      cases hj
  have psb : PS N σ1 τb := b3.1.ag rfl rfl rfl (fun _ _ => rfl) (Fb.get 83 (by decide) rfl) (Fb.get 84 (by decide) rfl) (Fb.get 85 (by decide) rfl) (Fb.get 86 (by decide) rfl) (fun j hj => Fb.fld j (f40_5 j hj))
  obtain ⟨b, σ2, τ2, c1, c2, c3, c4⟩ := l_take X psb kr_semi (by decide) (by decide)
  have p2 : 0 ≤ σ2 27 19 := by
    rw [c3.2.1.1.get 27 (by decide) rfl]
    exact b3.2.1.2.2.2 h0
  obtain ⟨r, σ3, d1, d2, d3, d4⟩ := c_stepF X (k := 7) (v := 0) p2
  have Z2 : ZF sd τ τ2 := ((Za.tr (ZF.yf b3.2.2.1)).tr Zb).tr (ZF.sm c3.2.1.2)
  have F2 : Fr [27, 46, 47, 48] [] σ σ2 := b3.2.1.1.tr (c3.2.1.1.mono rfl rfl)
  have t256 : vcV X 256 [vP 80] (am_upd τ 107 (B0 + n) 0) = some τb := by
    have e40 : am_upd τ 107 (B0 + n) 0 80 40 = ((B0 + n : Nat) : Int) := h40
    refine vV_of ((bq_256_0 X _).trans ?_) rfl
    rw [e40, if_pos r100, tn_nat, show am_upd τ 107 (B0 + n) 0 80 56 = τ 80 56 from rfl, hτa, show am_upd τ 107 (B0 + n) 0 80 13 = τa 80 13 from (Fa.fld 13 rfl).symm]
    refine b2.trans ?_
    show vv X 256 24 [some (vP 80)] [] τ1 = _
    rw [bq_256_24, t1_40, if_pos r100, tn_nat, hwb, hτb]
  have hm : mE X x1 x2 x3 τ = mT X x1 x2 x3 τ2 := by
    unfold mE mT
    rw [bq_193_144, h40, if_pos ⟨r100.1, r100.2, rfl⟩, tn_nat, t256, bsome, c2, bsome]
  rcases c4 with ⟨u1, u2⟩ | ⟨u1, t9, f9, tl9, -, -, -, f10⟩
  · refine ⟨σ2, τ2, ?_, hm, c3.1, F2, Z2, fun q => absurd q.1 u2, fun q => absurd q u2, fun q => absurd q u2⟩
    unfold cE
    rw [bq_181_81, b1, bsome, c1, bsome]
    dsimp +instances only
    rw [if_pos u1, bq_181_106]
  · have k47 : σ3 47 = σ2 47 := d3.get 47 (by decide) rfl
    have ps3' : PS N σ3 τ2 := c3.1.ag (d3.get 4 (by decide) rfl) (d3.get 5 (by decide) rfl) (d3.get 6 (by decide) rfl) (fun j _ => by rw [k47]) rfl rfl rfl rfl (fun _ _ => rfl)
    refine ⟨σ3, τ2, ?_, hm, ps3', F2.tr (d3.mono rfl rfl), Z2, fun q => ?_, fun _ => ?_, fun _ => kz b4 (c3.cx.z0 f10.2.1.1)⟩
    · have d1' : vcI X 247 [vP 27, vI 7, vI 0] σ2 = some (r, σ3) := d1
      unfold cE
      rw [bq_181_81, b1, bsome, c1, bsome]
      dsimp +instances only
      rw [if_neg (by rw [u1]; decide), d1', bsome, bq_181_106]
    · have o2 : ok0 σ2 := by unfold ok0 at q ⊢; rw [k47] at q; exact q
      exact b3.2.2.2.1 (c3.2.2.2.1 o2)
    · have z2 : σ2 47 6 = 0 := f10.2.1.1
      have z1 := c3.cx.z0 z2
      have z0 := kz b4 z1
      obtain ⟨brs, ⟨t, p, q, f, ⟨h19, h56, h12⟩, hb, h20, k40, hc, hmm, hw, hnv, hPq⟩, l4, xf, lf, tle⟩ := hk z0
      have fa : NF N σ τa t := f.ag rfl (fun _ _ => rfl) (Fa.get 84 (by decide) rfl) (fun j _ => Fa.fld j rfl)
      have a56 : τa 80 56 = (q : Int) := (Fa.fld 56 rfl).trans h56
      obtain ⟨v, E, w1, w2, w3, w4, w5, w6, w7⟩ := b3.out z1 h19 a56 fa
      have ev : t9 = v := by
        have q9 : NF N σ1 τb v := w1.ag rfl (fun _ _ => rfl) (Fb.get 84 (by decide) rfl) (fun j hj => Fb.fld j (f40_5 j hj))
        exact Int.ofNat.inj (f9.2.2.1.1.symm.trans q9.2.2.1.1)
      subst ev
      have bn := bnd_f hb w7 tl9
      have f27 : σ2 27 = σ1 27 := c3.2.1.1.get 27 (by decide) rfl
      have f46 : σ2 46 = σ1 46 := c3.2.1.1.get 46 (by decide) rfl
      have e19 : σ2 27 19 = ((p + E.length : Nat) : Int) := by rw [f27]; exact w2.2
      have st := c_step X (σ := σ2) (k := 7) (v := 0) bn.1 e19
      rw [st] at d1
      injection d1 with d1
      have hs : cst σ2 (p + E.length) 7 0 = σ3 := congrArg Prod.snd d1
      have hn : brs.length = n := Nat.add_left_cancel (Int.ofNat.inj (k40.symm.trans h40))
      rw [hn] at hmm
      have n20 : σ3 27 20 = σ1 27 20 := by
        rw [← hs]
        unfold cst
        rw [ue, upa, if_neg (by decide), un _ (show ¬ (27 : Nat) = 46 by decide), f27]
      have q1 := b3.2.1.2.2.1 h20
      have lo : ∀ j, j < p → σ1 46 j = σ 46 j := fun j hj => b3.2.1.2.1 j (by rw [toN h19]; exact hj)
      have c46 : σ3 46 = up (σ1 46) (p + E.length) (am_or (am_shl 0 3) ((7 : Nat) : Int)) := by rw [← hs, cst46, f46]
      have fw : NF N σ3 τ2 (t9 + 1) := f10.ag (d3.get 4 (by decide) rfl) (fun j _ => by rw [k47]) rfl (fun _ _ => rfl)
      have r2 : ∀ k, k = 122 ∨ k = 123 → τ2 k = τ1 k := fun k hk => by
        rcases hk with e | e <;> subst e
        · rw [c3.2.1.2.get 122 (by decide) rfl, Fb.get 122 (by decide) rfl]
        · rw [c3.2.1.2.get 123 (by decide) rfl, Fb.get 123 (by decide) rfl]
      have low : ∀ j, j < q → τ2 122 j = τ 122 j ∧ τ2 123 j = τ 123 j := fun j hj => by
        have w := b3.2.2.1.2.1 j (by rw [toN a56]; exact hj)
        rw [r2 122 (Or.inl rfl), r2 123 (Or.inr rfl), w.1, w.2, Fa.get 122 (by decide) rfl, Fa.get 123 (by decide) rfl]
        exact ⟨rfl, rfl⟩
      have br : ∀ k j, 107 ≤ k → k ≤ 111 → j < B0 + n → τ2 k j = τ k j := fun k j k1' k2' hj => by
        obtain ⟨n3, n8⟩ := c5 k1' k2'
        rw [c3.2.1.2.get k n8 rfl, ← hτb, un _ n8, w_lt hj, b3.2.2.1.1.get k n8 n3, ← hτa, w_lt hj, w_lt hj]
      have k56 : τ2 80 56 = ((q + E.length : Nat) : Int) := by rw [c3.2.1.2.fld 56 rfl, Fb.fld 56 rfl]; exact w3.2
      have ml : MLw τ2 sd (q + E.length) (B0 + n) [] E (B0 + n + 1) := by
        refine ⟨?_, ⟨q, ⟨?_, ?_⟩, ⟨hb.2.1, Nat.le_refl _⟩, by rw [r2 122 (Or.inl rfl), r2 123 (Or.inr rfl)]; exact w3.1⟩, rfl⟩
        · rw [c3.2.1.2.get 107 (by decide) rfl, Fb.get 107 (by decide) rfl, b3.2.2.1.1.get 107 (by decide) rfl, ← hτa, un _ (show ¬ (107 : Nat) = 110 by decide), ue, upe]
        · rw [c3.2.1.2.get 110 (by decide) rfl, Fb.get 110 (by decide) rfl, b3.2.2.1.1.get 110 (by decide) rfl, ← hτa, ue, upe]
          exact h56
        · rw [c3.2.1.2.get 111 (by decide) rfl, ← hτb, un _ (show ¬ (111 : Nat) = 80 by decide), ue, upe]
          exact w3.2
      refine ⟨t9 + 1, p + E.length + 1, q + E.length, B0 + n + 1, brs, E, fw, ⟨by rw [← hs]; rfl, k56, ?_, ?_⟩, ⟨bn.2.1.1, bn.2.1.2.1, bn.2.1.2.2, Nat.add_le_add_left (Nat.succ_le_succ n4) _, Nat.le_trans hPq.2 (Nat.le_add_right _ _)⟩, by rw [n20]; exact q1.1, by rw [c46]; exact fin_c hc lo w2.1 rfl, (hmm.ag (Nat.le_add_right _ _) (fun k i k1' k2' _ hi' => br k i k1' k2' hi') (fun i _ hi' => low i hi')).last ml, hw.last w4, fun w => nvp.last (hnv (q1.2 g hg (by rw [← n20]; exact w))) (w5 (by rw [← n20]; exact w)), xf.tr ⟨F2.tr (d3.mono rfl rfl), fun j hj => ?_, fun _ => ⟨by rw [n20]; exact q1.1, fun k hk' w => q1.2 k hk' (by rw [← n20]; exact w)⟩, fun _ => d4⟩, lf.tr ⟨fun j hj => low j (Nat.lt_of_lt_of_le hj hPq.2), fun k j k1' k2' hj => br k j k1' k2' (Nat.lt_of_lt_of_le hj (Nat.le_add_right _ _))⟩, ?_⟩
      · rw [c3.2.1.2.fld 12 rfl, Fb.fld 12 rfl]; exact w6
      · rw [c3.2.1.2.fld 40 rfl, ← hτb]; rfl
      · have jp := Nat.lt_of_lt_of_le hj hPq.1
        rw [c46, upa, if_neg (fun e => by rw [e] at jp; exact absurd jp (Nat.not_lt.mpr (Nat.le_add_right _ _))), lo j jp]
      · refine Int.le_trans tle ?_
        rw [f.2.2.1.1, fw.2.2.1.1]
        exact Int.ofNat_le.mpr bn.2.2
end PT
