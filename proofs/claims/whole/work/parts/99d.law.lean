/-! READ: a law, whole -/
section PU
variable {X N : Nat} {σ τ σ' τ' : am_Sg} {t sd g : Nat}
theorem c_cE_f (X : Nat) (h : ¬ σ 47 6 = 0) : cE X g σ = some (none, am_upd σ 47 3 0) := by
  have h' : ¬ am_upd σ 47 3 0 47 6 = 0 := by rw [f3_47 6 (by decide)]; exact h
  unfold cE
  rw [bq_181_81, c_expr_f X h, bsome, ct_f h', bsome]
  dsimp +instances only
  rw [if_pos rfl, bq_181_106]
theorem c_cI_f (X : Nat) (h : ¬ σ 47 6 = 0) : cI X g 0 σ = some (none, am_upd σ 47 3 0) := by
  rw [← c_cE_f (g := g) X h]
  unfold cI cE
  rw [bq_181_35, if_neg (by decide), if_pos h]
theorem c_begin (X : Nat) {c : Nat} {r : Int} (hg : g < 2) (hr : -1 ≤ r ∧ r < 4) (hc : c < 100) (h : σ 28 5 = (c : Int)) : ∃ σ', vcV X 244 [vP 27, vI (g : Int), vI r] σ = some σ' ∧ Fr [28, 45] [] σ σ' ∧ σ' 28 = up (σ 28) 5 ((c + 1 : Nat) : Int) ∧ (∀ d : Nat, r = (d : Int) → σ' 45 = up (σ 45) (4 * g + d) (σ 27 19)) ∧ (r < 0 → σ' 45 = σ 45) := by
  by_cases z : r < 0
  · refine ⟨am_upd σ 28 5 ((c + 1 : Nat) : Int), vV_of ((bq_244_0 X _ _ σ).trans ?_) rfl, Fr.rf.upd rfl (by decide), by rw [ue], fun d hd => by omega, fun _ => by rw [un _ (show ¬ (45 : Nat) = 28 by decide)]⟩
    rw [if_pos z, h, w32_s1 (by omega), bq_244_28]
  · obtain ⟨d, hd⟩ : ∃ d : Nat, r = (d : Int) := ⟨r.toNat, by omega⟩
    subst hd
    have e : w32 (w32 ((g : Int) * 4) + (d : Int)) = ((4 * g + d : Nat) : Int) := by
      rw [w32_id (x := (g : Int) * 4) (by omega) (by omega), w32_id (by omega) (by omega)]
      omega
    refine ⟨am_upd (am_upd σ 28 5 ((c + 1 : Nat) : Int)) 45 (4 * g + d) (σ 27 19), vV_of ((bq_244_0 X _ _ σ).trans ?_) rfl, (Fr.rf.upd rfl (by decide)).upd rfl (by decide), by rw [un _ (show ¬ (28 : Nat) = 45 by decide), ue], fun d' hd' => ?_, fun q => absurd q z⟩
    · rw [if_neg z, e, if_pos (by omega), h, w32_s1 (by omega), tn_nat, bq_244_28]
    · have : d' = d := by omega
      subst this
      rw [ue, un _ (show ¬ (45 : Nat) = 28 by decide)]
theorem ne_ix {g' d' d : Nat} (z : ¬ (g' = g ∧ d' = d)) (h' : d' < 4) (h : d < 4) : ¬ 4 * g' + d' = 4 * g + d := by omega
theorem ne_ix2 {g' d' d : Nat} (z : ¬ (g' = g ∧ d' = d)) (h' : d' < 4) (h : d < 4) : ¬ 8 * sd + 4 * g' + d' = 8 * sd + 4 * g + d := by omega
/-- the laws told, and one more -/
theorem LaR.add {d e K bn P B0 q0 : Nat} {brs : Brs} {E : Ops} (h : LaR σ τ sd) (hP : σ 27 19 = (P : Int)) (hq : τ 80 56 = (q0 : Int)) (hB : τ 80 40 = (B0 : Int)) (hd : d < 4) (hg : g < 2) (hB0 : 50 * sd ≤ B0) (e19 : σ' 27 19 = (e : Int)) (he : e ≤ 400) (e56 : τ' 80 56 = (K : Int)) (hK : K ≤ 420 * sd + 420) (e40 : τ' 80 40 = (bn : Int)) (hbn : bn ≤ 50 * sd + 50) (h20 : 0 ≤ σ' 27 20 ∧ σ' 27 20 ≤ 3) (bits : ∀ k, k < 2 → bt1 (σ' 27 20) k = 0 → bt1 (σ 27 20) k = 0) (k45 : σ' 45 = up (σ 45) (4 * g + d) (P : Int)) (lo46 : ∀ j, j < P → σ' 46 j = σ 46 j) (k105 : τ' 105 = up (τ 105) (8 * sd + 4 * g + d) (B0 : Int)) (k106 : τ' 106 = up (τ 106) (8 * sd + 4 * g + d) (bn : Int)) (lf : LFm B0 q0 τ τ') (hqK : q0 ≤ K) (hPe : P ≤ e) (hBb : B0 ≤ bn) (cl : CLw (σ' 46) P brs E e) (ml : MLw τ' sd K B0 brs E bn) (wf : wfl brs E) (nv : bt1 (σ' 27 20) g = 0 → nvl brs E) : LaR σ' τ' sd := by
  obtain ⟨C, K0, B, F, ⟨h1, h1'⟩, ⟨h2, h2'⟩, ⟨h3, h3'⟩, h4, h5⟩ := h
  have eC : C = P := Int.ofNat.inj (h1.symm.trans hP)
  have eK : K0 = q0 := Int.ofNat.inj (h2.symm.trans hq)
  have eB : B = B0 := Int.ofNat.inj (h3.symm.trans hB)
  subst eC eK eB
  refine ⟨e, K, bn, fun g' d' => if g' = g ∧ d' = d then (fun v => cl6 (lawV v brs E)) else F g' d', ⟨e19, he⟩, ⟨e56, hK⟩, ⟨e40, hbn⟩, h20, fun g' d' hg' hd' => ?_⟩
  by_cases z : g' = g ∧ d' = d
  · obtain ⟨z1, z2⟩ := z
    subst z1 z2
    dsimp only
    rw [if_pos ⟨rfl, rfl⟩]
    refine Or.inr ⟨C, e, B, bn, brs, E, ⟨by rw [k45, upe], cl, Nat.le_refl _⟩, ⟨by rw [k105, upe], by rw [k106, upe], hB0, ml, Nat.le_refl _⟩, wf, nv, fun _ => rfl⟩
  · dsimp only
    rw [if_neg z]
    have n1 : ¬ 4 * g' + d' = 4 * g + d := ne_ix z hd' hd
    have n2 : ¬ 8 * sd + 4 * g' + d' = 8 * sd + 4 * g + d := ne_ix2 z hd' hd
    rcases h5 g' d' hg' hd' with ⟨a1, a2, a3⟩ | ⟨p, e', b, b', brs', E', ⟨a1, a2, a3⟩, ⟨a4, a5, a6, a7, a8⟩, a9, a10, a11⟩
    · refine Or.inl ⟨?_, ?_, a3⟩
      · rw [k45, upa, if_neg n1]; exact a1
      · rw [k105, k106, upa, upa, if_neg n2, if_neg n2]; exact a2
    · refine Or.inr ⟨p, e', b, b', brs', E', ⟨?_, a2.ag (fun i i1 i2 => lo46 i (Nat.lt_of_lt_of_le i2 a3)), Nat.le_trans a3 hPe⟩, ⟨?_, ?_, a6, a7.ag hqK (fun k i k1 k2 i1 i2 => lf.2 k i k1 k2 (Nat.lt_of_lt_of_le i2 a8)) (fun i i1 i2 => lf.1 i i2), Nat.le_trans a8 hBb⟩, a9, fun q => a10 (bits g' hg' q), a11⟩
      · rw [k45, upa, if_neg n1]; exact a1
      · rw [k105, upa, if_neg n2]; exact a4
      · rw [k106, upa, if_neg n2]; exact a5
theorem law_ix {d : Nat} (h1 : sd ≤ 1) (hg : g < 2) (hd : d < 4) : w32 (w32 (w32 (8 * (sd : Int)) + w32 (4 * (g : Int))) + (d : Int)) = ((8 * sd + 4 * g + d : Nat) : Int) ∧ (0 : Int) ≤ ((8 * sd + 4 * g + d : Nat) : Int) ∧ ((8 * sd + 4 * g + d : Nat) : Int) < 16 := by
  rw [w32_id (x := 8 * (sd : Int)) (by omega) (by omega), w32_id (x := 4 * (g : Int)) (by omega) (by omega), w32_id (x := 8 * (sd : Int) + 4 * (g : Int)) (by omega) (by omega), w32_id (by omega) (by omega)]
  omega
theorem x_no1 {x : Int} (hg : g < 2) (h : x = (g : Int)) : ¬ 1 < x := by omega
theorem ixl8 {d : Nat} (hg : g < 2) (hd : d < 4) : 8 * sd ≤ 8 * sd + 4 * g + d ∧ 8 * sd + 4 * g + d < 8 * sd + 8 := by omega
theorem gate_of {r : Int} (h : 0 ≤ r ∧ r ≤ 1) : ∃ g : Nat, g < 2 ∧ r = (g : Int) := ⟨r.toNat, by omega, by omega⟩
/-- the reference's end of a law -/
theorem m_mT (X : Nat) {x1 x2 : Int} {B0 bn c : Nat} (h1 : sd ≤ 1) (h13 : τ 80 13 = 0) (h19 : τ 80 19 = (sd : Int)) (h104 : τ 104 sd = (c : Int)) (hc : c < 100) (h40 : τ 80 40 = (bn : Int)) (hx1 : 0 ≤ x1) (hx2 : -1 ≤ x2 ∧ x2 < 4) : ∃ τ', mT X x1 x2 (B0 : Int) τ = some (none, τ') ∧ Fr [104, 105, 106] [] τ τ' ∧ MG sd τ τ' ∧ τ' 104 sd = ((c + 1 : Nat) : Int) ∧ (∀ (g d : Nat), g < 2 → x1 = (g : Int) → x2 = (d : Int) → τ' 105 = up (τ 105) (8 * sd + 4 * g + d) (B0 : Int) ∧ τ' 106 = up (τ 106) (8 * sd + 4 * g + d) (bn : Int)) := by
  have sr := sr_of h1
  have hw : w32 ((c : Int) + 1) = ((c + 1 : Nat) : Int) := w32_s1 (Nat.lt_trans (Nat.succ_lt_succ hc) (by decide))
  have m1 : MG sd τ (am_upd τ 104 sd ((c + 1 : Nat) : Int)) := MG.rf.upd rfl (Or.inr (Or.inr (wrg1 (by decide))))
  by_cases z : 1 < x1
  · refine ⟨am_upd τ 104 sd ((c + 1 : Nat) : Int), ?_, Fr.rf.upd rfl (by decide), m1, by rw [ue, upe], fun g d hg e _ => absurd z (x_no1 hg e)⟩
    unfold mT
    rw [if_pos (le_of_eq0 h13), h19, if_pos sr, tn_nat, if_pos z, h104, hw, bq_193_193]
  · by_cases y : 0 ≤ x2
    · obtain ⟨g, g2, hg⟩ := gate_of ⟨hx1, Int.not_lt.mp z⟩
      obtain ⟨d, hd, d4⟩ := dn_of hx2.1 (show x2 < ((4 : Nat) : Int) from hx2.2) (Int.not_lt.mpr y) (Nat.le_refl _)
      subst hg hd
      obtain ⟨i1, i2⟩ := law_ix (sd := sd) (g := g) (d := d) h1 g2 d4
      have r : ∀ k, wd k = 8 → wd k * sd ≤ 8 * sd + 4 * g + d ∧ 8 * sd + 4 * g + d < wd k * sd + wd k := fun k hk => wrd hk (ixl8 g2 d4)
      refine ⟨am_upd (am_upd (am_upd τ 104 sd ((c + 1 : Nat) : Int)) 105 (8 * sd + 4 * g + d) (B0 : Int)) 106 (8 * sd + 4 * g + d) (bn : Int), ?_, ((Fr.rf.upd rfl (by decide)).upd rfl (by decide)).upd rfl (by decide), (m1.upd rfl (Or.inr (Or.inr (r 105 (by decide))))).upd rfl (Or.inr (Or.inr (r 106 (by decide)))), ?_, fun g' d' hg' e1 e2 => ?_⟩
      · have e19 : ∀ x y : Int, am_upd (am_upd τ 104 sd x) 105 (8 * sd + 4 * g + d) y 80 19 = (sd : Int) := fun _ _ => h19
        have e40 : ∀ x y : Int, am_upd (am_upd τ 104 sd x) 105 (8 * sd + 4 * g + d) y 80 40 = (bn : Int) := fun _ _ => h40
        unfold mT
        rw [if_pos (le_of_eq0 h13), h19, if_pos sr, tn_nat, if_neg z, if_pos y, i1, if_pos i2, tn_nat, h104, hw, bq_193_213, e19, i1, if_pos i2, tn_nat, e40]
      · rw [un _ (show ¬ (104 : Nat) = 106 by decide), un _ (show ¬ (104 : Nat) = 105 by decide), ue, upe]
      · have g1 : g = g' := Int.ofNat.inj e1
        have d1 : d = d' := Int.ofNat.inj e2
        subst g1 d1
        refine ⟨?_, ?_⟩
        · rw [un _ (show ¬ (105 : Nat) = 106 by decide), ue, un _ (show ¬ (105 : Nat) = 104 by decide)]
        · rw [ue, un _ (show ¬ (106 : Nat) = 105 by decide), un _ (show ¬ (106 : Nat) = 104 by decide)]
    · refine ⟨am_upd τ 104 sd ((c + 1 : Nat) : Int), ?_, Fr.rf.upd rfl (by decide), m1, by rw [ue, upe], fun g d hg _ e => absurd (show 0 ≤ x2 by rw [e]; exact Int.natCast_nonneg _) y⟩
      unfold mT
      rw [if_pos (le_of_eq0 h13), h19, if_pos sr, tn_nat, if_neg z, if_neg y, h104, hw, bq_193_193]
theorem c5' {k : Nat} (h1 : 107 ≤ k) (h2 : k ≤ 111) : [104, 105, 106].contains k = false := by
  rcases (show k = 107 ∨ k = 108 ∨ k = 109 ∨ k = 110 ∨ k = 111 by omega) with e | e | e | e | e <;> subst e <;> rfl
theorem c7 {k : Nat} (h1 : 33 ≤ k) (h2 : k ≤ 39) : [27, 28, 45, 46, 47, 48].contains k = false ∧ ¬ k = 80 := by
  rcases (show k = 33 ∨ k = 34 ∨ k = 35 ∨ k = 36 ∨ k = 37 ∨ k = 38 ∨ k = 39 by omega) with e | e | e | e | e | e | e <;> subst e <;> exact ⟨rfl, by decide⟩
theorem c8' {k : Nat} (h1 : 96 ≤ k) (h2 : k ≤ 103) : [104, 105, 106, 107, 108, 109, 110, 111, 122, 123, 124].contains k = false ∧ ¬ k = 80 := by
  rcases (show k = 96 ∨ k = 97 ∨ k = 98 ∨ k = 99 ∨ k = 100 ∨ k = 101 ∨ k = 102 ∨ k = 103 by omega) with e | e | e | e | e | e | e | e <;> subst e <;> exact ⟨rfl, by decide⟩
theorem cbK {e t K bn b c : Nat} (h : e ≤ t ∧ 420 * sd ≤ K ∧ K ≤ 420 * sd + t ∧ bn ≤ 50 * sd + b + 5) (hb : b ≤ 5 * c) (h2 : 50 * sd + b ≤ bn) : ((e : Int) ≤ (t : Int)) ∧ (K : Int) = ((420 * sd + (K - 420 * sd) : Nat) : Int) ∧ ((K - 420 * sd : Nat) : Int) ≤ (t : Int) ∧ (bn : Int) = ((50 * sd + (bn - 50 * sd) : Nat) : Int) ∧ bn - 50 * sd ≤ 5 * (c + 1) := ⟨by omega, by omega, by omega, by omega, by omega⟩
theorem d4_of {r : Int} {c : Nat} (h : -1 ≤ r ∧ r < (c : Int)) (hc : c ≤ 4) : -1 ≤ r ∧ r < 4 := by omega
theorem b35 {b c : Nat} (hb : b ≤ 5 * c) (hc : c < 8) : 50 * sd ≤ 50 * sd + b ∧ 50 * sd + b + 5 ≤ 50 * sd + 50 := by omega
theorem c100 {c : Nat} (hc : c ≤ 8) : c < 100 := by omega
theorem lw0 {c e b t : Nat} (hc : (c : Int) ≤ (t : Int)) (he : (e : Int) ≤ (t : Int)) : c ≤ t ∧ 420 * sd ≤ 420 * sd + e ∧ 420 * sd + e ≤ 420 * sd + t := by omega
theorem s_law (X : Nat) (h : SI N sd σ τ) (hW : σ 1001 = am_s0 (fun _ => 0) 1001) (h6 : σ 47 6 = 0) (hk : σ 47 5 = 261) : Sx X N sd 181 σ τ := by
  obtain ⟨hP, hI⟩ := h
  obtain ⟨hC, hT⟩ := hI h6
  obtain ⟨t, f⟩ := hP.nf h6
  have t4 := PS.t400 hP.1 f
  have tN := f.1
  have e4 : σ 4 t = 261 := f.2.2.2.1.symm.trans hk
  have e83 : τ 83 t = 22 := (kr_law _ _ (hP.1.2.1 t f.1).2.1).mp e4
  have n18 := hC.n18
  obtain ⟨sd0, sd1⟩ := hC.1
  have c0 : σ 28 5 = (cn σ 5 : Int) ∧ cn σ 5 ≤ 8 := hC.2.1.2.2.2
  have m0 := c0.2
  obtain ⟨σ1, τ1, a1, a2, a3, a4, a5⟩ := l_first X (w := 5) (M := 8) (by omega) (by rw [hW]; rfl) hP f (by omega) (by omega) (by rw [c0.1]; omega)
  have fc1 := a3.2.1.1
  have fm1 := a3.2.1.2
  have g28 : σ1 28 = σ 28 := fc1.get 28 (by decide) rfl
  have g29 : σ1 29 = σ 29 := fc1.get 29 (by decide) rfl
  obtain ⟨n1, n2, n3, n4⟩ := hC.nm (σ' := σ1) (τ' := τ1) g28 g29 (fm1.get 88 (by decide) rfl) (fm1.get 89 (by decide) rfl) (fm1.get 90 (by decide) rfl) (fm1.fld 20 rfl)
  obtain ⟨cc, ee, bb, q1, q2, q3, q4, q5, q6, q7⟩ := hC.2.2.2.2.2
  have h12 := hC.2.2.2.2.1
  have cb0 := hC.2.1.1 0 (by omega)
  have un1 : ok0 σ1 → UN σ1 0 := fun z => ((hT (a3.cx.2.2.1 z).2).1 0 (by omega)).ag g28 g29
  obtain ⟨r0, s0, σ2, τ2, b1, b2, b3, b4, b5, b6⟩ := l_num X (a := 0) (b := 1) (a' := 0) (b' := 1) a3.1 (by decide) (Int.le_refl _) (fun _ => ⟨rfl, rfl⟩)
  have h28 : σ2 28 = σ1 28 := b3.2.1.1.get 28 (by decide) rfl
  have h29 : σ2 29 = σ1 29 := b3.2.1.1.get 29 (by decide) rfl
  obtain ⟨r1, s1, σ3, τ3, d1, d2, d3, d4, d5, -⟩ := l_told0 X b3.1 n18 ((b3.2.1.2.fld 20 rfl).trans n1) ((n2 0 (by omega)).ag h28) ((n3 0 (by omega)).ag h28 h29 (b3.2.1.2.get 88 (by decide) rfl) (b3.2.1.2.get 89 (by decide) rfl) (b3.2.1.2.get 90 (by decide) rfl)) (fun z => (un1 (b3.cx.2.2.1 z)).ag h28 h29)
  obtain ⟨b, σ4, τ4, t1, t2, t3, -⟩ := l_take X d3.1 kr_set (by decide) (by decide)
  have CX1 : Cx σ1 σ4 := b3.cx.tr (d3.cx.tr t3.cx)
  have CX : Cx σ σ4 := a3.cx.tr CX1
  have FC : Fr [47] [] σ σ4 := CX.1
  have FM : Fr [] [11, 13, 14, 15, 16] τ τ4 := fm1.tr (b3.2.1.2.tr (d3.2.1.2.tr t3.2.1.2))
  obtain ⟨g, hg, hr0⟩ := gate_of b4
  have ec : cn σ2 0 = cn σ 0 := (cn_ag h28 0).trans (cn_ag g28 0)
  have c4 : cn σ 0 ≤ 4 := cb0.2
  have d4a := d4_of (by rw [← ec]; exact d4.1) c4
  have d4b := d4_of (by rw [← ec]; exact d4.2) c4
  have c8 : σ4 28 5 = (cn σ 5 : Int) := by rw [FC.get 28 (by decide) rfl]; exact c0.1
  obtain ⟨σ5, v1, v2, v3, v4, v5⟩ := c_begin X hg d4a (c100 m0) c8
  have F5 : Fr [28, 45, 47] [] σ σ5 := (FC.mono rfl rfl).tr (v2.mono rfl rfl)
  have k47 : σ5 47 = σ4 47 := v2.get 47 (by decide) rfl
  have ps5 : PS N σ5 τ4 := t3.1.ag (v2.get 4 (by decide) rfl) (v2.get 5 (by decide) rfl) (v2.get 6 (by decide) rfl) (fun j _ => by rw [k47]) rfl rfl rfl rfl (fun _ _ => rfl)
  have run : ∀ σ9, cI X g 0 σ5 = some (none, σ9) → vcV X 181 [vP 47] σ = some σ9 := fun σ9 e => by
    have a1' : vcV X 230 [vP 47, vI 5] σ = some σ1 := a1
    refine vV_of ((bq_181_0 X σ).trans ?_) rfl
    rw [a1', bsome, b1, bsome]
    dsimp +instances only
    rw [d1, bsome]
    dsimp +instances only
    rw [t1, bsome]
    dsimp +instances only
    rw [hr0, v1, bsome]
    exact e
  have mhead : ∀ q, (vcV X 190 [vP 80, vI (σ 28 5), vI 8] τ).bind (fun q15 => if ¬ (q15 80 13) = 0 then vv X 92 238 [none] [] q15 else (vcV X 193 [vP 80] q15).bind fun q16 => vv X 92 238 [none] [] q16) = some (none, q) → vcV X 92 [vP 80] τ = some q := fun q e => by
    refine vV_of ((bq_92_0 X τ).trans ?_) rfl
    rw [f.2.2.1.2, if_pos (by omega), tn_nat, e83, if_neg (by decide), if_neg (by decide), if_pos rfl, sd0, if_pos (by omega), tn_nat, hC.2.2.1.2.2.2.2.2]
    exact e
  by_cases z1 : σ1 47 6 = 0
  · obtain ⟨lt4, z13, tlt⟩ := a4 z1
    have clt : cn σ 5 < 8 := clt_of c0.1 rfl lt4
    have e40 : τ4 80 40 = ((50 * sd + bb : Nat) : Int) := (FM.fld 40 rfl).trans q5
    have e56 : τ4 80 56 = ((420 * sd + ee : Nat) : Int) := (FM.fld 56 rfl).trans q3
    have e19 : σ5 27 19 = (cc : Int) := by rw [F5.get 27 (by decide) rfl]; exact q1
    have hB0 := b35 (sd := sd) q6 clt
    have m193 : ∀ r, mI X s0 s1 ((50 * sd + bb : Nat) : Int) 0 τ4 = r → vcV X 193 [vP 80] τ1 = (match r with | some (none, q) => some q | _ => none) := fun r e => by
      subst e
      unfold vcV mI
      have := bq_193_0 X τ1
      rw [b2, bsome] at this
      dsimp +instances only at this
      rw [d2, bsome] at this
      dsimp +instances only at this
      rw [t2, bsome, e40] at this
      rw [show am_ent (am_mL 193) [vP 80] = [some (vP 80), none, none, none, none] from rfl, this]
      rfl
    have lw : σ5 47 6 = 0 → LW N g sd cc (50 * sd + bb) (420 * sd + ee) σ5 τ4 [] ∧ ([] : Brs).length = 0 := fun z => by
      rw [k47] at z
      obtain ⟨u, fu⟩ := t3.1.nf z
      have le := CX.2.2.2 z
      rw [fu.2.2.1.1] at le
      have fu' : NF N σ5 τ4 u := fu.ag (v2.get 4 (by decide) rfl) (fun j _ => by rw [k47]) rfl (fun _ _ => rfl)
      exact ⟨⟨u, cc, 420 * sd + ee, fu', ⟨e19, e56, (FM.fld 12 rfl).trans h12⟩, lw0 (b := 0) (Int.le_trans q2 le) (Int.le_trans q4 le), by rw [F5.get 27 (by decide) rfl]; exact q7, e40, rfl, rfl, trivial, fun _ => trivial, ⟨Nat.le_refl _, Nat.le_refl _⟩⟩, rfl⟩
    have F5R : Fr cR [] σ σ5 := F5.mono rfl rfl
    have MG4 : MG sd τ τ4 := MG.sm FM
    have zr : ∀ {a b : am_Sg}, Fr [27, 46, 47, 48] [] a b → Fr cR [] a b := fun h => h.mono rfl rfl
    have ok5 : ok0 σ5 → ok0 σ4 := fun z => by unfold ok0 at z ⊢; rw [k47] at z; exact z
    rcases l_ifs X (x1 := s0) (x2 := s1) (x3 := ((50 * sd + bb : Nat) : Int)) sd1 hg hB0 4 0 σ5 τ4 [] rfl ps5 (by rw [e19]; exact Int.natCast_nonneg _) e40 lw with ⟨σ6, τ6, w1, w2, w3, w4⟩ | ⟨σ6, τ6, w1, w2, w3, w4, w5, w6⟩
    · obtain ⟨σ7, τ7, x1, x2, x3, x4, x5, x6, x7, x8⟩ := l_fin X (x1 := s0) (x2 := s1) (x3 := ((50 * sd + bb : Nat) : Int)) sd1 hg hB0 w3
      have runC := run σ7 (w1.trans x1)
      have Z7 : ZF sd τ4 τ7 := w3.2.2.1.tr x5
      have F7 : Fr [27, 46, 47, 48] [] σ5 σ7 := w3.2.1.tr x4
      have g19 : τ7 80 19 = (sd : Int) := by rw [Z7.1.fld 19 rfl, FM.fld 19 rfl]; exact sd0
      have g104 : τ7 104 sd = (cn σ 5 : Int) := by rw [Z7.1.get 104 (by decide) rfl, FM.get 104 (by decide) rfl, hC.2.2.1.2.2.2.2.2]; exact c0.1
      by_cases z7 : σ7 47 6 = 0
      · obtain ⟨tt, e, K, bn, brs, E, y1, ⟨y2, y3, y4, y5⟩, y6, y7, y8, y9, y10, y11, y12, y13, y14⟩ := x7 z7
        obtain ⟨τ9, o1, o2, o3, o4, o5⟩ := m_mT X (B0 := 50 * sd + bb) sd1 y1.2.1.2 g19 g104 (c100 m0) y5 b5 d4b
        have mr : vcV X 92 [vP 80] τ = some τ9 := by
          refine mhead τ9 ?_
          rw [a2, bsome, if_neg (fun q => q z13), m193 _ (w2.trans (x2.trans o1)), bsome, bq_92_238]
        have k28 : σ7 28 = up (σ 28) 5 ((cn σ 5 + 1 : Nat) : Int) := by rw [F7.get 28 (by decide) rfl, v3, FC.get 28 (by decide) rfl]
        have cs : cnS 5 σ σ7 := cnS_of k28
        have fk : ∀ k, [27, 28, 45, 46, 47, 48].contains k = false → ¬ k = 80 → σ7 k = σ k := fun k hk h8 => by
          rw [F7.get k h8 (fr_sub (a := [27, 46, 47, 48]) (b := [27, 28, 45, 46, 47, 48]) rfl hk), F5.get k h8 (fr_sub (a := [28, 45, 47]) (b := [27, 28, 45, 46, 47, 48]) rfl hk)]
        have gk : ∀ k, [104, 105, 106, 107, 108, 109, 110, 111, 122, 123, 124].contains k = false → ¬ k = 80 → τ9 k = τ k := fun k hk h8 => by
          rw [o2.get k h8 (fr_sub (a := [104, 105, 106]) (b := [104, 105, 106, 107, 108, 109, 110, 111, 122, 123, 124]) rfl hk), Z7.1.get k h8 (fr_sub (a := lc) (b := [104, 105, 106, 107, 108, 109, 110, 111, 122, 123, 124]) rfl hk), FM.get k h8 rfl]
        have kf : ∀ j, lj.contains j = false → τ9 80 j = τ 80 j := fun j hj => by
          rw [o2.fld j rfl, Z7.1.fld j hj, FM.fld j (fr_sub (a := [11, 13, 14, 15, 16]) (b := lj) rfl hj)]
        have o1k : ∀ k, [104, 105, 106].contains k = false → ¬ k = 80 → τ9 k = τ7 k := fun k hk h8 => o2.get k h8 hk
        have n56 : τ9 80 56 = (K : Int) := (o2.fld 56 rfl).trans y3
        have n40 : τ9 80 40 = (bn : Int) := (o2.fld 40 rfl).trans y5
        have Bb : 50 * sd + bb ≤ bn := Nat.le_of_lt y9.lt
        obtain ⟨u1, u2, u3, u4, u5⟩ := cbK (b := bb) (c := cn σ 5) ⟨y6.1, y6.2.1, y6.2.2.1, y6.2.2.2.1⟩ q6 Bb
        have z5 : σ5 47 6 = 0 := w4 (x8 z7)
        have z4 : σ4 47 6 = 0 := by rw [← k47]; exact z5
        have lef : σ 47 4 < σ7 47 4 := by
          have l1 := CX1.2.2.2 z4
          rw [k47] at y14
          exact Int.lt_of_lt_of_le tlt (Int.le_trans l1 y14)
        have ps : PS N σ7 τ9 := x3.ag rfl rfl rfl (fun _ _ => rfl) (o2.get 83 (by decide) rfl) (o2.get 84 (by decide) rfl) (o2.get 85 (by decide) rfl) (o2.get 86 (by decide) rfl) (fun j _ => o2.fld j rfl)
        have tt4 := PS.t400 x3.1 y1
        have ci : CI σ7 τ9 sd := by
          refine hC.cnt (s0 := 5) (M := 8) ⟨by decide, by decide⟩ (by decide) clt k28 (fk 29 rfl (by decide)) (gk 88 rfl (by decide)) (gk 89 rfl (by decide)) (gk 90 rfl (by decide)) ⟨?_, ?_, ?_, ?_, ?_, ?_⟩ (kf 20 rfl) (kf 19 rfl) ((o2.fld 12 rfl).trans y4) ⟨e, K - 420 * sd, bn - 50 * sd, y2, by rw [y1.2.2.1.1]; exact u1, n56.trans u2, by rw [y1.2.2.1.1]; exact u3, n40.trans u4, by rw [cs 5, if_pos rfl]; exact u5, y7⟩
          · rw [gk 91 rfl (by decide), k28, upa, if_neg (by decide)]; exact hC.2.2.1.1
          · rw [gk 95 rfl (by decide), k28, upa, if_neg (by decide)]; exact hC.2.2.1.2.1
          · rw [gk 112 rfl (by decide), k28, upa, if_neg (by decide)]; exact hC.2.2.1.2.2.1
          · rw [gk 115 rfl (by decide), k28, upa, if_neg (by decide)]; exact hC.2.2.1.2.2.2.1
          · rw [gk 118 rfl (by decide), k28, upa, if_neg (by decide)]; exact hC.2.2.1.2.2.2.2.1
          · rw [o4, k28, upe]
        refine ⟨σ7, τ9, runC, mr, ⟨ps, fun _ => ⟨ci, fun y => ?_⟩⟩, F5R.tr (zr F7), (MG4.tr Z7.2).tr o3, fun _ => lef⟩
        have ok7 : ok0 σ7 := ⟨z7, y⟩
        have ok4 : ok0 σ4 := ok5 (w3.2.2.2.1 (x6 ok7))
        have ok3 : ok0 σ3 := t3.cx.2.2.1 ok4
        have ok2 : ok0 σ2 := d3.cx.2.2.1 ok3
        obtain ⟨T1, T2, T3, T4, T5, T6, T7⟩ := hT (CX.2.2.1 ok4).2
        obtain ⟨p0, p1⟩ := d5 ok3
        obtain ⟨d, hd, d4'⟩ := dn_of d4a.1 (show r1 < ((4 : Nat) : Int) from d4a.2) (Int.not_lt.mpr p0) (Nat.le_refl _)
        have hs0 : s0 = (g : Int) := (b6 ok2).trans hr0
        have hs1 : s1 = (d : Int) := p1.trans hd
        obtain ⟨k105, k106⟩ := o5 g d hg hs0 hs1
        rw [Z7.1.get 105 (by decide) rfl, FM.get 105 (by decide) rfl] at k105
        rw [Z7.1.get 106 (by decide) rfl, FM.get 106 (by decide) rfl] at k106
        have c27 : σ5 27 = σ 27 := F5.get 27 (by decide) rfl
        have k45 : σ7 45 = up (σ 45) (4 * g + d) (cc : Int) := by
          rw [F7.get 45 (by decide) rfl, v4 d hd, FC.get 45 (by decide) rfl, FC.get 27 (by decide) rfl, q1]
        have lf : LFm (50 * sd + bb) (420 * sd + ee) τ τ9 := by
          refine ⟨fun j hj => ?_, fun k j k1 k2 hj => ?_⟩
          · have w := y13.1 j hj
            rw [o1k 122 rfl (by decide), o1k 123 rfl (by decide), w.1, w.2, FM.get 122 (by decide) rfl, FM.get 123 (by decide) rfl]
            exact ⟨rfl, rfl⟩
          · obtain ⟨-, n8⟩ := c5 k1 k2
            rw [o1k k (c5' k1 k2) n8, y13.2 k j k1 k2 hj, FM.get k n8 rfl]
        have lar : LaR σ7 τ9 sd := T7.add q1 q3 q5 d4' hg hB0.1 y2 (Nat.le_trans y6.1 tt4) n56 (Nat.le_trans y6.2.2.1 (Nat.add_le_add_left (Nat.le_trans tt4 (by decide)) _)) n40 (Nat.le_trans y6.2.2.2.1 hB0.2) y7 (fun k hk w => by have := (y12.2.2.1 (by rw [c27]; exact q7)).2 k hk w; rwa [c27] at this) k45 (fun j hj => by rw [y12.2.1 j hj, F5.get 46 (by decide) rfl]) k105 k106 lf y6.2.2.2.2 (Nat.le_of_lt y8.le) Bb y8 (y9.ag (Nat.le_refl _) (fun k i k1 k2 _ _ => by rw [o1k k (c5' k1 k2) (c5 k1 k2).2]) (fun i _ _ => ⟨by rw [o1k 122 rfl (by decide)], by rw [o1k 123 rfl (by decide)]⟩)) y10 y11
        refine ⟨fun s hs => ?_, ?_, ?_, ?_, ?_, ?_, lar⟩
        · unfold UN
          rw [cs s, if_neg (fun q => by rw [q] at hs; exact absurd hs (by decide)), fk 29 rfl (by decide)]
          exact T1 s hs
        · exact T2.ag (by rw [cs 0, if_neg (by decide)]) (fk 30 rfl (by decide)) (fk 31 rfl (by decide)) (fk 32 rfl (by decide)) (gk 92 rfl (by decide)) (gk 93 rfl (by decide)) (gk 94 rfl (by decide))
        · rw [cs 1, if_neg (by decide)]
          exact T3.ag (fun k k1 k2 => fk k (c7 k1 k2).1 (c7 k1 k2).2) (fun k k1 k2 => gk k (c8' k1 k2).1 (c8' k1 k2).2)
        · exact T4.ag (by rw [cs 2, if_neg (by decide)]) (fk 41 rfl (by decide)) (fk 42 rfl (by decide)) (gk 113 rfl (by decide)) (gk 114 rfl (by decide))
        · exact T5.ag (by rw [cs 3, if_neg (by decide)]) (by rw [cs 1, if_neg (by decide)]; exact Nat.le_refl _) (fk 43 rfl (by decide)) (fk 44 rfl (by decide)) (gk 116 rfl (by decide)) (gk 117 rfl (by decide))
        · exact T6.ag (by rw [cs 4, if_neg (by decide)]) (fk 40 rfl (by decide)) (gk 119 rfl (by decide)) (gk 120 rfl (by decide)) (gk 121 rfl (by decide))
      · have fs := x3.fs z7
        have o1 : mT X s0 s1 ((50 * sd + bb : Nat) : Int) τ7 = some (none, τ7) := by
          unfold mT
          rw [if_neg (Int.not_le.mpr fs.1)]
        refine ⟨σ7, τ7, runC, mhead τ7 ?_, SI.bad x3 z7, F5R.tr (zr F7), MG4.tr Z7.2, fun q => absurd q z7⟩
        rw [a2, bsome, if_neg (fun q => q z13), m193 _ (w2.trans (x2.trans o1)), bsome, bq_92_238]
    · have z6' : ¬ am_upd σ6 47 3 0 47 6 = 0 := by rw [f3_47 6 (by decide)]; exact w4
      refine ⟨am_upd σ6 47 3 0, τ6, run _ (w1.trans (c_cE_f X w4)), mhead τ6 ?_, SI.bad (ps3 w3) z6', (F5R.tr (zr w5)).tr (f3_fr.mono rfl rfl), MG4.tr w6.2, fun q => absurd q z6'⟩
      rw [a2, bsome, if_neg (fun q => q z13), m193 _ w2, bsome, bq_92_238]
  · obtain ⟨f6, f7⟩ := CX1.2.1 z1
    have z5 : ¬ σ5 47 6 = 0 := by rw [k47, f6]; exact z1
    have z5' : ¬ am_upd σ5 47 3 0 47 6 = 0 := by rw [f3_47 6 (by decide)]; exact z5
    have F51 : Fr [28, 45, 47] [] σ1 σ5 := (CX1.1.mono rfl rfl).tr (v2.mono rfl rfl)
    refine ⟨am_upd σ5 47 3 0, τ1, run _ (c_cI_f X z5), mhead τ1 ?_, SI.bad (a3.1.stay z1 ?_ ?_ ?_ ?_ ?_) z5', (F5.mono rfl rfl).tr (f3_fr.mono rfl rfl), MG.sm fm1, fun q => absurd q z5'⟩
    · rw [a2, bsome, if_pos (ne0_of (a5 z1)), bq_92_238]
    · rw [f3_47 6 (by decide), k47]; exact f6
    · rw [f3_47 7 (by decide), k47]; exact f7
    · rw [f3_fr.get 4 (by decide) rfl, F51.get 4 (by decide) rfl]
    · rw [f3_fr.get 5 (by decide) rfl, F51.get 5 (by decide) rfl]
    · rw [f3_fr.get 6 (by decide) rfl, F51.get 6 (by decide) rfl]
end PU
