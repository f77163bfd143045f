/-! READ: a going, a debt -/
section PG
variable {X N : Nat} {σ τ σ' τ' : am_Sg} {t sd : Nat}
theorem clt_of {c M : Nat} {x y : Int} (h : x = (c : Int)) (hy : y = (M : Int)) (h' : x < y) : c < M := by omega
theorem sr_of (h : sd ≤ 1) : (0 : Int) ≤ (sd : Int) ∧ (sd : Int) < 2 := by omega
theorem lt8_of {r : Int} {c : Nat} (h : r < (c : Int)) (h' : c ≤ 8) : r < 8 := by omega
theorem ne0_of {x : Int} (h : 0 < x) : ¬ x = 0 := by omega
theorem c_addGoing (X : Nat) {c : Nat} {a b : Int} (hc : c < 20) (h : σ 28 3 = (c : Int)) : vcV X 240 [vP 27, vI a, vI b] σ = some (am_upd (am_upd (am_upd σ 28 3 ((c + 1 : Nat) : Int)) 43 c a) 44 c b) := by
  refine vV_of ((bq_240_0 X _ _ σ).trans ?_) rfl
  rw [h, if_neg (by omega), if_pos (by omega), w32_s1 (by omega), tn_nat, bq_240_30, if_pos (by omega), tn_nat, bq_240_37]
theorem netS_ag {l n : Nat} {m : Int} (h : ∀ i, i < n → τ' 119 (20 * l + i) = τ 119 (20 * l + i) ∧ τ' 120 (20 * l + i) = τ 120 (20 * l + i) ∧ τ' 121 (20 * l + i) = τ 121 (20 * l + i)) : netS τ' l m n = netS τ l m n := by
  induction n with
  | zero => rfl
  | succ n ih =>
    unfold netS
    rw [ih (fun i hi => h i (by omega)), (h n (by omega)).1, (h n (by omega)).2.1, (h n (by omega)).2.2]
theorem l_same (X : Nat) {β γ : Type} {a b a' b' : Int} {s : Int} (P : am_Sg → Option β) (Q : am_Sg → Option γ) (h : PS N σ τ) (htl : σ 47 6 = 0 → 0 < τ 80 11 ∧ σ 47 10 = τ 84 (τ 80 11 - 1).toNat ∧ τ 80 11 = s + 1) (hok : ok0 σ → (0 ≤ a ∧ a' = a) ∧ b' = b) : ∃ σ' τ', (if ¬ (σ 47 6) = 0 then P σ else if a < 0 then P σ else if ¬ b = a then P σ else (vcV X 241 [vP 47, vI 5] σ).bind P) = P σ' ∧ (if ¬ (τ 80 13) = 0 then Q τ else if a' < 0 then Q τ else if ¬ a' = b' then Q τ else (vcV X 257 [vP 80, vI 5, vI s] τ).bind Q) = Q τ' ∧ Nx N σ τ σ' τ' ∧ (ok0 σ' → ¬ a = b) := by
  rcases h.cases with ⟨q, f⟩ | ⟨q, t, f⟩
  · refine ⟨σ, τ, by rw [if_pos q], by rw [if_pos (by have := f.1; omega)], Nx.rf h, fun z => absurd z.1 q⟩
  · obtain ⟨p1, p2, p3⟩ := htl q
    have h13 := f.2.1.2
    have t11 := f.2.2.1.2
    have t4 := PS.t400 h.1 f
    have tN := f.1
    obtain ⟨u, hu⟩ : ∃ u : Nat, t = u + 1 := ⟨t - 1, by omega⟩
    subst hu
    have es : s = (u : Int) := by omega
    have eu : (τ 80 11 - 1).toNat = u := by omega
    rw [eu] at p2
    subst es
    by_cases y : σ 47 8 = 0
    · obtain ⟨⟨o1, o2⟩, o3⟩ := hok ⟨q, y⟩
      subst o2 o3
      have y' : τ 80 15 = 0 := f.2.2.2.2.1.symm.trans y
      by_cases e : b' = a'
      · have fc : Fr [47] [] σ (nt σ 5) := nt_fr
        have fm' : Fr [] [11, 13, 14, 15, 16] τ (nm τ u 5) := nm_fr
        have nf : NF N (nt σ 5) (nm τ u 5) (u + 1) := by
          refine ⟨tN, f.2.1, f.2.2.1, f.2.2.2.1, rfl, ?_, fun _ => ⟨?_, u, by omega, rfl⟩⟩
          · show (0 : Int) ≤ 5 ∧ (5 : Int) ≤ 5 ∧ σ 47 7 = -1
            exact ⟨by decide, by decide, f.2.2.2.2.2.1.2.2⟩
          · show σ 47 10 = τ 84 u
            exact p2
        refine ⟨nt σ 5, nm τ u 5, ?_, ?_, ⟨⟨h.1.fr fc fm' rfl rfl, Or.inr ⟨_, nf⟩⟩, ⟨fc, fm'⟩, fun z => absurd q z, fun z => ?_, rfl, fun _ => Int.le_refl _⟩, fun z => ?_⟩
        · rw [if_neg (fun z => z q), if_neg (by omega), if_neg (fun z => z e), cn_0 y, bsome]
        · rw [if_neg (fun z => z h13), if_neg (by omega), if_neg (fun z => z e.symm), mw_0 h13 y' (by omega), bsome]
        · have : (5 : Int) = 0 := z.2
          omega
        · have : (5 : Int) = 0 := z.2
          omega
      · refine ⟨σ, τ, ?_, ?_, Nx.rf h, fun _ z => e z.symm⟩
        · rw [if_neg (fun z => z q), if_neg (by omega), if_pos e]
        · rw [if_neg (fun z => z h13), if_neg (by omega), if_pos (fun z => e z.symm)]
    · have y' : ¬ τ 80 15 = 0 := by rw [← f.2.2.2.2.1]; exact y
      refine ⟨σ, τ, ?_, ?_, Nx.rf h, fun z => absurd z.2 y⟩
      · rw [if_neg (fun z => z q)]
        by_cases w : a < 0
        · rw [if_pos w]
        · rw [if_neg w]
          by_cases w' : b = a
          · rw [if_neg (fun z => z w'), cn_1 y, bsome]
          · rw [if_pos w']
      · rw [if_neg (fun z => z h13)]
        by_cases w : a' < 0
        · rw [if_pos w]
        · rw [if_neg w]
          by_cases w' : a' = b'
          · have mw : vcV X 257 [vP 80, vI 5, vI (u : Int)] τ = some τ := by
              obtain ⟨-, j, j1, j2⟩ := f.2.2.2.2.2.2 y'
              by_cases ju : j = u
              · subst ju
                exact mw_eq h13 y' (by omega) j2 f.2.2.2.2.2.1.2.1
              · have m := h.1.2.2.2.1 j u (by omega) (by omega)
                rw [(h.1.2.1 j (by omega)).1, (h.1.2.1 u (by omega)).1] at m
                exact mw_lt h13 y' (by omega) (by rw [j2]; exact m)
            rw [if_neg (fun z => z w'), mw, bsome]
          · rw [if_pos w']
theorem c_addDebt (X : Nat) {c a b : Nat} {r : Int} (ha : a < 8) (hb : b < 8) (hab : ¬ a = b) (hc : c < 20) (h : σ 28 4 = (c : Int)) : vcV X 242 [vP 27, vI (a : Int), vI (b : Int), vI r] σ = some (am_upd (am_upd (am_upd σ 28 4 ((c + 1 : Nat) : Int)) 40 a (w32 (σ 40 a - r))) 40 b (w32 (σ 40 b + r))) := by
  have e : ∀ x y : Int, am_upd (am_upd σ 28 4 x) 40 a y 40 b = σ 40 b := fun x y => by rw [ue, upa, if_neg (fun z => hab z.symm), un _ (show ¬ (40 : Nat) = 28 by decide)]
  refine vV_of ((bq_242_0 X _ _ _ σ).trans ?_) rfl
  rw [if_neg (by omega), if_neg (by omega), if_pos (by omega), h, w32_s1 (by omega), tn_nat, bq_242_28, if_pos (by omega), tn_nat, e, bq_242_38]
/-- whatever the two are: it ends, and counts -/
theorem c_addDebt' (X : Nat) {c : Nat} {a b r : Int} (ha : a < 8) (hb : b < 8) (hc : c < 20) (h : σ 28 4 = (c : Int)) : ∃ σ', vcV X 242 [vP 27, vI a, vI b, vI r] σ = some σ' ∧ Fr [28, 40] [] σ σ' ∧ σ' 28 = up (σ 28) 4 ((c + 1 : Nat) : Int) := by
  have f1 : Fr [28, 40] [] σ (am_upd σ 28 4 ((c + 1 : Nat) : Int)) := Fr.rf.upd rfl (by decide)
  by_cases z : a < 0
  · refine ⟨am_upd σ 28 4 ((c + 1 : Nat) : Int), vV_of ((bq_242_0 X _ _ _ σ).trans ?_) rfl, f1, by rw [ue]⟩
    rw [if_pos z, h, w32_s1 (by omega), bq_242_38]
  · by_cases y : b < 0
    · refine ⟨am_upd σ 28 4 ((c + 1 : Nat) : Int), vV_of ((bq_242_0 X _ _ _ σ).trans ?_) rfl, f1, by rw [ue]⟩
      rw [if_neg z, if_pos y, h, w32_s1 (by omega), bq_242_38]
    · refine ⟨am_upd (am_upd (am_upd σ 28 4 ((c + 1 : Nat) : Int)) 40 a.toNat (w32 (σ 40 a.toNat - r))) 40 b.toNat (w32 ((am_upd (am_upd σ 28 4 ((c + 1 : Nat) : Int)) 40 a.toNat (w32 (σ 40 a.toNat - r))) 40 b.toNat + r)), vV_of ((bq_242_0 X _ _ _ σ).trans ?_) rfl, (f1.upd rfl (by decide)).upd rfl (by decide), ?_⟩
      · rw [if_neg z, if_neg y, if_pos ⟨by omega, ha⟩, h, w32_s1 (by omega), bq_242_28, if_pos ⟨by omega, hb⟩, bq_242_38]
      · rw [un _ (show ¬ (28 : Nat) = 40 by decide), un _ (show ¬ (28 : Nat) = 40 by decide), ue]
theorem de_add {a b : Nat} {r : Int} (hab : ¬ a = b) (h : DeR σ τ sd) (hc : cn σ' 4 = if 4 = 4 then cn σ 4 + 1 else cn σ 4) (k40 : σ' 40 = up (up (σ 40) a (w32 (σ 40 a - r))) b (w32 (σ 40 b + r))) (z119 : τ' 119 = up (τ 119) (20 * sd + cn σ 4) (a : Int)) (z120 : τ' 120 = up (τ 120) (20 * sd + cn σ 4) (b : Int)) (z121 : τ' 121 = up (τ 121) (20 * sd + cn σ 4) r) : DeR σ' τ' sd := by
  intro m hm
  rw [hc, if_pos rfl, k40]
  unfold netS
  rw [netS_ag (τ := τ) (τ' := τ') (fun i hi => by rw [z119, z120, z121, upa, upa, upa, if_neg (by omega), if_neg (by omega), if_neg (by omega)]; exact ⟨rfl, rfl, rfl⟩), ← h m hm, z119, z120, z121, upe, upe, upe]
  dsimp only
  by_cases e : m = b
  · subst e
    rw [upe, if_pos rfl, if_neg (by omega)]
  · rw [upa, if_neg e, if_neg (show ¬ (b : Int) = (m : Int) by omega)]
    by_cases e' : m = a
    · subst e'
      rw [upe, if_pos rfl]
    · rw [upa, if_neg e', if_neg (by omega)]
theorem s_goes (X : Nat) (h : SI N sd σ τ) (hW : σ 1001 = am_s0 (fun _ => 0) 1001) (h6 : σ 47 6 = 0) (hk : σ 47 5 = 259) : Sx X N sd 179 σ τ := by
  obtain ⟨hP, hI⟩ := h
  obtain ⟨hC, hT⟩ := hI h6
  obtain ⟨t, f⟩ := hP.nf h6
  have t4 := PS.t400 hP.1 f
  have tN := f.1
  have e4 : σ 4 t = 259 := f.2.2.2.1.symm.trans hk
  have e83 : τ 83 t = 27 := (kr_goes _ _ (hP.1.2.1 t f.1).2.1).mp e4
  have n18 := hC.n18
  obtain ⟨sd0, sd1⟩ := hC.1
  have c0 : σ 28 3 = (cn σ 3 : Int) ∧ cn σ 3 ≤ 20 := hC.2.1.2.1
  have m0 := c0.2
  obtain ⟨σ1, τ1, a1, a2, a3, a4, a5⟩ := l_first X (w := 3) (M := 20) (by omega) (by rw [hW]; rfl) hP f (by omega) (by omega) (by rw [c0.1]; omega)
  have fc1 := a3.2.1.1
  have fm1 := a3.2.1.2
  have g28 : σ1 28 = σ 28 := fc1.get 28 (by decide) rfl
  have g29 : σ1 29 = σ 29 := fc1.get 29 (by decide) rfl
  obtain ⟨n1, n2, n3, n4⟩ := hC.nm (σ' := σ1) (τ' := τ1) g28 g29 (fm1.get 88 (by decide) rfl) (fm1.get 89 (by decide) rfl) (fm1.get 90 (by decide) rfl) (fm1.fld 20 rfl)
  have un1 : ok0 σ1 → UN σ1 1 := fun z => ((hT (a3.cx.2.2.1 z).2).1 1 (by omega)).ag g28 g29
  obtain ⟨r0, s0, σ2, τ2, b1, b2, b3, b4, b5, b6⟩ := l_told1 X a3.1 n18 n1 (n2 1 (by omega)) (n3 1 (by omega)) un1
  obtain ⟨r1, s1, σ3, τ3, d1a, d1b, d1c, d1d, d1e, d1f⟩ := l_num X (τ := am_upd τ2 116 (20 * sd + cn σ 3) s0) (a := 0) (b := 23) (a' := 0) (b' := 23) (b3.1.updm (by decide) (by omega)) (by omega) (by omega) (fun _ => ⟨rfl, rfl⟩)
  obtain ⟨b, σ8, τ8, t1, t2, t3, t5⟩ := l_take X (τ := am_upd τ3 117 (20 * sd + cn σ 3) s1) (d1c.1.updm (by decide) (by omega)) kr_semi (by decide) (by decide)
  have CX1 : Cx σ1 σ8 := b3.cx.tr (d1c.cx.tr t3.cx)
  have CX : Cx σ σ8 := a3.cx.tr CX1
  have FC : Fr [47] [] σ σ8 := CX.1
  have run : ∀ σ9, ((b = 0 ∧ σ9 = σ8) ∨ (b = 1 ∧ vcV X 240 [vP 27, vI r0, vI r1] σ8 = some σ9)) → vcV X 179 [vP 47] σ = some σ9 := fun σ9 e => by
    have a1' : vcV X 230 [vP 47, vI 3] σ = some σ1 := a1
    refine vV_of ((bq_179_0 X σ).trans ?_) rfl
    rw [a1', bsome, b1, bsome]
    dsimp +instances only
    rw [d1a, bsome]
    dsimp +instances only
    rw [t1, bsome]
    dsimp +instances only
    rcases e with ⟨e, e'⟩ | ⟨e, e'⟩
    · rw [if_pos e, bq_179_36, e']
    · rw [if_neg (by omega), e', bsome, bq_179_36]
  have mhead : ∀ q, (vcV X 190 [vP 80, vI (σ 28 3), vI 20] τ).bind (fun q15 => if ¬ (q15 80 13) = 0 then vv X 92 238 [none] [] q15 else (vcV X 195 [vP 80] q15).bind fun q16 => vv X 92 238 [none] [] q16) = some (none, q) → vcV X 92 [vP 80] τ = some q := fun q e => by
    refine vV_of ((bq_92_0 X τ).trans ?_) rfl
    rw [f.2.2.1.2, if_pos (by omega), tn_nat, e83, if_neg (by decide), if_neg (by decide), if_neg (by decide), if_neg (by decide), if_neg (by decide), if_neg (by decide), if_neg (by decide), if_pos rfl, sd0, if_pos (by omega), tn_nat, hC.2.2.1.2.2.2.1]
    exact e
  by_cases z1 : σ1 47 6 = 0
  · obtain ⟨lt4, z13, tlt⟩ := a4 z1
    have clt : cn σ 3 < 20 := by rw [c0.1] at lt4; omega
    have kx : w32 (w32 (20 * (sd : Int)) + (cn σ 3 : Int)) = ((20 * sd + cn σ 3 : Nat) : Int) := kxw sd1 (show cn σ 3 < 100 by omega) (show 20 ≤ 100 by decide)
    have sr : (0 : Int) ≤ (sd : Int) ∧ (sd : Int) < 2 := ⟨by omega, by omega⟩
    have kr0 : (0 : Int) ≤ ((20 * sd + cn σ 3 : Nat) : Int) ∧ ((20 * sd + cn σ 3 : Nat) : Int) < 40 := kxr sd1 clt
    have s19 : τ1 80 19 = (sd : Int) := (fm1.fld 19 rfl).trans sd0
    have s91 : τ1 115 sd = (cn σ 3 : Int) := by rw [fm1.get 115 (by decide) rfl, hC.2.2.1.2.2.2.1]; exact c0.1
    have FM1 : Fr [116, 117] [11, 13, 14, 15, 16] τ τ1 := a3.2.1.2.mono rfl rfl
    have FM2 : Fr [116, 117] [11, 13, 14, 15, 16] τ τ2 := FM1.tr (b3.2.1.2.mono rfl rfl)
    have FN2 : Fr [116, 117] [11, 13, 14, 15, 16] τ (am_upd τ2 116 (20 * sd + cn σ 3) s0) := FM2.upd rfl (by decide)
    have FM3 : Fr [116, 117] [11, 13, 14, 15, 16] τ τ3 := FN2.tr (d1c.2.1.2.mono rfl rfl)
    have FN3 : Fr [116, 117] [11, 13, 14, 15, 16] τ (am_upd τ3 117 (20 * sd + cn σ 3) s1) := FM3.upd rfl (by decide)
    have FM : Fr [116, 117] [11, 13, 14, 15, 16] τ τ8 := FN3.tr (t3.2.1.2.mono rfl rfl)
    have MG1 : MG sd τ τ1 := MG.sm a3.2.1.2
    have MG2 : MG sd τ τ2 := MG1.tr (MG.sm b3.2.1.2)
    have MN2 : MG sd τ (am_upd τ2 116 (20 * sd + cn σ 3) s0) := MG2.upd rfl (Or.inr (Or.inr (wrg (by decide) clt)))
    have MG3 : MG sd τ τ3 := MN2.tr (MG.sm d1c.2.1.2)
    have MN3 : MG sd τ (am_upd τ3 117 (20 * sd + cn σ 3) s1) := MG3.upd rfl (Or.inr (Or.inr (wrg (by decide) clt)))
    have MGs : MG sd τ τ8 := MN3.tr (MG.sm t3.2.1.2)
    have e19 : τ8 80 19 = (sd : Int) := (FM.fld 19 rfl).trans sd0
    have e91 : τ8 115 sd = (cn σ 3 : Int) := by rw [FM.get 115 (by decide) rfl, hC.2.2.1.2.2.2.1]; exact c0.1
    have m195 : ∀ q, ((¬ τ8 80 13 = 0 ∧ q = τ8) ∨ (τ8 80 13 = 0 ∧ q = am_upd τ8 115 sd ((cn σ 3 + 1 : Nat) : Int))) → vcV X 195 [vP 80] τ1 = some q := fun q e => by
      refine vV_of ((bq_195_0 X τ1).trans ?_) rfl
      rw [s19, if_pos sr, b2, bsome]
      dsimp +instances only
      rw [tn_nat, s91, kx, if_pos kr0, tn_nat, d1b, bsome]
      dsimp +instances only
      rw [t2, bsome]
      rcases e with ⟨e, e'⟩ | ⟨e, e'⟩
      · rw [if_pos e, bq_195_67, e']
      · rw [if_neg (fun q => q e), e19, if_pos sr, tn_nat, e91, w32_s1 (Nat.lt_of_le_of_lt clt (by decide)), bq_195_67, e']
    rcases t5 with ⟨u1, u2⟩ | ⟨u1, t9, f9, tl9, -, -, -, f10⟩
    · have fs := t3.1.fs u2
      have n13 : ¬ τ8 80 13 = 0 := fun q => by have := fs.1; omega
      refine ⟨σ8, τ8, run _ (Or.inl ⟨u1, rfl⟩), mhead _ ?_, SI.bad t3.1 u2, FC.mono rfl rfl, MGs, fun q => absurd q u2⟩
      rw [a2, bsome, if_neg (fun q => q z13), m195 τ8 (Or.inl ⟨n13, rfl⟩), bsome, bq_92_238]
    · have q8 : σ8 47 6 = 0 := f10.2.1.1
      have h28 : σ8 28 = σ 28 := FC.get 28 (by decide) rfl
      have c8 : σ8 28 3 = (cn σ 3 : Int) := by rw [h28]; exact c0.1
      generalize hσ9 : am_upd (am_upd (am_upd σ8 28 3 ((cn σ 3 + 1 : Nat) : Int)) 43 (cn σ 3) r0) 44 (cn σ 3) r1 = σ9
      generalize hτ9 : am_upd τ8 115 sd ((cn σ 3 + 1 : Nat) : Int) = τ9
      have F9 : Fr [28, 43, 44] [] σ8 σ9 := by rw [← hσ9]; exact (((Fr.rf.upd rfl (by decide)).upd rfl (by decide)).upd rfl (by decide))
      have G9 : Fr [115] [] τ8 τ9 := by rw [← hτ9]; exact Fr.rf.upd rfl (by decide)
      have M9 : MG sd τ τ9 := by rw [← hτ9]; exact MGs.upd rfl (Or.inr (Or.inr (wrg1 (by decide))))
      have k28 : σ9 28 = up (σ 28) 3 ((cn σ 3 + 1 : Nat) : Int) := by rw [← hσ9, un _ (show ¬ (28 : Nat) = 44 by decide), un _ (show ¬ (28 : Nat) = 43 by decide), ue, FC.get 28 (by decide) rfl]
      have k43 : σ9 43 = up (σ 43) (cn σ 3) r0 := by rw [← hσ9, un _ (show ¬ (43 : Nat) = 44 by decide), ue, un _ (show ¬ (43 : Nat) = 28 by decide), FC.get 43 (by decide) rfl]
      have k44 : σ9 44 = up (σ 44) (cn σ 3) r1 := by rw [← hσ9, ue, un _ (show ¬ (44 : Nat) = 43 by decide), un _ (show ¬ (44 : Nat) = 28 by decide), FC.get 44 (by decide) rfl]
      have k115 : τ9 115 = up (τ 115) sd ((cn σ 3 + 1 : Nat) : Int) := by rw [← hτ9, ue, FM.get 115 (by decide) rfl]
      have kf : ∀ j, [11, 13, 14, 15, 16].contains j = false → τ9 80 j = τ 80 j := fun j hj => by rw [G9.fld j rfl, FM.fld j hj]
      have k47 : σ9 47 = σ8 47 := F9.get 47 (by decide) rfl
      have cs : cnS 3 σ σ9 := cnS_of k28
      have ci : CI σ9 τ9 sd := by
        refine hC.cnt (s0 := 3) (M := 20) ⟨by omega, by omega⟩ (by decide) clt k28 (by rw [F9.get 29 (by decide) rfl, FC.get 29 (by decide) rfl]) (by rw [G9.get 88 (by decide) rfl, FM.get 88 (by decide) rfl]) (by rw [G9.get 89 (by decide) rfl, FM.get 89 (by decide) rfl]) (by rw [G9.get 90 (by decide) rfl, FM.get 90 (by decide) rfl]) ⟨?_, ?_, ?_, ?_, ?_, ?_⟩ (kf 20 rfl) (kf 19 rfl) ((kf 12 rfl).trans hC.2.2.2.2.1) ?_
        · rw [G9.get 91 (by decide) rfl, FM.get 91 (by decide) rfl, k28, upa, if_neg (by decide)]; exact hC.2.2.1.1
        · rw [G9.get 95 (by decide) rfl, FM.get 95 (by decide) rfl, k28, upa, if_neg (by decide)]; exact hC.2.2.1.2.1
        · rw [G9.get 112 (by decide) rfl, FM.get 112 (by decide) rfl, k28, upa, if_neg (by decide)]; exact hC.2.2.1.2.2.1
        · rw [k115, k28, upe, upe]
        · rw [G9.get 118 (by decide) rfl, FM.get 118 (by decide) rfl, k28, upa, if_neg (by decide)]; exact hC.2.2.1.2.2.2.2.1
        · rw [G9.get 104 (by decide) rfl, FM.get 104 (by decide) rfl, k28, upa, if_neg (by decide)]; exact hC.2.2.1.2.2.2.2.2
        · obtain ⟨c, e, b, c1, c2, c3, c4, c5, c6⟩ := hC.2.2.2.2.2
          have q47 := CX.2.2.2 q8
          refine ⟨c, e, b, by rw [F9.get 27 (by decide) rfl, FC.get 27 (by decide) rfl]; exact c1, by rw [k47]; exact Int.le_trans c2 q47, (kf 56 rfl).trans c3, by rw [k47]; exact Int.le_trans c4 q47, (kf 40 rfl).trans c5, ?_⟩
          rw [cs 5, if_neg (by decide), F9.get 27 (by decide) rfl, FC.get 27 (by decide) rfl]; exact c6
      have ps : PS N σ9 τ9 := t3.1.ag (F9.get 4 (by decide) rfl) (F9.get 5 (by decide) rfl) (F9.get 6 (by decide) rfl) (fun j _ => by rw [k47]) (G9.get 83 (by decide) rfl) (G9.get 84 (by decide) rfl) (G9.get 85 (by decide) rfl) (G9.get 86 (by decide) rfl) (fun j _ => G9.fld j rfl)
      refine ⟨σ9, τ9, run σ9 (Or.inr ⟨u1, ?_⟩), mhead _ ?_, ⟨ps, fun _ => ⟨ci, fun y => ?_⟩⟩, (FC.mono rfl rfl).tr (F9.mono rfl rfl), M9, fun _ => ?_⟩
      · rw [← hσ9]; exact c_addGoing X clt c8
      · rw [a2, bsome, if_neg (fun q => q z13), m195 τ9 (Or.inr ⟨f10.2.1.2, hτ9.symm⟩), bsome, bq_92_238]
      · have y8 : ok0 σ8 := ⟨q8, by rw [← k47]; exact y⟩
        have y3 : ok0 σ3 := t3.cx.2.2.1 y8
        have y2 : ok0 σ2 := d1c.cx.2.2.1 y3
        have y0 : ok0 σ := CX.2.2.1 y8
        obtain ⟨T1, T2, T3, T4, T5, T6, T7⟩ := hT y0.2
        have w1 : s1 = r1 := d1f y3
        obtain ⟨p0, w0⟩ := b5 y2
        refine ⟨fun s hs => ?_, ?_, ?_, ?_, ?_, ?_, ?_⟩
        · unfold UN
          rw [cs s, if_neg (by omega), F9.get 29 (by decide) rfl, FC.get 29 (by decide) rfl]
          exact T1 s hs
        · exact T2.ag (by rw [cs 0, if_neg (by decide)]) (by rw [F9.get 30 (by decide) rfl, FC.get 30 (by decide) rfl]) (by rw [F9.get 31 (by decide) rfl, FC.get 31 (by decide) rfl]) (by rw [F9.get 32 (by decide) rfl, FC.get 32 (by decide) rfl]) (by rw [G9.get 92 (by decide) rfl, FM.get 92 (by decide) rfl]) (by rw [G9.get 93 (by decide) rfl, FM.get 93 (by decide) rfl]) (by rw [G9.get 94 (by decide) rfl, FM.get 94 (by decide) rfl])
        · rw [cs 1, if_neg (by decide)]
          exact T3.ag (fun k k1 k2 => by rw [F9.get k (by omega) (by rcases (show k = 33 ∨ k = 34 ∨ k = 35 ∨ k = 36 ∨ k = 37 ∨ k = 38 ∨ k = 39 by omega) with e | e | e | e | e | e | e <;> subst e <;> rfl), FC.get k (by omega) (by rcases (show k = 33 ∨ k = 34 ∨ k = 35 ∨ k = 36 ∨ k = 37 ∨ k = 38 ∨ k = 39 by omega) with e | e | e | e | e | e | e <;> subst e <;> rfl)]) (fun k k1 k2 => by rw [G9.get k (by omega) (by rcases (show k = 96 ∨ k = 97 ∨ k = 98 ∨ k = 99 ∨ k = 100 ∨ k = 101 ∨ k = 102 ∨ k = 103 by omega) with e | e | e | e | e | e | e | e <;> subst e <;> rfl), FM.get k (by omega) (by rcases (show k = 96 ∨ k = 97 ∨ k = 98 ∨ k = 99 ∨ k = 100 ∨ k = 101 ∨ k = 102 ∨ k = 103 by omega) with e | e | e | e | e | e | e | e <;> subst e <;> rfl)])
        · exact T4.ag (by rw [cs 2, if_neg (by decide)]) (by rw [F9.get 41 (by decide) rfl, FC.get 41 (by decide) rfl]) (by rw [F9.get 42 (by decide) rfl, FC.get 42 (by decide) rfl]) (by rw [G9.get 113 (by decide) rfl, FM.get 113 (by decide) rfl]) (by rw [G9.get 114 (by decide) rfl, FM.get 114 (by decide) rfl])
        · intro d hd
          rw [cs 3, if_pos rfl] at hd
          have z116 : τ9 116 = up (τ 116) (20 * sd + cn σ 3) s0 := by rw [G9.get 116 (by decide) rfl, t3.2.1.2.get 116 (by decide) rfl, un _ (show ¬ (116 : Nat) = 117 by decide), d1c.2.1.2.get 116 (by decide) rfl, ue, b3.2.1.2.get 116 (by decide) rfl, fm1.get 116 (by decide) rfl]
          have z117 : τ9 117 = up (τ 117) (20 * sd + cn σ 3) s1 := by rw [G9.get 117 (by decide) rfl, t3.2.1.2.get 117 (by decide) rfl, ue, d1c.2.1.2.get 117 (by decide) rfl, un _ (show ¬ (117 : Nat) = 116 by decide), b3.2.1.2.get 117 (by decide) rfl, fm1.get 117 (by decide) rfl]
          have ecn : cn σ1 1 = cn σ 1 := cn_ag g28 1
          rw [z116, z117, k43, k44, cs 1, if_neg (by decide)]
          by_cases e : d = cn σ 3
          · subst e
            rw [upe, upe, upe, upe]
            refine ⟨⟨w0, w1⟩, p0, ?_, d1d.1, d1d.2⟩
            rw [← ecn]
            exact b4.1.2
          · rw [upa, upa, upa, upa, if_neg (fun q => e (Nat.add_left_cancel q)), if_neg (fun q => e (Nat.add_left_cancel q)), if_neg e, if_neg e]
            exact T5 d (Nat.lt_of_le_of_ne (Nat.le_of_lt_succ hd) e)
        · exact T6.ag (by rw [cs 4, if_neg (by decide)]) (by rw [F9.get 40 (by decide) rfl, FC.get 40 (by decide) rfl]) (by rw [G9.get 119 (by decide) rfl, FM.get 119 (by decide) rfl]) (by rw [G9.get 120 (by decide) rfl, FM.get 120 (by decide) rfl]) (by rw [G9.get 121 (by decide) rfl, FM.get 121 (by decide) rfl])
        · exact T7.ag (by rw [F9.get 27 (by decide) rfl, FC.get 27 (by decide) rfl]) (by rw [F9.get 45 (by decide) rfl, FC.get 45 (by decide) rfl]) (by rw [F9.get 46 (by decide) rfl, FC.get 46 (by decide) rfl]) (fun k k1 k2 => by rw [G9.get k (by omega) (by rcases (show k = 105 ∨ k = 106 ∨ k = 107 ∨ k = 108 ∨ k = 109 ∨ k = 110 ∨ k = 111 by omega) with e | e | e | e | e | e | e <;> subst e <;> rfl), FM.get k (by omega) (by rcases (show k = 105 ∨ k = 106 ∨ k = 107 ∨ k = 108 ∨ k = 109 ∨ k = 110 ∨ k = 111 by omega) with e | e | e | e | e | e | e <;> subst e <;> rfl)]) (by rw [G9.get 122 (by decide) rfl, FM.get 122 (by decide) rfl]) (by rw [G9.get 123 (by decide) rfl, FM.get 123 (by decide) rfl]) (kf 56 rfl) (kf 40 rfl)
      · have := CX1.2.2.2 q8
        rw [k47]
        exact Int.lt_of_lt_of_le tlt this
  · have u2 : ¬ σ8 47 6 = 0 := fun q => z1 (CX1.z0 q)
    have u1 : b = 0 := by
      rcases t5 with ⟨u1, -⟩ | ⟨-, t9, f9, -⟩
      · exact u1
      · exact absurd (Cx.z0 (b3.cx.tr d1c.cx) f9.2.1.1) z1
    refine ⟨σ8, τ1, run _ (Or.inl ⟨u1, rfl⟩), mhead _ ?_, SI.bad (a3.1.stayC z1 CX1) u2, FC.mono rfl rfl, MG.sm fm1, fun q => absurd q u2⟩
    have := a5 z1
    rw [a2, bsome, if_pos (ne0_of this), bq_92_238]
theorem s_owe (X : Nat) (h : SI N sd σ τ) (hW : σ 1001 = am_s0 (fun _ => 0) 1001) (h6 : σ 47 6 = 0) (hk : σ 47 5 = 260) : Sx X N sd 180 σ τ := by
  obtain ⟨hP, hI⟩ := h
  obtain ⟨hC, hT⟩ := hI h6
  obtain ⟨t, f⟩ := hP.nf h6
  have t4 := PS.t400 hP.1 f
  have tN := f.1
  have e4 : σ 4 t = 260 := f.2.2.2.1.symm.trans hk
  have e83 : τ 83 t = 28 := (kr_owe _ _ (hP.1.2.1 t f.1).2.1).mp e4
  have n18 := hC.n18
  obtain ⟨sd0, sd1⟩ := hC.1
  have c0 : σ 28 4 = (cn σ 4 : Int) ∧ cn σ 4 ≤ 20 := hC.2.1.2.2.1
  have m0 := c0.2
  obtain ⟨σ1, τ1, a1, a2, a3, a4, a5⟩ := l_first X (w := 4) (M := 20) (by omega) (by rw [hW]; rfl) hP f (by omega) (by omega) (by rw [c0.1]; omega)
  have fc1 := a3.2.1.1
  have fm1 := a3.2.1.2
  have g28 : σ1 28 = σ 28 := fc1.get 28 (by decide) rfl
  have g29 : σ1 29 = σ 29 := fc1.get 29 (by decide) rfl
  obtain ⟨n1, n2, n3, n4⟩ := hC.nm (σ' := σ1) (τ' := τ1) g28 g29 (fm1.get 88 (by decide) rfl) (fm1.get 89 (by decide) rfl) (fm1.get 90 (by decide) rfl) (fm1.fld 20 rfl)
  have un1 : ok0 σ1 → UN σ1 1 := fun z => ((hT (a3.cx.2.2.1 z).2).1 1 (by omega)).ag g28 g29
  obtain ⟨r0, s0, σ2, τ2, b1, b2, b3, b4, b5, b6⟩ := l_told1 X a3.1 n18 n1 (n2 1 (by omega)) (n3 1 (by omega)) un1
  have h28 : σ2 28 = σ1 28 := b3.2.1.1.get 28 (by decide) rfl
  have h29 : σ2 29 = σ1 29 := b3.2.1.1.get 29 (by decide) rfl
  obtain ⟨r1, s1, σ3, τ3, d1, d2, d3, d4, d5, d6⟩ := l_told1 X b3.1 n18 ((b3.2.1.2.fld 20 rfl).trans n1) ((n2 1 (by omega)).ag h28) ((n3 1 (by omega)).ag h28 h29 (b3.2.1.2.get 88 (by decide) rfl) (b3.2.1.2.get 89 (by decide) rfl) (b3.2.1.2.get 90 (by decide) rfl)) (fun z => (un1 (b3.cx.2.2.1 z)).ag h28 h29)
  have kz : w32 (w32 (20 * (sd : Int)) + (cn σ 4 : Int)) = ((20 * sd + cn σ 4 : Nat) : Int) := kxw sd1 (show cn σ 4 < 100 by omega) (show 20 ≤ 100 by decide)
  obtain ⟨σ4, τ4, i1, i2, i3, i4⟩ := l_same X (s := τ2 80 11) (a := r0) (b := r1) (a' := s0) (b' := s1) (fun σ => vv X 180 36 [some (vP 47), some (vI r0), some (vI r1), none] [] σ) (fun τ => vv X 196 59 [some (vP 80), some (vI ((20 * sd + cn σ 4 : Nat) : Int)), some (vI s0), none, some (vI s1)] [] τ) d3.1 d6 (fun z => ⟨b5 (d3.cx.2.2.1 z), (d5 z).2⟩)
  obtain ⟨r2, s2, σ5, τ5, j1, j2, j3, j4, j5, j6⟩ := l_num X (τ := am_upd (am_upd τ4 119 (20 * sd + cn σ 4) s0) 120 (20 * sd + cn σ 4) s1) (a := 1) (b := 99) (a' := 1) (b' := 99) ((i3.1.updm (by decide) (by omega)).updm (by decide) (by omega)) (by omega) (by omega) (fun _ => ⟨rfl, rfl⟩)
  obtain ⟨b, σ8, τ8, t1, t2, t3, t5⟩ := l_take X (τ := am_upd τ5 121 (20 * sd + cn σ 4) s2) (j3.1.updm (by decide) (by omega)) kr_semi (by decide) (by decide)
  have CX1 : Cx σ1 σ8 := b3.cx.tr (d3.cx.tr (i3.cx.tr (j3.cx.tr t3.cx)))
  have CX : Cx σ σ8 := a3.cx.tr CX1
  have FC : Fr [47] [] σ σ8 := CX.1
  have run : ∀ σ9, ((b = 0 ∧ σ9 = σ8) ∨ (b = 1 ∧ vcV X 242 [vP 27, vI r0, vI r1, vI r2] σ8 = some σ9)) → vcV X 180 [vP 47] σ = some σ9 := fun σ9 e => by
    have a1' : vcV X 230 [vP 47, vI 4] σ = some σ1 := a1
    refine vV_of ((bq_180_0 X σ).trans ?_) rfl
    rw [a1', bsome, b1, bsome]
    dsimp +instances only
    rw [d1, bsome]
    dsimp +instances only
    refine i1.trans ?_
    rw [bq_180_36, j1, bsome]
    dsimp +instances only
    rw [t1, bsome]
    dsimp +instances only
    rcases e with ⟨e, e'⟩ | ⟨e, e'⟩
    · rw [if_pos e, bq_180_63, e']
    · rw [if_neg (by rw [e]; decide), e', bsome, bq_180_63]
  have mhead : ∀ q, (vcV X 190 [vP 80, vI (σ 28 4), vI 20] τ).bind (fun q15 => if ¬ (q15 80 13) = 0 then vv X 92 238 [none] [] q15 else (vcV X 196 [vP 80] q15).bind fun q16 => vv X 92 238 [none] [] q16) = some (none, q) → vcV X 92 [vP 80] τ = some q := fun q e => by
    refine vV_of ((bq_92_0 X τ).trans ?_) rfl
    rw [f.2.2.1.2, if_pos (by omega), tn_nat, e83, if_neg (by decide), if_neg (by decide), if_neg (by decide), if_neg (by decide), if_neg (by decide), if_neg (by decide), if_neg (by decide), if_neg (by decide), if_pos rfl, sd0, if_pos (by omega), tn_nat, hC.2.2.1.2.2.2.2.1]
    exact e
  by_cases z1 : σ1 47 6 = 0
  · obtain ⟨lt4, z13, tlt⟩ := a4 z1
    have clt : cn σ 4 < 20 := clt_of c0.1 rfl lt4
    have sr : (0 : Int) ≤ (sd : Int) ∧ (sd : Int) < 2 := sr_of sd1
    have kr0 : (0 : Int) ≤ ((20 * sd + cn σ 4 : Nat) : Int) ∧ ((20 * sd + cn σ 4 : Nat) : Int) < 40 := kxr sd1 clt
    have s19 : τ1 80 19 = (sd : Int) := (fm1.fld 19 rfl).trans sd0
    have s91 : τ1 118 sd = (cn σ 4 : Int) := by rw [fm1.get 118 (by decide) rfl, hC.2.2.1.2.2.2.2.1]; exact c0.1
    have FM1 : Fr [119, 120, 121] [11, 13, 14, 15, 16] τ τ1 := a3.2.1.2.mono rfl rfl
    have FM2 : Fr [119, 120, 121] [11, 13, 14, 15, 16] τ τ2 := FM1.tr (b3.2.1.2.mono rfl rfl)
    have FM3 : Fr [119, 120, 121] [11, 13, 14, 15, 16] τ τ3 := FM2.tr (d3.2.1.2.mono rfl rfl)
    have FM4 : Fr [119, 120, 121] [11, 13, 14, 15, 16] τ τ4 := FM3.tr (i3.2.1.2.mono rfl rfl)
    have FN4 : Fr [119, 120, 121] [11, 13, 14, 15, 16] τ (am_upd τ4 119 (20 * sd + cn σ 4) s0) := FM4.upd rfl (by decide)
    have FO4 : Fr [119, 120, 121] [11, 13, 14, 15, 16] τ (am_upd (am_upd τ4 119 (20 * sd + cn σ 4) s0) 120 (20 * sd + cn σ 4) s1) := FN4.upd rfl (by decide)
    have FM5 : Fr [119, 120, 121] [11, 13, 14, 15, 16] τ τ5 := FO4.tr (j3.2.1.2.mono rfl rfl)
    have FN5 : Fr [119, 120, 121] [11, 13, 14, 15, 16] τ (am_upd τ5 121 (20 * sd + cn σ 4) s2) := FM5.upd rfl (by decide)
    have FM : Fr [119, 120, 121] [11, 13, 14, 15, 16] τ τ8 := FN5.tr (t3.2.1.2.mono rfl rfl)
    have MG1 : MG sd τ τ1 := MG.sm a3.2.1.2
    have MG2 : MG sd τ τ2 := MG1.tr (MG.sm b3.2.1.2)
    have MG3 : MG sd τ τ3 := MG2.tr (MG.sm d3.2.1.2)
    have MG4 : MG sd τ τ4 := MG3.tr (MG.sm i3.2.1.2)
    have MN4 : MG sd τ (am_upd τ4 119 (20 * sd + cn σ 4) s0) := MG4.upd rfl (Or.inr (Or.inr (wrg (by decide) clt)))
    have MO4 : MG sd τ (am_upd (am_upd τ4 119 (20 * sd + cn σ 4) s0) 120 (20 * sd + cn σ 4) s1) := MN4.upd rfl (Or.inr (Or.inr (wrg (by decide) clt)))
    have MG5 : MG sd τ τ5 := MO4.tr (MG.sm j3.2.1.2)
    have MN5 : MG sd τ (am_upd τ5 121 (20 * sd + cn σ 4) s2) := MG5.upd rfl (Or.inr (Or.inr (wrg (by decide) clt)))
    have MGs : MG sd τ τ8 := MN5.tr (MG.sm t3.2.1.2)
    have e19 : τ8 80 19 = (sd : Int) := (FM.fld 19 rfl).trans sd0
    have e91 : τ8 118 sd = (cn σ 4 : Int) := by rw [FM.get 118 (by decide) rfl, hC.2.2.1.2.2.2.2.1]; exact c0.1
    have m196 : ∀ q, ((¬ τ8 80 13 = 0 ∧ q = τ8) ∨ (τ8 80 13 = 0 ∧ q = am_upd τ8 118 sd ((cn σ 4 + 1 : Nat) : Int))) → vcV X 196 [vP 80] τ1 = some q := fun q e => by
      refine vV_of ((bq_196_0 X τ1).trans ?_) rfl
      rw [s19, if_pos sr, b2, bsome]
      dsimp +instances only
      rw [tn_nat, s91, kz, d2, bsome]
      dsimp +instances only
      refine i2.trans ?_
      rw [bq_196_59, if_pos kr0, tn_nat, bq_196_74, j2, bsome]
      dsimp +instances only
      rw [if_pos kr0, tn_nat, t2, bsome]
      rcases e with ⟨e, e'⟩ | ⟨e, e'⟩
      · rw [if_pos e, bq_196_112, e']
      · rw [if_neg (fun q => q e), e19, if_pos sr, tn_nat, e91, w32_s1 (Nat.lt_of_le_of_lt clt (by decide)), bq_196_112, e']
    rcases t5 with ⟨u1, u2⟩ | ⟨u1, t9, f9, tl9, -, -, -, f10⟩
    · have fs := t3.1.fs u2
      have n13 : ¬ τ8 80 13 = 0 := ne0_of fs.1
      refine ⟨σ8, τ8, run _ (Or.inl ⟨u1, rfl⟩), mhead _ ?_, SI.bad t3.1 u2, FC.mono rfl rfl, MGs, fun q => absurd q u2⟩
      rw [a2, bsome, if_neg (fun q => q z13), m196 τ8 (Or.inl ⟨n13, rfl⟩), bsome, bq_92_238]
    · have q8 : σ8 47 6 = 0 := f10.2.1.1
      have h28 : σ8 28 = σ 28 := FC.get 28 (by decide) rfl
      have c8 : σ8 28 4 = (cn σ 4 : Int) := by rw [h28]; exact c0.1
      have ec1 : cn σ1 1 = cn σ 1 := cn_ag g28 1
      have ec2 : cn σ2 1 = cn σ 1 := (cn_ag (b3.2.1.1.get 28 (by decide) rfl) 1).trans ec1
      have cb1 : cn σ 1 ≤ 8 := (hC.2.1.1 1 (by omega)).2
      have lt0 : r0 < 8 := lt8_of (by rw [← ec1]; exact b4.1.2) cb1
      have lt1 : r1 < 8 := lt8_of (by rw [← ec2]; exact d4.1.2) cb1
      obtain ⟨σ9, v1, F9, k28'⟩ := c_addDebt' X (r := r2) lt0 lt1 clt c8
      generalize hτ9 : am_upd τ8 118 sd ((cn σ 4 + 1 : Nat) : Int) = τ9
      have G9 : Fr [118] [] τ8 τ9 := by rw [← hτ9]; exact Fr.rf.upd rfl (by decide)
      have M9 : MG sd τ τ9 := by rw [← hτ9]; exact MGs.upd rfl (Or.inr (Or.inr (wrg1 (by decide))))
      have k28 : σ9 28 = up (σ 28) 4 ((cn σ 4 + 1 : Nat) : Int) := by rw [k28', h28]
      have k118 : τ9 118 = up (τ 118) sd ((cn σ 4 + 1 : Nat) : Int) := by rw [← hτ9, ue, FM.get 118 (by decide) rfl]
      have kf : ∀ j, [11, 13, 14, 15, 16].contains j = false → τ9 80 j = τ 80 j := fun j hj => by rw [G9.fld j rfl, FM.fld j hj]
      have k47 : σ9 47 = σ8 47 := F9.get 47 (by decide) rfl
      have cs : cnS 4 σ σ9 := cnS_of k28
      have ci : CI σ9 τ9 sd := by
        refine hC.cnt (s0 := 4) (M := 20) ⟨by omega, by omega⟩ (by decide) clt k28 (by rw [F9.get 29 (by decide) rfl, FC.get 29 (by decide) rfl]) (by rw [G9.get 88 (by decide) rfl, FM.get 88 (by decide) rfl]) (by rw [G9.get 89 (by decide) rfl, FM.get 89 (by decide) rfl]) (by rw [G9.get 90 (by decide) rfl, FM.get 90 (by decide) rfl]) ⟨?_, ?_, ?_, ?_, ?_, ?_⟩ (kf 20 rfl) (kf 19 rfl) ((kf 12 rfl).trans hC.2.2.2.2.1) ?_
        · rw [G9.get 91 (by decide) rfl, FM.get 91 (by decide) rfl, k28, upa, if_neg (by decide)]; exact hC.2.2.1.1
        · rw [G9.get 95 (by decide) rfl, FM.get 95 (by decide) rfl, k28, upa, if_neg (by decide)]; exact hC.2.2.1.2.1
        · rw [G9.get 112 (by decide) rfl, FM.get 112 (by decide) rfl, k28, upa, if_neg (by decide)]; exact hC.2.2.1.2.2.1
        · rw [G9.get 115 (by decide) rfl, FM.get 115 (by decide) rfl, k28, upa, if_neg (by decide)]; exact hC.2.2.1.2.2.2.1
        · rw [k118, k28, upe, upe]
        · rw [G9.get 104 (by decide) rfl, FM.get 104 (by decide) rfl, k28, upa, if_neg (by decide)]; exact hC.2.2.1.2.2.2.2.2
        · obtain ⟨c, e, b, c1, c2, c3, c4, c5, c6⟩ := hC.2.2.2.2.2
          have q47 := CX.2.2.2 q8
          refine ⟨c, e, b, by rw [F9.get 27 (by decide) rfl, FC.get 27 (by decide) rfl]; exact c1, by rw [k47]; exact Int.le_trans c2 q47, (kf 56 rfl).trans c3, by rw [k47]; exact Int.le_trans c4 q47, (kf 40 rfl).trans c5, ?_⟩
          rw [cs 5, if_neg (by decide), F9.get 27 (by decide) rfl, FC.get 27 (by decide) rfl]; exact c6
      have ps : PS N σ9 τ9 := t3.1.ag (F9.get 4 (by decide) rfl) (F9.get 5 (by decide) rfl) (F9.get 6 (by decide) rfl) (fun j _ => by rw [k47]) (G9.get 83 (by decide) rfl) (G9.get 84 (by decide) rfl) (G9.get 85 (by decide) rfl) (G9.get 86 (by decide) rfl) (fun j _ => G9.fld j rfl)
      refine ⟨σ9, τ9, run σ9 (Or.inr ⟨u1, v1⟩), mhead _ ?_, ⟨ps, fun _ => ⟨ci, fun y => ?_⟩⟩, (FC.mono rfl rfl).tr (F9.mono rfl rfl), M9, fun _ => ?_⟩
      · rw [a2, bsome, if_neg (fun q => q z13), m196 τ9 (Or.inr ⟨f10.2.1.2, hτ9.symm⟩), bsome, bq_92_238]
      · have y8 : ok0 σ8 := ⟨q8, by rw [← k47]; exact y⟩
        have y5 : ok0 σ5 := t3.cx.2.2.1 y8
        have y4 : ok0 σ4 := j3.cx.2.2.1 y5
        have y3 : ok0 σ3 := i3.cx.2.2.1 y4
        have y2 : ok0 σ2 := d3.cx.2.2.1 y3
        have y0 : ok0 σ := CX.2.2.1 y8
        obtain ⟨T1, T2, T3, T4, T5, T6, T7⟩ := hT y0.2
        obtain ⟨p0, w0⟩ := b5 y2
        obtain ⟨p1, w1⟩ := d5 y3
        have w2 := j6 y5
        have nab := i4 y4
        refine ⟨fun s hs => ?_, ?_, ?_, ?_, ?_, ?_, ?_⟩
        · unfold UN
          rw [cs s, if_neg (by omega), F9.get 29 (by decide) rfl, FC.get 29 (by decide) rfl]
          exact T1 s hs
        · exact T2.ag (by rw [cs 0, if_neg (by decide)]) (by rw [F9.get 30 (by decide) rfl, FC.get 30 (by decide) rfl]) (by rw [F9.get 31 (by decide) rfl, FC.get 31 (by decide) rfl]) (by rw [F9.get 32 (by decide) rfl, FC.get 32 (by decide) rfl]) (by rw [G9.get 92 (by decide) rfl, FM.get 92 (by decide) rfl]) (by rw [G9.get 93 (by decide) rfl, FM.get 93 (by decide) rfl]) (by rw [G9.get 94 (by decide) rfl, FM.get 94 (by decide) rfl])
        · rw [cs 1, if_neg (by decide)]
          exact T3.ag (fun k k1 k2 => by rw [F9.get k (by omega) (by rcases (show k = 33 ∨ k = 34 ∨ k = 35 ∨ k = 36 ∨ k = 37 ∨ k = 38 ∨ k = 39 by omega) with e | e | e | e | e | e | e <;> subst e <;> rfl), FC.get k (by omega) (by rcases (show k = 33 ∨ k = 34 ∨ k = 35 ∨ k = 36 ∨ k = 37 ∨ k = 38 ∨ k = 39 by omega) with e | e | e | e | e | e | e <;> subst e <;> rfl)]) (fun k k1 k2 => by rw [G9.get k (by omega) (by rcases (show k = 96 ∨ k = 97 ∨ k = 98 ∨ k = 99 ∨ k = 100 ∨ k = 101 ∨ k = 102 ∨ k = 103 by omega) with e | e | e | e | e | e | e | e <;> subst e <;> rfl), FM.get k (by omega) (by rcases (show k = 96 ∨ k = 97 ∨ k = 98 ∨ k = 99 ∨ k = 100 ∨ k = 101 ∨ k = 102 ∨ k = 103 by omega) with e | e | e | e | e | e | e | e <;> subst e <;> rfl)])
        · exact T4.ag (by rw [cs 2, if_neg (by decide)]) (by rw [F9.get 41 (by decide) rfl, FC.get 41 (by decide) rfl]) (by rw [F9.get 42 (by decide) rfl, FC.get 42 (by decide) rfl]) (by rw [G9.get 113 (by decide) rfl, FM.get 113 (by decide) rfl]) (by rw [G9.get 114 (by decide) rfl, FM.get 114 (by decide) rfl])
        · exact T5.ag (by rw [cs 3, if_neg (by decide)]) (by rw [cs 1, if_neg (by decide)]; exact Nat.le_refl _) (by rw [F9.get 43 (by decide) rfl, FC.get 43 (by decide) rfl]) (by rw [F9.get 44 (by decide) rfl, FC.get 44 (by decide) rfl]) (by rw [G9.get 116 (by decide) rfl, FM.get 116 (by decide) rfl]) (by rw [G9.get 117 (by decide) rfl, FM.get 117 (by decide) rfl])
        · obtain ⟨a, ha⟩ := Int.eq_ofNat_of_zero_le p0
          obtain ⟨bb, hb⟩ := Int.eq_ofNat_of_zero_le p1
          have la : a < 8 := by rw [ha] at lt0; exact Int.ofNat_lt.mp lt0
          have lb : bb < 8 := by rw [hb] at lt1; exact Int.ofNat_lt.mp lt1
          have nab' : ¬ a = bb := fun q => nab (by rw [ha, hb, q])
          have v2 := c_addDebt (σ := σ8) X (r := r2) la lb nab' clt c8
          have ha' : r0 = (a : Int) := ha
          have hb' : r1 = (bb : Int) := hb
          rw [ha', hb', v2] at v1
          injection v1 with v1
          have f40 : σ8 40 = σ 40 := FC.get 40 (by decide) rfl
          have k40 : σ9 40 = up (up (σ 40) a (w32 (σ 40 a - r2))) bb (w32 (σ 40 bb + r2)) := by rw [← v1, ue, ue, un _ (show ¬ (40 : Nat) = 28 by decide), f40]
          have z119 : τ9 119 = up (τ 119) (20 * sd + cn σ 4) s0 := by rw [G9.get 119 (by decide) rfl, t3.2.1.2.get 119 (by decide) rfl, un _ (show ¬ (119 : Nat) = 121 by decide), j3.2.1.2.get 119 (by decide) rfl, un _ (show ¬ (119 : Nat) = 120 by decide), ue, i3.2.1.2.get 119 (by decide) rfl, d3.2.1.2.get 119 (by decide) rfl, b3.2.1.2.get 119 (by decide) rfl, fm1.get 119 (by decide) rfl]
          have z120 : τ9 120 = up (τ 120) (20 * sd + cn σ 4) s1 := by rw [G9.get 120 (by decide) rfl, t3.2.1.2.get 120 (by decide) rfl, un _ (show ¬ (120 : Nat) = 121 by decide), j3.2.1.2.get 120 (by decide) rfl, ue, un _ (show ¬ (120 : Nat) = 119 by decide), i3.2.1.2.get 120 (by decide) rfl, d3.2.1.2.get 120 (by decide) rfl, b3.2.1.2.get 120 (by decide) rfl, fm1.get 120 (by decide) rfl]
          have z121 : τ9 121 = up (τ 121) (20 * sd + cn σ 4) s2 := by rw [G9.get 121 (by decide) rfl, t3.2.1.2.get 121 (by decide) rfl, ue, j3.2.1.2.get 121 (by decide) rfl, un _ (show ¬ (121 : Nat) = 120 by decide), un _ (show ¬ (121 : Nat) = 119 by decide), i3.2.1.2.get 121 (by decide) rfl, d3.2.1.2.get 121 (by decide) rfl, b3.2.1.2.get 121 (by decide) rfl, fm1.get 121 (by decide) rfl]
          exact de_add nab' T6 (cs 4) k40 (by rw [z119, w0, ha']) (by rw [z120, w1, hb']) (by rw [z121, w2])
        · exact T7.ag (by rw [F9.get 27 (by decide) rfl, FC.get 27 (by decide) rfl]) (by rw [F9.get 45 (by decide) rfl, FC.get 45 (by decide) rfl]) (by rw [F9.get 46 (by decide) rfl, FC.get 46 (by decide) rfl]) (fun k k1 k2 => by rw [G9.get k (by omega) (by rcases (show k = 105 ∨ k = 106 ∨ k = 107 ∨ k = 108 ∨ k = 109 ∨ k = 110 ∨ k = 111 by omega) with e | e | e | e | e | e | e <;> subst e <;> rfl), FM.get k (by omega) (by rcases (show k = 105 ∨ k = 106 ∨ k = 107 ∨ k = 108 ∨ k = 109 ∨ k = 110 ∨ k = 111 by omega) with e | e | e | e | e | e | e <;> subst e <;> rfl)]) (by rw [G9.get 122 (by decide) rfl, FM.get 122 (by decide) rfl]) (by rw [G9.get 123 (by decide) rfl, FM.get 123 (by decide) rfl]) (kf 56 rfl) (kf 40 rfl)
      · have := CX1.2.2.2 q8
        rw [k47]
        exact Int.lt_of_lt_of_le tlt this
  · have u2 : ¬ σ8 47 6 = 0 := fun q => z1 (CX1.z0 q)
    have u1 : b = 0 := by
      rcases t5 with ⟨u1, -⟩ | ⟨-, t9, f9, -⟩
      · exact u1
      · exact absurd (Cx.z0 (b3.cx.tr (d3.cx.tr (i3.cx.tr j3.cx))) f9.2.1.1) z1
    refine ⟨σ8, τ1, run _ (Or.inl ⟨u1, rfl⟩), mhead _ ?_, SI.bad (a3.1.stayC z1 CX1) u2, FC.mono rfl rfl, MG.sm fm1, fun q => absurd q u2⟩
    have := a5 z1
    rw [a2, bsome, if_pos (ne0_of this), bq_92_238]
end PG
