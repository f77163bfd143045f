/-! READ: a dish, a belly to hire -/
section PF
variable {X N : Nat} {σ τ σ' τ' : am_Sg} {t sd : Nat}
theorem LaR.ag (h : LaR σ τ sd) (e27 : σ' 27 = σ 27) (e45 : σ' 45 = σ 45) (e46 : σ' 46 = σ 46) (ek : ∀ k, 105 ≤ k → k ≤ 111 → τ' k = τ k) (e122 : τ' 122 = τ 122) (e123 : τ' 123 = τ 123) (e56 : τ' 80 56 = τ 80 56) (e40 : τ' 80 40 = τ 80 40) : LaR σ' τ' sd := by
  obtain ⟨C, K, B, F, h1, h2, h3, h4, h5⟩ := h
  refine ⟨C, K, B, F, by rw [e27]; exact h1, by rw [e56]; exact h2, by rw [e40]; exact h3, by rw [e27]; exact h4, fun g d hg hd => ?_⟩
  have q := h5 g d hg hd
  unfold La1 at q ⊢
  rw [e27, e45, e46, ek 105 (by omega) (by omega), ek 106 (by omega) (by omega)]
  rcases q with q | ⟨p, e', b, b', brs, E, q1, ⟨q2, q3, q4, q5, q6⟩, q7, q8, q9⟩
  · exact Or.inl q
  · exact Or.inr ⟨p, e', b, b', brs, E, q1, ⟨q2, q3, q4, q5.ag (Nat.le_refl _) (fun k i a1 a2 _ _ => by rw [ek k (by omega) a2]) (fun i _ _ => ⟨by rw [e122], by rw [e123]⟩), q6⟩, q7, q8, q9⟩
/-- what a row of small steps keeps in the class -/
def Cx (σ σ' : am_Sg) : Prop := Fr [47] [] σ σ' ∧ (¬ σ 47 6 = 0 → σ' 47 6 = σ 47 6 ∧ σ' 47 7 = σ 47 7) ∧ (ok0 σ' → ok0 σ) ∧ (σ' 47 6 = 0 → σ 47 4 ≤ σ' 47 4)
theorem Nx.cx (h : Nx N σ τ σ' τ') : Cx σ σ' := ⟨h.2.1.1, h.2.2.1, h.2.2.2.1, h.2.2.2.2.2⟩
theorem Cx.z0 {a b : am_Sg} (h : Cx a b) (z : b 47 6 = 0) : a 47 6 = 0 := by
  by_cases w : a 47 6 = 0
  · exact w
  · rw [(h.2.1 w).1] at z
    exact absurd z w
theorem Cx.tr {a b c : am_Sg} (h : Cx a b) (h' : Cx b c) : Cx a c := by
  refine ⟨h.1.tr h'.1, fun z => ?_, fun z => h.2.2.1 (h'.2.2.1 z), fun z => Int.le_trans (h.2.2.2 (h'.z0 z)) (h'.2.2.2 z)⟩
  obtain ⟨c1, c2⟩ := h.2.1 z
  obtain ⟨d1, d2⟩ := h'.2.1 (by rw [c1]; exact z)
  exact ⟨d1.trans c1, d2.trans c2⟩
theorem PS.stayC (h : PS N σ τ) (z : ¬ σ 47 6 = 0) (c : Cx σ σ') : PS N σ' τ := by
  obtain ⟨e6, e7⟩ := c.2.1 z
  exact h.stay z e6 e7 (c.1.get 4 (by decide) rfl) (c.1.get 5 (by decide) rfl) (c.1.get 6 (by decide) rfl)
theorem le_of_eq0 {x : Int} (h : x = 0) : x ≤ 0 := by omega
theorem wrg {w c k : Nat} (h : wd k = w) (hc : c < w) : wd k * sd ≤ w * sd + c ∧ w * sd + c < wd k * sd + wd k := by
  rw [h]
  omega
theorem wrg1 {k : Nat} (h : wd k = 1) : wd k * sd ≤ sd ∧ sd < wd k * sd + wd k := by
  rw [h]
  omega
theorem kxw {w c : Nat} (h1 : sd ≤ 1) (hc : c < 100) (hw : w ≤ 100) : w32 (w32 ((w : Int) * (sd : Int)) + (c : Int)) = ((w * sd + c : Nat) : Int) := by
  have e : (w : Int) * (sd : Int) = ((w * sd : Nat) : Int) := by push_cast; rfl
  have b : w * sd ≤ 100 := by
    rcases (show sd = 0 ∨ sd = 1 by omega) with z | z <;> subst z <;> omega
  rw [e, w32_id (x := ((w * sd : Nat) : Int)) (by omega) (by omega), w32_id (by omega) (by omega)]
  push_cast
  rfl
theorem kxr {w c : Nat} (h1 : sd ≤ 1) (hc : c < w) : (0 : Int) ≤ ((w * sd + c : Nat) : Int) ∧ ((w * sd + c : Nat) : Int) < ((2 * w : Nat) : Int) := by
  have b : w * sd ≤ w := by
    rcases (show sd = 0 ∨ sd = 1 by omega) with z | z <;> subst z <;> omega
  omega
def Sx (X N sd mid : Nat) (σ τ : am_Sg) : Prop := ∃ σ' τ', vcV X mid [vP 47] σ = some σ' ∧ vcV X 92 [vP 80] τ = some τ' ∧ SI N sd σ' τ' ∧ Fr cR [] σ σ' ∧ MG sd τ τ' ∧ (σ' 47 6 = 0 → σ 47 4 < σ' 47 4)
theorem SI.bad (h : PS N σ τ) (z : ¬ σ 47 6 = 0) : SI N sd σ τ := ⟨h, fun q => absurd q z⟩
theorem c_addDish (X : Nat) {c : Nat} {v a b d : Int} (hc : c < 4) (h : σ 28 0 = (c : Int)) : vcV X 234 [vP 27, vJ v, vI a, vI b, vI d] σ = some (am_upd (am_upd (am_upd (am_upd (am_upd σ 28 0 ((c + 1 : Nat) : Int)) 29 c v) 30 c a) 31 c b) 32 c d) := by
  refine vV_of ((bq_234_0 X _ _ _ _ σ).trans ?_) rfl
  rw [h, if_neg (by omega), if_pos (by omega), w32_s1 (by omega), tn_nat, bq_234_32, if_pos (by omega), tn_nat, bq_234_49, if_pos (by omega), tn_nat, bq_234_58]
theorem c_addBelly (X : Nat) {c : Nat} {v a b : Int} (hc : c < 6) (h : σ 28 2 = (c : Int)) : vcV X 238 [vP 27, vJ v, vI a, vI b] σ = some (am_upd (am_upd (am_upd (am_upd σ 28 2 ((c + 1 : Nat) : Int)) 29 (12 + c) v) 41 c a) 42 c b) := by
  have e : w32 (12 + (c : Int)) = ((12 + c : Nat) : Int) := by rw [w32_id (by omega) (by omega)]; omega
  refine vV_of ((bq_238_0 X _ _ _ σ).trans ?_) rfl
  rw [h, if_neg (by omega), e, if_pos (by omega), w32_s1 (by omega), tn_nat, bq_238_36, if_pos (by omega), tn_nat, bq_238_53]
theorem s_dish (X : Nat) (h : SI N sd σ τ) (hW : σ 1001 = am_s0 (fun _ => 0) 1001) (h6 : σ 47 6 = 0) (hk : σ 47 5 = 256) : Sx X N sd 176 σ τ := by
  obtain ⟨hP, hI⟩ := h
  obtain ⟨hC, hT⟩ := hI h6
  obtain ⟨t, f⟩ := hP.nf h6
  have t4 := PS.t400 hP.1 f
  have tN := f.1
  have e4 : σ 4 t = 256 := f.2.2.2.1.symm.trans hk
  have e83 : τ 83 t = 20 := (kr_dish _ _ (hP.1.2.1 t f.1).2.1).mp e4
  have n18 := hC.n18
  obtain ⟨sd0, sd1⟩ := hC.1
  have c0 := hC.2.1.1 0 (by omega)
  have m0 : cn σ 0 ≤ 4 := c0.2
  obtain ⟨σ1, τ1, a1, a2, a3, a4, a5⟩ := l_first X (w := 0) (M := 4) (by omega) (by rw [hW]; rfl) hP f (by omega) (by omega) (by rw [c0.1]; omega)
  have fc1 := a3.2.1.1
  have fm1 := a3.2.1.2
  have g28 : σ1 28 = σ 28 := fc1.get 28 (by decide) rfl
  have g29 : σ1 29 = σ 29 := fc1.get 29 (by decide) rfl
  obtain ⟨n1, n2, n3, n4⟩ := hC.nm (σ' := σ1) (τ' := τ1) g28 g29 (fm1.get 88 (by decide) rfl) (fm1.get 89 (by decide) rfl) (fm1.get 90 (by decide) rfl) (fm1.fld 20 rfl)
  obtain ⟨v, w, σ2, τ2, b1, b2, b3, b4, b5⟩ := l_name X a3.1 n18 n1 n2 n3 n4
  obtain ⟨r0, s0, σ3, τ3, d0a, d0b, d0c, d0d, d0e, d0f⟩ := l_num X (τ := τ2) (a := 1) (b := 9) (a' := 1) (b' := 9) (b3.1) (by omega) (by omega) (fun _ => ⟨rfl, rfl⟩)
  obtain ⟨r1, s1, σ4, τ4, d1a, d1b, d1c, d1d, d1e, d1f⟩ := l_num X (τ := am_upd τ3 92 (4 * sd + cn σ 0) s0) (a := 0) (b := 99) (a' := 0) (b' := 99) (d0c.1.updm (by decide) (by omega)) (by omega) (by omega) (fun _ => ⟨rfl, rfl⟩)
  obtain ⟨r2, s2, σ5, τ5, d2a, d2b, d2c, d2d, d2e, d2f⟩ := l_num X (τ := am_upd τ4 93 (4 * sd + cn σ 0) s1) (a := 0) (b := 999) (a' := 0) (b' := 999) (d1c.1.updm (by decide) (by omega)) (by omega) (by omega) (fun _ => ⟨rfl, rfl⟩)
  obtain ⟨b, σ8, τ8, t1, t2, t3, t5⟩ := l_take X (τ := am_upd τ5 94 (4 * sd + cn σ 0) s2) (d2c.1.updm (by decide) (by omega)) kr_semi (by decide) (by decide)
  have CX1 : Cx σ1 σ8 := b3.cx.tr (d0c.cx.tr (d1c.cx.tr (d2c.cx.tr (t3.cx))))
  have CX : Cx σ σ8 := a3.cx.tr CX1
  have FC : Fr [47] [] σ σ8 := CX.1
  have run : ∀ σ9, ((b = 0 ∧ σ9 = σ8) ∨ (b = 1 ∧ vcV X 234 [vP 27, vJ v, vI r0, vI r1, vI r2] σ8 = some σ9)) → vcV X 176 [vP 47] σ = some σ9 := fun σ9 e => by
    have a1' : vcV X 230 [vP 47, vI 0] σ = some σ1 := a1
    refine vV_of ((bq_176_0 X σ).trans ?_) rfl
    rw [a1', bsome, b1, bsome]
    dsimp +instances only
    rw [d0a, bsome]
    dsimp +instances only
    rw [d1a, bsome]
    dsimp +instances only
    rw [d2a, bsome]
    dsimp +instances only
    rw [t1, bsome]
    dsimp +instances only
    rcases e with ⟨e, e'⟩ | ⟨e, e'⟩
    · rw [if_pos e, bq_176_59, e']
    · rw [if_neg (by omega), e', bsome, bq_176_59]
  have mhead : ∀ q, (vcV X 190 [vP 80, vI (σ 28 0), vI 4] τ).bind (fun q15 => if ¬ (q15 80 13) = 0 then vv X 92 238 [none] [] q15 else (vcV X 191 [vP 80] q15).bind fun q16 => vv X 92 238 [none] [] q16) = some (none, q) → vcV X 92 [vP 80] τ = some q := fun q e => by
    refine vV_of ((bq_92_0 X τ).trans ?_) rfl
    rw [f.2.2.1.2, if_pos (by omega), tn_nat, e83, if_pos rfl, sd0, if_pos (by omega), tn_nat, hC.2.2.1.1]
    exact e
  by_cases z1 : σ1 47 6 = 0
  · obtain ⟨lt4, z13, tlt⟩ := a4 z1
    have clt : cn σ 0 < 4 := by rw [c0.1] at lt4; omega
    have kx : w32 (w32 (4 * (sd : Int)) + (cn σ 0 : Int)) = ((4 * sd + cn σ 0 : Nat) : Int) := kxw sd1 (show cn σ 0 < 100 by omega) (show 4 ≤ 100 by decide)
    have sr : (0 : Int) ≤ (sd : Int) ∧ (sd : Int) < 2 := ⟨by omega, by omega⟩
    have kr0 : (0 : Int) ≤ ((4 * sd + cn σ 0 : Nat) : Int) ∧ ((4 * sd + cn σ 0 : Nat) : Int) < 8 := kxr sd1 clt
    have s19 : τ1 80 19 = (sd : Int) := (fm1.fld 19 rfl).trans sd0
    have s91 : τ1 91 sd = (cn σ 0 : Int) := by rw [fm1.get 91 (by decide) rfl, hC.2.2.1.1]; exact c0.1
    have FM1 : Fr [92, 93, 94] [11, 13, 14, 15, 16] τ τ1 := a3.2.1.2.mono rfl rfl
    have FM2 : Fr [92, 93, 94] [11, 13, 14, 15, 16] τ τ2 := FM1.tr (b3.2.1.2.mono rfl rfl)
    have MG1 : MG sd τ τ1 := MG.sm a3.2.1.2
    have MG2 : MG sd τ τ2 := MG1.tr (MG.sm b3.2.1.2)
    have FM3 : Fr [92, 93, 94] [11, 13, 14, 15, 16] τ τ3 := FM2.tr (d0c.2.1.2.mono rfl rfl)
    have FN3 : Fr [92, 93, 94] [11, 13, 14, 15, 16] τ (am_upd τ3 92 (4 * sd + cn σ 0) s0) := FM3.upd rfl (by decide)
    have MG3 : MG sd τ τ3 := MG2.tr (MG.sm d0c.2.1.2)
    have MN3 : MG sd τ (am_upd τ3 92 (4 * sd + cn σ 0) s0) := MG3.upd rfl (Or.inr (Or.inr (wrg (by decide) clt)))
    have FM4 : Fr [92, 93, 94] [11, 13, 14, 15, 16] τ τ4 := FN3.tr (d1c.2.1.2.mono rfl rfl)
    have FN4 : Fr [92, 93, 94] [11, 13, 14, 15, 16] τ (am_upd τ4 93 (4 * sd + cn σ 0) s1) := FM4.upd rfl (by decide)
    have MG4 : MG sd τ τ4 := MN3.tr (MG.sm d1c.2.1.2)
    have MN4 : MG sd τ (am_upd τ4 93 (4 * sd + cn σ 0) s1) := MG4.upd rfl (Or.inr (Or.inr (wrg (by decide) clt)))
    have FM5 : Fr [92, 93, 94] [11, 13, 14, 15, 16] τ τ5 := FN4.tr (d2c.2.1.2.mono rfl rfl)
    have FN5 : Fr [92, 93, 94] [11, 13, 14, 15, 16] τ (am_upd τ5 94 (4 * sd + cn σ 0) s2) := FM5.upd rfl (by decide)
    have MG5 : MG sd τ τ5 := MN4.tr (MG.sm d2c.2.1.2)
    have MN5 : MG sd τ (am_upd τ5 94 (4 * sd + cn σ 0) s2) := MG5.upd rfl (Or.inr (Or.inr (wrg (by decide) clt)))
    have FM : Fr [92, 93, 94] [11, 13, 14, 15, 16] τ τ8 := FN5.tr (t3.2.1.2.mono rfl rfl)
    have MGs : MG sd τ τ8 := MN5.tr (MG.sm t3.2.1.2)
    have e19 : τ8 80 19 = (sd : Int) := (FM.fld 19 rfl).trans sd0
    have m191 : ∀ q, (if (τ8 80 13) ≤ 0 then (vcV X 252 [vP 80, vI w, vI 0, vI (τ8 91 sd)] τ8).bind (fun q6 => if 0 ≤ (q6 80 19) ∧ (q6 80 19) < 2 then some (none, am_upd q6 91 (q6 80 19).toNat (w32 ((q6 91 (q6 80 19).toNat) + 1))) else none) else some (none, τ8)) = some ((none : Option am_V), q) → vcV X 191 [vP 80] τ1 = some q := fun q e => by
      refine vV_of ((bq_191_0 X τ1).trans ?_) rfl
      rw [s19, if_pos sr, b2, bsome]
      dsimp +instances only
      rw [d0b, bsome]
      dsimp +instances only
      rw [tn_nat, s91, kx, if_pos kr0, tn_nat]
      rw [d1b, bsome]
      dsimp +instances only
      rw [d2b, bsome]
      dsimp +instances only
      rw [t2, bsome, e19, if_pos sr, tn_nat]
      exact e
    rcases t5 with ⟨u1, u2⟩ | ⟨u1, t9, f9, tl9, -, -, -, f10⟩
    · have fs := t3.1.fs u2
      refine ⟨σ8, τ8, run _ (Or.inl ⟨u1, rfl⟩), mhead _ ?_, SI.bad t3.1 u2, FC.mono rfl rfl, MGs, fun q => absurd q u2⟩
      rw [a2, bsome, if_neg (fun q => q z13), m191 τ8 (by have := fs.1; rw [if_neg (by omega)]), bsome, bq_92_238]
    · have q8 : σ8 47 6 = 0 := f10.2.1.1
      have CX0 := CX
      have q2 : σ2 47 6 = 0 := Cx.z0 (d0c.cx.tr (d1c.cx.tr (d2c.cx.tr (t3.cx)))) q8
      obtain ⟨t0, l, t01, t02, l1, l2, l3⟩ := b4 q2
      have h28 : σ8 28 = σ 28 := FC.get 28 (by decide) rfl
      have c8 : σ8 28 0 = (cn σ 0 : Int) := by rw [h28]; exact c0.1
      have e20 : τ8 80 20 = ((cn σ 0 + cn σ 1 + cn σ 2 : Nat) : Int) := (FM.fld 20 rfl).trans hC.2.2.2.1.1
      have e91 : τ8 91 sd = (cn σ 0 : Int) := by rw [FM.get 91 (by decide) rfl, hC.2.2.1.1]; exact c0.1
      have e86 : τ8 86 t0 = ((fr 27 l : Nat) : Int) := by rw [FM.get 86 (by decide) rfl, ← fm1.get 86 (by decide) rfl]; exact l3
      have NT := m_notes X (τ := τ8) (s := 0) (a := (cn σ 0 : Int)) (show cn σ 0 + cn σ 1 + cn σ 2 ≤ 23 by omega) (show t0 ≤ 402 by omega) e20
      rw [e86] at NT
      generalize hσ9 : am_upd (am_upd (am_upd (am_upd (am_upd σ8 28 0 ((cn σ 0 + 1 : Nat) : Int)) 29 (cn σ 0) v) 30 (cn σ 0) r0) 31 (cn σ 0) r1) 32 (cn σ 0) r2 = σ9
      generalize hY : am_upd (am_upd (am_upd (am_upd τ8 88 (cn σ 0 + cn σ 1 + cn σ 2) ((fr 27 l : Nat) : Int)) 89 (cn σ 0 + cn σ 1 + cn σ 2) 0) 90 (cn σ 0 + cn σ 1 + cn σ 2) (cn σ 0 : Int)) 80 20 ((cn σ 0 + cn σ 1 + cn σ 2 + 1 : Nat) : Int) = Y at NT
      have y19 : Y 80 19 = (sd : Int) := by rw [← hY]; exact e19
      have y91 : Y 91 sd = (cn σ 0 : Int) := by rw [← hY]; exact e91
      generalize hτ9 : am_upd Y 91 sd ((cn σ 0 + 1 : Nat) : Int) = τ9
      have F9 : Fr [28, 29, 30, 31, 32] [] σ8 σ9 := by rw [← hσ9]; exact (((((Fr.rf.upd rfl (by decide)).upd rfl (by decide)).upd rfl (by decide)).upd rfl (by decide)).upd rfl (by decide))
      have G9 : Fr [88, 89, 90, 91] [20] τ8 τ9 := by rw [← hτ9, ← hY]; exact (((((Fr.rf.upd rfl (by decide)).upd rfl (by decide)).upd rfl (by decide)).upf rfl).upd rfl (by decide))
      have M9 : MG sd τ τ9 := by rw [← hτ9, ← hY]; exact (((((MGs.upd rfl (Or.inl (by omega))).upd rfl (Or.inl (by omega))).upd rfl (Or.inl (by omega))).upf rfl).upd rfl (Or.inr (Or.inr (wrg1 (by decide)))))
      have k28 : σ9 28 = up (σ 28) 0 ((cn σ 0 + 1 : Nat) : Int) := by rw [← hσ9, un _ (show ¬ (28 : Nat) = 32 by decide), un _ (show ¬ (28 : Nat) = 31 by decide), un _ (show ¬ (28 : Nat) = 30 by decide), un _ (show ¬ (28 : Nat) = 29 by decide), ue, FC.get 28 (by decide) rfl]
      have k29 : σ9 29 = up (σ 29) (cn σ 0) v := by rw [← hσ9, un _ (show ¬ (29 : Nat) = 32 by decide), un _ (show ¬ (29 : Nat) = 31 by decide), un _ (show ¬ (29 : Nat) = 30 by decide), ue, un _ (show ¬ (29 : Nat) = 28 by decide), FC.get 29 (by decide) rfl]
      have k30 : σ9 30 = up (σ 30) (cn σ 0) r0 := by rw [← hσ9, un _ (show ¬ (30 : Nat) = 32 by decide), un _ (show ¬ (30 : Nat) = 31 by decide), ue, un _ (show ¬ (30 : Nat) = 29 by decide), un _ (show ¬ (30 : Nat) = 28 by decide), FC.get 30 (by decide) rfl]
      have k31 : σ9 31 = up (σ 31) (cn σ 0) r1 := by rw [← hσ9, un _ (show ¬ (31 : Nat) = 32 by decide), ue, un _ (show ¬ (31 : Nat) = 30 by decide), un _ (show ¬ (31 : Nat) = 29 by decide), un _ (show ¬ (31 : Nat) = 28 by decide), FC.get 31 (by decide) rfl]
      have k32 : σ9 32 = up (σ 32) (cn σ 0) r2 := by rw [← hσ9, ue, un _ (show ¬ (32 : Nat) = 31 by decide), un _ (show ¬ (32 : Nat) = 30 by decide), un _ (show ¬ (32 : Nat) = 29 by decide), un _ (show ¬ (32 : Nat) = 28 by decide), FC.get 32 (by decide) rfl]
      have k88 : τ9 88 = up (τ 88) (cn σ 0 + cn σ 1 + cn σ 2) ((fr 27 l : Nat) : Int) := by rw [← hτ9, ← hY, un _ (show ¬ (88 : Nat) = 91 by decide), un _ (show ¬ (88 : Nat) = 80 by decide), un _ (show ¬ (88 : Nat) = 90 by decide), un _ (show ¬ (88 : Nat) = 89 by decide), ue, FM.get 88 (by decide) rfl]
      have k89 : τ9 89 = up (τ 89) (cn σ 0 + cn σ 1 + cn σ 2) 0 := by rw [← hτ9, ← hY, un _ (show ¬ (89 : Nat) = 91 by decide), un _ (show ¬ (89 : Nat) = 80 by decide), un _ (show ¬ (89 : Nat) = 90 by decide), ue, un _ (show ¬ (89 : Nat) = 88 by decide), FM.get 89 (by decide) rfl]
      have k90 : τ9 90 = up (τ 90) (cn σ 0 + cn σ 1 + cn σ 2) (cn σ 0 : Int) := by rw [← hτ9, ← hY, un _ (show ¬ (90 : Nat) = 91 by decide), un _ (show ¬ (90 : Nat) = 80 by decide), ue, un _ (show ¬ (90 : Nat) = 89 by decide), un _ (show ¬ (90 : Nat) = 88 by decide), FM.get 90 (by decide) rfl]
      have k91 : τ9 91 = up (τ 91) sd ((cn σ 0 + 1 : Nat) : Int) := by rw [← hτ9, ← hY, ue, un _ (show ¬ (91 : Nat) = 80 by decide), un _ (show ¬ (91 : Nat) = 90 by decide), un _ (show ¬ (91 : Nat) = 89 by decide), un _ (show ¬ (91 : Nat) = 88 by decide), FM.get 91 (by decide) rfl]
      have k20 : τ9 80 20 = ((cn σ 0 + cn σ 1 + cn σ 2 + 1 : Nat) : Int) := by rw [← hτ9, ← hY]; rfl
      have kf : ∀ j, [11, 13, 14, 15, 16, 20].contains j = false → τ9 80 j = τ 80 j := fun j hj => by
        rw [G9.fld j (fr_sub (a := [20]) (b := [11, 13, 14, 15, 16, 20]) rfl hj), FM.fld j (fr_sub (a := [11, 13, 14, 15, 16]) (b := [11, 13, 14, 15, 16, 20]) rfl hj)]
      have k47 : σ9 47 = σ8 47 := F9.get 47 (by decide) rfl
      have cs : cnS 0 σ σ9 := cnS_of k28
      have ci : CI σ9 τ9 sd := by
        refine hC.add (s0 := 0) (by omega) clt l1 k28 (by rw [k29, ← l2]; rw [show off 0 = 0 from rfl, Nat.zero_add]) k88 k89 k90 ⟨?_, ?_, ?_, ?_, ?_, ?_⟩ k20 (kf 19 rfl) (kf 12 rfl) ?_ (kf 56 rfl) (kf 40 rfl) ?_
        · rw [k91, k28, upe, upe]
        · rw [G9.get 95 (by decide) rfl, FM.get 95 (by decide) rfl, k28, upa, if_neg (by decide)]; exact hC.2.2.1.2.1
        · rw [G9.get 112 (by decide) rfl, FM.get 112 (by decide) rfl, k28, upa, if_neg (by decide)]; exact hC.2.2.1.2.2.1
        · rw [G9.get 115 (by decide) rfl, FM.get 115 (by decide) rfl, k28, upa, if_neg (by decide)]; exact hC.2.2.1.2.2.2.1
        · rw [G9.get 118 (by decide) rfl, FM.get 118 (by decide) rfl, k28, upa, if_neg (by decide)]; exact hC.2.2.1.2.2.2.2.1
        · rw [G9.get 104 (by decide) rfl, FM.get 104 (by decide) rfl, k28, upa, if_neg (by decide)]; exact hC.2.2.1.2.2.2.2.2
        · rw [F9.get 27 (by decide) rfl, FC.get 27 (by decide) rfl]
        · rw [k47]; exact CX.2.2.2 q8
      have ps : PS N σ9 τ9 := t3.1.ag (F9.get 4 (by decide) rfl) (F9.get 5 (by decide) rfl) (F9.get 6 (by decide) rfl) (fun j _ => by rw [k47]) (G9.get 83 (by decide) rfl) (G9.get 84 (by decide) rfl) (G9.get 85 (by decide) rfl) (G9.get 86 (by decide) rfl) (fun j hj => G9.fld j (by
        cases hc : [20].contains j with
        | false => rfl
        | true =>
          have : j = 20 := by simpa using hc
          rw [this] at hj
          cases hj))
      refine ⟨σ9, τ9, run σ9 (Or.inr ⟨u1, ?_⟩), mhead _ ?_, ⟨ps, fun _ => ⟨ci, fun y => ?_⟩⟩, (FC.mono rfl rfl).tr (F9.mono rfl rfl), M9, fun _ => ?_⟩
      · rw [← hσ9]; exact c_addDish X clt c8
      · rw [a2, bsome, if_neg (fun q => q z13), m191 τ9 ?_, bsome, bq_92_238]
        have h13 := f10.2.1.2
        rw [if_pos (le_of_eq0 h13), e91, t02, NT, bsome, y19, if_pos sr, tn_nat, y91, w32_s1 (Nat.lt_of_le_of_lt clt (by decide)), hτ9]
      · have y8 : ok0 σ8 := ⟨q8, by rw [← k47]; exact y⟩
        have y2 : ok0 σ2 := Cx.tr (d0c.cx.tr (d1c.cx.tr (d2c.cx.tr (t3.cx)))) ⟨Fr.rf, fun _ => ⟨rfl, rfl⟩, fun q => q, fun _ => Int.le_refl _⟩ |>.2.2.1 y8
        have y0 : ok0 σ := CX.2.2.1 y8
        obtain ⟨T1, T2, T3, T4, T5, T6, T7⟩ := hT y0.2
        have w0 : s0 = r0 := d0f ((d1c.cx.tr (d2c.cx.tr (t3.cx))).2.2.1 y8)
        have w1 : s1 = r1 := d1f ((d2c.cx.tr (t3.cx)).2.2.1 y8)
        have w2 : s2 = r2 := d2f ((t3.cx).2.2.1 y8)
        refine ⟨un_add (by omega) hC.2.1.1 clt T1 (fun s _ => cs s) (by rw [k29]; rw [show off 0 = 0 from rfl, Nat.zero_add]) (fun s j hs hj => ?_), fun d hd => ?_, ?_, ?_, ?_, ?_, ?_⟩
        · have := b5 y2 s j hs (by unfold cn; rw [g28]; exact hj)
          rwa [g29] at this
        · rw [cs 0, if_pos rfl] at hd
          have z92 : τ9 92 = up (τ 92) (4 * sd + cn σ 0) s0 := by rw [G9.get 92 (by decide) rfl, t3.2.1.2.get 92 (by decide) rfl, un _ (show ¬ (92 : Nat) = 94 by decide), d2c.2.1.2.get 92 (by decide) rfl, un _ (show ¬ (92 : Nat) = 93 by decide), d1c.2.1.2.get 92 (by decide) rfl, ue, d0c.2.1.2.get 92 (by decide) rfl, b3.2.1.2.get 92 (by decide) rfl, fm1.get 92 (by decide) rfl]
          have z93 : τ9 93 = up (τ 93) (4 * sd + cn σ 0) s1 := by rw [G9.get 93 (by decide) rfl, t3.2.1.2.get 93 (by decide) rfl, un _ (show ¬ (93 : Nat) = 94 by decide), d2c.2.1.2.get 93 (by decide) rfl, ue, d1c.2.1.2.get 93 (by decide) rfl, un _ (show ¬ (93 : Nat) = 92 by decide), d0c.2.1.2.get 93 (by decide) rfl, b3.2.1.2.get 93 (by decide) rfl, fm1.get 93 (by decide) rfl]
          have z94 : τ9 94 = up (τ 94) (4 * sd + cn σ 0) s2 := by rw [G9.get 94 (by decide) rfl, t3.2.1.2.get 94 (by decide) rfl, ue, d2c.2.1.2.get 94 (by decide) rfl, un _ (show ¬ (94 : Nat) = 93 by decide), d1c.2.1.2.get 94 (by decide) rfl, un _ (show ¬ (94 : Nat) = 92 by decide), d0c.2.1.2.get 94 (by decide) rfl, b3.2.1.2.get 94 (by decide) rfl, fm1.get 94 (by decide) rfl]
          rw [z92, z93, z94, k30, k31, k32]
          by_cases e : d = cn σ 0
          · subst e
            rw [upe, upe, upe, upe, upe, upe]
            exact ⟨⟨w0, w1, w2⟩, d0d.1, d0d.2, d1d.1, d1d.2, d2d.1, d2d.2⟩
          · rw [upa, upa, upa, upa, upa, upa, if_neg (fun q => e (Nat.add_left_cancel q)), if_neg (fun q => e (Nat.add_left_cancel q)), if_neg (fun q => e (Nat.add_left_cancel q)), if_neg e, if_neg e, if_neg e]
            exact T2 d (Nat.lt_of_le_of_ne (Nat.le_of_lt_succ hd) e)
        · rw [cs 1, if_neg (by decide)]
          exact T3.ag (fun k k1 k2 => by rw [F9.get k (by omega) (by rcases (show k = 33 ∨ k = 34 ∨ k = 35 ∨ k = 36 ∨ k = 37 ∨ k = 38 ∨ k = 39 by omega) with e | e | e | e | e | e | e <;> subst e <;> rfl), FC.get k (by omega) (by rcases (show k = 33 ∨ k = 34 ∨ k = 35 ∨ k = 36 ∨ k = 37 ∨ k = 38 ∨ k = 39 by omega) with e | e | e | e | e | e | e <;> subst e <;> rfl)]) (fun k k1 k2 => by rw [G9.get k (by omega) (by rcases (show k = 96 ∨ k = 97 ∨ k = 98 ∨ k = 99 ∨ k = 100 ∨ k = 101 ∨ k = 102 ∨ k = 103 by omega) with e | e | e | e | e | e | e | e <;> subst e <;> rfl), FM.get k (by omega) (by rcases (show k = 96 ∨ k = 97 ∨ k = 98 ∨ k = 99 ∨ k = 100 ∨ k = 101 ∨ k = 102 ∨ k = 103 by omega) with e | e | e | e | e | e | e | e <;> subst e <;> rfl)])
        · exact T4.ag (by rw [cs 2, if_neg (by decide)]) (by rw [F9.get 41 (by decide) rfl, FC.get 41 (by decide) rfl]) (by rw [F9.get 42 (by decide) rfl, FC.get 42 (by decide) rfl]) (by rw [G9.get 113 (by decide) rfl, FM.get 113 (by decide) rfl]) (by rw [G9.get 114 (by decide) rfl, FM.get 114 (by decide) rfl])
        · exact T5.ag (by rw [cs 3, if_neg (by decide)]) (by rw [cs 1, if_neg (by decide)]; exact Nat.le_refl _) (by rw [F9.get 43 (by decide) rfl, FC.get 43 (by decide) rfl]) (by rw [F9.get 44 (by decide) rfl, FC.get 44 (by decide) rfl]) (by rw [G9.get 116 (by decide) rfl, FM.get 116 (by decide) rfl]) (by rw [G9.get 117 (by decide) rfl, FM.get 117 (by decide) rfl])
        · exact T6.ag (by rw [cs 4, if_neg (by decide)]) (by rw [F9.get 40 (by decide) rfl, FC.get 40 (by decide) rfl]) (by rw [G9.get 119 (by decide) rfl, FM.get 119 (by decide) rfl]) (by rw [G9.get 120 (by decide) rfl, FM.get 120 (by decide) rfl]) (by rw [G9.get 121 (by decide) rfl, FM.get 121 (by decide) rfl])
        · exact T7.ag (by rw [F9.get 27 (by decide) rfl, FC.get 27 (by decide) rfl]) (by rw [F9.get 45 (by decide) rfl, FC.get 45 (by decide) rfl]) (by rw [F9.get 46 (by decide) rfl, FC.get 46 (by decide) rfl]) (fun k k1 k2 => by rw [G9.get k (by omega) (by rcases (show k = 105 ∨ k = 106 ∨ k = 107 ∨ k = 108 ∨ k = 109 ∨ k = 110 ∨ k = 111 by omega) with e | e | e | e | e | e | e <;> subst e <;> rfl), FM.get k (by omega) (by rcases (show k = 105 ∨ k = 106 ∨ k = 107 ∨ k = 108 ∨ k = 109 ∨ k = 110 ∨ k = 111 by omega) with e | e | e | e | e | e | e <;> subst e <;> rfl)]) (by rw [G9.get 122 (by decide) rfl, FM.get 122 (by decide) rfl]) (by rw [G9.get 123 (by decide) rfl, FM.get 123 (by decide) rfl]) (kf 56 rfl) (kf 40 rfl)
      · have := CX1.2.2.2 q8
        rw [k47]
        omega
  · have u2 : ¬ σ8 47 6 = 0 := fun q => z1 (CX1.z0 q)
    have u1 : b = 0 := by
      rcases t5 with ⟨u1, -⟩ | ⟨-, t9, f9, -⟩
      · exact u1
      · exact absurd (Cx.z0 (b3.cx.tr (d0c.cx.tr (d1c.cx.tr (d2c.cx)))) f9.2.1.1) z1
    refine ⟨σ8, τ1, run _ (Or.inl ⟨u1, rfl⟩), mhead _ ?_, SI.bad (a3.1.stayC z1 CX1) u2, FC.mono rfl rfl, MG.sm fm1, fun q => absurd q u2⟩
    have := a5 z1
    rw [a2, bsome, if_pos (by omega), bq_92_238]
theorem s_belly (X : Nat) (h : SI N sd σ τ) (hW : σ 1001 = am_s0 (fun _ => 0) 1001) (h6 : σ 47 6 = 0) (hk : σ 47 5 = 258) : Sx X N sd 178 σ τ := by
  obtain ⟨hP, hI⟩ := h
  obtain ⟨hC, hT⟩ := hI h6
  obtain ⟨t, f⟩ := hP.nf h6
  have t4 := PS.t400 hP.1 f
  have tN := f.1
  have e4 : σ 4 t = 258 := f.2.2.2.1.symm.trans hk
  have e83 : τ 83 t = 26 := (kr_belly _ _ (hP.1.2.1 t f.1).2.1).mp e4
  have n18 := hC.n18
  obtain ⟨sd0, sd1⟩ := hC.1
  have c0 := hC.2.1.1 2 (by omega)
  have m0 : cn σ 2 ≤ 6 := c0.2
  obtain ⟨σ1, τ1, a1, a2, a3, a4, a5⟩ := l_first X (w := 2) (M := 6) (by omega) (by rw [hW]; rfl) hP f (by omega) (by omega) (by rw [c0.1]; omega)
  have fc1 := a3.2.1.1
  have fm1 := a3.2.1.2
  have g28 : σ1 28 = σ 28 := fc1.get 28 (by decide) rfl
  have g29 : σ1 29 = σ 29 := fc1.get 29 (by decide) rfl
  obtain ⟨n1, n2, n3, n4⟩ := hC.nm (σ' := σ1) (τ' := τ1) g28 g29 (fm1.get 88 (by decide) rfl) (fm1.get 89 (by decide) rfl) (fm1.get 90 (by decide) rfl) (fm1.fld 20 rfl)
  obtain ⟨v, w, σ2, τ2, b1, b2, b3, b4, b5⟩ := l_name X a3.1 n18 n1 n2 n3 n4
  obtain ⟨r0, s0, σ3, τ3, d0a, d0b, d0c, d0d, d0e, d0f⟩ := l_num X (τ := τ2) (a := 0) (b := 99) (a' := 0) (b' := 99) (b3.1) (by omega) (by omega) (fun _ => ⟨rfl, rfl⟩)
  obtain ⟨r1, s1, σ4, τ4, d1a, d1b, d1c, d1d, d1e, d1f⟩ := l_num X (τ := am_upd τ3 113 (6 * sd + cn σ 2) s0) (a := 0) (b := 99) (a' := 0) (b' := 99) (d0c.1.updm (by decide) (by omega)) (by omega) (by omega) (fun _ => ⟨rfl, rfl⟩)
  obtain ⟨b, σ8, τ8, t1, t2, t3, t5⟩ := l_take X (τ := am_upd τ4 114 (6 * sd + cn σ 2) s1) (d1c.1.updm (by decide) (by omega)) kr_semi (by decide) (by decide)
  have CX1 : Cx σ1 σ8 := b3.cx.tr (d0c.cx.tr (d1c.cx.tr (t3.cx)))
  have CX : Cx σ σ8 := a3.cx.tr CX1
  have FC : Fr [47] [] σ σ8 := CX.1
  have run : ∀ σ9, ((b = 0 ∧ σ9 = σ8) ∨ (b = 1 ∧ vcV X 238 [vP 27, vJ v, vI r0, vI r1] σ8 = some σ9)) → vcV X 178 [vP 47] σ = some σ9 := fun σ9 e => by
    have a1' : vcV X 230 [vP 47, vI 2] σ = some σ1 := a1
    refine vV_of ((bq_178_0 X σ).trans ?_) rfl
    rw [a1', bsome, b1, bsome]
    dsimp +instances only
    rw [d0a, bsome]
    dsimp +instances only
    rw [d1a, bsome]
    dsimp +instances only
    rw [t1, bsome]
    dsimp +instances only
    rcases e with ⟨e, e'⟩ | ⟨e, e'⟩
    · rw [if_pos e, bq_178_47, e']
    · rw [if_neg (by omega), e', bsome, bq_178_47]
  have mhead : ∀ q, (vcV X 190 [vP 80, vI (σ 28 2), vI 6] τ).bind (fun q15 => if ¬ (q15 80 13) = 0 then vv X 92 238 [none] [] q15 else (vcV X 194 [vP 80] q15).bind fun q16 => vv X 92 238 [none] [] q16) = some (none, q) → vcV X 92 [vP 80] τ = some q := fun q e => by
    refine vV_of ((bq_92_0 X τ).trans ?_) rfl
    rw [f.2.2.1.2, if_pos (by omega), tn_nat, e83, if_neg (by decide), if_neg (by decide), if_neg (by decide), if_neg (by decide), if_neg (by decide), if_neg (by decide), if_pos rfl, sd0, if_pos (by omega), tn_nat, hC.2.2.1.2.2.1]
    exact e
  by_cases z1 : σ1 47 6 = 0
  · obtain ⟨lt4, z13, tlt⟩ := a4 z1
    have clt : cn σ 2 < 6 := by rw [c0.1] at lt4; omega
    have kx : w32 (w32 (6 * (sd : Int)) + (cn σ 2 : Int)) = ((6 * sd + cn σ 2 : Nat) : Int) := kxw sd1 (show cn σ 2 < 100 by omega) (show 6 ≤ 100 by decide)
    have sr : (0 : Int) ≤ (sd : Int) ∧ (sd : Int) < 2 := ⟨by omega, by omega⟩
    have kr0 : (0 : Int) ≤ ((6 * sd + cn σ 2 : Nat) : Int) ∧ ((6 * sd + cn σ 2 : Nat) : Int) < 12 := kxr sd1 clt
    have s19 : τ1 80 19 = (sd : Int) := (fm1.fld 19 rfl).trans sd0
    have s91 : τ1 112 sd = (cn σ 2 : Int) := by rw [fm1.get 112 (by decide) rfl, hC.2.2.1.2.2.1]; exact c0.1
    have FM1 : Fr [113, 114] [11, 13, 14, 15, 16] τ τ1 := a3.2.1.2.mono rfl rfl
    have FM2 : Fr [113, 114] [11, 13, 14, 15, 16] τ τ2 := FM1.tr (b3.2.1.2.mono rfl rfl)
    have MG1 : MG sd τ τ1 := MG.sm a3.2.1.2
    have MG2 : MG sd τ τ2 := MG1.tr (MG.sm b3.2.1.2)
    have FM3 : Fr [113, 114] [11, 13, 14, 15, 16] τ τ3 := FM2.tr (d0c.2.1.2.mono rfl rfl)
    have FN3 : Fr [113, 114] [11, 13, 14, 15, 16] τ (am_upd τ3 113 (6 * sd + cn σ 2) s0) := FM3.upd rfl (by decide)
    have MG3 : MG sd τ τ3 := MG2.tr (MG.sm d0c.2.1.2)
    have MN3 : MG sd τ (am_upd τ3 113 (6 * sd + cn σ 2) s0) := MG3.upd rfl (Or.inr (Or.inr (wrg (by decide) clt)))
    have FM4 : Fr [113, 114] [11, 13, 14, 15, 16] τ τ4 := FN3.tr (d1c.2.1.2.mono rfl rfl)
    have FN4 : Fr [113, 114] [11, 13, 14, 15, 16] τ (am_upd τ4 114 (6 * sd + cn σ 2) s1) := FM4.upd rfl (by decide)
    have MG4 : MG sd τ τ4 := MN3.tr (MG.sm d1c.2.1.2)
    have MN4 : MG sd τ (am_upd τ4 114 (6 * sd + cn σ 2) s1) := MG4.upd rfl (Or.inr (Or.inr (wrg (by decide) clt)))
    have FM : Fr [113, 114] [11, 13, 14, 15, 16] τ τ8 := FN4.tr (t3.2.1.2.mono rfl rfl)
    have MGs : MG sd τ τ8 := MN4.tr (MG.sm t3.2.1.2)
    have e19 : τ8 80 19 = (sd : Int) := (FM.fld 19 rfl).trans sd0
    have m191 : ∀ q, (if (τ8 80 13) ≤ 0 then (vcV X 252 [vP 80, vI w, vI 2, vI (τ8 112 sd)] τ8).bind (fun q6 => if 0 ≤ (q6 80 19) ∧ (q6 80 19) < 2 then some (none, am_upd q6 112 (q6 80 19).toNat (w32 ((q6 112 (q6 80 19).toNat) + 1))) else none) else some (none, τ8)) = some ((none : Option am_V), q) → vcV X 194 [vP 80] τ1 = some q := fun q e => by
      refine vV_of ((bq_194_0 X τ1).trans ?_) rfl
      rw [s19, if_pos sr, b2, bsome]
      dsimp +instances only
      rw [d0b, bsome]
      dsimp +instances only
      rw [tn_nat, s91, kx, if_pos kr0, tn_nat]
      rw [d1b, bsome]
      dsimp +instances only
      rw [t2, bsome, e19, if_pos sr, tn_nat]
      exact e
    rcases t5 with ⟨u1, u2⟩ | ⟨u1, t9, f9, tl9, -, -, -, f10⟩
    · have fs := t3.1.fs u2
      refine ⟨σ8, τ8, run _ (Or.inl ⟨u1, rfl⟩), mhead _ ?_, SI.bad t3.1 u2, FC.mono rfl rfl, MGs, fun q => absurd q u2⟩
      rw [a2, bsome, if_neg (fun q => q z13), m191 τ8 (by have := fs.1; rw [if_neg (by omega)]), bsome, bq_92_238]
    · have q8 : σ8 47 6 = 0 := f10.2.1.1
      have CX0 := CX
      have q2 : σ2 47 6 = 0 := Cx.z0 (d0c.cx.tr (d1c.cx.tr (t3.cx))) q8
      obtain ⟨t0, l, t01, t02, l1, l2, l3⟩ := b4 q2
      have h28 : σ8 28 = σ 28 := FC.get 28 (by decide) rfl
      have c8 : σ8 28 2 = (cn σ 2 : Int) := by rw [h28]; exact c0.1
      have e20 : τ8 80 20 = ((cn σ 0 + cn σ 1 + cn σ 2 : Nat) : Int) := (FM.fld 20 rfl).trans hC.2.2.2.1.1
      have e91 : τ8 112 sd = (cn σ 2 : Int) := by rw [FM.get 112 (by decide) rfl, hC.2.2.1.2.2.1]; exact c0.1
      have e86 : τ8 86 t0 = ((fr 27 l : Nat) : Int) := by rw [FM.get 86 (by decide) rfl, ← fm1.get 86 (by decide) rfl]; exact l3
      have NT := m_notes X (τ := τ8) (s := 2) (a := (cn σ 2 : Int)) (show cn σ 0 + cn σ 1 + cn σ 2 ≤ 23 by omega) (show t0 ≤ 402 by omega) e20
      rw [e86] at NT
      generalize hσ9 : am_upd (am_upd (am_upd (am_upd σ8 28 2 ((cn σ 2 + 1 : Nat) : Int)) 29 (12 + cn σ 2) v) 41 (cn σ 2) r0) 42 (cn σ 2) r1 = σ9
      generalize hY : am_upd (am_upd (am_upd (am_upd τ8 88 (cn σ 0 + cn σ 1 + cn σ 2) ((fr 27 l : Nat) : Int)) 89 (cn σ 0 + cn σ 1 + cn σ 2) 2) 90 (cn σ 0 + cn σ 1 + cn σ 2) (cn σ 2 : Int)) 80 20 ((cn σ 0 + cn σ 1 + cn σ 2 + 1 : Nat) : Int) = Y at NT
      have y19 : Y 80 19 = (sd : Int) := by rw [← hY]; exact e19
      have y91 : Y 112 sd = (cn σ 2 : Int) := by rw [← hY]; exact e91
      generalize hτ9 : am_upd Y 112 sd ((cn σ 2 + 1 : Nat) : Int) = τ9
      have F9 : Fr [28, 29, 41, 42] [] σ8 σ9 := by rw [← hσ9]; exact ((((Fr.rf.upd rfl (by decide)).upd rfl (by decide)).upd rfl (by decide)).upd rfl (by decide))
      have G9 : Fr [88, 89, 90, 112] [20] τ8 τ9 := by rw [← hτ9, ← hY]; exact (((((Fr.rf.upd rfl (by decide)).upd rfl (by decide)).upd rfl (by decide)).upf rfl).upd rfl (by decide))
      have M9 : MG sd τ τ9 := by rw [← hτ9, ← hY]; exact (((((MGs.upd rfl (Or.inl (by omega))).upd rfl (Or.inl (by omega))).upd rfl (Or.inl (by omega))).upf rfl).upd rfl (Or.inr (Or.inr (wrg1 (by decide)))))
      have k28 : σ9 28 = up (σ 28) 2 ((cn σ 2 + 1 : Nat) : Int) := by rw [← hσ9, un _ (show ¬ (28 : Nat) = 42 by decide), un _ (show ¬ (28 : Nat) = 41 by decide), un _ (show ¬ (28 : Nat) = 29 by decide), ue, FC.get 28 (by decide) rfl]
      have k29 : σ9 29 = up (σ 29) (12 + cn σ 2) v := by rw [← hσ9, un _ (show ¬ (29 : Nat) = 42 by decide), un _ (show ¬ (29 : Nat) = 41 by decide), ue, un _ (show ¬ (29 : Nat) = 28 by decide), FC.get 29 (by decide) rfl]
      have k41 : σ9 41 = up (σ 41) (cn σ 2) r0 := by rw [← hσ9, un _ (show ¬ (41 : Nat) = 42 by decide), ue, un _ (show ¬ (41 : Nat) = 29 by decide), un _ (show ¬ (41 : Nat) = 28 by decide), FC.get 41 (by decide) rfl]
      have k42 : σ9 42 = up (σ 42) (cn σ 2) r1 := by rw [← hσ9, ue, un _ (show ¬ (42 : Nat) = 41 by decide), un _ (show ¬ (42 : Nat) = 29 by decide), un _ (show ¬ (42 : Nat) = 28 by decide), FC.get 42 (by decide) rfl]
      have k88 : τ9 88 = up (τ 88) (cn σ 0 + cn σ 1 + cn σ 2) ((fr 27 l : Nat) : Int) := by rw [← hτ9, ← hY, un _ (show ¬ (88 : Nat) = 112 by decide), un _ (show ¬ (88 : Nat) = 80 by decide), un _ (show ¬ (88 : Nat) = 90 by decide), un _ (show ¬ (88 : Nat) = 89 by decide), ue, FM.get 88 (by decide) rfl]
      have k89 : τ9 89 = up (τ 89) (cn σ 0 + cn σ 1 + cn σ 2) 2 := by rw [← hτ9, ← hY, un _ (show ¬ (89 : Nat) = 112 by decide), un _ (show ¬ (89 : Nat) = 80 by decide), un _ (show ¬ (89 : Nat) = 90 by decide), ue, un _ (show ¬ (89 : Nat) = 88 by decide), FM.get 89 (by decide) rfl]
      have k90 : τ9 90 = up (τ 90) (cn σ 0 + cn σ 1 + cn σ 2) (cn σ 2 : Int) := by rw [← hτ9, ← hY, un _ (show ¬ (90 : Nat) = 112 by decide), un _ (show ¬ (90 : Nat) = 80 by decide), ue, un _ (show ¬ (90 : Nat) = 89 by decide), un _ (show ¬ (90 : Nat) = 88 by decide), FM.get 90 (by decide) rfl]
      have k112 : τ9 112 = up (τ 112) sd ((cn σ 2 + 1 : Nat) : Int) := by rw [← hτ9, ← hY, ue, un _ (show ¬ (112 : Nat) = 80 by decide), un _ (show ¬ (112 : Nat) = 90 by decide), un _ (show ¬ (112 : Nat) = 89 by decide), un _ (show ¬ (112 : Nat) = 88 by decide), FM.get 112 (by decide) rfl]
      have k20 : τ9 80 20 = ((cn σ 0 + cn σ 1 + cn σ 2 + 1 : Nat) : Int) := by rw [← hτ9, ← hY]; rfl
      have kf : ∀ j, [11, 13, 14, 15, 16, 20].contains j = false → τ9 80 j = τ 80 j := fun j hj => by
        rw [G9.fld j (fr_sub (a := [20]) (b := [11, 13, 14, 15, 16, 20]) rfl hj), FM.fld j (fr_sub (a := [11, 13, 14, 15, 16]) (b := [11, 13, 14, 15, 16, 20]) rfl hj)]
      have k47 : σ9 47 = σ8 47 := F9.get 47 (by decide) rfl
      have cs : cnS 2 σ σ9 := cnS_of k28
      have ci : CI σ9 τ9 sd := by
        refine hC.add (s0 := 2) (by omega) clt l1 k28 (by rw [k29, ← l2]; rfl) k88 k89 k90 ⟨?_, ?_, ?_, ?_, ?_, ?_⟩ k20 (kf 19 rfl) (kf 12 rfl) ?_ (kf 56 rfl) (kf 40 rfl) ?_
        · rw [G9.get 91 (by decide) rfl, FM.get 91 (by decide) rfl, k28, upa, if_neg (by decide)]; exact hC.2.2.1.1
        · rw [G9.get 95 (by decide) rfl, FM.get 95 (by decide) rfl, k28, upa, if_neg (by decide)]; exact hC.2.2.1.2.1
        · rw [k112, k28, upe, upe]
        · rw [G9.get 115 (by decide) rfl, FM.get 115 (by decide) rfl, k28, upa, if_neg (by decide)]; exact hC.2.2.1.2.2.2.1
        · rw [G9.get 118 (by decide) rfl, FM.get 118 (by decide) rfl, k28, upa, if_neg (by decide)]; exact hC.2.2.1.2.2.2.2.1
        · rw [G9.get 104 (by decide) rfl, FM.get 104 (by decide) rfl, k28, upa, if_neg (by decide)]; exact hC.2.2.1.2.2.2.2.2
        · rw [F9.get 27 (by decide) rfl, FC.get 27 (by decide) rfl]
        · rw [k47]; exact CX.2.2.2 q8
      have ps : PS N σ9 τ9 := t3.1.ag (F9.get 4 (by decide) rfl) (F9.get 5 (by decide) rfl) (F9.get 6 (by decide) rfl) (fun j _ => by rw [k47]) (G9.get 83 (by decide) rfl) (G9.get 84 (by decide) rfl) (G9.get 85 (by decide) rfl) (G9.get 86 (by decide) rfl) (fun j hj => G9.fld j (by
        cases hc : [20].contains j with
        | false => rfl
        | true =>
          have : j = 20 := by simpa using hc
          rw [this] at hj
          cases hj))
      refine ⟨σ9, τ9, run σ9 (Or.inr ⟨u1, ?_⟩), mhead _ ?_, ⟨ps, fun _ => ⟨ci, fun y => ?_⟩⟩, (FC.mono rfl rfl).tr (F9.mono rfl rfl), M9, fun _ => ?_⟩
      · rw [← hσ9]; exact c_addBelly X clt c8
      · rw [a2, bsome, if_neg (fun q => q z13), m191 τ9 ?_, bsome, bq_92_238]
        have h13 := f10.2.1.2
        rw [if_pos (le_of_eq0 h13), e91, t02, NT, bsome, y19, if_pos sr, tn_nat, y91, w32_s1 (Nat.lt_of_le_of_lt clt (by decide)), hτ9]
      · have y8 : ok0 σ8 := ⟨q8, by rw [← k47]; exact y⟩
        have y2 : ok0 σ2 := Cx.tr (d0c.cx.tr (d1c.cx.tr (t3.cx))) ⟨Fr.rf, fun _ => ⟨rfl, rfl⟩, fun q => q, fun _ => Int.le_refl _⟩ |>.2.2.1 y8
        have y0 : ok0 σ := CX.2.2.1 y8
        obtain ⟨T1, T2, T3, T4, T5, T6, T7⟩ := hT y0.2
        have w0 : s0 = r0 := d0f ((d1c.cx.tr (t3.cx)).2.2.1 y8)
        have w1 : s1 = r1 := d1f ((t3.cx).2.2.1 y8)
        refine ⟨un_add (by omega) hC.2.1.1 clt T1 (fun s _ => cs s) (by rw [k29]; rfl) (fun s j hs hj => ?_), ?_, ?_, fun d hd => ?_, ?_, ?_, ?_⟩
        · have := b5 y2 s j hs (by unfold cn; rw [g28]; exact hj)
          rwa [g29] at this
        · exact T2.ag (by rw [cs 0, if_neg (by decide)]) (by rw [F9.get 30 (by decide) rfl, FC.get 30 (by decide) rfl]) (by rw [F9.get 31 (by decide) rfl, FC.get 31 (by decide) rfl]) (by rw [F9.get 32 (by decide) rfl, FC.get 32 (by decide) rfl]) (by rw [G9.get 92 (by decide) rfl, FM.get 92 (by decide) rfl]) (by rw [G9.get 93 (by decide) rfl, FM.get 93 (by decide) rfl]) (by rw [G9.get 94 (by decide) rfl, FM.get 94 (by decide) rfl])
        · rw [cs 1, if_neg (by decide)]
          exact T3.ag (fun k k1 k2 => by rw [F9.get k (by omega) (by rcases (show k = 33 ∨ k = 34 ∨ k = 35 ∨ k = 36 ∨ k = 37 ∨ k = 38 ∨ k = 39 by omega) with e | e | e | e | e | e | e <;> subst e <;> rfl), FC.get k (by omega) (by rcases (show k = 33 ∨ k = 34 ∨ k = 35 ∨ k = 36 ∨ k = 37 ∨ k = 38 ∨ k = 39 by omega) with e | e | e | e | e | e | e <;> subst e <;> rfl)]) (fun k k1 k2 => by rw [G9.get k (by omega) (by rcases (show k = 96 ∨ k = 97 ∨ k = 98 ∨ k = 99 ∨ k = 100 ∨ k = 101 ∨ k = 102 ∨ k = 103 by omega) with e | e | e | e | e | e | e | e <;> subst e <;> rfl), FM.get k (by omega) (by rcases (show k = 96 ∨ k = 97 ∨ k = 98 ∨ k = 99 ∨ k = 100 ∨ k = 101 ∨ k = 102 ∨ k = 103 by omega) with e | e | e | e | e | e | e | e <;> subst e <;> rfl)])
        · rw [cs 2, if_pos rfl] at hd
          have z113 : τ9 113 = up (τ 113) (6 * sd + cn σ 2) s0 := by rw [G9.get 113 (by decide) rfl, t3.2.1.2.get 113 (by decide) rfl, un _ (show ¬ (113 : Nat) = 114 by decide), d1c.2.1.2.get 113 (by decide) rfl, ue, d0c.2.1.2.get 113 (by decide) rfl, b3.2.1.2.get 113 (by decide) rfl, fm1.get 113 (by decide) rfl]
          have z114 : τ9 114 = up (τ 114) (6 * sd + cn σ 2) s1 := by rw [G9.get 114 (by decide) rfl, t3.2.1.2.get 114 (by decide) rfl, ue, d1c.2.1.2.get 114 (by decide) rfl, un _ (show ¬ (114 : Nat) = 113 by decide), d0c.2.1.2.get 114 (by decide) rfl, b3.2.1.2.get 114 (by decide) rfl, fm1.get 114 (by decide) rfl]
          rw [z113, z114, k41, k42]
          by_cases e : d = cn σ 2
          · subst e
            rw [upe, upe, upe, upe]
            exact ⟨⟨w0, w1⟩, d0d.1, d0d.2, d1d.1, d1d.2⟩
          · rw [upa, upa, upa, upa, if_neg (fun q => e (Nat.add_left_cancel q)), if_neg (fun q => e (Nat.add_left_cancel q)), if_neg e, if_neg e]
            exact T4 d (Nat.lt_of_le_of_ne (Nat.le_of_lt_succ hd) e)
        · exact T5.ag (by rw [cs 3, if_neg (by decide)]) (by rw [cs 1, if_neg (by decide)]; exact Nat.le_refl _) (by rw [F9.get 43 (by decide) rfl, FC.get 43 (by decide) rfl]) (by rw [F9.get 44 (by decide) rfl, FC.get 44 (by decide) rfl]) (by rw [G9.get 116 (by decide) rfl, FM.get 116 (by decide) rfl]) (by rw [G9.get 117 (by decide) rfl, FM.get 117 (by decide) rfl])
        · exact T6.ag (by rw [cs 4, if_neg (by decide)]) (by rw [F9.get 40 (by decide) rfl, FC.get 40 (by decide) rfl]) (by rw [G9.get 119 (by decide) rfl, FM.get 119 (by decide) rfl]) (by rw [G9.get 120 (by decide) rfl, FM.get 120 (by decide) rfl]) (by rw [G9.get 121 (by decide) rfl, FM.get 121 (by decide) rfl])
        · exact T7.ag (by rw [F9.get 27 (by decide) rfl, FC.get 27 (by decide) rfl]) (by rw [F9.get 45 (by decide) rfl, FC.get 45 (by decide) rfl]) (by rw [F9.get 46 (by decide) rfl, FC.get 46 (by decide) rfl]) (fun k k1 k2 => by rw [G9.get k (by omega) (by rcases (show k = 105 ∨ k = 106 ∨ k = 107 ∨ k = 108 ∨ k = 109 ∨ k = 110 ∨ k = 111 by omega) with e | e | e | e | e | e | e <;> subst e <;> rfl), FM.get k (by omega) (by rcases (show k = 105 ∨ k = 106 ∨ k = 107 ∨ k = 108 ∨ k = 109 ∨ k = 110 ∨ k = 111 by omega) with e | e | e | e | e | e | e <;> subst e <;> rfl)]) (by rw [G9.get 122 (by decide) rfl, FM.get 122 (by decide) rfl]) (by rw [G9.get 123 (by decide) rfl, FM.get 123 (by decide) rfl]) (kf 56 rfl) (kf 40 rfl)
      · have := CX1.2.2.2 q8
        rw [k47]
        omega
  · have u2 : ¬ σ8 47 6 = 0 := fun q => z1 (CX1.z0 q)
    have u1 : b = 0 := by
      rcases t5 with ⟨u1, -⟩ | ⟨-, t9, f9, -⟩
      · exact u1
      · exact absurd (Cx.z0 (b3.cx.tr (d0c.cx.tr (d1c.cx))) f9.2.1.1) z1
    refine ⟨σ8, τ1, run _ (Or.inl ⟨u1, rfl⟩), mhead _ ?_, SI.bad (a3.1.stayC z1 CX1) u2, FC.mono rfl rfl, MG.sm fm1, fun q => absurd q u2⟩
    have := a5 z1
    rw [a2, bsome, if_pos (by omega), bq_92_238]
end PF
