/-! CALLS: soonest, least, crowd -/
section QP
variable {X l g s h : Nat} {σ T : am_Sg} {F : LF} {sc : Nat → Int} {w : Int}
/-- the class's day, where the worth is of no account: it ends early -/
theorem c_day0 (S : ScOk T sc) (hg : g < 2) (hs2 : s < 256) : ∀ (n k : Nat) (W : Nat → Int) (σ : am_Sg), h + k + n = 24 → RT X σ T l F → rs (σ 52) = hrN T sc k → σ 70 6 = (s : Int) → σ 70 7 = (g : Int) → σ 70 8 = 0 → PW s 0 W → (∀ j, j < 256 → σ 71 j = W j) → ∃ σ', vv X 138 50 [some (vP 70), none, none, none, none, some (vI (-2)), some (vI ((h + k : Nat) : Int))] [] σ = some (some (vI (sooF T F sc g 0 s h n k W)), σ') ∧ Fr [52, 53, 54, 58, 59, 71, 72] [] σ σ' ∧ ∀ j, j < 256 → σ' 71 j = plE T F sc g 0 s n k W j
  | 0, k, W, σ, e, R, hs, h6, h7, h8, hW, hw => by
    refine ⟨σ, ?_, Fr.rf, hw⟩
    rw [bq_138_50, if_pos (by omega)]
    rfl
  | n + 1, k, W, σ, e, R, hs, h6, h7, h8, hW, hw => by
    have H := R.2.1
    have hF := R.2.2.2.2.2
    have Sk := ScOk.hrN H S k
    obtain ⟨σ1, e1, f1, w1⟩ := c_planHour R hs Sk hg h6 h7 h8 hs2 hW hw
    have R1 := R.fr f1 rfl rfl rfl
    have ok := plP_ok hs2 H.m8 (vlS_ok (sc := hrN T sc k) (g := g) (w := 0) H hF) hW s (by omega)
    have k6 : σ1 70 6 = (s : Int) := by rw [f1.get 70 (by decide) rfl]; exact h6
    have k7 : σ1 70 7 = (g : Int) := by rw [f1.get 70 (by decide) rfl]; exact h7
    have k8 : σ1 70 8 = 0 := by rw [f1.get 70 (by decide) rfl]; exact h8
    have hs1 : rs (σ1 52) = hrN T sc k := by rw [f1.get 52 (by decide) rfl]; exact hs
    rw [bq_138_50, if_neg (by omega), e1, bsome, if_neg (fun q => q rfl), k6, if_pos (by omega), tn_nat, w1 s hs2, NR_e]
    unfold sooF plE
    by_cases z : plP (vlS T F (hrN T sc k) g 0) s (nM T) W s s = NR
    · rw [if_pos z, if_pos z, if_pos z, bq_138_86, if_pos rfl, bq_138_103]
      obtain ⟨σ2, e2, f2, p2⟩ := c_hourT R1 hs1 Sk
      obtain ⟨σ3, e3, f3, w3⟩ := c_day0 S hg hs2 n (k + 1) _ σ2 (by omega) (R1.fr f2 rfl rfl rfl) p2 (by rw [f2.get 70 (by decide) rfl]; exact k6) (by rw [f2.get 70 (by decide) rfl]; exact k7) (by rw [f2.get 70 (by decide) rfl]; exact k8) ok (fun j hj => by rw [f2.get 71 (by decide) rfl]; exact w1 j hj)
      rw [e2, bsome, w32_s1 (by omega)]
      exact ⟨σ3, e3, ((f1.mono rfl rfl).tr (f2.mono rfl rfl)).tr f3, w3⟩
    · rw [if_neg z, if_neg z, if_neg z, bq_138_86, if_neg (by omega), k8, if_neg (fun q => q rfl)]
      exact ⟨σ1, rfl, f1.mono rfl rfl, w1⟩
/-- the class's whole day -/
theorem c_day1 (S : ScOk T sc) (hg : g < 2) (hs2 : s < 256) (hw0 : ¬ w = 0) : ∀ (n k : Nat) (x : Int) (W : Nat → Int) (σ : am_Sg), h + k + n = 24 → RT X σ T l F → rs (σ 52) = hrN T sc k → σ 70 6 = (s : Int) → σ 70 7 = (g : Int) → σ 70 8 = w → PW s w W → (∀ j, j < 256 → σ 71 j = W j) → ∃ v σ', vv X 138 50 [some (vP 70), none, none, none, none, some (vI x), some (vI ((h + k : Nat) : Int))] [] σ = some (some (vI v), σ') ∧ Fr [52, 53, 54, 58, 59, 71, 72] [] σ σ' ∧ ∀ j, j < 256 → σ' 71 j = plH T F sc g w s n k W j
  | 0, k, x, W, σ, e, R, hs, h6, h7, h8, hW, hw => by
    refine ⟨x, σ, ?_, Fr.rf, hw⟩
    rw [bq_138_50, if_pos (by omega)]
  | n + 1, k, x, W, σ, e, R, hs, h6, h7, h8, hW, hw => by
    have H := R.2.1
    have hF := R.2.2.2.2.2
    have Sk := ScOk.hrN H S k
    obtain ⟨σ1, e1, f1, w1⟩ := c_planHour R hs Sk hg h6 h7 h8 hs2 hW hw
    have R1 := R.fr f1 rfl rfl rfl
    have ok := plP_ok hs2 H.m8 (vlS_ok (sc := hrN T sc k) (g := g) (w := w) H hF) hW s (by omega)
    have k6 : σ1 70 6 = (s : Int) := by rw [f1.get 70 (by decide) rfl]; exact h6
    have k7 : σ1 70 7 = (g : Int) := by rw [f1.get 70 (by decide) rfl]; exact h7
    have k8 : σ1 70 8 = w := by rw [f1.get 70 (by decide) rfl]; exact h8
    have hs1 : rs (σ1 52) = hrN T sc k := by rw [f1.get 52 (by decide) rfl]; exact hs
    obtain ⟨σ2, e2, f2, p2⟩ := c_hourT R1 hs1 Sk
    have go : ∀ y, ∃ v σ', vv X 138 86 [some (vP 70), none, none, none, none, some (vI y), some (vI ((h + k : Nat) : Int))] [] σ1 = some (some (vI v), σ') ∧ Fr [52, 53, 54, 58, 59, 71, 72] [] σ σ' ∧ ∀ j, j < 256 → σ' 71 j = plH T F sc g w s (n + 1) k W j := by
      intro y
      obtain ⟨v, σ3, e3, f3, w3⟩ := c_day1 S hg hs2 hw0 n (k + 1) y _ σ2 (by omega) (R1.fr f2 rfl rfl rfl) p2 (by rw [f2.get 70 (by decide) rfl]; exact k6) (by rw [f2.get 70 (by decide) rfl]; exact k7) (by rw [f2.get 70 (by decide) rfl]; exact k8) ok (fun j hj => by rw [f2.get 71 (by decide) rfl]; exact w1 j hj)
      have b : vv X 138 103 [some (vP 70), none, none, none, none, some (vI y), some (vI ((h + k : Nat) : Int))] [] σ1 = some (some (vI v), σ3) := by
        rw [bq_138_103, e2, bsome, w32_s1 (by omega)]
        exact e3
      refine ⟨v, σ3, ?_, ((f1.mono rfl rfl).tr (f2.mono rfl rfl)).tr f3, w3⟩
      rw [bq_138_86, b, k8, if_pos hw0]
      split <;> rfl
    rw [bq_138_50, if_neg (by omega), e1, bsome, k6, if_pos (show 0 ≤ (s : Int) ∧ (s : Int) < 256 by omega)]
    by_cases z1 : x = -2
    · rw [if_neg (fun q => q z1)]
      split
      · exact go _
      · exact go _
    · rw [if_pos z1]
      exact go _
theorem m_starts (K : TM σ T l) : ∃ σ', vcV X 140 [vP 80] σ = some σ' ∧ Fr [128, 134] [] σ σ' ∧ rs (σ' 128) = rs (σ 127) ∧ ∀ j, j < 256 → σ' 134 j = sO (W0 j) := by
  obtain ⟨σ1, e1, f1, p1⟩ := m_takes (X := X) (σ := σ)
  have L := cpl0 (fun i s => vv X 140 6 [some (vP 80), some (vI (i : Int))] [] s) 134 0 256 0 (fun i => if i = 0 then 0 else 1000000) σ1 (by omega) (fun i hi r => by
    show vv X 140 6 [some (vP 80), some (vI (i : Int))] [] _ = _
    rw [bq_140_6, if_neg (by omega)]
    by_cases z : i = 0
    · rw [if_neg (by omega), bq_140_29, if_pos (by omega), w32_s1 (by omega), tn_nat, Nat.zero_add, if_pos z]
    · rw [if_pos (by omega), bq_140_29, if_pos (by omega), w32_s1 (by omega), tn_nat, Nat.zero_add, if_neg z])
  generalize hr : (fun j => if 0 + 0 ≤ j ∧ j < 0 + 256 then (fun i => if i = 0 then (0 : Int) else 1000000) (j - 0) else σ1 134 j) = r at L
  refine ⟨am_row σ1 134 r, vV_of ((bq_140_0 X σ).trans ?_) rfl, (f1.mono rfl rfl).row rfl (by decide), ?_, fun j hj => ?_⟩
  · rw [e1, bsome]
    refine Eq.trans L ?_
    show vv X 140 6 [some (vP 80), some (vI 256)] [] _ = _
    rw [bq_140_6, if_pos (by omega)]
  · rw [rn _ (by decide)]
    exact p1
  · rw [re, ← hr]
    dsimp only
    rw [if_pos (by omega), Nat.sub_zero]
    unfold W0 sO
    by_cases z : j = 0
    · rw [if_pos z, if_pos z]
      rfl
    · rw [if_neg z, if_neg z, if_pos rfl]
/-- the reference's hours, until all have passed -/
theorem m_day0 (S : ScOk T sc) (hg : g < 2) (hs2 : s < 256) (h44 : sc 44 = (h : Int)) : ∀ (n k : Nat) (W : Nat → Int) (σ : am_Sg), h + k + n = 24 → RT X σ T l F → rs (σ 128) = hrN T sc k → σ 127 45 = sc 45 → PW s 0 W → (∀ j, j < 256 → σ 134 j = sO (W j)) → ∃ σ', vv X 38 21 [some (vP 80), some (vI (s : Int)), some (vI (g : Int))] [] σ = some (some (vI (sooF T F sc g 0 s h n k W)), σ') ∧ Fr [125, 126, 128, 129, 134] [63] σ σ'
  | 0, k, W, σ, e, R, hs, h45, hW, hw => by
    have e45 : σ 128 45 = hrN T sc k 45 := by rw [← hs, rs_in (by omega)]
    refine ⟨σ, ?_, Fr.rf⟩
    rw [bq_38_21, e45, h45, if_pos (hrN_next R.2.1 S h44 (by omega))]
    rfl
  | n + 1, k, W, σ, e, R, hs, h45, hW, hw => by
    have H := R.2.1
    have hF := R.2.2.2.2.2
    have Sk := ScOk.hrN H S k
    have dd := hrN_day H h44 k (by omega)
    have e45 : σ 128 45 = sc 45 := by rw [← dd.2, ← hs, rs_in (by omega)]
    obtain ⟨σ1, e1, f1, w1⟩ := m_passMore R hs Sk hg (Or.inl rfl) hs2 hW hw
    have R1 := R.fr f1 rfl rfl rfl
    have ok := plP_ok hs2 H.m8 (vlS_ok (sc := hrN T sc k) (g := g) (w := 0) H hF) hW s (by omega)
    have hs1 : rs (σ1 128) = hrN T sc k := by rw [f1.get 128 (by decide) rfl]; exact hs
    have e44 : σ1 128 44 = ((h + k : Nat) : Int) := by rw [← dd.1, ← hs1, rs_in (by omega)]
    have oks := ok s hs2
    have bs := bc_bd hs2 8 (by omega)
    rw [bq_38_21, e45, h45, if_neg (fun q => q rfl), e1, bsome, if_pos (by omega), tn_nat, w1 s hs2, e44]
    unfold sooF
    by_cases z : plP (vlS T F (hrN T sc k) g 0) s (nM T) W s s = NR
    · have far : 1000000 ≤ sO (plP (vlS T F (hrN T sc k) g 0) s (nM T) W s s) := by
        unfold sO
        rw [if_pos z]
        omega
      obtain ⟨σ2, e2, f2, p2⟩ := m_hourT R1 hs1 Sk
      obtain ⟨σ3, e3, f3⟩ := m_day0 S hg hs2 h44 n (k + 1) _ σ2 (by omega) (R1.fr f2 rfl rfl rfl) p2 (by rw [f2.get 127 (by decide) rfl, f1.get 127 (by decide) rfl]; exact h45) ok (fun j hj => by rw [f2.get 134 (by decide) rfl]; exact w1 j hj)
      rw [if_pos far, e2, bsome, if_pos z]
      exact ⟨σ3, e3, ((f1.mono rfl rfl).tr (f2.mono rfl rfl)).tr f3⟩
    · have far : ¬ 1000000 ≤ sO (plP (vlS T F (hrN T sc k) g 0) s (nM T) W s s) := by
        unfold sO
        rw [if_neg z]
        unfold NR at *
        omega
      rw [if_neg far, if_neg z]
      exact ⟨σ1, rfl, f1.mono rfl rfl⟩
theorem m_day1 (S : ScOk T sc) (hg : g < 2) (hs2 : s < 256) (hw3 : w = 0 ∨ w = 1 ∨ w = 2) (h44 : sc 44 = (h : Int)) : ∀ (n k : Nat) (W : Nat → Int) (σ : am_Sg), h + k + n = 24 → RT X σ T l F → rs (σ 128) = hrN T sc k → σ 127 45 = sc 45 → PW s w W → (∀ j, j < 256 → σ 134 j = sO (W j)) → ∃ σ', vv X 143 4 [some (vP 80), some (vI (s : Int)), some (vI (g : Int)), some (vI w)] [] σ = some (none, σ') ∧ Fr [125, 126, 128, 129, 134] [63] σ σ' ∧ ∀ j, j < 256 → σ' 134 j = sO (plH T F sc g w s n k W j)
  | 0, k, W, σ, e, R, hs, h45, hW, hw => by
    have e45 : σ 128 45 = hrN T sc k 45 := by rw [← hs, rs_in (by omega)]
    refine ⟨σ, ?_, Fr.rf, hw⟩
    rw [bq_143_4, e45, h45, if_pos (hrN_next R.2.1 S h44 (by omega))]
  | n + 1, k, W, σ, e, R, hs, h45, hW, hw => by
    have H := R.2.1
    have hF := R.2.2.2.2.2
    have Sk := ScOk.hrN H S k
    have dd := hrN_day H h44 k (by omega)
    have e45 : σ 128 45 = sc 45 := by rw [← dd.2, ← hs, rs_in (by omega)]
    obtain ⟨σ1, e1, f1, w1⟩ := m_passMore R hs Sk hg hw3 hs2 hW hw
    have R1 := R.fr f1 rfl rfl rfl
    have ok := plP_ok hs2 H.m8 (vlS_ok (sc := hrN T sc k) (g := g) (w := w) H hF) hW s (by omega)
    have hs1 : rs (σ1 128) = hrN T sc k := by rw [f1.get 128 (by decide) rfl]; exact hs
    obtain ⟨σ2, e2, f2, p2⟩ := m_hourT R1 hs1 Sk
    obtain ⟨σ3, e3, f3, w3⟩ := m_day1 S hg hs2 hw3 h44 n (k + 1) _ σ2 (by omega) (R1.fr f2 rfl rfl rfl) p2 (by rw [f2.get 127 (by decide) rfl, f1.get 127 (by decide) rfl]; exact h45) ok (fun j hj => by rw [f2.get 134 (by decide) rfl]; exact w1 j hj)
    refine ⟨σ3, ?_, ((f1.mono rfl rfl).tr (f2.mono rfl rfl)).tr f3, w3⟩
    rw [bq_143_4, e45, h45, if_neg (fun q => q rfl), e1, bsome, e2, bsome]
    exact e3
/-- where a plan begins, in the class -/
theorem c_pl0 (R : RT X σ T l F) (hN : RN σ T) {x2 x3 x4 : Int} {t : Nat} (e44 : rs (σ 127) 44 = (t : Int)) : ∃ σ', vv X 138 0 [some (vP 70), some (vP 49), some (vI x2), some (vI x3), some (vI x4), none, none] [] σ = vv X 138 50 [some (vP 70), none, none, none, none, some (vI (-2)), some (vI ((t + 0 : Nat) : Int))] [] σ' ∧ Fr [52, 70, 71] [] σ σ' ∧ rs (σ' 52) = rs (σ 127) ∧ σ' 70 6 = x2 ∧ σ' 70 7 = x3 ∧ σ' 70 8 = x4 ∧ ∀ j, j < 256 → σ' 71 j = W0 j := by
  obtain ⟨σ0, e0, f0, p0⟩ := c_trial (X := X) (σ := σ)
  generalize hr : (fun j => if j < 256 then -1000000000 else (am_upd (am_upd (am_upd σ0 70 6 x2) 70 7 x3) 70 8 x4) 71 j) = r
  have e50 : (am_upd (am_row (am_upd (am_upd (am_upd σ0 70 6 x2) 70 7 x3) 70 8 x4) 71 r) 71 0 0) 50 44 = ((t + 0 : Nat) : Int) := by
    rw [un _ (by decide), rn _ (by decide), un _ (by decide), un _ (by decide), un _ (by decide), f0.get 50 (by decide) rfl, hN.at (by omega), ← rs_in (f := σ 127) (show 44 < 46 by omega), e44]
    rfl
  refine ⟨am_upd (am_row (am_upd (am_upd (am_upd σ0 70 6 x2) 70 7 x3) 70 8 x4) 71 r) 71 0 0, ?_, ?_, ?_, ?_, ?_, ?_, fun j hj => ?_⟩
  · rw [bq_138_0, e0, bsome, bq_138_18, fl_71, bsome, hr, g_hourA, bsome]
    dsimp +instances only
    rw [e50]
  · exact (((((f0.mono rfl rfl).upd rfl (by decide)).upd rfl (by decide)).upd rfl (by decide)).row rfl (by decide)).upd rfl (by decide)
  · rw [un _ (by decide), rn _ (by decide), un _ (by decide), un _ (by decide), un _ (by decide), p0]
    exact hN.1
  · simp [ua, ra]
  · simp [ua, ra]
  · simp [ua, ra]
  · rw [ue, re, upa, ← hr]
    unfold W0
    by_cases z : j = 0
    · rw [if_pos z, if_pos z]
    · rw [if_neg z, if_neg z]
      exact if_pos hj
theorem set_lt (H : TOk T) {x : Int} (h : 0 ≤ x ∧ x < ((2 ^ nM T : Nat) : Int)) : ∃ s : Nat, x = (s : Int) ∧ s < 256 := ⟨x.toNat, by omega, by have := pow8 H.m8; omega⟩
theorem q_soonest (h : Rel X σ) (x y : Int) : Qc X 37 38 [vI x, vI y] σ := by
  obtain ⟨T, l, F, R, hN, -⟩ := id h
  have hT := R.1
  have H := R.2.1
  have K := R.2.2.1
  by_cases hx : 0 ≤ x ∧ x < ((2 ^ nM T : Nat) : Int)
  · by_cases hg : 0 ≤ y ∧ y ≤ 1
    · obtain ⟨s, rfl, hs2⟩ := set_lt H hx
      obtain ⟨g, rfl, hg'⟩ := nat_of (n := 2) (show 0 ≤ y ∧ y < ((2 : Nat) : Int) by omega)
      obtain ⟨t, e44, ht⟩ := ScOk.h44 hN.2
      obtain ⟨σ0, e0, f0, p0, k6, k7, k8, w0⟩ := c_pl0 (X := X) (x2 := (s : Int)) (x3 := (g : Int)) (x4 := 0) R hN e44
      obtain ⟨σ1, e1, f1, w1⟩ := c_day0 (X := X) (sc := rs (σ 127)) (h := t) hN.2 hg' hs2 (24 - t) 0 W0 σ0 (by omega) (R.fr f0 rfl rfl rfl) p0 k6 k7 k8 (W0_ok hs2) w0
      have fC : Fr [52, 53, 54, 58, 59, 70, 71, 72] [] σ σ1 := (f0.mono rfl rfl).tr (f1.mono rfl rfl)
      have R1 := R.fr fC rfl rfl rfl
      obtain ⟨σ2, e2, f2, p2, w2⟩ := m_starts (X := X) R1.2.2.1
      obtain ⟨σ3, e3, f3⟩ := m_day0 (X := X) (sc := rs (σ 127)) (h := t) hN.2 hg' hs2 e44 (24 - t) 0 W0 σ2 (by omega) (R1.fr f2 rfl rfl rfl) (by rw [p2, fC.get 127 (by decide) rfl]; rfl) (by rw [f2.get 127 (by decide) rfl, fC.get 127 (by decide) rfl, rs_in (by omega)]) (W0_ok hs2) w2
      refine ⟨sooF T F (rs (σ 127)) g 0 s t (24 - t) 0 W0, σ1, σ3, vI_of ((bq_37_0 X _ _ σ).trans ?_) rfl, vI_of ((bq_38_0 X _ _ σ1).trans ?_) rfl, h.scr (((fC.mono rfl rfl).tr (f2.mono rfl rfl)).tr (f3.mono rfl rfl))⟩
      · rw [c_isSet H hT, bsome]
        dsimp +instances only
        rw [if_pos hx, if_neg i10, g_gateC, bsome]
        dsimp +instances only
        rw [if_pos hg, if_pos i10, vI_of (e0.trans e1) rfl, bsome]
      · rw [m_isSet H R1.2.2.1, bsome]
        dsimp +instances only
        rw [if_pos hx, if_neg i10, g_gateM, bsome]
        dsimp +instances only
        rw [if_pos hg, if_pos i10, e2, bsome]
        exact e3
    · refine Qc.same h ⟨-1, ?_, ?_⟩ rfl rfl
      · refine (bq_37_0 X _ _ _).trans ?_
        rw [c_isSet H hT, bsome]
        dsimp +instances only
        rw [if_pos hx, if_neg i10, g_gateC, bsome]
        dsimp +instances only
        rw [if_neg hg, if_neg (by decide), bq_37_15]
      · refine (bq_38_0 X _ _ _).trans ?_
        rw [m_isSet H K, bsome]
        dsimp +instances only
        rw [if_pos hx, if_neg i10, g_gateM, bsome]
        dsimp +instances only
        rw [if_neg hg, if_neg (by decide), bq_38_15]
  · refine Qc.same h ⟨-1, ?_, ?_⟩ rfl rfl
    · refine (bq_37_0 X _ _ _).trans ?_
      rw [c_isSet H hT, bsome]
      dsimp +instances only
      rw [if_neg hx, if_pos rfl, bq_37_15]
    · refine (bq_38_0 X _ _ _).trans ?_
      rw [m_isSet H K, bsome]
      dsimp +instances only
      rw [if_neg hx, if_pos rfl, bq_38_15]
theorem m_plans (R : RT X σ T l F) (S : ScOk T (rs (σ 127))) (hg : g < 2) (hs2 : s < 256) (hw3 : w = 0 ∨ w = 1 ∨ w = 2) {t : Nat} (e44 : rs (σ 127) 44 = (t : Int)) (ht : t ≤ 23) : ∃ σ', vcV X 143 [vP 80, vI (s : Int), vI (g : Int), vI w] σ = some σ' ∧ Fr [125, 126, 128, 129, 134] [63] σ σ' ∧ ∀ j, j < 256 → σ' 134 j = sO (plH T F (rs (σ 127)) g w s (24 - t) 0 W0 j) := by
  obtain ⟨σ2, e2, f2, p2, w2⟩ := m_starts (X := X) R.2.2.1
  obtain ⟨σ3, e3, f3, w3⟩ := m_day1 (X := X) (sc := rs (σ 127)) (h := t) S hg hs2 hw3 e44 (24 - t) 0 W0 σ2 (by omega) (R.fr f2 rfl rfl rfl) p2 (by rw [f2.get 127 (by decide) rfl, rs_in (by omega)]) (W0_ok hs2) w2
  refine ⟨σ3, vV_of ((bq_143_0 X _ _ _ σ).trans ?_) rfl, (f2.mono rfl rfl).tr f3, w3⟩
  rw [e2, bsome]
  exact e3
theorem q_least (h : Rel X σ) (x y z : Int) : Qc X 39 40 [vI x, vI y, vI z] σ := by
  obtain ⟨T, l, F, R, hN, -⟩ := id h
  have hT := R.1
  have H := R.2.1
  have K := R.2.2.1
  have hF := R.2.2.2.2.2
  by_cases hx : 0 ≤ x ∧ x < ((2 ^ nM T : Nat) : Int)
  · by_cases hg : 0 ≤ y ∧ y ≤ 1
    · obtain ⟨s, rfl, hs2⟩ := set_lt H hx
      obtain ⟨g, rfl, hg'⟩ := nat_of (n := 2) (show 0 ≤ y ∧ y < ((2 : Nat) : Int) by omega)
      obtain ⟨t, e44, ht⟩ := ScOk.h44 hN.2
      have key : ∀ w : Int, (w = 1 ∨ w = 2) → (w = if z = 0 then 1 else 2) → ∃ v σ1 σ2, vv X 39 36 [some (vP 0), none, none, none] [vI w, vI (g : Int), vI (s : Int), vP 49, vP 70] σ = some (some (vI v), σ1) ∧ vv X 40 29 [some (vP 80), some (vI (s : Int)), none, some (vI z)] [vI w, vI (g : Int), vI (s : Int), vP 80] σ1 = some (some (vI v), σ2) ∧ Fr [52, 53, 54, 58, 59, 70, 71, 72] [] σ σ1 ∧ Fr [125, 126, 128, 129, 134] [63] σ1 σ2 := by
        intro w hw12 hwz
        obtain ⟨σ0, e0, f0, p0, k6, k7, k8, w0⟩ := c_pl0 (X := X) (x2 := (s : Int)) (x3 := (g : Int)) (x4 := w) R hN e44
        obtain ⟨v, σ1, e1, f1, w1⟩ := c_day1 (X := X) (sc := rs (σ 127)) (h := t) hN.2 hg' hs2 (show ¬ w = 0 by omega) (24 - t) 0 (-2) W0 σ0 (by omega) (R.fr f0 rfl rfl rfl) p0 k6 k7 k8 (W0_ok hs2) w0
        have fC : Fr [52, 53, 54, 58, 59, 70, 71, 72] [] σ σ1 := (f0.mono rfl rfl).tr (f1.mono rfl rfl)
        have R1 := R.fr fC rfl rfl rfl
        have eN : rs (σ1 127) = rs (σ 127) := by rw [fC.get 127 (by decide) rfl]
        obtain ⟨σ2, e2, f2, w2⟩ := m_plans (X := X) (w := w) R1 (by rw [eN]; exact hN.2) hg' hs2 (by omega) (by rw [eN]; exact e44) ht
        rw [eN] at w2
        have ok := plH_ok (sc := rs (σ 127)) (g := g) (w := w) H hF hs2 (24 - t) 0 W0 (W0_ok hs2) s hs2
        have q1 := w1 s hs2
        have q2 := w2 s hs2
        generalize plH T F (rs (σ 127)) g w s (24 - t) 0 W0 s = P at ok q1 q2
        have bs := bc_bd hs2 8 (by omega)
        have k61 : σ1 70 6 = (s : Int) := by rw [f1.get 70 (by decide) rfl]; exact k6
        have c142 : vcI X 142 [vP 70] σ1 = some (if P = NR then -2 else if 0 ≤ P then P else -P, σ1) := by
          refine vI_of ((bq_142_0 X σ1).trans ?_) rfl
          rw [k61, if_pos (by omega), tn_nat, q1, NR_e, bq_142_31, bq_142_31]
          by_cases u : P = NR
          · rw [if_neg (fun q => q u), if_pos u]
          · rw [if_pos u, if_neg u]
            by_cases u2 : 0 ≤ P
            · rw [if_pos u2, if_pos u2]
            · rw [if_neg u2, if_neg u2, w32_id (by unfold NR at ok u; omega) (by unfold NR at ok u; omega), Int.zero_sub]
        refine ⟨if P = NR then -2 else if 0 ≤ P then P else -P, σ1, σ2, ?_, ?_, fC, f2⟩
        · rw [bq_39_36, vI_of (e0.trans e1) rfl, bsome]
          dsimp +instances only
          rw [c142, bsome]
        · rw [bq_40_29, e2, bsome, if_pos (by omega), tn_nat, q2, bq_40_69, bq_40_69, bq_40_69]
          unfold sO
          by_cases u : P = NR
          · rw [if_pos u, if_neg (fun q => q rfl), if_pos u]
          · rw [if_neg u, if_neg u]
            have ok' : (-(4752 * bc (s : Int) 8) ≤ P ∧ P ≤ 4752 * bc (s : Int) 8) ∧ subS s s ∧ SG w P := by
              rcases ok with q | q
              · exact absurd q u
              · exact q
            rw [if_pos (by omega)]
            by_cases u2 : z = 0
            · rw [if_pos u2] at hwz
              have := ok'.2.2.2.1 hwz
              rw [if_pos u2]
              congr 3
              by_cases u3 : 0 ≤ P
              · rw [if_pos u3]; congr 1; omega
              · rw [if_neg u3]
            · rw [if_neg u2] at hwz
              have := ok'.2.2.2.2 hwz
              rw [if_neg u2, if_pos this, w32_id (by omega) (by omega), Int.neg_neg]
      have hz : ∃ w : Int, (w = 1 ∨ w = 2) ∧ (w = if z = 0 then 1 else 2) := by
        by_cases u : z = 0
        · exact ⟨1, Or.inl rfl, by rw [if_pos u]⟩
        · exact ⟨2, Or.inr rfl, by rw [if_neg u]⟩
      obtain ⟨w, hw12, hwz⟩ := hz
      obtain ⟨v, σ1, σ2, e1, e2, f1, f2⟩ := key w hw12 hwz
      have R1 := R.fr f1 rfl rfl rfl
      refine ⟨v, σ1, σ2, vI_of ((bq_39_0 X _ _ _ σ).trans ?_) rfl, vI_of ((bq_40_0 X _ _ _ σ1).trans ?_) rfl, h.scr ((f1.mono rfl rfl).tr (f2.mono rfl rfl))⟩
      · rw [c_isSet H hT, bsome]
        dsimp +instances only
        rw [if_pos hx, if_neg i10, g_gateC, bsome]
        dsimp +instances only
        rw [if_pos hg, if_pos i10]
        by_cases u : z = 0
        · rw [if_pos u]
          rw [if_pos u] at hwz
          rw [← hwz]
          exact e1
        · rw [if_neg u]
          rw [if_neg u] at hwz
          rw [← hwz]
          exact e1
      · rw [m_isSet H R1.2.2.1, bsome]
        dsimp +instances only
        rw [if_pos hx, if_neg i10, g_gateM, bsome]
        dsimp +instances only
        rw [if_pos hg, if_pos i10]
        by_cases u : z = 0
        · rw [if_pos u]
          rw [if_pos u] at hwz
          rw [← hwz]
          exact e2
        · rw [if_neg u]
          rw [if_neg u] at hwz
          rw [← hwz]
          exact e2
    · refine Qc.same h ⟨-1, ?_, ?_⟩ rfl rfl
      · refine (bq_39_0 X _ _ _ _).trans ?_
        rw [c_isSet H hT, bsome]
        dsimp +instances only
        rw [if_pos hx, if_neg i10, g_gateC, bsome]
        dsimp +instances only
        rw [if_neg hg, if_neg (by decide), bq_39_15]
      · refine (bq_40_0 X _ _ _ _).trans ?_
        rw [m_isSet H K, bsome]
        dsimp +instances only
        rw [if_pos hx, if_neg i10, g_gateM, bsome]
        dsimp +instances only
        rw [if_neg hg, if_neg (by decide), bq_40_15]
  · refine Qc.same h ⟨-1, ?_, ?_⟩ rfl rfl
    · refine (bq_39_0 X _ _ _ _).trans ?_
      rw [c_isSet H hT, bsome]
      dsimp +instances only
      rw [if_neg hx, if_pos rfl, bq_39_15]
    · refine (bq_40_0 X _ _ _ _).trans ?_
      rw [m_isSet H K, bsome]
      dsimp +instances only
      rw [if_neg hx, if_pos rfl, bq_40_15]
/-- the largest crowd: n sets from k on -/
noncomputable def crF (W : Nat → Int) : Nat → Nat → Nat → Nat
  | 0, _, b => b
  | n + 1, k, b => if W k = NR then crF W n (k + 1) b else if bc (k : Int) 8 ≤ bc (b : Int) 8 then crF W n (k + 1) b else crF W n (k + 1) k
theorem crF_s (W : Nat → Int) (n k b : Nat) : crF W (n + 1) k b = if W k = NR then crF W n (k + 1) b else if bc (k : Int) 8 ≤ bc (b : Int) 8 then crF W n (k + 1) b else crF W n (k + 1) k := rfl
theorem crF_add (W : Nat → Int) : ∀ (n n' k b : Nat), crF W (n + n') k b = crF W n' (k + n) (crF W n k b)
  | 0, n', k, b => by rw [Nat.zero_add]; rfl
  | n + 1, n', k, b => by
    rw [show n + 1 + n' = (n + n') + 1 by omega, crF_s, crF_s, show k + (n + 1) = k + 1 + n by omega]
    split
    · exact crF_add W n n' (k + 1) b
    · split
      · exact crF_add W n n' (k + 1) b
      · exact crF_add W n n' (k + 1) k
theorem crF_none {W : Nat → Int} : ∀ n k b, (∀ j, k ≤ j → j < k + n → W j = NR) → crF W n k b = b
  | 0, _, _, _ => rfl
  | n + 1, k, b, h => by
    unfold crF
    rw [if_pos (h k (by omega) (by omega))]
    exact crF_none n (k + 1) b (fun j h1 h2 => h j (by omega) (by omega))
theorem crF_sub {W : Nat → Int} (hs : s < 256) (hW : PW s w W) : ∀ (n k b : Nat), k + n ≤ 256 → subS b s → b < 256 → subS (crF W n k b) s ∧ crF W n k b < 256
  | 0, _, _, _, h, h2 => ⟨h, h2⟩
  | n + 1, k, b, hk, h, h2 => by
    unfold crF
    split
    · exact crF_sub hs hW n (k + 1) b (by omega) h h2
    next z =>
      split
      · exact crF_sub hs hW n (k + 1) b (by omega) h h2
      · refine crF_sub hs hW n (k + 1) k (by omega) ?_ (by omega)
        rcases hW k (by omega) with q | q
        · exact absurd q z
        · exact q.2.1
theorem crF_all {W : Nat → Int} (hs : s < 256) (hW : PW s w W) (h : ¬ W s = NR) : crF W (s + 1) 0 0 = s := by
  rw [crF_add]
  have k := crF_sub hs hW s 0 0 (by omega) (subS_zero hs) (by omega)
  generalize crF W s 0 0 = b at k ⊢
  unfold crF
  rw [Nat.zero_add, if_neg h]
  have le := subS_le k.2 hs k.1
  by_cases z : b = s
  · rw [z, if_pos (Int.le_refl _)]
    rfl
  · rw [if_neg (by have := le.2 z; omega)]
    rfl
theorem crF_256 {W : Nat → Int} (hs : s < 256) (hW : PW s w W) : crF W 256 0 0 = crF W (s + 1) 0 0 := by
  rw [show 256 = (s + 1) + (255 - s) by omega, crF_add]
  refine crF_none _ _ _ (fun j h1 h2 => ?_)
  rcases hW j (by omega) with q | q
  · exact q
  · have := (subS_le (show j < 256 by omega) hs q.2.1).1
    omega
theorem c_crowd {W : Nat → Int} (h6 : σ 70 6 = (s : Int)) (hs : s < 256) (hw : ∀ j, j < 256 → σ 71 j = W j) : ∀ (n k b : Nat), k + n = s + 1 → b < 256 → vv X 144 4 [some (vP 70), some (vI (b : Int)), some (vI (k : Int))] [] σ = some (some (vI ((crF W n k b : Nat) : Int)), σ)
  | 0, k, b, e, hb => by
    rw [bq_144_4, h6, if_pos (by omega)]
    rfl
  | n + 1, k, b, e, hb => by
    rw [bq_144_4, h6, if_neg (by omega), if_pos (by omega), tn_nat, hw k (by omega), NR_e, bq_144_36, w32_s1 (by omega)]
    unfold crF
    by_cases z : W k = NR
    · rw [if_pos z, if_pos z]
      exact c_crowd h6 hs hw n (k + 1) b (by omega) hb
    · rw [if_neg z, if_neg z, c_bits (by omega), bsome]
      dsimp +instances only
      rw [c_bits hb, bsome]
      dsimp +instances only
      rw [bq_144_36, bq_144_36, w32_s1 (by omega)]
      by_cases y : bc (k : Int) 8 ≤ bc (b : Int) 8
      · rw [if_pos y, if_pos y]
        exact c_crowd h6 hs hw n (k + 1) b (by omega) hb
      · rw [if_neg y, if_neg y]
        exact c_crowd h6 hs hw n (k + 1) k (by omega) (by omega)
theorem m_crowd {W : Nat → Int} {x : Int} (hW : PW s w W) (hw : ∀ j, j < 256 → σ 134 j = sO (W j)) : ∀ (n k b : Nat), k + n = 256 → b < 256 → vv X 42 39 [some (vP 80), none, none, some (vI x), some (vI (b : Int)), some (vI (k : Int))] [] σ = some (some (vI (if x = 0 then bc ((crF W n k b : Nat) : Int) 8 else ((crF W n k b : Nat) : Int))), σ)
  | 0, k, b, e, hb => by
    rw [bq_42_39, if_pos (by omega), bq_42_97, m_bits hb, bsome, bq_42_97]
    unfold crF
    by_cases z : x = 0
    · rw [if_neg (fun q => q z), if_pos z]
    · rw [if_pos z, if_neg z]
  | n + 1, k, b, e, hb => by
    have far : 1000000 ≤ sO (W k) ↔ W k = NR := by
      have := hW k (by omega)
      have bk := bc_bd (show k < 256 by omega) 8 (by omega)
      unfold sO
      unfold NR at *
      split <;> omega
    rw [bq_42_39, if_neg (by omega), if_pos (by omega), tn_nat, hw k (by omega), bq_42_77, w32_s1 (by omega)]
    unfold crF
    by_cases z : W k = NR
    · rw [if_pos (far.mpr z), if_pos z]
      exact m_crowd hW hw n (k + 1) b (by omega) hb
    · rw [if_neg (fun q => z (far.mp q)), if_neg z, m_bits (by omega), bsome]
      dsimp +instances only
      rw [m_bits hb, bsome]
      dsimp +instances only
      rw [bq_42_77, bq_42_77, w32_s1 (by omega)]
      by_cases y : bc (k : Int) 8 ≤ bc (b : Int) 8
      · rw [if_pos y, if_pos y]
        exact m_crowd hW hw n (k + 1) b (by omega) hb
      · rw [if_neg y, if_neg y]
        exact m_crowd hW hw n (k + 1) k (by omega) (by omega)
theorem q_crowd (h : Rel X σ) (x y z : Int) : Qc X 41 42 [vI x, vI y, vI z] σ := by
  obtain ⟨T, l, F, R, hN, -⟩ := id h
  have hT := R.1
  have H := R.2.1
  have K := R.2.2.1
  have hF := R.2.2.2.2.2
  by_cases hx : 0 ≤ x ∧ x < ((2 ^ nM T : Nat) : Int)
  · by_cases hg : 0 ≤ y ∧ y ≤ 1
    · by_cases hz : 0 ≤ z ∧ z ≤ 1
      · obtain ⟨s, rfl, hs2⟩ := set_lt H hx
        obtain ⟨g, rfl, hg'⟩ := nat_of (n := 2) (show 0 ≤ y ∧ y < ((2 : Nat) : Int) by omega)
        obtain ⟨t, e44, ht⟩ := ScOk.h44 hN.2
        obtain ⟨σ0, e0, f0, p0, k6, k7, k8, w0⟩ := c_pl0 (X := X) (x2 := (s : Int)) (x3 := (g : Int)) (x4 := 0) R hN e44
        obtain ⟨σ1, e1, f1, w1⟩ := c_day0 (X := X) (sc := rs (σ 127)) (h := t) hN.2 hg' hs2 (24 - t) 0 W0 σ0 (by omega) (R.fr f0 rfl rfl rfl) p0 k6 k7 k8 (W0_ok hs2) w0
        have fC : Fr [52, 53, 54, 58, 59, 70, 71, 72] [] σ σ1 := (f0.mono rfl rfl).tr (f1.mono rfl rfl)
        have R1 := R.fr fC rfl rfl rfl
        have k61 : σ1 70 6 = (s : Int) := by rw [f1.get 70 (by decide) rfl]; exact k6
        have eN : rs (σ1 127) = rs (σ 127) := by rw [fC.get 127 (by decide) rfl]
        obtain ⟨σ2, e2, f2, w2⟩ := m_plans (X := X) (w := 0) R1 (by rw [eN]; exact hN.2) hg' hs2 (Or.inl rfl) (by rw [eN]; exact e44) ht
        rw [eN] at w2
        have okE := plE_ok (sc := rs (σ 127)) (g := g) (w := 0) H hF hs2 (24 - t) 0 W0 (W0_ok hs2)
        have okH := plH_ok (sc := rs (σ 127)) (g := g) (w := 0) H hF hs2 (24 - t) 0 W0 (W0_ok hs2)
        have EH := plE_H (sc := rs (σ 127)) (g := g) (w := 0) H hF hs2 (24 - t) 0 W0 (W0_ok hs2)
        have cc := c_crowd (X := X) k61 hs2 w1 (s + 1) 0 0 (by omega) (by omega)
        have mm := m_crowd (X := X) (x := z) okH w2 256 0 0 (by omega) (by omega)
        rw [crF_256 hs2 okH] at mm
        have same : crF (plE T F (rs (σ 127)) g 0 s (24 - t) 0 W0) (s + 1) 0 0 = crF (plH T F (rs (σ 127)) g 0 s (24 - t) 0 W0) (s + 1) 0 0 := by
          rcases EH with q | q
          · rw [crF_all hs2 okE q.1, crF_all hs2 okH q.2]
          · rw [q]
        have lt := (crF_sub hs2 okE (s + 1) 0 0 (by omega) (subS_zero hs2) (by omega)).2
        rw [← same] at mm
        generalize crF (plE T F (rs (σ 127)) g 0 s (24 - t) 0 W0) (s + 1) 0 0 = C at cc mm lt
        refine ⟨if z = 0 then bc (C : Int) 8 else (C : Int), σ1, σ2, vI_of ((bq_41_0 X _ _ _ σ).trans ?_) rfl, vI_of ((bq_42_0 X _ _ _ σ1).trans ?_) rfl, h.scr ((fC.mono rfl rfl).tr (f2.mono rfl rfl))⟩
        · rw [c_isSet H hT, bsome]
          dsimp +instances only
          rw [if_pos hx, if_neg i10, g_gateC, bsome]
          dsimp +instances only
          rw [if_pos hg, if_neg i10, if_neg (by omega), if_pos (by omega), vI_of (e0.trans e1) rfl, bsome]
          dsimp +instances only
          rw [vI_of ((bq_144_0 X σ1).trans cc) rfl, bsome]
          dsimp +instances only
          by_cases u : z = 0
          · rw [if_pos (by omega), c_bits lt, bsome, bq_41_65, if_pos u]
          · rw [if_neg (by omega), bq_41_65, if_neg u]
        · rw [m_isSet H R1.2.2.1, bsome]
          dsimp +instances only
          rw [if_pos hx, if_neg i10, g_gateM, bsome]
          dsimp +instances only
          rw [if_pos hg, if_neg i10, g_in, bsome]
          dsimp +instances only
          rw [if_pos hz, if_pos i10, e2, bsome]
          exact mm
      · refine Qc.same h ⟨-1, ?_, ?_⟩ rfl rfl
        · refine (bq_41_0 X _ _ _ _).trans ?_
          rw [c_isSet H hT, bsome]
          dsimp +instances only
          rw [if_pos hx, if_neg i10, g_gateC, bsome]
          dsimp +instances only
          rw [if_pos hg, if_neg i10, bq_41_24]
          by_cases u : z < 0
          · rw [if_pos u]
          · rw [if_neg u, if_neg (by omega)]
        · refine (bq_42_0 X _ _ _ _).trans ?_
          rw [m_isSet H K, bsome]
          dsimp +instances only
          rw [if_pos hx, if_neg i10, g_gateM, bsome]
          dsimp +instances only
          rw [if_pos hg, if_neg i10, g_in, bsome]
          dsimp +instances only
          rw [if_neg hz, if_neg (by decide), bq_42_24]
    · refine Qc.same h ⟨-1, ?_, ?_⟩ rfl rfl
      · refine (bq_41_0 X _ _ _ _).trans ?_
        rw [c_isSet H hT, bsome]
        dsimp +instances only
        rw [if_pos hx, if_neg i10, g_gateC, bsome]
        dsimp +instances only
        rw [if_neg hg, if_pos rfl, bq_41_24]
      · refine (bq_42_0 X _ _ _ _).trans ?_
        rw [m_isSet H K, bsome]
        dsimp +instances only
        rw [if_pos hx, if_neg i10, g_gateM, bsome]
        dsimp +instances only
        rw [if_neg hg, if_pos rfl, bq_42_24]
  · refine Qc.same h ⟨-1, ?_, ?_⟩ rfl rfl
    · refine (bq_41_0 X _ _ _ _).trans ?_
      rw [c_isSet H hT, bsome]
      dsimp +instances only
      rw [if_neg hx, if_pos rfl, bq_41_24]
    · refine (bq_42_0 X _ _ _ _).trans ?_
      rw [m_isSet H K, bsome]
      dsimp +instances only
      rw [if_neg hx, if_pos rfl, bq_42_24]
end QP
