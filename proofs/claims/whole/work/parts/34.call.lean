/-! CALLS: the simple ones -/
/-- class and reference answer alike, and stay related -/
def Qc (X a b : Nat) (vs : List am_V) (σ : am_Sg) : Prop := ∃ v σ1 σ2, vcI X a (vP 0 :: vs) σ = some (v, σ1) ∧ vcI X b (vP 80 :: vs) σ1 = some (v, σ2) ∧ Rel X σ2
theorem Qc.of {X a b : Nat} {vs : List am_V} {L1 L2 : am_L} {v : Int} {σ σ1 σ2 : am_Sg} (h1 : vv X a 0 L1 [] σ = some (some (vI v), σ1)) (h2 : vv X b 0 L2 [] σ1 = some (some (vI v), σ2)) (hr : Rel X σ2) (e1 : am_ent (am_mL a) (vP 0 :: vs) = L1) (e2 : am_ent (am_mL b) (vP 80 :: vs) = L2) : Qc X a b vs σ := ⟨v, σ1, σ2, vI_of h1 e1, vI_of h2 e2, hr⟩
theorem Qc.same {X a b : Nat} {vs : List am_V} {L1 L2 : am_L} {σ : am_Sg} (hr : Rel X σ) (h : ∃ v, vv X a 0 L1 [] σ = some (some (vI v), σ) ∧ vv X b 0 L2 [] σ = some (some (vI v), σ)) (e1 : am_ent (am_mL a) (vP 0 :: vs) = L1) (e2 : am_ent (am_mL b) (vP 80 :: vs) = L2) : Qc X a b vs σ := by
  obtain ⟨v, h1, h2⟩ := h
  exact Qc.of h1 h2 hr e1 e2
theorem RN.at {σ T : am_Sg} (h : RN σ T) {j : Nat} (hj : j < 46) : σ 50 j = σ 127 j := rs_at h.1 hj
def btN (T : am_Sg) (F : LF) (sc : Nat → Int) (m g : Nat) : Nat → Int := bts T F sc m g (sc (42 + g))
theorem btN_ok {T : am_Sg} {F : LF} (hF : FOk F) {sc : Nat → Int} {m g : Nat} : BOk T (btN T F sc m g) 6 := bts_ok hF
theorem btN_eq {T : am_Sg} {F : LF} {f : Nat → Int} {m g : Nat} (S : ScOk T (rs f)) (hg : g < 2) : bts T F (rs f) m g (w32 (f (42 + g) + 0)) = btN T F (rs f) m g := by
  have := S.2.2.2 (42 + g)
  rw [rs_in (by omega)] at this
  unfold btN
  rw [rs_in (show 42 + g < 46 by omega), Int.add_zero, w32_id this.1 this.2]
theorem nat_of {x : Int} {n : Nat} (h : 0 ≤ x ∧ x < (n : Int)) : ∃ m : Nat, x = (m : Int) ∧ m < n := ⟨x.toNat, by omega, by omega⟩
section QS
variable {X l : Nat} {σ T : am_Sg} {F : LF}
theorem c_isMan (H : TOk T) (hT : tl σ = T) {x : Int} : vcI X 94 [vP 0, vI x] σ = some (if 0 ≤ x ∧ x < (nM T : Int) then 1 else 0, σ) := by
  rw [g_manC, tl_at hT (k := 8) (by omega), H.m0]
theorem c_isDish (H : TOk T) (hT : tl σ = T) {x : Int} : vcI X 100 [vP 0, vI x] σ = some (if 0 ≤ x ∧ x < (nD T : Int) then 1 else 0, σ) := by
  rw [g_dishC, tl_at hT (k := 8) (by omega), H.d0]
theorem c_isDishAll (H : TOk T) (hT : tl σ = T) {x : Int} : vcI X 105 [vP 0, vI x] σ = some (if x = -1 ∨ (0 ≤ x ∧ x < (nD T : Int)) then 1 else 0, σ) := by
  rw [g_dishallC, tl_at hT (k := 8) (by omega), H.d0]
theorem m_isMan (H : TOk T) (K : TM σ T l) {x : Int} : vcI X 99 [vP 80, vI x] σ = some (if 0 ≤ x ∧ x < (nM T : Int) then 1 else 0, σ) := by
  have h8 := H.m8
  refine vI_of ((bq_99_0 X _ σ).trans ?_) rfl
  rw [m_menNow H K, bsome]
  dsimp +instances only
  rw [g_in, bsome]
  dsimp +instances only
  rw [if_pos okZi, w32_id (by omega) (by omega)]
  by_cases z : 0 ≤ x ∧ x < (nM T : Int)
  · rw [if_pos z, if_pos (by omega)]
  · rw [if_neg z, if_neg (by omega)]
theorem m_isDish (H : TOk T) (K : TM σ T l) {x : Int} : vcI X 103 [vP 80, vI x] σ = some (if 0 ≤ x ∧ x < (nD T : Int) then 1 else 0, σ) := by
  have h4 := H.d4
  refine vI_of ((bq_103_0 X _ σ).trans ?_) rfl
  rw [m_kinds H K, bsome]
  dsimp +instances only
  rw [g_in, bsome]
  dsimp +instances only
  rw [if_pos okZi, w32_id (by omega) (by omega)]
  by_cases z : 0 ≤ x ∧ x < (nD T : Int)
  · rw [if_pos z, if_pos (by omega)]
  · rw [if_neg z, if_neg (by omega)]
theorem i10 : ¬ (1 : Int) = 0 := by decide
theorem q_place (h : Rel X σ) : Qc X 9 10 [] σ := by
  obtain ⟨T, l, F, h1, h2, h3, h4, h5, h6, h7, h8⟩ := id h
  exact Qc.same h ⟨σ 47 7, bq_9_0 X σ, (bq_10_0 X σ).trans (by rw [h7])⟩ rfl rfl
theorem q_man (h : Rel X σ) (x y : Int) : Qc X 11 12 [vI x, vI y] σ := by
  obtain ⟨T, l, F, ⟨hT, H, K, -⟩, hN, -⟩ := id h
  have h8 := H.m8
  have l1 := K.l1
  refine Qc.same h ?_ rfl rfl
  show ∃ v, vv X 11 0 [some (vP 0), some (vI x), some (vI y)] [] σ = some (some (vI v), σ) ∧ vv X 12 0 [some (vP 80), some (vI x), some (vI y)] [] σ = some (some (vI v), σ)
  rw [bq_11_0, bq_12_0, c_isMan H hT, m_isMan H K, bsome, bsome]
  dsimp +instances only
  by_cases hm : 0 ≤ x ∧ x < (nM T : Int)
  · obtain ⟨m, rfl, hm'⟩ := nat_of hm
    rw [if_pos hm, if_pos i10, if_pos i10]
    have k := K.mi m hm'
    have e13 := tl_at hT (k := 13) (by omega)
    have e16 := tl_at hT (k := 16) (by omega)
    by_cases w0 : y = 0
    · rw [if_pos w0, if_pos w0, g_fullA (by omega), bsome, if_pos (by omega), tn_nat, Nat.zero_add, hN.at (by omega)]
      exact ⟨_, rfl, rfl⟩
    rw [if_neg w0, if_neg w0]
    by_cases w1 : y = 1
    · rw [if_pos w1, if_pos w1, if_pos (by omega), g_fullA (by omega), bsome, K.l0, ix8 l1 (by omega), if_pos (by omega), if_pos (by omega), tn_nat, tn_nat, Nat.zero_add, hN.at (by omega), k.1, e13]
      exact ⟨_, rfl, rfl⟩
    rw [if_neg w1, if_neg w1]
    by_cases w2 : y = 2
    · rw [if_pos w2, if_pos w2, g_sickA (by omega), bsome, show w32 (8 + (m : Int)) = ((8 + m : Nat) : Int) from w_ix (c := 8) (by omega), if_pos (by omega), tn_nat, hN.at (by omega)]
      exact ⟨_, rfl, rfl⟩
    rw [if_neg w2, if_neg w2]
    by_cases w3 : y = 3
    · rw [if_pos w3, if_pos w3, g_eaten (by omega), bsome, show w32 (16 + (m : Int)) = ((16 + m : Nat) : Int) from w_ix (c := 16) (by omega), if_pos (by omega), tn_nat, hN.at (by omega)]
      exact ⟨_, rfl, rfl⟩
    rw [if_neg w3, if_neg w3]
    by_cases w4 : y = 4
    · rw [if_pos w4, if_pos w4, if_pos (by omega), K.l0, ix8 l1 (by omega), if_pos (by omega), tn_nat, tn_nat, k.2.2.2.1, e16]
      exact ⟨_, rfl, rfl⟩
    rw [if_neg w4, if_neg w4]
    by_cases w5 : y = 5
    · rw [if_pos w5, if_pos w5, g_passed (by omega), bsome, show w32 (24 + (m : Int)) = ((24 + m : Nat) : Int) from w_ix (c := 24) (by omega), if_pos (by omega), tn_nat, hN.at (by omega)]
      exact ⟨_, rfl, rfl⟩
    rw [if_neg w5, if_neg w5]
    exact ⟨_, rfl, rfl⟩
  · rw [if_neg hm, if_neg (by decide), if_neg (by decide)]
    exact ⟨_, rfl, rfl⟩
theorem q_dish (h : Rel X σ) (x y : Int) : Qc X 13 14 [vI x, vI y] σ := by
  obtain ⟨T, l, F, ⟨hT, H, K, -⟩, hN, -⟩ := id h
  have h4 := H.d4
  have l1 := K.l1
  refine Qc.same h ?_ rfl rfl
  show ∃ v, vv X 13 0 [some (vP 0), some (vI x), some (vI y)] [] σ = some (some (vI v), σ) ∧ vv X 14 0 [some (vP 80), some (vI x), some (vI y)] [] σ = some (some (vI v), σ)
  rw [bq_13_0, bq_14_0, c_isDish H hT, m_isDish H K, bsome, bsome]
  dsimp +instances only
  by_cases hm : 0 ≤ x ∧ x < (nD T : Int)
  · obtain ⟨m, rfl, hm'⟩ := nat_of hm
    rw [if_pos hm, if_pos i10, if_pos i10]
    have k := K.di m hm'
    have e10 := tl_at hT (k := 10) (by omega)
    have e11 := tl_at hT (k := 11) (by omega)
    by_cases w0 : y = 0
    · rw [if_pos w0, if_pos w0, g_storeA (by omega), bsome, show w32 (32 + (m : Int)) = ((32 + m : Nat) : Int) from w_ix (c := 32) (by omega), if_pos (by omega), tn_nat, hN.at (by omega)]
      exact ⟨_, rfl, rfl⟩
    rw [if_neg w0, if_neg w0]
    by_cases w1 : y = 1
    · rw [if_pos w1, if_pos w1, if_pos (by omega), K.l0, ix4 l1 (by omega), if_pos (by omega), tn_nat, tn_nat, k.1, e10]
      exact ⟨_, rfl, rfl⟩
    rw [if_neg w1, if_neg w1]
    by_cases w2 : y = 2
    · rw [if_pos w2, if_pos w2, if_pos (by omega), K.l0, ix4 l1 (by omega), if_pos (by omega), tn_nat, tn_nat, k.2.1, e11]
      exact ⟨_, rfl, rfl⟩
    rw [if_neg w2, if_neg w2]
    by_cases w3 : y = 3
    · rw [if_pos w3, if_pos w3, g_gone (by omega), bsome, show w32 (36 + (m : Int)) = ((36 + m : Nat) : Int) from w_ix (c := 36) (by omega), if_pos (by omega), tn_nat, hN.at (by omega)]
      exact ⟨_, rfl, rfl⟩
    rw [if_neg w3, if_neg w3]
    exact ⟨_, rfl, rfl⟩
  · rw [if_neg hm, if_neg (by decide), if_neg (by decide)]
    exact ⟨_, rfl, rfl⟩
theorem c_layN (h : RT X σ T l F) (hN : RN σ T) {m g : Nat} (hm : m < nM T) (hg : g < 2) : ∃ σ', vcV X 106 [vP 57, vP 49, vI (m : Int), vI (g : Int), vI 0, vP 53] σ = some σ' ∧ Fr [53, 54, 58, 59] [] σ σ' ∧ PL T σ' 53 (btN T F (rs (σ 127)) m g) := by
  obtain ⟨hT, H, K, hC, hM, hF⟩ := h
  obtain ⟨σ', e, f, p⟩ := c_lay_49_53 (X := X) H hT hC hF hm hg 0
  rw [btN_eq (by rw [hN.1]; exact hN.2) hg, hN.1] at p
  exact ⟨σ', e, f, p⟩
theorem m_tollsN (h : RT X σ T l F) (S : ScOk T (rs (σ 128))) {m g : Nat} (hm : m < nM T) (hg : g < 2) : ∃ σ', vcV X 109 [vP 80, vI (m : Int), vI (g : Int), vI (σ 128 (42 + g))] σ = some σ' ∧ Fr [125, 126, 129] [63] σ σ' ∧ b4 (σ' 129) = btN T F (rs (σ 128)) m g := by
  obtain ⟨hT, H, K, hC, hM, hF⟩ := h
  obtain ⟨σ', e, f, p⟩ := m_tolls (X := X) H K hM hm hg (σ 128 (42 + g))
  refine ⟨σ', e, f, ?_⟩
  unfold btN
  rw [p, rs_in (show 42 + g < 46 by omega)]
theorem q_toll (h : Rel X σ) (x y z : Int) : Qc X 15 16 [vI x, vI y, vI z] σ := by
  obtain ⟨T, l, F, R, hN, -⟩ := id h
  have hT := R.1
  have H := R.2.1
  have K := R.2.2.1
  have hF := R.2.2.2.2.2
  have h4 := H.d4
  by_cases hm : 0 ≤ x ∧ x < (nM T : Int)
  · by_cases hg : 0 ≤ y ∧ y ≤ 1
    · by_cases hd : z = -1 ∨ (0 ≤ z ∧ z < (nD T : Int))
      · obtain ⟨m, rfl, hm'⟩ := nat_of hm
        obtain ⟨g, rfl, hg'⟩ := nat_of (n := 2) (show 0 ≤ y ∧ y < ((2 : Nat) : Int) by omega)
        obtain ⟨σ1, e1, f1, p1⟩ := c_layN R hN hm' hg'
        have R1 := R.fr f1 rfl rfl rfl
        obtain ⟨σ2, e2, f2, p2⟩ := m_takes (X := X) (σ := σ1)
        have R2 := R1.fr f2 rfl rfl rfl
        have es : rs (σ2 128) = rs (σ 127) := by rw [p2, f1.get 127 (by decide) rfl]
        obtain ⟨σ3, e3, f3, p3⟩ := m_tollsN R2 (by rw [es]; exact hN.2) hm' hg'
        rw [es] at p3
        have fr : Fr scr scj σ σ3 := ((f1.mono rfl rfl).tr (f2.mono rfl rfl)).tr (f3.mono rfl rfl)
        refine Qc.of (v := if z = -1 then bulkS T (btN T F (rs (σ 127)) m g) else btN T F (rs (σ 127)) m g z.toNat) (σ1 := σ1) (σ2 := σ3) ?_ ?_ (h.scr fr) rfl rfl
        · refine (bq_15_0 X _ _ _ _).trans ?_
          rw [c_isMan H hT, bsome]
          dsimp +instances only
          rw [if_pos hm, if_neg i10, g_gateC, bsome]
          dsimp +instances only
          rw [if_pos hg, if_neg i10, c_isDishAll H hT, bsome]
          dsimp +instances only
          rw [if_pos hd, if_pos i10, e1, bsome]
          by_cases hz : z = -1
          · rw [if_neg (fun q => q hz), bq_15_67, if_pos hz, p1.2.2.1]
          · rw [if_pos hz, if_pos (by omega), bq_15_67, if_neg hz, p1.at (by omega)]
        · have K1 := R1.2.2.1
          have A : vv X 16 30 [some (vP 80), some (vI (m : Int)), some (vI (g : Int)), some (vI z)] [] σ1 = some (some (vI (if z = -1 then bulkS T (btN T F (rs (σ 127)) m g) else btN T F (rs (σ 127)) m g z.toNat)), σ3) := by
            rw [bq_16_30, e2, bsome, show w32 (42 + (g : Int)) = ((42 + g : Nat) : Int) from w_ix (c := 42) (by omega), if_pos (by omega), tn_nat, e3, bsome]
            by_cases hz : z = -1
            · rw [if_neg (fun q => q hz), m_bulk2 H (R2.2.2.1.fr f3 rfl) ((btN_ok hF).mono (by omega)) p3, bsome, bq_16_67, if_pos hz]
            · rw [if_pos hz, if_pos (by omega), bq_16_67, if_neg hz, ← p3, b4_in (by omega)]
          refine (bq_16_0 X _ _ _ _).trans ?_
          rw [m_isMan H K1, bsome]
          dsimp +instances only
          rw [if_pos hm, if_neg i10, g_gateM, bsome]
          dsimp +instances only
          rw [if_pos hg, if_neg i10, m_isDish H K1, bsome]
          dsimp +instances only
          by_cases hz : z = -1
          · rw [if_pos hz, A]
          · rw [if_neg hz, if_pos (by omega), A]
      · refine Qc.same h ⟨-1, ?_, ?_⟩ rfl rfl
        · refine (bq_15_0 X _ _ _ _).trans ?_
          rw [c_isMan H hT, bsome]
          dsimp +instances only
          rw [if_pos hm, if_neg i10, g_gateC, bsome]
          dsimp +instances only
          rw [if_pos hg, if_neg i10, c_isDishAll H hT, bsome]
          dsimp +instances only
          rw [if_neg hd, if_neg (by decide), bq_15_23]
        · refine (bq_16_0 X _ _ _ _).trans ?_
          rw [m_isMan H K, bsome]
          dsimp +instances only
          rw [if_pos hm, if_neg i10, g_gateM, bsome]
          dsimp +instances only
          rw [if_pos hg, if_neg i10, m_isDish H K, bsome]
          dsimp +instances only
          rw [if_neg (by omega), if_neg (by omega), bq_16_28]
    · refine Qc.same h ⟨-1, ?_, ?_⟩ rfl rfl
      · refine (bq_15_0 X _ _ _ _).trans ?_
        rw [c_isMan H hT, bsome]
        dsimp +instances only
        rw [if_pos hm, if_neg i10, g_gateC, bsome]
        dsimp +instances only
        rw [if_neg hg, if_pos rfl, bq_15_23]
      · refine (bq_16_0 X _ _ _ _).trans ?_
        rw [m_isMan H K, bsome]
        dsimp +instances only
        rw [if_pos hm, if_neg i10, g_gateM, bsome]
        dsimp +instances only
        rw [if_neg hg, if_pos rfl, bq_16_28]
  · refine Qc.same h ⟨-1, ?_, ?_⟩ rfl rfl
    · refine (bq_15_0 X _ _ _ _).trans ?_
      rw [c_isMan H hT, bsome]
      dsimp +instances only
      rw [if_neg hm, if_pos rfl, bq_15_23]
    · refine (bq_16_0 X _ _ _ _).trans ?_
      rw [m_isMan H K, bsome]
      dsimp +instances only
      rw [if_neg hm, if_pos rfl, bq_16_28]
end QS
