/-! MEMORY: REMEMBER, TAKE BACK, SLOTS -/
theorem tdiv_nat (a b : Nat) : Int.tdiv (a : Int) (b : Int) = ((a / b : Nat) : Int) := by
  rw [Int.tdiv_eq_ediv_of_nonneg (by omega)]
  rfl
theorem am_div_nat {a b : Nat} (ha : a < 2147483648) : am_div (a : Int) (b : Int) = ((a / b : Nat) : Int) := by
  unfold am_div
  rw [tdiv_nat, w32_nat (Nat.lt_of_le_of_lt (Nat.div_le_self a b) ha)]
theorem am_rem_nat {a b : Nat} (ha : a < 2147483648) : am_rem (a : Int) (b : Int) = ((a % b : Nat) : Int) := by
  unfold am_rem
  rw [am_div_nat ha]
  have h := Nat.div_add_mod a b
  have h2 : (a : Int) - ((a / b : Nat) : Int) * (b : Int) = ((a % b : Nat) : Int) := by
    have : ((b * (a / b) + a % b : Nat) : Int) = (a : Int) := by rw [h]
    rw [Int.natCast_add, Int.natCast_mul] at this
    rw [Int.mul_comm]
    omega
  rw [h2, w32_nat (Nat.lt_of_le_of_lt (Nat.mod_le a b) ha)]
theorem am_rem30 {a : Nat} (ha : a < 2147483648) : am_rem (a : Int) 30 = ((a % 30 : Nat) : Int) := am_rem_nat (b := 30) ha
/-- one more is remembered -/
def pushH (u : Nat) (Hc : Nat → Nat → Int) (r : Nat → Int) : Nat → Nat → Int := fun i => if i + 1 = (if u = 30 then 30 else u + 1) then r else if u = 30 then Hc (i + 1) else Hc i
section MEM
variable {X u f : Nat} {σ T : am_Sg} {Hc : Nat → Nat → Int}
theorem c_rem (h : RUc σ u f Hc) : ∃ σ' f', vcV X 113 [vP 60, vP 49] σ = some σ' ∧ Fr [60, 61] [] σ σ' ∧ σ' 60 4 = σ 60 4 ∧ RUc σ' (if u = 30 then 30 else u + 1) f' (pushH u Hc (rs (σ 50))) := by
  obtain ⟨⟨hu, hf⟩, ⟨e3, e2⟩, hh⟩ := h
  by_cases z : u = 30
  · subst z
    have c1 : vcV X 113 [vP 60, vP 49] σ = some (am_upd (am_row (am_upd (am_upd σ 60 2 (((f + 1) % 30 : Nat) : Int)) 60 3 29) 61 (am_cp (σ 50) (σ 61) 0 (46 * (((f + 1) % 30 + 29) % 30)) 46)) 60 3 30) := by
      refine vV_of ((bq_113_0 X σ).trans ?_) rfl
      rw [if_neg (by rw [e3]; simp), e3, e2, w32_s1 (by omega), am_rem30 (by omega), show w32 (((30 : Nat) : Int) - 1) = ((29 : Nat) : Int) from rfl, bq_113_32]
      have k2 : (am_upd (am_upd σ 60 2 (((f + 1) % 30 : Nat) : Int)) 60 3 ((29 : Nat) : Int)) 60 2 = (((f + 1) % 30 : Nat) : Int) := by simp [ua]
      have k3 : (am_upd (am_upd σ 60 2 (((f + 1) % 30 : Nat) : Int)) 60 3 ((29 : Nat) : Int)) 60 3 = ((29 : Nat) : Int) := by simp [ua]
      rw [k2, k3, w32_ad (by omega), am_rem30 (by omega), show w32 (((((f + 1) % 30 + 29) % 30 : Nat) : Int) * 46) = ((46 * (((f + 1) % 30 + 29) % 30) : Nat) : Int) from by unfold w32; omega, if_pos (by omega), tn_nat]
      rfl
    refine ⟨_, (f + 1) % 30, c1, ?_, ?_, ?_⟩
    · exact (((Fr.rf.upd rfl (by decide)).upd rfl (by decide)).row rfl (by decide)).upd rfl (by decide)
    · simp [ua, ra]
    · rw [if_pos rfl]
      refine ⟨⟨by omega, by omega⟩, ⟨?_, ?_⟩, fun i j hi hj => ?_⟩
      · simp [ua, ra]
      · simp [ua, ra]
      · rw [un _ (show ¬ (61 : Nat) = 60 by decide), re]
        unfold am_cp pushH
        rw [if_pos rfl]
        by_cases y : i + 1 = 30
        · rw [if_pos (show 46 * (((f + 1) % 30 + 29) % 30) ≤ 46 * (((f + 1) % 30 + i) % 30) + j ∧ 46 * (((f + 1) % 30 + i) % 30) + j < 46 * (((f + 1) % 30 + 29) % 30) + 46 by
            have : i = 29 := by omega
            subst this
            omega), if_pos y, rs_in hj]
          congr 1
          have : i = 29 := by omega
          subst this
          omega
        · have a1 : ((f + 1) % 30 + i) % 30 = (f + (i + 1)) % 30 := by omega
          have a2 : ((f + 1) % 30 + 29) % 30 = f := by omega
          have a3 : ¬ (f + (i + 1)) % 30 = f := by omega
          rw [a1, a2, if_neg (show ¬ (46 * f ≤ 46 * ((f + (i + 1)) % 30) + j ∧ 46 * ((f + (i + 1)) % 30) + j < 46 * f + 46) by omega), if_neg y, if_pos rfl, ← hh (i + 1) j (by omega) hj]
  · have c1 : vcV X 113 [vP 60, vP 49] σ = some (am_upd (am_row σ 61 (am_cp (σ 50) (σ 61) 0 (46 * ((f + u) % 30)) 46)) 60 3 ((u + 1 : Nat) : Int)) := by
      refine vV_of ((bq_113_0 X σ).trans ?_) rfl
      rw [if_pos (by rw [e3]; omega), bq_113_32, e3, e2, w32_ad (by omega), am_rem30 (by omega), show w32 ((((f + u) % 30 : Nat) : Int) * 46) = ((46 * ((f + u) % 30) : Nat) : Int) from by unfold w32; omega, if_pos (by omega), tn_nat, w32_s1 (by omega)]
    refine ⟨_, f, c1, ?_, ?_, ?_⟩
    · exact (Fr.rf.row rfl (by decide)).upd rfl (by decide)
    · simp [ua, ra]
    · rw [if_neg z]
      refine ⟨⟨by omega, hf⟩, ⟨?_, ?_⟩, fun i j hi hj => ?_⟩
      · simp [ua, ra]
      · simp [ua, ra, e2]
      · rw [un _ (show ¬ (61 : Nat) = 60 by decide), re]
        unfold am_cp pushH
        rw [if_neg z]
        by_cases y : i = u
        · subst y
          rw [if_pos (by omega), if_pos rfl, rs_in hj]
          congr 1
          omega
        · have a3 : ¬ (f + i) % 30 = (f + u) % 30 := by omega
          rw [if_neg (show ¬ (46 * ((f + u) % 30) ≤ 46 * ((f + i) % 30) + j ∧ 46 * ((f + i) % 30) + j < 46 * ((f + u) % 30) + 46) by omega), if_neg (show ¬ i + 1 = u + 1 by omega), if_neg z, ← hh i j (by omega) hj]
theorem m_keeps (hu : u ≤ 30) (h : RUm σ u Hc) : ∃ σ', vcV X 116 [vP 80] σ = some σ' ∧ Fr [127, 130] [67] σ σ' ∧ rs (σ' 127) = rs (σ 128) ∧ RUm σ' (if u = 30 then 30 else u + 1) (pushH u Hc (rs (σ 127))) := by
  obtain ⟨e67, hh⟩ := h
  have A : ∃ σ1 u1, vv X 116 0 [some (vP 80), none] [] σ = vv X 116 49 [some (vP 80), none] [] σ1 ∧ Fr [130] [67] σ σ1 ∧ (u1 = if u = 30 then 29 else u) ∧ σ1 80 67 = (u1 : Int) ∧ ∀ i j, i < u1 → j < 46 → σ1 130 (60 * i + j) = (if u = 30 then Hc (i + 1) else Hc i) j := by
    by_cases z : u = 30
    · subst z
      obtain ⟨r, e, hr⟩ := lp (fun i (r : Nat → Int) => vv X 116 11 [some (vP 80), some (vI (i : Int))] [] (am_row σ 130 r)) 1740 (fun i r => r = fun j => if j < i then σ 130 (j + 60) else σ 130 j) (fun i r hi hr => by
        refine ⟨_, ?_, rfl⟩
        show vv X 116 11 [some (vP 80), some (vI (i : Int))] [] (am_row σ 130 r) = vv X 116 11 [some (vP 80), some (vI ((i + 1 : Nat) : Int))] [] _
        rw [bq_116_11, if_neg (by omega), show w32 ((i : Int) + 60) = ((i + 60 : Nat) : Int) from w32_ad (c := 60) (by omega), if_pos (by omega), if_pos (by omega), w32_s1 (by omega), tn_nat, tn_nat, ur, re]
        congr 2
        funext j
        rw [upa, hr]
        dsimp +instances only
        by_cases y : j = i
        · rw [if_pos y, if_neg (by omega), if_pos (by omega), y]
        · rw [if_neg y]
          by_cases x : j < i
          · rw [if_pos x, if_pos (by omega)]
          · rw [if_neg x, if_neg (by omega)]) 1740 0 (σ 130) (by omega) (by funext j; rw [if_neg (by omega)])
      rw [r0] at e
      refine ⟨am_upd (am_row σ 130 r) 80 67 29, 29, ?_, (Fr.rf.row rfl (by decide)).upf rfl, by rw [if_pos rfl], by simp [ua], fun i j hi hj => ?_⟩
      · rw [bq_116_0, if_neg (by rw [e67]; simp)]
        refine Eq.trans e ?_
        show vv X 116 11 [some (vP 80), some (vI 1740)] [] _ = _
        rw [bq_116_11, if_pos (by omega), rn _ (show ¬ (80 : Nat) = 130 by decide), e67]
        rfl
      · rw [if_pos rfl, un _ (by decide), re, hr]
        dsimp +instances only
        rw [if_pos (by omega), ← hh (i + 1) j (by omega) hj]
        congr 1
        omega
    · refine ⟨σ, u, ?_, Fr.rf, by rw [if_neg z], e67, fun i j hi hj => ?_⟩
      · rw [bq_116_0, if_pos (by rw [e67]; omega)]
      · rw [if_neg z]
        exact hh i j hi hj
  obtain ⟨σ1, u1, eA, fA, hu1, e1, h1⟩ := A
  have u29 : u1 ≤ 29 := by
    rw [hu1]
    split <;> omega
  have eu : ((if u = 30 then 30 else u + 1 : Nat)) = u1 + 1 := by
    rw [hu1]
    split <;> omega
  have B := cpl0 (fun i s => vv X 116 51 [some (vP 80), some (vI (i : Int))] [] s) 130 (60 * u1) 60 0 (fun i => σ1 127 i) σ1 (by omega) (fun i hi r => by
    show vv X 116 51 [some (vP 80), some (vI (i : Int))] [] _ = _
    rw [bq_116_51, if_neg (by omega), if_pos (by omega), rn _ (show ¬ (80 : Nat) = 130 by decide), rn _ (show ¬ (127 : Nat) = 130 by decide), e1, show w32 (w32 (60 * (u1 : Int)) + (i : Int)) = ((60 * u1 + i : Nat) : Int) from by unfold w32; omega, if_pos (by omega), w32_s1 (by omega), tn_nat, tn_nat])
  generalize hr : (fun j => if 60 * u1 + 0 ≤ j ∧ j < 60 * u1 + 60 then σ1 127 (j - 60 * u1) else σ1 130 j) = r at B
  have C := cpl0 (fun i s => vv X 116 95 [some (vP 80), some (vI (i : Int))] [] s) 127 0 60 0 (fun i => σ1 128 i) (am_upd (am_row σ1 130 r) 80 67 ((u1 + 1 : Nat) : Int)) (by omega) (fun i hi r' => by
    show vv X 116 95 [some (vP 80), some (vI (i : Int))] [] _ = _
    rw [bq_116_95, if_neg (by omega), if_pos (by omega), w32_s1 (by omega), tn_nat, Nat.zero_add, rn _ (show ¬ (128 : Nat) = 127 by decide), un _ (show ¬ (128 : Nat) = 80 by decide), rn _ (show ¬ (128 : Nat) = 130 by decide)])
  refine ⟨am_row (am_upd (am_row σ1 130 r) 80 67 ((u1 + 1 : Nat) : Int)) 127 (fun j => if 0 + 0 ≤ j ∧ j < 0 + 60 then σ1 128 (j - 0) else (am_upd (am_row σ1 130 r) 80 67 ((u1 + 1 : Nat) : Int)) 127 j), vV_of (eA.trans ((bq_116_49 X σ1).trans (B.trans ?_))) rfl, ?_, ?_, ?_⟩
  · show vv X 116 51 [some (vP 80), some (vI 60)] [] (am_row σ1 130 r) = _
    rw [bq_116_51, if_pos (by omega), rn _ (show ¬ (80 : Nat) = 130 by decide), e1, w32_s1 (by omega)]
    refine Eq.trans C ?_
    show vv X 116 95 [some (vP 80), some (vI 60)] [] _ = _
    rw [bq_116_95, if_pos (by omega)]
  · exact (fA.mono rfl rfl).tr (((Fr.rf.row rfl (by decide)).upf rfl).row rfl (by decide))
  · rw [re, ← fA.get 128 (by decide) rfl]
    refine rs_ext fun j hj => ?_
    rw [if_pos (by omega)]
    rfl
  · rw [eu]
    refine ⟨by simp [ua, ra], fun i j hi hj => ?_⟩
    rw [rn _ (show ¬ (130 : Nat) = 127 by decide), un _ (show ¬ (130 : Nat) = 80 by decide), re, ← hr]
    dsimp +instances only
    unfold pushH
    rw [eu]
    by_cases y : i = u1
    · rw [if_pos (by omega), if_pos (by omega), rs_in hj, fA.get 127 (by decide) rfl]
      congr 1
      omega
    · rw [if_neg (by omega), if_neg (by omega), h1 i j (by omega) hj]
end MEM
