/-! CALLS: odds, count, back, feed; bits of a set -/
/-- how many of the first n bits -/
def bc (x : Int) : Nat → Int
  | 0 => 0
  | n + 1 => bc x n + bt1 x n
def bitcnt (x0 : Int) : Int := (am_and (w32 ((w32 ((am_and (w32 ((w32 ((am_and (w32 (x0 - (am_and (am_ushr x0 1) 1431655765))) 858993459) + (am_and (am_ushr (w32 (x0 - (am_and (am_ushr x0 1) 1431655765))) 2) 858993459))) + (am_ushr (w32 ((am_and (w32 (x0 - (am_and (am_ushr x0 1) 1431655765))) 858993459) + (am_and (am_ushr (w32 (x0 - (am_and (am_ushr x0 1) 1431655765))) 2) 858993459))) 4))) 252645135) + (am_ushr (am_and (w32 ((w32 ((am_and (w32 (x0 - (am_and (am_ushr x0 1) 1431655765))) 858993459) + (am_and (am_ushr (w32 (x0 - (am_and (am_ushr x0 1) 1431655765))) 2) 858993459))) + (am_ushr (w32 ((am_and (w32 (x0 - (am_and (am_ushr x0 1) 1431655765))) 858993459) + (am_and (am_ushr (w32 (x0 - (am_and (am_ushr x0 1) 1431655765))) 2) 858993459))) 4))) 252645135) 8))) + (am_ushr (w32 ((am_and (w32 ((w32 ((am_and (w32 (x0 - (am_and (am_ushr x0 1) 1431655765))) 858993459) + (am_and (am_ushr (w32 (x0 - (am_and (am_ushr x0 1) 1431655765))) 2) 858993459))) + (am_ushr (w32 ((am_and (w32 (x0 - (am_and (am_ushr x0 1) 1431655765))) 858993459) + (am_and (am_ushr (w32 (x0 - (am_and (am_ushr x0 1) 1431655765))) 2) 858993459))) 4))) 252645135) + (am_ushr (am_and (w32 ((w32 ((am_and (w32 (x0 - (am_and (am_ushr x0 1) 1431655765))) 858993459) + (am_and (am_ushr (w32 (x0 - (am_and (am_ushr x0 1) 1431655765))) 2) 858993459))) + (am_ushr (w32 ((am_and (w32 (x0 - (am_and (am_ushr x0 1) 1431655765))) 858993459) + (am_and (am_ushr (w32 (x0 - (am_and (am_ushr x0 1) 1431655765))) 2) 858993459))) 4))) 252645135) 8))) 16))) 63)
theorem bitcnt_f : ∀ x : Fin 256, bitcnt (x.val : Int) = bc (x.val : Int) 8 ∧ ∀ d : Fin 8, bt1 (x.val : Int) d.val = 0 ∨ bt1 (x.val : Int) d.val = 1 := by decide +kernel
theorem bt01 {n d : Nat} (h : n < 256) (hd : d < 8) : bt1 (n : Int) d = 0 ∨ bt1 (n : Int) d = 1 := (bitcnt_f ⟨n, h⟩).2 ⟨d, hd⟩
theorem bc_bd {n : Nat} (h : n < 256) : ∀ k, k ≤ 8 → 0 ≤ bc (n : Int) k ∧ bc (n : Int) k ≤ (k : Int)
  | 0, _ => ⟨Int.le_refl _, Int.le_refl _⟩
  | k + 1, hk => by
    have h1 := bc_bd h k (by omega)
    have h2 := bt01 h (show k < 8 by omega)
    show 0 ≤ bc (n : Int) k + bt1 (n : Int) k ∧ bc (n : Int) k + bt1 (n : Int) k ≤ ((k + 1 : Nat) : Int)
    omega
section QV
variable {X l : Nat} {σ T : am_Sg} {F : LF}
theorem c_bits {n : Nat} (h : n < 256) : vcI X 145 [vI (n : Int)] σ = some (bc (n : Int) 8, σ) := vI_of ((bq_145_0 X _ σ).trans (by
  have := (bitcnt_f ⟨n, h⟩).1
  unfold bitcnt at this
  exact congrArg (fun z => some (some (vI z), σ)) this)) rfl
theorem m_bits {n : Nat} (h : n < 256) : vcI X 146 [vI (n : Int)] σ = some (bc (n : Int) 8, σ) := by
  refine vI_of ((bq_146_0 X _ σ).trans ?_) rfl
  obtain ⟨v, e, hv⟩ := lp (fun i (v : Int) => vv X 146 4 [some (vI (n : Int)), some (vI v), some (vI (i : Int))] [] σ) 8 (fun i v => v = bc (n : Int) i) (fun i v hi hv => by
    refine ⟨bc (n : Int) (i + 1), ?_, rfl⟩
    show vv X 146 4 [some (vI (n : Int)), some (vI v), some (vI (i : Int))] [] σ = vv X 146 4 [some (vI (n : Int)), some (vI (bc (n : Int) i + bt1 (n : Int) i)), some (vI ((i + 1 : Nat) : Int))] [] σ
    have h1 := bc_bd h i (by omega)
    have h2 := bt01 h (show i < 8 by omega)
    have h3 : am_and (am_shr (n : Int) (i : Int)) 1 = bt1 (n : Int) i := rfl
    rw [bq_146_4, if_neg (by omega), w32_s1 (by omega), h3, hv, w32_id (by omega) (by omega)]) 8 0 0 (by omega) rfl
  refine Eq.trans e ?_
  show vv X 146 4 [some (vI (n : Int)), some (vI v), some (vI 8)] [] σ = _
  rw [bq_146_4, if_pos (by omega), hv]
theorem q_odds (h : Rel X σ) (x y z : Int) : Qj X 35 36 [vI x, vI y, vI z] σ := by
  have key : ∃ v, vv X 35 0 [some (vP 0), some (vI x), some (vI y), some (vI z), none, none, none] [] σ = some (some (vJ v), σ) ∧ vv X 36 0 [some (vP 80), some (vI x), some (vI y), some (vI z), none, none, none] [] σ = some (some (vJ v), σ) := by
    rw [bq_35_0, bq_36_0, bq_35_30, g_in, bsome]
    dsimp +instances only
    by_cases a1 : 0 ≤ x ∧ x ≤ 18
    · obtain ⟨n, rfl, hn⟩ := nat_of (n := 19) (show 0 ≤ x ∧ x < ((19 : Nat) : Int) by omega)
      rw [if_neg (by omega), if_neg (by omega), if_pos a1, if_neg i10, g_in, bsome]
      dsimp +instances only
      by_cases a2 : 1 ≤ z ∧ z ≤ 10
      · rw [if_neg (by omega), if_neg (by omega), if_pos a2, if_neg i10, g_in, bsome]
        dsimp +instances only
        by_cases a3 : 0 ≤ y ∧ y ≤ z
        · rw [if_neg (by omega), if_pos (by omega), if_pos a3, if_pos i10]
          have L : ∀ k i (v : Int), i + k = n → ∃ w, vv X 35 40 [none, some (vI (n : Int)), some (vI y), some (vI z), some (vJ v), none, some (vI (i : Int))] [] σ = some (some (vJ w), σ) ∧ vv X 36 39 [none, some (vI (n : Int)), some (vI y), some (vI z), some (vJ v), none, some (vI (i : Int))] [] σ = some (some (vJ w), σ) := by
            intro k
            induction k with
            | zero =>
              intro i v e
              refine ⟨v, ?_, ?_⟩
              · rw [bq_35_40, if_pos (by omega)]
              · rw [bq_36_39, if_pos (by omega)]
            | succ k ih =>
              intro i v e
              rw [bq_35_40, if_neg (by omega), w32_s1 (by omega), bq_36_39, if_neg (by omega), w32_s1 (by omega)]
              exact ih (i + 1) _ (by omega)
          exact L n 0 1 (by omega)
        · rw [if_neg a3, if_neg (show ¬ ¬ (0 : Int) = 0 by decide), bq_36_29]
          refine ⟨-1, ?_, rfl⟩
          by_cases b1 : y < 0
          · rw [if_pos b1]
          · rw [if_neg b1, if_neg (by omega)]
      · rw [if_neg a2, if_pos rfl, bq_36_29]
        refine ⟨-1, ?_, rfl⟩
        by_cases b1 : z < 1
        · rw [if_pos b1]
        · rw [if_neg b1, if_pos (by omega)]
    · rw [if_neg a1, if_pos rfl, bq_36_29]
      refine ⟨-1, ?_, rfl⟩
      by_cases b1 : x < 0
      · rw [if_pos b1]
      · rw [if_neg b1, if_pos (by omega)]
  obtain ⟨v, h1, h2⟩ := key
  exact ⟨v, σ, σ, vJ_of h1 rfl, vJ_of h2 rfl, h⟩
theorem held_f : ∀ x : Fin 8, bc (x.val : Int) 8 = bt1 (x.val : Int) 0 + bt1 (x.val : Int) 1 + bt1 (x.val : Int) 2 := by decide +kernel
theorem q_count (h : Rel X σ) (x : Int) : Qc X 69 70 [vI x] σ := by
  obtain ⟨T, l, F, ⟨hT, H, K, -⟩, hN, ⟨u, f, Hc, hUc, hUm, -⟩, hH, ⟨e, -, ⟨e1, e2⟩, -⟩, ⟨n, -, ⟨p1, p2⟩, -⟩, -⟩ := id h
  have l1 := K.l1
  refine Qc.same h ?_ rfl rfl
  show ∃ v, vv X 69 0 [some (vP 0), some (vI x)] [] σ = some (some (vI v), σ) ∧ vv X 70 0 [some (vP 80), some (vI x)] [] σ = some (some (vI v), σ)
  rw [bq_69_0, bq_70_0, bq_69_19]
  have e8 := tl_at hT (k := 8) (by omega)
  by_cases w0 : x = 0
  · rw [if_neg (by omega), if_neg (by omega), if_pos (by omega), if_pos w0, K.l0, if_pos (by omega), tn_nat, w0, K.nd, e8]
    exact ⟨_, rfl, rfl⟩
  rw [if_neg (c := x = 0) w0]
  by_cases w1 : x = 1
  · rw [if_neg (by omega), if_neg (by omega), if_pos (by omega), if_pos w1, K.l0, if_pos (by omega), tn_nat, w1, K.nm, e8]
    exact ⟨_, rfl, rfl⟩
  rw [if_neg (c := x = 1) w1]
  by_cases w2 : x = 2
  · rw [if_neg (by omega), if_neg (by omega), if_pos (by omega), if_pos w2, K.l0, if_pos (by omega), tn_nat, w2, K.nb, e8]
    exact ⟨_, rfl, rfl⟩
  rw [if_neg (c := x = 2) w2]
  by_cases w3 : x = 3
  · rw [if_neg (by omega), if_neg (by omega), if_pos (by omega), if_pos w3, K.l0, if_pos (by omega), tn_nat, w3, K.ng, e8]
    exact ⟨_, rfl, rfl⟩
  rw [if_neg (c := x = 3) w3]
  by_cases w4 : x = 4
  · rw [if_neg (by omega), if_neg (by omega), if_pos (by omega), if_pos w4, K.l0, if_pos (by omega), tn_nat, w4, K.ne, e8]
    exact ⟨_, rfl, rfl⟩
  rw [if_neg (c := x = 4) w4]
  have esc : ∀ r : Option (Option am_V × am_Sg), (if x < 0 then r else if 4 < x then r else if 0 ≤ x ∧ x < 6 then some (some (vI (σ 8 x.toNat)), σ) else none) = r := by
    intro r
    by_cases b : x < 0
    · rw [if_pos b]
    · rw [if_neg b, if_pos (by omega)]
  rw [esc]
  by_cases w5 : x = 5
  · rw [if_pos w5, if_pos w5, g_hourA, bsome, hN.at (by omega)]
    exact ⟨_, rfl, rfl⟩
  rw [if_neg w5, if_neg w5]
  by_cases w6 : x = 6
  · rw [if_pos w6, if_pos w6, g_dayA, bsome, hN.at (by omega)]
    exact ⟨_, rfl, rfl⟩
  rw [if_neg w6, if_neg w6]
  by_cases w7 : x = 7
  · rw [if_pos w7, if_pos w7, e1, e2]
    exact ⟨_, rfl, rfl⟩
  rw [if_neg w7, if_neg w7]
  by_cases w8 : x = 8
  · rw [if_pos w8, if_pos w8, p1, p2]
    exact ⟨_, rfl, rfl⟩
  rw [if_neg w8, if_neg w8]
  by_cases w9 : x = 9
  · rw [if_pos w9, if_pos w9, hUc.2.1.1, hUm.1]
    exact ⟨_, rfl, rfl⟩
  rw [if_neg w9, if_neg w9]
  by_cases w10 : x = 10
  · rw [if_pos w10, if_pos w10]
    obtain ⟨k, hk⟩ : ∃ k : Nat, σ 60 4 = (k : Int) := ⟨(σ 60 4).toNat, by have := hH.1; omega⟩
    have hk7 : k ≤ 7 := by have := hH.1; omega
    have c := held_f ⟨k, by omega⟩
    have a0 := hH.2 0 (by omega)
    have a1 := hH.2 1 (by omega)
    have a2 := hH.2 2 (by omega)
    rw [hk] at a0 a1 a2
    rw [hk, c_bits (by omega), bsome]
    refine ⟨_, rfl, ?_⟩
    dsimp +instances only at c
    rw [c, a0.2.1, a1.2.1, a2.2.1]
    simp only [bq_70_163, bq_70_177, bq_70_192]
    rcases a0.1 with y0 | y0 <;> rcases a1.1 with y1 | y1 <;> rcases a2.1 with y2 | y2 <;> rw [y0, y1, y2] <;> rfl
  rw [if_neg w10, if_neg w10]
  by_cases w11 : x = 11
  · rw [if_pos w11, if_pos w11, w11, show w32 (11 - 11) = ((0 : Nat) : Int) from rfl, g_aheadA (by omega), bsome, hN.at (by omega)]
    exact ⟨_, rfl, rfl⟩
  rw [if_neg w11, if_neg w11]
  by_cases w12 : x = 12
  · rw [if_pos w12, if_pos w12, w12, show w32 (12 - 11) = ((1 : Nat) : Int) from rfl, g_aheadA (by omega), bsome, hN.at (by omega)]
    exact ⟨_, rfl, rfl⟩
  rw [if_neg w12, if_neg w12]
  exact ⟨_, rfl, rfl⟩
theorem q_back (h : Rel X σ) (x : Int) : Qc X 5 6 [vI x] σ := by
  obtain ⟨T, l, F, R, hN, hU, hH, hB, ⟨n, hn, ⟨e1, e2⟩, hP⟩, hpl, hW⟩ := id h
  by_cases hx : 0 ≤ x ∧ x ≤ (n : Int)
  · obtain ⟨k, rfl, hk⟩ := nat_of (n := n + 1) (show 0 ≤ x ∧ x < ((n + 1 : Nat) : Int) by omega)
    have ew : w32 ((n : Int) - (k : Int)) = ((n - k : Nat) : Int) := by unfold w32; omega
    have fA : Fr [1] [2] σ (am_upd (am_upd σ 1 5 ((n - k : Nat) : Int)) 80 2 ((n - k : Nat) : Int)) := (Fr.rf.upd rfl (by decide)).upf rfl
    refine ⟨((n - k : Nat) : Int), am_upd σ 1 5 ((n - k : Nat) : Int), am_upd (am_upd σ 1 5 ((n - k : Nat) : Int)) 80 2 ((n - k : Nat) : Int), vI_of ((bq_5_0 X _ σ).trans ?_) rfl, vI_of ((bq_6_0 X _ _).trans ?_) rfl, T, l, F, R.fr fA rfl rfl rfl, hN.fr fA rfl, hU.fr fA rfl rfl, hH.fr fA rfl, hB.fr fA rfl rfl, ⟨n - k, by omega, ⟨by simp [ua], by simp [ua]⟩, fun i hi => ?_⟩, ?_, hW.fr fA rfl rfl⟩
    · rw [if_neg (by omega), e1, if_pos (by omega), ew]
    · rw [un _ (show ¬ (80 : Nat) = 1 by decide), if_neg (by omega), e2, if_pos (by omega), ew]
    · rw [fA.get 2 (by decide) rfl, fA.get 81 (by decide) rfl]
      exact hP i (by omega)
    · rw [fA.get 47 (by decide) rfl, fA.fld 17 rfl]
      exact hpl
  · refine Qc.same h ⟨-1, ?_, ?_⟩ rfl rfl
    · refine (bq_5_0 X _ _).trans ?_
      rw [e1, bq_5_15]
      by_cases z : x < 0
      · rw [if_pos z]
      · rw [if_neg z, if_neg (by omega)]
    · refine (bq_6_0 X _ _).trans ?_
      rw [e2, bq_6_12]
      by_cases z : x < 0
      · rw [if_pos z]
      · rw [if_neg z, if_neg (by omega)]
theorem okB (x : Int) : am_okT 1 (am_i2b x) = true := by
  unfold am_okT am_i2b
  simp
  omega
/-- four bytes more, on both sides -/
def i4b (x : Int) (k : Nat) : Int := am_i2b (am_shr x ((24 - 8 * k : Nat) : Int))
theorem c_app {n : Nat} (x : Int) (hn : n + 4 ≤ 2000) (e1 : σ 1 5 = (n : Int)) : ∃ σ', vcV X 84 [vP 1, vI x] σ = some σ' ∧ Fr [1, 2] [] σ σ' ∧ σ' 1 5 = ((n + 4 : Nat) : Int) ∧ ∀ i, σ' 2 i = if n ≤ i ∧ i < n + 4 then i4b x (i - n) else σ 2 i := by
  obtain ⟨s, e, f, h1, h2⟩ := lp (fun i (s : am_Sg) => vv X 84 3 [some (vP 1), some (vI x), some (vI (24 - 8 * (i : Int)))] [] s) 4 (fun i s => Fr [1, 2] [] σ s ∧ s 1 5 = ((n + i : Nat) : Int) ∧ ∀ j, s 2 j = if n ≤ j ∧ j < n + i then i4b x (j - n) else σ 2 j) (fun i s hi hs => by
    obtain ⟨fs, h1, h2⟩ := hs
    show ∃ s', vv X 84 3 [some (vP 1), some (vI x), some (vI (24 - 8 * (i : Int)))] [] s = vv X 84 3 [some (vP 1), some (vI x), some (vI (24 - 8 * ((i + 1 : Nat) : Int)))] [] s' ∧ _
    rw [bq_84_3, if_neg (by omega), h1, if_neg (by omega), if_pos ⟨by omega, by omega, okB _⟩, bq_84_40, tn_nat, w32_s1 (by omega), show w32 (24 - 8 * (i : Int) + -8) = 24 - 8 * ((i + 1 : Nat) : Int) from by unfold w32; omega]
    refine ⟨_, rfl, (fs.upd rfl (by decide)).upd rfl (by decide), ?_, fun j => ?_⟩
    · simp [ua]
      omega
    · rw [un _ (by decide), ua, if_pos rfl, h2 j]
      by_cases z : j = n + i
      · rw [if_pos z, if_pos (by omega), z]
        unfold i4b
        congr 2
        omega
      · rw [if_neg z]
        by_cases y : n ≤ j ∧ j < n + i
        · rw [if_pos y, if_pos (by omega)]
        · rw [if_neg y, if_neg (by omega)]) 4 0 σ (by omega) ⟨Fr.rf, e1, fun j => by rw [if_neg (by omega)]⟩
  refine ⟨s, vV_of ((bq_84_0 X _ σ).trans (Eq.trans e ?_)) rfl, f, h1, h2⟩
  show vv X 84 3 [some (vP 1), some (vI x), some (vI (-8))] [] s = _
  rw [bq_84_3, if_pos (by omega), bq_84_46]
theorem m_put {n : Nat} (x : Int) (hn : n + 4 ≤ 2000) (e1 : σ 80 2 = (n : Int)) : ∃ σ', vcV X 85 [vP 80, vI x] σ = some σ' ∧ Fr [81] [2] σ σ' ∧ σ' 80 2 = ((n + 4 : Nat) : Int) ∧ ∀ i, σ' 81 i = if n ≤ i ∧ i < n + 4 then i4b x (i - n) else σ 81 i := by
  obtain ⟨s, e, f, h1, h2⟩ := lp (fun i (s : am_Sg) => vv X 85 3 [some (vP 80), some (vI x), some (vI (24 - 8 * (i : Int)))] [] s) 4 (fun i s => Fr [81] [2] σ s ∧ s 80 2 = ((n + i : Nat) : Int) ∧ ∀ j, s 81 j = if n ≤ j ∧ j < n + i then i4b x (j - n) else σ 81 j) (fun i s hi hs => by
    obtain ⟨fs, h1, h2⟩ := hs
    show ∃ s', vv X 85 3 [some (vP 80), some (vI x), some (vI (24 - 8 * (i : Int)))] [] s = vv X 85 3 [some (vP 80), some (vI x), some (vI (24 - 8 * ((i + 1 : Nat) : Int)))] [] s' ∧ _
    rw [bq_85_3, if_neg (by omega), h1, if_pos ⟨by omega, by omega, okB _⟩, bq_85_30, tn_nat, w32_s1 (by omega), show w32 (24 - 8 * (i : Int) + -8) = 24 - 8 * ((i + 1 : Nat) : Int) from by unfold w32; omega]
    refine ⟨_, rfl, (fs.upd rfl (by decide)).upf rfl, ?_, fun j => ?_⟩
    · simp [ua]
      omega
    · rw [un _ (by decide), ua, if_pos rfl, h2 j]
      by_cases z : j = n + i
      · rw [if_pos z, if_pos (by omega), z]
        unfold i4b
        congr 2
        omega
      · rw [if_neg z]
        by_cases y : n ≤ j ∧ j < n + i
        · rw [if_pos y, if_pos (by omega)]
        · rw [if_neg y, if_neg (by omega)]) 4 0 σ (by omega) ⟨Fr.rf, e1, fun j => by rw [if_neg (by omega)]⟩
  refine ⟨s, vV_of ((bq_85_0 X _ σ).trans (Eq.trans e ?_)) rfl, f, h1, h2⟩
  show vv X 85 3 [some (vP 80), some (vI x), some (vI (-8))] [] s = _
  rw [bq_85_3, if_pos (by omega)]
theorem q_feed (h : Rel X σ) (a b c d e : Int) : Qc X 3 4 [vI a, vI b, vI c, vI d, vI e] σ := by
  obtain ⟨T, l, F, R, hN, hU, hH, hB, ⟨n, hn, ⟨e1, e2⟩, hP⟩, hpl, hW⟩ := id h
  have hr : vcI X 83 [vP 1, vI 20] σ = some (if n + 20 ≤ 2000 then 1 else 0, σ) := vI_of ((bq_83_0 X _ σ).trans (by
    rw [e1, show w32 ((n : Int) + 20) = ((n + 20 : Nat) : Int) from w32_ad (c := 20) (by omega), bq_83_17, bq_83_17, if_pos okZ0, if_pos okZ1]
    by_cases z : n + 20 ≤ 2000
    · rw [if_pos z, if_neg (by omega)]
    · rw [if_neg z, if_pos (by omega)])) rfl
  by_cases z : n + 20 ≤ 2000
  · obtain ⟨s1, c1, f1, g1, t1⟩ := c_app (X := X) a (by omega) e1
    obtain ⟨s2, c2, f2, g2, t2⟩ := c_app (X := X) b (by omega) g1
    obtain ⟨s3, c3, f3, g3, t3⟩ := c_app (X := X) c (by omega) g2
    obtain ⟨s4, c4, f4, g4, t4⟩ := c_app (X := X) d (by omega) g3
    obtain ⟨s5, c5, f5, g5, t5⟩ := c_app (X := X) e (by omega) g4
    have fC := (((f1.tr f2).tr f3).tr f4).tr f5
    obtain ⟨r1, d1, k1, m1, w1⟩ := m_put (X := X) a (show n + 4 ≤ 2000 by omega) ((fC.fld 2 rfl).trans e2)
    obtain ⟨r2, d2, k2, m2, w2⟩ := m_put (X := X) b (by omega) m1
    obtain ⟨r3, d3, k3, m3, w3⟩ := m_put (X := X) c (by omega) m2
    obtain ⟨r4, d4, k4, m4, w4⟩ := m_put (X := X) d (by omega) m3
    obtain ⟨r5, d5, k5, m5, w5⟩ := m_put (X := X) e (by omega) m4
    have fM := (((k1.tr k2).tr k3).tr k4).tr k5
    have fA : Fr [1, 2, 81] [2] σ r5 := (fC.mono rfl rfl).tr (fM.mono rfl rfl)
    refine ⟨((n + 20 : Nat) : Int), s5, r5, vI_of ((bq_3_0 X _ _ _ _ _ σ).trans ?_) rfl, vI_of ((bq_4_0 X _ _ _ _ _ s5).trans ?_) rfl, T, l, F, R.fr fA rfl rfl rfl, hN.fr fA rfl, hU.fr fA rfl rfl, hH.fr fA rfl, hB.fr fA rfl rfl, ⟨n + 20, z, ⟨?_, ?_⟩, fun i hi => ?_⟩, ?_, hW.fr fA rfl rfl⟩
    · rw [hr, bsome]
      dsimp +instances only
      rw [if_pos z, if_pos i10, c1, bsome, c2, bsome, c3, bsome, c4, bsome, c5, bsome, g5]
    · rw [fC.fld 2 rfl, e2, show w32 ((n : Int) + 20) = ((n + 20 : Nat) : Int) from w32_ad (c := 20) (by omega), if_pos (by omega), d1, bsome, d2, bsome, d3, bsome, d4, bsome, d5, bsome, m5]
    · rw [fM.get 1 (by decide) rfl, g5]
    · rw [m5]
    · have i2 : ∀ y k, -128 ≤ i4b y k ∧ i4b y k < 128 := fun y k => by
        unfold i4b am_i2b
        omega
      have q1 := i2 a (i - n)
      have q2 := i2 b (i - (n + 4))
      have q3 := i2 c (i - (n + 4 + 4))
      have q4 := i2 d (i - (n + 4 + 4 + 4))
      have q5 := i2 e (i - (n + 4 + 4 + 4 + 4))
      rw [fM.get 2 (by decide) rfl, t5, t4, t3, t2, t1, w5, w4, w3, w2, w1, fC.get 81 (by decide) rfl]
      by_cases z5 : n + 4 + 4 + 4 + 4 ≤ i ∧ i < n + 4 + 4 + 4 + 4 + 4
      · rw [if_pos z5, if_pos z5]
        exact ⟨rfl, q5⟩
      rw [if_neg z5, if_neg z5]
      by_cases z4 : n + 4 + 4 + 4 ≤ i ∧ i < n + 4 + 4 + 4 + 4
      · rw [if_pos z4, if_pos z4]
        exact ⟨rfl, q4⟩
      rw [if_neg z4, if_neg z4]
      by_cases z3 : n + 4 + 4 ≤ i ∧ i < n + 4 + 4 + 4
      · rw [if_pos z3, if_pos z3]
        exact ⟨rfl, q3⟩
      rw [if_neg z3, if_neg z3]
      by_cases z2 : n + 4 ≤ i ∧ i < n + 4 + 4
      · rw [if_pos z2, if_pos z2]
        exact ⟨rfl, q2⟩
      rw [if_neg z2, if_neg z2]
      by_cases z1 : n ≤ i ∧ i < n + 4
      · rw [if_pos z1, if_pos z1]
        exact ⟨rfl, q1⟩
      rw [if_neg z1, if_neg z1]
      exact hP i (by omega)
    · rw [fA.get 47 (by decide) rfl, fA.fld 17 rfl]
      exact hpl
  · refine Qc.same h ⟨-1, ?_, ?_⟩ rfl rfl
    · refine (bq_3_0 X _ _ _ _ _ _).trans ?_
      rw [hr, bsome]
      dsimp +instances only
      rw [if_neg z, if_neg (by decide)]
    · refine (bq_4_0 X _ _ _ _ _ _).trans ?_
      rw [e2, show w32 ((n : Int) + 20) = ((n + 20 : Nat) : Int) from w32_ad (c := 20) (by omega), if_neg (by omega)]
end QV
