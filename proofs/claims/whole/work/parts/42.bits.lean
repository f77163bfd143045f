/-! BITS OF SETS -/
theorem i32_or_and (P Q C : Int32) : (P ||| Q) &&& C = (P &&& C) ||| (Q &&& C) := Int32.toBitVec.inj (by
  simp only [Int32.toBitVec_and, Int32.toBitVec_or]
  ext i hi
  simp [Bool.and_or_distrib_right])
theorem i32_0 (P : Int32) : P.toInt = 0 ↔ P = 0 := by
  rw [show (0 : Int) = (0 : Int32).toInt from rfl, Int32.toInt_inj]
theorem and_or0 (p q c : Int) : am_and (am_or p q) c = 0 ↔ am_and p c = 0 ∧ am_and q c = 0 := by
  unfold am_and am_or
  rw [Int32.ofInt_toInt, i32_0, i32_0, i32_0, i32_or_and, Int32.or_eq_zero_iff]
theorem orp_f : ∀ p : Fin 256, ∀ m : Fin 8, (bt1 (p.val : Int) m.val = 0 → am_or (p.val : Int) (am_shl 1 (m.val : Int)) = ((p.val + 2 ^ m.val : Nat) : Int) ∧ p.val + 2 ^ m.val < 256 ∧ bc ((p.val + 2 ^ m.val : Nat) : Int) 8 = bc (p.val : Int) 8 + 1) ∧ (bt1 (p.val : Int) m.val = 1 → am_or (p.val : Int) (am_shl 1 (m.val : Int)) = (p.val : Int)) := by decide +kernel
theorem orp0 {p m : Nat} (hp : p < 256) (hm : m < 8) (h : bt1 (p : Int) m = 0) : am_or (p : Int) (am_shl 1 (m : Int)) = ((p + 2 ^ m : Nat) : Int) ∧ p + 2 ^ m < 256 ∧ bc ((p + 2 ^ m : Nat) : Int) 8 = bc (p : Int) 8 + 1 := (orp_f ⟨p, hp⟩ ⟨m, hm⟩).1 h
theorem orp1 {p m : Nat} (hp : p < 256) (hm : m < 8) (h : bt1 (p : Int) m = 1) : am_or (p : Int) (am_shl 1 (m : Int)) = (p : Int) := (orp_f ⟨p, hp⟩ ⟨m, hm⟩).2 h
theorem subm_f : ∀ s : Fin 256, ∀ m : Fin 8, (am_and (am_shl 1 (m.val : Int)) (am_xor (s.val : Int) (-1)) = 0 ↔ bt1 (s.val : Int) m.val = 1) := by decide +kernel
theorem subm {s m : Nat} (hs : s < 256) (hm : m < 8) : am_and (am_shl 1 (m : Int)) (am_xor (s : Int) (-1)) = 0 ↔ bt1 (s : Int) m = 1 := subm_f ⟨s, hs⟩ ⟨m, hm⟩
/-- p is a part of s -/
def subS (p s : Nat) : Prop := am_and (p : Int) (am_xor (s : Int) (-1)) = 0
theorem subS_up {p s m : Nat} (hp : p < 256) (hs : s < 256) (hm : m < 8) (h : bt1 (p : Int) m = 0) : subS (p + 2 ^ m) s ↔ subS p s ∧ bt1 (s : Int) m = 1 := by
  unfold subS
  rw [← (orp0 hp hm h).1, and_or0, subm hs hm]
theorem subS_bit {p s m : Nat} (hp : p < 256) (hs : s < 256) (hm : m < 8) (h : subS p s) (hb : bt1 (p : Int) m = 1) : bt1 (s : Int) m = 1 := by
  unfold subS at h
  rw [← orp1 hp hm hb, and_or0, subm hs hm] at h
  exact h.2
theorem byb_f : ∀ p : Fin 256, (p.val : Int) = bt1 (p.val : Int) 0 + 2 * bt1 (p.val : Int) 1 + 4 * bt1 (p.val : Int) 2 + 8 * bt1 (p.val : Int) 3 + 16 * bt1 (p.val : Int) 4 + 32 * bt1 (p.val : Int) 5 + 64 * bt1 (p.val : Int) 6 + 128 * bt1 (p.val : Int) 7 := by decide +kernel
theorem bc8 (x : Int) : bc x 8 = bt1 x 0 + bt1 x 1 + bt1 x 2 + bt1 x 3 + bt1 x 4 + bt1 x 5 + bt1 x 6 + bt1 x 7 := by
  simp only [bc]
  omega
/-- a part is no greater, and has fewer bits if it isn't the whole -/
theorem subS_j {p s m : Nat} (hp : p < 256) (hs : s < 256) (hm : m < 8) (h : subS p s) : bt1 (p : Int) m ≤ bt1 (s : Int) m := by
  have a := bt01 hp hm
  have b := bt01 hs hm
  have c := subS_bit hp hs hm h
  omega
theorem lin8 {p s : Int} {p0 p1 p2 p3 p4 p5 p6 p7 s0 s1 s2 s3 s4 s5 s6 s7 : Int} (e1 : p = p0 + 2 * p1 + 4 * p2 + 8 * p3 + 16 * p4 + 32 * p5 + 64 * p6 + 128 * p7) (e2 : s = s0 + 2 * s1 + 4 * s2 + 8 * s3 + 16 * s4 + 32 * s5 + 64 * s6 + 128 * s7) (j0 : p0 ≤ s0) (j1 : p1 ≤ s1) (j2 : p2 ≤ s2) (j3 : p3 ≤ s3) (j4 : p4 ≤ s4) (j5 : p5 ≤ s5) (j6 : p6 ≤ s6) (j7 : p7 ≤ s7) : p ≤ s ∧ (¬ p = s → p0 + p1 + p2 + p3 + p4 + p5 + p6 + p7 < s0 + s1 + s2 + s3 + s4 + s5 + s6 + s7) := by omega
/-- a part is no greater, and has fewer bits if it isn't the whole -/
theorem subS_le {p s : Nat} (hp : p < 256) (hs : s < 256) (h : subS p s) : p ≤ s ∧ (¬ p = s → bc (p : Int) 8 < bc (s : Int) 8) := by
  have k := lin8 (p := (p : Int)) (s := (s : Int)) (byb_f ⟨p, hp⟩) (byb_f ⟨s, hs⟩) (subS_j hp hs (by omega) h) (subS_j hp hs (by omega) h) (subS_j hp hs (by omega) h) (subS_j hp hs (by omega) h) (subS_j hp hs (by omega) h) (subS_j hp hs (by omega) h) (subS_j hp hs (by omega) h) (subS_j hp hs (by omega) h)
  rw [bc8, bc8]
  exact ⟨by have := k.1; omega, fun y => k.2 (fun q => y (by omega))⟩
theorem subS_zero_f : ∀ s : Fin 256, am_and ((0 : Nat) : Int) (am_xor (s.val : Int) (-1)) = 0 := by decide +kernel
theorem subS_zero {s : Nat} (h : s < 256) : subS 0 s := subS_zero_f ⟨s, h⟩
theorem subS_self_f : ∀ s : Fin 256, am_and (s.val : Int) (am_xor (s.val : Int) (-1)) = 0 := by decide +kernel
theorem subS_self {s : Nat} (h : s < 256) : subS s s := subS_self_f ⟨s, h⟩
theorem shl1_f : ∀ m : Fin 9, am_shl 1 (m.val : Int) = ((2 ^ m.val : Nat) : Int) := by decide +kernel
theorem shl1 {m : Nat} (h : m < 9) : am_shl 1 (m : Int) = ((2 ^ m : Nat) : Int) := shl1_f ⟨m, h⟩
theorem pow8 {m : Nat} (h : m ≤ 8) : 1 ≤ 2 ^ m ∧ 2 ^ m ≤ 256 := by
  rcases (show m = 0 ∨ m = 1 ∨ m = 2 ∨ m = 3 ∨ m = 4 ∨ m = 5 ∨ m = 6 ∨ m = 7 ∨ m = 8 by omega) with e | e | e | e | e | e | e | e | e <;> subst e <;> decide
section ST
variable {X l : Nat} {σ T : am_Sg}
theorem c_isSet (H : TOk T) (hT : tl σ = T) {x : Int} : vcI X 137 [vP 0, vI x] σ = some (if 0 ≤ x ∧ x < ((2 ^ nM T : Nat) : Int) then 1 else 0, σ) := by
  have h8 := H.m8
  refine vI_of ((bq_137_0 X _ σ).trans ?_) rfl
  rw [bq_137_21, g_men, bsome]
  dsimp +instances only
  rw [tl_at hT (k := 8) (by omega), H.m0, shl1 (by omega), bq_137_21, bq_137_22, bq_137_22, if_pos okZ0, if_pos okZ1]
  by_cases z : 0 ≤ x ∧ x < ((2 ^ nM T : Nat) : Int)
  · rw [if_neg (by omega), if_neg (by omega), if_pos z]
  · rw [if_neg z]
    by_cases y : x < 0
    · rw [if_pos y]
    · rw [if_neg y, if_pos (by omega)]
theorem m_isSet (H : TOk T) (K : TM σ T l) {x : Int} : vcI X 139 [vP 80, vI x] σ = some (if 0 ≤ x ∧ x < ((2 ^ nM T : Nat) : Int) then 1 else 0, σ) := by
  have h8 := H.m8
  have p8 := pow8 h8
  refine vI_of ((bq_139_0 X _ σ).trans ?_) rfl
  rw [m_menNow H K, bsome]
  dsimp +instances only
  rw [shl1 (by omega), g_in, bsome]
  dsimp +instances only
  rw [if_pos okZi, w32_id (by omega) (by omega)]
  by_cases z : 0 ≤ x ∧ x < ((2 ^ nM T : Nat) : Int)
  · rw [if_pos z, if_pos (by omega)]
  · rw [if_neg z, if_neg (by omega)]
end ST
