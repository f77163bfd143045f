/-! TOKENS: the reference's signs -/
section CW
variable {X : Nat} {σ : am_Sg} {B : Nat → Int} {n : Nat}
def sg0 (c : Int) : Int := if c = 59 then 4 else if c = 61 then 5 else if c = 40 then 6 else if c = 41 then 7 else 3
def sgM (c : Int) : Int := if c = 60 then 13 else if c = 47 then 15 else if c = 42 then 10 else if c = 45 then 9 else if c = 43 then 8 else sg0 c
theorem m_sign {t : Nat} {i c d : Int} (ht : t < 403) (h : σ 80 10 = (t : Int)) : vcI X 189 [vP 80, vI i, vI c, vI d] σ = some (1, lay σ t (sgM c) i 0 0) := by
  have h95 : ∀ k, vv X 189 95 [some (vP 80), some (vI i), none, none, some (vI k)] [] σ = some (some (vI 1), lay σ t k i 0 0) := fun k => by rw [bq_189_95, m_tok ht h, bsome]
  have h85 : ∀ k, vv X 189 85 [some (vP 80), some (vI i), some (vI c), none, some (vI k)] [] σ = some (some (vI 1), lay σ t (if c = 60 then 13 else k) i 0 0) := fun k => by
    rw [bq_189_85]
    by_cases z : c = 60
    · rw [if_neg (fun q => q z), if_pos z, h95]
    · rw [if_pos z, if_neg z, h95]
  have h75 : ∀ k, vv X 189 75 [some (vP 80), some (vI i), some (vI c), none, some (vI k)] [] σ = some (some (vI 1), lay σ t (if c = 60 then 13 else if c = 47 then 15 else k) i 0 0) := fun k => by
    rw [bq_189_75]
    by_cases z : c = 47
    · rw [if_neg (fun q => q z), h85, if_pos z]
    · rw [if_pos z, h85, if_neg z]
  have h65 : ∀ k, vv X 189 65 [some (vP 80), some (vI i), some (vI c), none, some (vI k)] [] σ = some (some (vI 1), lay σ t (if c = 60 then 13 else if c = 47 then 15 else if c = 42 then 10 else k) i 0 0) := fun k => by
    rw [bq_189_65]
    by_cases z : c = 42
    · rw [if_neg (fun q => q z), h75, if_pos z]
    · rw [if_pos z, h75, if_neg z]
  have h55 : ∀ k, vv X 189 55 [some (vP 80), some (vI i), some (vI c), none, some (vI k)] [] σ = some (some (vI 1), lay σ t (if c = 60 then 13 else if c = 47 then 15 else if c = 42 then 10 else if c = 45 then 9 else k) i 0 0) := fun k => by
    rw [bq_189_55]
    by_cases z : c = 45
    · rw [if_neg (fun q => q z), h65, if_pos z]
    · rw [if_pos z, h65, if_neg z]
  have h43 : ∀ k, vv X 189 43 [some (vP 80), some (vI i), some (vI c), none, none] [vI k] σ = some (some (vI 1), lay σ t (if c = 60 then 13 else if c = 47 then 15 else if c = 42 then 10 else if c = 45 then 9 else if c = 43 then 8 else k) i 0 0) := fun k => by
    rw [bq_189_43]
    by_cases z : c = 43
    · rw [if_neg (fun q => q z), h55, if_pos z]
    · rw [if_pos z, h55, if_neg z]
  refine vI_of ((bq_189_0 X _ _ _ σ).trans ?_) rfl
  unfold sgM sg0
  by_cases z1 : c = 59
  · rw [if_neg (fun q => q z1), h43, if_pos z1]
  · rw [if_pos z1, if_neg z1]
    by_cases z2 : c = 61
    · rw [if_neg (fun q => q z2), h43, if_pos z2]
    · rw [if_pos z2, if_neg z2]
      by_cases z3 : c = 40
      · rw [if_neg (fun q => q z3), h43, if_pos z3]
      · rw [if_pos z3, if_neg z3]
        by_cases z4 : c = 41
        · rw [if_neg (fun q => q z4), h43, if_pos z4]
        · rw [if_pos z4, if_neg z4, h43]
/-- what the reference makes of what stands at i: kind, value, name, end -/
def KM (B : Nat → Int) (n i : Nat) (k v nm : Int) (e : Nat) : Prop := (isLe (B i) ∧ Run isLe B n i e ∧ ((8 < e - i ∧ k = 3) ∨ (e - i ≤ 8 ∧ nm = ((fr 27 (sq B i (e - i)) : Nat) : Int) ∧ ((e - i ≤ 7 ∧ ∃ u : Nat, u < 19 ∧ k = ((20 + u : Nat) : Int) ∧ wdM.getD u 0 = nm) ∨ (k = 1 ∧ (e - i ≤ 7 → ∀ u : Nat, u < 19 → ¬ wdM.getD u 0 = nm)))))) ∨ (¬ isLe (B i) ∧ isDi (B i) ∧ Run isDi B n i e ∧ ((4 < e - i ∧ k = 3) ∨ (e - i ≤ 4 ∧ k = 2 ∧ v = dn B i (e - i)))) ∨ (¬ isLe (B i) ∧ ¬ isDi (B i) ∧ e = i + 1 ∧ k = sgM (bA B n i))
end CW
