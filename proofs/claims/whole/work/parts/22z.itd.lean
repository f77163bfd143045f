/-! a condition that is asked, and known behind -/
theorem vq_itd {α : Type} {p : Prop} {ip : Decidable p} {a a' : α} {b : α} (ha : p → a = a') : @ite α p ip a b = @ite α p ip a' b := by
  by_cases hp : p
  · rw [if_pos hp, if_pos hp, ha hp]
  · rw [if_neg hp, if_neg hp]
