section
theorem tt_a (x y : Int) (h : x < y) : x + 1 ≤ y := by omega
theorem tt_b (f : Nat → Nat) (a b : Nat) (h : a = b) : f a = f b := by grind
theorem tt_c : (lw_Fr 1 2 1) := ⟨by omega, by omega⟩
end
