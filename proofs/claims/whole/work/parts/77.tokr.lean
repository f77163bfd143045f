/-! TOKENS: the two sides' tokens agree -/
section TR
variable {B : Nat → Int} {n : Nat}
/-- kinds by kinds -/
def KR (k k' : Int) : Prop := (k = 0 ∧ k' = 0) ∨ (k = 1 ∧ k' = 3) ∨ (k = 2 ∧ k' = 1) ∨ (k = 3 ∧ k' = 2) ∨ (k ∈ am_sb ∧ k' = sgM k) ∨ ∃ w : Nat, w < 19 ∧ k = ((256 + w : Nat) : Int) ∧ k' = ((20 + wpi.getD w 0 : Nat) : Int)
theorem sgM_no {c : Int} (h : ¬ c ∈ am_sb) : sgM c = 3 := by
  have q : ∀ j : Nat, j < 9 → ¬ am_sb.getD j 0 = c := fun j hj e => h (mem_sb.mpr ⟨j, hj, e⟩)
  have q0 : ¬ (59 : Int) = c := q 0 (by omega)
  have q1 : ¬ (61 : Int) = c := q 1 (by omega)
  have q2 : ¬ (43 : Int) = c := q 2 (by omega)
  have q3 : ¬ (45 : Int) = c := q 3 (by omega)
  have q4 : ¬ (42 : Int) = c := q 4 (by omega)
  have q5 : ¬ (47 : Int) = c := q 5 (by omega)
  have q6 : ¬ (60 : Int) = c := q 6 (by omega)
  have q7 : ¬ (40 : Int) = c := q 7 (by omega)
  have q8 : ¬ (41 : Int) = c := q 8 (by omega)
  unfold sgM sg0
  rw [if_neg (by omega), if_neg (by omega), if_neg (by omega), if_neg (by omega), if_neg (by omega), if_neg (by omega), if_neg (by omega), if_neg (by omega), if_neg (by omega)]
theorem wdM_inj : ∀ u u' : Fin 19, wdM.getD u.val 0 = wdM.getD u'.val 0 → u = u' := by decide +kernel
/-- one token, seen by both -/
theorem tok_same (hr : ∀ i, i < n → -128 ≤ B i ∧ B i < 128) {i e e' : Nat} {k v k' v' nm : Int} (hi : i < n) (h : KC B n i k v e) (h' : KM B n i k' v' nm e') : e = e' ∧ KR k k' ∧ (k = 3 → v = v') ∧ (k = 2 → ∃ l : List Nat, Lt l ∧ v = ((fr 32 l : Nat) : Int) ∧ nm = ((fr 27 l : Nat) : Int)) := by
  rcases h with ⟨a1, a2, a3⟩ | ⟨a0, a1, a2, a3⟩ | ⟨a0, a1, a2, a3⟩
  · rcases h' with ⟨b1, b2, b3⟩ | ⟨b0, -⟩ | ⟨b0, -⟩
    · have ee := a2.uniq b2
      subst ee
      refine ⟨rfl, ?_⟩
      have lt : Lt (sq B i (e - i)) := sq_lt (fun j hj => (a2.2.1 (i + j) (by omega) (by omega)).2)
      rcases a3 with ⟨c1, c2⟩ | ⟨c1, c2, c3⟩
      · rcases b3 with ⟨d1, d2⟩ | ⟨d1, -⟩
        · exact ⟨Or.inr (Or.inl ⟨c2, d2⟩), fun q => by omega, fun q => by omega⟩
        · omega
      · rcases b3 with ⟨d1, d2⟩ | ⟨d1, d2, d3⟩
        · omega
        · rcases c3 with ⟨w, w1, w2, w3⟩ | ⟨w1, w2⟩
          · -- a word
            obtain ⟨g1, g2, g3, g4, g5⟩ := wds_ok ⟨w, w1⟩
            dsimp only at g1 g2 g3 g4 g5
            have el : wds.getD w [] = sq B i (e - i) := fr_inj (b := 32) (by omega) g1 lt (by
              rw [w3.symm] at c2
              have := g2.trans c2
              omega)
            have l7 : e - i ≤ 7 := by
              have := congrArg List.length el
              rw [sq_len] at this
              omega
            have wm : wdM.getD (wpi.getD w 0) 0 = nm := by rw [d2, ← el, g3]
            refine ⟨Or.inr (Or.inr (Or.inr (Or.inr (Or.inr ⟨w, w1, w2, ?_⟩)))), fun q => by omega, fun q => by omega⟩
            rcases d3 with ⟨-, u, u1, u2, u3⟩ | ⟨u1, u2⟩
            · have := wdM_inj ⟨u, u1⟩ ⟨wpi.getD w 0, g4⟩ (u3.trans wm.symm)
              rw [u2]
              have : u = wpi.getD w 0 := congrArg Fin.val this
              rw [this]
            · exact absurd wm (u2 l7 _ g4)
          · -- a name
            refine ⟨Or.inr (Or.inr (Or.inl ⟨w1, ?_⟩)), fun q => by omega, fun _ => ⟨_, lt, c2, d2⟩⟩
            rcases d3 with ⟨-, u, u1, u2, u3⟩ | ⟨u1, u2⟩
            · obtain ⟨⟨w, ww⟩, hw⟩ := wpi_sur ⟨u, u1⟩
              dsimp only at hw
              have := (word_iff lt ww).mpr (by rw [hw, u3, d2])
              exact absurd (this.trans c2.symm) (w2 w ww)
            · exact u1
    · exact absurd a1 b0
    · exact absurd a1 b0
  · rcases h' with ⟨b1, -⟩ | ⟨b0, b1, b2, b3⟩ | ⟨-, b1, -⟩
    · exact absurd b1 a0
    · have ee := a2.uniq b2
      subst ee
      refine ⟨rfl, ?_⟩
      rcases a3 with ⟨c1, c2⟩ | ⟨c1, c2, c3⟩
      · rcases b3 with ⟨d1, d2⟩ | ⟨d1, -⟩
        · exact ⟨Or.inr (Or.inl ⟨c2, d2⟩), fun q => by omega, fun q => by omega⟩
        · omega
      · rcases b3 with ⟨d1, d2⟩ | ⟨d1, d2, d3⟩
        · omega
        · exact ⟨Or.inr (Or.inr (Or.inr (Or.inl ⟨c2, d2⟩))), fun _ => by rw [c3, d3], fun q => by omega⟩
    · exact absurd a1 b1
  · rcases h' with ⟨b1, -⟩ | ⟨b0, b1, -⟩ | ⟨-, -, b2, b3⟩
    · exact absurd b1 a0
    · exact absurd b1 a1
    · refine ⟨by rw [a2, b2], ?_⟩
      have hri := hr i hi
      rcases a3 with ⟨c1, c2⟩ | ⟨c1, c2⟩
      · have ps := sb_pos _ c1
        have eb : bA B n i = B i := bA_in hi (by omega)
        rw [eb] at b3
        have n3 : ∀ c ∈ am_sb, ¬ c = 3 ∧ ¬ c = 2 := by decide +kernel
        have := n3 _ c1
        exact ⟨Or.inr (Or.inr (Or.inr (Or.inr (Or.inl ⟨by rw [c2]; exact c1, by rw [c2]; exact b3⟩)))), fun q => by omega, fun q => by omega⟩
      · refine ⟨Or.inr (Or.inl ⟨c2, ?_⟩), fun q => by omega, fun q => by omega⟩
        rw [b3]
        refine sgM_no (fun q => ?_)
        have ps := sb_pos _ q
        by_cases neg : B i < 0
        · have eb : bA B n i = B i + 256 := by unfold bA; rw [if_pos hi, if_pos neg]
          rw [eb] at ps
          omega
        · rw [bA_in hi (by omega)] at q
          exact c1 q
end TR
