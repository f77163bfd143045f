/-! CELLS AS ROWS; FILLS; PLATES -/
def up (f : Nat → Int) (j : Nat) (x : Int) : Nat → Int := fun i => if i = j then x else f i
theorem upe (f : Nat → Int) (j : Nat) (x : Int) : up f j x j = x := if_pos rfl
theorem upn {f : Nat → Int} {j : Nat} {x : Int} {i : Nat} (h : ¬ i = j) : up f j x i = f i := if_neg h
theorem upa (f : Nat → Int) (j : Nat) (x : Int) (i : Nat) : up f j x i = if i = j then x else f i := rfl
theorem uu (σ : am_Sg) (k j : Nat) (x : Int) : am_upd σ k j x = am_row σ k (up (σ k) j x) := by
  funext a i
  rw [ua, ra, upa]
  by_cases h : a = k
  · rw [if_pos h, if_pos h, h]
  · rw [if_neg h, if_neg h]
theorem rr (σ : am_Sg) (k : Nat) (f g : Nat → Int) : am_row (am_row σ k f) k g = am_row σ k g := by
  funext a i
  rw [ra, ra, ra]
  by_cases h : a = k
  · rw [if_pos h, if_pos h]
  · rw [if_neg h, if_neg h, if_neg h]
theorem ur (σ : am_Sg) (k j : Nat) (f : Nat → Int) (x : Int) : am_upd (am_row σ k f) k j x = am_row σ k (up f j x) := by rw [uu, re, rr]
theorem r0 (σ : am_Sg) (k : Nat) : am_row σ k (σ k) = σ := by
  funext a i
  rw [ra]
  by_cases h : a = k
  · rw [if_pos h, h]
  · rw [if_neg h]
theorem ue (σ : am_Sg) (k j : Nat) (x : Int) : am_upd σ k j x k = up (σ k) j x := by rw [uu, re]
/-- a loop that writes one place a turn -/
theorem cpl {β : Type} (f : Nat → am_Sg → Option β) (k o N : Nat) (v : Nat → Int) (σ : am_Sg) (h : ∀ i, i < N → ∀ r, f i (am_row σ k r) = f (i + 1) (am_upd (am_row σ k r) k (o + i) (v i))) : ∀ n a r, a + n = N → f a (am_row σ k r) = f N (am_row σ k (fun j => if o + a ≤ j ∧ j < o + N then v (j - o) else r j))
  | 0, a, r, e => by
    rw [show a = N by omega]
    congr 2
    funext j
    rw [if_neg (by omega)]
  | n + 1, a, r, e => by
    rw [h a (by omega) r, ur, cpl f k o N v σ h n (a + 1) _ (by omega)]
    congr 2
    funext j
    rw [upa]
    by_cases h1 : o + (a + 1) ≤ j ∧ j < o + N
    · rw [if_pos h1, if_pos (by omega)]
    · rw [if_neg h1]
      by_cases h2 : j = o + a
      · rw [if_pos h2, if_pos (by omega), h2, show o + a - o = a by omega]
      · rw [if_neg h2, if_neg (by omega)]
/-- the same from the contents as they are -/
theorem cpl0 {β : Type} (f : Nat → am_Sg → Option β) (k o N a : Nat) (v : Nat → Int) (σ : am_Sg) (ha : a ≤ N) (h : ∀ i, i < N → ∀ r, f i (am_row σ k r) = f (i + 1) (am_upd (am_row σ k r) k (o + i) (v i))) : f a σ = f N (am_row σ k (fun j => if o + a ≤ j ∧ j < o + N then v (j - o) else σ k j)) := by
  have := cpl f k o N v σ h (N - a) a (σ k) (by omega)
  rw [r0] at this
  exact this
section FILLS
variable {X a b : Nat} {σ : am_Sg} {x : Int}
theorem fl_28 : vcV X 172 [vP 28, vI x] σ = some (am_row σ 28 (fun j => if j < 6 then x else σ 28 j)) := by
  refine vV_of ((bq_172a_0 X _ σ).trans ?_) rfl
  refine (cpl0 (fun i s => vv X 172 5 [some (vP 28), some (vI x), some (vI (i : Int)), some (vI 6)] [] s) 28 0 6 0 (fun _ => x) σ (Nat.zero_le _) (fun i hi r => by
    show vv X 172 5 [some (vP 28), some (vI x), some (vI (i : Int)), some (vI 6)] [] _ = _
    rw [bq_172a_5, if_neg (by omega), if_pos (by omega), w32_s1 (by omega), tn_nat, Nat.zero_add])).trans ?_
  show vv X 172 5 [some (vP 28), some (vI x), some (vI 6), some (vI 6)] [] _ = _
  rw [bq_172a_5, if_pos (Int.le_refl _)]
  congr 3
  funext j
  simp only [Nat.zero_add, Nat.zero_le, true_and]
theorem fl_40 : vcV X 172 [vP 40, vI x] σ = some (am_row σ 40 (fun j => if j < 8 then x else σ 40 j)) := by
  refine vV_of ((bq_172b_0 X _ σ).trans ?_) rfl
  refine (cpl0 (fun i s => vv X 172 5 [some (vP 40), some (vI x), some (vI (i : Int)), some (vI 8)] [] s) 40 0 8 0 (fun _ => x) σ (Nat.zero_le _) (fun i hi r => by
    show vv X 172 5 [some (vP 40), some (vI x), some (vI (i : Int)), some (vI 8)] [] _ = _
    rw [bq_172b_5, if_neg (by omega), if_pos (by omega), w32_s1 (by omega), tn_nat, Nat.zero_add])).trans ?_
  show vv X 172 5 [some (vP 40), some (vI x), some (vI 8), some (vI 8)] [] _ = _
  rw [bq_172b_5, if_pos (Int.le_refl _)]
  congr 3
  funext j
  simp only [Nat.zero_add, Nat.zero_le, true_and]
theorem fl_45 : vcV X 172 [vP 45, vI x] σ = some (am_row σ 45 (fun j => if j < 8 then x else σ 45 j)) := by
  refine vV_of ((bq_172c_0 X _ σ).trans ?_) rfl
  refine (cpl0 (fun i s => vv X 172 5 [some (vP 45), some (vI x), some (vI (i : Int)), some (vI 8)] [] s) 45 0 8 0 (fun _ => x) σ (Nat.zero_le _) (fun i hi r => by
    show vv X 172 5 [some (vP 45), some (vI x), some (vI (i : Int)), some (vI 8)] [] _ = _
    rw [bq_172c_5, if_neg (by omega), if_pos (by omega), w32_s1 (by omega), tn_nat, Nat.zero_add])).trans ?_
  show vv X 172 5 [some (vP 45), some (vI x), some (vI 8), some (vI 8)] [] _ = _
  rw [bq_172c_5, if_pos (Int.le_refl _)]
  congr 3
  funext j
  simp only [Nat.zero_add, Nat.zero_le, true_and]
theorem fl_50 : vcV X 172 [vP 50, vI x] σ = some (am_row σ 50 (fun j => if j < 46 then x else σ 50 j)) := by
  refine vV_of ((bq_172d_0 X _ σ).trans ?_) rfl
  refine (cpl0 (fun i s => vv X 172 5 [some (vP 50), some (vI x), some (vI (i : Int)), some (vI 46)] [] s) 50 0 46 0 (fun _ => x) σ (Nat.zero_le _) (fun i hi r => by
    show vv X 172 5 [some (vP 50), some (vI x), some (vI (i : Int)), some (vI 46)] [] _ = _
    rw [bq_172d_5, if_neg (by omega), if_pos (by omega), w32_s1 (by omega), tn_nat, Nat.zero_add])).trans ?_
  show vv X 172 5 [some (vP 50), some (vI x), some (vI 46), some (vI 46)] [] _ = _
  rw [bq_172d_5, if_pos (Int.le_refl _)]
  congr 3
  funext j
  simp only [Nat.zero_add, Nat.zero_le, true_and]
theorem fl_54 : vcV X 172 [vP 54, vI x] σ = some (am_row σ 54 (fun j => if j < 4 then x else σ 54 j)) := by
  refine vV_of ((bq_172e_0 X _ σ).trans ?_) rfl
  refine (cpl0 (fun i s => vv X 172 5 [some (vP 54), some (vI x), some (vI (i : Int)), some (vI 4)] [] s) 54 0 4 0 (fun _ => x) σ (Nat.zero_le _) (fun i hi r => by
    show vv X 172 5 [some (vP 54), some (vI x), some (vI (i : Int)), some (vI 4)] [] _ = _
    rw [bq_172e_5, if_neg (by omega), if_pos (by omega), w32_s1 (by omega), tn_nat, Nat.zero_add])).trans ?_
  show vv X 172 5 [some (vP 54), some (vI x), some (vI 4), some (vI 4)] [] _ = _
  rw [bq_172e_5, if_pos (Int.le_refl _)]
  congr 3
  funext j
  simp only [Nat.zero_add, Nat.zero_le, true_and]
theorem fl_56 : vcV X 172 [vP 56, vI x] σ = some (am_row σ 56 (fun j => if j < 4 then x else σ 56 j)) := by
  refine vV_of ((bq_172f_0 X _ σ).trans ?_) rfl
  refine (cpl0 (fun i s => vv X 172 5 [some (vP 56), some (vI x), some (vI (i : Int)), some (vI 4)] [] s) 56 0 4 0 (fun _ => x) σ (Nat.zero_le _) (fun i hi r => by
    show vv X 172 5 [some (vP 56), some (vI x), some (vI (i : Int)), some (vI 4)] [] _ = _
    rw [bq_172f_5, if_neg (by omega), if_pos (by omega), w32_s1 (by omega), tn_nat, Nat.zero_add])).trans ?_
  show vv X 172 5 [some (vP 56), some (vI x), some (vI 4), some (vI 4)] [] _ = _
  rw [bq_172f_5, if_pos (Int.le_refl _)]
  congr 3
  funext j
  simp only [Nat.zero_add, Nat.zero_le, true_and]
theorem fl_67 : vcV X 172 [vP 67, vI x] σ = some (am_row σ 67 (fun j => if j < 100 then x else σ 67 j)) := by
  refine vV_of ((bq_172g_0 X _ σ).trans ?_) rfl
  refine (cpl0 (fun i s => vv X 172 5 [some (vP 67), some (vI x), some (vI (i : Int)), some (vI 100)] [] s) 67 0 100 0 (fun _ => x) σ (Nat.zero_le _) (fun i hi r => by
    show vv X 172 5 [some (vP 67), some (vI x), some (vI (i : Int)), some (vI 100)] [] _ = _
    rw [bq_172g_5, if_neg (by omega), if_pos (by omega), w32_s1 (by omega), tn_nat, Nat.zero_add])).trans ?_
  show vv X 172 5 [some (vP 67), some (vI x), some (vI 100), some (vI 100)] [] _ = _
  rw [bq_172g_5, if_pos (Int.le_refl _)]
  congr 3
  funext j
  simp only [Nat.zero_add, Nat.zero_le, true_and]
theorem fl_71 : vcV X 172 [vP 71, vI x] σ = some (am_row σ 71 (fun j => if j < 256 then x else σ 71 j)) := by
  refine vV_of ((bq_172h_0 X _ σ).trans ?_) rfl
  refine (cpl0 (fun i s => vv X 172 5 [some (vP 71), some (vI x), some (vI (i : Int)), some (vI 256)] [] s) 71 0 256 0 (fun _ => x) σ (Nat.zero_le _) (fun i hi r => by
    show vv X 172 5 [some (vP 71), some (vI x), some (vI (i : Int)), some (vI 256)] [] _ = _
    rw [bq_172h_5, if_neg (by omega), if_pos (by omega), w32_s1 (by omega), tn_nat, Nat.zero_add])).trans ?_
  show vv X 172 5 [some (vP 71), some (vI x), some (vI 256), some (vI 256)] [] _ = _
  rw [bq_172h_5, if_pos (Int.le_refl _)]
  congr 3
  funext j
  simp only [Nat.zero_add, Nat.zero_le, true_and]
theorem fl_72 : vcV X 172 [vP 72, vI x] σ = some (am_row σ 72 (fun j => if j < 64 then x else σ 72 j)) := by
  refine vV_of ((bq_172i_0 X _ σ).trans ?_) rfl
  refine (cpl0 (fun i s => vv X 172 5 [some (vP 72), some (vI x), some (vI (i : Int)), some (vI 64)] [] s) 72 0 64 0 (fun _ => x) σ (Nat.zero_le _) (fun i hi r => by
    show vv X 172 5 [some (vP 72), some (vI x), some (vI (i : Int)), some (vI 64)] [] _ = _
    rw [bq_172i_5, if_neg (by omega), if_pos (by omega), w32_s1 (by omega), tn_nat, Nat.zero_add])).trans ?_
  show vv X 172 5 [some (vP 72), some (vI x), some (vI 64), some (vI 64)] [] _ = _
  rw [bq_172i_5, if_pos (Int.le_refl _)]
  congr 3
  funext j
  simp only [Nat.zero_add, Nat.zero_le, true_and]
theorem fl_74 : vcV X 172 [vP 74, vI x] σ = some (am_row σ 74 (fun j => if j < 4 then x else σ 74 j)) := by
  refine vV_of ((bq_172j_0 X _ σ).trans ?_) rfl
  refine (cpl0 (fun i s => vv X 172 5 [some (vP 74), some (vI x), some (vI (i : Int)), some (vI 4)] [] s) 74 0 4 0 (fun _ => x) σ (Nat.zero_le _) (fun i hi r => by
    show vv X 172 5 [some (vP 74), some (vI x), some (vI (i : Int)), some (vI 4)] [] _ = _
    rw [bq_172j_5, if_neg (by omega), if_pos (by omega), w32_s1 (by omega), tn_nat, Nat.zero_add])).trans ?_
  show vv X 172 5 [some (vP 74), some (vI x), some (vI 4), some (vI 4)] [] _ = _
  rw [bq_172j_5, if_pos (Int.le_refl _)]
  congr 3
  funext j
  simp only [Nat.zero_add, Nat.zero_le, true_and]
theorem fl_79 : vcV X 172 [vP 79, vI x] σ = some (am_row σ 79 (fun j => if j < 32 then x else σ 79 j)) := by
  refine vV_of ((bq_172k_0 X _ σ).trans ?_) rfl
  refine (cpl0 (fun i s => vv X 172 5 [some (vP 79), some (vI x), some (vI (i : Int)), some (vI 32)] [] s) 79 0 32 0 (fun _ => x) σ (Nat.zero_le _) (fun i hi r => by
    show vv X 172 5 [some (vP 79), some (vI x), some (vI (i : Int)), some (vI 32)] [] _ = _
    rw [bq_172k_5, if_neg (by omega), if_pos (by omega), w32_s1 (by omega), tn_nat, Nat.zero_add])).trans ?_
  show vv X 172 5 [some (vP 79), some (vI x), some (vI 32), some (vI 32)] [] _ = _
  rw [bq_172k_5, if_pos (Int.le_refl _)]
  congr 3
  funext j
  simp only [Nat.zero_add, Nat.zero_le, true_and]
theorem fl_52 : vcV X 172 [vP 52, vI x] σ = some (am_row σ 52 (fun j => if j < 46 then x else σ 52 j)) := by
  refine vV_of ((bq_172l_0 X _ σ).trans ?_) rfl
  refine (cpl0 (fun i s => vv X 172 5 [some (vP 52), some (vI x), some (vI (i : Int)), some (vI 46)] [] s) 52 0 46 0 (fun _ => x) σ (Nat.zero_le _) (fun i hi r => by
    show vv X 172 5 [some (vP 52), some (vI x), some (vI (i : Int)), some (vI 46)] [] _ = _
    rw [bq_172l_5, if_neg (by omega), if_pos (by omega), w32_s1 (by omega), tn_nat, Nat.zero_add])).trans ?_
  show vv X 172 5 [some (vP 52), some (vI x), some (vI 46), some (vI 46)] [] _ = _
  rw [bq_172l_5, if_pos (Int.le_refl _)]
  congr 3
  funext j
  simp only [Nat.zero_add, Nat.zero_le, true_and]
theorem fl_rng {c d e : Int} (h1 : d ≤ e) (h2 : 0 ≤ d) (h3 : e ≤ c) : vcV X 260 [vI c, vI d, vI e] σ = some σ := vV_of ((bq_260_0 X _ _ _ σ).trans (by rw [if_pos h1, if_pos h2, if_pos h3])) rfl
theorem fr_39 (h1 : a ≤ b) (h2 : b ≤ 32) : vcV X 206 [vP 39, vI (a : Int), vI (b : Int), vI x] σ = some (am_row σ 39 (fun j => if a ≤ j ∧ j < b then x else σ 39 j)) := by
  refine vV_of ((bq_206a_0 X _ _ _ σ).trans ?_) rfl
  rw [fl_rng (by omega) (by omega) (by omega), bsome]
  refine (cpl0 (fun i s => vv X 206 10 [some (vP 39), none, some (vI (b : Int)), some (vI x), some (vI (i : Int))] [] s) 39 0 b a (fun _ => x) σ h1 (fun i hi r => by
    show vv X 206 10 [some (vP 39), none, some (vI (b : Int)), some (vI x), some (vI (i : Int))] [] _ = _
    rw [bq_206a_10, if_neg (by omega), if_pos (by omega), w32_s1 (by omega), tn_nat, Nat.zero_add])).trans ?_
  show vv X 206 10 [some (vP 39), none, some (vI (b : Int)), some (vI x), some (vI (b : Int))] [] _ = _
  rw [bq_206a_10, if_pos (Int.le_refl _)]
  congr 3
  funext j
  simp only [Nat.zero_add]
theorem fr_50 (h1 : a ≤ b) (h2 : b ≤ 46) : vcV X 206 [vP 50, vI (a : Int), vI (b : Int), vI x] σ = some (am_row σ 50 (fun j => if a ≤ j ∧ j < b then x else σ 50 j)) := by
  refine vV_of ((bq_206b_0 X _ _ _ σ).trans ?_) rfl
  rw [fl_rng (by omega) (by omega) (by omega), bsome]
  refine (cpl0 (fun i s => vv X 206 10 [some (vP 50), none, some (vI (b : Int)), some (vI x), some (vI (i : Int))] [] s) 50 0 b a (fun _ => x) σ h1 (fun i hi r => by
    show vv X 206 10 [some (vP 50), none, some (vI (b : Int)), some (vI x), some (vI (i : Int))] [] _ = _
    rw [bq_206b_10, if_neg (by omega), if_pos (by omega), w32_s1 (by omega), tn_nat, Nat.zero_add])).trans ?_
  show vv X 206 10 [some (vP 50), none, some (vI (b : Int)), some (vI x), some (vI (b : Int))] [] _ = _
  rw [bq_206b_10, if_pos (Int.le_refl _)]
  congr 3
  funext j
  simp only [Nat.zero_add]
theorem fr_52 (h1 : a ≤ b) (h2 : b ≤ 46) : vcV X 206 [vP 52, vI (a : Int), vI (b : Int), vI x] σ = some (am_row σ 52 (fun j => if a ≤ j ∧ j < b then x else σ 52 j)) := by
  refine vV_of ((bq_206c_0 X _ _ _ σ).trans ?_) rfl
  rw [fl_rng (by omega) (by omega) (by omega), bsome]
  refine (cpl0 (fun i s => vv X 206 10 [some (vP 52), none, some (vI (b : Int)), some (vI x), some (vI (i : Int))] [] s) 52 0 b a (fun _ => x) σ h1 (fun i hi r => by
    show vv X 206 10 [some (vP 52), none, some (vI (b : Int)), some (vI x), some (vI (i : Int))] [] _ = _
    rw [bq_206c_10, if_neg (by omega), if_pos (by omega), w32_s1 (by omega), tn_nat, Nat.zero_add])).trans ?_
  show vv X 206 10 [some (vP 52), none, some (vI (b : Int)), some (vI x), some (vI (b : Int))] [] _ = _
  rw [bq_206c_10, if_pos (Int.le_refl _)]
  congr 3
  funext j
  simp only [Nat.zero_add]
theorem fr_64 (h1 : a ≤ b) (h2 : b ≤ 2401) : vcV X 206 [vP 64, vI (a : Int), vI (b : Int), vI x] σ = some (am_row σ 64 (fun j => if a ≤ j ∧ j < b then x else σ 64 j)) := by
  refine vV_of ((bq_206d_0 X _ _ _ σ).trans ?_) rfl
  rw [fl_rng (by omega) (by omega) (by omega), bsome]
  refine (cpl0 (fun i s => vv X 206 10 [some (vP 64), none, some (vI (b : Int)), some (vI x), some (vI (i : Int))] [] s) 64 0 b a (fun _ => x) σ h1 (fun i hi r => by
    show vv X 206 10 [some (vP 64), none, some (vI (b : Int)), some (vI x), some (vI (i : Int))] [] _ = _
    rw [bq_206d_10, if_neg (by omega), if_pos (by omega), w32_s1 (by omega), tn_nat, Nat.zero_add])).trans ?_
  show vv X 206 10 [some (vP 64), none, some (vI (b : Int)), some (vI x), some (vI (b : Int))] [] _ = _
  rw [bq_206d_10, if_pos (Int.le_refl _)]
  congr 3
  funext j
  simp only [Nat.zero_add]
end FILLS
/-- four places -/
def b4 (f : Nat → Int) : Nat → Int := fun d => if d < 4 then f d else 0
theorem b4_in {f : Nat → Int} {d : Nat} (h : d < 4) : b4 f d = f d := if_pos h
theorem b4_ext {f g : Nat → Int} (h : ∀ d, d < 4 → f d = g d) : b4 f = b4 g := by
  funext d
  unfold b4
  by_cases z : d < 4
  · rw [if_pos z, if_pos z, h d z]
  · rw [if_neg z, if_neg z]
theorem b4_b4 (f : Nat → Int) : b4 (b4 f) = b4 f := b4_ext fun d hd => b4_in hd
theorem sm_up (b c : Nat → Int) (d : Nat) (y : Int) : ∀ n, sm (fun e => up b d y e * c e) n = if d < n then sm (fun e => b e * c e) n + (y - b d) * c d else sm (fun e => b e * c e) n
  | 0 => rfl
  | n + 1 => by
    show sm _ n + up b d y n * c n = _
    rw [sm_up b c d y n, upa]
    show _ = if d < n + 1 then (sm (fun e => b e * c e) n + b n * c n) + (y - b d) * c d else (sm (fun e => b e * c e) n + b n * c n)
    by_cases h1 : d < n
    · rw [if_pos h1, if_neg (show ¬ n = d by omega), if_pos (show d < n + 1 by omega)]
      omega
    · rw [if_neg h1]
      by_cases h2 : n = d
      · rw [if_pos h2, if_pos (by omega), h2, Int.sub_mul]
        omega
      · rw [if_neg h2, if_neg (by omega)]
theorem numS_up {b : Nat → Int} {d : Nat} {y : Int} (h : d < 4) : numS (up b d y) = numS b + (y - b d) := by
  unfold numS
  rcases (show d = 0 ∨ d = 1 ∨ d = 2 ∨ d = 3 by omega) with z | z | z | z <;> subst z <;> simp [upa] <;> omega
theorem bulkS_up {T : am_Sg} {b : Nat → Int} {d : Nat} {y : Int} (h : d < nD T) : bulkS T (up b d y) = bulkS T b + (y - b d) * T 10 d := by
  unfold bulkS
  rw [sm_up, if_pos h]
theorem gainS_up {T : am_Sg} {b : Nat → Int} {d : Nat} {y : Int} (h : d < nD T) : gainS T (up b d y) = gainS T b + (y - b d) * T 11 d := by
  unfold gainS
  rw [sm_up, if_pos h]
theorem numS_ext {b c : Nat → Int} (h : ∀ d, d < 4 → b d = c d) : numS b = numS c := by
  unfold numS
  rw [h 0 (by omega), h 1 (by omega), h 2 (by omega), h 3 (by omega)]
theorem bulkS_ext {T : am_Sg} (H : TOk T) {b c : Nat → Int} (h : ∀ d, d < 4 → b d = c d) : bulkS T b = bulkS T c := sm_ext fun d hd => by rw [h d (by have := H.d4; omega)]
theorem gainS_ext {T : am_Sg} (H : TOk T) {b c : Nat → Int} (h : ∀ d, d < 4 → b d = c d) : gainS T b = gainS T c := sm_ext fun d hd => by rw [h d (by have := H.d4; omega)]
theorem BOk.ext {T : am_Sg} {b c : Nat → Int} {n : Int} (h : ∀ d, d < 4 → b d = c d) (hb : BOk T b n) : BOk T c n := ⟨fun d hd => by rw [← h d hd]; exact hb.1 d hd, fun d h1 h2 => by rw [← h d h2]; exact hb.2 d h1 h2⟩
theorem num_bd {T : am_Sg} {b : Nat → Int} {n : Int} (hb : BOk T b n) : 0 ≤ numS b ∧ numS b ≤ 4 * n := by
  have h0 := hb.1 0 (by omega)
  have h1 := hb.1 1 (by omega)
  have h2 := hb.1 2 (by omega)
  have h3 := hb.1 3 (by omega)
  unfold numS
  omega
theorem bulk_bd {T : am_Sg} (H : TOk T) {b : Nat → Int} {n : Int} (hb : BOk T b n) (hn : n ≤ 12) : 0 ≤ bulkS T b ∧ bulkS T b ≤ 432 := by
  have h4 := H.d4
  have := sm_bd (n := nD T) (f := fun d => b d * T 10 d) (c := 12 * 9) (fun d hd => mul_bd (hb.1 d (by omega)).1 (by have := (hb.1 d (by omega)).2; omega) (by have := H.di d hd; omega) (by have := H.di d hd; omega))
  unfold bulkS
  omega
theorem gain_bd {T : am_Sg} (H : TOk T) {b : Nat → Int} {n : Int} (hb : BOk T b n) (hn : n ≤ 12) : 0 ≤ gainS T b ∧ gainS T b ≤ 4752 := by
  have h4 := H.d4
  have := sm_bd (n := nD T) (f := fun d => b d * T 11 d) (c := 12 * 99) (fun d hd => mul_bd (hb.1 d (by omega)).1 (by have := (hb.1 d (by omega)).2; omega) (by have := H.di d hd; omega) (by have := H.di d hd; omega))
  unfold gainS
  omega
/-- a plate holds these bites -/
def PL (T σ : am_Sg) (p : Nat) (b : Nat → Int) : Prop := b4 (σ (p + 1)) = b ∧ σ p 1 = numS b ∧ σ p 2 = bulkS T b ∧ σ p 3 = gainS T b ∧ (0 ≤ σ p 4 ∧ σ p 4 ≤ 15) ∧ ∀ d, d < 4 → (bt1 (σ p 4) d = 0 ↔ b d ≤ 0)
theorem PL.at {T σ : am_Sg} {p : Nat} {b : Nat → Int} (h : PL T σ p b) {d : Nat} (hd : d < 4) : σ (p + 1) d = b d := by rw [← h.1, b4_in hd]
theorem PL.fr {T σ σ' : am_Sg} {p : Nat} {b : Nat → Int} (h : PL T σ p b) (h1 : σ' p = σ p) (h2 : σ' (p + 1) = σ (p + 1)) : PL T σ' p b := by
  unfold PL
  rw [h1, h2]
  exact h
theorem sm_zero {f : Nat → Int} : ∀ {n : Nat}, (∀ d, d < n → f d = 0) → sm f n = 0
  | 0, _ => rfl
  | n + 1, h => by
    show sm f n + f n = 0
    rw [sm_zero (fun d hd => h d (by omega)), h n (by omega)]
    rfl
theorem PL.zero {T σ : am_Sg} {p : Nat} (h : ∀ d, d < 4 → σ (p + 1) d = 0) (h1 : σ p 1 = 0) (h2 : σ p 2 = 0) (h3 : σ p 3 = 0) (h4 : σ p 4 = 0) : PL T σ p (fun _ => 0) := by
  refine ⟨?_, h1, ?_, ?_, by rw [h4]; decide, fun d hd => ?_⟩
  · funext d
    unfold b4
    by_cases z : d < 4
    · rw [if_pos z, h d z]
    · rw [if_neg z]
  · rw [h2]; exact (sm_zero (fun d _ => by simp)).symm
  · rw [h3]; exact (sm_zero (fun d _ => by simp)).symm
  · rw [h4]
    refine ⟨fun _ => Int.le_refl _, fun _ => ?_⟩
    rcases (show d = 0 ∨ d = 1 ∨ d = 2 ∨ d = 3 by omega) with z | z | z | z <;> subst z <;> decide +kernel
theorem orb_f : ∀ x : Fin 16, ∀ d : Fin 4, (0 ≤ am_or (x.val : Int) (am_shl 1 (d.val : Int)) ∧ am_or (x.val : Int) (am_shl 1 (d.val : Int)) ≤ 15) ∧ ∀ e : Fin 4, bt1 (am_or (x.val : Int) (am_shl 1 (d.val : Int))) e.val = if e.val = d.val then 1 else bt1 (x.val : Int) e.val := by decide +kernel
theorem orb {x : Int} {d : Nat} (h0 : 0 ≤ x) (h1 : x ≤ 15) (hd : d < 4) : (0 ≤ am_or x (am_shl 1 (d : Int)) ∧ am_or x (am_shl 1 (d : Int)) ≤ 15) ∧ ∀ e, e < 4 → bt1 (am_or x (am_shl 1 (d : Int))) e = if e = d then 1 else bt1 x e := by
  obtain ⟨n, rfl⟩ : ∃ n : Nat, x = n := ⟨x.toNat, by omega⟩
  have := orb_f ⟨n, by omega⟩ ⟨d, hd⟩
  exact ⟨this.1, fun e he => this.2 ⟨e, he⟩⟩
theorem andb_f : ∀ x : Fin 16, ∀ y : Fin 16, (am_and (x.val : Int) (y.val : Int) = 0 ↔ ∀ d : Fin 4, bt1 (x.val : Int) d.val = 0 ∨ bt1 (y.val : Int) d.val = 0) := by decide +kernel
theorem andb {x y : Int} (h0 : 0 ≤ x) (h1 : x ≤ 15) (h2 : 0 ≤ y) (h3 : y ≤ 15) : am_and x y = 0 ↔ ∀ d, d < 4 → bt1 x d = 0 ∨ bt1 y d = 0 := by
  obtain ⟨n, rfl⟩ : ∃ n : Nat, x = n := ⟨x.toNat, by omega⟩
  obtain ⟨k, rfl⟩ : ∃ n : Nat, y = n := ⟨y.toNat, by omega⟩
  have := andb_f ⟨n, by omega⟩ ⟨k, by omega⟩
  exact ⟨fun h d hd => this.mp h ⟨d, hd⟩, fun h => this.mpr fun d => h d.val d.isLt⟩
section PLT
variable {X d : Nat} {σ T : am_Sg} {b : Nat → Int} {x : Int}
theorem c_clear53 : ∃ σ', vcV X 198 [vP 53] σ = some σ' ∧ Fr [53, 54] [] σ σ' ∧ PL T σ' 53 (fun _ => 0) := by
  have e := vV_of (vs := [vP 53]) ((bq_198a_0 X σ).trans (by rw [fl_54, bsome, bq_198a_18])) rfl
  refine ⟨_, e, ?_, ?_⟩
  · exact ((((Fr.rf.row rfl (by decide)).upd rfl (by decide)).upd rfl (by decide)).upd rfl (by decide)).upd rfl (by decide)
  · refine PL.zero (fun d hd => ?_) ?_ ?_ ?_ ?_
    · simp [ua, ra, hd]
    all_goals simp [ua, ra]
theorem c_add53 (H : TOk T) (hT : tl σ = T) (hp : PL T σ 53 b) (hb : BOk T b 6) (hx : x ≤ 6) (hd : d < 4) (hq : d < nD T ∨ x ≤ 0) : ∃ σ', vcV X 200 [vP 53, vI (d : Int), vI x, vP 7] σ = some σ' ∧ Fr [53, 54] [] σ σ' ∧ PL T σ' 53 (if x ≤ 0 then b else up b d (b d + x)) := by
  by_cases hx0 : x ≤ 0
  · refine ⟨σ, vV_of ((bq_200a_0 X _ _ σ).trans (by rw [if_pos hx0, bq_200a_70])) rfl, Fr.rf, ?_⟩
    rw [if_pos hx0]
    exact hp
  have hdn : d < nD T := by omega
  have e10 : σ 10 = T 10 := by rw [← hT, tl_in (by omega)]
  have e11 : σ 11 = T 11 := by rw [← hT, tl_in (by omega)]
  have k1 := H.di d hdn
  have kb := hb.1 d hd
  have n1 := num_bd hb
  have n2 := bulk_bd H hb (by omega)
  have n3 := gain_bd H hb (by omega)
  have p1 := mul_bd (a := x) (A := 6) (b := T 10 d) (B := 9) (by omega) (by omega) (by omega) (by omega)
  have p2 := mul_bd (a := x) (A := 6) (b := T 11 d) (B := 99) (by omega) (by omega) (by omega) (by omega)
  have ob := orb (d := d) hp.2.2.2.2.1.1 hp.2.2.2.2.1.2 hd
  have e := vV_of (vs := [vP 53, vI (d : Int), vI x, vP 7]) ((bq_200a_0 X _ _ σ).trans (by rw [if_neg hx0, if_pos (by omega), bq_200a_24, if_pos (by omega), bq_200a_58, bq_200a_70, tn_nat])) rfl
  refine ⟨_, e, ?_, ?_⟩
  · exact ((((Fr.rf.upd rfl (by decide)).upd rfl (by decide)).upd rfl (by decide)).upd rfl (by decide)).upd rfl (by decide)
  · rw [if_neg hx0]
    refine ⟨?_, ?_, ?_, ?_, ?_, fun c hc => ?_⟩
    · rw [← hp.1]
      funext c
      unfold b4
      simp only [upa, ua]
      by_cases z : c < 4
      · rw [if_pos z, if_pos z]
        by_cases y : c = d
        · subst y
          simp [hp.at hd, z]
          exact w32_id (by omega) (by omega)
        · simp [y]
      · rw [if_neg z, if_neg z, if_neg (by omega)]
    · rw [numS_up hd]
      simp [ua, hp.2.1]
      rw [w32_id (by omega) (by omega)]
      omega
    · rw [bulkS_up hdn]
      simp [ua, e10, hp.2.2.1]
      rw [w32_id (x := x * T 10 d) (by omega) (by omega), w32_id (by omega) (by omega), show b d + x - b d = x by omega]
    · rw [gainS_up hdn]
      simp [ua, e11, hp.2.2.2.1]
      rw [w32_id (x := x * T 11 d) (by omega) (by omega), w32_id (by omega) (by omega), show b d + x - b d = x by omega]
    · simpa [ua] using ob.1
    · have := ob.2 c hc
      simp only [ua]
      simp
      rw [this, upa]
      by_cases y : c = d
      · rw [if_pos y, if_pos y]
        constructor
        · intro z; omega
        · intro z; omega
      · rw [if_neg y, if_neg y]
        exact hp.2.2.2.2.2 c hc
theorem c_clear55 : ∃ σ', vcV X 198 [vP 55] σ = some σ' ∧ Fr [55, 56] [] σ σ' ∧ PL T σ' 55 (fun _ => 0) := by
  have e := vV_of (vs := [vP 55]) ((bq_198b_0 X σ).trans (by rw [fl_56, bsome, bq_198b_18])) rfl
  refine ⟨_, e, ?_, ?_⟩
  · exact ((((Fr.rf.row rfl (by decide)).upd rfl (by decide)).upd rfl (by decide)).upd rfl (by decide)).upd rfl (by decide)
  · refine PL.zero (fun d hd => ?_) ?_ ?_ ?_ ?_
    · simp [ua, ra, hd]
    all_goals simp [ua, ra]
theorem c_add55 (H : TOk T) (hT : tl σ = T) (hp : PL T σ 55 b) (hb : BOk T b 6) (hx : x ≤ 6) (hd : d < 4) (hq : d < nD T ∨ x ≤ 0) : ∃ σ', vcV X 200 [vP 55, vI (d : Int), vI x, vP 7] σ = some σ' ∧ Fr [55, 56] [] σ σ' ∧ PL T σ' 55 (if x ≤ 0 then b else up b d (b d + x)) := by
  by_cases hx0 : x ≤ 0
  · refine ⟨σ, vV_of ((bq_200b_0 X _ _ σ).trans (by rw [if_pos hx0, bq_200b_70])) rfl, Fr.rf, ?_⟩
    rw [if_pos hx0]
    exact hp
  have hdn : d < nD T := by omega
  have e10 : σ 10 = T 10 := by rw [← hT, tl_in (by omega)]
  have e11 : σ 11 = T 11 := by rw [← hT, tl_in (by omega)]
  have k1 := H.di d hdn
  have kb := hb.1 d hd
  have n1 := num_bd hb
  have n2 := bulk_bd H hb (by omega)
  have n3 := gain_bd H hb (by omega)
  have p1 := mul_bd (a := x) (A := 6) (b := T 10 d) (B := 9) (by omega) (by omega) (by omega) (by omega)
  have p2 := mul_bd (a := x) (A := 6) (b := T 11 d) (B := 99) (by omega) (by omega) (by omega) (by omega)
  have ob := orb (d := d) hp.2.2.2.2.1.1 hp.2.2.2.2.1.2 hd
  have e := vV_of (vs := [vP 55, vI (d : Int), vI x, vP 7]) ((bq_200b_0 X _ _ σ).trans (by rw [if_neg hx0, if_pos (by omega), bq_200b_24, if_pos (by omega), bq_200b_58, bq_200b_70, tn_nat])) rfl
  refine ⟨_, e, ?_, ?_⟩
  · exact ((((Fr.rf.upd rfl (by decide)).upd rfl (by decide)).upd rfl (by decide)).upd rfl (by decide)).upd rfl (by decide)
  · rw [if_neg hx0]
    refine ⟨?_, ?_, ?_, ?_, ?_, fun c hc => ?_⟩
    · rw [← hp.1]
      funext c
      unfold b4
      simp only [upa, ua]
      by_cases z : c < 4
      · rw [if_pos z, if_pos z]
        by_cases y : c = d
        · subst y
          simp [hp.at hd, z]
          exact w32_id (by omega) (by omega)
        · simp [y]
      · rw [if_neg z, if_neg z, if_neg (by omega)]
    · rw [numS_up hd]
      simp [ua, hp.2.1]
      rw [w32_id (by omega) (by omega)]
      omega
    · rw [bulkS_up hdn]
      simp [ua, e10, hp.2.2.1]
      rw [w32_id (x := x * T 10 d) (by omega) (by omega), w32_id (by omega) (by omega), show b d + x - b d = x by omega]
    · rw [gainS_up hdn]
      simp [ua, e11, hp.2.2.2.1]
      rw [w32_id (x := x * T 11 d) (by omega) (by omega), w32_id (by omega) (by omega), show b d + x - b d = x by omega]
    · simpa [ua] using ob.1
    · have := ob.2 c hc
      simp only [ua]
      simp
      rw [this, upa]
      by_cases y : c = d
      · rw [if_pos y, if_pos y]
        constructor
        · intro z; omega
        · intro z; omega
      · rw [if_neg y, if_neg y]
        exact hp.2.2.2.2.2 c hc
end PLT
