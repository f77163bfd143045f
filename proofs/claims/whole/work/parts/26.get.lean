/-! GETTERS, and loops in general -/
theorem lp {β S : Type} (f : Nat → S → Option β) (N : Nat) (I : Nat → S → Prop) (h : ∀ i s, i < N → I i s → ∃ s', f i s = f (i + 1) s' ∧ I (i + 1) s') : ∀ n i s, i + n = N → I i s → ∃ s', f i s = f N s' ∧ I N s'
  | 0, i, s, e, hi => ⟨s, by rw [show i = N by omega], by rw [← show i = N by omega]; exact hi⟩
  | n + 1, i, s, e, hi => by
    obtain ⟨s1, e1, h1⟩ := h i s (by omega) hi
    obtain ⟨s2, e2, h2⟩ := lp f N I h n (i + 1) s1 (by omega) h1
    exact ⟨s2, e1.trans e2, h2⟩
theorem lq {β S : Type} (f : Nat → S → Option β) (N : Nat) (I : Nat → S → Prop) (Q : β → Prop) (h : ∀ i s, i < N → I i s → (∃ s', f i s = f (i + 1) s' ∧ I (i + 1) s') ∨ ∃ r, f i s = some r ∧ Q r) : ∀ n i s, i + n = N → I i s → (∃ s', f i s = f N s' ∧ I N s') ∨ ∃ r, f i s = some r ∧ Q r
  | 0, i, s, e, hi => Or.inl ⟨s, by rw [show i = N by omega], by rw [← show i = N by omega]; exact hi⟩
  | n + 1, i, s, e, hi => by
    rcases h i s (by omega) hi with ⟨s1, e1, h1⟩ | ⟨r, e1, h1⟩
    · rcases lq f N I Q h n (i + 1) s1 (by omega) h1 with ⟨s2, e2, h2⟩ | ⟨r, e2, h2⟩
      · exact Or.inl ⟨s2, e1.trans e2, h2⟩
      · exact Or.inr ⟨r, e1.trans e2, h2⟩
    · exact Or.inr ⟨r, e1, h1⟩
section GET
variable {X m d g : Nat} {σ : am_Sg}
theorem g_men : vcI X 156 [vP 7] σ = some (σ 8 1, σ) := vI_of (bq_156b_0 X σ) rfl
theorem g_dishes : vcI X 184 [vP 7] σ = some (σ 8 0, σ) := vI_of (bq_184b_0 X σ) rfl
theorem g_bellies : vcI X 209 [vP 7] σ = some (σ 8 2, σ) := vI_of (bq_209b_0 X σ) rfl
theorem g_hourA : vcI X 118 [vP 49] σ = some (σ 50 44, σ) := vI_of (bq_118a_0 X σ) rfl
theorem g_hourB : vcI X 118 [vP 51] σ = some (σ 52 44, σ) := vI_of (bq_118b_0 X σ) rfl
theorem g_dayA : vcI X 167 [vP 49] σ = some (σ 50 45, σ) := vI_of (bq_167_0 X σ) rfl
theorem g_fullA (h : m < 8) : vcI X 95 [vP 49, vI (m : Int)] σ = some (σ 50 (0 + m), σ) := vI_of ((bq_95a_0 X _ σ).trans (by rw [if_pos (by unfold w32; omega), show (w32 (0 + (m : Int))).toNat = 0 + m from by unfold w32; omega])) rfl
theorem g_sickA (h : m < 8) : vcI X 96 [vP 49, vI (m : Int)] σ = some (σ 50 (8 + m), σ) := vI_of ((bq_96a_0 X _ σ).trans (by rw [if_pos (by unfold w32; omega), show (w32 (8 + (m : Int))).toNat = 8 + m from by unfold w32; omega])) rfl
theorem g_storeA (h : d < 4) : vcI X 101 [vP 49, vI (d : Int)] σ = some (σ 50 (32 + d), σ) := vI_of ((bq_101a_0 X _ σ).trans (by rw [if_pos (by unfold w32; omega), show (w32 (32 + (d : Int))).toNat = 32 + d from by unfold w32; omega])) rfl
theorem g_aheadA (h : g < 2) : vcI X 168 [vP 49, vI (g : Int)] σ = some (σ 50 (42 + g), σ) := vI_of ((bq_168a_0 X _ σ).trans (by rw [if_pos (by unfold w32; omega), show (w32 (42 + (g : Int))).toNat = 42 + g from by unfold w32; omega])) rfl
theorem g_fullB (h : m < 8) : vcI X 95 [vP 51, vI (m : Int)] σ = some (σ 52 (0 + m), σ) := vI_of ((bq_95b_0 X _ σ).trans (by rw [if_pos (by unfold w32; omega), show (w32 (0 + (m : Int))).toNat = 0 + m from by unfold w32; omega])) rfl
theorem g_sickB (h : m < 8) : vcI X 96 [vP 51, vI (m : Int)] σ = some (σ 52 (8 + m), σ) := vI_of ((bq_96b_0 X _ σ).trans (by rw [if_pos (by unfold w32; omega), show (w32 (8 + (m : Int))).toNat = 8 + m from by unfold w32; omega])) rfl
theorem g_storeB (h : d < 4) : vcI X 101 [vP 51, vI (d : Int)] σ = some (σ 52 (32 + d), σ) := vI_of ((bq_101b_0 X _ σ).trans (by rw [if_pos (by unfold w32; omega), show (w32 (32 + (d : Int))).toNat = 32 + d from by unfold w32; omega])) rfl
theorem g_aheadB (h : g < 2) : vcI X 168 [vP 51, vI (g : Int)] σ = some (σ 52 (42 + g), σ) := vI_of ((bq_168b_0 X _ σ).trans (by rw [if_pos (by unfold w32; omega), show (w32 (42 + (g : Int))).toNat = 42 + g from by unfold w32; omega])) rfl
theorem g_eaten (h : m < 8) : vcI X 97 [vP 49, vI (m : Int)] σ = some (σ 50 (16 + m), σ) := vI_of ((bq_97_0 X _ σ).trans (by rw [if_pos (by unfold w32; omega), show (w32 (16 + (m : Int))).toNat = 16 + m from by unfold w32; omega])) rfl
theorem g_passed (h : m < 8) : vcI X 98 [vP 49, vI (m : Int)] σ = some (σ 50 (24 + m), σ) := vI_of ((bq_98_0 X _ σ).trans (by rw [if_pos (by unfold w32; omega), show (w32 (24 + (m : Int))).toNat = 24 + m from by unfold w32; omega])) rfl
theorem g_gone (h : d < 4) : vcI X 102 [vP 49, vI (d : Int)] σ = some (σ 50 (36 + d), σ) := vI_of ((bq_102_0 X _ σ).trans (by rw [if_pos (by unfold w32; omega), show (w32 (36 + (d : Int))).toNat = 36 + d from by unfold w32; omega])) rfl
theorem g_gainB (h : g < 2) : vcI X 153 [vP 51, vI (g : Int)] σ = some (σ 52 (40 + g), σ) := vI_of ((bq_153a_0 X _ σ).trans (by rw [if_pos (by unfold w32; omega), show (w32 (40 + (g : Int))).toNat = 40 + g from by unfold w32; omega])) rfl
theorem g_gainA (h : g < 2) : vcI X 153 [vP 49, vI (g : Int)] σ = some (σ 50 (40 + g), σ) := vI_of ((bq_153b_0 X _ σ).trans (by rw [if_pos (by unfold w32; omega), show (w32 (40 + (g : Int))).toNat = 40 + g from by unfold w32; omega])) rfl
theorem g_in {a b c : Int} : vcI X 119 [vI a, vI b, vI c] σ = some (if b ≤ a ∧ a ≤ c then 1 else 0, σ) := by
  refine vI_of ((bq_119_0 X _ _ _ σ).trans ?_) rfl
  by_cases h1 : a < b
  · rw [if_pos h1, bq_119_14, bq_119_15, if_pos okZ0, if_neg (by omega)]
  · rw [if_neg h1]
    by_cases h2 : c < a
    · rw [if_pos h2, bq_119_14, bq_119_15, if_pos okZ0, if_neg (by omega)]
    · rw [if_neg h2, bq_119_15, if_pos okZ1, if_pos (by omega)]
theorem okZi {p : Prop} {i : Decidable p} : am_okT 2 (@ite Int p i 1 0) = true := by
  by_cases h : p
  · rw [if_pos h]; rfl
  · rw [if_neg h]; rfl
theorem if01 {p : Prop} {i : Decidable p} : (@ite Int p i 1 0) = 0 ↔ ¬ p := by
  by_cases h : p
  · rw [if_pos h]; exact ⟨fun z => by omega, fun z => absurd h z⟩
  · rw [if_neg h]; exact ⟨fun _ => h, fun _ => rfl⟩
theorem g_gateM {g : Int} : vcI X 107 [vI g] σ = some (if 0 ≤ g ∧ g ≤ 1 then 1 else 0, σ) := by
  refine vI_of ((bq_107_0 X _ σ).trans ?_) rfl
  rw [g_in, bsome]
  dsimp only
  rw [if_pos okZi]
theorem g_gateC {g : Int} : vcI X 104 [vI g] σ = some (if 0 ≤ g ∧ g ≤ 1 then 1 else 0, σ) := by
  refine vI_of ((bq_104_0 X _ σ).trans ?_) rfl
  by_cases h1 : g < 0
  · rw [if_pos h1, bq_104_13, bq_104_14, if_pos okZ0, if_neg (by omega)]
  · rw [if_neg h1]
    by_cases h2 : 2 ≤ g
    · rw [if_pos h2, bq_104_13, bq_104_14, if_pos okZ0, if_neg (by omega)]
    · rw [if_neg h2, bq_104_14, if_pos okZ1, if_pos (by omega)]
theorem g_manC {m : Int} : vcI X 94 [vP 0, vI m] σ = some (if 0 ≤ m ∧ m < σ 8 1 then 1 else 0, σ) := by
  refine vI_of ((bq_94_0 X _ σ).trans ?_) rfl
  by_cases h1 : m < 0
  · rw [if_pos h1, bq_94_19, bq_94_20, if_pos okZ0, if_neg (by omega)]
  · rw [if_neg h1, g_men, bsome]
    dsimp only
    by_cases h2 : σ 8 1 ≤ m
    · rw [if_pos h2, bq_94_19, bq_94_20, if_pos okZ0, if_neg (by omega)]
    · rw [if_neg h2, bq_94_20, if_pos okZ1, if_pos (by omega)]
theorem g_dishC {d : Int} : vcI X 100 [vP 0, vI d] σ = some (if 0 ≤ d ∧ d < σ 8 0 then 1 else 0, σ) := by
  refine vI_of ((bq_100_0 X _ σ).trans ?_) rfl
  by_cases h1 : d < 0
  · rw [if_pos h1, bq_100_19, bq_100_20, if_pos okZ0, if_neg (by omega)]
  · rw [if_neg h1, g_dishes, bsome]
    dsimp only
    by_cases h2 : σ 8 0 ≤ d
    · rw [if_pos h2, bq_100_19, bq_100_20, if_pos okZ0, if_neg (by omega)]
    · rw [if_neg h2, bq_100_20, if_pos okZ1, if_pos (by omega)]
theorem g_dishallC {d : Int} : vcI X 105 [vP 0, vI d] σ = some (if d = -1 ∨ (0 ≤ d ∧ d < σ 8 0) then 1 else 0, σ) := by
  refine vI_of ((bq_105_0 X _ σ).trans ?_) rfl
  by_cases h1 : d = -1
  · rw [if_pos h1, bq_105_13, bq_105_18, if_pos okZ1, if_pos (Or.inl h1)]
  · rw [if_neg h1, g_dishC, bsome]
    dsimp only
    by_cases h2 : 0 ≤ d ∧ d < σ 8 0
    · rw [if_pos h2, if_neg (by decide), bq_105_13, bq_105_18, if_pos okZ1, if_pos (Or.inr h2)]
    · rw [if_neg h2, if_pos rfl, bq_105_18, if_pos okZ0, if_neg (by omega)]
end GET
