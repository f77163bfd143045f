/-! SCENES STAY AS THEY MAY BE; THE RELATION BETWEEN CLASS AND REFERENCE -/
theorem w32_rng (x : Int) : -2147483648 ≤ w32 x ∧ w32 x < 2147483648 := am_w32_rng x
section SCP
variable {T : am_Sg} {sc b : Nat → Int} {m g : Nat}
theorem ScOk.hr (H : TOk T) (S : ScOk T sc) : ScOk T (hrS T sc) := by
  have h8 := H.m8
  have s44 := S.2.2.1
  refine ⟨fun m hm => ?_, fun d hd => ?_, ?_, fun j => ?_⟩
  · have s0 := S.1 m hm
    have hM := H.mi m hm
    have e1 : hrS T sc m = hr1 T sc m := by
      unfold hrS
      rw [if_pos (by omega), if_neg (by omega), if_neg (show ¬ m = 45 by omega), if_neg (show ¬ ((24 ≤ m ∧ m < 32) ∨ m = 42 ∨ m = 43) by omega)]
      split <;> rfl
    have e2 : hrS T sc (8 + m) = hr1 T sc (8 + m) := by
      unfold hrS
      rw [if_pos (by omega), if_neg (by omega), if_neg (show ¬ 8 + m = 45 by omega), if_neg (show ¬ ((24 ≤ 8 + m ∧ 8 + m < 32) ∨ 8 + m = 42 ∨ 8 + m = 43) by omega)]
      split <;> rfl
    rw [e1, e2]
    unfold hr1
    rw [if_pos hm, if_neg (show ¬ 8 + m < nM T by omega), if_pos (show 8 ≤ 8 + m ∧ 8 + m < 8 + nM T by omega)]
    constructor
    · split <;> omega
    · refine ⟨?_, ?_, ?_⟩ <;> (repeat' split) <;> omega
  · have s0 := S.2.1 d hd
    have e1 : hrS T sc (32 + d) = sc (32 + d) := by
      have e0 : hr1 T sc (32 + d) = sc (32 + d) := by
        unfold hr1
        rw [if_neg (by omega), if_neg (by omega)]
      unfold hrS
      rw [if_pos (by omega), if_neg (by omega), if_neg (show ¬ 32 + d = 45 by omega), if_neg (show ¬ ((24 ≤ 32 + d ∧ 32 + d < 32) ∨ 32 + d = 42 ∨ 32 + d = 43) by omega), e0]
      split <;> rfl
    rw [e1]
    exact s0
  · unfold hrS
    rw [if_pos (by omega), if_pos rfl]
    split <;> omega
  · have sj := S.2.2.2 j
    have k1 : -2147483648 ≤ hr1 T sc j ∧ hr1 T sc j < 2147483648 := by
      unfold hr1
      by_cases z : j < nM T
      · have s0 := S.1 j z
        have hM := H.mi j z
        rw [if_pos z]
        split <;> omega
      · rw [if_neg z]
        by_cases y : 8 ≤ j ∧ j < 8 + nM T
        · have s0 := S.1 (j - 8) (by omega)
          rw [show 8 + (j - 8) = j by omega] at s0
          rw [if_pos y]
          split <;> omega
        · rw [if_neg y]
          exact sj
    have k2 := w32_rng (sc 45 + 1)
    unfold hrS
    (repeat' split) <;> omega
theorem ScOk.bg (H : TOk T) : ScOk T (bgS T) := by
  have h8 := H.m8
  have h4 := H.d4
  refine ⟨fun m hm => ?_, fun d hd => ?_, ?_, fun j => ?_⟩
  · have hM := H.mi m hm
    unfold bgS
    rw [if_pos hm, if_neg (by omega), if_neg (by omega)]
    omega
  · unfold bgS
    rw [if_neg (by omega)]
    by_cases z : 32 ≤ 32 + d ∧ 32 + d < 32 + nD T
    · have := H.di d (by omega)
      rw [if_pos z, show 32 + d - 32 = d by omega]
      omega
    · rw [if_neg z]
      omega
  · unfold bgS
    rw [if_neg (by omega), if_neg (by omega)]
    omega
  · unfold bgS
    by_cases z : j < nM T
    · have hM := H.mi j z
      rw [if_pos z]
      omega
    · rw [if_neg z]
      by_cases y : 32 ≤ j ∧ j < 32 + nD T
      · have := H.di (j - 32) (by omega)
        rw [if_pos y]
        omega
      · rw [if_neg y]
        omega
/-- he may: what that says -/
theorem why0 {ask : Prop} (h : whyS T sc m b ask = 0) : ¬ 0 < sc (8 + m) ∧ ¬ (0 < numS b ∧ fasting T sc m) ∧ ¬ hatesS T m b ∧ (ask → storesS T sc b) ∧ bulkS T b ≤ T 13 m - sc m := by
  unfold whyS at h
  split at h
  · cases h
  next h1 =>
    split at h
    · cases h
    next h2 =>
      split at h
      · cases h
      next h3 =>
        split at h
        · cases h
        next h4 =>
          split at h
          · cases h
          next h5 => exact ⟨h1, h2, h3, fun y => Classical.not_not.mp fun z => h4 ⟨y, z⟩, by omega⟩
theorem why_rng {ask : Prop} : 0 ≤ whyS T sc m b ask ∧ whyS T sc m b ask ≤ 5 := by
  unfold whyS
  (repeat' split) <;> omega
theorem ScOk.sw (H : TOk T) (S : ScOk T sc) (hm : m < nM T) (hg : g < 2) (hb : BOk T b 12) {ask : Prop} (ha : ask) (hw : whyS T sc m b ask = 0) : ScOk T (swS T sc m g b) := by
  have h8 := H.m8
  have h4 := H.d4
  have w := why0 hw
  have bb := bulk_bd H hb (by omega)
  have sM := S.1 m hm
  have hMm := H.mi m hm
  have st : ∀ d, d < 4 → b d ≤ sc (32 + d) := fun d hd => by
    by_cases z : d < nD T
    · exact w.2.2.2.1 ha d z
    · rw [hb.2 d (by omega) hd]
      exact (S.2.1 d hd).1
  refine ⟨fun k hk => ?_, fun d hd => ?_, ?_, fun j => ?_⟩
  · have s0 := S.1 k hk
    have hM := H.mi k hk
    have e1 : swS T sc m g b k = if k = m then sc m + bulkS T b else sc k := by
      unfold swS
      rw [if_neg (show ¬ k = 16 + m by omega), if_neg (show ¬ k = 24 + m by omega), if_neg (show ¬ k = 40 + g by omega), if_neg (show ¬ k = 42 + g by omega), if_neg (show ¬ (32 ≤ k ∧ k < 36) by omega), if_neg (show ¬ (36 ≤ k ∧ k < 40) by omega), if_neg (show ¬ k = 8 + m by omega)]
    have e2 : swS T sc m g b (8 + k) = 12 ∨ swS T sc m g b (8 + k) = sc (8 + k) := by
      unfold swS
      rw [if_neg (show ¬ 8 + k = m by omega), if_neg (show ¬ 8 + k = 16 + m by omega), if_neg (show ¬ 8 + k = 24 + m by omega), if_neg (show ¬ 8 + k = 40 + g by omega), if_neg (show ¬ 8 + k = 42 + g by omega), if_neg (show ¬ (32 ≤ 8 + k ∧ 8 + k < 36) by omega), if_neg (show ¬ (36 ≤ 8 + k ∧ 8 + k < 40) by omega)]
      split
      · split
        · exact Or.inl rfl
        · exact Or.inr rfl
      · exact Or.inr rfl
    rw [e1]
    refine ⟨?_, ?_, ?_, ?_⟩
    · split
      · omega
      · omega
    · split
      next z => subst z; omega
      · omega
    · omega
    · omega
  · have s0 := S.2.1 d hd
    have hd1 := hb.1 d hd
    have sd := st d hd
    unfold swS
    rw [if_neg (by omega), if_neg (by omega), if_neg (by omega), if_neg (by omega), if_neg (by omega), if_pos (by omega), show 32 + d - 32 = d by omega]
    omega
  · unfold swS
    rw [if_neg (by omega), if_neg (by omega), if_neg (by omega), if_neg (by omega), if_neg (by omega), if_neg (by omega), if_neg (by omega), if_neg (by omega)]
    exact S.2.2.1
  · have sj := S.2.2.2 j
    have k1 := w32_rng (sc j + numS b)
    have k2 := w32_rng (sc j + gainS T b)
    have k3 := w32_rng (sc j + 1)
    have k4 := w32_rng (sc j + b (j - 36))
    have k5 : 32 ≤ j ∧ j < 36 → -2147483648 ≤ sc j - b (j - 32) ∧ sc j - b (j - 32) < 2147483648 := fun z => by
      have s0 := S.2.1 (j - 32) (by omega)
      have hd1 := hb.1 (j - 32) (by omega)
      rw [show 32 + (j - 32) = j by omega] at s0
      omega
    unfold swS
    split
    · omega
    split
    · exact k1
    split
    · omega
    split
    · exact k2
    split
    · exact k3
    split
    next z => exact k5 z
    split
    · exact k4
    split
    · split
      · omega
      · exact sj
    · exact sj
theorem hrS_rs (T : am_Sg) (sc : Nat → Int) : rs (hrS T sc) = hrS T sc := by
  funext j
  by_cases h : j < 46
  · rw [rs_in h]
  · rw [rs_hi h]
    unfold hrS
    rw [if_neg h]
end SCP
/-- what was told, on both sides -/
def RT (X : Nat) (σ T : am_Sg) (l : Nat) (F : LF) : Prop := tl σ = T ∧ TOk T ∧ TM σ T l ∧ LC X T F ∧ LM X σ T l F ∧ FOk F
def RN (σ T : am_Sg) : Prop := rs (σ 50) = rs (σ 127) ∧ ScOk T (rs (σ 127))
/-! the last things done -/
def RUc (σ : am_Sg) (u f : Nat) (Hc : Nat → Nat → Int) : Prop := (u ≤ 30 ∧ f < 30) ∧ (σ 60 3 = (u : Int) ∧ σ 60 2 = (f : Int)) ∧ ∀ i j, i < u → j < 46 → σ 61 (46 * ((f + i) % 30) + j) = Hc i j
def RUm (σ : am_Sg) (u : Nat) (Hc : Nat → Nat → Int) : Prop := σ 80 67 = (u : Int) ∧ ∀ i j, i < u → j < 46 → σ 130 (60 * i + j) = Hc i j
def RU (σ T : am_Sg) : Prop := ∃ u f Hc, RUc σ u f Hc ∧ RUm σ u Hc ∧ ∀ i, i < u → rs (Hc i) = Hc i ∧ ScOk T (Hc i)
/-- the slots -/
def RH (σ T : am_Sg) : Prop := (0 ≤ σ 60 4 ∧ σ 60 4 ≤ 7) ∧ ∀ s, s < 3 → (σ 143 s = 0 ∨ σ 143 s = 1) ∧ bt1 (σ 60 4) s = σ 143 s ∧ (σ 143 s = 1 → rs (fun j => σ 62 (46 * s + j)) = rs (fun j => σ 144 (60 * s + j)) ∧ ScOk T (rs (fun j => σ 144 (60 * s + j))))
/-- the book -/
def RB (σ T : am_Sg) : Prop := ∃ e : Nat, e ≤ 30 ∧ (σ 75 8 = (e : Int) ∧ σ 80 81 = (e : Int)) ∧ ∀ i, i < e → (σ 76 i = σ 139 i ∧ σ 77 i = σ 140 i ∧ σ 78 i = σ 141 i) ∧ (0 ≤ σ 139 i ∧ σ 139 i < (nM T : Int)) ∧ (0 ≤ σ 140 i ∧ σ 140 i < 2) ∧ (0 ≤ σ 141 i ∧ σ 141 i < 24)
/-- the tape -/
def RP (σ : am_Sg) : Prop := ∃ n : Nat, n ≤ 2000 ∧ (σ 1 5 = (n : Int) ∧ σ 80 2 = (n : Int)) ∧ ∀ i, i < n → σ 2 i = σ 81 i ∧ -128 ≤ σ 81 i ∧ σ 81 i < 128
/-! what never changes: the words, the strings, the table -/
def wdC : List Int := [140904, 13358, 2273689, 244915, 16101, 12343, 8442035, 9612, 198260, 294, 663726, 176741, 278194, 408612, 605677, 218508, 1315876, 398548, 631915]
def wdM : List Int := [85814, 9518, 8798, 249, 399641, 107681, 1170394, 148870, 11561, 4285945, 6897, 119360, 168984, 247162, 365647, 133743, 692581, 240023, 380630]
def RW (σ : am_Sg) : Prop := (∀ i, i < 19 → σ 3 i = wdC.getD i 0) ∧ (∀ i, i < 19 → σ 87 i = wdM.getD i 0) ∧ ∀ k, 1001 ≤ k → σ k = am_s0 (fun _ => 0) k
def Rel (X : Nat) (σ : am_Sg) : Prop := ∃ T l F, RT X σ T l F ∧ RN σ T ∧ RU σ T ∧ RH σ T ∧ RB σ T ∧ RP σ ∧ σ 47 7 = σ 80 17 ∧ RW σ
/-- lists of cells that leave these alone -/
def nin (cs : List Nat) (ks : List Nat) : Bool := ks.all (fun k => !(cs.contains k))
theorem nin_get {cs js ks : List Nat} {σ σ' : am_Sg} (h : Fr cs js σ σ') (hn : nin cs ks = true) {k : Nat} (h8 : ¬ k = 80) (hk : ks.contains k = true) : σ' k = σ k := by
  refine h.1 k h8 ?_
  have := List.all_eq_true.mp hn k (List.contains_iff_mem.mp hk)
  simpa using this
theorem nin_fld {cs js ks : List Nat} {σ σ' : am_Sg} (h : Fr cs js σ σ') (hn : nin js ks = true) {k : Nat} (hk : ks.contains k = true) : σ' 80 k = σ 80 k := by
  refine h.2 k ?_
  have := List.all_eq_true.mp hn k (List.contains_iff_mem.mp hk)
  simpa using this
section RFR
variable {X l : Nat} {σ σ' T : am_Sg} {F : LF} {cs js : List Nat}
theorem RT.fr (h : RT X σ T l F) (hf : Fr cs js σ σ') (h1 : cs.all (fun k => decide (k < 7) || decide (27 ≤ k)) = true) (h2 : mdT cs js = true) (h3 : mdL cs js = true) : RT X σ' T l F := ⟨(tl_fr hf h1).trans h.1, h.2.1, h.2.2.1.fr hf h2, h.2.2.2.1, h.2.2.2.2.1.ag (agL.fr hf h3), h.2.2.2.2.2⟩
theorem RN.fr (h : RN σ T) (hf : Fr cs js σ σ') (h1 : nin cs [50, 127] = true) : RN σ' T := by
  unfold RN
  rw [nin_get hf h1 (k := 50) (by decide) rfl, nin_get hf h1 (k := 127) (by decide) rfl]
  exact h
theorem RU.fr (h : RU σ T) (hf : Fr cs js σ σ') (h1 : nin cs [60, 61, 130] = true) (h2 : nin js [67] = true) : RU σ' T := by
  unfold RU RUc RUm
  rw [nin_get hf h1 (k := 60) (by decide) rfl, nin_get hf h1 (k := 61) (by decide) rfl, nin_get hf h1 (k := 130) (by decide) rfl, nin_fld hf h2 (k := 67) rfl]
  exact h
theorem RH.fr (h : RH σ T) (hf : Fr cs js σ σ') (h1 : nin cs [60, 62, 143, 144] = true) : RH σ' T := by
  unfold RH
  rw [nin_get hf h1 (k := 60) (by decide) rfl, nin_get hf h1 (k := 62) (by decide) rfl, nin_get hf h1 (k := 143) (by decide) rfl, nin_get hf h1 (k := 144) (by decide) rfl]
  exact h
theorem RB.fr (h : RB σ T) (hf : Fr cs js σ σ') (h1 : nin cs [75, 76, 77, 78, 139, 140, 141] = true) (h2 : nin js [81] = true) : RB σ' T := by
  unfold RB
  rw [nin_get hf h1 (k := 75) (by decide) rfl, nin_get hf h1 (k := 76) (by decide) rfl, nin_get hf h1 (k := 77) (by decide) rfl, nin_get hf h1 (k := 78) (by decide) rfl, nin_get hf h1 (k := 139) (by decide) rfl, nin_get hf h1 (k := 140) (by decide) rfl, nin_get hf h1 (k := 141) (by decide) rfl, nin_fld hf h2 (k := 81) rfl]
  exact h
theorem RP.fr (h : RP σ) (hf : Fr cs js σ σ') (h1 : nin cs [1, 2, 81] = true) (h2 : nin js [2] = true) : RP σ' := by
  unfold RP
  rw [nin_get hf h1 (k := 1) (by decide) rfl, nin_get hf h1 (k := 2) (by decide) rfl, nin_get hf h1 (k := 81) (by decide) rfl, nin_fld hf h2 (k := 2) rfl]
  exact h
theorem RW.fr (h : RW σ) (hf : Fr cs js σ σ') (h1 : nin cs [3, 87] = true) (h2 : cs.all (fun k => decide (k < 1000)) = true) : RW σ' := by
  refine ⟨?_, ?_, fun k hk => ?_⟩
  · rw [nin_get hf h1 (k := 3) (by decide) rfl]
    exact h.1
  · rw [nin_get hf h1 (k := 87) (by decide) rfl]
    exact h.2.1
  · rw [hf.1 k (by omega) ?_]
    · exact h.2.2 k hk
    · cases hc : cs.contains k with
      | false => rfl
      | true =>
        have := List.all_eq_true.mp h2 k (List.contains_iff_mem.mp hc)
        simp at this
        omega
end RFR
/-- cells and fields of no account between two calls -/
def scr : List Nat := [52, 53, 54, 55, 56, 58, 59, 63, 64, 65, 66, 67, 68, 69, 70, 71, 72, 73, 74, 79, 125, 126, 128, 129, 131, 132, 133, 134, 135, 136, 137, 138, 142]
def scj : List Nat := [63, 71, 76, 77, 78]
theorem Rel.scr {X : Nat} {σ σ' : am_Sg} (h : Rel X σ) (hf : Fr scr scj σ σ') : Rel X σ' := by
  obtain ⟨T, l, F, h1, h2, h3, h4, h5, h6, h7, h8⟩ := h
  refine ⟨T, l, F, h1.fr hf rfl rfl rfl, h2.fr hf rfl, h3.fr hf rfl rfl, h4.fr hf rfl, h5.fr hf rfl rfl, h6.fr hf rfl rfl, ?_, h8.fr hf rfl rfl⟩
  rw [hf.get 47 (by decide) rfl, hf.fld 17 rfl]
  exact h7
