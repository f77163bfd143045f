/-! TOKENS: runs of letters and digits, names as numbers -/
section TK0
def isBl (c : Int) : Prop := c = 9 ∨ c = 10 ∨ c = 13 ∨ c = 32
def isLe (c : Int) : Prop := 97 ≤ c ∧ c ≤ 122
def isDi (c : Int) : Prop := 48 ≤ c ∧ c ≤ 57
/-- from i on to e, and no further -/
def Run (p : Int → Prop) (B : Nat → Int) (n i e : Nat) : Prop := i ≤ e ∧ (∀ j, i ≤ j → j < e → j < n ∧ p (B j)) ∧ ¬ (e < n ∧ p (B e))
theorem Run.uniq {p : Int → Prop} {B : Nat → Int} {n i e e' : Nat} (h : Run p B n i e) (h' : Run p B n i e') : e = e' := by
  rcases Nat.lt_trichotomy e e' with q | q | q
  · exact absurd (h'.2.1 e h.1 q) h.2.2
  · exact q
  · exact absurd (h.2.1 e' h'.1 q) h'.2.2
theorem Run.le {p : Int → Prop} {B : Nat → Int} {n i e : Nat} (h : Run p B n i e) (hi : i ≤ n) : e ≤ n := by
  by_cases q : e ≤ i
  · have := h.1
    omega
  · have := (h.2.1 (e - 1) (by omega) (by omega)).1
    omega
/-- letters, the last first -/
def sq (B : Nat → Int) (i : Nat) : Nat → List Nat
  | 0 => []
  | k + 1 => (B (i + k) - 96).toNat :: sq B i k
theorem sq_s {B : Nat → Int} {i k : Nat} : sq B i (k + 1) = (B (i + k) - 96).toNat :: sq B i k := rfl
theorem sq_ext {B B' : Nat → Int} {i : Nat} : ∀ {k : Nat}, (∀ j, j < k → B (i + j) = B' (i + j)) → sq B i k = sq B' i k
  | 0, _ => rfl
  | k + 1, h => by rw [sq_s, sq_s, h k (by omega), sq_ext (fun j hj => h j (by omega))]
def fr (b : Nat) : List Nat → Nat
  | [] => 0
  | x :: t => fr b t * b + x
theorem fr_c {b x : Nat} {t : List Nat} : fr b (x :: t) = fr b t * b + x := rfl
def Lt (l : List Nat) : Prop := ∀ x ∈ l, 1 ≤ x ∧ x ≤ 26
theorem fr_inj {b : Nat} (hb : 27 ≤ b) : ∀ {l l' : List Nat}, Lt l → Lt l' → fr b l = fr b l' → l = l'
  | [], [], _, _, _ => rfl
  | [], y :: s, _, h', e => by
    have := (h' y (List.mem_cons_self)).1
    rw [fr_c] at e
    have e : 0 = fr b s * b + y := e
    omega
  | x :: t, [], h, _, e => by
    have := (h x (List.mem_cons_self)).1
    rw [fr_c] at e
    have e : fr b t * b + x = 0 := e
    omega
  | x :: t, y :: s, h, h', e => by
    have hx := h x (List.mem_cons_self)
    have hy := h' y (List.mem_cons_self)
    rw [fr_c, fr_c] at e
    have m1 : (fr b t * b + x) % b = x := by rw [Nat.add_comm, Nat.add_mul_mod_self_right, Nat.mod_eq_of_lt (by omega)]
    have m2 : (fr b s * b + y) % b = y := by rw [Nat.add_comm, Nat.add_mul_mod_self_right, Nat.mod_eq_of_lt (by omega)]
    have exy : x = y := by rw [← m1, ← m2, e]
    have et : fr b t = fr b s := Nat.eq_of_mul_eq_mul_right (show 0 < b by omega) (by omega)
    rw [exy, fr_inj hb (fun z hz => h z (List.mem_cons_of_mem _ hz)) (fun z hz => h' z (List.mem_cons_of_mem _ hz)) et]
theorem fr_lt {b : Nat} (hb : 27 ≤ b) : ∀ {l : List Nat}, Lt l → fr b l < b ^ l.length
  | [], _ => Nat.one_pos
  | x :: t, h => by
    have hx := h x (List.mem_cons_self)
    have ih := fr_lt hb (l := t) (fun z hz => h z (List.mem_cons_of_mem _ hz))
    rw [fr_c, List.length_cons, Nat.pow_succ]
    have : (fr b t + 1) * b ≤ b ^ t.length * b := Nat.mul_le_mul_right b ih
    rw [Nat.succ_mul] at this
    omega
theorem sq_len {B : Nat → Int} {i : Nat} : ∀ k, (sq B i k).length = k
  | 0 => rfl
  | k + 1 => by rw [sq_s, List.length_cons, sq_len k]
theorem sq_lt {B : Nat → Int} {i : Nat} : ∀ {k : Nat}, (∀ j, j < k → isLe (B (i + j))) → Lt (sq B i k)
  | 0, _ => fun x hx => by cases hx
  | k + 1, h => fun x hx => by
    rcases List.mem_cons.mp hx with e | e
    · have := h k (by omega)
      unfold isLe at this
      omega
    · exact sq_lt (fun j hj => h j (by omega)) x e
/-- the same name on both sides -/
theorem name_iff {l l' : List Nat} (h : Lt l) (h' : Lt l') : fr 32 l = fr 32 l' ↔ fr 27 l = fr 27 l' := ⟨fun e => by rw [fr_inj (by omega) h h' e], fun e => by rw [fr_inj (by omega) h h' e]⟩
/-! the words, their letters last first, in the class's order, and their places in the reference's -/
def wds : List (List Nat) := [[8, 19, 9, 4], [14, 1, 13], [25, 12, 12, 5, 2], [19, 5, 15, 7], [5, 23, 15], [23, 1, 12], [19, 5, 20, 1, 8], [12, 12, 9], [20, 19, 1, 6], [6, 9], [14, 5, 8, 20], [5, 19, 12, 5], [18, 21, 15, 8], [4, 1, 15, 12], [13, 15, 15, 18], [12, 12, 21, 6], [4, 1, 5, 8, 1], [20, 6, 5, 12], [11, 3, 9, 19]]
def wpi : List Nat := [0, 1, 6, 7, 8, 2, 9, 10, 11, 3, 4, 5, 12, 13, 14, 15, 16, 17, 18]
theorem wds_ok : ∀ w : Fin 19, (∀ x ∈ wds.getD w.val [], 1 ≤ x ∧ x ≤ 26) ∧ ((fr 32 (wds.getD w.val []) : Nat) : Int) = wdC.getD w.val 0 ∧ ((fr 27 (wds.getD w.val []) : Nat) : Int) = wdM.getD (wpi.getD w.val 0) 0 ∧ wpi.getD w.val 0 < 19 ∧ (wds.getD w.val []).length ≤ 7 := by decide +kernel
theorem wpi_sur : ∀ v : Fin 19, ∃ w : Fin 19, wpi.getD w.val 0 = v.val := by decide +kernel
theorem wpi_inj : ∀ w w' : Fin 19, wpi.getD w.val 0 = wpi.getD w'.val 0 → w = w' := by decide +kernel
theorem word_iff {l : List Nat} (h : Lt l) {w : Nat} (hw : w < 19) : wdC.getD w 0 = ((fr 32 l : Nat) : Int) ↔ wdM.getD (wpi.getD w 0) 0 = ((fr 27 l : Nat) : Int) := by
  obtain ⟨h1, h2, h3, -⟩ := wds_ok ⟨w, hw⟩
  have q := name_iff (l := wds.getD w []) (l' := l) h1 h
  rw [← h2, ← h3]
  constructor
  · intro e
    exact congrArg _ (q.mp (Int.ofNat.inj e))
  · intro e
    exact congrArg _ (q.mpr (Int.ofNat.inj e))
end TK0
section TK1
variable {X : Nat} {σ : am_Sg}
theorem c_blank {c : Int} : vcI X 228 [vI c] σ = some (@ite _ (isBl c) (Classical.propDecidable _) 1 0, σ) := by
  refine vI_of ((bq_228_0 X _ σ).trans ?_) rfl
  unfold isBl
  by_cases h1 : c = 9
  · rw [if_pos h1, if_pos (Or.inl h1), bq_228_24, bq_228_29, if_pos okZ1]
  · rw [if_neg h1]
    by_cases h2 : c = 10
    · rw [if_pos h2, if_pos (Or.inr (Or.inl h2)), bq_228_24, bq_228_29, if_pos okZ1]
    · rw [if_neg h2]
      by_cases h3 : c = 13
      · rw [if_pos h3, if_pos (Or.inr (Or.inr (Or.inl h3))), bq_228_24, bq_228_29, if_pos okZ1]
      · rw [if_neg h3]
        by_cases h4 : c = 32
        · rw [if_neg (fun x => x h4), if_pos (Or.inr (Or.inr (Or.inr h4))), bq_228_24, bq_228_29, if_pos okZ1]
        · rw [if_pos h4, if_neg (by omega), bq_228_29, if_pos okZ0]
theorem c_letter {c : Int} : vcI X 265 [vI c] σ = some (@ite _ (isLe c) (Classical.propDecidable _) 1 0, σ) := by
  refine vI_of ((bq_265_0 X _ σ).trans ?_) rfl
  unfold isLe
  by_cases h1 : c < 97
  · rw [if_pos h1, if_neg (by omega), bq_265_16, bq_265_17, if_pos okZ0]
  · rw [if_neg h1]
    by_cases h2 : 122 < c
    · rw [if_pos h2, if_neg (by omega), bq_265_16, bq_265_17, if_pos okZ0]
    · rw [if_neg h2, if_pos (by omega), bq_265_17, if_pos okZ1]
theorem c_digit {c : Int} : vcI X 267 [vI c] σ = some (@ite _ (isDi c) (Classical.propDecidable _) 1 0, σ) := by
  refine vI_of ((bq_267_0 X _ σ).trans ?_) rfl
  unfold isDi
  by_cases h1 : c < 48
  · rw [if_pos h1, if_neg (by omega), bq_267_16, bq_267_17, if_pos okZ0]
  · rw [if_neg h1]
    by_cases h2 : 57 < c
    · rw [if_pos h2, if_neg (by omega), bq_267_16, bq_267_17, if_pos okZ0]
    · rw [if_neg h2, if_pos (by omega), bq_267_17, if_pos okZ1]
theorem m_letter {c : Int} : vcI X 187 [vI c] σ = some (@ite _ (isLe c) (Classical.propDecidable _) 1 0, σ) := by
  refine vI_of ((bq_187_0 X _ σ).trans ?_) rfl
  unfold isLe
  by_cases h1 : c < 97
  · rw [if_pos h1, if_neg (by omega), bq_187_16, bq_187_17, if_pos okZ0]
  · rw [if_neg h1]
    by_cases h2 : 122 < c
    · rw [if_pos h2, if_neg (by omega), bq_187_16, bq_187_17, if_pos okZ0]
    · rw [if_neg h2, if_pos (by omega), bq_187_17, if_pos okZ1]
theorem m_digit {c : Int} : vcI X 188 [vI c] σ = some (@ite _ (isDi c) (Classical.propDecidable _) 1 0, σ) := by
  refine vI_of ((bq_188_0 X _ σ).trans ?_) rfl
  unfold isDi
  by_cases h1 : c < 48
  · rw [if_pos h1, if_neg (by omega), bq_188_16, bq_188_17, if_pos okZ0]
  · rw [if_neg h1]
    by_cases h2 : 57 < c
    · rw [if_pos h2, if_neg (by omega), bq_188_16, bq_188_17, if_pos okZ0]
    · rw [if_neg h2, if_pos (by omega), bq_188_17, if_pos okZ1]
end TK1
