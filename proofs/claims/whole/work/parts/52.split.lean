/-! SPLIT: the rucksack -/
def smN (f : Nat → Nat) : Nat → Nat
  | 0 => 0
  | n + 1 => smN f n + f n
def upN (f : Nat → Nat) (j x : Nat) : Nat → Nat := fun i => if i = j then x else f i
theorem smN_ext {f g : Nat → Nat} : ∀ {n : Nat}, (∀ d, d < n → f d = g d) → smN f n = smN g n
  | 0, _ => rfl
  | n + 1, h => by
    show smN f n + f n = smN g n + g n
    rw [smN_ext (fun d hd => h d (by omega)), h n (by omega)]
theorem smN_up {f : Nat → Nat} {w : Nat → Nat} {j x : Nat} : ∀ {n : Nat}, j < n → smN (fun d => upN f j x d * w d) n + f j * w j = smN (fun d => f d * w d) n + x * w j
  | 0, h => absurd h (Nat.not_lt_zero j)
  | n + 1, h => by
    show smN (fun d => upN f j x d * w d) n + upN f j x n * w n + f j * w j = smN (fun d => f d * w d) n + f n * w n + x * w j
    by_cases z : j = n
    · subst z
      have e : smN (fun d => upN f j x d * w d) j = smN (fun d => f d * w d) j := smN_ext fun d hd => by
        show upN f j x d * w d = f d * w d
        unfold upN
        rw [if_neg (by omega)]
      have e2 : upN f j x j = x := if_pos rfl
      rw [e, e2]
      omega
    · have ih := smN_up (f := f) (w := w) (x := x) (n := n) (show j < n by omega)
      have e2 : upN f j x n = f n := if_neg (by omega)
      rw [e2]
      omega
theorem smN_ge {f : Nat → Nat} : ∀ {n : Nat} (j : Nat), j < n → f j ≤ smN f n
  | 0, j, h => absurd h (Nat.not_lt_zero j)
  | n + 1, j, h => by
    show f j ≤ smN f n + f n
    by_cases z : j = n
    · rw [z]; omega
    · have := smN_ge (f := f) (n := n) j (by omega)
      omega
theorem smN_le {f g : Nat → Nat} : ∀ {n : Nat}, (∀ d, d < n → f d ≤ g d) → smN f n ≤ smN g n
  | 0, _ => Nat.le_refl _
  | n + 1, h => by
    have := smN_le (n := n) (fun d hd => h d (by omega))
    have := h n (by omega)
    show smN f n + f n ≤ smN g n + g n
    omega
/-- shares: how many of each dish the first swallows -/
def FSh (n : Nat) (b : Nat → Nat) (h1 h2 : Nat → Prop) (k : Nat → Nat) : Prop := ∀ d, d < n → k d ≤ b d ∧ (h1 d → k d = 0) ∧ (h2 d → k d = b d)
/-- what can be had with the dishes ahead of i, and t bites of dish i -/
def Ach (n : Nat) (b w : Nat → Nat) (h1 h2 : Nat → Prop) (i t s c : Nat) : Prop := ∃ k, FSh n b h1 h2 k ∧ (∀ d, i < d → d < n → ¬ h2 d → k d = 0) ∧ (i < n → ¬ h2 i → k i ≤ t) ∧ smN (fun d => k d * w d) n = s ∧ smN (fun d => k d * 1) n = c
section RUC
variable {n : Nat} {b w : Nat → Nat} {h1 h2 : Nat → Prop}
theorem Ach.step {i t s c : Nat} (hi : i < n) (n1 : ¬ h1 i) (n2 : ¬ h2 i) (ht : t < b i) : Ach n b w h1 h2 i (t + 1) s c ↔ Ach n b w h1 h2 i t s c ∨ (w i ≤ s ∧ 1 ≤ c ∧ Ach n b w h1 h2 i t (s - w i) (c - 1)) := by
  constructor
  · rintro ⟨k, q1, q2, q3, q4, q5⟩
    by_cases z : k i ≤ t
    · exact Or.inl ⟨k, q1, q2, fun _ _ => z, q4, q5⟩
    · have e : k i = t + 1 := by have := q3 hi n2; omega
      have u1 := smN_up (f := k) (w := w) (j := i) (x := t) hi
      have u2 := smN_up (f := k) (w := fun _ => 1) (j := i) (x := t) hi
      have g1 := smN_ge (f := fun d => k d * w d) i hi
      have g2 := smN_ge (f := fun d => k d * 1) i hi
      try dsimp only at u1
      try dsimp only at u2
      try dsimp only at g1
      try dsimp only at g2
      rw [q4] at u1 g1
      rw [q5] at u2 g2
      rw [e, Nat.add_mul, Nat.one_mul] at u1 g1
      rw [e] at u2 g2
      refine Or.inr ⟨by omega, by omega, upN k i t, fun d hd => ?_, fun d a1 a2 a3 => ?_, fun _ _ => ?_, by omega, by omega⟩
      · unfold upN
        by_cases y : d = i
        · rw [if_pos y, y]
          exact ⟨by omega, fun q => absurd q n1, fun q => absurd q n2⟩
        · rw [if_neg y]
          exact q1 d hd
      · unfold upN
        rw [if_neg (by omega)]
        exact q2 d a1 a2 a3
      · unfold upN
        rw [if_pos rfl]
        omega
  · rintro (⟨k, q1, q2, q3, q4, q5⟩ | ⟨hs, hc, k, q1, q2, q3, q4, q5⟩)
    · exact ⟨k, q1, q2, fun a a' => by have := q3 a a'; omega, q4, q5⟩
    · have kt := q3 hi n2
      have u1 := smN_up (f := k) (w := w) (j := i) (x := k i + 1) hi
      have u2 := smN_up (f := k) (w := fun _ => 1) (j := i) (x := k i + 1) hi
      try dsimp only at u1
      try dsimp only at u2
      rw [q4, Nat.add_mul, Nat.one_mul] at u1
      rw [q5] at u2
      refine ⟨upN k i (k i + 1), fun d hd => ?_, fun d a1 a2 a3 => ?_, fun _ _ => ?_, by omega, by omega⟩
      · unfold upN
        by_cases y : d = i
        · rw [if_pos y, y]
          exact ⟨by omega, fun q => absurd q n1, fun q => absurd q n2⟩
        · rw [if_neg y]
          exact q1 d hd
      · unfold upN
        rw [if_neg (by omega)]
        exact q2 d a1 a2 a3
      · unfold upN
        rw [if_pos rfl]
        omega
/-- a free dish done, or one that isn't free -/
theorem Ach.next {i s c : Nat} (hi : i < n) : Ach n b w h1 h2 i (b i) s c ↔ Ach n b w h1 h2 (i + 1) 0 s c := by
  constructor
  · rintro ⟨k, q1, q2, q3, q4, q5⟩
    exact ⟨k, q1, fun d a1 a2 a3 => q2 d (by omega) a2 a3, fun a1 a2 => by rw [q2 (i + 1) (by omega) a1 a2]; omega, q4, q5⟩
  · rintro ⟨k, q1, q2, q3, q4, q5⟩
    refine ⟨k, q1, fun d a1 a2 a3 => ?_, fun a1 a2 => (q1 i a1).1, q4, q5⟩
    by_cases z : d = i + 1
    · have := q3 (by omega) (by rw [← z]; exact a3)
      rw [z]
      omega
    · exact q2 d (by omega) a2 a3
theorem Ach.skip {i s c : Nat} (hi : i < n) (hh : h1 i ∨ h2 i) : Ach n b w h1 h2 i 0 s c ↔ Ach n b w h1 h2 (i + 1) 0 s c := by
  rw [← Ach.next hi]
  constructor
  · rintro ⟨k, q1, q2, q3, q4, q5⟩
    exact ⟨k, q1, q2, fun a1 a2 => (q1 i a1).1, q4, q5⟩
  · rintro ⟨k, q1, q2, q3, q4, q5⟩
    refine ⟨k, q1, q2, fun a1 a2 => ?_, q4, q5⟩
    rcases hh with q | q
    · rw [(q1 i a1).2.1 q]
      omega
    · exact absurd q a2
theorem Ach.all {s c : Nat} : Ach n b w h1 h2 n 0 s c ↔ ∃ k, FSh n b h1 h2 k ∧ smN (fun d => k d * w d) n = s ∧ smN (fun d => k d * 1) n = c := by
  constructor
  · rintro ⟨k, q1, q2, q3, q4, q5⟩
    exact ⟨k, q1, q4, q5⟩
  · rintro ⟨k, q1, q4, q5⟩
    exact ⟨k, q1, fun d a1 a2 => absurd a2 (by omega), fun a => absurd a (by omega), q4, q5⟩
end RUC
def HG : Int := 1000000000
/-- a table of the least cost for each bulk up to R -/
def TbOk (f : Nat → Int) (A : Nat → Nat → Prop) (R : Nat) : Prop := ∀ s, s ≤ R → (f s = HG ∧ ∀ c, ¬ A s c) ∨ ∃ c : Nat, f s = (c : Int) ∧ c ≤ 1000 ∧ A s c ∧ ∀ c', A s c' → c ≤ c'
/-- one bite more is offered: bulks from j on are done -/
theorem tb_step {f : Nat → Int} {A : Nat → Nat → Prop} {R v : Nat} (hA : ∀ s c, A s c → c ≤ 900) (hv : 0 < v) (hf : TbOk f A R) {s : Nat} (hs : s ≤ R) (hvs : v ≤ s) : (f (s - v) = HG ∧ ((f s = HG ∧ ∀ c, ¬ (A s c ∨ (v ≤ s ∧ 1 ≤ c ∧ A (s - v) (c - 1)))) ∨ ∃ c : Nat, f s = (c : Int) ∧ c ≤ 1000 ∧ (A s c ∨ (v ≤ s ∧ 1 ≤ c ∧ A (s - v) (c - 1))) ∧ ∀ c', (A s c' ∨ (v ≤ s ∧ 1 ≤ c' ∧ A (s - v) (c' - 1))) → c ≤ c')) ∨ (∃ p : Nat, f (s - v) = (p : Int) ∧ p ≤ 900 ∧ ∃ c : Nat, (if f (s - v) + 1 < f s then f (s - v) + 1 else f s) = (c : Int) ∧ c ≤ 1000 ∧ (A s c ∨ (v ≤ s ∧ 1 ≤ c ∧ A (s - v) (c - 1))) ∧ ∀ c', (A s c' ∨ (v ≤ s ∧ 1 ≤ c' ∧ A (s - v) (c' - 1))) → c ≤ c') := by
  rcases hf (s - v) (by omega) with ⟨e0, h0⟩ | ⟨p, e0, hp, a0, m0⟩
  · refine Or.inl ⟨e0, ?_⟩
    rcases hf s hs with ⟨e1, h1⟩ | ⟨c, e1, hc, a1, m1⟩
    · exact Or.inl ⟨e1, fun c q => q.elim (h1 c) (fun u => h0 _ u.2.2)⟩
    · exact Or.inr ⟨c, e1, hc, Or.inl a1, fun c' q => q.elim (m1 c') (fun u => absurd u.2.2 (h0 _))⟩
  · have p9 := hA _ _ a0
    refine Or.inr ⟨p, e0, p9, ?_⟩
    rw [e0]
    rcases hf s hs with ⟨e1, h1⟩ | ⟨c, e1, hc, a1, m1⟩
    · rw [e1]
      refine ⟨p + 1, ?_, by omega, Or.inr ⟨hvs, by omega, a0⟩, fun c' q => ?_⟩
      · rw [if_pos (by unfold HG; omega)]
        omega
      · rcases q with q | q
        · exact absurd q (h1 c')
        · have := m0 _ q.2.2
          omega
    · rw [e1]
      by_cases z : p + 1 < c
      · refine ⟨p + 1, ?_, by omega, Or.inr ⟨hvs, by omega, a0⟩, fun c' q => ?_⟩
        · rw [if_pos (by omega)]
          omega
        · rcases q with q | q
          · have := m1 c' q
            omega
          · have := m0 _ q.2.2
            omega
      · refine ⟨c, ?_, hc, Or.inl a1, fun c' q => ?_⟩
        · rw [if_neg (by omega)]
        · rcases q with q | q
          · exact m1 c' q
          · have := m0 _ q.2.2
            omega
section OFR
variable {X l : Nat} {σ T : am_Sg}
/-- one bite of bulk v is offered -/
theorem c_offer1 {A : Nat → Nat → Prop} {R v : Nat} {x1 x4 : Int} (hA : ∀ s c, A s c → c ≤ 900) (hv : 0 < v) (hv9 : v ≤ 9) (hR : R ≤ 99) (hf : TbOk (σ 67) A R) : ∃ f, vv X 216 12 [some (vP 63), some (vI x1), some (vI (v : Int)), some (vI (R : Int)), some (vI x4), some (vI (R : Int))] [] σ = vv X 216 3 [some (vP 63), some (vI x1), some (vI (v : Int)), some (vI (R : Int)), some (vI (w32 (x4 + 1))), none] [] (am_row σ 67 f) ∧ TbOk f (fun s c => A s c ∨ (v ≤ s ∧ 1 ≤ c ∧ A (s - v) (c - 1))) R := by
  -- downward: d of the bulks are done
  have L : ∀ (j : Nat) (f : Nat → Int), j ≤ R + 1 → (∀ s, s < j → f s = σ 67 s) → (∀ s, j ≤ s → s ≤ R → (f s = HG ∧ ∀ c, ¬ (A s c ∨ (v ≤ s ∧ 1 ≤ c ∧ A (s - v) (c - 1)))) ∨ ∃ c : Nat, f s = (c : Int) ∧ c ≤ 1000 ∧ (A s c ∨ (v ≤ s ∧ 1 ≤ c ∧ A (s - v) (c - 1))) ∧ ∀ c', (A s c' ∨ (v ≤ s ∧ 1 ≤ c' ∧ A (s - v) (c' - 1))) → c ≤ c') → ∃ f', vv X 216 12 [some (vP 63), some (vI x1), some (vI (v : Int)), some (vI (R : Int)), some (vI x4), some (vI ((j : Int) - 1))] [] (am_row σ 67 f) = vv X 216 3 [some (vP 63), some (vI x1), some (vI (v : Int)), some (vI (R : Int)), some (vI (w32 (x4 + 1))), none] [] (am_row σ 67 f') ∧ TbOk f' (fun s c => A s c ∨ (v ≤ s ∧ 1 ≤ c ∧ A (s - v) (c - 1))) R := by
    intro j
    induction j with
    | zero =>
      intro f hj hlo hhi
      refine ⟨f, ?_, fun s hs => hhi s (Nat.zero_le _) hs⟩
      rw [bq_216_12, if_pos (by omega)]
    | succ j ih =>
      intro f hj hlo hhi
      by_cases z : j < v
      · refine ⟨f, ?_, fun s hs => ?_⟩
        · rw [bq_216_12, if_pos (by omega)]
        · by_cases y : j + 1 ≤ s
          · exact hhi s y hs
          · rw [hlo s (by omega)]
            rcases hf s hs with ⟨e1, h1⟩ | ⟨c, e1, hc, a1, m1⟩
            · exact Or.inl ⟨e1, fun c q => q.elim (h1 c) (fun u => absurd u.1 (by omega))⟩
            · exact Or.inr ⟨c, e1, hc, Or.inl a1, fun c' q => q.elim (m1 c') (fun u => absurd u.1 (by omega))⟩
      · have ts := tb_step (f := σ 67) (s := j) hA hv hf (by omega) (by omega)
        have e1 : ((j + 1 : Nat) : Int) - 1 = (j : Int) := by omega
        have e2 : w32 ((j : Int) - (v : Int)) = ((j - v : Nat) : Int) := by rw [w32_id (by omega) (by omega)]; omega
        have e3 : w32 ((j : Int) + -1) = (j : Int) - 1 := by rw [w32_id (by omega) (by omega)]; omega
        rw [e1, bq_216_12, if_neg (by omega), e2, if_pos (by omega), tn_nat, re, hlo (j - v) (by omega), show (1000000000 : Int) = HG from rfl]
        rcases ts with ⟨q0, q1⟩ | ⟨p, q0, p9, c, q1, q2, q3, q4⟩
        · rw [if_pos q0, bq_216_60, e3]
          refine ih f (by omega) (fun s hs => hlo s (by omega)) (fun s a1 a2 => ?_)
          by_cases y : s = j
          · rw [y, hlo j (by omega)]
            exact q1
          · exact hhi s (by omega) a2
        · rw [if_neg (by rw [q0]; unfold HG; omega), if_pos (by omega), tn_nat, ur, bq_216_60, e3]
          refine ih _ (by omega) (fun s hs => ?_) (fun s a1 a2 => ?_)
          · rw [upn (by omega)]
            exact hlo s (by omega)
          · by_cases y : s = j
            · rw [y, upe, hlo j (by omega), w32_id (x := σ 67 (j - v) + 1) (by rw [q0]; omega) (by rw [q0]; omega)]
              exact Or.inr ⟨c, q1, q2, q3, q4⟩
            · rw [upn y]
              exact hhi s (by omega) a2
  obtain ⟨f', e, h⟩ := L (R + 1) (σ 67) (Nat.le_refl _) (fun s _ => rfl) (fun s a1 a2 => absurd a2 (by omega))
  rw [r0, show ((R + 1 : Nat) : Int) - 1 = (R : Int) by omega] at e
  exact ⟨f', e, h⟩
theorem TbOk.congr {f : Nat → Int} {A B : Nat → Nat → Prop} {R : Nat} (h : TbOk f A R) (hab : ∀ s c, A s c ↔ B s c) : TbOk f B R := by
  intro s hs
  rcases h s hs with ⟨e, q⟩ | ⟨c, e, hc, a, m⟩
  · exact Or.inl ⟨e, fun c u => q c ((hab s c).mpr u)⟩
  · exact Or.inr ⟨c, e, hc, (hab s c).mp a, fun c' u => m c' ((hab s c').mpr u)⟩
theorem Ach_le {n : Nat} {b w : Nat → Nat} {h1 h2 : Nat → Prop} (hn : n ≤ 4) (hb : ∀ d, d < n → b d ≤ 12) {i t s c : Nat} (h : Ach n b w h1 h2 i t s c) : c ≤ 900 := by
  obtain ⟨k, q1, -, -, -, q5⟩ := h
  have := smN_le (f := fun d => k d * 1) (g := fun _ => 12) (n := n) (fun d hd => by have := (q1 d hd).1; have := hb d hd; show k d * 1 ≤ 12; omega)
  have e : smN (fun _ => 12) n = 12 * n := by
    clear this q5 q1 hb hn
    induction n with
    | zero => rfl
    | succ n ih =>
      show smN (fun _ => 12) n + 12 = 12 * (n + 1)
      rw [ih]
      omega
  omega
theorem c_offer {n : Nat} {b w : Nat → Nat} {h1 h2 : Nat → Prop} (hn : n ≤ 4) (hb : ∀ d, d < n → b d ≤ 12) {i : Nat} (hi : i < n) (n1 : ¬ h1 i) (n2 : ¬ h2 i) (hw : 0 < w i) (hw9 : w i ≤ 9) {R : Nat} (hR : R ≤ 99) (hf : TbOk (σ 67) (Ach n b w h1 h2 i 0) R) : ∃ f, vcV X 216 [vP 63, vI (b i : Int), vI (w i : Int), vI (R : Int)] σ = some (am_row σ 67 f) ∧ TbOk f (Ach n b w h1 h2 (i + 1) 0) R := by
  have bi := hb i hi
  obtain ⟨f, e, hF⟩ := lp (fun t (f : Nat → Int) => vv X 216 3 [some (vP 63), some (vI (b i : Int)), some (vI (w i : Int)), some (vI (R : Int)), some (vI (t : Int)), none] [] (am_row σ 67 f)) (b i) (fun t f => TbOk f (Ach n b w h1 h2 i t) R) (fun t f ht hf => by
    obtain ⟨f', e', h'⟩ := c_offer1 (X := X) (σ := am_row σ 67 f) (A := Ach n b w h1 h2 i t) (v := w i) (x1 := (b i : Int)) (x4 := (t : Int)) (fun s c q => Ach_le hn hb q) hw hw9 hR (by rw [re]; exact hf)
    refine ⟨f', ?_, h'.congr (fun s c => (Ach.step hi n1 n2 ht).symm)⟩
    show vv X 216 3 [some (vP 63), some (vI (b i : Int)), some (vI (w i : Int)), some (vI (R : Int)), some (vI (t : Int)), none] [] (am_row σ 67 f) = vv X 216 3 [some (vP 63), some (vI (b i : Int)), some (vI (w i : Int)), some (vI (R : Int)), some (vI ((t + 1 : Nat) : Int)), none] [] (am_row σ 67 f')
    rw [bq_216_3, if_neg (by omega), e', rr, w32_s1 (by omega)]) (b i) 0 (σ 67) (by omega) hf
  rw [r0] at e
  refine ⟨f, vV_of ((bq_216_0 X _ _ _ σ).trans (Eq.trans e ?_)) rfl, hF.congr (fun s c => Ach.next hi)⟩
  show vv X 216 3 [some (vP 63), some (vI (b i : Int)), some (vI (w i : Int)), some (vI (R : Int)), some (vI (b i : Int)), none] [] (am_row σ 67 f) = _
  rw [bq_216_3, if_pos (Int.le_refl _)]
end OFR
