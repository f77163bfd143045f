/-! HIRE: bins -/
section BINS
def Gb (n : Nat) (w cap : Nat → Nat) (ok : Nat → Nat → Prop) : Nat → (Nat → Nat) → Prop
  | 0, k => ∀ d, d < n → k d = 0
  | i + 1, k => ∃ j : Nat → Nat, (∀ d, d < n → j d ≤ k d ∧ (j d = 0 ∨ ok i d)) ∧ smN (fun d => j d * w d) n ≤ cap i ∧ Gb n w cap ok i (fun d => k d - j d)
def Gu (n : Nat) (w cap : Nat → Nat) (ok : Nat → Nat → Prop) (i u : Nat) (k : Nat → Nat) : Prop := ∃ j : Nat → Nat, (∀ d, d < n → j d ≤ k d ∧ (j d = 0 ∨ ok i d)) ∧ smN (fun d => j d * w d) n ≤ u ∧ Gb n w cap ok i (fun d => k d - j d)
variable {n : Nat} {b w cap : Nat → Nat} {ok : Nat → Nat → Prop}
theorem Gb_u {i : Nat} {k : Nat → Nat} : Gb n w cap ok (i + 1) k ↔ Gu n w cap ok i (cap i) k := Iff.rfl
theorem Gb_ext : ∀ {i : Nat} {k k' : Nat → Nat}, (∀ d, d < n → k d = k' d) → Gb n w cap ok i k → Gb n w cap ok i k'
  | 0, k, k', e, h => fun d hd => by rw [← e d hd]; exact h d hd
  | i + 1, k, k', e, ⟨j, h1, h2, h3⟩ => ⟨j, fun d hd => by rw [← e d hd]; exact h1 d hd, h2, Gb_ext (fun d hd => by rw [e d hd]) h3⟩
theorem smN_z : ∀ m, smN (fun _ => 0) m = 0
  | 0 => rfl
  | m + 1 => by show smN (fun _ => 0) m + 0 = 0; rw [smN_z m]
theorem Gb_s {i : Nat} {k : Nat → Nat} (h : Gb n w cap ok i k) : Gb n w cap ok (i + 1) k := by
  refine ⟨fun _ => 0, fun d _ => ⟨Nat.zero_le _, Or.inl rfl⟩, ?_, h⟩
  rw [smN_ext (g := fun _ => 0) (fun d _ => Nat.zero_mul _), smN_z]
  exact Nat.zero_le _
theorem Gb_m {i : Nat} {k : Nat → Nat} (h : Gb n w cap ok i k) : ∀ m, Gb n w cap ok (i + m) k
  | 0 => h
  | m + 1 => Gb_s (Gb_m h m)
theorem Gb_le {i i' : Nat} {k : Nat → Nat} (h : Gb n w cap ok i k) (hi : i ≤ i') : Gb n w cap ok i' k := by
  have := Gb_m h (i' - i)
  rwa [show i + (i' - i) = i' by omega] at this
theorem Gu_mono {i u u' : Nat} {k : Nat → Nat} (h : Gu n w cap ok i u k) (hu : u ≤ u') : Gu n w cap ok i u' k := by
  obtain ⟨j, h1, h2, h3⟩ := h
  exact ⟨j, h1, Nat.le_trans h2 hu, h3⟩
theorem smN_inc {j : Nat → Nat} {d : Nat} (hd : d < n) : smN (fun e => upN j d (j d + 1) e * w e) n = smN (fun e => j e * w e) n + w d := by
  have := smN_up (f := j) (w := w) (j := d) (x := j d + 1) hd
  rw [Nat.succ_mul] at this
  omega
theorem smN_dec {j : Nat → Nat} {d : Nat} (hd : d < n) (hj : 1 ≤ j d) : smN (fun e => upN j d (j d - 1) e * w e) n + w d = smN (fun e => j e * w e) n := by
  have := smN_up (f := j) (w := w) (j := d) (x := j d - 1) hd
  have e : j d * w d = (j d - 1) * w d + w d := by
    rw [← Nat.succ_mul, show (j d - 1).succ = j d by omega]
  omega
/-- one more in the same bin -/
theorem Gu_inc {i u d : Nat} {k : Nat → Nat} (hd : d < n) (h : Gu n w cap ok i u k) (ho : ok i d) : Gu n w cap ok i (u + w d) (upN k d (k d + 1)) := by
  obtain ⟨j, h1, h2, h3⟩ := h
  refine ⟨upN j d (j d + 1), fun e he => ?_, ?_, Gb_ext (fun e he => ?_) h3⟩
  · unfold upN
    by_cases z : e = d
    · rw [if_pos z, if_pos z, ]
      subst z
      have := (h1 e he).1
      exact ⟨by omega, Or.inr ho⟩
    · rw [if_neg z, if_neg z]
      exact h1 e he
  · rw [smN_inc hd]
    omega
  · unfold upN
    skip
    by_cases z : e = d
    · rw [if_pos z, if_pos z]
      subst z
      omega
    · rw [if_neg z, if_neg z]
/-- one more in a later bin -/
theorem Gu_new {i d : Nat} {k : Nat → Nat} (hd : d < n) (h : Gb n w cap ok i k) (ho : ok i d) : Gu n w cap ok i (w d) (upN k d (k d + 1)) := by
  have q : Gu n w cap ok i 0 k := ⟨fun _ => 0, fun d _ => ⟨Nat.zero_le _, Or.inl rfl⟩, by
    rw [smN_ext (g := fun _ => 0) (fun d _ => Nat.zero_mul _), smN_z]
    exact Nat.le_refl _, h⟩
  have := Gu_inc hd q ho
  rwa [Nat.zero_add] at this
def stU (i u i' : Nat) : Nat := if i' = i then u else 0
/-- the class's next place -/
def WB (nb : Nat) (w cap : Nat → Nat) (ok : Nat → Nat → Prop) (i u d : Nat) (v : Int) : Prop := (v = HG ∧ ∀ i', i ≤ i' → i' < nb → ¬ (ok i' d ∧ stU i u i' + w d ≤ cap i')) ∨ ∃ i', i ≤ i' ∧ i' < nb ∧ ok i' d ∧ stU i u i' + w d ≤ cap i' ∧ v = ((i' * 128 + (stU i u i' + w d) : Nat) : Int) ∧ ∀ i'', i ≤ i'' → i'' < i' → ¬ (ok i'' d ∧ stU i u i'' + w d ≤ cap i'')
/-- where a plate's part lies -/
def Pos (n nb : Nat) (w cap : Nat → Nat) (ok : Nat → Nat → Prop) (v : Int) (k : Nat → Nat) : Prop := v = HG ∨ ∃ i u : Nat, v = ((i * 128 + u : Nat) : Int) ∧ i < nb ∧ u ≤ cap i ∧ Gu n w cap ok i u k
variable {nb : Nat}
theorem WB_sound {i u d : Nat} {v : Int} {k : Nat → Nat} (hd : d < n) (hi : u ≤ cap i) (h : Gu n w cap ok i u k) (hv : WB nb w cap ok i u d v) : Pos n nb w cap ok v (upN k d (k d + 1)) := by
  rcases hv with hv | ⟨i', a1, a2, a3, a4, a5, -⟩
  · exact Or.inl hv.1
  · refine Or.inr ⟨i', stU i u i' + w d, a5, a2, a4, ?_⟩
    unfold stU
    by_cases z : i' = i
    · rw [if_pos z]
      subst z
      exact Gu_inc hd h a3
    · rw [if_neg z, Nat.zero_add]
      exact Gu_new hd (Gb_le (Gb_u.mpr (Gu_mono h hi)) (by omega)) a3
theorem WB_compl (hc : ∀ i, i < nb → cap i ≤ 99) {iq uq i L d : Nat} {v : Int} (hu : uq < 128) (hL : L ≤ cap i) (hi : i < nb) (ho : ok i d) (hw : w d ≤ L) (hq : iq * 128 + uq ≤ i * 128 + (L - w d)) (hv : WB nb w cap ok iq uq d v) : v ≤ ((i * 128 + L : Nat) : Int) := by
  have c1 := hc i hi
  have le : iq ≤ i := by omega
  have fit : stU iq uq i + w d ≤ L := by
    unfold stU
    by_cases z : i = iq
    · rw [if_pos z]
      subst z
      omega
    · rw [if_neg z]
      omega
  rcases hv with hv | ⟨i', a1, a2, a3, a4, a5, a6⟩
  · exact absurd ⟨ho, Nat.le_trans fit hL⟩ (hv.2 i le hi)
  · have c2 := hc i' a2
    rcases (show i' < i ∨ i' = i ∨ i < i' by omega) with z | z | z
    · omega
    · subst z
      omega
    · exact absurd ⟨ho, Nat.le_trans fit hL⟩ (a6 i le z)
/-! mixed radix -/
def str (b : Nat → Nat) : Nat → Nat
  | 0 => 1
  | d + 1 => str b d * (b d + 1)
theorem str_s {d : Nat} : str b (d + 1) = str b d * (b d + 1) := rfl
theorem str_pos : ∀ d, 0 < str b d
  | 0 => Nat.one_pos
  | d + 1 => Nat.mul_pos (str_pos d) (Nat.succ_pos _)
def vl (b : Nat → Nat) (k : Nat → Nat) (n : Nat) : Nat := smN (fun d => k d * str b d) n
theorem vl_s {k : Nat → Nat} {m : Nat} : vl b k (m + 1) = vl b k m + k m * str b m := rfl
theorem vl_lt {k : Nat → Nat} : ∀ {m : Nat}, (∀ d, d < m → k d ≤ b d) → vl b k m < str b m
  | 0, _ => Nat.one_pos
  | m + 1, h => by
    have ih := vl_lt (m := m) (fun d hd => h d (by omega))
    have := Nat.mul_le_mul_right (str b m) (h m (by omega))
    rw [vl_s, str_s, Nat.mul_add, Nat.mul_one, Nat.mul_comm (str b m)]
    omega
theorem str_dvd {d : Nat} : ∀ m, ∃ M, str b (d + 1 + m) = str b d * ((b d + 1) * M)
  | 0 => ⟨1, by rw [Nat.mul_one]; rfl⟩
  | m + 1 => by
    obtain ⟨M, e⟩ := str_dvd (d := d) m
    refine ⟨M * (b (d + 1 + m) + 1), ?_⟩
    show str b (d + 1 + m) * (b (d + 1 + m) + 1) = _
    rw [e, Nat.mul_assoc, Nat.mul_assoc]
theorem vl_dig {k : Nat → Nat} {d : Nat} : ∀ {m : Nat}, (∀ d, d < m → k d ≤ b d) → d < m → vl b k m / str b d % (b d + 1) = k d
  | 0, _, h => absurd h (Nat.not_lt_zero _)
  | m + 1, hk, hd => by
    have hk' : ∀ d, d < m → k d ≤ b d := fun d hd => hk d (by omega)
    by_cases z : d = m
    · subst z
      rw [vl_s, Nat.add_mul_div_right _ _ (str_pos d), Nat.div_eq_of_lt (vl_lt hk'), Nat.zero_add, Nat.mod_eq_of_lt (by have := hk d (by omega); omega)]
    · have dm : d < m := by omega
      obtain ⟨M, e⟩ := str_dvd (b := b) (d := d) (m - (d + 1))
      rw [show d + 1 + (m - (d + 1)) = m by omega] at e
      have ih := vl_dig (d := d) hk' dm
      rw [vl_s, e, show k m * (str b d * ((b d + 1) * M)) = str b d * ((b d + 1) * (M * k m)) by
        rw [Nat.mul_comm (k m), Nat.mul_assoc, Nat.mul_assoc], Nat.add_mul_div_left _ _ (str_pos d), Nat.add_mul_mod_self_left]
      exact ih
theorem vl_ext {k k' : Nat → Nat} {m : Nat} (h : ∀ d, d < m → k d = k' d) : vl b k m = vl b k' m := smN_ext fun d hd => by rw [h d hd]
theorem vl_sur : ∀ {m y : Nat}, y < str b m → ∃ k : Nat → Nat, (∀ d, d < m → k d ≤ b d) ∧ vl b k m = y
  | 0, y, h => ⟨fun _ => 0, fun d hd => absurd hd (Nat.not_lt_zero _), by have : y < 1 := h; show 0 = y; omega⟩
  | m + 1, y, h => by
    obtain ⟨k, h1, h2⟩ := vl_sur (m := m) (Nat.mod_lt y (str_pos (b := b) m))
    refine ⟨upN k m (y / str b m), fun d hd => ?_, ?_⟩
    · unfold upN
      by_cases z : d = m
      · rw [if_pos z, z]
        rw [str_s] at h
        have := Nat.div_lt_of_lt_mul h
        omega
      · rw [if_neg z]
        exact h1 d (by omega)
    · rw [vl_s, vl_ext (k' := k) (fun d hd => by unfold upN; rw [if_neg (by omega)]), h2]
      unfold upN
      rw [if_pos rfl, Nat.mul_comm, Nat.mod_add_div]
theorem vl_inc {k : Nat → Nat} {d : Nat} (hd : d < n) : vl b (upN k d (k d + 1)) n = vl b k n + str b d := smN_inc hd
/-- the table, when it is whole -/
def Tab (n nb : Nat) (b w cap : Nat → Nat) (ok : Nat → Nat → Prop) (f : Nat → Int) : Prop := f 0 ≤ 0 ∧ (∀ k : Nat → Nat, (∀ d, d < n → k d ≤ b d) → Pos n nb w cap ok (f (vl b k n)) k) ∧ ∀ k : Nat → Nat, (∀ d, d < n → k d ≤ b d) → ∀ d, d < n → k d < b d → ∀ i u : Nat, f (vl b k n) = ((i * 128 + u : Nat) : Int) → u < 128 → i < nb → ∃ v, WB nb w cap ok i u d v ∧ f (vl b k n + str b d) ≤ v
theorem Tab_one {f : Nat → Int} (hc : ∀ i, i < nb → cap i ≤ 99) (hnb : nb ≤ 7) (h : Tab n nb b w cap ok f) {N : Nat} (ih : ∀ k : Nat → Nat, (∀ d, d < n → k d ≤ b d) → smN (fun d => k d * 1) n = N → ∀ i, ∀ u, i < nb → u ≤ cap i → Gu n w cap ok i u k → f (vl b k n) ≤ ((i * 128 + u : Nat) : Int)) {k : Nat → Nat} (hk : ∀ d, d < n → k d ≤ b d) (e : smN (fun d => k d * 1) n = N + 1) {i u : Nat} (hi : i < nb) (hu : u ≤ cap i) {j : Nat → Nat} {d : Nat} (hd : d < n) (h1 : ∀ d, d < n → j d ≤ k d ∧ (j d = 0 ∨ ok i d)) (h2 : smN (fun d => j d * w d) n ≤ u) (h3 : Gb n w cap ok i (fun d => k d - j d)) (hj : 1 ≤ j d) : f (vl b k n) ≤ ((i * 128 + u : Nat) : Int) := by
  have jk := (h1 d hd).1
  have c1 := hc i hi
  have kb := hk d hd
  have hk' : ∀ x, x < n → upN k d (k d - 1) x ≤ b x := fun x hx => by
    unfold upN
    by_cases z : x = d
    · rw [if_pos z, z]
      omega
    · rw [if_neg z]
      exact hk x hx
  have s1 := smN_dec (w := fun _ => 1) (j := k) hd (by omega)
  have s2 := smN_dec (w := w) hd hj
  have wu : w d ≤ u := by omega
  have okd : ok i d := by
    rcases (h1 d hd).2 with z | z
    · omega
    · exact z
  have g' : Gu n w cap ok i (u - w d) (upN k d (k d - 1)) := by
    refine ⟨upN j d (j d - 1), fun x hx => ?_, by omega, Gb_ext (fun x hx => ?_) h3⟩
    · unfold upN
      by_cases z : x = d
      · rw [if_pos z, if_pos z]
        subst z
        exact ⟨by omega, Or.inr okd⟩
      · rw [if_neg z, if_neg z]
        exact h1 x hx
    · unfold upN
      skip
      by_cases z : x = d
      · rw [if_pos z, if_pos z]
        subst z
        omega
      · rw [if_neg z, if_neg z]
  have le := ih _ hk' (by omega) i (u - w d) hi (by omega) g'
  have pos := h.2.1 _ hk'
  have vk : vl b k n = vl b (upN k d (k d - 1)) n + str b d := by
    rw [← vl_inc hd]
    refine vl_ext fun x hx => ?_
    unfold upN
    by_cases z : x = d
    · rw [if_pos z, if_pos rfl, z]
      omega
    · rw [if_neg z, if_neg z]
  rcases pos with z | ⟨iq, uq, a1, a2, a3, -⟩
  · rw [z] at le
    unfold HG at le
    omega
  · have c2 := hc iq a2
    obtain ⟨v, v1, v2⟩ := h.2.2 _ hk' d hd (by unfold upN; rw [if_pos rfl]; omega) iq uq a1 (by omega) a2
    have := WB_compl hc (show uq < 128 by omega) hu hi okd wu (by omega) v1
    rw [vk]
    omega
theorem Tab_le {f : Nat → Int} (hc : ∀ i, i < nb → cap i ≤ 99) (hnb : nb ≤ 7) (h : Tab n nb b w cap ok f) : ∀ N, ∀ k : Nat → Nat, (∀ d, d < n → k d ≤ b d) → smN (fun d => k d * 1) n = N → ∀ i, ∀ u, i < nb → u ≤ cap i → Gu n w cap ok i u k → f (vl b k n) ≤ ((i * 128 + u : Nat) : Int) := by
  intro N
  induction N with
  | zero =>
    intro k hk e i u hi hu hg
    have z : ∀ d, d < n → k d = 0 := fun d hd => by
      have := smN_ge (f := fun d => k d * 1) d hd
      skip
      omega
    rw [vl_ext (k' := fun _ => 0) z]
    have e0 : vl b (fun _ => 0) n = 0 := by
      unfold vl
      rw [smN_ext (g := fun _ => 0) (fun d _ => Nat.zero_mul _), smN_z]
    rw [e0]
    have := h.1
    omega
  | succ N ih =>
    intro k hk e i
    induction i with
    | zero =>
      intro u hi hu hg
      obtain ⟨j, h1, h2, h3⟩ := hg
      -- all lies in the first bin
      have hj : ∃ d, d < n ∧ 1 ≤ j d := Classical.byContradiction fun q => by
        have z : ∀ d, d < n → k d * 1 = 0 := fun d hd => by
          have q1 : ¬ 1 ≤ j d := fun x => q ⟨d, hd, x⟩
          have := h3 d hd
          dsimp only at this
          omega
        rw [smN_ext (g := fun _ => 0) z, smN_z] at e
        omega
      obtain ⟨d, hd, hj⟩ := hj
      exact Tab_one hc hnb h ih hk e hi hu hd h1 h2 h3 hj
    | succ i ihi =>
      intro u hi hu hg
      obtain ⟨j, h1, h2, h3⟩ := hg
      by_cases q : ∃ d, d < n ∧ 1 ≤ j d
      · obtain ⟨d, hd, hj⟩ := q
        exact Tab_one hc hnb h ih hk e hi hu hd h1 h2 h3 hj
      · have g : Gb n w cap ok (i + 1) k := Gb_ext (fun d hd => by
          have q1 : ¬ 1 ≤ j d := fun x => q ⟨d, hd, x⟩
          skip
          omega) h3
        have := ihi (cap i) (by omega) (Nat.le_refl _) (Gb_u.mp g)
        have := hc i (by omega)
        omega
theorem Tab_iff {f : Nat → Int} (hc : ∀ i, i < nb → cap i ≤ 99) (hnb : nb ≤ 7) (h0 : 0 < nb) (h : Tab n nb b w cap ok f) : f (vl b b n) = HG ↔ ¬ Gb n w cap ok nb b := by
  have hb : ∀ d, d < n → b d ≤ b d := fun d _ => Nat.le_refl _
  constructor
  · intro e g
    obtain ⟨m, rfl⟩ : ∃ m, nb = m + 1 := ⟨nb - 1, by omega⟩
    have := Tab_le hc hnb h _ b hb rfl m (cap m) (by omega) (Nat.le_refl _) (Gb_u.mp g)
    have c := hc m (by omega)
    rw [e] at this
    unfold HG at this
    omega
  · intro g
    rcases h.2.1 b hb with z | ⟨i, u, a1, a2, a3, a4⟩
    · exact z
    · exact absurd (Gb_le (Gb_u.mpr (Gu_mono a4 a3)) (by omega)) g
end BINS
