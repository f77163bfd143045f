/-! CALLS: cleared -/
theorem wo_f : ∀ p : Fin 256, ∀ m : Fin 8, am_and (p.val : Int) (am_xor (am_shl 1 (m.val : Int)) (-1)) = if bt1 (p.val : Int) m.val = 1 then ((p.val - 2 ^ m.val : Nat) : Int) else (p.val : Int) := by decide +kernel
theorem wo2_f : ∀ p : Fin 256, ∀ m : Fin 8, bt1 (p.val : Int) m.val = 1 → 2 ^ m.val ≤ p.val ∧ bt1 ((p.val - 2 ^ m.val : Nat) : Int) m.val = 0 := by decide +kernel
theorem wo {p m : Nat} (hp : p < 256) (hm : m < 8) : am_and (p : Int) (am_xor (am_shl 1 (m : Int)) (-1)) = if bt1 (p : Int) m = 1 then ((p - 2 ^ m : Nat) : Int) else (p : Int) := wo_f ⟨p, hp⟩ ⟨m, hm⟩
theorem wo2 {p m : Nat} (hp : p < 256) (hm : m < 8) (h : bt1 (p : Int) m = 1) : 2 ^ m ≤ p ∧ bt1 ((p - 2 ^ m : Nat) : Int) m = 0 := wo2_f ⟨p, hp⟩ ⟨m, hm⟩ h
/-- the bits of a set with one man more, and with one less -/
theorem bt_add {p m k : Nat} (hp : p < 256) (hm : m < 8) (hk : k < 8) (h : bt1 (p : Int) m = 0) : bt1 ((p + 2 ^ m : Nat) : Int) k = if k = m then 1 else bt1 (p : Int) k := by
  rw [← (orp0 hp hm h).1]
  exact bt1_up hm hk (bt01 hp hk)
theorem bt_sub {p m k : Nat} (hp : p < 256) (hm : m < 8) (hk : k < 8) (h : bt1 (p : Int) m = 1) : bt1 ((p - 2 ^ m : Nat) : Int) k = if k = m then 0 else bt1 (p : Int) k := by
  obtain ⟨h1, h2⟩ := wo2 hp hm h
  have := bt_add (p := p - 2 ^ m) (k := k) (Nat.lt_of_le_of_lt (Nat.sub_le p _) hp) hm hk h2
  rw [show p - 2 ^ m + 2 ^ m = p by omega] at this
  by_cases z : k = m
  · rw [if_pos z, z, h2]
  · rw [if_neg z]
    rw [if_neg z] at this
    exact this.symm
theorem by_bits {p s : Nat} (hp : p < 256) (hs : s < 256) (h : ∀ k, k < 8 → bt1 (p : Int) k = bt1 (s : Int) k) : p = s := by
  have e1 : (p : Int) = _ := byb_f ⟨p, hp⟩
  have e2 : (s : Int) = _ := byb_f ⟨s, hs⟩
  dsimp only at e1 e2
  rw [h 0 (by omega), h 1 (by omega), h 2 (by omega), h 3 (by omega), h 4 (by omega), h 5 (by omega), h 6 (by omega), h 7 (by omega), ← e2] at e1
  omega
/-- the sum of the nets of the first n -/
def nsF (net : Nat → Int) (p : Nat) : Nat → Int
  | 0 => 0
  | m + 1 => if bt1 (p : Int) m = 1 then w32 (nsF net p m + net m) else nsF net p m
def mxM (g : Nat → Int) (p : Nat) : Nat → Int
  | 0 => 0
  | m + 1 => if bt1 (p : Int) m = 1 then mx (mxM g p m) (g (p - 2 ^ m)) else mxM g p m
def gT (net : Nat → Int) (n : Nat) : Nat → Nat → Int
  | 0 => fun _ => 0
  | p + 1 => up (gT net n p) p (if p = 0 then 0 else if nsF net p n = 0 then mxM (gT net n p) p n + 1 else mxM (gT net n p) p n)
def gG (net : Nat → Int) (n p : Nat) : Int := gT net n (p + 1) p
section GG
variable {net : Nat → Int} {n : Nat}
theorem gT_st : ∀ (k p : Nat), gT net n (p + 1 + k) p = gG net n p
  | 0, p => rfl
  | k + 1, p => by
    show up (gT net n (p + 1 + k)) (p + 1 + k) _ p = _
    rw [upn (by omega)]
    exact gT_st k p
theorem gT_lt {q p : Nat} (h : p < q) : gT net n q p = gG net n p := by
  have := gT_st (net := net) (n := n) (q - (p + 1)) p
  rw [show p + 1 + (q - (p + 1)) = q by omega] at this
  exact this
theorem mxM_ext {f g : Nat → Int} {p : Nat} (hp : p < 256) (h : ∀ j, j < p → f j = g j) : ∀ m, m ≤ 8 → mxM f p m = mxM g p m
  | 0, _ => rfl
  | m + 1, hm => by
    unfold mxM
    rw [mxM_ext hp h m (by omega)]
    by_cases z : bt1 (p : Int) m = 1
    · have := (wo2 hp (show m < 8 by omega) z).1
      have p2 : 0 < 2 ^ m := Nat.pow_pos (by omega)
      rw [if_pos z, if_pos z, h _ (by omega)]
    · rw [if_neg z, if_neg z]
theorem gG_rec {p : Nat} (hn : n ≤ 8) (hp : p < 256) (h0 : ¬ p = 0) : gG net n p = if nsF net p n = 0 then mxM (gG net n) p n + 1 else mxM (gG net n) p n := by
  show up (gT net n p) p _ p = _
  rw [upe, if_neg h0, mxM_ext hp (fun j hj => gT_lt hj) n hn]
theorem gG_0 : gG net n 0 = 0 := rfl
theorem mxM_nn (g : Nat → Int) (p : Nat) : ∀ m, 0 ≤ mxM g p m
  | 0 => Int.le_refl _
  | m + 1 => by
    have := mxM_nn g p m
    unfold mxM mx
    split
    · split <;> omega
    · exact this
theorem mxM_ge {g : Nat → Int} {p : Nat} : ∀ m k, k < m → bt1 (p : Int) k = 1 → g (p - 2 ^ k) ≤ mxM g p m
  | 0, k, h, _ => absurd h (Nat.not_lt_zero k)
  | m + 1, k, h, hb => by
    unfold mxM mx
    by_cases z : k = m
    · subst z
      rw [if_pos hb]
      split <;> omega
    · have ih : g (p - 2 ^ k) ≤ mxM g p m := mxM_ge m k (by omega) hb
      split
      · split <;> omega
      · exact ih
theorem mxM_at {g : Nat → Int} {p : Nat} : ∀ m, mxM g p m = 0 ∨ ∃ k, k < m ∧ bt1 (p : Int) k = 1 ∧ mxM g p m = g (p - 2 ^ k)
  | 0 => Or.inl rfl
  | m + 1 => by
    unfold mxM mx
    by_cases z : bt1 (p : Int) m = 1
    · rw [if_pos z]
      split
      · exact Or.inr ⟨m, by omega, z, rfl⟩
      · rcases mxM_at m with q | ⟨k, h1, h2, h3⟩
        · exact Or.inl q
        · exact Or.inr ⟨k, by omega, h2, h3⟩
    · rw [if_neg z]
      rcases mxM_at m with q | ⟨k, h1, h2, h3⟩
      · exact Or.inl q
      · exact Or.inr ⟨k, by omega, h2, h3⟩
theorem gG_nn {p : Nat} (hn : n ≤ 8) (hp : p < 256) : 0 ≤ gG net n p := by
  by_cases z : p = 0
  · rw [z, gG_0]
    exact Int.le_refl _
  · have := mxM_nn (gG net n) p n
    rw [gG_rec hn hp z]
    split <;> omega
theorem gG_le (hn : n ≤ 8) : ∀ (N p : Nat), p ≤ N → p < 256 → gG net n p ≤ (p : Int) ∧ ∀ m, m ≤ 8 → mxM (gG net n) p m ≤ (p : Int) ∧ (0 < p → mxM (gG net n) p m ≤ (p : Int) - 1)
  | N, p, hN, hp => by
    have mb : ∀ m, m ≤ 8 → mxM (gG net n) p m ≤ (p : Int) ∧ (0 < p → mxM (gG net n) p m ≤ (p : Int) - 1) := by
      intro m hm
      have key : mxM (gG net n) p m ≤ 0 ∨ mxM (gG net n) p m ≤ (p : Int) - 1 := by
        rcases mxM_at (g := gG net n) (p := p) m with q | ⟨k, h1, h2, h3⟩
        · exact Or.inl (by omega)
        · have w2 := wo2 hp (show k < 8 by omega) h2
          have m2 : 0 < 2 ^ k := Nat.pow_pos (by omega)
          match N, hN with
          | 0, hN => omega
          | N + 1, hN =>
            have := (gG_le hn N (p - 2 ^ k) (by omega) (by omega)).1
            exact Or.inr (by omega)
      omega
    refine ⟨?_, mb⟩
    by_cases z : p = 0
    · rw [z, gG_0]
      exact Int.le_refl _
    · have := (mb n hn).2 (by omega)
      rw [gG_rec hn hp z]
      split <;> omega
theorem gG_b (hn : n ≤ 8) {p : Nat} (hp : p < 256) (m : Nat) (hm : m ≤ 8) : mxM (gG net n) p m ≤ 300 := by
  have := ((gG_le (net := net) hn p p (Nat.le_refl _) hp).2 m hm).1
  omega
theorem nsF_w (p : Nat) : ∀ m, w32 (nsF net p m) = nsF net p m
  | 0 => rfl
  | m + 1 => by
    unfold nsF
    split
    · exact w32_idem _
    · exact nsF_w p m
theorem nsF_add {p z : Nat} (hp : p < 256) (hz : z < 8) (hb : bt1 (p : Int) z = 0) (h0 : net z = 0) : ∀ m, m ≤ 8 → nsF net (p + 2 ^ z) m = nsF net p m
  | 0, _ => rfl
  | m + 1, hm => by
    unfold nsF
    rw [bt_add hp hz (show m < 8 by omega) hb, nsF_add hp hz hb h0 m (by omega)]
    by_cases y : m = z
    · subst y
      rw [if_pos rfl, if_pos rfl, hb, if_neg (by omega), h0, Int.add_zero, nsF_w]
    · rw [if_neg y]
/-- one who owes nothing is a group by himself -/
theorem gG_zero (hn : n ≤ 8) {z : Nat} (hz : z < n) (h0 : net z = 0) : ∀ (N p : Nat), p ≤ N → p < 256 → bt1 (p : Int) z = 0 → (∀ k, n ≤ k → k < 8 → bt1 (p : Int) k = 0) → gG net n (p + 2 ^ z) = gG net n p + 1
  | N, p, hN, hp, hb, hhi => by
    have o := orp0 hp (show z < 8 by omega) hb
    have z2 : 0 < 2 ^ z := Nat.pow_pos (by omega)
    have back : ∀ m, m < n → bt1 (p : Int) m = 1 → gG net n (p + 2 ^ z - 2 ^ m) = gG net n (p - 2 ^ m) + 1 := by
      intro m hm hbm
      have w2 := wo2 hp (show m < 8 by omega) hbm
      have m2 : 0 < 2 ^ m := Nat.pow_pos (by omega)
      have ne : ¬ z = m := fun q => by rw [q] at hb; omega
      rw [show p + 2 ^ z - 2 ^ m = (p - 2 ^ m) + 2 ^ z by omega]
      match N, hN with
      | 0, hN => omega
      | N + 1, hN =>
        refine gG_zero hn hz h0 N (p - 2 ^ m) (by omega) (by omega) ?_ (fun k h1 h2 => ?_)
        · rw [bt_sub hp (by omega) (by omega) hbm, if_neg ne]
          exact hb
        · rw [bt_sub hp (by omega) h2 hbm, if_neg (by omega)]
          exact hhi k h1 h2
    have bz : bt1 ((p + 2 ^ z : Nat) : Int) z = 1 := by rw [bt_add hp (by omega) (by omega) hb, if_pos rfl]
    have bits : ∀ m, m < n → ¬ m = z → bt1 ((p + 2 ^ z : Nat) : Int) m = bt1 (p : Int) m := fun m hm ne => by rw [bt_add hp (by omega) (by omega) hb, if_neg ne]
    have ns := nsF_add hp (show z < 8 by omega) hb h0 n hn
    have M'z : gG net n p ≤ mxM (gG net n) (p + 2 ^ z) n := by
      have := mxM_ge (g := gG net n) n z hz bz
      rw [show p + 2 ^ z - 2 ^ z = p by omega] at this
      exact this
    have M'0 := mxM_nn (gG net n) (p + 2 ^ z) n
    rw [gG_rec hn o.2.1 (by omega), ns]
    by_cases p0 : p = 0
    · subst p0
      have e : mxM (gG net n) (0 + 2 ^ z) n = 0 := by
        rcases mxM_at (g := gG net n) (p := 0 + 2 ^ z) n with q | ⟨k, h1, h2, h3⟩
        · exact q
        · by_cases y : k = z
          · subst y
            rw [h3, show 0 + 2 ^ k - 2 ^ k = 0 by omega]
            rfl
          · rw [bits k h1 y] at h2
            have : ∀ k : Fin 8, bt1 ((0 : Nat) : Int) k.val = 0 := by decide +kernel
            have := this ⟨k, by omega⟩
            dsimp only at this
            omega
      have e2 : nsF net 0 n = 0 := by
        have : ∀ m, m ≤ 8 → nsF net 0 m = 0 := by
          intro m
          induction m with
          | zero => intro _; rfl
          | succ m ih =>
            intro hm
            unfold nsF
            have b0 : ∀ k : Fin 8, bt1 ((0 : Nat) : Int) k.val = 0 := by decide +kernel
            have b1 := b0 ⟨m, by omega⟩
            dsimp only at b1
            rw [if_neg (by omega), ih (by omega)]
        exact this n hn
      rw [if_pos e2, e, gG_0]
    · have rc := gG_rec (net := net) hn hp p0
      -- some man is in it
      have some1 : ∃ m, m < n ∧ bt1 (p : Int) m = 1 := by
        by_cases q : ∃ m, m < n ∧ bt1 (p : Int) m = 1
        · exact q
        · exfalso
          apply p0
          refine by_bits hp (show 0 < 256 by omega) (fun k hk => ?_)
          have b0 : ∀ k : Fin 8, bt1 ((0 : Nat) : Int) k.val = 0 := by decide +kernel
          have b1 := b0 ⟨k, hk⟩
          dsimp only at b1
          rw [b1]
          by_cases y : k < n
          · rcases bt01 hp hk with u | u
            · exact u
            · exact absurd ⟨k, y, u⟩ q
          · exact hhi k (by omega) hk
      have lo : mxM (gG net n) p n + 1 ≤ mxM (gG net n) (p + 2 ^ z) n := by
        have at1 : ∃ m, m < n ∧ bt1 (p : Int) m = 1 ∧ mxM (gG net n) p n = gG net n (p - 2 ^ m) := by
          rcases mxM_at (g := gG net n) (p := p) n with q | q
          · obtain ⟨m, h1, h2⟩ := some1
            have := mxM_ge (g := gG net n) n m h1 h2
            have w2 := wo2 hp (show m < 8 by omega) h2
            have := gG_nn (net := net) (p := p - 2 ^ m) hn (Nat.lt_of_le_of_lt (Nat.sub_le p _) hp)
            exact ⟨m, h1, h2, by omega⟩
          · exact q
        obtain ⟨m, h1, h2, h3⟩ := at1
        have ne : ¬ m = z := fun q => by rw [q] at h2; omega
        have := mxM_ge (g := gG net n) n m h1 (by rw [bits m h1 ne]; exact h2)
        rw [back m h1 h2] at this
        omega
      have up1 : mxM (gG net n) (p + 2 ^ z) n ≤ mxM (gG net n) p n + 1 := by
        have nn := mxM_nn (gG net n) p n
        rcases mxM_at (g := gG net n) (p := p + 2 ^ z) n with q | ⟨k, h1, h2, h3⟩
        · omega
        · by_cases y : k = z
          · subst y
            rw [h3, show p + 2 ^ k - 2 ^ k = p by omega, rc]
            split <;> omega
          · rw [bits k h1 y] at h2
            rw [h3, back k h1 h2]
            have := mxM_ge (g := gG net n) n k h1 h2
            omega
      rw [rc]
      split <;> omega
/-- adding those who owe nothing, one by one, from man i on -/
theorem gG_all (hn : n ≤ 8) : ∀ (k i a : Nat), i + k = n → a < 256 → (∀ m, n ≤ m → m < 8 → bt1 (a : Int) m = 0) → (∀ m, m < i → bt1 (a : Int) m = 1) → (∀ m, i ≤ m → m < n → (bt1 (a : Int) m = 1 ↔ ¬ net m = 0)) → ∃ b : Nat, b < 256 ∧ (∀ m, m < n → bt1 (b : Int) m = 1) ∧ (∀ m, n ≤ m → m < 8 → bt1 (b : Int) m = 0) ∧ gG net n b - bc (b : Int) 8 = gG net n a - bc (a : Int) 8
  | 0, i, a, e, ha, h1, h2, h3 => ⟨a, ha, fun m hm => h2 m (by omega), h1, rfl⟩
  | k + 1, i, a, e, ha, h1, h2, h3 => by
    have hi := h3 i (Nat.le_refl _) (by omega)
    rcases bt01 ha (show i < 8 by omega) with z | z
    · have n0 : net i = 0 := Classical.not_not.mp (fun q => by have := hi.mpr q; omega)
      have o := orp0 ha (show i < 8 by omega) z
      have gz := gG_zero (net := net) hn (show i < n by omega) n0 a a (Nat.le_refl _) ha z h1
      have ba := fun m hm => bt_add (m := i) (k := m) ha (by omega) hm z
      obtain ⟨b, q1, q2, q3, q4⟩ := gG_all hn k (i + 1) (a + 2 ^ i) (by omega) o.2.1 (fun m a1 a2 => by rw [ba m a2, if_neg (by omega)]; exact h1 m a1 a2) (fun m hm => by
        rw [ba m (by omega)]
        by_cases y : m = i
        · rw [if_pos y]
        · rw [if_neg y]
          exact h2 m (by omega)) (fun m a1 a2 => by
        rw [ba m (by omega), if_neg (by omega)]
        exact h3 m (by omega) a2)
      refine ⟨b, q1, q2, q3, ?_⟩
      rw [q4, gz, o.2.2]
      omega
    · exact gG_all hn k (i + 1) a (by omega) ha h1 (fun m hm => by
        by_cases y : m = i
        · rw [y]; exact z
        · exact h2 m (by omega)) (fun m a1 a2 => h3 m (by omega) a2)
end GG
theorem allb_f : ∀ n : Fin 9, ∀ k : Fin 8, bt1 ((2 ^ n.val - 1 : Nat) : Int) k.val = (if k.val < n.val then 1 else 0) ∧ bc ((2 ^ n.val - 1 : Nat) : Int) 8 = (n.val : Int) := by decide +kernel
section CLR
theorem nsF_s (net : Nat → Int) (p m : Nat) : nsF net p (m + 1) = if bt1 (p : Int) m = 1 then w32 (nsF net p m + net m) else nsF net p m := rfl
variable {X l : Nat} {σ T : am_Sg} {F : LF}
theorem nsF_hi {net : Nat → Int} {p hi n : Nat} (hp : p < 256) (hh : hi < 8) (hn : n ≤ 8) (hb : bt1 (p : Int) hi = 1) (h1 : hi < n) (ht : ∀ m, hi < m → m < n → bt1 (p : Int) m = 0) : nsF net p n = w32 (nsF net (p - 2 ^ hi) n + net hi) := by
  have low : ∀ m, m ≤ hi → nsF net (p - 2 ^ hi) m = nsF net p m := by
    intro m
    induction m with
    | zero => intro _; rfl
    | succ m ih =>
      intro hm
      unfold nsF
      rw [bt_sub hp hh (by omega) hb, if_neg (show ¬ m = hi by omega), ih (by omega)]
  have up1 : ∀ k, hi + 1 + k ≤ n → nsF net p (hi + 1 + k) = w32 (nsF net p hi + net hi) := by
    intro k
    induction k with
    | zero =>
      intro _
      show (if bt1 (p : Int) hi = 1 then _ else _) = _
      rw [if_pos hb]
    | succ k ih =>
      intro hk
      rw [show hi + 1 + (k + 1) = (hi + 1 + k) + 1 by omega, nsF_s, if_neg (by rw [ht _ (by omega) (by omega)]; omega), ih (by omega)]
  have up2 : ∀ k, hi + k ≤ n → nsF net (p - 2 ^ hi) (hi + k) = nsF net p hi := by
    intro k
    induction k with
    | zero => intro _; exact low hi (Nat.le_refl _)
    | succ k ih =>
      intro hk
      have : bt1 ((p - 2 ^ hi : Nat) : Int) (hi + k) = 0 := by
        rw [bt_sub hp hh (by omega) hb]
        by_cases z : hi + k = hi
        · rw [if_pos z]
        · rw [if_neg z]
          exact ht _ (by omega) (by omega)
      rw [show hi + (k + 1) = (hi + k) + 1 by omega, nsF_s, if_neg (by omega), ih (by omega)]
  have a1 := up1 (n - (hi + 1)) (by omega)
  have a2 := up2 (n - hi) (by omega)
  rw [show hi + 1 + (n - (hi + 1)) = n by omega] at a1
  rw [show hi + (n - hi) = n by omega] at a2
  rw [a1, a2]
/-- the class's table -/
theorem c_quits (H : TOk T) (hT : tl σ = T) : ∃ σ', vcI X 157 [vP 63] σ = some (gG (T 20) (nM T) (2 ^ nM T - 1), σ') ∧ Fr [68, 69] [] σ σ' := by
  have h8 := H.m8
  have p8 := pow8 h8
  generalize hn : nM T = n at *
  -- one set
  have one : ∀ (p : Nat) (st : am_Sg), 0 < p → p < 2 ^ n → tl st = T → (∀ j, j < p → st 68 j = nsF (T 20) j n ∧ st 69 j = gG (T 20) n j) → ∃ st', vv X 157 28 [some (vP 63), some (vI ((2 ^ n - 1 : Nat) : Int)), some (vI (p : Int)), none, none, none] [] st = vv X 157 28 [some (vP 63), some (vI ((2 ^ n - 1 : Nat) : Int)), some (vI ((p + 1 : Nat) : Int)), none, none, none] [] st' ∧ Fr [68, 69] [] st st' ∧ ∀ j, j < p + 1 → st' 68 j = nsF (T 20) j n ∧ st' 69 j = gG (T 20) n j := by
    intro p st hp0 hp hTs htab
    have hp256 : p < 256 := by omega
    obtain ⟨y, e, f1, hy, hns⟩ := lp (fun m (y : Int × am_Sg) => vv X 157 38 [some (vP 63), some (vI ((2 ^ n - 1 : Nat) : Int)), some (vI (p : Int)), some (vI y.1), some (vI (m : Int)), none] [] y.2) n (fun m y => (Fr [68] [] st y.2 ∧ ∀ j, ¬ j = p → y.2 68 j = st 68 j) ∧ y.1 = mxM (gG (T 20) n) p m ∧ (∀ hi, hi < m → bt1 (p : Int) hi = 1 → (∀ k, hi < k → k < m → bt1 (p : Int) k = 0) → y.2 68 p = w32 (nsF (T 20) (p - 2 ^ hi) n + T 20 hi))) (fun m y hm hh => by
      obtain ⟨⟨fs, keep⟩, hy, hns⟩ := hh
      obtain ⟨y1, s1⟩ := y
      dsimp only at fs keep hy hns
      have hTs1 : tl s1 = T := (tl_fr fs rfl).trans hTs
      show ∃ y' : Int × am_Sg, vv X 157 38 [some (vP 63), some (vI ((2 ^ n - 1 : Nat) : Int)), some (vI (p : Int)), some (vI y1), some (vI (m : Int)), none] [] s1 = vv X 157 38 [some (vP 63), some (vI ((2 ^ n - 1 : Nat) : Int)), some (vI (p : Int)), some (vI y'.1), some (vI ((m + 1 : Nat) : Int)), none] [] y'.2 ∧ _
      rw [bq_157_38, g_men, bsome]
      dsimp +instances only
      rw [tl_at hTs1 (k := 8) (by omega), H.m0, hn, if_neg (by omega), wo hp256 (by omega)]
      rcases bt01 hp256 (show m < 8 by omega) with z | z
      · rw [if_neg (show ¬ bt1 (p : Int) m = 1 by omega), if_pos rfl, bq_157_102, w32_s1 (by omega)]
        refine ⟨(y1, s1), rfl, ⟨fs, keep⟩, ?_, fun hi a1 a2 a3 => ?_⟩
        · show y1 = _
          unfold mxM
          rw [if_neg (by omega)]
          exact hy
        · have : ¬ hi = m := fun q => by rw [q] at a2; omega
          exact hns hi (by omega) a2 (fun k b1 b2 => a3 k b1 (by omega))
      · have w2 := wo2 hp256 (show m < 8 by omega) z
        have m2 : 0 < 2 ^ m := Nat.pow_pos (by omega)
        rw [if_pos z, if_neg (by omega), if_pos (by omega), if_pos (by omega), if_pos (by omega), tn_nat, tn_nat, tn_nat, bq_157_102, w32_s1 (by omega)]
        have t1 := htab (p - 2 ^ m) (by omega)
        have k69 : s1 69 (p - 2 ^ m) = gG (T 20) n (p - 2 ^ m) := by rw [fs.get 69 (by decide) rfl]; exact t1.2
        have k68 : s1 68 (p - 2 ^ m) = nsF (T 20) (p - 2 ^ m) n := by rw [keep _ (by omega)]; exact t1.1
        rw [k69, k68, tl_at hTs1 (k := 20) (by omega)]
        refine ⟨(_, _), rfl, ⟨fs.upd rfl (by decide), fun j hj => ?_⟩, ?_, fun hi a1 a2 a3 => ?_⟩
        · show am_upd s1 68 p _ 68 j = _
          rw [ua, if_pos rfl, if_neg hj]
          exact keep j hj
        · show (if y1 < _ then _ else y1) = _
          unfold mxM mx
          rw [if_pos z, hy]
        · have : hi = m := by
            by_cases q : hi = m
            · exact q
            · exact absurd (a3 m (by omega) (by omega)) (by omega)
          subst this
          show am_upd s1 68 p _ 68 p = _
          rw [ua, if_pos rfl, if_pos rfl]) n 0 (0, st) (by omega) ⟨⟨Fr.rf, fun _ _ => rfl⟩, rfl, fun hi h => absurd h (Nat.not_lt_zero hi)⟩
    obtain ⟨y1, s1⟩ := y
    dsimp only at e f1 hy hns
    have hTs1 : tl s1 = T := (tl_fr f1.1 rfl).trans hTs
    -- the highest man
    have hi1 : ∃ hi, hi < n ∧ bt1 (p : Int) hi = 1 ∧ ∀ k, hi < k → k < n → bt1 (p : Int) k = 0 := by
      have bz : ∀ k, n ≤ k → k < 8 → bt1 (p : Int) k = 0 := by
        intro k h1 h2
        rcases bt01 hp256 h2 with u | u
        · exact u
        · have := (wo2 hp256 h2 u).1
          have := Nat.pow_le_pow_right (show 0 < 2 by omega) h1
          omega
      have ex : ∀ m, m ≤ n → (∃ hi, hi < m ∧ bt1 (p : Int) hi = 1 ∧ ∀ k, hi < k → k < m → bt1 (p : Int) k = 0) ∨ ∀ k, k < m → bt1 (p : Int) k = 0 := by
        intro m
        induction m with
        | zero => intro _; exact Or.inr (fun k hk => absurd hk (Nat.not_lt_zero k))
        | succ m ih =>
          intro hm
          rcases bt01 hp256 (show m < 8 by omega) with u | u
          · rcases ih (by omega) with ⟨hi, a, b, c⟩ | q
            · refine Or.inl ⟨hi, by omega, b, fun k k1 k2 => ?_⟩
              by_cases v : k = m
              · rw [v]; exact u
              · exact c k k1 (by omega)
            · refine Or.inr (fun k hk => ?_)
              by_cases v : k = m
              · rw [v]; exact u
              · exact q k (by omega)
          · exact Or.inl ⟨m, by omega, u, fun k k1 k2 => by omega⟩
      rcases ex n (Nat.le_refl _) with q | q
      · exact q
      · exfalso
        have : p = 0 := by_bits hp256 (show 0 < 256 by omega) (fun k hk => by
          have b0 : ∀ k : Fin 8, bt1 ((0 : Nat) : Int) k.val = 0 := by decide +kernel
          have b1 := b0 ⟨k, hk⟩
          dsimp only at b1
          rw [b1]
          by_cases v : k < n
          · exact q k v
          · exact bz k (by omega) hk)
        omega
    obtain ⟨hi, a1, a2, a3⟩ := hi1
    have ens : s1 68 p = nsF (T 20) p n := by rw [hns hi a1 a2 a3, nsF_hi hp256 (by omega) h8 a2 a1 a3]
    have fin : vv X 157 28 [some (vP 63), some (vI ((2 ^ n - 1 : Nat) : Int)), some (vI (p : Int)), none, none, none] [] st = vv X 157 28 [some (vP 63), some (vI ((2 ^ n - 1 : Nat) : Int)), some (vI ((p + 1 : Nat) : Int)), none, none, none] [] (am_upd s1 69 p (gG (T 20) n p)) := by
      have gb : gG (T 20) n p = if nsF (T 20) p n = 0 then mxM (gG (T 20) n) p n + 1 else mxM (gG (T 20) n) p n := gG_rec h8 hp256 (by omega)
      have mb : mxM (gG (T 20) n) p n ≤ 300 := gG_b h8 hp256 n h8
      have m0 := mxM_nn (gG (T 20) n) p n
      rw [bq_157_28, if_neg (by omega)]
      refine Eq.trans e ?_
      show vv X 157 38 [some (vP 63), some (vI ((2 ^ n - 1 : Nat) : Int)), some (vI (p : Int)), some (vI y1), some (vI (n : Int)), none] [] s1 = _
      rw [bq_157_38, g_men, bsome]
      dsimp +instances only
      rw [tl_at hTs1 (k := 8) (by omega), H.m0, hn, if_pos (Int.le_refl _), if_pos (by omega), tn_nat, ens]
      by_cases u : nsF (T 20) p n = 0
      · rw [if_neg (fun q => q u), bq_157_129, if_pos (by omega), tn_nat, w32_s1 (by omega), hy, w32_id (by omega) (by omega), gb, if_pos u]
      · rw [if_pos u, bq_157_129, if_pos (by omega), tn_nat, w32_s1 (by omega), hy, gb, if_neg u]
    refine ⟨_, fin, (f1.1.mono rfl rfl).upd rfl (by decide), fun j hj => ?_⟩
    rw [un _ (by decide), ue, upa]
    by_cases u : j = p
    · rw [if_pos u, u]
      exact ⟨ens, rfl⟩
    · rw [if_neg u, f1.2 j u, f1.1.get 69 (by decide) rfl]
      exact htab j (by omega)
  obtain ⟨s2, e2, f2, -, h2⟩ := lp (fun q (st : am_Sg) => vv X 157 28 [some (vP 63), some (vI ((2 ^ n - 1 : Nat) : Int)), some (vI ((1 + q : Nat) : Int)), none, none, none] [] st) (2 ^ n - 1) (fun q st => Fr [68, 69] [] σ st ∧ True ∧ ∀ j, j < 1 + q → st 68 j = nsF (T 20) j n ∧ st 69 j = gG (T 20) n j) (fun q st hq hh => by
    obtain ⟨fs, -, ht⟩ := hh
    obtain ⟨st', e, f, t⟩ := one (1 + q) st (by omega) (by omega) ((tl_fr fs rfl).trans hT) ht
    exact ⟨st', e, fs.tr f, trivial, t⟩) (2 ^ n - 1) 0 (am_upd (am_upd σ 68 0 0) 69 0 0) (by omega) ⟨(Fr.rf.upd rfl (by decide)).upd rfl (by decide), trivial, fun j hj => by
      have : j = 0 := by omega
      subst this
      have ns0 : ∀ m, m ≤ 8 → nsF (T 20) 0 m = 0 := by
        intro m
        induction m with
        | zero => intro _; rfl
        | succ m ih =>
          intro hm
          unfold nsF
          have b0 : ∀ k : Fin 8, bt1 ((0 : Nat) : Int) k.val = 0 := by decide +kernel
          have b1 := b0 ⟨m, by omega⟩
          dsimp only at b1
          rw [if_neg (by omega), ih (by omega)]
      rw [ns0 n h8]
      exact ⟨by simp [ua], by simp [ua, gG_0]⟩⟩
  refine ⟨s2, vI_of ((bq_157_0 X σ).trans ?_) rfl, f2⟩
  rw [g_men, bsome]
  dsimp +instances only
  rw [tl_at hT (k := 8) (by omega), H.m0, hn, shl1 (by omega), show w32 (((2 ^ n : Nat) : Int) - 1) = ((2 ^ n - 1 : Nat) : Int) from by rw [w32_id (by omega) (by omega)]; omega, bq_157_26]
  refine Eq.trans e2 ?_
  show vv X 157 28 [some (vP 63), some (vI ((2 ^ n - 1 : Nat) : Int)), some (vI ((1 + (2 ^ n - 1) : Nat) : Int)), none, none, none] [] s2 = _
  rw [bq_157_28, if_pos (by omega), if_pos (by omega), tn_nat, (h2 _ (by omega)).2]
end CLR
