/-! CALLS: best -/
theorem bt1_or (x y : Int) (k : Nat) : bt1 (am_or x y) k = am_or (bt1 x k) (bt1 y k) := by
  unfold bt1 am_and am_shr am_or
  simp only [Int32.ofInt_toInt]
  rw [Int32.shiftRight_or, i32_or_and]
theorem bt1_shl_f : ∀ m : Fin 8, ∀ k : Fin 8, bt1 (am_shl 1 (m.val : Int)) k.val = if k.val = m.val then 1 else 0 := by decide +kernel
theorem bt1_up {p m k : Nat} (hm : m < 8) (hk : k < 8) (h : bt1 (p : Int) k = 0 ∨ bt1 (p : Int) k = 1) : bt1 (am_or (p : Int) (am_shl 1 (m : Int))) k = if k = m then 1 else bt1 (p : Int) k := by
  have e := bt1_shl_f ⟨m, hm⟩ ⟨k, hk⟩
  dsimp only at e
  rw [bt1_or, e]
  by_cases z : k = m
  · rw [if_pos z, if_pos z]
    rcases h with q | q <;> rw [q] <;> decide +kernel
  · rw [if_neg z, if_neg z]
    rcases h with q | q <;> rw [q] <;> decide +kernel
theorem why_iff {T : am_Sg} {sc b : Nat → Int} {m : Nat} {ask : Prop} : whyS T sc m b ask = 0 ↔ (¬ 0 < sc (8 + m) ∧ ¬ (0 < numS b ∧ fasting T sc m) ∧ ¬ hatesS T m b ∧ (ask → storesS T sc b) ∧ bulkS T b ≤ T 13 m - sc m) := by
  refine ⟨why0, fun ⟨h1, h2, h3, h4, h5⟩ => ?_⟩
  unfold whyS
  rw [if_neg h1, if_neg h2, if_neg h3, if_neg (fun q => q.2 (h4 q.1)), if_neg (by omega)]
/-- the law of number N -/
def lwB (n N : Nat) : Nat → Int := fun d => if d < n then ((N / 7 ^ (n - 1 - d) % 7 : Nat) : Int) else 0
theorem lwB_ok {T : am_Sg} (N : Nat) : BOk T (lwB (nD T) N) 6 := by
  refine ⟨fun d hd => ?_, fun d h1 h2 => if_neg (by omega)⟩
  unfold lwB
  split
  · have := Nat.mod_lt (N / 7 ^ (nD T - 1 - d)) (show 7 > 0 by omega)
    omega
  · omega
theorem lwB_0 (n : Nat) : lwB n 0 = fun _ => 0 := by
  funext d
  unfold lwB
  split
  · simp
  · rfl
/-- some bite is laid, if the number isn't 0 -/
theorem dg0 {N : Nat} (h0 : N % 7 = 0) (h1 : N / 7 % 7 = 0) (h2 : N / 49 % 7 = 0) (h3 : N / 343 % 7 = 0) (h : N < 2401) : N = 0 := by
  have a1 : N / 7 / 7 = N / 49 := by rw [Nat.div_div_eq_div_mul]
  have a2 : N / 49 / 7 = N / 343 := by rw [Nat.div_div_eq_div_mul]
  generalize N / 343 = d at *
  generalize N / 49 = c at *
  generalize hb : N / 7 = b at *
  omega
theorem lwB_pos {n N : Nat} (hn : n ≤ 4) (h1 : 0 < N) (h2 : N < 7 ^ n) : 0 < numS (lwB n N) := by
  rcases Int.lt_or_le 0 (numS (lwB n N)) with z | z
  · exact z
  exfalso
  have p7 : 7 ^ n ≤ 2401 := by
    rcases (show n = 0 ∨ n = 1 ∨ n = 2 ∨ n = 3 ∨ n = 4 by omega) with e | e | e | e | e <;> subst e <;> decide
  have k := dg0 (N := N)
  rcases (show n = 0 ∨ n = 1 ∨ n = 2 ∨ n = 3 ∨ n = 4 by omega) with e | e | e | e | e
  · subst e
    simp at h2
    omega
  · subst e
    simp [numS, lwB] at h2 z
    omega
  · subst e
    simp [numS, lwB] at h2 z
    have := k (by omega) (by omega) (by omega) (by omega) (by omega)
    omega
  · subst e
    simp [numS, lwB] at h2 z
    have := k (by omega) (by omega) (by omega) (by omega) (by omega)
    omega
  · subst e
    have z' : ((N / 343 % 7 : Nat) : Int) + ((N / 49 % 7 : Nat) : Int) + ((N / 7 % 7 : Nat) : Int) + ((N / 1 % 7 : Nat) : Int) ≤ 0 := z
    rw [Nat.div_one] at z'
    generalize N / 343 % 7 = x3 at z' k
    generalize N / 49 % 7 = x2 at z' k
    generalize N / 7 % 7 = x1 at z' k
    generalize N % 7 = x0 at z' k
    have := k (by omega) (by omega) (by omega) (by omega) (by omega)
    omega
/-- he swallows it, as far as he goes -/
def elS (T : am_Sg) (sc : Nat → Int) (s : Nat) (b : Nat → Int) (m : Nat) : Prop := bt1 (s : Int) m = 1 ∧ ¬ 0 < sc (8 + m) ∧ ¬ fasting T sc m ∧ ¬ hatesS T m b ∧ bulkS T b ≤ T 13 m - sc m
noncomputable def whoN (T : am_Sg) (sc : Nat → Int) (s : Nat) (b : Nat → Int) : Nat → Nat
  | 0 => 0
  | i + 1 => @ite _ (elS T sc s b i) (Classical.propDecidable _) (whoN T sc s b i + 1) (whoN T sc s b i)
theorem whoN_le {T : am_Sg} {sc b : Nat → Int} {s : Nat} : ∀ i, whoN T sc s b i ≤ i
  | 0 => Nat.le_refl _
  | i + 1 => by
    have := whoN_le (T := T) (sc := sc) (s := s) (b := b) i
    unfold whoN
    split <;> omega
/-- for how many the stores have enough, 8 at most -/
noncomputable def svN (sc b : Nat → Int) : Nat → Nat
  | 0 => 8
  | d + 1 => if b d ≤ 0 then svN sc b d else (if (sc (32 + d)).toNat / (b d).toNat < svN sc b d then (sc (32 + d)).toNat / (b d).toNat else svN sc b d)
theorem svN_s (sc b : Nat → Int) (d : Nat) : svN sc b (d + 1) = if b d ≤ 0 then svN sc b d else (if (sc (32 + d)).toNat / (b d).toNat < svN sc b d then (sc (32 + d)).toNat / (b d).toNat else svN sc b d) := rfl
theorem svN_le {sc b : Nat → Int} : ∀ n, svN sc b n ≤ 8
  | 0 => Nat.le_refl _
  | n + 1 => by
    have := svN_le (sc := sc) (b := b) n
    unfold svN
    split
    · exact this
    · split <;> omega
theorem svN_iff {sc b : Nat → Int} {c : Nat} (hc : c ≤ 8) : ∀ n, (∀ d, d < n → 0 ≤ b d ∧ 0 ≤ sc (32 + d)) → (c ≤ svN sc b n ↔ ∀ d, d < n → (c : Int) * b d ≤ sc (32 + d))
  | 0, _ => ⟨fun _ d hd => absurd hd (Nat.not_lt_zero d), fun _ => hc⟩
  | n + 1, h => by
    have ih := svN_iff (sc := sc) (b := b) hc n (fun d hd => h d (by omega))
    have hn := h n (by omega)
    have st : (∀ d, d < n + 1 → (c : Int) * b d ≤ sc (32 + d)) ↔ (∀ d, d < n → (c : Int) * b d ≤ sc (32 + d)) ∧ (c : Int) * b n ≤ sc (32 + n) := by
      refine ⟨fun q => ⟨fun d hd => q d (by omega), q n (by omega)⟩, fun q d hd => ?_⟩
      by_cases z : d = n
      · rw [z]; exact q.2
      · exact q.1 d (by omega)
    rw [st, ← ih, svN_s]
    by_cases z : b n ≤ 0
    · have z0 : b n = 0 := by omega
      rw [if_pos z, z0]
      constructor
      · intro q
        exact ⟨q, by omega⟩
      · intro q
        exact q.1
    · rw [if_neg z]
      have dv : c ≤ (sc (32 + n)).toNat / (b n).toNat ↔ (c : Int) * b n ≤ sc (32 + n) := by
        rw [Nat.le_div_iff_mul_le (by omega)]
        obtain ⟨x, hx⟩ : ∃ x : Nat, sc (32 + n) = (x : Int) := ⟨(sc (32 + n)).toNat, by omega⟩
        obtain ⟨y, hy⟩ : ∃ y : Nat, b n = (y : Int) := ⟨(b n).toNat, by omega⟩
        rw [hx, hy, tn_nat, tn_nat, ← Int.natCast_mul]
        omega
      rw [← dv]
      generalize (sc (32 + n)).toNat / (b n).toNat = q
      split <;> omega
noncomputable def mnN (a b : Nat) : Nat := if a < b then a else b
/-- what the law of number N gains -/
noncomputable def gnS (T : am_Sg) (sc : Nat → Int) (s N : Nat) : Int := ((mnN (svN sc (lwB (nD T) N) (nD T)) (whoN T sc s (lwB (nD T) N) (nM T)) : Nat) : Int) * gainS T (lwB (nD T) N)
noncomputable def bsF (T : am_Sg) (sc : Nat → Int) (s : Nat) : Nat → Nat → Int → (Nat → Int) → Int × (Nat → Int)
  | 0, _, bg, bb => (bg, bb)
  | n + 1, N, bg, bb => if bg < gnS T sc s N then bsF T sc s n (N + 1) (gnS T sc s N) (lwB (nD T) N) else bsF T sc s n (N + 1) bg bb
theorem gnS_bd {T : am_Sg} (H : TOk T) (sc : Nat → Int) (s N : Nat) : 0 ≤ gnS T sc s N ∧ gnS T sc s N ≤ 100000 := by
  have g := gain_bd H ((lwB_ok (T := T) N).mono (show (6 : Int) ≤ 12 by omega)) (by omega)
  have s8 := svN_le (sc := sc) (b := lwB (nD T) N) (nD T)
  have m8 : mnN (svN sc (lwB (nD T) N) (nD T)) (whoN T sc s (lwB (nD T) N) (nM T)) ≤ 8 := by
    unfold mnN
    split <;> omega
  have := mul_bd (a := ((mnN (svN sc (lwB (nD T) N) (nD T)) (whoN T sc s (lwB (nD T) N) (nM T)) : Nat) : Int)) (A := 8) (b := gainS T (lwB (nD T) N)) (B := 4752) (by omega) (by omega) g.1 g.2
  unfold gnS
  omega
section BST
variable {X l s : Nat} {σ T : am_Sg} {F : LF} {sc : Nat → Int}
theorem pw7 {n : Nat} (hn : n ≤ 4) : 1 ≤ 7 ^ n ∧ 7 ^ n ≤ 2401 := by
  rcases (show n = 0 ∨ n = 1 ∨ n = 2 ∨ n = 3 ∨ n = 4 by omega) with e | e | e | e | e <;> subst e <;> decide
/-- the class lays the law of number N -/
theorem c_layN7 (H : TOk T) (hT : tl σ = T) {N : Nat} (hN : N < 2401) : ∃ σ', vcV X 219 [vP 73, vI (N : Int)] σ = some σ' ∧ Fr [53, 54] [] σ σ' ∧ PL T σ' 53 (lwB (nD T) N) := by
  have h4 := H.d4
  obtain ⟨σ1, e1, f1, p1⟩ := c_clear53 (X := X) (T := T) (σ := σ)
  have hT1 : tl σ1 = T := (tl_fr f1 rfl).trans hT
  have L : ∀ (d j : Nat) (st : am_Sg), d + j = nD T → tl st = T → Fr [53, 54] [] σ st → PL T st 53 (fun e => if d ≤ e then lwB (nD T) N e else 0) → ∃ σ', vv X 219 19 [some (vP 73), none, some (vI ((N / 7 ^ j : Nat) : Int)), some (vI ((d : Int) - 1))] [] st = some (none, σ') ∧ Fr [53, 54] [] σ σ' ∧ PL T σ' 53 (lwB (nD T) N) := by
    intro d
    induction d with
    | zero =>
      intro j st e hTs fs ps
      refine ⟨st, ?_, fs, ?_⟩
      · rw [bq_219_19, if_pos (by omega)]
      · have : (fun e => if 0 ≤ e then lwB (nD T) N e else 0) = lwB (nD T) N := by
          funext e
          rw [if_pos (Nat.zero_le _)]
        rw [this] at ps
        exact ps
    | succ d ih =>
      intro j st e hTs fs ps
      have nlt : N / 7 ^ j < 2147483648 := by
        have := Nat.div_le_self N (7 ^ j)
        omega
      have rm : am_rem ((N / 7 ^ j : Nat) : Int) 7 = ((N / 7 ^ j % 7 : Nat) : Int) := am_rem_nat (b := 7) nlt
      have dv : am_div ((N / 7 ^ j : Nat) : Int) 7 = ((N / 7 ^ j / 7 : Nat) : Int) := am_div_nat (b := 7) nlt
      have dd : N / 7 ^ j / 7 = N / 7 ^ (j + 1) := by rw [Nat.div_div_eq_div_mul, Nat.pow_succ]
      have lw : lwB (nD T) N d = ((N / 7 ^ j % 7 : Nat) : Int) := by
        unfold lwB
        rw [if_pos (by omega), show nD T - 1 - d = j by omega]
      have x6 : ((N / 7 ^ j % 7 : Nat) : Int) ≤ 6 := by
        have := Nat.mod_lt (N / 7 ^ j) (show 7 > 0 by omega)
        omega
      have bok : BOk T (fun e => if d + 1 ≤ e then lwB (nD T) N e else 0) 6 := by
        have k := lwB_ok (T := T) N
        refine ⟨fun c hc => ?_, fun c h1 h2 => ?_⟩
        · show 0 ≤ (if d + 1 ≤ c then _ else (0:Int)) ∧ (if d + 1 ≤ c then _ else (0:Int)) ≤ 6
          split
          · exact k.1 c hc
          · omega
        · show (if d + 1 ≤ c then _ else (0:Int)) = 0
          split
          · exact k.2 c h1 h2
          · rfl
      obtain ⟨st1, e1, f1, p1⟩ := c_add53 (X := X) (x := ((N / 7 ^ j % 7 : Nat) : Int)) (d := d) H hTs ps bok x6 (by omega) (Or.inl (by omega))
      have hp : PL T st1 53 (fun e => if d ≤ e then lwB (nD T) N e else 0) := by
        have : (fun e => if d ≤ e then lwB (nD T) N e else 0) = (if ((N / 7 ^ j % 7 : Nat) : Int) ≤ 0 then (fun e => if d + 1 ≤ e then lwB (nD T) N e else 0) else up (fun e => if d + 1 ≤ e then lwB (nD T) N e else 0) d ((fun e => if d + 1 ≤ e then lwB (nD T) N e else 0) d + ((N / 7 ^ j % 7 : Nat) : Int))) := by
          rw [← lw]
          have k := (lwB_ok (T := T) N).1 d (by omega)
          funext c
          by_cases z : lwB (nD T) N d ≤ 0
          · rw [if_pos z]
            by_cases y : c = d
            · subst y
              rw [if_pos (Nat.le_refl _), if_neg (by omega)]
              omega
            · by_cases u : d ≤ c
              · rw [if_pos u, if_pos (by omega)]
              · rw [if_neg u, if_neg (by omega)]
          · rw [if_neg z, upa]
            by_cases y : c = d
            · subst y
              rw [if_pos (Nat.le_refl _), if_pos rfl]
              dsimp only
              rw [if_neg (by omega), Int.zero_add]
            · rw [if_neg y]
              by_cases u : d ≤ c
              · rw [if_pos u, if_pos (by omega)]
              · rw [if_neg u, if_neg (by omega)]
        rw [this]
        exact p1
      obtain ⟨st2, e2, f2, p2⟩ := ih (j + 1) st1 (by omega) ((tl_fr f1 rfl).trans hTs) (fs.tr f1) hp
      refine ⟨st2, ?_, f2, p2⟩
      rw [bq_219_19, if_neg (by omega), rm, dv, dd, show ((d + 1 : Nat) : Int) - 1 = (d : Int) by omega, e1, bsome, show w32 ((d : Int) + -1) = (d : Int) - 1 from by unfold w32; omega]
      exact e2
  obtain ⟨σ2, e2, f2, p2⟩ := L (nD T) 0 σ1 (by omega) hT1 f1 (by
    have : (fun e => if nD T ≤ e then lwB (nD T) N e else 0) = fun _ => 0 := by
      funext e
      unfold lwB
      split
      · rw [if_neg (by omega)]
      · rfl
    rw [this]
    exact p1)
  refine ⟨σ2, vV_of ((bq_219_0 X _ σ).trans ?_) rfl, f2, p2⟩
  rw [e1, bsome, g_dishes, bsome]
  dsimp +instances only
  rw [tl_at hT1 (k := 8) (by omega), H.d0, w32_id (by omega) (by omega)]
  have e3 : N / 7 ^ 0 = N := by simp
  rw [e3] at e2
  exact e2
/-- the class's eaters -/
theorem c_eaters (H : TOk T) (hT : tl σ = T) (hs : rs (σ 50) = sc) (S : ScOk T sc) (hs2 : s < 256) : ∃ e : Nat, e < 256 ∧ vcI X 218 [vP 73, vP 49, vI (s : Int)] σ = some ((e : Int), σ) ∧ ∀ m, m < nM T → (bt1 (e : Int) m = 1 ↔ bt1 (s : Int) m = 1 ∧ ¬ 0 < sc (8 + m) ∧ ¬ fasting T sc m) := by
  have h8 := H.m8
  have s44 := S.2.2.1
  have e44 : σ 50 44 = sc 44 := by rw [← hs, rs_in (by omega)]
  obtain ⟨e, ee, he, hb, hz⟩ := lp (fun i (e : Nat) => vv X 218 5 [some (vP 73), some (vP 49), some (vI (s : Int)), some (vI (e : Int)), some (vI (i : Int)), none] [] σ) (nM T) (fun i e => e < 256 ∧ (∀ m, m < i → (bt1 (e : Int) m = 1 ↔ bt1 (s : Int) m = 1 ∧ ¬ 0 < sc (8 + m) ∧ ¬ fasting T sc m)) ∧ ∀ m, i ≤ m → m < 8 → bt1 (e : Int) m = 0) (fun i e hi hh => by
    obtain ⟨h1, h2, h3⟩ := hh
    have e8 : σ 50 (8 + i) = sc (8 + i) := by rw [← hs, rs_in (by omega)]
    have sk := S.1 i hi
    have nx : ∀ k, ¬ (bt1 (s : Int) i = 1 ∧ ¬ 0 < sc (8 + i) ∧ ¬ fasting T sc i) → k < i + 1 → (bt1 (e : Int) k = 1 ↔ bt1 (s : Int) k = 1 ∧ ¬ 0 < sc (8 + k) ∧ ¬ fasting T sc k) := fun k hn hk => by
      by_cases z : k = i
      · subst z
        have := h3 k (Nat.le_refl _) (by omega)
        exact ⟨fun q => by omega, fun q => absurd q hn⟩
      · exact h2 k (by omega)
    have no : ¬ (bt1 (s : Int) i = 1 ∧ ¬ 0 < sc (8 + i) ∧ ¬ fasting T sc i) → ∃ e' : Nat, vv X 218 67 [some (vP 73), some (vP 49), some (vI (s : Int)), some (vI (e : Int)), some (vI (i : Int)), none] [] σ = vv X 218 5 [some (vP 73), some (vP 49), some (vI (s : Int)), some (vI (e' : Int)), some (vI ((i + 1 : Nat) : Int)), none] [] σ ∧ e' < 256 ∧ (∀ m, m < i + 1 → (bt1 (e' : Int) m = 1 ↔ bt1 (s : Int) m = 1 ∧ ¬ 0 < sc (8 + m) ∧ ¬ fasting T sc m)) ∧ ∀ m, i + 1 ≤ m → m < 8 → bt1 (e' : Int) m = 0 := fun hn => ⟨e, by rw [bq_218_67, w32_s1 (by omega)], h1, fun k hk => nx k hn hk, fun k a b => h3 k (by omega) b⟩
    show ∃ e' : Nat, vv X 218 5 [some (vP 73), some (vP 49), some (vI (s : Int)), some (vI (e : Int)), some (vI (i : Int)), none] [] σ = vv X 218 5 [some (vP 73), some (vP 49), some (vI (s : Int)), some (vI (e' : Int)), some (vI ((i + 1 : Nat) : Int)), none] [] σ ∧ _
    rw [bq_218_5, g_men, bsome]
    dsimp +instances only
    rw [tl_at hT (k := 8) (by omega), H.m0, if_neg (by omega), g_sickA (by omega), bsome]
    dsimp +instances only
    rw [e8]
    by_cases z1 : sc (8 + i) = 0
    · rw [if_neg (fun q => q z1), c_fast_49 H hT hi (by omega), bsome]
      dsimp +instances only
      rw [e44]
      by_cases z2 : bt1 (T 18 i) (sc 44).toNat = 0
      · rw [if_pos z2, if_neg (by decide), bq_218_44, if_neg i10, show am_and (am_shr (s : Int) (i : Int)) 1 = bt1 (s : Int) i from rfl]
        rcases bt01 hs2 (show i < 8 by omega) with z3 | z3
        · rw [if_pos z3]
          exact no (fun q => by omega)
        · rw [if_neg (by omega)]
          have o := orp0 h1 (show i < 8 by omega) (h3 i (Nat.le_refl _) (by omega))
          have bu := fun k hk => bt1_up (p := e) (m := i) (k := k) (by omega) hk (bt01 h1 hk)
          rw [o.1] at bu ⊢
          refine ⟨e + 2 ^ i, by rw [bq_218_67, w32_s1 (by omega)], o.2.1, fun k hk => ?_, fun k a b => ?_⟩
          · rw [bu k (by omega)]
            by_cases y : k = i
            · subst y
              rw [if_pos rfl]
              exact ⟨fun _ => ⟨z3, by omega, fun q => q z2⟩, fun _ => rfl⟩
            · rw [if_neg y]
              exact h2 k (by omega)
          · rw [bu k b, if_neg (by omega)]
            exact h3 k (by omega) b
      · rw [if_neg z2, if_pos (by decide), bq_218_43, bq_218_44, if_pos rfl]
        exact no (fun q => q.2.2 z2)
    · rw [if_pos z1, bq_218_43, bq_218_44, if_pos rfl]
      exact no (fun q => by omega)) (nM T) 0 0 (by omega) ⟨by omega, fun m hm => absurd hm (Nat.not_lt_zero m), fun m _ hm => by
        have : ∀ k : Fin 8, bt1 ((0 : Nat) : Int) k.val = 0 := by decide +kernel
        exact this ⟨m, hm⟩⟩
  refine ⟨e, he, vI_of ((bq_218_0 X _ σ).trans (Eq.trans ee ?_)) rfl, hb⟩
  show vv X 218 5 [some (vP 73), some (vP 49), some (vI (s : Int)), some (vI (e : Int)), some (vI (nM T : Int)), none] [] σ = _
  rw [bq_218_5, g_men, bsome]
  dsimp +instances only
  rw [tl_at hT (k := 8) (by omega), H.m0, if_pos (Int.le_refl _)]
theorem c_served (H : TOk T) (hT : tl σ = T) (hs : rs (σ 50) = sc) (S : ScOk T sc) {b : Nat → Int} (hp : PL T σ 53 b) (hb : BOk T b 6) : vcI X 220 [vP 73, vP 49] σ = some ((svN sc b (nD T) : Int), σ) := by
  have h4 := H.d4
  obtain ⟨v, e, hv⟩ := lp (fun i (v : Nat) => vv X 220 5 [some (vP 73), some (vP 49), some (vI (v : Int)), some (vI (i : Int))] [] σ) (nD T) (fun i v => v = svN sc b i) (fun i v hi hh => by
    refine ⟨svN sc b (i + 1), ?_, rfl⟩
    show vv X 220 5 [some (vP 73), some (vP 49), some (vI (v : Int)), some (vI (i : Int))] [] σ = vv X 220 5 [some (vP 73), some (vP 49), some (vI (svN sc b (i + 1) : Int)), some (vI ((i + 1 : Nat) : Int))] [] σ
    have st := S.2.1 i (by omega)
    have bi := hb.1 i (by omega)
    have e32 : σ 50 (32 + i) = sc (32 + i) := by rw [← hs, rs_in (by omega)]
    rw [bq_220_5, g_dishes, bsome]
    dsimp +instances only
    rw [tl_at hT (k := 8) (by omega), H.d0, if_neg (by omega), if_pos (by omega), tn_nat, show σ 54 i = b i from hp.at (by omega)]
    unfold svN
    by_cases z : b i ≤ 0
    · rw [if_pos z, if_pos z, bq_220_48, w32_s1 (by omega), hh]
    · rw [if_neg z, if_neg z, g_storeA (by omega), bsome]
      dsimp +instances only
      rw [show σ 54 i = b i from hp.at (by omega), if_neg (by omega), e32, bq_220_48, w32_s1 (by omega), ← hh]
      obtain ⟨x, hx⟩ : ∃ x : Nat, sc (32 + i) = (x : Int) := ⟨(sc (32 + i)).toNat, by omega⟩
      obtain ⟨y, hy⟩ : ∃ y : Nat, b i = (y : Int) := ⟨(b i).toNat, by omega⟩
      rw [hx, hy, tn_nat, tn_nat, am_div_nat (by omega)]
      congr 4
      by_cases u : x / y < v
      · rw [if_pos (by omega), if_pos u]
      · rw [if_neg (by omega), if_neg u]) (nD T) 0 8 (by omega) rfl
  refine vI_of ((bq_220_0 X σ).trans (Eq.trans e ?_)) rfl
  show vv X 220 5 [some (vP 73), some (vP 49), some (vI (v : Int)), some (vI (nD T : Int))] [] σ = _
  rw [bq_220_5, g_dishes, bsome]
  dsimp +instances only
  rw [tl_at hT (k := 8) (by omega), H.d0, if_pos (Int.le_refl _), hv]
theorem c_who (H : TOk T) (hT : tl σ = T) (hs : rs (σ 50) = sc) (S : ScOk T sc) {b : Nat → Int} (hp : PL T σ 53 b) (hb : BOk T b 6) {e : Nat} (he : e < 256) (hee : ∀ m, m < nM T → (bt1 (e : Int) m = 1 ↔ bt1 (s : Int) m = 1 ∧ ¬ 0 < sc (8 + m) ∧ ¬ fasting T sc m)) : vcI X 221 [vP 73, vP 49, vI (e : Int)] σ = some ((whoN T sc s b (nM T) : Int), σ) := by
  have h8 := H.m8
  have h4 := H.d4
  obtain ⟨v, ev, hv⟩ := lp (fun i (v : Nat) => vv X 221 5 [some (vP 73), some (vP 49), some (vI (e : Int)), some (vI (v : Int)), some (vI (i : Int)), none] [] σ) (nM T) (fun i v => v = whoN T sc s b i) (fun i v hi hh => by
    refine ⟨whoN T sc s b (i + 1), ?_, rfl⟩
    show vv X 221 5 [some (vP 73), some (vP 49), some (vI (e : Int)), some (vI (v : Int)), some (vI (i : Int)), none] [] σ = vv X 221 5 [some (vP 73), some (vP 49), some (vI (e : Int)), some (vI (whoN T sc s b (i + 1) : Int)), some (vI ((i + 1 : Nat) : Int)), none] [] σ
    have wl := whoN_le (T := T) (sc := sc) (s := s) (b := b) i
    have em : σ 50 i = sc i := by rw [← hs, rs_in (by omega)]
    have sk := S.1 i hi
    have hM := H.mi i hi
    have hi2 := hee i hi
    have ab := andb hp.2.2.2.2.1.1 hp.2.2.2.2.1.2 (show 0 ≤ T 17 i by omega) (show T 17 i ≤ 15 by omega)
    have hh2 : am_and (σ 53 4) (T 17 i) = 0 ↔ ¬ hatesS T i b := by
      rw [ab]
      constructor
      · rintro h ⟨d, hd, q1, q2⟩
        rcases h d (by omega) with z | z
        · have := (hp.2.2.2.2.2 d (by omega)).mp z
          omega
        · exact q2 z
      · intro h d hd
        by_cases z : bt1 (T 17 i) d = 0
        · exact Or.inr z
        · refine Or.inl ((hp.2.2.2.2.2 d hd).mpr ?_)
          by_cases y : d < nD T
          · by_cases x : 0 < b d
            · exact absurd ⟨d, y, x, z⟩ h
            · omega
          · rw [hb.2 d (by omega) hd]
            omega
    have skip : ¬ elS T sc s b i → vv X 221 89 [some (vP 73), some (vP 49), some (vI (e : Int)), some (vI (v : Int)), some (vI (i : Int)), none] [] σ = vv X 221 5 [some (vP 73), some (vP 49), some (vI (e : Int)), some (vI (whoN T sc s b (i + 1) : Int)), some (vI ((i + 1 : Nat) : Int)), none] [] σ := fun hn => by
      unfold whoN
      rw [bq_221_89, w32_s1 (by omega), if_neg hn, hh]
    rw [bq_221_5, g_men, bsome]
    dsimp +instances only
    rw [tl_at hT (k := 8) (by omega), H.m0, if_neg (by omega), if_pos (by omega), tn_nat, tl_at hT (k := 17) (by omega), bq_221_43, bq_221_43, show am_and (am_shr (e : Int) (i : Int)) 1 = bt1 (e : Int) i from rfl, if_pos rfl, if_neg i10]
    rcases bt01 he (show i < 8 by omega) with z1 | z1
    · have ne : ¬ elS T sc s b i := fun q => by
        have := hi2.mpr ⟨q.1, q.2.1, q.2.2.1⟩
        omega
      rw [if_pos z1, if_pos z1, skip ne]
      split <;> rfl
    · rw [if_neg (show ¬ bt1 (e : Int) i = 0 by omega), if_neg (show ¬ bt1 (e : Int) i = 0 by omega)]
      have cond := hi2.mp z1
      by_cases z2 : hatesS T i b
      · rw [if_pos (fun q => hh2.mp q z2), skip (fun q => q.2.2.2.1 z2)]
      · rw [if_neg (fun q => q (hh2.mpr z2)), if_pos (by omega), g_fullA (by omega), bsome]
        dsimp +instances only
        rw [Nat.zero_add, em, tn_nat, tl_at hT (k := 13) (by omega), hp.2.2.1, w32_id (by omega) (by omega)]
        by_cases z3 : T 13 i - sc i < bulkS T b
        · rw [if_pos z3, skip (fun q => by have := q.2.2.2.2; omega)]
        · rw [if_neg z3, bq_221_89, w32_s1 (by omega), w32_s1 (by omega)]
          unfold whoN
          rw [if_pos (show elS T sc s b i from ⟨cond.1, cond.2.1, cond.2.2, z2, by omega⟩), hh]) (nM T) 0 0 (by omega) rfl
  refine vI_of ((bq_221_0 X _ σ).trans (Eq.trans ev ?_)) rfl
  show vv X 221 5 [some (vP 73), some (vP 49), some (vI (e : Int)), some (vI (v : Int)), some (vI (nM T : Int)), none] [] σ = _
  rw [bq_221_5, g_men, bsome]
  dsimp +instances only
  rw [tl_at hT (k := 8) (by omega), H.m0, if_pos (Int.le_refl _), hv]
theorem whoN_bc {b : Nat → Int} {e : Nat} (he : e < 256) (H : TOk T) (hee : ∀ m, m < nM T → (bt1 (e : Int) m = 1 ↔ bt1 (s : Int) m = 1 ∧ ¬ 0 < sc (8 + m) ∧ ¬ fasting T sc m)) : ∀ i, i ≤ nM T → (whoN T sc s b i : Int) ≤ bc (e : Int) i
  | 0, _ => Int.le_refl _
  | i + 1, hi => by
    have ih := whoN_bc (b := b) he H hee i (by omega)
    have b01 := bt01 he (show i < 8 by have := H.m8; omega)
    show (whoN T sc s b (i + 1) : Int) ≤ bc (e : Int) i + bt1 (e : Int) i
    unfold whoN
    split
    next h =>
      have := (hee i (by omega)).mpr ⟨h.1, h.2.1, h.2.2.1⟩
      omega
    next => omega
theorem bc_mono {e : Nat} (he : e < 256) : ∀ k i, i + k ≤ 8 → bc (e : Int) i ≤ bc (e : Int) (i + k)
  | 0, i, _ => Int.le_refl _
  | k + 1, i, h => by
    have ih := bc_mono he k i (by omega)
    have b01 := bt01 he (show i + k < 8 by omega)
    show bc (e : Int) i ≤ bc (e : Int) (i + k) + bt1 (e : Int) (i + k)
    omega
theorem c_bestL (H : TOk T) (S : ScOk T sc) {e : Nat} (he : e < 256) (hee : ∀ m, m < nM T → (bt1 (e : Int) m = 1 ↔ bt1 (s : Int) m = 1 ∧ ¬ 0 < sc (8 + m) ∧ ¬ fasting T sc m)) : ∀ (n N : Nat) (bg : Int) (bb : Nat → Int) (σ : am_Sg), N + n = 7 ^ nD T → tl σ = T → rs (σ 50) = sc → 0 ≤ bg → σ 73 6 = bg → (∀ d, d < 4 → σ 74 d = bb d) → ∃ σ', vv X 149 54 [some (vP 73), some (vP 49), none, some (vI (e : Int)), some (vI ((7 ^ nD T : Nat) : Int)), some (vI (N : Int)), none, none] [] σ = some (none, σ') ∧ Fr [53, 54, 73, 74] [] σ σ' ∧ σ' 73 6 = (bsF T sc s n N bg bb).1 ∧ ∀ d, d < 4 → σ' 74 d = (bsF T sc s n N bg bb).2 d
  | 0, N, bg, bb, σ, eN, hT, hs, hbg, h6, h74 => by
    refine ⟨σ, ?_, Fr.rf, h6, h74⟩
    rw [bq_149_54, if_pos (by omega)]
  | n + 1, N, bg, bb, σ, eN, hT, hs, hbg, h6, h74 => by
    have h4 := H.d4
    have p7 := pw7 h4
    obtain ⟨σ1, e1, f1, p1⟩ := c_layN7 (X := X) H hT (show N < 2401 by omega)
    have hT1 : tl σ1 = T := (tl_fr f1 rfl).trans hT
    have hs1 : rs (σ1 50) = sc := by rw [f1.get 50 (by decide) rfl]; exact hs
    have lk := lwB_ok (T := T) N
    have gb := gain_bd H (lk.mono (show (6 : Int) ≤ 12 by omega)) (by omega)
    have s8 := svN_le (sc := sc) (b := lwB (nD T) N) (nD T)
    have wl := whoN_le (T := T) (sc := sc) (s := s) (b := lwB (nD T) N) (nM T)
    have wb := whoN_bc (b := lwB (nD T) N) he H hee (nM T) (Nat.le_refl _)
    have bm := bc_mono he (8 - nM T) (nM T) (by have := H.m8; omega)
    rw [show nM T + (8 - nM T) = 8 by have := H.m8; omega] at bm
    have be := bc_bd he 8 (by omega)
    have k6 : σ1 73 6 = bg := by rw [f1.get 73 (by decide) rfl]; exact h6
    have gS : gnS T sc s N = ((mnN (svN sc (lwB (nD T) N) (nD T)) (whoN T sc s (lwB (nD T) N) (nM T)) : Nat) : Int) * gainS T (lwB (nD T) N) := rfl
    have skip : ¬ bg < gnS T sc s N → ∃ σ', vv X 149 151 [some (vP 73), some (vP 49), none, some (vI (e : Int)), some (vI ((7 ^ nD T : Nat) : Int)), some (vI (N : Int)), none, none] [] σ1 = some (none, σ') ∧ Fr [53, 54, 73, 74] [] σ σ' ∧ σ' 73 6 = (bsF T sc s (n + 1) N bg bb).1 ∧ ∀ d, d < 4 → σ' 74 d = (bsF T sc s (n + 1) N bg bb).2 d := by
      intro hn
      obtain ⟨σ2, e2, f2, r1, r2⟩ := c_bestL H S he hee n (N + 1) bg bb σ1 (by omega) hT1 hs1 hbg k6 (fun d hd => by rw [f1.get 74 (by decide) rfl]; exact h74 d hd)
      refine ⟨σ2, ?_, (f1.mono rfl rfl).tr f2, ?_, ?_⟩
      · rw [bq_149_151, w32_s1 (by omega)]
        exact e2
      · unfold bsF
        rw [if_neg hn]
        exact r1
      · unfold bsF
        rw [if_neg hn]
        exact r2
    rw [bq_149_54, if_neg (by omega), e1, bsome, c_bits he, bsome]
    dsimp +instances only
    rw [c_served H hT1 hs1 S p1 lk, bsome]
    dsimp +instances only
    rw [p1.2.2.2.1, k6]
    generalize hsv : svN sc (lwB (nD T) N) (nD T) = sv at *
    generalize hwh : whoN T sc s (lwB (nD T) N) (nM T) = wh at *
    generalize hgn : gainS T (lwB (nD T) N) = gn at *
    generalize hbe : bc (e : Int) 8 = ce at *
    -- the most that could pass
    generalize hmo : (if (sv : Int) < ce then (sv : Int) else ce) = mo
    have mo0 : 0 ≤ mo ∧ mo ≤ 8 := by
      rw [← hmo]
      split <;> omega
    have mnle : ((mnN sv wh : Nat) : Int) ≤ mo := by
      unfold mnN
      rw [← hmo]
      split <;> split <;> omega
    have mg := mul_bd (a := mo) (A := 8) (b := gn) (B := 4752) mo0.1 mo0.2 gb.1 gb.2
    have mm := Int.mul_le_mul_of_nonneg_right mnle gb.1
    rw [w32_id (x := mo * gn) (by omega) (by omega)]
    by_cases z1 : mo * gn ≤ bg
    · rw [if_pos z1]
      exact skip (by rw [gS]; omega)
    · rw [if_neg z1, c_who H hT1 hs1 S p1 lk he hee, bsome]
      dsimp +instances only
      rw [hwh, k6, p1.2.2.2.1, hgn]
      have em : (if (wh : Int) < mo then (wh : Int) else mo) = ((mnN sv wh : Nat) : Int) := by
        unfold mnN
        rw [← hmo]
        split <;> split <;> split <;> omega
      rw [em]
      have g0 := gnS_bd H sc s N
      rw [gS] at g0
      rw [w32_id (by omega) (by omega)]
      by_cases z2 : ((mnN sv wh : Nat) : Int) * gn ≤ bg
      · rw [if_pos z2]
        exact skip (by rw [gS]; omega)
      · rw [if_neg z2, bq_149_151, w32_s1 (by omega)]
        generalize hst : am_row (am_upd σ1 73 6 (((mnN sv wh : Nat) : Int) * gn)) 74 (am_cp ((am_upd σ1 73 6 (((mnN sv wh : Nat) : Int) * gn)) 54) ((am_upd σ1 73 6 (((mnN sv wh : Nat) : Int) * gn)) 74) 0 0 4) = st
        have fst : Fr [53, 54, 73, 74] [] σ st := by
          rw [← hst]
          exact ((f1.mono rfl rfl).upd rfl (by decide)).row rfl (by decide)
        obtain ⟨σ2, e2, f2, r1, r2⟩ := c_bestL H S he hee n (N + 1) (((mnN sv wh : Nat) : Int) * gn) (lwB (nD T) N) st (by omega) ((tl_fr fst rfl).trans hT) (by rw [fst.get 50 (by decide) rfl]; exact hs) g0.1 (by rw [← hst]; simp [ua, ra]) (fun d hd => by
          rw [← hst, re, un _ (by decide)]
          unfold am_cp
          rw [if_pos (by omega), Nat.zero_add, Nat.sub_zero]
          exact p1.at hd)
        refine ⟨σ2, e2, fst.tr f2, ?_, ?_⟩
        · unfold bsF
          rw [if_pos (by rw [gS]; omega), gS]
          exact r1
        · unfold bsF
          rw [if_pos (by rw [gS]; omega), gS]
          exact r2
end BST
