/-! CALLS: best, the reference -/
/-- stores less p times these bites -/
def stS (sc b : Nat → Int) (p : Nat) : Nat → Int := fun j => if 32 ≤ j ∧ j < 36 then sc j - (p : Int) * b (j - 32) else sc j
theorem pmul (p : Nat) (x : Int) : ((p + 1 : Nat) : Int) * x = (p : Int) * x + x := by
  rw [Int.natCast_add, Int.add_mul]
  simp
section BSM
variable {X l s : Nat} {σ T : am_Sg} {F : LF} {sc b : Nat → Int}
theorem stS_n {p j : Nat} (h : ¬ (32 ≤ j ∧ j < 36)) : stS sc b p j = sc j := if_neg h
theorem stS_d {p d : Nat} (h : d < 4) : stS sc b p (32 + d) = sc (32 + d) - (p : Int) * b d := by
  unfold stS
  rw [if_pos (by omega), show 32 + d - 32 = d by omega]
theorem stS_rs {f : Nat → Int} (hs : rs f = stS sc b 0) : rs f = sc := by
  rw [hs]
  funext j
  unfold stS
  split
  · simp
  · rfl
theorem stS_0 : stS sc b 0 = sc := by
  funext j
  unfold stS
  split
  · simp
  · rfl
theorem stS_ok (H : TOk T) (S : ScOk T sc) {p : Nat} (hb : ∀ d, d < 4 → 0 ≤ b d) (hp : ∀ d, d < 4 → (p : Int) * b d ≤ sc (32 + d)) : ScOk T (stS sc b p) := by
  have h8 := H.m8
  have np : ∀ d, d < 4 → 0 ≤ (p : Int) * b d := fun d hd => Int.mul_nonneg (by omega) (hb d hd)
  refine ⟨fun m hm => ?_, fun d hd => ?_, ?_, fun j => ?_⟩
  · rw [stS_n (by omega), stS_n (by omega)]
    exact S.1 m hm
  · rw [stS_d hd]
    have := S.2.1 d hd
    have := hp d hd
    have := np d hd
    omega
  · rw [stS_n (by omega)]
    exact S.2.2.1
  · by_cases z : 32 ≤ j ∧ j < 36
    · obtain ⟨d, rfl⟩ : ∃ d, j = 32 + d := ⟨j - 32, by omega⟩
      have hd : d < 4 := by omega
      rw [stS_d hd]
      have := S.2.1 d hd
      have := hp d hd
      have := np d hd
      omega
    · rw [stS_n z]
      exact S.2.2.2 j
theorem m_lays (hp : ∀ d, d < 4 → σ 136 d = b d) {x1 x2 x3 : Int} : ∃ σ', vv X 150 30 [some (vP 80), some (vI x1), some (vI x2), some (vI x3), some (vI 0)] [] σ = vv X 150 30 [some (vP 80), some (vI x1), some (vI x2), some (vI x3), some (vI 4)] [] σ' ∧ Fr [129] [] σ σ' ∧ ∀ d, d < 4 → σ' 129 d = b d := by
  have L := cpl0 (fun i st => vv X 150 30 [some (vP 80), some (vI x1), some (vI x2), some (vI x3), some (vI (i : Int))] [] st) 129 0 4 0 (fun i => σ 136 i) σ (by omega) (fun i hi r => by
    show vv X 150 30 [some (vP 80), some (vI x1), some (vI x2), some (vI x3), some (vI (i : Int))] [] _ = _
    rw [bq_150_30, if_neg (by omega), if_pos (by omega), w32_s1 (by omega), tn_nat, Nat.zero_add, rn _ (show ¬ (136 : Nat) = 129 by decide)])
  refine ⟨_, L, Fr.rf.row rfl (by decide), fun d hd => ?_⟩
  rw [re, if_pos (by omega), Nat.sub_zero]
  exact hp d hd
theorem m_less (S : ScOk T sc) {p : Nat} (hs : rs (σ 128) = stS sc b p) (hb : BOk T b 6) (hp : ∀ d, d < 4 → σ 129 d = b d) (hq : ∀ d, d < 4 → ((p + 1 : Nat) : Int) * b d ≤ sc (32 + d)) {x1 x2 x3 : Int} : ∃ σ', vv X 150 78 [some (vP 80), some (vI x1), some (vI x2), some (vI x3), some (vI 0)] [] σ = vv X 150 110 [some (vP 80), some (vI x1), some (vI x2), some (vI x3), none] [] σ' ∧ Fr [128] [] σ σ' ∧ rs (σ' 128) = stS sc b (p + 1) := by
  have q0 : ∀ d, d < 4 → 0 ≤ (p : Int) * b d := fun d hd => Int.mul_nonneg (by omega) (hb.1 d hd).1
  have L := cpl0 (fun i st => vv X 150 78 [some (vP 80), some (vI x1), some (vI x2), some (vI x3), some (vI (i : Int))] [] st) 128 32 4 0 (fun i => sc (32 + i) - ((p + 1 : Nat) : Int) * b i) σ (by omega)
  have step : ∀ i : Nat, i < 4 → ∀ r : Nat → Int, (∀ j, 32 + i ≤ j → r j = σ 128 j) → vv X 150 78 [some (vP 80), some (vI x1), some (vI x2), some (vI x3), some (vI (i : Int))] [] (am_row σ 128 r) = vv X 150 78 [some (vP 80), some (vI x1), some (vI x2), some (vI x3), some (vI ((i + 1 : Nat) : Int))] [] (am_row σ 128 (up r (32 + i) (sc (32 + i) - ((p + 1 : Nat) : Int) * b i))) := by
    intro i hi r hr
    have bi := hb.1 i hi
    have si := S.2.1 i hi
    have qi := hq i hi
    have q0i := q0 i hi
    have e1 : r (32 + i) = sc (32 + i) - (p : Int) * b i := by rw [hr _ (Nat.le_refl _), ← rs_in (f := σ 128) (show 32 + i < 46 by omega), hs, stS_d hi]
    rw [pmul] at qi
    rw [bq_150_78, if_neg (by omega), show w32 (32 + (i : Int)) = ((32 + i : Nat) : Int) from w_ix (c := 32) (by omega), if_pos (by omega), if_pos (by omega), w32_s1 (by omega), tn_nat, tn_nat, ur, re, rn _ (show ¬ (129 : Nat) = 128 by decide), hp i hi, e1, pmul, w32_id (by omega) (by omega), show sc (32 + i) - (p : Int) * b i - b i = sc (32 + i) - ((p : Int) * b i + b i) by omega]
  clear L
  obtain ⟨r, e, hr⟩ := lp (fun i (r : Nat → Int) => vv X 150 78 [some (vP 80), some (vI x1), some (vI x2), some (vI x3), some (vI (i : Int))] [] (am_row σ 128 r)) 4 (fun i r => r = fun j => if 32 ≤ j ∧ j < 32 + i then sc j - ((p + 1 : Nat) : Int) * b (j - 32) else σ 128 j) (fun i r hi hr => by
    refine ⟨_, step i hi r (fun j hj => by rw [hr]; exact if_neg (by omega)), ?_⟩
    funext j
    rw [upa, hr]
    dsimp only
    by_cases z : j = 32 + i
    · rw [if_pos z, if_pos (by omega), z, show 32 + i - 32 = i by omega]
    · rw [if_neg z]
      by_cases y : 32 ≤ j ∧ j < 32 + i
      · rw [if_pos y, if_pos (by omega)]
      · rw [if_neg y, if_neg (by omega)]) 4 0 (σ 128) (by omega) (by funext j; rw [if_neg (by omega)])
  rw [r0] at e
  refine ⟨am_row σ 128 r, ?_, Fr.rf.row rfl (by decide), ?_⟩
  · refine Eq.trans e ?_
    show vv X 150 78 [some (vP 80), some (vI x1), some (vI x2), some (vI x3), some (vI 4)] [] _ = _
    rw [bq_150_78, if_pos (by omega)]
  · rw [re, hr]
    funext j
    by_cases hj : j < 46
    · rw [rs_in hj]
      unfold stS
      by_cases y : 32 ≤ j ∧ j < 36
      · rw [if_pos (show 32 ≤ j ∧ j < 32 + 4 by omega), if_pos y]
      · rw [if_neg (show ¬ (32 ≤ j ∧ j < 32 + 4) by omega), if_neg y, ← rs_in (f := σ 128) hj, hs, stS_n y]
    · rw [rs_hi hj, stS_n (by omega)]
      have : rs (σ 128) j = stS sc b p j := by rw [hs]
      rw [rs_hi hj, stS_n (by omega)] at this
      exact this
theorem m_gainBy (R : RT X σ T l F) (hs : rs (σ 127) = sc) (S : ScOk T sc) (hs2 : s < 256) {N : Nat} (hN : N < 7 ^ nD T) (hp : ∀ d, d < 4 → σ 136 d = lwB (nD T) N d) : ∃ σ', vcI X 150 [vP 80, vI (s : Int)] σ = some (gnS T sc s N, σ') ∧ Fr [128, 129] [] σ σ' := by
  have H := R.2.1
  have h8 := H.m8
  have h4 := H.d4
  have lk := lwB_ok (T := T) N
  have lk12 := lk.mono (show (6 : Int) ≤ 12 by omega)
  have gb := gain_bd H lk12 (by omega)
  have nn : ∀ d, d < nD T → 0 ≤ lwB (nD T) N d ∧ 0 ≤ sc (32 + d) := fun d hd => ⟨(lk.1 d (by omega)).1, (S.2.1 d (by omega)).1⟩
  generalize hb : lwB (nD T) N = b at *
  obtain ⟨σ0, e0, f0, p0⟩ := m_takes (X := X) (σ := σ)
  have s0 : rs (σ0 128) = stS sc b 0 := by rw [p0, hs, stS_0]
  obtain ⟨y, e, f1, p, hy, hrow, hle, hst, hwho⟩ := lp (fun i (y : Int × am_Sg) => vv X 150 8 [some (vP 80), some (vI (s : Int)), some (vI y.1), some (vI (i : Int)), none] [] y.2) (nM T) (fun i y => Fr [128, 129] [] σ y.2 ∧ ∃ p : Nat, y.1 = (p : Int) * gainS T b ∧ rs (y.2 128) = stS sc b p ∧ p ≤ i ∧ (∀ d, d < 4 → (p : Int) * b d ≤ sc (32 + d)) ∧ (0 < numS b → p = mnN (svN sc b (nD T)) (whoN T sc s b i))) (fun i y hi hh => by
    obtain ⟨fs, p, hy, hrow, hle, hst, hwho⟩ := hh
    obtain ⟨y1, st⟩ := y
    dsimp only at fs hy hrow
    subst hy
    have Rs := R.fr fs rfl rfl rfl
    have pg := mul_bd (a := (p : Int)) (A := 8) (b := gainS T b) (B := 4752) (by omega) (by omega) gb.1 gb.2
    have svi := svN_iff (sc := sc) (b := b) (c := p + 1) (by omega) (nD T) nn
    have all4 : (∀ d, d < nD T → ((p + 1 : Nat) : Int) * b d ≤ sc (32 + d)) → ∀ d, d < 4 → ((p + 1 : Nat) : Int) * b d ≤ sc (32 + d) := fun q d hd => by
      by_cases z : d < nD T
      · exact q d z
      · rw [lk.2 d (by omega) hd, Int.mul_zero]
        exact (S.2.1 d hd).1
    have ws : whoN T sc s b (i + 1) = @ite _ (elS T sc s b i) (Classical.propDecidable _) (whoN T sc s b i + 1) (whoN T sc s b i) := rfl
    show ∃ y' : Int × am_Sg, vv X 150 8 [some (vP 80), some (vI (s : Int)), some (vI ((p : Int) * gainS T b)), some (vI (i : Int)), none] [] st = vv X 150 8 [some (vP 80), some (vI (s : Int)), some (vI y'.1), some (vI ((i + 1 : Nat) : Int)), none] [] y'.2 ∧ _
    -- he does not pass
    have no : ∀ st' : am_Sg, Fr [128, 129] [] σ st' → rs (st' 128) = stS sc b p → (0 < numS b → ¬ (elS T sc s b i ∧ p + 1 ≤ svN sc b (nD T))) → ∃ y' : Int × am_Sg, vv X 150 110 [some (vP 80), some (vI (s : Int)), some (vI ((p : Int) * gainS T b)), some (vI (i : Int)), none] [] st' = vv X 150 8 [some (vP 80), some (vI (s : Int)), some (vI y'.1), some (vI ((i + 1 : Nat) : Int)), none] [] y'.2 ∧ Fr [128, 129] [] σ y'.2 ∧ ∃ p' : Nat, y'.1 = (p' : Int) * gainS T b ∧ rs (y'.2 128) = stS sc b p' ∧ p' ≤ i + 1 ∧ (∀ d, d < 4 → (p' : Int) * b d ≤ sc (32 + d)) ∧ (0 < numS b → p' = mnN (svN sc b (nD T)) (whoN T sc s b (i + 1))) := by
      intro st' ft hr' hn
      refine ⟨((p : Int) * gainS T b, st'), by rw [bq_150_110, w32_s1 (by omega)], ft, p, rfl, hr', by omega, hst, fun q => ?_⟩
      have h1 := hwho q
      have h2 := hn q
      rw [ws]
      by_cases z : elS T sc s b i
      · rw [if_pos z]
        have h3 : ¬ p + 1 ≤ svN sc b (nD T) := fun u => h2 ⟨z, u⟩
        unfold mnN at h1 ⊢
        split at h1
        · split <;> omega
        · split <;> omega
      · rw [if_neg z]
        exact h1
    rw [bq_150_8, m_menNow H Rs.2.2.1, bsome]
    dsimp +instances only
    rw [if_neg (by omega), show am_and (am_shr (s : Int) (i : Int)) 1 = bt1 (s : Int) i from rfl]
    rcases bt01 hs2 (show i < 8 by omega) with z | z
    · rw [if_neg (fun q => q z)]
      exact no st fs hrow (fun _ q => by have := q.1.1; omega)
    · rw [if_pos (by omega)]
      obtain ⟨st1, e1, g1, h1⟩ := m_lays (X := X) (σ := st) (b := b) (fun d hd => by rw [fs.get 136 (by decide) rfl]; exact hp d hd) (x1 := (s : Int)) (x2 := (p : Int) * gainS T b) (x3 := (i : Int))
      have R1 := Rs.fr g1 rfl rfl rfl
      have r1 : rs (st1 128) = stS sc b p := by rw [g1.get 128 (by decide) rfl]; exact hrow
      have b1 : b4 (st1 129) = b := by
        funext d
        unfold b4
        by_cases hd : d < 4
        · rw [if_pos hd, h1 d hd]
        · rw [if_neg hd, ← hb]
          unfold lwB
          rw [if_neg (by omega)]
      have f1 : Fr [128, 129] [] σ st1 := fs.tr (g1.mono rfl rfl)
      have Sp := stS_ok H S (fun d hd => (lk.1 d hd).1) hst
      have wy := m_why2 (X := X) (x2 := 1) H R1.2.2.1 hi (by rw [r1]; exact Sp) lk12 b1
      rw [r1] at wy
      rw [e1, bq_150_30, if_pos (by omega), wy, bsome]
      dsimp +instances only
      have wr := why_rng (T := T) (sc := stS sc b p) (m := i) (b := b) (ask := ¬ (1 : Int) = 0)
      have wi := why_iff (T := T) (sc := stS sc b p) (m := i) (b := b) (ask := ¬ (1 : Int) = 0)
      have fz : fasting T (stS sc b p) i ↔ fasting T sc i := by
        unfold fasting
        rw [stS_n (by omega)]
      rw [stS_n (show ¬ (32 ≤ 8 + i ∧ 8 + i < 36) by omega), stS_n (show ¬ (32 ≤ i ∧ i < 36) by omega), fz] at wi
      have sz : storesS T (stS sc b p) b ↔ ∀ d, d < nD T → ((p + 1 : Nat) : Int) * b d ≤ sc (32 + d) := by
        unfold storesS
        constructor
        · intro q d hd
          have := q d hd
          rw [stS_d (by omega)] at this
          rw [pmul]
          omega
        · intro q d hd
          have := q d hd
          rw [pmul] at this
          rw [stS_d (by omega)]
          omega
      by_cases y : whyS T (stS sc b p) i b (¬ (1 : Int) = 0) = 0
      · have w0 := wi.mp y
        have q1 := all4 (sz.mp (w0.2.2.2.1 (by decide)))
        obtain ⟨st2, e2, g2, r2⟩ := m_less (X := X) S r1 lk h1 q1 (x1 := (s : Int)) (x2 := ((p + 1 : Nat) : Int) * gainS T b) (x3 := (i : Int))
        have pg1 : w32 ((p : Int) * gainS T b + gainS T b) = ((p + 1 : Nat) : Int) * gainS T b := by
          rw [pmul, w32_id (by omega) (by omega)]
        rw [if_pos (by omega), m_gain2 H R1.2.2.1 lk12 b1, bsome]
        dsimp +instances only
        rw [pg1, e2, bq_150_110, w32_s1 (by omega)]
        refine ⟨(((p + 1 : Nat) : Int) * gainS T b, st2), rfl, f1.tr (g2.mono rfl rfl), p + 1, rfl, r2, by omega, q1, fun q => ?_⟩
        have hel : elS T sc s b i := ⟨z, w0.1, fun u => w0.2.1 ⟨q, u⟩, w0.2.2.1, w0.2.2.2.2⟩
        have hsv : p + 1 ≤ svN sc b (nD T) := svi.mpr (sz.mp (w0.2.2.2.1 (by decide)))
        have hw := hwho q
        rw [ws, if_pos hel]
        unfold mnN at hw ⊢
        split at hw
        · split <;> omega
        · split <;> omega
      · rw [if_neg (by omega)]
        refine no st1 f1 r1 (fun q u => y (wi.mpr ⟨u.1.2.1, fun v => u.1.2.2.1 v.2, u.1.2.2.2.1, fun _ => sz.mpr (svi.mp u.2), u.1.2.2.2.2⟩))) (nM T) 0 (0, σ0) (by omega) ⟨f0.mono rfl rfl, 0, by simp, s0, Nat.le_refl _, fun d hd => by
        have := (S.2.1 d hd).1
        simp
        exact this, fun _ => by
        show 0 = mnN (svN sc b (nD T)) 0
        unfold mnN
        rw [if_neg (by omega)]⟩
  obtain ⟨y1, st⟩ := y
  dsimp only at e f1 hy hrow
  have val : y1 = gnS T sc s N := by
    unfold gnS
    rw [hb, hy]
    by_cases z : N = 0
    · have : gainS T b = 0 := by
        rw [← hb, z, lwB_0]
        exact sm_zero (fun d _ => by simp)
      rw [this, Int.mul_zero, Int.mul_zero]
    · have := lwB_pos h4 (by omega) hN
      rw [hb] at this
      rw [hwho this]
  refine ⟨st, vI_of ((bq_150_0 X _ σ).trans ?_) rfl, f1⟩
  rw [e0, bsome]
  refine Eq.trans e ?_
  show vv X 150 8 [some (vP 80), some (vI (s : Int)), some (vI y1), some (vI (nM T : Int)), none] [] st = _
  rw [bq_150_8, m_menNow H (R.fr f1 rfl rfl rfl).2.2.1, bsome]
  dsimp +instances only
  rw [if_pos (Int.le_refl _), val]
theorem lwB_at {n N d : Nat} (h : d < n) : lwB n N d = ((N / 7 ^ (n - 1 - d) % 7 : Nat) : Int) := if_pos h
theorem lwB_hi {n N d : Nat} (h : ¬ d < n) : lwB n N d = 0 := if_neg h
/-- trailing sixes: q of them -/
theorem m_nextL {n N : Nat} (hn : n ≤ 4) (hN : N < 7 ^ n) : ∀ (r q : Nat) (st : am_Sg), r + q = n → (N + 1) % 7 ^ q = 0 → (∀ d, d < 4 → st 136 d = if d < r then lwB n N d else 0) → ∃ σ', vv X 151 7 [some (vP 80), some (vI ((r : Int) - 1))] [] st = some (some (vI (if N + 1 < 7 ^ n then 1 else 0)), σ') ∧ Fr [136] [] st σ' ∧ (N + 1 < 7 ^ n → ∀ d, d < 4 → σ' 136 d = lwB n (N + 1) d)
  | 0, q, st, e, hq, hd => by
    have : q = n := by omega
    subst this
    have : ¬ N + 1 < 7 ^ q := by
      intro u
      rw [Nat.mod_eq_of_lt u] at hq
      omega
    refine ⟨st, ?_, Fr.rf, fun u => absurd u this⟩
    rw [bq_151_7, if_pos (by omega), bq_151_35, if_neg (by omega), if_neg this]
  | r + 1, q, st, e, hq, hd => by
    have pq : 0 < 7 ^ q := Nat.pow_pos (by omega)
    -- N + 1 = 7^q * k
    obtain ⟨k, hk⟩ : ∃ k, N + 1 = 7 ^ q * k := ⟨(N + 1) / 7 ^ q, by have := Nat.div_add_mod (N + 1) (7 ^ q); omega⟩
    have k0 : 0 < k := by
      rcases Nat.eq_zero_or_pos k with z | z
      · rw [z, Nat.mul_zero] at hk
        omega
      · exact z
    have nq : N / 7 ^ q = k - 1 := by
      have h1 : N = 7 ^ q * (k - 1) + (7 ^ q - 1) := by
        obtain ⟨k', rfl⟩ : ∃ k', k = k' + 1 := ⟨k - 1, by omega⟩
        rw [Nat.mul_succ] at hk
        rw [Nat.add_sub_cancel]
        omega
      rw [h1, Nat.mul_add_div pq, Nat.div_eq_of_lt (by omega)]
      rfl
    have n1q : (N + 1) / 7 ^ q = k := by rw [hk, Nat.mul_div_cancel_left _ pq]
    have hr := hd r (by omega)
    rw [if_pos (by omega), lwB_at (by omega), show n - 1 - r = q by omega, nq] at hr
    rw [bq_151_7, if_neg (by omega), show ((r + 1 : Nat) : Int) - 1 = (r : Int) by omega, if_pos (by omega), tn_nat, hr]
    by_cases z : (k - 1) % 7 = 6
    · rw [if_neg (fun u => u (by omega)), show w32 ((r : Int) + -1) = (r : Int) - 1 from by unfold w32; omega]
      have hq1 : (N + 1) % 7 ^ (q + 1) = 0 := by
        have : k % 7 = 0 := by omega
        obtain ⟨j, hj⟩ : ∃ j, k = 7 * j := ⟨k / 7, by omega⟩
        rw [hk, hj, Nat.pow_succ, ← Nat.mul_assoc, Nat.mul_mod_right]
      obtain ⟨σ1, e1, f1, r1⟩ := m_nextL hn hN r (q + 1) (am_upd st 136 r 0) (by omega) hq1 (fun d hd' => by
        rw [ue, upa]
        by_cases y : d = r
        · rw [if_pos y, if_neg (by omega)]
        · rw [if_neg y, hd d hd']
          by_cases u : d < r
          · rw [if_pos u, if_pos (by omega)]
          · rw [if_neg u, if_neg (by omega)])
      exact ⟨σ1, e1, (Fr.rf.upd rfl (by decide)).tr f1, r1⟩
    · rw [if_pos (by omega), bq_151_35, if_pos (by omega), if_pos (by omega), tn_nat, hr]
      have lt : N + 1 < 7 ^ n := by
        -- else N + 1 = 7^n, and k would be a multiple of 7
        rcases Nat.lt_or_ge (N + 1) (7 ^ n) with u | u
        · exact u
        · exfalso
          have e2 : N + 1 = 7 ^ n := by omega
          have e3 : 7 ^ n = 7 ^ q * (7 ^ r * 7) := by rw [← Nat.pow_succ, ← Nat.pow_add, show q + (r + 1) = n by omega]
          have e4 : k = 7 ^ r * 7 := Nat.eq_of_mul_eq_mul_left pq (by rw [← hk, e2, e3])
          omega
      rw [if_pos lt]
      refine ⟨_, rfl, Fr.rf.upd rfl (by decide), fun _ d hd' => ?_⟩
      rw [ue, upa]
      by_cases y : d = r
      · subst y
        have : (k - 1) % 7 < 7 := Nat.mod_lt _ (by omega)
        rw [if_pos rfl, lwB_at (by omega), show n - 1 - d = q by omega, n1q, w32_s1 (by omega)]
        congr 1
        omega
      · rw [if_neg y, hd d hd']
        by_cases u : d < r + 1
        · rw [if_pos u, lwB_at (by omega), lwB_at (by omega)]
          -- higher digits stay
          obtain ⟨t, ht⟩ : ∃ t, n - 1 - d = q + (t + 1) := ⟨n - 1 - d - q - 1, by omega⟩
          have dv : ∀ M : Nat, M / 7 ^ (q + (t + 1)) = M / 7 ^ q / 7 / 7 ^ t := fun M => by rw [Nat.pow_add, Nat.pow_succ, Nat.mul_comm (7 ^ t) 7, ← Nat.div_div_eq_div_mul, ← Nat.div_div_eq_div_mul]
          rw [ht, dv, dv, nq, n1q, show (k - 1) / 7 = k / 7 by omega]
        · rw [if_neg u]
          by_cases v : d < n
          · rw [lwB_at v]
            obtain ⟨t, ht⟩ : ∃ t, q = (n - 1 - d) + (t + 1) := ⟨q - (n - 1 - d) - 1, by omega⟩
            have pt : 0 < 7 ^ (n - 1 - d) := Nat.pow_pos (by omega)
            have : (N + 1) / 7 ^ (n - 1 - d) = 7 * (7 ^ t * k) := by
              rw [hk, ht, Nat.pow_add, Nat.pow_succ, Nat.mul_assoc, Nat.mul_div_cancel_left _ pt, Nat.mul_comm (7 ^ t) 7, Nat.mul_assoc]
            rw [this, Nat.mul_mod_right]
            rfl
          · rw [lwB_hi v]
theorem m_nextLaw (H : TOk T) (K : TM σ T l) {N : Nat} (hN : N < 7 ^ nD T) (hp : ∀ d, d < 4 → σ 136 d = lwB (nD T) N d) : ∃ σ', vcI X 151 [vP 80] σ = some (if N + 1 < 7 ^ nD T then 1 else 0, σ') ∧ Fr [136] [] σ σ' ∧ (N + 1 < 7 ^ nD T → ∀ d, d < 4 → σ' 136 d = lwB (nD T) (N + 1) d) := by
  have h4 := H.d4
  obtain ⟨σ1, e1, f1, r1⟩ := m_nextL (X := X) h4 hN (nD T) 0 σ (by omega) (by simp; omega) (fun d hd => by
    rw [hp d hd]
    by_cases z : d < nD T
    · rw [if_pos z]
    · rw [if_neg z, lwB_hi z])
  refine ⟨σ1, vI_of ((bq_151_0 X σ).trans ?_) rfl, f1, r1⟩
  rw [m_kinds H K, bsome]
  dsimp +instances only
  rw [w32_id (by omega) (by omega)]
  exact e1
theorem bsF_s {n N : Nat} {bg : Int} {bb : Nat → Int} : bsF T sc s (n + 1) N bg bb = bsF T sc s n (N + 1) (if bg < gnS T sc s N then gnS T sc s N else bg) (if bg < gnS T sc s N then lwB (nD T) N else bb) := by
  show (if bg < gnS T sc s N then bsF T sc s n (N + 1) (gnS T sc s N) (lwB (nD T) N) else bsF T sc s n (N + 1) bg bb) = _
  split <;> rfl
theorem m_bestS (R : RT X σ T l F) (hs : rs (σ 127) = sc) (S : ScOk T sc) (hs2 : s < 256) {x2 bg : Int} {bb : Nat → Int} {N : Nat} (hN : N < 7 ^ nD T) (h76 : σ 80 76 = bg) (h135 : ∀ d, d < 4 → σ 135 d = bb d) (h136 : ∀ d, d < 4 → σ 136 d = lwB (nD T) N d) : ∃ σ', vv X 46 57 [some (vP 80), some (vI (s : Int)), some (vI x2), some (vI 1), none, none] [] σ = vv X 46 112 [some (vP 80), some (vI (s : Int)), some (vI x2), none, none, none] [] σ' ∧ Fr [128, 129, 135] [76] σ σ' ∧ σ' 80 76 = (if bg < gnS T sc s N then gnS T sc s N else bg) ∧ ∀ d, d < 4 → σ' 135 d = (if bg < gnS T sc s N then lwB (nD T) N else bb) d := by
  obtain ⟨σ1, e1, f1⟩ := m_gainBy (X := X) R hs S hs2 hN h136
  have k76 : σ1 80 76 = bg := by rw [f1.fld 76 rfl]; exact h76
  rw [bq_46_57, if_neg i10, e1, bsome]
  dsimp +instances only
  rw [k76]
  by_cases z : bg < gnS T sc s N
  · rw [if_neg (by omega)]
    have L := cpl0 (fun i st => vv X 46 86 [some (vP 80), some (vI (s : Int)), some (vI x2), none, none, some (vI (i : Int))] [] st) 135 0 4 0 (fun i => σ1 136 i) (am_upd σ1 80 76 (gnS T sc s N)) (by omega) (fun i hi r => by
      show vv X 46 86 [some (vP 80), some (vI (s : Int)), some (vI x2), none, none, some (vI (i : Int))] [] _ = _
      rw [bq_46_86, if_neg (by omega), if_pos (by omega), w32_s1 (by omega), tn_nat, Nat.zero_add, rn _ (show ¬ (136 : Nat) = 135 by decide), un _ (show ¬ (136 : Nat) = 80 by decide)])
    generalize hr : (fun j => if 0 + 0 ≤ j ∧ j < 0 + 4 then σ1 136 (j - 0) else (am_upd σ1 80 76 (gnS T sc s N)) 135 j) = r at L
    refine ⟨am_row (am_upd σ1 80 76 (gnS T sc s N)) 135 r, ?_, ((f1.mono rfl rfl).upf rfl).row rfl (by decide), ?_, fun d hd => ?_⟩
    · refine Eq.trans L ?_
      show vv X 46 86 [some (vP 80), some (vI (s : Int)), some (vI x2), none, none, some (vI 4)] [] _ = _
      rw [bq_46_86, if_pos (by omega)]
    · rw [if_pos z]
      simp [ua, ra]
    · rw [if_pos z, re, ← hr]
      dsimp only
      rw [if_pos (by omega), Nat.sub_zero, f1.get 136 (by decide) rfl]
      exact h136 d hd
  · rw [if_pos (by omega)]
    refine ⟨σ1, rfl, f1.mono rfl rfl, by rw [if_neg z]; exact k76, fun d hd => ?_⟩
    rw [if_neg z, f1.get 135 (by decide) rfl]
    exact h135 d hd
theorem m_bestL (S : ScOk T sc) (hs2 : s < 256) {x2 : Int} (hx : x2 = -1 ∨ (0 ≤ x2 ∧ x2 < 4)) : ∀ (n N : Nat) (bg : Int) (bb : Nat → Int) (σ : am_Sg), N + n + 1 = 7 ^ nD T → RT X σ T l F → rs (σ 127) = sc → σ 80 76 = bg → (∀ d, d < 4 → σ 135 d = bb d) → (∀ d, d < 4 → σ 136 d = lwB (nD T) N d) → ∃ σ', vv X 46 57 [some (vP 80), some (vI (s : Int)), some (vI x2), some (vI 1), none, none] [] σ = some (some (vI (if x2 = -1 then (bsF T sc s (n + 1) N bg bb).1 else (bsF T sc s (n + 1) N bg bb).2 x2.toNat)), σ') ∧ Fr [128, 129, 135, 136] [76] σ σ'
  | 0, N, bg, bb, σ, eN, R, hs, h76, h135, h136 => by
    obtain ⟨σ1, e1, f1, k76, k135⟩ := m_bestS (X := X) (x2 := x2) R hs S hs2 (show N < 7 ^ nD T by omega) h76 h135 h136
    have R1 := R.fr f1 rfl rfl rfl
    obtain ⟨σ2, e2, f2, -⟩ := m_nextLaw (X := X) R.2.1 R1.2.2.1 (show N < 7 ^ nD T by omega) (fun d hd => by rw [f1.get 136 (by decide) rfl]; exact h136 d hd)
    rw [if_neg (by omega)] at e2
    refine ⟨σ2, ?_, (f1.mono rfl rfl).tr (f2.mono rfl rfl)⟩
    rw [e1, bq_46_112, e2, bsome]
    dsimp +instances only
    rw [bq_46_57, if_pos rfl, bsF_s]
    unfold bsF
    dsimp only
    rw [← k76]
    by_cases z : x2 = -1
    · rw [if_neg (fun q => q z), if_pos z, bq_46_138, f2.fld 76 rfl]
    · rw [if_pos z, if_neg z, if_pos (by omega), bq_46_138, f2.get 135 (by decide) rfl, k135 _ (by omega)]
  | n + 1, N, bg, bb, σ, eN, R, hs, h76, h135, h136 => by
    obtain ⟨σ1, e1, f1, k76, k135⟩ := m_bestS (X := X) (x2 := x2) R hs S hs2 (show N < 7 ^ nD T by omega) h76 h135 h136
    have R1 := R.fr f1 rfl rfl rfl
    obtain ⟨σ2, e2, f2, r2⟩ := m_nextLaw (X := X) R.2.1 R1.2.2.1 (show N < 7 ^ nD T by omega) (fun d hd => by rw [f1.get 136 (by decide) rfl]; exact h136 d hd)
    rw [if_pos (by omega)] at e2
    have f12 : Fr [128, 129, 135, 136] [76] σ σ2 := (f1.mono rfl rfl).tr (f2.mono rfl rfl)
    obtain ⟨σ3, e3, f3⟩ := m_bestL S hs2 hx n (N + 1) (if bg < gnS T sc s N then gnS T sc s N else bg) (if bg < gnS T sc s N then lwB (nD T) N else bb) σ2 (by omega) (R.fr f12 rfl rfl rfl) (by rw [f12.get 127 (by decide) rfl]; exact hs) ((f2.fld 76 rfl).trans k76) (fun d hd => by rw [f2.get 135 (by decide) rfl]; exact k135 d hd) (r2 (by omega))
    refine ⟨σ3, ?_, f12.tr f3⟩
    rw [e1, bq_46_112, e2, bsome]
    dsimp +instances only
    rw [bsF_s]
    exact e3
theorem q_best (h : Rel X σ) (x y : Int) : Qc X 45 46 [vI x, vI y] σ := by
  obtain ⟨T, l, F, R, hN, -⟩ := id h
  have hT := R.1
  have H := R.2.1
  have K := R.2.2.1
  have h4 := H.d4
  by_cases hx : 0 ≤ x ∧ x < ((2 ^ nM T : Nat) : Int)
  · by_cases hd : y = -1 ∨ (0 ≤ y ∧ y < (nD T : Int))
    · obtain ⟨s, rfl, hs2⟩ := set_lt H hx
      have p7 := pw7 h4
      -- the class
      have fa : Fr [73, 74] [] σ (am_row (am_upd σ 73 6 0) 74 (fun j => if j < 4 then 0 else (am_upd σ 73 6 0) 74 j)) := (Fr.rf.upd rfl (by decide)).row rfl (by decide)
      generalize hst : am_row (am_upd σ 73 6 0) 74 (fun j => if j < 4 then 0 else (am_upd σ 73 6 0) 74 j) = σa at fa
      have hTa : tl σa = T := (tl_fr fa rfl).trans hT
      have hsa : rs (σa 50) = rs (σ 127) := by rw [fa.get 50 (by decide) rfl, hN.1]
      obtain ⟨e, he, e1, hee⟩ := c_eaters (X := X) H hTa hsa hN.2 hs2
      obtain ⟨v, ev, hv⟩ := lp (fun i (v : Nat) => vv X 149 26 [some (vP 73), some (vP 49), none, some (vI (e : Int)), some (vI (v : Int)), some (vI (i : Int)), none, none] [] σa) (nD T) (fun i v => v = 7 ^ i) (fun i v hi hv => by
        refine ⟨7 ^ (i + 1), ?_, rfl⟩
        show vv X 149 26 [some (vP 73), some (vP 49), none, some (vI (e : Int)), some (vI (v : Int)), some (vI (i : Int)), none, none] [] σa = vv X 149 26 [some (vP 73), some (vP 49), none, some (vI (e : Int)), some (vI ((7 ^ (i + 1) : Nat) : Int)), some (vI ((i + 1 : Nat) : Int)), none, none] [] σa
        have pi := pw7 (show i ≤ 4 by omega)
        rw [bq_149_26, g_dishes, bsome]
        dsimp +instances only
        rw [tl_at hTa (k := 8) (by omega), H.d0, if_neg (by omega), w32_s1 (by omega), hv, Nat.pow_succ, show w32 (((7 ^ i : Nat) : Int) * 7) = ((7 ^ i * 7 : Nat) : Int) from by rw [w32_id (by omega) (by omega)]; omega]) (nD T) 0 1 (by omega) rfl
      obtain ⟨σ1, e2, f1, q6, q74⟩ := c_bestL (X := X) (s := s) H hN.2 he hee (7 ^ nD T - 1) 1 0 (fun _ => 0) σa (by omega) hTa hsa (Int.le_refl _) (by rw [← hst]; simp [ua, ra]) (fun d hd => by rw [← hst, re, if_pos hd])
      have fC : Fr [53, 54, 73, 74] [] σ σ1 := (fa.mono rfl rfl).tr f1
      have eC : vcV X 149 [vP 73, vP 49, vI (s : Int)] σ = some σ1 := vV_of ((bq_149_0 X _ σ).trans (by
        rw [fl_74, bsome, hst, e1, bsome]
        dsimp +instances only
        refine Eq.trans ev ?_
        show vv X 149 26 [some (vP 73), some (vP 49), none, some (vI (e : Int)), some (vI (v : Int)), some (vI (nD T : Int)), none, none] [] σa = _
        rw [bq_149_26, g_dishes, bsome]
        dsimp +instances only
        rw [tl_at hTa (k := 8) (by omega), H.d0, if_pos (Int.le_refl _), hv]
        exact e2)) rfl
      -- the reference
      have R1 := R.fr fC rfl rfl rfl
      obtain ⟨st, eL, fL, hL⟩ := lp (fun i (st : am_Sg) => vv X 46 25 [some (vP 80), some (vI (s : Int)), some (vI y), some (vI (i : Int)), none, none] [] st) 4 (fun i st => Fr [135, 136] [] σ1 st ∧ ∀ d, d < i → st 135 d = 0 ∧ st 136 d = 0) (fun i st hi hh => by
        refine ⟨am_upd (am_upd st 136 i 0) 135 i 0, ?_, (hh.1.upd rfl (by decide)).upd rfl (by decide), fun d hd' => ?_⟩
        · show vv X 46 25 [some (vP 80), some (vI (s : Int)), some (vI y), some (vI (i : Int)), none, none] [] st = vv X 46 25 [some (vP 80), some (vI (s : Int)), some (vI y), some (vI ((i + 1 : Nat) : Int)), none, none] [] _
          rw [bq_46_25, if_neg (by omega), if_pos (by omega), tn_nat, bq_46_44, w32_s1 (by omega)]
        · by_cases z : d = i
          · subst z
            simp [ua]
          · have := hh.2 d (by omega)
            simp [ua, z, this]) 4 0 σ1 (by omega) ⟨Fr.rf, fun d hd' => absurd hd' (Nat.not_lt_zero d)⟩
      have fb : Fr [135, 136] [76] σ1 (am_upd st 80 76 0) := (fL.mono rfl rfl).upf rfl
      have R2 := R1.fr fb rfl rfl rfl
      obtain ⟨σ3, e3, f3⟩ := m_bestL (X := X) (sc := rs (σ 127)) (s := s) hN.2 hs2 (x2 := y) (by omega) (7 ^ nD T - 1) 0 0 (fun _ => 0) (am_upd st 80 76 0) (by omega) R2 (by rw [fb.get 127 (by decide) rfl, fC.get 127 (by decide) rfl]) (by simp [ua]) (fun d hd' => by rw [un _ (by decide)]; exact (hL d hd').1) (fun d hd' => by rw [un _ (by decide), lwB_0]; exact (hL d hd').2)
      have eM : vv X 46 23 [some (vP 80), some (vI (s : Int)), some (vI y), none, none, none] [] σ1 = some (some (vI (if y = -1 then (bsF T (rs (σ 127)) s (7 ^ nD T - 1 + 1) 0 0 (fun _ => 0)).1 else (bsF T (rs (σ 127)) s (7 ^ nD T - 1 + 1) 0 0 (fun _ => 0)).2 y.toNat)), σ3) := by
        rw [bq_46_23]
        refine Eq.trans eL ?_
        show vv X 46 25 [some (vP 80), some (vI (s : Int)), some (vI y), some (vI 4), none, none] [] st = _
        rw [bq_46_25, if_pos (by omega)]
        exact e3
      have g0 : gnS T (rs (σ 127)) s 0 = 0 := by
        unfold gnS
        have : gainS T (lwB (nD T) 0) = 0 := by
          rw [lwB_0]
          exact sm_zero (fun d _ => by simp)
        rw [this, Int.mul_zero]
      have same : bsF T (rs (σ 127)) s (7 ^ nD T - 1 + 1) 0 0 (fun _ => 0) = bsF T (rs (σ 127)) s (7 ^ nD T - 1) 1 0 (fun _ => 0) := by
        rw [bsF_s, g0, if_neg (by omega), if_neg (by omega)]
      rw [same] at eM
      refine ⟨if y = -1 then (bsF T (rs (σ 127)) s (7 ^ nD T - 1) 1 0 (fun _ => 0)).1 else (bsF T (rs (σ 127)) s (7 ^ nD T - 1) 1 0 (fun _ => 0)).2 y.toNat, σ1, σ3, vI_of ((bq_45_0 X _ _ σ).trans ?_) rfl, vI_of ((bq_46_0 X _ _ σ1).trans ?_) rfl, h.scr (((fC.mono rfl rfl).tr (fb.mono rfl rfl)).tr (f3.mono rfl rfl))⟩
      · rw [c_isSet H hT, bsome]
        dsimp +instances only
        rw [if_pos hx, if_neg i10, c_isDishAll H hT, bsome]
        dsimp +instances only
        rw [if_pos hd, if_pos i10, eC, bsome, bq_45_54, bq_45_54, q6]
        by_cases z : y = -1
        · rw [if_neg (fun q => q z), if_pos z]
        · rw [if_pos z, if_pos (by omega), if_neg z, q74 _ (by omega)]
      · rw [m_isSet H R1.2.2.1, bsome]
        dsimp +instances only
        rw [if_pos hx, if_neg i10, m_isDish H R1.2.2.1, bsome]
        dsimp +instances only
        by_cases z : y = -1
        · rw [if_pos z, eM]
        · rw [if_neg z, if_pos (by omega), eM]
    · refine Qc.same h ⟨-1, ?_, ?_⟩ rfl rfl
      · refine (bq_45_0 X _ _ _).trans ?_
        rw [c_isSet H hT, bsome]
        dsimp +instances only
        rw [if_pos hx, if_neg i10, c_isDishAll H hT, bsome]
        dsimp +instances only
        rw [if_neg hd, if_neg (by decide), bq_45_16]
      · refine (bq_46_0 X _ _ _).trans ?_
        rw [m_isSet H K, bsome]
        dsimp +instances only
        rw [if_pos hx, if_neg i10, m_isDish H K, bsome]
        dsimp +instances only
        rw [if_neg (by omega), if_neg (by omega), bq_46_21]
  · refine Qc.same h ⟨-1, ?_, ?_⟩ rfl rfl
    · refine (bq_45_0 X _ _ _).trans ?_
      rw [c_isSet H hT, bsome]
      dsimp +instances only
      rw [if_neg hx, if_pos rfl, bq_45_16]
    · refine (bq_46_0 X _ _ _).trans ?_
      rw [m_isSet H K, bsome]
      dsimp +instances only
      rw [if_neg hx, if_pos rfl, bq_46_21]
end BSM
