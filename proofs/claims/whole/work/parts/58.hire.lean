/-! HIRE: the class's bins and bites -/
section HB
variable {X : Nat} {σ T : am_Sg} {b : Nat → Int}
def cnB (z : Int) : Nat → Nat
  | 0 => 0
  | c + 1 => cnB z c + (if bt1 z c = 0 then 0 else 1)
theorem cnB_s {z : Int} {c : Nat} : cnB z (c + 1) = cnB z c + (if bt1 z c = 0 then 0 else 1) := rfl
def cpB (T : am_Sg) (z : Int) (r : Nat) : Nat → Nat → Nat
  | 0 => fun _ => r
  | c + 1 => if bt1 z c = 0 then cpB T z r c else upN (cpB T z r c) (1 + cnB z c) (T 21 c).toNat
theorem cpB_s {z : Int} {r c : Nat} : cpB T z r (c + 1) = if bt1 z c = 0 then cpB T z r c else upN (cpB T z r c) (1 + cnB z c) (T 21 c).toNat := rfl
theorem cnB_le {z : Int} : ∀ c, cnB z c ≤ c
  | 0 => Nat.le_refl _
  | c + 1 => by
    have := cnB_le (z := z) c
    rw [cnB_s]
    split <;> omega
theorem cpB_0 {z : Int} {r : Nat} : ∀ c, cpB T z r c 0 = r
  | 0 => rfl
  | c + 1 => by
    have := cpB_0 (z := z) (r := r) c
    rw [cpB_s]
    split
    · exact this
    · unfold upN
      rw [if_neg (by omega)]
      exact this
theorem cpB_bd (H : TOk T) {z : Int} {r : Nat} (hr : r ≤ 99) (i : Nat) : ∀ c, c ≤ nB T → cpB T z r c i ≤ 99
  | 0, _ => hr
  | c + 1, hc => by
    have ih := cpB_bd H (z := z) hr i c (by omega)
    have q := H.2.2.2.2.2.2.1 c (by omega)
    rw [cpB_s]
    split
    · exact ih
    · unfold upN
      split
      · omega
      · exact ih
/-- from then on a belly's bin stays -/
theorem cpB_at {z : Int} {r c : Nat} (hz : ¬ bt1 z c = 0) : ∀ m, cpB T z r (c + 1 + m) (1 + cnB z c) = (T 21 c).toNat ∧ cnB z c + 1 ≤ cnB z (c + 1 + m)
  | 0 => by
    show cpB T z r (c + 1) (1 + cnB z c) = _ ∧ cnB z c + 1 ≤ cnB z (c + 1)
    rw [cpB_s, cnB_s, if_neg hz, if_neg hz]
    unfold upN
    rw [if_pos rfl]
    exact ⟨rfl, Nat.le_refl _⟩
  | m + 1 => by
    have ih := cpB_at (r := r) hz m
    show cpB T z r (c + 1 + m + 1) (1 + cnB z c) = _ ∧ cnB z c + 1 ≤ cnB z (c + 1 + m + 1)
    rw [cpB_s, cnB_s]
    split
    · exact ⟨ih.1, by omega⟩
    · unfold upN
      rw [if_neg (by omega)]
      exact ⟨ih.1, by omega⟩
theorem cpB_in {z : Int} {r c N : Nat} (hz : ¬ bt1 z c = 0) (hc : c < N) : cpB T z r N (1 + cnB z c) = (T 21 c).toNat := by
  have := (cpB_at (T := T) (r := r) hz (N - (c + 1))).1
  rwa [show c + 1 + (N - (c + 1)) = N by omega] at this
theorem smc_s {z : Int} {r c : Nat} : smN (cpB T z r (c + 1)) (1 + cnB z (c + 1)) = smN (cpB T z r c) (1 + cnB z c) + (if bt1 z c = 0 then 0 else (T 21 c).toNat) := by
  rw [cpB_s, cnB_s]
  by_cases hz : bt1 z c = 0
  · rw [if_pos hz, if_pos hz, if_pos hz]
    rfl
  · rw [if_neg hz, if_neg hz, if_neg hz, ← Nat.add_assoc]
    show smN _ (1 + cnB z c) + upN _ _ _ (1 + cnB z c) = _
    rw [smN_ext (g := cpB T z r c) (fun d hd => by unfold upN; rw [if_neg (by omega)])]
    unfold upN
    rw [if_pos rfl]
theorem smc_bd (H : TOk T) {z : Int} {r : Nat} (hr : r ≤ 99) : ∀ c, c ≤ nB T → smN (cpB T z r c) (1 + cnB z c) ≤ 99 * (c + 1)
  | 0, _ => by show 0 + r ≤ _; omega
  | c + 1, hc => by
    have ih := smc_bd H (z := z) hr c (by omega)
    have q := H.2.2.2.2.2.2.1 c (by omega)
    rw [smc_s]
    split <;> omega
theorem c_setBins (H : TOk T) (hT : tl σ = T) {z : Int} {r : Nat} (hr : r ≤ 99) : ∃ σ', vcI X 261 [vP 63, vI z, vI (r : Int)] σ = some (((smN (cpB T z r (nB T)) (1 + cnB z (nB T)) : Nat) : Int), σ') ∧ Fr [63, 65] [] σ σ' ∧ σ' 63 3 = ((1 + cnB z (nB T) : Nat) : Int) ∧ ∀ i, i < 1 + cnB z (nB T) → σ' 65 i = ((cpB T z r (nB T) i : Nat) : Int) := by
  have h6 := H.b6
  obtain ⟨τ, e, f, h3, h5⟩ := lp (fun c (τ : am_Sg) => vv X 261 17 [some (vP 63), some (vI z), none, some (vI ((smN (cpB T z r c) (1 + cnB z c) : Nat) : Int)), some (vI (c : Int))] [] τ) (nB T) (fun c τ => Fr [63, 65] [] σ τ ∧ τ 63 3 = ((1 + cnB z c : Nat) : Int) ∧ ∀ i, i < 1 + cnB z c → τ 65 i = ((cpB T z r c i : Nat) : Int)) (fun c τ hc hh => by
    obtain ⟨f, h3, h5⟩ := hh
    have hT' : tl τ = T := (tl_fr f rfl).trans hT
    have q := H.2.2.2.2.2.2.1 c hc
    have cl := cnB_le (z := z) c
    have sb := smc_bd H (z := z) hr c (by omega)
    have e0 : vv X 261 17 [some (vP 63), some (vI z), none, some (vI ((smN (cpB T z r c) (1 + cnB z c) : Nat) : Int)), some (vI (c : Int))] [] τ = if bt1 z c = 0 then vv X 261 80 [some (vP 63), some (vI z), none, some (vI ((smN (cpB T z r c) (1 + cnB z c) : Nat) : Int)), some (vI (c : Int))] [] τ else vv X 261 80 [some (vP 63), some (vI z), none, some (vI (w32 (((smN (cpB T z r c) (1 + cnB z c) : Nat) : Int) + T 21 c))), some (vI (c : Int))] [] (am_upd (am_upd τ 65 (1 + cnB z c) (T 21 c)) 63 3 (w32 (((1 + cnB z c : Nat) : Int) + 1))) := by
      rw [bq_261_17, g_bellies, bsome]
      dsimp +instances only
      rw [tl_at hT' (k := 8) (by omega), H.b0, if_neg (by omega), tl_at hT' (k := 21) (by omega), h3]
      show (if bt1 z c = 0 then _ else _) = _
      by_cases hz : bt1 z c = 0
      · rw [if_pos hz, if_pos hz]
      · rw [if_neg hz, if_neg hz, if_pos (by omega), if_pos (by omega), tn_nat, tn_nat]
    by_cases hz : bt1 z c = 0
    · refine ⟨τ, ?_, f, ?_, ?_⟩
      · show vv X 261 17 [some (vP 63), some (vI z), none, some (vI ((smN (cpB T z r c) (1 + cnB z c) : Nat) : Int)), some (vI (c : Int))] [] τ = vv X 261 17 [some (vP 63), some (vI z), none, some (vI ((smN (cpB T z r (c + 1)) (1 + cnB z (c + 1)) : Nat) : Int)), some (vI ((c + 1 : Nat) : Int))] [] τ
        rw [e0, if_pos hz, bq_261_80, w32_s1 (by omega), smc_s, if_pos hz]
        rfl
      · rw [h3, cnB_s, if_pos hz]
        rfl
      · rw [cnB_s, cpB_s, if_pos hz, if_pos hz]
        exact h5
    · refine ⟨am_upd (am_upd τ 65 (1 + cnB z c) (T 21 c)) 63 3 (w32 (((1 + cnB z c : Nat) : Int) + 1)), ?_, (f.upd rfl (by decide)).upd rfl (by decide), ?_, ?_⟩
      · show vv X 261 17 [some (vP 63), some (vI z), none, some (vI ((smN (cpB T z r c) (1 + cnB z c) : Nat) : Int)), some (vI (c : Int))] [] τ = vv X 261 17 [some (vP 63), some (vI z), none, some (vI ((smN (cpB T z r (c + 1)) (1 + cnB z (c + 1)) : Nat) : Int)), some (vI ((c + 1 : Nat) : Int))] [] _
        rw [e0, if_neg hz, bq_261_80, w32_s1 (by omega), smc_s, if_neg hz, w32_id (by omega) (by omega)]
        congr 7
        omega
      · rw [ue, upa, if_pos rfl, cnB_s, if_neg hz, w32_id (by omega) (by omega)]
        omega
      · rw [cnB_s, cpB_s, if_neg hz, if_neg hz]
        intro i hi
        rw [un _ (show ¬ (65 : Nat) = 63 by decide), ue, upa]
        unfold upN
        by_cases y : i = 1 + cnB z c
        · rw [if_pos y, if_pos y]
          omega
        · rw [if_neg y, if_neg y]
          exact h5 i (by omega)) (nB T) 0 (am_upd (am_upd σ 65 0 (r : Int)) 63 3 1) (by omega) ⟨(Fr.rf.upd rfl (by decide)).upd rfl (by decide), by rw [ue, upa, if_pos rfl]; rfl, fun i hi => by
    have i0 : i = 0 := by have : i < 1 + 0 := hi; omega
    rw [un _ (show ¬ (65 : Nat) = 63 by decide), ue, upa, if_pos i0]
    rfl⟩
  refine ⟨τ, vI_of ((bq_261_0 X _ _ σ).trans ?_) rfl, f, h3, h5⟩
  rw [bq_261_14]
  refine Eq.trans ?_ (e.trans ?_)
  · show _ = vv X 261 17 [some (vP 63), some (vI z), none, some (vI ((0 + r : Nat) : Int)), some (vI ((0 : Nat) : Int))] [] _
    rw [Nat.zero_add]
    rfl
  · show vv X 261 17 [some (vP 63), some (vI z), none, some (vI ((smN (cpB T z r (nB T)) (1 + cnB z (nB T)) : Nat) : Int)), some (vI (nB T : Int))] [] τ = _
    have hT' : tl τ = T := (tl_fr f rfl).trans hT
    rw [bq_261_17, g_bellies, bsome]
    dsimp +instances only
    rw [tl_at hT' (k := 8) (by omega), H.b0, if_pos (Int.le_refl _)]
/-- strides -/
theorem str_le {c : Nat → Nat} (hc : ∀ d, c d ≤ 6) : ∀ d, str c d ≤ 7 ^ d
  | 0 => Nat.le_refl _
  | d + 1 => by
    have ih := str_le hc d
    have := Nat.mul_le_mul ih (show c d + 1 ≤ 7 by have := hc d; omega)
    rw [str_s, Nat.pow_succ]
    exact this
theorem p7 {d : Nat} (hd : d ≤ 4) : 7 ^ d ≤ 2401 := by
  rcases (show d = 0 ∨ d = 1 ∨ d = 2 ∨ d = 3 ∨ d = 4 by omega) with e | e | e | e | e <;> subst e <;> decide
theorem bN6 (hb : BOk T b 6) {d : Nat} (hd : d < 4) : bN b d ≤ 6 := by have := hb.1 d hd; unfold bN; omega
theorem str6 (H : TOk T) (hb : BOk T b 6) {d : Nat} (hd : d ≤ nD T) : str (bN b) d ≤ 2401 := by
  have h4 := H.d4
  have e : ∀ d, d ≤ 4 → str (bN b) d = str (fun i => if i < 4 then bN b i else 0) d := by
    intro d
    induction d with
    | zero => intro _; rfl
    | succ d ih => intro h; rw [str_s, str_s, ih (by omega), if_pos (by omega)]
  rw [e d (by omega)]
  refine Nat.le_trans (str_le (fun i => ?_) d) (p7 (by omega))
  split
  next y => exact bN6 hb y
  next => omega
theorem c_strides (H : TOk T) (hT : tl σ = T) (h5 : b4 (σ 54) = b) (hb : BOk T b 6) : ∃ g, vcI X 262 [vP 63, vP 53] σ = some (((str (bN b) (nD T) : Nat) : Int), am_row σ 66 g) ∧ ∀ d, d < nD T → g d = ((str (bN b) d : Nat) : Int) := by
  have h4 := H.d4
  obtain ⟨g, e, hg⟩ := lp (fun d (g : Nat → Int) => vv X 262 4 [some (vP 63), some (vP 53), some (vI ((str (bN b) d : Nat) : Int)), some (vI (d : Int))] [] (am_row σ 66 g)) (nD T) (fun d g => ∀ i, i < d → g i = ((str (bN b) i : Nat) : Int)) (fun d g hd hh => by
    have b6 := bN6 hb (show d < 4 by omega)
    have e54 : σ 54 d = ((bN b d : Nat) : Int) := by
      have := hb.1 d (by omega)
      rw [← b4_in (f := σ 54) (show d < 4 by omega), h5]
      unfold bN
      omega
    have s1 := str6 H hb (show d + 1 ≤ nD T by omega)
    have f : Fr [66] [] σ (am_row σ 66 g) := Fr.rf.row rfl (by decide)
    have hT' : tl (am_row σ 66 g) = T := (tl_fr f rfl).trans hT
    refine ⟨up g d ((str (bN b) d : Nat) : Int), ?_, fun i hi => ?_⟩
    · show vv X 262 4 [some (vP 63), some (vP 53), some (vI ((str (bN b) d : Nat) : Int)), some (vI (d : Int))] [] (am_row σ 66 g) = vv X 262 4 [some (vP 63), some (vP 53), some (vI ((str (bN b) (d + 1) : Nat) : Int)), some (vI ((d + 1 : Nat) : Int))] [] _
      rw [bq_262_4, g_dishes, bsome]
      dsimp +instances only
      rw [tl_at hT' (k := 8) (by omega), H.d0, if_neg (by omega), if_pos (by omega), w32_s1 (by omega), tn_nat, rn _ (show ¬ (54 : Nat) = 66 by decide), e54, ur, w32_id (x := ((bN b d : Nat) : Int) + 1) (by omega) (by omega), show ((str (bN b) d : Nat) : Int) * (((bN b d : Nat) : Int) + 1) = ((str (bN b) (d + 1) : Nat) : Int) by rw [str_s]; push_cast; rfl, w32_id (by omega) (by omega)]
    · rw [upa]
      by_cases y : i = d
      · rw [if_pos y, y]
      · rw [if_neg y]
        exact hh i (by omega)) (nD T) 0 (σ 66) (by omega) (fun i hi => absurd hi (Nat.not_lt_zero _))
  rw [r0] at e
  refine ⟨g, vI_of ((bq_262_0 X σ).trans (Eq.trans e ?_)) rfl, hg⟩
  show vv X 262 4 [some (vP 63), some (vP 53), some (vI ((str (bN b) (nD T) : Nat) : Int)), some (vI (nD T : Int))] [] (am_row σ 66 g) = _
  have f : Fr [66] [] σ (am_row σ 66 g) := Fr.rf.row rfl (by decide)
  have hT' : tl (am_row σ 66 g) = T := (tl_fr f rfl).trans hT
  have s1 := str6 H hb (Nat.le_refl (nD T))
  rw [bq_262_4, g_dishes, bsome]
  dsimp +instances only
  rw [tl_at hT' (k := 8) (by omega), H.d0, if_pos (Int.le_refl _), if_neg (by omega)]
/-- one bite more -/
def okC (y : Int) (i d : Nat) : Prop := 0 < i ∨ bt1 y d = 0
theorem c_biteL (H : TOk T) {nb : Nat} {cap : Nat → Nat} (hnb : nb ≤ 7) (hc : ∀ i, i < nb → cap i ≤ 99) (h3 : σ 63 3 = (nb : Int)) (h5 : ∀ i, i < nb → σ 65 i = ((cap i : Nat) : Int)) {y : Int} {d : Nat} (hd : d < nD T) : ∀ n i u : Nat, i + n = nb → u < 128 → ∃ v, vv X 263 25 [some (vP 63), none, some (vI (d : Int)), some (vI y), some (vI ((wN T d : Nat) : Int)), some (vI (u : Int)), some (vI (i : Int)), none] [] σ = some (some (vI v), σ) ∧ WB nb (wN T) cap (okC y) i u d v
  | 0, i, u, e, _ => ⟨HG, by rw [bq_263_25, h3, if_pos (by omega)]; rfl, Or.inl ⟨rfl, fun i' a1 a2 => absurd a2 (by omega)⟩⟩
  | n + 1, i, u, e, hu => by
    obtain ⟨v, ev, hv⟩ := c_biteL H hnb hc h3 h5 (y := y) hd n (i + 1) 0 (by omega) (by omega)
    have w9 : wN T d ≤ 9 := by have := H.di d hd; unfold wN; omega
    have c1 := hc i (by omega)
    have s0 : stU i u i = u := by unfold stU; rw [if_pos rfl]
    have s1 : ∀ i', i + 1 ≤ i' → stU i u i' = stU (i + 1) 0 i' := fun i' q => by
      unfold stU
      rw [if_neg (by omega)]
      split <;> rfl
    have later : ¬ (okC y i d ∧ stU i u i + wN T d ≤ cap i) → WB nb (wN T) cap (okC y) i u d v := fun no => by
      rcases hv with q | ⟨i', a1, a2, a3, a4, a5, a6⟩
      · refine Or.inl ⟨q.1, fun i' b1 b2 => ?_⟩
        by_cases x : i' = i
        · rw [x]; exact no
        · rw [s1 i' (by omega)]
          exact q.2 i' (by omega) b2
      · refine Or.inr ⟨i', by omega, a2, a3, ?_, ?_, fun i'' b1 b2 => ?_⟩
        · rw [s1 i' a1]; exact a4
        · rw [s1 i' a1]; exact a5
        · by_cases x : i'' = i
          · rw [x]; exact no
          · rw [s1 i'' (by omega)]
            exact a6 i'' (by omega) b2
    have e87 : vv X 263 87 [some (vP 63), none, some (vI (d : Int)), some (vI y), some (vI ((wN T d : Nat) : Int)), none, some (vI (i : Int)), none] [] σ = some (some (vI v), σ) := by
      rw [bq_263_87, w32_s1 (by omega)]
      exact ev
    have e47 : okC y i d → ∃ v, vv X 263 47 [some (vP 63), none, some (vI (d : Int)), some (vI y), some (vI ((wN T d : Nat) : Int)), some (vI (u : Int)), some (vI (i : Int)), none] [] σ = some (some (vI v), σ) ∧ WB nb (wN T) cap (okC y) i u d v := fun ho => by
      by_cases x : u + wN T d ≤ cap i
      · refine ⟨((i * 128 + (stU i u i + wN T d) : Nat) : Int), ?_, Or.inr ⟨i, Nat.le_refl _, by omega, ho, by rw [s0]; exact x, rfl, fun i'' b1 b2 => absurd b2 (by omega)⟩⟩
        rw [bq_263_47, bq_263_52, if_neg (by decide), if_pos (by omega), tn_nat, h5 i (by omega), w32_id (x := (u : Int) + ((wN T d : Nat) : Int)) (by omega) (by omega), if_neg (by omega), w32_id (x := (i : Int) * 128) (by omega) (by omega), w32_id (x := (i : Int) * 128 + (u : Int)) (by omega) (by omega), w32_id (by omega) (by omega), s0]
        congr 4
        omega
      · refine ⟨v, ?_, later (fun q => x (by rw [s0] at q; exact q.2))⟩
        rw [bq_263_47, bq_263_52, if_neg (by decide), if_pos (by omega), tn_nat, h5 i (by omega), w32_id (x := (u : Int) + ((wN T d : Nat) : Int)) (by omega) (by omega), if_pos (by omega)]
        exact e87
    rw [bq_263_25, h3, if_neg (by omega)]
    by_cases x : 0 < i
    · rw [if_pos (by omega)]
      exact e47 (Or.inl x)
    · rw [if_neg (by omega)]
      by_cases q : bt1 y d = 0
      · rw [if_neg (fun r => r q)]
        exact e47 (Or.inr q)
      · rw [if_pos (show ¬ am_and (am_shr y (d : Int)) 1 = 0 from q), bq_263_52, if_pos rfl]
        refine ⟨v, e87, later (fun r => ?_)⟩
        rcases r.1 with s | s
        · exact x s
        · exact q s
theorem c_bite (H : TOk T) (hT : tl σ = T) {nb : Nat} {cap : Nat → Nat} (hnb : nb ≤ 7) (hc : ∀ i, i < nb → cap i ≤ 99) (h3 : σ 63 3 = (nb : Int)) (h5 : ∀ i, i < nb → σ 65 i = ((cap i : Nat) : Int)) {y : Int} {d i u : Nat} (hd : d < nD T) (hi : i < nb) (hu : u < 128) : ∃ v, vcI X 263 [vP 63, vI ((i * 128 + u : Nat) : Int), vI (d : Int), vI y] σ = some (v, σ) ∧ WB nb (wN T) cap (okC y) i u d v := by
  obtain ⟨v, ev, hv⟩ := c_biteL (X := X) H hnb hc h3 h5 (y := y) hd (nb - i) i u (by omega) hu
  refine ⟨v, vI_of ((bq_263_0 X _ _ _ σ).trans ?_) rfl, hv⟩
  have h4 := H.d4
  have w : T 10 d = ((wN T d : Nat) : Int) := by have := H.di d hd; unfold wN; omega
  rw [if_pos (by omega), tn_nat, tl_at hT (k := 10) (by omega), w, show am_rem ((i * 128 + u : Nat) : Int) 128 = (((i * 128 + u) % 128 : Nat) : Int) from am_rem_nat (b := 128) (by omega), show am_div ((i * 128 + u : Nat) : Int) 128 = (((i * 128 + u) / 128 : Nat) : Int) from am_div_nat (b := 128) (by omega), show (i * 128 + u) % 128 = u by omega, show (i * 128 + u) / 128 = i by omega]
  exact ev
end HB
