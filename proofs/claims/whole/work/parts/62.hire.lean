/-! HIRE: the reference's sets -/
section HR
variable {X l m : Nat} {σ T : am_Sg} {b sc : Nat → Int}
section MATH
variable {n most r : Nat} {w bb : Nat → Nat} {okS : Nat → Prop}
def manM (n : Nat) (w : Nat → Nat) (okS : Nat → Prop) (r : Nat) (k : Nat → Nat) : Prop := (∀ d, d < n → k d = 0 ∨ okS d) ∧ smN (fun d => k d * w d) n ≤ r
theorem manM_ext (k k' : Nat → Nat) (e : ∀ d, d < n → k d = k' d) (h : manM n w okS r k) : manM n w okS r k' := ⟨fun d hd => by rw [← e d hd]; exact h.1 d hd, by rw [smN_ext (g := fun d => k d * w d) (fun d hd => by rw [e d hd])]; exact h.2⟩
def LvB (bb : Nat → Nat) (Q : (Nat → Nat) → Prop) (v : Nat) : Prop := (∀ d, d < 4 → dg v d ≤ bb d) ∧ Q (fun d => bb d - dg v d)
theorem Lv_man (hn : n ≤ 4) (h12 : ∀ d, d < 4 → bb d ≤ 12) (h0 : ∀ d, n ≤ d → d < 4 → bb d = 0) {old okM : Nat → Prop} (hok : ∀ d, d < n → (okM d ↔ okS d)) (hold : ∀ u, u ≤ mostN bb → (old u ↔ u = mostN bb)) {v : Nat} : (∃ u, u ≤ mostN bb ∧ old u ∧ LeM okM u v ∧ dfM w u v ≤ r) ↔ LvB bb (manM n w okS r) v := by
  have dm : ∀ d, d < 4 → dg (mostN bb) d = bb d := dg_mk (fun d hd => by have := h12 d hd; omega)
  have es : dfM w (mostN bb) v = smN (fun d => (bb d - dg v d) * w d) n := by
    unfold dfM
    rw [smN_4 hn (fun d a1 a2 => by rw [dm d a2, h0 d a1 a2, Nat.zero_sub, Nat.zero_mul])]
    exact smN_ext fun d hd => by rw [dm d (by omega)]
  constructor
  · rintro ⟨u, hu, ou, h1, h2⟩
    have := (hold u hu).mp ou
    subst this
    refine ⟨fun d hd => by rw [← dm d hd]; exact (h1 d hd).1, fun d hd => ?_, by rw [← es]; exact h2⟩
    rcases (h1 d (by omega)).2 with q | q
    · rw [dm d (by omega)] at q
      exact Or.inl (show bb d - dg v d = 0 by omega)
    · exact Or.inr ((hok d hd).mp q)
  · rintro ⟨h1, h2, h3⟩
    refine ⟨mostN bb, Nat.le_refl _, (hold _ (Nat.le_refl _)).mpr rfl, fun d hd => ?_, by rw [es]; exact h3⟩
    rw [dm d hd]
    refine ⟨h1 d hd, ?_⟩
    by_cases q : d < n
    · rcases h2 d q with y | y
      · have := h1 d hd
        have y' : bb d - dg v d = 0 := y
        exact Or.inl (by omega)
      · exact Or.inr ((hok d q).mpr y)
    · have := h1 d hd
      rw [h0 d (by omega) hd] at this ⊢
      exact Or.inl (by omega)
theorem Lv_belly (hn : n ≤ 4) (h12 : ∀ d, d < 4 → bb d ≤ 12) (h0 : ∀ d, n ≤ d → d < 4 → bb d = 0) {old okM : Nat → Prop} (hok : ∀ d, d < n → okM d) {Q : (Nat → Nat) → Prop} (hQ : ∀ k k' : Nat → Nat, (∀ d, d < n → k d = k' d) → Q k → Q k') (hold : ∀ u, u ≤ mostN bb → (old u ↔ LvB bb Q u)) {v : Nat} (hv : v ≤ mostN bb) : (∃ u, u ≤ mostN bb ∧ old u ∧ LeM okM u v ∧ dfM w u v ≤ r) ↔ LvB bb (fun k => ∃ j : Nat → Nat, (∀ d, d < n → j d ≤ k d) ∧ smN (fun d => j d * w d) n ≤ r ∧ Q (fun d => k d - j d)) v := by
  constructor
  · rintro ⟨u, hu, ou, h1, h2⟩
    obtain ⟨q1, q2⟩ := (hold u hu).mp ou
    refine ⟨fun d hd => Nat.le_trans (h1 d hd).1 (q1 d hd), fun d => dg u d - dg v d, fun d hd => ?_, ?_, hQ _ _ (fun d hd => ?_) q2⟩
    · have := q1 d (by omega)
      show dg u d - dg v d ≤ bb d - dg v d
      omega
    · have : dfM w u v = smN (fun d => (dg u d - dg v d) * w d) n := smN_4 hn (fun d a1 a2 => by
        have := q1 d a2
        rw [h0 d a1 a2] at this
        rw [show dg u d - dg v d = 0 by omega, Nat.zero_mul])
      rw [← this]
      exact h2
    · have a1 := q1 d (by omega)
      have a2 := (h1 d (by omega)).1
      show bb d - dg u d = bb d - dg v d - (dg u d - dg v d)
      omega
  · rintro ⟨h1, j, h2, h3, h4⟩
    have k13 : ∀ d, d < 4 → (if d < n then dg v d + j d else 0) ≤ bb d := fun d hd => by
      by_cases q : d < n
      · rw [if_pos q]
        have a1 := h1 d hd
        have a2 : j d ≤ bb d - dg v d := h2 d q
        omega
      · rw [if_neg q]
        exact Nat.zero_le _
    have du : ∀ d, d < 4 → dg (mostN (fun d => if d < n then dg v d + j d else 0)) d = if d < n then dg v d + j d else 0 := dg_mk (fun d hd => by have := k13 d hd; have := h12 d hd; omega)
    have ul : mostN (fun d => if d < n then dg v d + j d else 0) ≤ mostN bb := mostN_le k13
    generalize mostN (fun d => if d < n then dg v d + j d else 0) = u at *
    refine ⟨u, ul, (hold u ul).mpr ⟨fun d hd => by rw [du d hd]; exact k13 d hd, hQ _ _ (fun d hd => ?_) h4⟩, fun d hd => ?_, ?_⟩
    · show bb d - dg v d - j d = bb d - dg u d
      rw [du d (by omega), if_pos hd]
      omega
    · rw [du d hd]
      by_cases q : d < n
      · rw [if_pos q]
        exact ⟨by omega, Or.inr (hok d q)⟩
      · rw [if_neg q]
        have := h1 d hd
        rw [h0 d (by omega) hd] at this
        exact ⟨by omega, Or.inl (by omega)⟩
    · have : dfM w u v = smN (fun d => j d * w d) n := by
        unfold dfM
        rw [smN_4 hn (fun d a1 a2 => by rw [du d a2, if_neg (by omega), Nat.zero_sub, Nat.zero_mul])]
        exact smN_ext fun d hd => by rw [du d (by omega), if_pos hd, show dg v d + j d - dg v d = j d by omega]
      rw [this]
      exact h3
end MATH
theorem bit6_f : ∀ n : Fin 7, ∀ s : Fin 64, s.val < 2 ^ n.val → ∀ e : Fin 6, n.val ≤ e.val → bt1 (s.val : Int) e.val = 0 := by decide +kernel
theorem GU_tail {n : Nat} {w : Nat → Nat} {P : (Nat → Nat) → Prop} {z : Int} {c : Nat} {k : Nat → Nat} : ∀ i, (∀ e, c ≤ e → e < c + i → bt1 z e = 0) → (GU n w T P z (c + i) k ↔ GU n w T P z c k)
  | 0, _ => Iff.rfl
  | i + 1, h => by
    have ih := GU_tail (n := n) (w := w) (P := P) (z := z) (c := c) (k := k) i (fun e h1 h2 => h e h1 (by omega))
    have z0 := h (c + i) (by omega) (by omega)
    show GU n w T P z (c + i + 1) k ↔ _
    rw [GU_s]
    constructor
    · rintro (⟨_, q⟩ | ⟨q, _⟩)
      · exact ih.mp q
      · exact absurd z0 q
    · intro q
      exact Or.inl ⟨z0, ih.mpr q⟩
theorem feeS_tail {z : Int} {c : Nat} : ∀ i, (∀ e, c ≤ e → e < c + i → bt1 z e = 0) → feeS T z (c + i) = feeS T z c
  | 0, _ => rfl
  | i + 1, h => by
    have ih := feeS_tail (c := c) i (fun e h1 h2 => h e h1 (by omega))
    have z0 := h (c + i) (by omega) (by omega)
    show feeS T z (c + i) + bt1 z (c + i) * T 22 (c + i) = _
    rw [ih, z0]
    omega
def okS (T : am_Sg) (sc : Nat → Int) (m d : Nat) : Prop := ¬ shut T sc m ∧ bt1 (T 17 m) d = 0
def GdM (T : am_Sg) (sc b : Nat → Int) (m s : Nat) : Prop := GU (nD T) (wN T) T (manM (nD T) (wN T) (okS T sc m) (T 13 m - sc m).toNat) (s : Int) (nB T) (bN b)
/-- one set's trial -/
theorem m_set (H : TOk T) (K : TM σ T l) (hb : BOk T b 12) (hs : rs (σ 128) = sc) (S : ScOk T sc) (hm : m < nM T) {s : Nat} (hs6 : s < 2 ^ nB T) {x4 x6 : Int} : ∃ τ, Fr [131, 132] [] σ τ ∧ vv X 127 147 [some (vP 80), some (vI (m : Int)), none, some (vI ((mostN (bN b) : Nat) : Int)), some (vI x4), some (vI (s : Int)), some (vI x6), none] [] σ = @ite _ (GdM T sc b m s) (Classical.propDecidable _) (vv X 127 266 [some (vP 80), some (vI (m : Int)), none, some (vI ((mostN (bN b) : Nat) : Int)), some (vI (s : Int)), some (vI (s : Int)), none, none] [] (am_upd τ 80 71 x6)) (vv X 127 266 [some (vP 80), some (vI (m : Int)), none, some (vI ((mostN (bN b) : Nat) : Int)), some (vI x4), some (vI (s : Int)), none, none] [] τ) := by
  have h4 := H.d4
  have h6 := H.b6
  have h8 := H.m8
  have l1 := K.l1
  have p6 := pow6 h6
  have sm := S.1 m hm
  have hM := H.mi m hm
  have b12 : ∀ d, d < 4 → bN b d ≤ 12 := fun d hd => by have := hb.1 d hd; unfold bN; omega
  have b0 : ∀ d, nD T ≤ d → d < 4 → bN b d = 0 := fun d a1 a2 => by unfold bN; rw [hb.2 d a1 a2]; rfl
  have ml : mostN (bN b) < 28561 := mostN_lt (fun d hd => by have := b12 d hd; omega)
  -- all is left
  obtain ⟨g, eg, hg⟩ := lp (fun i (g : Nat → Int) => vv X 127 150 [some (vP 80), some (vI (m : Int)), none, some (vI ((mostN (bN b) : Nat) : Int)), some (vI x4), some (vI (s : Int)), some (vI x6), some (vI (i : Int))] [] (am_row σ 132 g)) (mostN (bN b) + 1) (fun i g => ∀ v, v < i → g v = if v = mostN (bN b) then 1 else 0) (fun i g hi hh => by
    refine ⟨up g i (if i = mostN (bN b) then 1 else 0), ?_, fun v hv => ?_⟩
    · show vv X 127 150 [some (vP 80), some (vI (m : Int)), none, some (vI ((mostN (bN b) : Nat) : Int)), some (vI x4), some (vI (s : Int)), some (vI x6), some (vI (i : Int))] [] (am_row σ 132 g) = vv X 127 150 [some (vP 80), some (vI (m : Int)), none, some (vI ((mostN (bN b) : Nat) : Int)), some (vI x4), some (vI (s : Int)), some (vI x6), some (vI ((i + 1 : Nat) : Int))] [] _
      rw [bq_127_150, if_neg (by omega)]
      by_cases z : i = mostN (bN b)
      · rw [if_pos z, if_neg (fun q => q (by rw [z])), bq_127_173, if_pos ⟨by omega, by omega, okZ1⟩, tn_nat, ur, w32_s1 (by omega)]
      · rw [if_neg z, if_pos (by omega), bq_127_173, if_pos ⟨by omega, by omega, okZ0⟩, tn_nat, ur, w32_s1 (by omega)]
    · rw [upa]
      by_cases z : v = i
      · rw [if_pos z, z]
      · rw [if_neg z]
        exact hh v (by omega)) (mostN (bN b) + 1) 0 (σ 132) (by omega) (fun v hv => absurd hv (Nat.not_lt_zero _))
  rw [r0] at eg
  have f1 : Fr [131, 132] [] σ (am_row σ 132 g) := Fr.rf.row rfl (by decide)
  have K1 := K.fr f1 rfl
  have s1 : rs ((am_row σ 132 g) 128) = sc := by rw [f1.get 128 (by decide) rfl]; exact hs
  have em : (am_row σ 132 g) 128 m = sc m := by rw [← s1, rs_in (by omega)]
  obtain ⟨E, hE, eE, bE⟩ := m_eats (X := X) H K1 s1 S hm
  obtain ⟨rr, hrr⟩ : ∃ rr : Nat, T 13 m - sc m = (rr : Int) := ⟨(T 13 m - sc m).toNat, by omega⟩
  obtain ⟨σ2, e2, f2, v2⟩ := m_one (X := X) H K1 ml (show rr ≤ 99 by omega) (E := (E : Int))
  have f12 : Fr [131, 132] [] σ σ2 := f1.tr f2
  have man : ∀ v, v ≤ mostN (bN b) → (¬ σ2 132 v = 0 ↔ LvB (bN b) (GU (nD T) (wN T) T (manM (nD T) (wN T) (okS T sc m) (T 13 m - sc m).toNat) (s : Int) 0) v) := fun v hv => by
    rw [v2 v hv, show (T 13 m - sc m).toNat = rr by omega]
    refine Lv_man (old := fun u => ¬ (am_row σ 132 g) 132 u = 0) (okM := okE T (E : Int)) h4 b12 b0 (fun d hd => ?_) (fun u hu => ?_)
    · have q := bE d (by omega)
      unfold okE okS
      rcases bt01 (show E < 256 by omega) (show d < 8 by omega) with y | y
      · exact ⟨fun x => absurd y x.2, fun x => absurd (q.mpr ⟨hd, x.1, x.2⟩) (by omega)⟩
      · exact ⟨fun _ => ⟨(q.mp y).2.1, (q.mp y).2.2⟩, fun _ => ⟨hd, by omega⟩⟩
    · show ¬ (am_row σ 132 g) 132 u = 0 ↔ _
      rw [re, hg u (by omega)]
      split
      next q => exact ⟨fun _ => q, fun _ => i10⟩
      next q => exact ⟨fun t => absurd rfl t, fun t => absurd t q⟩
  -- each hired one
  obtain ⟨τ, eτ, fτ, vτ⟩ := lp (fun c (τ : am_Sg) => vv X 127 198 [some (vP 80), some (vI (m : Int)), none, some (vI ((mostN (bN b) : Nat) : Int)), some (vI x4), some (vI (s : Int)), some (vI x6), some (vI (c : Int))] [] τ) 6 (fun c τ => Fr [131, 132] [] σ τ ∧ ∀ v, v ≤ mostN (bN b) → (¬ τ 132 v = 0 ↔ LvB (bN b) (GU (nD T) (wN T) T (manM (nD T) (wN T) (okS T sc m) (T 13 m - sc m).toNat) (s : Int) c) v)) (fun c τ hc hh => by
    obtain ⟨ff, hv⟩ := hh
    have Kτ := K.fr ff rfl
    have nx : ∀ τ', vv X 127 238 [some (vP 80), some (vI (m : Int)), none, some (vI ((mostN (bN b) : Nat) : Int)), some (vI x4), some (vI (s : Int)), some (vI x6), some (vI (c : Int))] [] τ' = vv X 127 198 [some (vP 80), some (vI (m : Int)), none, some (vI ((mostN (bN b) : Nat) : Int)), some (vI x4), some (vI (s : Int)), some (vI x6), some (vI ((c + 1 : Nat) : Int))] [] τ' := fun τ' => by rw [bq_127_238, w32_s1 (by omega)]
    rcases bt01 (show s < 256 by omega) (show c < 8 by omega) with z | z
    · refine ⟨τ, ?_, ff, fun v hvm => ?_⟩
      · show vv X 127 198 [some (vP 80), some (vI (m : Int)), none, some (vI ((mostN (bN b) : Nat) : Int)), some (vI x4), some (vI (s : Int)), some (vI x6), some (vI (c : Int))] [] τ = _
        rw [bq_127_198, if_neg (by omega), if_pos (show ¬ am_and (am_shr (s : Int) (c : Int)) 1 = 1 by show ¬ bt1 (s : Int) c = 1; omega)]
        exact nx τ
      · rw [hv v hvm]
        unfold LvB
        refine and_congr Iff.rfl ?_
        rw [GU_s]
        exact ⟨fun q => Or.inl ⟨z, q⟩, fun q => q.elim (fun q => q.2) (fun q => absurd z q.1)⟩
    · have cB : c < nB T := Classical.byContradiction fun q => by
        have := bit6_f ⟨nB T, by omega⟩ ⟨s, by omega⟩ hs6 ⟨c, hc⟩ (by show nB T ≤ c; omega)
        have : bt1 (s : Int) c = 0 := this
        omega
      have tb := H.2.2.2.2.2.2.1 c cB
      obtain ⟨q, hq⟩ : ∃ q : Nat, T 21 c = (q : Int) := ⟨(T 21 c).toNat, by omega⟩
      obtain ⟨τ', e', f', v'⟩ := m_one (X := X) H Kτ ml (show q ≤ 99 by omega) (E := 15)
      refine ⟨τ', ?_, ff.tr f', fun v hvm => ?_⟩
      · show vv X 127 198 [some (vP 80), some (vI (m : Int)), none, some (vI ((mostN (bN b) : Nat) : Int)), some (vI x4), some (vI (s : Int)), some (vI x6), some (vI (c : Int))] [] τ = _
        have i6 : w32 (w32 (6 * τ 80 18) + (c : Int)) = ((6 * l + c : Nat) : Int) := by
          rw [Kτ.l0, w32_id (x := 6 * (l : Int)) (by omega) (by omega), w32_id (by omega) (by omega)]
          omega
        rw [bq_127_198, if_neg (by omega), if_neg (show ¬ ¬ am_and (am_shr (s : Int) (c : Int)) 1 = 1 from fun x => x z), i6, if_pos (by omega), tn_nat, (Kτ.bi c cB).1, hq, e', bsome]
        exact nx τ'
      · rw [v' v hvm]
        have := Lv_belly (w := wN T) (r := q) (old := fun u => ¬ τ 132 u = 0) (okM := okE T 15) h4 b12 b0 (fun d hd => ⟨hd, by
          have : ∀ d : Fin 4, ¬ bt1 15 d.val = 0 := by decide +kernel
          exact this ⟨d, by omega⟩⟩) (GU_ext (T := T) (n := nD T) (w := wN T) (z := (s : Int)) manM_ext c) hv hvm
        rw [this]
        unfold LvB
        refine and_congr Iff.rfl ?_
        rw [GU_s, show (T 21 c).toNat = q by omega]
        exact ⟨fun x => Or.inr ⟨by omega, x⟩, fun x => x.elim (fun x => absurd x.1 (by omega)) (fun x => x.2)⟩) 6 0 σ2 (by omega) ⟨f12, man⟩
  refine ⟨τ, fτ, ?_⟩
  have last : ¬ τ 132 0 = 0 ↔ GdM T sc b m s := by
    rw [vτ 0 (Nat.zero_le _)]
    have z0 : ∀ d, dg 0 d = 0 := fun d => by unfold dg; rw [Nat.zero_div]
    have t6 := GU_tail (T := T) (n := nD T) (w := wN T) (P := manM (nD T) (wN T) (okS T sc m) (T 13 m - sc m).toNat) (z := (s : Int)) (c := nB T) (k := bN b) (6 - nB T) (fun e h1 h2 => bit6_f ⟨nB T, by omega⟩ ⟨s, by omega⟩ hs6 ⟨e, by omega⟩ h1)
    rw [show nB T + (6 - nB T) = 6 by omega] at t6
    unfold GdM LvB
    rw [← t6]
    constructor
    · intro x
      exact GU_ext manM_ext 6 _ _ (fun d hd => by rw [z0 d]; rfl) x.2
    · intro x
      exact ⟨fun d hd => by rw [z0 d]; exact Nat.zero_le _, GU_ext manM_ext 6 _ _ (fun d hd => by rw [z0 d]; rfl) x⟩
  rw [bq_127_147]
  refine Eq.trans eg ?_
  show vv X 127 150 [some (vP 80), some (vI (m : Int)), none, some (vI ((mostN (bN b) : Nat) : Int)), some (vI x4), some (vI (s : Int)), some (vI x6), some (vI ((mostN (bN b) + 1 : Nat) : Int))] [] (am_row σ 132 g) = _
  rw [bq_127_150, if_pos (by omega), m_room H K1 hm, bsome]
  dsimp +instances only
  rw [eE, bsome]
  dsimp +instances only
  rw [em, w32_id (x := T 13 m - sc m) (by omega) (by omega), hrr, e2, bsome]
  refine Eq.trans eτ ?_
  show vv X 127 198 [some (vP 80), some (vI (m : Int)), none, some (vI ((mostN (bN b) : Nat) : Int)), some (vI x4), some (vI (s : Int)), some (vI x6), some (vI 6)] [] τ = _
  rw [bq_127_198, if_pos (by omega)]
  by_cases q : GdM T sc b m s
  · rw [if_pos (last.mpr q), if_pos q]
  · rw [if_neg (fun x => q (last.mp x)), if_neg q]
end HR
