/-! READ: what a text without a fault tells -/
section PW
variable {X N : Nat} {σ τ τ1 T : am_Sg} {sd : Nat}
/-- T is what the draft holds -/
def DT (σ T : am_Sg) : Prop := (∀ j, j < 6 → T 8 j = σ 28 j) ∧ (∀ k j, 10 ≤ k → k ≤ 12 → j < 4 → T k j = σ (k + 20) j) ∧ (∀ k j, 13 ≤ k → k ≤ 18 → j < 8 → T k j = σ (k + 20) j) ∧ (∀ j, j < 32 → T 19 j = σ 39 j) ∧ (∀ j, j < 8 → T 20 j = σ 40 j) ∧ (∀ k j, 21 ≤ k → k ≤ 22 → j < 6 → T k j = σ (k + 20) j) ∧ (∀ k j, 23 ≤ k → k ≤ 24 → j < 20 → T k j = σ (k + 20) j) ∧ (∀ j, j < 8 → T 25 j = σ 45 j) ∧ (∀ j, j < 400 → T 26 j = σ 46 j) ∧ T 7 19 = σ 27 19 ∧ T 7 20 = σ 27 20
theorem DT.cn {s : Nat} (h : DT σ T) (hs : s < 6) : (T 8 s).toNat = cn σ s := by
  unfold _root_.Jvm.Pilot.CEatenTollLaw_law_r5762_0145bc.cn
  rw [h.1 s hs]
theorem told_ok (hC : CI σ τ sd) (hI : TI σ τ sd) (h : DT σ T) : TOk T := by
  obtain ⟨-, hDi, hMe, hBe, hGo, -, -⟩ := hI
  obtain ⟨c8, c10, c13, c19, c20, c21, c23, c25, c26, -, -⟩ := id h
  have b0 := hC.2.1.1 0 (by decide)
  have b1 := hC.2.1.1 1 (by decide)
  have b2 := hC.2.1.1 2 (by decide)
  have b3 := hC.2.1.2.1
  have x0 : cn σ 0 ≤ 4 := b0.2
  have x1 : cn σ 1 ≤ 8 := b1.2
  have x2 : cn σ 2 ≤ 6 := b2.2
  have e0 : nD T = cn σ 0 := h.cn (by decide)
  have e1 : nM T = cn σ 1 := h.cn (by decide)
  have e2 : nB T = cn σ 2 := h.cn (by decide)
  have e3 : nG T = cn σ 3 := h.cn (by decide)
  unfold TOk
  rw [e0, e1, e2, e3, c8 0 (by decide), c8 1 (by decide), c8 2 (by decide), c8 3 (by decide)]
  refine ⟨⟨b0.1, x0⟩, ⟨b1.1, x1⟩, ⟨b2.1, x2⟩, b3, fun d hd => ?_, fun m hm => ?_, fun b hb => ?_, fun g hg => ?_⟩
  · rw [c10 10 d (by decide) (by decide) (by omega), c10 11 d (by decide) (by decide) (by omega), c10 12 d (by decide) (by decide) (by omega)]
    exact (hDi d hd).2
  · have q := hMe m hm
    rw [c13 13 m (by decide) (by decide) (by omega), c13 14 m (by decide) (by decide) (by omega), c13 15 m (by decide) (by decide) (by omega), c13 17 m (by decide) (by decide) (by omega)]
    exact ⟨q.2.1.1, q.2.1.2.1, q.2.1.2.2.1, q.2.1.2.2.2.1, q.2.1.2.2.2.2.1, q.2.1.2.2.2.2.2, q.2.2.1.1, q.2.2.1.2⟩
  · rw [c21 21 b (by decide) (by decide) (by omega), c21 22 b (by decide) (by decide) (by omega)]
    exact (hBe b hb).2
  · rw [c23 23 g (by decide) (by decide) (by omega), c23 24 g (by decide) (by decide) (by omega)]
    exact (hGo g hg).2
/-- the reference's side holds the same -/
theorem told_tm (hC : CI σ τ sd) (hI : TI σ τ sd) (h : DT σ T) (hk : ∀ k, 91 ≤ k → k ≤ 121 → τ1 k = τ k) (h18 : τ1 80 18 = (sd : Int)) : TM τ1 T sd := by
  obtain ⟨-, hDi, hMe, hBe, hGo, hDe, -⟩ := hI
  obtain ⟨c8, c10, c13, c19, c20, c21, c23, c25, c26, -, -⟩ := id h
  have x0 : cn σ 0 ≤ 4 := (hC.2.1.1 0 (by decide)).2
  have x1 : cn σ 1 ≤ 8 := (hC.2.1.1 1 (by decide)).2
  have x2 : cn σ 2 ≤ 6 := (hC.2.1.1 2 (by decide)).2
  have x3 := hC.2.1.2.1.2
  have e0 : nD T = cn σ 0 := h.cn (by decide)
  have e1 : nM T = cn σ 1 := h.cn (by decide)
  have e2 : nB T = cn σ 2 := h.cn (by decide)
  have e3 : nG T = cn σ 3 := h.cn (by decide)
  have e4 : nE T = cn σ 4 := h.cn (by decide)
  obtain ⟨y0, y1, y2, y3, y4, -⟩ := hC.2.2.1
  unfold TM
  rw [e0, e1, e2, e3, e4, c8 0 (by decide), c8 1 (by decide), c8 2 (by decide), c8 3 (by decide), c8 4 (by decide), hk 91 (by decide) (by decide), hk 95 (by decide) (by decide), hk 112 (by decide) (by decide), hk 115 (by decide) (by decide), hk 118 (by decide) (by decide), hk 92 (by decide) (by decide), hk 93 (by decide) (by decide), hk 94 (by decide) (by decide), hk 96 (by decide) (by decide), hk 97 (by decide) (by decide), hk 98 (by decide) (by decide), hk 99 (by decide) (by decide), hk 100 (by decide) (by decide), hk 101 (by decide) (by decide), hk 102 (by decide) (by decide), hk 103 (by decide) (by decide), hk 113 (by decide) (by decide), hk 114 (by decide) (by decide), hk 116 (by decide) (by decide), hk 117 (by decide) (by decide)]
  refine ⟨⟨h18, hC.1.2⟩, ⟨y0, y1, y2, y3, y4, hC.2.1.2.2.1.1, hC.2.1.2.2.1.2⟩, fun d hd => ?_, fun m hm => ?_, fun m hm d hd => ?_, fun b hb => ?_, fun g hg => ?_, fun m hm => ?_⟩
  · rw [c10 10 d (by decide) (by decide) (by omega), c10 11 d (by decide) (by decide) (by omega), c10 12 d (by decide) (by decide) (by omega)]
    exact (hDi d hd).1
  · have q := hMe m hm
    rw [c13 13 m (by decide) (by decide) (by omega), c13 14 m (by decide) (by decide) (by omega), c13 15 m (by decide) (by decide) (by omega), c13 16 m (by decide) (by decide) (by omega), c13 18 m (by decide) (by decide) (by omega)]
    exact ⟨q.1.1, q.1.2.1, q.1.2.2.1, q.1.2.2.2, q.2.2.2.1⟩
  · have q := (hMe m hm).2.2.2.2 d hd
    rw [c13 17 m (by decide) (by decide) (by omega), c19 (4 * m + d) (by omega)]
    exact q
  · rw [c21 21 b (by decide) (by decide) (by omega), c21 22 b (by decide) (by decide) (by omega)]
    exact (hBe b hb).1
  · rw [c23 23 g (by decide) (by decide) (by omega), c23 24 g (by decide) (by decide) (by omega)]
    exact (hGo g hg).1
  · rw [c20 m (by omega), netS_fr (hk 119 (by decide) (by decide)) (hk 120 (by decide) (by decide)) (hk 121 (by decide) (by decide))]
    exact hDe m (by omega)
/-- the laws, on both sides -/
theorem told_laws (X : Nat) (hC : CI σ τ sd) (hI : TI σ τ sd) (h : DT σ T) (hk : ∀ k, (105 ≤ k ∧ k ≤ 111) ∨ k = 122 ∨ k = 123 → τ1 k = τ k) (h18 : τ1 80 18 = (sd : Int)) : ∃ F, LC X T F ∧ LM X τ1 T sd F ∧ FOk F := by
  obtain ⟨-, -, -, -, -, -, ⟨C, K, B, F, ⟨h1, h1'⟩, ⟨h2, h2'⟩, ⟨h3, h3'⟩, h4, h5⟩⟩ := hI
  obtain ⟨-, -, -, -, -, -, -, c25, c26, c19, c20⟩ := id h
  have x0 : cn σ 0 ≤ 4 := (hC.2.1.1 0 (by decide)).2
  have e0 : nD T = cn σ 0 := h.cn (by decide)
  have sd1 := hC.1.2
  refine ⟨fun g d v => if g < 2 ∧ d < 4 then F g d v else 0, ⟨fun g d hg hd => ?_, fun g d hg hd z v w hvw => ?_⟩, fun g d hg hd s1 ag => ?_, fun g d v => ?_⟩
  · rw [e0] at hd
    have d4 : d < 4 := by omega
    have i8 : 4 * g + d < 8 := by omega
    rw [c25 _ i8]
    rcases h5 g d hg d4 with ⟨a1, -, a3⟩ | ⟨p, e, b, b', brs, E, ⟨a1, a2, a3⟩, -, a9, -, a11⟩
    · exact Or.inl ⟨by rw [a1]; decide, fun v => by dsimp only; rw [if_pos ⟨hg, d4⟩]; exact a3 v⟩
    · refine Or.inr ⟨by rw [a1]; exact Int.natCast_nonneg _, fun s s7 s26 => ?_⟩
      obtain ⟨s', q1, q2⟩ := c_law X h1' a3 brs p s (by rw [s7, c19]; exact h1) (by
        rw [s26]
        exact a2.ag (fun i i1 i2 => c26 i (by omega))) a9
      refine ⟨lawV (vf (s 58)) brs E, s', vI_of ((bq_199_0 X _ s).trans ?_) rfl, q2, ?_⟩
      · rw [a1]
        exact q1
      · dsimp only
        rw [if_pos ⟨hg, d4⟩]
        exact (a11 _).symm
  · rw [e0] at hd
    have d4 : d < 4 := by omega
    dsimp only
    rw [if_pos ⟨hg, d4⟩, if_pos ⟨hg, d4⟩]
    rcases h5 g d hg d4 with ⟨-, -, a3⟩ | ⟨p, e, b, b', brs, E, -, -, a9, a10, a11⟩
    · rw [a3, a3]
    · rw [a11, a11, law_nv hvw a9 (a10 (by rw [← c20]; exact z))]
  · rw [e0] at hd
    have d4 : d < 4 := by omega
    have ix : 8 * sd + 4 * g + d < 16 := by omega
    have ixi : (0 : Int) ≤ ((8 * sd + 4 * g + d : Nat) : Int) ∧ ((8 * sd + 4 * g + d : Nat) : Int) < 16 := by omega
    have e18 : (τ1 80 18).toNat = sd := by rw [h18]; exact tn_nat sd
    have ag1 : ∀ k j, ((105 ≤ k ∧ k ≤ 111) ∨ k = 122 ∨ k = 123) → sdp sd k j → s1 k j = τ k j := fun k j hk' hj => by
      rw [ag.1 k hk' j (by rw [e18]; exact hj), hk k hk']
    have s105 : s1 105 (8 * sd + 4 * g + d) = τ 105 (8 * sd + 4 * g + d) := ag1 105 _ (Or.inl ⟨by decide, by decide⟩) (by unfold sdp; rw [if_pos (by decide)]; omega)
    have s106 : s1 106 (8 * sd + 4 * g + d) = τ 106 (8 * sd + 4 * g + d) := ag1 106 _ (Or.inl ⟨by decide, by decide⟩) (by unfold sdp; rw [if_pos (by decide)]; omega)
    have F63 : Fr [] [63] s1 (am_upd s1 80 63 0) := Fr.rf.upf rfl
    dsimp only
    rw [if_pos ⟨hg, d4⟩]
    rcases h5 g d hg d4 with ⟨-, a2, a3⟩ | ⟨p, e, b, b', brs, E, -, ⟨a4, a5, a6, a7, a8⟩, a9, -, a11⟩
    · refine ⟨am_upd s1 80 63 0, vI_of ((bq_201_0 X _ s1).trans ?_) rfl, F63.mono rfl rfl⟩
      rw [if_pos ixi, tn_nat, bq_201_12, if_pos ixi, tn_nat, F63.get 106 (by decide) rfl, s105, s106, a2, if_pos (Int.le_refl _), a3]
    · obtain ⟨s', q1, q2⟩ := m_law X (sd := sd) (K := K) (q := 8 * sd + 4 * g + d) (e := b') (E := E) (by omega) ix (by omega) brs b (am_upd s1 80 63 0) (by rw [F63.get 106 (by decide) rfl, s106]; exact a5) (a7.ag (Nat.le_refl _) (fun k i k1 k2 i1 i2 => by
        rw [F63.get k (fun q => by rw [q] at k1; exact absurd k1 (by decide)) rfl]
        exact ag1 k i (Or.inl ⟨by omega, k2⟩) (by unfold sdp; rw [if_neg (by omega), if_pos k2]; omega)) (fun i i1 i2 => by
        rw [F63.get 122 (by decide) rfl, F63.get 123 (by decide) rfl]
        exact ⟨ag1 122 i (Or.inr (Or.inl rfl)) (by unfold sdp; rw [if_neg (by decide), if_neg (by decide)]; omega), ag1 123 i (Or.inr (Or.inr rfl)) (by unfold sdp; rw [if_neg (by decide), if_neg (by decide)]; omega)⟩)) a9 rfl
      refine ⟨s', vI_of ((bq_201_0 X _ s1).trans ?_) rfl, (F63.mono rfl rfl).tr q2⟩
      rw [if_pos ixi, tn_nat, s105, a4, a11]
      rw [F63.get 125 (by decide) rfl] at q1
      exact q1
  · dsimp only
    by_cases z : g < 2 ∧ d < 4
    · rw [if_pos z]
      rcases h5 g d z.1 z.2 with ⟨-, -, a3⟩ | ⟨p, e, b, b', brs, E, -, -, -, -, a11⟩
      · rw [a3]; exact ⟨Int.le_refl _, by decide⟩
      · rw [a11]
        unfold cl6
        (repeat' split) <;> omega
    · rw [if_neg z]; exact ⟨Int.le_refl _, by decide⟩
end PW
