/-! CALLS: split, together -/
theorem smN_tail {f : Nat → Nat} {n : Nat} : ∀ k, (∀ d, n ≤ d → d < n + k → f d = 0) → smN f (n + k) = smN f n
  | 0, _ => rfl
  | k + 1, h => by
    show smN f (n + k) + f (n + k) = _
    rw [smN_tail k (fun d a1 a2 => h d a1 (by omega)), h (n + k) (by omega) (by omega)]
    omega
theorem smN_4 {f : Nat → Nat} {n : Nat} (hn : n ≤ 4) (h : ∀ d, n ≤ d → d < 4 → f d = 0) : smN f 4 = smN f n := by
  have := smN_tail (f := f) (n := n) (4 - n) (fun d a1 a2 => h d a1 (by omega))
  rw [show n + (4 - n) = 4 by omega] at this
  exact this
section SPQ
variable {X l m o g : Nat} {σ T : am_Sg} {F : LF} {sc b : Nat → Int}
/-- the most: the number of all bites -/
def mostN (b : Nat → Nat) : Nat := b 0 + 13 * (b 1 + 13 * (b 2 + 13 * b 3))
theorem dg_k {b k : Nat → Nat} (hb : ∀ d, d < 4 → b d ≤ 12) (hk : ∀ d, d < 4 → k d ≤ b d) : ∃ v, v ≤ mostN b ∧ ∀ d, d < 4 → dg v d = k d := by
  have k0 := hk 0 (by omega)
  have k1 := hk 1 (by omega)
  have k2 := hk 2 (by omega)
  have k3 := hk 3 (by omega)
  have b0 := hb 0 (by omega)
  have b1 := hb 1 (by omega)
  have b2 := hb 2 (by omega)
  have b3 := hb 3 (by omega)
  have e := dg_of (a := k 0) (c := k 1) (e := k 2) (f := k 3) (by omega) (by omega) (by omega) (by omega)
  refine ⟨mostN k, by unfold mostN; omega, fun d hd => ?_⟩
  rcases (show d = 0 ∨ d = 1 ∨ d = 2 ∨ d = 3 by omega) with u | u | u | u <;> subst u
  · exact e.1
  · exact e.2.1
  · exact e.2.2.1
  · exact e.2.2.2
theorem m_splitL (H : TOk T) (K : TM σ T l) (hb : BOk T b 12) (e4 : b4 (σ 129) = b) (hs : rs (σ 128) = sc) (S : ScOk T sc) (hm : m < nM T) (ho : o < nM T) {E1 E2 : Nat} (hE1 : E1 < 16) (hE2 : E2 < 16) : ∃ v, vv X 134 163 [some (vP 80), some (vI (m : Int)), some (vI (o : Int)), none, some (vI ((mostN (bN b) : Nat) : Int)), some (vI (bulkS T b)), some (vI (E1 : Int)), some (vI (E2 : Int)), some (vI (-2)), some (vI 0), none, none, none, none, none] [] σ = some (some (vI v), σ) ∧ IsMin v (fun c => ∃ u, u < mostN (bN b) + 1 ∧ SpP T (bN b) E1 E2 (T 13 m - sc m) (T 13 o - sc o) (bulkS T b) (dg u) ∧ smN (fun d => dg u d * 1) 4 = c) := by
  have mle : mostN (bN b) ≤ 28560 := by
    have q : ∀ d, d < 4 → bN b d ≤ 12 := fun d hd => by have := hb.1 d hd; unfold bN; omega
    have q0 := q 0 (by omega)
    have q1 := q 1 (by omega)
    have q2 := q 2 (by omega)
    have q3 := q 3 (by omega)
    unfold mostN
    omega
  obtain ⟨best, e, hbest⟩ := lp (fun v (best : Int) => vv X 134 163 [some (vP 80), some (vI (m : Int)), some (vI (o : Int)), none, some (vI ((mostN (bN b) : Nat) : Int)), some (vI (bulkS T b)), some (vI (E1 : Int)), some (vI (E2 : Int)), some (vI best), some (vI (v : Int)), none, none, none, none, none] [] σ) (mostN (bN b) + 1) (fun v best => IsMin best (fun c => ∃ u, u < v ∧ SpP T (bN b) E1 E2 (T 13 m - sc m) (T 13 o - sc o) (bulkS T b) (dg u) ∧ smN (fun d => dg u d * 1) 4 = c)) (fun v best hv hh => by
    refine ⟨@ite _ (SpP T (bN b) E1 E2 (T 13 m - sc m) (T 13 o - sc o) (bulkS T b) (dg v)) (Classical.propDecidable _) (if best < 0 then ((smN (fun d => dg v d * 1) 4 : Nat) : Int) else if best ≤ ((smN (fun d => dg v d * 1) 4 : Nat) : Int) then best else ((smN (fun d => dg v d * 1) 4 : Nat) : Int)) best, ?_, ?_⟩
    · show vv X 134 163 [some (vP 80), some (vI (m : Int)), some (vI (o : Int)), none, some (vI ((mostN (bN b) : Nat) : Int)), some (vI (bulkS T b)), some (vI (E1 : Int)), some (vI (E2 : Int)), some (vI best), some (vI (v : Int)), none, none, none, none, none] [] σ = vv X 134 163 [some (vP 80), some (vI (m : Int)), some (vI (o : Int)), none, some (vI ((mostN (bN b) : Nat) : Int)), some (vI (bulkS T b)), some (vI (E1 : Int)), some (vI (E2 : Int)), some (vI _), some (vI ((v + 1 : Nat) : Int)), none, none, none, none, none] [] σ
      rw [bq_134_163, if_neg (by omega), m_share H K hb e4 hs S hm ho hE1 hE2 (by omega), bq_134_348, w32_s1 (by omega)]
    · by_cases z : SpP T (bN b) E1 E2 (T 13 m - sc m) (T 13 o - sc o) (bulkS T b) (dg v)
      · rw [if_pos z]
        exact IsMin.add (P := fun u => SpP T (bN b) E1 E2 (T 13 m - sc m) (T 13 o - sc o) (bulkS T b) (dg u)) (cst := fun u => smN (fun d => dg u d * 1) 4) hh z
      · rw [if_neg z]
        exact IsMin.none (P := fun u => SpP T (bN b) E1 E2 (T 13 m - sc m) (T 13 o - sc o) (bulkS T b) (dg u)) (cst := fun u => smN (fun d => dg u d * 1) 4) hh z) (mostN (bN b) + 1) 0 (-2) (by omega) (Or.inl ⟨rfl, fun c ⟨u, u1, _⟩ => absurd u1 (Nat.not_lt_zero u)⟩)
  refine ⟨best, ?_, hbest⟩
  refine Eq.trans e ?_
  show vv X 134 163 [some (vP 80), some (vI (m : Int)), some (vI (o : Int)), none, some (vI ((mostN (bN b) : Nat) : Int)), some (vI (bulkS T b)), some (vI (E1 : Int)), some (vI (E2 : Int)), some (vI best), some (vI ((mostN (bN b) + 1 : Nat) : Int)), none, none, none, none, none] [] σ = _
  rw [bq_134_163, if_pos (by omega)]
/-- both look for the least of the same -/
theorem split_iff (H : TOk T) (hb : BOk T b 12) (S : ScOk T sc) (hm : m < nM T) (ho : o < nM T) {E1 E2 R1 R2 : Nat} (hE1 : ∀ d, d < 4 → (bt1 (E1 : Int) d = 1 ↔ d < nD T ∧ ¬ shut T sc m ∧ bt1 (T 17 m) d = 0)) (hE2 : ∀ d, d < 4 → (bt1 (E2 : Int) d = 1 ↔ d < nD T ∧ ¬ shut T sc o ∧ bt1 (T 17 o) d = 0)) (hR1 : (R1 : Int) = @ite _ (shut T sc m) (Classical.propDecidable _) 0 (T 13 m - sc m)) (hR2 : (R2 : Int) = @ite _ (shut T sc o) (Classical.propDecidable _) 0 (T 13 o - sc o)) (c : Nat) : (∃ k, FSh (nD T) (bN b) (fun d => ¬ bt1 (T 17 m) d = 0) (fun d => ¬ bt1 (T 17 o) d = 0) k ∧ smN (fun d => k d * 1) (nD T) = c ∧ smN (fun d => k d * wN T d) (nD T) ≤ R1 ∧ bulkS T b - (R2 : Int) ≤ ((smN (fun d => k d * wN T d) (nD T) : Nat) : Int)) ↔ (∃ u, u < mostN (bN b) + 1 ∧ SpP T (bN b) E1 E2 (T 13 m - sc m) (T 13 o - sc o) (bulkS T b) (dg u) ∧ smN (fun d => dg u d * 1) 4 = c) := by
  have h4 := H.d4
  have bn := bulk_N H hb
  have sm1 := S.1 m hm
  have so1 := S.1 o ho
  have w1 : ∀ d, d < nD T → 1 ≤ wN T d := fun d hd => by have := H.di d hd; unfold wN; omega
  have b0 : ∀ d, nD T ≤ d → d < 4 → bN b d = 0 := fun d a1 a2 => by unfold bN; rw [hb.2 d a1 a2]; rfl
  have b12 : ∀ d, d < 4 → bN b d ≤ 12 := fun d hd => by have := hb.1 d hd; unfold bN; omega
  constructor
  · rintro ⟨k, q1, q2, q3, q4⟩
    obtain ⟨u, hu, du⟩ := dg_k (b := bN b) (k := fun d => if d < nD T then k d else 0) b12 (fun d hd => by
      show (if d < nD T then k d else 0) ≤ bN b d
      split
      next z => exact (q1 d z).1
      next => exact Nat.zero_le _)
    have dk : ∀ d, d < nD T → dg u d = k d := fun d hd => by rw [du d (by omega), if_pos hd]
    have dz : ∀ d, nD T ≤ d → d < 4 → dg u d = 0 := fun d a1 a2 => by rw [du d a2, if_neg (by omega)]
    have es : smN (fun d => dg u d * wN T d) 4 = smN (fun d => k d * wN T d) (nD T) := by
      rw [smN_4 h4 (fun d a1 a2 => by rw [dz d a1 a2, Nat.zero_mul])]
      exact smN_ext fun d hd => by rw [dk d hd]
    have ec : smN (fun d => dg u d * 1) 4 = smN (fun d => k d * 1) (nD T) := by
      rw [smN_4 h4 (fun d a1 a2 => by rw [dz d a1 a2])]
      exact smN_ext fun d hd => by rw [dk d hd]
    have full : shut T sc o → ∀ d, d < nD T → k d = bN b d := fun z => by
      rw [if_pos z] at hR2
      have le : smN (fun d => bN b d * wN T d) (nD T) ≤ smN (fun d => k d * wN T d) (nD T) := by
        rw [bn] at q4
        omega
      have eq := smN_eq (f := fun d => k d * wN T d) (g := fun d => bN b d * wN T d) (n := nD T) (fun d hd => Nat.mul_le_mul_right _ (q1 d hd).1) le
      intro d hd
      exact Nat.eq_of_mul_eq_mul_right (w1 d hd) (eq d hd)
    have none1 : shut T sc m → ∀ d, d < nD T → k d = 0 := fun z d hd => by
      rw [if_pos z] at hR1
      have := smN_ge (f := fun d => k d * wN T d) d hd
      have h0 : k d * wN T d = 0 := by omega
      rcases Nat.mul_eq_zero.mp h0 with y | y
      · exact y
      · have := w1 d hd
        omega
    refine ⟨u, by omega, ⟨fun d hd => ?_, ?_, ?_⟩, by rw [ec, q2]⟩
    · unfold SpOk
      by_cases y : d < nD T
      · rw [dk d y]
        refine ⟨(q1 d y).1, ?_, ?_⟩
        · by_cases z : shut T sc m
          · exact Or.inl (none1 z d y)
          · by_cases x : bt1 (T 17 m) d = 0
            · exact Or.inr ((hE1 d hd).mpr ⟨y, z, x⟩)
            · exact Or.inl ((q1 d y).2.1 x)
        · by_cases z : shut T sc o
          · exact Or.inl (full z d y)
          · by_cases x : bt1 (T 17 o) d = 0
            · exact Or.inr ((hE2 d hd).mpr ⟨y, z, x⟩)
            · exact Or.inl ((q1 d y).2.2 x)
      · rw [dz d (by omega) hd, b0 d (by omega) hd]
        exact ⟨Nat.le_refl _, Or.inl rfl, Or.inl rfl⟩
    · rw [es]
      by_cases z : shut T sc m
      · rw [if_pos z] at hR1
        omega
      · rw [if_neg z] at hR1
        omega
    · rw [es]
      by_cases z : shut T sc o
      · rw [if_pos z] at hR2
        omega
      · rw [if_neg z] at hR2
        omega
  · rintro ⟨u, hu, ⟨p1, p2, p3⟩, hc⟩
    have dz : ∀ d, nD T ≤ d → d < 4 → dg u d = 0 := fun d a1 a2 => by
      have := (p1 d a2).1
      rw [b0 d a1 a2] at this
      omega
    have es : smN (fun d => dg u d * wN T d) 4 = smN (fun d => dg u d * wN T d) (nD T) := smN_4 h4 (fun d a1 a2 => by rw [dz d a1 a2, Nat.zero_mul])
    have ec : smN (fun d => dg u d * 1) 4 = smN (fun d => dg u d * 1) (nD T) := smN_4 h4 (fun d a1 a2 => by rw [dz d a1 a2])
    rw [es] at p2 p3
    refine ⟨dg u, fun d hd => ?_, by rw [← ec, hc], ?_, ?_⟩
    · have pd := p1 d (by omega)
      refine ⟨pd.1, fun x => ?_, fun x => ?_⟩
      · rcases pd.2.1 with y | y
        · exact y
        · exact absurd ((hE1 d (by omega)).mp y).2.2 x
      · rcases pd.2.2 with y | y
        · exact y
        · exact absurd ((hE2 d (by omega)).mp y).2.2 x
    · by_cases z : shut T sc m
      · have : smN (fun d => dg u d * wN T d) (nD T) = smN (fun _ => 0) (nD T) := smN_ext fun d hd => by
          rcases (p1 d (by omega)).2.1 with y | y
          · rw [y, Nat.zero_mul]
          · exact absurd z ((hE1 d (by omega)).mp y).2.1
        have z0 : ∀ n, smN (fun _ => 0) n = 0 := fun n => by
          induction n with
          | zero => rfl
          | succ n ih => show smN (fun _ => 0) n + 0 = 0; rw [ih]
        rw [this, z0]
        exact Nat.zero_le _
      · rw [if_neg z] at hR1
        omega
    · by_cases z : shut T sc o
      · have : smN (fun d => dg u d * wN T d) (nD T) = smN (fun d => bN b d * wN T d) (nD T) := smN_ext fun d hd => by
          rcases (p1 d (by omega)).2.2 with y | y
          · rw [y]
          · exact absurd z ((hE2 d (by omega)).mp y).2.1
        rw [this, bn]
        omega
      · rw [if_neg z] at hR2
        omega
/-- the two ways to the same answer -/
theorem splitsC (R : RT X σ T l F) (hN : RN σ T) (hm : m < nM T) (ho : o < nM T) (hne : ¬ m = o) (hg : g < 2) : ∃ v σ1 σ2, vcI X 33 [vP 0, vI (m : Int), vI (o : Int), vI (g : Int)] σ = some (v, σ1) ∧ vcI X 134 [vP 80, vI (m : Int), vI (o : Int), vI (g : Int)] σ1 = some (v, σ2) ∧ Fr [53, 54, 55, 56, 58, 59, 67] [] σ σ1 ∧ Fr [125, 126, 128, 129, 133] [63] σ1 σ2 ∧ (v = -2 ∨ 0 ≤ v) := by
  obtain ⟨hT, H, K, hC, hM, hF⟩ := id R
  have h8 := H.m8
  have h4 := H.d4
  have SN := hN.2
  have r42 := SN.2.2.2 (42 + g)
  rw [rs_in (by omega)] at r42
  have e42 : σ 50 (42 + g) = σ 127 (42 + g) := hN.at (by omega)
  -- the class
  obtain ⟨σ1, e1, f1, p1⟩ := c_layN R hN hm hg
  have R1 := R.fr f1 rfl rfl rfl
  obtain ⟨σ2, e2, f2, p2⟩ := c_lay_49_55 (X := X) H R1.1 hC hF ho hg 1
  have e50 : rs (σ1 50) = rs (σ 127) := by rw [f1.get 50 (by decide) rfl, hN.1]
  rw [e50, f1.get 50 (by decide) rfl, e42] at p2
  have R2 := R1.fr f2 rfl rfl rfl
  have p1' := p1.fr (f2.get 53 (by decide) rfl) (f2.get 54 (by decide) rfl)
  have k1 := btN_ok (T := T) hF (sc := rs (σ 127)) (m := m) (g := g)
  have k2 := bts_ok (T := T) hF (sc := rs (σ 127)) (m := o) (g := g) (ah := w32 (σ 127 (42 + g) + 1))
  obtain ⟨σ3, e3, f3, p3⟩ := c_addAll (X := X) H R2.1 p1' k1 p2 k2
  have R3 := R2.fr f3 rfl rfl rfl
  have s3 : rs (σ3 50) = rs (σ 127) := by rw [f3.get 50 (by decide) rfl, f2.get 50 (by decide) rfl, e50]
  have f13 : Fr [53, 54, 55, 56, 58, 59, 67] [] σ σ3 := ((f1.mono rfl rfl).tr (f2.mono rfl rfl)).tr (f3.mono rfl rfl)
  have kb : BOk T (b4 (fun d => btN T F (rs (σ 127)) m g d + bts T F (rs (σ 127)) o g (w32 (σ 127 (42 + g) + 1)) d)) 12 := by
    refine ⟨fun d hd => ?_, fun d a1 a2 => ?_⟩
    · have q1 := k1.1 d hd
      have q2 := k2.1 d hd
      rw [b4_in hd]
      omega
    · rw [b4_in a2, k1.2 d a1 a2, k2.2 d a1 a2]
      rfl
  generalize hb1 : btN T F (rs (σ 127)) m g = b1 at *
  generalize hb2 : bts T F (rs (σ 127)) o g (w32 (σ 127 (42 + g) + 1)) = b2 at *
  -- the reference, from any state that the class may leave
  have ref : ∀ τ : am_Sg, Fr [53, 54, 55, 56, 58, 59, 67] [] σ τ → ∃ τ4, TM τ4 T l ∧ rs (τ4 128) = rs (σ 127) ∧ b4 (τ4 129) = b4 (fun d => b1 d + b2 d) ∧ Fr [125, 126, 128, 129, 133] [63] τ τ4 ∧ vv X 134 0 [some (vP 80), some (vI (m : Int)), some (vI (o : Int)), some (vI (g : Int)), none, none, none, none, none, none, none, none, none, none, none] [] τ = vv X 134 68 [some (vP 80), some (vI (m : Int)), some (vI (o : Int)), none, some (vI 4), none, none, none, none, none, none, none, none, none, none] [] τ4 := by
    intro τ fτ
    have Rτ := R.fr fτ rfl rfl rfl
    obtain ⟨τ1, g1, q1, w1⟩ := m_takes (X := X) (σ := τ)
    have S1 := Rτ.fr q1 rfl rfl rfl
    have es : rs (τ1 128) = rs (σ 127) := by rw [w1, fτ.get 127 (by decide) rfl]
    obtain ⟨τ2, g2, q2, w2⟩ := m_tollsN S1 (by rw [es]; exact SN) hm hg
    rw [es, hb1] at w2
    have S2 := S1.fr q2 rfl rfl rfl
    have es2 : rs (τ2 128) = rs (σ 127) := by rw [q2.get 128 (by decide) rfl]; exact es
    -- kept aside
    have L := cpl0 (fun i st => vv X 134 22 [some (vP 80), some (vI (m : Int)), some (vI (o : Int)), some (vI (g : Int)), some (vI (i : Int)), none, none, none, none, none, none, none, none, none, none] [] st) 133 0 4 0 (fun i => τ2 129 i) τ2 (by omega) (fun i hi r => by
      show vv X 134 22 [some (vP 80), some (vI (m : Int)), some (vI (o : Int)), some (vI (g : Int)), some (vI (i : Int)), none, none, none, none, none, none, none, none, none, none] [] _ = _
      rw [bq_134_22, if_neg (by omega), if_pos (by omega), w32_s1 (by omega), tn_nat, Nat.zero_add, rn _ (show ¬ (129 : Nat) = 133 by decide)])
    generalize hr : (fun j => if 0 + 0 ≤ j ∧ j < 0 + 4 then τ2 129 (j - 0) else τ2 133 j) = r at L
    have q3 : Fr [133] [] τ2 (am_row τ2 133 r) := Fr.rf.row rfl (by decide)
    have S3 := S2.fr q3 rfl rfl rfl
    have es3 : rs ((am_row τ2 133 r) 128) = rs (σ 127) := by rw [q3.get 128 (by decide) rfl]; exact es2
    have e128 : (am_row τ2 133 r) 128 (42 + g) = σ 127 (42 + g) := by rw [← rs_in (f := (am_row τ2 133 r) 128) (show 42 + g < 46 by omega), es3, rs_in (by omega)]
    obtain ⟨τ3, g3, q4, w3⟩ := m_tolls (X := X) H S3.2.2.1 S3.2.2.2.2.1 ho hg (w32 (σ 127 (42 + g) + 1))
    rw [es3, hb2] at w3
    have b133 : ∀ d, d < 4 → τ3 133 d = b1 d := fun d hd => by
      rw [q4.get 133 (by decide) rfl, re, ← hr]
      dsimp only
      rw [if_pos (by omega), Nat.sub_zero, ← w2, b4_in hd]
    have b129 : ∀ d, d < 4 → τ3 129 d = b2 d := fun d hd => by rw [← w3, b4_in hd]
    have L2 := cpl0 (fun i st => vv X 134 68 [some (vP 80), some (vI (m : Int)), some (vI (o : Int)), none, some (vI (i : Int)), none, none, none, none, none, none, none, none, none, none] [] st) 129 0 4 0 (fun i => b1 i + b2 i) τ3 (by omega)
    clear L2
    obtain ⟨r2, eL, hr2⟩ := lp (fun i (r2 : Nat → Int) => vv X 134 68 [some (vP 80), some (vI (m : Int)), some (vI (o : Int)), none, some (vI (i : Int)), none, none, none, none, none, none, none, none, none, none] [] (am_row τ3 129 r2)) 4 (fun i r2 => r2 = fun j => if j < i then b1 j + b2 j else τ3 129 j) (fun i r2 hi hh => by
      refine ⟨_, ?_, rfl⟩
      show vv X 134 68 [some (vP 80), some (vI (m : Int)), some (vI (o : Int)), none, some (vI (i : Int)), none, none, none, none, none, none, none, none, none, none] [] (am_row τ3 129 r2) = vv X 134 68 [some (vP 80), some (vI (m : Int)), some (vI (o : Int)), none, some (vI ((i + 1 : Nat) : Int)), none, none, none, none, none, none, none, none, none, none] [] _
      have v1 := k1.1 i hi
      have v2 := k2.1 i hi
      rw [bq_134_68, if_neg (by omega), if_pos (by omega), w32_s1 (by omega), tn_nat, ur, re, rn _ (show ¬ (133 : Nat) = 129 by decide), b133 i hi]
      congr 2
      funext j
      rw [upa, hh]
      dsimp only
      by_cases z : j = i
      · rw [if_pos z, if_neg (by omega), if_pos (by omega), z, b129 i hi, w32_id (by omega) (by omega)]
        omega
      · rw [if_neg z]
        by_cases y : j < i
        · rw [if_pos y, if_pos (by omega)]
        · rw [if_neg y, if_neg (by omega)]) 4 0 (τ3 129) (by omega) (by funext j; rw [if_neg (by omega)])
    rw [r0] at eL
    have q5 : Fr [129] [] τ3 (am_row τ3 129 r2) := Fr.rf.row rfl (by decide)
    have fall : Fr [125, 126, 128, 129, 133] [63] τ (am_row τ3 129 r2) := ((((q1.mono rfl rfl).tr (q2.mono rfl rfl)).tr (q3.mono rfl rfl)).tr (q4.mono rfl rfl)).tr (q5.mono rfl rfl)
    refine ⟨am_row τ3 129 r2, (Rτ.fr fall rfl rfl rfl).2.2.1, ?_, ?_, fall, ?_⟩
    · rw [q5.get 128 (by decide) rfl, q4.get 128 (by decide) rfl]
      exact es3
    · rw [re, hr2]
      exact b4_ext fun d hd => by rw [if_pos hd]
    · rw [bq_134_0, g1, bsome, show w32 (42 + (g : Int)) = ((42 + g : Nat) : Int) from w_ix (c := 42) (by omega), if_pos (by omega), tn_nat, g2, bsome]
      refine Eq.trans L ?_
      show vv X 134 22 [some (vP 80), some (vI (m : Int)), some (vI (o : Int)), some (vI (g : Int)), some (vI 4), none, none, none, none, none, none, none, none, none, none] [] (am_row τ2 133 r) = _
      rw [bq_134_22, if_pos (by omega), show w32 (42 + (g : Int)) = ((42 + g : Nat) : Int) from w_ix (c := 42) (by omega), if_pos (by omega), tn_nat, e128, g3, bsome]
      exact eL
  have cls : ∀ v τ, (vcI X 123 [vP 57, vP 49, vP 53] σ3).bind (fun q7 => if ¬ q7.1 = 0 then (vcI X 124 [vP 57, vP 49, vI (m : Int)] q7.2).bind fun q8 => (vcI X 124 [vP 57, vP 49, vI (o : Int)] q8.2).bind fun q9 => if 0 ≤ (m : Int) ∧ (m : Int) < 8 then if 0 ≤ (o : Int) ∧ (o : Int) < 8 then (vcI X 136 [vP 63, vP 53, vI q8.1, vI (q9.2 17 (m : Int).toNat), vI q9.1, vI (q9.2 17 (o : Int).toNat)] q9.2).bind fun q10 => some (some (vI q10.1), q10.2) else none else none else some (some (vI (-2)), q7.2)) = some (some (vI v), τ) → vcI X 33 [vP 0, vI (m : Int), vI (o : Int), vI (g : Int)] σ = some (v, τ) := by
    intro v τ hv
    refine vI_of ((bq_33_0 X _ _ _ σ).trans ?_) rfl
    rw [c_isMan H hT, bsome]
    dsimp +instances only
    rw [if_neg (by omega), c_isMan H hT, bsome]
    dsimp +instances only
    rw [if_neg (by omega), if_neg (by omega), g_gateC, bsome]
    dsimp +instances only
    rw [if_pos (by omega), e1, bsome, e2, bsome, e3, bsome]
    exact hv
  have st3 := c_stores_49_53 (X := X) H (by rw [s3]; exact SN) p3 kb
  rw [s3] at st3
  generalize hbb : b4 (fun d => b1 d + b2 d) = b at *
  by_cases z : storesS T (rs (σ 127)) b
  · rw [if_pos z] at st3
    have sm1 := SN.1 m hm
    have so1 := SN.1 o ho
    have hMm := H.mi m hm
    have hMo := H.mi o ho
    obtain ⟨Q1, hQ1⟩ : ∃ Q1 : Nat, (@ite Int (shut T (rs (σ 127)) m) (Classical.propDecidable _) 0 (T 13 m - rs (σ 127) m)) = (Q1 : Int) := ⟨(@ite Int (shut T (rs (σ 127)) m) (Classical.propDecidable _) 0 (T 13 m - rs (σ 127) m)).toNat, by split <;> omega⟩
    obtain ⟨Q2, hQ2⟩ : ∃ Q2 : Nat, (@ite Int (shut T (rs (σ 127)) o) (Classical.propDecidable _) 0 (T 13 o - rs (σ 127) o)) = (Q2 : Int) := ⟨(@ite Int (shut T (rs (σ 127)) o) (Classical.propDecidable _) 0 (T 13 o - rs (σ 127) o)).toNat, by split <;> omega⟩
    have l1 : Q1 ≤ 99 := by split at hQ1 <;> omega
    have l2 : Q2 ≤ 99 := by split at hQ2 <;> omega
    obtain ⟨v, σ4, e4, f4, hmin⟩ := c_few (X := X) H R3.1 p3 kb l1 l2 (y1 := T 17 m) (y2 := T 17 o) (by omega) (by omega)
    have fC : Fr [53, 54, 55, 56, 58, 59, 67] [] σ σ4 := f13.tr (f4.mono rfl rfl)
    obtain ⟨τ4, K4, s4, b44, fM, eM⟩ := ref σ4 fC
    obtain ⟨E1, hE1, eE1, bE1⟩ := m_eats (X := X) H K4 s4 SN hm
    obtain ⟨E2, hE2, eE2, bE2⟩ := m_eats (X := X) H K4 s4 SN ho
    obtain ⟨v', eL, hmin'⟩ := m_splitL (X := X) H K4 kb b44 s4 SN hm ho hE1 hE2
    have same : v = v' := hmin.uniq hmin' (fun c => split_iff H kb SN hm ho bE1 bE2 hQ1.symm hQ2.symm c)
    refine ⟨v, σ4, τ4, cls v σ4 ?_, vI_of (eM.trans ?_) rfl, fC, fM, ?_⟩
    · rw [st3, bsome]
      dsimp +instances only
      rw [if_pos i10, c_open H R3.1 s3 SN hm, bsome]
      dsimp +instances only
      rw [c_open H R3.1 s3 SN ho, bsome]
      dsimp +instances only
      rw [if_pos (by omega), if_pos (by omega), tn_nat, tn_nat, tl_at R3.1 (k := 17) (by omega), hQ1, hQ2, e4, bsome]
    · have nb : ∀ d, d < 4 → τ4 129 d = ((bN b d : Nat) : Int) := fun d hd => by
        have := kb.1 d hd
        rw [← b4_in (f := τ4 129) hd, b44]
        unfold bN
        omega
      have n12 : ∀ d, d < 4 → bN b d ≤ 12 := fun d hd => by have := kb.1 d hd; unfold bN; omega
      have m211 : vcI X 211 [vI (τ4 129 0), vI (τ4 129 1), vI (τ4 129 2), vI (τ4 129 3)] τ4 = some (((mostN (bN b) : Nat) : Int), τ4) := by
        refine vI_of ((bq_211_0 X _ _ _ _ τ4).trans ?_) rfl
        rw [nb 0 (by omega), nb 1 (by omega), nb 2 (by omega), nb 3 (by omega)]
        have c0 := n12 0 (by omega)
        have c1 := n12 1 (by omega)
        have c2 := n12 2 (by omega)
        have c3 := n12 3 (by omega)
        unfold mostN
        rw [w32_id (x := 13 * ((bN b 3 : Nat) : Int)) (by omega) (by omega), w32_id (x := ((bN b 2 : Nat) : Int) + 13 * ((bN b 3 : Nat) : Int)) (by omega) (by omega), w32_id (x := 13 * (((bN b 2 : Nat) : Int) + 13 * ((bN b 3 : Nat) : Int))) (by omega) (by omega), w32_id (x := ((bN b 1 : Nat) : Int) + 13 * (((bN b 2 : Nat) : Int) + 13 * ((bN b 3 : Nat) : Int))) (by omega) (by omega), w32_id (x := 13 * (((bN b 1 : Nat) : Int) + 13 * (((bN b 2 : Nat) : Int) + 13 * ((bN b 3 : Nat) : Int)))) (by omega) (by omega), w32_id (by omega) (by omega)]
        congr 4
      rw [bq_134_68, if_pos (by omega), m_stores2 H K4 b44, bsome]
      dsimp +instances only
      rw [s4, if_pos z, if_pos i10, m211, bsome]
      dsimp +instances only
      rw [m_bulk2 H K4 kb b44, bsome]
      dsimp +instances only
      rw [eE1, bsome]
      dsimp +instances only
      rw [eE2, bsome]
      dsimp +instances only
      rw [eL, same]
    · rcases hmin with q | ⟨c, q, _⟩
      · exact Or.inl q.1
      · exact Or.inr (by omega)
  · rw [if_neg z] at st3
    obtain ⟨τ4, K4, s4, b44, fM, eM⟩ := ref σ3 f13
    refine ⟨-2, σ3, τ4, cls (-2) σ3 ?_, vI_of (eM.trans ?_) rfl, f13, fM, Or.inl rfl⟩
    · rw [st3, bsome]
      dsimp +instances only
      rw [if_neg (by decide)]
    · rw [bq_134_68, if_pos (by omega), m_stores2 H K4 b44, bsome]
      dsimp +instances only
      rw [s4, if_neg z, if_neg (by decide)]
end SPQ
