/-! CALLS: when, hourOf -/
theorem ScOk.h44 {T : am_Sg} {sc : Nat → Int} (S : ScOk T sc) : ∃ h : Nat, sc 44 = (h : Int) ∧ h ≤ 23 := ⟨(sc 44).toNat, by have := S.2.2.1; omega, by have := S.2.2.1; omega⟩
theorem hrS_44 (T : am_Sg) (sc : Nat → Int) : hrS T sc 44 = if sc 44 < 23 then sc 44 + 1 else 0 := rfl
theorem hrS_45 {T : am_Sg} (H : TOk T) (sc : Nat → Int) : hrS T sc 45 = if sc 44 < 23 then sc 45 else w32 (sc 45 + 1) := by
  have h8 := H.m8
  have e : hr1 T sc 45 = sc 45 := by
    unfold hr1
    rw [if_neg (by omega), if_neg (by omega)]
  show (if sc 44 < 23 then hr1 T sc 45 else w32 (sc 45 + 1)) = _
  rw [e]
theorem hrN_day {T : am_Sg} (H : TOk T) {sc : Nat → Int} {h : Nat} (e : sc 44 = (h : Int)) : ∀ k, h + k ≤ 23 → hrN T sc k 44 = ((h + k : Nat) : Int) ∧ hrN T sc k 45 = sc 45
  | 0, _ => ⟨e, rfl⟩
  | k + 1, hk => by
    have ih := hrN_day H e k (by omega)
    show hrS T (hrN T sc k) 44 = _ ∧ hrS T (hrN T sc k) 45 = _
    rw [hrS_44, hrS_45 H, if_pos (by rw [ih.1]; omega), if_pos (by rw [ih.1]; omega), ih.1, ih.2]
    exact ⟨by omega, rfl⟩
theorem hrN_next {T : am_Sg} (H : TOk T) {sc : Nat → Int} (S : ScOk T sc) {h : Nat} (e : sc 44 = (h : Int)) {k : Nat} (hk : h + k = 24) : ¬ hrN T sc k 45 = sc 45 := by
  have h23 := S.2.2.1
  obtain ⟨j, rfl⟩ : ∃ j, k = j + 1 := ⟨k - 1, by omega⟩
  have ih := hrN_day H e j (by omega)
  have s45 := S.2.2.2 45
  show ¬ hrS T (hrN T sc j) 45 = _
  rw [hrS_45 H, if_neg (by rw [ih.1]; omega), ih.2]
  unfold w32
  omega
/-- why he may not at this scene -/
noncomputable def whN (T : am_Sg) (F : LF) (sc : Nat → Int) (m g : Nat) : Int := whyS T sc m (btN T F sc m g) (¬ (1 : Int) = 0)
noncomputable def whenF (T : am_Sg) (F : LF) (sc : Nat → Int) (m g : Nat) : Nat → Nat → Int
  | 0, _ => -2
  | n + 1, k => if whN T F (hrN T sc k) m g = 0 then (k : Int) else whenF T F sc m g n (k + 1)
/-- the hour that is worth most: q tells what it is worth -/
noncomputable def hourF (T : am_Sg) (F : LF) (sc : Nat → Int) (m g : Nat) (q : (Nat → Int) → Int) (h : Nat) : Nat → Nat → Int → Int → Int
  | 0, _, best, _ => best
  | n + 1, k, best, bw => if whN T F (hrN T sc k) m g = 0 then (if best = -2 then hourF T F sc m g q h n (k + 1) ((h + k : Nat) : Int) (q (btN T F (hrN T sc k) m g)) else if q (btN T F (hrN T sc k) m g) ≤ bw then hourF T F sc m g q h n (k + 1) best bw else hourF T F sc m g q h n (k + 1) ((h + k : Nat) : Int) (q (btN T F (hrN T sc k) m g))) else hourF T F sc m g q h n (k + 1) best bw
section QW
variable {X l m g : Nat} {σ T : am_Sg} {F : LF} {sc : Nat → Int}
theorem c_mayT_53 (R : RT X σ T l F) (hs : rs (σ 52) = sc) (S : ScOk T sc) (hm : m < nM T) (hg : g < 2) : ∃ σ', vcI X 208 [vP 73, vI (m : Int), vI (g : Int), vP 53] σ = some (if whN T F sc m g = 0 then 1 else 0, σ') ∧ Fr [53, 54, 58, 59] [] σ σ' ∧ PL T σ' 53 (btN T F sc m g) := by
  subst hs
  obtain ⟨hT, H, K, hC, hM, hF⟩ := id R
  obtain ⟨σ1, e1, f1, p1⟩ := c_lay_51_53 (X := X) H hT hC hF hm hg 0
  rw [btN_eq S hg] at p1
  have R1 := R.fr f1 rfl rfl rfl
  have es : rs (σ1 52) = rs (σ 52) := by rw [f1.get 52 (by decide) rfl]
  refine ⟨σ1, vI_of ((bq_208a_0 X _ _ σ).trans ?_) rfl, f1, p1⟩
  rw [e1, bsome, c_why_51_53 H R1.1 hm (by rw [es]; exact S) p1 ((btN_ok hF).mono (by omega)), bsome, es]
  dsimp +instances only
  rw [bq_208a_37, bq_208a_37, if_pos okZ0, if_pos okZ1]
  unfold whN
  by_cases z : whyS T (rs (σ 52)) m (btN T F (rs (σ 52)) m g) (¬ (1 : Int) = 0) = 0
  · rw [if_neg (fun y => y z), if_pos z]
  · rw [if_pos z, if_neg z]
theorem c_mayT_55 (R : RT X σ T l F) (hs : rs (σ 52) = sc) (S : ScOk T sc) (hm : m < nM T) (hg : g < 2) : ∃ σ', vcI X 208 [vP 73, vI (m : Int), vI (g : Int), vP 55] σ = some (if whN T F sc m g = 0 then 1 else 0, σ') ∧ Fr [55, 56, 58, 59] [] σ σ' ∧ PL T σ' 55 (btN T F sc m g) := by
  subst hs
  obtain ⟨hT, H, K, hC, hM, hF⟩ := id R
  obtain ⟨σ1, e1, f1, p1⟩ := c_lay_51_55 (X := X) H hT hC hF hm hg 0
  rw [btN_eq S hg] at p1
  have R1 := R.fr f1 rfl rfl rfl
  have es : rs (σ1 52) = rs (σ 52) := by rw [f1.get 52 (by decide) rfl]
  refine ⟨σ1, vI_of ((bq_208b_0 X _ _ σ).trans ?_) rfl, f1, p1⟩
  rw [e1, bsome, c_why_51_55 H R1.1 hm (by rw [es]; exact S) p1 ((btN_ok hF).mono (by omega)), bsome, es]
  dsimp +instances only
  rw [bq_208b_37, bq_208b_37, if_pos okZ0, if_pos okZ1]
  unfold whN
  by_cases z : whyS T (rs (σ 52)) m (btN T F (rs (σ 52)) m g) (¬ (1 : Int) = 0) = 0
  · rw [if_neg (fun y => y z), if_pos z]
  · rw [if_pos z, if_neg z]
/-- the reference's may over a scene -/
theorem m_mayT (R : RT X σ T l F) (hs : rs (σ 128) = sc) (S : ScOk T sc) (hm : m < nM T) (hg : g < 2) : ∃ σ', vcI X 112 [vP 80, vI (m : Int), vI (g : Int)] σ = some (whN T F sc m g, σ') ∧ Fr [125, 126, 129] [63] σ σ' ∧ b4 (σ' 129) = btN T F sc m g := by
  subst hs
  exact m_mayN R S hm hg
theorem c_hourT (R : RT X σ T l F) (hs : rs (σ 52) = sc) (S : ScOk T sc) : ∃ σ', vcV X 117 [vP 51, vP 7] σ = some σ' ∧ Fr [52] [] σ σ' ∧ rs (σ' 52) = hrS T sc := by
  subst hs
  exact c_hour_51 R.2.1 R.1 S
theorem m_hourT (R : RT X σ T l F) (hs : rs (σ 128) = sc) (S : ScOk T sc) : ∃ σ', vcV X 120 [vP 80] σ = some σ' ∧ Fr [128] [] σ σ' ∧ rs (σ' 128) = hrS T sc := by
  subst hs
  exact m_hour R.2.1 R.2.2.1 S
theorem c_whenL (S : ScOk T sc) (hm : m < nM T) (hg : g < 2) : ∀ n k (σ : am_Sg), k + n = 24 → RT X σ T l F → rs (σ 52) = hrN T sc k → ∃ σ', vv X 122 11 [some (vP 73), none, some (vI (m : Int)), some (vI (g : Int)), some (vI (k : Int))] [] σ = some (some (vI (whenF T F sc m g n k)), σ') ∧ Fr [52, 53, 54, 58, 59] [] σ σ'
  | 0, k, σ, e, R, hs => by
    refine ⟨σ, ?_, Fr.rf⟩
    rw [bq_122_11, if_pos (by omega)]
    rfl
  | n + 1, k, σ, e, R, hs => by
    have Sk := ScOk.hrN R.2.1 S k
    obtain ⟨σ1, e1, f1, p1⟩ := c_mayT_53 R hs Sk hm hg
    have R1 := R.fr f1 rfl rfl rfl
    rw [bq_122_11, if_neg (by omega), e1, bsome]
    dsimp +instances only
    unfold whenF
    by_cases z : whN T F (hrN T sc k) m g = 0
    · rw [if_pos z, if_neg i10, if_pos z]
      exact ⟨σ1, rfl, f1.mono rfl rfl⟩
    · rw [if_neg z, if_pos rfl, if_neg z]
      obtain ⟨σ2, e2, f2, p2⟩ := c_hourT R1 (by rw [f1.get 52 (by decide) rfl]; exact hs) Sk
      rw [e2, bsome, w32_s1 (by omega)]
      obtain ⟨σ3, e3, f3⟩ := c_whenL S hm hg n (k + 1) σ2 (by omega) (R1.fr f2 rfl rfl rfl) p2
      exact ⟨σ3, e3, ((f1.mono rfl rfl).tr (f2.mono rfl rfl)).tr f3⟩
theorem m_whenL (S : ScOk T sc) (hm : m < nM T) (hg : g < 2) : ∀ n k (σ : am_Sg), k + n = 24 → RT X σ T l F → rs (σ 128) = hrN T sc k → ∃ σ', vv X 26 23 [some (vP 80), some (vI (m : Int)), some (vI (g : Int)), some (vI (k : Int))] [] σ = some (some (vI (whenF T F sc m g n k)), σ') ∧ Fr [125, 126, 128, 129] [63] σ σ'
  | 0, k, σ, e, R, hs => by
    refine ⟨σ, ?_, Fr.rf⟩
    rw [bq_26_23, if_pos (by omega)]
    rfl
  | n + 1, k, σ, e, R, hs => by
    have Sk := ScOk.hrN R.2.1 S k
    obtain ⟨σ1, e1, f1, p1⟩ := m_mayT R hs Sk hm hg
    have R1 := R.fr f1 rfl rfl rfl
    rw [bq_26_23, if_neg (by omega), e1, bsome]
    dsimp +instances only
    unfold whenF
    by_cases z : whN T F (hrN T sc k) m g = 0
    · rw [if_neg (fun y => y z), if_pos z]
      exact ⟨σ1, rfl, f1.mono rfl rfl⟩
    · rw [if_pos z, if_neg z]
      obtain ⟨σ2, e2, f2, p2⟩ := m_hourT R1 (by rw [f1.get 128 (by decide) rfl]; exact hs) Sk
      rw [e2, bsome, w32_s1 (by omega)]
      obtain ⟨σ3, e3, f3⟩ := m_whenL S hm hg n (k + 1) σ2 (by omega) (R1.fr f2 rfl rfl rfl) p2
      exact ⟨σ3, e3, ((f1.mono rfl rfl).tr (f2.mono rfl rfl)).tr f3⟩
theorem q_when (h : Rel X σ) (x y : Int) : Qc X 25 26 [vI x, vI y] σ := by
  obtain ⟨T, l, F, R, hN, -⟩ := id h
  have hT := R.1
  have H := R.2.1
  have K := R.2.2.1
  by_cases hm : 0 ≤ x ∧ x < (nM T : Int)
  · by_cases hg : 0 ≤ y ∧ y ≤ 1
    · obtain ⟨m, rfl, hm'⟩ := nat_of hm
      obtain ⟨g, rfl, hg'⟩ := nat_of (n := 2) (show 0 ≤ y ∧ y < ((2 : Nat) : Int) by omega)
      obtain ⟨σ0, e0, f0, p0⟩ := c_trial (X := X) (σ := σ)
      obtain ⟨σ1, e1, f1⟩ := c_whenL (X := X) (sc := rs (σ 127)) hN.2 hm' hg' 24 0 σ0 (by omega) (R.fr f0 rfl rfl rfl) (p0.trans hN.1)
      have fC : Fr [52, 53, 54, 58, 59] [] σ σ1 := (f0.mono rfl rfl).tr f1
      have R1 := R.fr fC rfl rfl rfl
      obtain ⟨σ2, e2, f2, p2⟩ := m_takes (X := X) (σ := σ1)
      obtain ⟨σ3, e3, f3⟩ := m_whenL (X := X) (sc := rs (σ 127)) hN.2 hm' hg' 24 0 σ2 (by omega) (R1.fr f2 rfl rfl rfl) (by rw [p2, fC.get 127 (by decide) rfl]; rfl)
      refine ⟨whenF T F (rs (σ 127)) m g 24 0, σ1, σ3, vI_of ((bq_25_0 X _ _ σ).trans ?_) rfl, vI_of ((bq_26_0 X _ _ σ1).trans ?_) rfl, h.scr (((fC.mono rfl rfl).tr (f2.mono rfl rfl)).tr (f3.mono rfl rfl))⟩
      · rw [c_isMan H hT, bsome]
        dsimp +instances only
        rw [if_pos hm, if_neg i10, g_gateC, bsome]
        dsimp +instances only
        rw [if_pos hg, if_pos i10, vI_of ((bq_122_0 X _ _ σ).trans (by rw [e0, bsome]; exact e1)) rfl, bsome]
      · rw [m_isMan H R1.2.2.1, bsome]
        dsimp +instances only
        rw [if_pos hm, if_neg i10, g_gateM, bsome]
        dsimp +instances only
        rw [if_pos hg, if_pos i10, e2, bsome]
        exact e3
    · refine Qc.same h ⟨-1, ?_, ?_⟩ rfl rfl
      · refine (bq_25_0 X _ _ _).trans ?_
        rw [c_isMan H hT, bsome]
        dsimp +instances only
        rw [if_pos hm, if_neg i10, g_gateC, bsome]
        dsimp +instances only
        rw [if_neg hg, if_neg (by decide), bq_25_15]
      · refine (bq_26_0 X _ _ _).trans ?_
        rw [m_isMan H K, bsome]
        dsimp +instances only
        rw [if_pos hm, if_neg i10, g_gateM, bsome]
        dsimp +instances only
        rw [if_neg hg, if_neg (by decide), bq_26_15]
  · refine Qc.same h ⟨-1, ?_, ?_⟩ rfl rfl
    · refine (bq_25_0 X _ _ _).trans ?_
      rw [c_isMan H hT, bsome]
      dsimp +instances only
      rw [if_neg hm, if_pos rfl, bq_25_15]
    · refine (bq_26_0 X _ _ _).trans ?_
      rw [m_isMan H K, bsome]
      dsimp +instances only
      rw [if_neg hm, if_pos rfl, bq_26_15]
noncomputable def worthQ (T : am_Sg) (x : Int) (b : Nat → Int) : Int := if x = 0 then -(bulkS T b) else gainS T b
theorem worthQ_bd (H : TOk T) {x : Int} {b : Nat → Int} (hb : BOk T b 12) : -5000 ≤ worthQ T x b ∧ worthQ T x b ≤ 5000 := by
  have h1 := bulk_bd H hb (by omega)
  have h2 := gain_bd H hb (by omega)
  unfold worthQ
  split <;> omega
theorem c_hourL (S : ScOk T sc) (hm : m < nM T) (hg : g < 2) {h : Nat} (h44 : sc 44 = (h : Int)) (x : Int) : ∀ n k (best bw : Int) (σ : am_Sg), h + k + n = 24 → RT X σ T l F → rs (σ 52) = hrN T sc k → ∃ σ', vv X 147 21 [some (vP 73), none, some (vI (m : Int)), some (vI (g : Int)), some (vI x), some (vI best), some (vI bw), some (vI ((h + k : Nat) : Int)), none] [] σ = some (some (vI (hourF T F sc m g (worthQ T x) h n k best bw)), σ') ∧ Fr [52, 53, 54, 58, 59] [] σ σ'
  | 0, k, best, bw, σ, e, R, hs => by
    refine ⟨σ, ?_, Fr.rf⟩
    rw [bq_147_21, if_pos (by omega)]
    rfl
  | n + 1, k, best, bw, σ, e, R, hs => by
    have H := R.2.1
    have hF := R.2.2.2.2.2
    have Sk := ScOk.hrN H S k
    obtain ⟨σ1, e1, f1, p1⟩ := c_mayT_53 R hs Sk hm hg
    have R1 := R.fr f1 rfl rfl rfl
    obtain ⟨σ2, e2, f2, p2⟩ := c_hourT R1 (by rw [f1.get 52 (by decide) rfl]; exact hs) Sk
    have R2 := R1.fr f2 rfl rfl rfl
    have f12 : Fr [52, 53, 54, 58, 59] [] σ σ2 := (f1.mono rfl rfl).tr (f2.mono rfl rfl)
    have wb := worthQ_bd H (x := x) ((btN_ok (T := T) hF (sc := hrN T sc k) (m := m) (g := g)).mono (show (6 : Int) ≤ 12 by omega))
    have go : ∀ b' w', ∃ σ', vv X 147 88 [some (vP 73), none, some (vI (m : Int)), some (vI (g : Int)), some (vI x), some (vI b'), some (vI w'), some (vI ((h + k : Nat) : Int)), none] [] σ1 = some (some (vI (hourF T F sc m g (worthQ T x) h n (k + 1) b' w')), σ') ∧ Fr [52, 53, 54, 58, 59] [] σ σ' := by
      intro b' w'
      obtain ⟨σ3, e3, f3⟩ := c_hourL S hm hg h44 x n (k + 1) b' w' σ2 (by omega) R2 p2
      refine ⟨σ3, ?_, f12.tr f3⟩
      rw [bq_147_88, e2, bsome, w32_s1 (by omega)]
      exact e3
    have mid : ∃ σ', vv X 147 64 [some (vP 73), none, some (vI (m : Int)), some (vI (g : Int)), some (vI x), some (vI best), some (vI bw), some (vI ((h + k : Nat) : Int)), none] [vI (worthQ T x (btN T F (hrN T sc k) m g))] σ1 = some (some (vI (if best = -2 then hourF T F sc m g (worthQ T x) h n (k + 1) ((h + k : Nat) : Int) (worthQ T x (btN T F (hrN T sc k) m g)) else if worthQ T x (btN T F (hrN T sc k) m g) ≤ bw then hourF T F sc m g (worthQ T x) h n (k + 1) best bw else hourF T F sc m g (worthQ T x) h n (k + 1) ((h + k : Nat) : Int) (worthQ T x (btN T F (hrN T sc k) m g)))), σ') ∧ Fr [52, 53, 54, 58, 59] [] σ σ' := by
      rw [bq_147_64, bq_147_80]
      by_cases z1 : best = -2
      · rw [if_pos z1, if_pos z1]
        exact go _ _
      · rw [if_neg z1, if_neg z1]
        by_cases z2 : worthQ T x (btN T F (hrN T sc k) m g) ≤ bw
        · rw [if_pos z2, if_pos z2]
          exact go _ _
        · rw [if_neg z2, if_neg z2]
          exact go _ _
    rw [bq_147_21, if_neg (by omega), e1, bsome]
    dsimp +instances only
    unfold hourF
    by_cases z : whN T F (hrN T sc k) m g = 0
    · rw [if_pos z, if_neg i10, if_pos z]
      by_cases y : x = 0
      · have ew : w32 (-(σ1 53 2)) = worthQ T x (btN T F (hrN T sc k) m g) := by
          unfold worthQ
          rw [if_pos y]
          unfold worthQ at wb
          rw [if_pos y] at wb
          rw [p1.2.2.1, w32_id (by omega) (by omega)]
        rw [if_pos y, ew]
        exact mid
      · have ew : σ1 53 3 = worthQ T x (btN T F (hrN T sc k) m g) := by
          unfold worthQ
          rw [if_neg y, p1.2.2.2.1]
        rw [if_neg y, ew]
        exact mid
    · rw [if_neg z, if_pos rfl, if_neg z]
      exact go _ _
theorem m_hourL (S : ScOk T sc) (hm : m < nM T) (hg : g < 2) {h : Nat} (h44 : sc 44 = (h : Int)) (x : Int) : ∀ n k (best bw : Int) (σ : am_Sg), h + k + n = 24 → (best = -2 ∨ 0 ≤ best) → (-5000 ≤ bw ∧ bw ≤ 5000) → RT X σ T l F → rs (σ 128) = hrN T sc k → σ 127 45 = sc 45 → ∃ σ', vv X 44 28 [some (vP 80), some (vI (m : Int)), some (vI (g : Int)), some (vI x), some (vI best), some (vI (-bw)), none] [] σ = some (some (vI (hourF T F sc m g (worthQ T x) h n k best bw)), σ') ∧ Fr [125, 126, 128, 129] [63] σ σ'
  | 0, k, best, bw, σ, e, hbst, hbw, R, hs, h45 => by
    have e45 : σ 128 45 = hrN T sc k 45 := by rw [← hs, rs_in (by omega)]
    refine ⟨σ, ?_, Fr.rf⟩
    rw [bq_44_28, e45, h45, if_pos (hrN_next R.2.1 S h44 (by omega))]
    rfl
  | n + 1, k, best, bw, σ, e, hbst, hbw, R, hs, h45 => by
    have H := R.2.1
    have hF := R.2.2.2.2.2
    have Sk := ScOk.hrN H S k
    have dd := hrN_day H h44 k (by omega)
    have e45 : σ 128 45 = sc 45 := by rw [← dd.2, ← hs, rs_in (by omega)]
    obtain ⟨σ1, e1, f1, p1⟩ := m_mayT R hs Sk hm hg
    have R1 := R.fr f1 rfl rfl rfl
    have e44 : σ1 128 44 = ((h + k : Nat) : Int) := by rw [f1.get 128 (by decide) rfl, ← dd.1, ← hs, rs_in (by omega)]
    obtain ⟨σ2, e2, f2, p2⟩ := m_hourT R1 (by rw [f1.get 128 (by decide) rfl]; exact hs) Sk
    have R2 := R1.fr f2 rfl rfl rfl
    have f12 : Fr [125, 126, 128, 129] [63] σ σ2 := (f1.mono rfl rfl).tr (f2.mono rfl rfl)
    have hb := (btN_ok (T := T) hF (sc := hrN T sc k) (m := m) (g := g)).mono (show (6 : Int) ≤ 12 by omega)
    have wb := worthQ_bd H (x := x) hb
    have go : ∀ b' w', (b' = -2 ∨ 0 ≤ b') → (-5000 ≤ w' ∧ w' ≤ 5000) → ∃ σ', vv X 44 97 [some (vP 80), some (vI (m : Int)), some (vI (g : Int)), some (vI x), some (vI b'), some (vI (-w')), none] [] σ1 = some (some (vI (hourF T F sc m g (worthQ T x) h n (k + 1) b' w')), σ') ∧ Fr [125, 126, 128, 129] [63] σ σ' := by
      intro b' w' hb' hw'
      obtain ⟨σ3, e3, f3⟩ := m_hourL S hm hg h44 x n (k + 1) b' w' σ2 (by omega) hb' hw' R2 p2 (by rw [f12.get 127 (by decide) rfl]; exact h45)
      refine ⟨σ3, ?_, f12.tr f3⟩
      rw [bq_44_97, e2, bsome]
      exact e3
    have mid : ∃ σ', vv X 44 70 [some (vP 80), some (vI (m : Int)), some (vI (g : Int)), some (vI x), some (vI best), some (vI (-bw)), none] [vI (-(worthQ T x (btN T F (hrN T sc k) m g)))] σ1 = some (some (vI (if best = -2 then hourF T F sc m g (worthQ T x) h n (k + 1) ((h + k : Nat) : Int) (worthQ T x (btN T F (hrN T sc k) m g)) else if worthQ T x (btN T F (hrN T sc k) m g) ≤ bw then hourF T F sc m g (worthQ T x) h n (k + 1) best bw else hourF T F sc m g (worthQ T x) h n (k + 1) ((h + k : Nat) : Int) (worthQ T x (btN T F (hrN T sc k) m g)))), σ') ∧ Fr [125, 126, 128, 129] [63] σ σ' := by
      rw [bq_44_70, bq_44_84, e44]
      by_cases z1 : best = -2
      · rw [if_pos (by omega), if_pos z1]
        exact go _ _ (Or.inr (by omega)) wb
      · rw [if_neg (by omega), if_neg z1]
        by_cases z2 : worthQ T x (btN T F (hrN T sc k) m g) ≤ bw
        · rw [if_pos (by omega), if_pos z2]
          exact go _ _ hbst hbw
        · rw [if_neg (by omega), if_neg z2]
          exact go _ _ (Or.inr (by omega)) wb
    rw [bq_44_28, e45, h45, if_neg (fun q => q rfl), e1, bsome]
    dsimp +instances only
    unfold hourF
    by_cases z : whN T F (hrN T sc k) m g = 0
    · rw [if_neg (fun q => q z), if_pos z]
      by_cases y : x = 0
      · have ew : bulkS T (btN T F (hrN T sc k) m g) = -(worthQ T x (btN T F (hrN T sc k) m g)) := by
          unfold worthQ
          rw [if_pos y]
          omega
        rw [if_pos y, m_bulk2 H R1.2.2.1 hb p1, bsome]
        dsimp +instances only
        rw [ew]
        exact mid
      · have ew : w32 (-(gainS T (btN T F (hrN T sc k) m g))) = -(worthQ T x (btN T F (hrN T sc k) m g)) := by
          have g1 := gain_bd H hb (by omega)
          unfold worthQ
          rw [if_neg y, w32_id (by omega) (by omega)]
        rw [if_neg y, m_gain2 H R1.2.2.1 hb p1, bsome]
        dsimp +instances only
        rw [ew]
        exact mid
    · rw [if_pos z, if_neg z]
      exact go _ _ hbst hbw
theorem q_hourOf (h : Rel X σ) (x y z : Int) : Qc X 43 44 [vI x, vI y, vI z] σ := by
  obtain ⟨T, l, F, R, hN, -⟩ := id h
  have hT := R.1
  have H := R.2.1
  have K := R.2.2.1
  by_cases hm : 0 ≤ x ∧ x < (nM T : Int)
  · by_cases hg : 0 ≤ y ∧ y ≤ 1
    · obtain ⟨m, rfl, hm'⟩ := nat_of hm
      obtain ⟨g, rfl, hg'⟩ := nat_of (n := 2) (show 0 ≤ y ∧ y < ((2 : Nat) : Int) by omega)
      obtain ⟨t, e44, ht⟩ := ScOk.h44 hN.2
      obtain ⟨σ0, e0, f0, p0⟩ := c_trial (X := X) (σ := σ)
      obtain ⟨σ1, e1, f1⟩ := c_hourL (X := X) (sc := rs (σ 127)) hN.2 hm' hg' e44 z (24 - t) 0 (-2) 0 σ0 (by omega) (R.fr f0 rfl rfl rfl) (p0.trans hN.1)
      have fC : Fr [52, 53, 54, 58, 59] [] σ σ1 := (f0.mono rfl rfl).tr f1
      have R1 := R.fr fC rfl rfl rfl
      obtain ⟨σ2, e2, f2, p2⟩ := m_takes (X := X) (σ := σ1)
      obtain ⟨σ3, e3, f3⟩ := m_hourL (X := X) (sc := rs (σ 127)) hN.2 hm' hg' e44 z (24 - t) 0 (-2) 0 σ2 (by omega) (Or.inl rfl) (by omega) (R1.fr f2 rfl rfl rfl) (by rw [p2, fC.get 127 (by decide) rfl]; rfl) (by rw [f2.get 127 (by decide) rfl, fC.get 127 (by decide) rfl, rs_in (by omega)])
      refine ⟨hourF T F (rs (σ 127)) m g (worthQ T z) t (24 - t) 0 (-2) 0, σ1, σ3, vI_of ((bq_43_0 X _ _ _ σ).trans ?_) rfl, vI_of ((bq_44_0 X _ _ _ σ1).trans ?_) rfl, h.scr (((fC.mono rfl rfl).tr (f2.mono rfl rfl)).tr (f3.mono rfl rfl))⟩
      · have eh : σ0 50 44 = ((t + 0 : Nat) : Int) := by rw [f0.get 50 (by decide) rfl, hN.at (by omega), ← rs_in (f := σ 127) (show 44 < 46 by omega), e44]; rfl
        rw [c_isMan H hT, bsome]
        dsimp +instances only
        rw [if_pos hm, if_neg i10, g_gateC, bsome]
        dsimp +instances only
        rw [if_pos hg, if_pos i10, vI_of ((bq_147_0 X _ _ _ σ).trans (by rw [e0, bsome, g_hourA, bsome]; dsimp +instances only; rw [eh]; exact e1)) rfl, bsome]
      · rw [m_isMan H R1.2.2.1, bsome]
        dsimp +instances only
        rw [if_pos hm, if_neg i10, g_gateM, bsome]
        dsimp +instances only
        rw [if_pos hg, if_pos i10, e2, bsome]
        exact e3
    · refine Qc.same h ⟨-1, ?_, ?_⟩ rfl rfl
      · refine (bq_43_0 X _ _ _ _).trans ?_
        rw [c_isMan H hT, bsome]
        dsimp +instances only
        rw [if_pos hm, if_neg i10, g_gateC, bsome]
        dsimp +instances only
        rw [if_neg hg, if_neg (by decide), bq_43_15]
      · refine (bq_44_0 X _ _ _ _).trans ?_
        rw [m_isMan H K, bsome]
        dsimp +instances only
        rw [if_pos hm, if_neg i10, g_gateM, bsome]
        dsimp +instances only
        rw [if_neg hg, if_neg (by decide), bq_44_15]
  · refine Qc.same h ⟨-1, ?_, ?_⟩ rfl rfl
    · refine (bq_43_0 X _ _ _ _).trans ?_
      rw [c_isMan H hT, bsome]
      dsimp +instances only
      rw [if_neg hm, if_pos rfl, bq_43_15]
    · refine (bq_44_0 X _ _ _ _).trans ?_
      rw [m_isMan H K, bsome]
      dsimp +instances only
      rw [if_neg hm, if_pos rfl, bq_44_15]
end QW
