/-! CALLS: judge, odd, led -/
def ldA (ld : Nat → Int) (m : Nat) (b : Nat → Int) : Nat → Int := fun j => if 4 * m ≤ j ∧ j < 4 * m + 4 then w32 (ld j + b (j - 4 * m)) else ld j
noncomputable def jdF (T : am_Sg) (F : LF) (M G E : Nat → Nat) (wo : Int) : Nat → Nat → (Nat → Int) → (Nat → Int) → Int × (Nat → Int)
  | 0, _, _, ld => (-2, ld)
  | n + 1, i, sc, ld => if (i : Int) = wo then jdF T F M G E wo n (i + 1) sc ld else
    if whN T F (hrN T sc (E i - (sc 44).toNat)) (M i) (G i) = 0 then jdF T F M G E wo n (i + 1) (swS T (hrN T sc (E i - (sc 44).toNat)) (M i) (G i) (btN T F (hrN T sc (E i - (sc 44).toNat)) (M i) (G i))) (ldA ld (M i) (btN T F (hrN T sc (E i - (sc 44).toNat)) (M i) (G i))) else (w32 (w32 (10 * (i : Int)) + whN T F (hrN T sc (E i - (sc 44).toNat)) (M i) (G i)), ld)
def EC (σ : am_Sg) (e : Nat) (M G E : Nat → Nat) : Prop := σ 75 8 = (e : Int) ∧ ∀ i, i < e → σ 76 i = (M i : Int) ∧ σ 77 i = (G i : Int) ∧ σ 78 i = (E i : Int)
def EM (σ : am_Sg) (e : Nat) (M G E : Nat → Nat) : Prop := ∀ i, i < e → σ 139 i = (M i : Int) ∧ σ 140 i = (G i : Int) ∧ σ 141 i = (E i : Int)
def EB (T : am_Sg) (e : Nat) (M G E : Nat → Nat) : Prop := e ≤ 30 ∧ ∀ i, i < e → M i < nM T ∧ G i < 2 ∧ E i < 24
theorem EC.fr {σ σ' : am_Sg} {e : Nat} {M G E : Nat → Nat} {cs js : List Nat} (h : EC σ e M G E) (hf : Fr cs js σ σ') (h1 : nin cs [75, 76, 77, 78] = true) : EC σ' e M G E := by
  unfold EC
  rw [nin_get hf h1 (k := 75) (by decide) rfl, nin_get hf h1 (k := 76) (by decide) rfl, nin_get hf h1 (k := 77) (by decide) rfl, nin_get hf h1 (k := 78) (by decide) rfl]
  exact h
theorem EM.fr {σ σ' : am_Sg} {e : Nat} {M G E : Nat → Nat} {cs js : List Nat} (h : EM σ e M G E) (hf : Fr cs js σ σ') (h1 : nin cs [139, 140, 141] = true) : EM σ' e M G E := by
  unfold EM
  rw [nin_get hf h1 (k := 139) (by decide) rfl, nin_get hf h1 (k := 140) (by decide) rfl, nin_get hf h1 (k := 141) (by decide) rfl]
  exact h
section BK
variable {X l e k : Nat} {σ T : am_Sg} {F : LF} {M G E : Nat → Nat} {sc ld : Nat → Int}
/-- the class: hours until the entry's -/
theorem c_toHour {i : Nat} {x2 : Int} (hi : i < e) (hB : EB T e M G E) : ∀ n (σ : am_Sg) (sc : Nat → Int) (h : Nat), n = E i - h → sc 44 = (h : Int) → RT X σ T l F → EC σ e M G E → ScOk T sc → rs (σ 52) = sc → ∃ σ', vv X 224 15 [some (vP 75), some (vI (i : Int)), some (vI x2), some (vI (h : Int)), none] [] σ = vv X 224 15 [some (vP 75), some (vI (i : Int)), some (vI x2), some (vI ((h + n : Nat) : Int)), none] [] σ' ∧ Fr [52] [] σ σ' ∧ rs (σ' 52) = hrN T sc n
  | 0, σ, sc, h, e1, e2, R, hE, S, hs => ⟨σ, rfl, Fr.rf, hs⟩
  | n + 1, σ, sc, h, e1, e2, R, hE, S, hs => by
    have H := R.2.1
    have hb := hB.2 i hi
    have h30 := hB.1
    obtain ⟨σ1, g1, f1, p1⟩ := c_hourT R hs S
    have e44 : hrS T sc 44 = ((h + 1 : Nat) : Int) := by rw [hrS_44, e2, if_pos (by omega)]; omega
    obtain ⟨σ2, g2, f2, p2⟩ := c_toHour hi hB n σ1 (hrS T sc) (h + 1) (by omega) e44 (R.fr f1 rfl rfl rfl) (hE.fr f1 rfl) (S.hr H) p1
    refine ⟨σ2, ?_, f1.tr f2, ?_⟩
    · rw [bq_224_15, if_pos (by omega), tn_nat, (hE.2 i hi).2.2, if_neg (by omega), g1, bsome, w32_s1 (by omega), g2, show h + 1 + n = h + (n + 1) by omega]
    · rw [p2]
      clear g2 p2 f2
      induction n with
      | zero => rfl
      | succ n ih =>
        show hrS T (hrN T (hrS T sc) n) = hrS T (hrN T sc (n + 1))
        have : hrN T (hrS T sc) n = hrN T sc (n + 1) := by
          clear ih e1
          induction n with
          | zero => rfl
          | succ n ih2 =>
            show hrS T (hrN T (hrS T sc) n) = hrS T (hrN T sc (n + 1))
            rw [ih2]
        rw [this]
theorem hrN_s (T : am_Sg) (sc : Nat → Int) : ∀ n, hrN T (hrS T sc) n = hrN T sc (n + 1)
  | 0 => rfl
  | n + 1 => by
    show hrS T (hrN T (hrS T sc) n) = hrS T (hrN T sc (n + 1))
    rw [hrN_s T sc n]
theorem m_toHour {i : Nat} {x1 x2 : Int} (hi : i < e) (hB : EB T e M G E) : ∀ n (σ : am_Sg) (sc : Nat → Int) (h : Nat), n = E i - h → sc 44 = (h : Int) → RT X σ T l F → EM σ e M G E → ScOk T sc → rs (σ 128) = sc → ∃ σ', vv X 162 40 [some (vP 80), some (vI x1), some (vI x2), some (vI (i : Int)), none, none, none] [] σ = vv X 162 40 [some (vP 80), some (vI x1), some (vI x2), some (vI (i : Int)), none, none, none] [] σ' ∧ Fr [128] [] σ σ' ∧ rs (σ' 128) = hrN T sc n
  | 0, σ, sc, h, e1, e2, R, hE, S, hs => ⟨σ, rfl, Fr.rf, hs⟩
  | n + 1, σ, sc, h, e1, e2, R, hE, S, hs => by
    have H := R.2.1
    have hb := hB.2 i hi
    have h30 := hB.1
    have s44 : σ 128 44 = (h : Int) := by rw [← e2, ← hs, rs_in (by omega)]
    obtain ⟨σ1, g1, f1, p1⟩ := m_hourT R hs S
    have e44 : hrS T sc 44 = ((h + 1 : Nat) : Int) := by rw [hrS_44, e2, if_pos (by omega)]; omega
    obtain ⟨σ2, g2, f2, p2⟩ := m_toHour (x1 := x1) (x2 := x2) hi hB n σ1 (hrS T sc) (h + 1) (by omega) e44 (R.fr f1 rfl rfl rfl) (hE.fr f1 rfl) (S.hr H) p1
    refine ⟨σ2, ?_, f1.tr f2, by rw [p2, hrN_s]⟩
    rw [bq_162_40, if_pos (by omega), tn_nat, (hE i hi).2.2, s44, if_neg (by omega), g1, bsome, g2]
theorem ldA_ext {f g : Nat → Int} {m : Nat} {b : Nat → Int} (h : ∀ j, j < 32 → f j = g j) : ∀ j, j < 32 → ldA f m b j = ldA g m b j := fun j hj => by
  unfold ldA
  rw [h j hj]
theorem c_led {m : Nat} {w : Int} {b : Nat → Int} (hm : m < 8) (hp : ∀ d, d < 4 → σ 54 d = b d) : vv X 224 112 [some (vP 75), none, some (vI (m : Int)), some (vI w), some (vI 0)] [] σ = some (some (vI w), am_row σ 79 (ldA (σ 79) m b)) := by
  obtain ⟨r, e, hr⟩ := lp (fun i (r : Nat → Int) => vv X 224 112 [some (vP 75), none, some (vI (m : Int)), some (vI w), some (vI (i : Int))] [] (am_row σ 79 r)) 4 (fun i r => r = fun j => if 4 * m ≤ j ∧ j < 4 * m + i then w32 (σ 79 j + b (j - 4 * m)) else σ 79 j) (fun i r hi hr => by
    refine ⟨_, ?_, rfl⟩
    show vv X 224 112 [some (vP 75), none, some (vI (m : Int)), some (vI w), some (vI (i : Int))] [] (am_row σ 79 r) = vv X 224 112 [some (vP 75), none, some (vI (m : Int)), some (vI w), some (vI ((i + 1 : Nat) : Int))] [] _
    rw [bq_224_112, if_neg (by omega), ixm4 hm hi, if_pos (by omega), if_pos (by omega), w32_s1 (by omega), tn_nat, tn_nat, ur, re, rn _ (show ¬ (54 : Nat) = 79 by decide), hp i hi]
    congr 2
    funext j
    rw [upa, hr]
    dsimp only
    by_cases y : j = 4 * m + i
    · rw [if_pos y, if_neg (by omega), if_pos (by omega), y, show 4 * m + i - 4 * m = i by omega]
    · rw [if_neg y]
      by_cases x : 4 * m ≤ j ∧ j < 4 * m + i
      · rw [if_pos x, if_pos (by omega)]
      · rw [if_neg x, if_neg (by omega)]) 4 0 (σ 79) (by omega) (by funext j; rw [if_neg (by omega)])
  rw [r0] at e
  refine Eq.trans e ?_
  show vv X 224 112 [some (vP 75), none, some (vI (m : Int)), some (vI w), some (vI 4)] [] (am_row σ 79 r) = _
  rw [bq_224_112, if_pos (by omega), bq_224_148, hr]
  rfl
theorem m_led {m : Nat} {x1 x2 x3 : Int} {b : Nat → Int} (hm : m < 8) (hp : ∀ d, d < 4 → σ 129 d = b d) : vv X 162 113 [some (vP 80), some (vI x1), some (vI x2), some (vI x3), some (vI (m : Int)), none, some (vI 0)] [] σ = vv X 162 147 [some (vP 80), some (vI x1), some (vI x2), some (vI x3), none, none, none] [] (am_row σ 142 (ldA (σ 142) m b)) := by
  obtain ⟨r, e, hr⟩ := lp (fun i (r : Nat → Int) => vv X 162 113 [some (vP 80), some (vI x1), some (vI x2), some (vI x3), some (vI (m : Int)), none, some (vI (i : Int))] [] (am_row σ 142 r)) 4 (fun i r => r = fun j => if 4 * m ≤ j ∧ j < 4 * m + i then w32 (σ 142 j + b (j - 4 * m)) else σ 142 j) (fun i r hi hr => by
    refine ⟨_, ?_, rfl⟩
    show vv X 162 113 [some (vP 80), some (vI x1), some (vI x2), some (vI x3), some (vI (m : Int)), none, some (vI (i : Int))] [] (am_row σ 142 r) = vv X 162 113 [some (vP 80), some (vI x1), some (vI x2), some (vI x3), some (vI (m : Int)), none, some (vI ((i + 1 : Nat) : Int))] [] _
    rw [bq_162_113, if_neg (by omega), show w32 (w32 (4 * (m : Int)) + (i : Int)) = ((4 * m + i : Nat) : Int) from by unfold w32; omega, if_pos (by omega), if_pos (by omega), w32_s1 (by omega), tn_nat, tn_nat, ur, re, rn _ (show ¬ (129 : Nat) = 142 by decide), hp i hi]
    congr 2
    funext j
    rw [upa, hr]
    dsimp only
    by_cases y : j = 4 * m + i
    · rw [if_pos y, if_neg (by omega), if_pos (by omega), y, show 4 * m + i - 4 * m = i by omega]
    · rw [if_neg y]
      by_cases x : 4 * m ≤ j ∧ j < 4 * m + i
      · rw [if_pos x, if_pos (by omega)]
      · rw [if_neg x, if_neg (by omega)]) 4 0 (σ 142) (by omega) (by funext j; rw [if_neg (by omega)])
  rw [r0] at e
  refine Eq.trans e ?_
  show vv X 162 113 [some (vP 80), some (vI x1), some (vI x2), some (vI x3), some (vI (m : Int)), none, some (vI 4)] [] (am_row σ 142 r) = _
  rw [bq_162_113, if_pos (by omega), hr]
  rfl
theorem c_refused {i : Nat} (hi : i < e) (hB : EB T e M G E) (R : RT X σ T l F) (hE : EC σ e M G E) (S : ScOk T sc) (hs : rs (σ 52) = sc) (hl : ∀ j, j < 32 → σ 79 j = ld j) : ∃ σ', vcI X 224 [vP 75, vI (i : Int)] σ = some (whN T F (hrN T sc (E i - (sc 44).toNat)) (M i) (G i), σ') ∧ Fr [52, 53, 54, 58, 59, 79] [] σ σ' ∧ (whN T F (hrN T sc (E i - (sc 44).toNat)) (M i) (G i) = 0 → rs (σ' 52) = swS T (hrN T sc (E i - (sc 44).toNat)) (M i) (G i) (btN T F (hrN T sc (E i - (sc 44).toNat)) (M i) (G i)) ∧ ∀ j, j < 32 → σ' 79 j = ldA ld (M i) (btN T F (hrN T sc (E i - (sc 44).toNat)) (M i) (G i)) j) ∧ (¬ whN T F (hrN T sc (E i - (sc 44).toNat)) (M i) (G i) = 0 → ∀ j, j < 32 → σ' 79 j = ld j) := by
  have H := R.2.1
  have hF := R.2.2.2.2.2
  have h8 := H.m8
  have h30 := hB.1
  have hb := hB.2 i hi
  obtain ⟨h, e44, h23⟩ := ScOk.h44 S
  have eh : (sc 44).toNat = h := by omega
  rw [eh]
  obtain ⟨σ1, e1, f1, p1⟩ := c_toHour (X := X) (x2 := (M i : Int)) hi hB (E i - h) σ sc h rfl e44 R hE S hs
  have R1 := R.fr f1 rfl rfl rfl
  have E1 := hE.fr f1 rfl
  have S1 := ScOk.hrN H S (E i - h)
  generalize hrN T sc (E i - h) = sc1 at p1 S1 ⊢
  have hbb := (btN_ok (T := T) hF (sc := sc1) (m := M i) (g := G i)).mono (show (6 : Int) ≤ 12 by omega)
  obtain ⟨σ2, e2, f2, p2⟩ := c_lay_51_53 (X := X) H R1.1 R1.2.2.2.1 hF hb.1 hb.2.1 0
  rw [btN_eq (by rw [p1]; exact S1) hb.2.1, p1] at p2
  have R2 := R1.fr f2 rfl rfl rfl
  have s2 : rs (σ2 52) = sc1 := by rw [f2.get 52 (by decide) rfl, p1]
  have w2 := c_why_51_53 (X := X) (x4 := 1) H R2.1 hb.1 (by rw [s2]; exact S1) p2 hbb
  rw [s2] at w2
  have st : vv X 224 0 [some (vP 75), some (vI (i : Int)), none, none, none] [] σ = (if ¬ whN T F sc1 (M i) (G i) = 0 then vv X 224 148 [none, none, none, some (vI (whN T F sc1 (M i) (G i))), none] [] σ2 else (vcV X 114 [vP 57, vP 51, vI (M i : Int), vI (G i : Int), vP 53] σ2).bind fun q3 => vv X 224 112 [some (vP 75), none, some (vI (M i : Int)), some (vI (whN T F sc1 (M i) (G i))), some (vI 0)] [] q3) := by
    have h44 : σ 52 44 = (h : Int) := by rw [← e44, ← hs, rs_in (by omega)]
    rw [bq_224_0, if_pos (by omega), g_hourB, bsome]
    dsimp +instances only
    rw [tn_nat, (hE.2 i hi).1, h44, e1, bq_224_15, if_pos (by omega), tn_nat, (E1.2 i hi).2.2, if_pos (by omega), (E1.2 i hi).2.1, e2, bsome, w2, bsome]
    dsimp +instances only
    rw [f2.get 77 (by decide) rfl, (E1.2 i hi).2.1]
    rfl
  by_cases z : whN T F sc1 (M i) (G i) = 0
  · rw [if_neg (fun q => q z)] at st
    obtain ⟨σ3, e3, f3, p3⟩ := c_sw_51_53 (X := X) H R2.1 hb.1 hb.2.1 p2 hbb (by rw [s2]; exact S1)
    have p54 : ∀ d, d < 4 → σ3 54 d = btN T F sc1 (M i) (G i) d := fun d hd => by rw [f3.get 54 (by decide) rfl]; exact p2.at hd
    rw [e3, bsome, c_led (by omega) p54] at st
    have f13 : Fr [52, 53, 54, 58, 59, 79] [] σ σ3 := ((f1.mono rfl rfl).tr (f2.mono rfl rfl)).tr (f3.mono rfl rfl)
    refine ⟨_, vI_of st rfl, f13.row rfl (by decide), fun _ => ⟨?_, fun j hj => ?_⟩, fun y => absurd z y⟩
    · rw [rn _ (by decide), p3, s2]
    · rw [re]
      refine ldA_ext (fun j hj => ?_) j hj
      rw [f3.get 79 (by decide) rfl, f2.get 79 (by decide) rfl, f1.get 79 (by decide) rfl]
      exact hl j hj
  · rw [if_pos z, bq_224_148] at st
    refine ⟨σ2, vI_of st rfl, (f1.mono rfl rfl).tr (f2.mono rfl rfl), fun y => absurd y z, fun _ j hj => ?_⟩
    rw [f2.get 79 (by decide) rfl, f1.get 79 (by decide) rfl]
    exact hl j hj
theorem c_jdL {wo : Int} (hk : k ≤ e) (hB : EB T e M G E) : ∀ n i (σ : am_Sg) (sc ld : Nat → Int), i + n = k → RT X σ T l F → EC σ e M G E → ScOk T sc → rs (σ 52) = sc → (∀ j, j < 32 → σ 79 j = ld j) → ∃ σ', vv X 161 21 [some (vP 75), some (vI (k : Int)), some (vI wo), some (vI (i : Int)), none] [] σ = some (some (vI (jdF T F M G E wo n i sc ld).1), σ') ∧ Fr [52, 53, 54, 58, 59, 79] [] σ σ' ∧ ∀ j, j < 32 → σ' 79 j = (jdF T F M G E wo n i sc ld).2 j
  | 0, i, σ, sc, ld, e1, R, hE, S, hs, hl => by
    refine ⟨σ, ?_, Fr.rf, hl⟩
    rw [bq_161_21, if_pos (by omega), bq_161_65]
    rfl
  | n + 1, i, σ, sc, ld, e1, R, hE, S, hs, hl => by
    have H := R.2.1
    have hF := R.2.2.2.2.2
    have h30 := hB.1
    have hb := hB.2 i (by omega)
    rw [bq_161_21, if_neg (by omega), hE.1, if_neg (by omega)]
    unfold jdF
    by_cases y : (i : Int) = wo
    · rw [if_pos y, if_pos y, bq_161_59, w32_s1 (by omega)]
      exact c_jdL hk hB n (i + 1) σ sc ld (by omega) R hE S hs hl
    · rw [if_neg y, if_neg y]
      obtain ⟨σ1, g1, f1, p1, p2⟩ := c_refused (X := X) (ld := ld) (show i < e by omega) hB R hE S hs hl
      rw [g1, bsome]
      dsimp +instances only
      by_cases z : whN T F (hrN T sc (E i - (sc 44).toNat)) (M i) (G i) = 0
      · rw [if_pos z, if_pos z, bq_161_59, w32_s1 (by omega)]
        obtain ⟨σ2, g2, f2, r⟩ := c_jdL (wo := wo) hk hB n (i + 1) σ1 _ _ (by omega) (R.fr f1 rfl rfl rfl) (hE.fr f1 rfl) ((ScOk.hrN H S _).sw H hb.1 hb.2.1 ((btN_ok hF).mono (by omega)) (by decide) z) (p1 z).1 (p1 z).2
        exact ⟨σ2, g2, f1.tr f2, r⟩
      · rw [if_neg z, if_neg z]
        exact ⟨σ1, rfl, f1, p2 z⟩
theorem m_jdL {wo : Int} (hk : k ≤ e) (hB : EB T e M G E) : ∀ n i (σ : am_Sg) (sc ld : Nat → Int), i + n = k → RT X σ T l F → EM σ e M G E → ScOk T sc → rs (σ 128) = sc → (∀ j, j < 32 → σ 142 j = ld j) → ∃ σ', vv X 162 27 [some (vP 80), some (vI (k : Int)), some (vI wo), some (vI (i : Int)), none, none, none] [] σ = some (some (vI (jdF T F M G E wo n i sc ld).1), σ') ∧ Fr [125, 126, 128, 129, 142] [63] σ σ' ∧ ∀ j, j < 32 → σ' 142 j = (jdF T F M G E wo n i sc ld).2 j
  | 0, i, σ, sc, ld, e1, R, hE, S, hs, hl => by
    refine ⟨σ, ?_, Fr.rf, hl⟩
    rw [bq_162_27, if_pos (by omega)]
    rfl
  | n + 1, i, σ, sc, ld, e1, R, hE, S, hs, hl => by
    have H := R.2.1
    have hF := R.2.2.2.2.2
    have h8 := H.m8
    have h30 := hB.1
    have hb := hB.2 i (by omega)
    rw [bq_162_27, if_neg (by omega)]
    unfold jdF
    by_cases y : (i : Int) = wo
    · rw [if_neg (fun q => q y), if_pos y, bq_162_147, w32_s1 (by omega)]
      exact m_jdL hk hB n (i + 1) σ sc ld (by omega) R hE S hs hl
    · rw [if_pos y, if_neg y]
      obtain ⟨h, e44, h23⟩ := ScOk.h44 S
      have eh : (sc 44).toNat = h := by omega
      rw [eh]
      obtain ⟨σ1, g1, f1, p1⟩ := m_toHour (X := X) (x1 := (k : Int)) (x2 := wo) (show i < e by omega) hB (E i - h) σ sc h rfl e44 R hE S hs
      have R1 := R.fr f1 rfl rfl rfl
      have E1 := hE.fr f1 rfl
      have S1 := ScOk.hrN H S (E i - h)
      have h44 : ¬ σ1 128 44 < (E i : Int) := by
        have d := hrN_day H e44
        rw [← rs_in (f := σ1 128) (show 44 < 46 by omega), p1]
        by_cases z : E i ≤ h
        · rw [show E i - h = 0 by omega]
          show ¬ sc 44 < _
          omega
        · rw [(d (E i - h) (by omega)).1]
          omega
      generalize hrN T sc (E i - h) = sc1 at p1 S1 ⊢
      have hbb := (btN_ok (T := T) hF (sc := sc1) (m := M i) (g := G i)).mono (show (6 : Int) ≤ 12 by omega)
      obtain ⟨σ2, g2, f2, p2⟩ := m_mayT R1 p1 S1 hb.1 hb.2.1
      have R2 := R1.fr f2 rfl rfl rfl
      have s2 : rs (σ2 128) = sc1 := by rw [f2.get 128 (by decide) rfl, p1]
      have wr := why_rng (T := T) (sc := sc1) (m := M i) (b := btN T F sc1 (M i) (G i)) (ask := ¬ (1 : Int) = 0)
      have wr : 0 ≤ whN T F sc1 (M i) (G i) ∧ whN T F sc1 (M i) (G i) ≤ 5 := wr
      rw [g1, bq_162_40, if_pos (by omega), tn_nat, (E1 i (by omega)).2.2, if_pos (by omega), (E1 i (by omega)).1, (E1 i (by omega)).2.1, g2, bsome]
      dsimp +instances only
      rw [f2.get 140 (by decide) rfl, (E1 i (by omega)).2.1]
      by_cases z : whN T F sc1 (M i) (G i) = 0
      · obtain ⟨σ3, g3, f3, p3⟩ := m_sw (X := X) H R2.2.2.1 hb.1 hb.2.1 hbb p2 (by rw [s2]; exact S1)
        have p129 : ∀ d, d < 4 → σ3 129 d = btN T F sc1 (M i) (G i) d := fun d hd => by rw [f3.get 129 (by decide) rfl, ← p2, b4_in hd]
        rw [if_pos (by omega), if_pos z, g3, bsome, m_led (by omega) p129, bq_162_147, w32_s1 (by omega)]
        have f13 : Fr [125, 126, 128, 129, 142] [63] σ (am_row σ3 142 (ldA (σ3 142) (M i) (btN T F sc1 (M i) (G i)))) := (((f1.mono rfl rfl).tr (f2.mono rfl rfl)).tr (f3.mono rfl rfl)).row rfl (by decide)
        obtain ⟨σ4, g4, f4, r⟩ := m_jdL (wo := wo) hk hB n (i + 1) (am_row σ3 142 (ldA (σ3 142) (M i) (btN T F sc1 (M i) (G i)))) (swS T sc1 (M i) (G i) (btN T F sc1 (M i) (G i))) (ldA ld (M i) (btN T F sc1 (M i) (G i))) (by omega) (R.fr f13 rfl rfl rfl) (hE.fr f13 rfl) (S1.sw H hb.1 hb.2.1 hbb (by decide) z) (by rw [rn _ (by decide), p3, s2]) (fun j hj => by
          rw [re]
          refine ldA_ext (fun j hj => ?_) j hj
          rw [f3.get 142 (by decide) rfl, f2.get 142 (by decide) rfl, f1.get 142 (by decide) rfl]
          exact hl j hj)
        exact ⟨σ4, g4, f13.tr f4, r⟩
      · rw [if_neg (by omega), if_neg z]
        refine ⟨σ2, rfl, (f1.mono rfl rfl).tr (f2.mono rfl rfl), fun j hj => ?_⟩
        rw [f2.get 142 (by decide) rfl, f1.get 142 (by decide) rfl]
        exact hl j hj
/-- the class's and the reference's judgement of the first k entries -/
theorem c_first {wo : Int} (hk : k ≤ e) (hB : EB T e M G E) (R : RT X σ T l F) (hE : EC σ e M G E) : ∃ σ', vcI X 161 [vP 75, vI (k : Int), vI wo] σ = some ((jdF T F M G E wo k 0 (bgS T) (fun _ => 0)).1, σ') ∧ Fr [52, 53, 54, 58, 59, 79] [] σ σ' ∧ ∀ j, j < 32 → σ' 79 j = (jdF T F M G E wo k 0 (bgS T) (fun _ => 0)).2 j := by
  have H := R.2.1
  obtain ⟨σ1, e1, f1, p1⟩ := c_begin_51 (X := X) H R.1
  have f2 : Fr [52, 79] [] σ (am_row σ1 79 (fun j => if j < 32 then 0 else σ1 79 j)) := (f1.mono rfl rfl).row rfl (by decide)
  obtain ⟨σ3, e3, f3, r⟩ := c_jdL (X := X) (wo := wo) hk hB k 0 (am_row σ1 79 (fun j => if j < 32 then 0 else σ1 79 j)) (bgS T) (fun _ => 0) (by omega) (R.fr f2 rfl rfl rfl) (hE.fr f2 rfl) (ScOk.bg H) (by rw [rn _ (by decide)]; exact p1) (fun j hj => by rw [re, if_pos hj])
  exact ⟨σ3, vI_of ((bq_161_0 X _ _ σ).trans (by rw [e1, bsome, fl_79, bsome]; exact e3)) rfl, (f2.mono rfl rfl).tr f3, r⟩
theorem m_judges {wo : Int} (hk : k ≤ e) (hB : EB T e M G E) (R : RT X σ T l F) (hE : EM σ e M G E) : ∃ σ', vcI X 162 [vP 80, vI (k : Int), vI wo] σ = some ((jdF T F M G E wo k 0 (bgS T) (fun _ => 0)).1, σ') ∧ Fr [125, 126, 128, 129, 142] [63] σ σ' ∧ ∀ j, j < 32 → σ' 142 j = (jdF T F M G E wo k 0 (bgS T) (fun _ => 0)).2 j := by
  have H := R.2.1
  obtain ⟨σ1, e1, f1, p1⟩ := m_begins (X := X) H R.2.2.1
  have L := cpl0 (fun i s => vv X 162 6 [some (vP 80), some (vI (k : Int)), some (vI wo), some (vI (i : Int)), none, none, none] [] s) 142 0 32 0 (fun _ => 0) σ1 (by omega) (fun i hi r => by
    show vv X 162 6 [some (vP 80), some (vI (k : Int)), some (vI wo), some (vI (i : Int)), none, none, none] [] _ = _
    rw [bq_162_6, if_neg (by omega), if_pos (by omega), w32_s1 (by omega), tn_nat, Nat.zero_add])
  generalize hr : (fun j => if 0 + 0 ≤ j ∧ j < 0 + 32 then (fun _ => (0 : Int)) (j - 0) else σ1 142 j) = r at L
  have f2 : Fr [128, 142] [] σ (am_row σ1 142 r) := (f1.mono rfl rfl).row rfl (by decide)
  obtain ⟨σ3, e3, f3, q⟩ := m_jdL (X := X) (wo := wo) hk hB k 0 (am_row σ1 142 r) (bgS T) (fun _ => 0) (by omega) (R.fr f2 rfl rfl rfl) (hE.fr f2 rfl) (ScOk.bg H) (by rw [rn _ (by decide)]; exact p1) (fun j hj => by
    rw [re, ← hr]
    dsimp only
    rw [if_pos (by omega)])
  refine ⟨σ3, vI_of ((bq_162_0 X _ _ σ).trans ?_) rfl, (f2.mono rfl rfl).tr f3, q⟩
  rw [e1, bsome]
  refine Eq.trans L ?_
  show vv X 162 6 [some (vP 80), some (vI (k : Int)), some (vI wo), some (vI 32), none, none, none] [] _ = _
  rw [bq_162_6, if_pos (by omega)]
  exact e3
theorem c_has (e8 : σ 75 8 = (e : Int)) {x : Int} : vcI X 160 [vP 75, vI x] σ = some (if 0 ≤ x ∧ x ≤ (e : Int) then 1 else 0, σ) := by
  refine vI_of ((bq_160_0 X _ σ).trans ?_) rfl
  rw [e8, bq_160_16, bq_160_17, bq_160_17, if_pos okZ0, if_pos okZ1]
  by_cases z : 0 ≤ x ∧ x ≤ (e : Int)
  · rw [if_neg (by omega), if_neg (by omega), if_pos z]
  · rw [if_neg z]
    by_cases y : x < 0
    · rw [if_pos y]
    · rw [if_neg y, if_pos (by omega)]
theorem RB.ent (h : RB σ T) : ∃ e M G E, EB T e M G E ∧ EC σ e M G E ∧ EM σ e M G E ∧ σ 80 81 = (e : Int) := by
  obtain ⟨e, he, ⟨h1, h2⟩, hh⟩ := h
  refine ⟨e, fun i => (σ 139 i).toNat, fun i => (σ 140 i).toNat, fun i => (σ 141 i).toNat, ⟨he, fun i hi => ?_⟩, ⟨h1, fun i hi => ?_⟩, fun i hi => ?_, h2⟩
  · have := hh i hi
    dsimp only
    omega
  · have := hh i hi
    dsimp only
    omega
  · have := hh i hi
    dsimp only
    omega
theorem q_judge (h : Rel X σ) (x : Int) : Qc X 59 60 [vI x] σ := by
  obtain ⟨T, l, F, R, hN, hU, hH, hBk, -⟩ := id h
  obtain ⟨e, M, G, E, hB, hC, hM, h81⟩ := hBk.ent
  by_cases hx : 0 ≤ x ∧ x ≤ (e : Int)
  · obtain ⟨k, rfl, hk⟩ := nat_of (n := e + 1) (show 0 ≤ x ∧ x < ((e + 1 : Nat) : Int) by omega)
    obtain ⟨σ1, e1, f1, r1⟩ := c_first (X := X) (wo := -1) (show k ≤ e by omega) hB R hC
    obtain ⟨σ2, e2, f2, r2⟩ := m_judges (X := X) (wo := -1) (show k ≤ e by omega) hB (R.fr f1 rfl rfl rfl) (hM.fr f1 rfl)
    refine ⟨(jdF T F M G E (-1) k 0 (bgS T) (fun _ => 0)).1, σ1, σ2, vI_of ((bq_59_0 X _ σ).trans ?_) rfl, vI_of ((bq_60_0 X _ σ1).trans ?_) rfl, h.scr ((f1.mono rfl rfl).tr (f2.mono rfl rfl))⟩
    · rw [c_has hC.1, bsome]
      dsimp +instances only
      rw [if_pos hx, if_neg i10, e1, bsome, bq_59_24]
    · rw [f1.fld 81 rfl, h81, g_in, bsome]
      dsimp +instances only
      rw [if_pos hx, if_neg i10, e2, bsome, bq_60_22]
  · refine Qc.same h ⟨-1, ?_, ?_⟩ rfl rfl
    · refine (bq_59_0 X _ _).trans ?_
      rw [c_has hC.1, bsome]
      dsimp +instances only
      rw [if_neg hx, if_pos rfl, bq_59_24]
    · refine (bq_60_0 X _ _).trans ?_
      rw [h81, g_in, bsome]
      dsimp +instances only
      rw [if_neg hx, if_pos rfl, bq_60_22]
noncomputable def oddF (T : am_Sg) (F : LF) (M G E : Nat → Nat) (k : Nat) : Nat → Nat → Int
  | 0, _ => -2
  | n + 1, i => if (jdF T F M G E (i : Int) k 0 (bgS T) (fun _ => 0)).1 = -2 then (i : Int) else oddF T F M G E k n (i + 1)
theorem c_oddL (hk : k ≤ e) (hB : EB T e M G E) : ∀ n i (σ : am_Sg), i + n = k → RT X σ T l F → EC σ e M G E → ∃ σ', vv X 163 16 [some (vP 75), some (vI (k : Int)), some (vI (i : Int))] [] σ = some (some (vI (oddF T F M G E k n i)), σ') ∧ Fr [52, 53, 54, 58, 59, 79] [] σ σ'
  | 0, i, σ, e1, R, hE => ⟨σ, by rw [bq_163_16, if_pos (by omega)]; rfl, Fr.rf⟩
  | n + 1, i, σ, e1, R, hE => by
    have h30 := hB.1
    obtain ⟨σ1, g1, f1, -⟩ := c_first (X := X) (wo := (i : Int)) hk hB R hE
    rw [bq_163_16, if_neg (by omega), g1, bsome]
    dsimp +instances only
    unfold oddF
    by_cases z : (jdF T F M G E (i : Int) k 0 (bgS T) (fun _ => 0)).1 = -2
    · rw [if_neg (fun q => q z), if_pos z]
      exact ⟨σ1, rfl, f1⟩
    · rw [if_pos z, if_neg z, w32_s1 (by omega)]
      obtain ⟨σ2, g2, f2⟩ := c_oddL hk hB n (i + 1) σ1 (by omega) (R.fr f1 rfl rfl rfl) (hE.fr f1 rfl)
      exact ⟨σ2, g2, f1.tr f2⟩
theorem m_oddL (hk : k ≤ e) (hB : EB T e M G E) : ∀ n i (σ : am_Sg), i + n = k → RT X σ T l F → EM σ e M G E → ∃ σ', vv X 62 30 [some (vP 80), some (vI (k : Int)), some (vI (i : Int))] [] σ = some (some (vI (oddF T F M G E k n i)), σ') ∧ Fr [125, 126, 128, 129, 142] [63] σ σ'
  | 0, i, σ, e1, R, hE => ⟨σ, by rw [bq_62_30, if_pos (by omega)]; rfl, Fr.rf⟩
  | n + 1, i, σ, e1, R, hE => by
    have h30 := hB.1
    obtain ⟨σ1, g1, f1, -⟩ := m_judges (X := X) (wo := (i : Int)) hk hB R hE
    rw [bq_62_30, if_neg (by omega), g1, bsome]
    dsimp +instances only
    unfold oddF
    by_cases z : (jdF T F M G E (i : Int) k 0 (bgS T) (fun _ => 0)).1 = -2
    · rw [if_neg (fun q => q z), if_pos z]
      exact ⟨σ1, rfl, f1⟩
    · rw [if_pos z, if_neg z, w32_s1 (by omega)]
      obtain ⟨σ2, g2, f2⟩ := m_oddL hk hB n (i + 1) σ1 (by omega) (R.fr f1 rfl rfl rfl) (hE.fr f1 rfl)
      exact ⟨σ2, g2, f1.tr f2⟩
theorem q_odd (h : Rel X σ) (x : Int) : Qc X 61 62 [vI x] σ := by
  obtain ⟨T, l, F, R, hN, hU, hH, hBk, -⟩ := id h
  obtain ⟨e, M, G, E, hB, hC, hM, h81⟩ := hBk.ent
  by_cases hx : 0 ≤ x ∧ x ≤ (e : Int)
  · obtain ⟨k, rfl, hk⟩ := nat_of (n := e + 1) (show 0 ≤ x ∧ x < ((e + 1 : Nat) : Int) by omega)
    have hk' : k ≤ e := by omega
    obtain ⟨σ1, e1, f1, -⟩ := c_first (X := X) (wo := -1) hk' hB R hC
    obtain ⟨σ2, e2, f2⟩ := c_oddL (X := X) hk' hB k 0 σ1 (by omega) (R.fr f1 rfl rfl rfl) (hC.fr f1 rfl)
    generalize hJ : (jdF T F M G E (-1) k 0 (bgS T) (fun _ => 0)).1 = J at e1
    have cc : ∃ σ', vcI X 163 [vP 75, vI (k : Int)] σ = some (if J = -2 then -2 else oddF T F M G E k k 0, σ') ∧ Fr [52, 53, 54, 58, 59, 79] [] σ σ' := by
      by_cases z : J = -2
      · exact ⟨σ1, vI_of ((bq_163_0 X _ σ).trans (by rw [e1, bsome]; dsimp +instances only; rw [if_neg (fun q => q z), if_pos z])) rfl, f1⟩
      · exact ⟨σ2, vI_of ((bq_163_0 X _ σ).trans (by rw [e1, bsome]; dsimp +instances only; rw [if_pos z, if_neg z]; exact e2)) rfl, f1.tr f2⟩
    obtain ⟨σ3, e3, f3⟩ := cc
    have R3 := R.fr f3 rfl rfl rfl
    obtain ⟨σ4, e4, f4, -⟩ := m_judges (X := X) (wo := -1) hk' hB R3 (hM.fr f3 rfl)
    rw [hJ] at e4
    obtain ⟨σ5, e5, f5⟩ := m_oddL (X := X) hk' hB k 0 σ4 (by omega) (R3.fr f4 rfl rfl rfl) ((hM.fr f3 rfl).fr f4 rfl)
    have mm : ∃ σ', vv X 62 0 [some (vP 80), some (vI (k : Int)), none] [] σ3 = some (some (vI (if J = -2 then -2 else oddF T F M G E k k 0)), σ') ∧ Fr [125, 126, 128, 129, 142] [63] σ3 σ' := by
      rw [bq_62_0, f3.fld 81 rfl, h81, g_in, bsome]
      dsimp +instances only
      rw [if_pos hx, if_pos i10, e4, bsome]
      dsimp +instances only
      by_cases z : J = -2
      · rw [if_neg (fun q => q z), if_pos z]
        exact ⟨σ4, rfl, f4⟩
      · rw [if_pos z, if_neg z]
        exact ⟨σ5, e5, f4.tr f5⟩
    obtain ⟨σ6, e6, f6⟩ := mm
    refine ⟨_, σ3, σ6, vI_of ((bq_61_0 X _ σ).trans ?_) rfl, vI_of e6 rfl, h.scr ((f3.mono rfl rfl).tr (f6.mono rfl rfl))⟩
    rw [c_has hC.1, bsome]
    dsimp +instances only
    rw [if_pos hx, if_neg i10, e3, bsome, bq_61_23]
  · refine Qc.same h ⟨-1, ?_, ?_⟩ rfl rfl
    · refine (bq_61_0 X _ _).trans ?_
      rw [c_has hC.1, bsome]
      dsimp +instances only
      rw [if_neg hx, if_pos rfl, bq_61_23]
    · refine (bq_62_0 X _ _).trans ?_
      rw [h81, g_in, bsome]
      dsimp +instances only
      rw [if_neg hx, if_neg (by decide)]
/-- the sum that led tells: n cells from i on -/
noncomputable def ledF (L : Nat → Int) (x y : Int) : Nat → Nat → Int → Int
  | 0, _, v => v
  | n + 1, i, v => ledF L x y n (i + 1) (@ite _ ((x = -1 ∨ ((i / 4 : Nat) : Int) = x) ∧ (y = -1 ∨ ((i % 4 : Nat) : Int) = y)) (Classical.propDecidable _) (w32 (v + L i)) (w32 v))
theorem c_ledL {L : Nat → Int} {x y : Int} (hL : ∀ j, j < 32 → σ 79 j = L j) : ∀ (n i : Nat) (v : Int), i + n = 32 → w32 v = v → vv X 164 20 [some (vP 75), none, some (vI x), some (vI y), some (vI v), some (vI (i : Int)), none, none] [] σ = some (some (vI (ledF L x y n i v)), σ)
  | 0, i, v, e, hv => by
    rw [bq_164_20, if_pos (by omega)]
    rfl
  | n + 1, i, v, e, hv => by
    have dv : am_div (i : Int) 4 = ((i / 4 : Nat) : Int) := am_div_nat (b := 4) (by omega)
    have rm : am_rem (i : Int) 4 = ((i % 4 : Nat) : Int) := am_rem_nat (b := 4) (by omega)
    have ih := c_ledL hL (x := x) (y := y) n (i + 1)
    have no : vv X 164 92 [some (vP 75), none, some (vI x), some (vI y), none, some (vI (i : Int)), none, none] [vI v] σ = some (some (vI (ledF L x y n (i + 1) (w32 v))), σ) := by
      rw [bq_164_92, bq_164_93, w32_s1 (by omega), Int.add_zero]
      exact ih _ (by omega) (w32_idem v)
    have p2 : vv X 164 43 [some (vP 75), none, some (vI x), some (vI y), some (vI v), some (vI (i : Int)), none, none] [] σ = some (some (vI (ledF L x y n (i + 1) (@ite _ (y = -1 ∨ ((i % 4 : Nat) : Int) = y) (Classical.propDecidable _) (w32 (v + L i)) (w32 v)))), σ) := by
      have yes : vv X 164 63 [some (vP 75), none, some (vI x), some (vI y), some (vI v), some (vI (i : Int)), some (vI 1), none] [] σ = some (some (vI (ledF L x y n (i + 1) (w32 (v + L i)))), σ) := by
        rw [bq_164_63, bq_164_68, if_neg i10, if_neg i10, if_pos (by omega), tn_nat, hL i (by omega), bq_164_93, w32_s1 (by omega)]
        exact ih _ (by omega) (w32_idem _)
      rw [bq_164_43, bq_164_48, rm]
      by_cases z : y = -1
      · rw [if_pos z, yes, if_pos (Or.inl z)]
      · rw [if_neg z]
        by_cases u : ((i % 4 : Nat) : Int) = y
        · rw [if_neg (fun q => q u), yes, if_pos (Or.inr u)]
        · rw [if_pos u, bq_164_68, if_neg i10, if_pos rfl, no, if_neg (fun q => q.elim z u)]
    rw [bq_164_20, if_neg (by omega), dv]
    unfold ledF
    have hand : ∀ A B : Prop, A → (@ite Int (A ∧ B) (Classical.propDecidable _) (w32 (v + L i)) (w32 v)) = @ite Int B (Classical.propDecidable _) (w32 (v + L i)) (w32 v) := fun A B ha => by
      by_cases b : B
      · rw [if_pos b, if_pos ⟨ha, b⟩]
      · rw [if_neg b, if_neg (fun q => b q.2)]
    by_cases z : x = -1
    · rw [if_pos z, p2, hand _ _ (Or.inl z)]
    · rw [if_neg z]
      by_cases u : ((i / 4 : Nat) : Int) = x
      · rw [if_neg (fun q => q u), p2, hand _ _ (Or.inr u)]
      · rw [if_pos u, if_neg (fun q => q.1.elim z u)]
        have : ∀ s0, vv X 164 68 [some (vP 75), none, some (vI x), some (vI y), some (vI v), some (vI (i : Int)), some (vI 0), none] [vI s0] σ = some (some (vI (ledF L x y n (i + 1) (w32 v))), σ) := fun s0 => by rw [bq_164_68, if_pos rfl, no]
        rw [bq_164_48, bq_164_63, this, this]
        split
        · rfl
        · split <;> rfl
theorem m_ledL {L : Nat → Int} {x y : Int} (hL : ∀ j, j < 32 → σ 142 j = L j) : ∀ (n i : Nat) (v : Int), i + n = 32 → w32 v = v → vv X 64 60 [some (vP 80), none, some (vI x), some (vI y), some (vI v), some (vI (i : Int))] [] σ = some (some (vI (ledF L x y n i v)), σ)
  | 0, i, v, e, hv => by
    rw [bq_64_60, if_pos (by omega)]
    rfl
  | n + 1, i, v, e, hv => by
    have dv : am_div (i : Int) 4 = ((i / 4 : Nat) : Int) := am_div_nat (b := 4) (by omega)
    have rm : am_rem (i : Int) 4 = ((i % 4 : Nat) : Int) := am_rem_nat (b := 4) (by omega)
    have ih := m_ledL hL (x := x) (y := y) n (i + 1)
    have no : vv X 64 105 [some (vP 80), none, some (vI x), some (vI y), some (vI v), some (vI (i : Int))] [] σ = some (some (vI (ledF L x y n (i + 1) (w32 v))), σ) := by
      rw [bq_64_105, w32_s1 (by omega), hv]
      exact ih _ (by omega) hv
    have p2 : vv X 64 80 [some (vP 80), none, some (vI x), some (vI y), some (vI v), some (vI (i : Int))] [] σ = some (some (vI (ledF L x y n (i + 1) (@ite _ (y = -1 ∨ ((i % 4 : Nat) : Int) = y) (Classical.propDecidable _) (w32 (v + L i)) (w32 v)))), σ) := by
      have yes : vv X 64 93 [some (vP 80), none, some (vI x), some (vI y), some (vI v), some (vI (i : Int))] [] σ = some (some (vI (ledF L x y n (i + 1) (w32 (v + L i)))), σ) := by
        rw [bq_64_93, if_pos (by omega), tn_nat, hL i (by omega), bq_64_105, w32_s1 (by omega)]
        exact ih _ (by omega) (w32_idem _)
      rw [bq_64_80, rm]
      by_cases z : y = -1
      · rw [if_pos z, yes, if_pos (Or.inl z)]
      · rw [if_neg z]
        by_cases u : ((i % 4 : Nat) : Int) = y
        · rw [if_neg (fun q => q u), yes, if_pos (Or.inr u)]
        · rw [if_pos u, no, if_neg (fun q => q.elim z u)]
    rw [bq_64_60, if_neg (by omega), dv]
    unfold ledF
    have hand : ∀ A B : Prop, A → (@ite Int (A ∧ B) (Classical.propDecidable _) (w32 (v + L i)) (w32 v)) = @ite Int B (Classical.propDecidable _) (w32 (v + L i)) (w32 v) := fun A B ha => by
      by_cases b : B
      · rw [if_pos b, if_pos ⟨ha, b⟩]
      · rw [if_neg b, if_neg (fun q => b q.2)]
    by_cases z : x = -1
    · rw [if_pos z, p2, hand _ _ (Or.inl z)]
    · rw [if_neg z]
      by_cases u : ((i / 4 : Nat) : Int) = x
      · rw [if_neg (fun q => q u), p2, hand _ _ (Or.inr u)]
      · rw [if_pos u, if_neg (fun q => q.1.elim z u), no]
theorem q_led (h : Rel X σ) (x y z : Int) : Qc X 63 64 [vI x, vI y, vI z] σ := by
  obtain ⟨T, l, F, R, hN, hU, hH, hBk, -⟩ := id h
  obtain ⟨e, M, G, E, hB, hC, hM, h81⟩ := hBk.ent
  obtain ⟨hT, H, K, -⟩ := id R
  by_cases hq : (0 ≤ x ∧ x ≤ (e : Int)) ∧ (y = -1 ∨ (0 ≤ y ∧ y < (nM T : Int))) ∧ (z = -1 ∨ (0 ≤ z ∧ z < (nD T : Int)))
  · obtain ⟨hx, hy, hz⟩ := hq
    obtain ⟨k, rfl, hk⟩ := nat_of (n := e + 1) (show 0 ≤ x ∧ x < ((e + 1 : Nat) : Int) by omega)
    have hk' : k ≤ e := by omega
    obtain ⟨σ1, e1, f1, r1⟩ := c_first (X := X) (wo := -1) hk' hB R hC
    have R1 := R.fr f1 rfl rfl rfl
    obtain ⟨σ2, e2, f2, r2⟩ := m_judges (X := X) (wo := -1) hk' hB R1 (hM.fr f1 rfl)
    have c1 := c_ledL (X := X) (x := y) (y := z) r1 32 0 0 (by omega) rfl
    have m1 := m_ledL (X := X) (x := y) (y := z) r2 32 0 0 (by omega) rfl
    generalize jdF T F M G E (-1) k 0 (bgS T) (fun _ => 0) = J at e1 e2 c1 m1
    refine ⟨if J.1 = -2 then ledF J.2 y z 32 0 0 else -2, σ1, σ2, vI_of ((bq_63_0 X _ _ _ σ).trans ?_) rfl, vI_of ((bq_64_0 X _ _ _ σ1).trans ?_) rfl, h.scr ((f1.mono rfl rfl).tr (f2.mono rfl rfl))⟩
    · have fin : vv X 63 37 [some (vP 0), some (vI (k : Int)), some (vI y), some (vI z), none] [vI 1] σ = some (some (vI (if J.1 = -2 then ledF J.2 y z 32 0 0 else -2)), σ1) := by
        rw [bq_63_37, if_neg i10, vI_of ((bq_164_0 X _ _ _ σ).trans (show _ = some (some (vI (if J.1 = -2 then ledF J.2 y z 32 0 0 else -2)), σ1) by
          rw [e1, bsome]
          dsimp +instances only
          by_cases u : J.1 = -2
          · rw [if_pos u, if_pos u]
            exact c1
          · rw [if_neg u, if_neg u])) rfl, bsome, bq_63_58]
      have m24 : vv X 63 24 [some (vP 0), some (vI (k : Int)), some (vI y), some (vI z), none] [] σ = some (some (vI (if J.1 = -2 then ledF J.2 y z 32 0 0 else -2)), σ1) := by
        rw [bq_63_24, c_isDishAll H hT, bsome]
        dsimp +instances only
        rw [if_pos hz, if_neg i10, fin]
      rw [c_has hC.1, bsome]
      dsimp +instances only
      rw [if_pos hx, if_neg i10, c_isMan H hT, bsome]
      dsimp +instances only
      by_cases u : y = -1
      · rw [if_pos u, m24]
      · rw [if_neg u, if_neg (by omega), m24]
    · have fin : vv X 64 40 [some (vP 80), some (vI (k : Int)), some (vI y), some (vI z), none, none] [] σ1 = some (some (vI (if J.1 = -2 then ledF J.2 y z 32 0 0 else -2)), σ2) := by
        rw [bq_64_40, e2, bsome]
        dsimp +instances only
        by_cases u : J.1 = -2
        · rw [if_pos u, if_pos u]
          exact m1
        · rw [if_neg u, if_neg u]
      have m25 : vv X 64 25 [some (vP 80), some (vI (k : Int)), some (vI y), some (vI z), none, none] [] σ1 = some (some (vI (if J.1 = -2 then ledF J.2 y z 32 0 0 else -2)), σ2) := by
        rw [bq_64_25, m_isDish H R1.2.2.1, bsome]
        dsimp +instances only
        by_cases u : z = -1
        · rw [if_pos u, fin]
        · rw [if_neg u, if_pos (by omega), fin]
      rw [f1.fld 81 rfl, h81, g_in, bsome]
      dsimp +instances only
      rw [if_pos hx, if_neg i10, m_isMan H R1.2.2.1, bsome]
      dsimp +instances only
      by_cases u : y = -1
      · rw [if_pos u, m25]
      · rw [if_neg u, if_neg (by omega), m25]
  · have no : vv X 63 36 [some (vP 0), some (vI x), some (vI y), some (vI z), none] [] σ = some (some (vI (-1)), σ) := by rw [bq_63_36, bq_63_37, if_pos rfl, bq_63_58]
    refine Qc.same h ⟨-1, ?_, ?_⟩ rfl rfl
    · refine (bq_63_0 X _ _ _ _).trans ?_
      rw [c_has hC.1, bsome]
      dsimp +instances only
      by_cases hx : 0 ≤ x ∧ x ≤ (e : Int)
      · rw [if_pos hx, if_neg i10, c_isMan H hT, bsome]
        dsimp +instances only
        have m24 : (y = -1 ∨ (0 ≤ y ∧ y < (nM T : Int))) → vv X 63 24 [some (vP 0), some (vI x), some (vI y), some (vI z), none] [] σ = some (some (vI (-1)), σ) := fun hy => by
          rw [bq_63_24, c_isDishAll H hT, bsome]
          dsimp +instances only
          rw [if_neg (fun q => hq ⟨hx, hy, q⟩), if_pos rfl, no]
        by_cases u : y = -1
        · rw [if_pos u, m24 (Or.inl u)]
        · rw [if_neg u]
          by_cases v : 0 ≤ y ∧ y < (nM T : Int)
          · rw [if_pos v, if_neg i10, m24 (Or.inr v)]
          · rw [if_neg v, if_pos rfl, no]
      · rw [if_neg hx, if_pos rfl, no]
    · refine (bq_64_0 X _ _ _ _).trans ?_
      rw [h81, g_in, bsome]
      dsimp +instances only
      by_cases hx : 0 ≤ x ∧ x ≤ (e : Int)
      · rw [if_pos hx, if_neg i10, m_isMan H K, bsome]
        dsimp +instances only
        have m25 : (y = -1 ∨ (0 ≤ y ∧ y < (nM T : Int))) → vv X 64 25 [some (vP 80), some (vI x), some (vI y), some (vI z), none, none] [] σ = some (some (vI (-1)), σ) := fun hy => by
          rw [bq_64_25, m_isDish H K, bsome]
          dsimp +instances only
          have nz : ¬ (z = -1 ∨ (0 ≤ z ∧ z < (nD T : Int))) := fun q => hq ⟨hx, hy, q⟩
          rw [if_neg (by omega), if_neg (by omega), bq_64_38]
        by_cases u : y = -1
        · rw [if_pos u, m25 (Or.inl u)]
        · rw [if_neg u]
          by_cases v : 0 ≤ y ∧ y < (nM T : Int)
          · rw [if_pos v, if_neg i10, m25 (Or.inr v)]
          · rw [if_neg v, if_pos rfl, bq_64_38]
      · rw [if_neg hx, if_pos rfl, bq_64_38]
end BK
