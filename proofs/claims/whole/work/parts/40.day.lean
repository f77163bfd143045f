/-! CALLS: day -/
/-- a scene whose gains are counted from d on -/
def gz (d : Nat → Int) (sc : Nat → Int) : Nat → Int := fun j => if j = 40 ∨ j = 41 then w32 (sc j - d j) else sc j
abbrev dSt : Type := (Nat → Int) × Int × Int
noncomputable def goG (T : am_Sg) (F : LF) (sc : Nat → Int) (m : Nat) : Option Nat := if whN T F sc m 0 = 0 then (if whN T F sc m 1 = 0 then (if bulkS T (btN T F sc m 1) < bulkS T (btN T F sc m 0) then some 1 else some 0) else some 0) else (if whN T F sc m 1 = 0 then some 1 else none)
noncomputable def goS (T : am_Sg) (F : LF) (st : dSt) (m : Nat) : dSt := match goG T F st.1 m with
  | none => (st.1, st.2.1, w32 (st.2.2 + 1))
  | some g => (swS T st.1 m g (btN T F st.1 m g), am_or st.2.1 (am_shl 1 (m : Int)), st.2.2)
noncomputable def dyS (T : am_Sg) (F : LF) (h : Int) (st : dSt) : Nat → dSt
  | 0 => st
  | i + 1 => if T 24 i = h then goS T F (dyS T F h st i) (T 23 i).toNat else dyS T F h st i
noncomputable def dyH (T : am_Sg) (F : LF) : Nat → Nat → dSt → dSt
  | 0, _, st => st
  | n + 1, h, st => dyH T F n (h + 1) (hrS T (dyS T F (h : Int) st (nG T)).1, (dyS T F (h : Int) st (nG T)).2)
theorem goG_cases {T : am_Sg} {F : LF} {sc : Nat → Int} {m g : Nat} (h : goG T F sc m = some g) : g < 2 ∧ whN T F sc m g = 0 := by
  unfold goG at h
  split at h
  next a =>
    split at h
    next b =>
      split at h
      · cases h; exact ⟨by omega, b⟩
      · cases h; exact ⟨by omega, a⟩
    next => cases h; exact ⟨by omega, a⟩
  next =>
    split at h
    next b => cases h; exact ⟨by omega, b⟩
    next => cases h
section GZ
variable {T : am_Sg} {F : LF} {sc d : Nat → Int} {m g : Nat} {b : Nat → Int}
theorem gz_n {j : Nat} (h : ¬ (j = 40 ∨ j = 41)) : gz d sc j = sc j := if_neg h
theorem bts_gz (H : TOk T) (hm : m < nM T) {ah : Int} : bts T F (gz d sc) m g ah = bts T F sc m g ah := by
  have h8 := H.m8
  have h4 := H.d4
  funext e
  unfold bts
  by_cases z : e < nD T
  · rw [if_pos z, if_pos z]
    congr 1
    unfold vr
    rw [gz_n (show ¬ (44 = 40 ∨ 44 = 41) by omega), gz_n (show ¬ (m = 40 ∨ m = 41) by omega), gz_n (show ¬ (8 + m = 40 ∨ 8 + m = 41) by omega), gz_n (show ¬ (32 + e = 40 ∨ 32 + e = 41) by omega)]
  · rw [if_neg z, if_neg z]
theorem btN_gz (H : TOk T) (hm : m < nM T) (hg : g < 2) : btN T F (gz d sc) m g = btN T F sc m g := by
  unfold btN
  rw [bts_gz H hm, gz_n (by omega)]
theorem whyS_gz (H : TOk T) (hm : m < nM T) {ask : Prop} : whyS T (gz d sc) m b ask = whyS T sc m b ask := by
  have h8 := H.m8
  have h4 := H.d4
  have e2 : storesS T (gz d sc) b = storesS T sc b := by
    unfold storesS
    refine propext ⟨fun y e he => ?_, fun y e he => ?_⟩
    · have := y e he
      rw [gz_n (by omega)] at this
      exact this
    · rw [gz_n (by omega)]
      exact y e he
  unfold whyS fasting
  rw [e2, gz_n (show ¬ (44 = 40 ∨ 44 = 41) by omega), gz_n (show ¬ (m = 40 ∨ m = 41) by omega), gz_n (show ¬ (8 + m = 40 ∨ 8 + m = 41) by omega)]
theorem whN_gz (H : TOk T) (hm : m < nM T) (hg : g < 2) : whN T F (gz d sc) m g = whN T F sc m g := by
  unfold whN
  rw [btN_gz H hm hg, whyS_gz H hm]
theorem hr1_gz (H : TOk T) (j : Nat) : hr1 T (gz d sc) j = gz d (hr1 T sc) j := by
  have h8 := H.m8
  by_cases z : j = 40 ∨ j = 41
  · have e : ∀ f : Nat → Int, hr1 T f j = f j := fun f => by
      unfold hr1
      rw [if_neg (by omega), if_neg (by omega)]
    rw [e]
    unfold gz
    rw [if_pos z, if_pos z, e]
  · rw [gz_n z]
    unfold hr1
    rw [gz_n z]
theorem hrS_gz (H : TOk T) (d sc : Nat → Int) : hrS T (gz d sc) = gz d (hrS T sc) := by
  have h8 := H.m8
  funext j
  by_cases z : j = 40 ∨ j = 41
  · have e : ∀ f : Nat → Int, hrS T f j = f j := fun f => by
      have e1 : hr1 T f j = f j := by
        unfold hr1
        rw [if_neg (by omega), if_neg (by omega)]
      unfold hrS
      rw [if_pos (by omega), if_neg (show ¬ j = 44 by omega), if_neg (show ¬ j = 45 by omega), if_neg (show ¬ ((24 ≤ j ∧ j < 32) ∨ j = 42 ∨ j = 43) by omega), e1]
      split <;> rfl
    rw [e]
    unfold gz
    rw [if_pos z, if_pos z, e]
  · rw [gz_n z]
    unfold hrS
    rw [hr1_gz H, gz_n (show ¬ (44 = 40 ∨ 44 = 41) by omega), gz_n (show ¬ (45 = 40 ∨ 45 = 41) by omega), gz_n z]
theorem w32_shift (a b c : Int) : w32 (w32 (a - b) + c) = w32 (w32 (a + c) - b) := by
  unfold w32
  omega
theorem swS_gz (H : TOk T) (hm : m < nM T) (hg : g < 2) : swS T (gz d sc) m g b = gz d (swS T sc m g b) := by
  have h8 := H.m8
  funext j
  by_cases z : j = 40 ∨ j = 41
  · have e : ∀ f : Nat → Int, swS T f m g b j = if j = 40 + g then w32 (f j + gainS T b) else f j := fun f => by
      unfold swS
      rw [if_neg (show ¬ j = m by omega), if_neg (show ¬ j = 16 + m by omega), if_neg (show ¬ j = 24 + m by omega), if_neg (show ¬ j = 42 + g by omega), if_neg (show ¬ (32 ≤ j ∧ j < 36) by omega), if_neg (show ¬ (36 ≤ j ∧ j < 40) by omega), if_neg (show ¬ j = 8 + m by omega)]
    rw [e]
    unfold gz
    rw [if_pos z, if_pos z, e]
    by_cases y : j = 40 + g
    · rw [if_pos y, if_pos y, w32_shift]
    · rw [if_neg y, if_neg y]
  · rw [gz_n z]
    unfold swS
    rw [gz_n (show ¬ (m = 40 ∨ m = 41) by omega), gz_n z]
theorem ScOk.gzz (S : ScOk T sc) (H : TOk T) : ScOk T (gz d sc) := by
  have h8 := H.m8
  refine ⟨fun m hm => ?_, fun e he => ?_, ?_, fun j => ?_⟩
  · rw [gz_n (by omega), gz_n (by omega)]
    exact S.1 m hm
  · rw [gz_n (by omega)]
    exact S.2.1 e he
  · rw [gz_n (by omega)]
    exact S.2.2.1
  · unfold gz
    split
    · exact w32_rng _
    · exact S.2.2.2 j
theorem goS_ok (H : TOk T) (hF : FOk F) {st : dSt} (S : ScOk T st.1) (hm : m < nM T) : ScOk T (goS T F st m).1 ∧ (goS T F st m).1 44 = st.1 44 ∧ (goS T F st m).1 45 = st.1 45 := by
  have h8 := H.m8
  unfold goS
  split
  next => exact ⟨S, rfl, rfl⟩
  next g hg =>
    obtain ⟨h1, h2⟩ := goG_cases hg
    refine ⟨S.sw H hm h1 ((btN_ok hF).mono (by omega)) (by decide) h2, ?_, ?_⟩
    · show swS T st.1 m g _ 44 = _
      unfold swS
      rw [if_neg (by omega), if_neg (by omega), if_neg (by omega), if_neg (by omega), if_neg (by omega), if_neg (by omega), if_neg (by omega), if_neg (by omega)]
    · show swS T st.1 m g _ 45 = _
      unfold swS
      rw [if_neg (by omega), if_neg (by omega), if_neg (by omega), if_neg (by omega), if_neg (by omega), if_neg (by omega), if_neg (by omega), if_neg (by omega)]
theorem dyS_ok (H : TOk T) (hF : FOk F) {st : dSt} (S : ScOk T st.1) (h : Int) : ∀ i, i ≤ nG T → ScOk T (dyS T F h st i).1 ∧ (dyS T F h st i).1 44 = st.1 44 ∧ (dyS T F h st i).1 45 = st.1 45
  | 0, _ => ⟨S, rfl, rfl⟩
  | i + 1, hi => by
    have ih := dyS_ok H hF S h i (by omega)
    have g := H.gi i (by omega)
    unfold dyS
    split
    · have := goS_ok H hF ih.1 (m := (T 23 i).toNat) (by omega)
      exact ⟨this.1, this.2.1.trans ih.2.1, this.2.2.trans ih.2.2⟩
    · exact ih
end GZ
section DY
variable {X l m : Nat} {σ T : am_Sg} {F : LF} {d : Nat → Int} {st : dSt}
theorem c_sw55_1 (R : RT X σ T l F) {sc b : Nat → Int} (hs : rs (σ 52) = sc) (S : ScOk T sc) (hm : m < nM T) (hp : PL T σ 55 b) (hb : BOk T b 12) : ∃ σ', vcV X 114 [vP 57, vP 51, vI (m : Int), vI 1, vP 55] σ = some σ' ∧ Fr [52] [] σ σ' ∧ rs (σ' 52) = swS T sc m 1 b := by
  subst hs
  exact c_sw_51_55 (g := 1) R.2.1 R.1 hm (by omega) hp hb S
theorem c_sw53_0 (R : RT X σ T l F) {sc b : Nat → Int} (hs : rs (σ 52) = sc) (S : ScOk T sc) (hm : m < nM T) (hp : PL T σ 53 b) (hb : BOk T b 12) : ∃ σ', vcV X 114 [vP 57, vP 51, vI (m : Int), vI 0, vP 53] σ = some σ' ∧ Fr [52] [] σ σ' ∧ rs (σ' 52) = swS T sc m 0 b := by
  subst hs
  exact c_sw_51_53 (g := 0) R.2.1 R.1 hm (by omega) hp hb S
theorem c_go (R : RT X σ T l F) (S : ScOk T st.1) (hm : m < nM T) (hs : rs (σ 52) = gz d st.1) (h7 : σ 73 7 = st.2.1) (h8 : σ 73 8 = st.2.2) : ∃ σ', vcV X 223 [vP 73, vI (m : Int)] σ = some σ' ∧ Fr [52, 53, 54, 55, 56, 58, 59, 73] [] σ σ' ∧ rs (σ' 52) = gz d (goS T F st m).1 ∧ σ' 73 7 = (goS T F st m).2.1 ∧ σ' 73 8 = (goS T F st m).2.2 := by
  have H := R.2.1
  have hF := R.2.2.2.2.2
  have Sz := S.gzz H (d := d)
  obtain ⟨σ1, e1, f1, p1⟩ := c_mayT_53 (g := 0) R hs Sz hm (by omega)
  have R1 := R.fr f1 rfl rfl rfl
  have hs1 : rs (σ1 52) = gz d st.1 := by rw [f1.get 52 (by decide) rfl]; exact hs
  obtain ⟨σ2, e2, f2, p2⟩ := c_mayT_55 (g := 1) R1 hs1 Sz hm (by omega)
  have R2 := R1.fr f2 rfl rfl rfl
  have hs2 : rs (σ2 52) = gz d st.1 := by rw [f2.get 52 (by decide) rfl]; exact hs1
  have p1' := p1.fr (f2.get 53 (by decide) rfl) (f2.get 54 (by decide) rfl)
  rw [whN_gz H hm (by omega)] at e1 e2
  rw [btN_gz H hm (by omega)] at p1' p2
  have b0 := (btN_ok (T := T) hF (sc := st.1) (m := m) (g := 0)).mono (show (6 : Int) ≤ 12 by omega)
  have b1 := (btN_ok (T := T) hF (sc := st.1) (m := m) (g := 1)).mono (show (6 : Int) ≤ 12 by omega)
  have f12 : Fr [52, 53, 54, 55, 56, 58, 59, 73] [] σ σ2 := (f1.mono rfl rfl).tr (f2.mono rfl rfl)
  have k7 : σ2 73 = σ 73 := by rw [f2.get 73 (by decide) rfl, f1.get 73 (by decide) rfl]
  have G1 : goG T F st.1 m = some 1 → ∃ σ', vv X 223 79 [some (vP 73), some (vI (m : Int)), none, some (vI 1)] [] σ2 = some (none, σ') ∧ Fr [52, 53, 54, 55, 56, 58, 59, 73] [] σ σ' ∧ rs (σ' 52) = gz d (goS T F st m).1 ∧ σ' 73 7 = (goS T F st m).2.1 ∧ σ' 73 8 = (goS T F st m).2.2 := by
    intro hg
    obtain ⟨σ3, e3, f3, p3⟩ := c_sw55_1 R2 hs2 Sz hm p2 b1
    have k3 : σ3 73 = σ 73 := by rw [f3.get 73 (by decide) rfl, k7]
    refine ⟨am_upd σ3 73 7 (am_or (σ3 73 7) (am_shl 1 (m : Int))), ?_, (f12.tr (f3.mono rfl rfl)).upd rfl (by decide), ?_, ?_, ?_⟩
    · rw [bq_223_79, if_neg i10, e3, bsome, bq_223_125]
    · rw [un _ (by decide), p3, swS_gz H hm (by omega)]
      unfold goS
      rw [hg]
    · unfold goS
      rw [hg]
      simp [ua, k3, h7]
    · unfold goS
      rw [hg]
      simp [ua, k3, h8]
  have G0 : goG T F st.1 m = some 0 → ∃ σ', vv X 223 47 [some (vP 73), some (vI (m : Int)), none, none] [] σ2 = some (none, σ') ∧ Fr [52, 53, 54, 55, 56, 58, 59, 73] [] σ σ' ∧ rs (σ' 52) = gz d (goS T F st m).1 ∧ σ' 73 7 = (goS T F st m).2.1 ∧ σ' 73 8 = (goS T F st m).2.2 := by
    intro hg
    obtain ⟨σ3, e3, f3, p3⟩ := c_sw53_0 R2 hs2 Sz hm p1' b0
    have k3 : σ3 73 = σ 73 := by rw [f3.get 73 (by decide) rfl, k7]
    refine ⟨am_upd σ3 73 7 (am_or (σ3 73 7) (am_shl 1 (m : Int))), ?_, (f12.tr (f3.mono rfl rfl)).upd rfl (by decide), ?_, ?_, ?_⟩
    · rw [bq_223_47, e3, bsome, bq_223_125]
    · rw [un _ (by decide), p3, swS_gz H hm (by omega)]
      unfold goS
      rw [hg]
    · unfold goS
      rw [hg]
      simp [ua, k3, h7]
    · unfold goS
      rw [hg]
      simp [ua, k3, h8]
  have key : ∃ σ', vv X 223 0 [some (vP 73), some (vI (m : Int)), none, none] [] σ = some (none, σ') ∧ Fr [52, 53, 54, 55, 56, 58, 59, 73] [] σ σ' ∧ rs (σ' 52) = gz d (goS T F st m).1 ∧ σ' 73 7 = (goS T F st m).2.1 ∧ σ' 73 8 = (goS T F st m).2.2 := by
    rw [bq_223_0, show vcI X 208 [vP 73, vI (m : Int), vI 0, vP 53] σ = _ from e1, bsome]
    dsimp +instances only
    rw [show vcI X 208 [vP 73, vI (m : Int), vI 1, vP 55] σ1 = _ from e2, bsome]
    dsimp +instances only
    by_cases z0 : whN T F st.1 m 0 = 0
    · rw [if_pos z0, if_neg i10]
      by_cases z1 : whN T F st.1 m 1 = 0
      · rw [if_pos z1, if_neg i10, p1'.2.2.1, p2.2.2.1]
        by_cases z2 : bulkS T (btN T F st.1 m 1) < bulkS T (btN T F st.1 m 0)
        · rw [if_pos z2]
          exact G1 (by unfold goG; rw [if_pos z0, if_pos z1, if_pos z2])
        · rw [if_neg z2]
          exact G0 (by unfold goG; rw [if_pos z0, if_pos z1, if_neg z2])
      · rw [if_neg z1, if_pos rfl]
        exact G0 (by unfold goG; rw [if_pos z0, if_neg z1])
    · rw [if_neg z0, if_pos rfl]
      by_cases z1 : whN T F st.1 m 1 = 0
      · rw [if_pos z1]
        exact G1 (by unfold goG; rw [if_neg z0, if_pos z1])
      · have hg : goG T F st.1 m = none := by unfold goG; rw [if_neg z0, if_neg z1]
        rw [if_neg z1, bq_223_79, if_pos rfl, bq_223_125]
        refine ⟨_, rfl, f12.upd rfl (by decide), ?_, ?_, ?_⟩
        · unfold goS
          rw [hg, un _ (by decide)]
          exact hs2
        · unfold goS
          rw [hg]
          simp [ua, k7, h7]
        · unfold goS
          rw [hg]
          simp [ua, k7, h8]
  obtain ⟨σ', e, r⟩ := key
  exact ⟨σ', vV_of e rfl, r⟩
theorem m_go (R : RT X σ T l F) (S : ScOk T st.1) (hm : m < nM T) (hs : rs (σ 128) = st.1) (h7 : σ 80 77 = st.2.1) (h8 : σ 80 78 = st.2.2) : ∃ σ', vcV X 154 [vP 80, vI (m : Int)] σ = some σ' ∧ Fr [125, 126, 128, 129] [63, 77, 78] σ σ' ∧ rs (σ' 128) = (goS T F st m).1 ∧ σ' 80 77 = (goS T F st m).2.1 ∧ σ' 80 78 = (goS T F st m).2.2 := by
  have H := R.2.1
  have hF := R.2.2.2.2.2
  have b0 := (btN_ok (T := T) hF (sc := st.1) (m := m) (g := 0)).mono (show (6 : Int) ≤ 12 by omega)
  have b1 := (btN_ok (T := T) hF (sc := st.1) (m := m) (g := 1)).mono (show (6 : Int) ≤ 12 by omega)
  obtain ⟨σ1, e1, f1, p1⟩ := m_mayT (g := 0) R hs S hm (by omega)
  have R1 := R.fr f1 rfl rfl rfl
  obtain ⟨σ2, e2, f2, p2⟩ := m_mayT (g := 1) R1 (by rw [f1.get 128 (by decide) rfl]; exact hs) S hm (by omega)
  have R2 := R1.fr f2 rfl rfl rfl
  have f12 : Fr [125, 126, 128, 129] [63, 77, 78] σ σ2 := (f1.mono rfl rfl).tr (f2.mono rfl rfl)
  have k7 : σ2 80 77 = st.2.1 := by rw [f2.fld 77 rfl, f1.fld 77 rfl, h7]
  have k8 : σ2 80 78 = st.2.2 := by rw [f2.fld 78 rfl, f1.fld 78 rfl, h8]
  have hs2 : rs (σ2 128) = st.1 := by rw [f2.get 128 (by decide) rfl, f1.get 128 (by decide) rfl]; exact hs
  have wr0 := why_rng (T := T) (sc := st.1) (m := m) (b := btN T F st.1 m 0) (ask := ¬ (1 : Int) = 0)
  have wr1 := why_rng (T := T) (sc := st.1) (m := m) (b := btN T F st.1 m 1) (ask := ¬ (1 : Int) = 0)
  have G : ∀ g, goG T F st.1 m = some g → ∃ σ', vv X 154 66 [some (vP 80), some (vI (m : Int)), none, none, none, none, none] [vI (g : Int)] σ2 = some (none, σ') ∧ Fr [125, 126, 128, 129] [63, 77, 78] σ σ' ∧ rs (σ' 128) = (goS T F st m).1 ∧ σ' 80 77 = (goS T F st m).2.1 ∧ σ' 80 78 = (goS T F st m).2.2 := by
    intro g hg
    obtain ⟨hg2, hw⟩ := goG_cases hg
    obtain ⟨σ3, e3, f3, p3⟩ := m_tollsN R2 (by rw [hs2]; exact S) hm hg2
    rw [hs2] at p3
    have hs3 : rs (σ3 128) = st.1 := by rw [f3.get 128 (by decide) rfl]; exact hs2
    obtain ⟨σ4, e4, f4, p4⟩ := m_sw (X := X) H (R2.2.2.1.fr f3 rfl) hm hg2 ((btN_ok hF).mono (by omega)) p3 (by rw [hs3]; exact S)
    have k4 : σ4 80 77 = st.2.1 := by rw [f4.fld 77 rfl, f3.fld 77 rfl, k7]
    refine ⟨am_upd σ4 80 77 (am_or (σ4 80 77) (am_shl 1 (m : Int))), ?_, ((f12.tr (f3.mono rfl rfl)).tr (f4.mono rfl rfl)).upf rfl, ?_, ?_, ?_⟩
    · rw [bq_154_66, show w32 (42 + (g : Int)) = ((42 + g : Nat) : Int) from w_ix (c := 42) (by omega), if_pos (by omega), tn_nat, e3, bsome, e4, bsome]
    · rw [un _ (by decide), p4, hs3]
      unfold goS
      rw [hg]
    · unfold goS
      rw [hg]
      simp [ua, k4]
    · unfold goS
      rw [hg]
      simp [ua]
      rw [f4.fld 78 rfl, f3.fld 78 rfl, k8]
  have key : ∃ σ', vv X 154 0 [some (vP 80), some (vI (m : Int)), none, none, none, none, none] [] σ = some (none, σ') ∧ Fr [125, 126, 128, 129] [63, 77, 78] σ σ' ∧ rs (σ' 128) = (goS T F st m).1 ∧ σ' 80 77 = (goS T F st m).2.1 ∧ σ' 80 78 = (goS T F st m).2.2 := by
    rw [bq_154_0, show vcI X 112 [vP 80, vI (m : Int), vI 0] σ = _ from e1, bsome]
    dsimp +instances only
    rw [m_bulk2 H R1.2.2.1 b0 p1, bsome]
    dsimp +instances only
    rw [show vcI X 112 [vP 80, vI (m : Int), vI 1] σ1 = _ from e2, bsome]
    dsimp +instances only
    rw [m_bulk2 H R2.2.2.1 b1 p2, bsome]
    dsimp +instances only
    unfold whN at wr0 wr1 ⊢
    generalize hw0 : whyS T st.1 m (btN T F st.1 m 0) (¬ (1 : Int) = 0) = w0 at wr0 ⊢
    generalize hw1 : whyS T st.1 m (btN T F st.1 m 1) (¬ (1 : Int) = 0) = w1 at wr1 ⊢
    have eg : goG T F st.1 m = if w0 = 0 then (if w1 = 0 then (if bulkS T (btN T F st.1 m 1) < bulkS T (btN T F st.1 m 0) then some 1 else some 0) else some 0) else (if w1 = 0 then some 1 else none) := by
      rw [← hw0, ← hw1]
      rfl
    by_cases z0 : w0 = 0
    · rw [if_pos z0] at eg
      rw [if_pos (by omega), bq_154_46, if_neg (by omega)]
      by_cases z1 : w1 = 0
      · rw [if_pos z1] at eg
        rw [if_neg (fun q => q z1)]
        by_cases z2 : bulkS T (btN T F st.1 m 1) < bulkS T (btN T F st.1 m 0)
        · rw [if_pos z2] at eg
          rw [if_neg (by omega), bq_154_61]
          exact G 1 eg
        · rw [if_neg z2] at eg
          rw [if_pos (by omega), bq_154_65]
          exact G 0 eg
      · rw [if_neg z1] at eg
        rw [if_pos z1, bq_154_65]
        exact G 0 eg
    · rw [if_neg z0] at eg
      rw [if_neg (by omega)]
      by_cases z1 : w1 = 0
      · rw [if_pos z1] at eg
        rw [if_pos (by omega), bq_154_46, if_pos (by omega), bq_154_61]
        exact G 1 eg
      · rw [if_neg z1] at eg
        rw [if_neg (by omega)]
        refine ⟨_, rfl, f12.upf rfl, ?_, ?_, ?_⟩
        · unfold goS
          rw [eg, un _ (by decide)]
          exact hs2
        · unfold goS
          rw [eg]
          simp [ua, k7]
        · unfold goS
          rw [eg]
          simp [ua, k8]
  obtain ⟨σ', e, r⟩ := key
  exact ⟨σ', vV_of e rfl, r⟩
theorem c_dyL {h : Nat} (R : RT X σ T l F) (S : ScOk T st.1) (hs : rs (σ 52) = gz d st.1) (h7 : σ 73 7 = st.2.1) (h8 : σ 73 8 = st.2.2) : ∃ σ', vv X 152 38 [some (vP 73), none, some (vI (h : Int)), some (vI 0)] [] σ = vv X 152 38 [some (vP 73), none, some (vI (h : Int)), some (vI (nG T : Int))] [] σ' ∧ Fr [52, 53, 54, 55, 56, 58, 59, 73] [] σ σ' ∧ rs (σ' 52) = gz d (dyS T F (h : Int) st (nG T)).1 ∧ σ' 73 7 = (dyS T F (h : Int) st (nG T)).2.1 ∧ σ' 73 8 = (dyS T F (h : Int) st (nG T)).2.2 := by
  have H := R.2.1
  have hF := R.2.2.2.2.2
  have h20 := H.g20
  exact lp (fun i (s : am_Sg) => vv X 152 38 [some (vP 73), none, some (vI (h : Int)), some (vI (i : Int))] [] s) (nG T) (fun i s => Fr [52, 53, 54, 55, 56, 58, 59, 73] [] σ s ∧ rs (s 52) = gz d (dyS T F (h : Int) st i).1 ∧ s 73 7 = (dyS T F (h : Int) st i).2.1 ∧ s 73 8 = (dyS T F (h : Int) st i).2.2) (fun i s hi hh => by
    obtain ⟨fs, q1, q2, q3⟩ := hh
    have Rs := R.fr fs rfl rfl rfl
    have gi := H.gi i hi
    show ∃ s', vv X 152 38 [some (vP 73), none, some (vI (h : Int)), some (vI (i : Int))] [] s = vv X 152 38 [some (vP 73), none, some (vI (h : Int)), some (vI ((i + 1 : Nat) : Int))] [] s' ∧ _
    rw [bq_152_38, tl_at Rs.1 (k := 8) (by omega), H.g0, if_neg (by omega), if_pos (by omega), tn_nat, tl_at Rs.1 (k := 24) (by omega), tl_at Rs.1 (k := 23) (by omega)]
    have eS : dyS T F (h : Int) st (i + 1) = if T 24 i = (h : Int) then goS T F (dyS T F (h : Int) st i) (T 23 i).toNat else dyS T F (h : Int) st i := rfl
    by_cases z : T 24 i = (h : Int)
    · rw [if_pos z] at eS
      rw [if_neg (fun q => q z), eS]
      obtain ⟨s', e, f, r1, r2, r3⟩ := c_go (m := (T 23 i).toNat) Rs (dyS_ok H hF S (h : Int) i (by omega)).1 (by omega) q1 q2 q3
      rw [show (((T 23 i).toNat : Nat) : Int) = T 23 i by omega] at e
      rw [e, bsome, bq_152_77, w32_s1 (by omega)]
      exact ⟨s', rfl, fs.tr f, r1, r2, r3⟩
    · rw [if_neg z] at eS
      rw [if_pos z, eS, bq_152_77, w32_s1 (by omega)]
      exact ⟨s, rfl, fs, q1, q2, q3⟩) (nG T) 0 σ (by omega) ⟨Fr.rf, hs, h7, h8⟩
theorem m_dyL {h : Nat} {x : Int} (R : RT X σ T l F) (S : ScOk T st.1) (h44 : st.1 44 = (h : Int)) (hs : rs (σ 128) = st.1) (h7 : σ 80 77 = st.2.1) (h8 : σ 80 78 = st.2.2) : ∃ σ', vv X 48 44 [some (vP 80), some (vI x), some (vI 0)] [] σ = vv X 48 44 [some (vP 80), some (vI x), some (vI (nG T : Int))] [] σ' ∧ Fr [125, 126, 128, 129] [63, 77, 78] σ σ' ∧ rs (σ' 128) = (dyS T F (h : Int) st (nG T)).1 ∧ σ' 80 77 = (dyS T F (h : Int) st (nG T)).2.1 ∧ σ' 80 78 = (dyS T F (h : Int) st (nG T)).2.2 := by
  have H := R.2.1
  have hF := R.2.2.2.2.2
  have h20 := H.g20
  have l1 := R.2.2.1.l1
  exact lp (fun i (s : am_Sg) => vv X 48 44 [some (vP 80), some (vI x), some (vI (i : Int))] [] s) (nG T) (fun i s => Fr [125, 126, 128, 129] [63, 77, 78] σ s ∧ rs (s 128) = (dyS T F (h : Int) st i).1 ∧ s 80 77 = (dyS T F (h : Int) st i).2.1 ∧ s 80 78 = (dyS T F (h : Int) st i).2.2) (fun i s hi hh => by
    obtain ⟨fs, q1, q2, q3⟩ := hh
    have Rs := R.fr fs rfl rfl rfl
    have Ks := Rs.2.2.1
    have gi := H.gi i hi
    have dk := dyS_ok H hF S (h : Int) i (by omega)
    have e44 : s 128 44 = (h : Int) := by rw [← h44, ← dk.2.1, ← q1, rs_in (by omega)]
    show ∃ s', vv X 48 44 [some (vP 80), some (vI x), some (vI (i : Int))] [] s = vv X 48 44 [some (vP 80), some (vI x), some (vI ((i + 1 : Nat) : Int))] [] s' ∧ _
    rw [bq_48_44, Ks.l0, if_pos (by omega), tn_nat, Ks.ng, H.g0, if_neg (by omega), ix20 l1 (by omega), if_pos (by omega), tn_nat, (Ks.gi i hi).1, (Ks.gi i hi).2, e44]
    have eS : dyS T F (h : Int) st (i + 1) = if T 24 i = (h : Int) then goS T F (dyS T F (h : Int) st i) (T 23 i).toNat else dyS T F (h : Int) st i := rfl
    by_cases z : T 24 i = (h : Int)
    · rw [if_pos z] at eS
      rw [if_neg (fun q => q z), eS]
      obtain ⟨s', e, f, r1, r2, r3⟩ := m_go (m := (T 23 i).toNat) Rs dk.1 (by omega) q1 q2 q3
      rw [show (((T 23 i).toNat : Nat) : Int) = T 23 i by omega] at e
      rw [e, bsome, bq_48_99, w32_s1 (by omega)]
      exact ⟨s', rfl, fs.tr f, r1, r2, r3⟩
    · rw [if_neg z] at eS
      rw [if_pos z, eS, bq_48_99, w32_s1 (by omega)]
      exact ⟨s, rfl, fs, q1, q2, q3⟩) (nG T) 0 σ (by omega) ⟨Fr.rf, hs, h7, h8⟩
theorem c_dyH : ∀ (n h : Nat) (st : dSt) (σ : am_Sg), h + n = 24 → RT X σ T l F → ScOk T st.1 → rs (σ 52) = gz d st.1 → σ 73 7 = st.2.1 → σ 73 8 = st.2.2 → ∃ σ', vv X 152 30 [some (vP 73), none, some (vI (h : Int)), none] [] σ = some (none, σ') ∧ Fr [52, 53, 54, 55, 56, 58, 59, 73] [] σ σ' ∧ rs (σ' 52) = gz d (dyH T F n h st).1 ∧ σ' 73 7 = (dyH T F n h st).2.1 ∧ σ' 73 8 = (dyH T F n h st).2.2
  | 0, h, st, σ, e, R, S, hs, h7, h8 => by
    refine ⟨σ, ?_, Fr.rf, hs, h7, h8⟩
    rw [bq_152_30, if_pos (by omega)]
  | n + 1, h, st, σ, e, R, S, hs, h7, h8 => by
    have H := R.2.1
    have hF := R.2.2.2.2.2
    obtain ⟨σ1, e1, f1, q1, q2, q3⟩ := c_dyL (h := h) R S hs h7 h8
    have R1 := R.fr f1 rfl rfl rfl
    have dk := dyS_ok H hF S (h : Int) (nG T) (Nat.le_refl _)
    obtain ⟨σ2, e2, f2, p2⟩ := c_hourT R1 q1 (dk.1.gzz H)
    rw [hrS_gz H] at p2
    obtain ⟨σ3, e3, f3, r⟩ := c_dyH n (h + 1) (hrS T (dyS T F (h : Int) st (nG T)).1, (dyS T F (h : Int) st (nG T)).2) σ2 (by omega) (R1.fr f2 rfl rfl rfl) (dk.1.hr H) p2 (by rw [f2.get 73 (by decide) rfl]; exact q2) (by rw [f2.get 73 (by decide) rfl]; exact q3)
    refine ⟨σ3, ?_, (f1.tr (f2.mono rfl rfl)).tr f3, r⟩
    rw [bq_152_30, if_neg (by omega), e1, bq_152_38, tl_at R1.1 (k := 8) (by omega), H.g0, if_pos (Int.le_refl _), e2, bsome, w32_s1 (by omega)]
    exact e3
/-- what is told at the end of the reference's day -/
theorem m_dyH {x : Int} {sc : Nat → Int} : ∀ (n h : Nat) (st : dSt) (σ : am_Sg), h + n = 24 → RT X σ T l F → ScOk T st.1 → (st.1 44 = (h : Int) ∨ n = 0) → (st.1 45 = sc 45 ∨ (n = 0 ∧ ¬ st.1 45 = sc 45)) → (n = 0 → ¬ st.1 45 = sc 45) → σ 127 45 = sc 45 → rs (σ 128) = st.1 → σ 80 77 = st.2.1 → σ 80 78 = st.2.2 → ∃ σ', vv X 48 25 [some (vP 80), some (vI x), none] [] σ = vv X 48 25 [some (vP 80), some (vI x), none] [] σ' ∧ Fr [125, 126, 128, 129] [63, 77, 78] σ σ' ∧ rs (σ' 128) = (dyH T F n h st).1 ∧ σ' 80 77 = (dyH T F n h st).2.1 ∧ σ' 80 78 = (dyH T F n h st).2.2 ∧ ¬ σ' 128 45 = σ' 127 45
  | 0, h, st, σ, e, R, S, h44, h45, hne, h127, hs, h7, h8 => by
    refine ⟨σ, rfl, Fr.rf, hs, h7, h8, ?_⟩
    rw [h127, ← rs_in (f := σ 128) (show 45 < 46 by omega), hs]
    exact hne rfl
  | n + 1, h, st, σ, e, R, S, h44, h45, hne, h127, hs, h7, h8 => by
    have H := R.2.1
    have hF := R.2.2.2.2.2
    have l1 := R.2.2.1.l1
    have a44 : st.1 44 = (h : Int) := by
      rcases h44 with z | z
      · exact z
      · cases z
    have a45 : st.1 45 = sc 45 := by
      rcases h45 with z | z
      · exact z
      · cases z.1
    obtain ⟨σ1, e1, f1, q1, q2, q3⟩ := m_dyL (h := h) (x := x) R S a44 hs h7 h8
    have R1 := R.fr f1 rfl rfl rfl
    have dk := dyS_ok H hF S (h : Int) (nG T) (Nat.le_refl _)
    obtain ⟨σ2, e2, f2, p2⟩ := m_hourT R1 q1 dk.1
    have f12 := f1.tr (f2.mono (cs' := [125, 126, 128, 129]) (js' := [63, 77, 78]) rfl rfl)
    have k44 : hrS T (dyS T F (h : Int) st (nG T)).1 44 = if (h : Int) < 23 then (h : Int) + 1 else 0 := by rw [hrS_44, dk.2.1, a44]
    have k45 : hrS T (dyS T F (h : Int) st (nG T)).1 45 = if (h : Int) < 23 then sc 45 else w32 (sc 45 + 1) := by rw [hrS_45 H, dk.2.1, dk.2.2, a44, a45]
    have s45 := S.2.2.2 45
    rw [a45] at s45
    have w45 : ¬ w32 (sc 45 + 1) = sc 45 := by
      unfold w32
      omega
    obtain ⟨σ3, e3, f3, r⟩ := m_dyH (x := x) n (h + 1) (hrS T (dyS T F (h : Int) st (nG T)).1, (dyS T F (h : Int) st (nG T)).2) σ2 (by omega) (R1.fr f2 rfl rfl rfl) (dk.1.hr H) (by
      show hrS T (dyS T F (h : Int) st (nG T)).1 44 = _ ∨ _
      rw [k44]
      by_cases z : (h : Int) < 23
      · rw [if_pos z]
        exact Or.inl (by omega)
      · exact Or.inr (by omega)) (by
      show hrS T (dyS T F (h : Int) st (nG T)).1 45 = _ ∨ (_ ∧ ¬ hrS T (dyS T F (h : Int) st (nG T)).1 45 = _)
      rw [k45]
      by_cases z : (h : Int) < 23
      · rw [if_pos z]
        exact Or.inl rfl
      · rw [if_neg z]
        exact Or.inr ⟨by omega, w45⟩) (fun hn => by
      show ¬ hrS T (dyS T F (h : Int) st (nG T)).1 45 = _
      rw [k45, if_neg (by omega)]
      exact w45) (by rw [f12.get 127 (by decide) rfl]; exact h127) p2 (by rw [f2.fld 77 rfl]; exact q2) (by rw [f2.fld 78 rfl]; exact q3)
    refine ⟨σ3, ?_, f12.tr f3, r⟩
    have e45 : σ 128 45 = σ 127 45 := by rw [h127, ← a45, ← hs, rs_in (by omega)]
    rw [bq_48_25, if_neg (fun q => q e45), e1, bq_48_44, R1.2.2.1.l0, if_pos (by omega), tn_nat, R1.2.2.1.ng, H.g0, if_pos (Int.le_refl _), e2, bsome]
    exact e3
theorem q_day (h : Rel X σ) (x : Int) : Qc X 47 48 [vI x] σ := by
  obtain ⟨T, l, F, R, hN, -⟩ := id h
  have H := R.2.1
  have hF := R.2.2.2.2.2
  by_cases hx : 0 ≤ x ∧ x ≤ 3
  · obtain ⟨t, e44, ht⟩ := ScOk.h44 hN.2
    obtain ⟨σ0, e0, f0, p0⟩ := c_trial (X := X) (σ := σ)
    have ef : vcV X 222 [vP 51] σ0 = some (am_row σ0 52 (fun j => if 40 ≤ j ∧ j < 42 then 0 else σ0 52 j)) := vV_of ((bq_222_0 X σ0).trans (by
      rw [show (40 : Int) = ((40 : Nat) : Int) from rfl, show (42 : Int) = ((42 : Nat) : Int) from rfl, fr_52 (by omega) (by omega), bsome])) rfl
    generalize hs0 : am_upd (am_upd (am_row σ0 52 (fun j => if 40 ≤ j ∧ j < 42 then 0 else σ0 52 j)) 73 7 0) 73 8 0 = σa
    have fa : Fr [52, 73] [] σ σa := by
      rw [← hs0]
      exact (((f0.mono rfl rfl).row rfl (by decide)).upd rfl (by decide)).upd rfl (by decide)
    have ha : rs (σa 52) = gz (rs (σ 127)) (rs (σ 127)) := by
      rw [← hs0, un _ (by decide), un _ (by decide), re]
      funext j
      by_cases hj : j < 46
      · rw [rs_in hj]
        have : σ0 52 j = rs (σ 127) j := by rw [← hN.1, ← p0, rs_in hj]
        unfold gz
        by_cases z : j = 40 ∨ j = 41
        · rw [if_pos (by omega), if_pos z, Int.sub_self]
          rfl
        · rw [if_neg (by omega), if_neg z, this]
      · rw [rs_hi hj, gz_n (by omega), rs_hi hj]
    obtain ⟨σ1, e1, f1, q1, q2, q3⟩ := c_dyH (X := X) (d := rs (σ 127)) (24 - t) t (rs (σ 127), 0, 0) σa (by omega) (R.fr fa rfl rfl rfl) hN.2 ha (by rw [← hs0]; simp [ua]) (by rw [← hs0]; simp [ua])
    have fC : Fr [52, 53, 54, 55, 56, 58, 59, 73] [] σ σ1 := (fa.mono rfl rfl).tr f1
    have R1 := R.fr fC rfl rfl rfl
    obtain ⟨σ2, e2, f2, p2⟩ := m_takes (X := X) (σ := σ1)
    have es2 : rs (σ2 128) = rs (σ 127) := by rw [p2, fC.get 127 (by decide) rfl]
    generalize hs3 : am_upd (am_upd σ2 80 77 0) 80 78 0 = σb
    have fb : Fr [128] [77, 78] σ1 σb := by
      rw [← hs3]
      exact ((f2.mono rfl rfl).upf rfl).upf rfl
    obtain ⟨σ3, e3, f3, r1, r2, r3, r4⟩ := m_dyH (X := X) (x := x) (sc := rs (σ 127)) (24 - t) t (rs (σ 127), 0, 0) σb (by omega) (R1.fr fb rfl rfl rfl) hN.2 (Or.inl e44) (Or.inl rfl) (fun z => by omega) (by rw [fb.get 127 (by decide) rfl, fC.get 127 (by decide) rfl, rs_in (by omega)]) (by rw [← hs3, un _ (by decide), un _ (by decide)]; exact es2) (by rw [← hs3]; simp [ua]) (by rw [← hs3]; simp [ua])
    generalize dyH T F (24 - t) t (rs (σ 127), 0, 0) = D at q1 q2 q3 r1 r2 r3
    have fM : Fr [125, 126, 128, 129] [63, 77, 78] σ1 σ3 := (fb.mono rfl rfl).tr f3
    have eC : vcV X 152 [vP 73, vP 49] σ = some σ1 := vV_of ((bq_152_0 X σ).trans (by
      have e50 : σa 50 44 = (t : Int) := by rw [fa.get 50 (by decide) rfl, hN.at (by omega), ← rs_in (f := σ 127) (show 44 < 46 by omega), e44]
      rw [e0, bsome, ef, bsome, hs0, bq_152_25, g_hourA, bsome]
      dsimp +instances only
      rw [e50]
      exact e1)) rfl
    have eM : ∀ v, vv X 48 25 [some (vP 80), some (vI x), none] [] σ3 = some (some (vI v), σ3) → vv X 48 0 [some (vP 80), some (vI x), none] [] σ1 = some (some (vI v), σ3) := by
      intro v hv
      refine (bq_48_0 X _ _).trans ?_
      rw [g_in, bsome]
      dsimp +instances only
      rw [if_pos hx, if_pos i10, e2, bsome, hs3, e3, hv]
    refine ⟨if x = 0 ∨ x = 1 then gz (rs (σ 127)) D.1 (40 + x.toNat) else if x = 2 then D.2.1 else D.2.2, σ1, σ3, vI_of ((bq_47_0 X _ σ).trans ?_) rfl, vI_of (eM _ ?_) rfl, h.scr ((fC.mono rfl rfl).tr (fM.mono rfl rfl))⟩
    · rw [if_neg (by omega), if_pos (by omega), eC, bsome]
      by_cases z : x = 0 ∨ x = 1
      · obtain ⟨g, rfl, hg⟩ := nat_of (n := 2) (show 0 ≤ x ∧ x < ((2 : Nat) : Int) by omega)
        rw [g_gainB hg, bsome, if_pos z, ← q1, rs_in (by omega), tn_nat]
        by_cases y : (g : Int) = 0
        · rw [if_pos y]
        · rw [if_neg y, if_pos (by omega)]
      · rw [if_neg (by omega), if_neg (by omega), if_neg z, q2, q3]
        by_cases y : x = 2
        · rw [if_pos y, if_pos y]
        · rw [if_neg y, if_neg y]
    · rw [bq_48_25, if_pos r4]
      by_cases z : x = 0 ∨ x = 1
      · obtain ⟨g, rfl, hg⟩ := nat_of (n := 2) (show 0 ≤ x ∧ x < ((2 : Nat) : Int) by omega)
        rw [if_pos (by omega), if_pos (by omega), show w32 (40 + (g : Int)) = ((40 + g : Nat) : Int) from w_ix (c := 40) (by omega), if_pos (by omega), bq_48_155, if_pos z, tn_nat]
        unfold gz
        rw [if_pos (by omega), ← r1, rs_in (by omega), rs_in (by omega), tn_nat, fM.get 127 (by decide) rfl, fC.get 127 (by decide) rfl]
      · rw [if_neg z]
        by_cases y : x = 2
        · rw [if_neg (fun q => q y), if_pos y, bq_48_155, r2]
        · rw [if_pos y, if_neg (by omega), if_neg y, bq_48_155, r3]
  · refine Qc.same h ⟨-1, ?_, ?_⟩ rfl rfl
    · refine (bq_47_0 X _ _).trans ?_
      rw [bq_47_9]
      by_cases z : x < 0
      · rw [if_pos z]
      · rw [if_neg z, if_neg (by omega)]
    · refine (bq_48_0 X _ _).trans ?_
      rw [g_in, bsome]
      dsimp +instances only
      rw [if_neg hx, if_neg (by decide)]
end DY
