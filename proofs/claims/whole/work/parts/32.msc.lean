/-! THE REFERENCE: TOLLS, WHY, SWALLOWS, AN HOUR -/
theorem whyS_ext {T : am_Sg} (H : TOk T) {sc : Nat → Int} {m : Nat} {b c : Nat → Int} (h : ∀ d, d < 4 → b d = c d) (ask : Prop) : whyS T sc m b ask = whyS T sc m c ask := by
  have h4 := H.d4
  have e1 : hatesS T m b = hatesS T m c := by
    unfold hatesS
    refine propext ⟨fun ⟨d, h1, h2, h3⟩ => ⟨d, h1, by rw [← h d (by omega)]; exact h2, h3⟩, fun ⟨d, h1, h2, h3⟩ => ⟨d, h1, by rw [h d (by omega)]; exact h2, h3⟩⟩
  have e2 : storesS T sc b = storesS T sc c := by
    unfold storesS
    refine propext ⟨fun y d hd => by rw [← h d (by omega)]; exact y d hd, fun y d hd => by rw [h d (by omega)]; exact y d hd⟩
  unfold whyS
  rw [numS_ext h, bulkS_ext H h, e1, e2]
theorem ixt {l g d : Nat} (h : l ≤ 1) (hg : g < 2) (hd : d < 4) : w32 (w32 (w32 (8 * (l : Int)) + w32 (4 * (g : Int))) + (d : Int)) = ((8 * l + 4 * g + d : Nat) : Int) := by unfold w32; omega
section MSC
variable {X l m g : Nat} {σ T : am_Sg} {F : LF} {b : Nat → Int}
theorem m_why2 (H : TOk T) (K : TM σ T l) (hm : m < nM T) (S : ScOk T (rs (σ 128))) (hb : BOk T b 12) (e : b4 (σ 129) = b) {x2 : Int} : vcI X 203 [vP 80, vI (m : Int), vI x2] σ = some (whyS T (rs (σ 128)) m b (¬ x2 = 0), σ) := by
  have eb : ∀ d, d < 4 → σ 129 d = b d := fun d hd => by rw [← e, b4_in hd]
  rw [m_why H K hm S (hb.ext fun d hd => (eb d hd).symm), whyS_ext H eb]
theorem m_bulk2 (H : TOk T) (K : TM σ T l) (hb : BOk T b 12) (e : b4 (σ 129) = b) : vcI X 110 [vP 80] σ = some (bulkS T b, σ) := by
  have eb : ∀ d, d < 4 → σ 129 d = b d := fun d hd => by rw [← e, b4_in hd]
  rw [m_bulk H K (hb.ext fun d hd => (eb d hd).symm), bulkS_ext H eb]
theorem m_gain2 (H : TOk T) (K : TM σ T l) (hb : BOk T b 12) (e : b4 (σ 129) = b) : vcI X 148 [vP 80] σ = some (gainS T b, σ) := by
  have eb : ∀ d, d < 4 → σ 129 d = b d := fun d hd => by rw [← e, b4_in hd]
  rw [m_gain H K (hb.ext fun d hd => (eb d hd).symm), gainS_ext H eb]
theorem m_bites2 (hb : BOk T b 12) (e : b4 (σ 129) = b) : vcI X 130 [vP 80] σ = some (numS b, σ) := by
  have eb : ∀ d, d < 4 → σ 129 d = b d := fun d hd => by rw [← e, b4_in hd]
  rw [m_bites (T := T) (hb.ext fun d hd => (eb d hd).symm), numS_ext eb]
theorem m_stores2 (H : TOk T) (K : TM σ T l) (e : b4 (σ 129) = b) : vcI X 129 [vP 80] σ = some (@ite _ (storesS T (rs (σ 128)) b) (Classical.propDecidable _) 1 0, σ) := by
  have h4 := H.d4
  have eb : ∀ d, d < 4 → σ 129 d = b d := fun d hd => by rw [← e, b4_in hd]
  have : storesS T (σ 128) (σ 129) = storesS T (rs (σ 128)) b := by
    unfold storesS
    refine propext ⟨fun y d hd => by rw [← eb d (by omega), rs_in (by omega)]; exact y d hd, fun y d hd => by rw [eb d (by omega), ← rs_in (f := σ 128) (show 32 + d < 46 by omega)]; exact y d hd⟩
  rw [m_hasStores H K, this]
theorem m_takes : ∃ σ', vcV X 108 [vP 80] σ = some σ' ∧ Fr [128] [] σ σ' ∧ rs (σ' 128) = rs (σ 127) := by
  have e := cpl0 (fun i s => vv X 108 2 [some (vP 80), some (vI (i : Int))] [] s) 128 0 60 0 (fun i => σ 127 i) σ (by omega) (fun i hi r => by
    show vv X 108 2 [some (vP 80), some (vI (i : Int))] [] _ = _
    rw [bq_108_2, if_neg (by omega), if_pos (by omega), w32_s1 (by omega), tn_nat, Nat.zero_add, rn _ (show ¬ (127 : Nat) = 128 by decide)])
  refine ⟨am_row σ 128 (fun j => if 0 + 0 ≤ j ∧ j < 0 + 60 then σ 127 (j - 0) else σ 128 j), vV_of ((bq_108_0 X σ).trans (e.trans ?_)) rfl, Fr.rf.row rfl (by decide), ?_⟩
  · show vv X 108 2 [some (vP 80), some (vI 60)] [] _ = _
    rw [bq_108_2, if_pos (Int.le_refl _)]
  · rw [re]
    refine rs_ext fun j hj => ?_
    rw [if_pos (by omega)]
    rfl
theorem m_t111 (H : TOk T) (K : TM σ T l) (hM : LM X σ T l F) (hm : m < nM T) (hg : g < 2) {i : Nat} (hi : i < 4) {sc : Nat → Int} {ah s2 x3 : Int} (hv : ∀ j, j < 6 → σ 125 j = vr T sc m ah (sc (32 + i)) j) (h6 : s2 = if 0 < sc (8 + m) then 1 else 0) : ∃ σ1, vv X 109 111 [some (vP 80), some (vI (m : Int)), some (vI (g : Int)), some (vI x3), some (vI (i : Int))] [vI s2, vI 6, vP 125] σ = vv X 109 149 [some (vP 80), some (vI (m : Int)), some (vI (g : Int)), some (vI x3), some (vI (i : Int))] [vI (bts T F sc m g ah i), vI (i : Int), vP 129] σ1 ∧ Fr [125, 126] [63] σ σ1 := by
  have f1 : Fr [125, 126] [63] σ (am_upd σ 125 (Int.toNat 6) s2) := Fr.rf.upd rfl (by decide)
  have K1 := K.fr f1 rfl
  rw [bq_109_111, if_pos (by decide), m_kinds H K1, bsome]
  dsimp +instances only
  unfold bts
  by_cases hn : i < nD T
  · rw [if_neg (by omega), K1.l0, ixt K.l1 hg hi, if_pos hn]
    obtain ⟨σ', e, f⟩ := hM g i hg hn _ (agL.fr f1 rfl)
    have evr : vf ((am_upd σ 125 (Int.toNat 6) s2) 125) = vr T sc m ah (sc (32 + i)) := by
      funext j
      unfold vf
      by_cases hj : j < 7
      · rw [if_pos hj, ue, upa]
        by_cases h : j = 6
        · subst h
          show s2 = _
          rw [h6]
          rfl
        · rw [if_neg (show ¬ j = Int.toNat 6 from h), hv j (by omega)]
      · rw [if_neg hj]
        unfold vr
        rw [if_neg (by omega), if_neg (by omega), if_neg (by omega), if_neg (by omega), if_neg (by omega), if_neg (by omega), if_neg (by omega)]
    rw [evr] at e
    rw [e, bsome]
    exact ⟨σ', rfl, f1.tr (f.mono rfl rfl)⟩
  · rw [if_pos (by omega), if_neg hn]
    exact ⟨_, rfl, f1⟩
theorem m_tolls (H : TOk T) (K : TM σ T l) (hM : LM X σ T l F) (hm : m < nM T) (hg : g < 2) (ah : Int) : ∃ σ', vcV X 109 [vP 80, vI (m : Int), vI (g : Int), vI ah] σ = some σ' ∧ Fr [125, 126, 129] [63] σ σ' ∧ b4 (σ' 129) = bts T F (rs (σ 128)) m g ah := by
  have h8 := H.m8
  have h4 := H.d4
  have l1 := K.l1
  obtain ⟨s, e, fs, hs⟩ := lp (fun i (s : am_Sg) => vv X 109 3 [some (vP 80), some (vI (m : Int)), some (vI (g : Int)), some (vI ah), some (vI (i : Int))] [] s) 4 (fun i s => Fr [125, 126, 129] [63] σ s ∧ ∀ d, d < i → s 129 d = bts T F (rs (σ 128)) m g ah d) (fun i s hi hs => by
    obtain ⟨fs, hs⟩ := hs
    have Ks := K.fr fs rfl
    have hMs := hM.ag (agL.fr fs rfl)
    have e128 : s 128 = σ 128 := fs.get 128 (by decide) rfl
    show ∃ s', vv X 109 3 [some (vP 80), some (vI (m : Int)), some (vI (g : Int)), some (vI ah), some (vI (i : Int))] [] s = vv X 109 3 [some (vP 80), some (vI (m : Int)), some (vI (g : Int)), some (vI ah), some (vI ((i + 1 : Nat) : Int))] [] s' ∧ _
    rw [bq_109_3, if_neg (by omega), Ks.l0, ix8 l1 (by omega), if_pos (by omega), tn_nat, (Ks.mi m hm).2.2.2.1, bq_109_42, m_room H (Ks.fr (cs := [125]) (js := []) ((Fr.rf.upd rfl (by decide)).upd rfl (by decide)) rfl) hm, bsome]
    dsimp +instances only
    rw [if_pos (by omega), bq_109_65, show w32 (32 + (i : Int)) = ((32 + i : Nat) : Int) from w_ix (c := 32) (by omega), if_pos (by omega), bq_109_88, show w32 (8 + (m : Int)) = ((8 + m : Nat) : Int) from w_ix (c := 8) (by omega), if_pos (by omega)]
    simp only [tn_nat, un _ (show ¬ (128 : Nat) = 125 by decide)]
    have fin : ∀ s2 : Int, s2 = (if 0 < rs (σ 128) (8 + m) then 1 else 0) → ∃ s', vv X 109 111 [some (vP 80), some (vI (m : Int)), some (vI (g : Int)), some (vI ah), some (vI (i : Int))] [vI s2, vI 6, vP 125] (am_upd (am_upd (am_upd (am_upd (am_upd (am_upd s 125 0 (s 128 44)) 125 1 (T 16 m)) 125 2 (w32 (T 13 m - s 128 m))) 125 3 (s 128 m)) 125 4 ah) 125 5 (s 128 (32 + i))) = vv X 109 3 [some (vP 80), some (vI (m : Int)), some (vI (g : Int)), some (vI ah), some (vI ((i + 1 : Nat) : Int))] [] s' ∧ Fr [125, 126, 129] [63] σ s' ∧ ∀ d, d < i + 1 → s' 129 d = bts T F (rs (σ 128)) m g ah d := by
      intro s2 h2
      have f1 : Fr [125] [] s (am_upd (am_upd (am_upd (am_upd (am_upd (am_upd s 125 0 (s 128 44)) 125 1 (T 16 m)) 125 2 (w32 (T 13 m - s 128 m))) 125 3 (s 128 m)) 125 4 ah) 125 5 (s 128 (32 + i))) := (((((Fr.rf.upd rfl (by decide)).upd rfl (by decide)).upd rfl (by decide)).upd rfl (by decide)).upd rfl (by decide)).upd rfl (by decide)
      obtain ⟨s1, e1, g1⟩ := m_t111 (X := X) (x3 := ah) H (Ks.fr f1 rfl) (hMs.ag (agL.fr f1 rfl)) hm hg hi (sc := rs (σ 128)) (ah := ah) (s2 := s2) (fun j hj => by
        simp only [ue]
        unfold vr
        rw [rs_in (show 44 < 46 by omega), rs_in (show m < 46 by omega), rs_in (show 32 + i < 46 by omega), e128]
        rcases (show j = 0 ∨ j = 1 ∨ j = 2 ∨ j = 3 ∨ j = 4 ∨ j = 5 by omega) with e | e | e | e | e | e <;> subst e <;> simp [upa]) h2
      rw [e1, bq_109_149, if_pos (by omega), w32_s1 (by omega), tn_nat]
      refine ⟨_, rfl, ((fs.tr (f1.mono rfl rfl)).tr (g1.mono rfl rfl)).upd rfl (by decide), fun d hd => ?_⟩
      rw [ue, upa]
      by_cases z : d = i
      · rw [if_pos z, z]
      · rw [if_neg z, g1.get 129 (by decide) rfl, f1.get 129 (by decide) rfl]
        exact hs d (by omega)
    have e8 : rs (σ 128) (8 + m) = s 128 (8 + m) := by rw [rs_in (by omega), e128]
    rw [e8] at fin
    by_cases z : s 128 (8 + m) ≤ 0
    · rw [if_pos z]
      exact fin 0 (by rw [if_neg (by omega)])
    · rw [if_neg z]
      exact fin 1 (by rw [if_pos (by omega)])) 4 0 σ (by omega) ⟨Fr.rf, fun d hd => absurd hd (Nat.not_lt_zero d)⟩
  refine ⟨s, vV_of ((bq_109_0 X _ _ _ σ).trans (e.trans ?_)) rfl, fs, ?_⟩
  · show vv X 109 3 [some (vP 80), some (vI (m : Int)), some (vI (g : Int)), some (vI ah), some (vI 4)] [] s = _
    rw [bq_109_3, if_pos (Int.le_refl _)]
  · funext d
    unfold b4
    by_cases hd : d < 4
    · rw [if_pos hd, hs d hd]
    · rw [if_neg hd]
      unfold bts
      rw [if_neg (by omega)]
theorem m_may (H : TOk T) (K : TM σ T l) (hM : LM X σ T l F) (hF : FOk F) (hm : m < nM T) (hg : g < 2) (S : ScOk T (rs (σ 128))) : ∃ σ', vcI X 112 [vP 80, vI (m : Int), vI (g : Int)] σ = some (whyS T (rs (σ 128)) m (bts T F (rs (σ 128)) m g (σ 128 (42 + g))) (¬ (1 : Int) = 0), σ') ∧ Fr [125, 126, 129] [63] σ σ' ∧ b4 (σ' 129) = bts T F (rs (σ 128)) m g (σ 128 (42 + g)) := by
  obtain ⟨σ1, e1, f1, h1⟩ := m_tolls (X := X) H K hM hm hg (σ 128 (42 + g))
  have e128 : σ1 128 = σ 128 := f1.get 128 (by decide) rfl
  refine ⟨σ1, vI_of ((bq_112_0 X _ _ σ).trans ?_) rfl, f1, h1⟩
  rw [show w32 (42 + (g : Int)) = ((42 + g : Nat) : Int) from w_ix (c := 42) (by omega), if_pos (by omega), tn_nat, e1, bsome, m_why2 H (K.fr f1 rfl) hm (by rw [e128]; exact S) ((bts_ok hF).mono (by omega)) h1, bsome, e128]
theorem m_sw (H : TOk T) (K : TM σ T l) (hm : m < nM T) (hg : g < 2) (hb : BOk T b 12) (eb : b4 (σ 129) = b) (S : ScOk T (rs (σ 128))) : ∃ σ', vcV X 115 [vP 80, vI (m : Int), vI (g : Int)] σ = some σ' ∧ Fr [128] [] σ σ' ∧ rs (σ' 128) = swS T (rs (σ 128)) m g b := by
  have h8 := H.m8
  have h4 := H.d4
  have l1 := K.l1
  have b1 := bulk_bd H hb (by omega)
  have b0 := S.1 m hm
  rw [rs_in (show m < 46 by omega), rs_in (show 8 + m < 46 by omega)] at b0
  have hMi := H.mi m hm
  have Kr : ∀ r, TM (am_row σ 128 r) T l := fun r => K.fr (cs := [128]) (js := []) (Fr.rf.row rfl (by decide)) rfl
  have Er : ∀ r, b4 ((am_row σ 128 r) 129) = b := fun r => by rw [rn _ (by decide)]; exact eb
  have eb' : ∀ d, d < 4 → σ 129 d = b d := fun d hd => by rw [← eb, b4_in hd]
  have A : vv X 115 0 [some (vP 80), some (vI (m : Int)), some (vI (g : Int)), none] [] σ = vv X 115 70 [some (vP 80), some (vI (m : Int)), none, some (vI 0)] [] (am_row σ 128 (up (up (up (up (up (σ 128) m (w32 (σ 128 m + bulkS T b))) (16 + m) (w32 (σ 128 (16 + m) + numS b))) (24 + m) 1) (40 + g) (w32 (σ 128 (40 + g) + gainS T b))) (42 + g) (w32 (σ 128 (42 + g) + 1)))) := by
    rw [bq_115_0, if_pos (by omega), m_bulk2 H K hb eb, bsome]
    dsimp +instances only
    rw [show w32 (16 + (m : Int)) = ((16 + m : Nat) : Int) from w_ix (c := 16) (by omega), if_pos (by omega), uu, m_bites2 hb (Er _), bsome]
    dsimp +instances only
    rw [show w32 (24 + (m : Int)) = ((24 + m : Nat) : Int) from w_ix (c := 24) (by omega), if_pos (by omega)]
    simp only [tn_nat, ur, re]
    rw [bq_115_39, show w32 (40 + (g : Int)) = ((40 + g : Nat) : Int) from w_ix (c := 40) (by omega), show w32 (42 + (g : Int)) = ((42 + g : Nat) : Int) from w_ix (c := 42) (by omega), if_pos (by omega), m_gain2 H (Kr _) hb (Er _), bsome]
    dsimp +instances only
    rw [if_pos (by omega), bq_115_68]
    simp only [tn_nat, ur, re]
    rw [upn (show ¬ 16 + m = m by omega), upn (show ¬ 40 + g = 24 + m by omega), upn (show ¬ 40 + g = 16 + m by omega), upn (show ¬ 40 + g = m by omega), upn (show ¬ 42 + g = 40 + g by omega), upn (show ¬ 42 + g = 24 + m by omega), upn (show ¬ 42 + g = 16 + m by omega), upn (show ¬ 42 + g = m by omega)]
  generalize hr : up (up (up (up (up (σ 128) m (w32 (σ 128 m + bulkS T b))) (16 + m) (w32 (σ 128 (16 + m) + numS b))) (24 + m) 1) (40 + g) (w32 (σ 128 (40 + g) + gainS T b))) (42 + g) (w32 (σ 128 (42 + g) + 1)) = r at A
  have ill : ∀ d, d < 4 → (b d < σ 103 (4 * (8 * l + m) + d) ↔ ¬ (0 < T 19 (4 * m + d) ∧ T 19 (4 * m + d) ≤ b d)) := by
    intro d hd
    have h1 := (K.hi m hm d hd).2.2
    have h2 := hb.1 d hd
    omega
  obtain ⟨y, e, hy, hy2⟩ := lp (fun i (y : Int) => vv X 115 70 [some (vP 80), some (vI (m : Int)), none, some (vI (i : Int))] [] (am_row σ 128 (up (swR b r i) (8 + m) y))) (nD T) (fun i y => ((∃ d, d < i ∧ 0 < T 19 (4 * m + d) ∧ T 19 (4 * m + d) ≤ b d) → y = 12) ∧ ((¬ ∃ d, d < i ∧ 0 < T 19 (4 * m + d) ∧ T 19 (4 * m + d) ≤ b d) → y = σ 128 (8 + m))) (fun i y hi hy => by
    show ∃ s', vv X 115 70 [some (vP 80), some (vI (m : Int)), none, some (vI (i : Int))] [] (am_row σ 128 (up (swR b r i) (8 + m) y)) = vv X 115 70 [some (vP 80), some (vI (m : Int)), none, some (vI ((i + 1 : Nat) : Int))] [] (am_row σ 128 (up (swR b r (i + 1)) (8 + m) s')) ∧ _
    rw [bq_115_70, m_kinds H (Kr _), bsome]
    dsimp +instances only
    rw [if_neg (by omega), show w32 (32 + (i : Int)) = ((32 + i : Nat) : Int) from w_ix (c := 32) (by omega), show w32 (36 + (i : Int)) = ((36 + i : Nat) : Int) from w_ix (c := 36) (by omega), if_pos (by omega), if_pos (by omega), if_pos (by omega)]
    simp only [tn_nat, ur, re, rn _ (show ¬ (129 : Nat) = 128 by decide)]
    have a1 : swR b r i (32 + i) = r (32 + i) := by
      unfold swR
      rw [if_neg (by omega), if_neg (by omega)]
    have a2 : swR b r i (36 + i) = r (36 + i) := by
      unfold swR
      rw [if_neg (by omega), if_neg (by omega)]
    rw [upn (show ¬ 36 + i = 32 + i by omega), upn (show ¬ 32 + i = 8 + m by omega), upn (show ¬ 36 + i = 8 + m by omega), eb' i (by omega), a1, a2]
    have a3 : up (up (up (swR b r i) (8 + m) y) (32 + i) (w32 (r (32 + i) - b i))) (36 + i) (w32 (r (36 + i) + b i)) = up (swR b r (i + 1)) (8 + m) y := by
      rw [← swR_s (show i < 4 by omega)]
      funext j
      simp only [upa]
      by_cases x1 : j = 8 + m
      · rw [if_neg (by omega), if_neg (by omega), if_pos x1, if_pos x1]
      · rw [if_neg x1, if_neg x1]
    rw [a3, bq_115_114, if_pos (by omega), (Kr _).l0, ix48 l1 (by omega) (by omega), if_pos (by omega)]
    simp only [tn_nat, ur, re, rn _ (show ¬ (129 : Nat) = 128 by decide), rn _ (show ¬ (103 : Nat) = 128 by decide)]
    rw [eb' i (by omega)]
    have il := ill i (by omega)
    by_cases z : b i < σ 103 (4 * (8 * l + m) + i)
    · rw [if_pos z, bq_115_152, w32_s1 (by omega)]
      refine ⟨y, rfl, ?_⟩
      have nx : (∃ d, d < i + 1 ∧ 0 < T 19 (4 * m + d) ∧ T 19 (4 * m + d) ≤ b d) ↔ ∃ d, d < i ∧ 0 < T 19 (4 * m + d) ∧ T 19 (4 * m + d) ≤ b d := by
        constructor
        · rintro ⟨d, h1, h2⟩
          by_cases z' : d = i
          · subst z'
            exact absurd h2 (il.mp z)
          · exact ⟨d, by omega, h2⟩
        · rintro ⟨d, h1, h2⟩
          exact ⟨d, by omega, h2⟩
      rw [nx]
      exact hy
    · rw [if_neg z, show w32 (8 + (m : Int)) = ((8 + m : Nat) : Int) from w_ix (c := 8) (by omega), if_pos (by omega), bq_115_152, w32_s1 (by omega), tn_nat]
      refine ⟨12, ?_, fun _ => rfl, fun q => absurd ⟨i, by omega, Classical.not_not.mp (fun u => z (il.mpr u))⟩ q⟩
      congr 2
      funext j
      simp only [upa]
      by_cases x : j = 8 + m
      · rw [if_pos x, if_pos x]
      · rw [if_neg x, if_neg x, if_neg x]) (nD T) 0 (σ 128 (8 + m)) (by omega) ⟨fun ⟨d, h1, _⟩ => absurd h1 (Nat.not_lt_zero d), fun _ => rfl⟩
  refine ⟨am_row σ 128 (up (swR b r (nD T)) (8 + m) y), ?_, Fr.rf.row rfl (by decide), ?_⟩
  · refine vV_of (A.trans ?_) rfl
    have e0 : up (swR b r 0) (8 + m) (σ 128 (8 + m)) = r := by
      rw [swR_0]
      funext j
      rw [upa]
      by_cases x : j = 8 + m
      · rw [if_pos x, x, ← hr, upn (by omega), upn (by omega), upn (by omega), upn (by omega), upn (by omega)]
      · rw [if_neg x]
    rw [e0] at e
    refine Eq.trans e ?_
    show vv X 115 70 [some (vP 80), some (vI (m : Int)), none, some (vI (nD T : Int))] [] _ = _
    rw [bq_115_70, m_kinds H (Kr _), bsome]
    dsimp +instances only
    rw [if_pos (Int.le_refl _)]
  · rw [re]
    refine swS_of H hm hg ?_ ?_ ?_ ?_ ?_ (fun d hd => ?_) (fun d hd => ?_) ?_ (fun j k0 k1 k2 k3 k4 k5 k6 k7 => ?_)
    · rw [upn (by omega), swR_lo (by omega) (by omega), ← hr, upn (by omega), upn (by omega), upn (by omega), upn (by omega), upe, w32_id (by omega) (by omega)]
    · rw [upn (by omega), swR_lo (by omega) (by omega), ← hr, upn (by omega), upn (by omega), upn (by omega), upe]
    · rw [upn (by omega), swR_lo (by omega) (by omega), ← hr, upn (by omega), upn (by omega), upe]
    · rw [upn (by omega), swR_lo (by omega) (by omega), ← hr, upn (by omega), upe]
    · rw [upn (by omega), swR_lo (by omega) (by omega), ← hr, upe]
    · have hs := S.2.1 d hd
      rw [rs_in (by omega)] at hs
      have hbd := hb.1 d hd
      have hr' : r (32 + d) = σ 128 (32 + d) := by rw [← hr, upn (by omega), upn (by omega), upn (by omega), upn (by omega), upn (by omega)]
      rw [upn (by omega)]
      unfold swR
      by_cases z : d < nD T
      · rw [if_pos (by omega), show 32 + d - 32 = d by omega, hr', w32_id (by omega) (by omega)]
      · rw [if_neg (by omega), if_neg (by omega), hr', hb.2 d (by omega) hd]
        omega
    · have hr' : r (36 + d) = σ 128 (36 + d) := by rw [← hr, upn (by omega), upn (by omega), upn (by omega), upn (by omega), upn (by omega)]
      have hs := S.2.2.2 (36 + d)
      rw [rs_in (by omega)] at hs
      rw [upn (by omega)]
      unfold swR
      by_cases z : d < nD T
      · rw [if_neg (by omega), if_pos (by omega), show 36 + d - 36 = d by omega, hr']
      · rw [if_neg (by omega), if_neg (by omega), hr', hb.2 d (by omega) hd, Int.add_zero, w32_id (by omega) (by omega)]
    · rw [upe]
      by_cases z : ∃ d, d < nD T ∧ 0 < T 19 (4 * m + d) ∧ T 19 (4 * m + d) ≤ b d
      · rw [if_pos z, hy z]
      · rw [if_neg z, hy2 z]
    · rw [upn (by omega), swR_lo (by omega) (by omega), ← hr, upn (by omega), upn (by omega), upn (by omega), upn (by omega), upn (by omega)]
theorem m_hour (H : TOk T) (K : TM σ T l) (S : ScOk T (rs (σ 128))) : ∃ σ', vcV X 120 [vP 80] σ = some σ' ∧ Fr [128] [] σ σ' ∧ rs (σ' 128) = hrS T (rs (σ 128)) := by
  have h8 := H.m8
  have l1 := K.l1
  have s44 := S.2.2.1
  rw [rs_in (by omega)] at s44
  have Kr : ∀ r, TM (am_row σ 128 r) T l := fun r => K.fr (cs := [128]) (js := []) (Fr.rf.row rfl (by decide)) rfl
  obtain ⟨R, e, hR⟩ := lp (fun i (R : Nat → Int) => vv X 120 2 [some (vP 80), some (vI (i : Int))] [] (am_row σ 128 R)) (nM T) (fun i R => R = hrA T (σ 128) i) (fun i R hi hR => by
    refine ⟨_, ?_, (hrA_s (T := T) (r := σ 128) (show i < 8 by omega)).symm.symm⟩
    show vv X 120 2 [some (vP 80), some (vI (i : Int))] [] (am_row σ 128 R) = vv X 120 2 [some (vP 80), some (vI ((i + 1 : Nat) : Int))] [] _
    have b0 := S.1 i hi
    rw [rs_in (show i < 46 by omega), rs_in (show 8 + i < 46 by omega)] at b0
    have hM := H.mi i hi
    have a1 : R i = σ 128 i := by
      rw [hR]
      unfold hrA
      rw [if_neg (by omega), if_neg (by omega)]
    have a2 : R (8 + i) = σ 128 (8 + i) := by
      rw [hR]
      unfold hrA
      rw [if_neg (by omega), if_neg (by omega)]
    rw [bq_120_2, m_menNow H (Kr _), bsome]
    dsimp +instances only
    rw [(Kr _).l0, if_neg (by omega), if_pos (by omega), ix8 l1 (by omega), if_pos (by omega), tn_nat, tn_nat, re, rn _ (show ¬ (98 : Nat) = 128 by decide), (K.mi i hi).2.2.1, a1]
    have fin : ∀ v : Int, (v = if σ 128 i ≤ T 15 i then 0 else σ 128 i - T 15 i) → vv X 120 63 [some (vP 80), some (vI (i : Int))] [vI v, vI (i : Int), vP 128] (am_row σ 128 R) = vv X 120 2 [some (vP 80), some (vI ((i + 1 : Nat) : Int))] [] (am_row σ 128 (up (up (hrA T (σ 128) i) i (if σ 128 i ≤ T 15 i then 0 else σ 128 i - T 15 i)) (8 + i) (if σ 128 (8 + i) ≤ 0 then 0 else σ 128 (8 + i) - 1))) := by
      intro v hv
      rw [bq_120_63, if_pos (by omega), show w32 (8 + (i : Int)) = ((8 + i : Nat) : Int) from w_ix (c := 8) (by omega), if_pos (by omega)]
      simp only [tn_nat, ur, re]
      rw [upn (show ¬ 8 + i = i by omega), a2, ← hv, ← hR]
      by_cases z : σ 128 (8 + i) ≤ 0
      · rw [if_pos z, if_pos z, bq_120_89, w32_s1 (by omega)]
        congr 2
        funext j
        rw [upa (up R i v)]
        by_cases x : j = 8 + i
        · rw [if_pos x, x, upn (by omega), a2]
          omega
        · rw [if_neg x]
      · rw [if_neg z, if_neg z, bq_120_89, w32_s1 (by omega), w32_id (by omega) (by omega)]
    by_cases z : σ 128 i ≤ T 15 i
    · rw [if_pos z]
      exact fin 0 (by rw [if_pos z])
    · rw [if_neg z, w32_id (by omega) (by omega)]
      exact fin _ (by rw [if_neg z])) (nM T) 0 (σ 128) (by omega) (hrA_0 T _).symm
  have q44 : hrA T (σ 128) (nM T) 44 = σ 128 44 := by
    unfold hrA
    rw [if_neg (by omega), if_neg (by omega)]
  have q45 : hrA T (σ 128) (nM T) 45 = σ 128 45 := by
    unfold hrA
    rw [if_neg (by omega), if_neg (by omega)]
  have e1 : vv X 120 0 [some (vP 80), none] [] σ = vv X 120 2 [some (vP 80), some (vI (nM T : Int))] [] (am_row σ 128 (hrA T (σ 128) (nM T))) := by
    rw [bq_120_0, ← hR]
    have := e
    rw [r0] at this
    exact this
  rw [bq_120_2, m_menNow H (Kr _), bsome] at e1
  dsimp +instances only at e1
  rw [if_pos (Int.le_refl _), re, q44, w32_id (x := σ 128 44 + 1) (by omega) (by omega)] at e1
  by_cases z : σ 128 44 < 23
  · rw [if_neg (by omega), ur] at e1
    refine ⟨_, vV_of e1 rfl, Fr.rf.row rfl (by decide), ?_⟩
    rw [re]
    exact hrS_of H s44.2 (fun _ => rfl) (fun y => absurd z y)
  · rw [if_pos (by omega), bq_120_127] at e1
    simp only [ur, re] at e1
    have e2 := cpl (fun i s => vv X 120 140 [some (vP 80), some (vI (i : Int))] [] s) 128 24 8 (fun _ => 0) σ (fun i hi r => by
      show vv X 120 140 [some (vP 80), some (vI (i : Int))] [] _ = _
      rw [bq_120_140, if_neg (by omega), show w32 (24 + (i : Int)) = ((24 + i : Nat) : Int) from w_ix (c := 24) (by omega), if_pos (by omega), w32_s1 (by omega), tn_nat]) 8 0 (up (up (up (hrA T (σ 128) (nM T)) 44 (σ 128 44 + 1)) 44 0) 45 (w32 (up (up (hrA T (σ 128) (nM T)) 44 (σ 128 44 + 1)) 44 0 45 + 1))) (by omega)
    have e3 := e1.trans e2
    have e4 : ∀ r : Nat → Int, vv X 120 140 [some (vP 80), some (vI ((8 : Nat) : Int))] [] (am_row σ 128 r) = some (none, am_row σ 128 (up (up r 42 0) 43 0)) := by
      intro r
      rw [bq_120_140, if_pos (by omega)]
      simp only [ur]
    have e5 := e3.trans (e4 _)
    refine ⟨_, vV_of e5 rfl, Fr.rf.row rfl (by decide), ?_⟩
    rw [re]
    refine hrS_of H s44.2 (fun y => absurd y z) (fun _ j hj => ?_)
    simp only [upa]
    by_cases c1 : j = 44
    · subst c1
      simp
    · by_cases c2 : j = 45
      · subst c2
        simp [q45]
      · simp only [c1, c2, if_false]
        by_cases c3 : j = 43
        · rw [if_pos c3, if_pos (show (24 ≤ j ∧ j < 32) ∨ j = 42 ∨ j = 43 by omega)]
        · rw [if_neg c3]
          by_cases c4 : j = 42
          · rw [if_pos c4, if_pos (show (24 ≤ j ∧ j < 32) ∨ j = 42 ∨ j = 43 by omega)]
          · rw [if_neg c4]
            by_cases c5 : 24 ≤ j ∧ j < 32
            · rw [if_pos (show 24 + 0 ≤ j ∧ j < 24 + 8 by omega), if_pos (show (24 ≤ j ∧ j < 32) ∨ j = 42 ∨ j = 43 by omega)]
            · rw [if_neg (show ¬ (24 + 0 ≤ j ∧ j < 24 + 8) by omega), if_neg (show ¬ ((24 ≤ j ∧ j < 32) ∨ j = 42 ∨ j = 43) by omega)]
theorem m_begins (H : TOk T) (K : TM σ T l) : ∃ σ', vcV X 93 [vP 80] σ = some σ' ∧ Fr [128] [] σ σ' ∧ rs (σ' 128) = bgS T := by
  have h8 := H.m8
  have h4 := H.d4
  have l1 := K.l1
  have Kr : ∀ r, TM (am_row σ 128 r) T l := fun r => K.fr (cs := [128]) (js := []) (Fr.rf.row rfl (by decide)) rfl
  have e1 := cpl0 (fun i s => vv X 93 2 [some (vP 80), some (vI (i : Int))] [] s) 128 0 60 0 (fun _ => 0) σ (by omega) (fun i hi r => by
    show vv X 93 2 [some (vP 80), some (vI (i : Int))] [] _ = _
    rw [bq_93_2, if_neg (by omega), if_pos (by omega), w32_s1 (by omega), tn_nat, Nat.zero_add])
  have e2 := fun r => cpl (fun i s => vv X 93 23 [some (vP 80), some (vI (i : Int))] [] s) 128 0 (nM T) (fun i => T 14 i) σ (fun i hi r => by
    show vv X 93 23 [some (vP 80), some (vI (i : Int))] [] _ = _
    rw [bq_93_23, m_menNow H (Kr _), bsome]
    dsimp +instances only
    rw [if_neg (by omega), (Kr _).l0, ix8 l1 (by omega), if_pos (by omega), if_pos (by omega), w32_s1 (by omega), tn_nat, tn_nat, rn _ (show ¬ (97 : Nat) = 128 by decide), (K.mi i hi).2.1, Nat.zero_add]) (nM T) 0 r (by omega)
  have e3 := fun r => cpl (fun i s => vv X 93 59 [some (vP 80), some (vI (i : Int))] [] s) 128 32 (nD T) (fun i => T 12 i) σ (fun i hi r => by
    show vv X 93 59 [some (vP 80), some (vI (i : Int))] [] _ = _
    rw [bq_93_59, m_kinds H (Kr _), bsome]
    dsimp +instances only
    rw [if_neg (by omega), (Kr _).l0, ix4 l1 (by omega), if_pos (by omega), show w32 (32 + (i : Int)) = ((32 + i : Nat) : Int) from w_ix (c := 32) (by omega), if_pos (by omega), w32_s1 (by omega), tn_nat, tn_nat, rn _ (show ¬ (94 : Nat) = 128 by decide), (K.di i hi).2.2]) (nD T) 0 r (by omega)
  have a1 : ∀ r, vv X 93 2 [some (vP 80), some (vI ((60 : Nat) : Int))] [] (am_row σ 128 r) = vv X 93 23 [some (vP 80), some (vI ((0 : Nat) : Int))] [] (am_row σ 128 r) := fun r => by
    rw [bq_93_2, if_pos (by omega)]
    rfl
  have a2 : ∀ r, vv X 93 23 [some (vP 80), some (vI (nM T : Int))] [] (am_row σ 128 r) = vv X 93 59 [some (vP 80), some (vI ((0 : Nat) : Int))] [] (am_row σ 128 r) := fun r => by
    rw [bq_93_23, m_menNow H (Kr _), bsome]
    dsimp +instances only
    rw [if_pos (Int.le_refl _)]
    rfl
  have a3 : ∀ r, vv X 93 59 [some (vP 80), some (vI (nD T : Int))] [] (am_row σ 128 r) = some (none, am_row σ 128 r) := fun r => by
    rw [bq_93_59, m_kinds H (Kr _), bsome]
    dsimp +instances only
    rw [if_pos (Int.le_refl _)]
  refine ⟨_, vV_of ((bq_93_0 X σ).trans (e1.trans ((a1 _).trans ((e2 _).trans ((a2 _).trans ((e3 _).trans (a3 _))))))) rfl, Fr.rf.row rfl (by decide), ?_⟩
  rw [re]
  funext j
  unfold bgS
  by_cases hj : j < 46
  · rw [rs_in hj]
    by_cases c1 : j < nM T
    · rw [if_neg (by omega), if_pos (by omega), if_pos c1, Nat.sub_zero]
    · rw [if_neg c1]
      by_cases c2 : 32 ≤ j ∧ j < 32 + nD T
      · rw [if_pos c2, if_pos (by omega)]
      · rw [if_neg (show ¬ (32 + 0 ≤ j ∧ j < 32 + nD T) by omega), if_neg (show ¬ (0 + 0 ≤ j ∧ j < 0 + nM T) by omega), if_pos (show 0 + 0 ≤ j ∧ j < 0 + 60 by omega), if_neg c2]
  · rw [rs_hi hj, if_neg (by omega), if_neg (by omega)]
end MSC
