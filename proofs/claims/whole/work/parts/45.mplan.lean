/-! PLANS: the reference; soonest, least, crowd -/
def sO (x : Int) : Int := if x = NR then 1000000 else -x
noncomputable def plH (T : am_Sg) (F : LF) (sc : Nat → Int) (g : Nat) (w : Int) (s : Nat) : Nat → Nat → (Nat → Int) → (Nat → Int)
  | 0, _, W => W
  | n + 1, k, W => plH T F sc g w s n (k + 1) (plP (vlS T F (hrN T sc k) g w) s (nM T) W s)
noncomputable def plE (T : am_Sg) (F : LF) (sc : Nat → Int) (g : Nat) (w : Int) (s : Nat) : Nat → Nat → (Nat → Int) → (Nat → Int)
  | 0, _, W => W
  | n + 1, k, W => if plP (vlS T F (hrN T sc k) g w) s (nM T) W s s = NR then plE T F sc g w s n (k + 1) (plP (vlS T F (hrN T sc k) g w) s (nM T) W s) else plP (vlS T F (hrN T sc k) g w) s (nM T) W s
noncomputable def sooF (T : am_Sg) (F : LF) (sc : Nat → Int) (g : Nat) (w : Int) (s h : Nat) : Nat → Nat → (Nat → Int) → Int
  | 0, _, _ => -2
  | n + 1, k, W => if plP (vlS T F (hrN T sc k) g w) s (nM T) W s s = NR then sooF T F sc g w s h n (k + 1) (plP (vlS T F (hrN T sc k) g w) s (nM T) W s) else ((h + k : Nat) : Int)
def W0 : Nat → Int := fun j => if j = 0 then 0 else NR
section MPL
variable {X l m a g s h : Nat} {σ T : am_Sg} {F : LF} {sc W : Nat → Int} {w : Int}
theorem W0_ok (hs : s < 256) : PW s w W0 := by
  intro j hj
  by_cases z : j = 0
  · right
    subst z
    have : bc ((0 : Nat) : Int) 8 = 0 := by decide +kernel
    rw [this]
    exact ⟨⟨Int.le_refl _, Int.le_refl _⟩, subS_zero hs, fun _ => rfl, fun _ => Int.le_refl _, fun _ => Int.le_refl _⟩
  · left
    exact if_neg z
theorem plH_ok (H : TOk T) (hF : FOk F) (hs : s < 256) : ∀ n k W, PW s w W → PW s w (plH T F sc g w s n k W)
  | 0, _, _, h => h
  | n + 1, k, W, h => plH_ok H hF hs n (k + 1) _ (plP_ok hs H.m8 (vlS_ok H hF) h s (by omega))
theorem plE_ok (H : TOk T) (hF : FOk F) (hs : s < 256) : ∀ n k W, PW s w W → PW s w (plE T F sc g w s n k W)
  | 0, _, _, h => h
  | n + 1, k, W, h => by
    have ok := plP_ok hs H.m8 (vlS_ok (sc := hrN T sc k) (g := g) (w := w) H hF) h s (by omega)
    unfold plE
    split
    · exact plE_ok H hF hs n (k + 1) _ ok
    · exact ok
theorem plH_mono (H : TOk T) (hF : FOk F) (hs : s < 256) : ∀ n k W, PW s w W → ¬ W s = NR → ¬ plH T F sc g w s n k W s = NR
  | 0, _, _, _, h => h
  | n + 1, k, W, h1, h => plH_mono H hF hs n (k + 1) _ (plP_ok hs H.m8 (vlS_ok H hF) h1 s (by omega)) (plP_mono hs H.m8 (vlS_ok H hF) h1 h hs s (by omega))
/-- the early end -/
theorem plE_H (H : TOk T) (hF : FOk F) (hs : s < 256) : ∀ n k W, PW s w W → (¬ plE T F sc g w s n k W s = NR ∧ ¬ plH T F sc g w s n k W s = NR) ∨ plE T F sc g w s n k W = plH T F sc g w s n k W
  | 0, _, _, _ => Or.inr rfl
  | n + 1, k, W, h => by
    have ok := plP_ok hs H.m8 (vlS_ok (sc := hrN T sc k) (g := g) (w := w) H hF) h s (by omega)
    unfold plE plH
    split
    · exact plE_H H hF hs n (k + 1) _ ok
    next z => exact Or.inl ⟨z, plH_mono H hF hs n (k + 1) _ ok z⟩
theorem vlS_rf (H : TOk T) (hF : FOk F) : vlS T F sc g w m a = RF ↔ ¬ whyS T sc m (bts T F sc m g (w32 (sc (42 + g) + (a : Int)))) (¬ (0 : Int) = 0) = 0 := by
  have hb := (bts_ok (T := T) hF (sc := sc) (m := m) (g := g) (ah := w32 (sc (42 + g) + (a : Int)))).mono (show (6 : Int) ≤ 12 by omega)
  have b1 := bulk_bd H hb (by omega)
  have b2 := gain_bd H hb (by omega)
  unfold vlS
  by_cases z : whyS T sc m (bts T F sc m g (w32 (sc (42 + g) + (a : Int)))) (¬ (0 : Int) = 0) = 0
  · rw [if_pos z]
    unfold RF
    refine ⟨fun q => ?_, fun q => absurd z q⟩
    split at q
    · omega
    · split at q <;> omega
  · rw [if_neg z]
    exact ⟨fun _ => z, fun _ => rfl⟩
theorem m_plM {p : Nat} (R : RT X σ T l F) (hs : rs (σ 128) = sc) (S : ScOk T sc) (hg : g < 2) (hw3 : w = 0 ∨ w = 1 ∨ w = 2) (hp : p < 256) (hs2 : s < 256) (hW : PW s w W) (hr : ¬ W p = NR) (hw : ∀ j, j < 256 → σ 134 j = sO (W j)) : ∃ σ', vv X 141 39 [some (vP 80), some (vI (s : Int)), some (vI (g : Int)), some (vI w), some (vI (p : Int)), some (vI 0), none] [] σ = vv X 141 178 [some (vP 80), some (vI (s : Int)), some (vI (g : Int)), some (vI w), some (vI (p : Int)), none, none] [] σ' ∧ Fr [125, 126, 129, 134] [63] σ σ' ∧ ∀ j, j < 256 → σ' 134 j = sO (plM (vlS T F sc g w) s p W (nM T) j) := by
  have H := R.2.1
  have hF := R.2.2.2.2.2
  have hm8 := H.m8
  have hv := vlS_ok (sc := sc) (g := g) (w := w) H hF
  have hpc := bcN_c hp
  obtain ⟨σ1, e, f1, w1⟩ := lp (fun i (st : am_Sg) => vv X 141 39 [some (vP 80), some (vI (s : Int)), some (vI (g : Int)), some (vI w), some (vI (p : Int)), some (vI (i : Int)), none] [] st) (nM T) (fun i st => Fr [125, 126, 129, 134] [63] σ st ∧ ∀ j, j < 256 → st 134 j = sO (plM (vlS T F sc g w) s p W i j)) (fun i st hi hh => by
    obtain ⟨fs, ws⟩ := hh
    have Rs := R.fr fs rfl rfl rfl
    have hss : rs (st 128) = sc := by rw [fs.get 128 (by decide) rfl]; exact hs
    have pok := plM_ok hp hs2 hv hW hr i (by omega)
    have pp : plM (vlS T F sc g w) s p W i p = W p := plM_p (fun _ _ => trivial) i
    have bs1 : am_and (am_shr (s : Int) (i : Int)) 1 = bt1 (s : Int) i := rfl
    have bp1 : am_and (am_shr (p : Int) (i : Int)) 1 = bt1 (p : Int) i := rfl
    show ∃ st', vv X 141 39 [some (vP 80), some (vI (s : Int)), some (vI (g : Int)), some (vI w), some (vI (p : Int)), some (vI (i : Int)), none] [] st = vv X 141 39 [some (vP 80), some (vI (s : Int)), some (vI (g : Int)), some (vI w), some (vI (p : Int)), some (vI ((i + 1 : Nat) : Int)), none] [] st' ∧ _
    have skip : ∀ st', vv X 141 172 [some (vP 80), some (vI (s : Int)), some (vI (g : Int)), some (vI w), some (vI (p : Int)), some (vI (i : Int)), none] [] st' = vv X 141 39 [some (vP 80), some (vI (s : Int)), some (vI (g : Int)), some (vI w), some (vI (p : Int)), some (vI ((i + 1 : Nat) : Int)), none] [] st' := fun st' => by rw [bq_141_172, w32_s1 (by omega)]
    rw [plM_s, bq_141_39, m_menNow H Rs.2.2.1, bsome]
    dsimp +instances only
    rw [if_neg (by omega), bs1, bp1]
    rcases bt01 hs2 (show i < 8 by omega) with y | y
    · rw [if_pos y, skip]
      refine ⟨st, rfl, fs, fun j hj => ?_⟩
      rw [if_neg (fun q => by have := q.1; omega)]
      exact ws j hj
    · rw [if_neg (by omega)]
      rcases bt01 hp (show i < 8 by omega) with b0 | b1
      · obtain ⟨o1, o2, o3⟩ := orp0 hp (show i < 8 by omega) b0
        have pw : 0 < 2 ^ i := Nat.pow_pos (by omega)
        have e42 : st 128 (42 + g) = sc (42 + g) := by rw [← hss, rs_in (by omega)]
        rw [if_pos (by omega), show w32 (42 + (g : Int)) = ((42 + g : Nat) : Int) from w_ix (c := 42) (by omega), if_pos (by omega), m_bits hp, bsome]
        dsimp +instances only
        rw [tn_nat, e42, ← hpc.1]
        obtain ⟨st1, e1, g1, p1⟩ := m_tolls (X := X) H Rs.2.2.1 Rs.2.2.2.2.1 hi hg (w32 (sc (42 + g) + ((bcN p : Nat) : Int)))
        rw [hss] at p1
        have R1 := Rs.fr g1 rfl rfl rfl
        have hs1 : rs (st1 128) = sc := by rw [g1.get 128 (by decide) rfl]; exact hss
        have hbb := (bts_ok (T := T) hF (sc := sc) (m := i) (g := g) (ah := w32 (sc (42 + g) + ((bcN p : Nat) : Int)))).mono (show (6 : Int) ≤ 12 by omega)
        have b1 := bulk_bd H hbb (by omega)
        have b2 := gain_bd H hbb (by omega)
        have wr := why_rng (T := T) (sc := sc) (m := i) (b := bts T F sc i g (w32 (sc (42 + g) + ((bcN p : Nat) : Int)))) (ask := ¬ (0 : Int) = 0)
        have y1 := m_why2 (X := X) (x2 := 0) H R1.2.2.1 hi (by rw [hs1]; exact S) hbb p1
        rw [hs1] at y1
        rw [e1, bsome, y1, bsome]
        dsimp +instances only
        have rf := vlS_rf (sc := sc) (g := g) (w := w) (m := i) (a := bcN p) H hF
        have f1 : Fr [125, 126, 129, 134] [63] σ st1 := fs.tr (g1.mono rfl rfl)
        have ws1 : ∀ j, j < 256 → st1 134 j = sO (plM (vlS T F sc g w) s p W i j) := fun j hj => by rw [g1.get 134 (by decide) rfl]; exact ws j hj
        generalize hB : bts T F sc i g (w32 (sc (42 + g) + ((bcN p : Nat) : Int))) = B at *
        by_cases z : whyS T sc i B (¬ (0 : Int) = 0) = 0
        · have nrf : ¬ vlS T F sc g w i (bcN p) = RF := fun q => rf.mp q z
          have ev : vlS T F sc g w i (bcN p) = if w = 2 then gainS T B else if w = 1 then -(bulkS T B) else 0 := by
            unfold vlS
            rw [hB, if_pos z]
          have vb : -4752 ≤ vlS T F sc g w i (bcN p) ∧ vlS T F sc g w i (bcN p) ≤ 4752 := by
            rcases hv i (bcN p) with q | q
            · exact absurd q nrf
            · exact q.1
          have wb : -(4752 * bc (p : Int) 8) ≤ W p ∧ W p ≤ 4752 * bc (p : Int) 8 := by
            rcases hW p hp with q | q
            · exact absurd q hr
            · exact q.1
          have bpb := bc_bd hp 8 (by omega)
          have wp : st1 134 p = -(W p) := by
            rw [ws1 p hp, pp]
            exact if_neg hr
          have fin : ∀ x : Int, x = -(vlS T F sc g w i (bcN p)) → ∃ st', vv X 141 138 [some (vP 80), some (vI (s : Int)), some (vI (g : Int)), some (vI w), some (vI (p : Int)), some (vI (i : Int)), none] [vI x, vI (st1 134 p)] st1 = vv X 141 39 [some (vP 80), some (vI (s : Int)), some (vI (g : Int)), some (vI w), some (vI (p : Int)), some (vI ((i + 1 : Nat) : Int)), none] [] st' ∧ Fr [125, 126, 129, 134] [63] σ st' ∧ ∀ j, j < 256 → st' 134 j = sO ((if bt1 (s : Int) i = 1 ∧ bt1 (p : Int) i = 0 ∧ ¬ vlS T F sc g w i (bcN p) = RF then up (plM (vlS T F sc g w) s p W i) (p + 2 ^ i) (mx (plM (vlS T F sc g w) s p W i (p + 2 ^ i)) (W p + vlS T F sc g w i (bcN p))) else plM (vlS T F sc g w) s p W i) j) := by
            intro x hx
            rw [if_pos (show bt1 (s : Int) i = 1 ∧ bt1 (p : Int) i = 0 ∧ ¬ vlS T F sc g w i (bcN p) = RF from ⟨y, b0, nrf⟩), bq_141_138, o1, if_pos (by omega), tn_nat, ws1 _ o2, wp, hx, w32_id (by omega) (by omega), skip, skip]
            have pk := pok (p + 2 ^ i) o2
            have b8 := bc_bd o2 8 (by omega)
            generalize hx0 : plM (vlS T F sc g w) s p W i (p + 2 ^ i) = x0 at *
            generalize vlS T F sc g w i (bcN p) = vv0 at *
            have eq1 : sO x0 ≤ -(W p) + -vv0 ↔ ¬ x0 < W p + vv0 := by
              unfold sO NR
              unfold NR at pk
              split <;> omega
            by_cases q : x0 < W p + vv0
            · rw [if_neg (fun u => eq1.mp u q)]
              refine ⟨_, rfl, f1.upd rfl (by decide), fun j hj => ?_⟩
              rw [ua, if_pos rfl, upa]
              by_cases u : j = p + 2 ^ i
              · rw [if_pos u, if_pos u]
                unfold mx sO
                rw [if_pos q, if_neg (by unfold NR; omega)]
                omega
              · rw [if_neg u, if_neg u]
                exact ws1 j hj
            · rw [if_pos (eq1.mpr q)]
              refine ⟨_, rfl, f1, fun j hj => ?_⟩
              rw [upa]
              by_cases u : j = p + 2 ^ i
              · rw [if_pos u, u, ws1 _ o2, hx0]
                unfold mx
                rw [if_neg q]
              · rw [if_neg u]
                exact ws1 j hj
          rw [if_pos (by omega), if_pos (by omega), tn_nat]
          by_cases y0 : w = 0
          · rw [if_neg (fun q => q y0)]
            exact fin 0 (by rw [ev, if_neg (by omega), if_neg (by omega)]; rfl)
          · rw [if_pos y0]
            by_cases y1 : w = 1
            · rw [if_neg (fun q => q y1), m_bulk2 H R1.2.2.1 hbb p1, bsome]
              exact fin _ (by rw [ev, if_neg (by omega), if_pos y1]; omega)
            · rw [if_pos y1, m_gain2 H R1.2.2.1 hbb p1, bsome]
              dsimp +instances only
              rw [w32_id (by omega) (by omega)]
              exact fin _ (by rw [ev, if_pos (by omega)])
        · rw [if_neg (by omega), skip]
          refine ⟨st1, rfl, f1, fun j hj => ?_⟩
          rw [if_neg (fun q => q.2.2 (rf.mpr z))]
          exact ws1 j hj
      · rw [if_neg (fun q => q b1), skip]
        refine ⟨st, rfl, fs, fun j hj => ?_⟩
        rw [if_neg (fun q => by have := q.2.1; omega)]
        exact ws j hj) (nM T) 0 σ (by omega) ⟨Fr.rf, hw⟩
  refine ⟨σ1, ?_, f1, w1⟩
  refine Eq.trans e ?_
  show vv X 141 39 [some (vP 80), some (vI (s : Int)), some (vI (g : Int)), some (vI w), some (vI (p : Int)), some (vI (nM T : Int)), none] [] σ1 = _
  rw [bq_141_39, m_menNow H (R.fr f1 rfl rfl rfl).2.2.1, bsome]
  dsimp +instances only
  rw [if_pos (Int.le_refl _)]
theorem m_passMore (R : RT X σ T l F) (hs : rs (σ 128) = sc) (S : ScOk T sc) (hg : g < 2) (hw3 : w = 0 ∨ w = 1 ∨ w = 2) (hs2 : s < 256) (hW : PW s w W) (hw : ∀ j, j < 256 → σ 134 j = sO (W j)) : ∃ σ', vcV X 141 [vP 80, vI (s : Int), vI (g : Int), vI w] σ = some σ' ∧ Fr [125, 126, 129, 134] [63] σ σ' ∧ ∀ j, j < 256 → σ' 134 j = sO (plP (vlS T F sc g w) s (nM T) W s j) := by
  have H := R.2.1
  have hF := R.2.2.2.2.2
  have hm8 := H.m8
  have hv := vlS_ok (sc := sc) (g := g) (w := w) H hF
  obtain ⟨σ1, e, f1, w1⟩ := lp (fun p (st : am_Sg) => vv X 141 3 [some (vP 80), some (vI (s : Int)), some (vI (g : Int)), some (vI w), some (vI (p : Int)), none, none] [] st) 256 (fun p st => Fr [125, 126, 129, 134] [63] σ st ∧ ∀ j, j < 256 → st 134 j = sO (plP (vlS T F sc g w) s (nM T) W p j)) (fun p st hp hh => by
    obtain ⟨fs, ws⟩ := hh
    have Rs := R.fr fs rfl rfl rfl
    have hss : rs (st 128) = sc := by rw [fs.get 128 (by decide) rfl]; exact hs
    show ∃ st', vv X 141 3 [some (vP 80), some (vI (s : Int)), some (vI (g : Int)), some (vI w), some (vI (p : Int)), none, none] [] st = vv X 141 3 [some (vP 80), some (vI (s : Int)), some (vI (g : Int)), some (vI w), some (vI ((p + 1 : Nat) : Int)), none, none] [] st' ∧ _
    have pk := plP_ok hs2 hm8 hv hW p (by omega) p hp
    have bpb := bc_bd hp 8 (by omega)
    have far : st 134 p = 1000000 ↔ plP (vlS T F sc g w) s (nM T) W p p = NR := by
      rw [ws p hp]
      unfold sO
      unfold NR at *
      split <;> omega
    rw [bq_141_3, if_neg (by omega), if_pos (by omega), tn_nat, plP_s]
    by_cases z2 : plP (vlS T F sc g w) s (nM T) W p p = NR
    · rw [if_pos (far.mpr z2), bq_141_178, w32_s1 (by omega)]
      refine ⟨st, rfl, fs, fun j hj => ?_⟩
      rw [if_neg (fun q => q.2 z2)]
      exact ws j hj
    · rw [if_neg (fun q => z2 (far.mp q))]
      by_cases z1 : subS p s
      · have z1' : am_and (p : Int) (am_xor (s : Int) (-1)) = 0 := z1
        rw [if_pos z1']
        obtain ⟨st', e', f', w'⟩ := m_plM (p := p) Rs hss S hg hw3 hp hs2 (plP_ok hs2 hm8 hv hW p (by omega)) z2 ws
        rw [e', bq_141_178, w32_s1 (by omega)]
        refine ⟨st', rfl, fs.tr f', fun j hj => ?_⟩
        rw [if_pos (show subS p s ∧ ¬ plP (vlS T F sc g w) s (nM T) W p p = NR from ⟨z1, z2⟩)]
        exact w' j hj
      · have z1' : ¬ am_and (p : Int) (am_xor (s : Int) (-1)) = 0 := z1
        rw [if_neg z1', bq_141_178, w32_s1 (by omega)]
        refine ⟨st, rfl, fs, fun j hj => ?_⟩
        rw [if_neg (fun q => z1 q.1)]
        exact ws j hj) 256 0 σ (by omega) ⟨Fr.rf, hw⟩
  refine ⟨σ1, vV_of ((bq_141_0 X _ _ _ σ).trans (Eq.trans e ?_)) rfl, f1, fun j hj => ?_⟩
  · show vv X 141 3 [some (vP 80), some (vI (s : Int)), some (vI (g : Int)), some (vI w), some (vI 256), none, none] [] σ1 = _
    rw [bq_141_3, if_pos (by omega)]
  · rw [w1 j hj]
    have := plP_end (v := vlS T F sc g w) (W := W) hs2 hm8 (256 - s) (by omega)
    rw [show s + (256 - s) = 256 by omega] at this
    rw [this]
end MPL
