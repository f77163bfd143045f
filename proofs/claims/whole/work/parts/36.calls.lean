/-! CALLS: may, pass, later, undo, hold, restore, gained, net, enter, burn, odds, count, back, feed -/
theorem ScOk.rsrs {T : am_Sg} {f : Nat → Int} (h : ScOk T (rs f)) : ScOk T (rs (rs f)) := by rw [rs_rs]; exact h
section QT
variable {X l u f : Nat} {σ T : am_Sg} {F : LF} {Hc : Nat → Nat → Int}
/-- may, where man and gate are there: the class -/
theorem c_mayN (R : RT X σ T l F) (hN : RN σ T) {m g : Nat} (hm : m < nM T) (hg : g < 2) : ∃ σ1, vcI X 17 [vP 0, vI (m : Int), vI (g : Int)] σ = some (whyS T (rs (σ 127)) m (btN T F (rs (σ 127)) m g) (¬ (1 : Int) = 0), σ1) ∧ Fr [53, 54, 58, 59] [] σ σ1 ∧ PL T σ1 53 (btN T F (rs (σ 127)) m g) := by
  have hT := R.1
  have H := R.2.1
  have hF := R.2.2.2.2.2
  obtain ⟨σ1, e1, f1, p1⟩ := c_layN R hN hm hg
  have R1 := R.fr f1 rfl rfl rfl
  have es : rs (σ1 50) = rs (σ 127) := by rw [f1.get 50 (by decide) rfl, hN.1]
  refine ⟨σ1, vI_of ((bq_17_0 X _ _ σ).trans ?_) rfl, f1, p1⟩
  rw [c_isMan H hT, bsome]
  dsimp +instances only
  rw [if_neg (by omega), g_gateC, bsome]
  dsimp +instances only
  rw [if_pos (by omega), e1, bsome, c_why_49_53 H R1.1 hm (by rw [es]; exact hN.2) p1 ((btN_ok hF).mono (by omega)), bsome, es]
theorem m_mayN (R : RT X σ T l F) (S : ScOk T (rs (σ 128))) {m g : Nat} (hm : m < nM T) (hg : g < 2) : ∃ σ', vcI X 112 [vP 80, vI (m : Int), vI (g : Int)] σ = some (whyS T (rs (σ 128)) m (btN T F (rs (σ 128)) m g) (¬ (1 : Int) = 0), σ') ∧ Fr [125, 126, 129] [63] σ σ' ∧ b4 (σ' 129) = btN T F (rs (σ 128)) m g := by
  obtain ⟨σ', e, f, p⟩ := m_may (X := X) R.2.1 R.2.2.1 R.2.2.2.2.1 R.2.2.2.2.2 hm hg S
  unfold btN
  rw [rs_in (show 42 + g < 46 by omega)]
  exact ⟨σ', e, f, p⟩
theorem q_may (h : Rel X σ) (x y : Int) : Qc X 17 18 [vI x, vI y] σ := by
  obtain ⟨T, l, F, R, hN, -⟩ := id h
  have hT := R.1
  have H := R.2.1
  have K := R.2.2.1
  by_cases hm : 0 ≤ x ∧ x < (nM T : Int)
  · by_cases hg : 0 ≤ y ∧ y ≤ 1
    · obtain ⟨m, rfl, hm'⟩ := nat_of hm
      obtain ⟨g, rfl, hg'⟩ := nat_of (n := 2) (show 0 ≤ y ∧ y < ((2 : Nat) : Int) by omega)
      obtain ⟨σ1, e1, f1, p1⟩ := c_mayN R hN hm' hg'
      have R1 := R.fr f1 rfl rfl rfl
      obtain ⟨σ2, e2, f2, p2⟩ := m_takes (X := X) (σ := σ1)
      have R2 := R1.fr f2 rfl rfl rfl
      have es : rs (σ2 128) = rs (σ 127) := by rw [p2, f1.get 127 (by decide) rfl]
      obtain ⟨σ3, e3, f3, p3⟩ := m_mayN R2 (by rw [es]; exact hN.2) hm' hg'
      rw [es] at e3
      refine ⟨_, σ1, σ3, e1, vI_of ((bq_18_0 X _ _ σ1).trans ?_) rfl, h.scr (((f1.mono rfl rfl).tr (f2.mono rfl rfl)).tr (f3.mono rfl rfl))⟩
      rw [m_isMan H R1.2.2.1, bsome]
      dsimp +instances only
      rw [if_pos hm, if_neg i10, g_gateM, bsome]
      dsimp +instances only
      rw [if_pos hg, if_pos i10, e2, bsome, e3, bsome]
    · refine Qc.same h ⟨-1, ?_, ?_⟩ rfl rfl
      · refine (bq_17_0 X _ _ _).trans ?_
        rw [c_isMan H hT, bsome]
        dsimp +instances only
        rw [if_pos hm, if_neg i10, g_gateC, bsome]
        dsimp +instances only
        rw [if_neg hg, if_neg (by decide), bq_17_15]
      · refine (bq_18_0 X _ _ _).trans ?_
        rw [m_isMan H K, bsome]
        dsimp +instances only
        rw [if_pos hm, if_neg i10, g_gateM, bsome]
        dsimp +instances only
        rw [if_neg hg, if_neg (by decide), bq_18_15]
  · refine Qc.same h ⟨-1, ?_, ?_⟩ rfl rfl
    · refine (bq_17_0 X _ _ _).trans ?_
      rw [c_isMan H hT, bsome]
      dsimp +instances only
      rw [if_neg hm, if_pos rfl, bq_17_15]
    · refine (bq_18_0 X _ _ _).trans ?_
      rw [m_isMan H K, bsome]
      dsimp +instances only
      rw [if_neg hm, if_pos rfl, bq_18_15]
/-- may, where something is not there: the class says -1, and nothing changes -/
theorem c_may_no (hT : tl σ = T) (H : TOk T) {x y : Int} (h : ¬ ((0 ≤ x ∧ x < (nM T : Int)) ∧ (0 ≤ y ∧ y ≤ 1))) : vcI X 17 [vP 0, vI x, vI y] σ = some (-1, σ) := by
  refine vI_of ((bq_17_0 X _ _ σ).trans ?_) rfl
  rw [c_isMan H hT, bsome]
  dsimp +instances only
  by_cases hm : 0 ≤ x ∧ x < (nM T : Int)
  · rw [if_pos hm, if_neg i10, g_gateC, bsome]
    dsimp +instances only
    rw [if_neg (fun q => h ⟨hm, q⟩), if_neg (by decide), bq_17_15]
  · rw [if_neg hm, if_pos rfl, bq_17_15]
theorem pushH_ok {r : Nat → Int} (hr : rs r = r ∧ ScOk T r) (hu : u ≤ 30) (h : ∀ i, i < u → rs (Hc i) = Hc i ∧ ScOk T (Hc i)) : ∀ i, i < (if u = 30 then 30 else u + 1) → rs (pushH u Hc r i) = pushH u Hc r i ∧ ScOk T (pushH u Hc r i) := by
  intro i hi
  unfold pushH
  by_cases z : i + 1 = (if u = 30 then 30 else u + 1)
  · rw [if_pos z]
    exact hr
  · rw [if_neg z]
    by_cases y : u = 30
    · rw [if_pos y]
      rw [if_pos y] at hi z
      exact h (i + 1) (by omega)
    · rw [if_neg y]
      rw [if_neg y] at hi z
      exact h i (by omega)
theorem q_pass (h : Rel X σ) (x y : Int) : Qc X 19 20 [vI x, vI y] σ := by
  obtain ⟨T, l, F, R, hN, hU, hH, hB, hP, hpl, hW⟩ := id h
  have hT := R.1
  have H := R.2.1
  have K := R.2.2.1
  have hF := R.2.2.2.2.2
  by_cases hq : (0 ≤ x ∧ x < (nM T : Int)) ∧ (0 ≤ y ∧ y ≤ 1)
  · obtain ⟨hm, hg⟩ := hq
    obtain ⟨m, rfl, hm'⟩ := nat_of hm
    obtain ⟨g, rfl, hg'⟩ := nat_of (n := 2) (show 0 ≤ y ∧ y < ((2 : Nat) : Int) by omega)
    obtain ⟨σ1, e1, f1, p1⟩ := c_mayN R hN hm' hg'
    have R1 := R.fr f1 rfl rfl rfl
    have hb := (btN_ok (T := T) hF (sc := rs (σ 127)) (m := m) (g := g)).mono (show (6 : Int) ≤ 12 by omega)
    have wr := why_rng (T := T) (sc := rs (σ 127)) (m := m) (b := btN T F (rs (σ 127)) m g) (ask := ¬ (1 : Int) = 0)
    generalize hw : whyS T (rs (σ 127)) m (btN T F (rs (σ 127)) m g) (¬ (1 : Int) = 0) = w at e1 wr
    by_cases hz : w = 0
    · obtain ⟨u, f, Hc, hUc, hUm, hHc⟩ := hU
      have hUc1 : RUc σ1 u f Hc := by
        unfold RUc
        rw [f1.get 60 (by decide) rfl, f1.get 61 (by decide) rfl]
        exact hUc
      obtain ⟨σ2, f', e2, f2, h60, hUc2⟩ := c_rem (X := X) hUc1
      have R2 := R1.fr f2 rfl rfl rfl
      have es2 : rs (σ2 50) = rs (σ 127) := by rw [f2.get 50 (by decide) rfl, f1.get 50 (by decide) rfl, hN.1]
      have p2 : PL T σ2 53 (btN T F (rs (σ 127)) m g) := p1.fr (f2.get 53 (by decide) rfl) (f2.get 54 (by decide) rfl)
      obtain ⟨σ3, e3, f3, p3⟩ := c_sw_49_53 (X := X) H R2.1 hm' hg' p2 hb (by rw [es2]; exact hN.2)
      have R3 := R2.fr f3 rfl rfl rfl
      have fC : Fr [50, 53, 54, 58, 59, 60, 61] [] σ σ3 := ((f1.mono rfl rfl).tr (f2.mono rfl rfl)).tr (f3.mono rfl rfl)
      obtain ⟨σ4, e4, f4, p4⟩ := m_takes (X := X) (σ := σ3)
      have R4 := R3.fr f4 rfl rfl rfl
      have es4 : rs (σ4 128) = rs (σ 127) := by rw [p4, fC.get 127 (by decide) rfl]
      obtain ⟨σ5, e5, f5, p5⟩ := m_mayN R4 (by rw [es4]; exact hN.2) hm' hg'
      rw [es4] at e5 p5
      have R5 := R4.fr f5 rfl rfl rfl
      have es5 : rs (σ5 128) = rs (σ 127) := by rw [f5.get 128 (by decide) rfl, es4]
      obtain ⟨σ6, e6, f6, p6⟩ := m_sw (X := X) H R5.2.2.1 hm' hg' hb p5 (by rw [es5]; exact hN.2)
      have R6 := R5.fr f6 rfl rfl rfl
      have fM : Fr [50, 53, 54, 58, 59, 60, 61, 125, 126, 128, 129] [63] σ σ6 := (((fC.mono rfl rfl).tr (f4.mono rfl rfl)).tr (f5.mono rfl rfl)).tr (f6.mono rfl rfl)
      have hUm6 : RUm σ6 u Hc := by
        unfold RUm
        rw [fM.get 130 (by decide) rfl, fM.fld 67 rfl]
        exact hUm
      obtain ⟨σ7, e7, f7, h127, hUm7⟩ := m_keeps (X := X) hUc.1.1 hUm6
      have R7 := R6.fr f7 rfl rfl rfl
      have fA : Fr [50, 53, 54, 58, 59, 60, 61, 125, 126, 127, 128, 129, 130] [63, 67] σ σ7 := (fM.mono rfl rfl).tr (f7.mono rfl rfl)
      have eh : pushH u Hc (rs (σ1 50)) = pushH u Hc (rs (σ6 127)) := by rw [f1.get 50 (by decide) rfl, hN.1, fM.get 127 (by decide) rfl]
      have e127 : rs (σ6 127) = rs (σ 127) := by rw [fM.get 127 (by decide) rfl]
      refine ⟨0, σ3, σ7, vI_of ((bq_19_0 X _ _ σ).trans ?_) rfl, vI_of ((bq_20_0 X _ _ σ3).trans ?_) rfl, T, l, F, R7, ?_, ?_, ?_, hB.fr fA rfl rfl, hP.fr fA rfl rfl, ?_, hW.fr fA rfl rfl⟩
      · rw [e1, bsome]
        dsimp +instances only
        rw [if_neg (fun q => q hz), e2, bsome, e3, bsome, bq_19_39, hz]
      · rw [m_isMan H R3.2.2.1, bsome]
        dsimp +instances only
        rw [if_pos hm, if_neg i10, g_gateM, bsome]
        dsimp +instances only
        rw [if_pos hg, if_pos i10, e4, bsome, e5, bsome]
        dsimp +instances only
        rw [hw, if_pos (by omega), e6, bsome, e7, bsome]
      · have es7 : rs (σ7 127) = swS T (rs (σ 127)) m g (btN T F (rs (σ 127)) m g) := by rw [h127, p6, es5]
        refine ⟨?_, ?_⟩
        · rw [es7, f7.get 50 (by decide) rfl, f6.get 50 (by decide) rfl, f5.get 50 (by decide) rfl, f4.get 50 (by decide) rfl, p3, es2]
        · rw [es7]
          exact hN.2.sw H hm' hg' hb i10 (hw.trans hz)
      · refine ⟨_, f', _, ?_, hUm7, ?_⟩
        · unfold RUc
          rw [f7.get 60 (by decide) rfl, f6.get 60 (by decide) rfl, f5.get 60 (by decide) rfl, f4.get 60 (by decide) rfl, f3.get 60 (by decide) rfl, f7.get 61 (by decide) rfl, f6.get 61 (by decide) rfl, f5.get 61 (by decide) rfl, f4.get 61 (by decide) rfl, f3.get 61 (by decide) rfl, ← eh]
          exact hUc2
        · rw [e127]
          exact pushH_ok ⟨rs_rs _, hN.2⟩ hUc.1.1 hHc
      · unfold RH
        rw [fA.get 62 (by decide) rfl, fA.get 143 (by decide) rfl, fA.get 144 (by decide) rfl, f7.get 60 (by decide) rfl, f6.get 60 (by decide) rfl, f5.get 60 (by decide) rfl, f4.get 60 (by decide) rfl, f3.get 60 (by decide) rfl, h60, f1.get 60 (by decide) rfl]
        exact hH
      · rw [fA.get 47 (by decide) rfl, fA.fld 17 rfl]
        exact hpl
    · obtain ⟨σ2, e2, f2, p2⟩ := m_takes (X := X) (σ := σ1)
      have R2 := R1.fr f2 rfl rfl rfl
      have es : rs (σ2 128) = rs (σ 127) := by rw [p2, f1.get 127 (by decide) rfl]
      obtain ⟨σ3, e3, f3, p3⟩ := m_mayN R2 (by rw [es]; exact hN.2) hm' hg'
      rw [es] at e3
      refine ⟨w, σ1, σ3, vI_of ((bq_19_0 X _ _ σ).trans ?_) rfl, vI_of ((bq_20_0 X _ _ σ1).trans ?_) rfl, h.scr (((f1.mono rfl rfl).tr (f2.mono rfl rfl)).tr (f3.mono rfl rfl))⟩
      · rw [e1, bsome]
        dsimp +instances only
        rw [if_pos hz, bq_19_39]
      · rw [m_isMan H R1.2.2.1, bsome]
        dsimp +instances only
        rw [if_pos hm, if_neg i10, g_gateM, bsome]
        dsimp +instances only
        rw [if_pos hg, if_pos i10, e2, bsome, e3, bsome]
        dsimp +instances only
        rw [hw, if_neg (by omega)]
  · refine Qc.same h ⟨-1, ?_, ?_⟩ rfl rfl
    · refine (bq_19_0 X _ _ _).trans ?_
      rw [c_may_no hT H hq, bsome]
      dsimp +instances only
      rw [if_pos (by decide), bq_19_39]
    · refine (bq_20_0 X _ _ _).trans ?_
      rw [m_isMan H K, bsome]
      dsimp +instances only
      by_cases hm : 0 ≤ x ∧ x < (nM T : Int)
      · rw [if_pos hm, if_neg i10, g_gateM, bsome]
        dsimp +instances only
        rw [if_neg (fun q => hq ⟨hm, q⟩), if_neg (by decide), bq_20_15]
      · rw [if_neg hm, if_pos rfl, bq_20_15]
/-- n hours -/
def hrN (T : am_Sg) (sc : Nat → Int) : Nat → Nat → Int
  | 0 => sc
  | n + 1 => hrS T (hrN T sc n)
theorem ScOk.hrN (H : TOk T) {sc : Nat → Int} (S : ScOk T sc) : ∀ n, ScOk T (hrN T sc n)
  | 0 => S
  | n + 1 => (ScOk.hrN H S n).hr H
theorem q_later (h : Rel X σ) (x : Int) : Qc X 21 22 [vI x] σ := by
  obtain ⟨T, l, F, R, hN, hU, hH, hB, hP, hpl, hW⟩ := id h
  have hT := R.1
  have H := R.2.1
  have K := R.2.2.1
  by_cases hx : 0 ≤ x ∧ x ≤ 240
  · obtain ⟨n, rfl, hn⟩ := nat_of (n := 241) (show 0 ≤ x ∧ x < ((241 : Nat) : Int) by omega)
    by_cases h0 : n = 0
    · subst h0
      refine Qc.same h ⟨σ 127 44, ?_, ?_⟩ rfl rfl
      · refine (bq_21_0 X _ _).trans ?_
        rw [if_neg (by omega), if_pos (by omega), if_pos (by omega), bq_21_28, bq_21_30, if_pos (by omega), g_hourA, bsome, hN.at (by omega)]
      · refine (bq_22_0 X _ _).trans ?_
        rw [g_in, bsome]
        dsimp +instances only
        rw [if_pos hx, if_pos i10, if_neg (by simp)]
    · obtain ⟨u, f, Hc, hUc, hUm, hHc⟩ := hU
      obtain ⟨σ2, f', e2, f2, h60, hUc2⟩ := c_rem (X := X) hUc
      have R2 := R.fr f2 rfl rfl rfl
      have es2 : rs (σ2 50) = rs (σ 127) := by rw [f2.get 50 (by decide) rfl, hN.1]
      obtain ⟨σ3, e3, f3, p3⟩ := lp (fun i (s : am_Sg) => vv X 21 30 [some (vP 0), some (vI (n : Int)), some (vI (i : Int))] [] s) n (fun i s => Fr [50] [] σ2 s ∧ rs (s 50) = hrN T (rs (σ 127)) i) (fun i s hi hs => by
        obtain ⟨fs, hs⟩ := hs
        have Rs := R2.fr fs rfl rfl rfl
        obtain ⟨s', e, f, p⟩ := c_hour_49 (X := X) H Rs.1 (by rw [hs]; exact ScOk.hrN H hN.2 i)
        refine ⟨s', ?_, fs.tr f, by rw [p, hs]; rfl⟩
        show vv X 21 30 [some (vP 0), some (vI (n : Int)), some (vI (i : Int))] [] s = vv X 21 30 [some (vP 0), some (vI (n : Int)), some (vI ((i + 1 : Nat) : Int))] [] s'
        rw [bq_21_30, if_neg (by omega), e, bsome, w32_s1 (by omega)]) n 0 σ2 (by omega) ⟨Fr.rf, es2⟩
      have R3 := R2.fr f3 rfl rfl rfl
      have fC : Fr [50, 60, 61] [] σ σ3 := (f2.mono rfl rfl).tr (f3.mono rfl rfl)
      obtain ⟨σ4, e4, f4, p4⟩ := m_takes (X := X) (σ := σ3)
      have R4 := R3.fr f4 rfl rfl rfl
      have es4 : rs (σ4 128) = rs (σ 127) := by rw [p4, fC.get 127 (by decide) rfl]
      obtain ⟨σ6, e6, f6, p6⟩ := lp (fun i (s : am_Sg) => vv X 22 31 [some (vP 80), some (vI (n : Int)), some (vI (i : Int))] [] s) n (fun i s => Fr [128] [] σ4 s ∧ rs (s 128) = hrN T (rs (σ 127)) i) (fun i s hi hs => by
        obtain ⟨fs, hs⟩ := hs
        have Rs := R4.fr fs rfl rfl rfl
        obtain ⟨s', e, f, p⟩ := m_hour (X := X) H Rs.2.2.1 (by rw [hs]; exact ScOk.hrN H hN.2 i)
        refine ⟨s', ?_, fs.tr f, by rw [p, hs]; rfl⟩
        show vv X 22 31 [some (vP 80), some (vI (n : Int)), some (vI (i : Int))] [] s = vv X 22 31 [some (vP 80), some (vI (n : Int)), some (vI ((i + 1 : Nat) : Int))] [] s'
        rw [bq_22_31, if_neg (by omega), e, bsome, w32_s1 (by omega)]) n 0 σ4 (by omega) ⟨Fr.rf, es4⟩
      have R6 := R4.fr f6 rfl rfl rfl
      have fM : Fr [50, 60, 61, 128] [] σ σ6 := ((fC.mono rfl rfl).tr (f4.mono rfl rfl)).tr (f6.mono rfl rfl)
      have hUm6 : RUm σ6 u Hc := by
        unfold RUm
        rw [fM.get 130 (by decide) rfl, fM.fld 67 rfl]
        exact hUm
      obtain ⟨σ7, e7, f7, h127, hUm7⟩ := m_keeps (X := X) hUc.1.1 hUm6
      have R7 := R6.fr f7 rfl rfl rfl
      have fA : Fr [50, 60, 61, 127, 128, 130] [67] σ σ7 := (fM.mono rfl rfl).tr (f7.mono rfl rfl)
      have eh : pushH u Hc (rs (σ 50)) = pushH u Hc (rs (σ6 127)) := by rw [hN.1, fM.get 127 (by decide) rfl]
      have e127 : rs (σ6 127) = rs (σ 127) := by rw [fM.get 127 (by decide) rfl]
      have es7 : rs (σ7 127) = hrN T (rs (σ 127)) n := by rw [h127, p6]
      refine ⟨σ3 50 44, σ3, σ7, vI_of ((bq_21_0 X _ σ).trans ?_) rfl, vI_of ((bq_22_0 X _ σ3).trans ?_) rfl, T, l, F, R7, ?_, ?_, ?_, hB.fr fA rfl rfl, hP.fr fA rfl rfl, ?_, hW.fr fA rfl rfl⟩
      · rw [if_neg (by omega), if_pos (by omega), if_neg (by omega), e2, bsome, bq_21_28]
        refine Eq.trans e3 ?_
        show vv X 21 30 [some (vP 0), some (vI (n : Int)), some (vI (n : Int))] [] σ3 = _
        rw [bq_21_30, if_pos (Int.le_refl _), g_hourA, bsome]
      · rw [g_in, bsome]
        dsimp +instances only
        rw [if_pos hx, if_pos i10, if_pos (by omega), e4, bsome]
        refine Eq.trans e6 ?_
        show vv X 22 31 [some (vP 80), some (vI (n : Int)), some (vI (n : Int))] [] σ6 = _
        rw [bq_22_31, if_pos (Int.le_refl _), e7, bsome, rs_at (f := σ7 127) (g := σ3 50) (by rw [es7, p3]) (show 44 < 46 by omega)]
      · refine ⟨?_, ?_⟩
        · rw [es7, f7.get 50 (by decide) rfl, f6.get 50 (by decide) rfl, f4.get 50 (by decide) rfl, p3]
        · rw [es7]
          exact ScOk.hrN H hN.2 n
      · refine ⟨_, f', _, ?_, hUm7, ?_⟩
        · unfold RUc
          rw [f7.get 60 (by decide) rfl, f6.get 60 (by decide) rfl, f4.get 60 (by decide) rfl, f3.get 60 (by decide) rfl, f7.get 61 (by decide) rfl, f6.get 61 (by decide) rfl, f4.get 61 (by decide) rfl, f3.get 61 (by decide) rfl, ← eh]
          exact hUc2
        · rw [e127]
          exact pushH_ok ⟨rs_rs _, hN.2⟩ hUc.1.1 hHc
      · unfold RH
        rw [fA.get 62 (by decide) rfl, fA.get 143 (by decide) rfl, fA.get 144 (by decide) rfl, f7.get 60 (by decide) rfl, f6.get 60 (by decide) rfl, f4.get 60 (by decide) rfl, f3.get 60 (by decide) rfl, h60]
        exact hH
      · rw [fA.get 47 (by decide) rfl, fA.fld 17 rfl]
        exact hpl
  · refine Qc.same h ⟨-1, ?_, ?_⟩ rfl rfl
    · refine (bq_21_0 X _ _).trans ?_
      rw [bq_21_11]
      by_cases z : x < 0
      · rw [if_pos z]
      · rw [if_neg z, if_neg (by omega)]
    · refine (bq_22_0 X _ _).trans ?_
      rw [g_in, bsome]
      dsimp +instances only
      rw [if_neg hx, if_neg (by decide)]
end QT
