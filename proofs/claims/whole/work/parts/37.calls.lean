/-! CALLS: undo, hold, restore, gained, net, enter, burn, odds, count, back, feed -/
def Qj (X a b : Nat) (vs : List am_V) (σ : am_Sg) : Prop := ∃ v σ1 σ2, vcJ X a (vP 0 :: vs) σ = some (v, σ1) ∧ vcJ X b (vP 80 :: vs) σ1 = some (v, σ2) ∧ Rel X σ2
theorem orb3_f : ∀ x : Fin 8, ∀ d : Fin 3, (0 ≤ am_or (x.val : Int) (am_shl 1 (d.val : Int)) ∧ am_or (x.val : Int) (am_shl 1 (d.val : Int)) ≤ 7) ∧ ∀ e : Fin 3, bt1 (am_or (x.val : Int) (am_shl 1 (d.val : Int))) e.val = if e.val = d.val then 1 else bt1 (x.val : Int) e.val := by decide +kernel
theorem orb3 {x : Int} {d : Nat} (h0 : 0 ≤ x) (h1 : x ≤ 7) (hd : d < 3) : (0 ≤ am_or x (am_shl 1 (d : Int)) ∧ am_or x (am_shl 1 (d : Int)) ≤ 7) ∧ ∀ e, e < 3 → bt1 (am_or x (am_shl 1 (d : Int))) e = if e = d then 1 else bt1 x e := by
  obtain ⟨n, rfl⟩ : ∃ n : Nat, x = n := ⟨x.toNat, by omega⟩
  have := orb3_f ⟨n, by omega⟩ ⟨d, hd⟩
  exact ⟨this.1, fun e he => this.2 ⟨e, he⟩⟩
theorem ix60 {v i : Nat} (h : v < 30) (hi : i < 60) : w32 (w32 (60 * (v : Int)) + (i : Int)) = ((60 * v + i : Nat) : Int) := by unfold w32; omega
section QU
variable {X l : Nat} {σ T : am_Sg} {F : LF}
theorem q_undo (h : Rel X σ) : Qc X 23 24 [] σ := by
  obtain ⟨T, l, F, R, hN, ⟨u, f, Hc, ⟨⟨hu, hf⟩, ⟨e3, e2⟩, hh⟩, ⟨e67, hm⟩, hHc⟩, hH, hB, hP, hpl, hW⟩ := id h
  by_cases z : u = 0
  · subst z
    refine Qc.same h ⟨0, ?_, ?_⟩ rfl rfl
    · refine (bq_23_0 X _).trans ?_
      rw [vI_of ((bq_121_0 X σ).trans (by rw [if_neg (by rw [e3]; simp)])) rfl, bsome]
      dsimp +instances only
      rw [if_pos okZ0]
    · refine (bq_24_0 X _).trans ?_
      rw [if_neg (by rw [e67]; simp)]
  · obtain ⟨v, rfl⟩ : ∃ v, u = v + 1 := ⟨u - 1, by omega⟩
    have q := hHc v (by omega)
    have ev : w32 (((v + 1 : Nat) : Int) - 1) = (v : Int) := by unfold w32; omega
    have ep : w32 ((((f + v) % 30 : Nat) : Int) * 46) = ((46 * ((f + v) % 30) : Nat) : Int) := by unfold w32; omega
    have c1 : vcI X 121 [vP 60, vP 49] σ = some (1, am_row (am_upd σ 60 3 (v : Int)) 50 (am_cp (σ 61) (σ 50) (46 * ((f + v) % 30)) 0 46)) := vI_of ((bq_121_0 X σ).trans (by
      rw [if_pos (by rw [e3]; omega), e3, e2, ev, w32_ad (by omega), am_rem30 (by omega), ep, if_pos (by omega), tn_nat, bq_121_50, un _ (show ¬ (61 : Nat) = 60 by decide), un _ (show ¬ (50 : Nat) = 60 by decide)])) rfl
    generalize hs1 : am_row (am_upd σ 60 3 (v : Int)) 50 (am_cp (σ 61) (σ 50) (46 * ((f + v) % 30)) 0 46) = σ1 at c1
    have f1 : Fr [50, 60] [] σ σ1 := by
      rw [← hs1]
      exact (Fr.rf.upd rfl (by decide)).row rfl (by decide)
    have s50 : rs (σ1 50) = Hc v := by
      rw [← q.1]
      refine rs_ext fun j hj => ?_
      rw [← hs1, re]
      unfold am_cp
      rw [if_pos (by omega), ← hh v j (by omega) hj]
      congr 1
    have e67' : σ1 80 67 = ((v + 1 : Nat) : Int) := (f1.fld 67 rfl).trans e67
    have e130 : σ1 130 = σ 130 := f1.get 130 (by decide) rfl
    have L := cpl0 (fun i s => vv X 24 21 [some (vP 80), some (vI (i : Int))] [] s) 127 0 60 0 (fun i => σ 130 (60 * v + i)) (am_upd σ1 80 67 (v : Int)) (by omega) (fun i hi r => by
      show vv X 24 21 [some (vP 80), some (vI (i : Int))] [] _ = _
      rw [bq_24_21, if_neg (by omega), rn _ (show ¬ (80 : Nat) = 127 by decide), ua, if_pos rfl, if_pos rfl, ix60 (show v < 30 by omega) hi, if_pos (by omega), if_pos (by omega), w32_s1 (by omega), tn_nat, tn_nat, Nat.zero_add, rn _ (show ¬ (130 : Nat) = 127 by decide), un _ (show ¬ (130 : Nat) = 80 by decide), e130])
    generalize hr : (fun j => if 0 + 0 ≤ j ∧ j < 0 + 60 then σ 130 (60 * v + (j - 0)) else (am_upd σ1 80 67 (v : Int)) 127 j) = r at L
    have f2 : Fr [127] [67] σ1 (am_row (am_upd σ1 80 67 (v : Int)) 127 r) := (Fr.rf.upf rfl).row rfl (by decide)
    have fA : Fr [50, 60, 127] [67] σ (am_row (am_upd σ1 80 67 (v : Int)) 127 r) := (f1.mono rfl rfl).tr (f2.mono rfl rfl)
    have s127 : rs r = Hc v := by
      rw [← q.1]
      refine rs_ext fun j hj => ?_
      rw [← hr]
      dsimp +instances only
      rw [if_pos (by omega), ← hm v j (by omega) hj, Nat.sub_zero]
    refine ⟨1, σ1, _, vI_of ((bq_23_0 X σ).trans (by rw [c1, bsome]; dsimp +instances only; rw [if_pos okZ1])) rfl, vI_of ((bq_24_0 X σ1).trans ?_) rfl, T, l, F, R.fr fA rfl rfl rfl, ?_, ?_, ?_, hB.fr fA rfl rfl, hP.fr fA rfl rfl, ?_, hW.fr fA rfl rfl⟩
    · rw [if_pos (by rw [e67']; omega), e67', ev]
      refine Eq.trans L ?_
      show vv X 24 21 [some (vP 80), some (vI 60)] [] _ = _
      rw [bq_24_21, if_pos (by omega)]
    · refine ⟨?_, ?_⟩
      · rw [re, s127, f2.get 50 (by decide) rfl, s50]
      · rw [re, s127]
        exact q.2
    · refine ⟨v, f, Hc, ⟨⟨by omega, hf⟩, ⟨?_, ?_⟩, fun i j hi hj => ?_⟩, ⟨?_, fun i j hi hj => ?_⟩, fun i hi => hHc i (by omega)⟩
      · rw [f2.get 60 (by decide) rfl, ← hs1]
        simp [ua, ra]
      · rw [f2.get 60 (by decide) rfl, ← hs1]
        simp [ua, ra, e2]
      · rw [fA.get 61 (by decide) rfl]
        exact hh i j (by omega) hj
      · simp [ua, ra]
      · rw [fA.get 130 (by decide) rfl]
        exact hm i j (by omega) hj
    · unfold RH
      have e4 : (am_row (am_upd σ1 80 67 (v : Int)) 127 r) 60 4 = σ 60 4 := by
        rw [f2.get 60 (by decide) rfl, ← hs1]
        simp [ua, ra]
      rw [e4, fA.get 62 (by decide) rfl, fA.get 143 (by decide) rfl, fA.get 144 (by decide) rfl]
      exact hH
    · rw [fA.get 47 (by decide) rfl, fA.fld 17 rfl]
      exact hpl
theorem q_hold (h : Rel X σ) (x : Int) : Qc X 65 66 [vI x] σ := by
  obtain ⟨T, l, F, R, hN, hU, hH, hB, hP, hpl, hW⟩ := id h
  by_cases hx : 0 ≤ x ∧ x ≤ 2
  · obtain ⟨s, rfl, hs⟩ := nat_of (n := 3) (show 0 ≤ x ∧ x < ((3 : Nat) : Int) by omega)
    have ob := orb3 hH.1.1 hH.1.2 hs
    have ep : w32 ((s : Int) * 46) = ((46 * s : Nat) : Int) := by unfold w32; omega
    have c1 : vcI X 165 [vP 60, vI (s : Int), vP 49] σ = some (1, am_upd (am_row σ 62 (am_cp (σ 50) (σ 62) 0 (46 * s) 46)) 60 4 (am_or (σ 60 4) (am_shl 1 (s : Int)))) := vI_of ((bq_165_0 X _ σ).trans (by
      rw [if_neg (by omega), if_pos (by omega), ep, if_pos (by omega), tn_nat, bq_165_41])) rfl
    generalize hs1 : am_upd (am_row σ 62 (am_cp (σ 50) (σ 62) 0 (46 * s) 46)) 60 4 (am_or (σ 60 4) (am_shl 1 (s : Int))) = σ1 at c1
    have f1 : Fr [60, 62] [] σ σ1 := by
      rw [← hs1]
      exact (Fr.rf.row rfl (by decide)).upd rfl (by decide)
    have L := cpl0 (fun i st => vv X 66 20 [some (vP 80), some (vI (s : Int)), some (vI (i : Int))] [] st) 144 (60 * s) 60 0 (fun i => σ 127 i) (am_upd σ1 143 s 1) (by omega) (fun i hi r => by
      show vv X 66 20 [some (vP 80), some (vI (s : Int)), some (vI (i : Int))] [] _ = _
      rw [bq_66_20, if_neg (by omega), if_pos (by omega), ix60 (show s < 30 by omega) hi, if_pos (by omega), w32_s1 (by omega), tn_nat, tn_nat, rn _ (show ¬ (127 : Nat) = 144 by decide), un _ (show ¬ (127 : Nat) = 143 by decide), f1.get 127 (by decide) rfl])
    generalize hr : (fun j => if 60 * s + 0 ≤ j ∧ j < 60 * s + 60 then σ 127 (j - 60 * s) else (am_upd σ1 143 s 1) 144 j) = r at L
    have f2 : Fr [143, 144] [] σ1 (am_row (am_upd σ1 143 s 1) 144 r) := (Fr.rf.upd rfl (by decide)).row rfl (by decide)
    have fA : Fr [60, 62, 143, 144] [] σ (am_row (am_upd σ1 143 s 1) 144 r) := (f1.mono rfl rfl).tr (f2.mono rfl rfl)
    have e60 : ∀ j, ¬ j = 4 → (am_row (am_upd σ1 143 s 1) 144 r) 60 j = σ 60 j := fun j hj => by
      rw [f2.get 60 (by decide) rfl, ← hs1]
      simp [ua, ra, hj]
    refine ⟨1, σ1, am_row (am_upd σ1 143 s 1) 144 r, vI_of ((bq_65_0 X _ σ).trans (by rw [c1, bsome]; dsimp +instances only; rw [if_pos okZ1])) rfl, vI_of ((bq_66_0 X _ σ1).trans ?_) rfl, T, l, F, R.fr fA rfl rfl rfl, hN.fr fA rfl, ?_, ?_, hB.fr fA rfl rfl, hP.fr fA rfl rfl, ?_, hW.fr fA rfl rfl⟩
    · rw [g_in, bsome]
      dsimp +instances only
      rw [if_pos hx, if_pos i10, if_pos ⟨by omega, by omega, rfl⟩, tn_nat]
      refine Eq.trans L ?_
      show vv X 66 20 [some (vP 80), some (vI (s : Int)), some (vI 60)] [] _ = _
      rw [bq_66_20, if_pos (by omega)]
    · obtain ⟨u, f, Hc, hUc, hUm, hHc⟩ := hU
      refine ⟨u, f, Hc, ?_, ?_, hHc⟩
      · unfold RUc
        rw [e60 3 (by decide), e60 2 (by decide), fA.get 61 (by decide) rfl]
        exact hUc
      · unfold RUm
        rw [fA.fld 67 rfl, fA.get 130 (by decide) rfl]
        exact hUm
    · have e4 : (am_row (am_upd σ1 143 s 1) 144 r) 60 4 = am_or (σ 60 4) (am_shl 1 (s : Int)) := by
        rw [f2.get 60 (by decide) rfl, ← hs1]
        simp [ua]
      unfold RH
      rw [e4]
      refine ⟨ob.1, fun t ht => ?_⟩
      have k := hH.2 t ht
      have e143 : (am_row (am_upd σ1 143 s 1) 144 r) 143 t = if t = s then 1 else σ 143 t := by
        rw [rn _ (by decide), ua, if_pos rfl, f1.get 143 (by decide) rfl]
      have e62 : (am_row (am_upd σ1 143 s 1) 144 r) 62 = am_cp (σ 50) (σ 62) 0 (46 * s) 46 := by
        rw [f2.get 62 (by decide) rfl, ← hs1, un _ (by decide), re]
      rw [e143, ob.2 t ht, e62, re]
      by_cases y : t = s
      · subst y
        rw [if_pos rfl]
        refine ⟨Or.inr rfl, if_pos rfl, fun _ => ?_⟩
        have b1 : rs (fun j => r (60 * t + j)) = rs (σ 127) := by
          refine rs_ext fun j hj => ?_
          rw [← hr]
          dsimp +instances only
          rw [if_pos (by omega), show 60 * t + j - 60 * t = j by omega]
        have b2 : rs (fun j => am_cp (σ 50) (σ 62) 0 (46 * t) 46 (46 * t + j)) = rs (σ 50) := by
          refine rs_ext fun j hj => ?_
          unfold am_cp
          rw [if_pos (by omega), show 0 + (46 * t + j - 46 * t) = j by omega]
        rw [b1, b2]
        exact hN
      · rw [if_neg y, if_neg y]
        refine ⟨k.1, k.2.1, fun q => ?_⟩
        have b1 : rs (fun j => r (60 * t + j)) = rs (fun j => σ 144 (60 * t + j)) := by
          refine rs_ext fun j hj => ?_
          rw [← hr]
          dsimp +instances only
          rw [if_neg (by omega), un _ (by decide), f1.get 144 (by decide) rfl]
        have b2 : rs (fun j => am_cp (σ 50) (σ 62) 0 (46 * s) 46 (46 * t + j)) = rs (fun j => σ 62 (46 * t + j)) := by
          refine rs_ext fun j hj => ?_
          unfold am_cp
          rw [if_neg (by omega)]
        rw [b1, b2]
        exact k.2.2 q
    · rw [fA.get 47 (by decide) rfl, fA.fld 17 rfl]
      exact hpl
  · refine Qc.same h ⟨0, ?_, ?_⟩ rfl rfl
    · refine (bq_65_0 X _ _).trans ?_
      rw [vI_of ((bq_165_0 X _ σ).trans (show _ = some (some (vI 0), σ) by
        rw [bq_165_9]
        by_cases z : x < 0
        · rw [if_pos z]
        · rw [if_neg z, if_neg (by omega)])) rfl, bsome]
      dsimp +instances only
      rw [if_pos okZ0]
    · refine (bq_66_0 X _ _).trans ?_
      rw [g_in, bsome]
      dsimp +instances only
      rw [if_neg hx, if_neg (by decide)]
theorem q_restore (h : Rel X σ) (x : Int) : Qc X 67 68 [vI x] σ := by
  obtain ⟨T, l, F, R, hN, hU, hH, hB, hP, hpl, hW⟩ := id h
  by_cases hx : 0 ≤ x ∧ x ≤ 2
  · obtain ⟨s, rfl, hs⟩ := nat_of (n := 3) (show 0 ≤ x ∧ x < ((3 : Nat) : Int) by omega)
    have k := hH.2 s hs
    have eb : am_and (am_shr (σ 60 4) (s : Int)) 1 = σ 143 s := k.2.1
    have ep : w32 ((s : Int) * 46) = ((46 * s : Nat) : Int) := by unfold w32; omega
    by_cases z : σ 143 s = 0
    · refine Qc.same h ⟨0, ?_, ?_⟩ rfl rfl
      · refine (bq_67_0 X _ _).trans ?_
        rw [vI_of ((bq_166_0 X _ σ).trans (by rw [if_neg (by omega), if_neg (by omega), eb, if_neg (fun q => q z), bq_166_20])) rfl, bsome]
        dsimp +instances only
        rw [if_pos okZ0]
      · refine (bq_68_0 X _ _).trans ?_
        rw [g_in, bsome]
        dsimp +instances only
        rw [if_pos hx, if_neg i10, if_pos (by omega), tn_nat, if_neg (fun q => q z), bq_68_18]
    · have z1 : σ 143 s = 1 := by
        rcases k.1 with y | y
        · exact absurd y z
        · exact y
      have kk := k.2.2 z1
      have c1 : vcI X 166 [vP 60, vI (s : Int), vP 49] σ = some (1, am_upd (am_row σ 50 (am_cp (σ 62) (σ 50) (46 * s) 0 46)) 60 3 0) := vI_of ((bq_166_0 X _ σ).trans (by
        rw [if_neg (by omega), if_neg (by omega), eb, if_pos z, ep, if_pos (by omega), tn_nat, bq_166_45])) rfl
      generalize hs1 : am_upd (am_row σ 50 (am_cp (σ 62) (σ 50) (46 * s) 0 46)) 60 3 0 = σ1 at c1
      have f1 : Fr [50, 60] [] σ σ1 := by
        rw [← hs1]
        exact (Fr.rf.row rfl (by decide)).upd rfl (by decide)
      have L := cpl0 (fun i st => vv X 68 22 [some (vP 80), some (vI (s : Int)), some (vI (i : Int))] [] st) 127 0 60 0 (fun i => σ 144 (60 * s + i)) σ1 (by omega) (fun i hi r => by
        show vv X 68 22 [some (vP 80), some (vI (s : Int)), some (vI (i : Int))] [] _ = _
        rw [bq_68_22, if_neg (by omega), ix60 (show s < 30 by omega) hi, if_pos (by omega), if_pos (by omega), w32_s1 (by omega), tn_nat, tn_nat, Nat.zero_add, rn _ (show ¬ (144 : Nat) = 127 by decide), f1.get 144 (by decide) rfl])
      generalize hr : (fun j => if 0 + 0 ≤ j ∧ j < 0 + 60 then σ 144 (60 * s + (j - 0)) else σ1 127 j) = r at L
      have f2 : Fr [127] [67] σ1 (am_upd (am_row σ1 127 r) 80 67 0) := (Fr.rf.row rfl (by decide)).upf rfl
      have fA : Fr [50, 60, 127] [67] σ (am_upd (am_row σ1 127 r) 80 67 0) := (f1.mono rfl rfl).tr (f2.mono rfl rfl)
      have s127 : rs ((am_upd (am_row σ1 127 r) 80 67 0) 127) = rs (fun j => σ 144 (60 * s + j)) := by
        refine rs_ext fun j hj => ?_
        rw [un _ (by decide), re, ← hr]
        dsimp +instances only
        rw [if_pos (by omega), Nat.sub_zero]
      have e60 : ∀ j, ¬ j = 3 → (am_upd (am_row σ1 127 r) 80 67 0) 60 j = σ 60 j := fun j hj => by
        rw [f2.get 60 (by decide) rfl, ← hs1]
        simp [ua, ra, hj]
      refine ⟨1, σ1, am_upd (am_row σ1 127 r) 80 67 0, vI_of ((bq_67_0 X _ σ).trans (by rw [c1, bsome]; dsimp +instances only; rw [if_pos okZ1])) rfl, vI_of ((bq_68_0 X _ σ1).trans ?_) rfl, T, l, F, R.fr fA rfl rfl rfl, ?_, ?_, ?_, hB.fr fA rfl rfl, hP.fr fA rfl rfl, ?_, hW.fr fA rfl rfl⟩
      · rw [g_in, bsome]
        dsimp +instances only
        rw [if_pos hx, if_neg i10, if_pos (by omega), tn_nat, f1.get 143 (by decide) rfl, if_pos z]
        refine Eq.trans L ?_
        show vv X 68 22 [some (vP 80), some (vI (s : Int)), some (vI 60)] [] _ = _
        rw [bq_68_22, if_pos (by omega)]
      · refine ⟨?_, ?_⟩
        · rw [s127, f2.get 50 (by decide) rfl, ← kk.1]
          refine rs_ext fun j hj => ?_
          rw [← hs1, un _ (by decide), re]
          unfold am_cp
          rw [if_pos (by omega), Nat.sub_zero]
        · rw [s127]
          exact kk.2
      · obtain ⟨u, f, Hc, hUc, hUm, hHc⟩ := hU
        refine ⟨0, f, Hc, ⟨⟨by omega, hUc.1.2⟩, ⟨?_, ?_⟩, fun i j hi => absurd hi (Nat.not_lt_zero i)⟩, ⟨?_, fun i j hi => absurd hi (Nat.not_lt_zero i)⟩, fun i hi => absurd hi (Nat.not_lt_zero i)⟩
        · rw [f2.get 60 (by decide) rfl, ← hs1]
          simp [ua]
        · rw [e60 2 (by decide)]
          exact hUc.2.1.2
        · simp [ua]
      · unfold RH
        rw [e60 4 (by decide), fA.get 62 (by decide) rfl, fA.get 143 (by decide) rfl, fA.get 144 (by decide) rfl]
        exact hH
      · rw [fA.get 47 (by decide) rfl, fA.fld 17 rfl]
        exact hpl
  · refine Qc.same h ⟨0, ?_, ?_⟩ rfl rfl
    · refine (bq_67_0 X _ _).trans ?_
      rw [vI_of ((bq_166_0 X _ σ).trans (show _ = some (some (vI 0), σ) by
        rw [bq_166_20]
        by_cases z : x < 0
        · rw [if_pos z]
        · rw [if_neg z, if_pos (by omega)])) rfl, bsome]
      dsimp +instances only
      rw [if_pos okZ0]
    · refine (bq_68_0 X _ _).trans ?_
      rw [g_in, bsome]
      dsimp +instances only
      rw [if_neg hx, if_pos rfl, bq_68_18]
theorem q_gained (h : Rel X σ) (x : Int) : Qc X 53 54 [vI x] σ := by
  obtain ⟨T, l, F, R, hN, -⟩ := id h
  refine Qc.same h ?_ rfl rfl
  show ∃ v, vv X 53 0 [some (vP 0), some (vI x)] [] σ = some (some (vI v), σ) ∧ vv X 54 0 [some (vP 80), some (vI x)] [] σ = some (some (vI v), σ)
  rw [bq_53_0, bq_54_0, g_gateC, g_gateM, bsome, bsome]
  dsimp +instances only
  by_cases hg : 0 ≤ x ∧ x ≤ 1
  · obtain ⟨g, rfl, hg'⟩ := nat_of (n := 2) (show 0 ≤ x ∧ x < ((2 : Nat) : Int) by omega)
    rw [if_pos hg, if_neg i10, if_neg i10, g_gainA hg', bsome, bq_53_19, show w32 (40 + (g : Int)) = ((40 + g : Nat) : Int) from w_ix (c := 40) (by omega), if_pos (by omega), tn_nat, bq_54_20, hN.at (by omega)]
    exact ⟨_, rfl, rfl⟩
  · rw [if_neg hg, if_pos rfl, if_pos rfl, bq_53_19, bq_54_20]
    exact ⟨_, rfl, rfl⟩
theorem m_netOf (K : TM σ T l) (x : Int) : vcI X 155 [vP 80, vI x] σ = some (netS σ l x (nE T), σ) := by
  have l1 := K.l1
  have e20 := K.e20
  refine vI_of ((bq_155_0 X _ σ).trans ?_) rfl
  obtain ⟨v, e, hv⟩ := lp (fun i (v : Int) => vv X 155 4 [some (vP 80), some (vI x), some (vI v), some (vI (i : Int))] [] σ) (nE T) (fun i v => v = netS σ l x i) (fun i v hi hv => by
    refine ⟨netS σ l x (i + 1), ?_, rfl⟩
    show vv X 155 4 [some (vP 80), some (vI x), some (vI v), some (vI (i : Int))] [] σ = vv X 155 4 [some (vP 80), some (vI x), some (vI (netS σ l x (i + 1))), some (vI ((i + 1 : Nat) : Int))] [] σ
    have fin : ∀ w, vv X 155 52 [some (vP 80), some (vI x), some (vI w), some (vI (i : Int))] [] σ = vv X 155 4 [some (vP 80), some (vI x), some (vI (if σ 119 (20 * l + i) = x then w32 (w - σ 121 (20 * l + i)) else w)), some (vI ((i + 1 : Nat) : Int))] [] σ := by
      intro w
      rw [bq_155_52, K.l0, ix20 l1 (by omega), if_pos (by omega), tn_nat]
      by_cases z : σ 119 (20 * l + i) = x
      · rw [if_neg (fun q => q z), if_pos z, bq_155_87, w32_s1 (by omega)]
      · rw [if_pos z, if_neg z, bq_155_87, w32_s1 (by omega)]
    rw [bq_155_4, K.l0, if_pos (by omega), tn_nat, K.ne, K.e0, if_neg (by omega), ix20 l1 (by omega), if_pos (by omega), tn_nat, hv]
    show _ = vv X 155 4 [some (vP 80), some (vI x), some (vI (if σ 119 (20 * l + i) = x then w32 ((if σ 120 (20 * l + i) = x then w32 (netS σ l x i + σ 121 (20 * l + i)) else netS σ l x i) - σ 121 (20 * l + i)) else (if σ 120 (20 * l + i) = x then w32 (netS σ l x i + σ 121 (20 * l + i)) else netS σ l x i))), some (vI ((i + 1 : Nat) : Int))] [] σ
    by_cases z : σ 120 (20 * l + i) = x
    · rw [if_neg (fun q => q z), fin, if_pos z]
    · rw [if_pos z, fin, if_neg z]) (nE T) 0 0 (by omega) rfl
  refine Eq.trans e ?_
  show vv X 155 4 [some (vP 80), some (vI x), some (vI v), some (vI (nE T : Int))] [] σ = _
  rw [bq_155_4, K.l0, if_pos (by omega), tn_nat, K.ne, K.e0, if_pos (Int.le_refl _), hv]
theorem q_net (h : Rel X σ) (x : Int) : Qc X 49 50 [vI x] σ := by
  obtain ⟨T, l, F, ⟨hT, H, K, -⟩, hN, -⟩ := id h
  have h8 := H.m8
  refine Qc.same h ?_ rfl rfl
  show ∃ v, vv X 49 0 [some (vP 0), some (vI x)] [] σ = some (some (vI v), σ) ∧ vv X 50 0 [some (vP 80), some (vI x)] [] σ = some (some (vI v), σ)
  rw [bq_49_0, bq_50_0, c_isMan H hT, m_isMan H K, bsome, bsome]
  dsimp +instances only
  by_cases hm : 0 ≤ x ∧ x < (nM T : Int)
  · obtain ⟨m, rfl, hm'⟩ := nat_of hm
    rw [if_pos hm, if_neg i10, if_neg i10, if_pos (by omega), bq_49_23, m_netOf K, bsome, bq_50_19, tn_nat, tl_at hT (k := 20) (by omega), K.ni m hm']
    exact ⟨_, rfl, rfl⟩
  · rw [if_neg hm, if_pos rfl, if_pos rfl, bq_49_23, bq_50_19]
    exact ⟨_, rfl, rfl⟩
theorem q_burn (h : Rel X σ) : Qc X 57 58 [] σ := by
  obtain ⟨T, l, F, R, hN, hU, hH, ⟨e, he, ⟨e1, e2⟩, hB⟩, hP, hpl, hW⟩ := id h
  have fA : Fr [75] [81] σ (am_upd (am_upd σ 75 8 0) 80 81 0) := (Fr.rf.upd rfl (by decide)).upf rfl
  refine ⟨σ 75 8, _, _, vI_of (bq_57_0 X σ) rfl, vI_of ((bq_58_0 X _).trans (by rw [un _ (show ¬ (80 : Nat) = 75 by decide), e2, ← e1])) rfl, T, l, F, R.fr fA rfl rfl rfl, hN.fr fA rfl, hU.fr fA rfl rfl, hH.fr fA rfl, ⟨0, by omega, ⟨by simp [ua], by simp [ua]⟩, fun i hi => absurd hi (Nat.not_lt_zero i)⟩, hP.fr fA rfl rfl, ?_, hW.fr fA rfl rfl⟩
  rw [fA.get 47 (by decide) rfl, fA.fld 17 rfl]
  exact hpl
theorem q_enter (h : Rel X σ) (x y z : Int) : Qc X 55 56 [vI x, vI y, vI z] σ := by
  obtain ⟨T, l, F, R, hN, hU, hH, ⟨n, hn, ⟨e1, e2⟩, hB⟩, hP, hpl, hW⟩ := id h
  obtain ⟨hT, H, K, -⟩ := id R
  have no : vv X 56 0 [some (vP 80), some (vI x), some (vI y), some (vI z)] [] σ = some (some (vI (-1)), σ) → vv X 55 0 [some (vP 0), some (vI x), some (vI y), some (vI z)] [] σ = some (some (vI (-1)), σ) → Qc X 55 56 [vI x, vI y, vI z] σ := fun h1 h2 => Qc.same h ⟨-1, h2, h1⟩ rfl rfl
  by_cases hm : 0 ≤ x ∧ x < (nM T : Int)
  · by_cases hg : 0 ≤ y ∧ y ≤ 1
    · obtain ⟨m, rfl, hm'⟩ := nat_of hm
      obtain ⟨g, rfl, hg'⟩ := nat_of (n := 2) (show 0 ≤ y ∧ y < ((2 : Nat) : Int) by omega)
      by_cases h30 : n = 30
      · subst h30
        refine no (by rw [bq_56_0, if_pos (by rw [e2]; rfl), bq_56_55]) ?_
        refine (bq_55_0 X _ _ _ _).trans ?_
        rw [c_isMan H hT, bsome]
        dsimp +instances only
        rw [if_pos hm, if_neg i10, g_gateC, bsome]
        dsimp +instances only
        rw [if_pos hg, if_neg i10]
        by_cases z0 : z < 0
        · rw [if_pos z0, bq_55_25]
        · rw [if_neg z0]
          by_cases z1 : z ≤ 23
          · rw [if_pos z1, vI_of ((bq_159_0 X _ _ _ σ).trans (by rw [if_pos (by rw [e1]; simp), bq_159_31])) rfl, bsome]
          · rw [if_neg z1, bq_55_25]
      · -- the hour at which the last one stands
        have eL : ∀ w : Int, (vv X 56 47 [some (vP 80), some (vI (m : Int)), some (vI (g : Int)), some (vI z)] [vI w, vI z] σ = if w ≤ z ∧ z ≤ 23 then some (some (vI (n : Int)), am_upd (am_upd (am_upd (am_upd σ 139 n (m : Int)) 140 n (g : Int)) 141 n z) 80 81 ((n + 1 : Nat) : Int)) else some (some (vI (-1)), σ)) := by
          intro w
          rw [bq_56_47, g_in, bsome]
          dsimp +instances only
          by_cases q : w ≤ z ∧ z ≤ 23
          · rw [if_pos q, if_pos i10, if_pos q, e2, if_pos (by omega), tn_nat, bq_56_77]
            simp only [un _ (show ¬ (80 : Nat) = 140 by decide), un _ (show ¬ (80 : Nat) = 139 by decide), e2]
            rw [if_pos (by omega), bq_56_97, tn_nat, w32_s1 (by omega), ua, if_pos rfl, if_pos rfl, show w32 (((n + 1 : Nat) : Int) - 1) = (n : Int) from by unfold w32; omega]
          · rw [if_neg q, if_neg (by decide), if_neg q, bq_56_55]
        have eC : vv X 159 33 [some (vP 75), some (vI (m : Int)), some (vI (g : Int)), some (vI z)] [] σ = some (some (vI (n : Int)), am_upd (am_upd (am_upd (am_upd σ 76 n (m : Int)) 77 n (g : Int)) 78 n z) 75 8 ((n + 1 : Nat) : Int)) := by
          rw [bq_159_33, e1, if_pos (by omega), tn_nat, bq_159_53]
          simp only [un _ (show ¬ (75 : Nat) = 77 by decide), un _ (show ¬ (75 : Nat) = 76 by decide), e1]
          rw [if_pos (by omega), bq_159_73, tn_nat, w32_s1 (by omega), ua, if_pos rfl, if_pos rfl, show w32 (((n + 1 : Nat) : Int) - 1) = (n : Int) from by unfold w32; omega]
        have cls : ∀ r, vcI X 159 [vP 75, vI (m : Int), vI (g : Int), vI z] σ = some r → vv X 55 0 [some (vP 0), some (vI (m : Int)), some (vI (g : Int)), some (vI z)] [] σ = if 0 ≤ z ∧ z ≤ 23 then some (some (vI r.1), r.2) else some (some (vI (-1)), σ) := by
          intro r hr
          refine (bq_55_0 X _ _ _ _).trans ?_
          rw [c_isMan H hT, bsome]
          dsimp +instances only
          rw [if_pos hm, if_neg i10, g_gateC, bsome]
          dsimp +instances only
          rw [if_pos hg, if_neg i10]
          by_cases z0 : z < 0
          · rw [if_pos z0, bq_55_25, if_neg (by omega)]
          · rw [if_neg z0]
            by_cases z1 : z ≤ 23
            · rw [if_pos z1, hr, bsome, if_pos (by omega)]
            · rw [if_neg z1, bq_55_25, if_neg (by omega)]
        have ref : ∀ s : am_Sg, TM s T l → s 80 81 = (n : Int) → vv X 56 0 [some (vP 80), some (vI (m : Int)), some (vI (g : Int)), some (vI z)] [] s = vv X 56 47 [some (vP 80), some (vI (m : Int)), some (vI (g : Int)), some (vI z)] [vI (if n = 0 then 0 else s 141 (n - 1)), vI z] s := by
          intro s Ks es
          refine (bq_56_0 X _ _ _ _).trans ?_
          rw [es, if_neg (by omega), m_isMan H Ks, bsome]
          dsimp +instances only
          rw [if_pos hm, if_neg i10, g_gateM, bsome]
          dsimp +instances only
          rw [if_pos hg, if_neg i10, es]
          by_cases z0 : n = 0
          · subst z0
            rw [if_neg (by simp), if_pos rfl]
          · rw [if_pos (by omega), show w32 ((n : Int) - 1) = ((n - 1 : Nat) : Int) from by unfold w32; omega, if_pos (by omega), if_neg z0, tn_nat]
        by_cases q : (if n = 0 then 0 else σ 141 (n - 1)) ≤ z ∧ z ≤ 23
        · -- it is written
          have q0 : 0 ≤ z := by
            by_cases z0 : n = 0
            · rw [if_pos z0] at q
              exact q.1
            · rw [if_neg z0] at q
              have := (hB (n - 1) (by omega)).2.2.2.1
              omega
          have cw : vcI X 159 [vP 75, vI (m : Int), vI (g : Int), vI z] σ = some ((n : Int), am_upd (am_upd (am_upd (am_upd σ 76 n (m : Int)) 77 n (g : Int)) 78 n z) 75 8 ((n + 1 : Nat) : Int)) := by
            refine vI_of ((bq_159_0 X _ _ _ σ).trans ?_) rfl
            rw [e1, if_neg (by omega)]
            by_cases z0 : n = 0
            · rw [if_pos (by omega), eC]
            · rw [if_neg (by omega), show w32 ((n : Int) - 1) = ((n - 1 : Nat) : Int) from by unfold w32; omega, if_pos (by omega), tn_nat]
              rw [if_neg z0] at q
              rw [if_pos (by rw [(hB (n - 1) (by omega)).1.2.2]; exact q.1), eC]
          generalize hs1 : am_upd (am_upd (am_upd (am_upd σ 76 n (m : Int)) 77 n (g : Int)) 78 n z) 75 8 ((n + 1 : Nat) : Int) = σ1 at cw
          have f1 : Fr [75, 76, 77, 78] [] σ σ1 := by
            rw [← hs1]
            exact (((Fr.rf.upd rfl (by decide)).upd rfl (by decide)).upd rfl (by decide)).upd rfl (by decide)
          have K1 := K.fr f1 rfl
          have e21 : σ1 80 81 = (n : Int) := (f1.fld 81 rfl).trans e2
          have eL1 : vv X 56 47 [some (vP 80), some (vI (m : Int)), some (vI (g : Int)), some (vI z)] [vI (if n = 0 then 0 else σ1 141 (n - 1)), vI z] σ1 = some (some (vI (n : Int)), am_upd (am_upd (am_upd (am_upd σ1 139 n (m : Int)) 140 n (g : Int)) 141 n z) 80 81 ((n + 1 : Nat) : Int)) := by
            rw [f1.get 141 (by decide) rfl, bq_56_47, g_in, bsome]
            dsimp +instances only
            rw [if_pos q, if_pos i10, e21, if_pos (by omega), tn_nat, bq_56_77]
            simp only [un _ (show ¬ (80 : Nat) = 140 by decide), un _ (show ¬ (80 : Nat) = 139 by decide), e21]
            rw [if_pos (by omega), bq_56_97, tn_nat, w32_s1 (by omega), ua, if_pos rfl, if_pos rfl, show w32 (((n + 1 : Nat) : Int) - 1) = (n : Int) from by unfold w32; omega]
          generalize hs2 : am_upd (am_upd (am_upd (am_upd σ1 139 n (m : Int)) 140 n (g : Int)) 141 n z) 80 81 ((n + 1 : Nat) : Int) = σ2 at eL1
          have f2 : Fr [139, 140, 141] [81] σ1 σ2 := by
            rw [← hs2]
            exact (((Fr.rf.upd rfl (by decide)).upd rfl (by decide)).upd rfl (by decide)).upf rfl
          have fA : Fr [75, 76, 77, 78, 139, 140, 141] [81] σ σ2 := (f1.mono rfl rfl).tr (f2.mono rfl rfl)
          refine Qc.of ((cls _ cw).trans (if_pos ⟨q0, q.2⟩)) ((ref σ1 K1 e21).trans eL1) ⟨T, l, F, R.fr fA rfl rfl rfl, hN.fr fA rfl, hU.fr fA rfl rfl, hH.fr fA rfl, ⟨n + 1, by omega, ⟨?_, ?_⟩, fun i hi => ?_⟩, hP.fr fA rfl rfl, ?_, hW.fr fA rfl rfl⟩ rfl rfl
          · rw [f2.get 75 (by decide) rfl, ← hs1]
            simp [ua]
          · rw [← hs2]
            simp [ua]
          · have g76 : σ2 76 i = if i = n then (m : Int) else σ 76 i := by rw [f2.get 76 (by decide) rfl, ← hs1]; simp [ua]
            have g77 : σ2 77 i = if i = n then (g : Int) else σ 77 i := by rw [f2.get 77 (by decide) rfl, ← hs1]; simp [ua]
            have g78 : σ2 78 i = if i = n then z else σ 78 i := by rw [f2.get 78 (by decide) rfl, ← hs1]; simp [ua]
            have g139 : σ2 139 i = if i = n then (m : Int) else σ 139 i := by rw [← hs2]; simp [ua, f1.get 139 (by decide) rfl]
            have g140 : σ2 140 i = if i = n then (g : Int) else σ 140 i := by rw [← hs2]; simp [ua, f1.get 140 (by decide) rfl]
            have g141 : σ2 141 i = if i = n then z else σ 141 i := by rw [← hs2]; simp [ua, f1.get 141 (by decide) rfl]
            rw [g76, g77, g78, g139, g140, g141]
            by_cases y : i = n
            · simp only [y, if_true]
              refine ⟨⟨trivial, trivial, trivial⟩, ⟨by omega, by omega⟩, ⟨by omega, by omega⟩, q0, by omega⟩
            · simp only [y, if_false]
              exact hB i (by omega)
          · rw [fA.get 47 (by decide) rfl, fA.fld 17 rfl]
            exact hpl
        · -- it is not
          refine no ((ref σ K e2).trans ((eL _).trans (if_neg q))) ?_
          by_cases y : 0 ≤ z ∧ z ≤ 23
          · have cw : vcI X 159 [vP 75, vI (m : Int), vI (g : Int), vI z] σ = some (-1, σ) := by
              refine vI_of ((bq_159_0 X _ _ _ σ).trans ?_) rfl
              rw [e1, if_neg (by omega)]
              by_cases z0 : n = 0
              · rw [if_pos z0] at q
                exact absurd y q
              · rw [if_neg z0] at q
                rw [if_neg (by omega), show w32 ((n : Int) - 1) = ((n - 1 : Nat) : Int) from by unfold w32; omega, if_pos (by omega), tn_nat, if_neg (by rw [(hB (n - 1) (by omega)).1.2.2]; omega), bq_159_31]
            exact (cls _ cw).trans (if_pos y)
          · refine (bq_55_0 X _ _ _ _).trans ?_
            rw [c_isMan H hT, bsome]
            dsimp +instances only
            rw [if_pos hm, if_neg i10, g_gateC, bsome]
            dsimp +instances only
            rw [if_pos hg, if_neg i10, bq_55_25]
            by_cases z0 : z < 0
            · rw [if_pos z0]
            · rw [if_neg z0, if_neg (by omega)]
    · refine no ?_ ?_
      · refine (bq_56_0 X _ _ _ _).trans ?_
        rw [m_isMan H K, bsome, bq_56_55]
        dsimp +instances only
        rw [if_pos hm, if_neg i10, g_gateM, bsome]
        dsimp +instances only
        rw [if_neg hg, if_pos rfl, bq_56_55]
        split <;> rfl
      · refine (bq_55_0 X _ _ _ _).trans ?_
        rw [c_isMan H hT, bsome]
        dsimp +instances only
        rw [if_pos hm, if_neg i10, g_gateC, bsome]
        dsimp +instances only
        rw [if_neg hg, if_pos rfl, bq_55_25]
  · refine no ?_ ?_
    · refine (bq_56_0 X _ _ _ _).trans ?_
      rw [m_isMan H K, bsome, bq_56_55]
      dsimp +instances only
      rw [if_neg hm, if_pos rfl]
      split <;> rfl
    · refine (bq_55_0 X _ _ _ _).trans ?_
      rw [c_isMan H hT, bsome]
      dsimp +instances only
      rw [if_neg hm, if_pos rfl, bq_55_25]
end QU
