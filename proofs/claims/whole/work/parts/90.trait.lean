/-! READ: a man's traits, all of them -/
section PI
variable {X N : Nat} {σ τ σ' τ' : am_Sg} {t sd : Nat}
theorem dn_of {r : Int} {n : Nat} (h : -1 ≤ r) (h' : r < (n : Int)) (z : ¬ r < 0) (hn : n ≤ 4) : ∃ d : Nat, r = (d : Int) ∧ d < 4 := ⟨r.toNat, by omega, by omega⟩
theorem nn_of {r : Int} (h : ¬ r < 0) : 0 ≤ r := by omega
theorem neg_of {r : Int} (h : ¬ 0 ≤ r) : r < 0 := by omega
theorem ne4 {m c d e : Nat} (h : ¬ m = c) (hd : d < 4) (he : e < 4) : ¬ 4 * m + d = 4 * c + e := by omega
theorem ne4' {m c d e : Nat} (h : ¬ m = c) (hd : d < 4) (he : e < 4) : ¬ 4 * (8 * sd + m) + d = 4 * (8 * sd + c) + e := by omega
theorem wr102 {c d : Nat} (h1 : sd ≤ 1) (hc : c < 8) (hd : d < 4) : 32 * sd ≤ 4 * (8 * sd + c) + d ∧ 4 * (8 * sd + c) + d < 32 * sd + 32 := by omega
theorem wrd {w k j : Nat} (h : wd k = w) (hj : w * sd ≤ j ∧ j < w * sd + w) : wd k * sd ≤ j ∧ j < wd k * sd + wd k := by rw [h]; exact hj
theorem t_hates (X : Nat) {c n : Nat} (h : PS N σ τ) (f : NF N σ τ t) (h1 : sd ≤ 1) (hc : c < 8) (e : σ 4 t = 262) (hn : n ≤ 18) (h20 : τ 80 20 = (n : Int)) (hC : CB σ 0) (hB : NBs σ τ n 0) (hU : ok0 σ → UN σ 0) : Tx X N sd c σ τ := by
  have e83 : τ 83 t = 29 := (kr_hates _ _ (h.1.2.1 t f.1).2.1).mp e
  have t4 := PS.t400 h.1 f
  have tr : (0 : Int) ≤ (t : Int) ∧ (t : Int) < 403 := by omega
  have e5 : σ 47 5 = 262 := f.2.2.2.1.trans e
  have t11 := f.2.2.1.2
  have cr : (0 : Int) ≤ (c : Int) ∧ (c : Int) < 8 := by omega
  have cn0 : ¬ (c : Int) < 0 := by omega
  have c4 : cn σ 0 ≤ 4 := hC.2
  obtain ⟨b, σ1, τ1, a1, a2, a3, a4, -⟩ := l_go X h f e (by decide) (by decide)
  have g28 : σ1 28 = σ 28 := a3.2.1.1.get 28 (by decide) rfl
  have g29 : σ1 29 = σ 29 := a3.2.1.1.get 29 (by decide) rfl
  have gm1 := a3.2.1.2
  have ec : cn σ1 0 = cn σ 0 := cn_ag g28 0
  obtain ⟨r, r', σ2, τ2, b1, b2, b3, b4, b5, -⟩ := l_told0 X a3.1 hn ((gm1.fld 20 rfl).trans h20) (hC.ag g28) (hB.ag g28 g29 (gm1.get 88 (by decide) rfl) (gm1.get 89 (by decide) rfl) (gm1.get 90 (by decide) rfl)) (fun z => (hU (a3.cx.2.2.1 z)).ag g28 g29)
  rw [ec] at b4
  have cx : Cx σ σ2 := a3.cx.tr b3.cx
  have gm' : Fr [] [11, 13, 14, 15, 16] τ τ2 := a3.2.1.2.tr b3.2.1.2
  have tf2 : TFr c sd σ τ σ2 τ2 := TFr.sm cx.1 gm'
  have mono : ∀ σ3 : am_Sg, σ3 47 = σ2 47 → σ3 47 6 = 0 → σ 47 4 < σ3 47 4 := fun σ3 e3 z => by
    rw [e3] at z ⊢
    exact Int.lt_of_lt_of_le (a4 (b3.cx.z0 z)).1 (b3.cx.2.2.2 z)
  -- the class
  have headC : ∀ σ3, vcV X 272 [vP 27, vI (c : Int), vI r] σ2 = some σ3 → vcV X 237 [vP 47, vI (c : Int)] σ = some σ3 := fun σ3 e3 => by
    refine vV_of ((bq_237_0 X _ σ).trans ?_) rfl
    rw [if_pos (by rw [e5]; decide), if_neg (fun q => q e5), a1, bsome]
    dsimp +instances only
    rw [b1, bsome]
    dsimp +instances only
    rw [e3, bsome, bq_237_109]
  have headM : ∀ τ3, vv X 253 86 [some (vP 80), some (vI ((8 * sd + c : Nat) : Int)), some (vI 29), some (vI r'), none] [vI 0] τ2 = some (none, τ3) → vcV X 253 [vP 80, vI ((8 * sd + c : Nat) : Int)] τ = some τ3 := fun τ3 e3 => by
    refine vV_of ((bq_253_0 X _ τ).trans ?_) rfl
    rw [t11, if_pos tr, tn_nat, e83, a2, bsome, if_pos (by decide), b2, bsome]
    dsimp +instances only
    rw [if_pos (by decide)]
    exact e3
  by_cases z6 : ok0 σ2
  · obtain ⟨p0, p1⟩ := b5 z6
    obtain ⟨d, hd, d4⟩ := dn_of b4.1.1 b4.1.2 (Int.not_lt.mpr p0) c4
    have hr' : r' = (d : Int) := p1.trans hd
    subst hd
    rw [hr'] at headM
    obtain ⟨k1, k2⟩ := kk64 (sd := sd) h1 hc d4
    have h13 : ¬ 0 < τ2 80 13 := by
      obtain ⟨t2, nf⟩ := b3.1.nf z6.1
      rw [nf.2.1.2]
      decide
    have tf3 : TFr c sd σ2 τ2 (am_upd σ2 37 c (am_or (σ2 37 c) (am_shl 1 (d : Int)))) (am_upd τ2 102 (4 * (8 * sd + c) + d) 1) := by
      refine ⟨⟨Fr.rf.upd rfl (by decide), Fr.rf.upd rfl (by decide)⟩, fun j hj => ⟨?_, ?_, ?_, ?_⟩, fun m i hm hi => ⟨?_, ?_, ?_⟩, MG.rf.upd rfl (Or.inr (Or.inr (wrd (w := 32) (by decide) (wr102 h1 hc d4))))⟩
      · rw [ue, upa, if_neg hj]
      · rw [un _ (show ¬ (38 : Nat) = 37 by decide)]
      · rw [un _ (show ¬ (100 : Nat) = 102 by decide)]
      · rw [un _ (show ¬ (101 : Nat) = 102 by decide)]
      · rw [un _ (show ¬ (39 : Nat) = 37 by decide)]
      · rw [ue, upa, if_neg (ne4' hm hi d4)]
      · rw [un _ (show ¬ (103 : Nat) = 102 by decide)]
    refine ⟨am_upd σ2 37 c (am_or (σ2 37 c) (am_shl 1 (d : Int))), am_upd τ2 102 (4 * (8 * sd + c) + d) 1, headC _ ?_, headM _ ?_, (b3.1.updc (by decide) (by omega)).updm (by decide) (by omega), tf2.tr tf3, fun _ => ⟨cx.2.2.1 z6, fun hm => ?_⟩, mono _ (un _ (by decide))⟩
    · refine vV_of ((bq_272_0 X _ _ σ2).trans ?_) rfl
      rw [if_neg cn0, if_neg (Int.not_lt.mpr p0), if_pos cr, tn_nat, bq_272_20]
    · rw [bq_253_86, if_neg h13, if_pos p0, if_pos (by decide), k1, if_pos ⟨k2.1, k2.2, rfl⟩, tn_nat, bq_253_132]
    · have fc := cx.1
      obtain ⟨o1, o2⟩ := orb hm.2.2.1.1 hm.2.2.1.2 d4
      have e37 : σ2 37 c = σ 37 c := by rw [fc.get 37 (by decide) rfl]
      unfold Me1
      rw [un _ (show ¬ (33 : Nat) = 37 by decide), un _ (show ¬ (34 : Nat) = 37 by decide), un _ (show ¬ (35 : Nat) = 37 by decide), un _ (show ¬ (36 : Nat) = 37 by decide), un _ (show ¬ (38 : Nat) = 37 by decide), un _ (show ¬ (39 : Nat) = 37 by decide), fc.get 33 (by decide) rfl, fc.get 34 (by decide) rfl, fc.get 35 (by decide) rfl, fc.get 36 (by decide) rfl, fc.get 38 (by decide) rfl, fc.get 39 (by decide) rfl, un _ (show ¬ (96 : Nat) = 102 by decide), un _ (show ¬ (97 : Nat) = 102 by decide), un _ (show ¬ (98 : Nat) = 102 by decide), un _ (show ¬ (99 : Nat) = 102 by decide), un _ (show ¬ (100 : Nat) = 102 by decide), un _ (show ¬ (101 : Nat) = 102 by decide), un _ (show ¬ (103 : Nat) = 102 by decide), gm'.get 96 (by decide) rfl, gm'.get 97 (by decide) rfl, gm'.get 98 (by decide) rfl, gm'.get 99 (by decide) rfl, gm'.get 100 (by decide) rfl, gm'.get 101 (by decide) rfl, gm'.get 103 (by decide) rfl, ue, ue, upe, e37, gm'.get 102 (by decide) rfl]
      refine ⟨hm.1, hm.2.1, o1, hm.2.2.2.1, fun i hi => ?_⟩
      obtain ⟨q1, q2, q3⟩ := hm.2.2.2.2 i hi
      rw [o2 i hi, upa]
      by_cases w : i = d
      · subst w
        rw [if_pos rfl, if_pos rfl]
        exact ⟨Or.inr rfl, rfl, q3⟩
      · rw [if_neg w, if_neg (fun q => w (Nat.add_left_cancel q))]
        exact ⟨q1, q2, q3⟩
  · -- a fault or a slip: only that it ends
    have key : ∃ σ3, vcV X 272 [vP 27, vI (c : Int), vI r] σ2 = some σ3 ∧ TFr c sd σ2 τ2 σ3 τ2 ∧ PS N σ3 τ2 ∧ σ3 47 = σ2 47 := by
      by_cases y : r < 0
      · exact ⟨σ2, vV_of ((bq_272_0 X _ _ σ2).trans (by rw [if_neg cn0, if_pos y, bq_272_20])) rfl, TFr.sm Fr.rf Fr.rf, b3.1, rfl⟩
      · refine ⟨am_upd σ2 37 c (am_or (σ2 37 c) (am_shl 1 r)), vV_of ((bq_272_0 X _ _ σ2).trans (by rw [if_neg cn0, if_neg y, if_pos cr, tn_nat, bq_272_20])) rfl, ⟨⟨Fr.rf.upd rfl (by decide), Fr.rf⟩, fun j hj => ⟨?_, ?_, rfl, rfl⟩, fun m d _ _ => ⟨?_, rfl, rfl⟩, MG.rf⟩, b3.1.updc (by decide) (by omega), un _ (by decide)⟩
        · rw [ue, upa, if_neg hj]
        · rw [un _ (show ¬ (38 : Nat) = 37 by decide)]
        · rw [un _ (show ¬ (39 : Nat) = 37 by decide)]
    obtain ⟨σ3, v1, v2, v3, v4⟩ := key
    have key2 : ∃ τ3, vv X 253 86 [some (vP 80), some (vI ((8 * sd + c : Nat) : Int)), some (vI 29), some (vI r'), none] [vI 0] τ2 = some (none, τ3) ∧ TFr c sd σ3 τ2 σ3 τ3 ∧ PS N σ3 τ3 := by
      by_cases w : 0 < τ2 80 13
      · exact ⟨τ2, by rw [bq_253_86, if_pos w, bq_253_99], TFr.sm Fr.rf Fr.rf, v3⟩
      · by_cases y : 0 ≤ r'
        · obtain ⟨d, hd, d4⟩ := dn_of b4.2.1 b4.2.2 (Int.not_lt.mpr y) c4
          rw [hd]
          rw [hd] at y
          obtain ⟨k1, k2⟩ := kk64 (sd := sd) h1 hc d4
          refine ⟨am_upd τ2 102 (4 * (8 * sd + c) + d) 1, ?_, ⟨⟨Fr.rf, Fr.rf.upd rfl (by decide)⟩, fun j hj => ⟨rfl, rfl, ?_, ?_⟩, fun m i hm hi => ⟨rfl, ?_, ?_⟩, MG.rf.upd rfl (Or.inr (Or.inr (wrd (w := 32) (by decide) (wr102 h1 hc d4))))⟩, v3.updm (by decide) (by omega)⟩
          · rw [bq_253_86, if_neg w, if_pos y, if_pos (by decide), k1, if_pos ⟨k2.1, k2.2, rfl⟩, tn_nat, bq_253_132]
          · rw [un _ (show ¬ (100 : Nat) = 102 by decide)]
          · rw [un _ (show ¬ (101 : Nat) = 102 by decide)]
          · rw [ue, upa, if_neg (ne4' hm hi d4)]
          · rw [un _ (show ¬ (103 : Nat) = 102 by decide)]
        · exact ⟨τ2, by rw [bq_253_86, if_neg w, if_neg y, bq_253_99], TFr.sm Fr.rf Fr.rf, v3⟩
    obtain ⟨τ3, w1, w2, w3⟩ := key2
    refine ⟨σ3, τ3, headC _ v1, headM _ w1, w3, (tf2.tr v2).tr w2, fun z => ?_, mono _ v4⟩
    unfold ok0 at z z6
    rw [v4] at z
    exact absurd z z6
theorem t_ill (X : Nat) {c n : Nat} (h : PS N σ τ) (f : NF N σ τ t) (h1 : sd ≤ 1) (hc : c < 8) (e : σ 4 t = 263) (hn : n ≤ 18) (h20 : τ 80 20 = (n : Int)) (hC : CB σ 0) (hB : NBs σ τ n 0) (hU : ok0 σ → UN σ 0) : Tx X N sd c σ τ := by
  have e83 : τ 83 t = 30 := (kr_ill _ _ (h.1.2.1 t f.1).2.1).mp e
  have t4 := PS.t400 h.1 f
  have tr : (0 : Int) ≤ (t : Int) ∧ (t : Int) < 403 := by omega
  have e5 : σ 47 5 = 263 := f.2.2.2.1.trans e
  have t11 := f.2.2.1.2
  have cr : (0 : Int) ≤ (c : Int) ∧ (c : Int) < 8 := by omega
  have cn0 : ¬ (c : Int) < 0 := by omega
  have c4 : cn σ 0 ≤ 4 := hC.2
  obtain ⟨b, σ1, τ1, a1, a2, a3, a4, -⟩ := l_go X h f e (by decide) (by decide)
  have g28 : σ1 28 = σ 28 := a3.2.1.1.get 28 (by decide) rfl
  have g29 : σ1 29 = σ 29 := a3.2.1.1.get 29 (by decide) rfl
  have gm1 := a3.2.1.2
  have ec : cn σ1 0 = cn σ 0 := cn_ag g28 0
  obtain ⟨r, r', σ2, τ2, b1, b2, b3, b4, b5, -⟩ := l_told0 X a3.1 hn ((gm1.fld 20 rfl).trans h20) (hC.ag g28) (hB.ag g28 g29 (gm1.get 88 (by decide) rfl) (gm1.get 89 (by decide) rfl) (gm1.get 90 (by decide) rfl)) (fun z => (hU (a3.cx.2.2.1 z)).ag g28 g29)
  rw [ec] at b4
  obtain ⟨v, w, σ3, τ3, d1, d2, d3, d4', d5, d6⟩ := l_num X (a := 1) (b := 6) (a' := 1) (b' := 6) b3.1 (by decide) (by decide) (fun _ => ⟨rfl, rfl⟩)
  have cx : Cx σ σ3 := a3.cx.tr (b3.cx.tr d3.cx)
  have gm' : Fr [] [11, 13, 14, 15, 16] τ τ3 := a3.2.1.2.tr (b3.2.1.2.tr d3.2.1.2)
  have tf2 : TFr c sd σ τ σ3 τ3 := TFr.sm cx.1 gm'
  have cx2 : Cx σ1 σ3 := b3.cx.tr d3.cx
  have mono : ∀ σ4 : am_Sg, σ4 47 = σ3 47 → σ4 47 6 = 0 → σ 47 4 < σ4 47 4 := fun σ4 e3 z => by
    rw [e3] at z ⊢
    exact Int.lt_of_lt_of_le (a4 (cx2.z0 z)).1 (cx2.2.2.2 z)
  have headC : ∀ σ4, vcV X 273 [vP 27, vI (c : Int), vI r, vI v] σ3 = some σ4 → vcV X 237 [vP 47, vI (c : Int)] σ = some σ4 := fun σ4 e3 => by
    refine vV_of ((bq_237_0 X _ σ).trans ?_) rfl
    rw [if_pos (by rw [e5]; decide), if_pos (by rw [e5]; decide), a1, bsome]
    dsimp +instances only
    rw [b1, bsome]
    dsimp +instances only
    rw [d1, bsome]
    dsimp +instances only
    rw [e3, bsome, bq_237_109]
  have headM : ∀ τ4, vv X 253 86 [some (vP 80), some (vI ((8 * sd + c : Nat) : Int)), some (vI 30), some (vI r'), none] [vI w] τ3 = some (none, τ4) → vcV X 253 [vP 80, vI ((8 * sd + c : Nat) : Int)] τ = some τ4 := fun τ4 e3 => by
    refine vV_of ((bq_253_0 X _ τ).trans ?_) rfl
    rw [t11, if_pos tr, tn_nat, e83, a2, bsome, if_pos (by decide), b2, bsome]
    dsimp +instances only
    rw [if_neg (fun q => q rfl), d2, bsome]
    exact e3
  by_cases z6 : ok0 σ3
  · obtain ⟨p0, p1⟩ := b5 (d3.cx.2.2.1 z6)
    obtain ⟨d, hd, d4⟩ := dn_of b4.1.1 b4.1.2 (Int.not_lt.mpr p0) c4
    have hr' : r' = (d : Int) := p1.trans hd
    have wv : w = v := d6 z6
    subst hd
    rw [hr'] at headM
    obtain ⟨k1, k2⟩ := kk64 (sd := sd) h1 hc d4
    obtain ⟨j1, j2⟩ := kk32 (c := c) hc d4
    have h13 : ¬ 0 < τ3 80 13 := by
      obtain ⟨t2, nf⟩ := d3.1.nf z6.1
      rw [nf.2.1.2]
      decide
    have tf3 : TFr c sd σ3 τ3 (am_upd σ3 39 (4 * c + d) v) (am_upd τ3 103 (4 * (8 * sd + c) + d) w) := by
      refine ⟨⟨Fr.rf.upd rfl (by decide), Fr.rf.upd rfl (by decide)⟩, fun j hj => ⟨?_, ?_, ?_, ?_⟩, fun m i hm hi => ⟨?_, ?_, ?_⟩, MG.rf.upd rfl (Or.inr (Or.inr (wrd (w := 32) (by decide) (wr102 h1 hc d4))))⟩
      · rw [un _ (show ¬ (37 : Nat) = 39 by decide)]
      · rw [un _ (show ¬ (38 : Nat) = 39 by decide)]
      · rw [un _ (show ¬ (100 : Nat) = 103 by decide)]
      · rw [un _ (show ¬ (101 : Nat) = 103 by decide)]
      · rw [ue, upa, if_neg (ne4 hm hi d4)]
      · rw [un _ (show ¬ (102 : Nat) = 103 by decide)]
      · rw [ue, upa, if_neg (ne4' hm hi d4)]
    refine ⟨am_upd σ3 39 (4 * c + d) v, am_upd τ3 103 (4 * (8 * sd + c) + d) w, headC _ ?_, headM _ ?_, (d3.1.updc (by decide) (by omega)).updm (by decide) (by omega), tf2.tr tf3, fun _ => ⟨cx.2.2.1 z6, fun hm => ?_⟩, mono _ (un _ (by decide))⟩
    · refine vV_of ((bq_273_0 X _ _ _ σ3).trans ?_) rfl
      rw [if_neg cn0, if_neg (Int.not_lt.mpr p0), j1, if_pos j2, tn_nat, bq_273_19]
    · rw [bq_253_86, if_neg h13, if_pos p0, if_neg (fun q => q rfl), k1, if_pos k2, tn_nat, bq_253_132]
    · have fc := cx.1
      unfold Me1
      rw [un _ (show ¬ (33 : Nat) = 39 by decide), un _ (show ¬ (34 : Nat) = 39 by decide), un _ (show ¬ (35 : Nat) = 39 by decide), un _ (show ¬ (36 : Nat) = 39 by decide), un _ (show ¬ (38 : Nat) = 39 by decide), un _ (show ¬ (37 : Nat) = 39 by decide), fc.get 33 (by decide) rfl, fc.get 34 (by decide) rfl, fc.get 35 (by decide) rfl, fc.get 36 (by decide) rfl, fc.get 38 (by decide) rfl, fc.get 37 (by decide) rfl, un _ (show ¬ (96 : Nat) = 103 by decide), un _ (show ¬ (97 : Nat) = 103 by decide), un _ (show ¬ (98 : Nat) = 103 by decide), un _ (show ¬ (99 : Nat) = 103 by decide), un _ (show ¬ (100 : Nat) = 103 by decide), un _ (show ¬ (101 : Nat) = 103 by decide), un _ (show ¬ (102 : Nat) = 103 by decide), gm'.get 96 (by decide) rfl, gm'.get 97 (by decide) rfl, gm'.get 98 (by decide) rfl, gm'.get 99 (by decide) rfl, gm'.get 100 (by decide) rfl, gm'.get 101 (by decide) rfl, gm'.get 102 (by decide) rfl, ue, ue, fc.get 39 (by decide) rfl, gm'.get 103 (by decide) rfl]
      refine ⟨hm.1, hm.2.1, hm.2.2.1, hm.2.2.2.1, fun i hi => ?_⟩
      obtain ⟨q1, q2, q3⟩ := hm.2.2.2.2 i hi
      refine ⟨q1, q2, ?_⟩
      rw [upa, upa]
      by_cases w' : i = d
      · subst w'
        rw [if_pos rfl, if_pos rfl]
        exact Or.inr ⟨wv, d4'.1⟩
      · rw [if_neg (fun q => w' (Nat.add_left_cancel q)), if_neg (fun q => w' (Nat.add_left_cancel q))]
        exact q3
  · have key : ∃ σ4, vcV X 273 [vP 27, vI (c : Int), vI r, vI v] σ3 = some σ4 ∧ TFr c sd σ3 τ3 σ4 τ3 ∧ PS N σ4 τ3 ∧ σ4 47 = σ3 47 := by
      by_cases y : r < 0
      · exact ⟨σ3, vV_of ((bq_273_0 X _ _ _ σ3).trans (by rw [if_neg cn0, if_pos y, bq_273_19])) rfl, TFr.sm Fr.rf Fr.rf, d3.1, rfl⟩
      · obtain ⟨d, hd, d4⟩ := dn_of b4.1.1 b4.1.2 y c4
        obtain ⟨j1, j2⟩ := kk32 (c := c) hc d4
        rw [hd] at y ⊢
        refine ⟨am_upd σ3 39 (4 * c + d) v, vV_of ((bq_273_0 X _ _ _ σ3).trans (by rw [if_neg cn0, if_neg y, j1, if_pos j2, tn_nat, bq_273_19])) rfl, ⟨⟨Fr.rf.upd rfl (by decide), Fr.rf⟩, fun j hj => ⟨?_, ?_, rfl, rfl⟩, fun m i hm hi => ⟨?_, rfl, rfl⟩, MG.rf⟩, d3.1.updc (by decide) (by omega), un _ (by decide)⟩
        · rw [un _ (show ¬ (37 : Nat) = 39 by decide)]
        · rw [un _ (show ¬ (38 : Nat) = 39 by decide)]
        · rw [ue, upa, if_neg (ne4 hm hi d4)]
    obtain ⟨σ4, v1, v2, v3, v4⟩ := key
    have key2 : ∃ τ4, vv X 253 86 [some (vP 80), some (vI ((8 * sd + c : Nat) : Int)), some (vI 30), some (vI r'), none] [vI w] τ3 = some (none, τ4) ∧ TFr c sd σ4 τ3 σ4 τ4 ∧ PS N σ4 τ4 := by
      by_cases w0 : 0 < τ3 80 13
      · exact ⟨τ3, by rw [bq_253_86, if_pos w0, bq_253_99], TFr.sm Fr.rf Fr.rf, v3⟩
      · by_cases y : 0 ≤ r'
        · obtain ⟨d, hd, d4⟩ := dn_of b4.2.1 b4.2.2 (Int.not_lt.mpr y) c4
          rw [hd]
          rw [hd] at y
          obtain ⟨k1, k2⟩ := kk64 (sd := sd) h1 hc d4
          refine ⟨am_upd τ3 103 (4 * (8 * sd + c) + d) w, ?_, ⟨⟨Fr.rf, Fr.rf.upd rfl (by decide)⟩, fun j hj => ⟨rfl, rfl, ?_, ?_⟩, fun m i hm hi => ⟨rfl, ?_, ?_⟩, MG.rf.upd rfl (Or.inr (Or.inr (wrd (w := 32) (by decide) (wr102 h1 hc d4))))⟩, v3.updm (by decide) (by omega)⟩
          · rw [bq_253_86, if_neg w0, if_pos y, if_neg (fun q => q rfl), k1, if_pos k2, tn_nat, bq_253_132]
          · rw [un _ (show ¬ (100 : Nat) = 103 by decide)]
          · rw [un _ (show ¬ (101 : Nat) = 103 by decide)]
          · rw [un _ (show ¬ (102 : Nat) = 103 by decide)]
          · rw [ue, upa, if_neg (ne4' hm hi d4)]
        · exact ⟨τ3, by rw [bq_253_86, if_neg w0, if_neg y, bq_253_99], TFr.sm Fr.rf Fr.rf, v3⟩
    obtain ⟨τ4, w1, w2, w3⟩ := key2
    refine ⟨σ4, τ4, headC _ v1, headM _ w1, w3, (tf2.tr v2).tr w2, fun z => ?_, mono _ v4⟩
    unfold ok0 at z z6
    rw [v4] at z
    exact absurd z z6
/-- all traits of a man -/
theorem l_traits (X : Nat) {c n : Nat} {tok : Int} (h1 : sd ≤ 1) (hc : c < 8) (hn : n ≤ 18) : ∀ (m i : Nat) (σ τ : am_Sg), i + m = 400 → PS N σ τ → (σ 47 6 = 0 → ((i + 1 : Nat) : Int) ≤ σ 47 4) → τ 80 20 = (n : Int) → CB σ 0 → NBs σ τ n 0 → (ok0 σ → UN σ 0) → ∃ σ' τ', vv X 177 73 [some (vP 47), none, none, none, none, none, none, some (vI (c : Int)), some (vI (i : Int))] [] σ = vv X 177 107 [some (vP 47), none, none, none, none, none, none, none, none] [] σ' ∧ vv X 192 148 [some (vP 80), some (vI ((8 * sd + c : Nat) : Int)), some (vI tok), none] [] τ = vv X 192 191 [some (vP 80), none, some (vI tok), none] [] τ' ∧ PS N σ' τ' ∧ TFr c sd σ τ σ' τ' ∧ (ok0 σ' → ok0 σ ∧ (Me1 σ τ sd c → Me1 σ' τ' sd c)) ∧ (σ' 47 6 = 0 → σ 47 6 = 0 ∧ σ 47 4 ≤ σ' 47 4) := by
  intro m
  induction m with
  | zero =>
    intro i σ τ e h hi h20 hC hB hU
    have hf : ¬ σ 47 6 = 0 := fun z => by
      obtain ⟨t, f⟩ := h.nf z
      have := PS.t400 h.1 f
      have := hi z
      have := f.2.2.1.1
      omega
    refine ⟨σ, τ, ?_, ?_, h, TFr.sm Fr.rf Fr.rf, fun z => ⟨z, fun q => q⟩, fun z => ⟨z, Int.le_refl _⟩⟩
    · rw [bq_177_73, if_pos (by omega)]
    · have := (h.fs hf).1
      rw [bq_192_148, if_pos (by omega)]
  | succ m ih =>
    intro i σ τ e h hi h20 hC hB hU
    rcases h.cases with ⟨hf, fs⟩ | ⟨hf, t, f⟩
    · refine ⟨σ, τ, ?_, ?_, h, TFr.sm Fr.rf Fr.rf, fun z => ⟨z, fun q => q⟩, fun z => ⟨z, Int.le_refl _⟩⟩
      · rw [bq_177_73, if_neg (by omega), if_pos hf]
      · have := fs.1
        rw [bq_192_148, if_pos (by omega)]
    · have t4 := PS.t400 h.1 f
      have kr := kr_trait (h.1.2.1 t f.1).2.1
      have e5 : σ 47 5 = σ 4 t := f.2.2.2.1
      have t11 := f.2.2.1.2
      have h13 := f.2.1.2
      by_cases z : σ 4 t = 262 ∨ σ 4 t = 263 ∨ σ 4 t = 264
      · have q := kr.mp z
        have isT : vcI X 236 [vP 47] σ = some (1, σ) := by
          refine vI_of ((bq_236_0 X σ).trans ?_) rfl
          rw [e5]
          rcases z with z | z | z
          · rw [if_pos z, bq_236_30, bq_236_35, if_pos okZ1]
          · rw [if_neg (by omega), if_pos z, bq_236_30, bq_236_35, if_pos okZ1]
          · rw [if_neg (by omega), if_neg (by omega), if_neg (by omega), bq_236_30, bq_236_35, if_pos okZ1]
        have tx : Tx X N sd c σ τ := by
          rcases z with z | z | z
          · exact t_hates X h f h1 hc z hn h20 hC hB hU
          · exact t_ill X h f h1 hc z hn h20 hC hB hU
          · exact t_fast X h f h1 hc z
        obtain ⟨σ1, τ1, x1, x2, x3, x4, x5, x6⟩ := tx
        have f28 : σ1 28 = σ 28 := x4.1.1.get 28 (by decide) rfl
        have f29 : σ1 29 = σ 29 := x4.1.1.get 29 (by decide) rfl
        obtain ⟨σ2, τ2, y1, y2, y3, y4, y5, y6⟩ := ih (i + 1) σ1 τ1 (by omega) x3 (fun w => by
          have a := hi hf
          have b := x6 w
          omega) ((x4.1.2.fld 20 rfl).trans h20) (hC.ag f28) (hB.ag f28 f29 (x4.1.2.get 88 (by decide) rfl) (x4.1.2.get 89 (by decide) rfl) (x4.1.2.get 90 (by decide) rfl)) (fun w => (hU (x5 w).1).ag f28 f29)
        refine ⟨σ2, τ2, ?_, ?_, y3, x4.tr y4, fun w => ?_, fun w => ?_⟩
        · rw [bq_177_73, if_neg (by omega), if_neg (fun w => w hf), isT, bsome]
          dsimp +instances only
          rw [if_neg (by decide), x1, bsome, w32_s1 (by omega)]
          exact y1
        · rw [bq_192_148, if_neg (fun w => w h13), t11, if_pos (by omega), tn_nat, if_neg (by omega), if_neg (by omega), x2, bsome]
          exact y2
        · obtain ⟨p1, p2⟩ := y5 w
          obtain ⟨p3, p4⟩ := x5 p1
          exact ⟨p3, fun hm => p2 (p4 hm)⟩
        · obtain ⟨p1, p2⟩ := y6 w
          have := x6 p1
          exact ⟨hf, by omega⟩
      · have q : ¬ (29 ≤ τ 83 t ∧ τ 83 t ≤ 31) := fun w => z (kr.mpr w)
        have isT : vcI X 236 [vP 47] σ = some (0, σ) := by
          refine vI_of ((bq_236_0 X σ).trans ?_) rfl
          rw [e5, if_neg (by omega), if_neg (by omega), if_pos (by omega), bq_236_35, if_pos okZ0]
        refine ⟨σ, τ, ?_, ?_, h, TFr.sm Fr.rf Fr.rf, fun z => ⟨z, fun q => q⟩, fun z => ⟨z, Int.le_refl _⟩⟩
        · rw [bq_177_73, if_neg (by omega), if_neg (fun w => w hf), isT, bsome]
          dsimp +instances only
          rw [if_pos rfl]
        · rw [bq_192_148, if_neg (fun w => w h13), t11, if_pos (by omega), tn_nat]
          by_cases w : τ 83 t < 29
          · rw [if_pos w]
          · rw [if_neg w, if_pos (by omega)]
end PI
