/-! READ: a man, whole -/
section PK
variable {X N : Nat} {σ τ σ' τ' : am_Sg} {t sd : Nat}
theorem one_le {a b c : Int} (h0 : 0 ≤ a) (h1 : a < b) (h2 : b ≤ c) : ((0 + 1 : Nat) : Int) ≤ c := by omega
theorem ini_out {c j : Nat} (hc : c < 8) (h : ¬ (32 * sd ≤ j ∧ j < 32 * sd + 32)) : ¬ (4 * (8 * sd + c) + 0 ≤ j ∧ j < 4 * (8 * sd + c) + 4) := by omega
theorem ini_ne {m c i : Nat} (h : ¬ m = c) (hi : i < 4) : ¬ (4 * (8 * sd + c) + 0 ≤ 4 * (8 * sd + m) + i ∧ 4 * (8 * sd + m) + i < 4 * (8 * sd + c) + 4) := by omega
theorem ini_ne' {m c i : Nat} (h : ¬ m = c) (hi : i < 4) : ¬ (4 * c ≤ 4 * m + i ∧ 4 * m + i < 4 * c + 4) := by omega
theorem not_mem2 {k : Nat} (h : ¬ (k = 102 ∨ k = 103)) : [102, 103].contains k = false := by
  cases hc : [102, 103].contains k with
  | false => rfl
  | true =>
    have : k = 102 ∨ k = 103 := by simpa using hc
    exact absurd this h
theorem nin47 {k : Nat} (h1 : 33 ≤ k) (h2 : k ≤ 39) : [47].contains k = false := by
  rcases (show k = 33 ∨ k = 34 ∨ k = 35 ∨ k = 36 ∨ k = 37 ∨ k = 38 ∨ k = 39 by omega) with e | e | e | e | e | e | e <;> subst e <;> rfl
theorem ninA {k : Nat} (h1 : 96 ≤ k) (h2 : k ≤ 103) : [88, 89, 90, 95].contains k = false := by
  rcases (show k = 96 ∨ k = 97 ∨ k = 98 ∨ k = 99 ∨ k = 100 ∨ k = 101 ∨ k = 102 ∨ k = 103 by omega) with e | e | e | e | e | e | e | e <;> subst e <;> rfl
theorem ninL {k : Nat} (h1 : 105 ≤ k) (h2 : k ≤ 111) : [88, 89, 90, 95, 96, 97, 98, 99, 100, 101, 102, 103].contains k = false := by
  rcases (show k = 105 ∨ k = 106 ∨ k = 107 ∨ k = 108 ∨ k = 109 ∨ k = 110 ∨ k = 111 by omega) with e | e | e | e | e | e | e <;> subst e <;> rfl
theorem s_man (X : Nat) (h : SI N sd σ τ) (hW : σ 1001 = am_s0 (fun _ => 0) 1001) (h6 : σ 47 6 = 0) (hk : σ 47 5 = 257) : Sx X N sd 177 σ τ := by
  obtain ⟨hP, hI⟩ := h
  obtain ⟨hC, hT⟩ := hI h6
  obtain ⟨t, f⟩ := hP.nf h6
  have t4 := PS.t400 hP.1 f
  have tN := f.1
  have e4 : σ 4 t = 257 := f.2.2.2.1.symm.trans hk
  have e83 : τ 83 t = 21 := (kr_man _ _ (hP.1.2.1 t f.1).2.1).mp e4
  have n18 := hC.n18
  obtain ⟨sd0, sd1⟩ := hC.1
  have c0 := hC.2.1.1 1 (by omega)
  have cb0 := hC.2.1.1 0 (by omega)
  have m0 : cn σ 1 ≤ 8 := c0.2
  have t0 : 0 ≤ σ 47 4 := by rw [f.2.2.1.1]; omega
  have trr : (0 : Int) ≤ (t : Int) ∧ (t : Int) < 403 := by omega
  obtain ⟨σ1, τ1, a1, a2, a3, a4, a5⟩ := l_first X (w := 1) (M := 8) (by omega) (by rw [hW]; rfl) hP f (by omega) (by omega) (by rw [c0.1]; omega)
  have fc1 := a3.2.1.1
  have fm1 := a3.2.1.2
  have g28 : σ1 28 = σ 28 := fc1.get 28 (by decide) rfl
  have g29 : σ1 29 = σ 29 := fc1.get 29 (by decide) rfl
  obtain ⟨n1, n2, n3, n4⟩ := hC.nm (σ' := σ1) (τ' := τ1) g28 g29 (fm1.get 88 (by decide) rfl) (fm1.get 89 (by decide) rfl) (fm1.get 90 (by decide) rfl) (fm1.fld 20 rfl)
  obtain ⟨v, w, σ2, τ2, b1, b2, b3, b4, b5⟩ := l_name X a3.1 n18 n1 n2 n3 n4
  generalize hK : 8 * sd + cn σ 1 = K
  obtain ⟨r0, s0, σ3, τ3, d0a, d0b, d0c, d0d, d0e, d0f⟩ := l_num X (τ := τ2) (a := 0) (b := 99) (a' := 0) (b' := 99) b3.1 (by omega) (by omega) (fun _ => ⟨rfl, rfl⟩)
  obtain ⟨r1, s1, σ4, τ4, d1a, d1b, d1c, d1d, d1e, d1f⟩ := l_num X (τ := am_upd τ3 96 K s0) (a := 0) (b := r0) (a' := 0) (b' := if s0 ≤ 99 then s0 else 9999) (d0c.1.updm (by decide) (by omega)) d0d.1 (Int.le_refl _) (fun z => ⟨rfl, by rw [d0f z, if_pos d0d.2]⟩)
  obtain ⟨r2, s2, σ5, τ5, d2a, d2b, d2c, d2d, d2e, d2f⟩ := l_num X (τ := am_upd τ4 97 K s1) (a := 0) (b := 9) (a' := 0) (b' := 9) (d1c.1.updm (by decide) (by omega)) (by decide) (Int.le_refl _) (fun _ => ⟨rfl, rfl⟩)
  obtain ⟨r3, s3, σ6, τ6, d3a, d3b, d3c, d3d, d3e, d3f⟩ := l_num X (τ := am_upd τ5 98 K s2) (a := 0) (b := 999) (a' := 0) (b' := 999) (d2c.1.updm (by decide) (by omega)) (by decide) (Int.le_refl _) (fun _ => ⟨rfl, rfl⟩)
  have CX6 : Cx σ1 σ6 := b3.cx.tr (d0c.cx.tr (d1c.cx.tr (d2c.cx.tr d3c.cx)))
  have CX : Cx σ σ6 := a3.cx.tr CX6
  have FC : Fr [47] [] σ σ6 := CX.1
  have run : ∀ σ9, ((¬ σ6 47 6 = 0 ∧ σ9 = σ6) ∨ (σ6 47 6 = 0 ∧ ∃ σ7, vcI X 235 [vP 27, vJ v, vI r0, vI r1, vI r2, vI r3] σ6 = some ((cn σ 1 : Int), σ7) ∧ vv X 177 73 [some (vP 47), none, none, none, none, none, none, some (vI (cn σ 1 : Int)), some (vI 0)] [] σ7 = some (none, σ9))) → vcV X 177 [vP 47] σ = some σ9 := fun σ9 e => by
    have a1' : vcV X 230 [vP 47, vI 1] σ = some σ1 := a1
    refine vV_of ((bq_177_0 X σ).trans ?_) rfl
    rw [a1', bsome, b1, bsome]
    dsimp +instances only
    rw [d0a, bsome]
    dsimp +instances only
    rw [d1a, bsome]
    dsimp +instances only
    rw [d2a, bsome]
    dsimp +instances only
    rw [d3a, bsome]
    dsimp +instances only
    rcases e with ⟨e, e'⟩ | ⟨e, σ7, e1, e2⟩
    · rw [if_neg e, e']
    · rw [if_pos e, e1, bsome]
      exact e2
  have mhead : ∀ q, (vcV X 190 [vP 80, vI (σ 28 1), vI 8] τ).bind (fun q15 => if ¬ (q15 80 13) = 0 then vv X 92 238 [none] [] q15 else (vcV X 192 [vP 80] q15).bind fun q16 => vv X 92 238 [none] [] q16) = some (none, q) → vcV X 92 [vP 80] τ = some q := fun q e => by
    refine vV_of ((bq_92_0 X τ).trans ?_) rfl
    rw [f.2.2.1.2, if_pos trr, tn_nat, e83, if_neg (by decide), if_pos rfl, sd0, if_pos (sr_of sd1), tn_nat, hC.2.2.1.2.1]
    exact e
  by_cases z1 : σ1 47 6 = 0
  · obtain ⟨lt4, z13, tlt⟩ := a4 z1
    have clt : cn σ 1 < 8 := clt_of c0.1 rfl lt4
    have kx : w32 (w32 (8 * (sd : Int)) + (cn σ 1 : Int)) = (K : Int) := by rw [← hK]; exact kxw sd1 (Nat.lt_trans clt (by decide)) (show 8 ≤ 100 by decide)
    have sr := sr_of sd1
    have kr0 : (0 : Int) ≤ (K : Int) ∧ (K : Int) < 16 := by rw [← hK]; exact kxr sd1 clt
    have kN : K < 16 := Int.ofNat_lt.mp kr0.2
    have s19 : τ1 80 19 = (sd : Int) := (fm1.fld 19 rfl).trans sd0
    have s91 : τ1 95 sd = (cn σ 1 : Int) := by rw [fm1.get 95 (by decide) rfl, hC.2.2.1.2.1]; exact c0.1
    have wr8 : ∀ k, wd k = 8 → wd k * sd ≤ K ∧ K < wd k * sd + wd k := fun k hk => by rw [← hK]; exact wrg hk clt
    have FM1 : Fr [96, 97, 98, 99, 100, 101, 102, 103] [11, 13, 14, 15, 16] τ τ1 := a3.2.1.2.mono rfl rfl
    have FM2 : Fr [96, 97, 98, 99, 100, 101, 102, 103] [11, 13, 14, 15, 16] τ τ2 := FM1.tr (b3.2.1.2.mono rfl rfl)
    have FM3 : Fr [96, 97, 98, 99, 100, 101, 102, 103] [11, 13, 14, 15, 16] τ τ3 := FM2.tr (d0c.2.1.2.mono rfl rfl)
    have MG1 : MG sd τ τ1 := MG.sm a3.2.1.2
    have MG2 : MG sd τ τ2 := MG1.tr (MG.sm b3.2.1.2)
    have MG3 : MG sd τ τ3 := MG2.tr (MG.sm d0c.2.1.2)
    have FN3 : Fr [96, 97, 98, 99, 100, 101, 102, 103] [11, 13, 14, 15, 16] τ (am_upd τ3 96 K s0) := FM3.upd rfl (by decide)
    have FM4 : Fr [96, 97, 98, 99, 100, 101, 102, 103] [11, 13, 14, 15, 16] τ τ4 := FN3.tr (d1c.2.1.2.mono rfl rfl)
    have MN3 : MG sd τ (am_upd τ3 96 K s0) := MG3.upd rfl (Or.inr (Or.inr (wr8 96 (by decide))))
    have MG4 : MG sd τ τ4 := MN3.tr (MG.sm d1c.2.1.2)
    have FN4 : Fr [96, 97, 98, 99, 100, 101, 102, 103] [11, 13, 14, 15, 16] τ (am_upd τ4 97 K s1) := FM4.upd rfl (by decide)
    have FM5 : Fr [96, 97, 98, 99, 100, 101, 102, 103] [11, 13, 14, 15, 16] τ τ5 := FN4.tr (d2c.2.1.2.mono rfl rfl)
    have MN4 : MG sd τ (am_upd τ4 97 K s1) := MG4.upd rfl (Or.inr (Or.inr (wr8 97 (by decide))))
    have MG5 : MG sd τ τ5 := MN4.tr (MG.sm d2c.2.1.2)
    have FN5 : Fr [96, 97, 98, 99, 100, 101, 102, 103] [11, 13, 14, 15, 16] τ (am_upd τ5 98 K s2) := FM5.upd rfl (by decide)
    have FM6 : Fr [96, 97, 98, 99, 100, 101, 102, 103] [11, 13, 14, 15, 16] τ τ6 := FN5.tr (d3c.2.1.2.mono rfl rfl)
    have MN5 : MG sd τ (am_upd τ5 98 K s2) := MG5.upd rfl (Or.inr (Or.inr (wr8 98 (by decide))))
    have MG6 : MG sd τ τ6 := MN5.tr (MG.sm d3c.2.1.2)
    generalize hτ6 : am_upd (am_upd (am_upd τ6 99 K s3) 100 K 24) 101 K (-1) = τ6'
    have FN6 : Fr [96, 97, 98, 99, 100, 101, 102, 103] [11, 13, 14, 15, 16] τ τ6' := by rw [← hτ6]; exact ((FM6.upd rfl (by decide)).upd rfl (by decide)).upd rfl (by decide)
    have MN6 : MG sd τ τ6' := by rw [← hτ6]; exact ((MG6.upd rfl (Or.inr (Or.inr (wr8 99 (by decide))))).upd rfl (Or.inr (Or.inr (wr8 100 (by decide))))).upd rfl (Or.inr (Or.inr (wr8 101 (by decide))))
    have PS6 : PS N σ6 τ6' := by rw [← hτ6]; exact ((d3c.1.updm (by decide) (by omega)).updm (by decide) (by omega)).updm (by decide) (by omega)
    obtain ⟨τ7, y1, y2, y3, y4⟩ := m_ini X (tok := w) kN 4 0 τ6' rfl
    have FM7 : Fr [96, 97, 98, 99, 100, 101, 102, 103] [11, 13, 14, 15, 16] τ τ7 := FN6.tr (y2.mono rfl rfl)
    have MG7 : MG sd τ τ7 := by
      refine ⟨MN6.1.tr (y2.mono rfl rfl), fun k k1 k2 j hj => ?_⟩
      by_cases e : k = 102 ∨ k = 103
      · have hj' : ¬ (4 * K + 0 ≤ j ∧ j < 4 * K + 4) := by
          have : wd k = 32 := by rcases e with e | e <;> rw [e] <;> decide
          rw [this] at hj
          rw [← hK]
          exact ini_out clt hj
        obtain ⟨p1, p2⟩ := y4 j hj'
        rcases e with e | e
        · subst e; rw [p1]; exact MN6.2 102 k1 k2 j hj
        · subst e; rw [p2]; exact MN6.2 103 k1 k2 j hj
      · have hc : [102, 103].contains k = false := not_mem2 e
        rw [y2.get k (fun q => by rw [q] at k1; exact absurd k1 (by decide)) hc]
        exact MN6.2 k k1 k2 j hj
    have PS7 : PS N σ6 τ7 := PS6.ag rfl rfl rfl (fun _ _ => rfl) (y2.get 83 (by decide) rfl) (y2.get 84 (by decide) rfl) (y2.get 85 (by decide) rfl) (y2.get 86 (by decide) rfl) (fun j _ => y2.fld j rfl)
    have m192 : ∀ q, vv X 192 148 [some (vP 80), some (vI (K : Int)), some (vI w), none] [] τ7 = some (none, q) → vcV X 192 [vP 80] τ1 = some q := fun q e => by
      refine vV_of ((bq_192_0 X τ1).trans ?_) rfl
      rw [s19, if_pos sr, b2, bsome]
      dsimp +instances only
      rw [d0b, bsome]
      dsimp +instances only
      rw [tn_nat, s91, kx, if_pos kr0, tn_nat, ue, upe]
      have fin : vv X 192 66 [some (vP 80), some (vI (K : Int)), some (vI w), none] [vI (if s0 ≤ 99 then s0 else 9999), vI 0, vP 80, vI (K : Int), vP 97] (am_upd τ3 96 K s0) = some (none, q) := by
        rw [bq_192_66, d1b, bsome]
        dsimp +instances only
        rw [if_pos kr0, tn_nat, d2b, bsome]
        dsimp +instances only
        rw [if_pos kr0, d3b, bsome]
        dsimp +instances only
        rw [bq_192_105, if_pos kr0, tn_nat, hτ6]
        exact y1.trans e
      by_cases y : s0 ≤ 99
      · rw [if_pos y] at fin ⊢
        exact fin
      · rw [if_neg y] at fin ⊢
        exact fin
    by_cases z6 : σ6 47 6 = 0
    · have h28 : σ6 28 = σ 28 := FC.get 28 (by decide) rfl
      have c8 : σ6 28 1 = (cn σ 1 : Int) := by rw [h28]; exact c0.1
      obtain ⟨σ7, x1, x2, ⟨x3, x4⟩, x5, x6, x7⟩ := c_addMan X (v := v) (a := r0) (b := r1) (d := r2) (e := r3) clt c8
      have x47 : σ7 47 = σ6 47 := x2.get 47 (by decide) rfl
      have PSa : PS N σ7 τ7 := PS7.ag (x2.get 4 (by decide) rfl) (x2.get 5 (by decide) rfl) (x2.get 6 (by decide) rfl) (fun j _ => by rw [x47]) rfl rfl rfl rfl (fun _ _ => rfl)
      have k28 : σ7 28 = up (σ 28) 1 ((cn σ 1 + 1 : Nat) : Int) := by rw [x3, h28]
      have k29 : σ7 29 = up (σ 29) (4 + cn σ 1) v := by rw [x4, FC.get 29 (by decide) rfl]
      obtain ⟨cb, nb⟩ := nb0_man (hC.2.2.2.1.2.1 0 (by decide)) cb0 k28 k29 (FM7.get 88 (by decide) rfl) (FM7.get 89 (by decide) rfl) (FM7.get 90 (by decide) rfl)
      have le6 := CX6.2.2.2 z6
      obtain ⟨σ8, τ8, u1, u2, u3, u4, u5, u6⟩ := l_traits X (sd := sd) (N := N) (c := cn σ 1) (n := cn σ 0 + cn σ 1 + cn σ 2) (tok := w) sd1 clt n18 400 0 σ7 τ7 rfl PSa (fun _ => by rw [x47]; exact one_le t0 tlt le6) ((FM7.fld 20 rfl).trans hC.2.2.2.1.1) cb nb (fun z => by
        have z' : ok0 σ6 := by unfold ok0 at z ⊢; rw [x47] at z; exact z
        exact un0_man ((hT (CX.2.2.1 z').2).1 0 (by decide)) cb0 k28 k29)
      rw [hK] at u2
      obtain ⟨b, σ9, τ9, t1, t2, t3, t5⟩ := l_take X u3 kr_semi (by decide) (by decide)
      have runC : vcV X 177 [vP 47] σ = some σ9 := by
        refine run σ9 (Or.inr ⟨z6, σ7, x1, ?_⟩)
        refine Eq.trans u1 ?_
        rw [bq_177_107, t1, bsome]
      have F9a : Fr [37, 38, 39, 47] [] σ7 σ9 := u4.1.1.tr (t3.2.1.1.mono rfl rfl)
      have FcR : Fr cR [] σ σ9 := ((FC.mono rfl rfl).tr (x2.mono rfl rfl)).tr (F9a.mono rfl rfl)
      have M9 : MG sd τ τ9 := (MG7.tr u4.2.2.2).tr (MG.sm t3.2.1.2)
      have FM9 : Fr [96, 97, 98, 99, 100, 101, 102, 103] [11, 13, 14, 15, 16] τ τ9 := (FM7.tr (u4.1.2.mono rfl rfl)).tr (t3.2.1.2.mono rfl rfl)
      have tail : ∀ q, ((0 < τ9 80 13 ∧ q = τ9) ∨ (τ9 80 13 = 0 ∧ ∃ Y, vcV X 252 [vP 80, vI w, vI 1, vI (τ9 95 sd)] τ9 = some Y ∧ Y 80 19 = (sd : Int) ∧ Y 95 sd = (cn σ 1 : Int) ∧ q = am_upd Y 95 sd ((cn σ 1 + 1 : Nat) : Int))) → vcV X 192 [vP 80] τ1 = some q := fun q e => by
        refine m192 q (u2.trans ?_)
        rw [bq_192_191, t2, bsome]
        rcases e with ⟨e, e'⟩ | ⟨e, Y, e1, e2, e3, e4⟩
        · rw [if_neg (Int.not_le.mpr e), e']
        · rw [if_pos (le_of_eq0 e), (FM9.fld 19 rfl).trans sd0, if_pos sr, tn_nat, e1, bsome, e2, if_pos sr, tn_nat, e3, w32_s1 (Nat.lt_of_le_of_lt clt (by decide)), e4]
      rcases t5 with ⟨v1, v2⟩ | ⟨v1, t9, f9, tl9, -, -, -, f10⟩
      · have fs := t3.1.fs v2
        refine ⟨σ9, τ9, runC, mhead _ ?_, SI.bad t3.1 v2, FcR, M9, fun q => absurd q v2⟩
        rw [a2, bsome, if_neg (fun q => q z13), tail τ9 (Or.inl ⟨fs.1, rfl⟩), bsome, bq_92_238]
      · have q9 : σ9 47 6 = 0 := f10.2.1.1
        have q2 : σ2 47 6 = 0 := (d0c.cx.tr (d1c.cx.tr (d2c.cx.tr d3c.cx))).z0 z6
        obtain ⟨tk0, l, t01, t02, l1, l2, l3⟩ := b4 q2
        have e20 : τ9 80 20 = ((cn σ 0 + cn σ 1 + cn σ 2 : Nat) : Int) := (FM9.fld 20 rfl).trans hC.2.2.2.1.1
        have e19 : τ9 80 19 = (sd : Int) := (FM9.fld 19 rfl).trans sd0
        have e91 : τ9 95 sd = (cn σ 1 : Int) := by rw [FM9.get 95 (by decide) rfl, hC.2.2.1.2.1]; exact c0.1
        have e86 : τ9 86 tk0 = ((fr 27 l : Nat) : Int) := by rw [FM9.get 86 (by decide) rfl, ← fm1.get 86 (by decide) rfl]; exact l3
        have NT := m_notes X (τ := τ9) (s := 1) (a := (cn σ 1 : Int)) (Nat.le_trans n18 (by decide)) (Nat.le_trans (Nat.le_of_lt t01) (by decide)) e20
        rw [e86] at NT
        generalize hY : am_upd (am_upd (am_upd (am_upd τ9 88 (cn σ 0 + cn σ 1 + cn σ 2) ((fr 27 l : Nat) : Int)) 89 (cn σ 0 + cn σ 1 + cn σ 2) 1) 90 (cn σ 0 + cn σ 1 + cn σ 2) (cn σ 1 : Int)) 80 20 ((cn σ 0 + cn σ 1 + cn σ 2 + 1 : Nat) : Int) = Y at NT
        have y19 : Y 80 19 = (sd : Int) := by rw [← hY]; exact e19
        have y91 : Y 95 sd = (cn σ 1 : Int) := by rw [← hY]; exact e91
        generalize hτA : am_upd Y 95 sd ((cn σ 1 + 1 : Nat) : Int) = τA
        have GA : Fr [88, 89, 90, 95] [20] τ9 τA := by rw [← hτA, ← hY]; exact ((((Fr.rf.upd rfl (by decide)).upd rfl (by decide)).upd rfl (by decide)).upf rfl).upd rfl (by decide)
        have MA : MG sd τ τA := by rw [← hτA, ← hY]; exact ((((M9.upd rfl (Or.inl (by omega))).upd rfl (Or.inl (by omega))).upd rfl (Or.inl (by omega))).upf rfl).upd rfl (Or.inr (Or.inr (wrg1 (by decide))))
        have k88 : τA 88 = up (τ 88) (cn σ 0 + cn σ 1 + cn σ 2) ((fr 27 l : Nat) : Int) := by rw [← hτA, ← hY, un _ (show ¬ (88 : Nat) = 95 by decide), un _ (show ¬ (88 : Nat) = 80 by decide), un _ (show ¬ (88 : Nat) = 90 by decide), un _ (show ¬ (88 : Nat) = 89 by decide), ue, FM9.get 88 (by decide) rfl]
        have k89 : τA 89 = up (τ 89) (cn σ 0 + cn σ 1 + cn σ 2) 1 := by rw [← hτA, ← hY, un _ (show ¬ (89 : Nat) = 95 by decide), un _ (show ¬ (89 : Nat) = 80 by decide), un _ (show ¬ (89 : Nat) = 90 by decide), ue, un _ (show ¬ (89 : Nat) = 88 by decide), FM9.get 89 (by decide) rfl]
        have k90 : τA 90 = up (τ 90) (cn σ 0 + cn σ 1 + cn σ 2) (cn σ 1 : Int) := by rw [← hτA, ← hY, un _ (show ¬ (90 : Nat) = 95 by decide), un _ (show ¬ (90 : Nat) = 80 by decide), ue, un _ (show ¬ (90 : Nat) = 89 by decide), un _ (show ¬ (90 : Nat) = 88 by decide), FM9.get 90 (by decide) rfl]
        have k95 : τA 95 = up (τ 95) sd ((cn σ 1 + 1 : Nat) : Int) := by rw [← hτA, ← hY, ue, un _ (show ¬ (95 : Nat) = 80 by decide), un _ (show ¬ (95 : Nat) = 90 by decide), un _ (show ¬ (95 : Nat) = 89 by decide), un _ (show ¬ (95 : Nat) = 88 by decide), FM9.get 95 (by decide) rfl]
        have k20 : τA 80 20 = ((cn σ 0 + cn σ 1 + cn σ 2 + 1 : Nat) : Int) := by rw [← hτA, ← hY]; rfl
        have kf : ∀ j, [11, 13, 14, 15, 16, 20].contains j = false → τA 80 j = τ 80 j := fun j hj => by
          rw [GA.fld j (fr_sub (a := [20]) (b := [11, 13, 14, 15, 16, 20]) rfl hj), FM9.fld j (fr_sub (a := [11, 13, 14, 15, 16]) (b := [11, 13, 14, 15, 16, 20]) rfl hj)]
        have j28 : σ9 28 = up (σ 28) 1 ((cn σ 1 + 1 : Nat) : Int) := by rw [F9a.get 28 (by decide) rfl, k28]
        have j29 : σ9 29 = up (σ 29) (4 + cn σ 1) v := by rw [F9a.get 29 (by decide) rfl, k29]
        have fk : ∀ k, [28, 29, 33, 34, 35, 36, 37, 38, 39, 47].contains k = false → ¬ k = 80 → σ9 k = σ k := fun k hk h8 => by
          rw [F9a.get k h8 (fr_sub (a := [37, 38, 39, 47]) (b := [28, 29, 33, 34, 35, 36, 37, 38, 39, 47]) rfl hk), x2.get k h8 (fr_sub (a := [28, 29, 33, 34, 35, 36, 37, 38, 39]) (b := [28, 29, 33, 34, 35, 36, 37, 38, 39, 47]) rfl hk), FC.get k h8 (fr_sub (a := [47]) (b := [28, 29, 33, 34, 35, 36, 37, 38, 39, 47]) rfl hk)]
        have gk : ∀ k, [88, 89, 90, 95, 96, 97, 98, 99, 100, 101, 102, 103].contains k = false → ¬ k = 80 → τA k = τ k := fun k hk h8 => by
          rw [GA.get k h8 (fr_sub (a := [88, 89, 90, 95]) (b := [88, 89, 90, 95, 96, 97, 98, 99, 100, 101, 102, 103]) rfl hk), FM9.get k h8 (fr_sub (a := [96, 97, 98, 99, 100, 101, 102, 103]) (b := [88, 89, 90, 95, 96, 97, 98, 99, 100, 101, 102, 103]) rfl hk)]
        have cs : cnS 1 σ σ9 := cnS_of j28
        have q8 := (t3.cx.z0 q9)
        have le8 := (u6 q8).2
        have le9 := t3.cx.2.2.2 q9
        have lef : σ 47 4 < σ9 47 4 := by
          rw [x47] at le8
          exact Int.lt_of_lt_of_le tlt (Int.le_trans le6 (Int.le_trans le8 le9))
        have ci : CI σ9 τA sd := by
          refine hC.add (s0 := 1) (by omega) clt l1 j28 (by rw [j29, ← l2]; rfl) k88 k89 k90 ⟨?_, ?_, ?_, ?_, ?_, ?_⟩ k20 (kf 19 rfl) (kf 12 rfl) (fk 27 rfl (by decide)) (kf 56 rfl) (kf 40 rfl) (Int.le_of_lt lef)
          · rw [gk 91 rfl (by decide), j28, upa, if_neg (by decide)]; exact hC.2.2.1.1
          · rw [k95, j28, upe, upe]
          · rw [gk 112 rfl (by decide), j28, upa, if_neg (by decide)]; exact hC.2.2.1.2.2.1
          · rw [gk 115 rfl (by decide), j28, upa, if_neg (by decide)]; exact hC.2.2.1.2.2.2.1
          · rw [gk 118 rfl (by decide), j28, upa, if_neg (by decide)]; exact hC.2.2.1.2.2.2.2.1
          · rw [gk 104 rfl (by decide), j28, upa, if_neg (by decide)]; exact hC.2.2.1.2.2.2.2.2
        have ps : PS N σ9 τA := t3.1.ag rfl rfl rfl (fun _ _ => rfl) (GA.get 83 (by decide) rfl) (GA.get 84 (by decide) rfl) (GA.get 85 (by decide) rfl) (GA.get 86 (by decide) rfl) (fun j hj => GA.fld j (by
          cases hc : [20].contains j with
          | false => rfl
          | true =>
            have : j = 20 := by simpa using hc
            rw [this] at hj
            cases hj))
        refine ⟨σ9, τA, runC, mhead _ ?_, ⟨ps, fun _ => ⟨ci, fun y => ?_⟩⟩, FcR, MA, fun _ => lef⟩
        · rw [a2, bsome, if_neg (fun q => q z13), tail τA (Or.inr ⟨f10.2.1.2, Y, by rw [e91, t02]; exact NT, y19, y91, hτA.symm⟩), bsome, bq_92_238]
        · have o9 : ok0 σ9 := ⟨q9, y⟩
          have o8 : ok0 σ8 := t3.cx.2.2.1 o9
          obtain ⟨o7, me⟩ := u5 o8
          have o6 : ok0 σ6 := by unfold ok0 at o7 ⊢; rw [x47] at o7; exact o7
          have o5 : ok0 σ5 := d3c.cx.2.2.1 o6
          have o4 : ok0 σ4 := d2c.cx.2.2.1 o5
          have o3 : ok0 σ3 := d1c.cx.2.2.1 o4
          have o2 : ok0 σ2 := d0c.cx.2.2.1 o3
          have o0 : ok0 σ := CX.2.2.1 o6
          obtain ⟨T1, T2, T3, T4, T5, T6, T7⟩ := hT o0.2
          have v96 : τ7 96 = up (τ 96) K s0 := by rw [y2.get 96 (by decide) rfl, ← hτ6, un _ (show ¬ (96 : Nat) = 101 by decide), un _ (show ¬ (96 : Nat) = 100 by decide), un _ (show ¬ (96 : Nat) = 99 by decide), d3c.2.1.2.get 96 (by decide) rfl, un _ (show ¬ (96 : Nat) = 98 by decide), d2c.2.1.2.get 96 (by decide) rfl, un _ (show ¬ (96 : Nat) = 97 by decide), d1c.2.1.2.get 96 (by decide) rfl, ue, d0c.2.1.2.get 96 (by decide) rfl, b3.2.1.2.get 96 (by decide) rfl, fm1.get 96 (by decide) rfl]
          have v97 : τ7 97 = up (τ 97) K s1 := by rw [y2.get 97 (by decide) rfl, ← hτ6, un _ (show ¬ (97 : Nat) = 101 by decide), un _ (show ¬ (97 : Nat) = 100 by decide), un _ (show ¬ (97 : Nat) = 99 by decide), d3c.2.1.2.get 97 (by decide) rfl, un _ (show ¬ (97 : Nat) = 98 by decide), d2c.2.1.2.get 97 (by decide) rfl, ue, d1c.2.1.2.get 97 (by decide) rfl, un _ (show ¬ (97 : Nat) = 96 by decide), d0c.2.1.2.get 97 (by decide) rfl, b3.2.1.2.get 97 (by decide) rfl, fm1.get 97 (by decide) rfl]
          have v98 : τ7 98 = up (τ 98) K s2 := by rw [y2.get 98 (by decide) rfl, ← hτ6, un _ (show ¬ (98 : Nat) = 101 by decide), un _ (show ¬ (98 : Nat) = 100 by decide), un _ (show ¬ (98 : Nat) = 99 by decide), d3c.2.1.2.get 98 (by decide) rfl, ue, d2c.2.1.2.get 98 (by decide) rfl, un _ (show ¬ (98 : Nat) = 97 by decide), d1c.2.1.2.get 98 (by decide) rfl, un _ (show ¬ (98 : Nat) = 96 by decide), d0c.2.1.2.get 98 (by decide) rfl, b3.2.1.2.get 98 (by decide) rfl, fm1.get 98 (by decide) rfl]
          have w6 : ∀ k, k = 99 ∨ k = 100 ∨ k = 101 → τ6 k = τ k := fun k hk => by
            have a1 : ∀ c, c = 96 ∨ c = 97 ∨ c = 98 → ¬ k = c := fun c hc q => by rcases hk with e | e | e <;> rcases hc with g | g | g <;> rw [e, g] at q <;> exact absurd q (by decide)
            have k8 : ¬ k = 80 := fun q => by rcases hk with e | e | e <;> rw [e] at q <;> exact absurd q (by decide)
            rw [d3c.2.1.2.get k k8 rfl, un _ (a1 98 (Or.inr (Or.inr rfl))), d2c.2.1.2.get k k8 rfl, un _ (a1 97 (Or.inr (Or.inl rfl))), d1c.2.1.2.get k k8 rfl, un _ (a1 96 (Or.inl rfl)), d0c.2.1.2.get k k8 rfl, b3.2.1.2.get k k8 rfl, fm1.get k k8 rfl]
          have v99 : τ7 99 = up (τ 99) K s3 := by rw [y2.get 99 (by decide) rfl, ← hτ6, un _ (show ¬ (99 : Nat) = 101 by decide), un _ (show ¬ (99 : Nat) = 100 by decide), ue, w6 99 (Or.inl rfl)]
          have v100 : τ7 100 = up (τ 100) K 24 := by rw [y2.get 100 (by decide) rfl, ← hτ6, un _ (show ¬ (100 : Nat) = 101 by decide), ue, un _ (show ¬ (100 : Nat) = 99 by decide), w6 100 (Or.inr (Or.inl rfl))]
          have v101 : τ7 101 = up (τ 101) K (-1) := by rw [y2.get 101 (by decide) rfl, ← hτ6, ue, un _ (show ¬ (101 : Nat) = 100 by decide), un _ (show ¬ (101 : Nat) = 99 by decide), w6 101 (Or.inr (Or.inr rfl))]
          have meN : Me1 σ7 τ7 sd (cn σ 1) := by
            refine me_new (e := r3) d0d d1d d2d ⟨?_, ?_, ?_, ?_, ?_, ?_⟩ x6 ⟨?_, ?_, ?_, ?_, ?_⟩ (fun i hi => by rw [hK]; exact y3 i (Nat.zero_le _) hi)
            · rw [x5.1, upe]
            · rw [x5.2.1, upe]
            · rw [x5.2.2.1, upe]
            · rw [x5.2.2.2.1, upe]
            · rw [x5.2.2.2.2.1, upe]
            · rw [x5.2.2.2.2.2, upe]
            · rw [hK, v96, upe]; exact d0f o3
            · rw [hK, v97, upe]; exact d1f o4
            · rw [hK, v98, upe]; exact d2f o5
            · rw [hK, v99, upe]; exact d3f o6
            · rw [hK, v100, upe]
          have meO : ∀ m, m < cn σ 1 → Me1 σ7 τ7 sd m := fun m hm => by
            have o := T3 m hm
            have ne : ¬ m = cn σ 1 := Nat.ne_of_lt hm
            have neK : ¬ 8 * sd + m = K := fun q => by rw [← hK] at q; exact ne (Nat.add_left_cancel q)
            unfold Me1 at o ⊢
            rw [x5.1, x5.2.1, x5.2.2.1, x5.2.2.2.1, x5.2.2.2.2.1, x5.2.2.2.2.2, v96, v97, v98, v99, v100, v101, upa, upa, upa, upa, upa, upa, upa, upa, upa, upa, upa, upa, if_neg neK, if_neg neK, if_neg neK, if_neg neK, if_neg neK, if_neg neK, if_neg ne, if_neg ne, if_neg ne, if_neg ne, if_neg ne, if_neg ne, FC.get 33 (by decide) rfl, FC.get 34 (by decide) rfl, FC.get 35 (by decide) rfl, FC.get 36 (by decide) rfl, FC.get 37 (by decide) rfl, FC.get 38 (by decide) rfl]
            refine ⟨o.1, o.2.1, o.2.2.1, o.2.2.2.1, fun i hi => ?_⟩
            have p := y4 (4 * (8 * sd + m) + i) (by rw [← hK]; exact ini_ne ne hi)
            rw [x7 (4 * m + i) (ini_ne' ne hi), FC.get 39 (by decide) rfl, p.1, p.2, ← hτ6, un _ (show ¬ (102 : Nat) = 101 by decide), un _ (show ¬ (102 : Nat) = 100 by decide), un _ (show ¬ (102 : Nat) = 99 by decide), un _ (show ¬ (103 : Nat) = 101 by decide), un _ (show ¬ (103 : Nat) = 100 by decide), un _ (show ¬ (103 : Nat) = 99 by decide), d3c.2.1.2.get 102 (by decide) rfl, un _ (show ¬ (102 : Nat) = 98 by decide), d2c.2.1.2.get 102 (by decide) rfl, un _ (show ¬ (102 : Nat) = 97 by decide), d1c.2.1.2.get 102 (by decide) rfl, un _ (show ¬ (102 : Nat) = 96 by decide), d0c.2.1.2.get 102 (by decide) rfl, b3.2.1.2.get 102 (by decide) rfl, fm1.get 102 (by decide) rfl, d3c.2.1.2.get 103 (by decide) rfl, un _ (show ¬ (103 : Nat) = 98 by decide), d2c.2.1.2.get 103 (by decide) rfl, un _ (show ¬ (103 : Nat) = 97 by decide), d1c.2.1.2.get 103 (by decide) rfl, un _ (show ¬ (103 : Nat) = 96 by decide), d0c.2.1.2.get 103 (by decide) rfl, b3.2.1.2.get 103 (by decide) rfl, fm1.get 103 (by decide) rfl]
            exact o.2.2.2.2 i hi
          refine ⟨un_add (by omega) hC.2.1.1 clt T1 (fun s _ => cs s) (by rw [j29]; rfl) (fun s j hs hj => ?_), ?_, ?_, ?_, ?_, ?_, ?_⟩
          · have := b5 o2 s j hs (by unfold cn; rw [g28]; exact hj)
            rwa [g29] at this
          · exact T2.ag (by rw [cs 0, if_neg (by decide)]) (fk 30 rfl (by decide)) (fk 31 rfl (by decide)) (fk 32 rfl (by decide)) (gk 92 rfl (by decide)) (gk 93 rfl (by decide)) (gk 94 rfl (by decide))
          · rw [cs 1, if_pos rfl]
            have all : MeR σ8 τ8 sd (cn σ 1 + 1) := fun m hm => by
              by_cases e : m = cn σ 1
              · subst e; exact me meN
              · exact (meO m (Nat.lt_of_le_of_ne (Nat.le_of_lt_succ hm) e)).tf e u4
            exact all.ag (fun k k1 k2 => t3.2.1.1.get k (fun q => by rw [q] at k2; exact absurd k2 (by decide)) (nin47 k1 k2)) (fun k k1 k2 => by rw [GA.get k (fun q => by rw [q] at k1; exact absurd k1 (by decide)) (ninA k1 k2), t3.2.1.2.get k (fun q => by rw [q] at k1; exact absurd k1 (by decide)) rfl])
          · exact T4.ag (by rw [cs 2, if_neg (by decide)]) (fk 41 rfl (by decide)) (fk 42 rfl (by decide)) (gk 113 rfl (by decide)) (gk 114 rfl (by decide))
          · exact T5.ag (by rw [cs 3, if_neg (by decide)]) (by rw [cs 1, if_pos rfl]; exact Nat.le_succ _) (fk 43 rfl (by decide)) (fk 44 rfl (by decide)) (gk 116 rfl (by decide)) (gk 117 rfl (by decide))
          · exact T6.ag (by rw [cs 4, if_neg (by decide)]) (fk 40 rfl (by decide)) (gk 119 rfl (by decide)) (gk 120 rfl (by decide)) (gk 121 rfl (by decide))
          · exact T7.ag (fk 27 rfl (by decide)) (fk 45 rfl (by decide)) (fk 46 rfl (by decide)) (fun k k1 k2 => gk k (ninL k1 k2) (fun q => by rw [q] at k1; exact absurd k1 (by decide))) (gk 122 rfl (by decide)) (gk 123 rfl (by decide)) (kf 56 rfl) (kf 40 rfl)
    · have fs := PS7.fs z6
      refine ⟨σ6, τ7, run _ (Or.inl ⟨z6, rfl⟩), mhead _ ?_, SI.bad PS7 z6, FC.mono rfl rfl, MG7, fun q => absurd q z6⟩
      rw [a2, bsome, if_neg (fun q => q z13), m192 τ7 ?_, bsome, bq_92_238]
      rw [bq_192_148, if_pos (ne0_of fs.1), bq_192_191, mm_f fs.1, bsome, if_neg (Int.not_le.mpr fs.1)]
  · have u2 : ¬ σ6 47 6 = 0 := fun q => z1 (CX6.z0 q)
    refine ⟨σ6, τ1, run _ (Or.inl ⟨u2, rfl⟩), mhead _ ?_, SI.bad (a3.1.stayC z1 CX6) u2, FC.mono rfl rfl, MG.sm fm1, fun q => absurd q u2⟩
    rw [a2, bsome, if_pos (ne0_of (a5 z1)), bq_92_238]
end PK
