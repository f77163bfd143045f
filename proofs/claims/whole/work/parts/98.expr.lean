/-! READ: an expression, whole -/
section PQ
variable {X N : Nat} {σ τ σ' τ' : am_Sg} {t sd g p0 q0 t0 : Nat}
theorem strn0 {x : Int} (h : ¬ isop x) : strn x = 0 := by
  unfold isop at h
  unfold strn
  rw [if_neg (by omega), if_neg (by omega)]
theorem m_145 (X : Nat) (q : ∀ k : Int, k = 8 ∨ k = 9 ∨ k = 10 ∨ k = 15 → vcI X 91 [vP 80, vI k] τ = some (0, τ)) : vv X 255 145 [some (vP 80), some (vI 0), none] [] τ = vv X 255 186 [some (vP 80), some (vI 0), none] [vI 0] τ := by
  rw [bq_255_145, q 8 (Or.inl rfl), bsome]
  dsimp +instances only
  rw [if_neg (fun w => w rfl), q 9 (Or.inr (Or.inl rfl)), bsome]
  dsimp +instances only
  rw [if_neg (fun w => w rfl), q 10 (Or.inr (Or.inr (Or.inl rfl))), bsome]
  dsimp +instances only
  rw [if_neg (fun w => w rfl), q 15 (Or.inr (Or.inr (Or.inr rfl))), bsome]
  dsimp +instances only
  rw [if_pos rfl]
theorem st_end (X : Nat) {W : List Int} {n s c i : Nat} {out : Ops} (sd1 : sd ≤ 1) (L : LI N g sd p0 q0 t0 σ τ W n s c out 0 t) (hi : i ≤ 400) (ho : ¬ isop (σ 4 t)) (e : ¬ (σ 4 t = 41 ∧ 0 < n)) : St X N g sd p0 q0 t0 σ τ n 0 i t := by
  obtain ⟨⟨f, te⟩, er, h12, hcn, hp, h20⟩ := L
  rw [if_neg (by decide)] at er
  have t4 := PS.t400 te f
  have kr := (te.2.1 t f.1).2.1
  have ni : ¬ (400 : Int) < (i : Int) := by omega
  have e5 : σ 47 5 = σ 4 t := f.2.2.2.1
  have hcL : cL X g n 0 i σ = vv X 246 166 [some (vP 47), none, some (vI (n : Int)), none, none, none] [] σ := by
    unfold cL
    rw [bq_246_12, if_neg ni, if_neg (fun q => q f.2.1.1), if_pos (show ((0 : Nat) : Int) = 0 from rfl), e5, bq_246_74, if_pos (show ((0 : Nat) : Int) = 0 from rfl), c_str, strn0 ho, bsome]
    dsimp +instances only
    rw [if_pos (by decide)]
    by_cases y : σ 4 t = 41
    · rw [if_neg (fun q => q y), if_pos (show (n : Int) ≤ 0 from Int.ofNat_le.mpr (Nat.not_lt.mp fun q => e ⟨y, q⟩))]
    · rw [if_pos y]
  have hmL : mL X 0 τ = vv X 255 186 [some (vP 80), some (vI 0), none] [vI 0] τ := by
    have q4 : ∀ k : Int, k = 8 ∨ k = 9 ∨ k = 10 ∨ k = 15 → vcI X 91 [vP 80, vI k] τ = some (0, τ) := fun k hk => mi_n f.2.1.2 f.2.2.1.2 t4 (fun w => ho (by
      rcases hk with hk | hk | hk | hk
      · exact Or.inr (Or.inr (Or.inl ((kr_plus _ _ kr).mpr (w.trans hk))))
      · exact Or.inr (Or.inr (Or.inr ((kr_minus _ _ kr).mpr (w.trans hk))))
      · exact Or.inl ((kr_times _ _ kr).mpr (w.trans hk))
      · exact Or.inr (Or.inl ((kr_over _ _ kr).mpr (w.trans hk)))))
    unfold mL
    rw [if_neg (by decide), bq_255_96]
    by_cases y : τ 83 t = 7
    · have y' : σ 4 t = 41 := (kr_close _ _ kr).mpr y
      rw [mi_y f.2.1.2 f.2.2.1.2 t4 y, bsome]
      dsimp +instances only
      rw [if_neg (by decide), h12, if_pos (show (n : Int) ≤ 0 from Int.ofNat_le.mpr (Nat.not_lt.mp fun q => e ⟨y', q⟩))]
      exact m_145 X q4
    · rw [mi_n f.2.1.2 f.2.2.1.2 t4 y, bsome]
      dsimp +instances only
      rw [if_pos rfl]
      exact m_145 X q4
  by_cases z : n = 0
  · subst z
    obtain ⟨W1, s1, c1, out1, σ1, τ1, r1, r2, er1, ⟨r4, r5⟩, cf, mx⟩ := l_rel X sd1 (q := 1) (Or.inl rfl) W s c out σ τ er
    have r1' : vcV X 281 [vP 47, vI 1] σ = some σ1 := vV_of r1 rfl
    have r2' : vcV X 283 [vP 80, vI 0] τ = some τ1 := vV_of r2 rfl
    have f1 : NF N σ1 τ1 t := f.cf cf mx
    have te1 : TE σ1 τ1 N := te.fr cf.1 mx.1 rfl rfl
    have c0 : c1 = 0 := by
      rcases WK.s0 er1.2.2.2.2.2.1.1 r4 with ⟨-, -, q⟩ | ⟨r, n', s', -, q, -⟩
      · exact q
      · exact absurd q (Nat.ne_of_lt (Nat.succ_pos _))
    subst c0
    refine Or.inl ⟨σ1, τ1, ?_, ?_, ⟨te1, Or.inr ⟨t, f1⟩⟩, XF.cf cf, YF.mx mx, fun q => ?_, fun _ => ⟨out1, t, f1, er1.1, er1.2.1, er1.2.2.1, er1.2.2.2.2.2.2.2, (mx.1.fld 12 rfl).trans h12, ?_⟩⟩
    · rw [hcL, bq_246_166, r1', bsome, if_pos (by decide), bq_246_180]
    · rw [hmL, bq_255_186, if_neg (fun q => q rfl), h12, if_pos (by decide), bq_255_204, r2', bsome]
    · unfold ok0 at q ⊢
      rw [cf.2.1 6 (by decide), cf.2.1 8 (by decide)] at q
      exact q
    · have r5' : out1.length = out.length + c := r5
      rw [r5']
      exact hcn
  · -- a bracket is open
    have np : ¬ (n : Int) ≤ 0 := fun q => z (Nat.le_zero.mp (Int.ofNat_le.mp q))
    have erf : ER g sd p0 q0 σ (fm τ t 1) W n s c out (c + 1) := er.ag rfl rfl rfl rfl (fm_fr.get 122 (by decide) rfl) (fm_fr.get 123 (by decide) rfl) (fm_fr.get 124 (by decide) rfl) (fm_fr.fld 56 rfl) (fm_fr.fld 60 rfl)
    obtain ⟨W1, s1, c1, out1, σ1, τ1, r1, r2, er1, -, cf, mx⟩ := l_rel X sd1 (q := 1) (Or.inl rfl) W s c out σ (fm τ t 1) erf
    have r1' : vcV X 281 [vP 47, vI 1] σ = some σ1 := vV_of r1 rfl
    have r2' : vcV X 283 [vP 80, vI 0] (fm τ t 1) = some τ1 := vV_of r2 rfl
    have g6 : σ1 47 6 = 0 := (cf.2.1 6 (by decide)).trans f.2.1.1
    have g4 : σ1 47 4 = (t : Int) := (cf.2.1 4 (by decide)).trans f.2.2.1.1
    have nz : ¬ fl σ1 t 1 47 6 = 0 := by show ¬ (1 : Int) = 0; decide
    have t13 : τ1 80 13 = 1 := mx.1.fld 13 rfl
    have t14 : τ1 80 14 = τ 84 t := mx.1.fld 14 rfl
    have cfr : Fr [27, 46, 47] [] σ (fl σ1 t 1) := cf.1.tr (fl_fr.mono rfl rfl)
    have mfr : Fr [122, 123] [13, 14, 56, 60] τ τ1 := (show Fr [122, 123] [13, 14, 56, 60] τ (fm τ t 1) from (Fr.rf.upf rfl).upf rfl).tr (mx.1.mono rfl rfl)
    have ps : PS N (fl σ1 t 1) τ1 := by
      refine ⟨te.fr cfr mfr rfl rfl, Or.inl ⟨by rw [t13]; decide, by rw [t13]; rfl, ?_⟩⟩
      rw [t14]
      show σ1 5 t = τ 84 t
      rw [cf.1.get 5 (by decide) rfl]
      exact (te.2.1 t f.1).1
    refine Or.inl ⟨fl σ1 t 1, τ1, ?_, ?_, EP.bad ps nz ((XF.cf cf).tr (XF.sm fl_fr)) ((YF.sm fm_fr).tr (YF.mx mx))⟩
    · rw [hcL, bq_246_166, r1', bsome, if_neg np, cf_go g6 g4 t4, bsome, bq_246_180]
    · rw [hmL, bq_255_186, if_neg (fun q => q rfl), h12, if_neg np, mf_go f.2.1.2 f.2.2.1.2 t4, bsome, bq_255_204, r2', bsome]
theorem l_loop (X : Nat) (sd1 : sd ≤ 1) (hg : g < 2) : ∀ (m i : Nat) (σ τ : am_Sg) (W : List Int) (n s c : Nat) (out : Ops) (due t : Nat), i + m = 401 → i ≤ t → due ≤ 1 → LI N g sd p0 q0 t0 σ τ W n s c out due t → ∃ σ' τ', cL X g n due i σ = some (none, σ') ∧ mL X due τ = some (none, τ') ∧ EP N g sd p0 q0 t0 σ τ σ' τ' := by
  intro m
  induction m with
  | zero =>
    intro i σ τ W n s c out due t e hit _ L
    have := PS.t400 L.1.2 L.1.1
    omega
  | succ m ih =>
    intro i σ τ W n s c out due t e hit hd L
    have i4 : i ≤ 400 := by omega
    have st : St X N g sd p0 q0 t0 σ τ n due i t := by
      rcases (show due = 0 ∨ due = 1 by omega) with z | z
      · subst z
        by_cases ho : isop (σ 4 t)
        · exact st_op X sd1 L i4 ho
        · by_cases y : σ 4 t = 41 ∧ 0 < n
          · exact st_close X sd1 L i4 y.1 y.2
          · exact st_end X sd1 L i4 ho y
      · subst z
        by_cases y : σ 4 t = 40
        · exact st_open X L i4 y
        · exact st_unit X sd1 hg L i4 y
    rcases st with q | ⟨σ1, τ1, W1, n1, s1, c1, out1, due1, t1, d1, k1, k2, L1, tl, xf, yf, ok⟩
    · exact q
    · obtain ⟨σ', τ', a1, a2, a3⟩ := ih (i + 1) σ1 τ1 W1 n1 s1 c1 out1 due1 t1 (by omega) (by omega) d1 L1
      exact ⟨σ', τ', k1.trans a1, k2.trans a2, a3.tr xf yf ok⟩
theorem f3_fr {x : Int} : Fr [47] [] σ (am_upd σ 47 3 x) := Fr.rf.upd rfl (by decide)
theorem f60_fr {x : Int} : Fr [] [60] τ (am_upd τ 80 60 x) := Fr.rf.upf rfl
theorem f3_47 {x : Int} : ∀ j, 4 ≤ j → am_upd σ 47 3 x 47 j = σ 47 j := fun j hj => by rw [ue, upa, if_neg (by omega)]
theorem y60 {x : Int} : YF sd q0 τ (am_upd τ 80 60 x) := ⟨f60_fr.mono rfl rfl, fun j _ => ⟨by rw [f60_fr.get 122 (by decide) rfl], by rw [f60_fr.get 123 (by decide) rfl]⟩, MG.rf.upf rfl⟩
/-- a whole expression, where there is no fault yet -/
theorem e_expr (X : Nat) (sd1 : sd ≤ 1) (hg : g < 2) (h : PS N σ τ) (f : NF N σ τ t) (h19 : σ 27 19 = (p0 : Int)) (h56 : τ 80 56 = (q0 : Int)) (h12 : τ 80 12 = 0) (hb : p0 ≤ t ∧ 420 * sd ≤ q0 ∧ q0 ≤ 420 * sd + t) (h20 : 0 ≤ σ 27 20 ∧ σ 27 20 ≤ 3) : ∃ σ' τ', vcV X 246 [vP 47, vI (g : Int)] σ = some σ' ∧ vcV X 255 [vP 80] τ = some τ' ∧ EP N g sd p0 q0 t σ τ σ' τ' := by
  have t4 := PS.t400 h.1 f
  have fa : NF N (am_upd σ 47 3 0) (am_upd τ 80 60 0) t := f.ag (f3_fr.get 4 (by decide) rfl) f3_47 (f60_fr.get 84 (by decide) rfl) (fun j hj => f60_fr.fld j (f60_5 hj))
  have tea : TE (am_upd σ 47 3 0) (am_upd τ 80 60 0) N := h.1.fr f3_fr f60_fr rfl rfl
  have L : LI N g sd p0 q0 t (am_upd σ 47 3 0) (am_upd τ 80 60 0) [] 0 0 0 [] 1 t := by
    refine ⟨⟨fa, tea⟩, ?_, ?_, by show 0 + 0 + t ≤ t; omega, ⟨hb.1, hb.2.2⟩, ?_⟩
    · rw [if_pos rfl]
      refine ⟨⟨trivial, ?_⟩, ⟨trivial, ?_⟩, rfl, ⟨trivial, ?_⟩, ⟨trivial, ?_⟩, ⟨⟨rfl, rfl, rfl⟩, by decide⟩, ⟨?_, hb.2.1, ?_⟩, fun _ o ho => absurd ho (by simp)⟩
      · rw [f3_fr.get 27 (by decide) rfl]; exact h19
      · rw [f60_fr.fld 56 rfl]; exact h56
      · rw [ue, upe]; rfl
      · rw [ue, upe]; rfl
      · show p0 + 0 + 0 ≤ 400; omega
      · show q0 + 0 + 0 ≤ 420 * sd + 400; omega
    · rw [f60_fr.fld 12 rfl]; exact h12
    · rw [f3_fr.get 27 (by decide) rfl]; exact h20
  obtain ⟨σ', τ', a1, a2, a3⟩ := l_loop X sd1 hg 401 0 (am_upd σ 47 3 0) (am_upd τ 80 60 0) [] 0 0 0 [] 1 t rfl (Nat.zero_le _) (Nat.le_refl _) L
  refine ⟨σ', τ', vV_of ((bq_246_0 X _ σ).trans a1) rfl, vV_of ((bq_255_0 X τ).trans ?_) rfl, a3.tr (XF.sm f3_fr) y60 (fun q => by
    unfold ok0 at q ⊢
    rw [f3_47 6 (by decide), f3_47 8 (by decide)] at q
    exact q)⟩
  rw [h12, bq_255_12, if_neg (by decide), if_neg (fun q => q fa.2.1.2)]
  unfold mL at a2
  rw [if_pos rfl] at a2
  exact a2
/-- and where there is one -/
theorem c_expr_f (X : Nat) (h : ¬ σ 47 6 = 0) : vcV X 246 [vP 47, vI (g : Int)] σ = some (am_upd σ 47 3 0) := by
  have h' : ¬ am_upd σ 47 3 0 47 6 = 0 := by rw [f3_47 6 (by decide)]; exact h
  have := c_out (g := g) X (n := 0) (due := 1) (i := 0) h'
  unfold cL at this
  exact vV_of ((bq_246_0 X _ σ).trans this) rfl
theorem m_expr_f (X : Nat) (h : 0 < τ 80 13) : vcV X 255 [vP 80] τ = some (am_upd τ 80 60 0) := by
  have h' : ¬ am_upd τ 80 60 0 80 13 = 0 := by rw [f60_fr.fld 13 rfl]; exact ne0_of h
  refine vV_of ((bq_255_0 X τ).trans ?_) rfl
  rw [bq_255_12, if_neg (by decide), if_pos h', bq_255_272]
end PQ
