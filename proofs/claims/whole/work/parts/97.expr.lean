/-! READ: expressions, operators, closing brackets, the end -/
section PP
variable {X N : Nat} {σ τ σ' τ' : am_Sg} {t sd g p0 q0 t0 : Nat}
theorem NF.cf (f : NF N σ τ t) (c : CF p0 σ σ') (m : MX sd q0 τ τ') : NF N σ' τ' t := f.ag (c.1.get 4 (by decide) rfl) (fun j hj => c.2.1 j (fun q => by rw [q] at hj; exact absurd hj (by decide))) (m.1.get 84 (by decide) rfl) (fun j hj => m.1.fld j (by
  cases hc : [56, 60].contains j with
  | false => rfl
  | true =>
    have : j = 56 ∨ j = 60 := by simpa using hc
    rcases this with e | e <;> rw [e] at hj <;> cases hj))
theorem mwt_fr {l : Nat} {x : Int} : Fr [124] [60] τ (mwt τ l x) := (Fr.rf.upd rfl (by decide)).upf rfl
theorem f60_5 {j : Nat} (h : [11, 13, 14, 15, 16].contains j = true) : [60].contains j = false := by
  cases hc : [60].contains j with
  | false => rfl
  | true =>
    have : j = 60 := by simpa using hc
    rw [this] at h
    cases h
theorem f612_5 {j : Nat} (h : [11, 13, 14, 15, 16].contains j = true) : [60, 12].contains j = false := by
  cases hc : [60, 12].contains j with
  | false => rfl
  | true =>
    have : j = 60 ∨ j = 12 := by simpa using hc
    rcases this with e | e <;> rw [e] at h <;> cases h
theorem kr_sg {a b : Int} (h : KR a b) (ho : isop a) : b = sgM a := by
  have h2 := List.all_eq_true.mp (show krl.all (fun p => decide ((p.1 = 42 ∨ p.1 = 47 ∨ p.1 = 43 ∨ p.1 = 45) → p.2 = sgM p.1)) = true by decide +kernel) _ (kr_mem h)
  exact of_decide_eq_true h2 ho
/-- an operator: the reference's way to what comes out -/
theorem m_op (X : Nat) {x : Int} (ho : isop x) (h13 : τ 80 13 = 0) (t11 : τ 80 11 = (t : Int)) (t4 : t ≤ 400) (e83 : τ 83 t = sgM x) : vv X 255 96 [some (vP 80), some (vI 0), none] [] τ = vv X 255 234 [some (vP 80), some (vI 0), some (vI 1)] [vI ((strn x - 1 : Nat) : Int), vP 80] τ := by
  have n7 : ¬ τ 83 t = 7 := by
    rw [e83]
    rcases ho with h | h | h | h <;> subst h <;> decide
  rw [bq_255_96, mi_n h13 t11 t4 n7, bsome]
  dsimp +instances only
  rw [if_pos rfl, bq_255_145]
  have q : ∀ k : Int, ¬ sgM x = k → vcI X 91 [vP 80, vI k] τ = some (0, τ) := fun k hk => mi_n h13 t11 t4 (by rw [e83]; exact hk)
  have y : ∀ k : Int, sgM x = k → vcI X 91 [vP 80, vI k] τ = some (1, τ) := fun k hk => mi_y h13 t11 t4 (by rw [e83]; exact hk)
  have tl : vv X 255 181 [some (vP 80), some (vI 0), none] [] τ = vv X 255 234 [some (vP 80), some (vI 0), some (vI 1)] [vI ((strn x - 1 : Nat) : Int), vP 80] τ := by
    rw [bq_255_181, bq_255_186, if_pos (by decide)]
    rcases ho with h | h | h | h <;> subst h
    · rw [y 10 (by decide), bsome]
      dsimp +instances only
      rw [if_pos (by decide), bq_255_229]
      rfl
    · rw [q 10 (by decide), bsome]
      dsimp +instances only
      rw [if_neg (fun w => w rfl), y 15 (by decide), bsome]
      dsimp +instances only
      rw [if_neg (by decide), bq_255_229]
      rfl
    · rw [q 10 (by decide), bsome]
      dsimp +instances only
      rw [if_neg (fun w => w rfl), q 15 (by decide), bsome]
      dsimp +instances only
      rw [if_pos rfl]
      rfl
    · rw [q 10 (by decide), bsome]
      dsimp +instances only
      rw [if_neg (fun w => w rfl), q 15 (by decide), bsome]
      dsimp +instances only
      rw [if_pos rfl]
      rfl
  rcases ho with h | h | h | h
  · rw [q 8 (by rw [h]; decide), bsome]
    dsimp +instances only
    rw [if_neg (fun w => w rfl), q 9 (by rw [h]; decide), bsome]
    dsimp +instances only
    rw [if_neg (fun w => w rfl), y 10 (by rw [h]; decide), bsome]
    dsimp +instances only
    rw [if_pos (by decide)]
    exact tl
  · rw [q 8 (by rw [h]; decide), bsome]
    dsimp +instances only
    rw [if_neg (fun w => w rfl), q 9 (by rw [h]; decide), bsome]
    dsimp +instances only
    rw [if_neg (fun w => w rfl), q 10 (by rw [h]; decide), bsome]
    dsimp +instances only
    rw [if_neg (fun w => w rfl), y 15 (by rw [h]; decide), bsome]
    dsimp +instances only
    rw [if_neg (by decide)]
    exact tl
  · rw [y 8 (by rw [h]; decide), bsome]
    dsimp +instances only
    rw [if_pos (by decide)]
    exact tl
  · rw [q 8 (by rw [h]; decide), bsome]
    dsimp +instances only
    rw [if_neg (fun w => w rfl), y 9 (by rw [h]; decide), bsome]
    dsimp +instances only
    rw [if_pos (by decide)]
    exact tl
theorem st_op (X : Nat) {W : List Int} {n s c i : Nat} {out : Ops} (sd1 : sd ≤ 1) (L : LI N g sd p0 q0 t0 σ τ W n s c out 0 t) (hi : i ≤ 400) (ho : isop (σ 4 t)) : St X N g sd p0 q0 t0 σ τ n 0 i t := by
  obtain ⟨⟨f, te⟩, er, h12, hcn, hp, h20⟩ := L
  rw [if_neg (by decide)] at er
  have t4 := PS.t400 te f
  have ni : ¬ (400 : Int) < (i : Int) := by omega
  have hwi : w32 ((i : Int) + 1) = ((i + 1 : Nat) : Int) := w32_s1 (by omega)
  have e5 : σ 47 5 = σ 4 t := f.2.2.2.1
  have so := strn_op ho
  have hq : strn (σ 4 t) = 1 ∨ strn (σ 4 t) = 2 := by omega
  have sp : ¬ ((strn (σ 4 t) : Nat) : Int) ≤ 0 := by omega
  have tr : (0 : Int) ≤ (t : Int) ∧ (t : Int) < 403 := by omega
  have e83 : τ 83 t = sgM (σ 4 t) := kr_sg (te.2.1 t f.1).2.1 ho
  have k0 : ¬ σ 4 t = 0 := by unfold isop at ho; omega
  have k1 : ¬ σ 4 t = 1 := by unfold isop at ho; omega
  obtain ⟨W1, s1, c1, out1, σ1, τ1, r1, r2, er1, ⟨r4, r5⟩, cf, mx⟩ := l_rel X sd1 hq W s c out σ τ er
  have f1 : NF N σ1 τ1 t := f.cf cf mx
  have te1 : TE σ1 τ1 N := te.fr cf.1 mx.1 rfl rfl
  have wk1 := er1.2.2.2.2.2.1.1
  have n6 := er1.2.2.2.2.2.1.2
  have bd := WK.bd wk1
  have wl : W1.length < 24 := by omega
  have w64 : (0 : Int) ≤ (W1.length : Int) ∧ (W1.length : Int) < 64 := by omega
  have hwn : w32 ((W1.length : Int) + 1) = ((W1.length + 1 : Nat) : Int) := w32_s1 (by omega)
  have e41 : σ1 4 t = σ 4 t := congrFun (cf.1.get 4 (by decide) rfl) t
  -- it waits
  have fa : NF N (cwt σ1 W1.length (σ 4 t)) (mwt τ1 W1.length (sgM (σ 4 t))) t := f1.ag (cwt_fr.get 4 (by decide) rfl) cwt47 (mwt_fr.get 84 (by decide) rfl) (fun j hj => mwt_fr.fld j (f60_5 hj))
  have psa : PS N (cwt σ1 W1.length (σ 4 t)) (mwt τ1 W1.length (sgM (σ 4 t))) := ⟨te1.fr cwt_fr mwt_fr rfl rfl, Or.inr ⟨t, fa⟩⟩
  obtain ⟨b, σ2, τ2, a1, a2, a3, a4, -⟩ := l_go X psa fa ((congrFun (cwt_fr.get 4 (by decide) rfl) t).trans e41) k0 k1
  have hcL : cL X g n 0 i σ = cL X g n 1 (i + 1) σ2 := by
    unfold cL
    have r1' : vcV X 281 [vP 47, vI ((strn (σ 4 t) : Nat) : Int)] σ = some σ1 := vV_of r1 rfl
    rw [bq_246_12, if_neg ni, if_neg (fun q => q f.2.1.1), if_pos (show ((0 : Nat) : Int) = 0 from rfl), e5, bq_246_74, if_pos (show ((0 : Nat) : Int) = 0 from rfl), c_str, bsome]
    dsimp +instances only
    rw [if_neg sp, c_str, bsome]
    dsimp +instances only
    rw [r1', bsome, c_wait X wl er1.2.2.2.1.2, bsome, a1, bsome]
    dsimp +instances only
    rw [bq_246_181, hwi]
    rfl
  have hmL : mL X 0 τ = vv X 255 12 [some (vP 80), some (vI 0), some (vI 1)] [] τ2 := by
    unfold mL
    have r2' : vcV X 283 [vP 80, vI ((strn (σ 4 t) - 1 : Nat) : Int)] τ = some τ1 := vV_of r2 rfl
    rw [if_neg (by decide), m_op X ho f.2.1.2 f.2.2.1.2 t4 e83, bq_255_234, r2', bsome, f1.2.2.1.2, if_pos tr, tn_nat, mx.1.get 83 (by decide) rfl, e83, er1.2.2.2.2.1.2, if_pos w64, tn_nat, hwn, bq_255_265]
    exact congrArg (fun o => Option.bind o _) a2
  have xf : XF p0 σ σ2 := (XF.cf cf).tr (cwt_xf.tr (XF.sm a3.2.1.1))
  have yf : YF sd q0 τ τ2 := (YF.mx mx).tr (mwt_yf.tr (YF.sm a3.2.1.2))
  have ok : ok0 σ2 → ok0 σ := fun q => by
    have q1 := a3.2.2.2.1 q
    unfold ok0 at q1 ⊢
    rw [cwt47 6 (by decide), cwt47 8 (by decide), cf.2.1 6 (by decide), cf.2.1 8 (by decide)] at q1
    exact q1
  by_cases z : σ2 47 6 = 0
  · obtain ⟨c1', tl, c2, c3⟩ := a4 z
    obtain ⟨u, fu⟩ := a3.1.nf z
    have eu : u = t + 1 := by
      have e1 : σ2 47 4 = ((t + 1 : Nat) : Int) := by rw [c2]; rfl
      exact Int.ofNat.inj (fu.2.2.1.1.symm.trans e1)
    subst eu
    have hcn1 : out1.length + c1 + t0 ≤ t := by rw [r5]; exact hcn
    have er2 := er1.push (x := σ 4 t) (n' := n) (s' := strn (σ 4 t)) (c' := c1 + 1) (Or.inr ⟨c1, s1, ho, rfl, rfl, r4, wk1⟩) n6 ⟨by have := bd1 hp.1 hcn1 tl; omega, by have := bd2 hp.2 hcn1 tl; omega⟩
    refine Or.inr ⟨σ2, τ2, σ 4 t :: W1, n, strn (σ 4 t), c1 + 1, out1, 1, t + 1, Nat.le_refl _, hcL, ?_, ⟨⟨fu, a3.1.1⟩, by rw [if_pos rfl]; exact er2.nx a3, ?_, ?_, hp, ?_⟩, Nat.lt_succ_self _, xf, yf, ok⟩
    · rw [hmL, bq_255_12, if_neg (by decide), if_neg (fun q => q fu.2.1.2)]
      unfold mL
      rw [if_pos rfl]
    · rw [a3.2.1.2.fld 12 rfl, mwt_fr.fld 12 rfl, mx.1.fld 12 rfl]
      exact h12
    · rw [show out1.length + (c1 + 1) + t0 = out1.length + c1 + t0 + 1 by omega]
      exact Nat.succ_le_succ hcn1
    · exact (xf.2.2.1 h20).1
  · have fs := a3.1.fs z
    refine Or.inl ⟨σ2, τ2, hcL.trans (c_out X z), ?_, EP.bad a3.1 z xf yf⟩
    rw [hmL, bq_255_12, if_neg (by decide), if_pos (ne0_of fs.1), bq_255_272]
/-- nothing waits, or a bracket: what is left when all operators have come out -/
theorem WK.s0 {W : List Int} {n s c : Nat} (h : WK W n s c) (hs : s < 1) : (W = [] ∧ n = 0 ∧ c = 0) ∨ (∃ r n' s', W = 40 :: r ∧ n = n' + 1 ∧ WK r n' s' c) := by
  match W, h with
  | [], h => exact Or.inl ⟨rfl, h.1, h.2.2⟩
  | x :: r, h =>
    rcases h with ⟨x40, -, n', s', hn, hr⟩ | ⟨c', s', ho, e, -, -, -⟩
    · exact Or.inr ⟨r, n', s', by rw [x40], hn, hr⟩
    · have := (strn_op ho).1
      omega
/-- a fault behind a unit: the reference lets all come out and ends -/
theorem m_96_f (X : Nat) (h : 0 < τ 80 13) (r : vcV X 283 [vP 80, vI 0] τ = some τ') : vv X 255 96 [some (vP 80), some (vI 0), none] [] τ = some (none, τ') := by
  have q : ∀ k : Int, vcI X 91 [vP 80, vI k] τ = some (0, τ) := fun k => mi_f (ne0_of h)
  have fin : vv X 255 204 [some (vP 80), none, none] [] τ = some (none, τ') := by rw [bq_255_204, r, bsome]
  rw [bq_255_96, q, bsome]
  dsimp +instances only
  rw [if_pos rfl, bq_255_145, q, bsome]
  dsimp +instances only
  rw [if_neg (fun w => w rfl), q, bsome]
  dsimp +instances only
  rw [if_neg (fun w => w rfl), q, bsome]
  dsimp +instances only
  rw [if_neg (fun w => w rfl), q, bsome]
  dsimp +instances only
  rw [if_pos rfl, bq_255_186, if_neg (fun w => w rfl)]
  by_cases z : τ 80 12 ≤ 0
  · rw [if_pos z]; exact fin
  · rw [if_neg z, mf_f h, bsome]; exact fin
theorem st_close (X : Nat) {W : List Int} {n s c i : Nat} {out : Ops} (sd1 : sd ≤ 1) (L : LI N g sd p0 q0 t0 σ τ W n s c out 0 t) (hi : i ≤ 400) (e : σ 4 t = 41) (hn : 0 < n) : St X N g sd p0 q0 t0 σ τ n 0 i t := by
  obtain ⟨⟨f, te⟩, er, h12, hcn, hp, h20⟩ := L
  rw [if_neg (by decide)] at er
  have t4 := PS.t400 te f
  have ni : ¬ (400 : Int) < (i : Int) := by omega
  have hwi : w32 ((i : Int) + 1) = ((i + 1 : Nat) : Int) := w32_s1 (by omega)
  have e5 : σ 47 5 = 41 := f.2.2.2.1.trans e
  have e83 : τ 83 t = 7 := (kr_close _ _ (te.2.1 t f.1).2.1).mp e
  have np : ¬ (n : Int) ≤ 0 := by omega
  obtain ⟨W1, s1, c1, out1, σ1, τ1, r1, r2, er1, ⟨r4, r5⟩, cf, mx⟩ := l_rel X sd1 (q := 1) (Or.inl rfl) W s c out σ τ er
  have f1 : NF N σ1 τ1 t := f.cf cf mx
  have te1 : TE σ1 τ1 N := te.fr cf.1 mx.1 rfl rfl
  have n6 := er1.2.2.2.2.2.1.2
  rcases WK.s0 er1.2.2.2.2.2.1.1 r4 with ⟨-, q, -⟩ | ⟨r, n', s', hW, hn', hr⟩
  · exact absurd q (Nat.ne_of_gt hn)
  subst hW
  have bd := WK.bd hr
  have rl : r.length < 24 := by omega
  have w3 : σ1 47 3 = ((r.length + 1 : Nat) : Int) := er1.2.2.2.1.2
  have w60 : τ1 80 60 = ((r.length + 1 : Nat) : Int) := er1.2.2.2.2.1.2
  have ew : w32 (((r.length + 1 : Nat) : Int) - 1) = ((r.length : Nat) : Int) := by rw [w32_id (by omega) (by omega)]; omega
  have emx : (if 0 < w32 (((r.length + 1 : Nat) : Int) - 1) then w32 (((r.length + 1 : Nat) : Int) - 1) else 0) = ((r.length : Nat) : Int) := by
    rw [ew]
    by_cases y : (0 : Int) < ((r.length : Nat) : Int)
    · rw [if_pos y]
    · rw [if_neg y]; omega
  have wn : w32 ((n : Int) + (-1)) = (n' : Int) := by rw [w32_id (by omega) (by omega)]; omega
  have wn2 : w32 ((n : Int) - 1) = (n' : Int) := by rw [w32_id (by omega) (by omega)]; omega
  have np' : n' ≤ 6 := by omega
  have p12 : τ1 80 12 = (n : Int) := (mx.1.fld 12 rfl).trans h12
  -- the bracket goes
  have F2 : Fr [47] [] σ1 (am_upd σ1 47 3 ((r.length : Nat) : Int)) := Fr.rf.upd rfl (by decide)
  have G2 : Fr [] [60, 12] τ1 (am_upd (am_upd τ1 80 60 ((r.length : Nat) : Int)) 80 12 (n' : Int)) := (Fr.rf.upf rfl).upf rfl
  have s47 : ∀ j, 4 ≤ j → am_upd σ1 47 3 ((r.length : Nat) : Int) 47 j = σ1 47 j := fun j hj => by rw [ue, upa, if_neg (fun q => by rw [q] at hj; exact absurd hj (by decide))]
  have fa : NF N (am_upd σ1 47 3 ((r.length : Nat) : Int)) (am_upd (am_upd τ1 80 60 ((r.length : Nat) : Int)) 80 12 (n' : Int)) t := f1.ag (F2.get 4 (by decide) rfl) s47 (G2.get 84 (by decide) rfl) (fun j hj => G2.fld j (f612_5 hj))
  have psa : PS N (am_upd σ1 47 3 ((r.length : Nat) : Int)) (am_upd (am_upd τ1 80 60 ((r.length : Nat) : Int)) 80 12 (n' : Int)) := ⟨te1.fr F2 G2 rfl rfl, Or.inr ⟨t, fa⟩⟩
  have e41 : am_upd σ1 47 3 ((r.length : Nat) : Int) 4 t = 41 := by rw [F2.get 4 (by decide) rfl, cf.1.get 4 (by decide) rfl]; exact e
  obtain ⟨b, σ2, τ2, a1, a2, a3, a4, -⟩ := l_go X psa fa e41 (by decide) (by decide)
  have er2 : ER g sd p0 q0 (am_upd σ1 47 3 ((r.length : Nat) : Int)) (am_upd (am_upd τ1 80 60 ((r.length : Nat) : Int)) 80 12 (n' : Int)) r n' s' c1 out1 (c1 + 1) := by
    obtain ⟨q1, q2, q3, q4, q5, q6, q7, q8⟩ := er1
    refine ⟨⟨?_, ?_⟩, ⟨?_, ?_⟩, q3, ⟨?_, ?_⟩, ⟨?_, ?_⟩, ⟨hr, np'⟩, q7, ?_⟩
    · rw [un _ (show ¬ (46 : Nat) = 47 by decide)]; exact q1.1
    · rw [un _ (show ¬ (27 : Nat) = 47 by decide)]; exact q1.2
    · rw [G2.get 122 (by decide) rfl, G2.get 123 (by decide) rfl]; exact q2.1
    · rw [G2.fld 56 rfl]; exact q2.2
    · rw [un _ (show ¬ (48 : Nat) = 47 by decide)]; exact q4.1.2
    · rw [ue, upe]
    · rw [G2.get 124 (by decide) rfl]; exact q5.1.2
    · rfl
    · rw [un _ (show ¬ (27 : Nat) = 47 by decide)]; exact q8
  have hcL : cL X g n 0 i σ = cL X g n' 0 (i + 1) σ2 := by
    unfold cL
    have r1' : vcV X 281 [vP 47, vI 1] σ = some σ1 := vV_of r1 rfl
    rw [bq_246_12, if_neg ni, if_neg (fun q => q f.2.1.1), if_pos (show ((0 : Nat) : Int) = 0 from rfl), e5, bq_246_74, if_pos (show ((0 : Nat) : Int) = 0 from rfl), c_str, bsome]
    dsimp +instances only
    rw [if_pos (by decide), if_neg (fun q => q rfl), if_neg np, r1', bsome, w3, emx, a1, bsome]
    dsimp +instances only
    rw [bq_246_181, hwi, wn]
  have hmL : mL X 0 τ = mL X 0 τ2 := by
    unfold mL
    have r2' : vcV X 283 [vP 80, vI 0] τ = some τ1 := vV_of r2 rfl
    rw [if_neg (by decide), if_neg (by decide), bq_255_96, mi_y f.2.1.2 f.2.2.1.2 t4 e83, bsome]
    dsimp +instances only
    rw [if_neg (by decide), h12, if_neg np, r2', bsome, w60, ew, p12, wn2, bq_255_138, a2, bsome]
  have xf : XF p0 σ σ2 := (XF.cf cf).tr ((XF.sm F2).tr (XF.sm a3.2.1.1))
  have yf : YF sd q0 τ τ2 := by
    refine (YF.mx mx).tr (YF.tr ?_ (YF.sm a3.2.1.2))
    exact ⟨G2.mono rfl rfl, fun j _ => ⟨by rw [G2.get 122 (by decide) rfl], by rw [G2.get 123 (by decide) rfl]⟩, (MG.rf.upf rfl).upf rfl⟩
  have ok : ok0 σ2 → ok0 σ := fun q => by
    have q1 := a3.2.2.2.1 q
    unfold ok0 at q1 ⊢
    rw [s47 6 (by decide), s47 8 (by decide), cf.2.1 6 (by decide), cf.2.1 8 (by decide)] at q1
    exact q1
  by_cases z : σ2 47 6 = 0
  · obtain ⟨c1', tl, c2, c3⟩ := a4 z
    obtain ⟨u, fu⟩ := a3.1.nf z
    have eu : u = t + 1 := by
      have e1 : σ2 47 4 = ((t + 1 : Nat) : Int) := by rw [c2]; rfl
      exact Int.ofNat.inj (fu.2.2.1.1.symm.trans e1)
    subst eu
    have hcn1 : out1.length + c1 + t0 ≤ t := by rw [r5]; exact hcn
    refine Or.inr ⟨σ2, τ2, r, n', s', c1, out1, 0, t + 1, by decide, hcL, hmL, ⟨⟨fu, a3.1.1⟩, by rw [if_neg (by decide)]; exact er2.nx a3, ?_, Nat.le_succ_of_le hcn1, hp, ?_⟩, Nat.lt_succ_self _, xf, yf, ok⟩
    · rw [a3.2.1.2.fld 12 rfl]
      rfl
    · exact (xf.2.2.1 h20).1
  · have fs := a3.1.fs z
    obtain ⟨W3, s3, c3, out3, σ3, τ3, v1, v2, -, -, -, mx3⟩ := l_rel X sd1 (q := 1) (Or.inl rfl) r s' c1 out1 σ2 τ2 (er2.nx a3)
    have ps3 : PS N σ2 τ3 := a3.1.cf (CF.rf (p0 := p0)) mx3
    refine Or.inl ⟨σ2, τ3, hcL.trans (c_out X z), ?_, EP.bad ps3 z xf (yf.tr (YF.mx mx3))⟩
    rw [hmL]
    unfold mL
    rw [if_neg (by decide)]
    exact m_96_f X fs.1 (vV_of v2 rfl)
end PP
