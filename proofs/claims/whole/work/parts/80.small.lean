/-! READ: the two parsers' small steps side by side -/
section PA
variable {X N : Nat} {σ τ : am_Sg} {k k' : Int} {t : Nat}
def TE (σ τ : am_Sg) (N : Nat) : Prop := N ≤ 400 ∧ (∀ j, j ≤ N → TKa σ τ j) ∧ (N = 400 ∨ σ 4 N = 0 ∨ σ 4 N = 1) ∧ (∀ i j, i < j → j ≤ N → σ 5 i < σ 5 j) ∧ (∀ j, j ≤ N → σ 4 j = 3 → 0 ≤ σ 6 j ∧ σ 6 j ≤ 9999)
def SL (σ τ : am_Sg) (t : Nat) : Prop := σ 47 8 = τ 80 15 ∧ (0 ≤ τ 80 15 ∧ τ 80 15 ≤ 5 ∧ σ 47 7 = -1) ∧ (¬ τ 80 15 = 0 → σ 47 9 = τ 80 16 ∧ ∃ j, j < t ∧ τ 80 16 = τ 84 j)
def NF (N : Nat) (σ τ : am_Sg) (t : Nat) : Prop := t ≤ N ∧ (σ 47 6 = 0 ∧ τ 80 13 = 0) ∧ (σ 47 4 = (t : Int) ∧ τ 80 11 = (t : Int)) ∧ σ 47 5 = σ 4 t ∧ SL σ τ t
def FS (σ τ : am_Sg) : Prop := 0 < τ 80 13 ∧ σ 47 6 = τ 80 13 ∧ σ 47 7 = τ 80 14
def PS (N : Nat) (σ τ : am_Sg) : Prop := TE σ τ N ∧ (FS σ τ ∨ ∃ t, NF N σ τ t)
def ok0 (σ : am_Sg) : Prop := σ 47 6 = 0 ∧ σ 47 8 = 0
/-- a step of both: what is kept -/
def Nx (N : Nat) (σ τ σ' τ' : am_Sg) : Prop := PS N σ' τ' ∧ (Fr [47] [] σ σ' ∧ Fr [] [11, 13, 14, 15, 16] τ τ') ∧ (¬ σ 47 6 = 0 → σ' 47 6 = σ 47 6 ∧ σ' 47 7 = σ 47 7) ∧ (ok0 σ' → ok0 σ) ∧ σ' 47 3 = σ 47 3 ∧ (σ' 47 6 = 0 → σ 47 4 ≤ σ' 47 4)
theorem TE.ag {σ' τ' : am_Sg} (h : TE σ τ N) (h4 : σ' 4 = σ 4) (h5 : σ' 5 = σ 5) (h6 : σ' 6 = σ 6) (h83 : τ' 83 = τ 83) (h84 : τ' 84 = τ 84) (h85 : τ' 85 = τ 85) (h86 : τ' 86 = τ 86) : TE σ' τ' N := by
  unfold TE TKa
  rw [h4, h5, h6, h83, h84, h85, h86]
  exact h
theorem TE.fr {σ' τ' : am_Sg} {cs js cs' js' : List Nat} (h : TE σ τ N) (f : Fr cs js σ σ') (f' : Fr cs' js' τ τ') (hc : nin cs [4, 5, 6] = true) (hc' : nin cs' [83, 84, 85, 86] = true) : TE σ' τ' N :=
  h.ag (nin_get f hc (by decide) rfl) (nin_get f hc (by decide) rfl) (nin_get f hc (by decide) rfl) (nin_get f' hc' (by decide) rfl) (nin_get f' hc' (by decide) rfl) (nin_get f' hc' (by decide) rfl) (nin_get f' hc' (by decide) rfl)
theorem Nx.rf (h : PS N σ τ) : Nx N σ τ σ τ := ⟨h, ⟨Fr.rf, Fr.rf⟩, fun _ => ⟨rfl, rfl⟩, fun h => h, rfl, fun _ => Int.le_refl _⟩
theorem Nx.tr {σ' τ' σ'' τ'' : am_Sg} (h : Nx N σ τ σ' τ') (h' : Nx N σ' τ' σ'' τ'') : Nx N σ τ σ'' τ'' := by
  obtain ⟨-, ⟨a1, a2⟩, a3, a4, a5, a6⟩ := h
  obtain ⟨b0, ⟨b1, b2⟩, b3, b4, b5, b6⟩ := h'
  refine ⟨b0, ⟨a1.tr b1, a2.tr b2⟩, fun z => ?_, fun z => a4 (b4 z), b5.trans a5, fun z => ?_⟩
  · obtain ⟨c1, c2⟩ := a3 z
    obtain ⟨d1, d2⟩ := b3 (by rw [c1]; exact z)
    exact ⟨d1.trans c1, d2.trans c2⟩
  · have e : σ' 47 6 = 0 := by
      by_cases w : σ' 47 6 = 0
      · exact w
      · rw [(b3 w).1] at z
        exact absurd z w
    exact Int.le_trans (a6 e) (b6 z)
theorem PS.te (h : PS N σ τ) : TE σ τ N := h.1
theorem PS.cases (h : PS N σ τ) : (¬ σ 47 6 = 0 ∧ FS σ τ) ∨ (σ 47 6 = 0 ∧ ∃ t, NF N σ τ t) := by
  rcases h.2 with f | ⟨t, f⟩
  · exact Or.inl ⟨by have := f.1; rw [f.2.1]; omega, f⟩
  · exact Or.inr ⟨f.2.1.1, t, f⟩
theorem PS.nf (h : PS N σ τ) (z : σ 47 6 = 0) : ∃ t, NF N σ τ t := by
  rcases h.cases with ⟨q, -⟩ | ⟨-, q⟩
  · exact absurd z q
  · exact q
theorem PS.fs (h : PS N σ τ) (z : ¬ σ 47 6 = 0) : FS σ τ := by
  rcases h.cases with ⟨-, q⟩ | ⟨q, -⟩
  · exact q
  · exact absurd q z
/-! the class's steps -/
def fl (σ : am_Sg) (t : Nat) (s : Int) : am_Sg := am_upd (am_upd σ 47 6 s) 47 7 (σ 5 t)
def tk (σ : am_Sg) (t : Nat) : am_Sg := am_upd (am_upd (am_upd (am_upd σ 47 10 (σ 5 t)) 47 11 (σ 6 t)) 47 4 ((t + 1 : Nat) : Int)) 47 5 (σ 4 (t + 1))
def nt (σ : am_Sg) (k : Int) : am_Sg := am_upd (am_upd σ 47 8 k) 47 9 (σ 47 10)
theorem ct_f (h : ¬ σ 47 6 = 0) : vcI X 233 [vP 47, vI k] σ = some (0, σ) := vI_of ((bq_233_0 X _ _).trans (by rw [if_neg h])) rfl
theorem ct_syn (h : σ 47 6 = 0) (hk : ¬ σ 47 5 = k) (h4 : σ 47 4 = (t : Int)) (ht : t ≤ 400) : vcI X 233 [vP 47, vI k] σ = some (0, fl σ t 1) := vI_of ((bq_233_0 X _ _).trans (by
  rw [if_pos h, if_pos hk, bq_233_27, if_neg hk, bq_233_41, h4, if_pos (by omega), tn_nat, bq_233_60]
  rfl)) rfl
theorem ct_room (h : σ 47 6 = 0) (hk : σ 47 5 = k) (h4 : σ 47 4 = 400) : vcI X 233 [vP 47, vI k] σ = some (0, fl σ 400 2) := vI_of ((bq_233_0 X _ _).trans (by
  rw [if_pos h, if_neg (fun q => q hk), h4, if_neg (by omega), bq_233_27, if_pos hk, bq_233_41, h4, if_pos (by omega), bq_233_60]
  rfl)) rfl
theorem ct_ok (h : σ 47 6 = 0) (hk : σ 47 5 = k) (h4 : σ 47 4 = (t : Int)) (ht : t < 400) : vcI X 233 [vP 47, vI k] σ = some (1, tk σ t) := vI_of ((bq_233_0 X _ _).trans (by
  have e : ∀ x y : Int, am_upd (am_upd σ 47 10 x) 47 11 y 47 4 = (t : Int) := fun _ _ => h4
  rw [if_pos h, if_neg (fun q => q hk), h4, if_pos (by omega), if_pos (by omega), tn_nat, bq_233_94, e, w32_s1 (by omega), if_pos (by omega), tn_nat, bq_233_120]
  rfl)) rfl
theorem cf_f (h : ¬ σ 47 6 = 0) : vcV X 182 [vP 47, vI k] σ = some σ := vV_of ((bq_182_0 X _ _).trans (by rw [if_pos h, bq_182_28])) rfl
theorem cf_go (h : σ 47 6 = 0) (h4 : σ 47 4 = (t : Int)) (ht : t ≤ 400) : vcV X 182 [vP 47, vI k] σ = some (fl σ t k) := vV_of ((bq_182_0 X _ _).trans (by
  rw [if_neg (fun q => q h), h4, if_pos (by omega), tn_nat, bq_182_28]
  rfl)) rfl
theorem cn_0 (h : σ 47 8 = 0) : vcV X 241 [vP 47, vI k] σ = some (nt σ k) := vV_of ((bq_241_0 X _ _).trans (by rw [if_neg (fun q => q h), bq_241_20]; rfl)) rfl
theorem cn_1 (h : ¬ σ 47 8 = 0) : vcV X 241 [vP 47, vI k] σ = some σ := vV_of ((bq_241_0 X _ _).trans (by rw [if_pos h, bq_241_20])) rfl
/-! the reference's -/
def fm (τ : am_Sg) (t : Nat) (s : Int) : am_Sg := am_upd (am_upd τ 80 13 s) 80 14 (τ 84 t)
def gm (τ : am_Sg) (t : Nat) : am_Sg := am_upd τ 80 11 ((t + 1 : Nat) : Int)
def nm (τ : am_Sg) (j : Nat) (k : Int) : am_Sg := am_upd (am_upd τ 80 15 k) 80 16 (τ 84 j)
theorem mi_f (h : ¬ τ 80 13 = 0) : vcI X 91 [vP 80, vI k] τ = some (0, τ) := vI_of ((bq_91_0 X _ _).trans (by rw [if_pos h, bq_91_24, bq_91_25, if_pos okZ0])) rfl
theorem mi_y (h : τ 80 13 = 0) (h4 : τ 80 11 = (t : Int)) (ht : t ≤ 400) (hk : τ 83 t = k) : vcI X 91 [vP 80, vI k] τ = some (1, τ) := vI_of ((bq_91_0 X _ _).trans (by
  rw [if_neg (fun q => q h), h4, if_pos (by omega), tn_nat, if_neg (fun q => q hk), bq_91_25, if_pos okZ1])) rfl
theorem mi_n (h : τ 80 13 = 0) (h4 : τ 80 11 = (t : Int)) (ht : t ≤ 400) (hk : ¬ τ 83 t = k) : vcI X 91 [vP 80, vI k] τ = some (0, τ) := vI_of ((bq_91_0 X _ _).trans (by
  rw [if_neg (fun q => q h), h4, if_pos (by omega), tn_nat, if_pos hk, bq_91_24, bq_91_25, if_pos okZ0])) rfl
theorem mf_f (h : 0 < τ 80 13) : vcV X 197 [vP 80, vI k] τ = some τ := vV_of ((bq_197_0 X _ _).trans (by rw [if_neg (by omega)])) rfl
theorem mf_go (h : τ 80 13 = 0) (h4 : τ 80 11 = (t : Int)) (ht : t ≤ 400) : vcV X 197 [vP 80, vI k] τ = some (fm τ t k) := vV_of ((bq_197_0 X _ _).trans (by
  rw [if_pos (by omega), h4, if_pos (by omega), tn_nat]
  rfl)) rfl
theorem mg_ok (h4 : τ 80 11 = (t : Int)) (ht : t < 400) : vcV X 248 [vP 80] τ = some (gm τ t) := vV_of ((bq_248_0 X _).trans (by
  rw [h4, if_pos (by omega), w32_s1 (by omega), bq_248_28]
  rfl)) rfl
theorem mg_room (h : τ 80 13 = 0) (h4 : τ 80 11 = 400) : vcV X 248 [vP 80] τ = some (fm τ 400 2) := vV_of ((bq_248_0 X _).trans (by
  rw [if_neg (fun q => q h4), mf_go (t := 400) h h4 (by omega), bsome, bq_248_28])) rfl
theorem mm_f (h : 0 < τ 80 13) : vcV X 251 [vP 80, vI k] τ = some τ := vV_of ((bq_251_0 X _ _).trans (by
  rw [mi_f (by omega), bsome]
  dsimp +instances only
  rw [if_pos rfl, mf_f h, bsome, bq_251_20])) rfl
theorem mm_syn (h : τ 80 13 = 0) (h4 : τ 80 11 = (t : Int)) (ht : t ≤ 400) (hk : ¬ τ 83 t = k) : vcV X 251 [vP 80, vI k] τ = some (fm τ t 1) := vV_of ((bq_251_0 X _ _).trans (by
  rw [mi_n h h4 ht hk, bsome]
  dsimp +instances only
  rw [if_pos rfl, mf_go h h4 ht, bsome, bq_251_20])) rfl
theorem mm_ok (h : τ 80 13 = 0) (h4 : τ 80 11 = (t : Int)) (ht : t < 400) (hk : τ 83 t = k) : vcV X 251 [vP 80, vI k] τ = some (gm τ t) := vV_of ((bq_251_0 X _ _).trans (by
  rw [mi_y h h4 (by omega) hk, bsome]
  dsimp +instances only
  rw [if_neg (by decide), mg_ok h4 ht, bsome, bq_251_20])) rfl
theorem mm_room (h : τ 80 13 = 0) (h4 : τ 80 11 = 400) (hk : τ 83 400 = k) : vcV X 251 [vP 80, vI k] τ = some (fm τ 400 2) := vV_of ((bq_251_0 X _ _).trans (by
  rw [mi_y (t := 400) h h4 (by omega) hk, bsome]
  dsimp +instances only
  rw [if_neg (by decide), mg_room h h4, bsome, bq_251_20])) rfl
theorem mw_0 (h : τ 80 13 = 0) (h15 : τ 80 15 = 0) (ht : t ≤ 402) : vcV X 257 [vP 80, vI k, vI (t : Int)] τ = some (nm τ t k) := vV_of ((bq_257_0 X _ _ _).trans (by
  rw [if_pos (by omega), if_neg (by omega), if_pos h15, tn_nat, bq_257_46]
  rfl)) rfl
theorem mw_lt (h : τ 80 13 = 0) (h15 : ¬ τ 80 15 = 0) (ht : t ≤ 402) (hl : τ 80 16 < τ 84 t) : vcV X 257 [vP 80, vI k, vI (t : Int)] τ = some τ := vV_of ((bq_257_0 X _ _ _).trans (by
  rw [if_pos (by omega), if_neg (by omega), if_neg h15, tn_nat, if_pos hl, bq_257_45])) rfl
theorem mw_eq (h : τ 80 13 = 0) (h15 : ¬ τ 80 15 = 0) (ht : t ≤ 402) (hl : τ 80 16 = τ 84 t) (hk : τ 80 15 ≤ k) : vcV X 257 [vP 80, vI k, vI (t : Int)] τ = some τ := vV_of ((bq_257_0 X _ _ _).trans (by
  rw [if_pos (by omega), if_neg (by omega), if_neg h15, tn_nat, if_neg (by omega), if_neg (by omega), if_neg (by omega), bq_257_45])) rfl
theorem fl_fr {s : Int} : Fr [47] [] σ (fl σ t s) := (Fr.rf.upd rfl (by decide)).upd rfl (by decide)
theorem tk_fr : Fr [47] [] σ (tk σ t) := (((Fr.rf.upd rfl (by decide)).upd rfl (by decide)).upd rfl (by decide)).upd rfl (by decide)
theorem nt_fr {s : Int} : Fr [47] [] σ (nt σ s) := (Fr.rf.upd rfl (by decide)).upd rfl (by decide)
theorem fm_fr {s : Int} : Fr [] [11, 13, 14, 15, 16] τ (fm τ t s) := (Fr.rf.upf rfl).upf rfl
theorem gm_fr : Fr [] [11, 13, 14, 15, 16] τ (gm τ t) := Fr.rf.upf rfl
theorem nm_fr {s : Int} : Fr [] [11, 13, 14, 15, 16] τ (nm τ t s) := (Fr.rf.upf rfl).upf rfl
/-! both -/
theorem nx_fault {s : Int} (hT : TE σ τ N) (h : NF N σ τ t) (hs : 0 < s) {τ' : am_Sg} (f' : Fr [] [11, 13, 14, 15, 16] τ τ') (h13 : τ' 80 13 = s) (h14 : τ' 80 14 = τ 84 t) : Nx N σ τ (fl σ t s) τ' := by
  refine ⟨⟨hT.fr fl_fr f' rfl rfl, Or.inl ⟨by rw [h13]; exact hs, by rw [h13]; rfl, ?_⟩⟩, ⟨fl_fr, f'⟩, fun q => absurd h.2.1.1 q, fun q => ?_, rfl, fun q => ?_⟩
  · rw [h14]
    exact (hT.2.1 t h.1).1
  · have : s = 0 := q.1
    omega
  · have : s = 0 := q
    omega
theorem nf_tk (h : NF N σ τ t) (ht : t < N) {σ' τ' : am_Sg} (a4 : σ' 4 = σ 4) (a84 : τ' 84 = τ 84) (f0 : σ' 47 6 = 0 ∧ τ' 80 13 = 0) (f1 : σ' 47 4 = ((t + 1 : Nat) : Int) ∧ τ' 80 11 = ((t + 1 : Nat) : Int)) (f2 : σ' 47 5 = σ 4 (t + 1)) (f7 : σ' 47 7 = σ 47 7) (f3 : (σ' 47 8 = σ 47 8 ∧ σ' 47 9 = σ 47 9 ∧ τ' 80 15 = τ 80 15 ∧ τ' 80 16 = τ 80 16) ∨ (σ' 47 8 = τ' 80 15 ∧ (0 ≤ τ' 80 15 ∧ τ' 80 15 ≤ 5) ∧ σ' 47 9 = τ' 80 16 ∧ τ' 80 16 = τ 84 t)) : NF N σ' τ' (t + 1) := by
  refine ⟨ht, f0, f1, by rw [a4]; exact f2, ?_⟩
  rcases f3 with ⟨g1, g2, g3, g4⟩ | ⟨g1, g2, g3, g4⟩
  · obtain ⟨s1, s2, s3⟩ := h.2.2.2.2
    refine ⟨by rw [g1, g3]; exact s1, by rw [g3, f7]; exact s2, fun q => ?_⟩
    obtain ⟨u1, j, u2, u3⟩ := s3 (by rw [← g3]; exact q)
    exact ⟨by rw [g2, g4]; exact u1, j, by omega, by rw [g4, a84]; exact u3⟩
  · exact ⟨g1, ⟨g2.1, g2.2, f7.trans h.2.2.2.2.2.1.2.2⟩, fun _ => ⟨g3, t, by omega, by rw [a84]; exact g4⟩⟩
theorem NF.lt (hT : TE σ τ N) (h : NF N σ τ t) (h0 : ¬ σ 4 t = 0) (h1 : ¬ σ 4 t = 1) (ht : t < 400) : t < N := by
  have := h.1
  rcases hT.2.2.1 with e | e | e
  · omega
  · rcases Nat.lt_or_ge t N with w | w
    · exact w
    · rw [show N = t by omega] at e
      exact absurd e h0
  · rcases Nat.lt_or_ge t N with w | w
    · exact w
    · rw [show N = t by omega] at e
      exact absurd e h1
/-- a token of the due kind is taken by both -/
theorem nx_tk (hT : TE σ τ N) (h : NF N σ τ t) (h0 : ¬ σ 4 t = 0) (h1 : ¬ σ 4 t = 1) (ht : t < 400) : Nx N σ τ (tk σ t) (gm τ t) ∧ NF N (tk σ t) (gm τ t) (t + 1) := by
  have nf := nf_tk h (h.lt hT h0 h1 ht) (σ' := tk σ t) (τ' := gm τ t) (tk_fr.get 4 (by decide) rfl) (gm_fr.get 84 (by decide) rfl) h.2.1 ⟨rfl, rfl⟩ rfl rfl (Or.inl ⟨rfl, rfl, rfl, rfl⟩)
  refine ⟨⟨⟨hT.fr tk_fr gm_fr rfl rfl, Or.inr ⟨_, nf⟩⟩, ⟨tk_fr, gm_fr⟩, fun q => absurd h.2.1.1 q, fun q => q, rfl, fun _ => ?_⟩, nf⟩
  rw [h.2.2.1.1, nf.2.2.1.1]
  omega
theorem l_take (X : Nat) (h : PS N σ τ) (hk : ∀ a b, KR a b → (a = k ↔ b = k')) (k0 : ¬ k = 0) (k1 : ¬ k = 1) : ∃ b σ' τ', vcI X 233 [vP 47, vI k] σ = some (b, σ') ∧ vcV X 251 [vP 80, vI k'] τ = some τ' ∧ Nx N σ τ σ' τ' ∧ ((b = 0 ∧ ¬ σ' 47 6 = 0) ∨ (b = 1 ∧ ∃ t, NF N σ τ t ∧ t < 400 ∧ σ 4 t = k ∧ σ' = tk σ t ∧ τ' = gm τ t ∧ NF N σ' τ' (t + 1))) := by
  rcases h.cases with ⟨q, f⟩ | ⟨q, t, f⟩
  · exact ⟨0, σ, τ, ct_f q, mm_f f.1, Nx.rf h, Or.inl ⟨rfl, q⟩⟩
  · have tN := f.1
    have hN := h.1.1
    have kr := hk _ _ (h.1.2.1 t f.1).2.1
    by_cases e : σ 4 t = k
    · by_cases w : t = 400
      · subst w
        exact ⟨0, fl σ 400 2, fm τ 400 2, ct_room q (f.2.2.2.1.trans e) f.2.2.1.1, mm_room f.2.1.2 f.2.2.1.2 (kr.mp e), nx_fault h.1 f (by omega) fm_fr rfl rfl, Or.inl ⟨rfl, by show ¬ (2 : Int) = 0; omega⟩⟩
      · obtain ⟨a1, a2⟩ := nx_tk h.1 f (by rw [e]; exact k0) (by rw [e]; exact k1) (by omega)
        exact ⟨1, tk σ t, gm τ t, ct_ok q (f.2.2.2.1.trans e) f.2.2.1.1 (by omega), mm_ok f.2.1.2 f.2.2.1.2 (by omega) (kr.mp e), a1, Or.inr ⟨rfl, t, f, by omega, e, rfl, rfl, a2⟩⟩
    · exact ⟨0, fl σ t 1, fm τ t 1, ct_syn q (by rw [f.2.2.2.1]; exact e) f.2.2.1.1 (by omega), mm_syn f.2.1.2 f.2.2.1.2 (by omega) (fun z => e (kr.mpr z)), nx_fault h.1 f (by omega) fm_fr rfl rfl, Or.inl ⟨rfl, by show ¬ (1 : Int) = 0; omega⟩⟩
/-- both fail -/
theorem l_fail (X : Nat) {s : Int} (hs : 0 < s) (h : PS N σ τ) : ∃ σ' τ', vcV X 182 [vP 47, vI s] σ = some σ' ∧ vcV X 197 [vP 80, vI s] τ = some τ' ∧ Nx N σ τ σ' τ' ∧ ¬ σ' 47 6 = 0 := by
  rcases h.cases with ⟨q, f⟩ | ⟨q, t, f⟩
  · exact ⟨σ, τ, cf_f q, mf_f f.1, Nx.rf h, q⟩
  · have tN := f.1
    have hN := h.1.1
    exact ⟨fl σ t s, fm τ t s, cf_go q f.2.2.1.1 (by omega), mf_go f.2.1.2 f.2.2.1.2 (by omega), nx_fault h.1 f hs fm_fr rfl rfl, by show ¬ s = 0; omega⟩
end PA
