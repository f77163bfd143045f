/-! READ: expressions, token by token -/
section PM
variable {X N : Nat} {σ τ σ' τ' : am_Sg} {t sd g p0 q0 t0 : Nat}
def XF (p0 : Nat) (σ σ' : am_Sg) : Prop := Fr [27, 46, 47, 48] [] σ σ' ∧ (∀ j, j < p0 → σ' 46 j = σ 46 j) ∧ ((0 ≤ σ 27 20 ∧ σ 27 20 ≤ 3) → (0 ≤ σ' 27 20 ∧ σ' 27 20 ≤ 3) ∧ ∀ g, g < 2 → bt1 (σ' 27 20) g = 0 → bt1 (σ 27 20) g = 0) ∧ (0 ≤ σ 27 19 → 0 ≤ σ' 27 19)
def YF (sd q0 : Nat) (τ τ' : am_Sg) : Prop := Fr [122, 123, 124] [11, 12, 13, 14, 15, 16, 56, 60] τ τ' ∧ (∀ j, j < q0 → τ' 122 j = τ 122 j ∧ τ' 123 j = τ 123 j) ∧ MG sd τ τ'
theorem XF.tr {a b c : am_Sg} (h : XF p0 a b) (h' : XF p0 b c) : XF p0 a c := by
  refine ⟨h.1.tr h'.1, fun j hj => (h'.2.1 j hj).trans (h.2.1 j hj), fun z => ?_, fun z => h'.2.2.2 (h.2.2.2 z)⟩
  obtain ⟨a1, a2⟩ := h.2.2.1 z
  obtain ⟨b1, b2⟩ := h'.2.2.1 a1
  exact ⟨b1, fun g hg e => a2 g hg (b2 g hg e)⟩
theorem YF.tr {a b c : am_Sg} (h : YF sd q0 a b) (h' : YF sd q0 b c) : YF sd q0 a c := ⟨h.1.tr h'.1, fun j hj => ⟨((h'.2.1 j hj).1).trans (h.2.1 j hj).1, ((h'.2.1 j hj).2).trans (h.2.1 j hj).2⟩, h.2.2.tr h'.2.2⟩
theorem XF.of (f : Fr [27, 46, 47, 48] [] σ σ') (h : ∀ j, j < p0 → σ' 46 j = σ 46 j) (e : σ' 27 20 = σ 27 20) (e9 : 0 ≤ σ 27 19 → 0 ≤ σ' 27 19) : XF p0 σ σ' := ⟨f, h, fun z => ⟨by rw [e]; exact z, fun g _ q => by rw [← e]; exact q⟩, e9⟩
theorem XF.sm (f : Fr [47] [] σ σ') : XF p0 σ σ' := XF.of (f.mono rfl rfl) (fun j _ => by rw [f.get 46 (by decide) rfl]) (by rw [f.get 27 (by decide) rfl]) (fun z => by rw [f.get 27 (by decide) rfl]; exact z)
theorem XF.cf (h : CF p0 σ σ') : XF p0 σ σ' := XF.of (h.1.mono rfl rfl) h.2.2.2.1 (h.2.2.1 20 (by decide)) h.2.2.2.2
theorem YF.sm (f : Fr [] [11, 13, 14, 15, 16] τ τ') : YF sd q0 τ τ' := ⟨f.mono rfl rfl, fun j _ => ⟨by rw [f.get 122 (by decide) rfl], by rw [f.get 123 (by decide) rfl]⟩, MG.sm f⟩
theorem YF.mx (h : MX sd q0 τ τ') : YF sd q0 τ τ' := ⟨h.1.mono rfl rfl, h.2.1, h.2.2⟩
theorem YF.op {x : Int} : YF sd q0 τ (am_upd τ 80 12 x) := ⟨Fr.rf.upf rfl, fun j _ => ⟨by rw [un _ (show ¬ (122 : Nat) = 80 by decide)], by rw [un _ (show ¬ (123 : Nat) = 80 by decide)]⟩, MG.rf.upf rfl⟩
/-- a sign waits -/
def cwt (σ : am_Sg) (l : Nat) (x : Int) : am_Sg := am_upd (am_upd σ 48 l x) 47 3 ((l + 1 : Nat) : Int)
def mwt (τ : am_Sg) (l : Nat) (x : Int) : am_Sg := am_upd (am_upd τ 124 l x) 80 60 ((l + 1 : Nat) : Int)
theorem c_wait (X : Nat) {l : Nat} {x : Int} (hl : l < 24) (h : σ 47 3 = (l : Int)) : vcV X 278 [vP 47, vI x] σ = some (cwt σ l x) := by
  refine vV_of ((bq_278_0 X _ σ).trans ?_) rfl
  rw [h, if_neg (by omega), if_pos (by omega), tn_nat, w32_s1 (by omega), bq_278_29]
  rfl
theorem cwt_xf {l : Nat} {x : Int} : XF p0 σ (cwt σ l x) := XF.of ((Fr.rf.upd rfl (by decide)).upd rfl (by decide)) (fun j _ => by unfold cwt; rw [un _ (show ¬ (46 : Nat) = 47 by decide), un _ (show ¬ (46 : Nat) = 48 by decide)]) (by unfold cwt; rw [un _ (show ¬ (27 : Nat) = 47 by decide), un _ (show ¬ (27 : Nat) = 48 by decide)]) (fun z => by unfold cwt; rw [un _ (show ¬ (27 : Nat) = 47 by decide), un _ (show ¬ (27 : Nat) = 48 by decide)]; exact z)
theorem mwt_yf {l : Nat} {x : Int} : YF sd q0 τ (mwt τ l x) := ⟨(Fr.rf.upd rfl (by decide)).upf rfl, fun j _ => ⟨by unfold mwt; rw [un _ (show ¬ (122 : Nat) = 80 by decide), un _ (show ¬ (122 : Nat) = 124 by decide)], by unfold mwt; rw [un _ (show ¬ (123 : Nat) = 80 by decide), un _ (show ¬ (123 : Nat) = 124 by decide)]⟩, (MG.rf.upd rfl (Or.inr (Or.inl (by decide)))).upf rfl⟩
theorem NF.ag (f : NF N σ τ t) (h4 : σ' 4 = σ 4) (h47 : ∀ j, 4 ≤ j → σ' 47 j = σ 47 j) (h84 : τ' 84 = τ 84) (h80 : ∀ j, [11, 13, 14, 15, 16].contains j = true → τ' 80 j = τ 80 j) : NF N σ' τ' t := by
  unfold NF SL at f ⊢
  rw [h47 4 (by omega), h47 5 (by omega), h47 6 (by omega), h47 7 (by omega), h47 8 (by omega), h47 9 (by omega), h80 11 rfl, h80 13 rfl, h80 15 rfl, h80 16 rfl, h84, h4]
  exact f
theorem cwt47 {l : Nat} {x : Int} : ∀ j, 4 ≤ j → cwt σ l x 47 j = σ 47 j := fun j hj => by
  unfold cwt
  rw [ue, upa, if_neg (by omega), un _ (show ¬ (47 : Nat) = 48 by decide)]
theorem cwt_fr {l : Nat} {x : Int} : Fr [47, 48] [] σ (cwt σ l x) := (Fr.rf.upd rfl (by decide)).upd rfl (by decide)
theorem f12 {x : Int} : Fr [] [12] τ (am_upd τ 80 12 x) := Fr.rf.upf rfl
theorem f12_5 {j : Nat} (h : [11, 13, 14, 15, 16].contains j = true) : [12].contains j = false := by
  cases hc : [12].contains j with
  | false => rfl
  | true =>
    have : j = 12 := by simpa using hc
    rw [this] at h
    cases h
theorem ER.push {W : List Int} {n s c n' s' c' d : Nat} {out : Ops} {x : Int} (h : ER g sd p0 q0 σ τ W n s c out d) (hk : WK (x :: W) n' s' c') (hn : n' ≤ 6) (hb : p0 + out.length + c' ≤ 400 ∧ q0 + out.length + c' ≤ 420 * sd + 400) : ER g sd p0 q0 (cwt σ W.length x) (mwt τ W.length (sgM x)) (x :: W) n' s' c' out d := by
  obtain ⟨a1, a2, a3, a4, a5, a6, a7, a8⟩ := h
  refine ⟨a1, a2, a3, ⟨?_, rfl⟩, ⟨?_, rfl⟩, ⟨hk, hn⟩, ⟨hb.1, a7.2.1, hb.2⟩, a8⟩
  · unfold cwt
    rw [un _ (show ¬ (48 : Nat) = 47 by decide), ue]
    exact a4.1.push
  · unfold mwt
    rw [un _ (show ¬ (124 : Nat) = 80 by decide), ue]
    have := a5.1.push (x := sgM x)
    rw [List.length_map] at this
    exact this
/-- only the marks of the reading changed -/
theorem ER.ag {W : List Int} {n s c d : Nat} {out : Ops} (h : ER g sd p0 q0 σ τ W n s c out d) (e46 : σ' 46 = σ 46) (e27 : σ' 27 = σ 27) (e48 : σ' 48 = σ 48) (e3 : σ' 47 3 = σ 47 3) (e122 : τ' 122 = τ 122) (e123 : τ' 123 = τ 123) (e124 : τ' 124 = τ 124) (e56 : τ' 80 56 = τ 80 56) (e60 : τ' 80 60 = τ 80 60) : ER g sd p0 q0 σ' τ' W n s c out d := by
  unfold ER
  rw [e46, e27, e48, e3, e122, e123, e124, e56, e60]
  exact h
/-- fewer wait, for the bounds -/
theorem ER.nx {W : List Int} {n s c d : Nat} {out : Ops} (h : ER g sd p0 q0 σ τ W n s c out d) (x : Nx N σ τ σ' τ') : ER g sd p0 q0 σ' τ' W n s c out d := h.ag (x.2.1.1.get 46 (by decide) rfl) (x.2.1.1.get 27 (by decide) rfl) (x.2.1.1.get 48 (by decide) rfl) x.2.2.2.2.1 (x.2.1.2.get 122 (by decide) rfl) (x.2.1.2.get 123 (by decide) rfl) (x.2.1.2.get 124 (by decide) rfl) (x.2.1.2.fld 56 rfl) (x.2.1.2.fld 60 rfl)
def EP (N g sd p0 q0 t0 : Nat) (σ τ σ' τ' : am_Sg) : Prop := PS N σ' τ' ∧ XF p0 σ σ' ∧ YF sd q0 τ τ' ∧ (ok0 σ' → ok0 σ) ∧ (σ' 47 6 = 0 → ∃ (out : Ops) (t : Nat), NF N σ' τ' t ∧ (SgC (σ' 46) p0 out ∧ σ' 27 19 = ((p0 + out.length : Nat) : Int)) ∧ (SgM (τ' 122) (τ' 123) q0 out ∧ τ' 80 56 = ((q0 + out.length : Nat) : Int)) ∧ wfo out 0 1 ∧ (bt1 (σ' 27 20) g = 0 → nv4 out) ∧ τ' 80 12 = 0 ∧ out.length + t0 ≤ t)
theorem EP.bad (h : PS N σ' τ') (z : ¬ σ' 47 6 = 0) (x : XF p0 σ σ') (y : YF sd q0 τ τ') : EP N g sd p0 q0 t0 σ τ σ' τ' := ⟨h, x, y, fun q => absurd q.1 z, fun q => absurd q z⟩
theorem EP.tr {σ1 τ1 : am_Sg} (x : XF p0 σ σ1) (y : YF sd q0 τ τ1) (o : ok0 σ1 → ok0 σ) (h : EP N g sd p0 q0 t0 σ1 τ1 σ' τ') : EP N g sd p0 q0 t0 σ τ σ' τ' := ⟨h.1, x.tr h.2.1, y.tr h.2.2.1, fun z => o (h.2.2.2.1 z), h.2.2.2.2⟩
def LI (N g sd p0 q0 t0 : Nat) (σ τ : am_Sg) (W : List Int) (n s c : Nat) (out : Ops) (due t : Nat) : Prop := (NF N σ τ t ∧ TE σ τ N) ∧ ER g sd p0 q0 σ τ W n s c out (if due = 1 then c else c + 1) ∧ τ 80 12 = (n : Int) ∧ out.length + c + t0 ≤ t ∧ (p0 ≤ t0 ∧ q0 ≤ 420 * sd + t0) ∧ (0 ≤ σ 27 20 ∧ σ 27 20 ≤ 3)
noncomputable def cL (X g n due i : Nat) (σ : am_Sg) : Option (Option am_V × am_Sg) := vv X 246 12 [some (vP 47), some (vI (g : Int)), some (vI (n : Int)), some (vI (due : Int)), some (vI (i : Int)), none] [] σ
noncomputable def mL (X due : Nat) (τ : am_Sg) : Option (Option am_V × am_Sg) := if due = 1 then vv X 255 23 [some (vP 80), some (vI 0), none] [] τ else vv X 255 96 [some (vP 80), some (vI 0), none] [] τ
/-- one token more, or the end -/
def St (X N g sd p0 q0 t0 : Nat) (σ τ : am_Sg) (n due i t : Nat) : Prop := (∃ σ' τ', cL X g n due i σ = some (none, σ') ∧ mL X due τ = some (none, τ') ∧ EP N g sd p0 q0 t0 σ τ σ' τ') ∨ (∃ σ1 τ1 W1 n1 s1 c1 out1 due1 t1, due1 ≤ 1 ∧ cL X g n due i σ = cL X g n1 due1 (i + 1) σ1 ∧ mL X due τ = mL X due1 τ1 ∧ LI N g sd p0 q0 t0 σ1 τ1 W1 n1 s1 c1 out1 due1 t1 ∧ t < t1 ∧ XF p0 σ σ1 ∧ YF sd q0 τ τ1 ∧ (ok0 σ1 → ok0 σ))
theorem kr_open : ∀ a b, KR a b → (a = 40 ↔ b = 6) := kr_of (by decide +kernel)
theorem kr_close : ∀ a b, KR a b → (a = 41 ↔ b = 7) := kr_of (by decide +kernel)
theorem kr_plus : ∀ a b, KR a b → (a = 43 ↔ b = 8) := kr_of (by decide +kernel)
theorem kr_minus : ∀ a b, KR a b → (a = 45 ↔ b = 9) := kr_of (by decide +kernel)
theorem kr_times : ∀ a b, KR a b → (a = 42 ↔ b = 10) := kr_of (by decide +kernel)
theorem kr_over : ∀ a b, KR a b → (a = 47 ↔ b = 15) := kr_of (by decide +kernel)
theorem kr_var {a b : Int} (h : KR a b) : ((268 ≤ a ∧ a ≤ 274) ↔ (32 ≤ b ∧ b ≤ 38)) ∧ ((268 ≤ a ∧ a ≤ 274) → b - 32 = a - 268) := by
  have h1 := kr_dec (p := fun a => decide (268 ≤ a ∧ a ≤ 274)) (q := fun b => decide (32 ≤ b ∧ b ≤ 38)) (by decide +kernel) a b h
  refine ⟨decide_eq_decide.mp h1, ?_⟩
  have h2 := List.all_eq_true.mp (show krl.all (fun p => decide ((268 ≤ p.1 ∧ p.1 ≤ 274) → p.2 - 32 = p.1 - 268)) = true by decide +kernel) _ (kr_mem h)
  exact of_decide_eq_true h2
/-- a fault: both end -/
theorem c_out (X : Nat) {n due i : Nat} (h : ¬ σ 47 6 = 0) : cL X g n due i σ = some (none, σ) := by
  unfold cL
  rw [bq_246_12]
  by_cases z : (400 : Int) < (i : Int)
  · rw [if_pos z, bq_246_187]
  · rw [if_neg z, if_pos h, bq_246_187]
theorem m_unit_f (X : Nat) (h : 0 < τ 80 13) : vcV X 282 [vP 80] τ = some τ := by
  refine vV_of ((bq_282_0 X τ).trans ?_) rfl
  rw [mi_f (ne0_of h), bsome]
  dsimp +instances only
  rw [if_pos rfl, if_pos (ne0_of h), bq_282_88, mf_f h, bsome, bq_282_93]
theorem m_23_f (X : Nat) (h : 0 < τ 80 13) : vv X 255 23 [some (vP 80), some (vI 0), none] [] τ = some (none, τ) := by
  rw [bq_255_23, mi_f (ne0_of h), bsome]
  dsimp +instances only
  rw [if_pos rfl, m_unit_f X h, bsome, if_neg (Int.not_le.mpr h)]
/-! an opening bracket -/
theorem st_open (X : Nat) {W : List Int} {n s c i : Nat} {out : Ops} (L : LI N g sd p0 q0 t0 σ τ W n s c out 1 t) (hi : i ≤ 400) (e : σ 4 t = 40) : St X N g sd p0 q0 t0 σ τ n 1 i t := by
  obtain ⟨⟨f, te⟩, er, h12, hcn, hp, h20⟩ := L
  rw [if_pos rfl] at er
  have ps : PS N σ τ := ⟨te, Or.inr ⟨t, f⟩⟩
  have t4 := PS.t400 te f
  have wk := er.2.2.2.2.2.1.1
  have n6 := er.2.2.2.2.2.1.2
  have bd := WK.bd wk
  have wl : W.length < 24 := by omega
  have w64 : (0 : Int) ≤ (W.length : Int) ∧ (W.length : Int) < 64 := by omega
  have ni : ¬ (400 : Int) < (i : Int) := by omega
  have h13 := f.2.1.2
  have t11 := f.2.2.1.2
  have h6 := f.2.1.1
  have e5 : σ 47 5 = 40 := f.2.2.2.1.trans e
  have e83 : τ 83 t = 6 := (kr_open _ _ (te.2.1 t f.1).2.1).mp e
  have hwi : w32 ((i : Int) + 1) = ((i + 1 : Nat) : Int) := w32_s1 (by omega)
  have hw12 : w32 ((n : Int) + 1) = ((n + 1 : Nat) : Int) := w32_s1 (by omega)
  have hwn : w32 ((W.length : Int) + 1) = ((W.length + 1 : Nat) : Int) := w32_s1 (by omega)
  by_cases z : n = 6
  · -- too deep
    subst z
    have n6' : ¬ fl σ t 2 47 6 = 0 := by show ¬ (2 : Int) = 0; decide
    have p13 : 0 < fm τ t 2 80 13 := by show (0 : Int) < 2; decide
    have nx : Nx N σ τ (fl σ t 2) (fm τ t 2) := nx_fault te f (by decide) fm_fr rfl rfl
    have cw : vcV X 278 [vP 47, vI 40] (fl σ t 2) = some (cwt (fl σ t 2) W.length 40) := c_wait X wl er.2.2.2.1.2
    have ct : vcI X 233 [vP 47, vI 40] (cwt (fl σ t 2) W.length 40) = some (0, cwt (fl σ t 2) W.length 40) := ct_f n6'
    have key : ∃ τ2, vcV X 248 [vP 80] (am_upd (fm τ t 2) 80 12 ((6 + 1 : Nat) : Int)) = some τ2 ∧ YF sd q0 (fm τ t 2) τ2 ∧ τ2 80 60 = (W.length : Int) ∧ τ2 80 13 = 2 ∧ PS N (fl σ t 2) τ2 := by
      by_cases y : t = 400
      · subst y
        refine ⟨am_upd (fm τ 400 2) 80 12 ((6 + 1 : Nat) : Int), vV_of ((bq_248_0 X _).trans ?_) rfl, YF.op, er.2.2.2.2.1.2, rfl, nx.1.updf (by decide)⟩
        rw [if_neg (fun q => q t11), mf_f (show 0 < am_upd (fm τ 400 2) 80 12 ((6 + 1 : Nat) : Int) 80 13 from p13), bsome, bq_248_28]
      · refine ⟨gm (am_upd (fm τ t 2) 80 12 ((6 + 1 : Nat) : Int)) t, mg_ok t11 (Nat.lt_of_le_of_ne t4 y), YF.op.tr (YF.sm gm_fr), er.2.2.2.2.1.2, rfl, ?_⟩
        have q := nx.1.fs n6'
        exact ⟨nx.1.1.fr (Fr.rf (cs := []) (js := [])) (show Fr [] [11, 12] (fm τ t 2) (gm (am_upd (fm τ t 2) 80 12 ((6 + 1 : Nat) : Int)) t) from (Fr.rf.upf rfl).upf rfl) rfl rfl, Or.inl q⟩
    obtain ⟨τ2, k1, k2, k3, k4, k5⟩ := key
    refine Or.inl ⟨cwt (fl σ t 2) W.length 40, mwt τ2 W.length 6, ?_, ?_, EP.bad ((k5.updm (k := 124) (by decide) (by omega)).updf (j := 60) (by decide) |>.ag rfl rfl rfl (fun j hj => by unfold cwt; rw [ue, upa, if_neg (fun q => by rw [q] at hj; exact absurd hj (by decide)), un _ (show ¬ (47 : Nat) = 48 by decide)]) rfl rfl rfl rfl (fun _ _ => rfl)) n6' ((XF.sm fl_fr).tr cwt_xf) ((YF.sm fm_fr).tr (k2.tr mwt_yf))⟩
    · unfold cL
      rw [bq_246_12, if_neg ni, if_neg (fun q => q h6), if_neg (by decide), e5, if_neg (fun q => q rfl), if_neg (fun q => q rfl), cf_go h6 f.2.2.1.1 t4, bsome, bq_246_55, cw, bsome, ct, bsome]
      dsimp +instances only
      rw [bq_246_181]
      have := c_out (g := g) X (n := 6 + 1) (due := 1) (i := i + 1) (σ := cwt (fl σ t 2) W.length 40) n6'
      unfold cL at this
      rw [show w32 (((6 : Nat) : Int) + 1) = ((6 + 1 : Nat) : Int) by decide, hwi]
      exact this
    · unfold mL
      rw [if_pos rfl, bq_255_23, mi_y h13 t11 t4 e83, bsome]
      dsimp +instances only
      rw [if_neg (by decide), h12, if_neg (fun q => q rfl), mf_go h13 t11 t4, bsome, bq_255_46]
      have e12 : fm τ t 2 80 12 = ((6 : Nat) : Int) := h12
      rw [e12, show w32 (((6 : Nat) : Int) + 1) = ((6 + 1 : Nat) : Int) by decide, k1, bsome, k3, if_pos w64, tn_nat, hwn]
      exact m_23_f X (show 0 < mwt τ2 W.length 6 80 13 by show 0 < τ2 80 13; rw [k4]; decide)
  · have hn : n < 6 := Nat.lt_of_le_of_ne n6 z
    have nz : ¬ (n : Int) = 6 := fun q => z (Int.ofNat.inj q)
    have fa : NF N (cwt σ W.length 40) (am_upd τ 80 12 ((n + 1 : Nat) : Int)) t := f.ag (cwt_fr.get 4 (by decide) rfl) cwt47 (f12.get 84 (by decide) rfl) (fun j hj => f12.fld j (f12_5 hj))
    have psa : PS N (cwt σ W.length 40) (am_upd τ 80 12 ((n + 1 : Nat) : Int)) := ⟨te.fr cwt_fr f12 rfl rfl, Or.inr ⟨t, fa⟩⟩
    obtain ⟨b, σ1, τ1, a1, a2, a3, a4, a5⟩ := l_go X psa fa ((congrFun (cwt_fr.get 4 (by decide) rfl) t).trans e) (by decide) (by decide)
    have hcL : cL X g n 1 i σ = cL X g (n + 1) 1 (i + 1) σ1 := by
      unfold cL
      rw [bq_246_12, if_neg ni, if_neg (fun q => q h6), if_neg (by decide), e5, if_neg (fun q => q rfl), if_pos nz, bq_246_55, c_wait X wl er.2.2.2.1.2, bsome, a1, bsome]
      dsimp +instances only
      rw [bq_246_181, hwi, hw12]
    have s60 : τ1 80 60 = (W.length : Int) := (a3.2.1.2.fld 60 rfl).trans er.2.2.2.2.1.2
    have hmL : mL X 1 τ = vv X 255 23 [some (vP 80), some (vI 0), none] [] (mwt τ1 W.length 6) := by
      unfold mL
      rw [if_pos rfl, bq_255_23, mi_y h13 t11 t4 e83, bsome]
      dsimp +instances only
      rw [if_neg (by decide), h12, if_pos nz, bq_255_46, h12, hw12, a2, bsome, s60, if_pos w64, tn_nat, hwn]
      rfl
    have xf : XF p0 σ σ1 := cwt_xf.tr (XF.sm a3.2.1.1)
    have yf : YF sd q0 τ (mwt τ1 W.length 6) := (YF.op.tr (YF.sm a3.2.1.2)).tr mwt_yf
    have ps2 : PS N σ1 (mwt τ1 W.length 6) := (a3.1.updm (by decide) (by omega)).updf (by decide)
    by_cases z1 : σ1 47 6 = 0
    · obtain ⟨c1, tl, c2, c3⟩ := a4 z1
      have f1 : NF N σ1 (mwt τ1 W.length 6) (t + 1) := by
        obtain ⟨u, fu⟩ := ps2.nf z1
        have e1 : σ1 47 4 = ((t + 1 : Nat) : Int) := by rw [c2]; rfl
        have : u = t + 1 := Int.ofNat.inj (fu.2.2.1.1.symm.trans e1)
        rw [← this]
        exact fu
      have wk' : WK (40 :: W) (n + 1) 0 c := Or.inl ⟨rfl, rfl, n, s, rfl, wk⟩
      have bb := er.2.2.2.2.2.2.1
      have er1 : ER g sd p0 q0 σ1 (mwt τ1 W.length (sgM 40)) (40 :: W) (n + 1) 0 c out c := by
        have q := er.push (x := 40) wk' hn ⟨bb.1, bb.2.2⟩
        refine q.ag (by rw [a3.2.1.1.get 46 (by decide) rfl]) (by rw [a3.2.1.1.get 27 (by decide) rfl]) (by rw [a3.2.1.1.get 48 (by decide) rfl]) a3.2.2.2.2.1 ?_ ?_ ?_ ?_ rfl
        · unfold mwt
          rw [un _ (show ¬ (122 : Nat) = 80 by decide), un _ (show ¬ (122 : Nat) = 124 by decide), a3.2.1.2.get 122 (by decide) rfl, un _ (show ¬ (122 : Nat) = 80 by decide), un _ (show ¬ (122 : Nat) = 80 by decide), un _ (show ¬ (122 : Nat) = 124 by decide)]
        · unfold mwt
          rw [un _ (show ¬ (123 : Nat) = 80 by decide), un _ (show ¬ (123 : Nat) = 124 by decide), a3.2.1.2.get 123 (by decide) rfl, un _ (show ¬ (123 : Nat) = 80 by decide), un _ (show ¬ (123 : Nat) = 80 by decide), un _ (show ¬ (123 : Nat) = 124 by decide)]
        · unfold mwt
          rw [un _ (show ¬ (124 : Nat) = 80 by decide), ue, un _ (show ¬ (124 : Nat) = 80 by decide), ue, a3.2.1.2.get 124 (by decide) rfl, un _ (show ¬ (124 : Nat) = 80 by decide)]
        · show τ1 80 56 = τ 80 56
          exact a3.2.1.2.fld 56 rfl
      refine Or.inr ⟨σ1, mwt τ1 W.length 6, 40 :: W, n + 1, 0, c, out, 1, t + 1, Nat.le_refl _, hcL, hmL.trans (by unfold mL; rw [if_pos rfl]), ⟨⟨f1, ps2.1⟩, by rw [if_pos rfl]; exact er1, ?_, Nat.le_succ_of_le hcn, hp, ?_⟩, Nat.lt_succ_self _, xf, yf, fun q => a3.2.2.2.1 q⟩
      · show τ1 80 12 = ((n + 1 : Nat) : Int)
        exact a3.2.1.2.fld 12 rfl
      · rw [show σ1 27 = σ 27 from a3.2.1.1.get 27 (by decide) rfl]
        exact h20
    · have fs := ps2.fs z1
      exact Or.inl ⟨σ1, mwt τ1 W.length 6, hcL.trans (c_out X z1), hmL.trans (m_23_f X fs.1), EP.bad ps2 z1 xf yf⟩
end PM
