/-! READ: expressions, token by token -/
section PM
variable {X N : Nat} {σ τ σ' τ' : am_Sg} {t sd g p0 q0 t0 : Nat}
def XF (p0 : Nat) (σ σ' : am_Sg) : Prop := Fr [27, 46, 47, 48] [] σ σ' ∧ (∀ j, j < p0 → σ' 46 j = σ 46 j) ∧ ((0 ≤ σ 27 20 ∧ σ 27 20 ≤ 3) → (0 ≤ σ' 27 20 ∧ σ' 27 20 ≤ 3) ∧ ∀ g, g < 2 → bt1 (σ' 27 20) g = 0 → bt1 (σ 27 20) g = 0)
def YF (sd q0 : Nat) (τ τ' : am_Sg) : Prop := Fr [122, 123, 124] [11, 12, 13, 14, 15, 16, 56, 60] τ τ' ∧ (∀ j, j < q0 → τ' 122 j = τ 122 j ∧ τ' 123 j = τ 123 j) ∧ MG sd τ τ'
theorem XF.tr {a b c : am_Sg} (h : XF p0 a b) (h' : XF p0 b c) : XF p0 a c := by
  refine ⟨h.1.tr h'.1, fun j hj => (h'.2.1 j hj).trans (h.2.1 j hj), fun z => ?_⟩
  obtain ⟨a1, a2⟩ := h.2.2 z
  obtain ⟨b1, b2⟩ := h'.2.2 a1
  exact ⟨b1, fun g hg e => a2 g hg (b2 g hg e)⟩
theorem YF.tr {a b c : am_Sg} (h : YF sd q0 a b) (h' : YF sd q0 b c) : YF sd q0 a c := ⟨h.1.tr h'.1, fun j hj => ⟨((h'.2.1 j hj).1).trans (h.2.1 j hj).1, ((h'.2.1 j hj).2).trans (h.2.1 j hj).2⟩, h.2.2.tr h'.2.2⟩
theorem XF.of (f : Fr [27, 46, 47, 48] [] σ σ') (h : ∀ j, j < p0 → σ' 46 j = σ 46 j) (e : σ' 27 20 = σ 27 20) : XF p0 σ σ' := ⟨f, h, fun z => ⟨by rw [e]; exact z, fun g _ q => by rw [← e]; exact q⟩⟩
theorem XF.sm (f : Fr [47] [] σ σ') : XF p0 σ σ' := XF.of (f.mono rfl rfl) (fun j _ => by rw [f.get 46 (by decide) rfl]) (by rw [f.get 27 (by decide) rfl])
theorem XF.cf (h : CF p0 σ σ') : XF p0 σ σ' := XF.of (h.1.mono rfl rfl) h.2.2.2 (h.2.2.1 20 (by decide))
theorem YF.sm (f : Fr [] [11, 13, 14, 15, 16] τ τ') : YF sd q0 τ τ' := ⟨f.mono rfl rfl, fun j _ => ⟨by rw [f.get 122 (by decide) rfl], by rw [f.get 123 (by decide) rfl]⟩, MG.sm f⟩
theorem YF.mx (h : MX sd q0 τ τ') : YF sd q0 τ τ' := ⟨h.1.mono rfl rfl, h.2.1, h.2.2⟩
theorem YF.op {x : Int} : YF sd q0 τ (am_upd τ 80 12 x) := ⟨Fr.rf.upf rfl, fun j _ => ⟨by rw [un _ (show ¬ (122 : Nat) = 80 by decide)], by rw [un _ (show ¬ (123 : Nat) = 80 by decide)]⟩, MG.rf.upf rfl⟩
/-- a sign waits -/
def cwt (σ : am_Sg) (l : Nat) (x : Int) : am_Sg := am_upd (am_upd σ 48 l x) 47 3 ((l + 1 : Nat) : Int)
def mwt (τ : am_Sg) (l : Nat) (x : Int) : am_Sg := am_upd (am_upd τ 124 l x) 80 60 ((l + 1 : Nat) : Int)
theorem c_wait (X : Nat) {l : Nat} {x : Int} (hl : l < 24) (h : σ 47 3 = (l : Int)) : vcV X 278 [vP 47, vI x] σ = some (cwt σ l x) := by
  refine vV_of ((bq_278_0 X _ σ).trans ?_) rfl
  rw [h, if_neg (by omega), if_pos (by omega), tn_nat, w32_s1 (by omega), bq_278_29]
  rfl
theorem cwt_xf {l : Nat} {x : Int} : XF p0 σ (cwt σ l x) := XF.of ((Fr.rf.upd rfl (by decide)).upd rfl (by decide)) (fun j _ => by unfold cwt; rw [un _ (show ¬ (46 : Nat) = 47 by decide), un _ (show ¬ (46 : Nat) = 48 by decide)]) (by unfold cwt; rw [un _ (show ¬ (27 : Nat) = 47 by decide), un _ (show ¬ (27 : Nat) = 48 by decide)])
theorem mwt_yf {l : Nat} {x : Int} : YF sd q0 τ (mwt τ l x) := ⟨(Fr.rf.upd rfl (by decide)).upf rfl, fun j _ => ⟨by unfold mwt; rw [un _ (show ¬ (122 : Nat) = 80 by decide), un _ (show ¬ (122 : Nat) = 124 by decide)], by unfold mwt; rw [un _ (show ¬ (123 : Nat) = 80 by decide), un _ (show ¬ (123 : Nat) = 124 by decide)]⟩, (MG.rf.upd rfl (Or.inr (Or.inl (by decide)))).upf rfl⟩
theorem ER.push {W : List Int} {n s c n' s' c' d : Nat} {out : Ops} {x : Int} (h : ER g sd p0 q0 σ τ W n s c out d) (hk : WK (x :: W) n' s' c') (hn : n' ≤ 6) (hb : p0 + out.length + c' ≤ 400 ∧ q0 + out.length + c' ≤ 420 * sd + 400) : ER g sd p0 q0 (cwt σ W.length x) (mwt τ W.length (sgM x)) (x :: W) n' s' c' out d := by
  obtain ⟨a1, a2, a3, a4, a5, a6, a7, a8⟩ := h
  refine ⟨a1, a2, a3, ⟨?_, rfl⟩, ⟨?_, rfl⟩, ⟨hk, hn⟩, ⟨hb.1, a7.2.1, hb.2⟩, a8⟩
  · unfold cwt
    rw [un _ (show ¬ (48 : Nat) = 47 by decide), ue]
    exact a4.1.push
  · unfold mwt
    rw [un _ (show ¬ (124 : Nat) = 80 by decide), ue]
    have := a5.1.push (x := sgM x)
    rw [List.length_map] at this
    exact this
/-- only the marks of the reading changed -/
theorem ER.ag {W : List Int} {n s c d : Nat} {out : Ops} (h : ER g sd p0 q0 σ τ W n s c out d) (e46 : σ' 46 = σ 46) (e27 : σ' 27 = σ 27) (e48 : σ' 48 = σ 48) (e3 : σ' 47 3 = σ 47 3) (e122 : τ' 122 = τ 122) (e123 : τ' 123 = τ 123) (e124 : τ' 124 = τ 124) (e56 : τ' 80 56 = τ 80 56) (e60 : τ' 80 60 = τ 80 60) : ER g sd p0 q0 σ' τ' W n s c out d := by
  unfold ER
  rw [e46, e27, e48, e3, e122, e123, e124, e56, e60]
  exact h
/-- fewer wait, for the bounds -/
theorem ER.nx {W : List Int} {n s c d : Nat} {out : Ops} (h : ER g sd p0 q0 σ τ W n s c out d) (x : Nx N σ τ σ' τ') : ER g sd p0 q0 σ' τ' W n s c out d := h.ag (x.2.1.1.get 46 (by decide) rfl) (x.2.1.1.get 27 (by decide) rfl) (x.2.1.1.get 48 (by decide) rfl) x.2.2.2.2.1 (x.2.1.2.get 122 (by decide) rfl) (x.2.1.2.get 123 (by decide) rfl) (x.2.1.2.get 124 (by decide) rfl) (x.2.1.2.fld 56 rfl) (x.2.1.2.fld 60 rfl)
def EP (N g sd p0 q0 t0 : Nat) (σ τ σ' τ' : am_Sg) : Prop := PS N σ' τ' ∧ XF p0 σ σ' ∧ YF sd q0 τ τ' ∧ (ok0 σ' → ok0 σ) ∧ (σ' 47 6 = 0 → ∃ (out : Ops) (t : Nat), NF N σ' τ' t ∧ (SgC (σ' 46) p0 out ∧ σ' 27 19 = ((p0 + out.length : Nat) : Int)) ∧ (SgM (τ' 122) (τ' 123) q0 out ∧ τ' 80 56 = ((q0 + out.length : Nat) : Int)) ∧ wfo out 0 1 ∧ (bt1 (σ' 27 20) g = 0 → nv4 out) ∧ τ' 80 12 = 0 ∧ out.length + t0 ≤ t)
theorem EP.bad (h : PS N σ' τ') (z : ¬ σ' 47 6 = 0) (x : XF p0 σ σ') (y : YF sd q0 τ τ') : EP N g sd p0 q0 t0 σ τ σ' τ' := ⟨h, x, y, fun q => absurd q.1 z, fun q => absurd q z⟩
theorem EP.tr {σ1 τ1 : am_Sg} (x : XF p0 σ σ1) (y : YF sd q0 τ τ1) (o : ok0 σ1 → ok0 σ) (h : EP N g sd p0 q0 t0 σ1 τ1 σ' τ') : EP N g sd p0 q0 t0 σ τ σ' τ' := ⟨h.1, x.tr h.2.1, y.tr h.2.2.1, fun z => o (h.2.2.2.1 z), h.2.2.2.2⟩
def LI (N g sd p0 q0 t0 : Nat) (σ τ : am_Sg) (W : List Int) (n s c : Nat) (out : Ops) (due t : Nat) : Prop := (NF N σ τ t ∧ TE σ τ N) ∧ ER g sd p0 q0 σ τ W n s c out (if due = 1 then c else c + 1) ∧ τ 80 12 = (n : Int) ∧ out.length + c + t0 ≤ t ∧ (p0 ≤ t0 ∧ q0 ≤ 420 * sd + t0) ∧ (0 ≤ σ 27 20 ∧ σ 27 20 ≤ 3)
noncomputable def cL (X g n due i : Nat) (σ : am_Sg) : Option (Option am_V × am_Sg) := vv X 246 12 [some (vP 47), some (vI (g : Int)), some (vI (n : Int)), some (vI (due : Int)), some (vI (i : Int)), none] [] σ
noncomputable def mL (X due : Nat) (τ : am_Sg) : Option (Option am_V × am_Sg) := if due = 1 then vv X 255 23 [some (vP 80), some (vI 0), none] [] τ else vv X 255 96 [some (vP 80), some (vI 0), none] [] τ
/-- one token more, or the end -/
def St (X N g sd p0 q0 t0 : Nat) (σ τ : am_Sg) (n due i t : Nat) : Prop := (∃ σ' τ', cL X g n due i σ = some (none, σ') ∧ mL X due τ = some (none, τ') ∧ EP N g sd p0 q0 t0 σ τ σ' τ') ∨ (∃ σ1 τ1 W1 n1 s1 c1 out1 due1 t1, due1 ≤ 1 ∧ cL X g n due i σ = cL X g n1 due1 (i + 1) σ1 ∧ mL X due τ = mL X due1 τ1 ∧ LI N g sd p0 q0 t0 σ1 τ1 W1 n1 s1 c1 out1 due1 t1 ∧ t < t1 ∧ XF p0 σ σ1 ∧ YF sd q0 τ τ1 ∧ (ok0 σ1 → ok0 σ))
theorem kr_open : ∀ a b, KR a b → (a = 40 ↔ b = 6) := kr_of (by decide +kernel)
theorem kr_close : ∀ a b, KR a b → (a = 41 ↔ b = 7) := kr_of (by decide +kernel)
theorem kr_plus : ∀ a b, KR a b → (a = 43 ↔ b = 8) := kr_of (by decide +kernel)
theorem kr_minus : ∀ a b, KR a b → (a = 45 ↔ b = 9) := kr_of (by decide +kernel)
theorem kr_times : ∀ a b, KR a b → (a = 42 ↔ b = 10) := kr_of (by decide +kernel)
theorem kr_over : ∀ a b, KR a b → (a = 47 ↔ b = 15) := kr_of (by decide +kernel)
theorem kr_var {a b : Int} (h : KR a b) : ((268 ≤ a ∧ a ≤ 274) ↔ (32 ≤ b ∧ b ≤ 38)) ∧ ((268 ≤ a ∧ a ≤ 274) → b - 32 = a - 268) := by
  have h1 := kr_dec (p := fun a => decide (268 ≤ a ∧ a ≤ 274)) (q := fun b => decide (32 ≤ b ∧ b ≤ 38)) (by decide +kernel) a b h
  refine ⟨decide_eq_decide.mp h1, ?_⟩
  have h2 := List.all_eq_true.mp (show krl.all (fun p => decide ((268 ≤ p.1 ∧ p.1 ≤ 274) → p.2 - 32 = p.1 - 268)) = true by decide +kernel) _ (kr_mem h)
  exact of_decide_eq_true h2
/-- a fault: both end -/
theorem c_out (X : Nat) {n due i : Nat} (h : ¬ σ 47 6 = 0) : cL X g n due i σ = some (none, σ) := by
  unfold cL
  rw [bq_246_12]
  by_cases z : (400 : Int) < (i : Int)
  · rw [if_pos z, bq_246_187]
  · rw [if_neg z, if_pos h, bq_246_187]
theorem m_unit_f (X : Nat) (h : 0 < τ 80 13) : vcV X 282 [vP 80] τ = some τ := by
  refine vV_of ((bq_282_0 X τ).trans ?_) rfl
  rw [mi_f (ne0_of h), bsome]
  dsimp +instances only
  rw [if_pos rfl, if_pos (ne0_of h), bq_282_88, mf_f h, bsome, bq_282_93]
theorem m_23_f (X : Nat) (h : 0 < τ 80 13) : vv X 255 23 [some (vP 80), some (vI 0), none] [] τ = some (none, τ) := by
  rw [bq_255_23, mi_f (ne0_of h), bsome]
  dsimp +instances only
  rw [if_pos rfl, m_unit_f X h, bsome, if_neg (Int.not_le.mpr h)]
end PM
