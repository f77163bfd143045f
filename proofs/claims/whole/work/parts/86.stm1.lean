/-! READ: statements, the common part -/
section PE
variable {X N : Nat} {σ τ σ' τ' : am_Sg} {t sd : Nat}
def TI (σ τ : am_Sg) (sd : Nat) : Prop := (∀ s, s < 3 → UN σ s) ∧ DiR σ τ sd ∧ MeR σ τ sd (cn σ 1) ∧ BeR σ τ sd ∧ GoR σ τ sd ∧ DeR σ τ sd ∧ LaR σ τ sd
def SI (N sd : Nat) (σ τ : am_Sg) : Prop := PS N σ τ ∧ (σ 47 6 = 0 → CI σ τ sd ∧ (σ 47 8 = 0 → TI σ τ sd))
def cnS (s0 : Nat) (σ σ' : am_Sg) : Prop := ∀ s, cn σ' s = if s = s0 then cn σ s0 + 1 else cn σ s
theorem cnS_of {s0 : Nat} (h28 : σ' 28 = up (σ 28) s0 ((cn σ s0 + 1 : Nat) : Int)) : cnS s0 σ σ' := by
  intro s
  unfold cn
  rw [h28, upa]
  by_cases z : s = s0
  · rw [if_pos z, if_pos z, tn_nat]
    rfl
  · rw [if_neg z, if_neg z]
theorem CI.sum {s0 : Nat} (hs0 : s0 < 3) (h : cnS s0 σ σ') : cn σ' 0 + cn σ' 1 + cn σ' 2 = cn σ 0 + cn σ 1 + cn σ 2 + 1 := by
  rw [h 0, h 1, h 2]
  rcases (show s0 = 0 ∨ s0 = 1 ∨ s0 = 2 by omega) with e | e | e
  · subst e; rw [if_pos rfl, if_neg (by decide), if_neg (by decide)]; omega
  · subst e; rw [if_neg (by decide), if_pos rfl, if_neg (by decide)]; omega
  · subst e; rw [if_neg (by decide), if_neg (by decide), if_pos rfl]; omega
theorem CB.up {s s0 : Nat} (hC : CB σ s) (hlt : cn σ s0 < mxn s0) (h28 : σ' 28 = up (σ 28) s0 ((cn σ s0 + 1 : Nat) : Int)) : CB σ' s := by
  unfold CB
  rw [cnS_of h28 s, h28, upa]
  by_cases z : s = s0
  · subst z
    rw [if_pos rfl, if_pos rfl]
    exact ⟨rfl, hlt⟩
  · rw [if_neg z, if_neg z]
    exact hC
theorem CI.add {s0 : Nat} (hs0 : s0 < 3) (h : CI σ τ sd) (hlt : cn σ s0 < mxn s0) {l : List Nat} (hl : Lt l) (h28 : σ' 28 = up (σ 28) s0 ((cn σ s0 + 1 : Nat) : Int)) (h29 : σ' 29 = up (σ 29) (off s0 + cn σ s0) ((fr 32 l : Nat) : Int)) (h88 : τ' 88 = up (τ 88) (cn σ 0 + cn σ 1 + cn σ 2) ((fr 27 l : Nat) : Int)) (h89 : τ' 89 = up (τ 89) (cn σ 0 + cn σ 1 + cn σ 2) (s0 : Int)) (h90 : τ' 90 = up (τ 90) (cn σ 0 + cn σ 1 + cn σ 2) (cn σ s0 : Int)) (hcc : τ' 91 sd = σ' 28 0 ∧ τ' 95 sd = σ' 28 1 ∧ τ' 112 sd = σ' 28 2 ∧ τ' 115 sd = σ' 28 3 ∧ τ' 118 sd = σ' 28 4 ∧ τ' 104 sd = σ' 28 5) (h20 : τ' 80 20 = ((cn σ 0 + cn σ 1 + cn σ 2 + 1 : Nat) : Int)) (h19 : τ' 80 19 = τ 80 19) (h12 : τ' 80 12 = τ 80 12) (h27 : σ' 27 = σ 27) (h56 : τ' 80 56 = τ 80 56) (h40 : τ' 80 40 = τ 80 40) (h47 : σ 47 4 ≤ σ' 47 4) : CI σ' τ' sd := by
  have cs := cnS_of h28
  have sm := CI.sum hs0 cs
  obtain ⟨a1, ⟨a2, a3, a4, a5⟩, a6, ⟨a7, a8, a9⟩, a10, ⟨c, e, b, c1, c2, c3, c4, c5, c6⟩⟩ := h
  have k : ∀ s, ¬ s = s0 → σ' 28 s = σ 28 s ∧ cn σ' s = cn σ s := fun s hs => ⟨by rw [h28, upa, if_neg hs], by rw [cs s, if_neg hs]⟩
  refine ⟨by rw [h19]; exact a1, ⟨fun s hs => (a2 s hs).up hlt h28, ?_, ?_, ?_⟩, hcc, ⟨by rw [sm]; exact h20, ?_, ?_⟩, by rw [h12]; exact a10, ⟨c, e, b, by rw [h27]; exact c1, by omega, by rw [h56]; exact c3, by omega, by rw [h40]; exact c5, ?_⟩⟩
  · rw [(k 3 (by omega)).1, (k 3 (by omega)).2]; exact a3
  · rw [(k 4 (by omega)).1, (k 4 (by omega)).2]; exact a4
  · rw [(k 5 (by omega)).1, (k 5 (by omega)).2]; exact a5
  · rw [sm]
    exact nb_add hs0 a2 hlt a8 (fun s _ => cs s) h29 h88 h89 h90 hl
  · rw [sm]
    intro k hk
    rw [h89, upa]
    by_cases z : k = cn σ 0 + cn σ 1 + cn σ 2
    · rw [if_pos z]
      exact ⟨s0, hs0, rfl⟩
    · rw [if_neg z]
      exact a9 k (by omega)
  · rw [(k 5 (by omega)).2, h27]; exact c6
theorem CI.cnt {s0 M : Nat} (hs3 : 3 ≤ s0 ∧ s0 ≤ 5) (hM : M = if s0 = 5 then 8 else 20) (h : CI σ τ sd) (hlt : cn σ s0 < M) (h28 : σ' 28 = up (σ 28) s0 ((cn σ s0 + 1 : Nat) : Int)) (h29 : σ' 29 = σ 29) (h88 : τ' 88 = τ 88) (h89 : τ' 89 = τ 89) (h90 : τ' 90 = τ 90) (hcc : τ' 91 sd = σ' 28 0 ∧ τ' 95 sd = σ' 28 1 ∧ τ' 112 sd = σ' 28 2 ∧ τ' 115 sd = σ' 28 3 ∧ τ' 118 sd = σ' 28 4 ∧ τ' 104 sd = σ' 28 5) (h20 : τ' 80 20 = τ 80 20) (h19 : τ' 80 19 = τ 80 19) (h12 : τ' 80 12 = 0) (hco : ∃ c e b : Nat, σ' 27 19 = (c : Int) ∧ (c : Int) ≤ σ' 47 4 ∧ τ' 80 56 = ((420 * sd + e : Nat) : Int) ∧ (e : Int) ≤ σ' 47 4 ∧ τ' 80 40 = ((50 * sd + b : Nat) : Int) ∧ b ≤ 5 * cn σ' 5 ∧ (0 ≤ σ' 27 20 ∧ σ' 27 20 ≤ 3)) : CI σ' τ' sd := by
  have cs := cnS_of h28
  obtain ⟨a1, ⟨a2, a3, a4, a5⟩, a6, ⟨a7, a8, a9⟩, a10, -⟩ := h
  have k : ∀ s, ¬ s = s0 → σ' 28 s = σ 28 s ∧ cn σ' s = cn σ s := fun s hs => ⟨by rw [h28, upa, if_neg hs], by rw [cs s, if_neg hs]⟩
  have k0 : σ' 28 s0 = ((cn σ s0 + 1 : Nat) : Int) ∧ cn σ' s0 = cn σ s0 + 1 := ⟨by rw [h28, upa, if_pos rfl], by rw [cs s0, if_pos rfl]⟩
  have big : ∀ s B, (σ 28 s = (cn σ s : Int) ∧ cn σ s ≤ B) → (s = s0 → M = B) → (σ' 28 s = (cn σ' s : Int) ∧ cn σ' s ≤ B) := fun s B hs hb => by
    by_cases z : s = s0
    · subst z
      rw [k0.1, k0.2]
      have := hb rfl
      exact ⟨rfl, by omega⟩
    · rw [(k s z).1, (k s z).2]
      exact hs
  have sm : cn σ' 0 + cn σ' 1 + cn σ' 2 = cn σ 0 + cn σ 1 + cn σ 2 := by rw [(k 0 (by omega)).2, (k 1 (by omega)).2, (k 2 (by omega)).2]
  refine ⟨by rw [h19]; exact a1, ⟨fun s hs => ?_, big 3 20 a3 (fun z => by rw [hM, if_neg (by omega)]), big 4 20 a4 (fun z => by rw [hM, if_neg (by omega)]), big 5 8 a5 (fun z => by rw [hM, if_pos z.symm])⟩, hcc, ⟨by rw [sm, h20]; exact a7, ?_, ?_⟩, h12, hco⟩
  · unfold CB
    rw [(k s (by omega)).1, (k s (by omega)).2]
    exact a2 s hs
  · intro s hs
    rw [sm]
    unfold NBs
    rw [(k s (by omega)).2, h29, h88, h89, h90]
    exact a8 s hs
  · rw [sm, h89]
    exact a9
/-- the names lists serve every small step -/
theorem CI.nm (h : CI σ τ sd) (f : σ' 28 = σ 28) (f9 : σ' 29 = σ 29) (e88 : τ' 88 = τ 88) (e89 : τ' 89 = τ 89) (e90 : τ' 90 = τ 90) (e20 : τ' 80 20 = τ 80 20) : τ' 80 20 = ((cn σ 0 + cn σ 1 + cn σ 2 : Nat) : Int) ∧ (∀ s, s < 3 → CB σ' s) ∧ (∀ s, s < 3 → NBs σ' τ' (cn σ 0 + cn σ 1 + cn σ 2) s) ∧ ∀ k, k < cn σ 0 + cn σ 1 + cn σ 2 → ∃ s : Nat, s < 3 ∧ τ' 89 k = (s : Int) :=
  ⟨e20.trans h.2.2.2.1.1, fun s hs => (h.2.1.1 s hs).ag f, fun s hs => (h.2.2.2.1.2.1 s hs).ag f f9 e88 e89 e90, by rw [e89]; exact h.2.2.2.1.2.2⟩
theorem l_first (X : Nat) {w : Nat} {M : Int} (hw : w < 6) (h1001 : σ 1001 w = M) (h : PS N σ τ) (f : NF N σ τ t) (k0 : ¬ σ 4 t = 0) (k1 : ¬ σ 4 t = 1) (hM : σ 28 w ≤ M) : ∃ σ' τ', vcV X 230 [vP 47, vI (w : Int)] σ = some σ' ∧ vcV X 190 [vP 80, vI (σ 28 w), vI M] τ = some τ' ∧ Nx N σ τ σ' τ' ∧ (σ' 47 6 = 0 → σ 28 w < M ∧ τ' 80 13 = 0 ∧ σ 47 4 < σ' 47 4) ∧ (¬ σ' 47 6 = 0 → 0 < τ' 80 13) := by
  have t4 := PS.t400 h.1 f
  have h6 := f.2.1.1
  have h13 := f.2.1.2
  by_cases z : σ 28 w = M
  · have fc : Nx N σ τ (fl σ t 2) (fm τ t 2) := nx_fault h.1 f (by omega) fm_fr rfl rfl
    have e6 : ¬ fl σ t 2 47 6 = 0 := by show ¬ (2 : Int) = 0; omega
    refine ⟨fl σ t 2, fm τ t 2, vV_of ((bq_230_0 X _ σ).trans ?_) rfl, vV_of ((bq_190_0 X _ _ τ).trans ?_) rfl, fc, fun q => absurd q e6, fun _ => by show (0 : Int) < 2; omega⟩
    · rw [if_pos (by omega), tn_nat, h1001, if_neg (by omega), cf_go h6 f.2.2.1.1 t4, bsome, bq_230_22, ct_f e6, bsome]
    · have e13 : ¬ fm τ t 2 80 13 = 0 := by show ¬ (2 : Int) = 0; omega
      rw [if_neg (fun q => q z), mf_go h13 f.2.2.1.2 t4, bsome, bq_190_10, if_pos e13, bq_190_21]
  · have hd : ∀ b σ1, vcI X 233 [vP 47, vI (σ 47 5)] σ = some (b, σ1) → vcV X 230 [vP 47, vI (w : Int)] σ = some σ1 := fun b σ1 e => vV_of ((bq_230_0 X _ σ).trans (by
      rw [if_pos (by omega), tn_nat, h1001, if_pos (by omega), bq_230_22, e, bsome])) rfl
    have hm : ∀ τ1, vcV X 248 [vP 80] τ = some τ1 → vcV X 190 [vP 80, vI (σ 28 w), vI M] τ = some τ1 := fun τ1 e => vV_of ((bq_190_0 X _ _ τ).trans (by
      rw [if_pos z, bq_190_10, if_neg (fun q => q h13), e, bsome, bq_190_21])) rfl
    by_cases y : t = 400
    · subst y
      exact ⟨fl σ 400 2, fm τ 400 2, hd _ _ (ct_room h6 rfl f.2.2.1.1), hm _ (mg_room h13 f.2.2.1.2), nx_fault h.1 f (by omega) fm_fr rfl rfl, fun q => absurd q (by show ¬ (2 : Int) = 0; omega), fun _ => by show (0 : Int) < 2; omega⟩
    · obtain ⟨a1, a2⟩ := nx_tk h.1 f k0 k1 (by omega)
      refine ⟨tk σ t, gm τ t, hd _ _ (ct_ok h6 rfl f.2.2.1.1 (by omega)), hm _ (mg_ok f.2.2.1.2 (by omega)), a1, fun _ => ⟨by omega, h13, ?_⟩, fun q => absurd h6 q⟩
      rw [f.2.2.1.1, a2.2.2.1.1]
      omega
theorem kr_dish : ∀ a b, KR a b → (a = 256 ↔ b = 20) := kr_of (by decide +kernel)
theorem kr_man : ∀ a b, KR a b → (a = 257 ↔ b = 21) := kr_of (by decide +kernel)
theorem kr_belly : ∀ a b, KR a b → (a = 258 ↔ b = 26) := kr_of (by decide +kernel)
theorem kr_goes : ∀ a b, KR a b → (a = 259 ↔ b = 27) := kr_of (by decide +kernel)
theorem kr_owe : ∀ a b, KR a b → (a = 260 ↔ b = 28) := kr_of (by decide +kernel)
theorem kr_law : ∀ a b, KR a b → (a = 261 ↔ b = 22) := kr_of (by decide +kernel)
theorem kr_semi : ∀ a b, KR a b → (a = 59 ↔ b = 4) := kr_of (by decide +kernel)
theorem kr_set : ∀ a b, KR a b → (a = 61 ↔ b = 5) := kr_of (by decide +kernel)
theorem m_notes (X : Nat) {n tk0 : Nat} {s a : Int} (hn : n ≤ 23) (ht : tk0 ≤ 402) (h20 : τ 80 20 = (n : Int)) : vcV X 252 [vP 80, vI (tk0 : Int), vI s, vI a] τ = some (am_upd (am_upd (am_upd (am_upd τ 88 n (τ 86 tk0)) 89 n s) 90 n a) 80 20 ((n + 1 : Nat) : Int)) := by
  have e : ∀ x y : Int, am_upd (am_upd τ 88 n x) 89 n y 80 20 = (n : Int) := fun _ _ => h20
  refine vV_of ((bq_252_0 X _ _ _ τ).trans ?_) rfl
  rw [if_pos (by omega), h20, if_pos (by omega), tn_nat, tn_nat, bq_252_25, e, if_pos (by omega), tn_nat, w32_s1 (by omega)]
end PE
