/-! READ: a man's traits -/
section PH
variable {X N : Nat} {σ τ σ' τ' : am_Sg} {t sd : Nat}
theorem kr_dec {p q : Int → Bool} (h : krl.all (fun x => p x.1 == q x.2) = true) : ∀ a b, KR a b → p a = q b := by
  intro a b hab
  have := List.all_eq_true.mp h _ (kr_mem hab)
  dsimp only at this
  rwa [beq_iff_eq] at this
theorem kr_hates : ∀ a b, KR a b → (a = 262 ↔ b = 29) := kr_of (by decide +kernel)
theorem kr_ill : ∀ a b, KR a b → (a = 263 ↔ b = 30) := kr_of (by decide +kernel)
theorem kr_fast : ∀ a b, KR a b → (a = 264 ↔ b = 31) := kr_of (by decide +kernel)
theorem kr_trait {a b : Int} (h : KR a b) : (a = 262 ∨ a = 263 ∨ a = 264) ↔ (29 ≤ b ∧ b ≤ 31) := by
  have := kr_dec (p := fun a => decide (a = 262 ∨ a = 263 ∨ a = 264)) (q := fun b => decide (29 ≤ b ∧ b ≤ 31)) (by decide +kernel) a b h
  exact decide_eq_decide.mp this
/-- a token of a known kind: taken by the class, gone over by the reference -/
theorem l_go (X : Nat) {k : Int} (h : PS N σ τ) (f : NF N σ τ t) (e : σ 4 t = k) (k0 : ¬ k = 0) (k1 : ¬ k = 1) : ∃ b σ' τ', vcI X 233 [vP 47, vI k] σ = some (b, σ') ∧ vcV X 248 [vP 80] τ = some τ' ∧ Nx N σ τ σ' τ' ∧ (σ' 47 6 = 0 → σ 47 4 < σ' 47 4 ∧ t < 400 ∧ σ' = tk σ t ∧ τ' = gm τ t) ∧ ((b = 0 ∧ ¬ σ' 47 6 = 0) ∨ (b = 1 ∧ σ' 47 6 = 0)) := by
  have h6 := f.2.1.1
  have t4 := PS.t400 h.1 f
  have e5 : σ 47 5 = k := f.2.2.2.1.trans e
  by_cases y : t = 400
  · subst y
    have n6 : ¬ fl σ 400 2 47 6 = 0 := by show ¬ (2 : Int) = 0; omega
    exact ⟨0, fl σ 400 2, fm τ 400 2, ct_room h6 e5 f.2.2.1.1, mg_room f.2.1.2 f.2.2.1.2, nx_fault h.1 f (by omega) fm_fr rfl rfl, fun q => absurd q n6, Or.inl ⟨rfl, n6⟩⟩
  · have tl : t < 400 := by omega
    obtain ⟨a1, a2⟩ := nx_tk h.1 f (by rw [e]; exact k0) (by rw [e]; exact k1) tl
    refine ⟨1, tk σ t, gm τ t, ct_ok h6 e5 f.2.2.1.1 tl, mg_ok f.2.2.1.2 tl, a1, fun _ => ⟨?_, tl, rfl, rfl⟩, Or.inr ⟨rfl, a2.2.1.1⟩⟩
    rw [f.2.2.1.1, a2.2.2.1.1]
    omega
def TFr (c sd : Nat) (σ τ σ' τ' : am_Sg) : Prop := (Fr [37, 38, 39, 47] [] σ σ' ∧ Fr [100, 101, 102, 103] [11, 13, 14, 15, 16] τ τ') ∧ (∀ j, ¬ j = c → σ' 37 j = σ 37 j ∧ σ' 38 j = σ 38 j ∧ τ' 100 (8 * sd + j) = τ 100 (8 * sd + j) ∧ τ' 101 (8 * sd + j) = τ 101 (8 * sd + j)) ∧ (∀ m d, ¬ m = c → d < 4 → σ' 39 (4 * m + d) = σ 39 (4 * m + d) ∧ τ' 102 (4 * (8 * sd + m) + d) = τ 102 (4 * (8 * sd + m) + d) ∧ τ' 103 (4 * (8 * sd + m) + d) = τ 103 (4 * (8 * sd + m) + d)) ∧ MG sd τ τ'
theorem TFr.sm {c : Nat} (f : Fr [47] [] σ σ') (g : Fr [] [11, 13, 14, 15, 16] τ τ') : TFr c sd σ τ σ' τ' := by
  refine ⟨⟨f.mono rfl rfl, g.mono rfl rfl⟩, fun j _ => ?_, fun m d _ _ => ?_, MG.sm g⟩
  · rw [f.get 37 (by decide) rfl, f.get 38 (by decide) rfl, g.get 100 (by decide) rfl, g.get 101 (by decide) rfl]
    exact ⟨rfl, rfl, rfl, rfl⟩
  · rw [f.get 39 (by decide) rfl, g.get 102 (by decide) rfl, g.get 103 (by decide) rfl]
    exact ⟨rfl, rfl, rfl⟩
theorem TFr.tr {c : Nat} {σ'' τ'' : am_Sg} (h : TFr c sd σ τ σ' τ') (h' : TFr c sd σ' τ' σ'' τ'') : TFr c sd σ τ σ'' τ'' := by
  refine ⟨⟨h.1.1.tr h'.1.1, h.1.2.tr h'.1.2⟩, fun j hj => ?_, fun m d hm hd => ?_, h.2.2.2.tr h'.2.2.2⟩
  · obtain ⟨a1, a2, a3, a4⟩ := h.2.1 j hj
    obtain ⟨b1, b2, b3, b4⟩ := h'.2.1 j hj
    exact ⟨b1.trans a1, b2.trans a2, b3.trans a3, b4.trans a4⟩
  · obtain ⟨a1, a2, a3⟩ := h.2.2.1 m d hm hd
    obtain ⟨b1, b2, b3⟩ := h'.2.2.1 m d hm hd
    exact ⟨b1.trans a1, b2.trans a2, b3.trans a3⟩
theorem Me1.tf {c m : Nat} (h : Me1 σ τ sd m) (hm : ¬ m = c) (f : TFr c sd σ τ σ' τ') : Me1 σ' τ' sd m := by
  obtain ⟨⟨f1, f2⟩, f3, f4, -⟩ := f
  obtain ⟨a1, a2, a3, a4⟩ := f3 m hm
  unfold Me1
  rw [f1.get 33 (by decide) rfl, f1.get 34 (by decide) rfl, f1.get 35 (by decide) rfl, f1.get 36 (by decide) rfl, f2.get 96 (by decide) rfl, f2.get 97 (by decide) rfl, f2.get 98 (by decide) rfl, f2.get 99 (by decide) rfl, a1, a2, a3, a4]
  refine ⟨h.1, h.2.1, h.2.2.1, h.2.2.2.1, fun d hd => ?_⟩
  obtain ⟨b1, b2, b3⟩ := f4 m d hm hd
  rw [b1, b2, b3]
  exact h.2.2.2.2 d hd
theorem fast_f : ∀ a b h : Fin 24, a.val ≤ b.val → (bt1 (w32 (am_shl 2 (b.val : Int) - am_shl 1 (a.val : Int))) h.val = 0 ↔ ¬ (a.val ≤ h.val ∧ h.val ≤ b.val)) := by decide +kernel
theorem fast_b {a b : Int} (h0 : 0 ≤ a) (h1 : a ≤ b) (h2 : b ≤ 23) {h : Nat} (hh : h < 24) : bt1 (w32 (am_shl 2 b - am_shl 1 a)) h = 0 ↔ ¬ (a ≤ (h : Int) ∧ (h : Int) ≤ b) := by
  obtain ⟨x, rfl⟩ : ∃ x : Nat, a = x := ⟨a.toNat, by omega⟩
  obtain ⟨y, rfl⟩ : ∃ y : Nat, b = y := ⟨b.toNat, by omega⟩
  have := fast_f ⟨x, by omega⟩ ⟨y, by omega⟩ ⟨h, hh⟩ (by dsimp only; omega)
  dsimp only at this
  rw [this]
  omega
theorem kk16 {c : Nat} (h1 : sd ≤ 1) (hc : c < 8) : (0 : Int) ≤ ((8 * sd + c : Nat) : Int) ∧ ((8 * sd + c : Nat) : Int) < 16 := by omega
theorem kk64 {c d : Nat} (h1 : sd ≤ 1) (hc : c < 8) (hd : d < 4) : w32 (w32 (4 * ((8 * sd + c : Nat) : Int)) + (d : Int)) = ((4 * (8 * sd + c) + d : Nat) : Int) ∧ (0 : Int) ≤ ((4 * (8 * sd + c) + d : Nat) : Int) ∧ ((4 * (8 * sd + c) + d : Nat) : Int) < 64 := by
  rw [w32_id (x := 4 * ((8 * sd + c : Nat) : Int)) (by omega) (by omega), w32_id (by omega) (by omega)]
  omega
theorem kk32 {c d : Nat} (hc : c < 8) (hd : d < 4) : w32 (w32 ((c : Int) * 4) + (d : Int)) = ((4 * c + d : Nat) : Int) ∧ (0 : Int) ≤ ((4 * c + d : Nat) : Int) ∧ ((4 * c + d : Nat) : Int) < 32 := by
  rw [w32_id (x := (c : Int) * 4) (by omega) (by omega), w32_id (by omega) (by omega)]
  omega
/-- the step of one trait -/
def Tx (X N sd c : Nat) (σ τ : am_Sg) : Prop := ∃ σ' τ', vcV X 237 [vP 47, vI (c : Int)] σ = some σ' ∧ vcV X 253 [vP 80, vI ((8 * sd + c : Nat) : Int)] τ = some τ' ∧ PS N σ' τ' ∧ TFr c sd σ τ σ' τ' ∧ (ok0 σ' → ok0 σ ∧ (Me1 σ τ sd c → Me1 σ' τ' sd c)) ∧ (σ' 47 6 = 0 → σ 47 4 < σ' 47 4)
theorem pick {p : Prop} {a b : Int} {d : Decidable p} (ha : p → 0 ≤ a) (hb : 0 ≤ b) : 0 ≤ @ite Int p d a b := by
  by_cases h : p
  · rw [if_pos h]; exact ha h
  · rw [if_neg h]; exact hb
theorem t_fast (X : Nat) {c : Nat} (h : PS N σ τ) (f : NF N σ τ t) (h1 : sd ≤ 1) (hc : c < 8) (e : σ 4 t = 264) : Tx X N sd c σ τ := by
  have e83 : τ 83 t = 31 := (kr_fast _ _ (h.1.2.1 t f.1).2.1).mp e
  have t4 := PS.t400 h.1 f
  have tr : (0 : Int) ≤ (t : Int) ∧ (t : Int) < 403 := by omega
  have e5 : σ 47 5 = 264 := f.2.2.2.1.trans e
  have t11 := f.2.2.1.2
  have kk := kk16 (sd := sd) (c := c) h1 hc
  have cr : (0 : Int) ≤ (c : Int) ∧ (c : Int) < 8 := by omega
  have cn0 : ¬ (c : Int) < 0 := by omega
  obtain ⟨b, σ1, τ1, a1, a2, a3, a4, -⟩ := l_go X h f e (by decide) (by decide)
  obtain ⟨r0, s0, σ2, τ2, b1, b2, b3, b4, b5, b6⟩ := l_num X (a := 0) (b := 23) (a' := 0) (b' := 23) a3.1 (by decide) (by decide) (fun _ => ⟨rfl, rfl⟩)
  obtain ⟨r1, s1, σ3, τ3, d1, d2, d3, d4, d5, d6⟩ := l_num X (a := r0) (b := 23) (a' := if s0 ≤ 23 then s0 else 0) (b' := 23) b3.1 b4.2 (pick (fun _ => b5) (Int.le_refl _)) (fun z => ⟨by
    have := b6 z
    rw [this, if_pos b4.2], rfl⟩)
  have cx : Cx σ σ3 := a3.cx.tr (b3.cx.tr d3.cx)
  have gm' : Fr [] [11, 13, 14, 15, 16] τ τ3 := a3.2.1.2.tr (b3.2.1.2.tr d3.2.1.2)
  have tf3 : TFr c sd σ τ σ3 τ3 := TFr.sm cx.1 gm'
  have tf4 : TFr c sd σ3 τ3 (am_upd σ3 38 c (w32 (am_shl 2 r1 - am_shl 1 r0))) (am_upd (am_upd τ3 100 (8 * sd + c) s0) 101 (8 * sd + c) s1) := by
    refine ⟨⟨Fr.rf.upd rfl (by decide), (Fr.rf.upd rfl (by decide)).upd rfl (by decide)⟩, fun j hj => ⟨?_, ?_, ?_, ?_⟩, fun m d _ _ => ⟨?_, ?_, ?_⟩, (MG.rf.upd rfl (Or.inr (Or.inr (wrg (by decide) hc)))).upd rfl (Or.inr (Or.inr (wrg (by decide) hc)))⟩
    · rw [un _ (show ¬ (37 : Nat) = 38 by decide)]
    · rw [ue, upa, if_neg hj]
    · rw [un _ (show ¬ (100 : Nat) = 101 by decide), ue, upa, if_neg (fun q => hj (Nat.add_left_cancel q))]
    · rw [ue, upa, if_neg (fun q => hj (Nat.add_left_cancel q)), un _ (show ¬ (101 : Nat) = 100 by decide)]
    · rw [un _ (show ¬ (39 : Nat) = 38 by decide)]
    · rw [un _ (show ¬ (102 : Nat) = 101 by decide), un _ (show ¬ (102 : Nat) = 100 by decide)]
    · rw [un _ (show ¬ (103 : Nat) = 101 by decide), un _ (show ¬ (103 : Nat) = 100 by decide)]
  refine ⟨_, _, ?_, ?_, ((d3.1.updc (k := 38) (j := c) (x := w32 (am_shl 2 r1 - am_shl 1 r0)) (by decide) (by omega)).updm (k := 100) (j := 8 * sd + c) (x := s0) (by decide) (by omega)).updm (k := 101) (j := 8 * sd + c) (x := s1) (by decide) (by omega), tf3.tr tf4, fun z => ?_, fun z => ?_⟩
  · refine vV_of ((bq_237_0 X _ σ).trans ?_) rfl
    rw [if_neg (fun q => q e5), a1, bsome]
    dsimp +instances only
    rw [b1, bsome]
    dsimp +instances only
    rw [d1, bsome]
    dsimp +instances only
    rw [show vcV X 271 [vP 27, vI (c : Int), vI r0, vI r1] σ3 = some (am_upd σ3 38 c (w32 (am_shl 2 r1 - am_shl 1 r0))) from vV_of ((bq_271_0 X _ _ _ σ3).trans (by rw [if_neg cn0, if_pos cr, tn_nat, bq_271_17])) rfl, bsome, bq_237_109]
  · refine vV_of ((bq_253_0 X _ τ).trans ?_) rfl
    have fin : vv X 253 40 [some (vP 80), some (vI ((8 * sd + c : Nat) : Int)), none, some (vI s0), none] [vI (if s0 ≤ 23 then s0 else 0), vP 80] τ2 = some (none, am_upd (am_upd τ3 100 (8 * sd + c) s0) 101 (8 * sd + c) s1) := by
      rw [bq_253_40, d2, bsome]
      dsimp +instances only
      rw [if_pos kk, tn_nat]
    rw [t11, if_pos tr, tn_nat, e83, a2, bsome, if_neg (fun q => q rfl), b2, bsome]
    dsimp +instances only
    by_cases y : s0 ≤ 23
    · rw [if_pos y] at fin ⊢
      exact fin
    · rw [if_neg y] at fin ⊢
      exact fin
  · have z3 : ok0 σ3 := z
    refine ⟨cx.2.2.1 z3, fun hm => ?_⟩
    have w1 := d6 z3
    have w0 := b6 (d3.cx.2.2.1 z3)
    have f5 := tf3.1.1
    have g5 := tf3.1.2
    have fc := cx.1
    unfold Me1
    rw [un _ (show ¬ (33 : Nat) = 38 by decide), un _ (show ¬ (34 : Nat) = 38 by decide), un _ (show ¬ (35 : Nat) = 38 by decide), un _ (show ¬ (36 : Nat) = 38 by decide), un _ (show ¬ (37 : Nat) = 38 by decide), un _ (show ¬ (39 : Nat) = 38 by decide), fc.get 33 (by decide) rfl, fc.get 34 (by decide) rfl, fc.get 35 (by decide) rfl, fc.get 36 (by decide) rfl, fc.get 37 (by decide) rfl, fc.get 39 (by decide) rfl, un _ (show ¬ (96 : Nat) = 101 by decide), un _ (show ¬ (96 : Nat) = 100 by decide), un _ (show ¬ (97 : Nat) = 101 by decide), un _ (show ¬ (97 : Nat) = 100 by decide), un _ (show ¬ (98 : Nat) = 101 by decide), un _ (show ¬ (98 : Nat) = 100 by decide), un _ (show ¬ (99 : Nat) = 101 by decide), un _ (show ¬ (99 : Nat) = 100 by decide), un _ (show ¬ (102 : Nat) = 101 by decide), un _ (show ¬ (102 : Nat) = 100 by decide), un _ (show ¬ (103 : Nat) = 101 by decide), un _ (show ¬ (103 : Nat) = 100 by decide), gm'.get 96 (by decide) rfl, gm'.get 97 (by decide) rfl, gm'.get 98 (by decide) rfl, gm'.get 99 (by decide) rfl, gm'.get 102 (by decide) rfl, gm'.get 103 (by decide) rfl]
    refine ⟨hm.1, hm.2.1, hm.2.2.1, fun j hj => ?_, hm.2.2.2.2⟩
    rw [un _ (show ¬ (100 : Nat) = 101 by decide), ue, ue, ue, upe, upe, upe, w0, w1]
    exact fast_b b4.1 d4.1 d4.2 hj
  · have z3 : σ3 47 6 = 0 := z
    have z1 : σ1 47 6 = 0 := (b3.cx.tr d3.cx).z0 z3
    exact Int.lt_of_lt_of_le (a4 z1).1 ((b3.cx.tr d3.cx).2.2.2 z3)
end PH
