/-! READ: expressions, what waits and what is told -/
def strn (x : Int) : Nat := if x = 42 ∨ x = 47 then 2 else if x = 43 ∨ x = 45 then 1 else 0
def stpn (x : Int) : Nat := if x = 43 then 2 else if x = 45 then 3 else if x = 42 then 4 else 5
def isop (x : Int) : Prop := x = 42 ∨ x = 47 ∨ x = 43 ∨ x = 45
/-- what waits, the last first: nested, the last one's strength, operators -/
def WK : List Int → Nat → Nat → Nat → Prop
  | [], n, s, c => n = 0 ∧ s = 0 ∧ c = 0
  | x :: r, n, s, c => (x = 40 ∧ s = 0 ∧ ∃ n' s', n = n' + 1 ∧ WK r n' s' c) ∨ (∃ c' s', isop x ∧ s = strn x ∧ c = c' + 1 ∧ s' < s ∧ WK r n s' c')
section PL
variable {X N : Nat} {σ τ σ' τ' : am_Sg} {t sd g p0 q0 n : Nat}
theorem strn_op {x : Int} (h : isop x) : 1 ≤ strn x ∧ strn x ≤ 2 := by
  unfold strn
  rcases h with h | h | h | h <;> subst h <;> decide
theorem WK.bd : ∀ {W : List Int} {n s c : Nat}, WK W n s c → c ≤ 2 * n + s ∧ s ≤ 2 ∧ W.length = n + c
  | [], n, s, c, h => by
    obtain ⟨h1, h2, h3⟩ := h
    subst h1 h2 h3
    exact ⟨Nat.le_refl _, by decide, rfl⟩
  | x :: r, n, s, c, h => by
    have l : (x :: r).length = r.length + 1 := rfl
    rcases h with ⟨-, h2, n', s', h3, h4⟩ | ⟨c', s', h1, h2, h3, h4, h5⟩
    · obtain ⟨a, b, d⟩ := WK.bd h4
      omega
    · obtain ⟨a, b, d⟩ := WK.bd h5
      have := strn_op h1
      omega
def ER (g sd p0 q0 : Nat) (σ τ : am_Sg) (W : List Int) (n s c : Nat) (out : Ops) (dep : Nat) : Prop := (SgC (σ 46) p0 out ∧ σ 27 19 = ((p0 + out.length : Nat) : Int)) ∧ (SgM (τ 122) (τ 123) q0 out ∧ τ 80 56 = ((q0 + out.length : Nat) : Int)) ∧ wfo out 0 dep ∧ (Stk (σ 48) W ∧ σ 47 3 = (W.length : Int)) ∧ (Stk (τ 124) (W.map sgM) ∧ τ 80 60 = (W.length : Int)) ∧ (WK W n s c ∧ n ≤ 6) ∧ (p0 + out.length + c ≤ 400 ∧ 420 * sd ≤ q0 ∧ q0 + out.length + c ≤ 420 * sd + 400) ∧ (bt1 (σ 27 20) g = 0 → nv4 out)
/-- frames: the class, the reference -/
def CF (p0 : Nat) (σ σ' : am_Sg) : Prop := Fr [27, 46, 47] [] σ σ' ∧ (∀ j, ¬ j = 3 → σ' 47 j = σ 47 j) ∧ (∀ j, ¬ j = 19 → σ' 27 j = σ 27 j) ∧ (∀ j, j < p0 → σ' 46 j = σ 46 j) ∧ (0 ≤ σ 27 19 → 0 ≤ σ' 27 19)
def MX (sd q0 : Nat) (τ τ' : am_Sg) : Prop := Fr [122, 123] [56, 60] τ τ' ∧ (∀ j, j < q0 → τ' 122 j = τ 122 j ∧ τ' 123 j = τ 123 j) ∧ MG sd τ τ'
theorem CF.rf : CF p0 σ σ := ⟨Fr.rf, fun _ _ => rfl, fun _ _ => rfl, fun _ _ => rfl, fun z => z⟩
theorem CF.tr {a b c : am_Sg} (h : CF p0 a b) (h' : CF p0 b c) : CF p0 a c := ⟨h.1.tr h'.1, fun j hj => (h'.2.1 j hj).trans (h.2.1 j hj), fun j hj => (h'.2.2.1 j hj).trans (h.2.2.1 j hj), fun j hj => (h'.2.2.2.1 j hj).trans (h.2.2.2.1 j hj), fun z => h'.2.2.2.2 (h.2.2.2.2 z)⟩
theorem MX.rf : MX sd q0 τ τ := ⟨Fr.rf, fun _ _ => ⟨rfl, rfl⟩, MG.rf⟩
theorem MX.tr {a b c : am_Sg} (h : MX sd q0 a b) (h' : MX sd q0 b c) : MX sd q0 a c := ⟨h.1.tr h'.1, fun j hj => ⟨((h'.2.1 j hj).1).trans (h.2.1 j hj).1, ((h'.2.1 j hj).2).trans (h.2.1 j hj).2⟩, h.2.2.tr h'.2.2⟩
theorem PS.cf (h : PS N σ τ) (c : CF p0 σ σ') (m : MX sd q0 τ τ') : PS N σ' τ' := h.ag (c.1.get 4 (by decide) rfl) (c.1.get 5 (by decide) rfl) (c.1.get 6 (by decide) rfl) (fun j hj => c.2.1 j (fun q => by rw [q] at hj; exact absurd hj (by decide))) (m.1.get 83 (by decide) rfl) (m.1.get 84 (by decide) rfl) (m.1.get 85 (by decide) rfl) (m.1.get 86 (by decide) rfl) (fun j hj => m.1.fld j (by
  cases hc : [56, 60].contains j with
  | false => rfl
  | true =>
    have : j = 56 ∨ j = 60 := by simpa using hc
    rcases this with e | e <;> rw [e] at hj <;> cases hj))
/-! a step told -/
def cst (σ : am_Sg) (p : Nat) (k : Nat) (v : Int) : am_Sg := am_upd (am_upd σ 46 p (am_or (am_shl v 3) (k : Int))) 27 19 ((p + 1 : Nat) : Int)
def mst (τ : am_Sg) (q : Nat) (k : Nat) (v : Int) : am_Sg := am_upd (am_upd (am_upd τ 122 q (k : Int)) 123 q v) 80 56 ((q + 1 : Nat) : Int)
theorem c_step (X : Nat) {p k : Nat} {v : Int} (hp : p < 400) (h : σ 27 19 = (p : Int)) : vcI X 247 [vP 27, vI (k : Int), vI v] σ = some ((p : Int), cst σ p k v) := by
  refine vI_of ((bq_247_0 X _ _ σ).trans ?_) rfl
  rw [h, if_neg (by omega), if_pos (by omega), tn_nat, w32_s1 (by omega), bq_247_35]
  rfl
theorem m_emit (X : Nat) {q k : Nat} {v : Int} (hq : q < 840) (h : τ 80 56 = (q : Int)) : vcV X 288 [vP 80, vI (k : Int), vI v] τ = some (mst τ q k v) := by
  refine vV_of ((bq_288_0 X _ _ τ).trans ?_) rfl
  have e : ∀ x y : Int, am_upd (am_upd τ 122 q x) 123 q y 80 56 = (q : Int) := fun _ _ => h
  rw [h, if_pos (by omega), tn_nat, bq_288_20, e, w32_s1 (by omega)]
  rfl
theorem enc_op : ∀ k : Fin 8, am_and (am_or (am_shl 0 3) (k.val : Int)) 7 = (k.val : Int) ∧ am_shr (am_or (am_shl 0 3) (k.val : Int)) 3 = 0 := by decide +kernel
theorem enc_int_f : ∀ a b : Fin 100, am_and (am_or (am_shl ((100 * a.val + b.val : Nat) : Int) 3) 0) 7 = 0 ∧ am_shr (am_or (am_shl ((100 * a.val + b.val : Nat) : Int) 3) 0) 3 = ((100 * a.val + b.val : Nat) : Int) := by decide +kernel
theorem enc_int {v : Int} (h0 : 0 ≤ v) (h1 : v ≤ 9999) : am_and (am_or (am_shl v 3) ((0 : Nat) : Int)) 7 = ((0 : Nat) : Int) ∧ am_shr (am_or (am_shl v 3) ((0 : Nat) : Int)) 3 = v := by
  obtain ⟨n, rfl⟩ : ∃ n : Nat, v = n := ⟨v.toNat, by omega⟩
  have := enc_int_f ⟨n / 100, by omega⟩ ⟨n % 100, by omega⟩
  dsimp only at this
  rw [show 100 * (n / 100) + n % 100 = n by omega] at this
  exact this
theorem enc_var_f : ∀ a : Fin 7, am_and (am_or (am_shl (a.val : Int) 3) 1) 7 = 1 ∧ am_shr (am_or (am_shl (a.val : Int) 3) 1) 3 = (a.val : Int) := by decide +kernel
theorem enc_var {v : Int} (h0 : 0 ≤ v) (h1 : v < 7) : am_and (am_or (am_shl v 3) ((1 : Nat) : Int)) 7 = ((1 : Nat) : Int) ∧ am_shr (am_or (am_shl v 3) ((1 : Nat) : Int)) 3 = v := by
  obtain ⟨n, rfl⟩ : ∃ n : Nat, v = n := ⟨v.toNat, by omega⟩
  exact enc_var_f ⟨n, by omega⟩
/-- one more step on both sides -/
theorem ER.add {W : List Int} {s c d d' k : Nat} {out : Ops} {v : Int} (h : ER g sd p0 q0 σ τ W n s c out d) (henc : am_and (am_or (am_shl v 3) (k : Int)) 7 = (k : Int) ∧ am_shr (am_or (am_shl v 3) (k : Int)) 3 = v) (hw : wfo [(k, v)] d d') (hb : p0 + out.length + 1 + c ≤ 400 ∧ q0 + out.length + 1 + c ≤ 420 * sd + 400) (hv : bt1 (σ 27 20) g = 0 → ¬ (k = 1 ∧ v = 4)) : ER g sd p0 q0 (cst σ (p0 + out.length) k v) (mst τ (q0 + out.length) k v) W n s c (out ++ [(k, v)]) d' ∧ CF p0 σ (cst σ (p0 + out.length) k v) ∧ (q0 + out.length < 420 * sd + 420 → MX sd q0 τ (mst τ (q0 + out.length) k v)) := by
  obtain ⟨⟨a1, a2⟩, ⟨a3, a4⟩, a5, ⟨a6, a7⟩, ⟨a8, a9⟩, a10, ⟨a11, a12, a13⟩, a14⟩ := h
  have l : (out ++ [(k, v)]).length = out.length + 1 := by rw [List.length_append]; rfl
  have e46 : cst σ (p0 + out.length) k v 46 = up (σ 46) (p0 + out.length) (am_or (am_shl v 3) (k : Int)) := by
    unfold cst
    rw [un _ (show ¬ (46 : Nat) = 27 by decide), ue]
  have e122 : mst τ (q0 + out.length) k v 122 = up (τ 122) (q0 + out.length) (k : Int) := by
    unfold mst
    rw [un _ (show ¬ (122 : Nat) = 80 by decide), un _ (show ¬ (122 : Nat) = 123 by decide), ue]
  have e123 : mst τ (q0 + out.length) k v 123 = up (τ 123) (q0 + out.length) v := by
    unfold mst
    rw [un _ (show ¬ (123 : Nat) = 80 by decide), ue, un _ (show ¬ (123 : Nat) = 122 by decide)]
  refine ⟨⟨⟨?_, ?_⟩, ⟨?_, ?_⟩, wfo_app a5 hw, ⟨?_, a7⟩, ⟨?_, a9⟩, a10, ⟨by omega, a12, by omega⟩, fun z => ?_⟩, ⟨?_, fun j hj => rfl, fun j hj => ?_, fun j hj => ?_, fun _ => ?_⟩, fun hq => ⟨?_, fun j hj => ?_, ?_⟩⟩
  · rw [e46]
    refine SgC.app (a1.ag (fun i i1 i2 => by rw [upa, if_neg (by omega)])) ⟨?_, trivial⟩
    rw [upe]
    exact henc
  · rw [l]
    rfl
  · rw [e122, e123]
    refine SgM.app (a3.ag (fun i i1 i2 => by rw [upa, upa, if_neg (by omega), if_neg (by omega)]; exact ⟨rfl, rfl⟩)) ⟨?_, trivial⟩
    rw [upe, upe]
    exact ⟨rfl, rfl⟩
  · rw [l]
    rfl
  · exact a6
  · exact a8
  · intro o ho
    rcases List.mem_append.mp ho with ho | ho
    · exact a14 z o ho
    · have : o = (k, v) := by simpa using ho
      rw [this]
      exact hv z
  · exact (Fr.rf.upd rfl (by decide)).upd rfl (by decide)
  · unfold cst
    rw [ue, upa, if_neg hj, un _ (show ¬ (27 : Nat) = 46 by decide)]
  · rw [e46, upa, if_neg (by omega)]
  · show (0 : Int) ≤ ((p0 + out.length + 1 : Nat) : Int)
    omega
  · exact ((Fr.rf.upd rfl (by decide)).upd rfl (by decide)).upf rfl
  · rw [e122, e123, upa, upa, if_neg (by omega), if_neg (by omega)]
    exact ⟨rfl, rfl⟩
  · have r1 : wd 122 * sd ≤ q0 + out.length ∧ q0 + out.length < wd 122 * sd + wd 122 := wrd (w := 420) (by decide) ⟨by omega, hq⟩
    have r2 : wd 123 * sd ≤ q0 + out.length ∧ q0 + out.length < wd 123 * sd + wd 123 := wrd (w := 420) (by decide) ⟨by omega, hq⟩
    exact ((MG.rf.upd rfl (Or.inr (Or.inr r1))).upd rfl (Or.inr (Or.inr r2))).upf rfl
theorem c_str (X : Nat) {x : Int} : vcI X 280 [vI x] σ = some ((strn x : Int), σ) := by
  refine vI_of ((bq_280_0 X _ σ).trans ?_) rfl
  unfold strn
  by_cases h1 : x = 42
  · rw [if_pos h1, bq_280_12, bq_280_33, if_pos (Or.inl h1)]
    rfl
  · rw [if_neg h1]
    by_cases h2 : x = 47
    · rw [if_neg (fun q => q h2), bq_280_12, bq_280_33, if_pos (Or.inr h2)]
      rfl
    · rw [if_pos h2, if_neg (show ¬ (x = 42 ∨ x = 47) by omega)]
      by_cases h3 : x = 43
      · rw [if_pos h3, bq_280_28, bq_280_33, if_pos (Or.inl h3)]
        rfl
      · rw [if_neg h3]
        by_cases h4 : x = 45
        · rw [if_neg (fun q => q h4), bq_280_28, bq_280_33, if_pos (Or.inr h4)]
          rfl
        · rw [if_pos h4, bq_280_33, if_neg (by omega)]
          rfl
theorem c_stp (X : Nat) {x : Int} : vcI X 287 [vI x] σ = some ((stpn x : Int), σ) := by
  refine vI_of ((bq_287_0 X _ σ).trans ?_) rfl
  unfold stpn
  by_cases h1 : x = 43
  · rw [if_neg (fun q => q h1), bq_287_31, if_pos h1]
    rfl
  · rw [if_pos h1, if_neg h1]
    by_cases h2 : x = 45
    · rw [if_neg (fun q => q h2), bq_287_31, if_pos h2]
      rfl
    · rw [if_pos h2, if_neg h2]
      by_cases h3 : x = 42
      · rw [if_neg (fun q => q h3), bq_287_31, if_pos h3]
        rfl
      · rw [if_pos h3, bq_287_31, if_neg h3]
        rfl
theorem sg_op {x : Int} (h : isop x) : (strn x = 2 ∧ (sgM x = 10 ∨ sgM x = 15)) ∨ (strn x = 1 ∧ (sgM x = 8 ∨ sgM x = 9)) := by
  rcases h with h | h | h | h <;> subst h <;> decide
theorem stp_op {x : Int} (h : isop x) : ∃ k, stpn x = k + 2 ∧ k < 4 := by
  rcases h with h | h | h | h <;> subst h
  · exact ⟨2, rfl, by decide⟩
  · exact ⟨3, rfl, by decide⟩
  · exact ⟨0, rfl, by decide⟩
  · exact ⟨1, rfl, by decide⟩
/-- the reference's choice of a step -/
theorem m_42 (X : Nat) {x x1 : Int} (h : isop x) (h60 : τ 80 60 = ((t + 1 : Nat) : Int)) (ht : t < 64) : vv X 283 42 [some (vP 80), some (vI x1), some (vI (sgM x))] [] τ = vv X 283 84 [some (vP 80), some (vI x1), none] [vI ((stpn x : Nat) : Int), vP 80] (am_upd τ 80 60 (t : Int)) := by
  have e : w32 (((t + 1 : Nat) : Int) - 1) = (t : Int) := by rw [w32_id (by omega) (by omega)]; omega
  rw [bq_283_42, h60, e]
  rcases h with h | h | h | h <;> subst h
  · rw [show sgM 42 = 10 by decide, if_pos (by decide), if_pos (by decide), if_neg (by decide)]
    rfl
  · rw [show sgM 47 = 15 by decide, if_pos (by decide), if_pos (by decide), if_pos (by decide)]
    rfl
  · rw [show sgM 43 = 8 by decide, if_neg (by decide)]
    rfl
  · rw [show sgM 45 = 9 by decide, if_pos (by decide), if_neg (by decide)]
    rfl
/-- what waits comes out, down to a bracket or to what binds less -/
theorem l_rel (X : Nat) (sd1 : sd ≤ 1) {q : Nat} (hq : q = 1 ∨ q = 2) : ∀ (W : List Int) (s c : Nat) (out : Ops) (σ τ : am_Sg), ER g sd p0 q0 σ τ W n s c out (c + 1) → ∃ W' s' c' out' σ' τ', vv X 281 0 [some (vP 47), some (vI (q : Int))] [] σ = some (none, σ') ∧ vv X 283 0 [some (vP 80), some (vI ((q - 1 : Nat) : Int)), none] [] τ = some (none, τ') ∧ ER g sd p0 q0 σ' τ' W' n s' c' out' (c' + 1) ∧ (s' < q ∧ out'.length + c' = out.length + c) ∧ CF p0 σ σ' ∧ MX sd q0 τ τ' := by
  intro W
  induction W with
  | nil =>
    intro s c out σ τ h
    obtain ⟨-, h2, -⟩ := h.2.2.2.2.2.1.1
    have e1 : σ 47 3 = ((0 : Nat) : Int) := h.2.2.2.1.2
    have e2 : τ 80 60 = ((0 : Nat) : Int) := h.2.2.2.2.1.2
    refine ⟨[], s, c, out, σ, τ, ?_, ?_, h, ⟨by omega, rfl⟩, CF.rf, MX.rf⟩
    · rw [bq_281_0, e1, if_pos (by decide), bq_281_59]
    · rw [bq_283_0, e2, if_pos (by decide)]
  | cons x r ih =>
    intro s c out σ τ h
    have hw := h.2.2.2.2.2.1.1
    have bd := WK.bd hw
    have n6 := h.2.2.2.2.2.1.2
    have l : (x :: r).length = r.length + 1 := rfl
    have rl : r.length < 24 := by omega
    have e1 : σ 47 3 = ((r.length + 1 : Nat) : Int) := h.2.2.2.1.2
    have e2 : τ 80 60 = ((r.length + 1 : Nat) : Int) := h.2.2.2.2.1.2
    have ew : w32 (((r.length + 1 : Nat) : Int) - 1) = ((r.length : Nat) : Int) := by rw [w32_id (by omega) (by omega)]; omega
    have ex : σ 48 r.length = x := h.2.2.2.1.1.1
    have em : τ 124 r.length = sgM x := by
      have := h.2.2.2.2.1.1.1
      rwa [List.length_map] at this
    rcases hw with ⟨x40, s0, n', s', hn, hr⟩ | ⟨c', s', ho, hs, hc, hlt, hr⟩
    · refine ⟨x :: r, s, c, out, σ, τ, ?_, ?_, h, ⟨by omega, rfl⟩, CF.rf, MX.rf⟩
      · rw [bq_281_0, e1, if_neg (by omega), ew, if_pos (by omega), tn_nat, ex, c_str, bsome]
        dsimp +instances only
        rw [x40, show strn 40 = 0 by decide, if_pos (by omega), bq_281_59]
      · rw [bq_283_0, e2, if_neg (by omega), ew, if_pos (by omega), tn_nat, em, x40, if_pos (by decide), bq_283_41]
    · have so := strn_op ho
      have sg := sg_op ho
      by_cases z : s < q
      · -- it stays
        have q2 : q = 2 := by omega
        have s1 : strn x = 1 := by omega
        have sm : sgM x = 8 ∨ sgM x = 9 := by
          rcases sg with ⟨a, -⟩ | ⟨-, a⟩
          · omega
          · exact a
        refine ⟨x :: r, s, c, out, σ, τ, ?_, ?_, h, ⟨z, rfl⟩, CF.rf, MX.rf⟩
        · rw [bq_281_0, e1, if_neg (by omega), ew, if_pos (by omega), tn_nat, ex, c_str, bsome]
          dsimp +instances only
          rw [if_pos (by omega), bq_281_59]
        · rw [bq_283_0, e2, if_neg (by omega), ew, if_pos (by omega), tn_nat, em, if_neg (by omega), if_neg (by omega)]
          rcases sm with sm | sm
          · rw [if_pos sm, bq_283_41]
          · rw [if_neg (by omega), if_neg (fun q => q sm), bq_283_41]
      · -- it comes out
        obtain ⟨k, hk, k4⟩ := stp_op ho
        obtain ⟨b1, b2, b3⟩ := h.2.2.2.2.2.2.1
        have en := enc_op ⟨k + 2, by omega⟩
        dsimp only at en
        -- the states with x gone
        have h0 : ER g sd p0 q0 (am_upd σ 47 3 ((r.length : Nat) : Int)) (am_upd τ 80 60 ((r.length : Nat) : Int)) r n s' c' out (c + 1) := by
          obtain ⟨a1, a2, a3, a4, a5, a6, a7, a8⟩ := h
          refine ⟨a1, ⟨a2.1, a2.2⟩, a3, ⟨?_, rfl⟩, ⟨?_, ?_⟩, ⟨hr, n6⟩, ⟨by omega, b2, by omega⟩, a8⟩
          · rw [un _ (show ¬ (48 : Nat) = 47 by decide)]
            exact a4.1.2
          · rw [un _ (show ¬ (124 : Nat) = 80 by decide)]
            exact a5.1.2
          · rfl
        obtain ⟨h1, f1, f2⟩ := h0.add (k := k + 2) (v := 0) (d' := c' + 1) en ⟨⟨k4, rfl, by omega⟩, by show c + 1 - 1 = c' + 1; omega⟩ ⟨by omega, by omega⟩ (fun _ q => by omega)
        obtain ⟨W', s2, c2, out', σ', τ', r1, r2, r3, ⟨r4, r5⟩, r6, r7⟩ := ih s' c' (out ++ [(k + 2, 0)]) _ _ h1
        have lo : (out ++ [(k + 2, (0 : Int))]).length = out.length + 1 := by rw [List.length_append]; rfl
        have g1 : CF p0 σ (am_upd σ 47 3 ((r.length : Nat) : Int)) := ⟨Fr.rf.upd rfl (by decide), fun j hj => by rw [ue, upa, if_neg hj], fun j _ => by rw [un _ (show ¬ (27 : Nat) = 47 by decide)], fun j _ => by rw [un _ (show ¬ (46 : Nat) = 47 by decide)], fun z => by rw [un _ (show ¬ (27 : Nat) = 47 by decide)]; exact z⟩
        have g2 : MX sd q0 τ (am_upd τ 80 60 ((r.length : Nat) : Int)) := ⟨Fr.rf.upf rfl, fun j _ => ⟨by rw [un _ (show ¬ (122 : Nat) = 80 by decide)], by rw [un _ (show ¬ (123 : Nat) = 80 by decide)]⟩, MG.rf.upf rfl⟩
        refine ⟨W', s2, c2, out', σ', τ', ?_, ?_, r3, ⟨r4, by omega⟩, (g1.tr f1).tr r6, (g2.tr (f2 (by omega))).tr r7⟩
        · have c19 : am_upd σ 47 3 ((r.length : Nat) : Int) 27 19 = ((p0 + out.length : Nat) : Int) := h.1.2
          rw [bq_281_0, e1, if_neg (by omega), ew, if_pos (by omega), tn_nat, ex, c_str, bsome]
          dsimp +instances only
          rw [if_neg (by omega), e1, ew, if_pos (by omega), tn_nat, ex, c_stp, bsome]
          dsimp +instances only
          rw [hk, c_step X (by omega) c19, bsome]
          exact r1
        · have c56 : am_upd τ 80 60 ((r.length : Nat) : Int) 80 56 = ((q0 + out.length : Nat) : Int) := h.2.1.2
          have sm6 : ¬ sgM x = 6 := by
            rcases sg with ⟨-, a | a⟩ | ⟨-, a | a⟩ <;> omega
          have go : vv X 283 42 [some (vP 80), some (vI ((q - 1 : Nat) : Int)), some (vI (sgM x))] [] τ = some (none, τ') := by
            rw [m_42 X ho e2 (by omega), bq_283_84, hk, m_emit X (by omega) c56, bsome]
            exact r2
          rw [bq_283_0, e2, if_neg (by omega), ew, if_pos (by omega), tn_nat, em, if_neg sm6]
          by_cases q1 : q = 1
          · rw [if_pos (by omega)]
            exact go
          · have s2' : strn x = 2 := by omega
            have sm : ¬ sgM x = 8 ∧ ¬ sgM x = 9 := by
              rcases sg with ⟨-, a | a⟩ | ⟨a, -⟩
              · omega
              · omega
              · omega
            rw [if_neg (by omega), if_neg sm.1, if_pos sm.2]
            exact go
end PL
