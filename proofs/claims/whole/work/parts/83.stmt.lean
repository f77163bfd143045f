/-! READ: what is told so far, on both sides -/
section PD
variable {X N : Nat} {σ τ σ' τ' : am_Sg} {t sd : Nat}
theorem PS.ag (h : PS N σ τ) (h4 : σ' 4 = σ 4) (h5 : σ' 5 = σ 5) (h6 : σ' 6 = σ 6) (h47 : ∀ j, 4 ≤ j → σ' 47 j = σ 47 j) (h83 : τ' 83 = τ 83) (h84 : τ' 84 = τ 84) (h85 : τ' 85 = τ 85) (h86 : τ' 86 = τ 86) (h80 : ∀ j, [11, 13, 14, 15, 16].contains j = true → τ' 80 j = τ 80 j) : PS N σ' τ' := by
  refine ⟨h.1.ag h4 h5 h6 h83 h84 h85 h86, ?_⟩
  have e := h.2
  unfold FS NF SL at e ⊢
  rw [h47 4 (by omega), h47 5 (by omega), h47 6 (by omega), h47 7 (by omega), h47 8 (by omega), h47 9 (by omega), h80 11 rfl, h80 13 rfl, h80 14 rfl, h80 15 rfl, h80 16 rfl, h84, h4]
  exact e
/-- other cells of the reference -/
theorem PS.updm (h : PS N σ τ) {k j : Nat} {x : Int} (hk : ¬ k = 80) (h1 : k < 83 ∨ 86 < k) : PS N σ (am_upd τ k j x) :=
  h.ag rfl rfl rfl (fun _ _ => rfl) (un _ (by omega)) (un _ (by omega)) (un _ (by omega)) (un _ (by omega)) (fun j _ => by rw [un _ (show ¬ 80 = k by omega)])
theorem PS.updf (h : PS N σ τ) {j : Nat} {x : Int} (hj : [11, 13, 14, 15, 16].contains j = false) : PS N σ (am_upd τ 80 j x) :=
  h.ag rfl rfl rfl (fun _ _ => rfl) (un _ (by decide)) (un _ (by decide)) (un _ (by decide)) (un _ (by decide)) (fun i hi => by
    rw [ua, if_pos rfl, if_neg (fun z => by rw [z, hj] at hi; cases hi)])
theorem PS.updc (h : PS N σ τ) {k j : Nat} {x : Int} (hk : ¬ k = 47) (h1 : k < 4 ∨ 6 < k) : PS N (am_upd σ k j x) τ :=
  h.ag (un _ (by omega)) (un _ (by omega)) (un _ (by omega)) (fun j _ => by rw [un _ (show ¬ 47 = k by omega)]) rfl rfl rfl rfl (fun _ _ => rfl)
/-- a fault stays: the reference has gone, the class goes on -/
theorem PS.stay (h : PS N σ τ) (z : ¬ σ 47 6 = 0) (e6 : σ' 47 6 = σ 47 6) (e7 : σ' 47 7 = σ 47 7) (h4 : σ' 4 = σ 4) (h5 : σ' 5 = σ 5) (h6 : σ' 6 = σ 6) : PS N σ' τ := by
  have f := h.fs z
  exact ⟨h.1.ag h4 h5 h6 rfl rfl rfl rfl, Or.inl ⟨f.1, e6.trans f.2.1, e7.trans f.2.2⟩⟩
/-! frames of a statement -/
def cR : List Nat := [27, 28, 29, 30, 31, 32, 33, 34, 35, 36, 37, 38, 39, 40, 41, 42, 43, 44, 45, 46, 47, 48]
def mR : List Nat := [88, 89, 90, 91, 92, 93, 94, 95, 96, 97, 98, 99, 100, 101, 102, 103, 104, 105, 106, 107, 108, 109, 110, 111, 112, 113, 114, 115, 116, 117, 118, 119, 120, 121, 122, 123, 124]
def mj : List Nat := [11, 12, 13, 14, 15, 16, 20, 40, 56, 60]
/-- how wide a side is in a cell -/
def wd (k : Nat) : Nat := if k = 91 ∨ k = 95 ∨ k = 104 ∨ k = 112 ∨ k = 115 ∨ k = 118 then 1 else if k ≤ 94 then 4 else if k ≤ 101 then 8 else if k ≤ 103 then 32 else if k ≤ 106 then 8 else if k ≤ 111 then 50 else if k ≤ 114 then 6 else if k ≤ 121 then 20 else 420
def MF (sd : Nat) (τ τ' : am_Sg) : Prop := ∀ k, 91 ≤ k → k ≤ 123 → ∀ j, ¬ (wd k * sd ≤ j ∧ j < wd k * sd + wd k) → τ' k j = τ k j
def MG (sd : Nat) (τ τ' : am_Sg) : Prop := Fr mR mj τ τ' ∧ MF sd τ τ'
theorem MG.rf : MG sd τ τ := ⟨Fr.rf, fun _ _ _ _ _ => rfl⟩
theorem MG.tr {τ'' : am_Sg} (h : MG sd τ τ') (h' : MG sd τ' τ'') : MG sd τ τ'' := ⟨h.1.tr h'.1, fun k a b j c => (h'.2 k a b j c).trans (h.2 k a b j c)⟩
theorem MG.sm (h : Fr [] [11, 13, 14, 15, 16] τ τ') : MG sd τ τ' := ⟨h.mono rfl rfl, fun k a b j _ => congrFun (h.get k (by omega) rfl) j⟩
theorem MG.upd (h : MG sd τ τ') {k j : Nat} {x : Int} (hk : mR.contains k = true) (h1 : k < 91 ∨ 123 < k ∨ (wd k * sd ≤ j ∧ j < wd k * sd + wd k)) : MG sd τ (am_upd τ' k j x) := by
  have k8 : ¬ k = 80 := fun z => by rw [z] at hk; cases hk
  refine ⟨h.1.upd hk k8, fun a a1 a2 i hi => ?_⟩
  rw [ua]
  by_cases z : a = k
  · subst z
    rw [if_pos rfl, if_neg (fun w => by subst w; rcases h1 with q | q | q
                                        · omega
                                        · omega
                                        · exact hi q)]
    exact h.2 a a1 a2 i hi
  · rw [if_neg z]
    exact h.2 a a1 a2 i hi
theorem MG.upf (h : MG sd τ τ') {j : Nat} {x : Int} (hj : mj.contains j = true) : MG sd τ (am_upd τ' 80 j x) := by
  refine ⟨h.1.upf hj, fun a a1 a2 i hi => ?_⟩
  rw [ua, if_neg (by omega)]
  exact h.2 a a1 a2 i hi
/-! counts, names -/
def CI (σ τ : am_Sg) (sd : Nat) : Prop := (τ 80 19 = (sd : Int) ∧ sd ≤ 1) ∧ ((∀ s, s < 3 → CB σ s) ∧ (σ 28 3 = (cn σ 3 : Int) ∧ cn σ 3 ≤ 20) ∧ (σ 28 4 = (cn σ 4 : Int) ∧ cn σ 4 ≤ 20) ∧ (σ 28 5 = (cn σ 5 : Int) ∧ cn σ 5 ≤ 8)) ∧ (τ 91 sd = σ 28 0 ∧ τ 95 sd = σ 28 1 ∧ τ 112 sd = σ 28 2 ∧ τ 115 sd = σ 28 3 ∧ τ 118 sd = σ 28 4 ∧ τ 104 sd = σ 28 5) ∧ (τ 80 20 = ((cn σ 0 + cn σ 1 + cn σ 2 : Nat) : Int) ∧ (∀ s, s < 3 → NBs σ τ (cn σ 0 + cn σ 1 + cn σ 2) s) ∧ ∀ k, k < cn σ 0 + cn σ 1 + cn σ 2 → ∃ s : Nat, s < 3 ∧ τ 89 k = (s : Int)) ∧ τ 80 12 = 0 ∧ (∃ c e b : Nat, σ 27 19 = (c : Int) ∧ (c : Int) ≤ σ 47 4 ∧ τ 80 56 = ((420 * sd + e : Nat) : Int) ∧ (e : Int) ≤ σ 47 4 ∧ τ 80 40 = ((50 * sd + b : Nat) : Int) ∧ b ≤ 5 * cn σ 5 ∧ (0 ≤ σ 27 20 ∧ σ 27 20 ≤ 3))
theorem CI.n18 (h : CI σ τ sd) : cn σ 0 + cn σ 1 + cn σ 2 ≤ 18 := by
  have a0 := (h.2.1.1 0 (by omega)).2
  have a1 := (h.2.1.1 1 (by omega)).2
  have a2 := (h.2.1.1 2 (by omega)).2
  unfold mxn at a0 a1 a2
  rw [if_pos rfl] at a0
  rw [if_neg (by omega), if_pos rfl] at a1
  rw [if_neg (by omega), if_neg (by omega)] at a2
  omega
theorem cn_ag (h : σ' 28 = σ 28) (s : Nat) : cn σ' s = cn σ s := by unfold cn; rw [h]
theorem CB.ag (h : CB σ t) (e : σ' 28 = σ 28) : CB σ' t := by unfold CB; rw [cn_ag e, e]; exact h
theorem NBs.ag {n s : Nat} (h : NBs σ τ n s) (e : σ' 28 = σ 28) (e9 : σ' 29 = σ 29) (e88 : τ' 88 = τ 88) (e89 : τ' 89 = τ 89) (e90 : τ' 90 = τ 90) : NBs σ' τ' n s := by
  unfold NBs
  rw [cn_ag e, e9, e88, e89, e90]
  exact h
theorem UN.ag {s : Nat} (h : UN σ s) (e : σ' 28 = σ 28) (e9 : σ' 29 = σ 29) : UN σ' s := by
  unfold UN
  rw [cn_ag e, e9]
  exact h
theorem off_ne {s s0 i j : Nat} (hs : s < 3) (hs0 : s0 < 3) (hi : i < mxn s) (hj : j < mxn s0) (h : ¬ (s = s0 ∧ i = j)) : ¬ off s + i = off s0 + j := by
  rcases (show s = 0 ∨ s = 1 ∨ s = 2 by omega) with e | e | e <;> rcases (show s0 = 0 ∨ s0 = 1 ∨ s0 = 2 by omega) with e' | e' | e' <;> subst e <;> subst e' <;> unfold off mxn at * <;> simp at * <;> omega
theorem nb_add {s0 n : Nat} {l : List Nat} (hs0 : s0 < 3) (hC : ∀ s, s < 3 → CB σ s) (hlt : cn σ s0 < mxn s0) (hB : ∀ s, s < 3 → NBs σ τ n s) (h28 : ∀ s, s < 3 → cn σ' s = if s = s0 then cn σ s0 + 1 else cn σ s) (h29 : σ' 29 = up (σ 29) (off s0 + cn σ s0) ((fr 32 l : Nat) : Int)) (h88 : τ' 88 = up (τ 88) n ((fr 27 l : Nat) : Int)) (h89 : τ' 89 = up (τ 89) n (s0 : Int)) (h90 : τ' 90 = up (τ 90) n (cn σ s0 : Int)) (hl : Lt l) : ∀ s, s < 3 → NBs σ' τ' (n + 1) s := by
  intro s hs
  have keep : ∀ i, i < cn σ s → σ' 29 (off s + i) = σ 29 (off s + i) := fun i hi => by
    rw [h29, upa, if_neg]
    refine off_ne hs hs0 (Nat.lt_of_lt_of_le hi (hC s hs).2) hlt (fun z => ?_)
    obtain ⟨z1, z2⟩ := z
    subst z1
    omega
  have up1 : cn σ s ≤ cn σ' s := by
    rw [h28 s hs]
    split
    next z => subst z; omega
    · omega
  refine ⟨fun k hk e => ?_, fun i hi => ?_⟩
  · by_cases w : k = n
    · subst w
      rw [h89, upa, if_pos rfl] at e
      have es : s = s0 := by omega
      subst es
      refine ⟨cn σ s, l, ?_, hl, by rw [h90, upa, if_pos rfl], by rw [h88, upa, if_pos rfl], by rw [h29, upa, if_pos rfl]⟩
      rw [h28 s hs, if_pos rfl]
      omega
    · rw [h89, upa, if_neg w] at e
      obtain ⟨i, l', i1, i2, i3, i4, i5⟩ := (hB s hs).1 k (by omega) e
      exact ⟨i, l', by omega, i2, by rw [h90, upa, if_neg w]; exact i3, by rw [h88, upa, if_neg w]; exact i4, by rw [keep i i1]; exact i5⟩
  · by_cases w : i < cn σ s
    · obtain ⟨k, k1, k2, k3⟩ := (hB s hs).2 i w
      exact ⟨k, by omega, by rw [h89, upa, if_neg (by omega)]; exact k2, by rw [h90, upa, if_neg (by omega)]; exact k3⟩
    · rw [h28 s hs] at hi
      by_cases es : s = s0
      · subst es
        rw [if_pos rfl] at hi
        refine ⟨n, by omega, by rw [h89, upa, if_pos rfl], ?_⟩
        rw [h90, upa, if_pos rfl, show i = cn σ s by omega]
      · rw [if_neg es] at hi
        exact absurd hi w
theorem un_add {s0 : Nat} {x : Int} (hs0 : s0 < 3) (hC : ∀ s, s < 3 → CB σ s) (hlt : cn σ s0 < mxn s0) (hU : ∀ s, s < 3 → UN σ s) (h28 : ∀ s, s < 3 → cn σ' s = if s = s0 then cn σ s0 + 1 else cn σ s) (h29 : σ' 29 = up (σ 29) (off s0 + cn σ s0) x) (hx : ∀ s j : Nat, s < 3 → j < cn σ s → ¬ σ 29 (off s + j) = x) : ∀ s, s < 3 → UN σ' s := by
  intro s hs
  have keep : ∀ i, i < cn σ s → σ' 29 (off s + i) = σ 29 (off s + i) := fun i hi => by
    rw [h29, upa, if_neg]
    refine off_ne hs hs0 (Nat.lt_of_lt_of_le hi (hC s hs).2) hlt (fun z => ?_)
    obtain ⟨z1, z2⟩ := z
    subst z1
    omega
  have at0 : σ' 29 (off s0 + cn σ s0) = x := by rw [h29, upa, if_pos rfl]
  intro i j hi hj e
  rw [h28 s hs] at hi hj
  by_cases es : s = s0
  · subst es
    rw [if_pos rfl] at hi hj
    by_cases wi : i = cn σ s
    · by_cases wj : j = cn σ s
      · omega
      · rw [wi, at0, keep j (by omega)] at e
        exact absurd e.symm (hx s j hs (by omega))
    · by_cases wj : j = cn σ s
      · rw [wj, at0, keep i (by omega)] at e
        exact absurd e (hx s i hs (by omega))
      · rw [keep i (by omega), keep j (by omega)] at e
        exact hU s hs i j (by omega) (by omega) e
  · rw [if_neg es] at hi hj
    rw [keep i hi, keep j hj] at e
    exact hU s hs i j hi hj e
/-! the tables -/
def DiR (σ τ : am_Sg) (sd : Nat) : Prop := ∀ d : Nat, d < cn σ 0 → (τ 92 (4 * sd + d) = σ 30 d ∧ τ 93 (4 * sd + d) = σ 31 d ∧ τ 94 (4 * sd + d) = σ 32 d) ∧ (1 ≤ σ 30 d ∧ σ 30 d ≤ 9 ∧ 0 ≤ σ 31 d ∧ σ 31 d ≤ 99 ∧ 0 ≤ σ 32 d ∧ σ 32 d ≤ 999)
def Me1 (σ τ : am_Sg) (sd m : Nat) : Prop := (τ 96 (8 * sd + m) = σ 33 m ∧ τ 97 (8 * sd + m) = σ 34 m ∧ τ 98 (8 * sd + m) = σ 35 m ∧ τ 99 (8 * sd + m) = σ 36 m) ∧ (0 ≤ σ 33 m ∧ σ 33 m ≤ 99 ∧ 0 ≤ σ 34 m ∧ σ 34 m ≤ σ 33 m ∧ 0 ≤ σ 35 m ∧ σ 35 m ≤ 9) ∧ (0 ≤ σ 37 m ∧ σ 37 m ≤ 15) ∧ (∀ h : Nat, h < 24 → (bt1 (σ 38 m) h = 0 ↔ ¬ (τ 100 (8 * sd + m) ≤ (h : Int) ∧ (h : Int) ≤ τ 101 (8 * sd + m)))) ∧ (∀ d : Nat, d < 4 → (τ 102 (4 * (8 * sd + m) + d) = 0 ∨ τ 102 (4 * (8 * sd + m) + d) = 1) ∧ bt1 (σ 37 m) d = τ 102 (4 * (8 * sd + m) + d) ∧ ((σ 39 (4 * m + d) = 0 ∧ τ 103 (4 * (8 * sd + m) + d) = 99) ∨ (τ 103 (4 * (8 * sd + m) + d) = σ 39 (4 * m + d) ∧ 1 ≤ σ 39 (4 * m + d))))
def MeR (σ τ : am_Sg) (sd n : Nat) : Prop := ∀ m, m < n → Me1 σ τ sd m
def BeR (σ τ : am_Sg) (sd : Nat) : Prop := ∀ b : Nat, b < cn σ 2 → (τ 113 (6 * sd + b) = σ 41 b ∧ τ 114 (6 * sd + b) = σ 42 b) ∧ (0 ≤ σ 41 b ∧ σ 41 b ≤ 99 ∧ 0 ≤ σ 42 b ∧ σ 42 b ≤ 99)
def GoR (σ τ : am_Sg) (sd : Nat) : Prop := ∀ g : Nat, g < cn σ 3 → (τ 116 (20 * sd + g) = σ 43 g ∧ τ 117 (20 * sd + g) = σ 44 g) ∧ (0 ≤ σ 43 g ∧ σ 43 g < (cn σ 1 : Int) ∧ 0 ≤ σ 44 g ∧ σ 44 g ≤ 23)
def DeR (σ τ : am_Sg) (sd : Nat) : Prop := ∀ m : Nat, m < 8 → σ 40 m = netS τ sd (m : Int) (cn σ 4)
theorem DiR.ag (h : DiR σ τ sd) (hc : cn σ' 0 = cn σ 0) (a1 : σ' 30 = σ 30) (a2 : σ' 31 = σ 31) (a3 : σ' 32 = σ 32) (b1 : τ' 92 = τ 92) (b2 : τ' 93 = τ 93) (b3 : τ' 94 = τ 94) : DiR σ' τ' sd := by
  unfold DiR
  rw [hc, a1, a2, a3, b1, b2, b3]
  exact h
theorem MeR.ag {n : Nat} (h : MeR σ τ sd n) (a : ∀ k, 33 ≤ k → k ≤ 39 → σ' k = σ k) (b : ∀ k, 96 ≤ k → k ≤ 103 → τ' k = τ k) : MeR σ' τ' sd n := by
  unfold MeR Me1
  rw [a 33 (by omega) (by omega), a 34 (by omega) (by omega), a 35 (by omega) (by omega), a 36 (by omega) (by omega), a 37 (by omega) (by omega), a 38 (by omega) (by omega), a 39 (by omega) (by omega), b 96 (by omega) (by omega), b 97 (by omega) (by omega), b 98 (by omega) (by omega), b 99 (by omega) (by omega), b 100 (by omega) (by omega), b 101 (by omega) (by omega), b 102 (by omega) (by omega), b 103 (by omega) (by omega)]
  exact h
theorem BeR.ag (h : BeR σ τ sd) (hc : cn σ' 2 = cn σ 2) (a1 : σ' 41 = σ 41) (a2 : σ' 42 = σ 42) (b1 : τ' 113 = τ 113) (b2 : τ' 114 = τ 114) : BeR σ' τ' sd := by
  unfold BeR
  rw [hc, a1, a2, b1, b2]
  exact h
theorem GoR.ag (h : GoR σ τ sd) (hc : cn σ' 3 = cn σ 3) (hm : cn σ 1 ≤ cn σ' 1) (a1 : σ' 43 = σ 43) (a2 : σ' 44 = σ 44) (b1 : τ' 116 = τ 116) (b2 : τ' 117 = τ 117) : GoR σ' τ' sd := by
  unfold GoR
  rw [hc, a1, a2, b1, b2]
  intro g hg
  obtain ⟨q1, q2, q3, q4⟩ := h g hg
  exact ⟨q1, q2, by omega, q4⟩
theorem DeR.ag (h : DeR σ τ sd) (hc : cn σ' 4 = cn σ 4) (a1 : σ' 40 = σ 40) (b1 : τ' 119 = τ 119) (b2 : τ' 120 = τ 120) (b3 : τ' 121 = τ 121) : DeR σ' τ' sd := by
  unfold DeR
  rw [hc, a1]
  intro m hm
  rw [netS_fr b1 b2 b3]
  exact h m hm
end PD
