/-! READ, WHOLE -/
section QB
variable {X N n l sd : Nat} {σ τ τd : am_Sg}
theorem m_endF (X : Nat) (h : vv X 8 0 [some (vP 80), none] [] τ = vv X 8 229 [some (vP 80), none] [] τd) (z : 0 < τd 80 13) : vcI X 8 [vP 80] τ = some (τd 80 13, am_upd τd 80 17 (τd 80 14)) := vI_of (h.trans (by rw [bq_8_229, if_neg (Int.not_le.mpr z), bq_8_259, if_neg (Int.not_le.mpr z)])) rfl
theorem m_endS (X : Nat) (h : vv X 8 0 [some (vP 80), none] [] τ = vv X 8 229 [some (vP 80), none] [] τd) (z : τd 80 13 = 0) (y : 0 < τd 80 15) : vcI X 8 [vP 80] τ = some (τd 80 15, am_upd τd 80 17 (τd 80 16)) := vI_of (h.trans (by rw [bq_8_229, if_pos (le_of_eq0 z), if_neg (Int.not_le.mpr y), bq_8_259, if_pos (le_of_eq0 z), if_neg (Int.not_le.mpr y)])) rfl
theorem m_now (X : Nat) : ∀ (m i : Nat) (τ : am_Sg), i + m = 60 → ∃ τ', vv X 8 300 [some (vP 80), some (vI (i : Int))] [] τ = vv X 8 300 [some (vP 80), some (vI ((60 : Nat) : Int))] [] τ' ∧ Fr [127] [] τ τ' ∧ (∀ j, i ≤ j → j < 60 → τ' 127 j = τ 128 j) ∧ (∀ j, j < i → τ' 127 j = τ 127 j)
  | 0, i, τ, e => ⟨τ, by rw [show i = 60 by omega], Fr.rf, fun j _ _ => by omega, fun _ _ => rfl⟩
  | m + 1, i, τ, e => by
    have F1 : Fr [127] [] τ (am_upd τ 127 i (τ 128 i)) := Fr.rf.upd rfl (by decide)
    obtain ⟨τ', q1, q2, q3, q4⟩ := m_now X m (i + 1) (am_upd τ 127 i (τ 128 i)) (by omega)
    refine ⟨τ', ?_, F1.tr q2, fun j a b => ?_, fun j hj => ?_⟩
    · rw [bq_8_300, if_neg (by omega), if_pos (by omega), tn_nat, w32_s1 (by omega)]
      exact q1
    · by_cases w : j = i
      · subst w
        rw [q4 j (by omega), ue, upe]
      · rw [q3 j (by omega) b, F1.get 128 (by decide) rfl]
    · rw [q4 j (by omega), ue, upa, if_neg (by omega)]
theorem m_held (X : Nat) : ∀ (m i : Nat) (τ : am_Sg), i + m = 3 → ∃ τ', vv X 8 336 [some (vP 80), some (vI (i : Int))] [] τ = some (some (vI 0), τ') ∧ Fr [143] [] τ τ' ∧ (∀ j, i ≤ j → j < 3 → τ' 143 j = 0) ∧ (∀ j, j < i → τ' 143 j = τ 143 j)
  | 0, i, τ, e => ⟨τ, by rw [bq_8_336, if_pos (by omega)], Fr.rf, fun j _ _ => by omega, fun _ _ => rfl⟩
  | m + 1, i, τ, e => by
    have F1 : Fr [143] [] τ (am_upd τ 143 i 0) := Fr.rf.upd rfl (by decide)
    obtain ⟨τ', q1, q2, q3, q4⟩ := m_held X m (i + 1) (am_upd τ 143 i 0) (by omega)
    refine ⟨τ', ?_, F1.tr q2, fun j a b => ?_, fun j hj => ?_⟩
    · rw [bq_8_336, if_neg (by omega), if_pos ⟨by omega, by omega, rfl⟩, tn_nat, w32_s1 (by omega)]
      exact q1
    · by_cases w : j = i
      · subst w
        rw [q4 j (by omega), ue, upe]
      · exact q3 j (by omega) b
    · rw [q4 j (by omega), ue, upa, if_neg (by omega)]
theorem m_endO (X : Nat) {T : am_Sg} (h : vv X 8 0 [some (vP 80), none] [] τ = vv X 8 229 [some (vP 80), none] [] τd) (z : τd 80 13 = 0) (y : τd 80 15 = 0) (H : TOk T) (K : TM (am_upd (am_upd τd 80 17 (-1)) 80 18 (τd 80 19)) T sd) : ∃ τ2, vcI X 8 [vP 80] τ = some (0, τ2) ∧ Fr [127, 128, 143] [17, 18, 67, 81] τd τ2 ∧ (τ2 80 17 = -1 ∧ τ2 80 18 = τd 80 19 ∧ τ2 80 67 = 0 ∧ τ2 80 81 = 0) ∧ rs (τ2 127) = bgS T ∧ ∀ j, j < 3 → τ2 143 j = 0 := by
  generalize he : am_upd (am_upd τd 80 17 (-1)) 80 18 (τd 80 19) = τe at K
  have Fe : Fr [] [17, 18] τd τe := by rw [← he]; exact (Fr.rf.upf rfl).upf rfl
  obtain ⟨τf, a1, a2, a3⟩ := m_begins (X := X) H K
  obtain ⟨τg, b1, b2, b3, -⟩ := m_now X 60 0 τf rfl
  have Fh : Fr [] [67, 81] τg (am_upd (am_upd τg 80 67 0) 80 81 0) := (Fr.rf.upf rfl).upf rfl
  obtain ⟨τ2, c1, c2, c3, -⟩ := m_held X 3 0 (am_upd (am_upd τg 80 67 0) 80 81 0) rfl
  have FA : Fr [127, 128, 143] [17, 18, 67, 81] τd τ2 := ((((Fe.mono rfl rfl).tr (a2.mono rfl rfl)).tr (b2.mono rfl rfl)).tr (Fh.mono rfl rfl)).tr (c2.mono rfl rfl)
  refine ⟨τ2, vI_of (h.trans ?_) rfl, FA, ⟨?_, ?_, ?_, ?_⟩, ?_, fun j hj => c3 j (Nat.zero_le _) hj⟩
  · rw [bq_8_229, if_pos (le_of_eq0 z), if_pos (le_of_eq0 y), bq_8_259, if_pos (le_of_eq0 z), if_pos (le_of_eq0 y), he, bq_8_294, a1, bsome]
    refine b1.trans ?_
    rw [bq_8_300, if_pos (by decide), bq_8_334]
    exact c1
  · rw [c2.fld 17 rfl, Fh.fld 17 rfl, b2.fld 17 rfl, a2.fld 17 rfl, ← he]; rfl
  · rw [c2.fld 18 rfl, Fh.fld 18 rfl, b2.fld 18 rfl, a2.fld 18 rfl, ← he]; rfl
  · rw [c2.fld 67 rfl]; rfl
  · rw [c2.fld 81 rfl]; rfl
  · rw [← a3]
    refine rs_ext fun j hj => ?_
    rw [c2.get 127 (by decide) rfl, Fh.get 127 (by decide) rfl, b3 j (Nat.zero_le _) (by omega)]
def cA : List Nat := [1, 4, 5, 6, 27, 28, 29, 30, 31, 32, 33, 34, 35, 36, 37, 38, 39, 40, 41, 42, 43, 44, 45, 46, 47, 48]
def mA : List Nat := [82, 83, 84, 85, 86, 88, 89, 90, 91, 92, 93, 94, 95, 96, 97, 98, 99, 100, 101, 102, 103, 104, 105, 106, 107, 108, 109, 110, 111, 112, 113, 114, 115, 116, 117, 118, 119, 120, 121, 122, 123, 124]
def jA : List Nat := [2, 4, 10, 11, 12, 13, 14, 15, 16, 19, 20, 40, 56, 60]
/-- both read, from any state of the reference that is as told -/
theorem rd_both (X : Nat) {σc : am_Sg} {p st : Nat → Nat} (hn : n ≤ 2000) (hb : ∀ i, i < n → σ 2 i = σ 81 i ∧ -128 ≤ σ 81 i ∧ σ 81 i < 128) (h2 : σ 80 2 = (n : Int)) (hW : ∀ w, w < 19 → σ 87 w = wdM.getD w 0) (h18 : w32 (1 - σ 80 18) = (sd : Int)) (s1 : sd ≤ 1) (hN : N ≤ 400) (dC : DoneC (σ 2) n σc N p st) (hc : (∀ j, j < 6 → σc 28 j = 0) ∧ (∀ j, j < 8 → σc 40 j = 0) ∧ (∀ j, j < 8 → σc 45 j = -1) ∧ σc 27 19 = 0 ∧ σc 27 20 = 0) (h47 : σc 47 4 = 0 ∧ σc 47 5 = σc 4 0 ∧ σc 47 6 = 0 ∧ σc 47 7 = -1 ∧ σc 47 8 = 0) (hw : σc 1001 = am_s0 (fun _ => 0) 1001) (τ : am_Sg) (t81 : τ 81 = σ 81) (t87 : τ 87 = σ 87) (t2 : τ 80 2 = σ 80 2) (t18 : τ 80 18 = σ 80 18) : ∃ σd τd, cM X 0 σc = vv X 86 165 [some (vP 47), none] [] σd ∧ vv X 8 0 [some (vP 80), none] [] τ = vv X 8 229 [some (vP 80), none] [] τd ∧ SI N sd σd τd ∧ Fr cR [] σc σd ∧ Fr mA jA τ τd ∧ MF sd τ τd ∧ τd 80 2 = 0 ∧ τd 80 19 = (sd : Int) := by
  obtain ⟨M, τc, p', st', a1, a2, a3, a4, a5, a6, a7⟩ := m_start X (τ := τ) (B := σ 2) (fun i hi => by rw [t81]; exact (hb i hi).1.symm) hn (fun i hi => by rw [t81]; exact (hb i hi).2) (t2.trans h2) (fun w hw => by rw [t87]; exact hW w hw) (by rw [t18]; exact h18) s1
  have te : TE σc τc N := te_of (B := σ 2) (fun i hi => by rw [(hb i hi).1]; exact (hb i hi).2) hN dC a4
  have si := si_start te s1 hc h47 a5 a6 a7
  obtain ⟨σd, τd, b1, b2, b3, b4, b5⟩ := l_main X 401 0 σc τc rfl si (fun _ => by rw [h47.1]; exact Int.le_refl _) hw
  refine ⟨σd, τd, b1, a1.trans b2, b3, b4, (a2.mono rfl rfl).tr (b5.1.mono rfl rfl), fun k k1 k2 j hj => ?_, ?_, ?_⟩
  · rw [b5.2 k k1 k2 j hj, a3 k k1 k2 j hj]
  · rw [b5.1.fld 2 rfl]; exact a5.1
  · rw [b5.1.fld 19 rfl]; exact a5.2.2.2.2.2.1
theorem sd_of {l : Nat} {x : Int} (h : x = (l : Int)) (h1 : l ≤ 1) : w32 (1 - x) = ((1 - l : Nat) : Int) ∧ 1 - l ≤ 1 ∧ ¬ 1 - l = l := by
  rw [h]
  rcases (show l = 0 ∨ l = 1 by omega) with e | e <;> subst e <;> exact ⟨by decide, by decide, by decide⟩
def aA : List Nat := [1, 4, 5, 6, 27, 28, 29, 30, 31, 32, 33, 34, 35, 36, 37, 38, 39, 40, 41, 42, 43, 44, 45, 46, 47, 48, 82, 83, 84, 85, 86, 88, 89, 90, 91, 92, 93, 94, 95, 96, 97, 98, 99, 100, 101, 102, 103, 104, 105, 106, 107, 108, 109, 110, 111, 112, 113, 114, 115, 116, 117, 118, 119, 120, 121, 122, 123, 124]
def aJ : List Nat := [2, 4, 10, 11, 12, 13, 14, 15, 16, 17, 19, 20, 40, 56, 60]
theorem cA_hi {k : Nat} (h : 80 < k) : cA.contains k = false := by
  cases hc : cA.contains k with
  | false => rfl
  | true =>
    have := List.all_eq_true.mp (show cA.all (fun k => decide (k < 49)) = true by decide) k (List.contains_iff_mem.mp hc)
    have : k < 49 := of_decide_eq_true this
    omega
end QB
