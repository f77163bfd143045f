/-! LAWS: the reference's; what both come to -/
section LX
variable {X : Nat} {vs : Nat → Int} {σ τ : am_Sg}
noncomputable abbrev m5 (X to_ top at_ : Nat) (τ : am_Sg) : Option (Option am_V × am_Sg) := vv X 259 5 [some (vP 80), none, some (vI (to_ : Int)), some (vI (top : Int)), some (vI (at_ : Int)), none, none, none] [] τ
theorem m_ops (X : Nat) {q : Nat} (hq : q ≤ 840) {m : Nat} : ∀ (ops : Ops) (p n : Nat) (st : List Int) (τ : am_Sg), p + ops.length = q → SgM (τ 122) (τ 123) p ops → wfo ops n m → n ≤ 23 → st.length = n → Stk (τ 126) st → (∃ st' τ', ev (vf (τ 125)) ops st = some st' ∧ m5 X q st.length p τ = m5 X q st'.length q τ' ∧ Fr [126] [] τ τ' ∧ Stk (τ' 126) st') ∨ (∃ τ', ev (vf (τ 125)) ops st = none ∧ m5 X q st.length p τ = some (some (vI 0), am_upd τ' 80 63 1) ∧ Fr [126] [] τ τ')
  | [], p, n, st, τ, hp, hs, hw, h23, hl, hS => Or.inl ⟨st, τ, rfl, by rw [show p = q from hp], Fr.rf, hS⟩
  | (0, v) :: r, p, n, st, τ, hp, hs, hw, h23, hl, hS => by
    have l : ((0, v) :: r : Ops).length = r.length + 1 := rfl
    have s1 : τ 122 p = 0 := hs.1.1
    have s2 : τ 123 p = v := hs.1.2
    have hn := hw.1.1
    have f1 : Fr [126] [] τ (am_upd τ 126 st.length v) := Fr.rf.upd rfl (by decide)
    have st1 : m5 X q st.length p τ = m5 X q (v :: st).length (p + 1) (am_upd τ 126 st.length v) := by
      show vv X 259 5 _ [] τ = _
      rw [bq_259_5, if_neg (by omega), if_pos (by omega), tn_nat, s1, s2, if_neg (by decide), if_neg (fun q => q rfl), bq_259_58, if_pos (by omega), tn_nat, bq_259_159, w32_s1 (by omega), w32_s1 (by omega)]
      rfl
    rcases m_ops X hq r (p + 1) (n + 1) (v :: st) (am_upd τ 126 st.length v) (by omega) hs.2 hw.2 (by omega) (by rw [List.length_cons]; omega) (by rw [ue]; exact hS.push) with ⟨st', τ', q1, q2, q3, q4⟩ | ⟨τ', q1, q2, q3⟩
    · exact Or.inl ⟨st', τ', q1, st1.trans q2, f1.tr q3, q4⟩
    · exact Or.inr ⟨τ', q1, st1.trans q2, f1.tr q3⟩
  | (1, v) :: r, p, n, st, τ, hp, hs, hw, h23, hl, hS => by
    have l : ((1, v) :: r : Ops).length = r.length + 1 := rfl
    have s1 : τ 122 p = 1 := hs.1.1
    have s2 : τ 123 p = v := hs.1.2
    have hn := hw.1.1
    have hv := hw.1.2
    have ex : τ 125 v.toNat = vf (τ 125) v.toNat := by unfold vf; rw [if_pos (by omega)]
    have f1 : Fr [126] [] τ (am_upd τ 126 st.length (vf (τ 125) v.toNat)) := Fr.rf.upd rfl (by decide)
    have st1 : m5 X q st.length p τ = m5 X q (vf (τ 125) v.toNat :: st).length (p + 1) (am_upd τ 126 st.length (vf (τ 125) v.toNat)) := by
      show vv X 259 5 _ [] τ = _
      rw [bq_259_5, if_neg (by omega), if_pos (by omega), tn_nat, s1, s2, if_neg (by decide), if_pos (by decide), if_pos (by omega), ex, bq_259_58, if_pos (by omega), tn_nat, bq_259_159, w32_s1 (by omega), w32_s1 (by omega)]
      rfl
    rcases m_ops X hq r (p + 1) (n + 1) (vf (τ 125) v.toNat :: st) (am_upd τ 126 st.length (vf (τ 125) v.toNat)) (by omega) hs.2 hw.2 (by omega) (by rw [List.length_cons]; omega) (by rw [ue]; exact hS.push) with ⟨st', τ', q1, q2, q3, q4⟩ | ⟨τ', q1, q2, q3⟩
    · exact Or.inl ⟨st', τ', q1, st1.trans q2, f1.tr q3, q4⟩
    · exact Or.inr ⟨τ', q1, st1.trans q2, f1.tr q3⟩
  | (k + 2, v) :: r, p, n, [], τ, hp, hs, hw, h23, hl, hS => by
    have h1 := hw.1.2.2
    have h2 : 0 = n := hl
    omega
  | (k + 2, v) :: r, p, n, [x], τ, hp, hs, hw, h23, hl, hS => by
    have h1 := hw.1.2.2
    have h2 : 0 + 1 = n := hl
    omega
  | (k + 2, v) :: r, p, n, y :: x :: s, τ, hp, hs, hw, h23, hl, hS => by
    have l : ((k + 2, v) :: r : Ops).length = r.length + 1 := rfl
    have s1 : τ 122 p = (k : Int) + 2 := hs.1.1
    have hk := hw.1.1
    have h1 := hw.1.2.2
    have h2 : s.length + 1 + 1 = n := hl
    have hy : τ 126 (s.length + 1) = y := hS.1
    have hx : τ 126 s.length = x := hS.2.1
    have e1 : w32 (((s.length + 1 + 1 : Nat) : Int) + (-1)) = ((s.length + 1 : Nat) : Int) := by rw [w32_id (by omega) (by omega)]; omega
    have e2 : w32 (((s.length + 1 : Nat) : Int) - 1) = ((s.length : Nat) : Int) := by rw [w32_id (by omega) (by omega)]; omega
    by_cases z : k = 3 ∧ y = 0
    · refine Or.inr ⟨τ, ?_, ?_, Fr.rf⟩
      · show (if k = 3 ∧ y = 0 then none else _) = _
        rw [if_pos z]
      · show vv X 259 5 [some (vP 80), none, some (vI (q : Int)), some (vI ((s.length + 1 + 1 : Nat) : Int)), some (vI (p : Int)), none, none, none] [] τ = _
        rw [bq_259_5, if_neg (by omega), if_pos (by omega), tn_nat, s1, if_pos (by omega), e1, e2, if_pos (by omega), if_pos (by omega), if_neg (by omega), tn_nat, if_neg (show ¬ ¬ τ 126 (s.length + 1) = 0 by rw [hy]; exact fun q => q z.2)]
    · have f1 : Fr [126] [] τ (am_upd τ 126 s.length (opv (k + 2) x y)) := Fr.rf.upd rfl (by decide)
      have fin : ∀ w, vv X 259 158 [some (vP 80), none, some (vI (q : Int)), some (vI ((s.length + 1 : Nat) : Int)), some (vI (p : Int)), none, none, none] [vI w, vI ((s.length : Nat) : Int), vP 126] τ = m5 X q (s.length + 1) (p + 1) (am_upd τ 126 s.length w) := fun w => by
        rw [bq_259_158, if_pos (by omega), tn_nat, bq_259_159, w32_s1 (by omega)]
      have st0 : vv X 259 104 [some (vP 80), none, some (vI (q : Int)), some (vI ((s.length + 1 : Nat) : Int)), some (vI (p : Int)), some (vI ((k : Int) + 2)), some (vI x), some (vI y)] [] τ = m5 X q (s.length + 1) (p + 1) (am_upd τ 126 s.length (opv (k + 2) x y)) := by
        rw [bq_259_104, e2]
        unfold opv
        rcases (show k = 0 ∨ k = 1 ∨ k = 2 ∨ k = 3 by omega) with e | e | e | e
        · subst e
          rw [if_neg (by decide), fin, if_pos (by decide)]
        · subst e
          rw [if_pos (by decide), if_neg (by decide), fin, if_neg (by decide), if_pos (by decide)]
        · subst e
          rw [if_pos (by decide), if_pos (by decide), if_neg (by decide), fin, if_neg (by decide), if_neg (by decide), if_pos (by decide)]
        · subst e
          have hy0 : ¬ y = 0 := fun w => z ⟨rfl, w⟩
          rw [if_pos (by decide), if_pos (by decide), if_pos (by decide), if_neg hy0, fin, if_neg (by decide), if_neg (by decide), if_neg (by decide)]
      have st1 : m5 X q (y :: x :: s).length p τ = m5 X q (opv (k + 2) x y :: s).length (p + 1) (am_upd τ 126 s.length (opv (k + 2) x y)) := by
        show vv X 259 5 [some (vP 80), none, some (vI (q : Int)), some (vI ((s.length + 1 + 1 : Nat) : Int)), some (vI (p : Int)), none, none, none] [] τ = m5 X q (s.length + 1) (p + 1) (am_upd τ 126 s.length (opv (k + 2) x y))
        rw [← st0, bq_259_5, if_neg (by omega), if_pos (by omega), tn_nat, s1, if_pos (by omega), e1, e2, if_pos (by omega), if_pos (by omega), tn_nat, tn_nat, hx, hy]
        by_cases k3 : k = 3
        · rw [if_neg (by omega), if_pos (fun q => z ⟨k3, q⟩)]
        · rw [if_pos (by omega)]
      have evs : ev (vf (τ 125)) ((k + 2, v) :: r) (y :: x :: s) = ev (vf (τ 125)) r (opv (k + 2) x y :: s) := by
        show (if k = 3 ∧ y = 0 then none else _) = _
        rw [if_neg z]
      rw [evs]
      rcases m_ops X hq r (p + 1) (n - 1) (opv (k + 2) x y :: s) (am_upd τ 126 s.length (opv (k + 2) x y)) (by omega) hs.2 hw.2 (by omega) (by rw [List.length_cons]; omega) (by rw [ue]; exact hS.2.2.push) with ⟨st', τ', q1, q2, q3, q4⟩ | ⟨τ', q1, q2, q3⟩
      · exact Or.inl ⟨st', τ', q1, st1.trans q2, f1.tr q3, q4⟩
      · exact Or.inr ⟨τ', q1, st1.trans q2, f1.tr q3⟩
theorem m_term (X : Nat) {E : Ops} {p : Nat} (hq : p + E.length ≤ 840) (hs : SgM (τ 122) (τ 123) p E) (hw : wfo E 0 1) : ∃ v τ', vcI X 259 [vP 80, vI (p : Int), vI ((p + E.length : Nat) : Int)] τ = some (v, τ') ∧ Fr [126] [63] τ τ' ∧ ((valE (vf (τ 125)) E = some v ∧ τ' 80 63 = τ 80 63) ∨ (valE (vf (τ 125)) E = none ∧ τ' 80 63 = 1)) := by
  rcases m_ops X (q := p + E.length) hq E p 0 [] τ rfl hs hw (by omega) rfl trivial with ⟨st', τ', q1, q2, q3, q4⟩ | ⟨τ', q1, q2, q3⟩
  · obtain ⟨v, v1, v2⟩ := val_some hw q1
    subst v1
    refine ⟨v, τ', vI_of ((bq_259_0 X _ _ τ).trans (q2.trans ?_)) rfl, q3.mono rfl rfl, Or.inl ⟨v2, q3.fld 63 rfl⟩⟩
    show vv X 259 5 _ [] τ' = _
    have g0 : τ' 126 0 = v := q4.1
    rw [bq_259_5, if_pos (Int.le_refl _), g0]
  · exact ⟨0, am_upd τ' 80 63 1, vI_of ((bq_259_0 X _ _ τ).trans q2) rfl, (q3.mono rfl rfl).upf rfl, Or.inr ⟨val_none q1, rfl⟩⟩
/-! a law of the reference: its branches from b on; its code lies in side sd, below K -/
def MLw (τ : am_Sg) (sd K : Nat) : Nat → Brs → Ops → Nat → Prop
  | b, [], E, e => τ 107 b = 0 ∧ (∃ p : Nat, (τ 110 b = (p : Int) ∧ τ 111 b = ((p + E.length : Nat) : Int)) ∧ (420 * sd ≤ p ∧ p + E.length ≤ K) ∧ SgM (τ 122) (τ 123) p E) ∧ e = b + 1
  | b, (a, c, t) :: r, E, e => τ 107 b = 1 ∧ (∃ p : Nat, (τ 108 b = (p : Int) ∧ τ 109 b = ((p + a.length : Nat) : Int) ∧ τ 110 b = ((p + a.length + c.length : Nat) : Int) ∧ τ 111 b = ((p + a.length + c.length + t.length : Nat) : Int)) ∧ (420 * sd ≤ p ∧ p + a.length + c.length + t.length ≤ K) ∧ SgM (τ 122) (τ 123) p a ∧ SgM (τ 122) (τ 123) (p + a.length) c ∧ SgM (τ 122) (τ 123) (p + a.length + c.length) t) ∧ MLw τ sd K (b + 1) r E e
theorem MLw.lt {sd K : Nat} : ∀ {brs : Brs} {E : Ops} {b e : Nat}, MLw τ sd K b brs E e → b < e
  | [], E, b, e, h => by have := h.2.2; omega
  | (a, c, t) :: r, E, b, e, h => by have := MLw.lt (brs := r) h.2.2; omega
theorem MLw.ag {τ' : am_Sg} {sd K K' : Nat} (hK : K ≤ K') : ∀ {brs : Brs} {E : Ops} {b e : Nat}, MLw τ sd K b brs E e → (∀ k i, 107 ≤ k → k ≤ 111 → b ≤ i → i < e → τ' k i = τ k i) → (∀ i, 420 * sd ≤ i → i < K → τ' 122 i = τ 122 i ∧ τ' 123 i = τ 123 i) → MLw τ' sd K' b brs E e
  | [], E, b, e, h, hb, hc => by
    have e1 := h.2.2
    obtain ⟨h1, ⟨p, ⟨p1, p2⟩, ⟨p3, p4⟩, p5⟩, h3⟩ := h
    refine ⟨?_, ⟨p, ⟨?_, ?_⟩, ⟨p3, by omega⟩, p5.ag (fun i a b => hc i (by omega) (by omega))⟩, h3⟩
    · rw [hb 107 b (by omega) (by omega) (by omega) (by omega)]; exact h1
    · rw [hb 110 b (by omega) (by omega) (by omega) (by omega)]; exact p1
    · rw [hb 111 b (by omega) (by omega) (by omega) (by omega)]; exact p2
  | (a, c, t) :: r, E, b, e, h, hb, hc => by
    obtain ⟨h1, ⟨p, ⟨p1, p2, p3, p4⟩, ⟨p5, p6⟩, p7, p8, p9⟩, h3⟩ := h
    have e1 := MLw.lt h3
    refine ⟨?_, ⟨p, ⟨?_, ?_, ?_, ?_⟩, ⟨p5, by omega⟩, p7.ag (fun i a b => hc i (by omega) (by omega)), p8.ag (fun i a b => hc i (by omega) (by omega)), p9.ag (fun i a b => hc i (by omega) (by omega))⟩, MLw.ag hK (brs := r) h3 (fun k i a1 a2 a3 a4 => hb k i a1 a2 (by omega) a4) hc⟩
    · rw [hb 107 b (by omega) (by omega) (by omega) (by omega)]; exact h1
    · rw [hb 108 b (by omega) (by omega) (by omega) (by omega)]; exact p1
    · rw [hb 109 b (by omega) (by omega) (by omega) (by omega)]; exact p2
    · rw [hb 110 b (by omega) (by omega) (by omega) (by omega)]; exact p3
    · rw [hb 111 b (by omega) (by omega) (by omega) (by omega)]; exact p4
theorem cl6_get (o : Option Int) (w : Int) (h : o = some w) : cl6 (o.getD 0) = cl6 w := by rw [h]; rfl
theorem cl6_0 : cl6 0 = 0 := by decide
/-- the last term of a branch -/
theorem m_last (X : Nat) {E : Ops} {p b : Nat} (hb : b < 100) (h110 : τ 110 b = (p : Int)) (h111 : τ 111 b = ((p + E.length : Nat) : Int)) (hq : p + E.length ≤ 840) (hs : SgM (τ 122) (τ 123) p E) (hw : wfo E 0 1) (h63 : τ 80 63 = 0) : ∃ τ', vv X 201 84 [some (vP 80), none, some (vI (b : Int)), none, none] [] τ = some (some (vI (cl6 ((valE (vf (τ 125)) E).getD 0))), τ') ∧ Fr [126] [63] τ τ' := by
  obtain ⟨v, τ', q1, q2, q3⟩ := m_term X hq hs hw
  refine ⟨τ', ?_, q2⟩
  rw [bq_201_84, if_pos (by omega), tn_nat, h110, h111, q1, bsome]
  dsimp +instances only
  rcases q3 with ⟨u1, u2⟩ | ⟨u1, u2⟩
  · rw [if_neg (by rw [u2, h63]; exact fun q => q rfl), u1]
    show _ = some (some (vI (cl6 v)), τ')
    unfold cl6
    by_cases z : 0 ≤ v
    · rw [if_pos z]
      by_cases y : v ≤ 6
      · rw [if_pos y, bq_201_128]
        by_cases w : v ≤ 0
        · rw [if_pos w, show v = 0 by omega]
        · rw [if_neg w]
          by_cases w6 : v < 6
          · rw [if_pos w6]
          · rw [if_neg w6, show v = 6 by omega]
      · rw [if_neg y, bq_201_128, if_neg (by omega), if_neg (by omega)]
    · rw [if_neg z, bq_201_112, bq_201_128, if_pos (by omega)]
  · rw [if_pos (by rw [u2]; decide), bq_201_112, bq_201_128, u1]
    show _ = some (some (vI (cl6 0)), τ')
    rw [cl6_0]
theorem m_law (X : Nat) {sd K q e : Nat} {E : Ops} (hK : K ≤ 840) (hq : q < 16) (he : e ≤ 100) : ∀ (brs : Brs) (b : Nat) (τ : am_Sg), τ 106 q = (e : Int) → MLw τ sd K b brs E e → wfl brs E → τ 80 63 = 0 → ∃ τ', vv X 201 12 [some (vP 80), some (vI (q : Int)), some (vI (b : Int)), none, none] [] τ = some (some (vI (cl6 (lawV (vf (τ 125)) brs E))), τ') ∧ Fr [126] [63] τ τ'
  | [], b, τ, h106, h, hw, h63 => by
    obtain ⟨h1, ⟨p, ⟨p1, p2⟩, ⟨p3, p4⟩, p5⟩, h3⟩ := h
    obtain ⟨τ', q1, q2⟩ := m_last X (b := b) (by omega) p1 p2 (by omega) p5 hw h63
    refine ⟨τ', ?_, q2⟩
    rw [bq_201_12, if_pos (by omega), tn_nat, h106, if_neg (by omega), if_pos (by omega), tn_nat, if_pos h1]
    exact q1
  | (a, c, t) :: r, b, τ, h106, h, hw, h63 => by
    have e1 := MLw.lt h.2.2
    obtain ⟨h1, ⟨p, ⟨p1, p2, p3, p4⟩, ⟨p5, p6⟩, p7, p8, p9⟩, h3⟩ := h
    obtain ⟨⟨wa, wc, wt⟩, wr⟩ := hw
    obtain ⟨u, τ1, a1, a2, a3⟩ := m_term X (p := p) (by omega) p7 wa
    have f122 : τ1 122 = τ 122 := a2.get 122 (by decide) rfl
    have f123 : τ1 123 = τ 123 := a2.get 123 (by decide) rfl
    have f125 : τ1 125 = τ 125 := a2.get 125 (by decide) rfl
    obtain ⟨w, τ2, b1, b2, b3⟩ := m_term X (τ := τ1) (p := p + a.length) (E := c) (by omega) (by rw [f122, f123]; exact p8) wc
    rw [f125] at b3
    have f2 := a2.tr b2
    have g1 : τ2 107 = τ 107 := f2.get 107 (by decide) rfl
    have head : vv X 201 12 [some (vP 80), some (vI (q : Int)), some (vI (b : Int)), none, none] [] τ = if (τ2 80 63) = 0 then if u < w then vv X 201 84 [some (vP 80), none, some (vI (b : Int)), none, none] [] τ2 else vv X 201 12 [some (vP 80), some (vI (q : Int)), some (vI ((b + 1 : Nat) : Int)), none, none] [] τ2 else some (some (vI 0), τ2) := by
      rw [bq_201_12, if_pos (by omega), tn_nat, h106, if_neg (by omega), if_pos (by omega), tn_nat, if_neg (by rw [h1]; decide), p1, p2, a1, bsome]
      dsimp +instances only
      rw [a2.get 109 (by decide) rfl, a2.get 110 (by decide) rfl, p2, p3, b1, bsome]
      dsimp +instances only
      rw [w32_s1 (by omega)]
    have lv0 : (valE (vf (τ 125)) a = none ∨ valE (vf (τ 125)) c = none) → lawV (vf (τ 125)) ((a, c, t) :: r) E = 0 := fun hh => by
      show (match valE (vf (τ 125)) a, valE (vf (τ 125)) c with
              | some u, some w => if u < w then (valE (vf (τ 125)) t).getD 0 else lawV (vf (τ 125)) r E
              | _, _ => 0) = _
      rcases hh with hh | hh
      · rw [hh]
      · rw [hh]
        cases valE (vf (τ 125)) a <;> rfl
    by_cases z : τ2 80 63 = 0
    · have z1 : valE (vf (τ 125)) c = some w ∧ τ2 80 63 = τ1 80 63 := by
        rcases b3 with q | ⟨-, q⟩
        · exact q
        · omega
      have z2 : valE (vf (τ 125)) a = some u := by
        rcases a3 with ⟨q, -⟩ | ⟨-, q⟩
        · exact q
        · omega
      have lv : lawV (vf (τ 125)) ((a, c, t) :: r) E = if u < w then (valE (vf (τ 125)) t).getD 0 else lawV (vf (τ 125)) r E := by
        show (match valE (vf (τ 125)) a, valE (vf (τ 125)) c with
              | some u, some w => if u < w then (valE (vf (τ 125)) t).getD 0 else lawV (vf (τ 125)) r E
              | _, _ => 0) = _
        rw [z2, z1.1]
      have k125 : τ2 125 = τ 125 := f2.get 125 (by decide) rfl
      by_cases y : u < w
      · obtain ⟨τ3, s1, s2⟩ := m_last X (τ := τ2) (b := b) (E := t) (p := p + a.length + c.length) (by omega) (by rw [f2.get 110 (by decide) rfl]; exact p3) (by rw [f2.get 111 (by decide) rfl]; exact p4) (by omega) (by rw [f2.get 122 (by decide) rfl, f2.get 123 (by decide) rfl]; exact p9) wt z
        refine ⟨τ3, ?_, f2.tr s2⟩
        rw [head, if_pos z, if_pos y, s1, k125, lv, if_pos y]
      · obtain ⟨τ3, s1, s2⟩ := m_law X hK hq he r (b + 1) τ2 (by rw [f2.get 106 (by decide) rfl]; exact h106) (h3.ag (Nat.le_refl _) (fun k i k1 k2 _ _ => congrFun (f2.get k (by omega) (by
          rcases (show k = 107 ∨ k = 108 ∨ k = 109 ∨ k = 110 ∨ k = 111 by omega) with e | e | e | e | e <;> subst e <;> rfl)) i) (fun i _ _ => ⟨by rw [f2.get 122 (by decide) rfl], by rw [f2.get 123 (by decide) rfl]⟩)) wr z
        refine ⟨τ3, ?_, f2.tr s2⟩
        rw [head, if_pos z, if_neg y, s1, k125, lv, if_neg y]
    · have hn : valE (vf (τ 125)) a = none ∨ valE (vf (τ 125)) c = none := by
        rcases b3 with ⟨-, q⟩ | ⟨q, -⟩
        · rcases a3 with ⟨-, q'⟩ | ⟨q', -⟩
          · exact absurd (q.trans (q'.trans h63)) z
          · exact Or.inl q'
        · exact Or.inr q
      refine ⟨τ2, ?_, f2⟩
      rw [head, if_neg z, lv0 hn, cl6_0]
/-! the laws told so far -/
def nvl : Brs → Ops → Prop
  | [], E => nv4 E
  | (a, c, t) :: r, E => (nv4 a ∧ nv4 c ∧ nv4 t) ∧ nvl r E
theorem law_nv {ws : Nat → Int} (hw : ∀ j, ¬ j = 4 → vs j = ws j) : ∀ {brs : Brs} {E : Ops}, wfl brs E → nvl brs E → lawV vs brs E = lawV ws brs E
  | [], E, h, hn => by
    show (valE vs E).getD 0 = (valE ws E).getD 0
    unfold valE
    rw [ev_nv4 hw h hn]
  | (a, c, t) :: r, E, h, hn => by
    have e1 : valE vs a = valE ws a := by unfold valE; rw [ev_nv4 hw h.1.1 hn.1.1]
    have e2 : valE vs c = valE ws c := by unfold valE; rw [ev_nv4 hw h.1.2.1 hn.1.2.1]
    have e3 : valE vs t = valE ws t := by unfold valE; rw [ev_nv4 hw h.1.2.2 hn.1.2.2]
    show (match valE vs a, valE vs c with
              | some u, some w => if u < w then (valE vs t).getD 0 else lawV vs r E
              | _, _ => 0) = (match valE ws a, valE ws c with
              | some u, some w => if u < w then (valE ws t).getD 0 else lawV ws r E
              | _, _ => 0)
    rw [e1, e2, e3, law_nv hw (brs := r) h.2 hn.2]
/-- one law, of gate g and dish d: none, or the same on both sides -/
def La1 (σ τ : am_Sg) (sd C K B g d : Nat) (f : (Nat → Int) → Int) : Prop := (σ 45 (4 * g + d) = -1 ∧ τ 105 (8 * sd + 4 * g + d) = τ 106 (8 * sd + 4 * g + d) ∧ ∀ v, f v = 0) ∨ (∃ (p e b b' : Nat) (brs : Brs) (E : Ops), (σ 45 (4 * g + d) = (p : Int) ∧ CLw (σ 46) p brs E e ∧ e ≤ C) ∧ (τ 105 (8 * sd + 4 * g + d) = (b : Int) ∧ τ 106 (8 * sd + 4 * g + d) = (b' : Int) ∧ 50 * sd ≤ b ∧ MLw τ sd K b brs E b' ∧ b' ≤ B) ∧ wfl brs E ∧ (bt1 (σ 27 20) g = 0 → nvl brs E) ∧ ∀ v, f v = cl6 (lawV v brs E))
def LaR (σ τ : am_Sg) (sd : Nat) : Prop := ∃ (C K B : Nat) (F : LF), (σ 27 19 = (C : Int) ∧ C ≤ 400) ∧ (τ 80 56 = (K : Int) ∧ K ≤ 420 * sd + 420) ∧ (τ 80 40 = (B : Int) ∧ B ≤ 50 * sd + 50) ∧ (0 ≤ σ 27 20 ∧ σ 27 20 ≤ 3) ∧ ∀ g d, g < 2 → d < 4 → La1 σ τ sd C K B g d (F g d)
end LX
