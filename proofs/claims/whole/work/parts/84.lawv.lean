/-! LAWS: what a law's code comes to, on both sides -/
abbrev Ops : Type := List (Nat × Int)
abbrev Brs : Type := List (Ops × Ops × Ops)
def opv (k : Nat) (a b : Int) : Int := if k = 2 then w32 (a + b) else if k = 3 then w32 (a - b) else if k = 4 then w32 (a * b) else am_div a b
def ev (vs : Nat → Int) : Ops → List Int → Option (List Int)
  | [], st => some st
  | (0, v) :: r, st => ev vs r (v :: st)
  | (1, v) :: r, st => ev vs r (vs v.toNat :: st)
  | (k + 2, _) :: r, b :: a :: st => if k = 3 ∧ b = 0 then none else ev vs r (opv (k + 2) a b :: st)
  | (_ + 2, _) :: _, _ => none
def wfo : Ops → Nat → Nat → Prop
  | [], n, m => n = m
  | (0, v) :: r, n, m => (n < 23 ∧ 0 ≤ v ∧ v ≤ 9999) ∧ wfo r (n + 1) m
  | (1, v) :: r, n, m => (n < 23 ∧ 0 ≤ v ∧ v < 7) ∧ wfo r (n + 1) m
  | (k + 2, v) :: r, n, m => (k < 4 ∧ v = 0 ∧ 2 ≤ n) ∧ wfo r (n - 1) m
def SgC (c : Nat → Int) : Nat → Ops → Prop
  | _, [] => True
  | p, o :: r => (am_and (c p) 7 = (o.1 : Int) ∧ am_shr (c p) 3 = o.2) ∧ SgC c (p + 1) r
def SgM (c ci : Nat → Int) : Nat → Ops → Prop
  | _, [] => True
  | p, o :: r => (c p = (o.1 : Int) ∧ ci p = o.2) ∧ SgM c ci (p + 1) r
def Stk (c : Nat → Int) : List Int → Prop
  | [] => True
  | x :: r => c r.length = x ∧ Stk c r
section LW
variable {X : Nat} {vs : Nat → Int} {σ τ : am_Sg} {c ci c' ci' : Nat → Int}
theorem wfo_app : ∀ {a b : Ops} {n m k : Nat}, wfo a n m → wfo b m k → wfo (a ++ b) n k
  | [], b, n, m, k, h, h' => by
    have e : n = m := h
    rw [e]
    exact h'
  | (0, v) :: r, b, n, m, k, h, h' => ⟨h.1, wfo_app (a := r) h.2 h'⟩
  | (1, v) :: r, b, n, m, k, h, h' => ⟨h.1, wfo_app (a := r) h.2 h'⟩
  | (q + 2, v) :: r, b, n, m, k, h, h' => ⟨h.1, wfo_app (a := r) h.2 h'⟩
theorem SgC.ag : ∀ {ops : Ops} {p : Nat}, SgC c p ops → (∀ i, p ≤ i → i < p + ops.length → c' i = c i) → SgC c' p ops
  | [], _, _, _ => trivial
  | o :: r, p, h, e => by
    have l : (o :: r).length = r.length + 1 := rfl
    refine ⟨?_, h.2.ag (ops := r) (fun i a b => e i (by omega) (by omega))⟩
    rw [e p (by omega) (by omega)]
    exact h.1
theorem SgM.ag : ∀ {ops : Ops} {p : Nat}, SgM c ci p ops → (∀ i, p ≤ i → i < p + ops.length → c' i = c i ∧ ci' i = ci i) → SgM c' ci' p ops
  | [], _, _, _ => trivial
  | o :: r, p, h, e => by
    have l : (o :: r).length = r.length + 1 := rfl
    refine ⟨?_, h.2.ag (ops := r) (fun i a b => e i (by omega) (by omega))⟩
    rw [(e p (by omega) (by omega)).1, (e p (by omega) (by omega)).2]
    exact h.1
theorem SgC.app : ∀ {a b : Ops} {p : Nat}, SgC c p a → SgC c (p + a.length) b → SgC c p (a ++ b)
  | [], b, p, _, h => h
  | o :: r, b, p, h, h' => ⟨h.1, SgC.app (a := r) h.2 (by rw [show p + 1 + r.length = p + (o :: r).length by show _ = p + (r.length + 1); omega]; exact h')⟩
theorem SgM.app : ∀ {a b : Ops} {p : Nat}, SgM c ci p a → SgM c ci (p + a.length) b → SgM c ci p (a ++ b)
  | [], b, p, _, h => h
  | o :: r, b, p, h, h' => ⟨h.1, SgM.app (a := r) h.2 (by rw [show p + 1 + r.length = p + (o :: r).length by show _ = p + (r.length + 1); omega]; exact h')⟩
theorem Stk.ag : ∀ {st : List Int}, Stk c st → (∀ i, i < st.length → c' i = c i) → Stk c' st
  | [], _, _ => trivial
  | x :: r, h, e => by
    have l : (x :: r).length = r.length + 1 := rfl
    exact ⟨by rw [e r.length (by omega)]; exact h.1, h.2.ag (st := r) (fun i hi => e i (by omega))⟩
theorem Stk.push {st : List Int} {x : Int} (h : Stk c st) : Stk (up c st.length x) (x :: st) := ⟨by rw [upa, if_pos rfl], h.ag (fun i hi => by rw [upa, if_neg (by omega)])⟩
theorem ev_base : ∀ {ops : Ops} {n m : Nat} {st r : List Int}, wfo ops n m → st.length = n → ev vs ops (st ++ r) = (ev vs ops st).map (· ++ r)
  | [], _, _, _, _, _, _ => rfl
  | (0, v) :: q, n, m, st, r, h, e => ev_base (ops := q) (st := v :: st) h.2 (by rw [List.length_cons, e])
  | (1, v) :: q, n, m, st, r, h, e => ev_base (ops := q) (st := vs v.toNat :: st) h.2 (by rw [List.length_cons, e])
  | (k + 2, v) :: q, n, m, st, r, h, e => by
    match st, e with
    | [], e => exact absurd h.1.2.2 (by rw [← e]; decide)
    | [x], e => exact absurd h.1.2.2 (by rw [← e]; simp)
    | b :: a :: s, e =>
      show (if k = 3 ∧ b = 0 then none else ev vs q (opv (k + 2) a b :: (s ++ r))) = Option.map _ (if k = 3 ∧ b = 0 then none else ev vs q (opv (k + 2) a b :: s))
      by_cases z : k = 3 ∧ b = 0
      · rw [if_pos z, if_pos z]
        rfl
      · rw [if_neg z, if_neg z]
        exact ev_base (ops := q) (st := opv (k + 2) a b :: s) h.2 (by
          have e' : s.length + 1 + 1 = n := e
          rw [List.length_cons]
          omega)
theorem ev_len : ∀ {ops : Ops} {n m : Nat} {st st' : List Int}, wfo ops n m → st.length = n → ev vs ops st = some st' → st'.length = m
  | [], _, _, _, _, h, e, e' => by
    have h1 : _ = _ := h
    injection e' with e'
    rw [← e', e, h1]
  | (0, v) :: q, n, m, st, st', h, e, e' => ev_len (ops := q) (st := v :: st) h.2 (by rw [List.length_cons, e]) e'
  | (1, v) :: q, n, m, st, st', h, e, e' => ev_len (ops := q) (st := vs v.toNat :: st) h.2 (by rw [List.length_cons, e]) e'
  | (k + 2, v) :: q, n, m, st, st', h, e, e' => by
    match st, e, e' with
    | [], e, _ => exact absurd h.1.2.2 (by rw [← e]; decide)
    | [x], e, _ => exact absurd h.1.2.2 (by rw [← e]; simp)
    | b :: a :: s, e, e' =>
      have e1 : (if k = 3 ∧ b = 0 then none else ev vs q (opv (k + 2) a b :: s)) = some st' := e'
      by_cases z : k = 3 ∧ b = 0
      · rw [if_pos z] at e1
        cases e1
      · rw [if_neg z] at e1
        exact ev_len (ops := q) (st := opv (k + 2) a b :: s) h.2 (by
          have e' : s.length + 1 + 1 = n := e
          rw [List.length_cons]
          omega) e1
theorem ev_app : ∀ {a b : Ops} {st : List Int}, ev vs (a ++ b) st = (ev vs a st).bind (ev vs b)
  | [], b, st => rfl
  | (0, v) :: r, b, st => ev_app (a := r)
  | (1, v) :: r, b, st => ev_app (a := r)
  | (k + 2, v) :: r, b, [] => rfl
  | (k + 2, v) :: r, b, [x] => rfl
  | (k + 2, v) :: r, b, y :: x :: st => by
    show (if k = 3 ∧ y = 0 then none else ev vs (r ++ b) (opv (k + 2) x y :: st)) = Option.bind (if k = 3 ∧ y = 0 then none else ev vs r (opv (k + 2) x y :: st)) (ev vs b)
    by_cases z : k = 3 ∧ y = 0
    · rw [if_pos z, if_pos z]
      rfl
    · rw [if_neg z, if_neg z]
      exact ev_app (a := r)
/-- no variable 4 in it -/
def nv4 (ops : Ops) : Prop := ∀ o ∈ ops, ¬ (o.1 = 1 ∧ o.2 = 4)
theorem ev_nv4 {ws : Nat → Int} (hw : ∀ j, ¬ j = 4 → vs j = ws j) : ∀ {ops : Ops} {n m : Nat} {st : List Int}, wfo ops n m → nv4 ops → ev vs ops st = ev ws ops st
  | [], _, _, _, _, _ => rfl
  | (0, v) :: r, n, m, st, h, hn => ev_nv4 hw (ops := r) h.2 (fun o ho => hn o (List.mem_cons_of_mem _ ho))
  | (1, v) :: r, n, m, st, h, hn => by
    have e : vs v.toNat = ws v.toNat := hw _ (fun z => hn (1, v) (List.mem_cons_self) ⟨rfl, by
      have := h.1.2.1
      show v = 4
      omega⟩)
    show ev vs r (vs v.toNat :: st) = ev ws r (ws v.toNat :: st)
    rw [e]
    exact ev_nv4 hw (ops := r) h.2 (fun o ho => hn o (List.mem_cons_of_mem _ ho))
  | (k + 2, v) :: r, n, m, [], h, hn => rfl
  | (k + 2, v) :: r, n, m, [x], h, hn => rfl
  | (k + 2, v) :: r, n, m, y :: x :: st, h, hn => by
    show (if k = 3 ∧ y = 0 then none else ev vs r (opv (k + 2) x y :: st)) = (if k = 3 ∧ y = 0 then none else ev ws r (opv (k + 2) x y :: st))
    rw [ev_nv4 hw (ops := r) h.2 (fun o ho => hn o (List.mem_cons_of_mem _ ho))]
/-! the class -/
theorem c_comb {k : Nat} {a b : Int} (hk : k < 4) (h : ¬ (k = 3 ∧ b = 0)) : vcI X 258 [vI ((k + 2 : Nat) : Int), vI a, vI b] σ = some (opv (k + 2) a b, σ) := by
  refine vI_of ((bq_258_0 X _ _ _ σ).trans ?_) rfl
  unfold opv
  rcases (show k = 0 ∨ k = 1 ∨ k = 2 ∨ k = 3 by omega) with e | e | e | e
  · subst e
    rw [if_pos (by decide), if_pos (by decide)]
  · subst e
    rw [if_neg (by decide), if_pos (by decide), if_neg (by decide), if_pos (by decide)]
  · subst e
    rw [if_neg (by decide), if_neg (by decide), if_pos (by decide), if_neg (by decide), if_neg (by decide), if_pos (by decide)]
  · subst e
    have hb : ¬ b = 0 := fun z => h ⟨rfl, z⟩
    rw [if_neg (by decide), if_neg (by decide), if_neg (by decide), if_pos hb, if_neg hb, bq_258_51, if_neg (by decide), if_neg (by decide), if_neg (by decide)]
noncomputable abbrev c4 (X top at_ : Nat) (σ : am_Sg) : Option (Option am_V × am_Sg) := vv X 199 4 [some (vP 57), none, some (vI (top : Int)), some (vI (at_ : Int)), none, none] [] σ
theorem c_ops (X : Nat) {b : Nat} (hb : b ≤ 1) {L : Nat} (hL : L ≤ 400) {m : Nat} : ∀ (ops : Ops) (p n : Nat) (st : List Int) (σ : am_Sg), σ 7 19 = (L : Int) → p + ops.length ≤ L → SgC (σ 26) p ops → wfo ops n m → n ≤ 23 → st.length = n + b → Stk (σ 59) st → (∃ st' σ', ev (vf (σ 58)) ops st = some st' ∧ c4 X st.length p σ = c4 X st'.length (p + ops.length) σ' ∧ Fr [59] [] σ σ' ∧ Stk (σ' 59) st') ∨ (∃ σ', ev (vf (σ 58)) ops st = none ∧ c4 X st.length p σ = some (some (vI 0), σ') ∧ Fr [59] [] σ σ')
  | [], p, n, st, σ, h7, hp, hs, hw, h23, hl, hS => Or.inl ⟨st, σ, rfl, rfl, Fr.rf, hS⟩
  | (0, v) :: r, p, n, st, σ, h7, hp, hs, hw, h23, hl, hS => by
    have l : ((0, v) :: r : Ops).length = r.length + 1 := rfl
    have s1 : am_and (σ 26 p) 7 = 0 := hs.1.1
    have s2 : am_shr (σ 26 p) 3 = v := hs.1.2
    have hn := hw.1.1
    have f1 : Fr [59] [] σ (am_upd σ 59 st.length v) := Fr.rf.upd rfl (by decide)
    have st1 : c4 X st.length p σ = c4 X (v :: st).length (p + 1) (am_upd σ 59 st.length v) := by
      show vv X 199 4 _ [] σ = _
      rw [bq_199_4, h7, if_neg (by omega), if_pos (by omega), tn_nat, s1, s2, if_pos (by decide), if_pos (by decide), bq_199_77, if_pos (by omega), if_neg (fun q => q rfl), bq_199_107, if_pos (by omega), tn_nat, bq_199_205, w32_s1 (by omega), w32_s1 (by omega)]
      rfl
    rcases c_ops X hb hL r (p + 1) (n + 1) (v :: st) (am_upd σ 59 st.length v) h7 (by omega) hs.2 hw.2 (by omega) (by rw [List.length_cons]; omega) (by rw [ue]; exact hS.push) with ⟨st', σ', q1, q2, q3, q4⟩ | ⟨σ', q1, q2, q3⟩
    · exact Or.inl ⟨st', σ', q1, by rw [st1, q2, l, show p + (r.length + 1) = p + 1 + r.length by omega], f1.tr q3, q4⟩
    · exact Or.inr ⟨σ', q1, st1.trans q2, f1.tr q3⟩
  | (1, v) :: r, p, n, st, σ, h7, hp, hs, hw, h23, hl, hS => by
    have l : ((1, v) :: r : Ops).length = r.length + 1 := rfl
    have s1 : am_and (σ 26 p) 7 = 1 := hs.1.1
    have s2 : am_shr (σ 26 p) 3 = v := hs.1.2
    have hn := hw.1.1
    have hv := hw.1.2
    have ex : σ 58 v.toNat = vf (σ 58) v.toNat := by unfold vf; rw [if_pos (by omega)]
    have f1 : Fr [59] [] σ (am_upd σ 59 st.length (vf (σ 58) v.toNat)) := Fr.rf.upd rfl (by decide)
    have st1 : c4 X st.length p σ = c4 X (vf (σ 58) v.toNat :: st).length (p + 1) (am_upd σ 59 st.length (vf (σ 58) v.toNat)) := by
      show vv X 199 4 _ [] σ = _
      rw [bq_199_4, h7, if_neg (by omega), if_pos (by omega), tn_nat, s1, s2, if_pos (by decide), if_neg (by decide), if_neg (by decide), bq_199_77, if_pos (by omega), if_pos (by decide), if_pos (by omega), ex, bq_199_107, if_pos (by omega), tn_nat, bq_199_205, w32_s1 (by omega), w32_s1 (by omega)]
      rfl
    rcases c_ops X hb hL r (p + 1) (n + 1) (vf (σ 58) v.toNat :: st) (am_upd σ 59 st.length (vf (σ 58) v.toNat)) h7 (by omega) hs.2 hw.2 (by omega) (by rw [List.length_cons]; omega) (by rw [ue]; exact hS.push) with ⟨st', σ', q1, q2, q3, q4⟩ | ⟨σ', q1, q2, q3⟩
    · exact Or.inl ⟨st', σ', q1, by rw [st1, q2, l, show p + (r.length + 1) = p + 1 + r.length by omega], f1.tr q3, q4⟩
    · exact Or.inr ⟨σ', q1, st1.trans q2, f1.tr q3⟩
  | (k + 2, v) :: r, p, n, [], σ, h7, hp, hs, hw, h23, hl, hS => by
    have h1 := hw.1.2.2
    have h2 : 0 = n + b := hl
    omega
  | (k + 2, v) :: r, p, n, [x], σ, h7, hp, hs, hw, h23, hl, hS => by
    have h1 := hw.1.2.2
    have h2 : 0 + 1 = n + b := hl
    omega
  | (k + 2, v) :: r, p, n, y :: x :: s, σ, h7, hp, hs, hw, h23, hl, hS => by
    have l : ((k + 2, v) :: r : Ops).length = r.length + 1 := rfl
    have s1 : am_and (σ 26 p) 7 = ((k + 2 : Nat) : Int) := hs.1.1
    have s2 : am_shr (σ 26 p) 3 = v := hs.1.2
    have hk := hw.1.1
    have h1 := hw.1.2.2
    have h2 : s.length + 1 + 1 = n + b := hl
    have hy : σ 59 (s.length + 1) = y := hS.1
    have hx : σ 59 s.length = x := hS.2.1
    have ea : (((k + 2 : Nat) : Int)) = (k : Int) + 2 := by omega
    have e2 : w32 (((s.length + 1 + 1 : Nat) : Int) + (-2)) = ((s.length : Nat) : Int) := by rw [w32_id (by omega) (by omega)]; omega
    have e1 : w32 (((s.length + 1 + 1 : Nat) : Int) - 1) = ((s.length + 1 : Nat) : Int) := by rw [w32_id (by omega) (by omega)]; omega
    by_cases z : k = 3 ∧ y = 0
    · refine Or.inr ⟨σ, ?_, ?_, Fr.rf⟩
      · show (if k = 3 ∧ y = 0 then none else _) = _
        rw [if_pos z]
      · show vv X 199 4 [some (vP 57), none, some (vI ((s.length + 1 + 1 : Nat) : Int)), some (vI (p : Int)), none, none] [] σ = _
        rw [bq_199_4, h7, if_neg (by omega), if_pos (by omega), tn_nat, s1, s2, if_pos (show ¬ ((k + 2 : Nat) : Int) = 7 by omega), if_neg (show ¬ ((k + 2 : Nat) : Int) = 0 by omega), if_pos (show ¬ ((k + 2 : Nat) : Int) = 1 by omega), if_neg (by omega), if_neg (show ¬ ¬ ((k + 2 : Nat) : Int) = 5 by omega), e1, if_pos (by omega), tn_nat, if_neg (show ¬ ¬ σ 59 (s.length + 1) = 0 by rw [hy]; exact fun q => q z.2), bq_199_136]
    · have f1 : Fr [59] [] σ (am_upd σ 59 s.length (opv (k + 2) x y)) := Fr.rf.upd rfl (by decide)
      have st0 : vv X 199 138 [some (vP 57), none, some (vI ((s.length + 1 + 1 : Nat) : Int)), some (vI (p : Int)), some (vI ((k + 2 : Nat) : Int)), some (vI v)] [] σ = c4 X (opv (k + 2) x y :: s).length (p + 1) (am_upd σ 59 s.length (opv (k + 2) x y)) := by
        rw [bq_199_138, if_neg (by omega), e2, if_pos (by omega), w32_s1 (by omega), if_pos (by omega), tn_nat, tn_nat, hx, hy, c_comb hk z, bsome]
        dsimp +instances only
        rw [bq_199_205, w32_s1 (by omega)]
        rfl
      have st1 : c4 X (y :: x :: s).length p σ = c4 X (opv (k + 2) x y :: s).length (p + 1) (am_upd σ 59 s.length (opv (k + 2) x y)) := by
        rw [← st0]
        show vv X 199 4 [some (vP 57), none, some (vI ((s.length + 1 + 1 : Nat) : Int)), some (vI (p : Int)), none, none] [] σ = _
        rw [bq_199_4, h7, if_neg (by omega), if_pos (by omega), tn_nat, s1, s2, if_pos (show ¬ ((k + 2 : Nat) : Int) = 7 by omega), if_neg (show ¬ ((k + 2 : Nat) : Int) = 0 by omega), if_pos (show ¬ ((k + 2 : Nat) : Int) = 1 by omega), if_neg (by omega)]
        by_cases k3 : k = 3
        · rw [if_neg (show ¬ ¬ ((k + 2 : Nat) : Int) = 5 by omega), e1, if_pos (by omega), tn_nat, if_pos (show ¬ σ 59 (s.length + 1) = 0 by rw [hy]; exact fun q => z ⟨k3, q⟩)]
        · rw [if_pos (show ¬ ((k + 2 : Nat) : Int) = 5 by omega)]
      have evs : ev (vf (σ 58)) ((k + 2, v) :: r) (y :: x :: s) = ev (vf (σ 58)) r (opv (k + 2) x y :: s) := by
        show (if k = 3 ∧ y = 0 then none else _) = _
        rw [if_neg z]
      rw [evs]
      rcases c_ops X hb hL r (p + 1) (n - 1) (opv (k + 2) x y :: s) (am_upd σ 59 s.length (opv (k + 2) x y)) h7 (by omega) hs.2 hw.2 (by omega) (by rw [List.length_cons]; omega) (by rw [ue]; exact hS.2.2.push) with ⟨st', σ', q1, q2, q3, q4⟩ | ⟨σ', q1, q2, q3⟩
      · exact Or.inl ⟨st', σ', q1, by rw [st1, q2, l, show p + (r.length + 1) = p + 1 + r.length by omega], f1.tr q3, q4⟩
      · exact Or.inr ⟨σ', q1, st1.trans q2, f1.tr q3⟩
/-! a whole law -/
def valE (vs : Nat → Int) (E : Ops) : Option Int := (ev vs E []).bind List.head?
def lawV (vs : Nat → Int) : Brs → Ops → Int
  | [], E => (valE vs E).getD 0
  | (a, b, t) :: r, E => match valE vs a, valE vs b with
    | some u, some w => if u < w then (valE vs t).getD 0 else lawV vs r E
    | _, _ => 0
def wfl : Brs → Ops → Prop
  | [], E => wfo E 0 1
  | (a, b, t) :: r, E => (wfo a 0 1 ∧ wfo b 0 1 ∧ wfo t 0 1) ∧ wfl r E
def CLw (c : Nat → Int) : Nat → Brs → Ops → Nat → Prop
  | p, [], E, e => SgC c p E ∧ am_and (c (p + E.length)) 7 = 7 ∧ e = p + E.length + 1
  | p, (a, b, t) :: r, E, e => (SgC c p a ∧ SgC c (p + a.length) b) ∧ (am_and (c (p + a.length + b.length)) 7 = 6 ∧ am_shr (c (p + a.length + b.length)) 3 = ((p + a.length + b.length + 1 + t.length + 1 : Nat) : Int)) ∧ (SgC c (p + a.length + b.length + 1) t ∧ am_and (c (p + a.length + b.length + 1 + t.length)) 7 = 7) ∧ CLw c (p + a.length + b.length + 1 + t.length + 1) r E e
theorem CLw.le : ∀ {brs : Brs} {E : Ops} {p e : Nat}, CLw c p brs E e → p < e
  | [], E, p, e, h => by have := h.2.2; omega
  | (a, b, t) :: r, E, p, e, h => by have := CLw.le (brs := r) h.2.2.2; omega
theorem CLw.ag : ∀ {brs : Brs} {E : Ops} {p e : Nat}, CLw c p brs E e → (∀ i, p ≤ i → i < e → c' i = c i) → CLw c' p brs E e
  | [], E, p, e, h, hc => by
    have e1 := h.2.2
    refine ⟨h.1.ag (fun i a b => hc i a (by omega)), ?_, e1⟩
    rw [hc _ (by omega) (by omega)]
    exact h.2.1
  | (a, b, t) :: r, E, p, e, h, hc => by
    have e1 := CLw.le h.2.2.2
    refine ⟨⟨h.1.1.ag (fun i a b => hc i (by omega) (by omega)), h.1.2.ag (fun i a b => hc i (by omega) (by omega))⟩, ?_, ⟨h.2.2.1.1.ag (fun i a b => hc i (by omega) (by omega)), ?_⟩, CLw.ag (brs := r) h.2.2.2 (fun i a b => hc i (by omega) b)⟩
    · rw [hc _ (by omega) (by omega)]
      exact h.2.1
    · rw [hc _ (by omega) (by omega)]
      exact h.2.2.1.2
theorem val_some {E : Ops} {st : List Int} (h : wfo E 0 1) (e : ev vs E [] = some st) : ∃ v, st = [v] ∧ valE vs E = some v := by
  have l := ev_len h rfl e
  match st, l with
  | [v], _ => exact ⟨v, rfl, by unfold valE; rw [e]; rfl⟩
theorem val_none {E : Ops} (e : ev vs E [] = none) : valE vs E = none := by unfold valE; rw [e]; rfl
/-- an expression, then the end of a law -/
theorem c_end (X : Nat) {L : Nat} (hL : L ≤ 400) {E : Ops} {p : Nat} (h7 : σ 7 19 = (L : Int)) (hp : p + E.length < L) (hs : SgC (σ 26) p E) (he : am_and (σ 26 (p + E.length)) 7 = 7) (hw : wfo E 0 1) : ∃ σ', c4 X 0 p σ = some (some (vI ((valE (vf (σ 58)) E).getD 0)), σ') ∧ Fr [59] [] σ σ' := by
  rcases c_ops X (b := 0) (by omega) hL E p 0 [] σ h7 (by omega) hs hw (by omega) rfl trivial with ⟨st', σ', q1, q2, q3, q4⟩ | ⟨σ', q1, q2, q3⟩
  · obtain ⟨v, v1, v2⟩ := val_some hw q1
    subst v1
    refine ⟨σ', ?_, q3⟩
    rw [v2]
    refine q2.trans ?_
    show vv X 199 4 [some (vP 57), none, some (vI ((0 + 1 : Nat) : Int)), some (vI ((p + E.length : Nat) : Int)), none, none] [] σ' = _
    have g7 : σ' 7 = σ 7 := q3.get 7 (by decide) rfl
    have g26 : σ' 26 = σ 26 := q3.get 26 (by decide) rfl
    have g0 : σ' 59 0 = v := q4.1
    rw [bq_199_4, g7, h7, if_neg (by omega), if_pos (by omega), tn_nat, g26, he, if_neg (fun q => q rfl), if_neg (by omega), show w32 (((0 + 1 : Nat) : Int) - 1) = 0 by decide, if_pos (by omega), bq_199_65]
    show some (some (vI (σ' 59 0)), σ') = _
    rw [g0]
    rfl
  · refine ⟨σ', ?_, q3⟩
    rw [val_none q1]
    exact q2
theorem c_law (X : Nat) {L : Nat} (hL : L ≤ 400) {E : Ops} {e : Nat} (heL : e ≤ L) : ∀ (brs : Brs) (p : Nat) (σ : am_Sg), σ 7 19 = (L : Int) → CLw (σ 26) p brs E e → wfl brs E → ∃ σ', c4 X 0 p σ = some (some (vI (lawV (vf (σ 58)) brs E)), σ') ∧ Fr [59] [] σ σ'
  | [], p, σ, h7, hc, hw => by
    have e1 := hc.2.2
    exact c_end X hL h7 (by omega) hc.1 hc.2.1 hw
  | (a, b, t) :: r, p, σ, h7, hc, hw => by
    have e1 := CLw.le hc.2.2.2
    obtain ⟨⟨wa, wb, wt⟩, wr⟩ := hw
    rcases c_ops X (b := 0) (by omega) hL a p 0 [] σ h7 (by omega) hc.1.1 wa (by omega) rfl trivial with ⟨st1, σ1, q1, q2, q3, q4⟩ | ⟨σ1, q1, q2, q3⟩
    · obtain ⟨u, u1, u2⟩ := val_some wa q1
      subst u1
      have g7 : σ1 7 = σ 7 := q3.get 7 (by decide) rfl
      have g26 : σ1 26 = σ 26 := q3.get 26 (by decide) rfl
      have g58 : σ1 58 = σ 58 := q3.get 58 (by decide) rfl
      have eb : ev (vf (σ 58)) b [u] = (ev (vf (σ 58)) b []).map (· ++ [u]) := ev_base (st := []) wb rfl
      rcases c_ops X (b := 1) (by omega) hL b (p + a.length) 0 [u] σ1 (by rw [g7]; exact h7) (by omega) (by rw [g26]; exact hc.1.2) wb (by omega) rfl q4 with ⟨st2, σ2, r1, r2, r3, r4⟩ | ⟨σ2, r1, r2, r3⟩
      · rw [g58, eb] at r1
        cases hb : ev (vf (σ 58)) b [] with
        | none => rw [hb] at r1; cases r1
        | some sb =>
          obtain ⟨w, w1, w2⟩ := val_some wb hb
          subst w1
          rw [hb] at r1
          injection r1 with r1
          subst r1
          have f2 := q3.tr r3
          have k7 : σ2 7 = σ 7 := f2.get 7 (by decide) rfl
          have k26 : σ2 26 = σ 26 := f2.get 26 (by decide) rfl
          have k58 : σ2 58 = σ 58 := f2.get 58 (by decide) rfl
          have kw : σ2 59 1 = w := r4.1
          have ku : σ2 59 0 = u := r4.2.1
          have run : c4 X 0 p σ = c4 X 0 (if u < w then p + a.length + b.length + 1 else p + a.length + b.length + 1 + t.length + 1) σ2 := by
            refine (q2.trans r2).trans ?_
            show vv X 199 4 [some (vP 57), none, some (vI ((0 + 1 + 1 : Nat) : Int)), some (vI ((p + a.length + b.length : Nat) : Int)), none, none] [] σ2 = _
            rw [bq_199_4, k7, h7, if_neg (by omega), if_pos (by omega), tn_nat, k26, hc.2.1.1, hc.2.1.2, if_pos (by decide), if_neg (by decide), if_pos (by decide), if_neg (by decide), if_pos (by decide), bq_199_138, if_pos rfl, show w32 (((0 + 1 + 1 : Nat) : Int) + (-2)) = ((0 : Nat) : Int) by decide, if_pos (by omega), show w32 (((0 : Nat) : Int) + 1) = ((1 : Nat) : Int) by decide, if_pos (by omega), tn_nat, tn_nat, kw, ku]
            by_cases z : u < w
            · rw [if_pos z, if_pos z, bq_199_205, w32_s1 (by omega)]
            · rw [if_neg z, if_neg z, bq_199_205]
              have e5 : w32 (((p + a.length + b.length + 1 + t.length + 1 : Nat) : Int) - 1) = ((p + a.length + b.length + 1 + t.length : Nat) : Int) := by rw [w32_id (by omega) (by omega)]; omega
              rw [e5, if_pos (by omega), w32_s1 (by omega)]
          have lv : lawV (vf (σ 58)) ((a, b, t) :: r) E = if u < w then (valE (vf (σ 58)) t).getD 0 else lawV (vf (σ 58)) r E := by
            show (match valE (vf (σ 58)) a, valE (vf (σ 58)) b with
              | some u, some w => if u < w then (valE (vf (σ 58)) t).getD 0 else lawV (vf (σ 58)) r E
              | _, _ => 0) = _
            rw [u2, w2]
          by_cases z : u < w
          · obtain ⟨σ3, s1, s2⟩ := c_end X hL (p := p + a.length + b.length + 1) (E := t) (σ := σ2) (by rw [k7]; exact h7) (by omega) (by rw [k26]; exact hc.2.2.1.1) (by rw [k26]; exact hc.2.2.1.2) wt
            refine ⟨σ3, ?_, f2.tr s2⟩
            rw [run, if_pos z, s1, k58, lv, if_pos z]
          · obtain ⟨σ3, s1, s2⟩ := c_law X hL heL r (p + a.length + b.length + 1 + t.length + 1) σ2 (by rw [k7]; exact h7) (by rw [k26]; exact hc.2.2.2) wr
            refine ⟨σ3, ?_, f2.tr s2⟩
            rw [run, if_neg z, s1, k58, lv, if_neg z]
      · rw [g58, eb] at r1
        have nb : valE (vf (σ 58)) b = none := by
          cases hb : ev (vf (σ 58)) b [] with
          | none => exact val_none hb
          | some sb => rw [hb] at r1; cases r1
        refine ⟨σ2, ?_, q3.tr r3⟩
        have lv : lawV (vf (σ 58)) ((a, b, t) :: r) E = 0 := by
          show (match valE (vf (σ 58)) a, valE (vf (σ 58)) b with
              | some u, some w => if u < w then (valE (vf (σ 58)) t).getD 0 else lawV (vf (σ 58)) r E
              | _, _ => 0) = _
          rw [u2, nb]
        rw [lv]
        exact q2.trans r2
    · refine ⟨σ1, ?_, q3⟩
      have lv : lawV (vf (σ 58)) ((a, b, t) :: r) E = 0 := by
        show (match valE (vf (σ 58)) a, valE (vf (σ 58)) b with
              | some u, some w => if u < w then (valE (vf (σ 58)) t).getD 0 else lawV (vf (σ 58)) r E
              | _, _ => 0) = _
        rw [val_none q1]
      rw [lv]
      exact q2
end LW
