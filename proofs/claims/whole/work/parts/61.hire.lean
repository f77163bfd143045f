/-! HIRE: the reference's one that swallows -/
section HM
variable {X l : Nat} {σ T : am_Sg}
section MATH
variable {w : Nat → Nat}
theorem dg13 (v d : Nat) : dg v d < 13 := Nat.mod_lt _ (by omega)
theorem dg_mk {k : Nat → Nat} (h : ∀ d, d < 4 → k d < 13) : ∀ d, d < 4 → dg (mostN k) d = k d := by
  have e := dg_of (a := k 0) (c := k 1) (e := k 2) (f := k 3) (h 0 (by omega)) (h 1 (by omega)) (h 2 (by omega)) (h 3 (by omega))
  intro d hd
  rcases (show d = 0 ∨ d = 1 ∨ d = 2 ∨ d = 3 by omega) with u | u | u | u <;> subst u
  · exact e.1
  · exact e.2.1
  · exact e.2.2.1
  · exact e.2.2.2
theorem mk_dg {v : Nat} (hv : v < 28561) : mostN (dg v) = v := by
  show v / 13 ^ 0 % 13 + 13 * (v / 13 ^ 1 % 13 + 13 * (v / 13 ^ 2 % 13 + 13 * (v / 13 ^ 3 % 13))) = v
  rw [show (13 : Nat) ^ 0 = 1 from rfl, show (13 : Nat) ^ 1 = 13 from rfl, show (13 : Nat) ^ 2 = 169 from rfl, show (13 : Nat) ^ 3 = 2197 from rfl]
  omega
theorem mostN_ext {k k' : Nat → Nat} (h : ∀ d, d < 4 → k d = k' d) : mostN k = mostN k' := by
  unfold mostN
  rw [h 0 (by omega), h 1 (by omega), h 2 (by omega), h 3 (by omega)]
theorem mostN_le {k k' : Nat → Nat} (h : ∀ d, d < 4 → k d ≤ k' d) : mostN k ≤ mostN k' := by
  have h0 := h 0 (by omega)
  have h1 := h 1 (by omega)
  have h2 := h 2 (by omega)
  have h3 := h 3 (by omega)
  unfold mostN
  omega
theorem mostN_lt {k : Nat → Nat} (h : ∀ d, d < 4 → k d < 13) : mostN k < 28561 := by
  have h0 := h 0 (by omega)
  have h1 := h 1 (by omega)
  have h2 := h 2 (by omega)
  have h3 := h 3 (by omega)
  unfold mostN
  omega
theorem mostN_dec {k : Nat → Nat} {d : Nat} (hd : d < 4) (hk : 1 ≤ k d) : mostN (upN k d (k d - 1)) + 13 ^ d = mostN k := by
  rcases (show d = 0 ∨ d = 1 ∨ d = 2 ∨ d = 3 by omega) with u | u | u | u <;> subst u
  · show (k 0 - 1) + 13 * (k 1 + 13 * (k 2 + 13 * k 3)) + 13 ^ 0 = k 0 + 13 * (k 1 + 13 * (k 2 + 13 * k 3))
    omega
  · show k 0 + 13 * ((k 1 - 1) + 13 * (k 2 + 13 * k 3)) + 13 ^ 1 = k 0 + 13 * (k 1 + 13 * (k 2 + 13 * k 3))
    omega
  · show k 0 + 13 * (k 1 + 13 * ((k 2 - 1) + 13 * k 3)) + 13 ^ 2 = k 0 + 13 * (k 1 + 13 * (k 2 + 13 * k 3))
    omega
  · show k 0 + 13 * (k 1 + 13 * (k 2 + 13 * (k 3 - 1))) + 13 ^ 3 = k 0 + 13 * (k 1 + 13 * (k 2 + 13 * k 3))
    omega
/-- one digit less -/
theorem dg_dec {x d : Nat} (hx : x < 28561) (hd : d < 4) (h1 : 1 ≤ dg x d) : 13 ^ d ≤ x ∧ ∀ e, e < 4 → dg (x - 13 ^ d) e = upN (dg x) d (dg x d - 1) e := by
  have q := mostN_dec (k := dg x) hd h1
  rw [mk_dg hx] at q
  refine ⟨by omega, fun e he => ?_⟩
  rw [show x - 13 ^ d = mostN (upN (dg x) d (dg x d - 1)) by omega]
  refine dg_mk (fun a ha => ?_) e he
  have := dg13 x a
  unfold upN
  split
  next y => rw [← y]; omega
  next => exact this
def LeM (okM : Nat → Prop) (u v : Nat) : Prop := ∀ d, d < 4 → dg v d ≤ dg u d ∧ (dg v d = dg u d ∨ okM d)
def dfM (w : Nat → Nat) (u v : Nat) : Nat := smN (fun d => (dg u d - dg v d) * w d) 4
def InvU (w : Nat → Nat) (most r : Nat) (okM old : Nat → Prop) (i : Nat) (f : Nat → Int) : Prop := (∀ v, v ≤ most → 0 ≤ f v ∧ f v ≤ 1000) ∧ (∀ v, v ≤ most → f v = 1000 ∨ ∃ u, u ≤ most ∧ old u ∧ LeM okM u v ∧ f v = ((dfM w u v : Nat) : Int)) ∧ (∀ u, u ≤ most → old u → f u ≤ 0) ∧ ∀ x, x ≤ most → most < x + i → f x ≤ (r : Int) → ∀ d, okM d → 1 ≤ dg x d → f (x - 13 ^ d) ≤ f x + (w d : Int)
variable {most r : Nat} {okM old : Nat → Prop} {f : Nat → Int}
theorem InvU_relax {i x d : Nat} (hm : most < 28561) (hr : r ≤ 99) (hw : w d ≤ 9) (hx : x ≤ most) (hi : x + i = most) (ho : okM d) (hd : d < 4) (h1 : 1 ≤ dg x d) (h : InvU w most r okM old i f) (hf : f x ≤ (r : Int)) (hlt : ¬ f (x - 13 ^ d) ≤ f x + (w d : Int)) : InvU w most r okM old i (up f (x - 13 ^ d) (f x + (w d : Int))) := by
  obtain ⟨a0, a1, a2, a3⟩ := h
  obtain ⟨px, dd⟩ := dg_dec (show x < 28561 by omega) hd h1
  have pp := (p13 hd).1
  have le : ∀ y, up f (x - 13 ^ d) (f x + (w d : Int)) y ≤ f y := fun y => by
    rw [upa]
    by_cases z : y = x - 13 ^ d
    · rw [if_pos z, z]
      omega
    · rw [if_neg z]
      exact Int.le_refl _
  have b0 := a0 x hx
  refine ⟨fun v hv => ?_, fun v hv => ?_, fun u hu ou => Int.le_trans (le u) (a2 u hu ou), fun y hy hyi hfy e he h1e => ?_⟩
  · rw [upa]
    by_cases z : v = x - 13 ^ d
    · rw [if_pos z]
      omega
    · rw [if_neg z]
      exact a0 v hv
  · rw [upa]
    by_cases z : v = x - 13 ^ d
    · rw [if_pos z]
      rcases a1 x hx with q | ⟨u, q1, q2, q3, q4⟩
      · omega
      · refine Or.inr ⟨u, q1, q2, fun e he => ?_, ?_⟩
        · rw [z, dd e he]
          unfold upN
          by_cases y : e = d
          · rw [if_pos y, y]
            have := (q3 d hd).1
            exact ⟨by omega, Or.inr ho⟩
          · rw [if_neg y]
            exact q3 e he
        · rw [q4]
          have s := smN_inc (n := 4) (w := w) (j := fun e => dg u e - dg x e) hd
          have e2 : dfM w u v = smN (fun e => upN (fun e => dg u e - dg x e) d ((dg u d - dg x d) + 1) e * w e) 4 := smN_ext fun e he => by
            rw [z, dd e he]
            unfold upN
            by_cases y : e = d
            · rw [if_pos y, if_pos y]
              have := (q3 d hd).1
              rw [show dg u e = dg u d by rw [y]]
              congr 1
              omega
            · rw [if_neg y, if_neg y]
          rw [e2, s]
          unfold dfM
          omega
    · rw [if_neg z]
      exact a1 v hv
  · have ne : ¬ y = x - 13 ^ d := by omega
    have ey : up f (x - 13 ^ d) (f x + (w d : Int)) y = f y := by rw [upa, if_neg ne]
    rw [ey] at hfy ⊢
    exact Int.le_trans (le _) (a3 y hy hyi hfy e he h1e)
/-- all that may be left -/
theorem InvU_all (hm : most < 28561) (ok4 : ∀ d, okM d → d < 4) (h : InvU w most r okM old (most + 1) f) : ∀ N (j : Nat → Nat), smN (fun d => j d * 1) 4 = N → ∀ u, u ≤ most → old u → (∀ d, d < 4 → j d ≤ dg u d ∧ (j d = 0 ∨ okM d)) → smN (fun d => j d * w d) 4 ≤ r → f (mostN (fun d => dg u d - j d)) ≤ ((smN (fun d => j d * w d) 4 : Nat) : Int) := by
  intro N
  induction N with
  | zero =>
    intro j e u hu ou hj hs
    have z : ∀ d, d < 4 → j d = 0 := fun d hd => by
      have := smN_ge (f := fun d => j d * 1) d hd
      omega
    rw [mostN_ext (k' := dg u) (fun d hd => by rw [z d hd]; rfl), mk_dg (by omega)]
    have := h.2.2.1 u hu ou
    omega
  | succ N ih =>
    intro j e u hu ou hj hs
    have hne : ∃ d, d < 4 ∧ 1 ≤ j d := Classical.byContradiction fun q => by
      rw [smN_ext (g := fun _ => 0) (fun d hd => by
        have q1 : ¬ 1 ≤ j d := fun x => q ⟨d, hd, x⟩
        omega), smN_z] at e
      omega
    obtain ⟨d, hd, h1⟩ := hne
    have s1 := smN_dec (n := 4) (w := fun _ => 1) (j := j) hd h1
    have s2 := smN_dec (n := 4) (w := w) (j := j) hd h1
    have od : okM d := by
      rcases (hj d hd).2 with q | q
      · omega
      · exact q
    have jd := (hj d hd).1
    have le := ih (upN j d (j d - 1)) (by omega) u hu ou (fun e he => by
      unfold upN
      by_cases y : e = d
      · rw [if_pos y, y]
        exact ⟨by omega, Or.inr od⟩
      · rw [if_neg y]
        exact hj e he) (by omega)
    generalize hx : mostN (fun e => dg u e - upN j d (j d - 1) e) = x at le
    have k13 : ∀ e, e < 4 → dg u e - upN j d (j d - 1) e < 13 := fun e _ => by have := dg13 u e; omega
    have dx : ∀ e, e < 4 → dg x e = dg u e - upN j d (j d - 1) e := fun e he => by rw [← hx]; exact dg_mk k13 e he
    have xl : x ≤ most := by
      have : x ≤ mostN (dg u) := by rw [← hx]; exact mostN_le (fun e _ => Nat.sub_le _ _)
      rw [mk_dg (by omega)] at this
      omega
    have dxd : dg x d = dg u d - j d + 1 := by
      rw [dx d hd]
      unfold upN
      rw [if_pos rfl]
      omega
    have rel := h.2.2.2 x xl (by omega) (by omega) d od (by omega)
    obtain ⟨px, dd⟩ := dg_dec (show x < 28561 by omega) hd (by omega)
    have ex : x - 13 ^ d = mostN (fun e => dg u e - j e) := by
      rw [← mk_dg (show x - 13 ^ d < 28561 from Nat.lt_of_le_of_lt (Nat.sub_le _ _) (by omega))]
      refine mostN_ext fun e he => ?_
      rw [dd e he]
      unfold upN
      by_cases y : e = d
      · rw [if_pos y, y, dxd]
        omega
      · rw [if_neg y, dx e he]
        unfold upN
        rw [if_neg y]
    rw [ex] at rel
    omega
theorem InvU_iff (hm : most < 28561) (hr : r ≤ 99) (ok4 : ∀ d, okM d → d < 4) (h : InvU w most r okM old (most + 1) f) {v : Nat} (hv : v ≤ most) : f v ≤ (r : Int) ↔ ∃ u, u ≤ most ∧ old u ∧ LeM okM u v ∧ dfM w u v ≤ r := by
  constructor
  · intro q
    rcases h.2.1 v hv with z | ⟨u, q1, q2, q3, q4⟩
    · omega
    · exact ⟨u, q1, q2, q3, by omega⟩
  · rintro ⟨u, q1, q2, q3, q4⟩
    have := InvU_all hm ok4 h _ (fun d => dg u d - dg v d) rfl u q1 q2 (fun d hd => by
      have q := q3 d hd
      refine ⟨Nat.sub_le _ _, ?_⟩
      rcases q.2 with y | y
      · exact Or.inl (by omega)
      · exact Or.inr y) q4
    rw [mostN_ext (k' := dg v) (fun d hd => by have := (q3 d hd).1; omega), mk_dg (by omega)] at this
    unfold dfM at q4
    omega
end MATH
def okE (T : am_Sg) (E : Int) (d : Nat) : Prop := d < nD T ∧ ¬ bt1 E d = 0
theorem m_one (H : TOk T) (K : TM σ T l) {most r : Nat} (hm : most < 28561) (hr : r ≤ 99) {E : Int} : ∃ σ', vcV X 212 [vP 80, vI (most : Int), vI (r : Int), vI E] σ = some σ' ∧ Fr [131, 132] [] σ σ' ∧ ∀ v, v ≤ most → (¬ σ' 132 v = 0 ↔ ∃ u, u ≤ most ∧ ¬ σ 132 u = 0 ∧ LeM (okE T E) u v ∧ dfM (wN T) u v ≤ r) := by
  have h4 := H.d4
  have l1 := K.l1
  -- clear
  obtain ⟨g, eg, hg⟩ := lp (fun i (g : Nat → Int) => vv X 212 3 [some (vP 80), some (vI (most : Int)), some (vI (r : Int)), some (vI E), some (vI ((most : Int) - (i : Int))), none, none, none] [] (am_row σ 131 g)) (most + 1) (fun i g => ∀ v, v ≤ most → most < v + i → g v = if σ 132 v = 0 then 1000 else 0) (fun i g hi hh => by
    refine ⟨up g (most - i) (if σ 132 (most - i) = 0 then 1000 else 0), ?_, fun v hv hvi => ?_⟩
    · show vv X 212 3 [some (vP 80), some (vI (most : Int)), some (vI (r : Int)), some (vI E), some (vI ((most : Int) - (i : Int))), none, none, none] [] (am_row σ 131 g) = vv X 212 3 [some (vP 80), some (vI (most : Int)), some (vI (r : Int)), some (vI E), some (vI ((most : Int) - ((i + 1 : Nat) : Int))), none, none, none] [] _
      have wx : w32 ((most : Int) - (i : Int) + (-1)) = (most : Int) - ((i + 1 : Nat) : Int) := by rw [w32_id (by omega) (by omega)]; omega
      rw [bq_212_3, if_neg (by omega), if_pos (by omega), rn _ (show ¬ (132 : Nat) = 131 by decide), show ((most : Int) - (i : Int)).toNat = most - i by omega]
      by_cases z : σ 132 (most - i) = 0
      · rw [if_pos z, if_pos z, bq_212_31, if_pos (by omega), show ((most : Int) - (i : Int)).toNat = most - i by omega, ur, wx]
      · rw [if_neg z, if_neg z, bq_212_31, if_pos (by omega), show ((most : Int) - (i : Int)).toNat = most - i by omega, ur, wx]
    · rw [upa]
      by_cases z : v = most - i
      · rw [if_pos z, z]
      · rw [if_neg z]
        exact hh v hv (by omega)) (most + 1) 0 (σ 131) (by omega) (fun v hv hvi => absurd hvi (by omega))
  rw [r0] at eg
  -- fill
  obtain ⟨f, ef, hf⟩ := lp (fun i (f : Nat → Int) => vv X 212 41 [some (vP 80), some (vI (most : Int)), some (vI (r : Int)), some (vI E), some (vI ((most : Int) - (i : Int))), none, none, none] [] (am_row σ 131 f)) (most + 1) (fun i f => InvU (wN T) most r (okE T E) (fun u => ¬ σ 132 u = 0) i f) (fun i f hi hh => by
    obtain ⟨x, hx⟩ : ∃ x, x + i = most := ⟨most - i, by omega⟩
    have ex : (most : Int) - (i : Int) = (x : Int) := by omega
    have wx : w32 ((x : Int) + (-1)) = (most : Int) - ((i + 1 : Nat) : Int) := by rw [w32_id (by omega) (by omega)]; omega
    have e41 : vv X 212 41 [some (vP 80), some (vI (most : Int)), some (vI (r : Int)), some (vI E), some (vI ((most : Int) - (i : Int))), none, none, none] [] (am_row σ 131 f) = if f x ≤ (r : Int) then vv X 212 63 [some (vP 80), some (vI (most : Int)), some (vI (r : Int)), some (vI E), some (vI (x : Int)), some (vI 0), none, none] [] (am_row σ 131 f) else vv X 212 159 [some (vP 80), some (vI (most : Int)), some (vI (r : Int)), some (vI E), some (vI (x : Int)), none, none, none] [] (am_row σ 131 f) := by
      rw [bq_212_41, ex, if_neg (by omega), if_pos (by omega), tn_nat, re]
    by_cases z : f x ≤ (r : Int)
    · obtain ⟨f', e', hx1, hx2, hx3⟩ := lp (fun d (f' : Nat → Int) => vv X 212 63 [some (vP 80), some (vI (most : Int)), some (vI (r : Int)), some (vI E), some (vI (x : Int)), some (vI (d : Int)), none, none] [] (am_row σ 131 f')) (nD T) (fun d f' => InvU (wN T) most r (okE T E) (fun u => ¬ σ 132 u = 0) i f' ∧ f' x ≤ (r : Int) ∧ ∀ e, e < d → okE T E e → 1 ≤ dg x e → f' (x - 13 ^ e) ≤ f' x + (wN T e : Int)) (fun d f' hd hh => by
        obtain ⟨ih, iz, ie⟩ := hh
        have d4 : d < 4 := by omega
        have pd := p13 d4
        have Kf : TM (am_row σ 131 f') T l := K.fr (cs := [131, 132]) (js := []) (Fr.rf.row rfl (by decide)) rfl
        have wd := H.di d hd
        have w9 : wN T d ≤ 9 := by unfold wN; omega
        have b0 := ih.1 x (by omega)
        have dv : am_rem (am_div (x : Int) ((13 ^ d : Nat) : Int)) 13 = ((dg x d : Nat) : Int) := by
          rw [am_div_nat (by omega)]
          exact am_rem_nat (b := 13) (by have := Nat.div_le_self x (13 ^ d); omega)
        have keep : (¬ okE T E d ∨ ¬ 1 ≤ dg x d ∨ f' (x - 13 ^ d) ≤ f' x + (wN T d : Int)) → ∀ e, e < d + 1 → okE T E e → 1 ≤ dg x e → f' (x - 13 ^ e) ≤ f' x + (wN T e : Int) := fun q e he oe he1 => by
          by_cases y : e = d
          · subst y
            rcases q with q | q | q
            · exact absurd oe q
            · exact absurd he1 q
            · exact q
          · exact ie e (by omega) oe he1
        have nx : vv X 212 153 [some (vP 80), some (vI (most : Int)), some (vI (r : Int)), some (vI E), some (vI (x : Int)), some (vI (d : Int)), none, none] [] (am_row σ 131 f') = vv X 212 63 [some (vP 80), some (vI (most : Int)), some (vI (r : Int)), some (vI E), some (vI (x : Int)), some (vI ((d + 1 : Nat) : Int)), none, none] [] (am_row σ 131 f') := by rw [bq_212_153, w32_s1 (by omega)]
        have head : vv X 212 63 [some (vP 80), some (vI (most : Int)), some (vI (r : Int)), some (vI E), some (vI (x : Int)), some (vI (d : Int)), none, none] [] (am_row σ 131 f') = if bt1 E d = 0 then vv X 212 153 [some (vP 80), some (vI (most : Int)), some (vI (r : Int)), some (vI E), some (vI (x : Int)), some (vI (d : Int)), none, none] [] (am_row σ 131 f') else if ¬ ((dg x d : Nat) : Int) = 0 then (if 0 ≤ w32 ((x : Int) - ((13 ^ d : Nat) : Int)) ∧ w32 ((x : Int) - ((13 ^ d : Nat) : Int)) < 28561 then if f' (w32 ((x : Int) - ((13 ^ d : Nat) : Int))).toNat ≤ w32 (f' x + T 10 d) then vv X 212 153 [some (vP 80), some (vI (most : Int)), some (vI (r : Int)), some (vI E), some (vI (x : Int)), some (vI (d : Int)), none, none] [] (am_row σ 131 f') else vv X 212 153 [some (vP 80), some (vI (most : Int)), some (vI (r : Int)), some (vI E), some (vI (x : Int)), some (vI (d : Int)), none, none] [] (am_upd (am_row σ 131 f') 131 (w32 ((x : Int) - ((13 ^ d : Nat) : Int))).toNat (w32 (f' x + T 10 d))) else none) else vv X 212 153 [some (vP 80), some (vI (most : Int)), some (vI (r : Int)), some (vI E), some (vI (x : Int)), some (vI (d : Int)), none, none] [] (am_row σ 131 f') := by
          rw [bq_212_63, m_kinds H Kf, bsome]
          dsimp +instances only
          rw [if_neg (by omega)]
          show (if bt1 E d = 0 then _ else _) = _
          by_cases y : bt1 E d = 0
          · rw [if_pos y, if_pos y]
          · rw [if_neg y, if_neg y, m_step d4, bsome]
            dsimp +instances only
            rw [if_neg (by omega), dv]
            by_cases q : ((dg x d : Nat) : Int) = 0
            · rw [if_neg (fun t => t q), if_neg (fun t => t q)]
            · rw [if_pos q, if_pos q, m_step d4, bsome]
              dsimp +instances only
              have i4 : w32 (w32 (4 * (am_row σ 131 f') 80 18) + (d : Int)) = ((4 * l + d : Nat) : Int) := by
                rw [Kf.l0, w32_id (x := 4 * (l : Int)) (by omega) (by omega), w32_id (by omega) (by omega)]
                omega
              rw [if_pos (by omega), i4, if_pos (by omega), tn_nat, tn_nat, (Kf.di d hd).1, re]
        by_cases y : bt1 E d = 0
        · refine ⟨f', ?_, ih, iz, keep (Or.inl (fun q => q.2 y))⟩
          refine head.trans ?_
          rw [if_pos y]
          exact nx
        · by_cases q : dg x d = 0
          · refine ⟨f', ?_, ih, iz, keep (Or.inr (Or.inl (by omega)))⟩
            refine head.trans ?_
            rw [if_neg y, if_neg (fun t => t (by rw [q]; rfl))]
            exact nx
          · obtain ⟨px, -⟩ := dg_dec (show x < 28561 by omega) d4 (by omega)
            have ei : w32 ((x : Int) - ((13 ^ d : Nat) : Int)) = ((x - 13 ^ d : Nat) : Int) := by rw [w32_id (by omega) (by omega)]; omega
            have ew : w32 (f' x + T 10 d) = f' x + (wN T d : Int) := by
              rw [w32_id (by omega) (by omega)]
              unfold wN
              omega
            by_cases p : f' (x - 13 ^ d) ≤ f' x + (wN T d : Int)
            · refine ⟨f', ?_, ih, iz, keep (Or.inr (Or.inr p))⟩
              refine head.trans ?_
              rw [if_neg y, if_pos (by omega), ei, if_pos (by omega), tn_nat, ew, if_pos p]
              exact nx
            · have ne : ¬ x = x - 13 ^ d := by omega
              refine ⟨up f' (x - 13 ^ d) (f' x + (wN T d : Int)), ?_, InvU_relax hm hr w9 (by omega) hx ⟨hd, y⟩ d4 (by omega) ih iz p, ?_, fun e he oe he1 => ?_⟩
              · refine head.trans ?_
                show _ = vv X 212 63 [some (vP 80), some (vI (most : Int)), some (vI (r : Int)), some (vI E), some (vI (x : Int)), some (vI ((d + 1 : Nat) : Int)), none, none] [] _
                rw [if_neg y, if_pos (by omega), ei, if_pos (by omega), tn_nat, ew, if_neg p, ur, bq_212_153, w32_s1 (by omega)]
              · rw [upa, if_neg ne]
                exact iz
              · rw [upa, upa, if_neg ne]
                by_cases t : e = d
                · rw [t, if_pos rfl]
                  exact Int.le_refl _
                · have e4 := p13 (show e < 4 by have := oe.1; omega)
                  by_cases s : x - 13 ^ e = x - 13 ^ d
                  · have := ie e (by omega) oe he1
                    rw [if_pos s]
                    rw [s] at this
                    omega
                  · rw [if_neg s]
                    exact ie e (by omega) oe he1) (nD T) 0 f (by omega) ⟨hh, z, fun e he => absurd he (Nat.not_lt_zero _)⟩
      refine ⟨f', ?_, hx1.1, hx1.2.1, hx1.2.2.1, fun v hv hvi hfv e oe he1 => ?_⟩
      · show vv X 212 41 [some (vP 80), some (vI (most : Int)), some (vI (r : Int)), some (vI E), some (vI ((most : Int) - (i : Int))), none, none, none] [] (am_row σ 131 f) = vv X 212 41 [some (vP 80), some (vI (most : Int)), some (vI (r : Int)), some (vI E), some (vI ((most : Int) - ((i + 1 : Nat) : Int))), none, none, none] [] (am_row σ 131 f')
        rw [e41, if_pos z]
        refine Eq.trans e' ?_
        show vv X 212 63 [some (vP 80), some (vI (most : Int)), some (vI (r : Int)), some (vI E), some (vI (x : Int)), some (vI (nD T : Int)), none, none] [] (am_row σ 131 f') = _
        have Kf : TM (am_row σ 131 f') T l := K.fr (cs := [131, 132]) (js := []) (Fr.rf.row rfl (by decide)) rfl
        rw [bq_212_63, m_kinds H Kf, bsome]
        dsimp +instances only
        rw [if_pos (Int.le_refl _), bq_212_159, wx]
      · by_cases s : v = x
        · rw [s] at he1 ⊢
          exact hx3 e oe.1 oe he1
        · exact hx1.2.2.2 v hv (by omega) hfv e oe he1
    · refine ⟨f, ?_, hh.1, hh.2.1, hh.2.2.1, fun v hv hvi hfv e oe he1 => ?_⟩
      · show vv X 212 41 [some (vP 80), some (vI (most : Int)), some (vI (r : Int)), some (vI E), some (vI ((most : Int) - (i : Int))), none, none, none] [] (am_row σ 131 f) = vv X 212 41 [some (vP 80), some (vI (most : Int)), some (vI (r : Int)), some (vI E), some (vI ((most : Int) - ((i + 1 : Nat) : Int))), none, none, none] [] (am_row σ 131 f)
        rw [e41, if_neg z, bq_212_159, wx]
      · by_cases s : v = x
        · rw [s] at hfv
          exact absurd hfv z
        · exact hh.2.2.2 v hv (by omega) hfv e oe he1) (most + 1) 0 g (by omega) ⟨fun v hv => by rw [hg v hv (by omega)]; split <;> omega, fun v hv => by
      rw [hg v hv (by omega)]
      by_cases z : σ 132 v = 0
      · rw [if_pos z]; exact Or.inl rfl
      · rw [if_neg z]
        refine Or.inr ⟨v, hv, z, fun d hd => ⟨Nat.le_refl _, Or.inl rfl⟩, ?_⟩
        unfold dfM
        rw [smN_ext (g := fun _ => 0) (fun d hd => by rw [Nat.sub_self, Nat.zero_mul]), smN_z]
        rfl, fun u hu ou => by rw [hg u hu (by omega), if_neg ou]; exact Int.le_refl _, fun x hx hxi => absurd hxi (by omega)⟩
  have fin := fun v (hv : v ≤ most) => InvU_iff hm hr (fun d o => by have := o.1; omega) hf hv
  -- what may be left
  obtain ⟨h, eh, hh⟩ := lp (fun i (h : Nat → Int) => vv X 212 168 [some (vP 80), none, some (vI (r : Int)), none, some (vI ((most : Int) - (i : Int))), none, none, none] [] (am_row (am_row σ 131 f) 132 h)) (most + 1) (fun i h => ∀ v, v ≤ most → most < v + i → h v = if f v ≤ (r : Int) then 1 else 0) (fun i h hi hh => by
    refine ⟨up h (most - i) (if f (most - i) ≤ (r : Int) then 1 else 0), ?_, fun v hv hvi => ?_⟩
    · show vv X 212 168 [some (vP 80), none, some (vI (r : Int)), none, some (vI ((most : Int) - (i : Int))), none, none, none] [] (am_row (am_row σ 131 f) 132 h) = vv X 212 168 [some (vP 80), none, some (vI (r : Int)), none, some (vI ((most : Int) - ((i + 1 : Nat) : Int))), none, none, none] [] _
      have wx : w32 ((most : Int) - (i : Int) + (-1)) = (most : Int) - ((i + 1 : Nat) : Int) := by rw [w32_id (by omega) (by omega)]; omega
      rw [bq_212_168, if_neg (by omega), if_pos (by omega), rn _ (show ¬ (131 : Nat) = 132 by decide), re, show ((most : Int) - (i : Int)).toNat = most - i by omega]
      by_cases z : f (most - i) ≤ (r : Int)
      · rw [if_pos z, if_neg (by omega), bq_212_195, if_pos ⟨by omega, by omega, okZ1⟩, show ((most : Int) - (i : Int)).toNat = most - i by omega, ur, wx]
      · rw [if_neg z, if_pos (by omega), bq_212_195, if_pos ⟨by omega, by omega, okZ0⟩, show ((most : Int) - (i : Int)).toNat = most - i by omega, ur, wx]
    · rw [upa]
      by_cases z : v = most - i
      · rw [if_pos z, z]
      · rw [if_neg z]
        exact hh v hv (by omega)) (most + 1) 0 (σ 132) (by omega) (fun v hv hvi => absurd hvi (by omega))
  rw [show am_row (am_row σ 131 f) 132 (σ 132) = am_row σ 131 f by rw [show σ 132 = (am_row σ 131 f) 132 from (rn _ (show ¬ (132 : Nat) = 131 by decide)).symm, r0]] at eh
  refine ⟨am_row (am_row σ 131 f) 132 h, vV_of ((bq_212_0 X _ _ _ σ).trans ?_) rfl, (Fr.rf.row rfl (by decide)).row rfl (by decide), fun v hv => ?_⟩
  · have c0 : (most : Int) = (most : Int) - ((0 : Nat) : Int) := by omega
    have c1 : (most : Int) - ((most + 1 : Nat) : Int) = -1 := by omega
    refine Eq.trans ?_ ((eg.trans ?_).trans ((ef.trans ?_).trans (eh.trans ?_)))
    · show _ = vv X 212 3 [some (vP 80), some (vI (most : Int)), some (vI (r : Int)), some (vI E), some (vI ((most : Int) - ((0 : Nat) : Int))), none, none, none] [] σ
      rw [← c0]
    · show vv X 212 3 [some (vP 80), some (vI (most : Int)), some (vI (r : Int)), some (vI E), some (vI ((most : Int) - ((most + 1 : Nat) : Int))), none, none, none] [] (am_row σ 131 g) = vv X 212 41 [some (vP 80), some (vI (most : Int)), some (vI (r : Int)), some (vI E), some (vI ((most : Int) - ((0 : Nat) : Int))), none, none, none] [] (am_row σ 131 g)
      rw [← c0, c1, bq_212_3, if_pos (by omega)]
    · show vv X 212 41 [some (vP 80), some (vI (most : Int)), some (vI (r : Int)), some (vI E), some (vI ((most : Int) - ((most + 1 : Nat) : Int))), none, none, none] [] (am_row σ 131 f) = vv X 212 168 [some (vP 80), none, some (vI (r : Int)), none, some (vI ((most : Int) - ((0 : Nat) : Int))), none, none, none] [] (am_row σ 131 f)
      rw [← c0, c1, bq_212_41, if_pos (by omega)]
    · show vv X 212 168 [some (vP 80), none, some (vI (r : Int)), none, some (vI ((most : Int) - ((most + 1 : Nat) : Int))), none, none, none] [] (am_row (am_row σ 131 f) 132 h) = _
      rw [c1, bq_212_168, if_pos (by omega)]
  · rw [re, hh v hv (by omega), ← fin v hv]
    split
    next q => exact ⟨fun _ => q, fun _ => i10⟩
    next q => exact ⟨fun t => absurd rfl t, fun t => absurd t q⟩
end HM
