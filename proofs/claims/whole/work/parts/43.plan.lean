/-! PLANS: what a plan is worth, purely -/
def NR : Int := -1000000000
def RF : Int := -1000000001
/-- what it is worth that he passes, with so many more ahead; RF if he may not -/
noncomputable def vlS (T : am_Sg) (F : LF) (sc : Nat → Int) (g : Nat) (w : Int) (m a : Nat) : Int := if whyS T sc m (bts T F sc m g (w32 (sc (42 + g) + (a : Int)))) (¬ (0 : Int) = 0) = 0 then (if w = 2 then gainS T (bts T F sc m g (w32 (sc (42 + g) + (a : Int)))) else if w = 1 then -(bulkS T (bts T F sc m g (w32 (sc (42 + g) + (a : Int))))) else 0) else RF
def bcN (p : Nat) : Nat := (bc (p : Int) 8).toNat
def mx (a b : Int) : Int := if a < b then b else a
noncomputable def plM (v : Nat → Nat → Int) (s p : Nat) (W : Nat → Int) : Nat → Nat → Int
  | 0 => W
  | m + 1 => if bt1 (s : Int) m = 1 ∧ bt1 (p : Int) m = 0 ∧ ¬ v m (bcN p) = RF then up (plM v s p W m) (p + 2 ^ m) (mx (plM v s p W m (p + 2 ^ m)) (W p + v m (bcN p))) else plM v s p W m
noncomputable def plP (v : Nat → Nat → Int) (s n : Nat) (W : Nat → Int) : Nat → Nat → Int
  | 0 => W
  | p + 1 => @ite _ (subS p s ∧ ¬ plP v s n W p p = NR) (Classical.propDecidable _) (plM v s p (plP v s n W p) n) (plP v s n W p)
def SG (w x : Int) : Prop := (w = 0 → x = 0) ∧ (w = 1 → x ≤ 0) ∧ (w = 2 → 0 ≤ x)
/-! worths as they may be -/
def PW (s : Nat) (w : Int) (W : Nat → Int) : Prop := ∀ j, j < 256 → W j = NR ∨ ((-(4752 * bc (j : Int) 8) ≤ W j ∧ W j ≤ 4752 * bc (j : Int) 8) ∧ subS j s ∧ SG w (W j))
def VOk (v : Nat → Nat → Int) (w : Int) : Prop := ∀ m a, v m a = RF ∨ ((-4752 ≤ v m a ∧ v m a ≤ 4752) ∧ SG w (v m a))
section PLN
variable {v : Nat → Nat → Int} {s n p : Nat} {w : Int} {W : Nat → Int}
theorem bcN_c (h : p < 256) : ((bcN p : Nat) : Int) = bc (p : Int) 8 ∧ bcN p ≤ 8 := by
  have := bc_bd h 8 (by omega)
  unfold bcN
  omega
theorem plM_p (h : ∀ m, bt1 (p : Int) m = 0 → True) : ∀ m, plM v s p W m p = W p
  | 0 => rfl
  | m + 1 => by
    unfold plM
    split
    · rw [upn (by have : 0 < 2 ^ m := Nat.pow_pos (by omega); omega)]
      exact plM_p h m
    · exact plM_p h m
theorem plM_ok (hp : p < 256) (hs : s < 256) (hv : VOk v w) (hW : PW s w W) (hr : ¬ W p = NR) : ∀ m, m ≤ 8 → PW s w (plM v s p W m)
  | 0, _ => hW
  | m + 1, hm => by
    have ih := plM_ok hp hs hv hW hr m (by omega)
    unfold plM
    split
    next h =>
      obtain ⟨h1, h2, h3⟩ := h
      have o := orp0 hp (show m < 8 by omega) h2
      have sb := subS_up hp hs (show m < 8 by omega) h2
      have wp := hW p hp
      have wv := hv m (bcN p)
      intro j hj
      rw [upa]
      by_cases z : j = p + 2 ^ m
      · rw [if_pos z]
        subst z
        have wj := ih _ hj
        rw [o.2.2] at wj ⊢
        have wp' : (-(4752 * bc (p : Int) 8) ≤ W p ∧ W p ≤ 4752 * bc (p : Int) 8) ∧ subS p s ∧ SG w (W p) := by
          rcases wp with y | y
          · exact absurd y hr
          · exact y
        have wv' : (-4752 ≤ v m (bcN p) ∧ v m (bcN p) ≤ 4752) ∧ SG w (v m (bcN p)) := by
          rcases wv with y | y
          · exact absurd y h3
          · exact y
        have bp := bc_bd hp 8 (by omega)
        have sub : subS (p + 2 ^ m) s := sb.mpr ⟨wp'.2.1, h1⟩
        right
        generalize plM v s p W m (p + 2 ^ m) = x at wj ⊢
        generalize bc (p : Int) 8 = c at *
        unfold NR at wj
        unfold mx
        by_cases y : x < W p + v m (bcN p)
        · rw [if_pos y]
          exact ⟨by omega, sub, fun q => by have := wp'.2.2.1 q; have := wv'.2.1 q; omega, fun q => by have := wp'.2.2.2.1 q; have := wv'.2.2.1 q; omega, fun q => by have := wp'.2.2.2.2 q; have := wv'.2.2.2 q; omega⟩
        · rw [if_neg y]
          rcases wj with u | u
          · omega
          · exact ⟨u.1, sub, u.2.2⟩
      · rw [if_neg z]
        exact ih j hj
    next => exact ih
theorem plM_mono (hp : p < 256) (hs : s < 256) (hv : VOk v w) (hW : PW s w W) (hr : ¬ W p = NR) {j : Nat} (hj : ¬ W j = NR) (hj2 : j < 256) : ∀ m, m ≤ 8 → ¬ plM v s p W m j = NR
  | 0, _ => hj
  | m + 1, hm => by
    have ih := plM_mono hp hs hv hW hr hj hj2 m (by omega)
    have k := plM_ok hp hs hv hW hr m (by omega) j hj2
    have bp := bc_bd hj2 8 (by omega)
    unfold plM
    split
    · rw [upa]
      split
      next z =>
        rw [← z]
        generalize plM v s p W m j = x at *
        unfold mx
        unfold NR at *
        split <;> omega
      · exact ih
    · exact ih
theorem plP_ok (hs : s < 256) (hn : n ≤ 8) (hv : VOk v w) (hW : PW s w W) : ∀ p, p ≤ 256 → PW s w (plP v s n W p)
  | 0, _ => hW
  | p + 1, hp => by
    have ih := plP_ok hs hn hv hW p (by omega)
    unfold plP
    split
    next h => exact plM_ok (by omega) hs hv ih h.2 n hn
    next => exact ih
theorem plP_mono (hs : s < 256) (hn : n ≤ 8) (hv : VOk v w) (hW : PW s w W) {j : Nat} (hj : ¬ W j = NR) (hj2 : j < 256) : ∀ p, p ≤ 256 → ¬ plP v s n W p j = NR
  | 0, _ => hj
  | p + 1, hp => by
    have ih := plP_mono hs hn hv hW hj hj2 p (by omega)
    unfold plP
    split
    next h => exact plM_mono (by omega) hs hv (plP_ok hs hn hv hW p (by omega)) h.2 ih hj2 n hn
    next => exact ih
theorem plM_self (hs : s < 256) : ∀ m, m ≤ 8 → plM v s s W m = W
  | 0, _ => rfl
  | m + 1, hm => by
    unfold plM
    rw [if_neg (fun q => by have := q.1; have := q.2.1; omega), plM_self hs m (by omega)]
theorem plP_s (v : Nat → Nat → Int) (s n : Nat) (W : Nat → Int) (p : Nat) : plP v s n W (p + 1) = @ite _ (subS p s ∧ ¬ plP v s n W p p = NR) (Classical.propDecidable _) (plM v s p (plP v s n W p) n) (plP v s n W p) := rfl
/-- nothing comes behind the set itself -/
theorem plP_end (hs : s < 256) (hn : n ≤ 8) : ∀ k, s + k ≤ 256 → plP v s n W (s + k) = plP v s n W s
  | 0, _ => rfl
  | k + 1, hk => by
    have ih := plP_end hs hn k (by omega)
    rw [show s + (k + 1) = s + k + 1 by omega, plP_s]
    split
    next h =>
      have le := subS_le (show s + k < 256 by omega) hs h.1
      have : k = 0 := by omega
      subst this
      exact plM_self hs n hn
    next => exact ih
end PLN
