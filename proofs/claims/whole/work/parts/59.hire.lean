/-! HIRE: the class's table -/
section HT
variable {X : Nat} {σ T : am_Sg}
section MATH
variable {n nb : Nat} {b w cap : Nat → Nat} {ok : Nat → Nat → Prop} {f : Nat → Int}
theorem Gu_ext {i u : Nat} {k k' : Nat → Nat} (e : ∀ d, d < n → k d = k' d) (h : Gu n w cap ok i u k) : Gu n w cap ok i u k' := by
  obtain ⟨j, h1, h2, h3⟩ := h
  exact ⟨j, fun d hd => by rw [← e d hd]; exact h1 d hd, h2, Gb_ext (fun d hd => by rw [e d hd]) h3⟩
theorem Pos_ext {v : Int} {k k' : Nat → Nat} (e : ∀ d, d < n → k d = k' d) (h : Pos n nb w cap ok v k) : Pos n nb w cap ok v k' := by
  rcases h with h | ⟨i, u, h1, h2, h3, h4⟩
  · exact Or.inl h
  · exact Or.inr ⟨i, u, h1, h2, h3, Gu_ext e h4⟩
theorem vl_inj {k k' : Nat → Nat} {m : Nat} (h : ∀ d, d < m → k d ≤ b d) (h' : ∀ d, d < m → k' d ≤ b d) (e : vl b k m = vl b k' m) : ∀ d, d < m → k d = k' d := fun d hd => by rw [← vl_dig h hd, ← vl_dig h' hd, e]
/-- one state's one edge -/
def Edg (nb : Nat) (b w cap : Nat → Nat) (ok : Nat → Nat → Prop) (f : Nat → Int) (x d : Nat) : Prop := ∀ i u : Nat, f x = ((i * 128 + u : Nat) : Int) → u < 128 → i < nb → ∃ v, WB nb w cap ok i u d v ∧ f (x + str b d) ≤ v
def InvT (n nb : Nat) (b w cap : Nat → Nat) (ok : Nat → Nat → Prop) (x : Nat) (f : Nat → Int) : Prop := f 0 ≤ 0 ∧ (∀ k : Nat → Nat, (∀ d, d < n → k d ≤ b d) → Pos n nb w cap ok (f (vl b k n)) k) ∧ ∀ k : Nat → Nat, (∀ d, d < n → k d ≤ b d) → vl b k n < x → ∀ d, d < n → k d < b d → Edg nb b w cap ok f (vl b k n) d
def InvX (n nb : Nat) (b w cap : Nat → Nat) (ok : Nat → Nat → Prop) (k : Nat → Nat) (d : Nat) (f : Nat → Int) : Prop := InvT n nb b w cap ok (vl b k n) f ∧ ∀ d', d' < d → k d' < b d' → Edg nb b w cap ok f (vl b k n) d'
theorem InvT_tab (h : InvT n nb b w cap ok (str b n) f) : Tab n nb b w cap ok f := ⟨h.1, h.2.1, fun k hk d hd hb i u e1 e2 e3 => h.2.2 k hk (vl_lt hk) d hd hb i u e1 e2 e3⟩
theorem InvT_HG {x : Nat} (hnb : nb ≤ 7) (h : InvT n nb b w cap ok x f) (hx : f x = HG) : InvT n nb b w cap ok (x + 1) f := by
  refine ⟨h.1, h.2.1, fun k hk hl d hd hb => ?_⟩
  by_cases z : vl b k n = x
  · intro i u e1 e2 e3
    rw [z, hx] at e1
    unfold HG at e1
    omega
  · exact h.2.2 k hk (by omega) d hd hb
theorem InvX_0 {k : Nat → Nat} (h : InvT n nb b w cap ok (vl b k n) f) : InvX n nb b w cap ok k 0 f := ⟨h, fun d hd => absurd hd (Nat.not_lt_zero _)⟩
theorem InvX_skip {k : Nat → Nat} {d : Nat} (h : InvX n nb b w cap ok k d f) (hb : ¬ k d < b d) : InvX n nb b w cap ok k (d + 1) f := ⟨h.1, fun d' h1 h2 => by
  by_cases z : d' = d
  · rw [z] at h2; exact absurd h2 hb
  · exact h.2 d' (by omega) h2⟩
theorem InvX_done {k : Nat → Nat} (hk : ∀ d, d < n → k d ≤ b d) (h : InvX n nb b w cap ok k n f) : InvT n nb b w cap ok (vl b k n + 1) f := by
  refine ⟨h.1.1, h.1.2.1, fun k' hk' hl d hd hb => ?_⟩
  by_cases z : vl b k' n = vl b k n
  · have e := vl_inj hk' hk z d hd
    rw [z]
    exact h.2 d hd (by omega)
  · exact h.1.2.2 k' hk' (by omega) d hd hb
theorem Edg_le {f' : Nat → Int} {x d : Nat} (h : Edg nb b w cap ok f x d) (e : f' x = f x) (le : ∀ y, f' y ≤ f y) : Edg nb b w cap ok f' x d := by
  intro i u e1 e2 e3
  rw [e] at e1
  obtain ⟨v, v1, v2⟩ := h i u e1 e2 e3
  exact ⟨v, v1, Int.le_trans (le _) v2⟩
theorem InvX_step {k : Nat → Nat} {d i u : Nat} {v : Int} (hnb : nb ≤ 7) (hc : ∀ i, i < nb → cap i ≤ 99) (hk : ∀ d, d < n → k d ≤ b d) (hd : d < n) (hb : k d < b d) (h : InvX n nb b w cap ok k d f) (e : f (vl b k n) = ((i * 128 + u : Nat) : Int)) (hi : i < nb) (hu : u < 128) (hv : WB nb w cap ok i u d v) : InvX n nb b w cap ok k (d + 1) (up f (vl b k n + str b d) (if v < f (vl b k n + str b d) then v else f (vl b k n + str b d))) := by
  have sp := str_pos (b := b) d
  generalize hf : up f (vl b k n + str b d) (if v < f (vl b k n + str b d) then v else f (vl b k n + str b d)) = f'
  have le : ∀ y, f' y ≤ f y := fun y => by
    rw [← hf, upa]
    by_cases z : y = vl b k n + str b d
    · rw [if_pos z, z]
      split
      next q => exact Int.le_of_lt q
      next => exact Int.le_refl _
    · rw [if_neg z]
      exact Int.le_refl _
  have same : ∀ y, y ≤ vl b k n → f' y = f y := fun y hy => by rw [← hf, upa, if_neg (by omega)]
  have lev : f' (vl b k n + str b d) ≤ v := by
    rw [← hf, upa, if_pos rfl]
    split
    next => exact Int.le_refl _
    next q => omega
  refine ⟨⟨Int.le_trans (le 0) h.1.1, fun k' hk' => ?_, fun k' hk' hl d' hd' hb' => Edg_le (h.1.2.2 k' hk' hl d' hd' hb') (same _ (by omega)) le⟩, fun d' h1 h2 => ?_⟩
  · rw [← hf, upa]
    by_cases z : vl b k' n = vl b k n + str b d
    · rw [if_pos z]
      split
      next q =>
        have hk2 : ∀ x, x < n → upN k d (k d + 1) x ≤ b x := fun x hx => by
          unfold upN
          by_cases y : x = d
          · rw [if_pos y, y]; omega
          · rw [if_neg y]; exact hk x hx
        rw [← vl_inc hd] at z
        have ee := vl_inj hk2 hk' z.symm
        rcases h.1.2.1 k hk with y | ⟨i', u', a1, a2, a3, a4⟩
        · rw [y] at e
          have c1 := hc i hi
          rcases hv with y2 | ⟨i2, b1, b2, b3, b4, b5, b6⟩
          · exact Or.inl y2.1
          · unfold HG at e
            exfalso
            omega
        · have c1 := hc i' a2
          have e1 : i' = i := by omega
          have e2 : u' = u := by omega
          rw [e1, e2] at a4
          exact Pos_ext ee (WB_sound hd (by rw [← e1, ← e2]; exact a3) a4 hv)
      next =>
        rw [← z]
        exact h.1.2.1 k' hk'
    · rw [if_neg z]
      exact h.1.2.1 k' hk'
  · by_cases z : d' = d
    · subst z
      intro i' u' e1 e2 e3
      rw [same _ (Nat.le_refl _)] at e1
      have q1 : i' = i := by omega
      have q2 : u' = u := by omega
      rw [q1, q2]
      exact ⟨v, hv, lev⟩
    · exact Edg_le (h.2 d' (by omega) h2) (same _ (Nat.le_refl _)) le
/-- no more than all bins hold -/
theorem Gb_sum : ∀ {i : Nat} {k : Nat → Nat}, Gb n w cap ok i k → smN (fun d => k d * w d) n ≤ smN cap i
  | 0, k, h => by
    rw [smN_ext (g := fun _ => 0) (fun d hd => by rw [h d hd, Nat.zero_mul]), smN_z]
    exact Nat.zero_le _
  | i + 1, k, ⟨j, h1, h2, h3⟩ => by
    have ih := Gb_sum h3
    have e : ∀ m, m ≤ n → smN (fun d => k d * w d) m = smN (fun d => j d * w d) m + smN (fun d => (k d - j d) * w d) m := by
      intro m
      induction m with
      | zero => intro _; rfl
      | succ m im =>
        intro hm
        show smN (fun d => k d * w d) m + k m * w m = smN (fun d => j d * w d) m + j m * w m + (smN (fun d => (k d - j d) * w d) m + (k m - j m) * w m)
        have q := (h1 m (by omega)).1
        have q2 : k m * w m = j m * w m + (k m - j m) * w m := by
          rw [← Nat.add_mul, show j m + (k m - j m) = k m by omega]
        rw [im (by omega), q2]
        omega
    rw [e n (Nat.le_refl _)]
    show _ ≤ smN cap i + cap i
    omega
end MATH
variable {b : Nat → Int}
theorem c_swallows (H : TOk T) (hT : tl σ = T) (hp : PL T σ 53 b) (hb : BOk T b 6) {z : Int} {r : Nat} (hr : r ≤ 99) {y : Int} : ∃ σ', vcI X 210 [vP 63, vI z, vP 53, vI (r : Int), vI y] σ = some (@ite _ (Gb (nD T) (wN T) (cpB T z r (nB T)) (okC y) (1 + cnB z (nB T)) (bN b)) (Classical.propDecidable _) 1 0, σ') ∧ Fr [63, 64, 65, 66] [] σ σ' := by
  have h4 := H.d4
  have h6 := H.b6
  obtain ⟨σ1, e1, f1, h3, h5⟩ := c_setBins (X := X) (z := z) H hT hr
  have hT1 : tl σ1 = T := (tl_fr f1 rfl).trans hT
  have cl := cnB_le (z := z) (nB T)
  have hc : ∀ i, i < 1 + cnB z (nB T) → cpB T z r (nB T) i ≤ 99 := fun i _ => cpB_bd H hr i (nB T) (Nat.le_refl _)
  have bk : σ1 53 2 = bulkS T b := by rw [f1.get 53 (by decide) rfl]; exact hp.2.2.1
  have bn := bulk_N H (hb.mono (show (6 : Int) ≤ 12 by omega))
  have hnb : 1 + cnB z (nB T) ≤ 7 := by omega
  generalize hcap : cpB T z r (nB T) = cap at *
  generalize hnn : 1 + cnB z (nB T) = nb at *
  by_cases q : bulkS T b ≤ ((smN cap nb : Nat) : Int)
  · have s54 : b4 (σ1 54) = b := by rw [f1.get 54 (by decide) rfl]; exact hp.1
    obtain ⟨g, e2, hg⟩ := c_strides (X := X) H hT1 s54 hb
    have sz := str6 H hb (Nat.le_refl (nD T))
    have szp := str_pos (b := bN b) (nD T)
    have b6 : ∀ d, d < nD T → bN b d ≤ 6 := fun d hd => bN6 hb (by omega)
    have e54 : ∀ d, d < nD T → σ1 54 d = ((bN b d : Nat) : Int) := fun d hd => by
      have := hb.1 d (by omega)
      rw [← b4_in (f := σ1 54) (show d < 4 by omega), s54]
      unfold bN
      omega
    generalize hτ : am_row σ1 66 g = τ at *
    have f2 : Fr [63, 64, 65, 66] [] σ1 τ := by rw [← hτ]; exact Fr.rf.row rfl (by decide)
    -- the whole table
    obtain ⟨f, ef, hf⟩ := lp (fun x (f : Nat → Int) => vv X 210 44 [some (vP 63), none, some (vP 53), none, some (vI y), some (vI ((str (bN b) (nD T) : Nat) : Int)), some (vI (x : Int)), none, none, none] [] (am_row τ 64 f)) (str (bN b) (nD T)) (fun x f => InvT (nD T) nb (bN b) (wN T) cap (okC y) x f) (fun x f hx hh => by
      have fr : Fr [63, 64, 65, 66] [] σ1 (am_row τ 64 f) := f2.row rfl (by decide)
      by_cases u : f x = HG
      · refine ⟨f, ?_, InvT_HG hnb hh u⟩
        show vv X 210 44 [some (vP 63), none, some (vP 53), none, some (vI y), some (vI ((str (bN b) (nD T) : Nat) : Int)), some (vI (x : Int)), none, none, none] [] (am_row τ 64 f) = vv X 210 44 [some (vP 63), none, some (vP 53), none, some (vI y), some (vI ((str (bN b) (nD T) : Nat) : Int)), some (vI ((x + 1 : Nat) : Int)), none, none, none] [] (am_row τ 64 f)
        rw [bq_210_44, if_neg (by omega), if_pos (by omega), tn_nat, re, if_neg (fun q => q u), bq_210_165, w32_s1 (by omega)]
      · obtain ⟨k, hk, ek⟩ := vl_sur hx
        subst ek
        rcases hh.2.1 k hk with w | ⟨i, v0, a1, a2, a3, -⟩
        · exact absurd w u
        · have cv := hc i a2
          obtain ⟨f', ef, hx1, hx2⟩ := lp (fun d (f : Nat → Int) => vv X 210 69 [some (vP 63), none, some (vP 53), none, some (vI y), some (vI ((str (bN b) (nD T) : Nat) : Int)), some (vI ((vl (bN b) k (nD T) : Nat) : Int)), some (vI (d : Int)), none, none] [] (am_row τ 64 f)) (nD T) (fun d f => InvX (nD T) nb (bN b) (wN T) cap (okC y) k d f ∧ f (vl (bN b) k (nD T)) = ((i * 128 + v0 : Nat) : Int)) (fun d f hd hh => by
            obtain ⟨ih, ie⟩ := hh
            have fr : Fr [63, 64, 65, 66] [] σ1 (am_row τ 64 f) := f2.row rfl (by decide)
            have hT' : tl (am_row τ 64 f) = T := (tl_fr fr rfl).trans hT1
            have r66 : (am_row τ 64 f) 66 d = ((str (bN b) d : Nat) : Int) := by rw [rn _ (show ¬ (66 : Nat) = 64 by decide), ← hτ, re]; exact hg d hd
            have r54 : (am_row τ 64 f) 54 d = ((bN b d : Nat) : Int) := by rw [fr.get 54 (by decide) rfl]; exact e54 d hd
            have sd := str_pos (b := bN b) d
            have bd := b6 d hd
            have dv : am_rem (am_div ((vl (bN b) k (nD T) : Nat) : Int) ((str (bN b) d : Nat) : Int)) (((bN b d : Nat) : Int) + 1) = ((k d : Nat) : Int) := by
              rw [am_div_nat (by omega), show (((bN b d : Nat) : Int) + 1) = ((bN b d + 1 : Nat) : Int) from rfl, am_rem_nat (by have := Nat.div_le_self (vl (bN b) k (nD T)) (str (bN b) d); omega), vl_dig hk hd]
            have kd := hk d hd
            have head : vv X 210 69 [some (vP 63), none, some (vP 53), none, some (vI y), some (vI ((str (bN b) (nD T) : Nat) : Int)), some (vI ((vl (bN b) k (nD T) : Nat) : Int)), some (vI (d : Int)), none, none] [] (am_row τ 64 f) = if ((bN b d : Nat) : Int) ≤ ((k d : Nat) : Int) then vv X 210 159 [some (vP 63), none, some (vP 53), none, some (vI y), some (vI ((str (bN b) (nD T) : Nat) : Int)), some (vI ((vl (bN b) k (nD T) : Nat) : Int)), some (vI (d : Int)), none, none] [] (am_row τ 64 f) else (vcI X 263 [vP 63, vI (f (vl (bN b) k (nD T))), vI (d : Int), vI y] (am_row τ 64 f)).bind fun q2 => if 0 ≤ (w32 (((vl (bN b) k (nD T) : Nat) : Int) + ((str (bN b) d : Nat) : Int))) ∧ (w32 (((vl (bN b) k (nD T) : Nat) : Int) + ((str (bN b) d : Nat) : Int))) < 2401 then vv X 210 159 [some (vP 63), none, some (vP 53), none, some (vI y), some (vI ((str (bN b) (nD T) : Nat) : Int)), some (vI ((vl (bN b) k (nD T) : Nat) : Int)), some (vI (d : Int)), none, none] [] (am_upd q2.2 64 (w32 (((vl (bN b) k (nD T) : Nat) : Int) + ((str (bN b) d : Nat) : Int))).toNat (if q2.1 < (q2.2 64 (w32 (((vl (bN b) k (nD T) : Nat) : Int) + ((str (bN b) d : Nat) : Int))).toNat) then q2.1 else q2.2 64 (w32 (((vl (bN b) k (nD T) : Nat) : Int) + ((str (bN b) d : Nat) : Int))).toNat)) else none := by
              rw [bq_210_69, g_dishes, bsome]
              dsimp +instances only
              rw [tl_at hT' (k := 8) (by omega), H.d0, if_neg (by omega), if_pos (by omega), tn_nat, tn_nat, r66, r54, w32_id (x := ((bN b d : Nat) : Int) + 1) (by omega) (by omega), if_neg (by omega), if_neg (by omega), dv, re]
              by_cases p : ((bN b d : Nat) : Int) ≤ ((k d : Nat) : Int)
              · rw [if_pos p, if_pos p]
              · rw [if_neg p, if_neg p, if_pos (by omega)]
            by_cases p : k d < bN b d
            · obtain ⟨v, ev, hv⟩ := c_bite (X := X) (σ := am_row τ 64 f) H hT' hnb hc (by rw [rn _ (show ¬ (63 : Nat) = 64 by decide), ← hτ, rn _ (show ¬ (63 : Nat) = 66 by decide)]; exact h3) (fun i hi => by rw [rn _ (show ¬ (65 : Nat) = 64 by decide), ← hτ, rn _ (show ¬ (65 : Nat) = 66 by decide)]; exact h5 i hi) (y := y) hd a2 (show v0 < 128 by omega)
              have hk2 : ∀ x, x < nD T → upN k d (k d + 1) x ≤ bN b x := fun x hx => by
                unfold upN
                by_cases y : x = d
                · rw [if_pos y, y]; omega
                · rw [if_neg y]; exact hk x hx
              have lt2 := vl_lt hk2
              rw [vl_inc hd] at lt2
              refine ⟨up f (vl (bN b) k (nD T) + str (bN b) d) (if v < f (vl (bN b) k (nD T) + str (bN b) d) then v else f (vl (bN b) k (nD T) + str (bN b) d)), ?_, InvX_step hnb hc hk hd p ih ie a2 (by omega) hv, ?_⟩
              · show vv X 210 69 [some (vP 63), none, some (vP 53), none, some (vI y), some (vI ((str (bN b) (nD T) : Nat) : Int)), some (vI ((vl (bN b) k (nD T) : Nat) : Int)), some (vI (d : Int)), none, none] [] (am_row τ 64 f) = vv X 210 69 [some (vP 63), none, some (vP 53), none, some (vI y), some (vI ((str (bN b) (nD T) : Nat) : Int)), some (vI ((vl (bN b) k (nD T) : Nat) : Int)), some (vI ((d + 1 : Nat) : Int)), none, none] [] _
                rw [head, if_neg (by omega), ie, ev, bsome]
                dsimp +instances only
                rw [w32_id (x := ((vl (bN b) k (nD T) : Nat) : Int) + ((str (bN b) d : Nat) : Int)) (by omega) (by omega), if_pos (by omega), show (((vl (bN b) k (nD T) : Nat) : Int) + ((str (bN b) d : Nat) : Int)).toNat = vl (bN b) k (nD T) + str (bN b) d by omega, re, ur, bq_210_159, w32_s1 (by omega)]
              · rw [upa, if_neg (by omega)]
                exact ie
            · refine ⟨f, ?_, InvX_skip ih p, ie⟩
              show vv X 210 69 [some (vP 63), none, some (vP 53), none, some (vI y), some (vI ((str (bN b) (nD T) : Nat) : Int)), some (vI ((vl (bN b) k (nD T) : Nat) : Int)), some (vI (d : Int)), none, none] [] (am_row τ 64 f) = vv X 210 69 [some (vP 63), none, some (vP 53), none, some (vI y), some (vI ((str (bN b) (nD T) : Nat) : Int)), some (vI ((vl (bN b) k (nD T) : Nat) : Int)), some (vI ((d + 1 : Nat) : Int)), none, none] [] _
              rw [head, if_pos (by omega), bq_210_159, w32_s1 (by omega)]) (nD T) 0 f (by omega) ⟨InvX_0 hh, a1⟩
          refine ⟨f', ?_, InvX_done hk hx1⟩
          show vv X 210 44 [some (vP 63), none, some (vP 53), none, some (vI y), some (vI ((str (bN b) (nD T) : Nat) : Int)), some (vI ((vl (bN b) k (nD T) : Nat) : Int)), none, none, none] [] (am_row τ 64 f) = vv X 210 44 [some (vP 63), none, some (vP 53), none, some (vI y), some (vI ((str (bN b) (nD T) : Nat) : Int)), some (vI ((vl (bN b) k (nD T) + 1 : Nat) : Int)), none, none, none] [] (am_row τ 64 f')
          rw [bq_210_44, if_neg (by omega), if_pos (by omega), tn_nat, re, if_pos (show ¬ f (vl (bN b) k (nD T)) = 1000000000 from u)]
          refine Eq.trans ef ?_
          show vv X 210 69 [some (vP 63), none, some (vP 53), none, some (vI y), some (vI ((str (bN b) (nD T) : Nat) : Int)), some (vI ((vl (bN b) k (nD T) : Nat) : Int)), some (vI (nD T : Int)), none, none] [] (am_row τ 64 f') = _
          have fr' : Fr [63, 64, 65, 66] [] σ1 (am_row τ 64 f') := f2.row rfl (by decide)
          have hT' : tl (am_row τ 64 f') = T := (tl_fr fr' rfl).trans hT1
          rw [bq_210_69, g_dishes, bsome]
          dsimp +instances only
          rw [tl_at hT' (k := 8) (by omega), H.d0, if_pos (Int.le_refl _), bq_210_165, w32_s1 (by omega)]) (str (bN b) (nD T)) 0 (up (fun j => if 0 ≤ j ∧ j < str (bN b) (nD T) then 1000000000 else τ 64 j) 0 0) (by omega) ⟨by rw [upa, if_pos rfl]; exact Int.le_refl _, fun k hk => by
        rw [upa]
        by_cases u : vl (bN b) k (nD T) = 0
        · rw [if_pos u]
          have nb0 : 0 < nb := by omega
          refine Or.inr ⟨0, 0, rfl, nb0, Nat.zero_le _, fun _ => 0, fun d _ => ⟨Nat.zero_le _, Or.inl rfl⟩, ?_, ?_⟩
          · rw [smN_ext (g := fun _ => 0) (fun d _ => Nat.zero_mul _), smN_z]
            exact Nat.le_refl _
          · intro d hd
            have e0 : vl (bN b) (fun _ => 0) (nD T) = 0 := by
              unfold vl
              rw [smN_ext (g := fun _ => 0) (fun d _ => Nat.zero_mul _), smN_z]
            have := vl_inj hk (fun d _ => Nat.zero_le _) (u.trans e0.symm) d hd
            dsimp only
            omega
        · rw [if_neg u, if_pos ⟨Nat.zero_le _, vl_lt hk⟩]
          exact Or.inl rfl, fun k hk hl => absurd hl (Nat.not_lt_zero _)⟩
    have fin := Tab_iff hc hnb (by omega) (InvT_tab hf)
    have last : vl (bN b) (bN b) (nD T) = str (bN b) (nD T) - 1 := by
      have e : ∀ m, vl (bN b) (bN b) m + 1 = str (bN b) m := by
        intro m
        induction m with
        | zero => rfl
        | succ m im => rw [vl_s, str_s, Nat.mul_add, Nat.mul_one, Nat.mul_comm (str (bN b) m)]; omega
      have := e (nD T)
      omega
    refine ⟨am_row τ 64 f, vI_of ((bq_210_0 X _ _ _ σ).trans ?_) rfl, (f1.mono rfl rfl).tr (f2.row rfl (by decide))⟩
    rw [e1, bsome]
    dsimp +instances only
    rw [bk, if_pos q, e2, bsome]
    dsimp +instances only
    have ff := fr_64 (X := X) (σ := τ) (a := 0) (b := str (bN b) (nD T)) (x := 1000000000) (Nat.zero_le _) sz
    rw [show vI (0 : Int) = vI ((0 : Nat) : Int) from rfl, ff, bsome, ur]
    refine Eq.trans ef ?_
    show vv X 210 44 [some (vP 63), none, some (vP 53), none, some (vI y), some (vI ((str (bN b) (nD T) : Nat) : Int)), some (vI ((str (bN b) (nD T) : Nat) : Int)), none, none, none] [] (am_row τ 64 f) = _
    rw [bq_210_44, if_pos (Int.le_refl _), w32_id (by omega) (by omega), if_pos (by omega), show (((str (bN b) (nD T) : Nat) : Int) - 1).toNat = vl (bN b) (bN b) (nD T) by omega, re]
    by_cases u : f (vl (bN b) (bN b) (nD T)) = HG
    · rw [if_pos (show f (vl (bN b) (bN b) (nD T)) = 1000000000 from u), if_neg (fin.mp u), bq_210_190, if_pos okZ0]
    · rw [if_neg (show ¬ f (vl (bN b) (bN b) (nD T)) = 1000000000 from u), if_pos (Classical.byContradiction fun x => u (fin.mpr x)), bq_210_190, if_pos okZ1]
  · refine ⟨σ1, vI_of ((bq_210_0 X _ _ _ σ).trans ?_) rfl, f1.mono rfl rfl⟩
    rw [e1, bsome]
    dsimp +instances only
    rw [bk, if_neg q, if_neg (fun x => by
      have := Gb_sum x
      rw [bn] at q
      omega)]
end HT
