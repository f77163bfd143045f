/-! CALL: hire -/
section HQ
variable {X l m : Nat} {σ T : am_Sg} {b sc : Nat → Int}
theorem feeS_6 (H : TOk T) {s : Nat} (hs6 : s < 2 ^ nB T) {c : Nat} (hc : c ≤ 6) : 0 ≤ feeS T (s : Int) c ∧ feeS T (s : Int) c ≤ 594 ∧ (nB T ≤ c → feeS T (s : Int) c = feeS T (s : Int) (nB T)) := by
  have h6 := H.b6
  have p6 := pow6 h6
  by_cases q : c ≤ nB T
  · have := feeS_bd H (show s < 64 by omega) c q
    exact ⟨this.1, by omega, fun x => by rw [show c = nB T by omega]⟩
  · have e := feeS_tail (T := T) (z := (s : Int)) (c := nB T) (c - nB T) (fun e h1 h2 => bit6_f ⟨nB T, by omega⟩ ⟨s, by omega⟩ hs6 ⟨e, by omega⟩ h1)
    rw [show nB T + (c - nB T) = c by omega] at e
    have := feeS_bd H (show s < 64 by omega) (nB T) (Nat.le_refl _)
    rw [e]
    exact ⟨this.1, by omega, fun _ => rfl⟩
theorem m_hiresL (H : TOk T) (K : TM σ T l) (hb : BOk T b 12) (hs : rs (σ 128) = sc) (S : ScOk T sc) (hm : m < nM T) : ∃ v τ, vv X 127 64 [some (vP 80), some (vI (m : Int)), none, some (vI ((mostN (bN b) : Nat) : Int)), some (vI (-2)), some (vI 0), none, none] [] σ = some (some (vI v), τ) ∧ Fr [131, 132] [71] σ τ ∧ ((v = -2 ∧ ∀ s, s < 2 ^ nB T → ¬ GdM T sc b m s) ∨ ∃ s : Nat, v = (s : Int) ∧ τ 80 71 = feeS T (s : Int) (nB T) ∧ Fst (GdM T sc b m) (fun s => feeS T (s : Int) (nB T)) (2 ^ nB T) s) := by
  have h6 := H.b6
  have p6 := pow6 h6
  have l1 := K.l1
  have sh : am_shl 1 ((nB T : Nat) : Int) = ((2 ^ nB T : Nat) : Int) := shl1 (by omega)
  have top : ∀ (τ : am_Sg) (x4 x5 : Int), Fr [131, 132] [71] σ τ → vv X 127 64 [some (vP 80), some (vI (m : Int)), none, some (vI ((mostN (bN b) : Nat) : Int)), some (vI x4), some (vI x5), none, none] [] τ = if ((2 ^ nB T : Nat) : Int) ≤ x5 then some (some (vI x4), τ) else vv X 127 86 [some (vP 80), some (vI (m : Int)), none, some (vI ((mostN (bN b) : Nat) : Int)), some (vI x4), some (vI x5), some (vI 0), some (vI 0)] [] τ := fun τ x4 x5 f => by
    have Kτ := K.fr f rfl
    rw [bq_127_64, Kτ.l0, if_pos (by omega), tn_nat, Kτ.nb, H.b0, sh]
  obtain ⟨p, ep, fp, hp⟩ := lp (fun s (p : Int × am_Sg) => vv X 127 64 [some (vP 80), some (vI (m : Int)), none, some (vI ((mostN (bN b) : Nat) : Int)), some (vI p.1), some (vI (s : Int)), none, none] [] p.2) (2 ^ nB T) (fun s p => Fr [131, 132] [71] σ p.2 ∧ ((p.1 = -2 ∧ ∀ t, t < s → ¬ GdM T sc b m t) ∨ ∃ t : Nat, p.1 = (t : Int) ∧ p.2 80 71 = feeS T (t : Int) (nB T) ∧ Fst (GdM T sc b m) (fun s => feeS T (s : Int) (nB T)) s t)) (fun s p hs' hh => by
    obtain ⟨ff, hh⟩ := hh
    have Kp := K.fr ff rfl
    have sp : rs (p.2 128) = sc := by rw [ff.get 128 (by decide) rfl]; exact hs
    have f6 := (feeS_6 H hs' (Nat.le_refl 6)).2.2 h6
    obtain ⟨_, e86, -⟩ := lp (fun c (_ : Unit) => vv X 127 86 [some (vP 80), some (vI (m : Int)), none, some (vI ((mostN (bN b) : Nat) : Int)), some (vI p.1), some (vI (s : Int)), some (vI (feeS T (s : Int) c)), some (vI (c : Int))] [] p.2) 6 (fun _ _ => True) (fun c _ hc _ => by
      refine ⟨(), ?_, trivial⟩
      show vv X 127 86 [some (vP 80), some (vI (m : Int)), none, some (vI ((mostN (bN b) : Nat) : Int)), some (vI p.1), some (vI (s : Int)), some (vI (feeS T (s : Int) c)), some (vI (c : Int))] [] p.2 = vv X 127 86 [some (vP 80), some (vI (m : Int)), none, some (vI ((mostN (bN b) : Nat) : Int)), some (vI p.1), some (vI (s : Int)), some (vI (feeS T (s : Int) (c + 1))), some (vI ((c + 1 : Nat) : Int))] [] p.2
      have fb := feeS_6 H hs' (show c ≤ 6 by omega)
      rcases bt01 (show s < 256 by omega) (show c < 8 by omega) with z | z
      · rw [bq_127_86, if_neg (by omega), if_pos (show ¬ am_and (am_shr (s : Int) (c : Int)) 1 = 1 by show ¬ bt1 (s : Int) c = 1; omega), bq_127_124, w32_s1 (by omega), feeS_s, z, Int.zero_mul, Int.add_zero]
      · have cB : c < nB T := Classical.byContradiction fun q => by
          have := bit6_f ⟨nB T, by omega⟩ ⟨s, by omega⟩ hs' ⟨c, hc⟩ (by show nB T ≤ c; omega)
          have : bt1 (s : Int) c = 0 := this
          omega
        have tb := H.2.2.2.2.2.2.1 c cB
        have i6 : w32 (w32 (6 * p.2 80 18) + (c : Int)) = ((6 * l + c : Nat) : Int) := by
          rw [Kp.l0, w32_id (x := 6 * (l : Int)) (by omega) (by omega), w32_id (by omega) (by omega)]
          omega
        rw [bq_127_86, if_neg (by omega), if_neg (show ¬ ¬ am_and (am_shr (s : Int) (c : Int)) 1 = 1 from fun x => x z), i6, if_pos (by omega), tn_nat, (Kp.bi c cB).2, bq_127_124, w32_s1 (by omega), feeS_s, z, w32_id (by omega) (by omega), Int.one_mul]) 6 0 () (by omega) trivial
    have head : vv X 127 64 [some (vP 80), some (vI (m : Int)), none, some (vI ((mostN (bN b) : Nat) : Int)), some (vI p.1), some (vI (s : Int)), none, none] [] p.2 = if p.1 < 0 ∨ feeS T (s : Int) (nB T) < p.2 80 71 then vv X 127 147 [some (vP 80), some (vI (m : Int)), none, some (vI ((mostN (bN b) : Nat) : Int)), some (vI p.1), some (vI (s : Int)), some (vI (feeS T (s : Int) (nB T))), none] [] p.2 else vv X 127 266 [some (vP 80), some (vI (m : Int)), none, some (vI ((mostN (bN b) : Nat) : Int)), some (vI p.1), some (vI (s : Int)), none, none] [] p.2 := by
      rw [top _ _ _ ff, if_neg (by omega)]
      refine Eq.trans e86 ?_
      show vv X 127 86 [some (vP 80), some (vI (m : Int)), none, some (vI ((mostN (bN b) : Nat) : Int)), some (vI p.1), some (vI (s : Int)), some (vI (feeS T (s : Int) 6)), some (vI 6)] [] p.2 = _
      rw [f6, bq_127_86, if_pos (by omega)]
      by_cases z : p.1 < 0
      · rw [if_pos z, if_pos (Or.inl z)]
      · rw [if_neg z]
        by_cases y : feeS T (s : Int) (nB T) < p.2 80 71
        · rw [if_pos y, if_pos (Or.inr y)]
        · rw [if_neg y, if_neg (fun x => x.elim z y)]
    have nx : ∀ (x4 : Int) (τ : am_Sg), vv X 127 266 [some (vP 80), some (vI (m : Int)), none, some (vI ((mostN (bN b) : Nat) : Int)), some (vI x4), some (vI (s : Int)), none, none] [] τ = vv X 127 64 [some (vP 80), some (vI (m : Int)), none, some (vI ((mostN (bN b) : Nat) : Int)), some (vI x4), some (vI ((s + 1 : Nat) : Int)), none, none] [] τ := fun x4 τ => by rw [bq_127_266, w32_s1 (by omega)]
    by_cases z : p.1 < 0 ∨ feeS T (s : Int) (nB T) < p.2 80 71
    · obtain ⟨τ, fτ, eτ⟩ := m_set (X := X) (σ := p.2) (x4 := p.1) (x6 := feeS T (s : Int) (nB T)) H Kp hb sp S hm hs'
      have ffτ : Fr [131, 132] [71] σ τ := ff.tr (fτ.mono rfl rfl)
      by_cases g : GdM T sc b m s
      · refine ⟨((s : Int), am_upd τ 80 71 (feeS T (s : Int) (nB T))), ?_, ffτ.upf rfl, Or.inr ⟨s, rfl, ?_, Fst.take g (fun t ht hg => ?_)⟩⟩
        · refine head.trans ?_
          rw [if_pos z, eτ, if_pos g]
          exact nx _ _
        · show am_upd τ 80 71 (feeS T (s : Int) (nB T)) 80 71 = _
          rw [ue, upa, if_pos rfl]
        · show feeS T (s : Int) (nB T) < feeS T (t : Int) (nB T)
          rcases hh with u | ⟨t', t1, t2, t3⟩
          · exact absurd hg (u.2 t ht)
          · have : feeS T (t' : Int) (nB T) ≤ feeS T (t : Int) (nB T) := t3.2.2.1 t ht hg
            omega
      · refine ⟨(p.1, τ), ?_, ffτ, ?_⟩
        · refine head.trans ?_
          rw [if_pos z, eτ, if_neg g]
          exact nx _ _
        · rcases hh with u | ⟨t, t1, t2, t3⟩
          · refine Or.inl ⟨u.1, fun t ht => ?_⟩
            by_cases e : t = s
            · rw [e]; exact g
            · exact u.2 t (by omega)
          · refine Or.inr ⟨t, t1, ?_, t3.skip (Or.inr g)⟩
            show τ 80 71 = _
            rw [fτ.fld 71 rfl]
            exact t2
    · refine ⟨p, ?_, ff, ?_⟩
      · refine head.trans ?_
        rw [if_neg z]
        exact nx _ _
      · rcases hh with u | ⟨t, t1, t2, t3⟩
        · exact absurd (Or.inl (by omega)) z
        · exact Or.inr ⟨t, t1, t2, t3.skip (Or.inl (by
            show feeS T (t : Int) (nB T) ≤ feeS T (s : Int) (nB T)
            rw [← t2]
            exact Int.not_lt.mp (fun x => z (Or.inr x))))⟩) (2 ^ nB T) 0 (-2, σ) (by omega) ⟨Fr.rf, Or.inl ⟨rfl, fun t ht => absurd ht (Nat.not_lt_zero _)⟩⟩
  refine ⟨p.1, p.2, Eq.trans ep ?_, fp, hp⟩
  show vv X 127 64 [some (vP 80), some (vI (m : Int)), none, some (vI ((mostN (bN b) : Nat) : Int)), some (vI p.1), some (vI ((2 ^ nB T : Nat) : Int)), none, none] [] p.2 = _
  rw [top _ _ _ fp, if_pos (Int.le_refl _)]
/-- both know the same bellies -/
theorem Gd_iff (H : TOk T) (S : ScOk T sc) (hm : m < nM T) {R : Nat} (hR : (@ite Int (shut T sc m) (Classical.propDecidable _) 0 (T 13 m - sc m)) = (R : Int)) (s : Nat) : GdC T b (T 17 m) R s ↔ GdM T sc b m s := by
  have sm := S.1 m hm
  refine GU_congr (fun k => ?_) (nB T) (bN b)
  by_cases z : shut T sc m
  · rw [if_pos z] at hR
    constructor
    · rintro ⟨h1, h2⟩
      have k0 : ∀ d, d < nD T → k d = 0 := fun d hd => by
        have := smN_ge (f := fun d => k d * wN T d) d hd
        have w1 : 1 ≤ wN T d := by have := H.di d hd; unfold wN; omega
        rcases Nat.mul_eq_zero.mp (show k d * wN T d = 0 by omega) with y | y
        · exact y
        · omega
      exact ⟨fun d hd => Or.inl (k0 d hd), by omega⟩
    · rintro ⟨h1, h2⟩
      have k0 : ∀ d, d < nD T → k d = 0 := fun d hd => by
        rcases h1 d hd with y | y
        · exact y
        · exact absurd z y.1
      refine ⟨fun d hd => Or.inl (k0 d hd), ?_⟩
      rw [smN_ext (g := fun _ => 0) (fun d hd => by rw [k0 d hd, Nat.zero_mul]), smN_z]
      exact Nat.zero_le _
  · rw [if_neg z] at hR
    have e : (T 13 m - sc m).toNat = R := by omega
    unfold manC manM okS
    rw [e]
    refine and_congr (forall_congr' fun d => forall_congr' fun hd => ?_) Iff.rfl
    exact ⟨fun q => q.elim Or.inl (fun q => Or.inr ⟨z, q⟩), fun q => q.elim Or.inl (fun q => Or.inr q.2)⟩
theorem q_hire (h : Rel X σ) (x y z : Int) : Qc X 27 28 [vI x, vI y, vI z] σ := by
  obtain ⟨T, l, F, R, hN, -⟩ := id h
  have hT := R.1
  have H := R.2.1
  have K := R.2.2.1
  have hF := R.2.2.2.2.2
  have h8 := H.m8
  have h6 := H.b6
  have p6 := pow6 h6
  by_cases hm : 0 ≤ x ∧ x < (nM T : Int)
  · by_cases hg : 0 ≤ y ∧ y ≤ 1
    · by_cases hz : 0 ≤ z ∧ z ≤ 1
      · obtain ⟨m, rfl, hm'⟩ := nat_of hm
        obtain ⟨g, rfl, hg'⟩ := nat_of (n := 2) (show 0 ≤ y ∧ y < ((2 : Nat) : Int) by omega)
        obtain ⟨σ1, e1, f1, p1⟩ := c_layN R hN hm' hg'
        have R1 := R.fr f1 rfl rfl rfl
        have s1 : rs (σ1 50) = rs (σ 127) := by rw [f1.get 50 (by decide) rfl, hN.1]
        have hb6 := btN_ok (T := T) hF (sc := rs (σ 127)) (m := m) (g := g)
        have hb := hb6.mono (show (6 : Int) ≤ 12 by omega)
        have SN := hN.2
        -- the reference, from any state that the class may leave
        have ref : ∀ τ : am_Sg, Fr [53, 54, 58, 59, 63, 64, 65, 66] [] σ τ → ∃ τ3, TM τ3 T l ∧ rs (τ3 128) = rs (σ 127) ∧ b4 (τ3 129) = btN T F (rs (σ 127)) m g ∧ Fr scr scj τ τ3 ∧ vv X 127 0 [some (vP 80), some (vI (m : Int)), some (vI (g : Int)), none, none, none, none, none] [] τ = (vcI X 129 [vP 80] τ3).bind fun q3 => if ¬ q3.1 = 0 then (vcI X 211 [vI (q3.2 129 0), vI (q3.2 129 1), vI (q3.2 129 2), vI (q3.2 129 3)] q3.2).bind fun q4 => vv X 127 64 [some (vP 80), some (vI (m : Int)), none, some (vI q4.1), some (vI (-2)), some (vI 0), none, none] [] q4.2 else some (some (vI (-2)), q3.2) := by
          intro τ fτ
          have Rτ := R.fr fτ rfl rfl rfl
          obtain ⟨τ2, g2, q2, w2⟩ := m_takes (X := X) (σ := τ)
          have R2 := Rτ.fr q2 rfl rfl rfl
          have es : rs (τ2 128) = rs (σ 127) := by rw [w2, fτ.get 127 (by decide) rfl]
          obtain ⟨τ3, g3, q3, w3⟩ := m_tollsN R2 (by rw [es]; exact hN.2) hm' hg'
          rw [es] at w3
          have R3 := R2.fr q3 rfl rfl rfl
          refine ⟨τ3, R3.2.2.1, by rw [q3.get 128 (by decide) rfl]; exact es, w3, (q2.mono rfl rfl).tr (q3.mono rfl rfl), ?_⟩
          rw [bq_127_0, g2, bsome, show w32 (42 + (g : Int)) = ((42 + g : Nat) : Int) from w_ix (c := 42) (by omega), if_pos (by omega), tn_nat, g3, bsome]
        have f1' : Fr [53, 54, 58, 59, 63, 64, 65, 66] [] σ σ1 := f1.mono rfl rfl
        have st := c_stores_49_53 (X := X) H (by rw [s1]; exact SN) p1 hb
        rw [s1] at st
        generalize hbe : btN T F (rs (σ 127)) m g = b at *
        generalize hsc : rs (σ 127) = sc at *
        have clsH : ∀ v τ, ((vcI X 123 [vP 57, vP 49, vP 53] σ1).bind fun q4 => if ¬ q4.1 = 0 then (vcI X 124 [vP 57, vP 49, vI (m : Int)] q4.2).bind fun q5 => if 0 ≤ (m : Int) ∧ (m : Int) < 8 then (vcI X 125 [vP 63, vP 53, vI q5.1, vI (q5.2 17 (m : Int).toNat)] q5.2).bind fun q6 => if z = 1 then vv X 27 111 [none, none, none, none, some (vI q6.1)] [] q6.2 else if ¬ q6.1 = (-2) then (vcI X 126 [vP 63, vI q6.1] q6.2).bind fun q7 => vv X 27 125 [none, none, none, none, none] [vI q7.1] q7.2 else vv X 27 111 [none, none, none, none, some (vI q6.1)] [] q6.2 else none else some (some (vI (-2)), q4.2)) = some (some (vI v), τ) → vcI X 27 [vP 0, vI (m : Int), vI (g : Int), vI z] σ = some (v, τ) := by
          intro v τ hv
          refine vI_of ((bq_27_0 X _ _ _ σ).trans ?_) rfl
          rw [c_isMan H hT, bsome]
          dsimp +instances only
          rw [if_pos hm, if_neg i10, g_gateC, bsome]
          dsimp +instances only
          rw [if_pos hg, if_neg i10, if_neg (by omega), if_pos hz.2, e1, bsome]
          exact hv
        have refH : ∀ (τ : am_Sg) v τ', Fr [53, 54, 58, 59, 63, 64, 65, 66] [] σ τ → ((vcI X 127 [vP 80, vI (m : Int), vI (g : Int)] τ).bind fun q4 => if 0 ≤ q4.1 then if ¬ z = 0 then vv X 28 57 [none, none, none, none, none] [vI q4.1] q4.2 else vv X 28 57 [none, none, none, none, none] [vI (q4.2 80 71)] q4.2 else vv X 28 57 [none, none, none, none, none] [vI (-2)] q4.2) = some (some (vI v), τ') → vcI X 28 [vP 80, vI (m : Int), vI (g : Int), vI z] τ = some (v, τ') := by
          intro τ v τ' fτ hv
          have Kτ := (R.fr fτ rfl rfl rfl).2.2.1
          refine vI_of ((bq_28_0 X _ _ _ τ).trans ?_) rfl
          rw [m_isMan H Kτ, bsome]
          dsimp +instances only
          rw [if_pos hm, if_neg i10, g_gateM, bsome]
          dsimp +instances only
          rw [if_pos hg, if_neg i10, g_in, bsome]
          dsimp +instances only
          rw [if_pos hz, if_pos i10]
          exact hv
        by_cases zs : storesS T sc b
        · rw [if_pos zs] at st
          have sm1 := SN.1 m hm'
          have hM := H.mi m hm'
          obtain ⟨Q, hQ⟩ : ∃ Q : Nat, (@ite Int (shut T sc m) (Classical.propDecidable _) 0 (T 13 m - sc m)) = (Q : Int) := ⟨(@ite Int (shut T sc m) (Classical.propDecidable _) 0 (T 13 m - sc m)).toNat, by split <;> omega⟩
          have lQ : Q ≤ 99 := by split at hQ <;> omega
          obtain ⟨v, σ2, e2, f2, hv⟩ := c_cheap (X := X) H R1.1 p1 hb6 lQ (y := T 17 m)
          have f12 : Fr [53, 54, 58, 59, 63, 64, 65, 66] [] σ σ2 := f1'.tr (f2.mono rfl rfl)
          obtain ⟨τ3, K3, s3, b3, fM, eM⟩ := ref σ2 f12
          obtain ⟨v', τ4, e4, f4, hv'⟩ := m_hiresL (X := X) H K3 hb s3 SN hm'
          have gi := Gd_iff (b := b) H SN hm' hQ
          have nb : ∀ d, d < 4 → τ3 129 d = ((bN b d : Nat) : Int) := fun d hd => by
            have := hb.1 d hd
            rw [← b4_in (f := τ3 129) hd, b3]
            unfold bN
            omega
          have n12 : ∀ d, d < 4 → bN b d ≤ 12 := fun d hd => by have := hb.1 d hd; unfold bN; omega
          have m211 : vcI X 211 [vI (τ3 129 0), vI (τ3 129 1), vI (τ3 129 2), vI (τ3 129 3)] τ3 = some (((mostN (bN b) : Nat) : Int), τ3) := by
            refine vI_of ((bq_211_0 X _ _ _ _ τ3).trans ?_) rfl
            rw [nb 0 (by omega), nb 1 (by omega), nb 2 (by omega), nb 3 (by omega)]
            have c0 := n12 0 (by omega)
            have c1 := n12 1 (by omega)
            have c2 := n12 2 (by omega)
            have c3 := n12 3 (by omega)
            unfold mostN
            rw [w32_id (x := 13 * ((bN b 3 : Nat) : Int)) (by omega) (by omega), w32_id (x := ((bN b 2 : Nat) : Int) + 13 * ((bN b 3 : Nat) : Int)) (by omega) (by omega), w32_id (x := 13 * (((bN b 2 : Nat) : Int) + 13 * ((bN b 3 : Nat) : Int))) (by omega) (by omega), w32_id (x := ((bN b 1 : Nat) : Int) + 13 * (((bN b 2 : Nat) : Int) + 13 * ((bN b 3 : Nat) : Int))) (by omega) (by omega), w32_id (x := 13 * (((bN b 1 : Nat) : Int) + 13 * (((bN b 2 : Nat) : Int) + 13 * ((bN b 3 : Nat) : Int)))) (by omega) (by omega), w32_id (by omega) (by omega)]
            congr 4
          have e127 : vcI X 127 [vP 80, vI (m : Int), vI (g : Int)] σ2 = some (v', τ4) := by
            refine vI_of (eM.trans ?_) rfl
            rw [m_stores2 H K3 b3, bsome]
            dsimp +instances only
            rw [s3, if_pos zs, if_pos i10, m211, bsome]
            exact e4
          have T2 : tl σ2 = T := (tl_fr f2 rfl).trans R1.1
          have fall : Fr scr scj σ τ4 := ((f12.mono rfl rfl).tr fM).tr (f4.mono rfl rfl)
          have hd : ∀ w τ, ((if z = 1 then vv X 27 111 [none, none, none, none, some (vI v)] [] σ2 else if ¬ v = (-2) then (vcI X 126 [vP 63, vI v] σ2).bind fun q7 => vv X 27 125 [none, none, none, none, none] [vI q7.1] q7.2 else vv X 27 111 [none, none, none, none, some (vI v)] [] σ2) = some (some (vI w), τ)) → vcI X 27 [vP 0, vI (m : Int), vI (g : Int), vI z] σ = some (w, τ) := fun w τ hw => by
            refine clsH w τ ?_
            rw [st, bsome]
            dsimp +instances only
            rw [if_pos i10, c_open H R1.1 s1 SN hm', bsome]
            dsimp +instances only
            rw [if_pos (by omega), tn_nat, tl_at R1.1 (k := 17) (by omega), hQ, e2, bsome]
            exact hw
          rcases hv with ⟨v1, v2⟩ | ⟨s, v1, v2⟩
          · have v'2 : v' = -2 := by
              rcases hv' with q | ⟨s', q1, q2, q3⟩
              · exact q.1
              · exact absurd ((gi s').mpr q3.2.1) (v2 s' q3.1)
            refine ⟨-2, σ2, τ4, hd (-2) σ2 ?_, refH σ2 (-2) τ4 f12 ?_, h.scr fall⟩
            · rw [v1]
              by_cases q : z = 1
              · rw [if_pos q, bq_27_111, bq_27_125]
              · rw [if_neg q, if_neg (by decide), bq_27_111, bq_27_125]
            · rw [e127, bsome]
              dsimp +instances only
              rw [v'2, if_neg (by omega), bq_28_57]
          · have fs : ∀ s', Fst (GdM T sc b m) (fun s => feeS T (s : Int) (nB T)) (2 ^ nB T) s' → s' = s := fun s' q => by
              have q' : Fst (GdC T b (T 17 m) Q) (fun s => feeS T (s : Int) (nB T)) (2 ^ nB T) s' := ⟨q.1, (gi s').mpr q.2.1, fun t ht hg => q.2.2.1 t ht ((gi t).mp hg), fun t ht hg => q.2.2.2 t ht ((gi t).mp hg)⟩
              exact q'.uniq v2
            have v'2 : v' = (s : Int) ∧ τ4 80 71 = feeS T (s : Int) (nB T) := by
              rcases hv' with q | ⟨s', q1, q2, q3⟩
              · exact absurd ((gi s).mp v2.2.1) (q.2 s v2.1)
              · have := fs s' q3
                subst this
                exact ⟨q1, q2⟩
            refine ⟨if z = 1 then (s : Int) else feeS T (s : Int) (nB T), σ2, τ4, hd _ σ2 ?_, refH σ2 _ τ4 f12 ?_, h.scr fall⟩
            · rw [v1]
              by_cases q : z = 1
              · rw [if_pos q, if_pos q, bq_27_111, bq_27_125]
              · rw [if_neg q, if_neg q, if_pos (by omega), c_fee H T2 (by have := v2.1; omega), bsome]
                dsimp +instances only
                rw [bq_27_125]
            · rw [e127, bsome]
              dsimp +instances only
              rw [v'2.1, v'2.2, if_pos (by omega)]
              by_cases q : z = 1
              · rw [if_pos (show ¬ z = 0 by omega), if_pos q, bq_28_57]
              · rw [if_neg (show ¬ ¬ z = 0 by omega), if_neg q, bq_28_57]
        · rw [if_neg zs] at st
          obtain ⟨τ3, K3, s3, b3, fM, eM⟩ := ref σ1 f1'
          refine ⟨-2, σ1, τ3, clsH (-2) σ1 ?_, refH σ1 (-2) τ3 f1' ?_, h.scr ((f1'.mono rfl rfl).tr fM)⟩
          · rw [st, bsome]
            dsimp +instances only
            rw [if_neg (by decide)]
          · have e127 : vcI X 127 [vP 80, vI (m : Int), vI (g : Int)] σ1 = some (-2, τ3) := by
              refine vI_of (eM.trans ?_) rfl
              rw [m_stores2 H K3 b3, bsome]
              dsimp +instances only
              rw [s3, if_neg zs, if_neg (by decide)]
            rw [e127, bsome]
            dsimp +instances only
            rw [if_neg (by decide), bq_28_57]
      · refine Qc.same h (L1 := [some (vP 0), some (vI x), some (vI y), some (vI z), none]) (L2 := [some (vP 80), some (vI x), some (vI y), some (vI z), none]) ⟨-1, ?_, ?_⟩ rfl rfl
        · rw [bq_27_0, c_isMan H hT, bsome]
          dsimp +instances only
          rw [if_pos hm, if_neg i10, g_gateC, bsome]
          dsimp +instances only
          rw [if_pos hg, if_neg i10]
          by_cases q : z < 0
          · rw [if_pos q, bq_27_24]
          · rw [if_neg q, if_neg (by omega), bq_27_24]
        · rw [bq_28_0, m_isMan H K, bsome]
          dsimp +instances only
          rw [if_pos hm, if_neg i10, g_gateM, bsome]
          dsimp +instances only
          rw [if_pos hg, if_neg i10, g_in, bsome]
          dsimp +instances only
          rw [if_neg hz, if_neg (by decide), bq_28_24]
    · refine Qc.same h (L1 := [some (vP 0), some (vI x), some (vI y), some (vI z), none]) (L2 := [some (vP 80), some (vI x), some (vI y), some (vI z), none]) ⟨-1, ?_, ?_⟩ rfl rfl
      · rw [bq_27_0, c_isMan H hT, bsome]
        dsimp +instances only
        rw [if_pos hm, if_neg i10, g_gateC, bsome]
        dsimp +instances only
        rw [if_neg hg, if_pos rfl, bq_27_24]
      · rw [bq_28_0, m_isMan H K, bsome]
        dsimp +instances only
        rw [if_pos hm, if_neg i10, g_gateM, bsome]
        dsimp +instances only
        rw [if_neg hg, if_pos rfl, bq_28_24]
  · refine Qc.same h (L1 := [some (vP 0), some (vI x), some (vI y), some (vI z), none]) (L2 := [some (vP 80), some (vI x), some (vI y), some (vI z), none]) ⟨-1, ?_, ?_⟩ rfl rfl
    · rw [bq_27_0, c_isMan H hT, bsome]
      dsimp +instances only
      rw [if_neg hm, if_pos rfl, bq_27_24]
    · rw [bq_28_0, m_isMan H K, bsome]
      dsimp +instances only
      rw [if_neg hm, if_pos rfl, bq_28_24]
end HQ
