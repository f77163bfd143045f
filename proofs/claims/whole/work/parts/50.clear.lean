/-! CALLS: cleared, tongue -/
/-- a set all of whose men are in another -/
theorem subS_of {p s : Nat} (hp : p < 256) (hs : s < 256) (h : ∀ m, m < 8 → bt1 (p : Int) m = 1 → bt1 (s : Int) m = 1) : subS p s := by
  have key : ∀ (N q : Nat), q ≤ N → q < 256 → (∀ m, m < 8 → bt1 (q : Int) m = 1 → bt1 (s : Int) m = 1) → subS q s := by
    intro N
    induction N with
    | zero =>
      intro q hq _ _
      have : q = 0 := by omega
      rw [this]
      exact subS_zero hs
    | succ N ih =>
      intro q hq hq2 hh
      by_cases ex : ∃ m, m < 8 ∧ bt1 (q : Int) m = 1
      · obtain ⟨m, hm, hb⟩ := ex
        have w2 := wo2 hq2 hm hb
        have m2 : 0 < 2 ^ m := Nat.pow_pos (by omega)
        have lt : q - 2 ^ m < 256 := Nat.lt_of_le_of_lt (Nat.sub_le q _) hq2
        have r := ih (q - 2 ^ m) (by omega) lt (fun k hk hbk => by
          rw [bt_sub hq2 hm hk hb] at hbk
          by_cases z : k = m
          · rw [if_pos z] at hbk
            omega
          · rw [if_neg z] at hbk
            exact hh k hk hbk)
        have := (subS_up lt hs hm w2.2).mpr ⟨r, hh m hm hb⟩
        rw [show q - 2 ^ m + 2 ^ m = q by omega] at this
        exact this
      · have : q = 0 := by_bits hq2 (show 0 < 256 by omega) (fun k hk => by
          have b0 : ∀ k : Fin 8, bt1 ((0 : Nat) : Int) k.val = 0 := by decide +kernel
          have b1 := b0 ⟨k, hk⟩
          dsimp only at b1
          rw [b1]
          rcases bt01 hq2 hk with u | u
          · exact u
          · exact absurd ⟨k, hk, u⟩ ex)
        rw [this]
        exact subS_zero hs
  exact key p p (Nat.le_refl _) hp h
section CLM
variable {X l : Nat} {σ T : am_Sg} {F : LF}
theorem m_open (H : TOk T) (K : TM σ T l) : ∃ e : Nat, e < 256 ∧ vv X 52 0 [some (vP 80), none, none, none, none] [] σ = vv X 52 34 [some (vP 80), some (vI (e : Int)), some (vI 0), none, none] [] σ ∧ (∀ m, m < nM T → (bt1 (e : Int) m = 1 ↔ ¬ T 20 m = 0)) ∧ ∀ m, nM T ≤ m → m < 8 → bt1 (e : Int) m = 0 := by
  have h8 := H.m8
  obtain ⟨e, ee, he, hb, hz⟩ := lp (fun i (e : Nat) => vv X 52 4 [some (vP 80), some (vI (e : Int)), some (vI (i : Int)), none, none] [] σ) (nM T) (fun i e => e < 256 ∧ (∀ m, m < i → (bt1 (e : Int) m = 1 ↔ ¬ T 20 m = 0)) ∧ ∀ m, i ≤ m → m < 8 → bt1 (e : Int) m = 0) (fun i e hi hh => by
    obtain ⟨h1, h2, h3⟩ := hh
    show ∃ e' : Nat, vv X 52 4 [some (vP 80), some (vI (e : Int)), some (vI (i : Int)), none, none] [] σ = vv X 52 4 [some (vP 80), some (vI (e' : Int)), some (vI ((i + 1 : Nat) : Int)), none, none] [] σ ∧ _
    rw [bq_52_4, m_menNow H K, bsome]
    dsimp +instances only
    rw [if_neg (by omega), m_netOf K, bsome]
    dsimp +instances only
    rw [← K.ni i hi]
    by_cases z : T 20 i = 0
    · rw [if_pos z, bq_52_26, w32_s1 (by omega)]
      refine ⟨e, rfl, h1, fun k hk => ?_, fun k a b => h3 k (by omega) b⟩
      by_cases y : k = i
      · subst y
        have := h3 k (Nat.le_refl _) (by omega)
        exact ⟨fun q => by omega, fun q => absurd z q⟩
      · exact h2 k (by omega)
    · have o := orp0 h1 (show i < 8 by omega) (h3 i (Nat.le_refl _) (by omega))
      have ba := fun k hk => bt_add (m := i) (k := k) h1 (by omega) hk (h3 i (Nat.le_refl _) (by omega))
      rw [if_neg z, bq_52_26, w32_s1 (by omega), o.1]
      refine ⟨e + 2 ^ i, rfl, o.2.1, fun k hk => ?_, fun k a b => ?_⟩
      · rw [ba k (by omega)]
        by_cases y : k = i
        · rw [if_pos y, y]
          exact ⟨fun _ => z, fun _ => rfl⟩
        · rw [if_neg y]
          exact h2 k (by omega)
      · rw [ba k b, if_neg (by omega)]
        exact h3 k (by omega) b) (nM T) 0 0 (by omega) ⟨by omega, fun m hm => absurd hm (Nat.not_lt_zero m), fun m _ hm => by
        have : ∀ k : Fin 8, bt1 ((0 : Nat) : Int) k.val = 0 := by decide +kernel
        exact this ⟨m, hm⟩⟩
  refine ⟨e, he, (bq_52_0 X σ).trans (Eq.trans ee ?_), hb, hz⟩
  show vv X 52 4 [some (vP 80), some (vI (e : Int)), some (vI (nM T : Int)), none, none] [] σ = _
  rw [bq_52_4, m_menNow H K, bsome]
  dsimp +instances only
  rw [if_pos (Int.le_refl _)]
theorem m_groups (H : TOk T) (K : TM σ T l) {x1 : Int} : ∃ σ', vv X 52 34 [some (vP 80), some (vI x1), some (vI 0), none, none] [] σ = vv X 52 34 [some (vP 80), some (vI x1), some (vI ((2 ^ nM T : Nat) : Int)), none, none] [] σ' ∧ Fr [137, 138] [] σ σ' ∧ ∀ j, j < 2 ^ nM T → σ' 138 j = gG (T 20) (nM T) j := by
  have h8 := H.m8
  have p8 := pow8 h8
  generalize hn : nM T = n at *
  have one : ∀ (p : Nat) (st : am_Sg), p < 2 ^ n → TM st T l → (∀ j, j < p → st 138 j = gG (T 20) n j) → ∃ st', vv X 52 34 [some (vP 80), some (vI x1), some (vI (p : Int)), none, none] [] st = vv X 52 34 [some (vP 80), some (vI x1), some (vI ((p + 1 : Nat) : Int)), none, none] [] st' ∧ Fr [137, 138] [] st st' ∧ ∀ j, j < p + 1 → st' 138 j = gG (T 20) n j := by
    intro p st hp Ks htab
    have hp256 : p < 256 := by omega
    obtain ⟨s1, e, f1, keep, k7, k8⟩ := lp (fun m (s1 : am_Sg) => vv X 52 60 [some (vP 80), some (vI x1), some (vI (p : Int)), some (vI (m : Int)), none] [] s1) n (fun m s1 => Fr [137, 138] [] st s1 ∧ (∀ j, ¬ j = p → s1 138 j = st 138 j) ∧ s1 137 p = nsF (T 20) p m ∧ s1 138 p = mxM (gG (T 20) n) p m) (fun m s1 hm hh => by
      obtain ⟨fs, keep, k7, k8⟩ := hh
      have K1 := Ks.fr fs rfl
      show ∃ s', vv X 52 60 [some (vP 80), some (vI x1), some (vI (p : Int)), some (vI (m : Int)), none] [] s1 = vv X 52 60 [some (vP 80), some (vI x1), some (vI (p : Int)), some (vI ((m + 1 : Nat) : Int)), none] [] s' ∧ _
      rw [bq_52_60, m_menNow H K1, bsome]
      dsimp +instances only
      rw [hn, if_neg (by omega), show am_and (am_shr (p : Int) (m : Int)) 1 = bt1 (p : Int) m from rfl]
      have e1 : nsF (T 20) p (m + 1) = if bt1 (p : Int) m = 1 then w32 (nsF (T 20) p m + T 20 m) else nsF (T 20) p m := rfl
      have e2 : mxM (gG (T 20) n) p (m + 1) = if bt1 (p : Int) m = 1 then mx (mxM (gG (T 20) n) p m) (gG (T 20) n (p - 2 ^ m)) else mxM (gG (T 20) n) p m := rfl
      rcases bt01 hp256 (show m < 8 by omega) with z | z
      · rw [if_neg (fun q => q z), bq_52_126, w32_s1 (by omega)]
        refine ⟨s1, rfl, fs, keep, ?_, ?_⟩
        · rw [e1, if_neg (by omega)]
          exact k7
        · rw [e2, if_neg (by omega)]
          exact k8
      · have w2 := wo2 hp256 (show m < 8 by omega) z
        have m2 : 0 < 2 ^ m := Nat.pow_pos (by omega)
        rw [if_pos z] at e1 e2
        have t1 : s1 138 (p - 2 ^ m) = gG (T 20) n (p - 2 ^ m) := by rw [keep _ (by omega)]; exact htab _ (by omega)
        rw [if_pos (by omega), if_pos (by omega), m_netOf K1, bsome]
        dsimp +instances only
        rw [← K1.ni m (by omega), wo hp256 (by omega), if_pos z, if_pos (by omega), tn_nat, tn_nat, t1, k7, k8, e1, e2, bq_52_126, bq_52_126, w32_s1 (by omega)]
        unfold mx
        by_cases y : gG (T 20) n (p - 2 ^ m) ≤ mxM (gG (T 20) n) p m
        · rw [if_pos y, if_neg (by omega)]
          refine ⟨_, rfl, fs.upd rfl (by decide), fun j hj => ?_, ?_, ?_⟩
          · rw [un _ (by decide)]
            exact keep j hj
          · rw [ue, upe]
          · rw [un _ (by decide)]
            exact k8
        · rw [if_neg y, if_pos (by omega)]
          refine ⟨_, rfl, (fs.upd rfl (by decide)).upd rfl (by decide), fun j hj => ?_, ?_, ?_⟩
          · rw [ue, upn hj, un _ (by decide)]
            exact keep j hj
          · rw [un _ (by decide), ue, upe]
          · rw [ue, upe]) n 0 (am_upd (am_upd st 137 p 0) 138 p 0) (by omega) ⟨(Fr.rf.upd rfl (by decide)).upd rfl (by decide), fun j hj => by rw [ue, upn hj, un _ (by decide)], by rw [un _ (by decide), ue, upe]; rfl, by rw [ue, upe]; rfl⟩
    have K1 := Ks.fr f1 rfl
    have mb : mxM (gG (T 20) n) p n ≤ 300 := gG_b h8 hp256 n h8
    have m0 := mxM_nn (gG (T 20) n) p n
    have st0 : vv X 52 34 [some (vP 80), some (vI x1), some (vI (p : Int)), none, none] [] st = vv X 52 60 [some (vP 80), some (vI x1), some (vI (p : Int)), some (vI (n : Int)), none] [] s1 := by
      rw [bq_52_34, m_menNow H Ks, bsome]
      dsimp +instances only
      rw [hn, shl1 (by omega), if_neg (by omega), if_pos (by omega), bq_52_58, tn_nat]
      exact e
    rw [st0, bq_52_60, m_menNow H K1, bsome]
    dsimp +instances only
    rw [hn, if_pos (Int.le_refl _), bq_52_155, bq_52_155, w32_s1 (by omega)]
    by_cases p0 : p = 0
    · subst p0
      rw [if_pos (show ((0 : Nat) : Int) = 0 from rfl)]
      refine ⟨s1, rfl, f1, fun j hj => ?_⟩
      have : j = 0 := by omega
      subst this
      rw [k8, gG_0]
      rcases mxM_at (g := gG (T 20) n) (p := 0) n with q | ⟨k, h1, h2, h3⟩
      · exact q
      · have b0 : ∀ k : Fin 8, bt1 ((0 : Nat) : Int) k.val = 0 := by decide +kernel
        have b1 := b0 ⟨k, by omega⟩
        dsimp only at b1
        omega
    · have gr := gG_rec (net := T 20) h8 hp256 p0
      rw [if_neg (by omega), if_pos (by omega), tn_nat, k7]
      by_cases z : nsF (T 20) p n = 0
      · rw [if_pos z] at gr
        rw [if_neg (fun q => q z), k8, w32_id (by omega) (by omega), ← gr]
        refine ⟨_, rfl, f1.upd rfl (by decide), fun j hj => ?_⟩
        rw [ue, upa]
        by_cases y : j = p
        · rw [if_pos y, y]
        · rw [if_neg y, keep j y]
          exact htab j (by omega)
      · rw [if_neg z] at gr
        rw [if_pos z]
        refine ⟨s1, rfl, f1, fun j hj => ?_⟩
        by_cases y : j = p
        · rw [y, k8, gr]
        · rw [keep j y]
          exact htab j (by omega)
  obtain ⟨s2, e2, f2, h2⟩ := lp (fun q (st : am_Sg) => vv X 52 34 [some (vP 80), some (vI x1), some (vI (q : Int)), none, none] [] st) (2 ^ n) (fun q st => Fr [137, 138] [] σ st ∧ ∀ j, j < q → st 138 j = gG (T 20) n j) (fun q st hq hh => by
    obtain ⟨st', e, f, t⟩ := one q st hq (K.fr hh.1 rfl) hh.2
    exact ⟨st', e, hh.1.tr f, t⟩) (2 ^ n) 0 σ (by omega) ⟨Fr.rf, fun j hj => absurd hj (Nat.not_lt_zero j)⟩
  exact ⟨s2, e2, f2, h2⟩
theorem q_cleared (h : Rel X σ) : Qc X 51 52 [] σ := by
  obtain ⟨T, l, F, R, -⟩ := id h
  have hT := R.1
  have H := R.2.1
  have h8 := H.m8
  have p8 := pow8 h8
  obtain ⟨σ1, e1, f1⟩ := c_quits (X := X) H hT
  have K1 := R.2.2.1.fr f1 rfl
  obtain ⟨e, he, eo, hb, hz⟩ := m_open (X := X) H K1
  obtain ⟨σ2, e2, f2, h2⟩ := m_groups (X := X) (x1 := (e : Int)) H K1
  have K2 := K1.fr f2 rfl
  obtain ⟨b, b1, b2, b3, b4⟩ := gG_all (net := T 20) h8 (nM T) 0 e (by omega) he hz (fun m hm => absurd hm (Nat.not_lt_zero m)) (fun m _ hm => hb m hm)
  have ball : b = 2 ^ nM T - 1 := by
    refine by_bits b1 (by omega) (fun k hk => ?_)
    have a := (allb_f ⟨nM T, by omega⟩ ⟨k, hk⟩).1
    dsimp only at a
    rw [a]
    by_cases z : k < nM T
    · rw [if_pos z, b2 k z]
    · rw [if_neg z, b3 k (by omega) hk]
  have bcn : bc (b : Int) 8 = (nM T : Int) := by
    have a := (allb_f ⟨nM T, by omega⟩ ⟨0, by omega⟩).2
    dsimp only at a
    rw [ball]
    exact a
  have elt : e < 2 ^ nM T := by
    have : subS e b := by
      -- every bit of e is one of b
      have := subS_le he b1
      exact subS_of he b1 (fun m hm q => by
        by_cases z : m < nM T
        · exact b2 m z
        · rw [hz m (by omega) hm] at q
          cases q)
    have := (subS_le he b1 this).1
    omega
  have ge := gG_le (net := T 20) h8 e e (Nat.le_refl _) he
  have gb := gG_le (net := T 20) h8 b b (Nat.le_refl _) b1
  have ne := gG_nn (net := T 20) h8 he
  have nb := gG_nn (net := T 20) h8 b1
  have be := bc_bd he 8 (by omega)
  rw [bcn] at b4
  refine ⟨w32 ((nM T : Int) - gG (T 20) (nM T) b), σ1, σ2, vI_of ((bq_51_0 X σ).trans ?_) rfl, vI_of (eo.trans (e2.trans ?_)) rfl, h.scr ((f1.mono rfl rfl).tr (f2.mono rfl rfl))⟩
  · rw [g_men, bsome]
    dsimp +instances only
    rw [e1, bsome, tl_at hT (k := 8) (by omega), H.m0, ball]
  · rw [bq_52_34, m_menNow H K2, bsome]
    dsimp +instances only
    rw [shl1 (by omega), if_pos (Int.le_refl _), m_bits he, bsome]
    dsimp +instances only
    rw [if_pos (by omega), tn_nat, h2 e elt, show bc (e : Int) 8 - gG (T 20) (nM T) e = (nM T : Int) - gG (T 20) (nM T) b by omega]
end CLM
