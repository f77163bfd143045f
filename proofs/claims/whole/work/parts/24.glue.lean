/-! FROM THE LAW'S LOOP OVER THE CONTENTS TO THE RUN OF THE WHOLE LAW -/
theorem am_run_succ {ft : List (List Nat)} {mL : Nat → Nat} {code : Nat → Nat → Option am_E} : ∀ (n mid pc : Nat) (L : am_L) (S : List am_V) (μ : am_M) (r : Option am_V × am_M), am_run ft mL code n mid pc L S μ = some r → am_run ft mL code (n + 1) mid pc L S μ = some r := by
  intro n
  induction n with
  | zero => intro mid pc L S μ r h; cases h
  | succ n ih =>
    intro mid pc L S μ r h
    unfold am_run at h ⊢
    split at h
    next => cases h
    next op len a b d c ks offs he =>
      split at h
      next hop =>
        rw [if_pos hop]
        split at h
        next hc =>
          rw [if_pos hc]
          split at h
          next => cases h
          next r1 μ1 h1 =>
            rw [ih _ _ _ _ _ _ h1]
            exact ih _ _ _ _ _ _ h
        next => cases h
      next hop =>
        rw [if_neg hop]
        split at h
        next hop2 => rw [if_pos hop2]; exact h
        next hop2 =>
          rw [if_neg hop2]
          split at h
          next => cases h
          next pc1 L1 S1 μ1 hs => exact ih _ _ _ _ _ _ h
theorem am_run_le {ft : List (List Nat)} {mL : Nat → Nat} {code : Nat → Nat → Option am_E} {n m : Nat} (h : n ≤ m) {mid pc : Nat} {L : am_L} {S : List am_V} {μ : am_M} {r : Option am_V × am_M} (hr : am_run ft mL code n mid pc L S μ = some r) : am_run ft mL code m mid pc L S μ = some r := by
  induction h with
  | refl => exact hr
  | step _ ih => exact am_run_succ _ _ _ _ _ _ _ ih
def am_Ev (mid pc : Nat) (L : am_L) (S : List am_V) (μ : am_M) (r : Option am_V × am_M) : Prop := ∃ n, am_run am_ftab am_mL am_code n mid pc L S μ = some r
theorem am_Ev.st {mid pc pc' op len a b d : Nat} {c : Int} {ks offs : List Nat} {L L' : am_L} {S S' : List am_V} {μ μ' : am_M} {r : Option am_V × am_M} (hk : am_code mid pc = some (op, len, a, b, d, c, ks, offs)) (h29 : ¬ op = 29) (h30 : ¬ op = 30) (hs : am_step am_ftab (op, len, a, b, d, c, ks, offs) pc (am_kill ks L) S μ = some (pc', L', S', μ')) (h : am_Ev mid pc' L' S' μ' r) : am_Ev mid pc L S μ r := by
  obtain ⟨n, hn⟩ := h
  refine ⟨n + 1, ?_⟩
  unfold am_run
  rw [hk]
  dsimp only
  rw [if_neg h29, if_neg h30, hs]
  exact hn
theorem am_Ev.call {mid pc len a b d n1 : Nat} {c : Int} {ks offs : List Nat} {L : am_L} {S : List am_V} {μ μ1 : am_M} {r1 : Option am_V} {r : Option am_V × am_M} (hk : am_code mid pc = some (29, len, a, b, d, c, ks, offs)) (hc : b ≤ S.length ∧ (am_ent0 (S.take b).reverse).length ≤ am_mL a ∧ am_cats (S.drop b) ≤ 8 ∧ am_recvOk c d μ (S.take b).reverse = true) (h1 : am_run am_ftab am_mL am_code n1 a 0 (am_ent (am_mL a) (S.take b).reverse) [] μ = some (r1, μ1)) (h : am_Ev mid (pc + len) (am_kill ks L) (r1.toList ++ S.drop b) μ1 r) : am_Ev mid pc L S μ r := by
  obtain ⟨n, hn⟩ := h
  refine ⟨max n1 n + 1, ?_⟩
  unfold am_run
  rw [hk]
  dsimp only
  rw [if_pos rfl, if_pos hc, am_run_le (Nat.le_max_left n1 n) h1]
  exact am_run_le (Nat.le_max_right n1 n) hn
/-- how the contents stand when the law's loop begins -/
def am_Init (X : Nat) (xs : Nat → Int32) (σ : am_Sg) : Prop := am_R am_ftab (am_SK, am_ro X, σ) ∧ (∀ q ∈ am_facts, σ q.1 q.2.1 = q.2.2) ∧ ∀ k, 1000 ≤ k → σ k = am_s0 xs k
theorem am_snew_ok {ci N n : Nat} {L : am_L} {S : List am_V} {μ : am_M} {k : Nat} (hk : μ.1.length = k) (h : k < 1000) : am_snew ci N n L S μ = some (n, L, vP k :: S, am_nw ci N μ) := by
  unfold am_snew am_nw
  rw [if_pos (by omega), hk]
theorem am_nw_recv {ci N k : Nat} {μ : am_M} (hk : μ.1.length = k) (h : k < 1000) {c : Int} (hc : ¬ c = 1) (vs : List am_V) : am_recvOk c ci (am_nw ci N μ) (vP k :: vs) = true := by
  have hd : am_dsc (am_nw ci N μ) k = some (4 + ci, N, List.replicate N 0) := by
    unfold am_dsc am_nw
    rw [if_pos h]
    subst hk
    simp
  unfold am_recvOk
  rw [if_neg hc]
  dsimp only
  rw [hd]
  simp
theorem am_glue (L : Nat) (xs : Nat → Int32) (h : ∀ σ, am_Init L xs σ → ∃ σ', vv L 0 18 [some (vP 1000), some (vP 0), some (vP 80), some (vI 0)] [] σ = some (some (vI 1), σ')) : ∃ n μ', am_run am_ftab am_mL am_code n 0 0 [some (vP 1000), none, none, none] [] (am_m0 L xs) = some (some (vI 1), μ') ∧ μ'.1.length ≤ 145 ∧ am_sl μ' ≤ 78752 := by
  have c3 := am_c3_ok
  have c4 := am_c4_ok
  unfold am_c4 at c4
  unfold am_c3 am_c2 at c3
  have hokc : ∀ mid pc e, am_code mid pc = some e → am_okc e ∧ (e.1 = 26 → e.2.2.1 < 4) := fun mid pc e h => am_chk_okc (am_hchk mid pc e h)
  have A0 : am_Al (am_nw 11 14 (am_m0 L xs)) (am_nw 11 14 am_n0) := by
    have B : am_Al (am_m0 L xs) am_n0 := by
      refine ⟨rfl, Nat.zero_le _, fun k hk => ?_, rfl⟩
      constructor
      · unfold am_dsc
        split
        · rfl
        · next z =>
          show (am_ro L)[k - 1000]? = am_n0.2.1[k - 1000]?
          obtain ⟨i, hi⟩ : ∃ i, k - 1000 = i + 1 := ⟨k - 1001, by omega⟩
          rw [hi]
          rfl
      · funext j
        show am_s0 xs k j = am_s0 (fun _ => 0) k j
        unfold am_s0
        rw [if_neg hk, if_neg hk]
    exact B.new (by decide) _
  split at c4
  next ν2 h2 =>
    simp only [decide_eq_true_eq] at c4
    rw [h2] at c3
    dsimp only at c3
    obtain ⟨μ2, g2, A2⟩ := am_star am_hsm _ _ _ _ _ _ _ _ _ A0 h2
    have hl2 : μ2.1.length = 80 := by rw [A2.1]; exact c4
    have A3 : am_Al (am_nw 12 88 μ2) (am_nw 12 88 ν2) := A2.new (by rw [c4]; decide) _
    split at c3
    next ν4 h4 =>
      simp only [Bool.and_eq_true, decide_eq_true_eq] at c3
      obtain ⟨μ4, g4, A4⟩ := am_star am_hsm _ _ _ _ _ _ _ _ _ A3 h4
      have I0 : am_I am_ftab (am_m0 L xs) [] [] := ⟨am_R0 L xs, ⟨fun v hv => by simp at hv, fun v hv => by simp at hv⟩⟩
      have I1 := (I0.grow (c := (4 + 11, 14, List.replicate 14 0)) (show (0:Nat) < 1000 by decide) (fun j r z => by
        have := List.eq_of_mem_replicate (List.mem_of_getElem? z)
        omega))
      have p2 := am_p_run hokc _ _ _ _ _ _ _ _ g2 ⟨I1.1.1, fun v hv => by
        have hv := am_ent_mem hv
        simp at hv
        subst hv
        exact Or.inl (show (0:Nat) < 1 by decide), fun v hv => by cases hv⟩
      have I2 : am_I am_ftab μ2 [] [] := ⟨p2.1.1, fun v hv => (by cases hv), fun v hv => (by cases hv)⟩
      have I3 := (I2.grow (c := (4 + 12, 88, List.replicate 88 0)) (by rw [hl2]; decide) (fun j r z => by
        have := List.eq_of_mem_replicate (List.mem_of_getElem? z)
        omega))
      have p4 := am_p_run hokc _ _ _ _ _ _ _ _ g4 ⟨I3.1.1, fun v hv => by
        have hv := am_ent_mem hv
        simp at hv
        subst hv
        exact Or.inl (by show 80 < (μ2.1 ++ _).length; simp [hl2]), fun v hv => by cases hv⟩
      have G := ((I1.2.tr p2.2).tr I3.2).tr p4.2
      have e1 : μ4.1 = am_SK := A4.1.trans c3.1
      have e2 : μ4.2.1 = am_ro L := G.2.2.1
      have em : μ4 = (am_SK, am_ro L, μ4.2.2) := by rw [← e1, ← e2]
      have hIn : am_Init L xs μ4.2.2 := by
        refine ⟨by rw [← em]; exact p4.1.1, fun q hq => ?_, fun k hk => G.2.2.2 k hk⟩
        have f1 := List.all_eq_true.mp c3.2 q hq
        simp only [decide_eq_true_eq] at f1
        by_cases z : q.1 = 1000
        · exfalso
          have : ∀ q ∈ am_facts, ¬ q.1 = 1000 := by decide +kernel
          exact this q hq z
        · rw [(A4.2.2.1 q.1 z).2]
          exact f1
      obtain ⟨σ', hv⟩ := h _ hIn
      obtain ⟨n, hn⟩ := am_vv_some hv
      have hn := am_ar_run n _ _ _ _ _ _ _ hn
      have fin : am_Ev 0 18 [some (vP 1000), some (vP 0), some (vP 80), some (vI 0)] [] μ4 (some (vI 1), (am_SK, am_ro L, σ')) := ⟨n, by rw [em]; exact hn⟩
      have E : am_Ev 0 0 [some (vP 1000), none, none, none] [] (am_m0 L xs) (some (vI 1), (am_SK, am_ro L, σ')) := by
        refine am_Ev.st kk_0_0 (by decide) (by decide) (show am_snew 11 14 3 _ [] (am_m0 L xs) = _ from am_snew_ok (k := 0) rfl (by decide)) ?_
        refine am_Ev.st kk_0_3 (by decide) (by decide) rfl ?_
        refine am_Ev.call (S := [vP 0, vP 0]) kk_0_4 ⟨by decide, by decide, by decide, am_nw_recv (k := 0) rfl (by decide) (by decide) []⟩ g2 ?_
        refine am_Ev.st kk_0_7 (by decide) (by decide) rfl ?_
        refine am_Ev.st kk_0_8 (by decide) (by decide) (show am_snew 12 88 11 _ [] μ2 = _ from am_snew_ok (k := 80) hl2 (by decide)) ?_
        refine am_Ev.st kk_0_11 (by decide) (by decide) rfl ?_
        refine am_Ev.call (S := [vP 80, vP 80]) kk_0_12 ⟨by decide, by decide, by decide, am_nw_recv (k := 80) hl2 (by decide) (by decide) []⟩ g4 ?_
        refine am_Ev.st kk_0_15 (by decide) (by decide) rfl ?_
        refine am_Ev.st kk_0_16 (by decide) (by decide) rfl ?_
        refine am_Ev.st kk_0_17 (by decide) (by decide) rfl ?_
        exact fin
      obtain ⟨n, hn⟩ := E
      exact ⟨n, _, hn, show am_SK.length ≤ 145 by decide +kernel, show am_sl (am_SK, [], fun _ _ => 0) ≤ 78752 by decide +kernel⟩
    next => cases c3
  next => cases c4
