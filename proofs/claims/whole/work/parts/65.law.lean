/-! THE LAW'S LOOP -/
section LAW
variable {X : Nat} {σ : am_Sg}
abbrev RR (X : Nat) (σ : am_Sg) : Prop := am_R am_ftab (am_SK, am_ro X, σ)
theorem vv_keep {a : Nat} {vs : List am_V} {σ' : am_Sg} {r : Option am_V} (hR : RR X σ) (hv : ∀ v ∈ vs, am_okV am_SK.length v) (h : vv X a 0 (am_ent (am_mL a) vs) [] σ = some (r, σ')) : RR X σ' ∧ ∀ k, 1000 ≤ k → σ' k = σ k := by
  obtain ⟨n, hn⟩ := am_vv_some h
  have hn := am_ar_run n _ _ _ _ _ _ _ hn
  have p := am_p_run (fun mid pc e h => am_chk_okc (am_hchk mid pc e h)) _ _ _ _ _ _ _ _ hn ⟨hR, fun v hv' => hv v (am_ent_mem hv'), fun v hv => by cases hv⟩
  exact ⟨p.1.1, p.2.2.2.2⟩
theorem vcI_vv {a : Nat} {vs : List am_V} {σ' : am_Sg} {v : Int} (h : vcI X a vs σ = some (v, σ')) : vv X a 0 (am_ent (am_mL a) vs) [] σ = some (some (vI v), σ') := by
  unfold vcI at h
  split at h
  next x τ e =>
    rw [e]
    injection h with h
    injection h with h1 h2
    rw [h1, h2]
  next => cases h
theorem vcJ_vv {a : Nat} {vs : List am_V} {σ' : am_Sg} {v : Int} (h : vcJ X a vs σ = some (v, σ')) : vv X a 0 (am_ent (am_mL a) vs) [] σ = some (some (vJ v), σ') := by
  unfold vcJ at h
  split at h
  next x τ e =>
    rw [e]
    injection h with h
    injection h with h1 h2
    rw [h1, h2]
  next => cases h
theorem ok_scr (hR : RR X σ) (j : Nat) : am_okV am_SK.length (vI (σ 1000 j)) := by
  have q := (hR.2 1000 (0, X, []) rfl).1 j
  have q' : (decide (-2147483648 ≤ σ 1000 j) && decide (σ 1000 j < 2147483648)) = true := q
  rw [Bool.and_eq_true, decide_eq_true_eq, decide_eq_true_eq] at q'
  exact q'
theorem ok_0 : am_okV am_SK.length (vP 0) := Or.inl (by decide +kernel)
theorem ok_80 : am_okV am_SK.length (vP 80) := Or.inl (by decide +kernel)
theorem ok_js (hR : RR X σ) (js : List Nat) {p : am_V} (hp : am_okV am_SK.length p) : ∀ v ∈ p :: js.map (fun j => vI (σ 1000 j)), am_okV am_SK.length v := by
  intro v hv
  rcases List.mem_cons.mp hv with e | e
  · rw [e]; exact hp
  · obtain ⟨j, -, e⟩ := List.mem_map.mp e
    rw [← e]
    exact ok_scr hR j
def Go (X : Nat) (i : Int) (σ : am_Sg) : Prop := ∃ σ', vv X 0 1269 [some (vP 1000), some (vP 0), some (vP 80), some (vI i)] [] σ = some (some (vI 1), σ')
theorem law_I {a b : Nat} {i : Int} (js : List Nat) (hR : RR X σ) (go : ∀ τ, Rel X τ → RR X τ → Go X i τ) (Q : Qc X a b (js.map (fun j => vI (σ 1000 j))) σ) : ∃ σ', ((vcI X a (vP 0 :: js.map (fun j => vI (σ 1000 j))) σ).bind fun q1 => (vcI X b (vP 80 :: js.map (fun j => vI (q1.2 1000 j))) q1.2).bind fun q2 => if q1.1 = q2.1 then vv X 0 1269 [some (vP 1000), some (vP 0), some (vP 80), some (vI i)] [] q2.2 else some (some (vI 0), q2.2)) = some (some (vI 1), σ') := by
  obtain ⟨v, σ1, σ2, e1, e2, hr⟩ := Q
  have k1 := vv_keep hR (ok_js hR js ok_0) (vcI_vv e1)
  have k0 : σ1 1000 = σ 1000 := k1.2 1000 (Nat.le_refl _)
  have k2 := vv_keep k1.1 (by rw [← k0]; exact ok_js k1.1 js ok_80) (vcI_vv e2)
  rw [e1, bsome]
  dsimp +instances only
  rw [k0, e2, bsome]
  dsimp +instances only
  rw [if_pos rfl]
  exact go σ2 hr k2.1
theorem lcmp0 (v : Int) : am_lcmp v v = 0 := by
  unfold am_lcmp
  rw [if_neg (by omega)]
  rw [if_pos rfl]
theorem law_J {a b : Nat} {i : Int} (js : List Nat) (hR : RR X σ) (go : ∀ τ, Rel X τ → RR X τ → Go X i τ) (Q : Qj X a b (js.map (fun j => vI (σ 1000 j))) σ) : ∃ σ', ((vcJ X a (vP 0 :: js.map (fun j => vI (σ 1000 j))) σ).bind fun q1 => (vcJ X b (vP 80 :: js.map (fun j => vI (q1.2 1000 j))) q1.2).bind fun q2 => if am_lcmp q1.1 q2.1 = 0 then vv X 0 1269 [some (vP 1000), some (vP 0), some (vP 80), some (vI i)] [] q2.2 else some (some (vI 0), q2.2)) = some (some (vI 1), σ') := by
  obtain ⟨v, σ1, σ2, e1, e2, hr⟩ := Q
  have k1 := vv_keep hR (ok_js hR js ok_0) (vcJ_vv e1)
  have k0 : σ1 1000 = σ 1000 := k1.2 1000 (Nat.le_refl _)
  have k2 := vv_keep k1.1 (by rw [← k0]; exact ok_js k1.1 js ok_80) (vcJ_vv e2)
  rw [e1, bsome]
  dsimp +instances only
  rw [k0, e2, bsome]
  dsimp +instances only
  rw [if_pos (lcmp0 v)]
  exact go σ2 hr k2.1
theorem ok_3 (hR : RR X σ) {j1 j2 : Nat} {e : Int} (he : 0 ≤ e ∧ e ≤ 1) {p : am_V} (hp : am_okV am_SK.length p) : ∀ v ∈ [p, vI (σ 1000 j1), vI (σ 1000 j2), vI e], am_okV am_SK.length v := by
  intro v hv
  rcases List.mem_cons.mp hv with q | hv
  · rw [q]; exact hp
  rcases List.mem_cons.mp hv with q | hv
  · rw [q]; exact ok_scr hR j1
  rcases List.mem_cons.mp hv with q | hv
  · rw [q]; exact ok_scr hR j2
  rcases List.mem_cons.mp hv with q | hv
  · rw [q]
    show -2147483648 ≤ e ∧ e < 2147483648
    omega
  · cases hv
theorem law_least {i : Nat} (hX : X < 2147483648) (hi : i + 6 ≤ X) (hR : RR X σ) (go : ∀ τ, Rel X τ → RR X τ → Go X (i : Int) τ) (h : Rel X σ) : ∃ σ', (if σ 1000 (w32 ((i : Int) + 3)).toNat = 0 then vv X 0 803 [some (vP 1000), some (vP 0), some (vP 80), some (vI (i : Int))] [vI 0, vI (σ 1000 (w32 ((i : Int) + 2)).toNat), vI (σ 1000 (w32 ((i : Int) + 1)).toNat), vP 0] σ else vv X 0 803 [some (vP 1000), some (vP 0), some (vP 80), some (vI (i : Int))] [vI 1, vI (σ 1000 (w32 ((i : Int) + 2)).toNat), vI (σ 1000 (w32 ((i : Int) + 1)).toNat), vP 0] σ) = some (some (vI 1), σ') := by
  have g1 : 0 ≤ w32 ((i : Int) + 1) ∧ w32 ((i : Int) + 1) < (X : Int) := by rw [w32_id (by omega) (by omega)]; omega
  have g2 : 0 ≤ w32 ((i : Int) + 2) ∧ w32 ((i : Int) + 2) < (X : Int) := by rw [w32_id (by omega) (by omega)]; omega
  have g3 : 0 ≤ w32 ((i : Int) + 3) ∧ w32 ((i : Int) + 3) < (X : Int) := by rw [w32_id (by omega) (by omega)]; omega
  by_cases z : σ 1000 (w32 ((i : Int) + 3)).toNat = 0
  · obtain ⟨v, σ1, σ2, e1, e2, hr⟩ := q_least h (σ 1000 (w32 ((i : Int) + 1)).toNat) (σ 1000 (w32 ((i : Int) + 2)).toNat) 0
    have k1 := vv_keep hR (ok_3 hR (by omega) ok_0) (vcI_vv e1)
    have k0 : σ1 1000 = σ 1000 := k1.2 1000 (Nat.le_refl _)
    have k2 := vv_keep k1.1 (by rw [← k0]; exact ok_3 k1.1 (by omega) ok_80) (vcI_vv e2)
    rw [if_pos z, bq_0_803 X hX, e1, bsome]
    dsimp +instances only
    rw [k0, if_pos g1, if_pos g2, if_pos g3, if_pos z, bq_0_830 X hX, e2, bsome]
    dsimp +instances only
    rw [if_pos rfl]
    exact go σ2 hr k2.1
  · obtain ⟨v, σ1, σ2, e1, e2, hr⟩ := q_least h (σ 1000 (w32 ((i : Int) + 1)).toNat) (σ 1000 (w32 ((i : Int) + 2)).toNat) 1
    have k1 := vv_keep hR (ok_3 hR (by omega) ok_0) (vcI_vv e1)
    have k0 : σ1 1000 = σ 1000 := k1.2 1000 (Nat.le_refl _)
    have k2 := vv_keep k1.1 (by rw [← k0]; exact ok_3 k1.1 (by omega) ok_80) (vcI_vv e2)
    rw [if_neg z, bq_0_803 X hX, e1, bsome]
    dsimp +instances only
    rw [k0, if_pos g1, if_pos g2, if_pos g3, if_neg z, bq_0_830 X hX, e2, bsome]
    dsimp +instances only
    rw [if_pos rfl]
    exact go σ2 hr k2.1
theorem law_hourOf {i : Nat} (hX : X < 2147483648) (hi : i + 6 ≤ X) (hR : RR X σ) (go : ∀ τ, Rel X τ → RR X τ → Go X (i : Int) τ) (h : Rel X σ) : ∃ σ', (if σ 1000 (w32 ((i : Int) + 3)).toNat = 0 then vv X 0 905 [some (vP 1000), some (vP 0), some (vP 80), some (vI (i : Int))] [vI 0, vI (σ 1000 (w32 ((i : Int) + 2)).toNat), vI (σ 1000 (w32 ((i : Int) + 1)).toNat), vP 0] σ else vv X 0 905 [some (vP 1000), some (vP 0), some (vP 80), some (vI (i : Int))] [vI 1, vI (σ 1000 (w32 ((i : Int) + 2)).toNat), vI (σ 1000 (w32 ((i : Int) + 1)).toNat), vP 0] σ) = some (some (vI 1), σ') := by
  have g1 : 0 ≤ w32 ((i : Int) + 1) ∧ w32 ((i : Int) + 1) < (X : Int) := by rw [w32_id (by omega) (by omega)]; omega
  have g2 : 0 ≤ w32 ((i : Int) + 2) ∧ w32 ((i : Int) + 2) < (X : Int) := by rw [w32_id (by omega) (by omega)]; omega
  have g3 : 0 ≤ w32 ((i : Int) + 3) ∧ w32 ((i : Int) + 3) < (X : Int) := by rw [w32_id (by omega) (by omega)]; omega
  by_cases z : σ 1000 (w32 ((i : Int) + 3)).toNat = 0
  · obtain ⟨v, σ1, σ2, e1, e2, hr⟩ := q_hourOf h (σ 1000 (w32 ((i : Int) + 1)).toNat) (σ 1000 (w32 ((i : Int) + 2)).toNat) 0
    have k1 := vv_keep hR (ok_3 hR (by omega) ok_0) (vcI_vv e1)
    have k0 : σ1 1000 = σ 1000 := k1.2 1000 (Nat.le_refl _)
    have k2 := vv_keep k1.1 (by rw [← k0]; exact ok_3 k1.1 (by omega) ok_80) (vcI_vv e2)
    rw [if_pos z, bq_0_905 X hX, e1, bsome]
    dsimp +instances only
    rw [k0, if_pos g1, if_pos g2, if_pos g3, if_pos z, bq_0_932 X hX, e2, bsome]
    dsimp +instances only
    rw [if_pos rfl]
    exact go σ2 hr k2.1
  · obtain ⟨v, σ1, σ2, e1, e2, hr⟩ := q_hourOf h (σ 1000 (w32 ((i : Int) + 1)).toNat) (σ 1000 (w32 ((i : Int) + 2)).toNat) 1
    have k1 := vv_keep hR (ok_3 hR (by omega) ok_0) (vcI_vv e1)
    have k0 : σ1 1000 = σ 1000 := k1.2 1000 (Nat.le_refl _)
    have k2 := vv_keep k1.1 (by rw [← k0]; exact ok_3 k1.1 (by omega) ok_80) (vcI_vv e2)
    rw [if_neg z, bq_0_905 X hX, e1, bsome]
    dsimp +instances only
    rw [k0, if_pos g1, if_pos g2, if_pos g3, if_neg z, bq_0_932 X hX, e2, bsome]
    dsimp +instances only
    rw [if_pos rfl]
    exact go σ2 hr k2.1
theorem law_turn {i : Nat} (hX : X ≤ 3072) (hread : ∀ τ, Rel X τ → Qc X 7 8 [] τ) (hi : i + 6 ≤ X) (hR : RR X σ) (go : ∀ τ, Rel X τ → RR X τ → Go X (i : Int) τ) (h : Rel X σ) : ∃ σ', vv X 0 18 [some (vP 1000), some (vP 0), some (vP 80), some (vI (i : Int))] [] σ = some (some (vI 1), σ') := by
  have hX' : X < 2147483648 := by omega
  have g1 : 0 ≤ w32 ((i : Int) + 1) ∧ w32 ((i : Int) + 1) < (X : Int) := by rw [w32_id (by omega) (by omega)]; omega
  have g2 : 0 ≤ w32 ((i : Int) + 2) ∧ w32 ((i : Int) + 2) < (X : Int) := by rw [w32_id (by omega) (by omega)]; omega
  have g3 : 0 ≤ w32 ((i : Int) + 3) ∧ w32 ((i : Int) + 3) < (X : Int) := by rw [w32_id (by omega) (by omega)]; omega
  have g4 : 0 ≤ w32 ((i : Int) + 4) ∧ w32 ((i : Int) + 4) < (X : Int) := by rw [w32_id (by omega) (by omega)]; omega
  have g5 : 0 ≤ w32 ((i : Int) + 5) ∧ w32 ((i : Int) + 5) < (X : Int) := by rw [w32_id (by omega) (by omega)]; omega
  rw [bq_0_18 X hX', if_neg (show ¬ w32 ((X : Int) - 6) < (i : Int) by rw [w32_id (by omega) (by omega)]; omega), if_pos (show 0 ≤ (i : Int) ∧ (i : Int) < (X : Int) by omega)]
  by_cases h0 : am_and (σ 1000 (i : Int).toNat) 63 = 0
  · rw [if_pos h0, if_pos g1, if_pos g2, if_pos g3, if_pos g4, if_pos g5]
    exact law_I [(w32 ((i : Int) + 1)).toNat, (w32 ((i : Int) + 2)).toNat, (w32 ((i : Int) + 3)).toNat, (w32 ((i : Int) + 4)).toNat, (w32 ((i : Int) + 5)).toNat] hR go (q_feed h _ _ _ _ _)
  rw [if_neg h0]
  by_cases h1 : am_and (σ 1000 (i : Int).toNat) 63 = 1
  · rw [if_pos h1, if_pos g1]
    exact law_I [(w32 ((i : Int) + 1)).toNat] hR go (q_back h _)
  rw [if_neg h1]
  by_cases h2 : am_and (σ 1000 (i : Int).toNat) 63 = 2
  · rw [if_pos h2]
    exact law_I [] hR go (hread σ h)
  rw [if_neg h2]
  by_cases h3 : am_and (σ 1000 (i : Int).toNat) 63 = 3
  · rw [if_pos h3]
    exact law_I [] hR go (q_place h)
  rw [if_neg h3]
  by_cases h4 : am_and (σ 1000 (i : Int).toNat) 63 = 4
  · rw [if_pos h4, if_pos g1, if_pos g2]
    exact law_I [(w32 ((i : Int) + 1)).toNat, (w32 ((i : Int) + 2)).toNat] hR go (q_man h _ _)
  rw [if_neg h4]
  by_cases h5 : am_and (σ 1000 (i : Int).toNat) 63 = 5
  · rw [if_pos h5, if_pos g1, if_pos g2]
    exact law_I [(w32 ((i : Int) + 1)).toNat, (w32 ((i : Int) + 2)).toNat] hR go (q_dish h _ _)
  rw [if_neg h5]
  by_cases h6 : am_and (σ 1000 (i : Int).toNat) 63 = 6
  · rw [if_pos h6, if_pos g1, if_pos g2, if_pos g3]
    exact law_I [(w32 ((i : Int) + 1)).toNat, (w32 ((i : Int) + 2)).toNat, (w32 ((i : Int) + 3)).toNat] hR go (q_toll h _ _ _)
  rw [if_neg h6]
  by_cases h7 : am_and (σ 1000 (i : Int).toNat) 63 = 7
  · rw [if_pos h7, if_pos g1, if_pos g2]
    exact law_I [(w32 ((i : Int) + 1)).toNat, (w32 ((i : Int) + 2)).toNat] hR go (q_may h _ _)
  rw [if_neg h7]
  by_cases h8 : am_and (σ 1000 (i : Int).toNat) 63 = 8
  · rw [if_pos h8, if_pos g1, if_pos g2]
    exact law_I [(w32 ((i : Int) + 1)).toNat, (w32 ((i : Int) + 2)).toNat] hR go (q_pass h _ _)
  rw [if_neg h8]
  by_cases h9 : am_and (σ 1000 (i : Int).toNat) 63 = 9
  · rw [if_pos h9, if_pos g1]
    exact law_I [(w32 ((i : Int) + 1)).toNat] hR go (q_later h _)
  rw [if_neg h9]
  by_cases h10 : am_and (σ 1000 (i : Int).toNat) 63 = 10
  · rw [if_pos h10]
    exact law_I [] hR go (q_undo h)
  rw [if_neg h10]
  by_cases h11 : am_and (σ 1000 (i : Int).toNat) 63 = 11
  · rw [if_pos h11, if_pos g1, if_pos g2]
    exact law_I [(w32 ((i : Int) + 1)).toNat, (w32 ((i : Int) + 2)).toNat] hR go (q_when h _ _)
  rw [if_neg h11]
  by_cases h12 : am_and (σ 1000 (i : Int).toNat) 63 = 12
  · rw [if_pos h12, if_pos g1, if_pos g2, if_pos g3]
    exact law_I [(w32 ((i : Int) + 1)).toNat, (w32 ((i : Int) + 2)).toNat, (w32 ((i : Int) + 3)).toNat] hR go (q_hire h _ _ _)
  rw [if_neg h12]
  by_cases h13 : am_and (σ 1000 (i : Int).toNat) 63 = 13
  · rw [if_pos h13, if_pos g1, if_pos g2]
    exact law_I [(w32 ((i : Int) + 1)).toNat, (w32 ((i : Int) + 2)).toNat] hR go (q_tongue h _ _)
  rw [if_neg h13]
  by_cases h14 : am_and (σ 1000 (i : Int).toNat) 63 = 14
  · rw [if_pos h14, if_pos g1, if_pos g2, if_pos g3]
    exact law_I [(w32 ((i : Int) + 1)).toNat, (w32 ((i : Int) + 2)).toNat, (w32 ((i : Int) + 3)).toNat] hR go (q_together h _ _ _)
  rw [if_neg h14]
  by_cases h15 : am_and (σ 1000 (i : Int).toNat) 63 = 15
  · rw [if_pos h15, if_pos g1, if_pos g2, if_pos g3]
    exact law_I [(w32 ((i : Int) + 1)).toNat, (w32 ((i : Int) + 2)).toNat, (w32 ((i : Int) + 3)).toNat] hR go (q_split h _ _ _)
  rw [if_neg h15]
  by_cases h16 : am_and (σ 1000 (i : Int).toNat) 63 = 16
  · rw [if_pos h16, if_pos g1, if_pos g2, if_pos g3]
    exact law_J [(w32 ((i : Int) + 1)).toNat, (w32 ((i : Int) + 2)).toNat, (w32 ((i : Int) + 3)).toNat] hR go (q_odds h _ _ _)
  rw [if_neg h16]
  by_cases h17 : am_and (σ 1000 (i : Int).toNat) 63 = 17
  · rw [if_pos h17, if_pos g1, if_pos g2]
    exact law_I [(w32 ((i : Int) + 1)).toNat, (w32 ((i : Int) + 2)).toNat] hR go (q_soonest h _ _)
  rw [if_neg h17]
  by_cases h18 : am_and (σ 1000 (i : Int).toNat) 63 = 18
  · rw [if_pos h18, if_pos g1, if_pos g2, if_pos g3]
    exact law_least hX' hi hR go h
  rw [if_neg h18]
  by_cases h19 : am_and (σ 1000 (i : Int).toNat) 63 = 19
  · rw [if_pos h19, if_pos g1, if_pos g2, if_pos g3]
    exact law_I [(w32 ((i : Int) + 1)).toNat, (w32 ((i : Int) + 2)).toNat, (w32 ((i : Int) + 3)).toNat] hR go (q_crowd h _ _ _)
  rw [if_neg h19]
  by_cases h20 : am_and (σ 1000 (i : Int).toNat) 63 = 20
  · rw [if_pos h20, if_pos g1, if_pos g2, if_pos g3]
    exact law_hourOf hX' hi hR go h
  rw [if_neg h20]
  by_cases h21 : am_and (σ 1000 (i : Int).toNat) 63 = 21
  · rw [if_pos h21, if_pos g1, if_pos g2]
    exact law_I [(w32 ((i : Int) + 1)).toNat, (w32 ((i : Int) + 2)).toNat] hR go (q_best h _ _)
  rw [if_neg h21]
  by_cases h22 : am_and (σ 1000 (i : Int).toNat) 63 = 22
  · rw [if_pos h22, if_pos g1]
    exact law_I [(w32 ((i : Int) + 1)).toNat] hR go (q_day h _)
  rw [if_neg h22]
  by_cases h23 : am_and (σ 1000 (i : Int).toNat) 63 = 23
  · rw [if_pos h23, if_pos g1]
    exact law_I [(w32 ((i : Int) + 1)).toNat] hR go (q_net h _)
  rw [if_neg h23]
  by_cases h24 : am_and (σ 1000 (i : Int).toNat) 63 = 24
  · rw [if_pos h24]
    exact law_I [] hR go (q_cleared h)
  rw [if_neg h24]
  by_cases h25 : am_and (σ 1000 (i : Int).toNat) 63 = 25
  · rw [if_pos h25, if_pos g1]
    exact law_I [(w32 ((i : Int) + 1)).toNat] hR go (q_gained h _)
  rw [if_neg h25]
  by_cases h26 : am_and (σ 1000 (i : Int).toNat) 63 = 26
  · rw [if_pos h26, if_pos g1, if_pos g2, if_pos g3]
    exact law_I [(w32 ((i : Int) + 1)).toNat, (w32 ((i : Int) + 2)).toNat, (w32 ((i : Int) + 3)).toNat] hR go (q_enter h _ _ _)
  rw [if_neg h26]
  by_cases h27 : am_and (σ 1000 (i : Int).toNat) 63 = 27
  · rw [if_pos h27]
    exact law_I [] hR go (q_burn h)
  rw [if_neg h27]
  by_cases h28 : am_and (σ 1000 (i : Int).toNat) 63 = 28
  · rw [if_pos h28, if_pos g1]
    exact law_I [(w32 ((i : Int) + 1)).toNat] hR go (q_judge h _)
  rw [if_neg h28]
  by_cases h29 : am_and (σ 1000 (i : Int).toNat) 63 = 29
  · rw [if_pos h29, if_pos g1]
    exact law_I [(w32 ((i : Int) + 1)).toNat] hR go (q_odd h _)
  rw [if_neg h29]
  by_cases h30 : am_and (σ 1000 (i : Int).toNat) 63 = 30
  · rw [if_pos h30, if_pos g1, if_pos g2, if_pos g3]
    exact law_I [(w32 ((i : Int) + 1)).toNat, (w32 ((i : Int) + 2)).toNat, (w32 ((i : Int) + 3)).toNat] hR go (q_led h _ _ _)
  rw [if_neg h30]
  by_cases h31 : am_and (σ 1000 (i : Int).toNat) 63 = 31
  · rw [if_pos h31, if_pos g1]
    exact law_I [(w32 ((i : Int) + 1)).toNat] hR go (q_hold h _)
  rw [if_neg h31]
  by_cases h32 : am_and (σ 1000 (i : Int).toNat) 63 = 32
  · rw [if_pos h32, if_pos g1]
    exact law_I [(w32 ((i : Int) + 1)).toNat] hR go (q_restore h _)
  rw [if_neg h32]
  by_cases h33 : am_and (σ 1000 (i : Int).toNat) 63 = 33
  · rw [if_pos h33, if_pos g1]
    exact law_I [(w32 ((i : Int) + 1)).toNat] hR go (q_count h _)
  rw [if_neg h33]
  exact go σ h hR
theorem law_loop (hX : X ≤ 3072) (hread : ∀ τ, Rel X τ → Qc X 7 8 [] τ) : ∀ (n i : Nat) (σ : am_Sg), X ≤ i + n → i ≤ 3078 → Rel X σ → RR X σ → ∃ σ', vv X 0 18 [some (vP 1000), some (vP 0), some (vP 80), some (vI (i : Int))] [] σ = some (some (vI 1), σ')
  | 0, i, σ, hn, hi, _, _ => by
    refine ⟨σ, ?_⟩
    rw [bq_0_18 X (by omega), if_pos (show w32 ((X : Int) - 6) < (i : Int) by rw [w32_id (by omega) (by omega)]; omega)]
  | n + 1, i, σ, hn, hi, h, hR => by
    by_cases z : X < i + 6
    · refine ⟨σ, ?_⟩
      rw [bq_0_18 X (by omega), if_pos (show w32 ((X : Int) - 6) < (i : Int) by rw [w32_id (by omega) (by omega)]; omega)]
    · refine law_turn hX hread (by omega) hR (fun τ h1 h2 => ?_) h
      obtain ⟨σ', e⟩ := law_loop hX hread n (i + 6) τ (by omega) (by omega) h1 h2
      refine ⟨σ', ?_⟩
      rw [bq_0_1269 X (by omega), show w32 ((i : Int) + 6) = ((i + 6 : Nat) : Int) by rw [w32_id (by omega) (by omega)]; omega]
      exact e
end LAW
