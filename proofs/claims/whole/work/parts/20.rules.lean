/-! equations of the machine over the contents, an op each; X: the script's length -/
noncomputable def vv (X : Nat) : am_F := am_vv am_SK (am_ro X)
theorem vv_bd (X mid pc : Nat) (L : am_L) (S : List am_V) (σ : am_Sg) : vv X mid pc L S σ = am_bd am_SK (am_ro X) (vv X) mid pc L S σ := am_vv_bd mid pc L S σ
section RUL
variable {X mid pc pc' op len a b d k j N r : Nat} {c x y i M : Int} {ks offs rs : List Nat} {L L' : am_L} {S S' : List am_V} {σ : am_Sg} {v u : am_V}
theorem vq_st {σ' : am_Sg} (hk : am_code mid pc = some (op, len, a, b, d, c, ks, offs)) (hK : am_kill ks L = L) (h29 : ¬ op = 29) (h30 : ¬ op = 30) (hkp : am_keepB op a b = true) (hs : am_step am_ftab (op, len, a, b, d, c, ks, offs) pc L S (am_SK, am_ro X, σ) = some (pc', L', S', (am_SK, am_ro X, σ'))) : vv X mid pc L S σ = vv X mid pc' L' S' σ' := by
  rw [vv_bd]
  unfold am_bd
  rw [hk]
  dsimp only
  rw [if_neg h29, if_neg h30, hK, hs]
  dsimp only
  rw [if_pos hkp]
theorem vq_no (hk : am_code mid pc = some (op, len, a, b, d, c, ks, offs)) (hK : am_kill ks L = L) (h29 : ¬ op = 29) (h30 : ¬ op = 30) (hs : am_step am_ftab (op, len, a, b, d, c, ks, offs) pc L S (am_SK, am_ro X, σ) = none) : vv X mid pc L S σ = none := by
  rw [vv_bd]
  unfold am_bd
  rw [hk]
  dsimp only
  rw [if_neg h29, if_neg h30, hK, hs]
theorem vq_kill (hk : am_code mid pc = some (op, len, a, b, d, c, ks, offs)) (h1 : am_kill ks L = L') (h2 : am_kill ks L' = L') : vv X mid pc L S σ = vv X mid pc L' S σ := by
  rw [vv_bd, vv_bd X mid pc L']
  unfold am_bd
  rw [hk]
  dsimp only
  rw [h1, h2]
theorem vq_iload (hk : am_code mid pc = some (0, len, a, b, d, c, ks, offs)) (hK : am_kill ks L = L) (hL : L[a]? = some (some (vI x))) : vv X mid pc L S σ = vv X mid (pc + len) L (vI x :: S) σ :=
  vq_st hk hK (by decide) (by decide) rfl (show am_sload 0 a (pc + len) L S (am_SK, am_ro X, σ) = _ by unfold am_sload; rw [hL]; rfl)
theorem vq_lload (hk : am_code mid pc = some (1, len, a, b, d, c, ks, offs)) (hK : am_kill ks L = L) (hL : L[a]? = some (some (vJ x))) : vv X mid pc L S σ = vv X mid (pc + len) L (vJ x :: S) σ :=
  vq_st hk hK (by decide) (by decide) rfl (show am_sload 1 a (pc + len) L S (am_SK, am_ro X, σ) = _ by unfold am_sload; rw [hL]; rfl)
theorem vq_aload (hk : am_code mid pc = some (2, len, a, b, d, c, ks, offs)) (hK : am_kill ks L = L) (hL : L[a]? = some (some (vP k))) : vv X mid pc L S σ = vv X mid (pc + len) L (vP k :: S) σ :=
  vq_st hk hK (by decide) (by decide) rfl (show am_sload 2 a (pc + len) L S (am_SK, am_ro X, σ) = _ by unfold am_sload; rw [hL]; rfl)
theorem vq_istore (hk : am_code mid pc = some (3, len, a, b, d, c, ks, offs)) (hK : am_kill ks L = L) (hlt : Nat.ble (a + 1) L.length = true) (hL : am_st L a (vI x) = L') : vv X mid pc L (vI x :: S) σ = vv X mid (pc + len) L' S σ :=
  vq_st hk hK (by decide) (by decide) rfl (show am_sstore 0 a (pc + len) L (vI x :: S) (am_SK, am_ro X, σ) = _ by unfold am_sstore; dsimp only; rw [if_pos ⟨rfl, Nat.le_of_ble_eq_true hlt⟩, hL])
theorem vq_lstore (hk : am_code mid pc = some (4, len, a, b, d, c, ks, offs)) (hK : am_kill ks L = L) (hlt : Nat.ble (a + 2) L.length = true) (hL : am_st L a (vJ x) = L') : vv X mid pc L (vJ x :: S) σ = vv X mid (pc + len) L' S σ :=
  vq_st hk hK (by decide) (by decide) rfl (show am_sstore 1 a (pc + len) L (vJ x :: S) (am_SK, am_ro X, σ) = _ by unfold am_sstore; dsimp only; rw [if_pos ⟨rfl, Nat.le_of_ble_eq_true hlt⟩, hL])
theorem vq_ic (hk : am_code mid pc = some (6, len, a, b, d, c, ks, offs)) (hK : am_kill ks L = L) : vv X mid pc L S σ = vv X mid (pc + len) L (vI c :: S) σ := vq_st hk hK (by decide) (by decide) rfl rfl
theorem vq_lc (hk : am_code mid pc = some (7, len, a, b, d, c, ks, offs)) (hK : am_kill ks L = L) : vv X mid pc L S σ = vv X mid (pc + len) L (vJ c :: S) σ := vq_st hk hK (by decide) (by decide) rfl rfl
theorem vq_bin (hk : am_code mid pc = some (8, len, a, b, d, c, ks, offs)) (hK : am_kill ks L = L) : vv X mid pc L (vI y :: vI x :: S) σ = vv X mid (pc + len) L (vI (am_bin a x y) :: S) σ := vq_st hk hK (by decide) (by decide) rfl rfl
theorem vq_div (hk : am_code mid pc = some (9, len, a, b, d, c, ks, offs)) (hK : am_kill ks L = L) : vv X mid pc L (vI y :: vI x :: S) σ = if y = 0 then none else vv X mid (pc + len) L (vI (am_div x y) :: S) σ := by
  by_cases h : y = 0
  · rw [if_pos h]
    exact vq_no hk hK (by decide) (by decide) (by show am_sdiv 0 (pc + len) L (vI y :: vI x :: S) (am_SK, am_ro X, σ) = none; unfold am_sdiv; dsimp only; rw [if_pos h])
  · rw [if_neg h]
    exact vq_st hk hK (by decide) (by decide) rfl (by show am_sdiv 0 (pc + len) L (vI y :: vI x :: S) (am_SK, am_ro X, σ) = _; unfold am_sdiv; dsimp only; rw [if_neg h]; rfl)
theorem vq_rem (hk : am_code mid pc = some (10, len, a, b, d, c, ks, offs)) (hK : am_kill ks L = L) : vv X mid pc L (vI y :: vI x :: S) σ = if y = 0 then none else vv X mid (pc + len) L (vI (am_rem x y) :: S) σ := by
  by_cases h : y = 0
  · rw [if_pos h]
    exact vq_no hk hK (by decide) (by decide) (by show am_sdiv 1 (pc + len) L (vI y :: vI x :: S) (am_SK, am_ro X, σ) = none; unfold am_sdiv; dsimp only; rw [if_pos h])
  · rw [if_neg h]
    exact vq_st hk hK (by decide) (by decide) rfl (by show am_sdiv 1 (pc + len) L (vI y :: vI x :: S) (am_SK, am_ro X, σ) = _; unfold am_sdiv; dsimp only; rw [if_neg h]; rfl)
theorem vq_neg (hk : am_code mid pc = some (11, len, a, b, d, c, ks, offs)) (hK : am_kill ks L = L) : vv X mid pc L (vI x :: S) σ = vv X mid (pc + len) L (vI (w32 (-x)) :: S) σ := vq_st hk hK (by decide) (by decide) rfl rfl
theorem vq_lbin (hk : am_code mid pc = some (12, len, a, b, d, c, ks, offs)) (hK : am_kill ks L = L) : vv X mid pc L (vJ y :: vJ x :: S) σ = vv X mid (pc + len) L (vJ (am_lbin a x y) :: S) σ := vq_st hk hK (by decide) (by decide) rfl rfl
theorem vq_i2l (hk : am_code mid pc = some (13, len, 0, b, d, c, ks, offs)) (hK : am_kill ks L = L) : vv X mid pc L (vI x :: S) σ = vv X mid (pc + len) L (vJ x :: S) σ := vq_st hk hK (by decide) (by decide) rfl rfl
theorem vq_l2i (hk : am_code mid pc = some (13, len, 1, b, d, c, ks, offs)) (hK : am_kill ks L = L) : vv X mid pc L (vJ x :: S) σ = vv X mid (pc + len) L (vI (w32 x) :: S) σ := vq_st hk hK (by decide) (by decide) rfl rfl
theorem vq_i2b (hk : am_code mid pc = some (13, len, 2, b, d, c, ks, offs)) (hK : am_kill ks L = L) : vv X mid pc L (vI x :: S) σ = vv X mid (pc + len) L (vI (am_i2b x) :: S) σ := vq_st hk hK (by decide) (by decide) rfl rfl
theorem vq_i2c (hk : am_code mid pc = some (13, len, 3, b, d, c, ks, offs)) (hK : am_kill ks L = L) : vv X mid pc L (vI x :: S) σ = vv X mid (pc + len) L (vI (am_i2c x) :: S) σ := vq_st hk hK (by decide) (by decide) rfl rfl
theorem vq_lcmp (hk : am_code mid pc = some (14, len, a, b, d, c, ks, offs)) (hK : am_kill ks L = L) : vv X mid pc L (vJ y :: vJ x :: S) σ = vv X mid (pc + len) L (vI (am_lcmp x y) :: S) σ := vq_st hk hK (by decide) (by decide) rfl rfl
theorem vq_inc (hk : am_code mid pc = some (15, len, a, b, d, c, ks, offs)) (hK : am_kill ks L = L) (hx : L[a]? = some (some (vI x))) (hL : am_st L a (vI (w32 (x + c))) = L') : vv X mid pc L S σ = vv X mid (pc + len) L' S σ :=
  vq_st hk hK (by decide) (by decide) rfl (show am_sinc a c (pc + len) L S (am_SK, am_ro X, σ) = _ by unfold am_sinc; rw [hx]; dsimp only; rw [hL])
theorem vq_if (hk : am_code mid pc = some (16, len, a, b, d, c, ks, offs)) (hK : am_kill ks L = L) : vv X mid pc L (vI x :: S) σ = if am_cnd a x 0 = true then vv X mid b L S σ else vv X mid (pc + len) L S σ := by
  refine (vq_st hk hK (by decide) (by decide) rfl rfl).trans ?_
  by_cases h : am_cnd a x 0 = true
  · rw [if_pos h, if_pos h]
  · rw [if_neg h, if_neg h]
theorem vq_icmp (hk : am_code mid pc = some (17, len, a, b, d, c, ks, offs)) (hK : am_kill ks L = L) : vv X mid pc L (vI y :: vI x :: S) σ = if am_cnd a x y = true then vv X mid b L S σ else vv X mid (pc + len) L S σ := by
  refine (vq_st hk hK (by decide) (by decide) rfl rfl).trans ?_
  by_cases h : am_cnd a x y = true
  · rw [if_pos h, if_pos h]
  · rw [if_neg h, if_neg h]
theorem vq_goto (hk : am_code mid pc = some (18, len, a, b, d, c, ks, offs)) (hK : am_kill ks L = L) : vv X mid pc L S σ = vv X mid b L S σ := vq_st hk hK (by decide) (by decide) rfl rfl
theorem vq_tsw (hk : am_code mid pc = some (19, len, a, b, d, c, ks, offs)) (hK : am_kill ks L = L) : vv X mid pc L (vI x :: S) σ = if x < c ∨ c + (offs.length : Int) ≤ x then vv X mid b L S σ else vv X mid (offs.getD (x - c).toNat 0) L S σ := by
  by_cases h : x < c ∨ c + (offs.length : Int) ≤ x
  · rw [if_pos h]
    exact vq_st hk hK (by decide) (by decide) rfl (show am_stsw b c offs L (vI x :: S) (am_SK, am_ro X, σ) = _ by unfold am_stsw; dsimp only; rw [if_pos h])
  · rw [if_neg h]
    have hlt : (x - c).toNat < offs.length := by omega
    have hg : offs[(x - c).toNat]? = some (offs.getD (x - c).toNat 0) := by
      rw [List.getD_eq_getElem?_getD, List.getElem?_eq_getElem hlt]
      rfl
    exact vq_st hk hK (by decide) (by decide) rfl (show am_stsw b c offs L (vI x :: S) (am_SK, am_ro X, σ) = _ by unfold am_stsw; dsimp only; rw [if_neg h, hg])
theorem vq_dupI (hk : am_code mid pc = some (20, len, a, b, d, c, ks, offs)) (hK : am_kill ks L = L) : vv X mid pc L (vI x :: S) σ = vv X mid (pc + len) L (vI x :: vI x :: S) σ := vq_st hk hK (by decide) (by decide) rfl rfl
theorem vq_dupP (hk : am_code mid pc = some (20, len, a, b, d, c, ks, offs)) (hK : am_kill ks L = L) : vv X mid pc L (vP k :: S) σ = vv X mid (pc + len) L (vP k :: vP k :: S) σ := vq_st hk hK (by decide) (by decide) rfl rfl
theorem vq_dup2 (hk : am_code mid pc = some (21, len, a, b, d, c, ks, offs)) (hK : am_kill ks L = L) : vv X mid pc L (vI x :: vP k :: S) σ = vv X mid (pc + len) L (vI x :: vP k :: vI x :: vP k :: S) σ := vq_st hk hK (by decide) (by decide) rfl rfl
theorem vq_popI (hk : am_code mid pc = some (22, len, a, b, d, c, ks, offs)) (hK : am_kill ks L = L) : vv X mid pc L (vI x :: S) σ = vv X mid (pc + len) L S σ := vq_st hk hK (by decide) (by decide) rfl rfl
theorem am_sk_dsc {cc : am_C} (h : am_SK[k]? = some cc) : am_dsc (am_SK, am_ro X, σ) k = some cc := am_dsc_rw (μ := (am_SK, am_ro X, σ)) (show am_SK.length ≤ 1000 by decide +kernel) h
theorem vq_getI (hk : am_code mid pc = some (23, len, a, b, d, c, ks, offs)) (hK : am_kill ks L = L) (hd : am_SK[k]? = some (4 + a, N, rs)) (hb : Nat.ble (b + 1) N = true) (ht : Nat.ble (am_ft am_ftab a b) 2 = true) : vv X mid pc L (vP k :: S) σ = vv X mid (pc + len) L (vI (σ k b) :: S) σ := by
  refine vq_st hk hK (by decide) (by decide) rfl (show am_sgetf am_ftab a b (pc + len) L (vP k :: S) (am_SK, am_ro X, σ) = some (pc + len, L, vI (σ k b) :: S, (am_SK, am_ro X, σ)) from ?_)
  have ht := Nat.le_of_ble_eq_true ht
  have hf : am_fget am_ftab σ k a b rs = some (vI (σ k b)) := by
    unfold am_fget
    rcases (by omega : am_ft am_ftab a b = 0 ∨ am_ft am_ftab a b = 1 ∨ am_ft am_ftab a b = 2) with z | z | z <;> rw [z] <;> rfl
  unfold am_sgetf
  dsimp only
  rw [am_sk_dsc hd]
  dsimp only
  rw [if_pos ⟨rfl, Nat.le_of_ble_eq_true hb⟩, hf]
theorem vq_getJ (hk : am_code mid pc = some (23, len, a, b, d, c, ks, offs)) (hK : am_kill ks L = L) (hd : am_SK[k]? = some (4 + a, N, rs)) (hb : Nat.ble (b + 1) N = true) (ht : am_ft am_ftab a b = 3) : vv X mid pc L (vP k :: S) σ = vv X mid (pc + len) L (vJ (σ k b) :: S) σ := by
  refine vq_st hk hK (by decide) (by decide) rfl (show am_sgetf am_ftab a b (pc + len) L (vP k :: S) (am_SK, am_ro X, σ) = some (pc + len, L, vJ (σ k b) :: S, (am_SK, am_ro X, σ)) from ?_)
  have hf : am_fget am_ftab σ k a b rs = some (vJ (σ k b)) := by
    unfold am_fget
    rw [ht]
    rfl
  unfold am_sgetf
  dsimp only
  rw [am_sk_dsc hd]
  dsimp only
  rw [if_pos ⟨rfl, Nat.le_of_ble_eq_true hb⟩, hf]
theorem vq_getP (hk : am_code mid pc = some (23, len, a, b, d, c, ks, offs)) (hK : am_kill ks L = L) (hd : am_SK[k]? = some (4 + a, N, rs)) (hb : Nat.ble (b + 1) N = true) (ht : am_ft am_ftab a b = 4) (hr : rs[b]? = some (r + 1)) : vv X mid pc L (vP k :: S) σ = vv X mid (pc + len) L (vP r :: S) σ := by
  refine vq_st hk hK (by decide) (by decide) rfl (show am_sgetf am_ftab a b (pc + len) L (vP k :: S) (am_SK, am_ro X, σ) = some (pc + len, L, vP r :: S, (am_SK, am_ro X, σ)) from ?_)
  have hf : am_fget am_ftab σ k a b rs = some (vP r) := by
    unfold am_fget
    rw [ht]
    show (match rs[b]? with | some (r + 1) => some (vP r) | _ => none) = _
    rw [hr]
  unfold am_sgetf
  dsimp only
  rw [am_sk_dsc hd]
  dsimp only
  rw [if_pos ⟨rfl, Nat.le_of_ble_eq_true hb⟩, hf]
theorem vq_putI (hk : am_code mid pc = some (24, len, a, b, d, c, ks, offs)) (hK : am_kill ks L = L) (hd : am_SK[k]? = some (4 + a, N, rs)) (hb : Nat.ble (b + 1) N = true) (ht : am_ft am_ftab a b = 0) : vv X mid pc L (vI x :: vP k :: S) σ = vv X mid (pc + len) L S (am_upd σ k b x) := by
  refine vq_st (σ' := am_upd σ k b x) hk hK (by decide) (by decide) ?_ (show am_sputf am_ftab a b (pc + len) L (vI x :: vP k :: S) (am_SK, am_ro X, σ) = some (pc + len, L, S, (am_SK, am_ro X, am_upd σ k b x)) from ?_)
  · unfold am_keepB
    simp [ht]
  · unfold am_sputf
    dsimp only
    rw [hd]
    dsimp only
    rw [if_pos ⟨rfl, Nat.le_of_ble_eq_true hb, Or.inl ht⟩]
theorem vq_putZ (hk : am_code mid pc = some (24, len, a, b, d, c, ks, offs)) (hK : am_kill ks L = L) (hd : am_SK[k]? = some (4 + a, N, rs)) (hb : Nat.ble (b + 1) N = true) (ht : am_ft am_ftab a b = 2) (hx : am_okT 2 x = true) : vv X mid pc L (vI x :: vP k :: S) σ = vv X mid (pc + len) L S (am_upd σ k b x) := by
  refine vq_st (σ' := am_upd σ k b x) hk hK (by decide) (by decide) ?_ (show am_sputf am_ftab a b (pc + len) L (vI x :: vP k :: S) (am_SK, am_ro X, σ) = some (pc + len, L, S, (am_SK, am_ro X, am_upd σ k b x)) from ?_)
  · unfold am_keepB
    simp [ht]
  · unfold am_sputf
    dsimp only
    rw [hd]
    dsimp only
    rw [if_pos ⟨rfl, Nat.le_of_ble_eq_true hb, Or.inr ⟨ht, hx⟩⟩]
theorem vq_putJ (hk : am_code mid pc = some (24, len, a, b, d, c, ks, offs)) (hK : am_kill ks L = L) (hd : am_SK[k]? = some (4 + a, N, rs)) (hb : Nat.ble (b + 1) N = true) (ht : am_ft am_ftab a b = 3) : vv X mid pc L (vJ x :: vP k :: S) σ = vv X mid (pc + len) L S (am_upd σ k b x) := by
  refine vq_st (σ' := am_upd σ k b x) hk hK (by decide) (by decide) ?_ (show am_sputf am_ftab a b (pc + len) L (vJ x :: vP k :: S) (am_SK, am_ro X, σ) = some (pc + len, L, S, (am_SK, am_ro X, am_upd σ k b x)) from ?_)
  · unfold am_keepB
    simp [ht]
  · unfold am_sputf
    dsimp only
    rw [hd]
    dsimp only
    rw [if_pos ⟨rfl, Nat.le_of_ble_eq_true hb, ht⟩]
theorem vq_ald (hk : am_code mid pc = some (26, len, a, b, d, c, ks, offs)) (hK : am_kill ks L = L) (hd : am_dsc (am_SK, am_ro X, σ) k = some (a, N, rs)) (ha : ¬ a = 3) (hM : (N : Int) = M) : vv X mid pc L (vI i :: vP k :: S) σ = if 0 ≤ i ∧ i < M then vv X mid (pc + len) L (vI (σ k i.toNat) :: S) σ else none := by
  subst hM
  by_cases h : 0 ≤ i ∧ i < (N : Int)
  · rw [if_pos h]
    refine vq_st hk hK (by decide) (by decide) rfl (show am_sald a (pc + len) L (vI i :: vP k :: S) (am_SK, am_ro X, σ) = some (pc + len, L, vI (σ k i.toNat) :: S, (am_SK, am_ro X, σ)) from ?_)
    unfold am_sald
    dsimp only
    rw [hd]
    dsimp only
    rw [if_pos ⟨rfl, h⟩, if_neg ha]
  · rw [if_neg h]
    refine vq_no hk hK (by decide) (by decide) (show am_sald a (pc + len) L (vI i :: vP k :: S) (am_SK, am_ro X, σ) = none from ?_)
    unfold am_sald
    dsimp only
    rw [hd]
    dsimp only
    rw [if_neg (fun z => h z.2)]
theorem vq_lald (hk : am_code mid pc = some (26, len, 3, b, d, c, ks, offs)) (hK : am_kill ks L = L) (hd : am_dsc (am_SK, am_ro X, σ) k = some (3, N, rs)) (hM : (N : Int) = M) : vv X mid pc L (vI i :: vP k :: S) σ = if 0 ≤ i ∧ i < M then vv X mid (pc + len) L (vJ (σ k i.toNat) :: S) σ else none := by
  subst hM
  by_cases h : 0 ≤ i ∧ i < (N : Int)
  · rw [if_pos h]
    refine vq_st hk hK (by decide) (by decide) rfl (show am_sald 3 (pc + len) L (vI i :: vP k :: S) (am_SK, am_ro X, σ) = some (pc + len, L, vJ (σ k i.toNat) :: S, (am_SK, am_ro X, σ)) from ?_)
    unfold am_sald
    dsimp only
    rw [hd]
    dsimp only
    rw [if_pos ⟨rfl, h⟩, if_pos rfl]
  · rw [if_neg h]
    refine vq_no hk hK (by decide) (by decide) (show am_sald 3 (pc + len) L (vI i :: vP k :: S) (am_SK, am_ro X, σ) = none from ?_)
    unfold am_sald
    dsimp only
    rw [hd]
    dsimp only
    rw [if_neg (fun z => h z.2)]
theorem vq_iast (hk : am_code mid pc = some (27, len, 0, b, d, c, ks, offs)) (hK : am_kill ks L = L) (hd : am_SK[k]? = some (0, N, rs)) (hM : (N : Int) = M) : vv X mid pc L (vI x :: vI i :: vP k :: S) σ = if 0 ≤ i ∧ i < M then vv X mid (pc + len) L S (am_upd σ k i.toNat x) else none := by
  subst hM
  by_cases h : 0 ≤ i ∧ i < (N : Int)
  · rw [if_pos h]
    refine vq_st (σ' := am_upd σ k i.toNat x) hk hK (by decide) (by decide) rfl (show am_sast 0 (pc + len) L (vI x :: vI i :: vP k :: S) (am_SK, am_ro X, σ) = some (pc + len, L, S, (am_SK, am_ro X, am_upd σ k i.toNat x)) from ?_)
    unfold am_sast
    dsimp only
    rw [hd]
    dsimp only
    rw [if_pos ⟨rfl, by decide, h.1, h.2, Or.inl rfl⟩]
  · rw [if_neg h]
    refine vq_no hk hK (by decide) (by decide) (show am_sast 0 (pc + len) L (vI x :: vI i :: vP k :: S) (am_SK, am_ro X, σ) = none from ?_)
    unfold am_sast
    dsimp only
    rw [hd]
    dsimp only
    rw [if_neg (fun z => h ⟨z.2.2.1, z.2.2.2.1⟩)]
/-- byte[] and boolean[]: what is stored must be in range -/
theorem vq_bast (hk : am_code mid pc = some (27, len, a, b, d, c, ks, offs)) (hK : am_kill ks L = L) (hd : am_SK[k]? = some (a, N, rs)) (ha : a = 1 ∨ a = 2) (hM : (N : Int) = M) : vv X mid pc L (vI x :: vI i :: vP k :: S) σ = if 0 ≤ i ∧ i < M ∧ am_okT a x = true then vv X mid (pc + len) L S (am_upd σ k i.toNat x) else none := by
  subst hM
  by_cases h : 0 ≤ i ∧ i < (N : Int) ∧ am_okT a x = true
  · rw [if_pos h]
    refine vq_st (σ' := am_upd σ k i.toNat x) hk hK (by decide) (by decide) rfl (show am_sast a (pc + len) L (vI x :: vI i :: vP k :: S) (am_SK, am_ro X, σ) = some (pc + len, L, S, (am_SK, am_ro X, am_upd σ k i.toNat x)) from ?_)
    unfold am_sast
    dsimp only
    rw [hd]
    dsimp only
    rw [if_pos ⟨rfl, by omega, h.1, h.2.1, Or.inr h.2.2⟩]
  · rw [if_neg h]
    refine vq_no hk hK (by decide) (by decide) (show am_sast a (pc + len) L (vI x :: vI i :: vP k :: S) (am_SK, am_ro X, σ) = none from ?_)
    unfold am_sast
    dsimp only
    rw [hd]
    dsimp only
    rw [if_neg (fun z => h ⟨z.2.2.1, z.2.2.2.1, z.2.2.2.2.resolve_left (by omega)⟩)]
theorem vq_last (hk : am_code mid pc = some (27, len, 3, b, d, c, ks, offs)) (hK : am_kill ks L = L) (hd : am_SK[k]? = some (3, N, rs)) (hM : (N : Int) = M) : vv X mid pc L (vJ x :: vI i :: vP k :: S) σ = if 0 ≤ i ∧ i < M then vv X mid (pc + len) L S (am_upd σ k i.toNat x) else none := by
  subst hM
  by_cases h : 0 ≤ i ∧ i < (N : Int)
  · rw [if_pos h]
    refine vq_st (σ' := am_upd σ k i.toNat x) hk hK (by decide) (by decide) rfl (show am_sast 3 (pc + len) L (vJ x :: vI i :: vP k :: S) (am_SK, am_ro X, σ) = some (pc + len, L, S, (am_SK, am_ro X, am_upd σ k i.toNat x)) from ?_)
    unfold am_sast
    dsimp only
    rw [hd]
    dsimp only
    rw [if_pos ⟨rfl, rfl, h.1, h.2⟩]
  · rw [if_neg h]
    refine vq_no hk hK (by decide) (by decide) (show am_sast 3 (pc + len) L (vJ x :: vI i :: vP k :: S) (am_SK, am_ro X, σ) = none from ?_)
    unfold am_sast
    dsimp only
    rw [hd]
    dsimp only
    rw [if_neg (fun z => h ⟨z.2.2.1, z.2.2.2⟩)]
theorem vq_alen (hk : am_code mid pc = some (28, len, a, b, d, c, ks, offs)) (hK : am_kill ks L = L) (hd : am_dsc (am_SK, am_ro X, σ) k = some (r, N, rs)) (hr : r < 4) (hN : N < 2147483648) (hM : (N : Int) = M) : vv X mid pc L (vP k :: S) σ = vv X mid (pc + len) L (vI M :: S) σ := by
  subst hM
  refine vq_st hk hK (by decide) (by decide) rfl (show am_salen (pc + len) L (vP k :: S) (am_SK, am_ro X, σ) = some (pc + len, L, vI (N : Int) :: S, (am_SK, am_ro X, σ)) from ?_)
  unfold am_salen
  dsimp only
  rw [hd]
  dsimp only
  rw [if_pos ⟨hr, hN⟩]
theorem vq_max (hk : am_code mid pc = some (34, len, 0, b, d, c, ks, offs)) (hK : am_kill ks L = L) (hc : Nat.ble (am_cats S) 8 = true) : vv X mid pc L (vI y :: vI x :: S) σ = vv X mid (pc + len) L (vI (if x < y then y else x) :: S) σ :=
  vq_st hk hK (by decide) (by decide) rfl (by show (if am_cats S ≤ 8 then some (pc + len, L, vI (if x < y then y else x) :: S, (am_SK, am_ro X, σ)) else none) = _; rw [if_pos (Nat.le_of_ble_eq_true hc)])
theorem vq_min (hk : am_code mid pc = some (34, len, 1, b, d, c, ks, offs)) (hK : am_kill ks L = L) (hc : Nat.ble (am_cats S) 8 = true) : vv X mid pc L (vI y :: vI x :: S) σ = vv X mid (pc + len) L (vI (if y < x then y else x) :: S) σ :=
  vq_st hk hK (by decide) (by decide) rfl (by show (if am_cats S ≤ 8 then some (pc + len, L, vI (if y < x then y else x) :: S, (am_SK, am_ro X, σ)) else none) = _; rw [if_pos (Nat.le_of_ble_eq_true hc)])
theorem vq_abs (hk : am_code mid pc = some (34, len, 2, b, d, c, ks, offs)) (hK : am_kill ks L = L) (hc : Nat.ble (am_cats S) 8 = true) : vv X mid pc L (vI x :: S) σ = vv X mid (pc + len) L (vI (if 0 ≤ x then x else w32 (0 - x)) :: S) σ :=
  vq_st hk hK (by decide) (by decide) rfl (by show (if am_cats S ≤ 8 then some (pc + len, L, vI (if 0 ≤ x then x else w32 (0 - x)) :: S, (am_SK, am_ro X, σ)) else none) = _; rw [if_pos (Nat.le_of_ble_eq_true hc)])
theorem vq_copy {k0 k1 N0 N1 : Nat} {m dp sp M0 M1 : Int} {r0 r1 : List Nat} (hk : am_code mid pc = some (33, len, a, b, d, c, ks, offs)) (hK : am_kill ks L = L) (h0 : am_SK[k0]? = some (a, N0, r0)) (h1 : am_SK[k1]? = some (a, N1, r1)) (ha : a = 0 ∨ a = 3) (hM0 : (N0 : Int) = M0) (hM1 : (N1 : Int) = M1) (hc : Nat.ble (am_cats S) 8 = true) : vv X mid pc L (vI m :: vI dp :: vP k1 :: vI sp :: vP k0 :: S) σ = if 0 ≤ m ∧ 0 ≤ dp ∧ 0 ≤ sp ∧ sp + m ≤ M0 ∧ dp + m ≤ M1 then vv X mid (pc + len) L S (am_row σ k1 (am_cp (σ k0) (σ k1) sp.toNat dp.toNat m.toNat)) else none := by
  subst hM0
  subst hM1
  have hc := Nat.le_of_ble_eq_true hc
  by_cases h : 0 ≤ m ∧ 0 ≤ dp ∧ 0 ≤ sp ∧ sp + m ≤ (N0 : Int) ∧ dp + m ≤ (N1 : Int)
  · rw [if_pos h]
    refine vq_st (σ' := am_row σ k1 (am_cp (σ k0) (σ k1) sp.toNat dp.toNat m.toNat)) hk hK (by decide) (by decide) rfl (show am_scopy a (pc + len) L (vI m :: vI dp :: vP k1 :: vI sp :: vP k0 :: S) (am_SK, am_ro X, σ) = some (pc + len, L, S, (am_SK, am_ro X, am_row σ k1 (am_cp (σ k0) (σ k1) sp.toNat dp.toNat m.toNat))) from ?_)
    unfold am_scopy
    dsimp only
    rw [h0, h1]
    dsimp only
    rw [if_pos ⟨rfl, rfl, ha, h.1, h.2.1, h.2.2.1, h.2.2.2.1, h.2.2.2.2, hc⟩]
  · rw [if_neg h]
    refine vq_no hk hK (by decide) (by decide) (show am_scopy a (pc + len) L (vI m :: vI dp :: vP k1 :: vI sp :: vP k0 :: S) (am_SK, am_ro X, σ) = none from ?_)
    unfold am_scopy
    dsimp only
    rw [h0, h1]
    dsimp only
    rw [if_neg (fun z => h ⟨z.2.2.2.1, z.2.2.2.2.1, z.2.2.2.2.2.1, z.2.2.2.2.2.2.1, z.2.2.2.2.2.2.2.1⟩)]
/-- what a method answers, by the kind of its answer -/
noncomputable def vcI (X a : Nat) (vs : List am_V) (σ : am_Sg) : Option (Int × am_Sg) := match vv X a 0 (am_ent (am_mL a) vs) [] σ with
  | some (some (.inl x), σ') => some (x, σ')
  | _ => none
noncomputable def vcJ (X a : Nat) (vs : List am_V) (σ : am_Sg) : Option (Int × am_Sg) := match vv X a 0 (am_ent (am_mL a) vs) [] σ with
  | some (some (.inr (.inl x)), σ') => some (x, σ')
  | _ => none
noncomputable def vcV (X a : Nat) (vs : List am_V) (σ : am_Sg) : Option am_Sg := match vv X a 0 (am_ent (am_mL a) vs) [] σ with
  | some (none, σ') => some σ'
  | _ => none
def am_rtI (t : Option FieldType) : Bool := match t with
  | none => false
  | some .long => false
  | some _ => true
theorem vq_callI {vs : List am_V} (hk : am_code mid pc = some (29, len, a, b, d, c, ks, offs)) (hK : am_kill ks L = L) (hS : S = vs.reverse ++ S') (hb : vs.length = b) (hl : Nat.ble (am_ent0 vs).length (am_mL a) = true) (hc : Nat.ble (am_cats S') 8 = true) (hr : am_recvOk c d (am_SK, am_ro X, σ) vs = true) (ht : am_rtI (am_rt a) = true) : vv X mid pc L S σ = (vcI X a vs σ).bind (fun q => vv X mid (pc + len) L (vI q.1 :: S') q.2) := by
  subst hS
  subst hb
  have e1 : (vs.reverse ++ S').take vs.length = vs.reverse := by rw [List.take_append_of_le_length (by simp), List.take_of_length_le (by simp)]
  have e2 : (vs.reverse ++ S').drop vs.length = S' := by rw [List.drop_append_of_le_length (by simp), List.drop_of_length_le (by simp)]; rfl
  rw [vv_bd]
  unfold am_bd
  rw [hk]
  dsimp only
  rw [if_pos rfl, e1, e2, List.reverse_reverse, if_pos ⟨by simp, Nat.le_of_ble_eq_true hl, Nat.le_of_ble_eq_true hc, hr⟩, hK]
  unfold vcI
  cases hv : vv X a 0 (am_ent (am_mL a) vs) [] σ with
  | none => rfl
  | some q =>
    obtain ⟨r, σ'⟩ := q
    dsimp only
    unfold am_rtI at ht
    unfold am_rsh
    cases hty : am_rt a with
    | none => rw [hty] at ht; cases ht
    | some ty =>
      rw [hty] at ht
      match r with
      | none => cases ty <;> first | rfl | cases ht
      | some (.inl x) => cases ty <;> first | rfl | cases ht
      | some (.inr (.inl x)) => cases ty <;> first | rfl | cases ht
      | some (.inr (.inr x)) => cases ty <;> first | rfl | cases ht
theorem vq_callJ {vs : List am_V} (hk : am_code mid pc = some (29, len, a, b, d, c, ks, offs)) (hK : am_kill ks L = L) (hS : S = vs.reverse ++ S') (hb : vs.length = b) (hl : Nat.ble (am_ent0 vs).length (am_mL a) = true) (hc : Nat.ble (am_cats S') 8 = true) (hr : am_recvOk c d (am_SK, am_ro X, σ) vs = true) (ht : am_rt a = some .long) : vv X mid pc L S σ = (vcJ X a vs σ).bind (fun q => vv X mid (pc + len) L (vJ q.1 :: S') q.2) := by
  subst hS
  subst hb
  have e1 : (vs.reverse ++ S').take vs.length = vs.reverse := by rw [List.take_append_of_le_length (by simp), List.take_of_length_le (by simp)]
  have e2 : (vs.reverse ++ S').drop vs.length = S' := by rw [List.drop_append_of_le_length (by simp), List.drop_of_length_le (by simp)]; rfl
  rw [vv_bd]
  unfold am_bd
  rw [hk]
  dsimp only
  rw [if_pos rfl, e1, e2, List.reverse_reverse, if_pos ⟨by simp, Nat.le_of_ble_eq_true hl, Nat.le_of_ble_eq_true hc, hr⟩, hK]
  unfold vcJ
  cases hv : vv X a 0 (am_ent (am_mL a) vs) [] σ with
  | none => rfl
  | some q =>
    obtain ⟨r, σ'⟩ := q
    dsimp only
    rw [ht]
    match r with
    | none => rfl
    | some (.inl x) => rfl
    | some (.inr (.inl x)) => rfl
    | some (.inr (.inr x)) => rfl
theorem vq_callV {vs : List am_V} (hk : am_code mid pc = some (29, len, a, b, d, c, ks, offs)) (hK : am_kill ks L = L) (hS : S = vs.reverse ++ S') (hb : vs.length = b) (hl : Nat.ble (am_ent0 vs).length (am_mL a) = true) (hc : Nat.ble (am_cats S') 8 = true) (hr : am_recvOk c d (am_SK, am_ro X, σ) vs = true) (ht : am_rt a = none) : vv X mid pc L S σ = (vcV X a vs σ).bind (fun q => vv X mid (pc + len) L S' q) := by
  subst hS
  subst hb
  have e1 : (vs.reverse ++ S').take vs.length = vs.reverse := by rw [List.take_append_of_le_length (by simp), List.take_of_length_le (by simp)]
  have e2 : (vs.reverse ++ S').drop vs.length = S' := by rw [List.drop_append_of_le_length (by simp), List.drop_of_length_le (by simp)]; rfl
  rw [vv_bd]
  unfold am_bd
  rw [hk]
  dsimp only
  rw [if_pos rfl, e1, e2, List.reverse_reverse, if_pos ⟨by simp, Nat.le_of_ble_eq_true hl, Nat.le_of_ble_eq_true hc, hr⟩, hK]
  unfold vcV
  cases hv : vv X a 0 (am_ent (am_mL a) vs) [] σ with
  | none => rfl
  | some q =>
    obtain ⟨r, σ'⟩ := q
    dsimp only
    rw [ht]
    match r with
    | none => rfl
    | some (.inl x) => rfl
    | some (.inr (.inl x)) => rfl
    | some (.inr (.inr x)) => rfl
theorem vq_retV (hk : am_code mid pc = some (30, len, 0, b, d, c, ks, offs)) : vv X mid pc L [] σ = some (none, σ) := by
  rw [vv_bd]
  unfold am_bd
  rw [hk]
  rfl
theorem vq_retI (hk : am_code mid pc = some (30, len, 1, b, d, c, ks, offs)) : vv X mid pc L [vI x] σ = some (some (vI x), σ) := by
  rw [vv_bd]
  unfold am_bd
  rw [hk]
  rfl
theorem vq_retJ (hk : am_code mid pc = some (30, len, 2, b, d, c, ks, offs)) : vv X mid pc L [vJ x] σ = some (some (vJ x), σ) := by
  rw [vv_bd]
  unfold am_bd
  rw [hk]
  rfl
theorem vq_retZ (hk : am_code mid pc = some (30, len, 3, b, d, c, ks, offs)) : vv X mid pc L [vI x] σ = if am_okT 2 x = true then some (some (vI x), σ) else none := by
  rw [vv_bd]
  unfold am_bd
  rw [hk]
  dsimp only
  rw [if_neg (by decide), if_pos rfl]
  by_cases z : am_okT 2 x = true
  · have : am_ret 3 [vI x] = some (some (vI x)) := if_pos z
    rw [this, if_pos z]
  · have : am_ret 3 [vI x] = none := if_neg z
    rw [this, if_neg z]
theorem vq_none (h : am_code mid pc = none) : vv X mid pc L S σ = none := by
  rw [vv_bd]
  unfold am_bd
  rw [h]
theorem vq_retB (hk : am_code mid pc = some (30, len, 4, b, d, c, ks, offs)) : vv X mid pc L [vI x] σ = if am_okT 1 x = true then some (some (vI x), σ) else none := by
  rw [vv_bd]
  unfold am_bd
  rw [hk]
  dsimp only
  rw [if_neg (by decide), if_pos rfl]
  by_cases z : am_okT 1 x = true
  · have : am_ret 4 [vI x] = some (some (vI x)) := if_pos z
    rw [this, if_pos z]
  · have : am_ret 4 [vI x] = none := if_neg z
    rw [this, if_neg z]
theorem vq_retC (hk : am_code mid pc = some (30, len, 5, b, d, c, ks, offs)) : vv X mid pc L [vI x] σ = if 0 ≤ x ∧ x < 65536 then some (some (vI x), σ) else none := by
  rw [vv_bd]
  unfold am_bd
  rw [hk]
  dsimp only
  rw [if_neg (by decide), if_pos rfl]
  by_cases z : 0 ≤ x ∧ x < 65536
  · have : am_ret 5 [vI x] = some (some (vI x)) := if_pos z
    rw [this, if_pos z]
  · have : am_ret 5 [vI x] = none := if_neg z
    rw [this, if_neg z]
theorem vq_gets0 (hk : am_code mid pc = some (25, len, 0, b, d, c, ks, offs)) (hK : am_kill ks L = L) : vv X mid pc L S σ = vv X mid (pc + len) L (vP 1001 :: S) σ := vq_st hk hK (by decide) (by decide) rfl rfl
theorem vq_gets1 (hk : am_code mid pc = some (25, len, 1, b, d, c, ks, offs)) (hK : am_kill ks L = L) : vv X mid pc L S σ = vv X mid (pc + len) L (vI 1 :: S) σ := vq_st hk hK (by decide) (by decide) rfl rfl
theorem vq_ldcs (hk : am_code mid pc = some (38, len, a, b, d, c, ks, offs)) (hK : am_kill ks L = L) : vv X mid pc L S σ = vv X mid (pc + len) L (vP (1002 + a) :: S) σ := vq_st hk hK (by decide) (by decide) rfl rfl
theorem vq_getRP (hk : am_code mid pc = some (23, len, a, b, d, c, ks, offs)) (hK : am_kill ks L = L) (hd : am_dsc (am_SK, am_ro X, σ) k = some (4 + a, N, rs)) (hb : Nat.ble (b + 1) N = true) (ht : am_ft am_ftab a b = 4) (hr : rs[b]? = some (r + 1)) : vv X mid pc L (vP k :: S) σ = vv X mid (pc + len) L (vP r :: S) σ := by
  refine vq_st hk hK (by decide) (by decide) rfl (show am_sgetf am_ftab a b (pc + len) L (vP k :: S) (am_SK, am_ro X, σ) = some (pc + len, L, vP r :: S, (am_SK, am_ro X, σ)) from ?_)
  have hf : am_fget am_ftab σ k a b rs = some (vP r) := by
    unfold am_fget
    rw [ht]
    show (match rs[b]? with | some (r + 1) => some (vP r) | _ => none) = _
    rw [hr]
  unfold am_sgetf
  dsimp only
  rw [hd]
  dsimp only
  rw [if_pos ⟨rfl, Nat.le_of_ble_eq_true hb⟩, hf]
theorem vq_getRI (hk : am_code mid pc = some (23, len, a, b, d, c, ks, offs)) (hK : am_kill ks L = L) (hd : am_dsc (am_SK, am_ro X, σ) k = some (4 + a, N, rs)) (hb : Nat.ble (b + 1) N = true) (ht : Nat.ble (am_ft am_ftab a b) 2 = true) : vv X mid pc L (vP k :: S) σ = vv X mid (pc + len) L (vI (σ k b) :: S) σ := by
  refine vq_st hk hK (by decide) (by decide) rfl (show am_sgetf am_ftab a b (pc + len) L (vP k :: S) (am_SK, am_ro X, σ) = some (pc + len, L, vI (σ k b) :: S, (am_SK, am_ro X, σ)) from ?_)
  have ht := Nat.le_of_ble_eq_true ht
  have hf : am_fget am_ftab σ k a b rs = some (vI (σ k b)) := by
    unfold am_fget
    rcases (by omega : am_ft am_ftab a b = 0 ∨ am_ft am_ftab a b = 1 ∨ am_ft am_ftab a b = 2) with z | z | z <;> rw [z] <;> rfl
  unfold am_sgetf
  dsimp only
  rw [hd]
  dsimp only
  rw [if_pos ⟨rfl, Nat.le_of_ble_eq_true hb⟩, hf]
theorem vq_chk (hk : am_code mid pc = some (35, len, a, b, d, c, ks, offs)) (hK : am_kill ks L = L) (hc : Nat.ble (am_cats S) 8 = true) : vv X mid pc L (vI y :: vI x :: S) σ = if 0 ≤ x ∧ x < y then vv X mid (pc + len) L S σ else none := by
  have hc := Nat.le_of_ble_eq_true hc
  by_cases h : 0 ≤ x ∧ x < y
  · rw [if_pos h]
    exact vq_st hk hK (by decide) (by decide) rfl (by show (if 0 ≤ x ∧ x < y ∧ am_cats S ≤ 8 then some (pc + len, L, S, (am_SK, am_ro X, σ)) else none) = _; rw [if_pos ⟨h.1, h.2, hc⟩])
  · rw [if_neg h]
    exact vq_no hk hK (by decide) (by decide) (by show (if 0 ≤ x ∧ x < y ∧ am_cats S ≤ 8 then some (pc + len, L, S, (am_SK, am_ro X, σ)) else none) = _; rw [if_neg (fun z => h ⟨z.1, z.2.1⟩)])
/-- a switch, its targets one by one -/
def am_swv {α : Type} (x : Int) : Int → List α → α → α
  | _, [], D => D
  | lo, t :: ts, D => if x = lo then t else am_swv x (lo + 1) ts D
theorem am_swv_out {α : Type} {x : Int} {D : α} : ∀ {lo : Int} {ts : List α}, (x < lo ∨ lo + (ts.length : Int) ≤ x) → am_swv x lo ts D = D
  | _, [], _ => rfl
  | lo, t :: ts, h => by
    simp only [List.length_cons] at h
    unfold am_swv
    rw [if_neg (by omega)]
    exact am_swv_out (by omega)
theorem am_swv_in {α β : Type} {x : Int} {D : α} {f : β → α} {dd : β} : ∀ {lo : Int} {ts : List β}, ¬ (x < lo ∨ lo + (ts.length : Int) ≤ x) → am_swv x lo (ts.map f) D = f (ts.getD (x - lo).toNat dd)
  | lo, [], h => by simp at h; omega
  | lo, t :: ts, h => by
    simp only [List.length_cons] at h
    show (if x = lo then f t else am_swv x (lo + 1) (ts.map f) D) = _
    by_cases e : x = lo
    · rw [if_pos e, e, Int.sub_self]
      rfl
    · rw [if_neg e, am_swv_in (dd := dd) (by omega)]
      have : (x - lo).toNat = (x - (lo + 1)).toNat + 1 := by omega
      rw [this]
      rfl
theorem vq_sw (hk : am_code mid pc = some (19, len, a, b, d, c, ks, offs)) (hK : am_kill ks L = L) : vv X mid pc L (vI x :: S) σ = am_swv x c (offs.map (fun t => vv X mid t L S σ)) (vv X mid b L S σ) := by
  rw [vq_tsw hk hK]
  by_cases h : x < c ∨ c + (offs.length : Int) ≤ x
  · rw [if_pos h, am_swv_out (by rw [List.length_map]; exact h)]
  · rw [if_neg h, am_swv_in (dd := 0) h]
end RUL
theorem vq_ite {α : Type} {p q : Prop} {ip : Decidable p} {iq : Decidable q} {a b a' b' : α} (h : p ↔ q) (ha : a = a') (hb : b = b') : @ite α p ip a b = @ite α q iq a' b' := by
  subst ha
  subst hb
  by_cases hp : p
  · rw [if_pos hp, if_pos (h.mp hp)]
  · rw [if_neg hp, if_neg (fun z => hp (h.mpr z))]
theorem vq_bind {α β : Type} {o : Option α} {f g : α → Option β} (h : ∀ q, f q = g q) : o.bind f = o.bind g := by
  cases o with
  | none => rfl
  | some q => exact h q
theorem am_cnd0 {x y : Int} : am_cnd 0 x y = true ↔ x = y := by simp [am_cnd]
theorem am_cnd1 {x y : Int} : am_cnd 1 x y = true ↔ ¬ x = y := by simp [am_cnd]
theorem am_cnd2 {x y : Int} : am_cnd 2 x y = true ↔ x < y := by simp [am_cnd]
theorem am_cnd3 {x y : Int} : am_cnd 3 x y = true ↔ y ≤ x := by simp [am_cnd]
theorem am_cnd4 {x y : Int} : am_cnd 4 x y = true ↔ y < x := by simp [am_cnd]
theorem am_cnd5 {x y : Int} : am_cnd 5 x y = true ↔ x ≤ y := by simp [am_cnd]
