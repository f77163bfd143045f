/-! READ: names -/
section PC
variable {X N : Nat} {σ τ : am_Sg} {t : Nat}
def off (s : Nat) : Nat := if s = 0 then 0 else if s = 1 then 4 else 12
def mxn (s : Nat) : Nat := if s = 0 then 4 else if s = 1 then 8 else 6
/-- how many of a sort, as the class counts them -/
def cn (σ : am_Sg) (s : Nat) : Nat := (σ 28 s).toNat
def CB (σ : am_Sg) (s : Nat) : Prop := σ 28 s = (cn σ s : Int) ∧ cn σ s ≤ mxn s
/-- the names of a sort -/
def NBs (σ τ : am_Sg) (n s : Nat) : Prop := (∀ k, k < n → τ 89 k = (s : Int) → ∃ (i : Nat) (l : List Nat), i < cn σ s ∧ Lt l ∧ τ 90 k = (i : Int) ∧ τ 88 k = ((fr 27 l : Nat) : Int) ∧ σ 29 (off s + i) = ((fr 32 l : Nat) : Int)) ∧ (∀ i : Nat, i < cn σ s → ∃ k, k < n ∧ τ 89 k = (s : Int) ∧ τ 90 k = (i : Int))
def UN (σ : am_Sg) (s : Nat) : Prop := ∀ i j : Nat, i < cn σ s → j < cn σ s → σ 29 (off s + i) = σ 29 (off s + j) → i = j
theorem c_numof (X : Nat) {f m : Nat} {x : Int} (hf : f + m ≤ 18) : ∀ n i : Nat, i + n = m → ∃ r : Int, vv X 285 3 [some (vP 27), some (vJ x), none, some (vI (f : Int)), some (vI (m : Int)), some (vI (i : Int))] [] σ = some (some (vI r), σ) ∧ ((∃ j : Nat, j < m ∧ r = (j : Int) ∧ σ 29 (f + j) = x) ∨ (r = -1 ∧ ∀ j, i ≤ j → j < m → ¬ σ 29 (f + j) = x))
  | 0, i, e => ⟨-1, by rw [bq_285_3, if_pos (by omega), bq_285_45], Or.inr ⟨rfl, fun j _ _ => by omega⟩⟩
  | n + 1, i, e => by
    have e1 : w32 ((f : Int) + (i : Int)) = ((f + i : Nat) : Int) := w32_ad (by omega)
    by_cases z : σ 29 (f + i) = x
    · refine ⟨(i : Int), ?_, Or.inl ⟨i, by omega, rfl, z⟩⟩
      rw [bq_285_3, if_neg (by omega), e1, if_neg (by omega), if_pos (by omega), tn_nat, if_neg (fun q => q (lcmp_eq.mpr z))]
    · obtain ⟨r, q1, q2⟩ := c_numof X (f := f) (m := m) (x := x) hf n (i + 1) (by omega)
      refine ⟨r, ?_, ?_⟩
      · rw [bq_285_3, if_neg (by omega), e1, if_neg (by omega), if_pos (by omega), tn_nat, if_pos (fun q => z (lcmp_eq.mp q)), w32_s1 (by omega)]
        exact q1
      · rcases q2 with q | ⟨q, q'⟩
        · exact Or.inl q
        · refine Or.inr ⟨q, fun j a1 a2 => ?_⟩
          by_cases w : j = i
          · rw [w]; exact z
          · exact q' j (by omega) a2
/-- a name among those of a sort -/
def Lk (σ : am_Sg) (s : Nat) (x r : Int) : Prop := (∃ j : Nat, j < cn σ s ∧ r = (j : Int) ∧ σ 29 (off s + j) = x) ∨ (r = -1 ∧ ∀ j, j < cn σ s → ¬ σ 29 (off s + j) = x)
theorem c_numof' (X : Nat) {s : Nat} (hs : s < 3) {x : Int} (h : CB σ s) : ∃ r, vcI X 285 [vP 27, vJ x, vI ((off s : Nat) : Int), vI (σ 28 s)] σ = some (r, σ) ∧ Lk σ s x r := by
  have hb : off s + cn σ s ≤ 18 := by
    have := h.2
    unfold mxn at this
    unfold off
    (repeat' split at this) <;> (repeat' split) <;> omega
  obtain ⟨r, q1, q2⟩ := c_numof (σ := σ) X (f := off s) (m := cn σ s) (x := x) hb (cn σ s) 0 (by omega)
  refine ⟨r, ?_, ?_⟩
  · rw [h.1]
    exact vI_of ((bq_285_0 X _ _ _ σ).trans q1) rfl
  · rcases q2 with q | ⟨q, q'⟩
    · exact Or.inl q
    · exact Or.inr ⟨q, fun j hj => q' j (by omega) hj⟩
theorem d_dishes : vcI X 184 [vP 27] σ = some (σ 28 0, σ) := vI_of (bq_184a_0 X σ) rfl
theorem d_men : vcI X 156 [vP 27] σ = some (σ 28 1, σ) := vI_of (bq_156a_0 X σ) rfl
theorem d_bellies : vcI X 209 [vP 27] σ = some (σ 28 2, σ) := vI_of (bq_209a_0 X σ) rfl
theorem c_dishNamed (X : Nat) {x : Int} (h : CB σ 0) : ∃ r, vcI X 276 [vP 27, vJ x] σ = some (r, σ) ∧ Lk σ 0 x r := by
  obtain ⟨r, q1, q2⟩ := c_numof' X (s := 0) (by omega) (x := x) h
  refine ⟨r, vI_of ((bq_276_0 X _ σ).trans ?_) rfl, q2⟩
  rw [d_dishes, bsome]
  dsimp +instances only
  rw [show (0 : Int) = ((off 0 : Nat) : Int) from rfl, q1, bsome]
theorem c_manNamed (X : Nat) {x : Int} (h : CB σ 1) : ∃ r, vcI X 274 [vP 27, vJ x] σ = some (r, σ) ∧ Lk σ 1 x r := by
  obtain ⟨r, q1, q2⟩ := c_numof' X (s := 1) (by omega) (x := x) h
  refine ⟨r, vI_of ((bq_274_0 X _ σ).trans ?_) rfl, q2⟩
  rw [d_men, bsome]
  dsimp +instances only
  rw [show (4 : Int) = ((off 1 : Nat) : Int) from rfl, q1, bsome]
theorem c_isTold (X : Nat) {x : Int} (h0 : CB σ 0) (h1 : CB σ 1) (h2 : CB σ 2) : ∃ r, vcI X 270 [vP 27, vJ x] σ = some (r, σ) ∧ ((r = 1 ∧ ∃ s j : Nat, s < 3 ∧ j < cn σ s ∧ σ 29 (off s + j) = x) ∨ (r = 0 ∧ ∀ s j : Nat, s < 3 → j < cn σ s → ¬ σ 29 (off s + j) = x)) := by
  obtain ⟨r0, a0, b0⟩ := c_dishNamed X (x := x) h0
  obtain ⟨r1, a1, b1⟩ := c_manNamed X (x := x) h1
  obtain ⟨r2, a2, b2⟩ := c_numof' X (s := 2) (by omega) (x := x) h2
  have hit : vv X 270 33 [none, none, none] [] σ = some (some (vI 1), σ) := by rw [bq_270_33, bq_270_38, if_pos okZ1]
  rcases b0 with ⟨j, j1, j2, j3⟩ | ⟨b0, b0'⟩
  · refine ⟨1, vI_of ((bq_270_0 X _ σ).trans ?_) rfl, Or.inl ⟨rfl, 0, j, by omega, j1, j3⟩⟩
    rw [a0, bsome]
    dsimp +instances only
    rw [if_pos (by omega), hit]
  · rcases b1 with ⟨j, j1, j2, j3⟩ | ⟨b1, b1'⟩
    · refine ⟨1, vI_of ((bq_270_0 X _ σ).trans ?_) rfl, Or.inl ⟨rfl, 1, j, by omega, j1, j3⟩⟩
      rw [a0, bsome]
      dsimp +instances only
      rw [if_neg (by omega), a1, bsome]
      dsimp +instances only
      rw [if_pos (by omega), hit]
    · have e2 : vcI X 285 [vP 27, vJ x, vI 12, vI (σ 28 2)] σ = some (r2, σ) := a2
      rcases b2 with ⟨j, j1, j2, j3⟩ | ⟨b2, b2'⟩
      · refine ⟨1, vI_of ((bq_270_0 X _ σ).trans ?_) rfl, Or.inl ⟨rfl, 2, j, by omega, j1, j3⟩⟩
        rw [a0, bsome]
        dsimp +instances only
        rw [if_neg (by omega), a1, bsome]
        dsimp +instances only
        rw [if_neg (by omega), d_bellies, bsome]
        dsimp +instances only
        rw [e2, bsome]
        dsimp +instances only
        rw [if_neg (by omega), hit]
      · refine ⟨0, vI_of ((bq_270_0 X _ σ).trans ?_) rfl, Or.inr ⟨rfl, fun s j hs hj => ?_⟩⟩
        · rw [a0, bsome]
          dsimp +instances only
          rw [if_neg (by omega), a1, bsome]
          dsimp +instances only
          rw [if_neg (by omega), d_bellies, bsome]
          dsimp +instances only
          rw [e2, bsome]
          dsimp +instances only
          rw [if_pos b2, bq_270_38, if_pos okZ0]
        · rcases (show s = 0 ∨ s = 1 ∨ s = 2 by omega) with e | e | e
          · subst e; exact b0' j hj
          · subst e; exact b1' j hj
          · subst e; exact b2' j hj
/-! the reference's look-ups -/
theorem m_known (X : Nat) {n : Nat} {s : Int} (hn : n ≤ 18) (h20 : τ 80 20 = (n : Int)) (ht : t ≤ 402) : ∀ m k : Nat, k + m = n → (∃ j, j < n ∧ τ 88 j = τ 86 t ∧ τ 89 j = s ∧ vv X 254 21 [some (vP 80), some (vI s), some (vI (t : Int)), some (vI (k : Int))] [] τ = some (some (vI (τ 90 j)), τ)) ∨ ((∀ j, k ≤ j → j < n → ¬ (τ 88 j = τ 86 t ∧ τ 89 j = s)) ∧ vv X 254 21 [some (vP 80), some (vI s), some (vI (t : Int)), some (vI (k : Int))] [] τ = (vcV X 257 [vP 80, vI 4, vI (t : Int)] τ).bind fun q1 => some (some (vI (-1)), q1))
  | 0, k, e => Or.inr ⟨fun j _ _ => by omega, by rw [bq_254_21, h20, if_pos (by omega)]⟩
  | m + 1, k, e => by
    have step : ¬ (τ 88 k = τ 86 t ∧ τ 89 k = s) → vv X 254 21 [some (vP 80), some (vI s), some (vI (t : Int)), some (vI (k : Int))] [] τ = vv X 254 21 [some (vP 80), some (vI s), some (vI (t : Int)), some (vI ((k + 1 : Nat) : Int))] [] τ := fun z => by
      rw [bq_254_21, h20, if_neg (by omega), if_pos (by omega), if_pos (by omega), tn_nat, tn_nat]
      by_cases y : τ 88 k = τ 86 t
      · rw [if_neg (fun q => q (lcmp_eq.mpr y)), if_pos (fun q => z ⟨y, q⟩), bq_254_62, w32_s1 (by omega)]
      · rw [if_pos (fun q => y (lcmp_eq.mp q)), bq_254_62, w32_s1 (by omega)]
    by_cases z : τ 88 k = τ 86 t ∧ τ 89 k = s
    · refine Or.inl ⟨k, by omega, z.1, z.2, ?_⟩
      rw [bq_254_21, h20, if_neg (by omega), if_pos (by omega), if_pos (by omega), tn_nat, tn_nat, if_neg (fun q => q (lcmp_eq.mpr z.1)), if_neg (fun q => q z.2)]
    · rcases m_known X hn h20 ht m (k + 1) (by omega) with ⟨j, j1, j2, j3, j4⟩ | ⟨j1, j2⟩
      · exact Or.inl ⟨j, j1, j2, j3, (step z).trans j4⟩
      · refine Or.inr ⟨fun j a1 a2 => ?_, (step z).trans j2⟩
        by_cases w : j = k
        · rw [w]; exact z
        · exact j1 j (by omega) a2
theorem m_named (X : Nat) {n : Nat} (hn : n ≤ 18) (ht : t ≤ 402) : ∀ (m k : Nat) (τ : am_Sg), k + m = n → τ 80 20 = (n : Int) → τ 80 13 = 0 → (τ 80 15 = 0 ∨ (¬ τ 80 15 = 0 ∧ τ 80 16 < τ 84 t) ∨ (τ 80 15 = 3 ∧ τ 80 16 = τ 84 t)) → ∃ τ', vv X 249 12 [some (vP 80), some (vI (t : Int)), some (vI (k : Int))] [] τ = some (some (vI (t : Int)), τ') ∧ ((τ' = τ ∧ (τ 80 15 = 0 → ∀ j, k ≤ j → j < n → ¬ τ 88 j = τ 86 t)) ∨ (τ' = nm τ t 3 ∧ τ 80 15 = 0 ∧ ∃ j, j < n ∧ τ 88 j = τ 86 t))
  | 0, k, τ, e, h20, h13, _ => ⟨τ, by rw [bq_249_12, h20, if_pos (by omega), bq_249_55], Or.inl ⟨rfl, fun _ j _ _ => by omega⟩⟩
  | m + 1, k, τ, e, h20, h13, hW => by
    by_cases z : τ 88 k = τ 86 t
    · have hd : ∀ τ1, vcV X 257 [vP 80, vI 3, vI (t : Int)] τ = some τ1 → vv X 249 12 [some (vP 80), some (vI (t : Int)), some (vI (k : Int))] [] τ = vv X 249 12 [some (vP 80), some (vI (t : Int)), some (vI ((k + 1 : Nat) : Int))] [] τ1 := fun τ1 e1 => by
        rw [bq_249_12, h20, if_neg (by omega), if_neg (fun q => q h13), if_pos (by omega), if_pos (by omega), tn_nat, tn_nat, if_neg (fun q => q (lcmp_eq.mpr z)), e1, bsome, bq_249_49, w32_s1 (by omega)]
      by_cases y : τ 80 15 = 0
      · obtain ⟨τ', q1, q2⟩ := m_named X hn ht m (k + 1) (nm τ t 3) (by omega) h20 h13 (Or.inr (Or.inr ⟨rfl, rfl⟩))
        refine ⟨τ', (hd _ (mw_0 h13 y ht)).trans q1, ?_⟩
        rcases q2 with ⟨q, -⟩ | ⟨-, q, -⟩
        · exact Or.inr ⟨q, y, k, by omega, z⟩
        · have : (3 : Int) = 0 := q
          omega
      · have e1 : vcV X 257 [vP 80, vI 3, vI (t : Int)] τ = some τ := by
          rcases hW with q | ⟨q, q'⟩ | ⟨q, q'⟩
          · exact absurd q y
          · exact mw_lt h13 y ht q'
          · exact mw_eq h13 y ht q' (by omega)
        obtain ⟨τ', q1, q2⟩ := m_named X hn ht m (k + 1) τ (by omega) h20 h13 hW
        refine ⟨τ', (hd _ e1).trans q1, ?_⟩
        rcases q2 with ⟨q, -⟩ | ⟨-, q, -⟩
        · exact Or.inl ⟨q, fun w => absurd w y⟩
        · exact absurd q y
    · obtain ⟨τ', q1, q2⟩ := m_named X hn ht m (k + 1) τ (by omega) h20 h13 hW
      refine ⟨τ', ?_, ?_⟩
      · rw [bq_249_12, h20, if_neg (by omega), if_neg (fun q => q h13), if_pos (by omega), if_pos (by omega), tn_nat, tn_nat, if_pos (fun q => z (lcmp_eq.mp q)), bq_249_49, w32_s1 (by omega)]
        exact q1
      · rcases q2 with ⟨q, q'⟩ | ⟨q, q', j, j1, j2⟩
        · refine Or.inl ⟨q, fun w j a1 a2 => ?_⟩
          by_cases u : j = k
          · rw [u]; exact z
          · exact q' w j (by omega) a2
        · exact Or.inr ⟨q, q', j, j1, j2⟩
/-- the token just taken, and a slip noted there -/
theorem nx_slip {k : Int} (hT : TE σ τ N) (f : NF N σ τ t) (hk : 0 < k ∧ k ≤ 5) (h0 : ¬ σ 4 t = 0) (h1 : ¬ σ 4 t = 1) (ht : t < 400) (h8 : σ 47 8 = 0) : Nx N σ τ (nt (tk σ t) k) (nm (gm τ t) t k) := by
  have fc : Fr [47] [] σ (nt (tk σ t) k) := tk_fr.tr nt_fr
  have fr' : Fr [] [11, 13, 14, 15, 16] τ (nm (gm τ t) t k) := gm_fr.tr nm_fr
  have nf : NF N (nt (tk σ t) k) (nm (gm τ t) t k) (t + 1) := nf_tk f (f.lt hT h0 h1 ht) (fc.get 4 (by decide) rfl) (fr'.get 84 (by decide) rfl) f.2.1 ⟨rfl, rfl⟩ rfl rfl (Or.inr ⟨rfl, by show (0 : Int) ≤ k ∧ k ≤ 5; omega, by show σ 5 t = τ 84 t; exact (hT.2.1 t f.1).1, rfl⟩)
  refine ⟨⟨hT.fr fc fr' rfl rfl, Or.inr ⟨_, nf⟩⟩, ⟨fc, fr'⟩, fun z => absurd f.2.1.1 z, fun z => ?_, rfl, fun _ => ?_⟩
  · have : k = 0 := z.2
    omega
  · rw [f.2.2.1.1, nf.2.2.1.1]
    omega
theorem gm_lt (hT : TE σ τ N) (f : NF N σ τ t) (h15 : ¬ τ 80 15 = 0) : gm τ t 80 16 < gm τ t 84 t := by
  obtain ⟨-, j, j1, j2⟩ := f.2.2.2.2.2.2 h15
  have m := hT.2.2.2.1 j t j1 f.1
  rw [(hT.2.1 j (by have := f.1; omega)).1, (hT.2.1 t f.1).1] at m
  show τ 80 16 < τ 84 t
  rw [j2]
  exact m
theorem l_told0 (X : Nat) {n : Nat} (h : PS N σ τ) (hn : n ≤ 18) (h20 : τ 80 20 = (n : Int)) (hC : CB σ 0) (hB : NBs σ τ n 0) (hU : ok0 σ → UN σ 0) : ∃ r r' σ' τ', vcI X 243 [vP 47] σ = some (r, σ') ∧ vcI X 254 [vP 80, vI 0] τ = some (r', τ') ∧ Nx N σ τ σ' τ' ∧ ((-1 ≤ r ∧ r < (cn σ 0 : Int)) ∧ (-1 ≤ r' ∧ r' < (cn σ 0 : Int))) ∧ (ok0 σ' → 0 ≤ r ∧ r' = r) ∧ (σ' 47 6 = 0 → 0 < τ' 80 11 ∧ σ' 47 10 = τ' 84 (τ' 80 11 - 1).toNat ∧ τ' 80 11 = τ 80 11 + 1) := by
  obtain ⟨b, σ', τ', t1, t2, t3, t4⟩ := l_take X h kr_name (by decide) (by decide)
  have c0 : (0 : Int) ≤ (cn σ 0 : Int) := by omega
  rcases t4 with ⟨u1, u2⟩ | ⟨u1, t, f, tl, e2, u3, u4, f'⟩
  · have fs := t3.1.fs u2
    refine ⟨-1, -1, σ', τ', vI_of ((bq_243_0 X σ).trans ?_) rfl, vI_of ((bq_254_0 X _ τ).trans ?_) rfl, t3, ⟨⟨by omega, by omega⟩, by omega, by omega⟩, fun z => absurd z.1 u2, fun z => absurd z u2⟩
    · rw [t1, bsome]
      dsimp +instances only
      rw [if_pos u1, bq_243_27]
    · rw [t2, bsome]
      have := fs.1
      rw [if_neg (by omega)]
  · subst u3 u4
    have tN := f.1
    obtain ⟨-, -, -, tok⟩ := h.1.2.1 t f.1
    obtain ⟨l, l1, l2, l3⟩ := tok e2
    have f28 : tk σ t 28 = σ 28 := tk_fr.get 28 (by decide) rfl
    have f29 : tk σ t 29 = σ 29 := tk_fr.get 29 (by decide) rfl
    have ec : cn (tk σ t) 0 = cn σ 0 := by unfold cn; rw [f28]
    have hC' : CB (tk σ t) 0 := by unfold CB; rw [ec, f28]; exact hC
    have e11 : tk σ t 47 11 = σ 6 t := rfl
    obtain ⟨r, q1, q2⟩ := c_dishNamed X (x := σ 6 t) hC'
    unfold Lk at q2
    rw [ec, f29] at q2
    have g20 : gm τ t 80 20 = (n : Int) := h20
    have t11 : τ 80 11 = (t : Int) := f.2.2.1.2
    have mk := m_known (τ := gm τ t) X (s := ((0 : Nat) : Int)) (t := t) hn g20 (by omega) n 0 (by omega)
    have e86 : gm τ t 86 t = τ 86 t := rfl
    have g13 : ¬ 0 < gm τ t 80 13 := by show ¬ 0 < τ 80 13; rw [f.2.1.2]; omega
    -- the same name on both sides
    have fwd : ∀ j : Nat, j < n → τ 88 j = τ 86 t → τ 89 j = ((0 : Nat) : Int) → ∃ i : Nat, i < cn σ 0 ∧ τ 90 j = (i : Int) ∧ σ 29 (off 0 + i) = σ 6 t := fun j hj a1 a2 => by
      obtain ⟨i, l', i1, i2, i3, i4, i5⟩ := hB.1 j hj a2
      refine ⟨i, i1, i3, ?_⟩
      rw [i5, l2, (name_iff i2 l1).mpr (by have := (i4.symm.trans a1).trans l3; omega)]
    have bwd : ∀ i : Nat, i < cn σ 0 → σ 29 (off 0 + i) = σ 6 t → ∃ j, j < n ∧ τ 88 j = τ 86 t ∧ τ 89 j = ((0 : Nat) : Int) := fun i hi a1 => by
      obtain ⟨j, j1, j2, j3⟩ := hB.2 i hi
      obtain ⟨i', l', i1, i2, i3, i4, i5⟩ := hB.1 j j1 j2
      have ei : i' = i := by omega
      subst ei
      refine ⟨j, j1, ?_, j2⟩
      rw [i4, l3, (name_iff i2 l1).mp (by have := (i5.symm.trans a1).trans l2; omega)]
    have headC : ∀ σ1, vcI X 275 [vP 47, vI r] (tk σ t) = some (r, σ1) → vcI X 243 [vP 47] σ = some (r, σ1) := fun σ1 e => by
      refine vI_of ((bq_243_0 X σ).trans ?_) rfl
      rw [t1, bsome]
      dsimp +instances only
      rw [if_neg (by rw [u1]; decide), e11, q1, bsome]
      dsimp +instances only
      rw [e, bsome, bq_243_27]
    have headM : ∀ v τ1, vv X 254 21 [some (vP 80), some (vI ((0 : Nat) : Int)), some (vI (t : Int)), some (vI ((0 : Nat) : Int))] [] (gm τ t) = some (some (vI v), τ1) → vcI X 254 [vP 80, vI 0] τ = some (v, τ1) := fun v τ1 e => by
      refine vI_of ((bq_254_0 X _ τ).trans ?_) rfl
      rw [t2, bsome, if_pos (by omega), t11]
      exact e
    have hit : ∀ j : Nat, r = (j : Int) → vcI X 275 [vP 47, vI r] (tk σ t) = some (r, tk σ t) := fun j hj => vI_of ((bq_275_0 X _ _).trans (by rw [if_pos (by omega), bq_275_10])) rfl
    have tail : ∀ (σ1 τ1 : am_Sg), σ1 47 10 = tk σ t 47 10 → τ1 80 11 = gm τ t 80 11 → τ1 84 = τ 84 → (σ1 47 6 = 0 → 0 < τ1 80 11 ∧ σ1 47 10 = τ1 84 (τ1 80 11 - 1).toNat ∧ τ1 80 11 = τ 80 11 + 1) := fun σ1 τ1 a1 a2 a3 _ => by
      have b1 : tk σ t 47 10 = σ 5 t := rfl
      have b2 : gm τ t 80 11 = ((t + 1 : Nat) : Int) := rfl
      rw [a1, b1, a2, b2, a3, t11, show ((((t + 1 : Nat) : Int)) - 1).toNat = t by omega]
      exact ⟨by omega, (h.1.2.1 t f.1).1, by omega⟩
    by_cases y : σ 47 8 = 0
    · have uq := hU ⟨f.2.1.1, y⟩
      rcases q2 with ⟨j, j1, j2, j3⟩ | ⟨j1, j2⟩
      · obtain ⟨k, k1, k2, k3⟩ := bwd j j1 j3
        rcases mk with ⟨k', a1, a2, a3, a4⟩ | ⟨a1, -⟩
        · obtain ⟨i, i1, i2, i3⟩ := fwd k' a1 a2 a3
          have ei : i = j := uq i j i1 j1 (by rw [i3, j3])
          subst ei
          have i2' : gm τ t 90 k' = (i : Int) := i2
          refine ⟨r, gm τ t 90 k', tk σ t, gm τ t, headC _ (hit _ j2), headM _ _ a4, t3, ⟨⟨by omega, by omega⟩, by omega, by omega⟩, fun _ => ⟨by omega, by omega⟩, tail _ _ rfl rfl rfl⟩
        · exact absurd ⟨k2, k3⟩ (a1 k (by omega) k1)
      · rcases mk with ⟨k', a1, a2, a3, a4⟩ | ⟨a1, a2⟩
        · obtain ⟨i, i1, i2, i3⟩ := fwd k' a1 a2 a3
          exact absurd i3 (j2 i i1)
        · have w1 := nx_slip (k := 4) h.1 f (by omega) (by omega) (by omega) tl y
          refine ⟨r, -1, nt (tk σ t) 4, nm (gm τ t) t 4, headC _ (vI_of ((bq_275_0 X _ _).trans ?_) rfl), headM _ _ (a2.trans ?_), w1, ⟨⟨by omega, by omega⟩, by omega, by omega⟩, fun z => ?_, tail _ _ rfl rfl rfl⟩
          · rw [if_neg (fun q => q j1), cn_0 (show tk σ t 47 8 = 0 from y), bsome, bq_275_10]
          · rw [mw_0 (show gm τ t 80 13 = 0 from f.2.1.2) (show gm τ t 80 15 = 0 from f.2.2.2.2.1.symm.trans y) (by omega), bsome]
          · have : (4 : Int) = 0 := z.2
            omega
    · have y' : ¬ τ 80 15 = 0 := by rw [← f.2.2.2.2.1]; exact y
      have ec1 : vcI X 275 [vP 47, vI r] (tk σ t) = some (r, tk σ t) := by
        by_cases w : r = -1
        · exact vI_of ((bq_275_0 X _ _).trans (by rw [if_neg (fun q => q w), cn_1 (show ¬ tk σ t 47 8 = 0 from y), bsome, bq_275_10])) rfl
        · exact vI_of ((bq_275_0 X _ _).trans (by rw [if_pos w, bq_275_10])) rfl
      have rb : -1 ≤ r ∧ r < (cn σ 0 : Int) := by
        rcases q2 with ⟨j, j1, j2, -⟩ | ⟨j1, -⟩
        · omega
        · omega
      rcases mk with ⟨k', a1, a2, a3, a4⟩ | ⟨-, a2⟩
      · obtain ⟨i, i1, i2, i3⟩ := fwd k' a1 a2 a3
        have i2' : gm τ t 90 k' = (i : Int) := i2
        exact ⟨r, gm τ t 90 k', tk σ t, gm τ t, headC _ ec1, headM _ _ a4, t3, ⟨rb, by omega, by omega⟩, fun z => absurd z.2 y, tail _ _ rfl rfl rfl⟩
      · refine ⟨r, -1, tk σ t, gm τ t, headC _ ec1, headM _ _ (a2.trans ?_), t3, ⟨rb, by omega, by omega⟩, fun z => absurd z.2 y, tail _ _ rfl rfl rfl⟩
        rw [mw_lt (show gm τ t 80 13 = 0 from f.2.1.2) (show ¬ gm τ t 80 15 = 0 from y') (by omega) (gm_lt h.1 f y'), bsome]
theorem l_told1 (X : Nat) {n : Nat} (h : PS N σ τ) (hn : n ≤ 18) (h20 : τ 80 20 = (n : Int)) (hC : CB σ 1) (hB : NBs σ τ n 1) (hU : ok0 σ → UN σ 1) : ∃ r r' σ' τ', vcI X 239 [vP 47] σ = some (r, σ') ∧ vcI X 254 [vP 80, vI 1] τ = some (r', τ') ∧ Nx N σ τ σ' τ' ∧ ((-1 ≤ r ∧ r < (cn σ 1 : Int)) ∧ (-1 ≤ r' ∧ r' < (cn σ 1 : Int))) ∧ (ok0 σ' → 0 ≤ r ∧ r' = r) ∧ (σ' 47 6 = 0 → 0 < τ' 80 11 ∧ σ' 47 10 = τ' 84 (τ' 80 11 - 1).toNat ∧ τ' 80 11 = τ 80 11 + 1) := by
  obtain ⟨b, σ', τ', t1, t2, t3, t4⟩ := l_take X h kr_name (by decide) (by decide)
  have c0 : (0 : Int) ≤ (cn σ 1 : Int) := by omega
  rcases t4 with ⟨u1, u2⟩ | ⟨u1, t, f, tl, e2, u3, u4, f'⟩
  · have fs := t3.1.fs u2
    refine ⟨-1, -1, σ', τ', vI_of ((bq_239_0 X σ).trans ?_) rfl, vI_of ((bq_254_0 X _ τ).trans ?_) rfl, t3, ⟨⟨by omega, by omega⟩, by omega, by omega⟩, fun z => absurd z.1 u2, fun z => absurd z u2⟩
    · rw [t1, bsome]
      dsimp +instances only
      rw [if_pos u1, bq_239_27]
    · rw [t2, bsome]
      have := fs.1
      rw [if_neg (by omega)]
  · subst u3 u4
    have tN := f.1
    obtain ⟨-, -, -, tok⟩ := h.1.2.1 t f.1
    obtain ⟨l, l1, l2, l3⟩ := tok e2
    have f28 : tk σ t 28 = σ 28 := tk_fr.get 28 (by decide) rfl
    have f29 : tk σ t 29 = σ 29 := tk_fr.get 29 (by decide) rfl
    have ec : cn (tk σ t) 1 = cn σ 1 := by unfold cn; rw [f28]
    have hC' : CB (tk σ t) 1 := by unfold CB; rw [ec, f28]; exact hC
    have e11 : tk σ t 47 11 = σ 6 t := rfl
    obtain ⟨r, q1, q2⟩ := c_manNamed X (x := σ 6 t) hC'
    unfold Lk at q2
    rw [ec, f29] at q2
    have g20 : gm τ t 80 20 = (n : Int) := h20
    have t11 : τ 80 11 = (t : Int) := f.2.2.1.2
    have mk := m_known (τ := gm τ t) X (s := ((1 : Nat) : Int)) (t := t) hn g20 (by omega) n 0 (by omega)
    have e86 : gm τ t 86 t = τ 86 t := rfl
    have g13 : ¬ 0 < gm τ t 80 13 := by show ¬ 0 < τ 80 13; rw [f.2.1.2]; omega
    -- the same name on both sides
    have fwd : ∀ j : Nat, j < n → τ 88 j = τ 86 t → τ 89 j = ((1 : Nat) : Int) → ∃ i : Nat, i < cn σ 1 ∧ τ 90 j = (i : Int) ∧ σ 29 (off 1 + i) = σ 6 t := fun j hj a1 a2 => by
      obtain ⟨i, l', i1, i2, i3, i4, i5⟩ := hB.1 j hj a2
      refine ⟨i, i1, i3, ?_⟩
      rw [i5, l2, (name_iff i2 l1).mpr (by have := (i4.symm.trans a1).trans l3; omega)]
    have bwd : ∀ i : Nat, i < cn σ 1 → σ 29 (off 1 + i) = σ 6 t → ∃ j, j < n ∧ τ 88 j = τ 86 t ∧ τ 89 j = ((1 : Nat) : Int) := fun i hi a1 => by
      obtain ⟨j, j1, j2, j3⟩ := hB.2 i hi
      obtain ⟨i', l', i1, i2, i3, i4, i5⟩ := hB.1 j j1 j2
      have ei : i' = i := by omega
      subst ei
      refine ⟨j, j1, ?_, j2⟩
      rw [i4, l3, (name_iff i2 l1).mp (by have := (i5.symm.trans a1).trans l2; omega)]
    have headC : ∀ σ1, vcI X 275 [vP 47, vI r] (tk σ t) = some (r, σ1) → vcI X 239 [vP 47] σ = some (r, σ1) := fun σ1 e => by
      refine vI_of ((bq_239_0 X σ).trans ?_) rfl
      rw [t1, bsome]
      dsimp +instances only
      rw [if_neg (by rw [u1]; decide), e11, q1, bsome]
      dsimp +instances only
      rw [e, bsome, bq_239_27]
    have headM : ∀ v τ1, vv X 254 21 [some (vP 80), some (vI ((1 : Nat) : Int)), some (vI (t : Int)), some (vI ((0 : Nat) : Int))] [] (gm τ t) = some (some (vI v), τ1) → vcI X 254 [vP 80, vI 1] τ = some (v, τ1) := fun v τ1 e => by
      refine vI_of ((bq_254_0 X _ τ).trans ?_) rfl
      rw [t2, bsome, if_pos (by omega), t11]
      exact e
    have hit : ∀ j : Nat, r = (j : Int) → vcI X 275 [vP 47, vI r] (tk σ t) = some (r, tk σ t) := fun j hj => vI_of ((bq_275_0 X _ _).trans (by rw [if_pos (by omega), bq_275_10])) rfl
    have tail : ∀ (σ1 τ1 : am_Sg), σ1 47 10 = tk σ t 47 10 → τ1 80 11 = gm τ t 80 11 → τ1 84 = τ 84 → (σ1 47 6 = 0 → 0 < τ1 80 11 ∧ σ1 47 10 = τ1 84 (τ1 80 11 - 1).toNat ∧ τ1 80 11 = τ 80 11 + 1) := fun σ1 τ1 a1 a2 a3 _ => by
      have b1 : tk σ t 47 10 = σ 5 t := rfl
      have b2 : gm τ t 80 11 = ((t + 1 : Nat) : Int) := rfl
      rw [a1, b1, a2, b2, a3, t11, show ((((t + 1 : Nat) : Int)) - 1).toNat = t by omega]
      exact ⟨by omega, (h.1.2.1 t f.1).1, by omega⟩
    by_cases y : σ 47 8 = 0
    · have uq := hU ⟨f.2.1.1, y⟩
      rcases q2 with ⟨j, j1, j2, j3⟩ | ⟨j1, j2⟩
      · obtain ⟨k, k1, k2, k3⟩ := bwd j j1 j3
        rcases mk with ⟨k', a1, a2, a3, a4⟩ | ⟨a1, -⟩
        · obtain ⟨i, i1, i2, i3⟩ := fwd k' a1 a2 a3
          have ei : i = j := uq i j i1 j1 (by rw [i3, j3])
          subst ei
          have i2' : gm τ t 90 k' = (i : Int) := i2
          refine ⟨r, gm τ t 90 k', tk σ t, gm τ t, headC _ (hit _ j2), headM _ _ a4, t3, ⟨⟨by omega, by omega⟩, by omega, by omega⟩, fun _ => ⟨by omega, by omega⟩, tail _ _ rfl rfl rfl⟩
        · exact absurd ⟨k2, k3⟩ (a1 k (by omega) k1)
      · rcases mk with ⟨k', a1, a2, a3, a4⟩ | ⟨a1, a2⟩
        · obtain ⟨i, i1, i2, i3⟩ := fwd k' a1 a2 a3
          exact absurd i3 (j2 i i1)
        · have w1 := nx_slip (k := 4) h.1 f (by omega) (by omega) (by omega) tl y
          refine ⟨r, -1, nt (tk σ t) 4, nm (gm τ t) t 4, headC _ (vI_of ((bq_275_0 X _ _).trans ?_) rfl), headM _ _ (a2.trans ?_), w1, ⟨⟨by omega, by omega⟩, by omega, by omega⟩, fun z => ?_, tail _ _ rfl rfl rfl⟩
          · rw [if_neg (fun q => q j1), cn_0 (show tk σ t 47 8 = 0 from y), bsome, bq_275_10]
          · rw [mw_0 (show gm τ t 80 13 = 0 from f.2.1.2) (show gm τ t 80 15 = 0 from f.2.2.2.2.1.symm.trans y) (by omega), bsome]
          · have : (4 : Int) = 0 := z.2
            omega
    · have y' : ¬ τ 80 15 = 0 := by rw [← f.2.2.2.2.1]; exact y
      have ec1 : vcI X 275 [vP 47, vI r] (tk σ t) = some (r, tk σ t) := by
        by_cases w : r = -1
        · exact vI_of ((bq_275_0 X _ _).trans (by rw [if_neg (fun q => q w), cn_1 (show ¬ tk σ t 47 8 = 0 from y), bsome, bq_275_10])) rfl
        · exact vI_of ((bq_275_0 X _ _).trans (by rw [if_pos w, bq_275_10])) rfl
      have rb : -1 ≤ r ∧ r < (cn σ 1 : Int) := by
        rcases q2 with ⟨j, j1, j2, -⟩ | ⟨j1, -⟩
        · omega
        · omega
      rcases mk with ⟨k', a1, a2, a3, a4⟩ | ⟨-, a2⟩
      · obtain ⟨i, i1, i2, i3⟩ := fwd k' a1 a2 a3
        have i2' : gm τ t 90 k' = (i : Int) := i2
        exact ⟨r, gm τ t 90 k', tk σ t, gm τ t, headC _ ec1, headM _ _ a4, t3, ⟨rb, by omega, by omega⟩, fun z => absurd z.2 y, tail _ _ rfl rfl rfl⟩
      · refine ⟨r, -1, tk σ t, gm τ t, headC _ ec1, headM _ _ (a2.trans ?_), t3, ⟨rb, by omega, by omega⟩, fun z => absurd z.2 y, tail _ _ rfl rfl rfl⟩
        rw [mw_lt (show gm τ t 80 13 = 0 from f.2.1.2) (show ¬ gm τ t 80 15 = 0 from y') (by omega) (gm_lt h.1 f y'), bsome]
theorem l_name (X : Nat) {n : Nat} (h : PS N σ τ) (hn : n ≤ 18) (h20 : τ 80 20 = (n : Int)) (hC : ∀ s, s < 3 → CB σ s) (hB : ∀ s, s < 3 → NBs σ τ n s) (hS : ∀ k, k < n → ∃ s : Nat, s < 3 ∧ τ 89 k = (s : Int)) : ∃ v w σ' τ', vcJ X 231 [vP 47] σ = some (v, σ') ∧ vcI X 249 [vP 80] τ = some (w, τ') ∧ Nx N σ τ σ' τ' ∧ (σ' 47 6 = 0 → ∃ (t : Nat) (l : List Nat), t < 400 ∧ w = (t : Int) ∧ Lt l ∧ v = ((fr 32 l : Nat) : Int) ∧ τ 86 t = ((fr 27 l : Nat) : Int)) ∧ (ok0 σ' → ∀ s j : Nat, s < 3 → j < cn σ s → ¬ σ 29 (off s + j) = v) := by
  obtain ⟨b, σ', τ', t1, t2, t3, t4⟩ := l_take X h kr_name (by decide) (by decide)
  rcases t4 with ⟨u1, u2⟩ | ⟨u1, t, f, tl, e2, u3, u4, f'⟩
  · have fs := t3.1.fs u2
    refine ⟨σ' 47 11, τ 80 11, σ', τ', vJ_of ((bq_231_0 X σ).trans ?_) rfl, vI_of ((bq_249_0 X τ).trans ?_) rfl, t3, fun z => absurd z u2, fun z => absurd z.1 u2⟩
    · rw [t1, bsome]
      dsimp +instances only
      rw [if_pos u1, bq_231_27]
    · rw [t2, bsome, bq_249_12]
      have := fs.1
      by_cases w : τ' 80 20 ≤ 0
      · rw [if_pos w, bq_249_55]
      · rw [if_neg w, if_pos (by omega), bq_249_55]
  · subst u3 u4
    have tN := f.1
    obtain ⟨-, -, -, tok⟩ := h.1.2.1 t f.1
    obtain ⟨l, l1, l2, l3⟩ := tok e2
    have f28 : tk σ t 28 = σ 28 := tk_fr.get 28 (by decide) rfl
    have f29 : tk σ t 29 = σ 29 := tk_fr.get 29 (by decide) rfl
    have ec : ∀ s, cn (tk σ t) s = cn σ s := fun s => by unfold cn; rw [f28]
    have hC' : ∀ s, s < 3 → CB (tk σ t) s := fun s hs => by unfold CB; rw [ec, f28]; exact hC s hs
    have e11 : tk σ t 47 11 = σ 6 t := rfl
    obtain ⟨r, q1, q2⟩ := c_isTold X (x := σ 6 t) (hC' 0 (by omega)) (hC' 1 (by omega)) (hC' 2 (by omega))
    have g20 : gm τ t 80 20 = (n : Int) := h20
    have t11 : τ 80 11 = (t : Int) := f.2.2.1.2
    have h15 := f.2.2.2.2.1
    have hW : gm τ t 80 15 = 0 ∨ (¬ gm τ t 80 15 = 0 ∧ gm τ t 80 16 < gm τ t 84 t) ∨ (gm τ t 80 15 = 3 ∧ gm τ t 80 16 = gm τ t 84 t) := by
      by_cases y : τ 80 15 = 0
      · exact Or.inl y
      · exact Or.inr (Or.inl ⟨y, gm_lt h.1 f y⟩)
    obtain ⟨τ1, m1, m2⟩ := m_named X hn (show t ≤ 402 by omega) n 0 (gm τ t) (by omega) g20 f.2.1.2 hW
    have headM : vcI X 249 [vP 80] τ = some ((t : Int), τ1) := by
      refine vI_of ((bq_249_0 X τ).trans ?_) rfl
      rw [t2, bsome, t11]
      exact m1
    have headC : ∀ σ1, (r = 0 ∧ σ1 = tk σ t) ∨ (r = 1 ∧ vcV X 241 [vP 47, vI 3] (tk σ t) = some σ1) → σ1 47 11 = σ 6 t → vcJ X 231 [vP 47] σ = some (σ 6 t, σ1) := fun σ1 e e' => by
      refine vJ_of ((bq_231_0 X σ).trans ?_) rfl
      rw [t1, bsome]
      dsimp +instances only
      rw [if_neg (by rw [u1]; decide), e11, q1, bsome]
      dsimp +instances only
      rcases e with ⟨a, a'⟩ | ⟨a, a'⟩
      · rw [if_pos a, bq_231_27, ← a', e']
      · rw [if_neg (by omega), a', bsome, bq_231_27, e']
    have fin : ∃ (t0 : Nat) (l : List Nat), t0 < 400 ∧ (t : Int) = (t0 : Int) ∧ Lt l ∧ σ 6 t = ((fr 32 l : Nat) : Int) ∧ τ 86 t0 = ((fr 27 l : Nat) : Int) := ⟨t, l, tl, rfl, l1, l2, l3⟩
    by_cases y : σ 47 8 = 0
    · have y' : τ 80 15 = 0 := h15.symm.trans y
      rcases q2 with ⟨r1, s, j, s1, s2, s3⟩ | ⟨r0, r1⟩
      · rw [ec] at s2
        rw [f29] at s3
        obtain ⟨k, k1, k2, k3⟩ := (hB s s1).2 j s2
        obtain ⟨i', l', i1, i2, i3, i4, i5⟩ := (hB s s1).1 k k1 k2
        have ei : i' = j := by omega
        subst ei
        have hk : τ 88 k = τ 86 t := by rw [i4, l3, (name_iff i2 l1).mp (by have := (i5.symm.trans s3).trans l2; omega)]
        rcases m2 with ⟨-, m2⟩ | ⟨m2, -, -⟩
        · exact absurd hk (m2 y' k (by omega) k1)
        · subst m2
          have w1 := nx_slip (k := 3) h.1 f (by omega) (by omega) (by omega) tl y
          refine ⟨σ 6 t, (t : Int), nt (tk σ t) 3, nm (gm τ t) t 3, headC _ (Or.inr ⟨r1, cn_0 y⟩) rfl, headM, w1, fun _ => fin, fun z => ?_⟩
          have : (3 : Int) = 0 := z.2
          omega
      · rcases m2 with ⟨m2, -⟩ | ⟨-, -, k, k1, k2⟩
        · subst m2
          refine ⟨σ 6 t, (t : Int), tk σ t, gm τ t, headC _ (Or.inl ⟨r0, rfl⟩) rfl, headM, t3, fun _ => fin, fun _ s j s1 s2 => ?_⟩
          have := r1 s j s1 (by rw [ec]; exact s2)
          rwa [f29] at this
        · obtain ⟨s, s1, s2⟩ := hS k k1
          obtain ⟨i', l', i1, i2, i3, i4, i5⟩ := (hB s s1).1 k k1 s2
          have k2' : τ 88 k = τ 86 t := k2
          have := r1 s i' s1 (by rw [ec]; exact i1)
          rw [f29] at this
          exact absurd (by rw [i5, l2, (name_iff i2 l1).mpr (by have := (i4.symm.trans k2').trans l3; omega)]) this
    · have et : τ1 = gm τ t := by
        rcases m2 with ⟨m2, -⟩ | ⟨-, m2, -⟩
        · exact m2
        · exact absurd (h15.trans m2) y
      subst et
      refine ⟨σ 6 t, (t : Int), tk σ t, gm τ t, headC _ ?_ rfl, headM, t3, fun _ => fin, fun z => absurd z.2 y⟩
      rcases q2 with ⟨r1, -⟩ | ⟨r0, -⟩
      · exact Or.inr ⟨r1, cn_1 y⟩
      · exact Or.inl ⟨r0, rfl⟩
end PC
