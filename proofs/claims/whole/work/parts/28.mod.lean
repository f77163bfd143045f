/-! THE REFERENCE'S SMALL METHODS -/
theorem sm_bd {f : Nat → Int} {c : Int} : ∀ {n : Nat}, (∀ d, d < n → 0 ≤ f d ∧ f d ≤ c) → 0 ≤ sm f n ∧ sm f n ≤ c * (n : Int)
  | 0, _ => ⟨Int.le_refl _, by show (0 : Int) ≤ _; omega⟩
  | n + 1, h => by
    have h1 := sm_bd (n := n) (fun d hd => h d (by omega))
    have h2 := h n (by omega)
    have e : c * ((n + 1 : Nat) : Int) = c * (n : Int) + c := by rw [Int.natCast_add, Int.mul_add]; simp
    show 0 ≤ sm f n + f n ∧ sm f n + f n ≤ _
    rw [e]
    omega
theorem sm_ext {f g : Nat → Int} : ∀ {n : Nat}, (∀ d, d < n → f d = g d) → sm f n = sm g n
  | 0, _ => rfl
  | n + 1, h => by
    show sm f n + f n = sm g n + g n
    rw [sm_ext (fun d hd => h d (by omega)), h n (by omega)]
theorem mul_bd {a b A B : Int} (h1 : 0 ≤ a) (h2 : a ≤ A) (h3 : 0 ≤ b) (h4 : b ≤ B) : 0 ≤ a * b ∧ a * b ≤ A * B := ⟨Int.mul_nonneg h1 h3, Int.mul_le_mul h2 h4 h3 (by omega)⟩
theorem BOk.mono {T : am_Sg} {b : Nat → Int} {n n' : Int} (h : BOk T b n) (hn : n ≤ n') : BOk T b n' := ⟨fun d hd => ⟨(h.1 d hd).1, by have := (h.1 d hd).2; omega⟩, h.2⟩
section MOD
variable {X l m : Nat} {σ T : am_Sg}
theorem m_menNow (H : TOk T) (K : TM σ T l) : vcI X 158 [vP 80] σ = some ((nM T : Int), σ) := vI_of ((bq_158_0 X σ).trans (by
  have h1 := K.l1
  rw [K.l0, if_pos (by omega), tn_nat, K.nm, H.m0])) rfl
theorem m_kinds (H : TOk T) (K : TM σ T l) : vcI X 133 [vP 80] σ = some ((nD T : Int), σ) := vI_of ((bq_133_0 X σ).trans (by
  have h1 := K.l1
  rw [K.l0, if_pos (by omega), tn_nat, K.nd, H.d0])) rfl
theorem ix8 {l m : Nat} (h : l ≤ 1) (hm : m < 8) : w32 (w32 (8 * (l : Int)) + (m : Int)) = ((8 * l + m : Nat) : Int) := by unfold w32; omega
theorem ix4 {l d : Nat} (h : l ≤ 1) (hd : d < 4) : w32 (w32 (4 * (l : Int)) + (d : Int)) = ((4 * l + d : Nat) : Int) := by unfold w32; omega
theorem ix6 {l d : Nat} (h : l ≤ 1) (hd : d < 6) : w32 (w32 (6 * (l : Int)) + (d : Int)) = ((6 * l + d : Nat) : Int) := by unfold w32; omega
theorem ix20 {l d : Nat} (h : l ≤ 1) (hd : d < 20) : w32 (w32 (20 * (l : Int)) + (d : Int)) = ((20 * l + d : Nat) : Int) := by unfold w32; omega
theorem ix48 {l m d : Nat} (h : l ≤ 1) (hm : m < 8) (hd : d < 4) : w32 (w32 (4 * w32 (w32 (8 * (l : Int)) + (m : Int))) + (d : Int)) = ((4 * (8 * l + m) + d : Nat) : Int) := by unfold w32; omega
theorem ixm4 {m d : Nat} (hm : m < 8) (hd : d < 4) : w32 (w32 ((m : Int) * 4) + (d : Int)) = ((4 * m + d : Nat) : Int) := by unfold w32; omega
theorem ixo {c m : Nat} (h : c + m < 2147483648) : w32 ((c : Int) + (m : Int)) = ((c + m : Nat) : Int) := by unfold w32; omega
theorem m_room (H : TOk T) (K : TM σ T l) (hm : m < nM T) : vcI X 131 [vP 80, vI (m : Int)] σ = some (w32 (T 13 m - σ 128 m), σ) := vI_of ((bq_131_0 X _ σ).trans (by
  have h1 := K.l1
  have h8 := H.m8
  rw [K.l0, ix8 h1 (by omega), if_pos (by omega), if_pos (by omega), tn_nat, tn_nat, (K.mi m hm).1])) rfl
theorem m_isHated (H : TOk T) (K : TM σ T l) (hm : m < nM T) {d : Nat} (hd : d < 4) : vcI X 214 [vP 80, vI (m : Int), vI (d : Int)] σ = some (bt1 (T 17 m) d, σ) := vI_of ((bq_214_0 X _ _ σ).trans (by
  have h1 := K.l1
  have h8 := H.m8
  have k := K.hi m hm d hd
  rw [K.l0, ix48 h1 (by omega) hd, if_pos (by omega), tn_nat, k.2.1, if_pos]
  rcases k.1 with z | z <;> rw [z] <;> rfl)) rfl
theorem m_fasts (H : TOk T) (K : TM σ T l) (hm : m < nM T) (h0 : 0 ≤ σ 128 44) (h23 : σ 128 44 ≤ 23) : vcI X 213 [vP 80, vI (m : Int)] σ = some (if bt1 (T 18 m) (σ 128 44).toNat = 0 then 0 else 1, σ) := vI_of ((bq_213_0 X _ σ).trans (by
  have h1 := K.l1
  have h8 := H.m8
  have k := (K.mi m hm).2.2.2.2 (σ 128 44).toNat (by omega)
  have e : ((σ 128 44).toNat : Int) = σ 128 44 := by omega
  rw [e] at k
  rw [K.l0, ix8 h1 (by omega), if_pos (by omega), tn_nat, g_in, bsome]
  dsimp +instances only
  rw [if_pos okZi]
  by_cases z : bt1 (T 18 m) (σ 128 44).toNat = 0
  · rw [if_pos z, if_neg (k.mp z)]
  · rw [if_neg z, if_pos (Classical.not_not.mp (fun y => z (k.mpr y)))])) rfl
theorem m_bites (hb : BOk T (σ 129) 12) : vcI X 130 [vP 80] σ = some (numS (σ 129), σ) := vI_of ((bq_130_0 X σ).trans (by
  have h0 := hb.1 0 (by omega)
  have h1 := hb.1 1 (by omega)
  have h2 := hb.1 2 (by omega)
  have h3 := hb.1 3 (by omega)
  unfold numS w32
  congr 4
  omega)) rfl
theorem m_bulk (H : TOk T) (K : TM σ T l) (hb : BOk T (σ 129) 12) : vcI X 110 [vP 80] σ = some (bulkS T (σ 129), σ) := by
  have h1 := K.l1
  have h4 := H.d4
  have bd : ∀ d, d < nD T → 0 ≤ σ 129 d * T 10 d ∧ σ 129 d * T 10 d ≤ 12 * 9 := fun d hd => mul_bd (hb.1 d (by omega)).1 (hb.1 d (by omega)).2 (by have := H.di d hd; omega) (by have := H.di d hd; omega)
  refine vI_of ((bq_110_0 X σ).trans ?_) rfl
  obtain ⟨s, e, hs⟩ := lp (fun i (a : Int) => vv X 110 4 [some (vP 80), some (vI a), some (vI (i : Int))] [] σ) (nD T) (fun i a => a = sm (fun d => σ 129 d * T 10 d) i) (fun i a hi ha => by
    refine ⟨sm (fun d => σ 129 d * T 10 d) (i + 1), ?_, rfl⟩
    have b0 := sm_bd (n := i) (fun d hd => bd d (by omega))
    have b1 := bd i hi
    show vv X 110 4 [some (vP 80), some (vI a), some (vI (i : Int))] [] σ = _
    rw [bq_110_4, m_kinds H K, bsome]
    dsimp +instances only
    rw [if_neg (by omega), if_pos (by omega), K.l0, ix4 h1 (by omega), if_pos (by omega), tn_nat, tn_nat, (K.di i hi).1, w32_s1 (by omega), ha]
    show vv X 110 4 [some (vP 80), some (vI (w32 (sm (fun d => σ 129 d * T 10 d) i + w32 (σ 129 i * T 10 i)))), some (vI ((i + 1 : Nat) : Int))] [] σ = vv X 110 4 [some (vP 80), some (vI (sm (fun d => σ 129 d * T 10 d) i + σ 129 i * T 10 i)), some (vI ((i + 1 : Nat) : Int))] [] σ
    rw [w32_id (x := σ 129 i * T 10 i) (by omega) (by omega), w32_id (by omega) (by omega)]) (nD T) 0 0 (by omega) rfl
  refine Eq.trans e ?_
  show vv X 110 4 [some (vP 80), some (vI s), some (vI (nD T : Int))] [] σ = _
  rw [bq_110_4, m_kinds H K, bsome]
  dsimp +instances only
  rw [if_pos (Int.le_refl _), hs]
  rfl
theorem m_gain (H : TOk T) (K : TM σ T l) (hb : BOk T (σ 129) 12) : vcI X 148 [vP 80] σ = some (gainS T (σ 129), σ) := by
  have h1 := K.l1
  have h4 := H.d4
  have bd : ∀ d, d < nD T → 0 ≤ σ 129 d * T 11 d ∧ σ 129 d * T 11 d ≤ 12 * 99 := fun d hd => mul_bd (hb.1 d (by omega)).1 (hb.1 d (by omega)).2 (by have := H.di d hd; omega) (by have := H.di d hd; omega)
  refine vI_of ((bq_148_0 X σ).trans ?_) rfl
  obtain ⟨s, e, hs⟩ := lp (fun i (a : Int) => vv X 148 4 [some (vP 80), some (vI a), some (vI (i : Int))] [] σ) (nD T) (fun i a => a = sm (fun d => σ 129 d * T 11 d) i) (fun i a hi ha => by
    refine ⟨sm (fun d => σ 129 d * T 11 d) (i + 1), ?_, rfl⟩
    have b0 := sm_bd (n := i) (fun d hd => bd d (by omega))
    have b1 := bd i hi
    show vv X 148 4 [some (vP 80), some (vI a), some (vI (i : Int))] [] σ = _
    rw [bq_148_4, m_kinds H K, bsome]
    dsimp +instances only
    rw [if_neg (by omega), if_pos (by omega), K.l0, ix4 h1 (by omega), if_pos (by omega), tn_nat, tn_nat, (K.di i hi).2.1, w32_s1 (by omega), ha]
    show vv X 148 4 [some (vP 80), some (vI (w32 (sm (fun d => σ 129 d * T 11 d) i + w32 (σ 129 i * T 11 i)))), some (vI ((i + 1 : Nat) : Int))] [] σ = vv X 148 4 [some (vP 80), some (vI (sm (fun d => σ 129 d * T 11 d) i + σ 129 i * T 11 i)), some (vI ((i + 1 : Nat) : Int))] [] σ
    rw [w32_id (x := σ 129 i * T 11 i) (by omega) (by omega), w32_id (by omega) (by omega)]) (nD T) 0 0 (by omega) rfl
  refine Eq.trans e ?_
  show vv X 148 4 [some (vP 80), some (vI s), some (vI (nD T : Int))] [] σ = _
  rw [bq_148_4, m_kinds H K, bsome]
  dsimp +instances only
  rw [if_pos (Int.le_refl _), hs]
  rfl
theorem m_hasStores (H : TOk T) (K : TM σ T l) : vcI X 129 [vP 80] σ = some (@ite _ (storesS T (σ 128) (σ 129)) (Classical.propDecidable _) 1 0, σ) := by
  have h4 := H.d4
  refine vI_of ((bq_129_0 X σ).trans ?_) rfl
  rcases lq (fun i (_ : Unit) => vv X 129 2 [some (vP 80), some (vI (i : Int))] [] σ) (nD T) (fun i _ => ∀ d, d < i → σ 129 d ≤ σ 128 (32 + d)) (fun r => r = (some (vI 0), σ) ∧ ¬ storesS T (σ 128) (σ 129)) (fun i _ hi ha => by
    show (∃ s', vv X 129 2 [some (vP 80), some (vI (i : Int))] [] σ = _ ∧ _) ∨ ∃ r, vv X 129 2 [some (vP 80), some (vI (i : Int))] [] σ = some r ∧ _
    rw [bq_129_2, m_kinds H K, bsome]
    dsimp +instances only
    rw [if_neg (by omega), if_pos (by omega), show w32 (32 + (i : Int)) = ((32 + i : Nat) : Int) from by unfold w32; omega, if_pos (by omega), tn_nat, tn_nat, w32_s1 (by omega)]
    by_cases z : σ 129 i ≤ σ 128 (32 + i)
    · rw [if_pos z]
      exact Or.inl ⟨(), rfl, fun d hd => by
        by_cases y : d = i
        · rw [y]; exact z
        · exact ha d (by omega)⟩
    · rw [if_neg z]
      exact Or.inr ⟨_, rfl, rfl, fun y => z (y i hi)⟩) (nD T) 0 () (by omega) (fun d hd => absurd hd (Nat.not_lt_zero d)) with ⟨s, e, hs⟩ | ⟨r, e, h1, h2⟩
  · refine Eq.trans e ?_
    show vv X 129 2 [some (vP 80), some (vI (nD T : Int))] [] σ = _
    rw [bq_129_2, m_kinds H K, bsome]
    dsimp +instances only
    rw [if_pos (Int.le_refl _), if_pos (show storesS T (σ 128) (σ 129) from hs)]
  · refine Eq.trans e ?_
    rw [h1, if_neg h2]
theorem m_why (H : TOk T) (K : TM σ T l) (hm : m < nM T) (S : ScOk T (rs (σ 128))) (hb : BOk T (σ 129) 12) {x2 : Int} : vcI X 203 [vP 80, vI (m : Int), vI x2] σ = some (whyS T (rs (σ 128)) m (σ 129) (¬ x2 = 0), σ) := by
  have h8 := H.m8
  have h4 := H.d4
  have e44 : rs (σ 128) 44 = σ 128 44 := rs_in (by omega)
  have e8 : rs (σ 128) (8 + m) = σ 128 (8 + m) := rs_in (by omega)
  have em : rs (σ 128) m = σ 128 m := rs_in (by omega)
  have sm0 := S.1 m hm
  have s44 := S.2.2.1
  rw [e44] at s44
  rw [e8, em] at sm0
  have hT := H.mi m hm
  refine vI_of ((bq_203_0 X _ _ σ).trans ?_) rfl
  unfold whyS fasting
  rw [e44, e8, em, show w32 (8 + (m : Int)) = ((8 + m : Nat) : Int) from by unfold w32; omega, if_pos (by omega), tn_nat]
  by_cases a1 : 0 < σ 128 (8 + m)
  · rw [if_neg (by omega), if_pos a1]
  rw [if_pos (by omega), if_neg a1, m_fasts H K hm s44.1 s44.2, bsome]
  dsimp +instances only
  have tail : vv X 203 31 [some (vP 80), some (vI (m : Int)), some (vI x2), none] [] σ = some (some (vI (@ite _ (hatesS T m (σ 129)) (Classical.propDecidable _) 3 (@ite _ (¬ x2 = 0 ∧ ¬ storesS T (rs (σ 128)) (σ 129)) (Classical.propDecidable _) 4 (@ite _ (T 13 m - σ 128 m < bulkS T (σ 129)) (Classical.propDecidable _) 5 0)))), σ) := by
    rw [bq_203_31]
    have fin : vv X 203 80 [some (vP 80), some (vI (m : Int)), none, none] [] σ = some (some (vI (@ite _ (T 13 m - σ 128 m < bulkS T (σ 129)) (Classical.propDecidable _) 5 0)), σ) := by
      rw [bq_203_80, m_bulk H K hb, bsome]
      dsimp +instances only
      rw [m_room H K hm, bsome]
      dsimp +instances only
      rw [w32_id (by omega) (by omega), bq_203_97, bq_203_97]
      by_cases y : T 13 m - σ 128 m < bulkS T (σ 129)
      · rw [if_neg (by omega), if_pos y]
      · rw [if_pos (by omega), if_neg y]
    have es : storesS T (rs (σ 128)) (σ 129) ↔ storesS T (σ 128) (σ 129) := by
      unfold storesS
      constructor
      · intro h d hd
        rw [← rs_in (f := σ 128) (show 32 + d < 46 by omega)]
        exact h d hd
      · intro h d hd
        rw [rs_in (show 32 + d < 46 by omega)]
        exact h d hd
    rcases lq (fun i (_ : Unit) => vv X 203 33 [some (vP 80), some (vI (m : Int)), some (vI x2), some (vI (i : Int))] [] σ) (nD T) (fun i _ => ∀ d, d < i → ¬ (0 < σ 129 d ∧ ¬ bt1 (T 17 m) d = 0)) (fun r => r = (some (vI 3), σ) ∧ hatesS T m (σ 129)) (fun i _ hi ha => by
      show (∃ s', vv X 203 33 [some (vP 80), some (vI (m : Int)), some (vI x2), some (vI (i : Int))] [] σ = _ ∧ _) ∨ ∃ r, vv X 203 33 [some (vP 80), some (vI (m : Int)), some (vI x2), some (vI (i : Int))] [] σ = some r ∧ _
      rw [bq_203_33, m_kinds H K, bsome]
      dsimp +instances only
      rw [if_neg (by omega), if_pos (by omega), tn_nat]
      have nx : (¬ (0 < σ 129 i ∧ ¬ bt1 (T 17 m) i = 0)) → ∀ d, d < i + 1 → ¬ (0 < σ 129 d ∧ ¬ bt1 (T 17 m) d = 0) := fun z d hd => by
        by_cases y : d = i
        · rw [y]; exact z
        · exact ha d (by omega)
      by_cases z : σ 129 i ≤ 0
      · rw [if_pos z, bq_203_61, w32_s1 (by omega)]
        exact Or.inl ⟨(), rfl, nx (fun y => by omega)⟩
      · rw [if_neg z, m_isHated H K hm (by omega), bsome]
        dsimp +instances only
        by_cases y : bt1 (T 17 m) i = 0
        · rw [if_pos y, bq_203_61, w32_s1 (by omega)]
          exact Or.inl ⟨(), rfl, nx (fun q => q.2 y)⟩
        · rw [if_neg y]
          exact Or.inr ⟨_, rfl, rfl, i, hi, by omega, y⟩) (nD T) 0 () (by omega) (fun d hd => absurd hd (Nat.not_lt_zero d)) with ⟨s, e, hs⟩ | ⟨r, e, h1, h2⟩
    · refine Eq.trans e ?_
      have nh : ¬ hatesS T m (σ 129) := fun ⟨d, hd, q1, q2⟩ => hs d hd ⟨q1, q2⟩
      rw [if_neg nh]
      show vv X 203 33 [some (vP 80), some (vI (m : Int)), some (vI x2), some (vI (nD T : Int))] [] σ = _
      rw [bq_203_33, m_kinds H K, bsome]
      dsimp +instances only
      rw [if_pos (Int.le_refl _), fin]
      by_cases z : x2 = 0
      · rw [if_pos z, if_neg (show ¬ (¬ x2 = 0 ∧ ¬ storesS T (rs (σ 128)) (σ 129)) from fun y => y.1 z)]
      · rw [if_neg z, m_hasStores H K, bsome]
        dsimp +instances only
        by_cases y : storesS T (σ 128) (σ 129)
        · rw [if_pos y, if_pos (by decide), fin, if_neg (show ¬ (¬ x2 = 0 ∧ ¬ storesS T (rs (σ 128)) (σ 129)) from fun q => q.2 (es.mpr y))]
        · rw [if_neg y, if_neg (by decide), if_pos ⟨z, fun q => y (es.mp q)⟩]
    · refine Eq.trans e ?_
      rw [h1, if_pos h2]
  by_cases a2 : bt1 (T 18 m) (σ 128 44).toNat = 0
  · rw [if_pos a2, if_pos rfl, if_neg (fun q => q.2 a2), tail]
  · rw [if_neg a2, if_neg (by decide), m_bites hb, bsome]
    dsimp +instances only
    by_cases a3 : numS (σ 129) ≤ 0
    · rw [if_pos a3, if_neg (fun q => by omega), tail]
    · rw [if_neg a3, if_pos ⟨by omega, a2⟩]
end MOD
