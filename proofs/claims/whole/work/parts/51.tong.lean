/-! CALLS: tongue; open rooms, and what he eats -/
def shut (T : am_Sg) (sc : Nat → Int) (m : Nat) : Prop := 0 < sc (8 + m) ∨ fasting T sc m
noncomputable def tgD (T : am_Sg) (ok : Nat → Prop) (b : Nat → Int) (w : Nat) : Nat → Nat × Nat → Nat × Nat
  | 0, s => s
  | i + 1, s => @ite _ (T 10 i = (w : Int) ∧ ok i) (Classical.propDecidable _) ((tgD T ok b w i s).1 - mnN ((tgD T ok b w i s).1 / w) (b i).toNat * w, (tgD T ok b w i s).2 + mnN ((tgD T ok b w i s).1 / w) (b i).toNat) (tgD T ok b w i s)
noncomputable def tgB (T : am_Sg) (ok : Nat → Prop) (b : Nat → Int) : Nat → Nat × Nat → Nat × Nat
  | 0, s => s
  | n + 1, s => tgD T ok b (n + 1) (nD T) (tgB T ok b n s)
theorem tg_ar1 {x k w : Nat} (h1 : k * w ≤ x) (h2 : x ≤ 99) : w32 ((x : Int) - w32 ((k : Int) * (w : Int))) = ((x - k * w : Nat) : Int) := by
  rw [← Int.natCast_mul]
  generalize k * w = z at *
  rw [w32_nat (by omega), w32_id (by omega) (by omega)]
  omega
theorem tg_ar2 {y k : Nat} (h : y + k ≤ 1000) : w32 ((y : Int) + (k : Int)) = ((y + k : Nat) : Int) := w32_ad (by omega)
theorem tg_ar3 {a : Int} {y k : Nat} (ha : 0 ≤ a ∧ a ≤ 1000) (h : y + k ≤ 1000) : w32 (a - (y : Int) - (k : Int)) = a - ((y + k : Nat) : Int) := by
  rw [w32_id (by omega) (by omega)]
  omega
section TG
variable {X l m g : Nat} {σ T : am_Sg} {F : LF} {sc b : Nat → Int} {ok ok' : Nat → Prop}
theorem mn_le (a c : Nat) : mnN a c ≤ a ∧ mnN a c ≤ c := by
  unfold mnN
  split <;> omega
theorem mn_mul {x w c : Nat} (hw : 0 < w) : mnN (x / w) c * w ≤ x ∧ mnN (x / w) c ≤ mnN (x / w) c * w := by
  have h1 := (mn_le (x / w) c).1
  have h2 := Nat.mul_le_mul_right w h1
  have h3 := Nat.div_mul_le_self x w
  have h4 := Nat.mul_le_mul_left (mnN (x / w) c) (show 1 ≤ w by omega)
  omega
theorem tgD_bd {w : Nat} (hw : 0 < w) : ∀ i (s : Nat × Nat), (tgD T ok b w i s).1 + (tgD T ok b w i s).2 ≤ s.1 + s.2
  | 0, s => Nat.le_refl _
  | i + 1, s => by
    have ih := tgD_bd hw i s
    unfold tgD
    split
    · have := mn_mul (x := (tgD T ok b w i s).1) (c := (b i).toNat) hw
      dsimp only
      omega
    · exact ih
theorem tgD_ext {w : Nat} (hok : ∀ d, d < nD T → (ok d ↔ ok' d)) : ∀ i, i ≤ nD T → ∀ s, tgD T ok b w i s = tgD T ok' b w i s
  | 0, _, _ => rfl
  | i + 1, hi, s => by
    unfold tgD
    rw [tgD_ext hok i (by omega) s, propext (hok i (by omega))]
theorem tgB_ext (hok : ∀ d, d < nD T → (ok d ↔ ok' d)) : ∀ n s, tgB T ok b n s = tgB T ok' b n s
  | 0, _ => rfl
  | n + 1, s => by
    unfold tgB
    rw [tgB_ext hok n s, tgD_ext hok (nD T) (Nat.le_refl _)]
theorem tgB_bd : ∀ n (s : Nat × Nat), (tgB T ok b n s).1 + (tgB T ok b n s).2 ≤ s.1 + s.2
  | 0, s => Nat.le_refl _
  | n + 1, s => Nat.le_trans (tgD_bd (by omega) (nD T) _) (tgB_bd n s)
theorem tgD_0 {w : Nat} (hw : 0 < w) (y : Nat) : ∀ i, tgD T ok b w i (0, y) = (0, y)
  | 0 => rfl
  | i + 1 => by
    unfold tgD
    rw [tgD_0 hw y i]
    split
    · dsimp only
      have := (mn_le (0 / w) (b i).toNat).1
      rw [Nat.zero_div] at this ⊢
      have : mnN 0 (b i).toNat = 0 := by omega
      rw [this]
      simp
    · rfl
theorem tgB_0 (y : Nat) : ∀ n, tgB T ok b n (0, y) = (0, y)
  | 0 => rfl
  | n + 1 => by
    unfold tgB
    rw [tgB_0 y n, tgD_0 (by omega)]
theorem tgD_no {w : Nat} (hn : ∀ d, d < nD T → ¬ ok d) : ∀ i, i ≤ nD T → ∀ s, tgD T ok b w i s = s
  | 0, _, _ => rfl
  | i + 1, hi, s => by
    unfold tgD
    rw [if_neg (fun q => hn i (by omega) q.2)]
    exact tgD_no hn i (by omega) s
theorem tgB_no (hn : ∀ d, d < nD T → ¬ ok d) : ∀ n s, tgB T ok b n s = s
  | 0, _ => rfl
  | n + 1, s => by
    unfold tgB
    rw [tgB_no hn n s, tgD_no hn (nD T) (Nat.le_refl _)]
theorem c_open (H : TOk T) (hT : tl σ = T) (hs : rs (σ 50) = sc) (S : ScOk T sc) (hm : m < nM T) : vcI X 124 [vP 57, vP 49, vI (m : Int)] σ = some (@ite _ (shut T sc m) (Classical.propDecidable _) 0 (T 13 m - sc m), σ) := by
  have h8 := H.m8
  have s44 := S.2.2.1
  have sm := S.1 m hm
  have hM := H.mi m hm
  have e44 : σ 50 44 = sc 44 := by rw [← hs, rs_in (by omega)]
  have e8 : σ 50 (8 + m) = sc (8 + m) := by rw [← hs, rs_in (by omega)]
  have em : σ 50 m = sc m := by rw [← hs, rs_in (by omega)]
  refine vI_of ((bq_124_0 X _ σ).trans ?_) rfl
  rw [g_sickA (by omega), bsome]
  dsimp +instances only
  rw [e8]
  by_cases z1 : 0 < sc (8 + m)
  · rw [if_pos z1, bq_124_17, bq_124_22, if_neg i10, bq_124_46, if_pos (show shut T sc m from Or.inl z1)]
  · rw [if_neg z1, c_fast_49 H hT hm (by omega), bsome]
    dsimp +instances only
    rw [e44]
    by_cases z2 : bt1 (T 18 m) (sc 44).toNat = 0
    · rw [if_pos z2, if_pos rfl, bq_124_22, if_pos rfl, if_pos (by omega), g_fullA (by omega), bsome]
      dsimp +instances only
      rw [bq_124_46, Nat.zero_add, em, tn_nat, tl_at hT (k := 13) (by omega), w32_id (by omega) (by omega), if_neg (show ¬ shut T sc m from fun q => q.elim z1 (fun u => u z2))]
    · rw [if_neg z2, if_neg (by decide), bq_124_17, bq_124_22, if_neg i10, bq_124_46, if_pos (show shut T sc m from Or.inr z2)]
theorem m_eats (H : TOk T) (K : TM σ T l) (hs : rs (σ 128) = sc) (S : ScOk T sc) (hm : m < nM T) : ∃ E : Nat, E < 16 ∧ vcI X 132 [vP 80, vI (m : Int)] σ = some ((E : Int), σ) ∧ ∀ d, d < 4 → (bt1 (E : Int) d = 1 ↔ d < nD T ∧ ¬ shut T sc m ∧ bt1 (T 17 m) d = 0) := by
  have h8 := H.m8
  have h4 := H.d4
  have s44 := S.2.2.1
  have e44 : σ 128 44 = sc 44 := by rw [← hs, rs_in (by omega)]
  have e8 : σ 128 (8 + m) = sc (8 + m) := by rw [← hs, rs_in (by omega)]
  have b0 : ∀ k : Fin 4, bt1 ((0 : Nat) : Int) k.val = 0 := by decide +kernel
  have none0 : shut T sc m → ∀ d, d < 4 → (bt1 ((0 : Nat) : Int) d = 1 ↔ d < nD T ∧ ¬ shut T sc m ∧ bt1 (T 17 m) d = 0) := fun q d hd => by
    have := b0 ⟨d, hd⟩
    dsimp only at this
    exact ⟨fun u => by omega, fun u => absurd q u.2.1⟩
  by_cases z1 : 0 < sc (8 + m)
  · refine ⟨0, by omega, vI_of ((bq_132_0 X _ σ).trans ?_) rfl, none0 (Or.inl z1)⟩
    rw [show w32 (8 + (m : Int)) = ((8 + m : Nat) : Int) from w_ix (c := 8) (by omega), if_pos (by omega), tn_nat, e8, if_pos z1, bq_132_20]
    rfl
  · by_cases z2 : bt1 (T 18 m) (sc 44).toNat = 0
    · have ns : ¬ shut T sc m := fun q => q.elim z1 (fun u => u z2)
      obtain ⟨E, eE, hE, hb, hz⟩ := lp (fun i (E : Nat) => vv X 132 26 [some (vP 80), some (vI (m : Int)), some (vI (E : Int)), some (vI (i : Int))] [] σ) (nD T) (fun i E => E < 16 ∧ (∀ d, d < i → (bt1 (E : Int) d = 1 ↔ bt1 (T 17 m) d = 0)) ∧ ∀ d, i ≤ d → d < 4 → bt1 (E : Int) d = 0) (fun i E hi hh => by
        obtain ⟨h1, h2, h3⟩ := hh
        show ∃ E' : Nat, vv X 132 26 [some (vP 80), some (vI (m : Int)), some (vI (E : Int)), some (vI (i : Int))] [] σ = vv X 132 26 [some (vP 80), some (vI (m : Int)), some (vI (E' : Int)), some (vI ((i + 1 : Nat) : Int))] [] σ ∧ _
        rw [bq_132_26, m_kinds H K, bsome]
        dsimp +instances only
        rw [if_neg (by omega), m_isHated H K hm (by omega), bsome]
        dsimp +instances only
        by_cases y : bt1 (T 17 m) i = 0
        · have ob := orb (x := (E : Int)) (d := i) (by omega) (by omega) (by omega)
          obtain ⟨E', hE'⟩ : ∃ E' : Nat, am_or (E : Int) (am_shl 1 (i : Int)) = (E' : Int) := ⟨(am_or (E : Int) (am_shl 1 (i : Int))).toNat, by omega⟩
          rw [hE'] at ob
          rw [if_neg (fun q => q y), hE', bq_132_49, w32_s1 (by omega)]
          refine ⟨E', rfl, by omega, fun k hk => ?_, fun k a c => ?_⟩
          · rw [ob.2 k (by omega)]
            by_cases u : k = i
            · rw [if_pos u, u]
              exact ⟨fun _ => y, fun _ => rfl⟩
            · rw [if_neg u]
              exact h2 k (by omega)
          · rw [ob.2 k c, if_neg (by omega)]
            exact h3 k (by omega) c
        · rw [if_pos y, bq_132_49, w32_s1 (by omega)]
          refine ⟨E, rfl, h1, fun k hk => ?_, fun k a c => h3 k (by omega) c⟩
          by_cases u : k = i
          · subst u
            have := h3 k (Nat.le_refl _) (by omega)
            exact ⟨fun q => by omega, fun q => absurd q y⟩
          · exact h2 k (by omega)) (nD T) 0 0 (by omega) ⟨by omega, fun d hd => absurd hd (Nat.not_lt_zero d), fun d _ hd => b0 ⟨d, hd⟩⟩
      refine ⟨E, hE, vI_of ((bq_132_0 X _ σ).trans ?_) rfl, fun d hd => ?_⟩
      · rw [show w32 (8 + (m : Int)) = ((8 + m : Nat) : Int) from w_ix (c := 8) (by omega), if_pos (by omega), tn_nat, e8, if_neg z1, m_fasts H K hm (by omega) (by omega), bsome]
        dsimp +instances only
        rw [e44, if_pos z2, if_pos rfl]
        refine Eq.trans eE ?_
        show vv X 132 26 [some (vP 80), some (vI (m : Int)), some (vI (E : Int)), some (vI (nD T : Int))] [] σ = _
        rw [bq_132_26, m_kinds H K, bsome]
        dsimp +instances only
        rw [if_pos (Int.le_refl _)]
      · by_cases u : d < nD T
        · rw [hb d u]
          exact ⟨fun q => ⟨u, ns, q⟩, fun q => q.2.2⟩
        · have := hz d (by omega) hd
          exact ⟨fun q => by omega, fun q => absurd q.1 u⟩
    · refine ⟨0, by omega, vI_of ((bq_132_0 X _ σ).trans ?_) rfl, none0 (Or.inr z2)⟩
      rw [show w32 (8 + (m : Int)) = ((8 + m : Nat) : Int) from w_ix (c := 8) (by omega), if_pos (by omega), tn_nat, e8, if_neg z1, m_fasts H K hm (by omega) (by omega), bsome]
      dsimp +instances only
      rw [e44, if_neg z2, if_neg (by decide), bq_132_20]
      rfl
theorem c_tgD (H : TOk T) (hT : tl σ = T) (hp : PL T σ 53 b) (hb : BOk T b 12) {hx : Int} {w : Nat} (hw : 0 < w) (hw9 : w ≤ 9) {x y : Nat} (hxy : x + y ≤ 99) : vv X 128 19 [some (vP 63), some (vP 53), none, some (vI hx), some (vI (x : Int)), some (vI (y : Int)), some (vI (w : Int)), some (vI 0), none] [] σ = vv X 128 9 [some (vP 63), some (vP 53), none, some (vI hx), some (vI ((tgD T (fun d => bt1 hx d = 0) b w (nD T) (x, y)).1 : Int)), some (vI ((tgD T (fun d => bt1 hx d = 0) b w (nD T) (x, y)).2 : Int)), some (vI ((w + 1 : Nat) : Int)), none, none] [] σ := by
  have h4 := H.d4
  obtain ⟨s, e, hs⟩ := lp (fun i (s : Nat × Nat) => vv X 128 19 [some (vP 63), some (vP 53), none, some (vI hx), some (vI (s.1 : Int)), some (vI (s.2 : Int)), some (vI (w : Int)), some (vI (i : Int)), none] [] σ) (nD T) (fun i s => s = tgD T (fun d => bt1 hx d = 0) b w i (x, y)) (fun i s hi hh => by
    refine ⟨tgD T (fun d => bt1 hx d = 0) b w (i + 1) (x, y), ?_, rfl⟩
    show vv X 128 19 [some (vP 63), some (vP 53), none, some (vI hx), some (vI (s.1 : Int)), some (vI (s.2 : Int)), some (vI (w : Int)), some (vI (i : Int)), none] [] σ = vv X 128 19 [some (vP 63), some (vP 53), none, some (vI hx), some (vI ((tgD T (fun d => bt1 hx d = 0) b w (i + 1) (x, y)).1 : Int)), some (vI ((tgD T (fun d => bt1 hx d = 0) b w (i + 1) (x, y)).2 : Int)), some (vI (w : Int)), some (vI ((i + 1 : Nat) : Int)), none] [] σ
    have bd := tgD_bd (T := T) (ok := fun d => bt1 hx d = 0) (b := b) hw i (x, y)
    rw [← hh] at bd
    dsimp only at bd
    have bi := hb.1 i (by omega)
    have es : tgD T (fun d => bt1 hx d = 0) b w (i + 1) (x, y) = @ite _ (T 10 i = (w : Int) ∧ bt1 hx i = 0) (Classical.propDecidable _) (s.1 - mnN (s.1 / w) (b i).toNat * w, s.2 + mnN (s.1 / w) (b i).toNat) s := by rw [hh]; rfl
    rw [bq_128_19, g_dishes, bsome]
    dsimp +instances only
    rw [tl_at hT (k := 8) (by omega), H.d0, if_neg (by omega), if_pos (by omega), tn_nat, tl_at hT (k := 10) (by omega), show σ 54 i = b i from hp.at (by omega), show am_and (am_shr hx (i : Int)) 1 = bt1 hx i from rfl, bq_128_89, w32_s1 (by omega)]
    by_cases z1 : T 10 i = (w : Int)
    · rw [if_neg (fun q => q z1)]
      by_cases z2 : bt1 hx i = 0
      · rw [if_pos ⟨z1, z2⟩] at es
        rw [if_neg (fun q => q z2), if_neg (by omega), am_div_nat (by omega), bq_128_89, w32_s1 (by omega), es]
        have mm := mn_mul (x := s.1) (w := w) (c := (b i).toNat) hw
        have ek : (if ((s.1 / w : Nat) : Int) < b i then ((s.1 / w : Nat) : Int) else b i) = ((mnN (s.1 / w) (b i).toNat : Nat) : Int) := by
          unfold mnN
          split <;> split <;> omega
        rw [ek]
        clear ek es hh
        generalize mnN (s.1 / w) (b i).toNat = k at mm
        rw [tg_ar1 mm.1 (by omega), tg_ar2 (by omega)]
      · rw [if_neg (fun q => z2 q.2)] at es
        rw [if_pos z2, es]
    · rw [if_neg (fun q => z1 q.1)] at es
      rw [if_pos z1, es]) (nD T) 0 (x, y) (by omega) rfl
  refine Eq.trans e ?_
  show vv X 128 19 [some (vP 63), some (vP 53), none, some (vI hx), some (vI (s.1 : Int)), some (vI (s.2 : Int)), some (vI (w : Int)), some (vI (nD T : Int)), none] [] σ = _
  rw [bq_128_19, g_dishes, bsome]
  dsimp +instances only
  rw [tl_at hT (k := 8) (by omega), H.d0, if_pos (Int.le_refl _), w32_s1 (by omega), hs]
theorem c_tgB (H : TOk T) (hT : tl σ = T) (hp : PL T σ 53 b) (hb : BOk T b 12) {hx : Int} {x : Nat} (hx99 : x ≤ 99) : vcI X 128 [vP 63, vP 53, vI (x : Int), vI hx] σ = some (((tgB T (fun d => bt1 hx d = 0) b 9 (x, 0)).2 : Int), σ) := by
  obtain ⟨s, e, hs⟩ := lp (fun i (s : Nat × Nat) => vv X 128 9 [some (vP 63), some (vP 53), none, some (vI hx), some (vI (s.1 : Int)), some (vI (s.2 : Int)), some (vI ((1 + i : Nat) : Int)), none, none] [] σ) 9 (fun i s => s = tgB T (fun d => bt1 hx d = 0) b i (x, 0)) (fun i s hi hh => by
    refine ⟨tgB T (fun d => bt1 hx d = 0) b (i + 1) (x, 0), ?_, rfl⟩
    show vv X 128 9 [some (vP 63), some (vP 53), none, some (vI hx), some (vI (s.1 : Int)), some (vI (s.2 : Int)), some (vI ((1 + i : Nat) : Int)), none, none] [] σ = vv X 128 9 [some (vP 63), some (vP 53), none, some (vI hx), some (vI ((tgD T (fun d => bt1 hx d = 0) b (i + 1) (nD T) (tgB T (fun d => bt1 hx d = 0) b i (x, 0))).1 : Int)), some (vI ((tgD T (fun d => bt1 hx d = 0) b (i + 1) (nD T) (tgB T (fun d => bt1 hx d = 0) b i (x, 0))).2 : Int)), some (vI ((1 + (i + 1) : Nat) : Int)), none, none] [] σ
    have bd := tgB_bd (T := T) (ok := fun d => bt1 hx d = 0) (b := b) i (x, 0)
    rw [← hh] at bd ⊢
    dsimp only at bd
    rw [bq_128_9, if_neg (by omega), c_tgD H hT hp hb (by omega) (by omega) (by omega), show 1 + i + 1 = 1 + (i + 1) by omega, show 1 + i = i + 1 by omega]) 9 0 (x, 0) (by omega) rfl
  refine vI_of ((bq_128_0 X _ _ σ).trans (Eq.trans e ?_)) rfl
  show vv X 128 9 [some (vP 63), some (vP 53), none, some (vI hx), some (vI (s.1 : Int)), some (vI (s.2 : Int)), some (vI 10), none, none] [] σ = _
  rw [bq_128_9, if_pos (by omega), hs]
theorem m_tgD (H : TOk T) (K : TM σ T l) (e4 : b4 (σ 129) = b) (hb : BOk T b 12) {hx a : Int} (ha : 0 ≤ a ∧ a ≤ 1000) {w : Nat} (hw : 0 < w) (hw9 : w ≤ 9) {x y : Nat} (hxy : x + y ≤ 99) : vv X 30 78 [some (vP 80), none, none, some (vI (a - (y : Int))), some (vI (x : Int)), some (vI hx), some (vI (w : Int)), some (vI 0), none] [] σ = vv X 30 68 [some (vP 80), none, none, some (vI (a - ((tgD T (fun d => ¬ bt1 hx d = 0) b w (nD T) (x, y)).2 : Int))), some (vI ((tgD T (fun d => ¬ bt1 hx d = 0) b w (nD T) (x, y)).1 : Int)), some (vI hx), some (vI ((w + 1 : Nat) : Int)), none, none] [] σ := by
  have h4 := H.d4
  have l1 := K.l1
  have eb : ∀ d, d < 4 → σ 129 d = b d := fun d hd => by rw [← e4, b4_in hd]
  obtain ⟨s, e, hs⟩ := lp (fun i (s : Nat × Nat) => vv X 30 78 [some (vP 80), none, none, some (vI (a - (s.2 : Int))), some (vI (s.1 : Int)), some (vI hx), some (vI (w : Int)), some (vI (i : Int)), none] [] σ) (nD T) (fun i s => s = tgD T (fun d => ¬ bt1 hx d = 0) b w i (x, y)) (fun i s hi hh => by
    refine ⟨tgD T (fun d => ¬ bt1 hx d = 0) b w (i + 1) (x, y), ?_, rfl⟩
    show vv X 30 78 [some (vP 80), none, none, some (vI (a - (s.2 : Int))), some (vI (s.1 : Int)), some (vI hx), some (vI (w : Int)), some (vI (i : Int)), none] [] σ = vv X 30 78 [some (vP 80), none, none, some (vI (a - ((tgD T (fun d => ¬ bt1 hx d = 0) b w (i + 1) (x, y)).2 : Int))), some (vI ((tgD T (fun d => ¬ bt1 hx d = 0) b w (i + 1) (x, y)).1 : Int)), some (vI hx), some (vI (w : Int)), some (vI ((i + 1 : Nat) : Int)), none] [] σ
    have bd := tgD_bd (T := T) (ok := fun d => ¬ bt1 hx d = 0) (b := b) hw i (x, y)
    rw [← hh] at bd
    dsimp only at bd
    have bi := hb.1 i (by omega)
    have es : tgD T (fun d => ¬ bt1 hx d = 0) b w (i + 1) (x, y) = @ite _ (T 10 i = (w : Int) ∧ ¬ bt1 hx i = 0) (Classical.propDecidable _) (s.1 - mnN (s.1 / w) (b i).toNat * w, s.2 + mnN (s.1 / w) (b i).toNat) s := by rw [hh]; rfl
    rw [bq_30_78, m_kinds H K, bsome]
    dsimp +instances only
    rw [if_neg (by omega), K.l0, ix4 l1 (by omega), if_pos (by omega), tn_nat, (K.di i hi).1, tn_nat, eb i (by omega), show am_and (am_shr hx (i : Int)) 1 = bt1 hx i from rfl, bq_30_166, w32_s1 (by omega), am_div_nat (by omega)]
    by_cases z1 : T 10 i = (w : Int)
    · rw [if_neg (fun q => q z1)]
      by_cases z2 : bt1 hx i = 0
      · rw [if_neg (fun q => q.2 z2)] at es
        rw [if_neg (fun q => q z2), es]
      · rw [if_pos ⟨z1, z2⟩] at es
        rw [if_pos z2, if_neg (by omega), if_pos (by omega), if_neg (show ¬ (w : Int) = 0 by omega), es]
        have mm := mn_mul (x := s.1) (w := w) (c := (b i).toNat) hw
        have fin : ∀ k : Int, k = ((mnN (s.1 / w) (b i).toNat : Nat) : Int) → vv X 30 149 [some (vP 80), none, none, some (vI (a - (s.2 : Int))), some (vI (s.1 : Int)), some (vI hx), some (vI (w : Int)), some (vI (i : Int)), none] [vI k] σ = vv X 30 78 [some (vP 80), none, none, some (vI (a - ((s.2 + mnN (s.1 / w) (b i).toNat : Nat) : Int))), some (vI ((s.1 - mnN (s.1 / w) (b i).toNat * w : Nat) : Int)), some (vI hx), some (vI (w : Int)), some (vI ((i + 1 : Nat) : Int)), none] [] σ := by
          intro k hk
          rw [bq_30_149, bq_30_166, w32_s1 (by omega), hk]
          clear hk es hh
          generalize mnN (s.1 / w) (b i).toNat = k at mm
          rw [tg_ar1 mm.1 (by omega), tg_ar3 ha (by omega)]
        by_cases z3 : b i ≤ ((s.1 / w : Nat) : Int)
        · rw [if_pos z3]
          exact fin _ (by unfold mnN; split <;> omega)
        · rw [if_neg z3]
          exact fin _ (by unfold mnN; split <;> omega)
    · rw [if_neg (fun q => z1 q.1)] at es
      rw [if_pos z1, es]) (nD T) 0 (x, y) (by omega) rfl
  refine Eq.trans e ?_
  show vv X 30 78 [some (vP 80), none, none, some (vI (a - (s.2 : Int))), some (vI (s.1 : Int)), some (vI hx), some (vI (w : Int)), some (vI (nD T : Int)), none] [] σ = _
  rw [bq_30_78, m_kinds H K, bsome]
  dsimp +instances only
  rw [if_pos (Int.le_refl _), w32_s1 (by omega), hs]
theorem m_tgB (H : TOk T) (K : TM σ T l) (e4 : b4 (σ 129) = b) (hb : BOk T b 12) {hx a : Int} (ha : 0 ≤ a ∧ a ≤ 1000) {x : Nat} (hx99 : x ≤ 99) : vv X 30 68 [some (vP 80), none, none, some (vI a), some (vI (x : Int)), some (vI hx), some (vI 1), none, none] [] σ = some (some (vI (a - ((tgB T (fun d => ¬ bt1 hx d = 0) b 9 (x, 0)).2 : Int))), σ) := by
  obtain ⟨s, e, hs⟩ := lp (fun i (s : Nat × Nat) => vv X 30 68 [some (vP 80), none, none, some (vI (a - (s.2 : Int))), some (vI (s.1 : Int)), some (vI hx), some (vI ((1 + i : Nat) : Int)), none, none] [] σ) 9 (fun i s => s = tgB T (fun d => ¬ bt1 hx d = 0) b i (x, 0)) (fun i s hi hh => by
    refine ⟨tgB T (fun d => ¬ bt1 hx d = 0) b (i + 1) (x, 0), ?_, rfl⟩
    show vv X 30 68 [some (vP 80), none, none, some (vI (a - (s.2 : Int))), some (vI (s.1 : Int)), some (vI hx), some (vI ((1 + i : Nat) : Int)), none, none] [] σ = vv X 30 68 [some (vP 80), none, none, some (vI (a - ((tgD T (fun d => ¬ bt1 hx d = 0) b (i + 1) (nD T) (tgB T (fun d => ¬ bt1 hx d = 0) b i (x, 0))).2 : Int))), some (vI ((tgD T (fun d => ¬ bt1 hx d = 0) b (i + 1) (nD T) (tgB T (fun d => ¬ bt1 hx d = 0) b i (x, 0))).1 : Int)), some (vI hx), some (vI ((1 + (i + 1) : Nat) : Int)), none, none] [] σ
    have bd := tgB_bd (T := T) (ok := fun d => ¬ bt1 hx d = 0) (b := b) i (x, 0)
    rw [← hh] at bd ⊢
    dsimp only at bd
    rw [bq_30_68, if_neg (by omega), m_tgD H K e4 hb ha (by omega) (by omega) (by omega), show 1 + i + 1 = 1 + (i + 1) by omega, show 1 + i = i + 1 by omega]) 9 0 (x, 0) (by omega) rfl
  have e0 : vv X 30 68 [some (vP 80), none, none, some (vI a), some (vI (x : Int)), some (vI hx), some (vI 1), none, none] [] σ = vv X 30 68 [some (vP 80), none, none, some (vI (a - (s.2 : Int))), some (vI (s.1 : Int)), some (vI hx), some (vI ((1 + 9 : Nat) : Int)), none, none] [] σ := by
    have e1 := e
    dsimp only at e1
    rw [show a - ((0 : Nat) : Int) = a by omega] at e1
    exact e1
  rw [e0, bq_30_68, if_pos (by omega), hs]
theorem q_tongue (h : Rel X σ) (x y : Int) : Qc X 29 30 [vI x, vI y] σ := by
  obtain ⟨T, l, F, R, hN, -⟩ := id h
  have hT := R.1
  have H := R.2.1
  have K := R.2.2.1
  have hF := R.2.2.2.2.2
  have h8 := H.m8
  by_cases hm : 0 ≤ x ∧ x < (nM T : Int)
  · by_cases hg : 0 ≤ y ∧ y ≤ 1
    · obtain ⟨m, rfl, hm'⟩ := nat_of hm
      obtain ⟨g, rfl, hg'⟩ := nat_of (n := 2) (show 0 ≤ y ∧ y < ((2 : Nat) : Int) by omega)
      obtain ⟨σ1, e1, f1, p1⟩ := c_layN R hN hm' hg'
      have R1 := R.fr f1 rfl rfl rfl
      have s1 : rs (σ1 50) = rs (σ 127) := by rw [f1.get 50 (by decide) rfl, hN.1]
      obtain ⟨σ2, e2, f2, p2⟩ := m_takes (X := X) (σ := σ1)
      have R2 := R1.fr f2 rfl rfl rfl
      have es : rs (σ2 128) = rs (σ 127) := by rw [p2, f1.get 127 (by decide) rfl]
      obtain ⟨σ3, e3, f3, p3⟩ := m_tollsN R2 (by rw [es]; exact hN.2) hm' hg'
      rw [es] at p3
      have R3 := R2.fr f3 rfl rfl rfl
      have s3 : rs (σ3 128) = rs (σ 127) := by rw [f3.get 128 (by decide) rfl]; exact es
      have fr : Fr scr scj σ σ3 := ((f1.mono rfl rfl).tr (f2.mono rfl rfl)).tr (f3.mono rfl rfl)
      have hb := (btN_ok (T := T) hF (sc := rs (σ 127)) (m := m) (g := g)).mono (show (6 : Int) ≤ 12 by omega)
      have SN := hN.2
      have sm := hN.2.1 m hm'
      have hM := H.mi m hm'
      have em : σ3 128 m = rs (σ 127) m := by rw [← s3, rs_in (by omega)]
      generalize hbe : btN T F (rs (σ 127)) m g = b at *
      generalize hsc : rs (σ 127) = sc at *
      have nb := num_bd hb
      obtain ⟨E, hE, e4, hEb⟩ := m_eats (X := X) H R3.2.2.1 s3 SN hm'
      obtain ⟨r, hr⟩ : ∃ r : Nat, T 13 m - sc m = (r : Int) := ⟨(T 13 m - sc m).toNat, by omega⟩
      have same : (tgB T (fun d => bt1 (T 17 m) d = 0) b 9 ((@ite Nat (shut T sc m) (Classical.propDecidable _) 0 r), 0)).2 = (tgB T (fun d => ¬ bt1 (E : Int) d = 0) b 9 (r, 0)).2 := by
        by_cases z : shut T sc m
        · rw [if_pos z, tgB_0, tgB_no (fun d hd q => by
            have u := hEb d (by have := H.d4; omega)
            rcases bt01 (show E < 256 by omega) (show d < 8 by have := H.d4; omega) with v | v
            · exact q v
            · exact (u.mp v).2.1 z)]
        · rw [if_neg z]
          rw [tgB_ext (ok := fun d => bt1 (T 17 m) d = 0) (ok' := fun d => ¬ bt1 (E : Int) d = 0) (fun d hd => by
            have u := hEb d (by have := H.d4; omega)
            rcases bt01 (show E < 256 by omega) (show d < 8 by have := H.d4; omega) with v | v
            · exact ⟨fun q => absurd (u.mpr ⟨hd, z, q⟩) (by omega), fun q => absurd v q⟩
            · exact ⟨fun _ => by omega, fun _ => (u.mp v).2.2⟩)]
      have bd1 := tgB_bd (T := T) (ok := fun d => ¬ bt1 (E : Int) d = 0) (b := b) 9 (r, 0)
      dsimp only at bd1
      refine ⟨@ite _ (storesS T sc b) (Classical.propDecidable _) (numS b - ((tgB T (fun d => ¬ bt1 (E : Int) d = 0) b 9 (r, 0)).2 : Int)) (-2), σ1, σ3, vI_of ((bq_29_0 X _ _ σ).trans ?_) rfl, vI_of ((bq_30_0 X _ _ σ1).trans ?_) rfl, h.scr fr⟩
      · rw [c_isMan H hT, bsome]
        dsimp +instances only
        rw [if_pos hm, if_neg i10, g_gateC, bsome]
        dsimp +instances only
        rw [if_pos hg, if_pos i10, e1, bsome, c_stores_49_53 H (by rw [s1]; exact SN) p1 hb, bsome]
        dsimp +instances only
        rw [s1]
        by_cases z : storesS T sc b
        · rw [if_pos z, if_pos i10, c_open H R1.1 s1 SN hm', bsome]
          dsimp +instances only
          have er : (@ite Int (shut T sc m) (Classical.propDecidable _) 0 (T 13 m - sc m)) = ((@ite Nat (shut T sc m) (Classical.propDecidable _) 0 r : Nat) : Int) := by
            by_cases u : shut T sc m
            · rw [if_pos u, if_pos u]; rfl
            · rw [if_neg u, if_neg u, hr]
          have r99 : (@ite Nat (shut T sc m) (Classical.propDecidable _) 0 r) ≤ 99 := by
            split <;> omega
          rw [if_pos (by omega), tn_nat, tl_at R1.1 (k := 17) (by omega), er, c_tgB H R1.1 p1 hb r99, bsome]
          dsimp +instances only
          rw [p1.2.1, same, if_pos z, w32_id (by omega) (by omega)]
        · rw [if_neg z, if_neg (by decide), if_neg z]
      · rw [m_isMan H R1.2.2.1, bsome]
        dsimp +instances only
        rw [if_pos hm, if_neg i10, g_gateM, bsome]
        dsimp +instances only
        rw [if_pos hg, if_pos i10, e2, bsome, show w32 (42 + (g : Int)) = ((42 + g : Nat) : Int) from w_ix (c := 42) (by omega), if_pos (by omega), tn_nat, e3, bsome, m_stores2 H R3.2.2.1 p3, bsome]
        dsimp +instances only
        rw [s3]
        by_cases z : storesS T sc b
        · rw [if_pos z, if_pos i10, m_bites2 hb p3, bsome]
          dsimp +instances only
          rw [m_room H R3.2.2.1 hm', bsome]
          dsimp +instances only
          rw [e4, bsome]
          dsimp +instances only
          rw [em, w32_id (by omega) (by omega), hr, m_tgB H R3.2.2.1 p3 hb (by omega) (by omega), if_pos z]
        · rw [if_neg z, if_neg (by decide), if_neg z]
    · refine Qc.same h ⟨-1, ?_, ?_⟩ rfl rfl
      · refine (bq_29_0 X _ _ _).trans ?_
        rw [c_isMan H hT, bsome]
        dsimp +instances only
        rw [if_pos hm, if_neg i10, g_gateC, bsome]
        dsimp +instances only
        rw [if_neg hg, if_neg (by decide), bq_29_15]
      · refine (bq_30_0 X _ _ _).trans ?_
        rw [m_isMan H K, bsome]
        dsimp +instances only
        rw [if_pos hm, if_neg i10, g_gateM, bsome]
        dsimp +instances only
        rw [if_neg hg, if_neg (by decide), bq_30_15]
  · refine Qc.same h ⟨-1, ?_, ?_⟩ rfl rfl
    · refine (bq_29_0 X _ _ _).trans ?_
      rw [c_isMan H hT, bsome]
      dsimp +instances only
      rw [if_neg hm, if_pos rfl, bq_29_15]
    · refine (bq_30_0 X _ _ _).trans ?_
      rw [m_isMan H K, bsome]
      dsimp +instances only
      rw [if_neg hm, if_pos rfl, bq_30_15]
end TG
