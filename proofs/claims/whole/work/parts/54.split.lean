/-! SPLIT: the reference, and the calls -/
section ADL
variable {X d : Nat} {σ T : am_Sg} {b : Nat → Int} {x : Int}
theorem c_add12 (H : TOk T) (hT : tl σ = T) (hp : PL T σ 53 b) (hb : BOk T b 12) (hx : x ≤ 6) (hd : d < 4) (hq : d < nD T ∨ x ≤ 0) : ∃ σ', vcV X 200 [vP 53, vI (d : Int), vI x, vP 7] σ = some σ' ∧ Fr [53, 54] [] σ σ' ∧ PL T σ' 53 (if x ≤ 0 then b else up b d (b d + x)) := by
  by_cases hx0 : x ≤ 0
  · refine ⟨σ, vV_of ((bq_200a_0 X _ _ σ).trans (by rw [if_pos hx0, bq_200a_70])) rfl, Fr.rf, ?_⟩
    rw [if_pos hx0]
    exact hp
  have hdn : d < nD T := by omega
  have e10 : σ 10 = T 10 := by rw [← hT, tl_in (by omega)]
  have e11 : σ 11 = T 11 := by rw [← hT, tl_in (by omega)]
  have k1 := H.di d hdn
  have kb := hb.1 d hd
  have n1 := num_bd hb
  have n2 := bulk_bd H hb (by omega)
  have n3 := gain_bd H hb (by omega)
  have p1 := mul_bd (a := x) (A := 6) (b := T 10 d) (B := 9) (by omega) (by omega) (by omega) (by omega)
  have p2 := mul_bd (a := x) (A := 6) (b := T 11 d) (B := 99) (by omega) (by omega) (by omega) (by omega)
  have ob := orb (d := d) hp.2.2.2.2.1.1 hp.2.2.2.2.1.2 hd
  have e := vV_of (vs := [vP 53, vI (d : Int), vI x, vP 7]) ((bq_200a_0 X _ _ σ).trans (by rw [if_neg hx0, if_pos (by omega), bq_200a_24, if_pos (by omega), bq_200a_58, bq_200a_70, tn_nat])) rfl
  refine ⟨_, e, ?_, ?_⟩
  · exact ((((Fr.rf.upd rfl (by decide)).upd rfl (by decide)).upd rfl (by decide)).upd rfl (by decide)).upd rfl (by decide)
  · rw [if_neg hx0]
    refine ⟨?_, ?_, ?_, ?_, ?_, fun c hc => ?_⟩
    · rw [← hp.1]
      funext c
      unfold b4
      simp only [upa, ua]
      by_cases z : c < 4
      · rw [if_pos z, if_pos z]
        by_cases y : c = d
        · subst y
          simp [hp.at hd, z]
          exact w32_id (by omega) (by omega)
        · simp [y]
      · rw [if_neg z, if_neg z, if_neg (by omega)]
    · rw [numS_up hd]
      simp [ua, hp.2.1]
      rw [w32_id (by omega) (by omega)]
      omega
    · rw [bulkS_up hdn]
      simp [ua, e10, hp.2.2.1]
      rw [w32_id (x := x * T 10 d) (by omega) (by omega), w32_id (by omega) (by omega), show b d + x - b d = x by omega]
    · rw [gainS_up hdn]
      simp [ua, e11, hp.2.2.2.1]
      rw [w32_id (x := x * T 11 d) (by omega) (by omega), w32_id (by omega) (by omega), show b d + x - b d = x by omega]
    · simpa [ua] using ob.1
    · have := ob.2 c hc
      simp only [ua]
      simp
      rw [this, upa]
      by_cases y : c = d
      · rw [if_pos y, if_pos y]
        constructor
        · intro z; omega
        · intro z; omega
      · rw [if_neg y, if_neg y]
        exact hp.2.2.2.2.2 c hc
theorem c_addAll (H : TOk T) (hT : tl σ = T) {b1 b2 : Nat → Int} (hp : PL T σ 53 b1) (hb1 : BOk T b1 6) (hq : PL T σ 55 b2) (hb2 : BOk T b2 6) : ∃ σ', vcV X 135 [vP 53, vP 55, vP 7] σ = some σ' ∧ Fr [53, 54] [] σ σ' ∧ PL T σ' 53 (b4 (fun d => b1 d + b2 d)) := by
  have h4 := H.d4
  have c1 : b1 = b4 b1 := by rw [← hp.1, b4_b4]
  obtain ⟨st, e, fs, ps⟩ := lp (fun i (st : am_Sg) => vv X 135 2 [some (vP 53), some (vP 55), some (vP 7), some (vI (i : Int))] [] st) 4 (fun i st => Fr [53, 54] [] σ st ∧ PL T st 53 (b4 (fun d => if d < i then b1 d + b2 d else b1 d))) (fun i st hi hh => by
    obtain ⟨fs, ps⟩ := hh
    have hTs : tl st = T := (tl_fr fs rfl).trans hT
    have qs : PL T st 55 b2 := hq.fr (fs.get 55 (by decide) rfl) (fs.get 56 (by decide) rfl)
    have k1 := hb1.1 i hi
    have k2 := hb2.1 i hi
    have bok : BOk T (b4 (fun d => if d < i then b1 d + b2 d else b1 d)) 12 := by
      refine ⟨fun d hd => ?_, fun d a1 a2 => ?_⟩
      · have q1 := hb1.1 d hd
        have q2 := hb2.1 d hd
        rw [b4_in hd]
        split <;> omega
      · have q1 := hb1.2 d a1 a2
        have q2 := hb2.2 d a1 a2
        rw [b4_in a2]
        split <;> omega
    obtain ⟨st1, e1, f1, p1⟩ := c_add12 (X := X) (x := b2 i) (d := i) H hTs ps bok k2.2 hi (by
      by_cases z : i < nD T
      · exact Or.inl z
      · exact Or.inr (by rw [hb2.2 i (by omega) hi]; omega))
    show ∃ st', vv X 135 2 [some (vP 53), some (vP 55), some (vP 7), some (vI (i : Int))] [] st = vv X 135 2 [some (vP 53), some (vP 55), some (vP 7), some (vI ((i + 1 : Nat) : Int))] [] st' ∧ _
    rw [bq_135_2, if_neg (by omega), if_pos (by omega), tn_nat, show st 56 i = b2 i from qs.at hi, e1, bsome, w32_s1 (by omega)]
    refine ⟨st1, rfl, fs.tr f1, ?_⟩
    have : b4 (fun d => if d < i + 1 then b1 d + b2 d else b1 d) = (if b2 i ≤ 0 then b4 (fun d => if d < i then b1 d + b2 d else b1 d) else up (b4 (fun d => if d < i then b1 d + b2 d else b1 d)) i (b4 (fun d => if d < i then b1 d + b2 d else b1 d) i + b2 i)) := by
      funext d
      have ei : b4 (fun d => if d < i then b1 d + b2 d else b1 d) i = b1 i := by rw [b4_in hi, if_neg (by omega)]
      rw [ei]
      by_cases z : b2 i ≤ 0
      · rw [if_pos z]
        unfold b4
        by_cases y : d < 4
        · rw [if_pos y, if_pos y]
          dsimp only
          by_cases u : d = i
          · subst u
            rw [if_pos (by omega), if_neg (by omega)]
            omega
          · by_cases v : d < i
            · rw [if_pos v, if_pos (by omega)]
            · rw [if_neg v, if_neg (by omega)]
        · rw [if_neg y, if_neg y]
      · rw [if_neg z, upa]
        by_cases u : d = i
        · subst u
          rw [if_pos rfl, b4_in hi, if_pos (by omega)]
        · rw [if_neg u]
          unfold b4
          by_cases y : d < 4
          · rw [if_pos y, if_pos y]
            dsimp only
            by_cases v : d < i
            · rw [if_pos v, if_pos (by omega)]
            · rw [if_neg v, if_neg (by omega)]
          · rw [if_neg y, if_neg y]
    rw [this]
    exact p1) 4 0 σ (by omega) ⟨Fr.rf, by
      have : b4 (fun d => if d < 0 then b1 d + b2 d else b1 d) = b1 := by
        rw [c1]
        exact b4_ext fun d hd => by rw [if_neg (by omega), ← c1]
      rw [this]
      exact hp⟩
  refine ⟨st, vV_of ((bq_135_0 X σ).trans (Eq.trans e ?_)) rfl, fs, ?_⟩
  · show vv X 135 2 [some (vP 53), some (vP 55), some (vP 7), some (vI 4)] [] st = _
    rw [bq_135_2, if_pos (by omega)]
  · have : b4 (fun d => b1 d + b2 d) = b4 (fun d => if d < 4 then b1 d + b2 d else b1 d) := b4_ext fun d hd => by rw [if_pos hd]
    rw [this]
    exact ps
end ADL
/-- the shares of number v -/
def dg (v d : Nat) : Nat := v / 13 ^ d % 13
theorem dg_of {a c e f : Nat} (ha : a < 13) (hc : c < 13) (he : e < 13) (hf : f < 13) : dg (a + 13 * (c + 13 * (e + 13 * f))) 0 = a ∧ dg (a + 13 * (c + 13 * (e + 13 * f))) 1 = c ∧ dg (a + 13 * (c + 13 * (e + 13 * f))) 2 = e ∧ dg (a + 13 * (c + 13 * (e + 13 * f))) 3 = f := by
  unfold dg
  refine ⟨?_, ?_, ?_, ?_⟩
  · show _ / 1 % 13 = _
    omega
  · show _ / 13 % 13 = _
    omega
  · show _ / 169 % 13 = _
    omega
  · show _ / 2197 % 13 = _
    omega
def SpOk (b : Nat → Nat) (E1 E2 : Nat) (k : Nat → Nat) (d : Nat) : Prop := k d ≤ b d ∧ (k d = 0 ∨ bt1 (E1 : Int) d = 1) ∧ (k d = b d ∨ bt1 (E2 : Int) d = 1)
def SpP (T : am_Sg) (b : Nat → Nat) (E1 E2 : Nat) (r1 r2 al : Int) (k : Nat → Nat) : Prop := (∀ d, d < 4 → SpOk b E1 E2 k d) ∧ ((smN (fun d => k d * wN T d) 4 : Nat) : Int) ≤ r1 ∧ al - ((smN (fun d => k d * wN T d) 4 : Nat) : Int) ≤ r2
theorem IsMin.none {best : Int} {P : Nat → Prop} {cst : Nat → Nat} {v : Nat} (h : IsMin best (fun c => ∃ u, u < v ∧ P u ∧ cst u = c)) (hn : ¬ P v) : IsMin best (fun c => ∃ u, u < v + 1 ∧ P u ∧ cst u = c) := by
  rcases h with ⟨a, q⟩ | ⟨c, a, ⟨u, u1, u2, u3⟩, m⟩
  · refine Or.inl ⟨a, fun c ⟨u, u1, u2, u3⟩ => ?_⟩
    by_cases z : u = v
    · rw [z] at u2
      exact hn u2
    · exact q c ⟨u, by omega, u2, u3⟩
  · refine Or.inr ⟨c, a, ⟨u, by omega, u2, u3⟩, fun c' ⟨u', v1, v2, v3⟩ => ?_⟩
    by_cases z : u' = v
    · rw [z] at v2
      exact absurd v2 hn
    · exact m c' ⟨u', by omega, v2, v3⟩
theorem IsMin.add {best : Int} {P : Nat → Prop} {cst : Nat → Nat} {v : Nat} (h : IsMin best (fun c => ∃ u, u < v ∧ P u ∧ cst u = c)) (hp : P v) : IsMin (if best < 0 then (cst v : Int) else if best ≤ (cst v : Int) then best else (cst v : Int)) (fun c => ∃ u, u < v + 1 ∧ P u ∧ cst u = c) := by
  rcases h with ⟨a, q⟩ | ⟨c, a, ⟨u, u1, u2, u3⟩, m⟩
  · rw [if_pos (by omega)]
    refine Or.inr ⟨cst v, rfl, ⟨v, by omega, hp, rfl⟩, fun c' ⟨u', v1, v2, v3⟩ => ?_⟩
    by_cases z : u' = v
    · rw [z] at v3
      omega
    · exact absurd ⟨u', by omega, v2, v3⟩ (q c')
  · rw [if_neg (by omega)]
    by_cases y : best ≤ (cst v : Int)
    · rw [if_pos y]
      refine Or.inr ⟨c, a, ⟨u, by omega, u2, u3⟩, fun c' ⟨u', v1, v2, v3⟩ => ?_⟩
      by_cases z : u' = v
      · rw [z] at v3
        omega
      · exact m c' ⟨u', by omega, v2, v3⟩
    · rw [if_neg y]
      refine Or.inr ⟨cst v, rfl, ⟨v, by omega, hp, rfl⟩, fun c' ⟨u', v1, v2, v3⟩ => ?_⟩
      by_cases z : u' = v
      · rw [z] at v3
        omega
      · have := m c' ⟨u', by omega, v2, v3⟩
        omega
section SPM
variable {X l m o g : Nat} {σ T : am_Sg} {F : LF} {sc b : Nat → Int}
theorem m_step {d : Nat} (hd : d < 4) : vcI X 215 [vI (d : Int)] σ = some (((13 ^ d : Nat) : Int), σ) := by
  refine vI_of ((bq_215_0 X _ σ).trans ?_) rfl
  rcases (show d = 0 ∨ d = 1 ∨ d = 2 ∨ d = 3 by omega) with e | e | e | e <;> subst e
  · rw [if_neg (fun q => q rfl), bq_215_32]
    rfl
  · rw [if_pos (by decide), if_neg (fun q => q rfl), bq_215_32]
    rfl
  · rw [if_pos (by decide), if_pos (by decide), if_neg (fun q => q rfl), bq_215_32]
    rfl
  · rw [if_pos (by decide), if_pos (by decide), if_pos (by decide), bq_215_32]
    rfl
theorem p13 {d : Nat} (hd : d < 4) : 1 ≤ 13 ^ d ∧ 13 ^ d ≤ 2197 := by
  rcases (show d = 0 ∨ d = 1 ∨ d = 2 ∨ d = 3 by omega) with e | e | e | e <;> subst e <;> decide
/-- one number's shares, looked at -/
theorem m_share (H : TOk T) (K : TM σ T l) (hb : BOk T b 12) (e4 : b4 (σ 129) = b) (hs : rs (σ 128) = sc) (S : ScOk T sc) (hm : m < nM T) (ho : o < nM T) {E1 E2 : Nat} (hE1 : E1 < 16) (hE2 : E2 < 16) {v : Nat} (hv : v ≤ 28560) {x4 best : Int} : vv X 134 182 [some (vP 80), some (vI (m : Int)), some (vI (o : Int)), none, some (vI x4), some (vI (bulkS T b)), some (vI (E1 : Int)), some (vI (E2 : Int)), some (vI best), some (vI (v : Int)), some (vI 0), some (vI 0), some (vI 1), some (vI 0), none] [] σ = vv X 134 348 [some (vP 80), some (vI (m : Int)), some (vI (o : Int)), none, some (vI x4), some (vI (bulkS T b)), some (vI (E1 : Int)), some (vI (E2 : Int)), some (vI (@ite _ (SpP T (bN b) E1 E2 (T 13 m - sc m) (T 13 o - sc o) (bulkS T b) (dg v)) (Classical.propDecidable _) (if best < 0 then ((smN (fun d => dg v d * 1) 4 : Nat) : Int) else if best ≤ ((smN (fun d => dg v d * 1) 4 : Nat) : Int) then best else ((smN (fun d => dg v d * 1) 4 : Nat) : Int)) best)), some (vI (v : Int)), none, none, none, none, none] [] σ := by
  have h4 := H.d4
  have l1 := K.l1
  have h8 := H.m8
  have eb : ∀ d, d < 4 → σ 129 d = b d := fun d hd => by rw [← e4, b4_in hd]
  have bb := bulk_bd H hb (by omega)
  have d13 : ∀ d, dg v d < 13 := fun d => Nat.mod_lt _ (by omega)
  obtain ⟨y, e, hy⟩ := lp (fun i (y : Int × Int) => vv X 134 182 [some (vP 80), some (vI (m : Int)), some (vI (o : Int)), none, some (vI x4), some (vI (bulkS T b)), some (vI (E1 : Int)), some (vI (E2 : Int)), some (vI best), some (vI (v : Int)), some (vI ((smN (fun d => dg v d * 1) i : Nat) : Int)), some (vI y.1), some (vI y.2), some (vI (i : Int)), none] [] σ) 4 (fun i y => (y.2 = 1 ∧ (∀ d, d < i → SpOk (bN b) E1 E2 (dg v) d) ∧ y.1 = ((smN (fun d => dg v d * wN T d) i : Nat) : Int) ∧ smN (fun d => dg v d * wN T d) i ≤ 108 * i) ∨ (y.2 = 0 ∧ ∃ d, d < i ∧ ¬ SpOk (bN b) E1 E2 (dg v) d)) (fun i y hi hh => by
    have pi := p13 hi
    have sd : smN (fun d => dg v d * 1) i ≤ 12 * i := by
      clear hh
      induction i with
      | zero => exact Nat.le_refl _
      | succ i ih =>
        have := ih (by omega) (p13 (by omega))
        have := d13 i
        show smN (fun d => dg v d * 1) i + dg v i * 1 ≤ _
        omega
    have dv : am_div (v : Int) ((13 ^ i : Nat) : Int) = ((v / 13 ^ i : Nat) : Int) := am_div_nat (by omega)
    have rm : am_rem ((v / 13 ^ i : Nat) : Int) 13 = ((dg v i : Nat) : Int) := am_rem_nat (b := 13) (by have := Nat.div_le_self v (13 ^ i); omega)
    have di := d13 i
    have bi := hb.1 i hi
    have ebi : b i = ((bN b i : Nat) : Int) := by unfold bN; omega
    have f295 : ∀ x11, vv X 134 295 [some (vP 80), some (vI (m : Int)), some (vI (o : Int)), none, some (vI x4), some (vI (bulkS T b)), some (vI (E1 : Int)), some (vI (E2 : Int)), some (vI best), some (vI (v : Int)), some (vI ((smN (fun d => dg v d * 1) (i + 1) : Nat) : Int)), some (vI x11), none, some (vI (i : Int)), none] [] σ = vv X 134 182 [some (vP 80), some (vI (m : Int)), some (vI (o : Int)), none, some (vI x4), some (vI (bulkS T b)), some (vI (E1 : Int)), some (vI (E2 : Int)), some (vI best), some (vI (v : Int)), some (vI ((smN (fun d => dg v d * 1) (i + 1) : Nat) : Int)), some (vI x11), some (vI 0), some (vI ((i + 1 : Nat) : Int)), none] [] σ := fun x11 => by rw [bq_134_295, bq_134_296, w32_s1 (by omega)]
    have f291 : ∀ x11, vv X 134 291 [some (vP 80), some (vI (m : Int)), some (vI (o : Int)), none, some (vI x4), some (vI (bulkS T b)), some (vI (E1 : Int)), some (vI (E2 : Int)), some (vI best), some (vI (v : Int)), some (vI ((smN (fun d => dg v d * 1) (i + 1) : Nat) : Int)), some (vI x11), none, some (vI (i : Int)), none] [] σ = vv X 134 182 [some (vP 80), some (vI (m : Int)), some (vI (o : Int)), none, some (vI x4), some (vI (bulkS T b)), some (vI (E1 : Int)), some (vI (E2 : Int)), some (vI best), some (vI (v : Int)), some (vI ((smN (fun d => dg v d * 1) (i + 1) : Nat) : Int)), some (vI x11), some (vI 1), some (vI ((i + 1 : Nat) : Int)), none] [] σ := fun x11 => by rw [bq_134_291, bq_134_296, w32_s1 (by omega)]
    -- the rest of the turn
    have rest : ∀ x11 : Int, (y.2 = 1 → (dg v i ≤ bN b i) → x11 = ((smN (fun d => dg v d * wN T d) (i + 1) : Nat) : Int) ∧ smN (fun d => dg v d * wN T d) (i + 1) ≤ 108 * (i + 1)) → ∃ y' : Int × Int, vv X 134 235 [some (vP 80), some (vI (m : Int)), some (vI (o : Int)), none, some (vI x4), some (vI (bulkS T b)), some (vI (E1 : Int)), some (vI (E2 : Int)), some (vI best), some (vI (v : Int)), some (vI ((smN (fun d => dg v d * 1) (i + 1) : Nat) : Int)), some (vI x11), some (vI y.2), some (vI (i : Int)), some (vI ((dg v i : Nat) : Int))] [] σ = vv X 134 182 [some (vP 80), some (vI (m : Int)), some (vI (o : Int)), none, some (vI x4), some (vI (bulkS T b)), some (vI (E1 : Int)), some (vI (E2 : Int)), some (vI best), some (vI (v : Int)), some (vI ((smN (fun d => dg v d * 1) (i + 1) : Nat) : Int)), some (vI y'.1), some (vI y'.2), some (vI ((i + 1 : Nat) : Int)), none] [] σ ∧ ((y'.2 = 1 ∧ (∀ d, d < i + 1 → SpOk (bN b) E1 E2 (dg v) d) ∧ y'.1 = ((smN (fun d => dg v d * wN T d) (i + 1) : Nat) : Int) ∧ smN (fun d => dg v d * wN T d) (i + 1) ≤ 108 * (i + 1)) ∨ (y'.2 = 0 ∧ ∃ d, d < i + 1 ∧ ¬ SpOk (bN b) E1 E2 (dg v) d)) := by
      intro x11 hx11
      have bad : (¬ SpOk (bN b) E1 E2 (dg v) i ∨ y.2 = 0) → ∃ y' : Int × Int, vv X 134 295 [some (vP 80), some (vI (m : Int)), some (vI (o : Int)), none, some (vI x4), some (vI (bulkS T b)), some (vI (E1 : Int)), some (vI (E2 : Int)), some (vI best), some (vI (v : Int)), some (vI ((smN (fun d => dg v d * 1) (i + 1) : Nat) : Int)), some (vI x11), none, some (vI (i : Int)), none] [] σ = vv X 134 182 [some (vP 80), some (vI (m : Int)), some (vI (o : Int)), none, some (vI x4), some (vI (bulkS T b)), some (vI (E1 : Int)), some (vI (E2 : Int)), some (vI best), some (vI (v : Int)), some (vI ((smN (fun d => dg v d * 1) (i + 1) : Nat) : Int)), some (vI y'.1), some (vI y'.2), some (vI ((i + 1 : Nat) : Int)), none] [] σ ∧ ((y'.2 = 1 ∧ (∀ d, d < i + 1 → SpOk (bN b) E1 E2 (dg v) d) ∧ y'.1 = ((smN (fun d => dg v d * wN T d) (i + 1) : Nat) : Int) ∧ smN (fun d => dg v d * wN T d) (i + 1) ≤ 108 * (i + 1)) ∨ (y'.2 = 0 ∧ ∃ d, d < i + 1 ∧ ¬ SpOk (bN b) E1 E2 (dg v) d)) := fun hbad => by
        refine ⟨(x11, 0), f295 x11, Or.inr ⟨rfl, ?_⟩⟩
        rcases hbad with q | q
        · exact ⟨i, by omega, q⟩
        · rcases hh with u | ⟨u1, d, u2, u3⟩
          · have := u.1
            omega
          · exact ⟨d, by omega, u3⟩
      have good : y.2 = 1 → SpOk (bN b) E1 E2 (dg v) i → ∃ y' : Int × Int, vv X 134 291 [some (vP 80), some (vI (m : Int)), some (vI (o : Int)), none, some (vI x4), some (vI (bulkS T b)), some (vI (E1 : Int)), some (vI (E2 : Int)), some (vI best), some (vI (v : Int)), some (vI ((smN (fun d => dg v d * 1) (i + 1) : Nat) : Int)), some (vI x11), none, some (vI (i : Int)), none] [] σ = vv X 134 182 [some (vP 80), some (vI (m : Int)), some (vI (o : Int)), none, some (vI x4), some (vI (bulkS T b)), some (vI (E1 : Int)), some (vI (E2 : Int)), some (vI best), some (vI (v : Int)), some (vI ((smN (fun d => dg v d * 1) (i + 1) : Nat) : Int)), some (vI y'.1), some (vI y'.2), some (vI ((i + 1 : Nat) : Int)), none] [] σ ∧ ((y'.2 = 1 ∧ (∀ d, d < i + 1 → SpOk (bN b) E1 E2 (dg v) d) ∧ y'.1 = ((smN (fun d => dg v d * wN T d) (i + 1) : Nat) : Int) ∧ smN (fun d => dg v d * wN T d) (i + 1) ≤ 108 * (i + 1)) ∨ (y'.2 = 0 ∧ ∃ d, d < i + 1 ∧ ¬ SpOk (bN b) E1 E2 (dg v) d)) := fun h1 hsp => by
        refine ⟨(x11, 1), f291 x11, Or.inl ⟨rfl, fun d hd => ?_, hx11 h1 hsp.1⟩⟩
        by_cases z : d = i
        · rw [z]; exact hsp
        · rcases hh with u | u
          · exact u.2.1 d (by omega)
          · have := u.1
            omega
      rw [bq_134_235]
      by_cases y0 : y.2 = 0
      · rw [if_pos y0]
        exact bad (Or.inr y0)
      · have y1 : y.2 = 1 := by
          rcases hh with u | u
          · exact u.1
          · exact absurd u.1 y0
        rw [if_neg y0, if_pos (by omega), tn_nat, eb i hi, ebi]
        by_cases z1 : ((bN b i : Nat) : Int) < ((dg v i : Nat) : Int)
        · rw [if_pos z1]
          exact bad (Or.inl (fun q => by have := q.1; omega))
        · rw [if_neg z1, show am_and (am_shr (E1 : Int) (i : Int)) 1 = bt1 (E1 : Int) i from rfl]
          have tail : (dg v i = 0 ∨ bt1 (E1 : Int) i = 1) → ∃ y' : Int × Int, vv X 134 268 [some (vP 80), some (vI (m : Int)), some (vI (o : Int)), none, some (vI x4), some (vI (bulkS T b)), some (vI (E1 : Int)), some (vI (E2 : Int)), some (vI best), some (vI (v : Int)), some (vI ((smN (fun d => dg v d * 1) (i + 1) : Nat) : Int)), some (vI x11), none, some (vI (i : Int)), some (vI ((dg v i : Nat) : Int))] [] σ = vv X 134 182 [some (vP 80), some (vI (m : Int)), some (vI (o : Int)), none, some (vI x4), some (vI (bulkS T b)), some (vI (E1 : Int)), some (vI (E2 : Int)), some (vI best), some (vI (v : Int)), some (vI ((smN (fun d => dg v d * 1) (i + 1) : Nat) : Int)), some (vI y'.1), some (vI y'.2), some (vI ((i + 1 : Nat) : Int)), none] [] σ ∧ ((y'.2 = 1 ∧ (∀ d, d < i + 1 → SpOk (bN b) E1 E2 (dg v) d) ∧ y'.1 = ((smN (fun d => dg v d * wN T d) (i + 1) : Nat) : Int) ∧ smN (fun d => dg v d * wN T d) (i + 1) ≤ 108 * (i + 1)) ∨ (y'.2 = 0 ∧ ∃ d, d < i + 1 ∧ ¬ SpOk (bN b) E1 E2 (dg v) d)) := fun h1 => by
            rw [bq_134_268, if_pos (by omega), tn_nat, eb i hi, ebi, show am_and (am_shr (E2 : Int) (i : Int)) 1 = bt1 (E2 : Int) i from rfl]
            by_cases z2 : ((dg v i : Nat) : Int) = ((bN b i : Nat) : Int)
            · rw [if_pos z2]
              exact good y1 ⟨by omega, h1, Or.inl (by omega)⟩
            · rw [if_neg z2]
              by_cases z3 : bt1 (E2 : Int) i = 1
              · rw [if_neg (fun q => q z3)]
                exact good y1 ⟨by omega, h1, Or.inr z3⟩
              · rw [if_pos z3]
                exact bad (Or.inl (fun q => q.2.2.elim (fun u => z2 (by omega)) z3))
          by_cases z2 : ((dg v i : Nat) : Int) = 0
          · rw [if_pos z2]
            exact tail (Or.inl (by omega))
          · rw [if_neg z2]
            by_cases z3 : bt1 (E1 : Int) i = 1
            · rw [if_neg (fun q => q z3)]
              exact tail (Or.inr z3)
            · rw [if_pos z3]
              exact bad (Or.inl (fun q => q.2.1.elim (fun u => z2 (by omega)) z3))
    show ∃ y' : Int × Int, vv X 134 182 [some (vP 80), some (vI (m : Int)), some (vI (o : Int)), none, some (vI x4), some (vI (bulkS T b)), some (vI (E1 : Int)), some (vI (E2 : Int)), some (vI best), some (vI (v : Int)), some (vI ((smN (fun d => dg v d * 1) i : Nat) : Int)), some (vI y.1), some (vI y.2), some (vI (i : Int)), none] [] σ = vv X 134 182 [some (vP 80), some (vI (m : Int)), some (vI (o : Int)), none, some (vI x4), some (vI (bulkS T b)), some (vI (E1 : Int)), some (vI (E2 : Int)), some (vI best), some (vI (v : Int)), some (vI ((smN (fun d => dg v d * 1) (i + 1) : Nat) : Int)), some (vI y'.1), some (vI y'.2), some (vI ((i + 1 : Nat) : Int)), none] [] σ ∧ _
    have ec : smN (fun d => dg v d * 1) (i + 1) = smN (fun d => dg v d * 1) i + dg v i := by
      show smN (fun d => dg v d * 1) i + dg v i * 1 = _
      omega
    have ew : smN (fun d => dg v d * wN T d) (i + 1) = smN (fun d => dg v d * wN T d) i + dg v i * wN T i := rfl
    rw [bq_134_182, if_neg (by omega), m_step hi, bsome]
    dsimp +instances only
    rw [if_neg (by omega), dv, rm, w32_ad (i := smN (fun d => dg v d * 1) i) (c := dg v i) (by omega), ← ec]
    by_cases z0 : ((dg v i : Nat) : Int) ≤ 0
    · rw [if_pos z0]
      refine rest y.1 (fun h1 h2 => ?_)
      rcases hh with u | u
      · have : dg v i = 0 := by omega
        rw [ew, this, Nat.zero_mul, Nat.add_zero]
        exact ⟨u.2.2.1, by omega⟩
      · have := u.1
        omega
    · rw [if_neg z0, K.l0, ix4 l1 hi, if_pos (by omega), tn_nat]
      refine rest _ (fun h1 h2 => ?_)
      have hin : i < nD T := by
        rcases Nat.lt_or_ge i (nD T) with q | q
        · exact q
        · have := hb.2 i q hi
          unfold bN at h2
          omega
      have ti := H.di i hin
      have eti : T 10 i = ((wN T i : Nat) : Int) := by unfold wN; omega
      have w9 : wN T i ≤ 9 := by unfold wN; omega
      have mm := Nat.mul_le_mul (show dg v i ≤ 12 by omega) w9
      rcases hh with u | u
      · rw [(K.di i hin).1, eti, u.2.2.1, ← Int.natCast_mul, w32_nat (by omega), w32_ad (by omega), ew]
        exact ⟨rfl, by omega⟩
      · have := u.1
        omega) 4 0 (0, 1) (by omega) (Or.inl ⟨rfl, fun d hd => absurd hd (Nat.not_lt_zero d), rfl, Nat.le_refl _⟩)
  refine Eq.trans e ?_
  show vv X 134 182 [some (vP 80), some (vI (m : Int)), some (vI (o : Int)), none, some (vI x4), some (vI (bulkS T b)), some (vI (E1 : Int)), some (vI (E2 : Int)), some (vI best), some (vI (v : Int)), some (vI ((smN (fun d => dg v d * 1) 4 : Nat) : Int)), some (vI y.1), some (vI y.2), some (vI 4), none] [] σ = _
  have sm1 := S.1 m hm
  have so1 := S.1 o ho
  have hM := H.mi m hm
  have hO := H.mi o ho
  have em : σ 128 m = sc m := by rw [← hs, rs_in (by omega)]
  have eo : σ 128 o = sc o := by rw [← hs, rs_in (by omega)]
  rw [bq_134_182, if_pos (by omega)]
  rcases hy with ⟨q1, q2, q3, q4⟩ | ⟨q1, d, q2, q3⟩
  · rw [if_neg (by omega), m_room H K hm, bsome]
    dsimp +instances only
    rw [em, w32_id (by omega) (by omega), m_room H K ho, bsome]
    dsimp +instances only
    rw [eo, w32_id (x := T 13 o - sc o) (by omega) (by omega), q3, w32_id (x := bulkS T b - ((smN (fun d => dg v d * wN T d) 4 : Nat) : Int)) (by omega) (by omega), bq_134_344]
    by_cases z1 : T 13 m - sc m < ((smN (fun d => dg v d * wN T d) 4 : Nat) : Int)
    · rw [if_pos z1, if_neg (show ¬ SpP T (bN b) E1 E2 (T 13 m - sc m) (T 13 o - sc o) (bulkS T b) (dg v) from fun q => by have := q.2.1; omega)]
    · rw [if_neg z1]
      by_cases z2 : T 13 o - sc o < bulkS T b - ((smN (fun d => dg v d * wN T d) 4 : Nat) : Int)
      · rw [if_pos z2, if_neg (show ¬ SpP T (bN b) E1 E2 (T 13 m - sc m) (T 13 o - sc o) (bulkS T b) (dg v) from fun q => by have := q.2.2; omega)]
      · rw [if_neg z2, if_pos (show SpP T (bN b) E1 E2 (T 13 m - sc m) (T 13 o - sc o) (bulkS T b) (dg v) from ⟨q2, by omega, by omega⟩)]
        by_cases z3 : best < 0
        · rw [if_pos z3, if_pos z3]
        · rw [if_neg z3, if_neg z3]
          by_cases z4 : best ≤ ((smN (fun d => dg v d * 1) 4 : Nat) : Int)
          · rw [if_pos z4, if_pos z4]
          · rw [if_neg z4, if_neg z4]
  · rw [if_pos q1, if_neg (show ¬ SpP T (bN b) E1 E2 (T 13 m - sc m) (T 13 o - sc o) (bulkS T b) (dg v) from fun q => q3 (q.1 d q2))]
end SPM
