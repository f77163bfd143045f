/-! SPLIT: the class -/
def IsMin (v : Int) (G : Nat → Prop) : Prop := (v = -2 ∧ ∀ c, ¬ G c) ∨ ∃ c : Nat, v = (c : Int) ∧ G c ∧ ∀ c', G c' → c ≤ c'
theorem IsMin.uniq {v v' : Int} {G G' : Nat → Prop} (h : IsMin v G) (h' : IsMin v' G') (e : ∀ c, G c ↔ G' c) : v = v' := by
  rcases h with ⟨a, q⟩ | ⟨c, a, g, m⟩
  · rcases h' with ⟨a', q'⟩ | ⟨c', a', g', m'⟩
    · rw [a, a']
    · exact absurd ((e c').mpr g') (q c')
  · rcases h' with ⟨a', q'⟩ | ⟨c', a', g', m'⟩
    · exact absurd ((e c).mp g) (q' c)
    · have h1 := m c' ((e c').mpr g')
      have h2 := m' c ((e c).mp g)
      rw [a, a']
      omega
theorem and3_f : ∀ x y z : Fin 16, (am_and (am_and (x.val : Int) (y.val : Int)) (z.val : Int) = 0 ↔ ∀ d : Fin 4, bt1 (x.val : Int) d.val = 0 ∨ bt1 (y.val : Int) d.val = 0 ∨ bt1 (z.val : Int) d.val = 0) := by decide +kernel
theorem and3 {x y z : Int} (a : 0 ≤ x ∧ x ≤ 15) (b : 0 ≤ y ∧ y ≤ 15) (c : 0 ≤ z ∧ z ≤ 15) : am_and (am_and x y) z = 0 ↔ ∀ d, d < 4 → bt1 x d = 0 ∨ bt1 y d = 0 ∨ bt1 z d = 0 := by
  obtain ⟨x, rfl⟩ : ∃ n : Nat, x = n := ⟨x.toNat, by omega⟩
  obtain ⟨y, rfl⟩ : ∃ n : Nat, y = n := ⟨y.toNat, by omega⟩
  obtain ⟨z, rfl⟩ : ∃ n : Nat, z = n := ⟨z.toNat, by omega⟩
  have := and3_f ⟨x, by omega⟩ ⟨y, by omega⟩ ⟨z, by omega⟩
  exact ⟨fun h d hd => this.mp h ⟨d, hd⟩, fun h => this.mpr fun d => h d.val d.isLt⟩
theorem or0_f : ∀ x y : Fin 16, ∀ d : Fin 4, (bt1 (am_or (x.val : Int) (y.val : Int)) d.val = 0 ↔ bt1 (x.val : Int) d.val = 0 ∧ bt1 (y.val : Int) d.val = 0) := by decide +kernel
theorem or0 {x y : Int} (a : 0 ≤ x ∧ x ≤ 15) (b : 0 ≤ y ∧ y ≤ 15) {d : Nat} (hd : d < 4) : bt1 (am_or x y) d = 0 ↔ bt1 x d = 0 ∧ bt1 y d = 0 := by
  obtain ⟨x, rfl⟩ : ∃ n : Nat, x = n := ⟨x.toNat, by omega⟩
  obtain ⟨y, rfl⟩ : ∃ n : Nat, y = n := ⟨y.toNat, by omega⟩
  exact or0_f ⟨x, by omega⟩ ⟨y, by omega⟩ ⟨d, hd⟩
theorem smN_eq {f g : Nat → Nat} : ∀ {n : Nat}, (∀ d, d < n → f d ≤ g d) → smN g n ≤ smN f n → ∀ d, d < n → f d = g d
  | 0, _, _, d, hd => absurd hd (Nat.not_lt_zero d)
  | n + 1, h, hs, d, hd => by
    have h0 := smN_le (n := n) (fun d hd => h d (by omega))
    have h1 := h n (by omega)
    have hs' : smN g n + g n ≤ smN f n + f n := hs
    by_cases z : d = n
    · subst z
      omega
    · exact smN_eq (n := n) (fun d hd => h d (by omega)) (by omega) d (by omega)
/-- bites and bulks as whole numbers -/
def bN (b : Nat → Int) : Nat → Nat := fun d => (b d).toNat
def wN (T : am_Sg) : Nat → Nat := fun d => (T 10 d).toNat
theorem bulk_N {T : am_Sg} (H : TOk T) {b : Nat → Int} (hb : BOk T b 12) : bulkS T b = ((smN (fun d => bN b d * wN T d) (nD T) : Nat) : Int) := by
  have h4 := H.d4
  have key : ∀ n, n ≤ nD T → sm (fun d => b d * T 10 d) n = ((smN (fun d => bN b d * wN T d) n : Nat) : Int) := by
    intro n
    induction n with
    | zero => intro _; rfl
    | succ n ih =>
      intro hn
      have b1 := hb.1 n (by omega)
      have t1 := H.di n (by omega)
      show sm (fun d => b d * T 10 d) n + b n * T 10 n = ((smN (fun d => bN b d * wN T d) n + bN b n * wN T n : Nat) : Int)
      rw [ih (by omega), Int.natCast_add, Int.natCast_mul]
      unfold bN wN
      rw [show (((b n).toNat : Nat) : Int) = b n by omega, show (((T 10 n).toNat : Nat) : Int) = T 10 n by omega]
  exact key (nD T) (Nat.le_refl _)
/-- what is forced: the other can't stand it -/
noncomputable def fcN (b : Nat → Nat) (h2 : Nat → Prop) : Nat → Nat := fun d => @ite _ (h2 d) (Classical.propDecidable _) (b d) 0
section FEW
variable {X l : Nat} {σ T : am_Sg} {b : Nat → Int}
theorem Ach_zero {n : Nat} {b w : Nat → Nat} {h1 h2 : Nat → Prop} (hx : ∀ d, d < n → 0 < b d → ¬ (h1 d ∧ h2 d)) (s c : Nat) : Ach n b w h1 h2 0 0 s c ↔ (s = smN (fun d => fcN b h2 d * w d) n ∧ c = smN (fun d => fcN b h2 d * 1) n) := by
  have uq : ∀ k, FSh n b h1 h2 k → (∀ d, d < n → ¬ h2 d → k d = 0) → ∀ d, d < n → k d = fcN b h2 d := fun k q1 q2 d hd => by
    unfold fcN
    by_cases z : h2 d
    · rw [if_pos z]
      exact (q1 d hd).2.2 z
    · rw [if_neg z]
      exact q2 d hd z
  constructor
  · rintro ⟨k, q1, q2, q3, q4, q5⟩
    have e := uq k q1 (fun d hd a => by
      by_cases z : d = 0
      · subst z
        have := q3 hd a
        omega
      · exact q2 d (by omega) hd a)
    rw [← q4, ← q5]
    exact ⟨smN_ext fun d hd => by rw [e d hd], smN_ext fun d hd => by rw [e d hd]⟩
  · rintro ⟨e1, e2⟩
    refine ⟨fcN b h2, fun d hd => ?_, fun d a1 a2 a3 => if_neg a3, fun a1 a2 => by rw [show fcN b h2 0 = 0 from if_neg a2]; omega, e1.symm, e2.symm⟩
    unfold fcN
    by_cases z : h2 d
    · rw [if_pos z]
      refine ⟨Nat.le_refl _, fun q => ?_, fun _ => rfl⟩
      rcases Nat.eq_zero_or_pos (b d) with u | u
      · exact u
      · exact absurd ⟨q, z⟩ (hx d hd u)
    · rw [if_neg z]
      exact ⟨Nat.zero_le _, fun _ => rfl, fun q => absurd q z⟩
theorem c_few (H : TOk T) (hT : tl σ = T) (hp : PL T σ 53 b) (hb : BOk T b 12) {R R2 : Nat} (hR : R ≤ 99) (hR2 : R2 ≤ 99) {y1 y2 : Int} (r1 : 0 ≤ y1 ∧ y1 ≤ 15) (r2 : 0 ≤ y2 ∧ y2 ≤ 15) : ∃ v σ', vcI X 136 [vP 63, vP 53, vI (R : Int), vI y1, vI (R2 : Int), vI y2] σ = some (v, σ') ∧ Fr [67] [] σ σ' ∧ IsMin v (fun c => ∃ k, FSh (nD T) (bN b) (fun d => ¬ bt1 y1 d = 0) (fun d => ¬ bt1 y2 d = 0) k ∧ smN (fun d => k d * 1) (nD T) = c ∧ smN (fun d => k d * wN T d) (nD T) ≤ R ∧ bulkS T b - (R2 : Int) ≤ ((smN (fun d => k d * wN T d) (nD T) : Nat) : Int)) := by
  have h4 := H.d4
  have bb := bulk_bd H hb (by omega)
  have a3 := and3 hp.2.2.2.2.1 r1 r2
  have bnle : ∀ d, d < nD T → bN b d ≤ 12 := fun d hd => by have := hb.1 d (by omega); unfold bN; omega
  generalize hh1 : (fun d => ¬ bt1 y1 d = 0) = h1
  generalize hh2 : (fun d => ¬ bt1 y2 d = 0) = h2
  have e1 : ∀ d, h1 d ↔ ¬ bt1 y1 d = 0 := fun d => by rw [← hh1]
  have e2 : ∀ d, h2 d ↔ ¬ bt1 y2 d = 0 := fun d => by rw [← hh2]
  by_cases z : am_and (am_and (σ 53 4) y1) y2 = 0
  · have cl := a3.mp z
    have hx : ∀ d, d < nD T → 0 < bN b d → ¬ (h1 d ∧ h2 d) := fun d hd h0 q => by
      rcases cl d (by omega) with u | u | u
      · have := (hp.2.2.2.2.2 d (by omega)).mp u
        unfold bN at h0
        omega
      · exact (e1 d).mp q.1 u
      · exact (e2 d).mp q.2 u
    generalize hσ0 : am_row σ 67 (fun j => if j < 100 then 1000000000 else σ 67 j) = σ0
    have f0 : Fr [67] [] σ σ0 := by rw [← hσ0]; exact Fr.rf.row rfl (by decide)
    have hT0 : tl σ0 = T := (tl_fr f0 rfl).trans hT
    have p0 : PL T σ0 53 b := hp.fr (f0.get 53 (by decide) rfl) (f0.get 54 (by decide) rfl)
    -- what is forced
    have fle : ∀ i, i ≤ nD T → smN (fun d => fcN (bN b) h2 d * 1) i ≤ 12 * i ∧ smN (fun d => fcN (bN b) h2 d * wN T d) i ≤ 108 * i := by
      intro i
      induction i with
      | zero => intro _; exact ⟨Nat.le_refl _, Nat.le_refl _⟩
      | succ i ih =>
        intro hi
        have h0 := ih (by omega)
        have hbi := bnle i (by omega)
        have t1 := H.di i (by omega)
        have f1 : fcN (bN b) h2 i ≤ 12 := by unfold fcN; split <;> omega
        have w1 : wN T i ≤ 9 := by unfold wN; omega
        have m1 := Nat.mul_le_mul f1 w1
        show smN (fun d => fcN (bN b) h2 d * 1) i + fcN (bN b) h2 i * 1 ≤ _ ∧ smN (fun d => fcN (bN b) h2 d * wN T d) i + fcN (bN b) h2 i * wN T i ≤ _
        omega
    obtain ⟨p, ep, hp1, hp2⟩ := lp (fun i (p : Nat × Nat) => vv X 136 33 [some (vP 63), some (vP 53), some (vI (R : Int)), some (vI y1), some (vI (R2 : Int)), some (vI y2), some (vI (p.1 : Int)), some (vI (p.2 : Int)), some (vI (i : Int)), none] [] σ0) (nD T) (fun i p => p.1 = smN (fun d => fcN (bN b) h2 d * 1) i ∧ p.2 = smN (fun d => fcN (bN b) h2 d * wN T d) i) (fun i p hi hh => by
      have fl := fle i (by omega)
      have bi := hb.1 i (by omega)
      have ti := H.di i hi
      have ebi : b i = ((bN b i : Nat) : Int) := by unfold bN; omega
      have eti : T 10 i = ((wN T i : Nat) : Int) := by unfold wN; omega
      have bni := bnle i hi
      have wni : wN T i ≤ 9 := by unfold wN; omega
      have mni := Nat.mul_le_mul bni wni
      refine ⟨(smN (fun d => fcN (bN b) h2 d * 1) (i + 1), smN (fun d => fcN (bN b) h2 d * wN T d) (i + 1)), ?_, rfl, rfl⟩
      show vv X 136 33 [some (vP 63), some (vP 53), some (vI (R : Int)), some (vI y1), some (vI (R2 : Int)), some (vI y2), some (vI (p.1 : Int)), some (vI (p.2 : Int)), some (vI (i : Int)), none] [] σ0 = vv X 136 33 [some (vP 63), some (vP 53), some (vI (R : Int)), some (vI y1), some (vI (R2 : Int)), some (vI y2), some (vI ((smN (fun d => fcN (bN b) h2 d * 1) i + fcN (bN b) h2 i * 1 : Nat) : Int)), some (vI ((smN (fun d => fcN (bN b) h2 d * wN T d) i + fcN (bN b) h2 i * wN T i : Nat) : Int)), some (vI ((i + 1 : Nat) : Int)), none] [] σ0
      rw [bq_136_33, g_dishes, bsome]
      dsimp +instances only
      rw [tl_at hT0 (k := 8) (by omega), H.d0, if_neg (by omega), show am_and (am_shr y2 (i : Int)) 1 = bt1 y2 i from rfl, bq_136_90, w32_s1 (by omega), hh.1, hh.2]
      by_cases u : bt1 y2 i = 0
      · have ef : fcN (bN b) h2 i = 0 := if_neg (fun q => (e2 i).mp q u)
        rw [if_pos u, ef, Nat.zero_mul, Nat.zero_mul]
        rfl
      · have ef : fcN (bN b) h2 i = bN b i := if_pos ((e2 i).mpr u)
        rw [if_neg u, if_pos (by omega), tn_nat, show σ0 54 i = b i from p0.at (by omega), tl_at hT0 (k := 10) (by omega), bq_136_90, w32_s1 (by omega), ef, ebi, eti, ← Int.natCast_mul, w32_nat (by omega), w32_ad (by omega), w32_ad (by omega), Nat.mul_one]) (nD T) 0 (0, 0) (by omega) ⟨rfl, rfl⟩
    have fl := fle (nD T) (Nat.le_refl _)
    have st0 : vv X 136 0 [some (vP 63), some (vP 53), some (vI (R : Int)), some (vI y1), some (vI (R2 : Int)), some (vI y2), none, none, none, none] [] σ = vv X 136 33 [some (vP 63), some (vP 53), some (vI (R : Int)), some (vI y1), some (vI (R2 : Int)), some (vI y2), some (vI (p.1 : Int)), some (vI (p.2 : Int)), some (vI (nD T : Int)), none] [] σ0 := by
      rw [bq_136_0, if_pos z, fl_67, bsome, hσ0]
      exact ep
    rw [bq_136_33, g_dishes, bsome] at st0
    dsimp +instances only at st0
    rw [tl_at hT0 (k := 8) (by omega), H.d0, if_pos (Int.le_refl _)] at st0
    -- whatever he takes, the forced ones are in it
    have ge : ∀ k, FSh (nD T) (bN b) h1 h2 k → p.2 ≤ smN (fun d => k d * wN T d) (nD T) := fun k q => by
      rw [hp2]
      refine smN_le fun d hd => ?_
      show fcN (bN b) h2 d * wN T d ≤ k d * wN T d
      unfold fcN
      by_cases u : h2 d
      · rw [if_pos u, (q d hd).2.2 u]
        exact Nat.le_refl _
      · rw [if_neg u, Nat.zero_mul]
        exact Nat.zero_le _
    by_cases zr : (R : Int) < (p.2 : Int)
    · rw [if_pos zr, bq_136_108] at st0
      refine ⟨-2, σ0, vI_of st0 rfl, f0, Or.inl ⟨rfl, fun c ⟨k, q1, q2, q3, q4⟩ => ?_⟩⟩
      have := ge k q1
      omega
    · rw [if_neg zr, if_pos (by omega), if_pos (by omega), tn_nat] at st0
      -- the dishes, one by one
      obtain ⟨st, es, fs, hs⟩ := lp (fun i (st : am_Sg) => vv X 136 123 [some (vP 63), some (vP 53), some (vI (R : Int)), some (vI y1), some (vI (R2 : Int)), some (vI y2), none, none, some (vI (i : Int)), none] [] st) (nD T) (fun i st => Fr [67] [] σ st ∧ TbOk (st 67) (Ach (nD T) (bN b) (wN T) h1 h2 i 0) R) (fun i st hi hh => by
        obtain ⟨fs, hs⟩ := hh
        have hTs : tl st = T := (tl_fr fs rfl).trans hT
        have ps : PL T st 53 b := hp.fr (fs.get 53 (by decide) rfl) (fs.get 54 (by decide) rfl)
        have bi := hb.1 i (by omega)
        have ti := H.di i hi
        have ebi : b i = ((bN b i : Nat) : Int) := by unfold bN; omega
        have eti : T 10 i = ((wN T i : Nat) : Int) := by unfold wN; omega
        show ∃ st', vv X 136 123 [some (vP 63), some (vP 53), some (vI (R : Int)), some (vI y1), some (vI (R2 : Int)), some (vI y2), none, none, some (vI (i : Int)), none] [] st = vv X 136 123 [some (vP 63), some (vP 53), some (vI (R : Int)), some (vI y1), some (vI (R2 : Int)), some (vI y2), none, none, some (vI ((i + 1 : Nat) : Int)), none] [] st' ∧ _
        rw [bq_136_123, g_dishes, bsome]
        dsimp +instances only
        rw [tl_at hTs (k := 8) (by omega), H.d0, if_neg (by omega), show am_and (am_shr (am_or y1 y2) (i : Int)) 1 = bt1 (am_or y1 y2) i from rfl]
        have o := or0 r1 r2 (show i < 4 by omega)
        by_cases u : bt1 (am_or y1 y2) i = 0
        · have u12 := o.mp u
          obtain ⟨f, ef, hf⟩ := c_offer (X := X) (σ := st) (n := nD T) (b := bN b) (w := wN T) (h1 := h1) (h2 := h2) h4 bnle hi (fun q => (e1 i).mp q u12.1) (fun q => (e2 i).mp q u12.2) (by unfold wN; omega) (by unfold wN; omega) hR hs
          rw [if_neg (fun q => q u), if_pos (by omega), tn_nat, show st 54 i = b i from ps.at (by omega), tl_at hTs (k := 10) (by omega), ebi, eti, ef, bsome, bq_136_169, w32_s1 (by omega)]
          refine ⟨_, rfl, fs.row rfl (by decide), ?_⟩
          rw [re]
          exact hf
        · rw [if_pos u, bq_136_169, w32_s1 (by omega)]
          refine ⟨st, rfl, fs, hs.congr (fun s c => Ach.skip hi ?_)⟩
          by_cases v : bt1 y1 i = 0
          · exact Or.inr ((e2 i).mpr (fun q => u (o.mpr ⟨v, q⟩)))
          · exact Or.inl ((e1 i).mpr v)) (nD T) 0 (am_upd σ0 67 p.2 (p.1 : Int)) (by omega) ⟨f0.upd rfl (by decide), fun s hs => by
          rw [ue, upa]
          by_cases u : s = p.2
          · rw [if_pos u]
            refine Or.inr ⟨p.1, rfl, by omega, (Ach_zero hx s p.1).mpr ⟨by rw [u, hp2], hp1⟩, fun c' q => ?_⟩
            have := ((Ach_zero hx s c').mp q).2
            omega
          · rw [if_neg u]
            refine Or.inl ⟨?_, fun c q => u ?_⟩
            · rw [← hσ0, re, if_pos (by omega)]
              rfl
            · rw [((Ach_zero hx s c).mp q).1, hp2]⟩
      have hTs : tl st = T := (tl_fr fs rfl).trans hT
      have ps : PL T st 53 b := hp.fr (fs.get 53 (by decide) rfl) (fs.get 54 (by decide) rfl)
      obtain ⟨lo, hlo⟩ : ∃ lo : Nat, (if 0 < bulkS T b - (R2 : Int) then bulkS T b - (R2 : Int) else 0) = (lo : Int) := ⟨(if 0 < bulkS T b - (R2 : Int) then bulkS T b - (R2 : Int) else 0).toNat, by split <;> omega⟩
      have mid : vv X 136 123 [some (vP 63), some (vP 53), some (vI (R : Int)), some (vI y1), some (vI (R2 : Int)), some (vI y2), none, none, some (vI (nD T : Int)), none] [] st = vv X 136 192 [some (vP 63), none, some (vI (R : Int)), none, none, none, none, none, some (vI HG), some (vI (lo : Int))] [] st := by
        rw [bq_136_123, g_dishes, bsome]
        dsimp +instances only
        rw [tl_at hTs (k := 8) (by omega), H.d0, if_pos (Int.le_refl _), ps.2.2.1, w32_id (x := bulkS T b - (R2 : Int)) (by omega) (by omega), hlo]
        rfl
      have lo1 : ∀ s : Nat, lo ≤ s ↔ bulkS T b - (R2 : Int) ≤ (s : Int) := fun s => by
        split at hlo <;> omega
      -- the least of them
      have fin : ∀ (n s : Nat) (x : Int), s + n = R + 1 → lo ≤ s → ((x = HG ∧ ∀ s' c, lo ≤ s' → s' < s → ¬ Ach (nD T) (bN b) (wN T) h1 h2 (nD T) 0 s' c) ∨ ∃ c : Nat, x = (c : Int) ∧ c ≤ 1000 ∧ (∃ s', lo ≤ s' ∧ s' < s ∧ Ach (nD T) (bN b) (wN T) h1 h2 (nD T) 0 s' c) ∧ ∀ s' c', lo ≤ s' → s' < s → Ach (nD T) (bN b) (wN T) h1 h2 (nD T) 0 s' c' → c ≤ c') → ∃ v, vv X 136 192 [some (vP 63), none, some (vI (R : Int)), none, none, none, none, none, some (vI x), some (vI (s : Int))] [] st = some (some (vI v), st) ∧ IsMin v (fun c => ∃ s', lo ≤ s' ∧ s' < R + 1 ∧ Ach (nD T) (bN b) (wN T) h1 h2 (nD T) 0 s' c) := by
        intro n
        induction n with
        | zero =>
          intro s x en hl hx'
          have eR : s = R + 1 := by omega
          rw [bq_136_192, if_pos (by omega), bq_136_232, bq_136_232, show (1000000000 : Int) = HG from rfl]
          rcases hx' with ⟨u, q⟩ | ⟨c, u, c1, ⟨s', w1, w2, w3⟩, q⟩
          · rw [if_neg (fun q => q u)]
            exact ⟨-2, rfl, Or.inl ⟨rfl, fun c ⟨s', w1, w2, w3⟩ => q s' c w1 (by omega) w3⟩⟩
          · rw [if_pos (by rw [u]; unfold HG; omega)]
            exact ⟨x, rfl, Or.inr ⟨c, u, ⟨s', w1, by omega, w3⟩, fun c' ⟨s'', v1, v2, v3⟩ => q s'' c' v1 (by omega) v3⟩⟩
        | succ n ih =>
          intro s x en hl hx'
          rw [bq_136_192, if_neg (by omega), if_pos (by omega), tn_nat, w32_s1 (by omega)]
          refine ih (s + 1) _ (by omega) (by omega) ?_
          rcases hs s (by omega) with ⟨f0, f1⟩ | ⟨c0, f0, f1, f2, f3⟩
          · rcases hx' with ⟨u, q⟩ | ⟨c, u, c1, ⟨s', w1, w2, w3⟩, q⟩
            · refine Or.inl ⟨by rw [f0, u, if_neg (by omega)], fun s' c a1 a2 a3 => ?_⟩
              by_cases y : s' = s
              · rw [y] at a3
                exact f1 c a3
              · exact q s' c a1 (by omega) a3
            · refine Or.inr ⟨c, ?_, c1, ⟨s', w1, by omega, w3⟩, fun s'' c' a1 a2 a3 => ?_⟩
              · rw [f0, u, if_neg (by unfold HG; omega)]
              · by_cases y : s'' = s
                · rw [y] at a3
                  exact absurd a3 (f1 c')
                · exact q s'' c' a1 (by omega) a3
          · rcases hx' with ⟨u, q⟩ | ⟨c, u, c1, ⟨s', w1, w2, w3⟩, q⟩
            · refine Or.inr ⟨c0, ?_, f1, ⟨s, hl, by omega, f2⟩, fun s'' c' a1 a2 a3 => ?_⟩
              · rw [f0, u, if_pos (by unfold HG; omega)]
              · by_cases y : s'' = s
                · rw [y] at a3
                  exact f3 c' a3
                · exact absurd a3 (q s'' c' a1 (by omega))
            · by_cases y0 : c0 < c
              · refine Or.inr ⟨c0, ?_, f1, ⟨s, hl, by omega, f2⟩, fun s'' c' a1 a2 a3 => ?_⟩
                · rw [f0, u, if_pos (by omega)]
                · by_cases y : s'' = s
                  · rw [y] at a3
                    exact f3 c' a3
                  · have := q s'' c' a1 (by omega) a3
                    omega
              · refine Or.inr ⟨c, ?_, c1, ⟨s', w1, by omega, w3⟩, fun s'' c' a1 a2 a3 => ?_⟩
                · rw [f0, u, if_neg (by omega)]
                · by_cases y : s'' = s
                  · rw [y] at a3
                    have := f3 c' a3
                    omega
                  · exact q s'' c' a1 (by omega) a3
      have conv : ∀ c, (∃ s', lo ≤ s' ∧ s' < R + 1 ∧ Ach (nD T) (bN b) (wN T) h1 h2 (nD T) 0 s' c) ↔ (∃ k, FSh (nD T) (bN b) h1 h2 k ∧ smN (fun d => k d * 1) (nD T) = c ∧ smN (fun d => k d * wN T d) (nD T) ≤ R ∧ bulkS T b - (R2 : Int) ≤ ((smN (fun d => k d * wN T d) (nD T) : Nat) : Int)) := by
        intro c
        constructor
        · rintro ⟨s', w1, w2, w3⟩
          obtain ⟨k, q1, q2, q3⟩ := Ach.all.mp w3
          exact ⟨k, q1, q3, by omega, by rw [q2]; exact (lo1 s').mp w1⟩
        · rintro ⟨k, q1, q2, q3, q4⟩
          exact ⟨_, (lo1 _).mpr q4, by omega, Ach.all.mpr ⟨k, q1, rfl, q2⟩⟩
      have st1 := st0.trans (es.trans mid)
      by_cases zl : lo ≤ R + 1
      · obtain ⟨v, ev, hv⟩ := fin (R + 1 - lo) lo HG (by omega) (Nat.le_refl _) (Or.inl ⟨rfl, fun s' c a1 a2 => absurd a2 (by omega)⟩)
        refine ⟨v, st, vI_of (st1.trans ev) rfl, fs, ?_⟩
        rcases hv with ⟨q1, q2⟩ | ⟨c, q1, q2, q3⟩
        · exact Or.inl ⟨q1, fun c u => q2 c ((conv c).mpr u)⟩
        · exact Or.inr ⟨c, q1, (conv c).mp q2, fun c' u => q3 c' ((conv c').mpr u)⟩
      · rw [bq_136_192, if_pos (by omega), bq_136_232, bq_136_232, show (1000000000 : Int) = HG from rfl, if_neg (fun q => q rfl)] at st1
        refine ⟨-2, st, vI_of st1 rfl, fs, Or.inl ⟨rfl, fun c u => ?_⟩⟩
        obtain ⟨s', w1, w2, -⟩ := (conv c).mpr u
        omega
  · refine ⟨-2, σ, vI_of ((bq_136_0 X _ _ _ _ σ).trans (by rw [if_neg z])) rfl, Fr.rf, Or.inl ⟨rfl, fun c ⟨k, q1, _⟩ => z (a3.mpr fun d hd => ?_)⟩⟩
    by_cases u1 : bt1 (σ 53 4) d = 0
    · exact Or.inl u1
    · refine Or.inr ?_
      by_cases u2 : bt1 y1 d = 0
      · exact Or.inl u2
      · refine Or.inr (Classical.not_not.mp fun u3 => ?_)
        have pos : ¬ b d ≤ 0 := fun q => u1 ((hp.2.2.2.2.2 d hd).mpr q)
        by_cases v : d < nD T
        · have k0 := (q1 d v).2.1 ((e1 d).mpr u2)
          have kb := (q1 d v).2.2 ((e2 d).mpr u3)
          unfold bN at kb
          omega
        · rw [hb.2 d (by omega) hd] at pos
          omega
end FEW
