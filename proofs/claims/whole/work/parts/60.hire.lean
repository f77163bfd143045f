/-! HIRE: the cheapest set, the class -/
section HC
variable {X : Nat} {σ T : am_Sg} {b : Nat → Int}
def GU (n : Nat) (w : Nat → Nat) (T : am_Sg) (P : (Nat → Nat) → Prop) (z : Int) : Nat → (Nat → Nat) → Prop
  | 0, k => P k
  | c + 1, k => (bt1 z c = 0 ∧ GU n w T P z c k) ∨ (¬ bt1 z c = 0 ∧ ∃ j : Nat → Nat, (∀ d, d < n → j d ≤ k d) ∧ smN (fun d => j d * w d) n ≤ (T 21 c).toNat ∧ GU n w T P z c (fun d => k d - j d))
theorem GU_s {n : Nat} {w : Nat → Nat} {P : (Nat → Nat) → Prop} {z : Int} {c : Nat} {k : Nat → Nat} : GU n w T P z (c + 1) k ↔ (bt1 z c = 0 ∧ GU n w T P z c k) ∨ (¬ bt1 z c = 0 ∧ ∃ j : Nat → Nat, (∀ d, d < n → j d ≤ k d) ∧ smN (fun d => j d * w d) n ≤ (T 21 c).toNat ∧ GU n w T P z c (fun d => k d - j d)) := Iff.rfl
theorem GU_congr {n : Nat} {w : Nat → Nat} {P Q : (Nat → Nat) → Prop} {z : Int} (e : ∀ k, P k ↔ Q k) : ∀ (c : Nat) (k : Nat → Nat), GU n w T P z c k ↔ GU n w T Q z c k
  | 0, k => e k
  | c + 1, k => by
    rw [GU_s, GU_s, GU_congr e c k]
    refine or_congr Iff.rfl (and_congr Iff.rfl (exists_congr fun j => ?_))
    rw [GU_congr e c]
theorem GU_ext {n : Nat} {w : Nat → Nat} {P : (Nat → Nat) → Prop} {z : Int} (e : ∀ k k' : Nat → Nat, (∀ d, d < n → k d = k' d) → P k → P k') : ∀ (c : Nat) (k k' : Nat → Nat), (∀ d, d < n → k d = k' d) → GU n w T P z c k → GU n w T P z c k'
  | 0, k, k', h, g => e k k' h g
  | c + 1, k, k', h, g => by
    rcases g with ⟨g1, g2⟩ | ⟨g1, j, g2, g3, g4⟩
    · exact Or.inl ⟨g1, GU_ext e c k k' h g2⟩
    · exact Or.inr ⟨g1, j, fun d hd => by rw [← h d hd]; exact g2 d hd, g3, GU_ext e c _ _ (fun d hd => by rw [h d hd]) g4⟩
theorem GU_mono {n : Nat} {w : Nat → Nat} {P : (Nat → Nat) → Prop} {z z' : Int} : ∀ (c : Nat) (k : Nat → Nat), (∀ e, e < c → bt1 z' e = 0 → bt1 z e = 0) → GU n w T P z c k → GU n w T P z' c k
  | 0, k, _, g => g
  | c + 1, k, h, g => by
    have h' : ∀ e, e < c → bt1 z' e = 0 → bt1 z e = 0 := fun e he => h e (by omega)
    by_cases y : bt1 z' c = 0
    · have x := h c (by omega) y
      rcases g with ⟨g1, g2⟩ | ⟨g1, j, g2, g3, g4⟩
      · exact Or.inl ⟨y, GU_mono c k h' g2⟩
      · exact absurd x g1
    · rcases g with ⟨g1, g2⟩ | ⟨g1, j, g2, g3, g4⟩
      · refine Or.inr ⟨y, fun _ => 0, fun d _ => Nat.zero_le _, ?_, GU_mono c k h' g2⟩
        rw [smN_ext (g := fun _ => 0) (fun d _ => Nat.zero_mul _), smN_z]
        exact Nat.zero_le _
      · exact Or.inr ⟨y, j, g2, g3, GU_mono c _ h' g4⟩
def manC (n : Nat) (w : Nat → Nat) (y : Int) (r : Nat) (k : Nat → Nat) : Prop := (∀ d, d < n → k d = 0 ∨ bt1 y d = 0) ∧ smN (fun d => k d * w d) n ≤ r
theorem Gb_GU {n : Nat} {w : Nat → Nat} {y z : Int} {r N : Nat} : ∀ (c : Nat) (k : Nat → Nat), c ≤ N → (Gb n w (cpB T z r N) (okC y) (1 + cnB z c) k ↔ GU n w T (manC n w y r) z c k)
  | 0, k, _ => by
    constructor
    · rintro ⟨j, h1, h2, h3⟩
      have e : ∀ d, d < n → j d = k d := fun d hd => by
        have q1 := (h1 d hd).1
        have q2 : k d - j d = 0 := h3 d hd
        omega
      refine ⟨fun d hd => ?_, ?_⟩
      · rw [← e d hd]
        rcases (h1 d hd).2 with q | q
        · exact Or.inl q
        · rcases q with q | q
          · exact absurd q (Nat.lt_irrefl _)
          · exact Or.inr q
      · rw [smN_ext (g := fun d => j d * w d) (fun d hd => by rw [e d hd])]
        have h2' : smN (fun d => j d * w d) n ≤ cpB T z r N 0 := h2
        rw [cpB_0] at h2'
        exact h2'
    · rintro ⟨h1, h2⟩
      refine ⟨k, fun d hd => ⟨Nat.le_refl _, ?_⟩, ?_, fun d hd => Nat.sub_self _⟩
      · rcases h1 d hd with q | q
        · exact Or.inl q
        · exact Or.inr (Or.inr q)
      · show _ ≤ cpB T z r N 0
        rw [cpB_0]
        exact h2
  | c + 1, k, hc => by
    rw [GU_s, cnB_s]
    by_cases q : bt1 z c = 0
    · rw [if_pos q]
      have ih := Gb_GU (n := n) (w := w) (y := y) (z := z) (r := r) c k (show c ≤ N by omega)
      constructor
      · intro h
        exact Or.inl ⟨q, ih.mp h⟩
      · rintro (⟨_, h⟩ | ⟨h, _⟩)
        · exact ih.mpr h
        · exact absurd q h
    · rw [if_neg q]
      have ih := fun j : Nat → Nat => Gb_GU (n := n) (w := w) (y := y) (z := z) (r := r) c (fun d => k d - j d) (show c ≤ N by omega)
      have cp := cpB_in (T := T) (r := r) q (show c < N by omega)
      constructor
      · rintro ⟨j, h1, h2, h3⟩
        refine Or.inr ⟨q, j, fun d hd => (h1 d hd).1, ?_, (ih j).mp h3⟩
        rw [← cp]
        exact h2
      · rintro (⟨h, _⟩ | ⟨_, j, h1, h2, h3⟩)
        · exact absurd h q
        · refine ⟨j, fun d hd => ⟨h1 d hd, Or.inr (Or.inl (show 0 < 1 + cnB z c by omega))⟩, ?_, (ih j).mpr h3⟩
          show _ ≤ cpB T z r N (1 + cnB z c)
          rw [cp]
          exact h2
/-- what a set of bellies asks -/
def feeS (T : am_Sg) (z : Int) : Nat → Int
  | 0 => 0
  | c + 1 => feeS T z c + bt1 z c * T 22 c
theorem feeS_s {z : Int} {c : Nat} : feeS T z (c + 1) = feeS T z c + bt1 z c * T 22 c := rfl
theorem feeS_bd (H : TOk T) {s : Nat} (hs : s < 64) : ∀ c, c ≤ nB T → 0 ≤ feeS T (s : Int) c ∧ feeS T (s : Int) c ≤ 99 * c
  | 0, _ => ⟨Int.le_refl _, Int.le_refl _⟩
  | c + 1, hc => by
    have ih := feeS_bd H hs c (by omega)
    have q := H.2.2.2.2.2.2.1 c (by omega)
    have h6 := H.b6
    rw [feeS_s]
    rcases bt01 (show s < 256 by omega) (show c < 8 by omega) with e | e <;> rw [e] <;> omega
theorem c_fee (H : TOk T) (hT : tl σ = T) {s : Nat} (hs : s < 64) : vcI X 126 [vP 63, vI (s : Int)] σ = some (feeS T (s : Int) (nB T), σ) := by
  have h6 := H.b6
  refine vI_of ((bq_126_0 X _ σ).trans ?_) rfl
  obtain ⟨_, e, -⟩ := lp (fun c (_ : Unit) => vv X 126 4 [some (vP 63), some (vI (s : Int)), some (vI (feeS T (s : Int) c)), some (vI (c : Int))] [] σ) (nB T) (fun _ _ => True) (fun c _ hc _ => by
    refine ⟨(), ?_, trivial⟩
    show vv X 126 4 [some (vP 63), some (vI (s : Int)), some (vI (feeS T (s : Int) c)), some (vI (c : Int))] [] σ = vv X 126 4 [some (vP 63), some (vI (s : Int)), some (vI (feeS T (s : Int) (c + 1))), some (vI ((c + 1 : Nat) : Int))] [] σ
    have ih := feeS_bd H hs c (by omega)
    have q := H.2.2.2.2.2.2.1 c (by omega)
    rw [bq_126_4, g_bellies, bsome]
    dsimp +instances only
    rw [tl_at hT (k := 8) (by omega), H.b0, if_neg (by omega), if_pos (by omega), w32_s1 (by omega), tn_nat, tl_at hT (k := 22) (by omega), show am_and (am_shr (s : Int) (c : Int)) 1 = bt1 (s : Int) c from rfl, feeS_s]
    rcases bt01 (show s < 256 by omega) (show c < 8 by omega) with e | e <;> rw [e]
    · rw [w32_id (x := 0 * T 22 c) (by omega) (by omega), w32_id (by omega) (by omega)]
    · rw [w32_id (x := 1 * T 22 c) (by omega) (by omega), w32_id (by omega) (by omega)]) (nB T) 0 () (by omega) trivial
  refine Eq.trans e ?_
  show vv X 126 4 [some (vP 63), some (vI (s : Int)), some (vI (feeS T (s : Int) (nB T))), some (vI (nB T : Int))] [] σ = _
  rw [bq_126_4, g_bellies, bsome]
  dsimp +instances only
  rw [tl_at hT (k := 8) (by omega), H.b0, if_pos (Int.le_refl _)]
/-- the first of the cheapest below n -/
def Fst (G : Nat → Prop) (fee : Nat → Int) (n s : Nat) : Prop := s < n ∧ G s ∧ (∀ t, t < n → G t → fee s ≤ fee t) ∧ ∀ t, t < s → G t → fee s < fee t
theorem Fst.uniq {G : Nat → Prop} {fee : Nat → Int} {n s s' : Nat} (h : Fst G fee n s) (h' : Fst G fee n s') : s = s' := by
  rcases Nat.lt_trichotomy s s' with q | q | q
  · have a := h'.2.2.2 s q h.2.1
    have b := h.2.2.1 s' h'.1 h'.2.1
    omega
  · exact q
  · have a := h.2.2.2 s' q h'.2.1
    have b := h'.2.2.1 s h.1 h.2.1
    omega
theorem Fst.skip {G : Nat → Prop} {fee : Nat → Int} {n s : Nat} (h : Fst G fee n s) (hn : fee s ≤ fee n ∨ ¬ G n) : Fst G fee (n + 1) s := by
  refine ⟨by have := h.1; omega, h.2.1, fun t ht hg => ?_, h.2.2.2⟩
  by_cases e : t = n
  · subst e
    rcases hn with q | q
    · exact q
    · exact absurd hg q
  · exact h.2.2.1 t (by omega) hg
theorem Fst.take {G : Nat → Prop} {fee : Nat → Int} {n : Nat} (hg : G n) (h : ∀ t, t < n → G t → fee n < fee t) : Fst G fee (n + 1) n := by
  refine ⟨by omega, hg, fun t ht hg' => ?_, h⟩
  by_cases e : t = n
  · rw [e]
    exact Int.le_refl _
  · exact Int.le_of_lt (h t (by omega) hg')
theorem all6_f : ∀ n : Fin 7, ∀ s : Fin 64, s.val < 2 ^ n.val → ∀ e : Fin 6, e.val < n.val → ¬ bt1 ((2 ^ n.val - 1 : Nat) : Int) e.val = 0 := by decide +kernel
theorem pow6 {n : Nat} (h : n ≤ 6) : 1 ≤ 2 ^ n ∧ 2 ^ n ≤ 64 := by
  rcases (show n = 0 ∨ n = 1 ∨ n = 2 ∨ n = 3 ∨ n = 4 ∨ n = 5 ∨ n = 6 by omega) with e | e | e | e | e | e | e <;> subst e <;> decide
def GdC (T : am_Sg) (b : Nat → Int) (y : Int) (r : Nat) (s : Nat) : Prop := GU (nD T) (wN T) T (manC (nD T) (wN T) y r) (s : Int) (nB T) (bN b)
theorem c_cheap (H : TOk T) (hT : tl σ = T) (hp : PL T σ 53 b) (hb : BOk T b 6) {r : Nat} (hr : r ≤ 99) {y : Int} : ∃ v σ', vcI X 125 [vP 63, vP 53, vI (r : Int), vI y] σ = some (v, σ') ∧ Fr [63, 64, 65, 66] [] σ σ' ∧ ((v = -2 ∧ ∀ s, s < 2 ^ nB T → ¬ GdC T b y r s) ∨ ∃ s : Nat, v = (s : Int) ∧ Fst (GdC T b y r) (fun s => feeS T (s : Int) (nB T)) (2 ^ nB T) s) := by
  have h6 := H.b6
  have p6 := pow6 h6
  have sw : ∀ (τ : am_Sg) (s : Nat), Fr [63, 64, 65, 66] [] σ τ → s < 64 → ∃ τ', vcI X 210 [vP 63, vI (s : Int), vP 53, vI (r : Int), vI y] τ = some (@ite _ (GdC T b y r s) (Classical.propDecidable _) 1 0, τ') ∧ Fr [63, 64, 65, 66] [] σ τ' := fun τ s f hs => by
    obtain ⟨τ', e, f'⟩ := c_swallows (X := X) (z := (s : Int)) (y := y) H ((tl_fr f rfl).trans hT) (hp.fr (f.get 53 (by decide) rfl) (f.get 54 (by decide) rfl)) hb hr
    refine ⟨τ', ?_, f.tr f'⟩
    rw [e]
    have iff : Gb (nD T) (wN T) (cpB T (s : Int) r (nB T)) (okC y) (1 + cnB (s : Int) (nB T)) (bN b) ↔ GdC T b y r s := Gb_GU (nB T) (bN b) (Nat.le_refl _)
    by_cases q : GdC T b y r s
    · rw [if_pos q, if_pos (iff.mpr q)]
    · rw [if_neg q, if_neg (fun x => q (iff.mp x))]
  have sh : am_shl 1 ((nB T : Nat) : Int) = ((2 ^ nB T : Nat) : Int) := shl1 (by omega)
  have al : w32 (((2 ^ nB T : Nat) : Int) - 1) = ((2 ^ nB T - 1 : Nat) : Int) := by rw [w32_id (by omega) (by omega)]; omega
  have mono : ∀ s, s < 2 ^ nB T → GdC T b y r s → GdC T b y r (2 ^ nB T - 1) := fun s hs g => GU_mono (nB T) (bN b) (fun e he q => absurd q (all6_f ⟨nB T, by omega⟩ ⟨s, by omega⟩ hs ⟨e, by omega⟩ he)) g
  obtain ⟨σ1, e1, f1⟩ := sw σ (2 ^ nB T - 1) Fr.rf (by omega)
  by_cases q : GdC T b y r (2 ^ nB T - 1)
  · rw [if_pos q] at e1
    obtain ⟨p, ep, hp1, hp2⟩ := lp (fun s (p : Int × Int × am_Sg) => vv X 125 39 [some (vP 63), some (vP 53), some (vI (r : Int)), some (vI y), some (vI ((2 ^ nB T - 1 : Nat) : Int)), some (vI p.1), some (vI p.2.1), some (vI (s : Int)), none] [] p.2.2) (2 ^ nB T) (fun s p => Fr [63, 64, 65, 66] [] σ p.2.2 ∧ ((p.2.1 = 1000000000 ∧ ∀ t, t < s → ¬ GdC T b y r t) ∨ ∃ t : Nat, p.1 = (t : Int) ∧ p.2.1 = feeS T (t : Int) (nB T) ∧ Fst (GdC T b y r) (fun s => feeS T (s : Int) (nB T)) s t)) (fun s p hs hh => by
      obtain ⟨ff, hh⟩ := hh
      have fb := feeS_bd H (show s < 64 by omega) (nB T) (Nat.le_refl _)
      obtain ⟨τ, eτ, fτ⟩ := sw p.2.2 s ff (by omega)
      by_cases z : p.2.1 ≤ feeS T (s : Int) (nB T)
      · refine ⟨p, ?_, ff, ?_⟩
        · show vv X 125 39 [some (vP 63), some (vP 53), some (vI (r : Int)), some (vI y), some (vI ((2 ^ nB T - 1 : Nat) : Int)), some (vI p.1), some (vI p.2.1), some (vI (s : Int)), none] [] p.2.2 = vv X 125 39 [some (vP 63), some (vP 53), some (vI (r : Int)), some (vI y), some (vI ((2 ^ nB T - 1 : Nat) : Int)), some (vI p.1), some (vI p.2.1), some (vI ((s + 1 : Nat) : Int)), none] [] p.2.2
          rw [bq_125_39, if_neg (by omega), c_fee H ((tl_fr ff rfl).trans hT) (by omega), bsome]
          dsimp +instances only
          rw [if_pos z, bq_125_81, w32_s1 (by omega)]
        · rcases hh with u | ⟨t, t1, t2, t3⟩
          · omega
          · exact Or.inr ⟨t, t1, t2, t3.skip (Or.inl (by show feeS T (t : Int) (nB T) ≤ feeS T (s : Int) (nB T); omega))⟩
      · by_cases g : GdC T b y r s
        · refine ⟨((s : Int), feeS T (s : Int) (nB T), τ), ?_, fτ, Or.inr ⟨s, rfl, rfl, Fst.take g (fun t ht hg => ?_)⟩⟩
          · show vv X 125 39 [some (vP 63), some (vP 53), some (vI (r : Int)), some (vI y), some (vI ((2 ^ nB T - 1 : Nat) : Int)), some (vI p.1), some (vI p.2.1), some (vI (s : Int)), none] [] p.2.2 = vv X 125 39 [some (vP 63), some (vP 53), some (vI (r : Int)), some (vI y), some (vI ((2 ^ nB T - 1 : Nat) : Int)), some (vI (s : Int)), some (vI (feeS T (s : Int) (nB T))), some (vI ((s + 1 : Nat) : Int)), none] [] τ
            rw [bq_125_39, if_neg (by omega), c_fee H ((tl_fr ff rfl).trans hT) (by omega), bsome]
            dsimp +instances only
            rw [if_neg z, eτ, bsome]
            dsimp +instances only
            rw [if_pos g, if_neg i10, bq_125_81, w32_s1 (by omega)]
          · show feeS T (s : Int) (nB T) < feeS T (t : Int) (nB T)
            rcases hh with u | ⟨t', t1, t2, t3⟩
            · exact absurd hg (u.2 t ht)
            · have : feeS T (t' : Int) (nB T) ≤ feeS T (t : Int) (nB T) := t3.2.2.1 t ht hg
              omega
        · refine ⟨(p.1, p.2.1, τ), ?_, fτ, ?_⟩
          · show vv X 125 39 [some (vP 63), some (vP 53), some (vI (r : Int)), some (vI y), some (vI ((2 ^ nB T - 1 : Nat) : Int)), some (vI p.1), some (vI p.2.1), some (vI (s : Int)), none] [] p.2.2 = vv X 125 39 [some (vP 63), some (vP 53), some (vI (r : Int)), some (vI y), some (vI ((2 ^ nB T - 1 : Nat) : Int)), some (vI p.1), some (vI p.2.1), some (vI ((s + 1 : Nat) : Int)), none] [] τ
            rw [bq_125_39, if_neg (by omega), c_fee H ((tl_fr ff rfl).trans hT) (by omega), bsome]
            dsimp +instances only
            rw [if_neg z, eτ, bsome]
            dsimp +instances only
            rw [if_neg g, if_pos rfl, bq_125_81, w32_s1 (by omega)]
          · rcases hh with u | ⟨t, t1, t2, t3⟩
            · refine Or.inl ⟨u.1, fun t ht => ?_⟩
              by_cases e : t = s
              · rw [e]; exact g
              · exact u.2 t (by omega)
            · exact Or.inr ⟨t, t1, t2, t3.skip (Or.inr g)⟩) (2 ^ nB T) 0 (((2 ^ nB T - 1 : Nat) : Int), 1000000000, σ1) (by omega) ⟨f1, Or.inl ⟨rfl, fun t ht => absurd ht (Nat.not_lt_zero _)⟩⟩
    refine ⟨p.1, p.2.2, vI_of ((bq_125_0 X _ _ σ).trans ?_) rfl, hp1, ?_⟩
    · rw [g_bellies, bsome]
      dsimp +instances only
      rw [tl_at hT (k := 8) (by omega), H.b0, sh, al, e1, bsome]
      dsimp +instances only
      rw [if_pos i10]
      refine Eq.trans ep ?_
      show vv X 125 39 [some (vP 63), some (vP 53), some (vI (r : Int)), some (vI y), some (vI ((2 ^ nB T - 1 : Nat) : Int)), some (vI p.1), some (vI p.2.1), some (vI ((2 ^ nB T : Nat) : Int)), none] [] p.2.2 = _
      rw [bq_125_39, if_pos (by omega)]
    · rcases hp2 with u | ⟨t, t1, t2, t3⟩
      · exact absurd q (u.2 _ (by omega))
      · exact Or.inr ⟨t, t1, t3⟩
  · rw [if_neg q] at e1
    refine ⟨-2, σ1, vI_of ((bq_125_0 X _ _ σ).trans ?_) rfl, f1, Or.inl ⟨rfl, fun s hs g => q (mono s hs g)⟩⟩
    rw [g_bellies, bsome]
    dsimp +instances only
    rw [tl_at hT (k := 8) (by omega), H.b0, sh, al, e1, bsome]
    dsimp +instances only
    rw [if_neg (by decide)]
end HC
