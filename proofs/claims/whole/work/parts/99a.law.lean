/-! READ: a law, its pieces -/
def CLp (c : Nat → Int) : Nat → Brs → Nat → Prop
  | p, [], e => e = p
  | p, (a, b, t) :: r, e => (SgC c p a ∧ SgC c (p + a.length) b) ∧ (am_and (c (p + a.length + b.length)) 7 = 6 ∧ am_shr (c (p + a.length + b.length)) 3 = ((p + a.length + b.length + 1 + t.length + 1 : Nat) : Int)) ∧ (SgC c (p + a.length + b.length + 1) t ∧ am_and (c (p + a.length + b.length + 1 + t.length)) 7 = 7) ∧ CLp c (p + a.length + b.length + 1 + t.length + 1) r e
def MLp (τ : am_Sg) (sd K : Nat) : Nat → Brs → Nat → Prop
  | b, [], e => e = b
  | b, (a, c, t) :: r, e => τ 107 b = 1 ∧ (∃ p : Nat, (τ 108 b = (p : Int) ∧ τ 109 b = ((p + a.length : Nat) : Int) ∧ τ 110 b = ((p + a.length + c.length : Nat) : Int) ∧ τ 111 b = ((p + a.length + c.length + t.length : Nat) : Int)) ∧ (420 * sd ≤ p ∧ p + a.length + c.length + t.length ≤ K) ∧ SgM (τ 122) (τ 123) p a ∧ SgM (τ 122) (τ 123) (p + a.length) c ∧ SgM (τ 122) (τ 123) (p + a.length + c.length) t) ∧ MLp τ sd K (b + 1) r e
def wfp : Brs → Prop
  | [] => True
  | (a, b, t) :: r => (wfo a 0 1 ∧ wfo b 0 1 ∧ wfo t 0 1) ∧ wfp r
def nvp : Brs → Prop
  | [] => True
  | (a, b, t) :: r => (nv4 a ∧ nv4 b ∧ nv4 t) ∧ nvp r
section PR
variable {X N : Nat} {σ τ σ' τ' : am_Sg} {t sd g p0 q0 t0 : Nat} {c c' : Nat → Int}
theorem CLp.le : ∀ {brs : Brs} {p e : Nat}, CLp c p brs e → p ≤ e
  | [], p, e, h => Nat.le_of_eq h.symm
  | (a, b, t) :: r, p, e, h => by have := CLp.le (brs := r) h.2.2.2; omega
theorem CLp.ag : ∀ {brs : Brs} {p e : Nat}, CLp c p brs e → (∀ i, p ≤ i → i < e → c' i = c i) → CLp c' p brs e
  | [], p, e, h, hc => h
  | (a, b, t) :: r, p, e, h, hc => by
    have e1 := CLp.le h.2.2.2
    refine ⟨⟨h.1.1.ag (fun i a b => hc i (by omega) (by omega)), h.1.2.ag (fun i a b => hc i (by omega) (by omega))⟩, ?_, ⟨h.2.2.1.1.ag (fun i a b => hc i (by omega) (by omega)), ?_⟩, CLp.ag (brs := r) h.2.2.2 (fun i a b => hc i (by omega) b)⟩
    · rw [hc _ (by omega) (by omega)]
      exact h.2.1
    · rw [hc _ (by omega) (by omega)]
      exact h.2.2.1.2
theorem CLp.snoc : ∀ {brs : Brs} {p e : Nat} {a b t : Ops}, CLp c p brs e → CLp c e [(a, b, t)] (e + a.length + b.length + 1 + t.length + 1) → CLp c p (brs ++ [(a, b, t)]) (e + a.length + b.length + 1 + t.length + 1)
  | [], p, e, a, b, t, h, h' => by
    have e1 : e = p := h
    subst e1
    exact h'
  | (x, y, z) :: r, p, e, a, b, t, h, h' => ⟨h.1, h.2.1, h.2.2.1, CLp.snoc (brs := r) h.2.2.2 h'⟩
theorem CLp.last : ∀ {brs : Brs} {p e : Nat} {E : Ops}, CLp c p brs e → SgC c e E → am_and (c (e + E.length)) 7 = 7 → CLw c p brs E (e + E.length + 1)
  | [], p, e, E, h, h1, h2 => by
    have e1 : e = p := h
    subst e1
    exact ⟨h1, h2, rfl⟩
  | (x, y, z) :: r, p, e, E, h, h1, h2 => ⟨h.1, h.2.1, h.2.2.1, CLp.last (brs := r) h.2.2.2 h1 h2⟩
theorem MLp.le {sd K : Nat} : ∀ {brs : Brs} {b e : Nat}, MLp τ sd K b brs e → e = b + brs.length
  | [], b, e, h => h
  | (a, c, t) :: r, b, e, h => by
    have e1 := MLp.le (brs := r) h.2.2
    have : ((a, c, t) :: r : Brs).length = r.length + 1 := rfl
    omega
theorem MLp.ag {sd K K' : Nat} (hK : K ≤ K') : ∀ {brs : Brs} {b e : Nat}, MLp τ sd K b brs e → (∀ k i, 107 ≤ k → k ≤ 111 → b ≤ i → i < e → τ' k i = τ k i) → (∀ i, 420 * sd ≤ i → i < K → τ' 122 i = τ 122 i ∧ τ' 123 i = τ 123 i) → MLp τ' sd K' b brs e
  | [], b, e, h, hb, hc => h
  | (a, c, t) :: r, b, e, h, hb, hc => by
    obtain ⟨h1, ⟨p, ⟨p1, p2, p3, p4⟩, ⟨p5, p6⟩, p7, p8, p9⟩, h3⟩ := h
    have e1 := MLp.le h3
    refine ⟨?_, ⟨p, ⟨?_, ?_, ?_, ?_⟩, ⟨p5, by omega⟩, p7.ag (fun i a b => hc i (by omega) (by omega)), p8.ag (fun i a b => hc i (by omega) (by omega)), p9.ag (fun i a b => hc i (by omega) (by omega))⟩, MLp.ag hK (brs := r) h3 (fun k i a1 a2 a3 a4 => hb k i a1 a2 (by omega) a4) hc⟩
    · rw [hb 107 b (by omega) (by omega) (by omega) (by omega)]; exact h1
    · rw [hb 108 b (by omega) (by omega) (by omega) (by omega)]; exact p1
    · rw [hb 109 b (by omega) (by omega) (by omega) (by omega)]; exact p2
    · rw [hb 110 b (by omega) (by omega) (by omega) (by omega)]; exact p3
    · rw [hb 111 b (by omega) (by omega) (by omega) (by omega)]; exact p4
theorem MLp.snoc {sd K : Nat} : ∀ {brs : Brs} {b e : Nat} {x : Ops × Ops × Ops}, MLp τ sd K b brs e → MLp τ sd K e [x] (e + 1) → MLp τ sd K b (brs ++ [x]) (e + 1)
  | [], b, e, x, h, h' => by
    have e1 : e = b := h
    subst e1
    exact h'
  | y :: r, b, e, x, h, h' => ⟨h.1, h.2.1, MLp.snoc (brs := r) h.2.2 h'⟩
theorem MLp.last {sd K : Nat} : ∀ {brs : Brs} {b e : Nat} {E : Ops}, MLp τ sd K b brs e → MLw τ sd K e [] E (e + 1) → MLw τ sd K b brs E (e + 1)
  | [], b, e, E, h, h' => by
    have e1 : e = b := h
    subst e1
    exact h'
  | y :: r, b, e, E, h, h' => ⟨h.1, h.2.1, MLp.last (brs := r) h.2.2 h'⟩
theorem wfp.snoc : ∀ {brs : Brs} {a b t : Ops}, wfp brs → wfo a 0 1 → wfo b 0 1 → wfo t 0 1 → wfp (brs ++ [(a, b, t)])
  | [], a, b, t, h, h1, h2, h3 => ⟨⟨h1, h2, h3⟩, trivial⟩
  | (x, y, z) :: r, a, b, t, h, h1, h2, h3 => ⟨h.1, wfp.snoc (brs := r) h.2 h1 h2 h3⟩
theorem wfp.last : ∀ {brs : Brs} {E : Ops}, wfp brs → wfo E 0 1 → wfl brs E
  | [], E, h, h1 => h1
  | (x, y, z) :: r, E, h, h1 => ⟨h.1, wfp.last (brs := r) h.2 h1⟩
theorem nvp.snoc : ∀ {brs : Brs} {a b t : Ops}, nvp brs → nv4 a → nv4 b → nv4 t → nvp (brs ++ [(a, b, t)])
  | [], a, b, t, h, h1, h2, h3 => ⟨⟨h1, h2, h3⟩, trivial⟩
  | (x, y, z) :: r, a, b, t, h, h1, h2, h3 => ⟨h.1, nvp.snoc (brs := r) h.2 h1 h2 h3⟩
theorem nvp.last : ∀ {brs : Brs} {E : Ops}, nvp brs → nv4 E → nvl brs E
  | [], E, h, h1 => h1
  | (x, y, z) :: r, E, h, h1 => ⟨h.1, nvp.last (brs := r) h.2 h1⟩
/-! steps of the class, whatever stands -/
theorem c_stepF (X : Nat) {k : Nat} {v : Int} (h : 0 ≤ σ 27 19) : ∃ r σ', vcI X 247 [vP 27, vI (k : Int), vI v] σ = some (r, σ') ∧ 0 ≤ r ∧ Fr [27, 46] [] σ σ' ∧ 0 ≤ σ' 27 19 := by
  by_cases z : 400 ≤ σ 27 19
  · exact ⟨σ 27 19, σ, vI_of ((bq_247_0 X _ _ σ).trans (by rw [if_pos z, bq_247_35])) rfl, h, Fr.rf, h⟩
  · obtain ⟨p, hp⟩ : ∃ p : Nat, σ 27 19 = (p : Int) := ⟨(σ 27 19).toNat, by omega⟩
    exact ⟨(p : Int), cst σ p k v, c_step X (by omega) hp, by omega, cst_fr, by show (0 : Int) ≤ ((p + 1 : Nat) : Int); omega⟩
theorem c_leadF (X : Nat) {u : Int} (h : 0 ≤ u) : ∃ σ', vcV X 277 [vP 27, vI u] σ = some σ' ∧ Fr [46] [] σ σ' := by
  by_cases z : 400 ≤ u
  · exact ⟨σ, vV_of ((bq_277_0 X _ σ).trans (by rw [if_pos z, bq_277_24])) rfl, Fr.rf⟩
  · exact ⟨_, vV_of ((bq_277_0 X _ σ).trans (by rw [if_neg z, if_pos (by omega), bq_277_24])) rfl, Fr.rf.upd rfl (by decide)⟩
theorem enc_un_f : ∀ a : Fin 401, am_and (am_or (am_shl (a.val : Int) 3) 6) 7 = 6 ∧ am_shr (am_or (am_shl (a.val : Int) 3) 6) 3 = (a.val : Int) := by decide +kernel
theorem c_lead (X : Nat) {u e : Nat} (hu : u < 400) (h : σ 27 19 = (e : Int)) : vcV X 277 [vP 27, vI (u : Int)] σ = some (am_upd σ 46 u (am_or (am_shl (e : Int) 3) 6)) := vV_of ((bq_277_0 X _ σ).trans (by rw [if_neg (by omega), if_pos (by omega), h, tn_nat, bq_277_24])) rfl
/-! an expression, with or without a fault -/
def EQ (N g sd p0 q0 : Nat) (σ τ σ' τ' : am_Sg) : Prop := PS N σ' τ' ∧ XF p0 σ σ' ∧ YF sd q0 τ τ' ∧ (ok0 σ' → ok0 σ) ∧ (σ' 47 6 = 0 → ∃ (t0 t : Nat) (out : Ops), NF N σ τ t0 ∧ NF N σ' τ' t ∧ (SgC (σ' 46) p0 out ∧ σ' 27 19 = ((p0 + out.length : Nat) : Int)) ∧ (SgM (τ' 122) (τ' 123) q0 out ∧ τ' 80 56 = ((q0 + out.length : Nat) : Int)) ∧ wfo out 0 1 ∧ (bt1 (σ' 27 20) g = 0 → nv4 out) ∧ τ' 80 12 = 0 ∧ out.length + t0 ≤ t)
/-- what an expression wants where there is no fault -/
def EH (sd p0 q0 : Nat) (σ τ : am_Sg) : Prop := σ 27 19 = (p0 : Int) ∧ τ 80 56 = (q0 : Int) ∧ τ 80 12 = 0 ∧ ((p0 : Int) ≤ σ 47 4 ∧ 420 * sd ≤ q0 ∧ (q0 : Int) ≤ ((420 * sd : Nat) : Int) + σ 47 4) ∧ (0 ≤ σ 27 20 ∧ σ 27 20 ≤ 3)
theorem EP.eq (f : NF N σ τ t0) (h : EP N g sd p0 q0 t0 σ τ σ' τ') : EQ N g sd p0 q0 σ τ σ' τ' := by
  refine ⟨h.1, h.2.1, h.2.2.1, h.2.2.2.1, fun z => ?_⟩
  obtain ⟨out, t, a1, a2, a3, a4, a5, a6, a7⟩ := h.2.2.2.2 z
  exact ⟨t0, t, out, f, a1, a2, a3, a4, a5, a6, a7⟩
theorem EH.nat (h : EH sd p0 q0 σ τ) (f : NF N σ τ t) : p0 ≤ t ∧ 420 * sd ≤ q0 ∧ q0 ≤ 420 * sd + t := by
  obtain ⟨-, -, -, ⟨a, b, c⟩, -⟩ := h
  rw [f.2.2.1.1] at a c
  omega
theorem EQ.bad (h : PS N σ τ) (z : ¬ σ 47 6 = 0) (m : PS N (am_upd σ 47 3 0) τ') (y : YF sd q0 τ τ') : EQ N g sd p0 q0 σ τ (am_upd σ 47 3 0) τ' := by
  have z' : ¬ am_upd σ 47 3 0 47 6 = 0 := by rw [f3_47 6 (by decide)]; exact z
  exact ⟨m, XF.sm f3_fr, y, fun q => absurd q.1 z', fun q => absurd q z'⟩
theorem ps3 (h : PS N σ τ) {x : Int} : PS N (am_upd σ 47 3 x) τ := h.ag (f3_fr.get 4 (by decide) rfl) (f3_fr.get 5 (by decide) rfl) (f3_fr.get 6 (by decide) rfl) f3_47 rfl rfl rfl rfl (fun _ _ => rfl)
theorem e_any1 (X : Nat) (sd1 : sd ≤ 1) (hg : g < 2) (h : PS N σ τ) (hh : σ 47 6 = 0 → EH sd p0 q0 σ τ) : ∃ σ' τ', vcV X 246 [vP 47, vI (g : Int)] σ = some σ' ∧ vcV X 255 [vP 80] τ = some τ' ∧ EQ N g sd p0 q0 σ τ σ' τ' ∧ (¬ σ 47 6 = 0 → σ' 47 6 = σ 47 6 ∧ σ' 47 7 = σ 47 7) := by
  rcases h.cases with ⟨z, fs⟩ | ⟨z, t, f⟩
  · exact ⟨am_upd σ 47 3 0, am_upd τ 80 60 0, c_expr_f X z, m_expr_f X fs.1, EQ.bad h z ((ps3 h).updf (by decide)) y60, fun _ => ⟨f3_47 6 (by decide), f3_47 7 (by decide)⟩⟩
  · have hE := hh z
    obtain ⟨σ', τ', a1, a2, a3⟩ := e_expr X sd1 hg h f hE.1 hE.2.1 hE.2.2.1 (hE.nat f) hE.2.2.2.2
    exact ⟨σ', τ', a1, a2, a3.eq f, fun q => absurd z q⟩
theorem e_any2 (X : Nat) {β : Type} (Q : am_Sg → Option β) (sd1 : sd ≤ 1) (hg : g < 2) (h : PS N σ τ) (hh : σ 47 6 = 0 → EH sd p0 q0 σ τ) : ∃ σ' τ', vcV X 246 [vP 47, vI (g : Int)] σ = some σ' ∧ (if ¬ (τ 80 13) = 0 then Q τ else (vcV X 255 [vP 80] τ).bind Q) = Q τ' ∧ EQ N g sd p0 q0 σ τ σ' τ' ∧ (¬ σ 47 6 = 0 → σ' 47 6 = σ 47 6 ∧ σ' 47 7 = σ 47 7) := by
  rcases h.cases with ⟨z, fs⟩ | ⟨z, t, f⟩
  · exact ⟨am_upd σ 47 3 0, τ, c_expr_f X z, by rw [if_pos (ne0_of fs.1)], EQ.bad h z (ps3 h) (YF.sm Fr.rf), fun _ => ⟨f3_47 6 (by decide), f3_47 7 (by decide)⟩⟩
  · have hE := hh z
    obtain ⟨σ', τ', a1, a2, a3⟩ := e_expr X sd1 hg h f hE.1 hE.2.1 hE.2.2.1 (hE.nat f) hE.2.2.2.2
    exact ⟨σ', τ', a1, by rw [if_neg (fun q => q f.2.1.2), a2, bsome], a3.eq f, fun q => absurd z q⟩
theorem kr_if : ∀ a b, KR a b → (a = 265 ↔ b = 23) := kr_of (by decide +kernel)
theorem kr_then : ∀ a b, KR a b → (a = 266 ↔ b = 24) := kr_of (by decide +kernel)
theorem kr_else : ∀ a b, KR a b → (a = 267 ↔ b = 25) := kr_of (by decide +kernel)
theorem kr_less : ∀ a b, KR a b → (a = 60 ↔ b = 13) := kr_of (by decide +kernel)
end PR
