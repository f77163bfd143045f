/-! READ: a law, one branch -/
section PS1
variable {X N : Nat} {σ τ σ' τ' : am_Sg} {t sd g P B0 q0 : Nat} {brs : Brs}
def LW (N g sd P B0 q0 : Nat) (σ τ : am_Sg) (brs : Brs) : Prop := ∃ (t p q : Nat), NF N σ τ t ∧ (σ 27 19 = (p : Int) ∧ τ 80 56 = (q : Int) ∧ τ 80 12 = 0) ∧ (p ≤ t ∧ 420 * sd ≤ q ∧ q ≤ 420 * sd + t) ∧ (0 ≤ σ 27 20 ∧ σ 27 20 ≤ 3) ∧ τ 80 40 = ((B0 + brs.length : Nat) : Int) ∧ CLp (σ 46) P brs p ∧ MLp τ sd q B0 brs (B0 + brs.length) ∧ wfp brs ∧ (bt1 (σ 27 20) g = 0 → nvp brs) ∧ (P ≤ p ∧ q0 ≤ q)
def LFm (B0 q0 : Nat) (τ τ' : am_Sg) : Prop := (∀ j, j < q0 → τ' 122 j = τ 122 j ∧ τ' 123 j = τ 123 j) ∧ ∀ k j, 107 ≤ k → k ≤ 111 → j < B0 → τ' k j = τ k j
def lc : List Nat := [107, 108, 109, 110, 111, 122, 123, 124]
def lj : List Nat := [11, 12, 13, 14, 15, 16, 40, 56, 60]
def ZF (sd : Nat) (τ τ' : am_Sg) : Prop := Fr lc lj τ τ' ∧ MG sd τ τ'
theorem ZF.tr {a b c : am_Sg} (h : ZF sd a b) (h' : ZF sd b c) : ZF sd a c := ⟨h.1.tr h'.1, h.2.tr h'.2⟩
theorem ZF.sm (f : Fr [] [11, 13, 14, 15, 16] τ τ') : ZF sd τ τ' := ⟨f.mono rfl rfl, MG.sm f⟩
theorem ZF.yf {q : Nat} (h : YF sd q τ τ') : ZF sd τ τ' := ⟨h.1.mono rfl rfl, h.2.2⟩
theorem wd50 {b k : Nat} (h : 50 * sd ≤ b ∧ b < 50 * sd + 50) (hk : wd k = 50) : wd k * sd ≤ b ∧ b < wd k * sd + wd k := wrd hk h
theorem ZF.w {b k : Nat} {x : Int} (hb : 50 * sd ≤ b ∧ b < 50 * sd + 50) (hl : lc.contains k = true) (hm : mR.contains k = true) (hk : wd k = 50) : ZF sd τ (am_upd τ k b x) := ⟨Fr.rf.upd hl (fun z => by rw [z] at hl; cases hl), MG.rf.upd hm (Or.inr (Or.inr (wd50 hb hk)))⟩
theorem nat_cast {x : Int} {n : Nat} (h : x = (n : Int)) : x = ((x.toNat : Nat) : Int) ∧ x.toNat = n := by omega
theorem toN {x : Int} {n : Nat} (h : x = (n : Int)) : x.toNat = n := by omega
theorem i100 {b : Nat} (h1 : sd ≤ 1) (h : 50 * sd ≤ b ∧ b < 50 * sd + 50) : (0 : Int) ≤ (b : Int) ∧ (b : Int) < 100 := by omega
/-- an expression's wants, from what the one ahead left -/
theorem EH.of {p q : Nat} (h19 : σ 27 19 = (p : Int)) (h56 : τ 80 56 = (q : Int)) (h12 : τ 80 12 = 0) (f : NF N σ τ t) (hb : p ≤ t ∧ 420 * sd ≤ q ∧ q ≤ 420 * sd + t) (h20 : 0 ≤ σ 27 20 ∧ σ 27 20 ≤ 3) : EH sd (σ 27 19).toNat (τ 80 56).toNat σ τ := by
  refine ⟨(nat_cast h19).1, (nat_cast h56).1, h12, ?_, h20⟩
  rw [toN h19, toN h56, f.2.2.1.1]
  omega
/-- what stands behind an expression -/
theorem EQ.out {p q : Nat} {t0 : Nat} (h : EQ N g sd (σ 27 19).toNat (τ 80 56).toNat σ τ σ' τ') (z : σ' 47 6 = 0) (h19 : σ 27 19 = (p : Int)) (h56 : τ 80 56 = (q : Int)) (f : NF N σ τ t0) : ∃ (t : Nat) (out : Ops), NF N σ' τ' t ∧ (SgC (σ' 46) p out ∧ σ' 27 19 = ((p + out.length : Nat) : Int)) ∧ (SgM (τ' 122) (τ' 123) q out ∧ τ' 80 56 = ((q + out.length : Nat) : Int)) ∧ wfo out 0 1 ∧ (bt1 (σ' 27 20) g = 0 → nv4 out) ∧ τ' 80 12 = 0 ∧ out.length + t0 ≤ t := by
  obtain ⟨t1, t, out, a1, a2, a3, a4, a5, a6, a7, a8⟩ := h.2.2.2.2 z
  rw [toN h19] at a3
  rw [toN h56] at a4
  have e : t1 = t0 := Int.ofNat.inj (a1.2.2.1.1.symm.trans f.2.2.1.1)
  subst e
  exact ⟨t, out, a2, a3, a4, a5, a6, a7, a8⟩
theorem nf_next (h : Nx N σ τ σ' τ') (f : NF N σ τ t) (z : σ' 47 6 = 0) : ∃ u, NF N σ' τ' u ∧ t ≤ u := by
  obtain ⟨u, fu⟩ := h.1.nf z
  have := h.2.2.2.2.2 z
  rw [f.2.2.1.1, fu.2.2.1.1] at this
  exact ⟨u, fu, by omega⟩
theorem kz {a b : am_Sg} (h : ¬ a 47 6 = 0 → b 47 6 = a 47 6 ∧ b 47 7 = a 47 7) (z : b 47 6 = 0) : a 47 6 = 0 := by
  by_cases w : a 47 6 = 0
  · exact w
  · rw [(h w).1] at z
    exact absurd z w
theorem enc6 {a : Nat} (h : a ≤ 400) : am_and (am_or (am_shl (a : Int) 3) 6) 7 = 6 ∧ am_shr (am_or (am_shl (a : Int) 3) 6) 3 = (a : Int) := enc_un_f ⟨a, by omega⟩
theorem enc7 : am_and (am_or (am_shl 0 3) ((7 : Nat) : Int)) 7 = 7 := (enc_op ⟨7, by decide⟩).1
/-- the taken token of a statement: with a step of the count -/
theorem take_lt {k k' : Int} {b : Int} (t4 : (b = 0 ∧ ¬ σ' 47 6 = 0) ∨ (b = 1 ∧ ∃ t, NF N σ τ t ∧ t < 400 ∧ σ 4 t = k ∧ σ' = tk σ t ∧ τ' = gm τ t ∧ NF N σ' τ' (t + 1))) (z : σ' 47 6 = 0) (f : NF N σ τ t) : t < 400 ∧ NF N σ' τ' (t + 1) := by
  rcases t4 with ⟨-, q⟩ | ⟨-, u, fu, ul, -, -, -, fv⟩
  · exact absurd z q
  · have e : u = t := Int.ofNat.inj (fu.2.2.1.1.symm.trans f.2.2.1.1)
    subst e
    exact ⟨ul, fv⟩
theorem bnd_if {p q t u v l : Nat} (hb : p ≤ t ∧ 420 * sd ≤ q ∧ q ≤ 420 * sd + t) (tu : t < u) (h : l + u ≤ v) : t < v + 1 ∧ (p + l ≤ v + 1 ∧ 420 * sd ≤ q + l ∧ q + l ≤ 420 * sd + (v + 1)) := by omega
theorem code_if {c3 c4 c7 : Nat → Int} {p : Nat} {oa ob oc : Ops} {x6 : Int} (ha : SgC c3 p oa) (h43 : ∀ j, j < p + oa.length → c4 j = c3 j) (hb : SgC c4 (p + oa.length) ob) (h7 : ∀ j, j < p + oa.length + ob.length + 1 → c7 j = up c4 (p + oa.length + ob.length) x6 j) (hc : SgC c7 (p + oa.length + ob.length + 1) oc) (hle : p + oa.length + ob.length + 1 + oc.length + 1 ≤ 400) : CLp (up (up c7 (p + oa.length + ob.length + 1 + oc.length) (am_or (am_shl 0 3) ((7 : Nat) : Int))) (p + oa.length + ob.length) (am_or (am_shl ((p + oa.length + ob.length + 1 + oc.length + 1 : Nat) : Int) 3) 6)) p [(oa, ob, oc)] (p + oa.length + ob.length + 1 + oc.length + 1) ∧ ∀ j, j < p → up (up c7 (p + oa.length + ob.length + 1 + oc.length) (am_or (am_shl 0 3) ((7 : Nat) : Int))) (p + oa.length + ob.length) (am_or (am_shl ((p + oa.length + ob.length + 1 + oc.length + 1 : Nat) : Int) 3) 6) j = c3 j := by
  have lo : ∀ j, j < p + oa.length + ob.length → up (up c7 (p + oa.length + ob.length + 1 + oc.length) (am_or (am_shl 0 3) ((7 : Nat) : Int))) (p + oa.length + ob.length) (am_or (am_shl ((p + oa.length + ob.length + 1 + oc.length + 1 : Nat) : Int) 3) 6) j = c4 j := fun j hj => by
    rw [upa, if_neg (by omega), upa, if_neg (by omega), h7 j (by omega), upa, if_neg (by omega)]
  refine ⟨⟨⟨ha.ag (fun i i1 i2 => by rw [lo i (by omega), h43 i (by omega)]), hb.ag (fun i i1 i2 => lo i (by omega))⟩, ?_, ⟨hc.ag (fun i i1 i2 => by rw [upa, if_neg (by omega), upa, if_neg (by omega)]), ?_⟩, rfl⟩, fun j hj => by rw [lo j (by omega), h43 j (by omega)]⟩
  · rw [upe]
    exact enc6 hle
  · rw [upa, if_neg (by omega), upe]
    exact enc7
theorem mcode_if {K q bb : Nat} {oa ob oc : Ops} {c3 i3 c4 i4 : Nat → Int} (h107 : τ 107 bb = 1) (h108 : τ 108 bb = (q : Int)) (h109 : τ 109 bb = ((q + oa.length : Nat) : Int)) (h110 : τ 110 bb = ((q + oa.length + ob.length : Nat) : Int)) (h111 : τ 111 bb = ((q + oa.length + ob.length + oc.length : Nat) : Int)) (hq : 420 * sd ≤ q) (hK : q + oa.length + ob.length + oc.length ≤ K) (ha : SgM c3 i3 q oa) (h43 : ∀ j, j < q + oa.length → c4 j = c3 j ∧ i4 j = i3 j) (hb : SgM c4 i4 (q + oa.length) ob) (h84 : ∀ j, j < q + oa.length + ob.length → τ 122 j = c4 j ∧ τ 123 j = i4 j) (hc : SgM (τ 122) (τ 123) (q + oa.length + ob.length) oc) : MLp τ sd K bb [(oa, ob, oc)] (bb + 1) := by
  refine ⟨h107, ⟨q, ⟨h108, h109, h110, h111⟩, ⟨hq, hK⟩, ha.ag (fun i i1 i2 => ?_), hb.ag (fun i i1 i2 => h84 i (by omega)), hc⟩, rfl⟩
  rw [(h84 i (by omega)).1, (h84 i (by omega)).2, (h43 i i2).1, (h43 i i2).2]
  exact ⟨rfl, rfl⟩
theorem bnd_if2 {p q u v l m : Nat} (hb : p + l ≤ u ∧ 420 * sd ≤ q + l ∧ q + l ≤ 420 * sd + u) (h : m + u ≤ v) (hv : v < 400) : p + l + m < 400 ∧ (p + l + m + 1 ≤ v + 1 ∧ 420 * sd ≤ q + l + m ∧ q + l + m ≤ 420 * sd + (v + 1)) := by omega
theorem bnd_if3 {p q u v l : Nat} (hb : p ≤ u ∧ 420 * sd ≤ q ∧ q ≤ 420 * sd + u) (h : l + u ≤ v) (hv : v < 400) : p + l < 400 ∧ (p + l + 1 ≤ v + 1 ∧ 420 * sd ≤ q + l ∧ q + l ≤ 420 * sd + (v + 1)) := by omega
theorem c5 {k : Nat} (h1 : 107 ≤ k) (h2 : k ≤ 111) : [122, 123, 124].contains k = false ∧ ¬ k = 80 := by
  rcases (show k = 107 ∨ k = 108 ∨ k = 109 ∨ k = 110 ∨ k = 111 by omega) with e | e | e | e | e <;> subst e <;> exact ⟨rfl, by decide⟩
theorem w_lt {b i k k' : Nat} {x : Int} (h : i < b) : am_upd τ k b x k' i = τ k' i := by
  rw [ua]
  by_cases e : k' = k
  · rw [if_pos e, if_neg (by omega)]
  · rw [if_neg e]
theorem len1 {B0 bb : Nat} {x : Ops × Ops × Ops} (h : B0 + brs.length = bb) : B0 + (brs ++ [x]).length = bb + 1 := by
  rw [List.length_append]
  show B0 + (brs.length + 1) = bb + 1
  omega
theorem step_lt {a b c d : Nat} (h1 : a < b) (h2 : c + b ≤ d) : a < d + 1 := by omega
theorem kq {a l m n : Nat} : a ≤ a + l + m + n := by omega
theorem l_if (X : Nat) {x1 x2 x3 : Int} {i : Nat} (sd1 : sd ≤ 1) (hg : g < 2) (h : PS N σ τ) (L : LW N g sd P B0 q0 σ τ brs) (hk : σ 47 5 = 265) (hi : i < 4) (hB : 50 * sd ≤ B0 + brs.length ∧ B0 + brs.length < 50 * sd + 50) : ∃ σ' τ', vcV X 245 [vP 47, vI (g : Int)] σ = some σ' ∧ vv X 193 53 [some (vP 80), some (vI x1), some (vI x2), some (vI x3), some (vI (i : Int))] [] τ = vv X 193 26 [some (vP 80), some (vI x1), some (vI x2), some (vI x3), some (vI ((i + 1 : Nat) : Int))] [] τ' ∧ PS N σ' τ' ∧ Fr [27, 46, 47, 48] [] σ σ' ∧ ZF sd τ τ' ∧ (ok0 σ' → ok0 σ) ∧ 0 ≤ σ' 27 19 ∧ τ' 80 40 = ((B0 + brs.length + 1 : Nat) : Int) ∧ (σ' 47 6 = 0 → ∃ a b c, LW N g sd P B0 q0 σ' τ' (brs ++ [(a, b, c)]) ∧ XF P σ σ' ∧ LFm B0 q0 τ τ' ∧ σ 47 4 < σ' 47 4) := by
  obtain ⟨t, p, q, f, ⟨h19, h56, h12⟩, hb, h20, h40, hc, hm, hw, hnv, hPq⟩ := L
  generalize hbb : B0 + brs.length = bb at h40 hB hm
  have r100 := i100 sd1 hB
  have t4 := PS.t400 h.1 f
  have e4 : σ 4 t = 265 := f.2.2.2.1.symm.trans hk
  have hwi : w32 ((i : Int) + 1) = ((i + 1 : Nat) : Int) := w32_s1 (by omega)
  have hwb : w32 ((bb : Int) + 1) = ((bb + 1 : Nat) : Int) := w32_s1 (by omega)
  have p0 : 0 ≤ σ 27 19 := by rw [h19]; exact Int.natCast_nonneg _
  obtain ⟨b0, σ1, τ1, a1, a2, a3, a4, a5⟩ := l_go X h f e4 (by decide) (by decide)
  have fm1 := a3.2.1.2
  have g19 : σ1 27 19 = (p : Int) := by rw [a3.2.1.1.get 27 (by decide) rfl]; exact h19
  have g56 : τ1 80 56 = (q : Int) := (fm1.fld 56 rfl).trans h56
  have g40 : τ1 80 40 = (bb : Int) := (fm1.fld 40 rfl).trans h40
  generalize hτa : am_upd (am_upd τ1 107 bb 1) 108 bb (q : Int) = τa
  have Fa : Fr [107, 108] [] τ1 τa := by rw [← hτa]; exact (Fr.rf.upd rfl (by decide)).upd rfl (by decide)
  have Za : ZF sd τ1 τa := by rw [← hτa]; exact (ZF.w hB rfl rfl (by decide)).tr (ZF.w hB rfl rfl (by decide))
  have psa : PS N σ1 τa := by rw [← hτa]; exact (a3.1.updm (by decide) (by omega)).updm (by decide) (by omega)
  have nfa : ∀ u, NF N σ1 τ1 u → NF N σ1 τa u := fun u fu => fu.ag rfl (fun _ _ => rfl) (Fa.get 84 (by decide) rfl) (fun j _ => Fa.fld j rfl)
  have ea : σ1 47 6 = 0 → ∃ u, NF N σ1 τa u ∧ t < u ∧ EH sd (σ1 27 19).toNat (τa 80 56).toNat σ1 τa := fun z => by
    obtain ⟨c1, -⟩ := a4 z
    obtain ⟨u, fu⟩ := a3.1.nf z
    have tu : t < u := by rw [f.2.2.1.1, fu.2.2.1.1] at c1; exact Int.ofNat_lt.mp c1
    refine ⟨u, nfa u fu, tu, EH.of g19 ((Fa.fld 56 rfl).trans g56) ?_ (nfa u fu) ⟨Nat.le_trans hb.1 (Nat.le_of_lt tu), hb.2.1, Nat.le_trans hb.2.2 (Nat.add_le_add_left (Nat.le_of_lt tu) _)⟩ ?_⟩
    · rw [Fa.fld 12 rfl, fm1.fld 12 rfl]; exact h12
    · rw [a3.2.1.1.get 27 (by decide) rfl]; exact h20
  obtain ⟨σ2, τ2, b1, b2, b3, b4⟩ := e_any1 X sd1 hg psa (fun z => (ea z).choose_spec.2.2)
  obtain ⟨c0, σ3, τ3, c1, c2, c3, c4⟩ := l_take X b3.1 kr_less (by decide) (by decide)
  generalize hτc : am_upd τ3 109 bb (τ3 80 56) = τc
  have Fc : Fr [109] [] τ3 τc := by rw [← hτc]; exact Fr.rf.upd rfl (by decide)
  have Zc : ZF sd τ3 τc := by rw [← hτc]; exact ZF.w hB rfl rfl (by decide)
  have psc : PS N σ3 τc := by rw [← hτc]; exact c3.1.updm (by decide) (by omega)
  -- the first expression's end
  have ec : σ3 47 6 = 0 → ∃ (u : Nat) (oa : Ops), NF N σ3 τc u ∧ t < u ∧ (SgC (σ3 46) p oa ∧ σ3 27 19 = ((p + oa.length : Nat) : Int)) ∧ (SgM (τc 122) (τc 123) q oa ∧ τc 80 56 = ((q + oa.length : Nat) : Int)) ∧ wfo oa 0 1 ∧ (bt1 (σ3 27 20) g = 0 → nv4 oa) ∧ (p + oa.length ≤ u ∧ 420 * sd ≤ q + oa.length ∧ q + oa.length ≤ 420 * sd + u) ∧ EH sd (σ3 27 19).toNat (τc 80 56).toNat σ3 τc := fun z => by
    have z2 := c3.cx.z0 z
    have z1 := kz b4 z2
    obtain ⟨u, fu, tu, -⟩ := ea z1
    obtain ⟨v, oa, d1, d2, d3, d4, d5, d6, d7⟩ := b3.out z2 g19 ((Fa.fld 56 rfl).trans g56) fu
    obtain ⟨-, fw⟩ := take_lt (k := 60) (k' := 13) c4 z d1
    have fw' : NF N σ3 τc (v + 1) := fw.ag rfl (fun _ _ => rfl) (Fc.get 84 (by decide) rfl) (fun j _ => Fc.fld j rfl)
    have k27 : σ3 27 = σ2 27 := c3.2.1.1.get 27 (by decide) rfl
    have k46 : σ3 46 = σ2 46 := c3.2.1.1.get 46 (by decide) rfl
    have e56 : τc 80 56 = ((q + oa.length : Nat) : Int) := by rw [Fc.fld 56 rfl, c3.2.1.2.fld 56 rfl]; exact d3.2
    have e19 : σ3 27 19 = ((p + oa.length : Nat) : Int) := by rw [k27]; exact d2.2
    have bnd := bnd_if hb tu d7
    refine ⟨v + 1, oa, fw', bnd.1, ⟨by rw [k46]; exact d2.1, e19⟩, ⟨?_, e56⟩, d4, by rw [k27]; exact d5, bnd.2, EH.of e19 e56 ?_ fw' bnd.2 ?_⟩
    · rw [Fc.get 122 (by decide) rfl, Fc.get 123 (by decide) rfl, c3.2.1.2.get 122 (by decide) rfl, c3.2.1.2.get 123 (by decide) rfl]; exact d3.1
    · rw [Fc.fld 12 rfl, c3.2.1.2.fld 12 rfl]; exact d6
    · rw [k27]; exact (b3.2.1.2.2.1 (by rw [a3.2.1.1.get 27 (by decide) rfl]; exact h20)).1
  obtain ⟨σ4, τ4, d1, d2, d3, d4⟩ := e_any2 X (fun τ => vv X 193 125 [some (vP 80), some (vI x1), some (vI x2), some (vI x3), some (vI ((i + 1 : Nat) : Int))] [] τ) sd1 hg psc (fun z => by
    obtain ⟨u, oa, -, -, -, -, -, -, -, q⟩ := ec z
    exact q)
  obtain ⟨e0, σ5, τ5, e1, e2, e3, e4'⟩ := l_take X d3.1 kr_then (by decide) (by decide)
  have p3 : 0 ≤ σ3 27 19 := by
    rw [c3.2.1.1.get 27 (by decide) rfl]
    exact b3.2.1.2.2.2 (by rw [g19]; exact Int.natCast_nonneg _)
  have p5 : 0 ≤ σ5 27 19 := by
    rw [e3.2.1.1.get 27 (by decide) rfl]
    exact d3.2.1.2.2.2 p3
  obtain ⟨u0, σ6, f1, f2, f3, f4⟩ := c_stepF X (k := 6) (v := 0) p5
  have k47 : σ6 47 = σ5 47 := f3.get 47 (by decide) rfl
  generalize hτe : am_upd τ5 110 bb (τ5 80 56) = τe
  have Fe : Fr [110] [] τ5 τe := by rw [← hτe]; exact Fr.rf.upd rfl (by decide)
  have Ze : ZF sd τ5 τe := by rw [← hτe]; exact ZF.w hB rfl rfl (by decide)
  have ps6 : PS N σ6 τe := by
    rw [← hτe]
    exact (e3.1.ag (f3.get 4 (by decide) rfl) (f3.get 5 (by decide) rfl) (f3.get 6 (by decide) rfl) (fun j _ => by rw [k47]) rfl rfl rfl rfl (fun _ _ => rfl)).updm (by decide) (by omega)
  -- the second expression's end, and the step of the test
  have ed : σ6 47 6 = 0 → ∃ (u v : Nat) (oa ob : Ops), NF N σ6 τe v ∧ t < v ∧ (SgC (σ3 46) p oa ∧ (SgM (τc 122) (τc 123) q oa ∧ τc 80 56 = ((q + oa.length : Nat) : Int)) ∧ wfo oa 0 1 ∧ (bt1 (σ3 27 20) g = 0 → nv4 oa)) ∧ ((∀ j, j < p + oa.length → σ4 46 j = σ3 46 j) ∧ (∀ j, j < q + oa.length → τ4 122 j = τc 122 j ∧ τ4 123 j = τc 123 j)) ∧ (SgC (σ4 46) (p + oa.length) ob ∧ SgM (τ4 122) (τ4 123) (q + oa.length) ob ∧ wfo ob 0 1 ∧ (bt1 (σ4 27 20) g = 0 → nv4 ob)) ∧ (u0 = ((p + oa.length + ob.length : Nat) : Int) ∧ σ6 = cst σ5 (p + oa.length + ob.length) 6 0 ∧ p + oa.length + ob.length < 400) ∧ (σ6 27 19 = ((p + oa.length + ob.length + 1 : Nat) : Int) ∧ τe 80 56 = ((q + oa.length + ob.length : Nat) : Int)) ∧ (p + oa.length + ob.length + 1 ≤ v ∧ 420 * sd ≤ q + oa.length + ob.length ∧ q + oa.length + ob.length ≤ 420 * sd + v) ∧ EH sd (σ6 27 19).toNat (τe 80 56).toNat σ6 τe := fun z => by
    rw [k47] at z
    have z4 := e3.cx.z0 z
    have z3 := kz d4 z4
    obtain ⟨u, oa, m1, m2, m3, m4, m5, m6, m7, -⟩ := ec z3
    obtain ⟨v, ob, w1, w2, w3, w4, w5, w6, w7⟩ := d3.out z4 m3.2 m4.2 m1
    obtain ⟨vl, fw⟩ := take_lt (k := 266) (k' := 24) e4' z w1
    have bn := bnd_if2 m7 w7 vl
    have e19 : σ5 27 19 = ((p + oa.length + ob.length : Nat) : Int) := by rw [e3.2.1.1.get 27 (by decide) rfl]; exact w2.2
    have st := c_step X (σ := σ5) (k := 6) (v := 0) bn.1 e19
    rw [st] at f1
    injection f1 with f1
    have hu : ((p + oa.length + ob.length : Nat) : Int) = u0 := congrArg Prod.fst f1
    have hs : cst σ5 (p + oa.length + ob.length) 6 0 = σ6 := congrArg Prod.snd f1
    have q19 : σ6 27 19 = ((p + oa.length + ob.length + 1 : Nat) : Int) := by rw [← hs]; rfl
    have q56 : τe 80 56 = ((q + oa.length + ob.length : Nat) : Int) := by rw [Fe.fld 56 rfl, e3.2.1.2.fld 56 rfl]; exact w3.2
    have fw' : NF N σ6 τe (v + 1) := fw.ag (f3.get 4 (by decide) rfl) (fun j _ => by rw [k47]) (Fe.get 84 (by decide) rfl) (fun j _ => Fe.fld j rfl)
    have q12 : τe 80 12 = 0 := by rw [Fe.fld 12 rfl, e3.2.1.2.fld 12 rfl]; exact w6
    have r3 : 0 ≤ σ3 27 20 ∧ σ3 27 20 ≤ 3 := by
      rw [c3.2.1.1.get 27 (by decide) rfl]
      exact (b3.2.1.2.2.1 (by rw [a3.2.1.1.get 27 (by decide) rfl]; exact h20)).1
    have q20 : 0 ≤ σ6 27 20 ∧ σ6 27 20 ≤ 3 := by
      have := (d3.2.1.2.2.1 r3).1
      have e20 : σ6 27 20 = σ4 27 20 := by
        rw [← hs]
        unfold cst
        rw [ue, upa, if_neg (by decide), un _ (show ¬ (27 : Nat) = 46 by decide), e3.2.1.1.get 27 (by decide) rfl]
      rw [e20]
      exact this
    refine ⟨u, v + 1, oa, ob, fw', Nat.lt_of_lt_of_le m2 (Nat.le_trans (Nat.le_trans (Nat.le_add_left _ _) w7) (Nat.le_succ _)), ⟨m3.1, m4, m5, m6⟩, ⟨fun j hj => d3.2.1.2.1 j (by rw [toN m3.2]; exact hj), fun j hj => d3.2.2.1.2.1 j (by rw [toN m4.2]; exact hj)⟩, ⟨w2.1, w3.1, w4, w5⟩, ⟨hu.symm, hs.symm, bn.1⟩, ⟨q19, q56⟩, bn.2, EH.of q19 q56 q12 fw' bn.2 q20⟩
  obtain ⟨σ7, τ7, g1, g2, g3, g4⟩ := e_any2 X (fun τ => vv X 256 24 [some (vP 80)] [] τ) sd1 hg ps6 (fun z => by
    obtain ⟨u, v, oa, ob, -, -, -, -, -, -, -, -, q⟩ := ed z
    exact q)
  generalize hτf : am_upd (am_upd τ7 111 bb (τ7 80 56)) 80 40 ((bb + 1 : Nat) : Int) = τf
  have Ff : Fr [111] [40] τ7 τf := by rw [← hτf]; exact (Fr.rf.upd rfl (by decide)).upf rfl
  have Zf : ZF sd τ7 τf := by
    rw [← hτf]
    exact (ZF.w hB rfl rfl (by decide)).tr ⟨Fr.rf.upf rfl, MG.rf.upf rfl⟩
  have f40_5 : ∀ j, [11, 13, 14, 15, 16].contains j = true → [40].contains j = false := fun j hj => by
    cases hc : [40].contains j with
    | false => rfl
    | true =>
      have : j = 40 := by simpa using hc
      rw [this] at hj
      cases hj
  have psf : PS N σ7 τf := g3.1.ag rfl rfl rfl (fun _ _ => rfl) (Ff.get 83 (by decide) rfl) (Ff.get 84 (by decide) rfl) (Ff.get 85 (by decide) rfl) (Ff.get 86 (by decide) rfl) (fun j hj => Ff.fld j (f40_5 j hj))
  obtain ⟨i0, σ8, τ8, i1, i2, i3, i4⟩ := l_take X psf kr_else (by decide) (by decide)
  have p8 : 0 ≤ σ8 27 19 := by
    rw [i3.2.1.1.get 27 (by decide) rfl]
    exact g3.2.1.2.2.2 f4
  obtain ⟨r2, σ9, j1, j2, j3, j4⟩ := c_stepF X (k := 7) (v := 0) p8
  obtain ⟨σ10, k1, k2⟩ := c_leadF X (σ := σ9) f2
  have k47' : σ10 47 = σ8 47 := by rw [k2.get 47 (by decide) rfl, j3.get 47 (by decide) rfl]
  -- branches stay where they were
  have y40 : ∀ {a b : am_Sg} {n : Nat}, YF sd n a b → b 80 40 = a 80 40 := fun h => h.1.fld 40 rfl
  have t3_40 : τ3 80 40 = (bb : Int) := by rw [c3.2.1.2.fld 40 rfl, y40 b3.2.2.1, Fa.fld 40 rfl]; exact g40
  have t5_40 : τ5 80 40 = (bb : Int) := by rw [e3.2.1.2.fld 40 rfl, y40 d3.2.2.1, Fc.fld 40 rfl]; exact t3_40
  have t7_40 : τ7 80 40 = (bb : Int) := by rw [y40 g3.2.2.1, Fe.fld 40 rfl]; exact t5_40
  have zall : ZF sd τ τ8 := (((((((((ZF.sm a3.2.1.2).tr Za).tr (ZF.yf b3.2.2.1)).tr (ZF.sm c3.2.1.2)).tr Zc).tr (ZF.yf d3.2.2.1)).tr (ZF.sm e3.2.1.2)).tr Ze).tr (ZF.yf g3.2.2.1)).tr (Zf.tr (ZF.sm i3.2.1.2))
  have L4 : ∀ {a b : am_Sg}, Fr [47] [] a b → Fr [27, 46, 47, 48] [] a b := fun h => h.mono rfl rfl
  have FA1 : Fr [27, 46, 47, 48] [] σ σ2 := (L4 a3.2.1.1).tr b3.2.1.1
  have FA2 : Fr [27, 46, 47, 48] [] σ σ4 := (FA1.tr (L4 c3.2.1.1)).tr d3.2.1.1
  have FA3 : Fr [27, 46, 47, 48] [] σ σ6 := (FA2.tr (L4 e3.2.1.1)).tr (f3.mono rfl rfl)
  have FA4 : Fr [27, 46, 47, 48] [] σ σ8 := (FA3.tr g3.2.1.1).tr (L4 i3.2.1.1)
  have FAll : Fr [27, 46, 47, 48] [] σ σ10 := (FA4.tr (j3.mono rfl rfl)).tr (k2.mono rfl rfl)
  refine ⟨σ10, τ8, ?_, ?_, i3.1.ag ?_ ?_ ?_ (fun j _ => by rw [k47']) rfl rfl rfl rfl (fun _ _ => rfl), FAll, zall, fun z => ?_, ?_, ?_, fun z => ?_⟩
  · refine vV_of ((bq_245_0 X _ σ).trans ?_) rfl
    have f1' : vcI X 247 [vP 27, vI 6, vI 0] σ5 = some (u0, σ6) := f1
    have j1' : vcI X 247 [vP 27, vI 7, vI 0] σ8 = some (r2, σ9) := j1
    rw [a1, bsome]
    dsimp +instances only
    rw [b1, bsome, c1, bsome]
    dsimp +instances only
    rw [d1, bsome, e1, bsome]
    dsimp +instances only
    rw [f1', bsome]
    dsimp +instances only
    rw [g1, bsome, i1, bsome]
    dsimp +instances only
    rw [j1', bsome]
    dsimp +instances only
    rw [k1, bsome]
  · have t256 : vcV X 256 [vP 80] τ5 = some τf := by
      refine vV_of ((bq_256_0 X τ5).trans ?_) rfl
      rw [t5_40, if_pos r100, tn_nat, hτe, show τ5 80 13 = τe 80 13 from (Fe.fld 13 rfl).symm]
      refine g2.trans ?_
      show vv X 256 24 [some (vP 80)] [] τ7 = _
      rw [bq_256_24, t7_40, if_pos r100, tn_nat, hwb, hτf]
    rw [bq_193_53, if_pos (le_of_eq0 f.2.1.2), a2, bsome, g40, if_pos ⟨r100.1, r100.2, rfl⟩, if_pos r100, tn_nat, g56, hτa, hwi, bq_193_91, b2, bsome, c2, bsome, t3_40, if_pos r100, tn_nat, hτc, show τ3 80 13 = τc 80 13 from (Fc.fld 13 rfl).symm]
    refine d2.trans ?_
    show vv X 193 125 _ [] τ4 = _
    rw [bq_193_125, e2, bsome, t256, bsome, i2, bsome]
  · rw [k2.get 4 (by decide) rfl, j3.get 4 (by decide) rfl]
  · rw [k2.get 5 (by decide) rfl, j3.get 5 (by decide) rfl]
  · rw [k2.get 6 (by decide) rfl, j3.get 6 (by decide) rfl]
  · have o8 : ok0 σ8 := by unfold ok0 at z ⊢; rw [k47'] at z; exact z
    have o6 : ok0 σ6 := g3.2.2.2.1 (i3.2.2.2.1 o8)
    have o5 : ok0 σ5 := by unfold ok0 at o6 ⊢; rw [k47] at o6; exact o6
    exact a3.2.2.2.1 (b3.2.2.2.1 (c3.2.2.2.1 (d3.2.2.2.1 (e3.2.2.2.1 o5))))
  · rw [k2.get 27 (by decide) rfl]
    exact j4
  · rw [i3.2.1.2.fld 40 rfl, ← hτf]
    rfl
  · rw [k47'] at z
    have z7 := i3.cx.z0 z
    have z6 := kz g4 z7
    obtain ⟨u, v, oa, ob, m1, m2, ⟨m3, m4, m5, m6⟩, ⟨m7, m8⟩, ⟨m9, m10, m11, m12⟩, ⟨m13, m14, m15⟩, ⟨m16, m17⟩, m18, -⟩ := ed z6
    obtain ⟨y, oc, w1, w2, w3, w4, w5, w6, w7⟩ := g3.out z7 m16 m17 m1
    have fy : NF N σ7 τf y := w1.ag rfl (fun _ _ => rfl) (Ff.get 84 (by decide) rfl) (fun j hj => Ff.fld j (f40_5 j hj))
    obtain ⟨yl, fw⟩ := take_lt (k := 267) (k' := 25) i4 z fy
    have bn := bnd_if3 m18 w7 yl
    have f27 : σ8 27 = σ7 27 := i3.2.1.1.get 27 (by decide) rfl
    have f46 : σ8 46 = σ7 46 := i3.2.1.1.get 46 (by decide) rfl
    have e19 : σ8 27 19 = ((p + oa.length + ob.length + 1 + oc.length : Nat) : Int) := by rw [f27]; exact w2.2
    have st := c_step X (σ := σ8) (k := 7) (v := 0) bn.1 e19
    rw [st] at j1
    injection j1 with j1
    have hs9 : cst σ8 (p + oa.length + ob.length + 1 + oc.length) 7 0 = σ9 := congrArg Prod.snd j1
    have n19 : σ9 27 19 = ((p + oa.length + ob.length + 1 + oc.length + 1 : Nat) : Int) := by rw [← hs9]; rfl
    have ld := c_lead X (σ := σ9) (u := p + oa.length + ob.length) m15 n19
    rw [m13, ld] at k1
    injection k1 with hs10
    have c46 : σ10 46 = up (up (σ7 46) (p + oa.length + ob.length + 1 + oc.length) (am_or (am_shl 0 3) ((7 : Nat) : Int))) (p + oa.length + ob.length) (am_or (am_shl ((p + oa.length + ob.length + 1 + oc.length + 1 : Nat) : Int) 3) 6) := by rw [← hs10, ue, ← hs9, cst46, f46]
    have d19 : σ10 27 19 = ((p + oa.length + ob.length + 1 + oc.length + 1 : Nat) : Int) := by rw [← hs10, un _ (show ¬ (27 : Nat) = 46 by decide)]; exact n19
    have d20 : σ10 27 20 = σ7 27 20 := by
      rw [← hs10, un _ (show ¬ (27 : Nat) = 46 by decide), ← hs9]
      unfold cst
      rw [ue, upa, if_neg (by decide), un _ (show ¬ (27 : Nat) = 46 by decide), f27]
    have e64 : σ6 27 20 = σ4 27 20 := by
      rw [m14]
      unfold cst
      rw [ue, upa, if_neg (by decide), un _ (show ¬ (27 : Nat) = 46 by decide), e3.2.1.1.get 27 (by decide) rfl]
    have e10 : σ1 27 = σ 27 := a3.2.1.1.get 27 (by decide) rfl
    have e32 : σ3 27 = σ2 27 := c3.2.1.1.get 27 (by decide) rfl
    have q2 := b3.2.1.2.2.1 (by rw [e10]; exact h20)
    have q4 := d3.2.1.2.2.1 (by rw [e32]; exact q2.1)
    have q7 := g3.2.1.2.2.1 (by rw [e64]; exact q4.1)
    have bt4 : ∀ k, k < 2 → bt1 (σ10 27 20) k = 0 → bt1 (σ4 27 20) k = 0 := fun k hk w => by
      rw [d20] at w
      rw [← e64]
      exact q7.2 k hk w
    have bt3 : ∀ k, k < 2 → bt1 (σ10 27 20) k = 0 → bt1 (σ3 27 20) k = 0 := fun k hk w => q4.2 k hk (bt4 k hk w)
    have bt0 : ∀ k, k < 2 → bt1 (σ10 27 20) k = 0 → bt1 (σ 27 20) k = 0 := fun k hk w => by
      have := bt3 k hk w
      rw [e32] at this
      rw [← e10]
      exact q2.2 k hk this
    obtain ⟨cd1, cd2⟩ := code_if (x6 := am_or (am_shl 0 3) ((6 : Nat) : Int)) m3 m7 m9 (fun j hj => by
      rw [g3.2.1.2.1 j (by rw [toN m16]; exact hj), m14, cst46, e3.2.1.1.get 46 (by decide) rfl]) w2.1 bn.1
    rw [← c46] at cd1 cd2
    have lo46 : ∀ j, j < p → σ10 46 j = σ 46 j := fun j hj => by
      rw [cd2 j hj, c3.2.1.1.get 46 (by decide) rfl, b3.2.1.2.1 j (by rw [toN g19]; exact hj), a3.2.1.1.get 46 (by decide) rfl]
    -- the reference
    have a56 : τa 80 56 = (q : Int) := (Fa.fld 56 rfl).trans g56
    have r8 : ∀ k, k = 122 ∨ k = 123 → τ8 k = τ7 k := fun k hk => by
      rcases hk with e | e <;> subst e
      · rw [i3.2.1.2.get 122 (by decide) rfl, Ff.get 122 (by decide) rfl]
      · rw [i3.2.1.2.get 123 (by decide) rfl, Ff.get 123 (by decide) rfl]
    have r4 : ∀ k, k = 122 ∨ k = 123 → τe k = τ4 k := fun k hk => by
      rcases hk with e | e <;> subst e
      · rw [Fe.get 122 (by decide) rfl, e3.2.1.2.get 122 (by decide) rfl]
      · rw [Fe.get 123 (by decide) rfl, e3.2.1.2.get 123 (by decide) rfl]
    have h84 : ∀ j, j < q + oa.length + ob.length → τ8 122 j = τ4 122 j ∧ τ8 123 j = τ4 123 j := fun j hj => by
      have w := g3.2.2.1.2.1 j (by rw [toN m17]; exact hj)
      rw [r8 122 (Or.inl rfl), r8 123 (Or.inr rfl), w.1, w.2, r4 122 (Or.inl rfl), r4 123 (Or.inr rfl)]
      exact ⟨rfl, rfl⟩
    have low : ∀ j, j < q → τ8 122 j = τ 122 j ∧ τ8 123 j = τ 123 j := fun j hj => by
      have w := h84 j (Nat.lt_of_lt_of_le hj (Nat.le_trans (Nat.le_add_right _ _) (Nat.le_add_right _ _)))
      have w' := m8 j (Nat.lt_of_lt_of_le hj (Nat.le_add_right _ _))
      have w2 := b3.2.2.1.2.1 j (by rw [toN a56]; exact hj)
      rw [w.1, w.2, w'.1, w'.2, Fc.get 122 (by decide) rfl, Fc.get 123 (by decide) rfl, c3.2.1.2.get 122 (by decide) rfl, c3.2.1.2.get 123 (by decide) rfl, w2.1, w2.2, Fa.get 122 (by decide) rfl, Fa.get 123 (by decide) rfl, fm1.get 122 (by decide) rfl, fm1.get 123 (by decide) rfl]
      exact ⟨rfl, rfl⟩
    have br : ∀ k j, 107 ≤ k → k ≤ 111 → j < bb → τ8 k j = τ k j := fun k j k1' k2' hj => by
      obtain ⟨n3, n8⟩ := c5 k1' k2'
      rw [i3.2.1.2.get k n8 rfl, ← hτf, un _ n8, w_lt hj, g3.2.2.1.1.get k n8 n3, ← hτe, w_lt hj, e3.2.1.2.get k n8 rfl, d3.2.2.1.1.get k n8 n3, ← hτc, w_lt hj, c3.2.1.2.get k n8 rfl, b3.2.2.1.1.get k n8 n3, ← hτa, w_lt hj, w_lt hj, fm1.get k n8 rfl]
    have k56 : τ8 80 56 = ((q + oa.length + ob.length + oc.length : Nat) : Int) := by rw [i3.2.1.2.fld 56 rfl, Ff.fld 56 rfl]; exact w3.2
    have x107 : τ8 107 bb = 1 := by
      rw [i3.2.1.2.get 107 (by decide) rfl, Ff.get 107 (by decide) rfl, g3.2.2.1.1.get 107 (by decide) rfl, Fe.get 107 (by decide) rfl, e3.2.1.2.get 107 (by decide) rfl, d3.2.2.1.1.get 107 (by decide) rfl, Fc.get 107 (by decide) rfl, c3.2.1.2.get 107 (by decide) rfl, b3.2.2.1.1.get 107 (by decide) rfl, ← hτa, un _ (show ¬ (107 : Nat) = 108 by decide), ue, upe]
    have x108 : τ8 108 bb = (q : Int) := by
      rw [i3.2.1.2.get 108 (by decide) rfl, Ff.get 108 (by decide) rfl, g3.2.2.1.1.get 108 (by decide) rfl, Fe.get 108 (by decide) rfl, e3.2.1.2.get 108 (by decide) rfl, d3.2.2.1.1.get 108 (by decide) rfl, Fc.get 108 (by decide) rfl, c3.2.1.2.get 108 (by decide) rfl, b3.2.2.1.1.get 108 (by decide) rfl, ← hτa, ue, upe]
    have x109 : τ8 109 bb = ((q + oa.length : Nat) : Int) := by
      rw [i3.2.1.2.get 109 (by decide) rfl, Ff.get 109 (by decide) rfl, g3.2.2.1.1.get 109 (by decide) rfl, Fe.get 109 (by decide) rfl, e3.2.1.2.get 109 (by decide) rfl, d3.2.2.1.1.get 109 (by decide) rfl, ← m4.2, ← hτc, ue, upe]
      rfl
    have x110 : τ8 110 bb = ((q + oa.length + ob.length : Nat) : Int) := by
      rw [i3.2.1.2.get 110 (by decide) rfl, Ff.get 110 (by decide) rfl, g3.2.2.1.1.get 110 (by decide) rfl, ← m17, ← hτe, ue, upe]
      rfl
    have x111 : τ8 111 bb = ((q + oa.length + ob.length + oc.length : Nat) : Int) := by
      rw [i3.2.1.2.get 111 (by decide) rfl, ← hτf, un _ (show ¬ (111 : Nat) = 80 by decide), ue, upe]
      exact w3.2
    have ml1 : MLp τ8 sd (q + oa.length + ob.length + oc.length) bb [(oa, ob, oc)] (bb + 1) := mcode_if x107 x108 x109 x110 x111 hb.2.1 (Nat.le_refl _) m4.1 m8 m10 h84 (by rw [r8 122 (Or.inl rfl), r8 123 (Or.inr rfl)]; exact w3.1)
    have ml0 : MLp τ8 sd (q + oa.length + ob.length + oc.length) B0 brs bb := hm.ag kq (fun k i k1' k2' _ hi' => br k i k1' k2' hi') (fun i _ hi' => low i hi')
    have fw' : NF N σ10 τ8 (y + 1) := fw.ag (by rw [k2.get 4 (by decide) rfl, j3.get 4 (by decide) rfl]) (fun j _ => by rw [k47']) rfl (fun _ _ => rfl)
    have ty : t < y + 1 := step_lt m2 w7
    refine ⟨oa, ob, oc, ⟨y + 1, p + oa.length + ob.length + 1 + oc.length + 1, q + oa.length + ob.length + oc.length, fw', ⟨d19, k56, ?_⟩, bn.2, ?_, ?_, (hc.ag (fun i _ hi' => lo46 i hi')).snoc cd1, ?_, hw.snoc m5 m11 w4, fun w => nvp.snoc (hnv (bt0 g hg w)) (m6 (bt3 g hg w)) (m12 (bt4 g hg w)) (w5 (by rw [← d20]; exact w)), ⟨Nat.le_trans hPq.1 (CLp.le cd1), Nat.le_trans hPq.2 kq⟩⟩, ⟨FAll, fun j hj => lo46 j (Nat.lt_of_lt_of_le hj hPq.1), fun _ => ⟨by rw [d20]; exact q7.1, bt0⟩, fun _ => by rw [d19]; exact Int.natCast_nonneg _⟩, ⟨fun j hj => low j (Nat.lt_of_lt_of_le hj hPq.2), fun k j k1' k2' hj => br k j k1' k2' (Nat.lt_of_lt_of_le hj (by rw [← hbb]; exact Nat.le_add_right _ _))⟩, ?_⟩
    · rw [i3.2.1.2.fld 12 rfl, Ff.fld 12 rfl]; exact w6
    · rw [d20]; exact q7.1
    · rw [len1 hbb, i3.2.1.2.fld 40 rfl, ← hτf]; rfl
    · rw [len1 hbb]; exact ml0.snoc ml1
    · rw [f.2.2.1.1, fw'.2.2.1.1]; exact Int.ofNat_lt.mpr ty
end PS1
