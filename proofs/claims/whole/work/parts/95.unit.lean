/-! READ: expressions, a unit -/
section PN
variable {X N : Nat} {σ τ σ' τ' : am_Sg} {t sd g p0 q0 t0 : Nat}
theorem ER.ag2 {W : List Int} {n s c d : Nat} {out : Ops} (h : ER g sd p0 q0 σ τ W n s c out d) (e46 : σ' 46 = σ 46) (e19 : σ' 27 19 = σ 27 19) (e20 : σ' 27 20 = σ 27 20) (e48 : σ' 48 = σ 48) (e3 : σ' 47 3 = σ 47 3) (e122 : τ' 122 = τ 122) (e123 : τ' 123 = τ 123) (e124 : τ' 124 = τ 124) (e56 : τ' 80 56 = τ 80 56) (e60 : τ' 80 60 = τ 80 60) : ER g sd p0 q0 σ' τ' W n s c out d := by
  unfold ER
  rw [e46, e19, e20, e48, e3, e122, e123, e124, e56, e60]
  exact h
theorem or3_f : ∀ x : Fin 4, ∀ g : Fin 2, (0 ≤ am_or (x.val : Int) (am_shl 1 (g.val : Int)) ∧ am_or (x.val : Int) (am_shl 1 (g.val : Int)) ≤ 3) ∧ ¬ bt1 (am_or (x.val : Int) (am_shl 1 (g.val : Int))) g.val = 0 ∧ ∀ k : Fin 2, bt1 (am_or (x.val : Int) (am_shl 1 (g.val : Int))) k.val = 0 → bt1 (x.val : Int) k.val = 0 := by decide +kernel
theorem or3 {x : Int} (h : 0 ≤ x ∧ x ≤ 3) (hg : g < 2) : (0 ≤ am_or x (am_shl 1 (g : Int)) ∧ am_or x (am_shl 1 (g : Int)) ≤ 3) ∧ ¬ bt1 (am_or x (am_shl 1 (g : Int))) g = 0 ∧ ∀ k, k < 2 → bt1 (am_or x (am_shl 1 (g : Int))) k = 0 → bt1 x k = 0 := by
  obtain ⟨n, rfl⟩ : ∃ n : Nat, x = n := ⟨x.toNat, by omega⟩
  obtain ⟨a, b, c⟩ := or3_f ⟨n, by omega⟩ ⟨g, hg⟩
  exact ⟨a, b, fun k hk => c ⟨k, hk⟩⟩
theorem mst_fr {q k : Nat} {v : Int} : Fr [122, 123] [56] τ (mst τ q k v) := ((Fr.rf.upd rfl (by decide)).upd rfl (by decide)).upf rfl
theorem f56_5 {j : Nat} (h : [11, 13, 14, 15, 16].contains j = true) : [56].contains j = false := by
  cases hc : [56].contains j with
  | false => rfl
  | true =>
    have : j = 56 := by simpa using hc
    rw [this] at h
    cases h
theorem cst_fr {p k : Nat} {v : Int} : Fr [27, 46] [] σ (cst σ p k v) := (Fr.rf.upd rfl (by decide)).upd rfl (by decide)
theorem cst46 {p k : Nat} {v : Int} : cst σ p k v 46 = up (σ 46) p (am_or (am_shl v 3) (k : Int)) := by
  unfold cst
  rw [un _ (show ¬ (46 : Nat) = 27 by decide), ue]
/-- what a unit leaves -/
def UP (N g sd p0 q0 : Nat) (W : List Int) (n s c : Nat) (out : Ops) (t : Nat) (σ τ σ1 τ1 : am_Sg) : Prop := PS N σ1 τ1 ∧ XF p0 σ σ1 ∧ YF sd q0 τ τ1 ∧ (ok0 σ1 → ok0 σ) ∧ (σ1 47 6 = 0 → ∃ k v, NF N σ1 τ1 (t + 1) ∧ ER g sd p0 q0 σ1 τ1 W n s c (out ++ [(k, v)]) (c + 1) ∧ τ1 80 12 = (n : Int) ∧ (0 ≤ σ1 27 20 ∧ σ1 27 20 ≤ 3))
theorem UP.bad {W : List Int} {n s c : Nat} {out : Ops} {σ1 τ1 : am_Sg} (h : PS N σ1 τ1) (z : ¬ σ1 47 6 = 0) (x : XF p0 σ σ1) (y : YF sd q0 τ τ1) : UP N g sd p0 q0 W n s c out t σ τ σ1 τ1 := ⟨h, x, y, fun q => absurd q.1 z, fun q => absurd q z⟩
theorem lt840 {q l c : Nat} (h : q + l + c ≤ 420 * sd + 400) (h1 : sd ≤ 1) : q + l < 840 := by omega
theorem lt420 {q l c : Nat} (h : q + l + c ≤ 420 * sd + 400) : q + l < 420 * sd + 420 := by omega
theorem bd1 {p l c : Nat} (hp : p ≤ t0) (hc : l + c + t0 ≤ t) (ht : t < 400) : p + l + 1 + c ≤ 400 := by omega
theorem bd2 {q l c : Nat} (hp : q ≤ 420 * sd + t0) (hc : l + c + t0 ≤ t) (ht : t < 400) : q + l + 1 + c ≤ 420 * sd + 400 := by omega
theorem bd3 {p l c : Nat} (hp : p ≤ t0) (hc : l + c + t0 ≤ t) (ht : t < 400) : p + l < 400 := by omega
theorem dep23 {c n s : Nat} (h : c ≤ 2 * n + s) (hs : s ≤ 2) (hn : n ≤ 6) : c < 23 := by omega
/-- both write a step; the class has taken the token -/
theorem u_step (X : Nat) {W : List Int} {n s c k : Nat} {out : Ops} {v : Int} {σg σ1 τ1 : am_Sg} (L : LI N g sd p0 q0 t0 σ τ W n s c out 1 t) (tl : t < 400) (henc : am_and (am_or (am_shl v 3) (k : Int)) 7 = (k : Int) ∧ am_shr (am_or (am_shl v 3) (k : Int)) 3 = v) (hw : wfo [(k, v)] c (c + 1)) (hσ : σ1 = tk σ t) (hτ : τ1 = gm (mst τ (q0 + out.length) k v) t) (nx : Nx N σ (mst τ (q0 + out.length) k v) σ1 τ1) (z1 : σ1 47 6 = 0) (hg : (σg = cst σ1 (p0 + out.length) k v ∧ ¬ (k = 1 ∧ v = 4)) ∨ (g < 2 ∧ σg = am_upd (cst σ1 (p0 + out.length) k v) 27 20 (am_or (σ 27 20) (am_shl 1 (g : Int))))) : UP N g sd p0 q0 W n s c out t σ τ σg τ1 := by
  obtain ⟨⟨f, te⟩, er, h12, hcn, hp, h20⟩ := L
  rw [if_pos rfl] at er
  have bb := er.2.2.2.2.2.2.1
  have f46 : σ1 46 = σ 46 := nx.2.1.1.get 46 (by decide) rfl
  have f27 : σ1 27 = σ 27 := nx.2.1.1.get 27 (by decide) rfl
  have f48 : σ1 48 = σ 48 := nx.2.1.1.get 48 (by decide) rfl
  have g3 : σ1 47 3 = σ 47 3 := nx.2.2.2.2.1
  have psn : PS N σ1 τ1 := nx.1
  obtain ⟨u, fu⟩ := psn.nf z1
  have e1 : σ1 47 4 = ((t + 1 : Nat) : Int) := by rw [hσ]; rfl
  have eu : u = t + 1 := Int.ofNat.inj (fu.2.2.1.1.symm.trans e1)
  subst eu
  have g122 : τ1 122 = mst τ (q0 + out.length) k v 122 := nx.2.1.2.get 122 (by decide) rfl
  have g123 : τ1 123 = mst τ (q0 + out.length) k v 123 := nx.2.1.2.get 123 (by decide) rfl
  have g124 : τ1 124 = mst τ (q0 + out.length) k v 124 := nx.2.1.2.get 124 (by decide) rfl
  have y1 : YF sd q0 τ (mst τ (q0 + out.length) k v) := by
    refine ⟨mst_fr.mono rfl rfl, fun j hj => ?_, ?_⟩
    · unfold mst
      rw [un _ (show ¬ (122 : Nat) = 80 by decide), un _ (show ¬ (122 : Nat) = 123 by decide), ue, un _ (show ¬ (123 : Nat) = 80 by decide), ue, un _ (show ¬ (123 : Nat) = 122 by decide), upa, upa, if_neg (fun q => by rw [q] at hj; exact absurd hj (Nat.not_lt.mpr (Nat.le_add_right _ _))), if_neg (fun q => by rw [q] at hj; exact absurd hj (Nat.not_lt.mpr (Nat.le_add_right _ _)))]
      exact ⟨rfl, rfl⟩
    · have r : ∀ k, wd k = 420 → wd k * sd ≤ q0 + out.length ∧ q0 + out.length < wd k * sd + wd k := fun k hk => wrd hk ⟨Nat.le_trans bb.2.1 (Nat.le_add_right _ _), lt420 bb.2.2⟩
      exact ((MG.rf.upd rfl (Or.inr (Or.inr (r 122 (by decide))))).upd rfl (Or.inr (Or.inr (r 123 (by decide))))).upf rfl
  have yf : YF sd q0 τ τ1 := y1.tr (YF.sm nx.2.1.2)
  have t12 : τ1 80 12 = (n : Int) := (nx.2.1.2.fld 12 rfl).trans h12
  have xc : XF p0 σ (cst σ1 (p0 + out.length) k v) := by
    refine (XF.sm nx.2.1.1).tr (XF.of (cst_fr.mono rfl rfl) (fun j hj => ?_) ?_ (fun _ => Int.natCast_nonneg (p0 + out.length + 1)))
    · rw [cst46, upa, if_neg (fun q => by rw [q] at hj; exact absurd hj (Nat.not_lt.mpr (Nat.le_add_right _ _)))]
    · unfold cst
      rw [ue, upa, if_neg (by decide), un _ (show ¬ (27 : Nat) = 46 by decide)]
  rcases hg with ⟨hg, hv⟩ | ⟨g2, hg⟩
  · obtain ⟨er1, -, -⟩ := er.add henc hw ⟨bd1 hp.1 hcn tl, bd2 hp.2 hcn tl⟩ (fun _ => hv)
    have ps2 : PS N σg τ1 := by
      rw [hg]
      exact psn.ag (cst_fr.get 4 (by decide) rfl) (cst_fr.get 5 (by decide) rfl) (cst_fr.get 6 (by decide) rfl) (fun j _ => by rw [cst_fr.get 47 (by decide) rfl]) rfl rfl rfl rfl (fun _ _ => rfl)
    have c47 : σg 47 = σ1 47 := by rw [hg]; exact cst_fr.get 47 (by decide) rfl
    refine ⟨ps2, by rw [hg]; exact xc, yf, fun q => nx.2.2.2.1 (by unfold ok0 at q ⊢; rw [c47] at q; exact q), fun _ => ⟨k, v, ?_, ?_, t12, ?_⟩⟩
    · exact fu.ag (by rw [hg]; exact cst_fr.get 4 (by decide) rfl) (fun j _ => by rw [c47]) rfl (fun _ _ => rfl)
    · refine er1.ag2 ?_ ?_ ?_ ?_ ?_ g122 g123 g124 (nx.2.1.2.fld 56 rfl) (nx.2.1.2.fld 60 rfl)
      · rw [hg, cst46, cst46, f46]
      · rw [hg]; rfl
      · rw [hg]
        unfold cst
        rw [ue, upa, if_neg (by decide), un _ (show ¬ (27 : Nat) = 46 by decide), f27, ue, upa, if_neg (by decide), un _ (show ¬ (27 : Nat) = 46 by decide)]
      · rw [hg, cst_fr.get 48 (by decide) rfl, cst_fr.get 48 (by decide) rfl, f48]
      · rw [c47, cst_fr.get 47 (by decide) rfl]; exact g3
    · rw [hg]
      unfold cst
      rw [ue, upa, if_neg (by decide), un _ (show ¬ (27 : Nat) = 46 by decide), f27]
      exact h20
  · obtain ⟨o1, o2, o3⟩ := or3 h20 g2
    -- the bit set first
    have er0 : ER g sd p0 q0 (am_upd σ 27 20 (am_or (σ 27 20) (am_shl 1 (g : Int)))) τ W n s c out c := by
      obtain ⟨a1, a2, a3, a4, a5, a6, a7, a8⟩ := er
      refine ⟨⟨?_, ?_⟩, a2, a3, ⟨?_, ?_⟩, a5, a6, a7, fun z => absurd z ?_⟩
      · rw [un _ (show ¬ (46 : Nat) = 27 by decide)]; exact a1.1
      · rw [ue, upa, if_neg (by decide)]; exact a1.2
      · rw [un _ (show ¬ (48 : Nat) = 27 by decide)]; exact a4.1
      · rw [un _ (show ¬ (47 : Nat) = 27 by decide)]; exact a4.2
      · rw [ue, upe]; exact o2
    obtain ⟨er1, -, -⟩ := er0.add henc hw ⟨bd1 hp.1 hcn tl, bd2 hp.2 hcn tl⟩ (fun z => absurd z (by rw [ue, upe]; exact o2))
    have fg : Fr [27, 46] [] σ1 σg := by rw [hg]; exact cst_fr.upd rfl (by decide)
    have c47 : σg 47 = σ1 47 := fg.get 47 (by decide) rfl
    have g20 : σg 27 20 = am_or (σ 27 20) (am_shl 1 (g : Int)) := by rw [hg, ue, upe]
    have g19 : σg 27 19 = ((p0 + out.length + 1 : Nat) : Int) := by
      rw [hg, ue, upa, if_neg (by decide)]
      rfl
    have g46 : σg 46 = cst σ1 (p0 + out.length) k v 46 := by rw [hg, un _ (show ¬ (46 : Nat) = 27 by decide)]
    have ps2 : PS N σg τ1 := psn.ag (fg.get 4 (by decide) rfl) (fg.get 5 (by decide) rfl) (fg.get 6 (by decide) rfl) (fun j _ => by rw [c47]) rfl rfl rfl rfl (fun _ _ => rfl)
    refine ⟨ps2, ⟨(nx.2.1.1.mono rfl rfl).tr (fg.mono rfl rfl), fun j hj => ?_, fun _ => ⟨by rw [g20]; exact o1, fun k hk z => o3 k hk (by rw [← g20]; exact z)⟩, fun _ => by rw [g19]; exact Int.natCast_nonneg _⟩, yf, fun q => nx.2.2.2.1 (by unfold ok0 at q ⊢; rw [c47] at q; exact q), fun _ => ⟨k, v, ?_, ?_, t12, by rw [g20]; exact o1⟩⟩
    · rw [g46]
      exact xc.2.1 j hj
    · exact fu.ag (fg.get 4 (by decide) rfl) (fun j _ => by rw [c47]) rfl (fun _ _ => rfl)
    · refine er1.ag2 ?_ ?_ ?_ ?_ ?_ g122 g123 g124 (nx.2.1.2.fld 56 rfl) (nx.2.1.2.fld 60 rfl)
      · rw [g46, cst46, cst46, f46, un _ (show ¬ (46 : Nat) = 27 by decide)]
      · rw [g19]; rfl
      · rw [g20]
        unfold cst
        rw [ue, upa, if_neg (by decide), un _ (show ¬ (27 : Nat) = 46 by decide), ue, upe]
      · rw [fg.get 48 (by decide) rfl, cst_fr.get 48 (by decide) rfl, f48, un _ (show ¬ (48 : Nat) = 27 by decide)]
      · rw [c47, cst_fr.get 47 (by decide) rfl, un _ (show ¬ (47 : Nat) = 27 by decide)]; exact g3
end PN
