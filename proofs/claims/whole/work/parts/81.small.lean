/-! READ: numbers and names -/
section PB
variable {X N : Nat} {σ τ : am_Sg} {t : Nat}
theorem lcmp_eq {x y : Int} : am_lcmp x y = 0 ↔ x = y := by
  unfold am_lcmp
  by_cases h : x < y
  · rw [if_pos h]
    exact ⟨fun q => by omega, fun q => by omega⟩
  · rw [if_neg h]
    by_cases e : x = y
    · rw [if_pos e]
      exact ⟨fun _ => e, fun _ => rfl⟩
    · rw [if_neg e]
      exact ⟨fun q => by omega, fun q => absurd q e⟩
theorem lcmp_lt {x y : Int} : am_lcmp x y < 0 ↔ x < y := by
  unfold am_lcmp
  by_cases h : x < y
  · rw [if_pos h]
    exact ⟨fun _ => h, fun _ => by omega⟩
  · rw [if_neg h]
    by_cases e : x = y
    · rw [if_pos e]
      exact ⟨fun q => by omega, fun q => by omega⟩
    · rw [if_neg e]
      exact ⟨fun q => by omega, fun q => by omega⟩
theorem lcmp_le {x y : Int} : am_lcmp x y ≤ 0 ↔ x ≤ y := by
  unfold am_lcmp
  by_cases h : x < y
  · rw [if_pos h]
    exact ⟨fun _ => by omega, fun _ => by omega⟩
  · rw [if_neg h]
    by_cases e : x = y
    · rw [if_pos e]
      exact ⟨fun q => by omega, fun q => by omega⟩
    · rw [if_neg e]
      exact ⟨fun q => by omega, fun q => by omega⟩
/-! kinds -/
def krl : List (Int × Int) := [(0, 0), (1, 3), (2, 1), (3, 2)] ++ am_sb.map (fun c => (c, sgM c)) ++ (List.range 19).map (fun w => (((256 + w : Nat) : Int), ((20 + wpi.getD w 0 : Nat) : Int)))
theorem kr_mem {a b : Int} (h : KR a b) : (a, b) ∈ krl := by
  unfold krl
  rcases h with ⟨h1, h2⟩ | ⟨h1, h2⟩ | ⟨h1, h2⟩ | ⟨h1, h2⟩ | ⟨h1, h2⟩ | ⟨w, h1, h2, h3⟩
  · rw [h1, h2]; simp
  · rw [h1, h2]; simp
  · rw [h1, h2]; simp
  · rw [h1, h2]; simp
  · refine List.mem_append_left _ (List.mem_append_right _ (List.mem_map.mpr ⟨a, h1, ?_⟩))
    rw [h2]
  · refine List.mem_append_right _ (List.mem_map.mpr ⟨w, List.mem_range.mpr h1, ?_⟩)
    rw [h2, h3]
theorem kr_of {k k' : Int} (h : krl.all (fun p => decide (p.1 = k) == decide (p.2 = k')) = true) : ∀ a b, KR a b → (a = k ↔ b = k') := by
  intro a b hab
  have := List.all_eq_true.mp h _ (kr_mem hab)
  dsimp only at this
  rw [beq_iff_eq] at this
  exact decide_eq_decide.mp this
theorem kr_name : ∀ a b, KR a b → (a = 2 ↔ b = 1) := kr_of (by decide +kernel)
theorem kr_int : ∀ a b, KR a b → (a = 3 ↔ b = 2) := kr_of (by decide +kernel)
theorem kr_end : ∀ a b, KR a b → (a = 0 ↔ b = 0) := kr_of (by decide +kernel)
/-! numbers -/
theorem PS.t400 (hT : TE σ τ N) (f : NF N σ τ t) : t ≤ 400 := by
  have := hT.1
  have := f.1
  omega
theorem m_wrong (X : Nat) {k : Int} (hT : TE σ τ N) (f : NF N σ τ t) : ∃ τ1, vcV X 257 [vP 80, vI k, vI (t : Int)] τ = some τ1 ∧ ((τ1 = τ ∧ ¬ τ 80 15 = 0) ∨ (τ1 = nm τ t k ∧ τ 80 15 = 0)) := by
  have t4 := PS.t400 hT f
  by_cases z : τ 80 15 = 0
  · exact ⟨nm τ t k, mw_0 f.2.1.2 z (by omega), Or.inr ⟨rfl, z⟩⟩
  · obtain ⟨-, j, j1, j2⟩ := f.2.2.2.2.2.2 z
    have m := hT.2.2.2.1 j t j1 f.1
    rw [(hT.2.1 j (by have := f.1; omega)).1, (hT.2.1 t f.1).1] at m
    exact ⟨τ, mw_lt f.2.1.2 z (by omega) (by rw [j2]; exact m), Or.inl ⟨rfl, z⟩⟩
theorem m_bnd (X : Nat) {a b : Int} (hT : TE σ τ N) (f : NF N σ τ t) (hk : τ 83 t = 2) : ∃ τ1, ((τ1 = τ ∧ (¬ τ 80 15 = 0 ∨ (a ≤ τ 85 t ∧ τ 85 t ≤ b))) ∨ (τ1 = nm τ t 5 ∧ τ 80 15 = 0 ∧ ¬ (a ≤ τ 85 t ∧ τ 85 t ≤ b))) ∧ ∀ τ2, vcV X 248 [vP 80] τ1 = some τ2 → vcI X 250 [vP 80, vI a, vI b] τ = some (τ 85 t, τ2) := by
  have t4 := PS.t400 hT f
  have h13 := f.2.1.2
  have h11 := f.2.2.1.2
  obtain ⟨τ1, w1, w2⟩ := m_wrong X (k := 5) hT f
  by_cases z : a ≤ τ 85 t ∧ τ 85 t ≤ b
  · refine ⟨τ, Or.inl ⟨rfl, Or.inr z⟩, fun τ2 e => vI_of ((bq_250_0 X _ _ _).trans ?_) rfl⟩
    rw [if_neg (by omega), mi_y h13 h11 t4 hk, bsome]
    dsimp +instances only
    rw [if_pos (by decide), h11, if_pos (by omega), tn_nat, if_neg (by omega), if_pos z.2, bq_250_51, e, bsome]
  · refine ⟨τ1, ?_, fun τ2 e => vI_of ((bq_250_0 X _ _ _).trans ?_) rfl⟩
    · rcases w2 with ⟨u1, u2⟩ | ⟨u1, u2⟩
      · exact Or.inl ⟨u1, Or.inl u2⟩
      · exact Or.inr ⟨u1, u2, z⟩
    · have nx : vv X 250 42 [some (vP 80), none, none, some (vI (τ 85 t))] [] τ = some (some (vI (τ 85 t)), τ2) := by
        rw [bq_250_42, h11, w1, bsome, bq_250_51, e, bsome]
      rw [if_neg (by omega), mi_y h13 h11 t4 hk, bsome]
      dsimp +instances only
      rw [if_pos (by decide), h11, if_pos (by omega), tn_nat]
      by_cases y : τ 85 t < a
      · rw [if_pos y]
        exact nx
      · rw [if_neg y, if_neg (by omega)]
        exact nx
theorem c_bnd (X : Nat) {a b : Int} (h6 : σ 47 6 = 0) (h5 : σ 47 5 = 3) (h4 : σ 47 4 = (t : Int)) (ht : t < 400) (hv : 0 ≤ σ 6 t ∧ σ 6 t ≤ 9999) : ∃ r σ', vcI X 232 [vP 47, vI a, vI b] σ = some (r, σ') ∧ ((r = σ 6 t ∧ a ≤ σ 6 t ∧ σ 6 t ≤ b ∧ σ' = tk σ t) ∨ (r = a ∧ ¬ (a ≤ σ 6 t ∧ σ 6 t ≤ b) ∧ ((¬ σ 47 8 = 0 ∧ σ' = tk σ t) ∨ (σ 47 8 = 0 ∧ σ' = nt (tk σ t) 5)))) := by
  have e11 : tk σ t 47 11 = σ 6 t := rfl
  have e8 : tk σ t 47 8 = σ 47 8 := rfl
  by_cases z : a ≤ σ 6 t ∧ σ 6 t ≤ b
  · refine ⟨σ 6 t, tk σ t, vI_of ((bq_232_0 X _ _ _).trans ?_) rfl, Or.inl ⟨rfl, z.1, z.2, rfl⟩⟩
    rw [ct_ok h6 h5 h4 ht, bsome]
    dsimp +instances only
    rw [if_pos (by decide), e11, if_neg (by rw [lcmp_lt]; omega), if_pos (by rw [lcmp_le]; omega), w32_id (by omega) (by omega)]
  · have key : ∃ σ', vcV X 241 [vP 47, vI 5] (tk σ t) = some σ' ∧ ((¬ σ 47 8 = 0 ∧ σ' = tk σ t) ∨ (σ 47 8 = 0 ∧ σ' = nt (tk σ t) 5)) := by
      by_cases y : σ 47 8 = 0
      · exact ⟨_, cn_0 (e8.trans y), Or.inr ⟨y, rfl⟩⟩
      · exact ⟨_, cn_1 (by rw [e8]; exact y), Or.inl ⟨y, rfl⟩⟩
    obtain ⟨σ', k1, k2⟩ := key
    refine ⟨a, σ', vI_of ((bq_232_0 X _ _ _).trans ?_) rfl, Or.inr ⟨rfl, z, k2⟩⟩
    have nx : vv X 232 30 [some (vP 47), some (vI a), none] [] (tk σ t) = some (some (vI a), σ') := by rw [bq_232_30, k1, bsome]
    rw [ct_ok h6 h5 h4 ht, bsome]
    dsimp +instances only
    rw [if_pos (by decide), e11]
    by_cases y : σ 6 t < a
    · rw [if_pos (lcmp_lt.mpr y)]
      exact nx
    · rw [if_neg (by rw [lcmp_lt]; exact y), if_neg (by rw [lcmp_le]; omega)]
      exact nx
theorem l_num (X : Nat) {a b a' b' : Int} (h : PS N σ τ) (hab : a ≤ b) (h0 : 0 ≤ a') (hb : ok0 σ → a = a' ∧ b = b') : ∃ r r' σ' τ', vcI X 232 [vP 47, vI a, vI b] σ = some (r, σ') ∧ vcI X 250 [vP 80, vI a', vI b'] τ = some (r', τ') ∧ Nx N σ τ σ' τ' ∧ (a ≤ r ∧ r ≤ b) ∧ 0 ≤ r' ∧ (ok0 σ' → r' = r) := by
  rcases h.cases with ⟨q, f⟩ | ⟨q, t, f⟩
  · refine ⟨a, a', σ, τ, vI_of ((bq_232_0 X _ _ _).trans ?_) rfl, vI_of ((bq_250_0 X _ _ _).trans ?_) rfl, Nx.rf h, ⟨Int.le_refl _, hab⟩, h0, fun z => absurd z.1 q⟩
    · rw [ct_f q, bsome]
      dsimp +instances only
      rw [if_neg (fun z => z rfl)]
    · rw [if_pos f.1, bq_250_15, mf_f f.1, bsome]
  · have t4 := PS.t400 h.1 f
    have tok := h.1.2.1 t f.1
    have kr := kr_int _ _ tok.2.1
    have h13 := f.2.1.2
    by_cases e : σ 4 t = 3
    · have hv := h.1.2.2.2.2 t f.1 e
      have ev := tok.2.2.1 e
      obtain ⟨τ1, m1, m2⟩ := m_bnd X (a := a') (b := b') h.1 f (kr.mp e)
      have f1 : Fr [] [11, 13, 14, 15, 16] τ τ1 := by
        rcases m1 with ⟨u, -⟩ | ⟨u, -⟩
        · rw [u]; exact Fr.rf
        · rw [u]; exact nm_fr
      have g13 : τ1 80 13 = 0 := by
        rcases m1 with ⟨u, -⟩ | ⟨u, -⟩
        · rw [u]; exact h13
        · rw [u]; exact h13
      have g11 : τ1 80 11 = (t : Int) := by
        rcases m1 with ⟨u, -⟩ | ⟨u, -⟩
        · rw [u]; exact f.2.2.1.2
        · rw [u]; exact f.2.2.1.2
      by_cases w : t = 400
      · subst w
        refine ⟨a, τ 85 400, fl σ 400 2, fm τ1 400 2, vI_of ((bq_232_0 X _ _ _).trans ?_) rfl, m2 _ (mg_room g13 g11), nx_fault h.1 f (by omega) (f1.tr fm_fr) rfl ?_, ⟨Int.le_refl _, hab⟩, by omega, fun z => ?_⟩
        · rw [ct_room q (f.2.2.2.1.trans e) f.2.2.1.1, bsome]
          dsimp +instances only
          rw [if_neg (fun z => z rfl)]
        · show τ1 84 400 = τ 84 400
          rw [f1.get 84 (by decide) rfl]
        · have : (2 : Int) = 0 := z.1
          omega
      · have tl : t < 400 := by omega
        obtain ⟨r, σ', c1, c2⟩ := c_bnd X (a := a) (b := b) q (f.2.2.2.1.trans e) f.2.2.1.1 tl hv
        have m3 := m2 _ (mg_ok g11 tl)
        obtain ⟨n1, n2⟩ := nx_tk h.1 f (by omega) (by omega) tl
        have sl := f.2.2.2.2.1
        by_cases y : σ 47 8 = 0
        · obtain ⟨b1, b2⟩ := hb ⟨q, y⟩
          subst b1 b2
          rcases c2 with ⟨u1, u2, u3, u4⟩ | ⟨u1, u2, u3⟩
          · rcases m1 with ⟨v1, -⟩ | ⟨-, -, v1⟩
            · subst v1 u4
              exact ⟨r, _, _, _, c1, m3, n1, by rw [u1]; exact ⟨u2, u3⟩, by omega, fun _ => by rw [u1, ev]⟩
            · exact absurd ⟨by omega, by omega⟩ v1
          · rcases m1 with ⟨-, v1 | v1⟩ | ⟨v1, v2, -⟩
            · exact absurd (sl.symm.trans y) v1
            · exact absurd ⟨by omega, by omega⟩ u2
            · rcases u3 with ⟨u3, -⟩ | ⟨-, u4⟩
              · exact absurd y u3
              · subst v1 u4
                have fc : Fr [47] [] σ (nt (tk σ t) 5) := tk_fr.tr nt_fr
                have fr' : Fr [] [11, 13, 14, 15, 16] τ (gm (nm τ t 5) t) := nm_fr.tr gm_fr
                have nf : NF N (nt (tk σ t) 5) (gm (nm τ t 5) t) (t + 1) := nf_tk f (f.lt h.1 (by omega) (by omega) tl) (fc.get 4 (by decide) rfl) (fr'.get 84 (by decide) rfl) ⟨q, h13⟩ ⟨rfl, rfl⟩ rfl rfl (Or.inr ⟨rfl, by show (0 : Int) ≤ 5 ∧ (5 : Int) ≤ 5; omega, by show σ 5 t = τ 84 t; exact tok.1, rfl⟩)
                refine ⟨r, _, _, _, c1, m3, ⟨⟨h.1.fr fc fr' rfl rfl, Or.inr ⟨_, nf⟩⟩, ⟨fc, fr'⟩, fun z => absurd q z, fun z => ?_, rfl, fun _ => ?_⟩, by rw [u1]; exact ⟨Int.le_refl _, hab⟩, by omega, fun z => ?_⟩
                · have : (5 : Int) = 0 := z.2
                  omega
                · rw [f.2.2.1.1, nf.2.2.1.1]
                  omega
                · have : (5 : Int) = 0 := z.2
                  omega
        · have es : σ' = tk σ t := by
            rcases c2 with ⟨-, -, -, u⟩ | ⟨-, -, ⟨-, u⟩ | ⟨u, -⟩⟩
            · exact u
            · exact u
            · exact absurd u y
          have et : τ1 = τ := by
            rcases m1 with ⟨v1, -⟩ | ⟨-, v1, -⟩
            · exact v1
            · exact absurd (sl.trans v1) y
          subst es et
          refine ⟨r, _, _, _, c1, m3, n1, ?_, by omega, fun z => absurd z.2 y⟩
          rcases c2 with ⟨u1, u2, u3, -⟩ | ⟨u1, -⟩
          · rw [u1]; exact ⟨u2, u3⟩
          · rw [u1]; exact ⟨Int.le_refl _, hab⟩
    · refine ⟨a, a', fl σ t 1, fm τ t 1, vI_of ((bq_232_0 X _ _ _).trans ?_) rfl, vI_of ((bq_250_0 X _ _ _).trans ?_) rfl, nx_fault h.1 f (by omega) fm_fr rfl rfl, ⟨Int.le_refl _, hab⟩, h0, fun z => ?_⟩
      · rw [ct_syn q (by rw [f.2.2.2.1]; exact e) f.2.2.1.1 t4, bsome]
        dsimp +instances only
        rw [if_neg (fun z => z rfl)]
      · rw [if_neg (by omega), mi_n h13 f.2.2.1.2 t4 (fun z => e (kr.mpr z)), bsome]
        dsimp +instances only
        rw [if_neg (fun z => z rfl), bq_250_15, mf_go h13 f.2.2.1.2 t4, bsome]
      · have : (1 : Int) = 0 := z.1
        omega
end PB
