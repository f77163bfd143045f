/-! READ: statement by statement -/
section PV
variable {X N : Nat} {σ τ σ' τ' : am_Sg} {t sd : Nat}
theorem kr_none {a b : Int} (h : KR a b) (n0 : ¬ a = 256) (n1 : ¬ a = 257) (n2 : ¬ a = 258) (n3 : ¬ a = 259) (n4 : ¬ a = 260) (n5 : ¬ a = 261) : ¬ b = 20 ∧ ¬ b = 21 ∧ ¬ b = 22 ∧ ¬ b = 26 ∧ ¬ b = 27 ∧ ¬ b = 28 := ⟨fun q => n0 ((kr_dish _ _ h).mpr q), fun q => n1 ((kr_man _ _ h).mpr q), fun q => n5 ((kr_law _ _ h).mpr q), fun q => n2 ((kr_belly _ _ h).mpr q), fun q => n3 ((kr_goes _ _ h).mpr q), fun q => n4 ((kr_owe _ _ h).mpr q)⟩
/-- no statement begins so -/
theorem s_none (X : Nat) (h : SI N sd σ τ) (h6 : σ 47 6 = 0) (n0 : ¬ σ 47 5 = 256) (n1 : ¬ σ 47 5 = 257) (n2 : ¬ σ 47 5 = 258) (n3 : ¬ σ 47 5 = 259) (n4 : ¬ σ 47 5 = 260) (n5 : ¬ σ 47 5 = 261) : ∃ σ' τ', vcV X 182 [vP 47, vI 1] σ = some σ' ∧ vcV X 92 [vP 80] τ = some τ' ∧ SI N sd σ' τ' ∧ Fr cR [] σ σ' ∧ MG sd τ τ' ∧ (σ' 47 6 = 0 → σ 47 4 < σ' 47 4) := by
  obtain ⟨hP, -⟩ := h
  obtain ⟨t, f⟩ := hP.nf h6
  have t4 := PS.t400 hP.1 f
  have tr : (0 : Int) ≤ (t : Int) ∧ (t : Int) < 403 := by omega
  have e5 := f.2.2.2.1
  rw [e5] at n0 n1 n2 n3 n4 n5
  obtain ⟨k0, k1, k2, k3, k4, k5⟩ := kr_none (hP.1.2.1 t f.1).2.1 n0 n1 n2 n3 n4 n5
  have z : ¬ fl σ t 1 47 6 = 0 := by show ¬ (1 : Int) = 0; decide
  have nx : Nx N σ τ (fl σ t 1) (fm τ t 1) := nx_fault hP.1 f (by decide) fm_fr rfl rfl
  have mf : vcV X 197 [vP 80, vI 1] τ = some (fm τ t 1) := mf_go f.2.1.2 f.2.2.1.2 t4
  refine ⟨fl σ t 1, fm τ t 1, cf_go h6 f.2.2.1.1 t4, vV_of ((bq_92_0 X τ).trans ?_) rfl, SI.bad nx.1 z, fl_fr.mono rfl rfl, MG.sm fm_fr, fun q => absurd q z⟩
  rw [f.2.2.1.2, if_pos tr, tn_nat, if_neg k0, if_neg k1, if_neg k2]
  by_cases a3 : τ 83 t = 23
  · rw [if_pos a3, mf, bsome, bq_92_238]
  · rw [if_neg a3]
    by_cases a4 : τ 83 t = 24
    · rw [if_pos a4, mf, bsome, bq_92_238]
    · rw [if_neg a4]
      by_cases a5 : τ 83 t = 25
      · rw [if_pos a5, mf, bsome, bq_92_238]
      · rw [if_neg a5, if_neg k3, if_neg k4, if_neg k5, mf, bsome, bq_92_238]
noncomputable def cM (X i : Nat) (σ : am_Sg) : Option (Option am_V × am_Sg) := vv X 86 49 [some (vP 47), some (vI (i : Int))] [] σ
theorem l_main (X : Nat) : ∀ (m i : Nat) (σ τ : am_Sg), i + m = 401 → SI N sd σ τ → (σ 47 6 = 0 → (i : Int) ≤ σ 47 4) → σ 1001 = am_s0 (fun _ => 0) 1001 → ∃ σ' τ', cM X i σ = vv X 86 165 [some (vP 47), none] [] σ' ∧ vv X 8 207 [some (vP 80), none] [] τ = vv X 8 229 [some (vP 80), none] [] τ' ∧ SI N sd σ' τ' ∧ Fr cR [] σ σ' ∧ MG sd τ τ' := by
  intro m
  induction m with
  | zero =>
    intro i σ τ e h hi hW
    have hf : ¬ σ 47 6 = 0 := fun z => by
      obtain ⟨t, f⟩ := h.1.nf z
      have := PS.t400 h.1.1 f
      have := hi z
      have := f.2.2.1.1
      omega
    have fs := h.1.fs hf
    refine ⟨σ, τ, ?_, ?_, h, Fr.rf, MG.rf⟩
    · unfold cM
      rw [bq_86_49, if_pos (by omega)]
    · rw [bq_8_207, if_pos (ne0_of fs.1)]
  | succ m ih =>
    intro i σ τ e h hi hW
    have i4 : ¬ (400 : Int) < (i : Int) := by omega
    have hwi : w32 ((i : Int) + 1) = ((i + 1 : Nat) : Int) := w32_s1 (by omega)
    have e1 : i + 1 + m = 401 := by omega
    rcases h.1.cases with ⟨hf, fs⟩ | ⟨h6, t, f⟩
    · refine ⟨σ, τ, ?_, ?_, h, Fr.rf, MG.rf⟩
      · unfold cM
        rw [bq_86_49, if_neg i4, if_pos hf]
      · rw [bq_8_207, if_pos (ne0_of fs.1)]
    · have t4 := PS.t400 h.1.1 f
      have kr := kr_end _ _ (h.1.1.2.1 t f.1).2.1
      have e5 := f.2.2.2.1
      by_cases k0 : σ 47 5 = 0
      · refine ⟨σ, τ, ?_, ?_, h, Fr.rf, MG.rf⟩
        · unfold cM
          rw [bq_86_49, if_neg i4, if_neg (fun q => q h6), if_pos k0]
        · rw [bq_8_207, if_neg (fun q => q f.2.1.2), mi_y f.2.1.2 f.2.2.1.2 t4 (kr.mp (e5.symm.trans k0)), bsome]
          dsimp +instances only
          rw [if_pos (by decide)]
      · have hm : ∀ τ1, vcV X 92 [vP 80] τ = some τ1 → vv X 8 207 [some (vP 80), none] [] τ = vv X 8 207 [some (vP 80), none] [] τ1 := fun τ1 e2 => by
          rw [bq_8_207, if_neg (fun q => q f.2.1.2), mi_n f.2.1.2 f.2.2.1.2 t4 (fun q => k0 (e5.trans (kr.mpr q))), bsome]
          dsimp +instances only
          rw [if_neg (fun q => q rfl), e2, bsome]
        have key : ∃ σ1 τ1, cM X i σ = cM X (i + 1) σ1 ∧ vcV X 92 [vP 80] τ = some τ1 ∧ SI N sd σ1 τ1 ∧ Fr cR [] σ σ1 ∧ MG sd τ τ1 ∧ (σ1 47 6 = 0 → σ 47 4 < σ1 47 4) := by
          have hd : ∀ σ1, vv X 86 159 [some (vP 47), some (vI (i : Int))] [] σ1 = cM X (i + 1) σ1 := fun σ1 => by
            unfold cM
            rw [bq_86_159, hwi]
          unfold cM
          rw [bq_86_49, if_neg i4, if_neg (fun q => q h6), if_neg k0]
          by_cases a0 : σ 47 5 = 256
          · obtain ⟨σ1, τ1, x1, x2, x3, x4, x5, x6⟩ := s_dish X h hW h6 a0
            refine ⟨σ1, τ1, ?_, x2, x3, x4, x5, x6⟩
            rw [if_pos a0, x1, bsome]
            exact hd σ1
          · rw [if_neg a0]
            by_cases a1 : σ 47 5 = 257
            · obtain ⟨σ1, τ1, x1, x2, x3, x4, x5, x6⟩ := s_man X h hW h6 a1
              refine ⟨σ1, τ1, ?_, x2, x3, x4, x5, x6⟩
              rw [if_pos a1, x1, bsome]
              exact hd σ1
            · rw [if_neg a1]
              by_cases a2 : σ 47 5 = 258
              · obtain ⟨σ1, τ1, x1, x2, x3, x4, x5, x6⟩ := s_belly X h hW h6 a2
                refine ⟨σ1, τ1, ?_, x2, x3, x4, x5, x6⟩
                rw [if_pos a2, x1, bsome]
                exact hd σ1
              · rw [if_neg a2]
                by_cases a3 : σ 47 5 = 259
                · obtain ⟨σ1, τ1, x1, x2, x3, x4, x5, x6⟩ := s_goes X h hW h6 a3
                  refine ⟨σ1, τ1, ?_, x2, x3, x4, x5, x6⟩
                  rw [if_pos a3, x1, bsome]
                  exact hd σ1
                · rw [if_neg a3]
                  by_cases a4 : σ 47 5 = 260
                  · obtain ⟨σ1, τ1, x1, x2, x3, x4, x5, x6⟩ := s_owe X h hW h6 a4
                    refine ⟨σ1, τ1, ?_, x2, x3, x4, x5, x6⟩
                    rw [if_pos a4, x1, bsome]
                    exact hd σ1
                  · rw [if_neg a4]
                    by_cases a5 : σ 47 5 = 261
                    · obtain ⟨σ1, τ1, x1, x2, x3, x4, x5, x6⟩ := s_law X h hW h6 a5
                      refine ⟨σ1, τ1, ?_, x2, x3, x4, x5, x6⟩
                      rw [if_pos a5, x1, bsome]
                      exact hd σ1
                    · obtain ⟨σ1, τ1, x1, x2, x3, x4, x5, x6⟩ := s_none X h h6 a0 a1 a2 a3 a4 a5
                      refine ⟨σ1, τ1, ?_, x2, x3, x4, x5, x6⟩
                      rw [if_neg a5, x1, bsome]
                      exact hd σ1
        obtain ⟨σ1, τ1, x1, x2, x3, x4, x5, x6⟩ := key
        obtain ⟨σ', τ', y1, y2, y3, y4, y5⟩ := ih (i + 1) σ1 τ1 e1 x3 (fun q => by
          have a := hi h6
          have b := x6 q
          omega) (by rw [x4.get 1001 (by decide) rfl]; exact hW)
        exact ⟨σ', τ', x1.trans y1, (hm τ1 x2).trans y2, y3, x4.tr y4, x5.tr y5⟩
end PV
