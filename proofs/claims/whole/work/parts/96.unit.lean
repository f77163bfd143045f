/-! READ: expressions, a unit, whole -/
section PO
variable {X N : Nat} {σ τ σ' τ' : am_Sg} {t sd g p0 q0 t0 : Nat}
theorem u_int (X : Nat) {W : List Int} {n s c : Nat} {out : Ops} (sd1 : sd ≤ 1) (L : LI N g sd p0 q0 t0 σ τ W n s c out 1 t) (e : σ 4 t = 3) : ∃ σ1 τ1, vcV X 279 [vP 47, vI (g : Int)] σ = some σ1 ∧ vcV X 282 [vP 80] τ = some τ1 ∧ UP N g sd p0 q0 W n s c out t σ τ σ1 τ1 := by
  obtain ⟨⟨f, te⟩, er, h12, hcn, hp, h20⟩ := id L
  rw [if_pos rfl] at er
  have t4 := PS.t400 te f
  have bb := er.2.2.2.2.2.2.1
  have bd := WK.bd er.2.2.2.2.2.1.1
  have d23 := dep23 bd.1 bd.2.1 er.2.2.2.2.2.1.2
  have tok := te.2.1 t f.1
  have hv := te.2.2.2.2 t f.1 e
  have ev : σ 6 t = τ 85 t := tok.2.2.1 e
  have e83 : τ 83 t = 2 := (kr_int _ _ tok.2.1).mp e
  have e5 : σ 47 5 = 3 := f.2.2.2.1.trans e
  have tr : (0 : Int) ≤ (t : Int) ∧ (t : Int) < 403 := by omega
  have wv : w32 (σ 6 t) = σ 6 t := w32_id (by omega) (by omega)
  have em : vcV X 288 [vP 80, vI 0, vI (σ 6 t)] τ = some (mst τ (q0 + out.length) 0 (σ 6 t)) := m_emit X (k := 0) (lt840 bb.2.2 sd1) er.2.1.2
  have fe : NF N σ (mst τ (q0 + out.length) 0 (σ 6 t)) t := f.ag rfl (fun _ _ => rfl) (mst_fr.get 84 (by decide) rfl) (fun j hj => mst_fr.fld j (f56_5 hj))
  have pse : PS N σ (mst τ (q0 + out.length) 0 (σ 6 t)) := ⟨te.fr (Fr.rf (cs := []) (js := [])) mst_fr rfl rfl, Or.inr ⟨t, fe⟩⟩
  obtain ⟨b, σ1, τ1, a1, a2, a3, a4, a5⟩ := l_go X pse fe e (by decide) (by decide)
  have hm : vcV X 282 [vP 80] τ = some τ1 := by
    refine vV_of ((bq_282_0 X τ).trans ?_) rfl
    rw [mi_y f.2.1.2 f.2.2.1.2 t4 e83, bsome]
    dsimp +instances only
    rw [if_neg (by decide), f.2.2.1.2, if_pos tr, tn_nat, ← ev, em, bsome, a2, bsome, bq_282_93]
  rcases a5 with ⟨b0, z⟩ | ⟨b1, z⟩
  · refine ⟨σ1, τ1, vV_of ((bq_279_0 X _ σ).trans ?_) rfl, hm, UP.bad a3.1 z (XF.sm a3.2.1.1) ?_⟩
    · rw [if_neg (fun q => q e5), a1, bsome]
      dsimp +instances only
      rw [if_pos b0, bq_279_35, e5, if_pos (by decide), bq_279_87, cf_f z, bsome, bq_279_92]
    · refine YF.tr (?_ : YF sd q0 τ (mst τ (q0 + out.length) 0 (σ 6 t))) (YF.sm a3.2.1.2)
      refine ⟨mst_fr.mono rfl rfl, fun j hj => ?_, ?_⟩
      · unfold mst
        rw [un _ (show ¬ (122 : Nat) = 80 by decide), un _ (show ¬ (122 : Nat) = 123 by decide), ue, un _ (show ¬ (123 : Nat) = 80 by decide), ue, un _ (show ¬ (123 : Nat) = 122 by decide), upa, upa, if_neg (fun q => by rw [q] at hj; exact absurd hj (Nat.not_lt.mpr (Nat.le_add_right _ _))), if_neg (fun q => by rw [q] at hj; exact absurd hj (Nat.not_lt.mpr (Nat.le_add_right _ _)))]
        exact ⟨rfl, rfl⟩
      · have r : ∀ k, wd k = 420 → wd k * sd ≤ q0 + out.length ∧ q0 + out.length < wd k * sd + wd k := fun k hk => wrd hk ⟨Nat.le_trans bb.2.1 (Nat.le_add_right _ _), lt420 bb.2.2⟩
        exact ((MG.rf.upd rfl (Or.inr (Or.inr (r 122 (by decide))))).upd rfl (Or.inr (Or.inr (r 123 (by decide))))).upf rfl
  · obtain ⟨c1, tl, c2, c3⟩ := a4 z
    have c19 : σ1 27 19 = ((p0 + out.length : Nat) : Int) := by rw [a3.2.1.1.get 27 (by decide) rfl]; exact er.1.2
    have e11 : σ1 47 11 = σ 6 t := by rw [c2]; rfl
    refine ⟨cst σ1 (p0 + out.length) 0 (σ 6 t), τ1, vV_of ((bq_279_0 X _ σ).trans ?_) rfl, hm, u_step X L tl (enc_int hv.1 hv.2) ⟨⟨d23, hv.1, hv.2⟩, rfl⟩ c2 c3 a3 z (Or.inl ⟨rfl, fun q => absurd q.1 (by decide)⟩)⟩
    rw [if_neg (fun q => q e5), a1, bsome]
    dsimp +instances only
    rw [if_neg (by rw [b1]; decide), e11, wv, show (0 : Int) = ((0 : Nat) : Int) from rfl, c_step X (bd3 hp.1 hcn tl) c19, bsome, bq_279_92]
theorem u_var (X : Nat) {W : List Int} {n s c : Nat} {out : Ops} (sd1 : sd ≤ 1) (hg : g < 2) (L : LI N g sd p0 q0 t0 σ τ W n s c out 1 t) (e : 268 ≤ σ 4 t ∧ σ 4 t ≤ 274) : ∃ σ1 τ1, vcV X 279 [vP 47, vI (g : Int)] σ = some σ1 ∧ vcV X 282 [vP 80] τ = some τ1 ∧ UP N g sd p0 q0 W n s c out t σ τ σ1 τ1 := by
  obtain ⟨⟨f, te⟩, er, h12, hcn, hp, h20⟩ := id L
  rw [if_pos rfl] at er
  have t4 := PS.t400 te f
  have bb := er.2.2.2.2.2.2.1
  have bd := WK.bd er.2.2.2.2.2.1.1
  have d23 := dep23 bd.1 bd.2.1 er.2.2.2.2.2.1.2
  have tok := te.2.1 t f.1
  obtain ⟨kv1, kv2⟩ := kr_var tok.2.1
  have r83 := kv1.mp e
  have ed := kv2 e
  have e5 : σ 47 5 = σ 4 t := f.2.2.2.1
  have tr : (0 : Int) ≤ (t : Int) ∧ (t : Int) < 403 := by omega
  have n3 : ¬ σ 4 t = 3 := by omega
  have n2 : ¬ τ 83 t = 2 := by omega
  have k0 : ¬ σ 4 t = 0 := by omega
  have k1 : ¬ σ 4 t = 1 := by omega
  have m1 : ¬ τ 83 t < 32 := by omega
  have m2 : ¬ (38 : Int) < τ 83 t := by omega
  have j1 : ¬ σ 4 t < 268 := by omega
  have j2 : ¬ (274 : Int) < σ 4 t := by omega
  obtain ⟨v, hv⟩ : ∃ v, v = σ 4 t - 268 := ⟨_, rfl⟩
  have v0 : 0 ≤ v := by omega
  have v7 : v < 7 := by omega
  have wv : w32 (σ 4 t - 268) = v := by rw [w32_id (by omega) (by omega), hv]
  have wm : w32 (τ 83 t - 32) = v := by rw [ed, w32_id (by omega) (by omega), hv]
  have em : vcV X 288 [vP 80, vI ((1 : Nat) : Int), vI v] τ = some (mst τ (q0 + out.length) 1 v) := m_emit X (lt840 bb.2.2 sd1) er.2.1.2
  have fe : NF N σ (mst τ (q0 + out.length) 1 v) t := f.ag rfl (fun _ _ => rfl) (mst_fr.get 84 (by decide) rfl) (fun j hj => mst_fr.fld j (f56_5 hj))
  have pse : PS N σ (mst τ (q0 + out.length) 1 v) := ⟨te.fr (Fr.rf (cs := []) (js := [])) mst_fr rfl rfl, Or.inr ⟨t, fe⟩⟩
  obtain ⟨b, σ1, τ1, a1, a2, a3, a4, a5⟩ := l_go X pse fe rfl k0 k1
  have hm : vcV X 282 [vP 80] τ = some τ1 := by
    refine vV_of ((bq_282_0 X τ).trans ?_) rfl
    rw [mi_n f.2.1.2 f.2.2.1.2 t4 n2, bsome]
    dsimp +instances only
    rw [if_pos rfl, if_neg (fun q => q f.2.1.2), f.2.2.1.2, if_pos tr, tn_nat, if_neg m1, if_neg m2, wm, show (1 : Int) = ((1 : Nat) : Int) from rfl, em, bsome, a2, bsome, bq_282_93]
  rcases a5 with ⟨b0, z⟩ | ⟨b1, z⟩
  · refine ⟨σ1, τ1, vV_of ((bq_279_0 X _ σ).trans ?_) rfl, hm, UP.bad a3.1 z (XF.sm a3.2.1.1) ?_⟩
    · rw [e5, if_pos n3, bq_279_35, if_neg j1, if_neg j2, a1, bsome]
      dsimp +instances only
      rw [if_pos b0, bq_279_87, cf_f z, bsome, bq_279_92]
    · refine YF.tr (?_ : YF sd q0 τ (mst τ (q0 + out.length) 1 v)) (YF.sm a3.2.1.2)
      refine ⟨mst_fr.mono rfl rfl, fun j hj => ?_, ?_⟩
      · unfold mst
        rw [un _ (show ¬ (122 : Nat) = 80 by decide), un _ (show ¬ (122 : Nat) = 123 by decide), ue, un _ (show ¬ (123 : Nat) = 80 by decide), ue, un _ (show ¬ (123 : Nat) = 122 by decide), upa, upa, if_neg (fun q => by rw [q] at hj; exact absurd hj (Nat.not_lt.mpr (Nat.le_add_right _ _))), if_neg (fun q => by rw [q] at hj; exact absurd hj (Nat.not_lt.mpr (Nat.le_add_right _ _)))]
        exact ⟨rfl, rfl⟩
      · have r : ∀ k, wd k = 420 → wd k * sd ≤ q0 + out.length ∧ q0 + out.length < wd k * sd + wd k := fun k hk => wrd hk ⟨Nat.le_trans bb.2.1 (Nat.le_add_right _ _), lt420 bb.2.2⟩
        exact ((MG.rf.upd rfl (Or.inr (Or.inr (r 122 (by decide))))).upd rfl (Or.inr (Or.inr (r 123 (by decide))))).upf rfl
  · obtain ⟨c1, tl, c2, c3⟩ := a4 z
    have f27 : σ1 27 = σ 27 := a3.2.1.1.get 27 (by decide) rfl
    have c19 : σ1 27 19 = ((p0 + out.length : Nat) : Int) := by rw [f27]; exact er.1.2
    have c20 : cst σ1 (p0 + out.length) 1 v 27 20 = σ 27 20 := by
      unfold cst
      rw [ue, upa, if_neg (by decide), un _ (show ¬ (27 : Nat) = 46 by decide), f27]
    have hc : ∀ σ2, vcV X 286 [vP 27, vI (g : Int), vI v] (cst σ1 (p0 + out.length) 1 v) = some σ2 → vcV X 279 [vP 47, vI (g : Int)] σ = some σ2 := fun σ2 e2 => by
      refine vV_of ((bq_279_0 X _ σ).trans ?_) rfl
      rw [e5, if_pos n3, bq_279_35, if_neg j1, if_neg j2, a1, bsome]
      dsimp +instances only
      rw [if_neg (by rw [b1]; decide), wv, show (1 : Int) = ((1 : Nat) : Int) from rfl, c_step X (bd3 hp.1 hcn tl) c19, bsome]
      dsimp +instances only
      rw [e2, bsome, bq_279_92]
    by_cases v4 : v = 4
    · refine ⟨am_upd (cst σ1 (p0 + out.length) 1 v) 27 20 (am_or (σ 27 20) (am_shl 1 (g : Int))), τ1, hc _ (vV_of ((bq_286_0 X _ _ _).trans ?_) rfl), hm, u_step X L tl (enc_var v0 v7) ⟨⟨d23, v0, v7⟩, rfl⟩ c2 c3 a3 z (Or.inr ⟨hg, rfl⟩)⟩
      rw [if_neg (fun q => q v4), c20, bq_286_17]
    · refine ⟨cst σ1 (p0 + out.length) 1 v, τ1, hc _ (vV_of ((bq_286_0 X _ _ _).trans ?_) rfl), hm, u_step X L tl (enc_var v0 v7) ⟨⟨d23, v0, v7⟩, rfl⟩ c2 c3 a3 z (Or.inl ⟨rfl, fun q => v4 q.2⟩)⟩
      rw [if_pos v4, bq_286_17]
theorem u_bad (X : Nat) {W : List Int} {n s c : Nat} {out : Ops} (L : LI N g sd p0 q0 t0 σ τ W n s c out 1 t) (n3 : ¬ σ 4 t = 3) (e : ¬ (268 ≤ σ 4 t ∧ σ 4 t ≤ 274)) : ∃ σ1 τ1, vcV X 279 [vP 47, vI (g : Int)] σ = some σ1 ∧ vcV X 282 [vP 80] τ = some τ1 ∧ UP N g sd p0 q0 W n s c out t σ τ σ1 τ1 := by
  obtain ⟨⟨f, te⟩, -⟩ := L
  have t4 := PS.t400 te f
  have tok := te.2.1 t f.1
  have r83 : ¬ (32 ≤ τ 83 t ∧ τ 83 t ≤ 38) := fun q => e ((kr_var tok.2.1).1.mpr q)
  have n2 : ¬ τ 83 t = 2 := fun q => n3 ((kr_int _ _ tok.2.1).mpr q)
  have e5 : σ 47 5 = σ 4 t := f.2.2.2.1
  have tr : (0 : Int) ≤ (t : Int) ∧ (t : Int) < 403 := by omega
  have z : ¬ fl σ t 1 47 6 = 0 := by show ¬ (1 : Int) = 0; decide
  have nx : Nx N σ τ (fl σ t 1) (fm τ t 1) := nx_fault te f (by decide) fm_fr rfl rfl
  refine ⟨fl σ t 1, fm τ t 1, vV_of ((bq_279_0 X _ σ).trans ?_) rfl, vV_of ((bq_282_0 X τ).trans ?_) rfl, UP.bad nx.1 z (XF.sm fl_fr) (YF.sm fm_fr)⟩
  · have fin : vv X 279 87 [some (vP 47), none, none] [] σ = some (none, fl σ t 1) := by rw [bq_279_87, cf_go f.2.1.1 f.2.2.1.1 t4, bsome, bq_279_92]
    rw [e5, if_pos n3, bq_279_35]
    by_cases y : σ 4 t < 268
    · rw [if_pos y]; exact fin
    · rw [if_neg y, if_pos (Int.not_le.mp fun q => e ⟨Int.not_lt.mp y, q⟩)]; exact fin
  · have fin : vv X 282 88 [some (vP 80)] [] τ = some (none, fm τ t 1) := by rw [bq_282_88, mf_go f.2.1.2 f.2.2.1.2 t4, bsome, bq_282_93]
    rw [mi_n f.2.1.2 f.2.2.1.2 t4 n2, bsome]
    dsimp +instances only
    rw [if_pos rfl, if_neg (fun q => q f.2.1.2), f.2.2.1.2, if_pos tr, tn_nat]
    by_cases y : τ 83 t < 32
    · rw [if_pos y]; exact fin
    · rw [if_neg y, if_pos (Int.not_le.mp fun q => r83 ⟨Int.not_lt.mp y, q⟩)]; exact fin
theorem st_unit (X : Nat) {W : List Int} {n s c i : Nat} {out : Ops} (sd1 : sd ≤ 1) (hg : g < 2) (L : LI N g sd p0 q0 t0 σ τ W n s c out 1 t) (hi : i ≤ 400) (e : ¬ σ 4 t = 40) : St X N g sd p0 q0 t0 σ τ n 1 i t := by
  have key : ∃ σ1 τ1, vcV X 279 [vP 47, vI (g : Int)] σ = some σ1 ∧ vcV X 282 [vP 80] τ = some τ1 ∧ UP N g sd p0 q0 W n s c out t σ τ σ1 τ1 := by
    by_cases n3 : σ 4 t = 3
    · exact u_int X sd1 L n3
    · by_cases y : 268 ≤ σ 4 t ∧ σ 4 t ≤ 274
      · exact u_var X sd1 hg L y
      · exact u_bad X L n3 y
  obtain ⟨σ1, τ1, k1, k2, ps, xf, yf, ok, kn⟩ := key
  obtain ⟨⟨f, te⟩, er, h12, hcn, hp, h20⟩ := L
  have t4 := PS.t400 te f
  have ni : ¬ (400 : Int) < (i : Int) := by omega
  have hwi : w32 ((i : Int) + 1) = ((i + 1 : Nat) : Int) := w32_s1 (by omega)
  have e5 : σ 47 5 = σ 4 t := f.2.2.2.1
  have e83 : ¬ τ 83 t = 6 := fun q => e ((kr_open _ _ (te.2.1 t f.1).2.1).mpr q)
  have hcL : cL X g n 1 i σ = cL X g n 0 (i + 1) σ1 := by
    unfold cL
    rw [bq_246_12, if_neg ni, if_neg (fun q => q f.2.1.1), if_neg (by decide), e5, if_pos e, bq_246_74, if_neg (by decide), k1, bsome, bq_246_181, hwi]
    rfl
  have hmL : mL X 1 τ = if (τ1 80 13) ≤ 0 then vv X 255 96 [some (vP 80), some (vI 0), none] [] τ1 else some (none, τ1) := by
    unfold mL
    rw [if_pos rfl, bq_255_23, mi_n f.2.1.2 f.2.2.1.2 t4 e83, bsome]
    dsimp +instances only
    rw [if_pos rfl, k2, bsome]
  by_cases z : σ1 47 6 = 0
  · obtain ⟨k, v, f1, er1, u12, u20⟩ := kn z
    refine Or.inr ⟨σ1, τ1, W, n, s, c, out ++ [(k, v)], 0, t + 1, by decide, hcL, ?_, ⟨⟨f1, ps.1⟩, by rw [if_neg (by decide)]; exact er1, u12, ?_, hp, u20⟩, Nat.lt_succ_self _, xf, yf, ok⟩
    · rw [hmL, if_pos (le_of_eq0 f1.2.1.2)]
      unfold mL
      rw [if_neg (by decide)]
    · rw [List.length_append]
      show out.length + 1 + c + t0 ≤ t + 1
      omega
  · have fs := ps.fs z
    refine Or.inl ⟨σ1, τ1, hcL.trans (c_out X z), ?_, EP.bad ps z xf yf⟩
    rw [hmL, if_neg (Int.not_le.mpr fs.1)]
end PO
