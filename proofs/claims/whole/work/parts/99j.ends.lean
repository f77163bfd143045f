/-! READ: the ends -/
section QA
variable {X N n l sd : Nat} {σ τ σd τd : am_Sg}
theorem cp_in {f g : Nat → Int} {m j : Nat} (h : j < m) : am_cp f g 0 0 m j = f j := by
  unfold am_cp
  rw [if_pos (by omega), Nat.zero_add, Nat.sub_zero]
theorem bind_eq {α β : Type} {o : Option α} {x : α} {f : α → Option β} (h : o = some x) : o.bind f = f x := by rw [h]; rfl
/-- the draft becomes what is told -/
theorem c_copy (X : Nat) : ∃ σ', vcV X 87 [vP 7, vP 27] σ = some σ' ∧ Fr [7, 8, 9, 10, 11, 12, 13, 14, 15, 16, 17, 18, 19, 20, 21, 22, 23, 24, 25, 26] [] σ σ' ∧ DT σ (tl σ') := by
  generalize h1 : am_row σ 8 (am_cp (σ 28) (σ 8) 0 0 6) = s1
  generalize h2 : am_row s1 9 (am_cp (s1 29) (s1 9) 0 0 18) = s2
  generalize h3 : am_row s2 10 (am_cp (s2 30) (s2 10) 0 0 4) = s3
  generalize h4 : am_row s3 11 (am_cp (s3 31) (s3 11) 0 0 4) = s4
  generalize h5 : am_row s4 12 (am_cp (s4 32) (s4 12) 0 0 4) = s5
  generalize h6 : am_row s5 13 (am_cp (s5 33) (s5 13) 0 0 8) = s6
  generalize h7 : am_row s6 14 (am_cp (s6 34) (s6 14) 0 0 8) = s7
  generalize h8 : am_row s7 15 (am_cp (s7 35) (s7 15) 0 0 8) = s8
  generalize h9 : am_row s8 16 (am_cp (s8 36) (s8 16) 0 0 8) = s9
  generalize h10 : am_row s9 17 (am_cp (s9 37) (s9 17) 0 0 8) = s10
  generalize h11 : am_row s10 18 (am_cp (s10 38) (s10 18) 0 0 8) = s11
  generalize h12 : am_row s11 19 (am_cp (s11 39) (s11 19) 0 0 32) = s12
  generalize h13 : am_row s12 20 (am_cp (s12 40) (s12 20) 0 0 8) = s13
  generalize h14 : am_row s13 21 (am_cp (s13 41) (s13 21) 0 0 6) = s14
  generalize h15 : am_row s14 22 (am_cp (s14 42) (s14 22) 0 0 6) = s15
  generalize h16 : am_row s15 23 (am_cp (s15 43) (s15 23) 0 0 20) = s16
  generalize h17 : am_row s16 24 (am_cp (s16 44) (s16 24) 0 0 20) = s17
  generalize h18 : am_row s17 25 (am_cp (s17 45) (s17 25) 0 0 8) = s18
  generalize h19 : am_row s18 26 (am_cp (s18 46) (s18 26) 0 0 400) = s19
  generalize hz : am_upd (am_upd s19 7 19 (s19 27 19)) 7 20 (s19 27 20) = sz
  have f1 : Fr [8] [] σ s1 := by rw [← h1]; exact Fr.rf.row rfl (by decide)
  have f2 : Fr [9] [] s1 s2 := by rw [← h2]; exact Fr.rf.row rfl (by decide)
  have f3 : Fr [10] [] s2 s3 := by rw [← h3]; exact Fr.rf.row rfl (by decide)
  have f4 : Fr [11] [] s3 s4 := by rw [← h4]; exact Fr.rf.row rfl (by decide)
  have f5 : Fr [12] [] s4 s5 := by rw [← h5]; exact Fr.rf.row rfl (by decide)
  have f6 : Fr [13] [] s5 s6 := by rw [← h6]; exact Fr.rf.row rfl (by decide)
  have f7 : Fr [14] [] s6 s7 := by rw [← h7]; exact Fr.rf.row rfl (by decide)
  have f8 : Fr [15] [] s7 s8 := by rw [← h8]; exact Fr.rf.row rfl (by decide)
  have f9 : Fr [16] [] s8 s9 := by rw [← h9]; exact Fr.rf.row rfl (by decide)
  have f10 : Fr [17] [] s9 s10 := by rw [← h10]; exact Fr.rf.row rfl (by decide)
  have f11 : Fr [18] [] s10 s11 := by rw [← h11]; exact Fr.rf.row rfl (by decide)
  have f12 : Fr [19] [] s11 s12 := by rw [← h12]; exact Fr.rf.row rfl (by decide)
  have f13 : Fr [20] [] s12 s13 := by rw [← h13]; exact Fr.rf.row rfl (by decide)
  have f14 : Fr [21] [] s13 s14 := by rw [← h14]; exact Fr.rf.row rfl (by decide)
  have f15 : Fr [22] [] s14 s15 := by rw [← h15]; exact Fr.rf.row rfl (by decide)
  have f16 : Fr [23] [] s15 s16 := by rw [← h16]; exact Fr.rf.row rfl (by decide)
  have f17 : Fr [24] [] s16 s17 := by rw [← h17]; exact Fr.rf.row rfl (by decide)
  have f18 : Fr [25] [] s17 s18 := by rw [← h18]; exact Fr.rf.row rfl (by decide)
  have f19 : Fr [26] [] s18 s19 := by rw [← h19]; exact Fr.rf.row rfl (by decide)
  have fz : Fr [7] [] s19 sz := by rw [← hz]; exact (Fr.rf.upd rfl (by decide)).upd rfl (by decide)
  have g1 : Fr [7, 8, 9, 10, 11, 12, 13, 14, 15, 16, 17, 18, 19, 20, 21, 22, 23, 24, 25, 26] [] σ s1 := f1.mono rfl rfl
  have g2 : Fr [7, 8, 9, 10, 11, 12, 13, 14, 15, 16, 17, 18, 19, 20, 21, 22, 23, 24, 25, 26] [] σ s2 := g1.tr (f2.mono rfl rfl)
  have g3 : Fr [7, 8, 9, 10, 11, 12, 13, 14, 15, 16, 17, 18, 19, 20, 21, 22, 23, 24, 25, 26] [] σ s3 := g2.tr (f3.mono rfl rfl)
  have g4 : Fr [7, 8, 9, 10, 11, 12, 13, 14, 15, 16, 17, 18, 19, 20, 21, 22, 23, 24, 25, 26] [] σ s4 := g3.tr (f4.mono rfl rfl)
  have g5 : Fr [7, 8, 9, 10, 11, 12, 13, 14, 15, 16, 17, 18, 19, 20, 21, 22, 23, 24, 25, 26] [] σ s5 := g4.tr (f5.mono rfl rfl)
  have g6 : Fr [7, 8, 9, 10, 11, 12, 13, 14, 15, 16, 17, 18, 19, 20, 21, 22, 23, 24, 25, 26] [] σ s6 := g5.tr (f6.mono rfl rfl)
  have g7 : Fr [7, 8, 9, 10, 11, 12, 13, 14, 15, 16, 17, 18, 19, 20, 21, 22, 23, 24, 25, 26] [] σ s7 := g6.tr (f7.mono rfl rfl)
  have g8 : Fr [7, 8, 9, 10, 11, 12, 13, 14, 15, 16, 17, 18, 19, 20, 21, 22, 23, 24, 25, 26] [] σ s8 := g7.tr (f8.mono rfl rfl)
  have g9 : Fr [7, 8, 9, 10, 11, 12, 13, 14, 15, 16, 17, 18, 19, 20, 21, 22, 23, 24, 25, 26] [] σ s9 := g8.tr (f9.mono rfl rfl)
  have g10 : Fr [7, 8, 9, 10, 11, 12, 13, 14, 15, 16, 17, 18, 19, 20, 21, 22, 23, 24, 25, 26] [] σ s10 := g9.tr (f10.mono rfl rfl)
  have g11 : Fr [7, 8, 9, 10, 11, 12, 13, 14, 15, 16, 17, 18, 19, 20, 21, 22, 23, 24, 25, 26] [] σ s11 := g10.tr (f11.mono rfl rfl)
  have g12 : Fr [7, 8, 9, 10, 11, 12, 13, 14, 15, 16, 17, 18, 19, 20, 21, 22, 23, 24, 25, 26] [] σ s12 := g11.tr (f12.mono rfl rfl)
  have g13 : Fr [7, 8, 9, 10, 11, 12, 13, 14, 15, 16, 17, 18, 19, 20, 21, 22, 23, 24, 25, 26] [] σ s13 := g12.tr (f13.mono rfl rfl)
  have g14 : Fr [7, 8, 9, 10, 11, 12, 13, 14, 15, 16, 17, 18, 19, 20, 21, 22, 23, 24, 25, 26] [] σ s14 := g13.tr (f14.mono rfl rfl)
  have g15 : Fr [7, 8, 9, 10, 11, 12, 13, 14, 15, 16, 17, 18, 19, 20, 21, 22, 23, 24, 25, 26] [] σ s15 := g14.tr (f15.mono rfl rfl)
  have g16 : Fr [7, 8, 9, 10, 11, 12, 13, 14, 15, 16, 17, 18, 19, 20, 21, 22, 23, 24, 25, 26] [] σ s16 := g15.tr (f16.mono rfl rfl)
  have g17 : Fr [7, 8, 9, 10, 11, 12, 13, 14, 15, 16, 17, 18, 19, 20, 21, 22, 23, 24, 25, 26] [] σ s17 := g16.tr (f17.mono rfl rfl)
  have g18 : Fr [7, 8, 9, 10, 11, 12, 13, 14, 15, 16, 17, 18, 19, 20, 21, 22, 23, 24, 25, 26] [] σ s18 := g17.tr (f18.mono rfl rfl)
  have g19 : Fr [7, 8, 9, 10, 11, 12, 13, 14, 15, 16, 17, 18, 19, 20, 21, 22, 23, 24, 25, 26] [] σ s19 := g18.tr (f19.mono rfl rfl)
  have gz : Fr [7, 8, 9, 10, 11, 12, 13, 14, 15, 16, 17, 18, 19, 20, 21, 22, 23, 24, 25, 26] [] σ sz := g19.tr (fz.mono rfl rfl)
  refine ⟨sz, vV_of ((bq_87_0 X σ).trans ?_) rfl, gz, ?_⟩
  · have c1 : vcV X 183 [vP 28, vP 8] σ = some s1 := by rw [← h1]; exact vV_of (bq_183a_0 X σ) rfl
    have c3 : vcV X 183 [vP 30, vP 10] s2 = some s3 := by rw [← h3]; exact vV_of (bq_183b_0 X s2) rfl
    have c4 : vcV X 183 [vP 31, vP 11] s3 = some s4 := by rw [← h4]; exact vV_of (bq_183c_0 X s3) rfl
    have c5 : vcV X 183 [vP 32, vP 12] s4 = some s5 := by rw [← h5]; exact vV_of (bq_183d_0 X s4) rfl
    have c6 : vcV X 183 [vP 33, vP 13] s5 = some s6 := by rw [← h6]; exact vV_of (bq_183e_0 X s5) rfl
    have c7 : vcV X 183 [vP 34, vP 14] s6 = some s7 := by rw [← h7]; exact vV_of (bq_183f_0 X s6) rfl
    have c8 : vcV X 183 [vP 35, vP 15] s7 = some s8 := by rw [← h8]; exact vV_of (bq_183g_0 X s7) rfl
    have c9 : vcV X 183 [vP 36, vP 16] s8 = some s9 := by rw [← h9]; exact vV_of (bq_183h_0 X s8) rfl
    have c10 : vcV X 183 [vP 37, vP 17] s9 = some s10 := by rw [← h10]; exact vV_of (bq_183i_0 X s9) rfl
    have c11 : vcV X 183 [vP 38, vP 18] s10 = some s11 := by rw [← h11]; exact vV_of (bq_183j_0 X s10) rfl
    have c12 : vcV X 183 [vP 39, vP 19] s11 = some s12 := by rw [← h12]; exact vV_of (bq_183k_0 X s11) rfl
    have c13 : vcV X 183 [vP 40, vP 20] s12 = some s13 := by rw [← h13]; exact vV_of (bq_183l_0 X s12) rfl
    have c14 : vcV X 183 [vP 41, vP 21] s13 = some s14 := by rw [← h14]; exact vV_of (bq_183m_0 X s13) rfl
    have c15 : vcV X 183 [vP 42, vP 22] s14 = some s15 := by rw [← h15]; exact vV_of (bq_183n_0 X s14) rfl
    have c16 : vcV X 183 [vP 43, vP 23] s15 = some s16 := by rw [← h16]; exact vV_of (bq_183o_0 X s15) rfl
    have c17 : vcV X 183 [vP 44, vP 24] s16 = some s17 := by rw [← h17]; exact vV_of (bq_183p_0 X s16) rfl
    have c18 : vcV X 183 [vP 45, vP 25] s17 = some s18 := by rw [← h18]; exact vV_of (bq_183q_0 X s17) rfl
    have c19 : vcV X 183 [vP 46, vP 26] s18 = some s19 := by rw [← h19]; exact vV_of (bq_183r_0 X s18) rfl
    have c3' : vcV X 183 [vP 30, vP 10] (am_row s1 9 (am_cp (s1 29) (s1 9) 0 0 18)) = some s3 := by rw [h2]; exact c3
    refine (bind_eq c1).trans ?_
    refine (bind_eq c3').trans ?_
    refine (bind_eq c4).trans ?_
    refine (bind_eq c5).trans ?_
    refine (bind_eq c6).trans ?_
    refine (bind_eq c7).trans ?_
    refine (bind_eq c8).trans ?_
    refine (bind_eq c9).trans ?_
    refine (bind_eq c10).trans ?_
    refine (bind_eq c11).trans ?_
    refine (bind_eq c12).trans ?_
    refine (bind_eq c13).trans ?_
    refine (bind_eq c14).trans ?_
    refine (bind_eq c15).trans ?_
    refine (bind_eq c16).trans ?_
    refine (bind_eq c17).trans ?_
    refine (bind_eq c18).trans ?_
    refine (bind_eq c19).trans ?_
    exact congrArg (fun x => some ((none : Option am_V), x)) hz
  · have k8 : ∀ j, j < 6 → tl sz 8 j = σ 28 j := fun j hj => by rw [tl_in (by decide), fz.get 8 (by decide) rfl, f19.get 8 (by decide) rfl, f18.get 8 (by decide) rfl, f17.get 8 (by decide) rfl, f16.get 8 (by decide) rfl, f15.get 8 (by decide) rfl, f14.get 8 (by decide) rfl, f13.get 8 (by decide) rfl, f12.get 8 (by decide) rfl, f11.get 8 (by decide) rfl, f10.get 8 (by decide) rfl, f9.get 8 (by decide) rfl, f8.get 8 (by decide) rfl, f7.get 8 (by decide) rfl, f6.get 8 (by decide) rfl, f5.get 8 (by decide) rfl, f4.get 8 (by decide) rfl, f3.get 8 (by decide) rfl, f2.get 8 (by decide) rfl, ← h1, re, cp_in hj]
    have k10 : ∀ j, j < 4 → tl sz 10 j = σ 30 j := fun j hj => by rw [tl_in (by decide), fz.get 10 (by decide) rfl, f19.get 10 (by decide) rfl, f18.get 10 (by decide) rfl, f17.get 10 (by decide) rfl, f16.get 10 (by decide) rfl, f15.get 10 (by decide) rfl, f14.get 10 (by decide) rfl, f13.get 10 (by decide) rfl, f12.get 10 (by decide) rfl, f11.get 10 (by decide) rfl, f10.get 10 (by decide) rfl, f9.get 10 (by decide) rfl, f8.get 10 (by decide) rfl, f7.get 10 (by decide) rfl, f6.get 10 (by decide) rfl, f5.get 10 (by decide) rfl, f4.get 10 (by decide) rfl, ← h3, re, cp_in hj, g2.get 30 (by decide) rfl]
    have k11 : ∀ j, j < 4 → tl sz 11 j = σ 31 j := fun j hj => by rw [tl_in (by decide), fz.get 11 (by decide) rfl, f19.get 11 (by decide) rfl, f18.get 11 (by decide) rfl, f17.get 11 (by decide) rfl, f16.get 11 (by decide) rfl, f15.get 11 (by decide) rfl, f14.get 11 (by decide) rfl, f13.get 11 (by decide) rfl, f12.get 11 (by decide) rfl, f11.get 11 (by decide) rfl, f10.get 11 (by decide) rfl, f9.get 11 (by decide) rfl, f8.get 11 (by decide) rfl, f7.get 11 (by decide) rfl, f6.get 11 (by decide) rfl, f5.get 11 (by decide) rfl, ← h4, re, cp_in hj, g3.get 31 (by decide) rfl]
    have k12 : ∀ j, j < 4 → tl sz 12 j = σ 32 j := fun j hj => by rw [tl_in (by decide), fz.get 12 (by decide) rfl, f19.get 12 (by decide) rfl, f18.get 12 (by decide) rfl, f17.get 12 (by decide) rfl, f16.get 12 (by decide) rfl, f15.get 12 (by decide) rfl, f14.get 12 (by decide) rfl, f13.get 12 (by decide) rfl, f12.get 12 (by decide) rfl, f11.get 12 (by decide) rfl, f10.get 12 (by decide) rfl, f9.get 12 (by decide) rfl, f8.get 12 (by decide) rfl, f7.get 12 (by decide) rfl, f6.get 12 (by decide) rfl, ← h5, re, cp_in hj, g4.get 32 (by decide) rfl]
    have k13 : ∀ j, j < 8 → tl sz 13 j = σ 33 j := fun j hj => by rw [tl_in (by decide), fz.get 13 (by decide) rfl, f19.get 13 (by decide) rfl, f18.get 13 (by decide) rfl, f17.get 13 (by decide) rfl, f16.get 13 (by decide) rfl, f15.get 13 (by decide) rfl, f14.get 13 (by decide) rfl, f13.get 13 (by decide) rfl, f12.get 13 (by decide) rfl, f11.get 13 (by decide) rfl, f10.get 13 (by decide) rfl, f9.get 13 (by decide) rfl, f8.get 13 (by decide) rfl, f7.get 13 (by decide) rfl, ← h6, re, cp_in hj, g5.get 33 (by decide) rfl]
    have k14 : ∀ j, j < 8 → tl sz 14 j = σ 34 j := fun j hj => by rw [tl_in (by decide), fz.get 14 (by decide) rfl, f19.get 14 (by decide) rfl, f18.get 14 (by decide) rfl, f17.get 14 (by decide) rfl, f16.get 14 (by decide) rfl, f15.get 14 (by decide) rfl, f14.get 14 (by decide) rfl, f13.get 14 (by decide) rfl, f12.get 14 (by decide) rfl, f11.get 14 (by decide) rfl, f10.get 14 (by decide) rfl, f9.get 14 (by decide) rfl, f8.get 14 (by decide) rfl, ← h7, re, cp_in hj, g6.get 34 (by decide) rfl]
    have k15 : ∀ j, j < 8 → tl sz 15 j = σ 35 j := fun j hj => by rw [tl_in (by decide), fz.get 15 (by decide) rfl, f19.get 15 (by decide) rfl, f18.get 15 (by decide) rfl, f17.get 15 (by decide) rfl, f16.get 15 (by decide) rfl, f15.get 15 (by decide) rfl, f14.get 15 (by decide) rfl, f13.get 15 (by decide) rfl, f12.get 15 (by decide) rfl, f11.get 15 (by decide) rfl, f10.get 15 (by decide) rfl, f9.get 15 (by decide) rfl, ← h8, re, cp_in hj, g7.get 35 (by decide) rfl]
    have k16 : ∀ j, j < 8 → tl sz 16 j = σ 36 j := fun j hj => by rw [tl_in (by decide), fz.get 16 (by decide) rfl, f19.get 16 (by decide) rfl, f18.get 16 (by decide) rfl, f17.get 16 (by decide) rfl, f16.get 16 (by decide) rfl, f15.get 16 (by decide) rfl, f14.get 16 (by decide) rfl, f13.get 16 (by decide) rfl, f12.get 16 (by decide) rfl, f11.get 16 (by decide) rfl, f10.get 16 (by decide) rfl, ← h9, re, cp_in hj, g8.get 36 (by decide) rfl]
    have k17 : ∀ j, j < 8 → tl sz 17 j = σ 37 j := fun j hj => by rw [tl_in (by decide), fz.get 17 (by decide) rfl, f19.get 17 (by decide) rfl, f18.get 17 (by decide) rfl, f17.get 17 (by decide) rfl, f16.get 17 (by decide) rfl, f15.get 17 (by decide) rfl, f14.get 17 (by decide) rfl, f13.get 17 (by decide) rfl, f12.get 17 (by decide) rfl, f11.get 17 (by decide) rfl, ← h10, re, cp_in hj, g9.get 37 (by decide) rfl]
    have k18 : ∀ j, j < 8 → tl sz 18 j = σ 38 j := fun j hj => by rw [tl_in (by decide), fz.get 18 (by decide) rfl, f19.get 18 (by decide) rfl, f18.get 18 (by decide) rfl, f17.get 18 (by decide) rfl, f16.get 18 (by decide) rfl, f15.get 18 (by decide) rfl, f14.get 18 (by decide) rfl, f13.get 18 (by decide) rfl, f12.get 18 (by decide) rfl, ← h11, re, cp_in hj, g10.get 38 (by decide) rfl]
    have k19' : ∀ j, j < 32 → tl sz 19 j = σ 39 j := fun j hj => by rw [tl_in (by decide), fz.get 19 (by decide) rfl, f19.get 19 (by decide) rfl, f18.get 19 (by decide) rfl, f17.get 19 (by decide) rfl, f16.get 19 (by decide) rfl, f15.get 19 (by decide) rfl, f14.get 19 (by decide) rfl, f13.get 19 (by decide) rfl, ← h12, re, cp_in hj, g11.get 39 (by decide) rfl]
    have k20 : ∀ j, j < 8 → tl sz 20 j = σ 40 j := fun j hj => by rw [tl_in (by decide), fz.get 20 (by decide) rfl, f19.get 20 (by decide) rfl, f18.get 20 (by decide) rfl, f17.get 20 (by decide) rfl, f16.get 20 (by decide) rfl, f15.get 20 (by decide) rfl, f14.get 20 (by decide) rfl, ← h13, re, cp_in hj, g12.get 40 (by decide) rfl]
    have k21 : ∀ j, j < 6 → tl sz 21 j = σ 41 j := fun j hj => by rw [tl_in (by decide), fz.get 21 (by decide) rfl, f19.get 21 (by decide) rfl, f18.get 21 (by decide) rfl, f17.get 21 (by decide) rfl, f16.get 21 (by decide) rfl, f15.get 21 (by decide) rfl, ← h14, re, cp_in hj, g13.get 41 (by decide) rfl]
    have k22 : ∀ j, j < 6 → tl sz 22 j = σ 42 j := fun j hj => by rw [tl_in (by decide), fz.get 22 (by decide) rfl, f19.get 22 (by decide) rfl, f18.get 22 (by decide) rfl, f17.get 22 (by decide) rfl, f16.get 22 (by decide) rfl, ← h15, re, cp_in hj, g14.get 42 (by decide) rfl]
    have k23 : ∀ j, j < 20 → tl sz 23 j = σ 43 j := fun j hj => by rw [tl_in (by decide), fz.get 23 (by decide) rfl, f19.get 23 (by decide) rfl, f18.get 23 (by decide) rfl, f17.get 23 (by decide) rfl, ← h16, re, cp_in hj, g15.get 43 (by decide) rfl]
    have k24 : ∀ j, j < 20 → tl sz 24 j = σ 44 j := fun j hj => by rw [tl_in (by decide), fz.get 24 (by decide) rfl, f19.get 24 (by decide) rfl, f18.get 24 (by decide) rfl, ← h17, re, cp_in hj, g16.get 44 (by decide) rfl]
    have k25 : ∀ j, j < 8 → tl sz 25 j = σ 45 j := fun j hj => by rw [tl_in (by decide), fz.get 25 (by decide) rfl, f19.get 25 (by decide) rfl, ← h18, re, cp_in hj, g17.get 45 (by decide) rfl]
    have k26 : ∀ j, j < 400 → tl sz 26 j = σ 46 j := fun j hj => by rw [tl_in (by decide), fz.get 26 (by decide) rfl, ← h19, re, cp_in hj, g18.get 46 (by decide) rfl]
    have k19 : tl sz 7 19 = σ 27 19 := by rw [tl_in (by decide), ← hz, ue, upa, if_neg (by decide), ue, upe, g19.get 27 (by decide) rfl]
    have k20' : tl sz 7 20 = σ 27 20 := by rw [tl_in (by decide), ← hz, ue, upe, g19.get 27 (by decide) rfl]
    refine ⟨k8, fun k j a b hj => ?_, fun k j a b hj => ?_, k19', k20, fun k j a b hj => ?_, fun k j a b hj => ?_, k25, k26, k19, k20'⟩
    · rcases (show k = 10 ∨ k = 11 ∨ k = 12 by omega) with e | e | e <;> subst e
      · exact k10 j hj
      · exact k11 j hj
      · exact k12 j hj
    · rcases (show k = 13 ∨ k = 14 ∨ k = 15 ∨ k = 16 ∨ k = 17 ∨ k = 18 by omega) with e | e | e | e | e | e <;> subst e
      · exact k13 j hj
      · exact k14 j hj
      · exact k15 j hj
      · exact k16 j hj
      · exact k17 j hj
      · exact k18 j hj
    · rcases (show k = 21 ∨ k = 22 by omega) with e | e <;> subst e
      · exact k21 j hj
      · exact k22 j hj
    · rcases (show k = 23 ∨ k = 24 by omega) with e | e <;> subst e
      · exact k23 j hj
      · exact k24 j hj
/-- the class ends with a fault -/
theorem c_endF (X : Nat) (h : vv X 86 0 [some (vP 47), none] [] σ = vv X 86 165 [some (vP 47), none] [] σd) (z : ¬ (σd 47 6 = 0 ∧ σd 47 8 = 0)) : ∃ σ1, vcI X 7 [vP 0] σ = some (if σd 47 6 = 0 then σd 47 8 else σd 47 6, σ1) ∧ Fr [1, 47] [] σd σ1 ∧ σ1 1 5 = 0 ∧ σ1 47 7 = (if σd 47 6 = 0 then σd 47 9 else σd 47 7) := by
  by_cases y : σd 47 6 = 0
  · have y8 : ¬ σd 47 8 = 0 := fun q => z ⟨y, q⟩
    rw [if_pos y, if_pos y]
    generalize hs : am_upd (am_upd σd 47 6 (σd 47 8)) 47 7 (σd 47 9) = s
    have fs : Fr [47] [] σd s := by rw [← hs]; exact (Fr.rf.upd rfl (by decide)).upd rfl (by decide)
    have e86 : vcV X 86 [vP 47] σ = some s := vV_of (h.trans (by rw [bq_86_165, if_neg (fun q => q y), if_neg y8, hs, bq_86_195])) rfl
    have s6 : s 47 6 = σd 47 8 := by rw [← hs]; rfl
    have s6' : am_upd s 1 5 0 47 6 = σd 47 8 := s6
    refine ⟨am_upd s 1 5 0, vI_of ((bq_7_0 X σ).trans ?_) rfl, (fs.mono rfl rfl).upd rfl (by decide), by rw [ue, upe], ?_⟩
    · rw [e86, bsome, if_pos (by rw [s6]; exact y8), bq_7_62, s6']
    · rw [un _ (show ¬ (47 : Nat) = 1 by decide), ← hs]; rfl
  · rw [if_neg y, if_neg y]
    have e86 : vcV X 86 [vP 47] σ = some σd := vV_of (h.trans (by rw [bq_86_165, if_pos y, bq_86_195])) rfl
    have s6' : am_upd σd 1 5 0 47 6 = σd 47 6 := rfl
    refine ⟨am_upd σd 1 5 0, vI_of ((bq_7_0 X σ).trans ?_) rfl, Fr.rf.upd rfl (by decide), by rw [ue, upe], ?_⟩
    · rw [e86, bsome, if_pos y, bq_7_62, s6']
    · rw [un _ (show ¬ (47 : Nat) = 1 by decide)]
/-- and without -/
theorem c_endO (X : Nat) (h : vv X 86 0 [some (vP 47), none] [] σ = vv X 86 165 [some (vP 47), none] [] σd) (y : σd 47 6 = 0) (y8 : σd 47 8 = 0) (hC : CI σd τd sd) (hI : TI σd τd sd) : ∃ σ1, vcI X 7 [vP 0] σ = some (0, σ1) ∧ Fr [1, 7, 8, 9, 10, 11, 12, 13, 14, 15, 16, 17, 18, 19, 20, 21, 22, 23, 24, 25, 26, 50, 60, 75] [] σd σ1 ∧ DT σd (tl σ1) ∧ rs (σ1 50) = bgS (tl σ1) ∧ (σ1 1 5 = 0 ∧ σ1 60 3 = 0 ∧ σ1 60 4 = 0 ∧ σ1 60 2 = σd 60 2 ∧ σ1 75 8 = 0) := by
  have e86 : vcV X 86 [vP 47] σ = some σd := vV_of (h.trans (by rw [bq_86_165, if_neg (fun q => q y), if_pos y8, bq_86_195])) rfl
  have fa : Fr [1] [] σd (am_upd σd 1 5 0) := Fr.rf.upd rfl (by decide)
  obtain ⟨s2, a1, a2, a3⟩ := c_copy (σ := am_upd σd 1 5 0) X
  have dt : DT σd (tl s2) := by
    obtain ⟨d1, d2, d3, d4, d5, d6, d7, d8, d9, d10, d11⟩ := a3
    have g : ∀ k, ¬ k = 1 → am_upd σd 1 5 0 k = σd k := fun k hk => un _ hk
    refine ⟨fun j hj => by rw [d1 j hj, g 28 (by decide)], fun k j a b hj => by rw [d2 k j a b hj, g _ (by omega)], fun k j a b hj => by rw [d3 k j a b hj, g _ (by omega)], fun j hj => by rw [d4 j hj, g 39 (by decide)], fun j hj => by rw [d5 j hj, g 40 (by decide)], fun k j a b hj => by rw [d6 k j a b hj, g _ (by omega)], fun k j a b hj => by rw [d7 k j a b hj, g _ (by omega)], fun j hj => by rw [d8 j hj, g 45 (by decide)], fun j hj => by rw [d9 j hj, g 46 (by decide)], by rw [d10, g 27 (by decide)], by rw [d11, g 27 (by decide)]⟩
  obtain ⟨s3, b1, b2, b3⟩ := c_begin_49 (X := X) (told_ok hC hI dt) rfl
  generalize h4 : am_upd (am_upd (am_upd s3 60 3 0) 60 4 0) 75 8 0 = s4
  have f4 : Fr [60, 75] [] s3 s4 := by rw [← h4]; exact ((Fr.rf.upd rfl (by decide)).upd rfl (by decide)).upd rfl (by decide)
  have e89 : vcV X 89 [vP 60] s3 = some (am_upd (am_upd s3 60 3 0) 60 4 0) := vV_of (bq_89_0 X s3) rfl
  have t4 : tl s4 = tl s2 := (tl_fr f4 rfl).trans (tl_fr b2 rfl)
  have F : Fr [1, 7, 8, 9, 10, 11, 12, 13, 14, 15, 16, 17, 18, 19, 20, 21, 22, 23, 24, 25, 26, 50, 60, 75] [] σd s4 := (((fa.mono rfl rfl).tr (a2.mono rfl rfl)).tr (b2.mono rfl rfl)).tr (f4.mono rfl rfl)
  have v0 : s4 47 6 = 0 := by rw [F.get 47 (by decide) rfl]; exact y
  refine ⟨s4, vI_of ((bq_7_0 X σ).trans ?_) rfl, F, by rw [t4]; exact dt, by rw [t4, f4.get 50 (by decide) rfl]; exact b3, ?_, ?_, ?_, ?_, ?_⟩
  · rw [e86, bsome, if_neg (fun q => q y), a1, bsome, b1, bsome, e89, bsome, h4, bq_7_62, v0]
  · rw [f4.get 1 (by decide) rfl, b2.get 1 (by decide) rfl, a2.get 1 (by decide) rfl, ue, upe]
  · rw [← h4]; rfl
  · rw [← h4]; rfl
  · rw [← h4, un _ (show ¬ (60 : Nat) = 75 by decide), ue, upa, if_neg (by decide), ue, upa, if_neg (by decide), b2.get 60 (by decide) rfl, a2.get 60 (by decide) rfl, un _ (show ¬ (60 : Nat) = 1 by decide)]
  · rw [← h4]; rfl
end QA
