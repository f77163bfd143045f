/-! READ: the same answer, the relation kept -/
section QC
variable {X : Nat} {σ : am_Sg}
theorem pos_of {x : Int} (h : 0 ≤ x) (h' : ¬ x = 0) : 0 < x := by omega
theorem q_read (hR : Rel X σ) : Qc X 7 8 [] σ := by
  obtain ⟨T, l, F, hRT, hRN, hRU, hRH, hRB, ⟨n, hn, ⟨h15, h2⟩, hb⟩, h7, hW⟩ := hR
  obtain ⟨rT, rO, rM, rC, rL, rF⟩ := hRT
  obtain ⟨e18, s1, sl⟩ := sd_of rM.l0 rM.l1
  generalize hsd : 1 - l = sd at e18 s1 sl
  obtain ⟨N, σc, p, st, c1, c2, c3, c4, c5, c6, c7⟩ := c_start X hn (fun i hi => by rw [(hb i hi).1]; exact (hb i hi).2) h15 hW.1 (fun j => by rw [hW.2.2 1005 (by decide)]; exact am_s0_5 _ j) (by rw [hW.2.2 1003 (by decide)]; rfl)
  have cw : σc 1001 = am_s0 (fun _ => 0) 1001 := by rw [c2.get 1001 (by decide) rfl]; exact hW.2.2 1001 (by decide)
  have rd := rd_both X (sd := sd) hn hb h2 hW.2.1 e18 s1 c4 c5 c6 c7 cw
  -- the class alone: its end
  have cls : ∃ v σ1, vcI X 7 [vP 0] σ = some (v, σ1) ∧ (∀ k, 80 < k → k < 1000 → σ1 k = σ k) ∧ (∀ j, σ1 80 j = σ 80 j) := by
    obtain ⟨σd, τd, a1, -, a3, a4, -, -, -, -⟩ := rd σ rfl rfl rfl rfl
    by_cases z : σd 47 6 = 0 ∧ σd 47 8 = 0
    · obtain ⟨i1, i2⟩ := a3.2 z.1
      obtain ⟨σ1, d1, d2, -⟩ := c_endO X (c1.trans a1) z.1 z.2 i1 (i2 z.2)
      have FF : Fr (cA ++ [1, 7, 8, 9, 10, 11, 12, 13, 14, 15, 16, 17, 18, 19, 20, 21, 22, 23, 24, 25, 26, 50, 60, 75]) [] σ σ1 := ((c2.mono rfl rfl).tr (a4.mono rfl rfl)).tr (d2.mono rfl rfl)
      exact ⟨0, σ1, d1, fun k k1 k2 => FF.get k (by omega) (by
        cases hc : (cA ++ [1, 7, 8, 9, 10, 11, 12, 13, 14, 15, 16, 17, 18, 19, 20, 21, 22, 23, 24, 25, 26, 50, 60, 75]).contains k with
        | false => rfl
        | true =>
          have := List.all_eq_true.mp (show (cA ++ [1, 7, 8, 9, 10, 11, 12, 13, 14, 15, 16, 17, 18, 19, 20, 21, 22, 23, 24, 25, 26, 50, 60, 75]).all (fun k => decide (k < 80)) = true by decide) k (List.contains_iff_mem.mp hc)
          have : k < 80 := of_decide_eq_true this
          omega), fun j => FF.fld j rfl⟩
    · obtain ⟨σ1, d1, d2, -⟩ := c_endF X (c1.trans a1) z
      have FF : Fr cA [] σ σ1 := ((c2.mono rfl rfl).tr (a4.mono rfl rfl)).tr (d2.mono rfl rfl)
      exact ⟨_, σ1, d1, fun k k1 k2 => FF.get k (by omega) (cA_hi k1), fun j => FF.fld j rfl⟩
  obtain ⟨v, σ1, hv, k80, f80⟩ := cls
  obtain ⟨σd, τd, a1, a2, a3, a4, a5, a6, a7, a8⟩ := rd σ1 (k80 81 (by decide) (by decide)) (k80 87 (by decide) (by decide)) (f80 2) (f80 18)
  have mf0 : MF sd σ τd := fun k k1 k2 j hj => by rw [a6 k k1 k2 j hj, k80 k (by omega) (by omega)]
  by_cases z : σd 47 6 = 0 ∧ σd 47 8 = 0
  · obtain ⟨i1, i2'⟩ := a3.2 z.1
    have i2 := i2' z.2
    obtain ⟨s', d1, d2, d3, d4, ⟨d5, d6, d7, d8, d9⟩⟩ := c_endO X (c1.trans a1) z.1 z.2 i1 i2
    rw [d1] at hv
    injection hv with hv'
    have ev : (0 : Int) = v := congrArg Prod.fst hv'
    have es : s' = σ1 := congrArg Prod.snd hv'
    subst ev es
    obtain ⟨u, fu⟩ := a3.1.nf z.1
    have h15' : τd 80 15 = 0 := fu.2.2.2.2.1.symm.trans z.2
    have tO := told_ok i1 i2 d3
    have Fe : Fr [] [17, 18] τd (am_upd (am_upd τd 80 17 (-1)) 80 18 (τd 80 19)) := (Fr.rf.upf rfl).upf rfl
    have tm : TM (am_upd (am_upd τd 80 17 (-1)) 80 18 (τd 80 19)) (tl s') sd := told_tm i1 i2 d3 (fun k k1 k2 => Fe.get k (by omega) rfl) (by rw [ue, upe]; exact a8)
    obtain ⟨τ2, m1, m2, ⟨m3, m4, m5, m6⟩, m7, m8⟩ := m_endO X a2 fu.2.1.2 h15' tO tm
    have G : Fr (mA ++ [127, 128, 143]) (jA ++ [17, 18, 67, 81]) s' τ2 := (a5.mono rfl rfl).tr (m2.mono rfl rfl)
    have F1 : Fr (cA ++ [1, 7, 8, 9, 10, 11, 12, 13, 14, 15, 16, 17, 18, 19, 20, 21, 22, 23, 24, 25, 26, 50, 60, 75]) [] σ s' := ((c2.mono rfl rfl).tr (a4.mono rfl rfl)).tr (d2.mono rfl rfl)
    have m2k : ∀ k, 91 ≤ k → k ≤ 123 → τ2 k = τd k := fun k k1 k2 => m2.get k (by omega) (by
      cases hc : [127, 128, 143].contains k with
      | false => rfl
      | true =>
        have : k = 127 ∨ k = 128 ∨ k = 143 := by simpa using hc
        omega)
    have tm2 : TM τ2 (tl s') sd := told_tm i1 i2 d3 (fun k k1 k2 => m2k k k1 (by omega)) (m4.trans a8)
    obtain ⟨F', lc', lm', fo'⟩ := told_laws X i1 i2 d3 (τ1 := τ2) (fun k hk => m2k k (by omega) (by omega)) (m4.trans a8)
    have g60 : τ2 60 = s' 60 := G.get 60 (by decide) rfl
    obtain ⟨u0, f0, Hc, ⟨⟨-, hf⟩, ⟨-, h602⟩, -⟩, -, -⟩ := hRU
    refine ⟨0, s', τ2, d1, m1, tl s', sd, F', ⟨tl_fr G rfl, tO, tm2, lc', lm', fo'⟩, ⟨?_, ?_⟩, ⟨0, f0, fun _ _ => 0, ⟨⟨by decide, hf⟩, ⟨?_, ?_⟩, fun i j hi => absurd hi (Nat.not_lt_zero _)⟩, ⟨m5, fun i j hi => absurd hi (Nat.not_lt_zero _)⟩, fun i hi => absurd hi (Nat.not_lt_zero _)⟩, ⟨?_, fun s hs => ⟨Or.inl (m8 s hs), ?_, fun q => ?_⟩⟩, ⟨0, by decide, ⟨?_, m6⟩, fun i hi => absurd hi (Nat.not_lt_zero _)⟩, ⟨0, by decide, ⟨?_, ?_⟩, fun i hi => absurd hi (Nat.not_lt_zero _)⟩, ?_, (hW.fr F1 rfl rfl).fr G rfl rfl⟩
    · rw [G.get 50 (by decide) rfl, d4, m7]
    · rw [m7]; exact ScOk.bg tO
    · rw [g60]; exact d6
    · rw [g60, d8, a4.get 60 (by decide) rfl, c2.get 60 (by decide) rfl]; exact h602
    · rw [g60, d7]; decide
    · rw [g60, d7, m8 s hs]; exact bt1_00 ⟨s, hs⟩
    · rw [m8 s hs] at q
      exact absurd q (by decide)
    · rw [G.get 75 (by decide) rfl]; exact d9
    · rw [G.get 1 (by decide) rfl]; exact d5
    · rw [m2.fld 2 rfl]; exact a7
    · rw [m3, G.get 47 (by decide) rfl, d2.get 47 (by decide) rfl]
      exact fu.2.2.2.2.2.1.2.2
  · obtain ⟨s', d1, d2, d3, d4⟩ := c_endF X (c1.trans a1) z
    rw [d1] at hv
    injection hv with hv'
    have ev : (if σd 47 6 = 0 then σd 47 8 else σd 47 6) = v := congrArg Prod.fst hv'
    have es : s' = σ1 := congrArg Prod.snd hv'
    subst es
    have key : ∃ pl, vcI X 8 [vP 80] s' = some (v, am_upd τd 80 17 pl) ∧ s' 47 7 = pl := by
      by_cases y : σd 47 6 = 0
      · rw [if_pos y] at ev d4
        obtain ⟨u, fu⟩ := a3.1.nf y
        have n8 : ¬ σd 47 8 = 0 := fun q => z ⟨y, q⟩
        have e15 := fu.2.2.2.2.1
        have n15 : ¬ τd 80 15 = 0 := by rw [← e15]; exact n8
        have p15 : 0 < τd 80 15 := pos_of fu.2.2.2.2.2.1.1 n15
        refine ⟨τd 80 16, ?_, d4.trans (fu.2.2.2.2.2.2 n15).1⟩
        rw [m_endS X a2 fu.2.1.2 p15, ← ev, e15]
      · rw [if_neg y] at ev d4
        have fs := a3.1.fs y
        refine ⟨τd 80 14, ?_, d4.trans fs.2.2⟩
        rw [m_endF X a2 fs.1, ← ev, fs.2.1]
    obtain ⟨pl, e1, e2⟩ := key
    have F1 : Fr cA [] σ s' := ((c2.mono rfl rfl).tr (a4.mono rfl rfl)).tr (d2.mono rfl rfl)
    have FA : Fr aA aJ σ (am_upd τd 80 17 pl) := ((F1.mono rfl rfl).tr (a5.mono rfl rfl)).upf rfl
    have mf2 : MF sd σ (am_upd τd 80 17 pl) := fun k k1 k2 j hj => by rw [un _ (show ¬ k = 80 by omega), mf0 k k1 k2 j hj]
    have q18 : am_upd τd 80 17 pl 80 18 = σ 80 18 := FA.fld 18 rfl
    refine ⟨v, s', am_upd τd 80 17 pl, d1.trans (by rw [ev]), e1, T, l, F, ⟨(tl_fr FA rfl).trans rT, rO, rM.mf rO sl mf2 q18 s1, rC, rL.ag (agL.mf rM.l0 rM.l1 sl s1 mf2 q18), rF⟩, hRN.fr FA rfl, hRU.fr FA rfl rfl, hRH.fr FA rfl, hRB.fr FA rfl rfl, ⟨0, by decide, ⟨?_, a7⟩, fun i hi => absurd hi (Nat.not_lt_zero _)⟩, ?_, hW.fr FA rfl rfl⟩
    · rw [un _ (show ¬ (1 : Nat) = 80 by decide), a5.get 1 (by decide) rfl]; exact d3
    · rw [un _ (show ¬ (47 : Nat) = 80 by decide), a5.get 47 (by decide) rfl, e2]; rfl
end QC
