/-! PLANS: the class -/
theorem ixm8 {m a : Nat} (hm : m < 8) (ha : a < 8) : w32 (w32 ((m : Int) * 8) + (a : Int)) = ((8 * m + a : Nat) : Int) := by unfold w32; omega
theorem RF_e : (-1000000001 : Int) = RF := rfl
theorem NR_e : (-1000000000 : Int) = NR := rfl
/-- the cache of what was asked -/
def CA (σ : am_Sg) (v : Nat → Nat → Int) : Prop := ∀ m a, m < 8 → a < 8 → σ 72 (8 * m + a) = NR ∨ σ 72 (8 * m + a) = v m a
section CPL
variable {X l m a g s : Nat} {σ T : am_Sg} {F : LF} {sc W : Nat → Int} {w : Int}
theorem vlS_ok (H : TOk T) (hF : FOk F) : VOk (vlS T F sc g w) w := by
  intro m a
  have hb := (bts_ok (T := T) hF (sc := sc) (m := m) (g := g) (ah := w32 (sc (42 + g) + (a : Int)))).mono (show (6 : Int) ≤ 12 by omega)
  have b1 := bulk_bd H hb (by omega)
  have b2 := gain_bd H hb (by omega)
  unfold vlS
  split
  · right
    split
    · exact ⟨by omega, fun q => by omega, fun q => by omega, fun q => by omega⟩
    · split
      · exact ⟨by omega, fun q => by omega, fun q => by omega, fun q => by omega⟩
      · exact ⟨by omega, fun _ => rfl, fun _ => Int.le_refl _, fun _ => Int.le_refl _⟩
  · exact Or.inl rfl
theorem vlS_ag (hA : AG T F) (hg : g < 2) (h0 : bt1 (T 7 20) g = 0) : vlS T F sc g w m a = vlS T F sc g w m 0 := by
  have e : bts T F sc m g (w32 (sc (42 + g) + (a : Int))) = bts T F sc m g (w32 (sc (42 + g) + ((0 : Nat) : Int))) := by
    funext d
    unfold bts
    by_cases z : d < nD T
    · rw [if_pos z, if_pos z]
      refine hA g d hg z h0 _ _ (fun j hj => ?_)
      unfold vr
      rw [if_neg hj, if_neg hj]
    · rw [if_neg z, if_neg z]
  unfold vlS
  rw [e]
theorem c_worthOf (R : RT X σ T l F) (hs : rs (σ 52) = sc) (S : ScOk T sc) (hm : m < nM T) (ha : a < 8) (hg : g < 2) (h7 : σ 70 7 = (g : Int)) (h8 : σ 70 8 = w) (hc : CA σ (vlS T F sc g w)) : ∃ σ', vcI X 264 [vP 70, vI (m : Int), vI (a : Int)] σ = some (vlS T F sc g w m a, σ') ∧ Fr [53, 54, 58, 59, 72] [] σ σ' ∧ CA σ' (vlS T F sc g w) := by
  obtain ⟨hT, H, K, hC, hM, hF⟩ := id R
  have hm8 := H.m8
  have main : ∀ b : Nat, b < 8 → ∃ σ', vv X 264 22 [some (vP 70), some (vI (m : Int)), none, none, none, none] [vI (b : Int)] σ = some (some (vI (vlS T F sc g w m b)), σ') ∧ Fr [53, 54, 58, 59, 72] [] σ σ' ∧ CA σ' (vlS T F sc g w) := by
    intro b hb
    rw [bq_264_22, ixm8 (by omega) hb, if_pos (by omega), tn_nat, NR_e]
    by_cases z : σ 72 (8 * m + b) = NR
    · rw [if_neg (fun q => q z), h7]
      obtain ⟨σ1, e1, f1, p1⟩ := c_lay_51_53 (X := X) H hT hC hF hm hg (b : Int)
      have e42 : σ 52 (42 + g) = sc (42 + g) := by rw [← hs, rs_in (by omega)]
      rw [e42, hs] at p1
      have R1 := R.fr f1 rfl rfl rfl
      have s1 : rs (σ1 52) = sc := by rw [f1.get 52 (by decide) rfl]; exact hs
      have hbb := (bts_ok (T := T) hF (sc := sc) (m := m) (g := g) (ah := w32 (sc (42 + g) + (b : Int)))).mono (show (6 : Int) ≤ 12 by omega)
      have b1 := bulk_bd H hbb (by omega)
      have w1 := c_why_51_53 (X := X) (x4 := 0) H R1.1 hm (by rw [s1]; exact S) p1 hbb
      rw [s1] at w1
      rw [e1, bsome, f1.get 70 (by decide) rfl, h8, p1.2.2.1, p1.2.2.2.1, w32_id (by omega) (by omega)]
      generalize hB : bts T F sc m g (w32 (sc (42 + g) + (b : Int))) = B at *
      have fin : ∀ x : Int, (x = if w = 2 then gainS T B else if w = 1 then -(bulkS T B) else 0) → ∃ σ', vv X 264 102 [some (vP 70), some (vI (m : Int)), none, none, some (vI ((8 * m + b : Nat) : Int)), none] [vI x] σ1 = some (some (vI (vlS T F sc g w m b)), σ') ∧ Fr [53, 54, 58, 59, 72] [] σ σ' ∧ CA σ' (vlS T F sc g w) := by
        intro x hx
        have st : ∀ y : Int, y = vlS T F sc g w m b → ∃ σ', vv X 264 137 [some (vP 70), none, none, none, some (vI ((8 * m + b : Nat) : Int)), none] [vI y, vI ((8 * m + b : Nat) : Int), vP 72] σ1 = some (some (vI (vlS T F sc g w m b)), σ') ∧ Fr [53, 54, 58, 59, 72] [] σ σ' ∧ CA σ' (vlS T F sc g w) := by
          intro y hy
          rw [bq_264_137, if_pos (by omega), bq_264_138, if_pos (by omega), tn_nat, ua, if_pos rfl, if_pos rfl, hy]
          refine ⟨_, rfl, (f1.mono rfl rfl).upd rfl (by decide), fun m' a' hm' ha' => ?_⟩
          rw [ua, if_pos rfl]
          by_cases q : 8 * m' + a' = 8 * m + b
          · have q1 : m' = m := by omega
            have q2 : a' = b := by omega
            rw [if_pos q, q1, q2]
            exact Or.inr rfl
          · rw [if_neg q, f1.get 72 (by decide) rfl]
            exact hc m' a' hm' ha'
        rw [bq_264_102, w1, bsome]
        dsimp +instances only
        by_cases u : whyS T sc m B (¬ (0 : Int) = 0) = 0
        · rw [if_neg (fun q => q u)]
          refine st x ?_
          unfold vlS
          rw [hB, if_pos u, hx]
        · rw [if_pos u]
          refine st _ ?_
          unfold vlS
          rw [hB, if_neg u]
          rfl
      by_cases y2 : w = 2
      · rw [if_neg (fun q => q y2)]
        exact fin _ (by rw [if_pos y2])
      · rw [if_pos y2]
        by_cases y1 : w = 1
        · rw [if_neg (fun q => q y1)]
          exact fin _ (by rw [if_neg y2, if_pos y1])
        · rw [if_pos y1]
          exact fin _ (by rw [if_neg y2, if_neg y1])
    · rw [if_pos z, bq_264_138, if_pos (by omega), tn_nat]
      rcases hc m b (by omega) hb with q | q
      · exact absurd q z
      · rw [q]
        exact ⟨σ, rfl, Fr.rf, hc⟩
  have key : ∃ σ', vv X 264 0 [some (vP 70), some (vI (m : Int)), some (vI (a : Int)), none, none, none] [] σ = some (some (vI (vlS T F sc g w m a)), σ') ∧ Fr [53, 54, 58, 59, 72] [] σ σ' ∧ CA σ' (vlS T F sc g w) := by
    have eb : am_and (am_shr (σ 7 20) (g : Int)) 1 = bt1 (T 7 20) g := by rw [tl_at hT (k := 7) (by omega)]; rfl
    rw [bq_264_0, h7, eb]
    by_cases z : bt1 (T 7 20) g = 0
    · rw [if_neg (fun q => q z), vlS_ag hC.2 hg z]
      exact main 0 (by omega)
    · rw [if_pos z]
      exact main a ha
  obtain ⟨σ', e, r⟩ := key
  exact ⟨σ', vI_of e rfl, r⟩
theorem plM_s (v : Nat → Nat → Int) (s p : Nat) (W : Nat → Int) (m : Nat) : plM v s p W (m + 1) = if bt1 (s : Int) m = 1 ∧ bt1 (p : Int) m = 0 ∧ ¬ v m (bcN p) = RF then up (plM v s p W m) (p + 2 ^ m) (mx (plM v s p W m (p + 2 ^ m)) (W p + v m (bcN p))) else plM v s p W m := rfl
theorem c_plM {p : Nat} (R : RT X σ T l F) (hs : rs (σ 52) = sc) (S : ScOk T sc) (hg : g < 2) (h6 : σ 70 6 = (s : Int)) (h7 : σ 70 7 = (g : Int)) (h8 : σ 70 8 = w) (hc : CA σ (vlS T F sc g w)) (hp : p < s) (hs2 : s < 256) (hsub : subS p s) (hW : PW s w W) (hr : ¬ W p = NR) (hw : ∀ j, j < 256 → σ 71 j = W j) : ∃ σ', vv X 217 46 [some (vP 70), some (vI (p : Int)), some (vI 0), none, none, none] [] σ = vv X 217 166 [some (vP 70), some (vI (p : Int)), none, none, none, none] [] σ' ∧ Fr [53, 54, 58, 59, 71, 72] [] σ σ' ∧ CA σ' (vlS T F sc g w) ∧ ∀ j, j < 256 → σ' 71 j = plM (vlS T F sc g w) s p W (nM T) j := by
  have H := R.2.1
  have hF := R.2.2.2.2.2
  have hm8 := H.m8
  have hv := vlS_ok (sc := sc) (g := g) (w := w) H hF
  have hpc := bcN_c (show p < 256 by omega)
  have bp7 : bcN p < 8 := by
    have := (subS_le (show p < 256 by omega) (show s < 256 by omega) hsub).2 (by omega)
    have b8 := bc_bd (show s < 256 by omega) 8 (by omega)
    omega
  obtain ⟨σ1, e, f1, c1, w1⟩ := lp (fun i (st : am_Sg) => vv X 217 46 [some (vP 70), some (vI (p : Int)), some (vI (i : Int)), none, none, none] [] st) (nM T) (fun i st => Fr [53, 54, 58, 59, 71, 72] [] σ st ∧ CA st (vlS T F sc g w) ∧ ∀ j, j < 256 → st 71 j = plM (vlS T F sc g w) s p W i j) (fun i st hi hh => by
    obtain ⟨fs, cs, ws⟩ := hh
    have Rs := R.fr fs rfl rfl rfl
    have hss : rs (st 52) = sc := by rw [fs.get 52 (by decide) rfl]; exact hs
    have k6 : st 70 6 = (s : Int) := by rw [fs.get 70 (by decide) rfl]; exact h6
    have k7 : st 70 7 = (g : Int) := by rw [fs.get 70 (by decide) rfl]; exact h7
    have k8 : st 70 8 = w := by rw [fs.get 70 (by decide) rfl]; exact h8
    have pok := plM_ok (show p < 256 by omega) hs2 hv hW hr i (by omega)
    have pp : plM (vlS T F sc g w) s p W i p = W p := plM_p (fun _ _ => trivial) i
    show ∃ st', vv X 217 46 [some (vP 70), some (vI (p : Int)), some (vI (i : Int)), none, none, none] [] st = vv X 217 46 [some (vP 70), some (vI (p : Int)), some (vI ((i + 1 : Nat) : Int)), none, none, none] [] st' ∧ _
    rw [plM_s]
    rcases bt01 (show p < 256 by omega) (show i < 8 by omega) with b0 | b1
    · obtain ⟨o1, o2, o3⟩ := orp0 (show p < 256 by omega) (show i < 8 by omega) b0
      have pw : 0 < 2 ^ i := Nat.pow_pos (by omega)
      have sb := subS_up (show p < 256 by omega) hs2 (show i < 8 by omega) b0
      rw [bq_217_46, g_men, bsome]
      dsimp +instances only
      rw [tl_at Rs.1 (k := 8) (by omega), H.m0, if_neg (by omega), o1, if_neg (by omega), k6]
      by_cases y : bt1 (s : Int) i = 1
      · have hz : am_and ((p + 2 ^ i : Nat) : Int) (am_xor (s : Int) (-1)) = 0 := sb.mpr ⟨hsub, y⟩
        rw [if_neg (fun q => q hz), bq_217_84, if_neg i10, k8]
        have w_with := ws (p + 2 ^ i) o2
        have go : ∃ st', vv X 217 109 [some (vP 70), some (vI (p : Int)), some (vI (i : Int)), some (vI ((p + 2 ^ i : Nat) : Int)), none, none] [] st = vv X 217 46 [some (vP 70), some (vI (p : Int)), some (vI ((i + 1 : Nat) : Int)), none, none, none] [] st' ∧ Fr [53, 54, 58, 59, 71, 72] [] σ st' ∧ CA st' (vlS T F sc g w) ∧ ∀ j, j < 256 → st' 71 j = (if bt1 (s : Int) i = 1 ∧ bt1 (p : Int) i = 0 ∧ ¬ vlS T F sc g w i (bcN p) = RF then up (plM (vlS T F sc g w) s p W i) (p + 2 ^ i) (mx (plM (vlS T F sc g w) s p W i (p + 2 ^ i)) (W p + vlS T F sc g w i (bcN p))) else plM (vlS T F sc g w) s p W i) j := by
          obtain ⟨st1, e1, g1, c1⟩ := c_worthOf (m := i) (a := bcN p) Rs hss S hi bp7 hg k7 k8 cs
          have e71 : st1 71 = st 71 := g1.get 71 (by decide) rfl
          rw [bq_217_109, c_bits (show p < 256 by omega), bsome]
          dsimp +instances only
          rw [← hpc.1, e1, bsome]
          dsimp +instances only
          rw [RF_e, e71]
          have vv1 := hv i (bcN p)
          have wp := hW p (by omega)
          have bpb := bc_bd (show p < 256 by omega) 8 (by omega)
          have st159 : ∀ x, vv X 217 159 [some (vP 70), some (vI (p : Int)), some (vI (i : Int)), none, none, none] [vI x, vI ((p + 2 ^ i : Nat) : Int), vP 71] st1 = vv X 217 46 [some (vP 70), some (vI (p : Int)), some (vI ((i + 1 : Nat) : Int)), none, none, none] [] (am_upd st1 71 (p + 2 ^ i) x) := fun x => by
            rw [bq_217_159, if_pos (by omega), tn_nat, bq_217_160, w32_s1 (by omega)]
          have fst : ∀ x, Fr [53, 54, 58, 59, 71, 72] [] σ (am_upd st1 71 (p + 2 ^ i) x) := fun x => (fs.tr (g1.mono rfl rfl)).upd rfl (by decide)
          have cst : ∀ x, CA (am_upd st1 71 (p + 2 ^ i) x) (vlS T F sc g w) := fun x m' a' h1 h2 => by
            rw [un _ (by decide)]
            exact c1 m' a' h1 h2
          by_cases z : vlS T F sc g w i (bcN p) = RF
          · rw [if_neg (fun q => q z), if_pos (by omega), st159, tn_nat]
            refine ⟨_, rfl, fst _, cst _, fun j hj => ?_⟩
            rw [if_neg (fun q => q.2.2 z), ua, if_pos rfl, e71]
            by_cases q : j = p + 2 ^ i
            · rw [if_pos q, q, w_with]
            · rw [if_neg q]
              exact ws j hj
          · have vb : -4752 ≤ vlS T F sc g w i (bcN p) ∧ vlS T F sc g w i (bcN p) ≤ 4752 := by
              rcases vv1 with q | q
              · exact absurd q z
              · exact q.1
            have wb : -(4752 * bc (p : Int) 8) ≤ W p ∧ W p ≤ 4752 * bc (p : Int) 8 := by
              rcases wp with q | q
              · exact absurd q hr
              · exact q.1
            rw [if_pos z, if_pos (by omega), if_pos (by omega), tn_nat, tn_nat, st159, w_with, ws p (by omega), pp, w32_id (by omega) (by omega)]
            refine ⟨_, rfl, fst _, cst _, fun j hj => ?_⟩
            rw [if_pos (show bt1 (s : Int) i = 1 ∧ bt1 (p : Int) i = 0 ∧ ¬ vlS T F sc g w i (bcN p) = RF from ⟨y, b0, z⟩), ua, if_pos rfl, upa, e71]
            by_cases q : j = p + 2 ^ i
            · rw [if_pos q, if_pos q]
              rfl
            · rw [if_neg q, if_neg q]
              exact ws j hj
        by_cases z8 : w = 0
        · rw [if_neg (fun q => q z8), if_pos (by omega), tn_nat, w_with, NR_e]
          by_cases zr : plM (vlS T F sc g w) s p W i (p + 2 ^ i) = NR
          · rw [if_neg (fun q => q zr)]
            exact go
          · rw [if_pos zr, bq_217_160, w32_s1 (by omega)]
            refine ⟨st, rfl, fs, cs, fun j hj => ?_⟩
            rw [ws j hj]
            by_cases q : bt1 (s : Int) i = 1 ∧ bt1 (p : Int) i = 0 ∧ ¬ vlS T F sc g w i (bcN p) = RF
            · rw [if_pos q, upa]
              by_cases q2 : j = p + 2 ^ i
              · have a1 : plM (vlS T F sc g w) s p W i (p + 2 ^ i) = 0 := by
                  rcases pok (p + 2 ^ i) o2 with u | u
                  · exact absurd u zr
                  · exact u.2.2.1 z8
                have a2 : W p = 0 := by
                  rcases hW p (by omega) with u | u
                  · exact absurd u hr
                  · exact u.2.2.1 z8
                have a3 : vlS T F sc g w i (bcN p) = 0 := by
                  rcases hv i (bcN p) with u | u
                  · exact absurd u q.2.2
                  · exact u.2.1 z8
                rw [if_pos q2, q2, a1, a2, a3]
                rfl
              · rw [if_neg q2]
            · rw [if_neg q]
        · rw [if_pos z8]
          exact go
      · have hz : ¬ am_and ((p + 2 ^ i : Nat) : Int) (am_xor (s : Int) (-1)) = 0 := fun q => y (sb.mp q).2
        rw [if_pos hz, bq_217_83, bq_217_84, if_pos rfl, bq_217_160, w32_s1 (by omega)]
        refine ⟨st, rfl, fs, cs, fun j hj => ?_⟩
        rw [if_neg (fun q => y q.1)]
        exact ws j hj
    · have o1 := orp1 (show p < 256 by omega) (show i < 8 by omega) b1
      rw [bq_217_46, g_men, bsome]
      dsimp +instances only
      rw [tl_at Rs.1 (k := 8) (by omega), H.m0, if_neg (by omega), o1, if_pos rfl, bq_217_83, bq_217_84, if_pos rfl, bq_217_160, w32_s1 (by omega)]
      refine ⟨st, rfl, fs, cs, fun j hj => ?_⟩
      rw [if_neg (fun q => by have := q.2.1; omega)]
      exact ws j hj) (nM T) 0 σ (by omega) ⟨Fr.rf, hc, hw⟩
  refine ⟨σ1, ?_, f1, c1, w1⟩
  refine Eq.trans e ?_
  show vv X 217 46 [some (vP 70), some (vI (p : Int)), some (vI (nM T : Int)), none, none, none] [] σ1 = _
  rw [bq_217_46, g_men, bsome]
  dsimp +instances only
  rw [tl_at (R.fr f1 rfl rfl rfl).1 (k := 8) (by omega), H.m0, if_pos (Int.le_refl _)]
theorem c_planHour (R : RT X σ T l F) (hs : rs (σ 52) = sc) (S : ScOk T sc) (hg : g < 2) (h6 : σ 70 6 = (s : Int)) (h7 : σ 70 7 = (g : Int)) (h8 : σ 70 8 = w) (hs2 : s < 256) (hW : PW s w W) (hw : ∀ j, j < 256 → σ 71 j = W j) : ∃ σ', vcV X 217 [vP 70] σ = some σ' ∧ Fr [53, 54, 58, 59, 71, 72] [] σ σ' ∧ ∀ j, j < 256 → σ' 71 j = plP (vlS T F sc g w) s (nM T) W s j := by
  have H := R.2.1
  have hF := R.2.2.2.2.2
  have hm8 := H.m8
  have hv := vlS_ok (sc := sc) (g := g) (w := w) H hF
  obtain ⟨σ1, e, f1, c1, w1⟩ := lp (fun p (st : am_Sg) => vv X 217 11 [some (vP 70), some (vI (p : Int)), none, none, none, none] [] st) s (fun p st => Fr [53, 54, 58, 59, 71, 72] [] σ st ∧ CA st (vlS T F sc g w) ∧ ∀ j, j < 256 → st 71 j = plP (vlS T F sc g w) s (nM T) W p j) (fun p st hp hh => by
    obtain ⟨fs, cs, ws⟩ := hh
    have Rs := R.fr fs rfl rfl rfl
    have hss : rs (st 52) = sc := by rw [fs.get 52 (by decide) rfl]; exact hs
    have k6 : st 70 6 = (s : Int) := by rw [fs.get 70 (by decide) rfl]; exact h6
    have k7 : st 70 7 = (g : Int) := by rw [fs.get 70 (by decide) rfl]; exact h7
    have k8 : st 70 8 = w := by rw [fs.get 70 (by decide) rfl]; exact h8
    show ∃ st', vv X 217 11 [some (vP 70), some (vI (p : Int)), none, none, none, none] [] st = vv X 217 11 [some (vP 70), some (vI ((p + 1 : Nat) : Int)), none, none, none, none] [] st' ∧ _
    rw [bq_217_11, k6, if_neg (by omega), plP_s]
    by_cases z1 : subS p s
    · have z1' : am_and (p : Int) (am_xor (s : Int) (-1)) = 0 := z1
      rw [if_neg (fun q => q z1'), if_pos (by omega), tn_nat, ws p (by omega), NR_e]
      by_cases z2 : plP (vlS T F sc g w) s (nM T) W p p = NR
      · rw [if_neg (fun q => q z2), bq_217_166, w32_s1 (by omega)]
        refine ⟨st, rfl, fs, cs, fun j hj => ?_⟩
        rw [if_neg (fun q => q.2 z2)]
        exact ws j hj
      · rw [if_pos z2]
        obtain ⟨st', e', f', c', w'⟩ := c_plM (p := p) Rs hss S hg k6 k7 k8 cs hp hs2 z1 (plP_ok hs2 hm8 hv hW p (by omega)) z2 ws
        rw [e', bq_217_166, w32_s1 (by omega)]
        refine ⟨st', rfl, fs.tr f', c', fun j hj => ?_⟩
        rw [if_pos ⟨z1, z2⟩]
        exact w' j hj
    · have z1' : ¬ am_and (p : Int) (am_xor (s : Int) (-1)) = 0 := z1
      rw [if_pos z1', bq_217_166, w32_s1 (by omega)]
      refine ⟨st, rfl, fs, cs, fun j hj => ?_⟩
      rw [if_neg (fun q => z1 q.1)]
      exact ws j hj) s 0 (am_row σ 72 (fun j => if j < 64 then -1000000000 else σ 72 j)) (by omega) ⟨Fr.rf.row rfl (by decide), fun m' a' h1 h2 => by
        rw [re, if_pos (by omega)]
        exact Or.inl rfl, fun j hj => by
        rw [rn _ (by decide)]
        exact hw j hj⟩
  refine ⟨σ1, vV_of ((bq_217_0 X σ).trans ?_) rfl, f1, w1⟩
  rw [fl_72, bsome]
  refine Eq.trans e ?_
  show vv X 217 11 [some (vP 70), some (vI (s : Int)), none, none, none, none] [] σ1 = _
  rw [bq_217_11, f1.get 70 (by decide) rfl, h6, if_pos (Int.le_refl _)]
end CPL
