section SIMU
variable {ft : List (List Nat)} {T Tg NT : List Cond} {tk : Nat → Option Cond} {cl : List vw_C} {rcl : List (String × (Nat → String × String))} {strs : List (String × Nat × String)} {y : Nat → MethodName} {bc : Nat → ByteArray} {mL np fr lo : Nat → Nat} {rt : Nat → Option FieldType} {code : Nat → Nat → Option am_E} {l : Launch}
/-- the call of a method whose run ends -/
theorem am_w_call {mid pc len a b d n : Nat} {z : Int} {offs : List Nat} {i : Instr} {p : Program} {e : Env} {R : Room} {s : State} {m : MethodId} {args : Array Value} {below : List Frame} {meth : Method} {c : Code} {D : va_G} {cA : Nat → ClassId} {A : Nat → Prop} {ad : Nat → Nat} {cells slots : Nat} {Q : State → Prop} {H : Heap} {locs : List Loc} {ls : Array Slot} {L : am_L} {S : List am_V} {μ μ1 : am_M} {r1 : Option am_V}
    (htk : ∀ (d : Nat) (w : Cond), tk d = some w → w ∈ T) (hT : (∀ w ∈ T, w ∈ Tg ∨ w ∈ NT) ∧ ∀ w ∈ NT, am_nest w = true) (hsub : ∀ w ∈ Tg, w ∈ T) (ih : am_SimP ft T NT cl rcl strs y bc mL fr lo rt code l n) (hgood : ∀ w ∈ Tg, goodWord w = true) (hm : am_mOk Tg y bc mL rt np a) (hX : am_X T cl D cA A p s m args c (bc mid) (mL mid) (y mid).cls) (hro : am_RO ft rcl cl.length ad A s μ.2.1 μ.2.2) (hg : am_GL NT strs ad A s) (hR : R.frames = fr mid ∧ R.locals = lo mid) (hd : decode (bc mid) pc = .ok (i, len)) (ho : am_ok29 tk cl rcl y mL np fr lo rt mid a b d z offs i len = true)
    (hb : b ≤ S.length) (hlen : (am_ent0 (S.take b).reverse).length ≤ mL a) (hcat : am_cats (S.drop b) ≤ 8) (hrecv : am_recvOk z d μ (S.take b).reverse = true) (hrun : am_run ft mL code n a 0 (am_ent (mL a) (S.take b).reverse) [] μ = some (r1, μ1)) (I : am_I ft μ L S) (hroom : cells + (μ1.1.length - μ.1.length) ≤ R.cells ∧ slots + (am_sl μ1 - am_sl μ) ≤ R.slots) (hl : am_lv ad ls (mL mid) L) (hP : va_P D cl (am_ws ft ad cA μ) H) (hD : va_D A (am_ws ft ad cA μ)) (hS : va_S A s.heap H locs)
    (kk : ∀ (ad' : Nat → Nat) (H1 : Heap) (locs1 : List Loc), am_ext μ.1.length ad ad' → va_P D cl (am_ws ft ad' cA μ1) H1 → va_D A (am_ws ft ad' cA μ1) → va_S A s.heap H1 locs1 → W p l e R s m args below meth c H1 locs1 (cells + (μ1.1.length - μ.1.length)) (slots + (am_sl μ1 - am_sl μ)) Q (F0 m (pc + len) ls ((r1.map (am_rv ad)).toList ++ (S.drop b).map (am_rv ad)))) : W p l e R s m args below meth c H locs cells slots Q (F0 m pc ls (S.map (am_rv ad))) := by
  obtain ⟨hx, hbb, hml, hown, hts, hK, hA⟩ := hX
  obtain ⟨m1, m2, m3, m4, m5, m6⟩ := id hm
  have Iv : am_I ft μ (am_ent (mL a) (S.take b).reverse) [] := ⟨I.1, fun v hv => I.2.2 v (List.mem_of_mem_take (List.mem_reverse.mp (am_ent_mem hv))), fun v hv => by cases hv⟩
  have hM := am_met (np := np) hT ih hm hlen hrun Iv D cA ad H.size
  have hF : ∀ q, va_A (am_ws ft ad cA μ) H.size q → A q := by
    intro q hq
    rcases hq with ⟨k, e', h⟩ | h
    · exact hD.2 k (q, e') h
    · exact hA q (Nat.le_trans hS.1 h)
  have hG : GoodIn T (Cond.code (y a) (bc a) (mL a) (rt a) :: Tg) := fun w hw => by
    rcases List.mem_cons.mp hw with rfl | hw
    · exact ⟨hsub _ m1, good_of_word (hgood _ m1)⟩
    · exact ⟨hsub _ hw, good_of_word (hgood _ hw)⟩
  unfold am_ok29 at ho
  simp only [Bool.and_eq_true, decide_eq_true_eq] at ho
  obtain ⟨rfl, hfr, hlo, ho⟩ := ho
  have hPc : ∀ U : State, U.heap = H → s.WarmedH U.vm → am_Pc NT ft cl rcl strs D cA ad H.size (S.take b).reverse μ (((S.take b).reverse).map (am_rv ad)).toArray U := by
    intro U hU hW
    have hq : ∀ q : Nat, q < s.heap.size → ¬ A q → U.heap[q]? = s.heap[q]? := fun q h1 h2 => by rw [hU]; exact hS.2.1 q h1 h2
    exact ⟨rfl, by rw [hU], by rw [hU]; exact hP, hD.weaken (fun _ _ _ _ => trivial), va_K.moved hW.alike hK, hro.to hq hF hW.alike, hg.to hq hF hW.alike (fun own k tx b' h => vk_R.warm hW h) (fun w hw h => am_Nw_warm (hT.2 w hw) hW h)⟩
  have hsplit : S.map (am_rv ad) = (((S.take b).reverse).map (am_rv ad)).reverse ++ (S.drop b).map (am_rv ad) := by
    rw [← List.map_reverse, List.reverse_reverse, ← List.map_append, List.take_append_drop]
  have hrest : 2 * (F0 m pc ls (S.map (am_rv ad))).monitorRoom + (((S.drop b).map (am_rv ad)).map fun v => v.category).sum ≤ 8 := lv_room (by rw [am_cats_rv]; exact hcat)
  have hRoom : fr a + 1 ≤ R.frames ∧ 8 + (mL a + 11) + lo a ≤ R.locals := by rw [hR.1, hR.2]; exact ⟨hfr, hlo⟩
  have hlenb : (S.take b).reverse.length = b := by rw [List.length_reverse, List.length_take]; omega
  split at ho
  next h1 h2 h3 =>
    split at ho
    next k =>
      simp only [Bool.and_eq_true, decide_eq_true_eq] at ho
      obtain ⟨rfl, rfl, w1, w2, w3, hci⟩ := ho
      unfold am_recvOk at hrecv
      rw [if_neg (by decide)] at hrecv
      split at hrecv
      next rb tl hvs =>
        split at hrecv
        next kd N rs hds =>
          simp only [decide_eq_true_eq] at hrecv
          subst hrecv
          have hcell : ∃ cellB : Cell, H[ad rb]? = some cellB ∧ cellB.vm.isStatics = false ∧ s.vm.findClass (y a).cls = some cellB.cls := by
            unfold am_dsc at hds
            split at hds
            next hk =>
              have hw : (am_ws ft ad cA μ)[rb]? = some (ad rb, .inr (d, (List.range N).map (am_fv ft ad (μ.2.2 rb) d rs))) := by rw [am_ws_get hds, am_cell_o]
              obtain ⟨q, hq, -⟩ := hP rb _ hw
              rw [hq] at hci
              obtain ⟨C, Tt, N'⟩ := q
              simp only [decide_eq_true_eq] at hci
              have := va_recv hK hP hq hw
              rw [← hci]
              exact this
            next hk =>
              obtain ⟨-, -, -, -, h5⟩ := hro _ _ hds
              obtain ⟨h6, q, h7, h8, -⟩ := h5 (by show 4 ≤ 4 + d; omega)
              have ea : 4 + d - 4 = d := by omega
              have ek : 1000 + (rb - 1000) = rb := by omega
              dsimp only at h6 h7
              rw [ea] at h6 h7
              rw [ek] at h8
              have hn : cl[d]? = none := List.getElem?_eq_none (by omega)
              rw [hn] at hci
              dsimp only at hci
              rw [h7] at hci
              obtain ⟨C, Tf⟩ := q
              simp only [decide_eq_true_eq] at hci
              obtain ⟨cell, g1, g2, g3, -⟩ := h8.kept hS.2.1
              rw [← hci]
              exact ⟨cell, g1, g2, g3⟩
          have hvs' : (S.take (np a + 1)).reverse = .inr (.inr rb) :: tl := hvs
          have htl : tl.length = np a := by
            have := hlenb
            rw [hvs'] at this
            simpa using this
          have cw : CallW R s args (y mid).cls (y a).cls k (y a) (bc a) (mL a) (rt a) (Cond.code (y a) (bc a) (mL a) (rt a) :: Tg) ({ frames := fr a, cells := μ1.1.length - μ.1.length, slots := am_sl μ1 - am_sl μ, locals := lo a } : Room) (μ1.1.length - μ.1.length) (am_sl μ1 - am_sl μ) (np a) :=
            ⟨callB_of (np a) hts hG rfl rfl rfl (hts _ (hsub _ m2)) (hts _ (htk _ _ w1)) ⟨m3, m4, m5⟩ hRoom, hts _ (htk _ _ w2), hts _ (htk _ _ w3)⟩
          rw [hvs'] at hM hPc hsplit
          have run := va_runV (H := H) (locs := locs) (cells := cells) (slots := slots) (below := below) (e := e) (meth := meth) (g := F0 m pc ls (S.map (am_rv ad))) (b := ad rb) (As := tl.map (am_rv ad)) (rest := (S.drop (np a + 1)).map (am_rv ad)) (Ts := T) ⟨hx, hbb, hml, hown, hts⟩ hM cw ⟨am_Pc.blind hT.2, hcell, hPc⟩ rfl (by rw [List.length_map]; exact htl) hl.1.1 (by show S.map (am_rv ad) = _; rw [hsplit]; simp [am_rv]) hrest hd hroom
          exact am_call run hS hF kk
        next => cases hrecv
      next => cases hrecv
    next k =>
      simp only [Bool.and_eq_true, decide_eq_true_eq] at ho
      obtain ⟨rfl, rfl, w1, w2⟩ := ho
      have cw : CallB R s args (y mid).cls k (y a) (bc a) (mL a) (rt a) (Cond.code (y a) (bc a) (mL a) (rt a) :: Tg) ({ frames := fr a, cells := μ1.1.length - μ.1.length, slots := am_sl μ1 - am_sl μ, locals := lo a } : Room) (μ1.1.length - μ.1.length) (am_sl μ1 - am_sl μ) (np a) ∧ (Cond.static (y a)).before args s = true :=
        ⟨callB_of (np a) hts hG rfl rfl rfl (hts _ (hsub _ m2)) (hts _ (htk _ _ w1)) ⟨m3, m4, m5⟩ hRoom, hts _ (htk _ _ w2)⟩
      have run := va_runS (H := H) (locs := locs) (cells := cells) (slots := slots) (below := below) (e := e) (meth := meth) (g := F0 m pc ls (S.map (am_rv ad))) (As := ((S.take (np a)).reverse).map (am_rv ad)) (rest := (S.drop (np a)).map (am_rv ad)) (Ts := T) ⟨hx, hbb, hml, hown, hts⟩ hM cw ⟨am_Pc.blind hT.2, hPc⟩ rfl (by rw [List.length_map]; exact hlenb) hl.1.1 hsplit hrest hd hroom
      exact am_call run hS hF kk
    next k =>
      simp only [Bool.and_eq_true, decide_eq_true_eq, Bool.or_eq_true] at ho
      obtain ⟨rfl, wi, wr, w2, hk⟩ := ho
      have hz : ¬ z = 1 := by rcases hk with h | h <;> omega
      unfold am_recvOk at hrecv
      rw [if_neg hz] at hrecv
      split at hrecv
      next rb tl hvs =>
        have hvs' : (S.take (np a + 1)).reverse = .inr (.inr rb) :: tl := hvs
        have htl : tl.length = np a := by
          have := hlenb
          rw [hvs'] at this
          simpa using this
        rw [hvs'] at hM hPc hsplit
        rw [wr] at hM hG
        have hcode : (Cond.code (y a) (bc a) (mL a) none).before args s = true := by rw [← wr]; exact hts _ (hsub _ m1)
        rcases hk with ⟨-, w1⟩ | ⟨-, w1⟩
        · have cw : CallB R s args (y mid).cls k (y a) (bc a) (mL a) none (Cond.code (y a) (bc a) (mL a) none :: Tg) ({ frames := fr a, cells := μ1.1.length - μ.1.length, slots := am_sl μ1 - am_sl μ, locals := lo a } : Room) (μ1.1.length - μ.1.length) (am_sl μ1 - am_sl μ) (np a) ∧ (y a).name = "<init>" ∧ (Cond.instanceMethod (y a)).before args s = true :=
            ⟨callB_of (np a) hts hG rfl rfl rfl (hts _ (hsub _ m2)) (hts _ (htk _ _ w1)) ⟨m3, m4, m5⟩ hRoom, wi, hts _ (htk _ _ w2)⟩
          have run := va_runI (H := H) (locs := locs) (cells := cells) (slots := slots) (below := below) (e := e) (meth := meth) (g := F0 m pc ls (S.map (am_rv ad))) (b := ad rb) (As := tl.map (am_rv ad)) (rest := (S.drop (np a + 1)).map (am_rv ad)) (Ts := T) ⟨hx, hbb, hml, hown, hts⟩ hM cw ⟨am_Pc.blind hT.2, hPc⟩ rfl (by rw [List.length_map]; exact htl) hl.1.1 (by show S.map (am_rv ad) = _; rw [hsplit]; simp [am_rv]) hrest hd hroom
          exact am_call run hS hF kk
        · have hn : ∀ sig, parseMethodDescriptor (y a).desc = some sig → np a = sig.parameters.length := fun sig h => by
            rw [h] at m5
            exact (Option.some.inj m5).symm
          have cw : va_CN R s args (y mid).cls k (y a) "EatenToll" (bc a) (mL a) none (Cond.code (y a) (bc a) (mL a) none :: Tg) ({ frames := fr a, cells := μ1.1.length - μ.1.length, slots := am_sl μ1 - am_sl μ, locals := lo a } : Room) (μ1.1.length - μ.1.length) (am_sl μ1 - am_sl μ) (np a) ∧ (y a).name = "<init>" ∧ (Cond.instanceMethod (y a)).before args s = true :=
            ⟨⟨⟨rfl, rfl, hRoom.1, hRoom.2, pay_in hts hG, List.mem_cons_self⟩, hcode, hts _ (hsub _ m2), ⟨m3, m4⟩, hn, hts _ (htk _ _ w1)⟩, wi, hts _ (htk _ _ w2)⟩
          have run := va_runIN (H := H) (locs := locs) (cells := cells) (slots := slots) (below := below) (e := e) (meth := meth) (g := F0 m pc ls (S.map (am_rv ad))) (b := ad rb) (As := tl.map (am_rv ad)) (rest := (S.drop (np a + 1)).map (am_rv ad)) (Ts := T) ⟨hx, hbb, hml, hown, hts⟩ hM cw ⟨am_Pc.blind hT.2, hPc⟩ rfl (by rw [List.length_map]; exact htl) hl.1.1 (by show S.map (am_rv ad) = _; rw [hsplit]; simp [am_rv]) hrest hd hroom
          exact am_call run hS hF kk
      next => cases hrecv
    next => cases ho
  next => cases ho
/-- THE SIMULATION: a run of the abstract machine that ends is one of the machine -/
theorem am_sim (hpr : am_Prog ft T Tg NT tk cl rcl strs y bc mL np fr lo rt code) : ∀ n, am_SimP ft T NT cl rcl strs y bc mL fr lo rt code l n := by
  obtain ⟨hcl, hgl, hck, hchk, hm, hgood, hsub, hTn, hNT, htk⟩ := hpr
  have hok : ∀ mid pc e, code mid pc = some e → am_okc e ∧ (e.1 = 26 → e.2.2.1 < 4) := fun mid pc e h => am_chk_okc (hchk mid pc e h)
  intro n
  induction n with
  | zero => intro mid pc L S μ r μ' h; cases h
  | succ n ih =>
    intro mid pc L S μ r μ' h I p e R s m args below meth c D cA A ad cells slots Q H locs ls hX hnm hR hroom hro hg hl hP hD hS hend
    unfold am_run at h
    split at h
    next => cases h
    next op len a b d z ks offs he =>
      split at h
      next hop =>
        subst hop
        split at h
        next hc =>
          obtain ⟨hb, hlen, hcat, hrecv⟩ := hc
          split at h
          next => cases h
          next r1 μ1 hr1 =>
            have Iv : am_I ft μ (am_ent (mL a) (S.take b).reverse) [] := ⟨I.1, fun v hv => I.2.2 v (List.mem_of_mem_take (List.mem_reverse.mp (am_ent_mem hv))), fun v hv => by cases hv⟩
            obtain ⟨⟨g1, g2⟩, g3⟩ := am_p_run hok _ _ _ _ _ _ _ _ hr1 Iv
            have I1 : am_I ft μ1 (am_kill ks L) (r1.toList ++ S.drop b) := ⟨g1, fun v hv => (I.2.1 v (am_mem_kill hv)).mono g3.1, fun v hv => by
              rcases List.mem_append.mp hv with q | q
              · exact g2 v (by simpa using q)
              · exact (I.2.2 v (List.mem_of_mem_drop q)).mono g3.1⟩
            obtain ⟨-, k2⟩ := am_p_run hok _ _ _ _ _ _ _ _ h I1
            have hch := hchk mid pc _ he
            unfold am_chk at hch
            dsimp only at hch
            split at hch
            next => cases hch
            next i l' hd =>
              simp only [Bool.and_eq_true, decide_eq_true_eq] at hch
              obtain ⟨rfl, hch⟩ := hch
              have q1 := g3.1
              have q2 := g3.2.1
              have q3 := k2.1
              have q4 := k2.2.1
              refine am_w_call htk ⟨hTn, hNT⟩ hsub ih hgood (hm mid pc _ he rfl) hX hro hg hR hd hch hb hlen hcat hrecv hr1 I ⟨by omega, by omega⟩ hl hP hD hS (fun ad' H1 locs1 hext p1 p2 p3 => ?_)
              have est : (r1.map (am_rv ad)).toList ++ (S.drop b).map (am_rv ad) = (r1.toList ++ S.drop b).map (am_rv ad') := by
                rw [List.map_append, am_rvs_ext hext (fun v hv => I.2.2 v (List.mem_of_mem_drop hv))]
                congr 1
                cases r1 with
                | none => rfl
                | some v =>
                  show [am_rv ad v] = [am_rv ad' v]
                  rw [am_rv_any (am_run_tag _ _ _ _ _ _ _ _ hr1 v rfl)]
              rw [est]
              refine ih mid (pc + l') (am_kill ks L) (r1.toList ++ S.drop b) μ1 r μ' h I1 p e R s m args below meth c D cA A ad' _ _ Q H1 locs1 ls hX hnm hR ⟨by omega, by omega⟩ (hro.step I.1 g3 hext) (hg.ext hext) ((hl.kill ks).ext hext (fun v hv => I.2.1 v (am_mem_kill hv))) p1 p2 p3 (fun ad2 H2 locs2 ls2 pc2 S2 ap i2 len2 hx2 hd2 h30 hret hok2 P2 D2 S2' => ?_)
              have := hend ad2 H2 locs2 ls2 pc2 S2 ap i2 len2 (hext.tr hx2 g3.1) hd2 h30 hret hok2 P2 D2 S2'
              refine W.cs ?_ ?_ this <;> omega
        next => cases h
      next =>
        split at h
        next hop =>
          subst hop
          split at h
          next => cases h
          next r1 hr1 =>
            simp only [Option.some.injEq, Prod.mk.injEq] at h
            obtain ⟨rfl, rfl⟩ := h
            have hch := hchk mid pc _ he
            unfold am_chk at hch
            dsimp only at hch
            split at hch
            next => cases hch
            next i l' hd =>
              simp only [Bool.and_eq_true, decide_eq_true_eq] at hch
              obtain ⟨rfl, hch⟩ := hch
              have := hend ad H locs ls pc S a i l' am_ext.rf hd hch hr1 I.2.2 hP hD hS
              refine W.cs ?_ ?_ this <;> omega
        next =>
          split at h
          next => cases h
          next pc1 L1 S1 μ1 hs =>
            obtain ⟨I1, g3⟩ := am_p_step (hok mid pc _ he).1 (hok mid pc _ he).2 hs (I.kill ks)
            obtain ⟨-, k2⟩ := am_p_run hok _ _ _ _ _ _ _ _ h I1
            have q1 := g3.1
            have q2 := g3.2.1
            have q3 := k2.1
            have q4 := k2.2.1
            refine am_w_step htk hX hcl hgl hsub hgood hck hro hg hnm hR (hchk mid pc _ he) hs (I.kill ks) ⟨by omega, by omega⟩ (hl.kill ks) hP hD hS (fun ad' H1 locs1 ls1 hext l1 p1 p2 p3 => ?_)
            refine ih mid pc1 L1 S1 μ1 r μ' h I1 p e R s m args below meth c D cA A ad' _ _ Q H1 locs1 ls1 hX hnm hR ⟨by omega, by omega⟩ (hro.step I.1 g3 hext) (hg.ext hext) l1 p1 p2 p3 (fun ad2 H2 locs2 ls2 pc2 S2 ap i2 len2 hx2 hd2 h30 hret hok2 P2 D2 S2' => ?_)
            have := hend ad2 H2 locs2 ls2 pc2 S2 ap i2 len2 (hext.tr hx2 g3.1) hd2 h30 hret hok2 P2 D2 S2'
            refine W.cs ?_ ?_ this <;> omega
end SIMU
