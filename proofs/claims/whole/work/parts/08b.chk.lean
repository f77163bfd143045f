/-! String.checkIndex, with the static that is only carried -/
def am_yp : MethodName := ⟨"jdk/internal/util/Preconditions", "checkIndex", "(IILjava/util/function/BiFunction;)I"⟩
def am_yc : MethodName := ⟨"java/lang/String", "checkIndex", "(II)V"⟩
def am_ckOk (T : List Cond) : Prop := Cond.code am_yc prog_18_method_155_code 2 none ∈ T ∧ Cond.static am_yc ∈ T ∧ Cond.initialized "java/lang/String" ∈ T ∧ Cond.code am_yp prog_23_method_11_code 3 (some .int) ∈ T ∧ Cond.static am_yp ∈ T ∧ Cond.initialized "jdk/internal/util/Preconditions" ∈ T ∧ Cond.fieldLink "java/lang/String" 1053 "jdk/internal/util/Preconditions" "SIOOBE_FORMATTER" "Ljava/util/function/BiFunction;" ∈ T ∧ Cond.methodLink "java/lang/String" 1059 am_yp ∈ T
theorem dp_0 : decode prog_23_method_11_code 0 = .ok (.iload_n 0, 1) := by decide +kernel
theorem dp_1 : decode prog_23_method_11_code 1 = .ok (.ifCond .lt 8, 3) := by decide +kernel
theorem dp_4 : decode prog_23_method_11_code 4 = .ok (.iload_n 0, 1) := by decide +kernel
theorem dp_5 : decode prog_23_method_11_code 5 = .ok (.iload_n 1, 1) := by decide +kernel
theorem dp_6 : decode prog_23_method_11_code 6 = .ok (.if_icmp .lt 10, 3) := by decide +kernel
theorem dp_16 : decode prog_23_method_11_code 16 = .ok (.iload_n 0, 1) := by decide +kernel
theorem dp_17 : decode prog_23_method_11_code 17 = .ok (.ireturn, 1) := by decide +kernel
theorem dc_0 : decode prog_18_method_155_code 0 = .ok (.iload_n 0, 1) := by decide +kernel
theorem dc_1 : decode prog_18_method_155_code 1 = .ok (.iload_n 1, 1) := by decide +kernel
theorem dc_2 : decode prog_18_method_155_code 2 = .ok (.getstatic 1053, 3) := by decide +kernel
theorem dc_5 : decode prog_18_method_155_code 5 = .ok (.invokestatic 1059, 3) := by decide +kernel
theorem dc_8 : decode prog_18_method_155_code 8 = .ok (.pop, 1) := by decide +kernel
theorem dc_9 : decode prog_18_method_155_code 9 = .ok (.return_, 1) := by decide +kernel
/-- the heap stays, the answer is v -/
def am_Qs (v : Option Value) : Array Value → State → Outcome → State → Prop := fun _ st o t => o = .returned v ∧ t.heap = st.heap
theorem am_call0 {p : Program} {l : Launch} {e : Env} {R : Room} {s : State} {m : MethodId} {args : Array Value} {below : List Frame} {meth : Method} {c : Code} {H : Heap} {locs : List Loc} {cells slots pc : Nat} {Q : State → Prop} {ls : Array Slot} {st0 rest : List Value} {v : Option Value} {aa : Array Value} (hr : va_Run p l e R s m args below meth c H locs cells slots 0 0 (F0 m pc ls st0) rest (am_Qs v aa) (fun _ => False)) (kk : W p l e R s m args below meth c H locs cells slots Q (F0 m (pc + 3) ls (v.toList ++ rest))) : W p l e R s m args below meth c H locs cells slots Q (F0 m pc ls st0) := by
  intro T hT X
  obtain ⟨w, st₀, t, T', L, h0, X', hL, e1, e2, ⟨hv, hh⟩, st⟩ := hr T hT X
  have hv' : w = v := by injection hv
  subst hv'
  have hL0 : L = [] := List.eq_nil_iff_forall_not_mem.mpr hL
  subst hL0
  rw [List.append_nil] at X'
  obtain ⟨t2, a1, b1⟩ := kk T' (by rw [e1, hh, h0]) X'
  exact ⟨t2, st t2 a1, b1⟩
theorem am_cp_met {l : Launch} {T : List Cond} {i n : Int32} {v : Value} (hcv : v.category = 1) (h0 : ¬ i < 0) (h1 : i < n) : Met l am_yp (Cond.code am_yp prog_23_method_11_code 3 (some .int) :: T) ({ frames := 0, cells := 0, slots := 0, locals := 0 } : Room) (fun a _ => a = ([.int i, .int n, v] : List Value).toArray) (am_Qs (some (.int i))) 0 0 (fun _ => False) := by
  refine Met.ofW (cc := prog_23_method_11_code) (maxL := 3) (ret := some .int) (by decide) rfl ?_
  intro p e s m args below meth c s₁ B hml hv
  subst hv
  have hx := B.exec
  have hb := B.bytes
  have hr := B.returns
  have hlocks := B.notSynchronized
  have hsl : (lg_sl ([.int i, .int n, v] : List Value)).length ≤ 3 := by
    match v, hcv with
    | .int _, _ => exact Nat.le_refl 3
    | .float _, _ => exact Nat.le_refl 3
    | .null, _ => exact Nat.le_refl 3
    | .ref _, _ => exact Nat.le_refl 3
    | .retAddr _, _ => exact Nat.le_refl 3
  have hl := lv_entry ([.int i, .int n, v] : List Value) (n := 3) hsl
  rw [lg_entry_eq]
  generalize (lg_sl ([.int i, .int n, v] : List Value) ++ List.replicate (3 - (lg_sl ([.int i, .int n, v] : List Value)).length) Slot.unset).toArray = ls at hl ⊢
  have hl0 : ls[0]? = some (.val (.int i)) := lv_at hl 0 rfl
  have hl1 : ls[1]? = some (.val (.int n)) := lv_at hl 1 rfl
  refine lv_iload_n hx hb dp_0 rfl hl0 ?_
  refine lv_if_lt (tgt := 9) hx hb dp_1 (by decide) (fun z => absurd z h0) (fun _ => ?_)
  refine lv_iload_n hx hb dp_4 rfl hl0 ?_
  refine lv_iload_n hx hb dp_5 rfl hl1 ?_
  refine lv_icmp_lt (tgt := 16) hx hb dp_6 (by decide) (fun _ => ?_) (fun z => absurd h1 z)
  refine lv_iload_n hx hb dp_16 rfl hl0 ?_
  exact W.iret hx hb hr (fun t ht _ => ⟨rfl, ht⟩) (fun q hq => by cases hq) dp_17
theorem am_cc_met {l : Launch} {T : List Cond} (hgood : ∀ w ∈ T, goodWord w = true) (hk : am_ckOk T) {i n : Int32} (h0 : ¬ i < 0) (h1 : i < n) : Met l am_yc (Cond.code am_yc prog_18_method_155_code 2 none :: T) ({ frames := 1, cells := 0, slots := 0, locals := 22 } : Room) (fun a U => a = ([.int i, .int n] : List Value).toArray ∧ va_Zq "jdk/internal/util/Preconditions" "SIOOBE_FORMATTER" "Ljava/util/function/BiFunction;" (fun q => U.heap.size ≤ q) U U.heap) (am_Qs none) 0 0 (fun _ => False) := by
  refine Met.ofW (cc := prog_18_method_155_code) (maxL := 2) (ret := none) (by decide) rfl ?_
  intro p e s m args below meth c s₁ B hml hv
  obtain ⟨rfl, hz⟩ := hv
  have hx := B.exec
  have hb := B.bytes
  have hr := B.returns
  have hlocks := B.notSynchronized
  have hts0 := atoms_spec (ws := Cond.code am_yc prog_18_method_155_code 2 none :: T) B.pre
  have hts : ∀ w ∈ T, w.before ([.int i, .int n] : List Value).toArray s = true := fun w hw => hts0 w (List.mem_cons_of_mem _ hw)
  have hown : s.vm.findClass "java/lang/String" = some m.cls := findClass_of_methodNamed B.named
  have hl := lv_entry ([.int i, .int n] : List Value) (n := 2) (Nat.le_of_ble_eq_true rfl)
  rw [lg_entry_eq]
  generalize (lg_sl ([.int i, .int n] : List Value) ++ List.replicate (2 - (lg_sl ([.int i, .int n] : List Value)).length) Slot.unset).toArray = ls at hl ⊢
  have hl0 : ls[0]? = some (.val (.int i)) := lv_at hl 0 rfl
  have hl1 : ls[1]? = some (.val (.int n)) := lv_at hl 1 rfl
  have hS : va_S (fun q => s.heap.size ≤ q) s.heap s.heap [] := va_S.rf
  have hG : GoodIn T (Cond.code am_yp prog_23_method_11_code 3 (some .int) :: T) := fun w hw => by
    rcases List.mem_cons.mp hw with rfl | hw
    · exact ⟨hk.2.2.2.1, good_of_word (hgood _ hk.2.2.2.1)⟩
    · exact ⟨hw, good_of_word (hgood _ hw)⟩
  obtain ⟨v, hcv, hv⟩ : ∃ v : Value, v.category = 1 ∧ va_Z "jdk/internal/util/Preconditions" "SIOOBE_FORMATTER" "Ljava/util/function/BiFunction;" v (fun q => s.heap.size ≤ q) s s.heap := by
    rcases hz with h | ⟨t, h⟩
    · exact ⟨.null, rfl, h⟩
    · exact ⟨.ref t, rfl, h⟩
  refine lv_iload_n hx hb dc_0 rfl hl0 ?_
  refine lv_iload_n hx hb dc_1 rfl hl1 ?_
  refine va_gets hx hb hv hS hown (hts _ hk.2.2.2.2.2.2.1) (fun x z => z) dc_2 ?_
  have cw : CallB (headSpec (Cond.code am_yc prog_18_method_155_code 2 none :: T) ({ frames := 1, cells := 0, slots := 0, locals := 22 } : Room)).room s ([.int i, .int n] : List Value).toArray "java/lang/String" 1059 am_yp prog_23_method_11_code 3 (some .int) (Cond.code am_yp prog_23_method_11_code 3 (some .int) :: T) ({ frames := 0, cells := 0, slots := 0, locals := 0 } : Room) 0 0 3 ∧ (Cond.static am_yp).before ([.int i, .int n] : List Value).toArray s = true :=
    ⟨callB_of 3 hts hG rfl rfl rfl (hts _ hk.2.2.2.2.2.1) (hts _ hk.2.2.2.2.2.2.2) ⟨by decide, by decide, by decide +kernel⟩ ⟨Nat.le_refl 1, Nat.le_refl 22⟩, hts _ hk.2.2.2.2.1⟩
  have run := va_runS (H := s.heap) (locs := []) (cells := 0) (slots := 0) (below := below) (e := e) (meth := meth) (g := F0 m 5 ls [v, .int n, .int i]) (As := [.int i, .int n, v]) (rest := []) (Ts := T) ⟨hx, hb, hml, hown, hts⟩ (am_cp_met (l := l) (T := T) hcv h0 h1) cw ⟨fun _ _ _ _ z => z, fun _ _ _ => rfl⟩ rfl rfl hl.1 rfl (lv_room (by decide)) dc_5 ⟨Nat.le_refl _, Nat.le_refl _⟩
  refine am_call0 run ?_
  refine lv_pop hx hb dc_8 rfl ?_
  exact W.vret hx hb hr (fun t ht _ => ⟨rfl, ht⟩) (fun q hq => by cases hq) dc_9
def am_ok35 (tk : Nat → Option Cond) (own : String) (fr lo d : Nat) (i : Instr) (len : Nat) : Bool := match i with
  | .invokestatic k => decide (len = 3) && (decide (tk d = some (.methodLink own k am_yc)) && (decide (2 ≤ fr) && decide (43 ≤ lo)))
  | _ => false
theorem am_w_chk {ft : List (List Nat)} {p : Program} {l : Launch} {e : Env} {R : Room} {s : State} {m : MethodId} {args : Array Value} {below : List Frame} {meth : Method} {c : Code} {D : va_G} {cl : List vw_C} {cA : Nat → ClassId} {A : Nat → Prop} {nL : Nat} {ad : Nat → Nat} {μ μ' : am_M} {cells slots : Nat} {Q : State → Prop} {pc pc' len : Nat} {L L' : am_L} {S S' : List am_V} {T : List Cond} {tk : Nat → Option Cond} {cc : ByteArray} {own : String} {H : Heap} {locs : List Loc} {ls : Array Slot} {i : Instr} {strs : List (String × Nat × String)} {NT Tg : List Cond} {d fr lo : Nat} (htk : ∀ (d : Nat) (w : Cond), tk d = some w → w ∈ T) (X : am_X T cl D cA A p s m args c cc nL own) (hsub : ∀ w ∈ Tg, w ∈ T) (hgood : ∀ w ∈ Tg, goodWord w = true) (hk : am_ckOk Tg) (hg : am_GL NT strs ad A s) (hR : R.frames = fr ∧ R.locals = lo) (hc0 : cells ≤ R.cells ∧ slots ≤ R.slots) (hd : decode cc pc = .ok (i, len)) (ho : am_ok35 tk own fr lo d i len = true) (h : am_schk (pc + len) L S μ = some (pc', L', S', μ')) (I : am_I ft μ L S) (hl : am_lv ad ls nL L) (hP : va_P D cl (am_ws ft ad cA μ) H) (hD : va_D A (am_ws ft ad cA μ)) (hS : va_S A s.heap H locs) (kk : am_Kk ft p l e R s m args below meth c D cl cA A nL ad μ cells slots Q pc' L' S' μ') : W p l e R s m args below meth c H locs cells slots Q (F0 m pc ls (S.map (am_rv ad))) := by
  obtain ⟨hx, hb, hml, hown, hts0, hK, hA⟩ := X
  have hts : ∀ w ∈ Tg, w.before args s = true := fun w hw => hts0 w (hsub w hw)
  unfold am_ok35 at ho
  split at ho
  next kx =>
    simp only [Bool.and_eq_true, decide_eq_true_eq] at ho
    obtain ⟨rfl, hlk, hf, hlo⟩ := ho
    unfold am_schk at h
    split at h
    next n x S1 =>
      split at h
      next hc =>
        obtain ⟨h0, h1, hcat⟩ := hc
        simp only [Option.some.injEq, Prod.mk.injEq] at h
        obtain ⟨rfl, rfl, rfl, rfl⟩ := h
        have rn : -2147483648 ≤ n ∧ n < 2147483648 := I.top
        have rx : -2147483648 ≤ x ∧ x < 2147483648 := I.pop.top
        have g0 : ¬ Int32.ofInt x < 0 := by rw [← am_o0, am_olt rx (by omega)]; omega
        have g1 : Int32.ofInt x < Int32.ofInt n := (am_olt rx rn).mpr h1
        have hG : GoodIn Tg (Cond.code am_yc prog_18_method_155_code 2 none :: Tg) := fun w hw => by
          rcases List.mem_cons.mp hw with rfl | hw
          · exact ⟨hk.1, good_of_word (hgood _ hk.1)⟩
          · exact ⟨hw, good_of_word (hgood _ hw)⟩
        have cw : CallB R s args own kx am_yc prog_18_method_155_code 2 none (Cond.code am_yc prog_18_method_155_code 2 none :: Tg) ({ frames := 1, cells := 0, slots := 0, locals := 22 } : Room) 0 0 2 ∧ (Cond.static am_yc).before args s = true :=
          ⟨callB_of 2 hts hG rfl rfl rfl (hts _ hk.2.2.1) (hts0 _ (htk _ _ hlk)) ⟨by decide, by decide, by decide +kernel⟩ ⟨by show 1 + 1 ≤ R.frames; omega, by show 8 + (2 + 11) + 22 ≤ R.locals; omega⟩, hts _ hk.2.1⟩
        have hlt : ∀ q, H.size ≤ q → A q := fun q hq => hA q (Nat.le_trans hS.1 hq)
        have run := va_runS (H := H) (locs := locs) (cells := cells) (slots := slots) (below := below) (e := e) (meth := meth) (g := F0 m pc ls (.int (Int32.ofInt n) :: .int (Int32.ofInt x) :: S1.map (am_rv ad))) (As := [.int (Int32.ofInt x), .int (Int32.ofInt n)]) (rest := S1.map (am_rv ad)) (Ts := Tg) ⟨hx, hb, hml, hown, hts⟩ (am_cc_met (l := l) hgood hk g0 g1) cw
          ⟨fun a U g mk z => ⟨z.1, va_Zq.moved (u := U) (U := U.calling g mk a) (Vm.Alike.refl U.vm) z.2⟩, fun U hU hW => ⟨rfl, by
            have z1 := hg.2.2.2.1.kept (H1 := H) (fun a ha hna => hS.2.1 a ha hna)
            have z2 := z1.narrow (B := fun q => U.heap.size ≤ q) (fun q hq => hlt q (by rw [hU] at hq; exact hq))
            have z3 := z2.moved hW.alike
            rw [hU] at z3 ⊢
            exact z3⟩⟩ rfl rfl hl.1.1 rfl (lv_room (by rw [am_cats_rv]; exact hcat)) hd ⟨hc0.1, hc0.2⟩
        exact am_call0 run (kk.same hl hP hD hS)
      next => cases h
    next => cases h
  next => cases ho
