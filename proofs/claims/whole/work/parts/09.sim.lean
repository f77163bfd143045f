/-! the whole abstract machine beside the machine -/
theorem am_roc.to {ft : List (List Nat)} {rcl : List (String × (Nat → String × String))} {ncl : Nat} {ad : Nat → Nat} {A B : Nat → Prop} {s U : State} {k : Nat} {c : am_C} {f : Nat → Int} (h : am_roc ft rcl ncl ad A s k c f) (hq : ∀ a : Nat, a < s.heap.size → ¬ A a → U.heap[a]? = s.heap[a]?) (hAB : ∀ q, B q → A q) (hvm : s.vm.Alike U.vm) : am_roc ft rcl ncl ad B U k c f := by
  obtain ⟨h0, h1, h2, h3, h4⟩ := h
  refine ⟨fun z => ((h0 z).kept hq).narrow hAB |>.moved hvm, fun z => ((h1 z).kept hq).narrow hAB |>.moved hvm, h2, h3, fun z => ?_⟩
  obtain ⟨g0, q, g1, g2, g3⟩ := h4 z
  exact ⟨g0, q, g1, (g2.kept hq).narrow hAB |>.moved hvm, fun j hj => ((g3 j hj).kept hq).narrow hAB |>.moved hvm⟩
theorem am_RO.to {ft : List (List Nat)} {rcl : List (String × (Nat → String × String))} {ncl : Nat} {ad : Nat → Nat} {A B : Nat → Prop} {s U : State} {ro : List am_C} {σ : Nat → Nat → Int} (h : am_RO ft rcl ncl ad A s ro σ) (hq : ∀ a : Nat, a < s.heap.size → ¬ A a → U.heap[a]? = s.heap[a]?) (hAB : ∀ q, B q → A q) (hvm : s.vm.Alike U.vm) : am_RO ft rcl ncl ad B U ro σ := fun i c hc => (h i c hc).to hq hAB hvm
/-- links to a nest mate: they are carried beside the other words -/
def am_nest : Cond → Bool
  | .fieldLinkNest .. => true
  | .methodLinkNest .. => true
  | _ => false
theorem am_Nw_warm {w : Cond} (hn : am_nest w = true) {s U : State} (hW : s.WarmedH U.vm) (h : va_Nw w s) : va_Nw w U := by
  cases w <;> first | exact va_Nw.warmF hW h | exact va_Nw.warmM hW h | cases hn
theorem am_nest_tab {w : Cond} (hn : am_nest w = true) : w.onTables = true := by
  cases w <;> first | rfl | cases hn
theorem am_GL.to {NT : List Cond} {strs : List (String × Nat × String)} {ad : Nat → Nat} {A B : Nat → Prop} {s U : State} (h : am_GL NT strs ad A s) (hq : ∀ a : Nat, a < s.heap.size → ¬ A a → U.heap[a]? = s.heap[a]?) (hAB : ∀ q, B q → A q) (hvm : s.vm.Alike U.vm) (hR : ∀ (own : String) (k : Nat) (tx : String) (a : Nat), vk_R own k tx a s → vk_R own k tx a U) (hN : ∀ w ∈ NT, va_Nw w s → va_Nw w U) : am_GL NT strs ad B U :=
  ⟨(h.1.kept hq).narrow hAB |>.moved hvm, (h.2.1.kept hq).narrow hAB |>.moved hvm, fun a q hq' => hR _ _ _ _ (h.2.2.1 a q hq'), (h.2.2.2.1.kept hq).narrow hAB |>.moved hvm, fun w hw => hN w hw (h.2.2.2.2 w hw)⟩
theorem am_GL.ext {NT : List Cond} {strs : List (String × Nat × String)} {ad ad' : Nat → Nat} {A : Nat → Prop} {s : State} {n : Nat} (h : am_GL NT strs ad A s) (hx : am_ext n ad ad') : am_GL NT strs ad' A s := by
  refine ⟨?_, h.2.1, fun a q hq => ?_, h.2.2.2⟩
  · rw [hx 1001 (Or.inr (by omega))]; exact h.1
  · rw [hx (1002 + a) (Or.inr (by omega))]; exact h.2.2.1 a q hq
theorem am_RO.step {ft : List (List Nat)} {rcl : List (String × (Nat → String × String))} {ncl : Nat} {ad ad' : Nat → Nat} {A : Nat → Prop} {s : State} {μ μ' : am_M} (h : am_RO ft rcl ncl ad A s μ.2.1 μ.2.2) (I : am_R ft μ) (G : am_G μ μ') (hx : am_ext μ.1.length ad ad') : am_RO ft rcl ncl ad' A s μ'.2.1 μ'.2.2 := by
  intro i c hc
  rw [G.2.2.1] at hc
  have hd : am_dsc μ (1000 + i) = some c := by
    unfold am_dsc
    rw [if_neg (by omega), Nat.add_sub_cancel_left]
    exact hc
  rw [G.2.2.2 (1000 + i) (by omega)]
  obtain ⟨h0, h1, h2, h3, h4⟩ := h i c hc
  have e := hx (1000 + i) (Or.inr (by omega))
  refine ⟨fun z => by rw [e]; exact h0 z, fun z => by rw [e]; exact h1 z, h2, h3, fun z => ?_⟩
  obtain ⟨g0, q, g1, g2, g3⟩ := h4 z
  refine ⟨g0, q, g1, by rw [e]; exact g2, fun j hj => ?_⟩
  rw [e, am_fv_ext hx (I.2 _ c hd).2 j]
  exact g3 j hj
/-- what a call answers -/
def am_Qc (ft : List (List Nat)) (cl : List vw_C) (D : va_G) (cA : Nat → ClassId) (A : Nat → Prop) (ad : Nat → Nat) (n0 : Nat) (r : Option am_V) (μ' : am_M) : Array Value → State → Outcome → State → Prop := fun _ st oc t => oc = .returned (r.map (am_rv ad)) ∧ (∃ ad', am_ext n0 ad ad' ∧ va_P D cl (am_ws ft ad' cA μ') t.heap ∧ va_D A (am_ws ft ad' cA μ')) ∧ va_F A st t
def am_Pc (NT : List Cond) (ft : List (List Nat)) (cl : List vw_C) (rcl : List (String × (Nat → String × String))) (strs : List (String × Nat × String)) (D : va_G) (cA : Nat → ClassId) (ad : Nat → Nat) (sz : Nat) (vs : List am_V) (μ : am_M) : Array Value → State → Prop := fun v U => v = (vs.map (am_rv ad)).toArray ∧ U.heap.size = sz ∧ va_P D cl (am_ws ft ad cA μ) U.heap ∧ va_D (fun _ => True) (am_ws ft ad cA μ) ∧ va_K D cl (am_tys cA) U ∧ am_RO ft rcl cl.length ad (va_A (am_ws ft ad cA μ) sz) U μ.2.1 μ.2.2 ∧ am_GL NT strs ad (va_A (am_ws ft ad cA μ) sz) U
theorem am_Pc.blind {NT : List Cond} (hnt : ∀ w ∈ NT, am_nest w = true) {ft : List (List Nat)} {cl : List vw_C} {rcl : List (String × (Nat → String × String))} {strs : List (String × Nat × String)} {D : va_G} {cA : Nat → ClassId} {ad : Nat → Nat} {sz : Nat} {vs : List am_V} {μ : am_M} : FrameBlind (am_Pc NT ft cl rcl strs D cA ad sz vs μ) := by
  intro a U g mk h
  obtain ⟨h1, h2, h3, h4, h5, h6, h7⟩ := h
  have hv : U.vm.Alike (U.calling g mk a).vm := Vm.Alike.refl U.vm
  exact ⟨h1, h2, h3, h4, va_K.moved (u := U) (U := U.calling g mk a) (Vm.Alike.refl U.vm) h5, h6.to (U := U.calling g mk a) (fun _ _ _ => rfl) (fun _ z => z) hv, h7.to (U := U.calling g mk a) (fun _ _ _ => rfl) (fun _ z => z) hv (fun own k tx b z => vk_R.same (u := U) (U := U.calling g mk a) rfl z) (fun w hw z => va_Nw.same (am_nest_tab (hnt w hw)) (u := U) (U := U.calling g mk a) rfl z)⟩
section SIM
variable {ft : List (List Nat)} {p : Program} {l : Launch} {e : Env} {R : Room} {s : State} {m : MethodId} {args : Array Value} {below : List Frame} {meth : Method} {c : Code} {D : va_G} {cl : List vw_C} {cA : Nat → ClassId} {A A1 : Nat → Prop} {ad : Nat → Nat} {cells slots mc ms : Nat} {Q : State → Prop} {pc n0 : Nat} {H : Heap} {locs : List Loc} {ls : Array Slot} {st0 rest : List Value} {r : Option am_V} {μ' : am_M} {aa : Array Value}
theorem am_call (hr : va_Run p l e R s m args below meth c H locs cells slots mc ms (F0 m pc ls st0) rest (am_Qc ft cl D cA A1 ad n0 r μ' aa) A1) (hS : va_S A s.heap H locs) (hA : ∀ q, A1 q → A q)
    (kk : ∀ (ad' : Nat → Nat) (H1 : Heap) (locs1 : List Loc), am_ext n0 ad ad' → va_P D cl (am_ws ft ad' cA μ') H1 → va_D A (am_ws ft ad' cA μ') → va_S A s.heap H1 locs1 → W p l e R s m args below meth c H1 locs1 (cells + mc) (slots + ms) Q (F0 m (pc + 3) ls ((r.map (am_rv ad)).toList ++ rest))) : W p l e R s m args below meth c H locs cells slots Q (F0 m pc ls st0) := by
  intro T hT X
  obtain ⟨v, st₀, t, T', L, h0, X', hL, e1, e2, ⟨hv, ⟨ad', g1, g2, g3⟩, hz, hk⟩, st⟩ := hr T hT X
  have hv' : v = r.map (am_rv ad) := by
    injection hv
  subst hv'
  rw [h0] at hz hk
  obtain ⟨t2, a1, b1⟩ := kk ad' T'.heap (locs ++ L) g1 (by rw [e1]; exact g2) (g3.weaken (fun _ _ _ z => hA _ z))
    ⟨Nat.le_trans hS.1 (by rw [e1]; exact hz), fun q h1 h2 => by rw [e1, hk q (Nat.lt_of_lt_of_le h1 hS.1) (fun z => h2 (hA q z))]; exact hS.2.1 q h1 h2, fun q hq => by
      rcases List.mem_append.mp hq with h | h
      · exact hS.2.2 q h
      · exact hA _ (hL q h)⟩ T' rfl X'
  exact ⟨t2, st t2 a1, b1⟩
end SIM
/-- which words a called method needs -/
def am_mOk (T : List Cond) (y : Nat → MethodName) (bc : Nat → ByteArray) (mL : Nat → Nat) (rt : Nat → Option FieldType) (np : Nat → Nat) (a : Nat) : Prop := Cond.code (y a) (bc a) (mL a) (rt a) ∈ T ∧ Cond.initialized (y a).cls ∈ T ∧ (y a).cls ≠ "java/lang/invoke/MethodHandle" ∧ (y a).cls ≠ "java/lang/invoke/VarHandle" ∧ (parseMethodDescriptor (y a).desc).map (fun d => d.parameters.length) = some (np a) ∧ plainName (y a).cls = true
def am_ok29 (tk : Nat → Option Cond) (cl : List vw_C) (rcl : List (String × (Nat → String × String))) (y : Nat → MethodName) (mL np fr lo : Nat → Nat) (rt : Nat → Option FieldType) (mid a b d : Nat) (c : Int) (offs : List Nat) (i : Instr) (len : Nat) : Bool :=
  decide (len = 3) && (decide (fr a + 1 ≤ fr mid) && (decide (8 + (mL a + 11) + lo a ≤ lo mid) && (match offs with
    | [h1, h2, h3] => (match i with
      | .invokevirtual k => decide (c = 0) && (decide (b = np a + 1) && (decide (tk h1 = some (.methodLink (y mid).cls k (y a))) && (decide (tk h2 = some (.instanceMethod (y a))) && (decide (tk h3 = some (.selects (y a).cls (y a) (y a))) && ((match cl[d]? with
          | some (C, _, _) => decide (C = (y a).cls)
          | none => match rcl[d - cl.length]? with
            | some (C, _) => decide (C = (y a).cls)
            | none => false))))))
      | .invokestatic k => decide (c = 1) && (decide (b = np a) && (decide (tk h1 = some (.methodLink (y mid).cls k (y a))) && decide (tk h2 = some (.static (y a)))))
      | .invokespecial k => decide (b = np a + 1) && (decide ((y a).name = "<init>") && (decide (rt a = none) && (decide (tk h2 = some (.instanceMethod (y a))) && ((decide (c = 2) && decide (tk h1 = some (.methodLink (y mid).cls k (y a)))) || (decide (c = 3) && decide (tk h1 = some (.methodLinkNest (y mid).cls k (y a) "EatenToll")))))))
      | _ => false)
    | _ => false)))
def am_ok30 (rt : Option FieldType) (a : Nat) (i : Instr) (len : Nat) : Bool := decide (len = 1) && (match a with
  | 0 => decide (i = .return_) && decide (rt = none)
  | 1 => decide (i = .ireturn) && decide (rt = some .int)
  | 2 => decide (i = .lreturn) && decide (rt = some .long)
  | 3 => decide (i = .ireturn) && decide (rt = some .boolean)
  | 4 => decide (i = .ireturn) && decide (rt = some .byte)
  | 5 => decide (i = .ireturn) && decide (rt = some .char)
  | _ => false)
/-- an entry of the program says what the bytes say -/
def am_chk (ft : List (List Nat)) (tk : Nat → Option Cond) (cl : List vw_C) (rcl : List (String × (Nat → String × String))) (strs : List (String × Nat × String)) (y : Nat → MethodName) (bc : Nat → ByteArray) (mL np fr lo : Nat → Nat) (rt : Nat → Option FieldType) (mid pc : Nat) (e : am_E) : Bool := match e with
  | (op, len, a, b, d, c, _, offs) => match decode (bc mid) pc with
    | .error _ => false
    | .ok (i, l) => decide (l = len) && (match op with
      | 0 => am_ok0 0 a i len
      | 1 => am_ok0 1 a i len
      | 2 => am_ok0 2 a i len
      | 3 => am_ok3 0 a i len
      | 4 => am_ok3 1 a i len
      | 5 => am_ok3 2 a i len
      | 6 => am_ok6 tk (y mid).cls d c i len && (decide (-2147483648 ≤ c) && decide (c < 2147483648))
      | 7 => am_ok7 tk (y mid).cls d c i len && (decide (-9223372036854775808 ≤ c) && decide (c < 9223372036854775808))
      | 8 => am_ok8 a i len
      | 9 => am_ok9 0 i len
      | 10 => am_ok9 1 i len
      | 11 => am_okE .ineg i len
      | 12 => am_ok12 a i len
      | 13 => am_ok13 a i len
      | 14 => am_okE .lcmp i len
      | 15 => am_ok15 a c i len
      | 16 => am_ok16 pc a b i len
      | 17 => am_ok17 pc a b i len
      | 18 => am_ok18 pc b i len
      | 19 => am_ok19 pc b c offs i
      | 20 => am_okE .dup i len
      | 21 => am_okE .dup2 i len
      | 22 => am_okE .pop i len
      | 23 => am_ok23 tk cl rcl (y mid).cls a b d i len
      | 24 => am_ok24 ft tk cl (y mid).cls (y mid).name a b d i len
      | 25 => am_ok25 tk (y mid).cls a d i len
      | 26 => am_ok26 a i len
      | 27 => am_ok27 a i len
      | 28 => am_okE .arraylength i len
      | 29 => am_ok29 tk cl rcl y mL np fr lo rt mid a b d c offs i len
      | 30 => am_ok30 (rt mid) a i len
      | 31 => am_ok31 tk cl (y mid).cls a b d i len
      | 32 => am_ok32 a i len
      | 33 => am_ok33 tk (y mid).cls (fr mid) (lo mid) a d i len
      | 34 => am_ok34 tk (y mid).cls (fr mid) (lo mid) a d i len
      | 35 => am_ok35 tk (y mid).cls (fr mid) (lo mid) d i len
      | 37 => am_ok37 tk (y mid).cls (fr mid) (lo mid) d i len
      | 38 => am_ok38 strs (y mid).cls a i len
      | _ => false)
section STP
variable {ft : List (List Nat)} {T Tg NT : List Cond} {tk : Nat → Option Cond} {cl : List vw_C} {rcl : List (String × (Nat → String × String))} {strs : List (String × Nat × String)} {y : Nat → MethodName} {bc : Nat → ByteArray} {mL np fr lo : Nat → Nat} {rt : Nat → Option FieldType} {mid pc pc' : Nat} {en : am_E}
variable {p : Program} {l : Launch} {e : Env} {R : Room} {s : State} {m : MethodId} {args : Array Value} {below : List Frame} {meth : Method} {c : Code} {D : va_G} {cA : Nat → ClassId} {A : Nat → Prop} {ad : Nat → Nat} {cells slots : Nat} {Q : State → Prop} {H : Heap} {locs : List Loc} {ls : Array Slot} {L L' : am_L} {S S' : List am_V} {μ μ' : am_M}
theorem am_chk_okc (h : am_chk ft tk cl rcl strs y bc mL np fr lo rt mid pc en = true) : am_okc en ∧ (en.1 = 26 → en.2.2.1 < 4) := by
  obtain ⟨op, len, a, b, d, cc, ks, offs⟩ := en
  unfold am_chk at h
  dsimp only at h
  split at h
  · cases h
  · rename_i i l _
    simp only [Bool.and_eq_true] at h
    refine ⟨⟨fun z => ?_, fun z => ?_⟩, fun z => ?_⟩
    · have z : op = 6 := z
      subst z
      have h2 := h.2
      simp only [Bool.and_eq_true, decide_eq_true_eq] at h2
      exact h2.2
    · have z : op = 7 := z
      subst z
      have h2 := h.2
      simp only [Bool.and_eq_true, decide_eq_true_eq] at h2
      exact h2.2
    · have z : op = 26 := z
      subst z
      have h2 := h.2
      unfold am_ok26 at h2
      simp only [Bool.and_eq_true] at h2
      have h3 := h2.2
      show a < 4
      split at h3
      · omega
      · omega
      · omega
      · omega
      · cases h3
theorem am_w_step (htk : ∀ (d : Nat) (w : Cond), tk d = some w → w ∈ T) (hX : am_X T cl D cA A p s m args c (bc mid) (mL mid) (y mid).cls) (hcl : am_clOk ft T cl) (hgl : am_glOk T) (hsub : ∀ w ∈ Tg, w ∈ T) (hgd : ∀ w ∈ Tg, goodWord w = true) (hck : am_ckOk Tg) (hro : am_RO ft rcl cl.length ad A s μ.2.1 μ.2.2) (hg : am_GL NT strs ad A s) (hnm : (y mid).name = "<init>" → meth.name = "<init>") (hR : R.frames = fr mid ∧ R.locals = lo mid) (hchk : am_chk ft tk cl rcl strs y bc mL np fr lo rt mid pc en = true) (h : am_step ft en pc L S μ = some (pc', L', S', μ')) (I : am_I ft μ L S) (hroom : cells + (μ'.1.length - μ.1.length) ≤ R.cells ∧ slots + (am_sl μ' - am_sl μ) ≤ R.slots) (hl : am_lv ad ls (mL mid) L) (hP : va_P D cl (am_ws ft ad cA μ) H) (hD : va_D A (am_ws ft ad cA μ)) (hS : va_S A s.heap H locs) (kk : am_Kk ft p l e R s m args below meth c D cl cA A (mL mid) ad μ cells slots Q pc' L' S' μ') : W p l e R s m args below meth c H locs cells slots Q (F0 m pc ls (S.map (am_rv ad))) := by
  obtain ⟨op, len, a, b, d, z, ks, offs⟩ := en
  unfold am_chk at hchk
  dsimp only at hchk
  split at hchk
  next => cases hchk
  next i l' hd =>
    simp only [Bool.and_eq_true, decide_eq_true_eq] at hchk
    obtain ⟨rfl, hchk⟩ := hchk
    unfold am_step at h
    dsimp only at h
    split at h
    · exact am_w_load hX hd hchk h hl hP hD hS kk
    · exact am_w_load hX hd hchk h hl hP hD hS kk
    · exact am_w_load hX hd hchk h hl hP hD hS kk
    · exact am_w_store hX hd hchk h hl hP hD hS kk
    · exact am_w_store hX hd hchk h hl hP hD hS kk
    · exact am_w_store hX hd hchk h hl hP hD hS kk
    · simp only [Option.some.injEq, Prod.mk.injEq] at h
      obtain ⟨rfl, rfl, rfl, rfl⟩ := h
      simp only [Bool.and_eq_true] at hchk
      exact am_w_iconst htk hX hd hchk.1 (kk.same hl hP hD hS)
    · simp only [Option.some.injEq, Prod.mk.injEq] at h
      obtain ⟨rfl, rfl, rfl, rfl⟩ := h
      simp only [Bool.and_eq_true] at hchk
      exact am_w_lconst htk hX hd hchk.1 (kk.same hl hP hD hS)
    · exact am_w_bin hX hd hchk h hl hP hD hS kk
    · exact am_w_div hX hd hchk h I hl hP hD hS kk
    · exact am_w_div hX hd hchk h I hl hP hD hS kk
    · exact am_w_neg hX hd hchk h hl hP hD hS kk
    · exact am_w_lbin hX hd hchk h hl hP hD hS kk
    · exact am_w_conv hX hd hchk h I hl hP hD hS kk
    · exact am_w_lcmp hX hd hchk h I hl hP hD hS kk
    · exact am_w_inc hX hd hchk h hl hP hD hS kk
    · exact am_w_if hX hd hchk h I hl hP hD hS kk
    · exact am_w_icmp hX hd hchk h I hl hP hD hS kk
    · simp only [Option.some.injEq, Prod.mk.injEq] at h
      obtain ⟨rfl, rfl, rfl, rfl⟩ := h
      exact am_w_goto hX hd hchk (kk.same hl hP hD hS)
    · exact am_w_tsw hX hd hchk h I hl hP hD hS kk
    · exact am_w_dup hX hd hchk h hl hP hD hS kk
    · exact am_w_dup2 hX hd hchk h hl hP hD hS kk
    · exact am_w_pop hX hd hchk h hl hP hD hS kk
    · exact am_w_getf htk hX hcl hro hd hchk h I hl hP hD hS kk
    · exact am_w_putf htk hX hcl hnm hd hchk h I hl hP hD hS kk
    · exact am_w_gets htk hX hg hd hchk h hl hP hD hS kk
    · exact am_w_ald hX hro hd hchk h I hl hP hD hS kk
    · exact am_w_ast hX hd hchk h I hl hP hD hS kk
    · exact am_w_alen hX hro hd hchk h I hl hP hD hS kk
    · exact am_w_new htk hX hcl hd hchk h I hroom hl hP hD hS kk
    · exact am_w_newa hX hgl.1 hd hchk h I hroom hl hP hD hS kk
    · exact am_w_copy htk hX hgl hR hd hchk h I hl hP hD hS kk
    · refine am_w_math htk hX hgl hR ?_ hd hchk h I hl hP hD hS kk
      omega
    · refine am_w_chk htk hX hsub hgd hck hg hR ?_ hd hchk h I hl hP hD hS kk
      omega
    · exact am_w_oinit htk hX hgl hR hd hchk h hl hP hD hS kk
    · simp only [Option.some.injEq, Prod.mk.injEq] at h
      obtain ⟨rfl, rfl, rfl, rfl⟩ := h
      exact am_w_ldcs hX hg hd hchk (kk.same hl hP hD hS)
    · cases h
end STP
