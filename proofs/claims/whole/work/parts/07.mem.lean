/-! one instruction of the abstract machine is one of the machine: cells -/
/-- a cell that is only read -/
def am_roc (ft : List (List Nat)) (rcl : List (String × (Nat → String × String))) (ncl : Nat) (ad : Nat → Nat) (A : Nat → Prop) (s : State) (k : Nat) (c : am_C) (f : Nat → Int) : Prop :=
  (c.1 = 0 → va_T .int (ad k) c.2.1 (fun j => .int (Int32.ofInt (f j))) A s s.heap) ∧ (c.1 = 1 → va_T .byte (ad k) c.2.1 (fun j => .int (Int32.ofInt (f j))) A s s.heap) ∧ ¬ c.1 = 2 ∧ ¬ c.1 = 3 ∧
  (4 ≤ c.1 → ncl ≤ c.1 - 4 ∧ ∃ q, rcl[c.1 - 4 - ncl]? = some q ∧ va_O q.1 (ad k) A s s.heap ∧ ∀ j, j < c.2.1 → va_OF q.1 (q.2 j).1 (q.2 j).2 (am_fv ft ad f (c.1 - 4) c.2.2 j) (ad k) A s s.heap)
def am_RO (ft : List (List Nat)) (rcl : List (String × (Nat → String × String))) (ncl : Nat) (ad : Nat → Nat) (A : Nat → Prop) (s : State) (ro : List am_C) (σ : Nat → Nat → Int) : Prop := ∀ (i : Nat) (c : am_C), ro[i]? = some c → am_roc ft rcl ncl ad A s (1000 + i) c (σ (1000 + i))
/-- what the statics and the String constants hold -/
def am_GL (NT : List Cond) (strs : List (String × Nat × String)) (ad : Nat → Nat) (A : Nat → Prop) (s : State) : Prop := va_Z "EatenToll" "MOST_TOLD" "[I" (.ref (ad 1001)) A s s.heap ∧ va_Z "java/lang/String" "COMPACT_STRINGS" "Z" (.int 1) A s s.heap ∧ (∀ (a : Nat) (q : String × Nat × String), strs[a]? = some q → vk_R q.1 q.2.1 q.2.2 (ad (1002 + a)) s) ∧ va_Zq "jdk/internal/util/Preconditions" "SIOOBE_FORMATTER" "Ljava/util/function/BiFunction;" A s s.heap ∧ ∀ w ∈ NT, va_Nw w s
theorem am_fget_rv {ft : List (List Nat)} {ad : Nat → Nat} {σ : Nat → Nat → Int} {k ci j : Nat} {rs : List Nat} {v : am_V} (h : am_fget ft σ k ci j rs = some v) : am_rv ad v = am_fv ft ad (σ k) ci rs j := by
  unfold am_fget at h
  unfold am_fv
  split at h
  · rename_i e; rw [e]; cases h; rfl
  · rename_i e; rw [e]; cases h; rfl
  · rename_i e; rw [e]; cases h; rfl
  · rename_i e; rw [e]; cases h; rfl
  · rename_i e1 e2 e3 e4
    split at h
    next r hr =>
      cases h
      split
      · rename_i e; exact absurd e e1
      · rename_i e; exact absurd e e2
      · rename_i e; exact absurd e e3
      · rename_i e; exact absurd e e4
      · rw [hr]
        rfl
    next => cases h
section WME
variable {ft : List (List Nat)} {p : Program} {l : Launch} {e : Env} {R : Room} {s : State} {m : MethodId} {args : Array Value} {below : List Frame} {meth : Method} {c : Code} {D : va_G} {cl : List vw_C} {cA : Nat → ClassId} {A : Nat → Prop} {nL : Nat} {ad : Nat → Nat} {μ μ' : am_M} {cells slots : Nat} {Q : State → Prop} {pc pc' len a b : Nat} {L L' : am_L} {S S' : List am_V} {T : List Cond} {tk : Nat → Option Cond} {cc : ByteArray} {own : String} {H : Heap} {locs : List Loc} {ls : Array Slot} {i : Instr} {rcl : List (String × (Nat → String × String))} {strs : List (String × Nat × String)} {NT : List Cond}
def am_ok23 (tk : Nat → Option Cond) (cl : List vw_C) (rcl : List (String × (Nat → String × String))) (own : String) (a b d : Nat) (i : Instr) (len : Nat) : Bool := match i with
  | .getfield k => decide (len = 3) && (match cl[a]? with
    | some (C, Tt, N) => decide (b < N) && (decide (tk d = some (.fieldLink own k C (Tt b).2.1 (Tt b).2.2.1)) || decide (tk d = some (.fieldLinkNest own k C (Tt b).2.1 (Tt b).2.2.1 "EatenToll")))
    | none => match rcl[a - cl.length]? with
      | some (C, Tf) => decide (tk d = some (.fieldLink own k C (Tf b).1 (Tf b).2))
      | none => false)
  | _ => false
theorem am_w_getf {d : Nat} (htk : ∀ (d : Nat) (w : Cond), tk d = some w → w ∈ T) (X : am_X T cl D cA A p s m args c cc nL own) (hcl : am_clOk ft T cl) (hro : am_RO ft rcl cl.length ad A s μ.2.1 μ.2.2) (hd : decode cc pc = .ok (i, len)) (ho : am_ok23 tk cl rcl own a b d i len = true) (h : am_sgetf ft a b (pc + len) L S μ = some (pc', L', S', μ')) (I : am_I ft μ L S) (hl : am_lv ad ls nL L) (hP : va_P D cl (am_ws ft ad cA μ) H) (hD : va_D A (am_ws ft ad cA μ)) (hS : va_S A s.heap H locs) (kk : am_Kk ft p l e R s m args below meth c D cl cA A nL ad μ cells slots Q pc' L' S' μ') : W p l e R s m args below meth c H locs cells slots Q (F0 m pc ls (S.map (am_rv ad))) := by
  obtain ⟨hx, hb, -, hown, hts, hK, -⟩ := X
  unfold am_ok23 at ho
  split at ho
  next kx =>
    simp only [Bool.and_eq_true, decide_eq_true_eq] at ho
    obtain ⟨rfl, ho⟩ := ho
    unfold am_sgetf at h
    split at h
    next k S1 =>
      split at h
      next kd N rs hdsc =>
        split at h
        next hc =>
          obtain ⟨rfl, hj⟩ := hc
          split at h
          next v hv =>
            simp only [Option.some.injEq, Prod.mk.injEq] at h
            obtain ⟨rfl, rfl, rfl, rfl⟩ := h
            have K : W p l e R s m args below meth c H locs cells slots Q (F0 m (pc + 3) ls (am_rv ad v :: S1.map (am_rv ad))) := kk.same hl hP hD hS
            rw [am_fget_rv hv] at K
            unfold am_dsc at hdsc
            split at hdsc
            next hk =>
              have hw : (am_ws ft ad cA μ)[k]? = some (ad k, .inr (a, (List.range N).map (am_fv ft ad (μ.2.2 k) a rs))) := by rw [am_ws_get hdsc, am_cell_o]
              obtain ⟨r, hr, -⟩ := hP k _ hw
              obtain ⟨C, Tt, N'⟩ := r
              rw [hr] at ho
              simp only [Bool.and_eq_true, decide_eq_true_eq, Bool.or_eq_true] at ho
              obtain ⟨hb1, hlk⟩ := ho
              have hq := hcl a C Tt N' hr
              have hsame : ∀ x, s.fieldFound? (Tt b).1 (Tt b).2.1 (Tt b).2.2.1 = some x → s.fieldFound? C (Tt b).2.1 (Tt b).2.2.1 = some x := fun x hx' => by rw [(hq.2.1 b hb1).1] at hx'; exact hx'
              have hfs : ((List.range N).map (am_fv ft ad (μ.2.2 k) a rs))[b]? = some (am_fv ft ad (μ.2.2 k) a rs b) := by
                rw [List.getElem?_map, List.getElem?_range hj]
                rfl
              rcases hlk with hlk | hlk
              · exact va_get hx hb hts hq.1 hown hK hP k hw hr b hb1 (hts _ (htk _ _ hlk)) hsame hfs hd K
              · exact va_getN hx hb hts hq.1 hown hK hP k hw hr b hb1 (hts _ (htk _ _ hlk)) hsame hfs hd K
            next hk =>
              obtain ⟨-, -, -, -, h5⟩ := hro _ _ hdsc
              obtain ⟨h6, q, h7, h8, h9⟩ := h5 (by show 4 ≤ 4 + a; omega)
              have ea : 4 + a - 4 = a := by omega
              have ek : 1000 + (k - 1000) = k := by omega
              dsimp only at h6 h7 h8 h9
              rw [ea] at h6 h7 h9
              rw [ek] at h8 h9
              have hn : cl[a]? = none := List.getElem?_eq_none (by omega)
              rw [hn] at ho
              dsimp only at ho
              rw [h7] at ho
              obtain ⟨C, Tf⟩ := q
              simp only [decide_eq_true_eq] at ho
              exact vk_getf hx hb (h9 b hj) hS hown (hts _ (htk _ _ ho)) (fun x hx' => hx') hd K
          next => cases h
        next => cases h
      next => cases h
    next => cases h
  next => cases ho
def am_ok25 (tk : Nat → Option Cond) (own : String) (a d : Nat) (i : Instr) (len : Nat) : Bool := match i with
  | .getstatic k => decide (len = 3) && (match a with
    | 0 => decide (tk d = some (.fieldLinkNest own k "EatenToll" "MOST_TOLD" "[I" "EatenToll"))
    | _ => decide (tk d = some (.fieldLink own k "java/lang/String" "COMPACT_STRINGS" "Z")))
  | _ => false
theorem am_w_gets {d : Nat} (htk : ∀ (d : Nat) (w : Cond), tk d = some w → w ∈ T) (X : am_X T cl D cA A p s m args c cc nL own) (hg : am_GL NT strs ad A s) (hd : decode cc pc = .ok (i, len)) (ho : am_ok25 tk own a d i len = true) (h : am_sgets a (pc + len) L S μ = some (pc', L', S', μ')) (hl : am_lv ad ls nL L) (hP : va_P D cl (am_ws ft ad cA μ) H) (hD : va_D A (am_ws ft ad cA μ)) (hS : va_S A s.heap H locs) (kk : am_Kk ft p l e R s m args below meth c D cl cA A nL ad μ cells slots Q pc' L' S' μ') : W p l e R s m args below meth c H locs cells slots Q (F0 m pc ls (S.map (am_rv ad))) := by
  obtain ⟨hx, hb, -, hown, hts, hK, -⟩ := X
  unfold am_ok25 at ho
  split at ho
  next kx =>
    simp only [Bool.and_eq_true, decide_eq_true_eq] at ho
    obtain ⟨rfl, ho⟩ := ho
    unfold am_sgets at h
    split at h
    next =>
      simp only [Option.some.injEq, Prod.mk.injEq] at h
      obtain ⟨rfl, rfl, rfl, rfl⟩ := h
      simp only [decide_eq_true_eq] at ho
      exact va_getsN hx hb hg.1 hS hown (hts _ (htk _ _ ho)) (fun x hx' => hx') hd (kk.same hl hP hD hS)
    next =>
      simp only [Option.some.injEq, Prod.mk.injEq] at h
      obtain ⟨rfl, rfl, rfl, rfl⟩ := h
      simp only [decide_eq_true_eq] at ho
      exact va_gets hx hb hg.2.1 hS hown (hts _ (htk _ _ ho)) (fun x hx' => hx') hd (kk.same hl hP hD hS)
    next => cases h
  next => cases ho
def am_ok38 (strs : List (String × Nat × String)) (own : String) (a : Nat) (i : Instr) (len : Nat) : Bool := match i with
  | .ldc k => decide (len = 2) && (match strs[a]? with
    | some (o, k', _) => decide (o = own) && decide (k' = k)
    | none => false)
  | _ => false
theorem am_w_ldcs (X : am_X T cl D cA A p s m args c cc nL own) (hg : am_GL NT strs ad A s) (hd : decode cc pc = .ok (i, len)) (ho : am_ok38 strs own a i len = true) {st : List Value} (K : W p l e R s m args below meth c H locs cells slots Q (F0 m (pc + len) ls (.ref (ad (1002 + a)) :: st))) : W p l e R s m args below meth c H locs cells slots Q (F0 m pc ls st) := by
  obtain ⟨hx, hb, -, hown, hts, hK, -⟩ := X
  unfold am_ok38 at ho
  split at ho
  next kx =>
    simp only [Bool.and_eq_true, decide_eq_true_eq] at ho
    obtain ⟨rfl, ho⟩ := ho
    split at ho
    next o k' tx hs =>
      simp only [Bool.and_eq_true, decide_eq_true_eq] at ho
      obtain ⟨rfl, rfl⟩ := ho
      exact va_ldcS hx hb hown (hg.2.2.1 a _ hs) hd K
    next => cases ho
  next => cases ho
def am_ok26 (a : Nat) (i : Instr) (len : Nat) : Bool := decide (len = 1) && (match a with
  | 0 => decide (i = .iaload)
  | 1 => decide (i = .baload)
  | 2 => decide (i = .baload)
  | 3 => decide (i = .laload)
  | _ => false)
theorem am_w_ald (X : am_X T cl D cA A p s m args c cc nL own) (hro : am_RO ft rcl cl.length ad A s μ.2.1 μ.2.2) (hd : decode cc pc = .ok (i, len)) (ho : am_ok26 a i len = true) (h : am_sald a (pc + len) L S μ = some (pc', L', S', μ')) (I : am_I ft μ L S) (hl : am_lv ad ls nL L) (hP : va_P D cl (am_ws ft ad cA μ) H) (hD : va_D A (am_ws ft ad cA μ)) (hS : va_S A s.heap H locs) (kk : am_Kk ft p l e R s m args below meth c D cl cA A nL ad μ cells slots Q pc' L' S' μ') : W p l e R s m args below meth c H locs cells slots Q (F0 m pc ls (S.map (am_rv ad))) := by
  obtain ⟨hx, hb, -, hown, hts, hK, -⟩ := X
  unfold am_ok26 at ho
  simp only [Bool.and_eq_true, decide_eq_true_eq] at ho
  obtain ⟨rfl, ho⟩ := ho
  unfold am_sald at h
  split at h
  next ix k S1 =>
    split at h
    next kd N rs hdsc =>
      split at h
      next hc =>
        obtain ⟨rfl, h0, h1⟩ := hc
        simp only [Option.some.injEq, Prod.mk.injEq] at h
        obtain ⟨rfl, rfl, rfl, rfl⟩ := h
        have K := kk.same hl hP hD hS
        have ri : -2147483648 ≤ ix ∧ ix < 2147483648 := I.top
        have hin : vp_in (Int32.ofInt ix) N := am_oin ri h0 h1
        have hcl : (Int32.ofInt ix).toNatClampNeg = ix.toNat := am_ocl ri
        unfold am_dsc at hdsc
        split at hdsc
        next hk =>
          have hw := am_ws_get (ft := ft) (ad := ad) (cA := cA) hdsc
          split at ho
          · simp only [decide_eq_true_eq] at ho
            subst ho
            rw [am_cell_a (by omega)] at hw
            exact va_iald hx hb hK hP k 0 hw rfl hin hd (by rw [hcl]; exact K)
          · simp only [decide_eq_true_eq] at ho
            subst ho
            rw [am_cell_a (by omega)] at hw
            exact va_bald hx hb hK hP k 1 hw rfl hin hd (by rw [hcl]; exact K)
          · simp only [decide_eq_true_eq] at ho
            subst ho
            rw [am_cell_a (by omega)] at hw
            exact va_zald hx hb hK hP k 2 hw rfl hin hd (by rw [hcl]; exact K)
          · simp only [decide_eq_true_eq] at ho
            subst ho
            rw [am_cell_l] at hw
            exact va_lald hx hb hK hP k 3 hw rfl hin hd (by rw [hcl]; exact K)
          · cases ho
        next hk =>
          obtain ⟨g0, g1, g2, g3, -⟩ := hro _ _ hdsc
          have ek : 1000 + (k - 1000) = k := by omega
          dsimp only at g0 g1 g2 g3
          rw [ek] at g0 g1
          split at ho
          · simp only [decide_eq_true_eq] at ho
            subst ho
            exact va_ti hx hb (g0 rfl) hS hin (by rw [hcl]; rfl) hd K
          · simp only [decide_eq_true_eq] at ho
            subst ho
            exact va_tb hx hb (g1 rfl) hS hin (by rw [hcl]; rfl) hd K
          · exact absurd rfl g2
          · exact absurd rfl g3
          · cases ho
      next => cases h
    next => cases h
  next => cases h
theorem am_w_alen (X : am_X T cl D cA A p s m args c cc nL own) (hro : am_RO ft rcl cl.length ad A s μ.2.1 μ.2.2) (hd : decode cc pc = .ok (i, len)) (ho : am_okE .arraylength i len = true) (h : am_salen (pc + len) L S μ = some (pc', L', S', μ')) (I : am_I ft μ L S) (hl : am_lv ad ls nL L) (hP : va_P D cl (am_ws ft ad cA μ) H) (hD : va_D A (am_ws ft ad cA μ)) (hS : va_S A s.heap H locs) (kk : am_Kk ft p l e R s m args below meth c D cl cA A nL ad μ cells slots Q pc' L' S' μ') : W p l e R s m args below meth c H locs cells slots Q (F0 m pc ls (S.map (am_rv ad))) := by
  obtain ⟨hx, hb, -, hown, hts, hK, -⟩ := X
  unfold am_okE at ho
  simp only [Bool.and_eq_true, decide_eq_true_eq] at ho
  obtain ⟨rfl, rfl⟩ := ho
  unfold am_salen at h
  split at h
  next k S1 =>
    split at h
    next kd N rs hdsc =>
      split at h
      next hc =>
        simp only [Option.some.injEq, Prod.mk.injEq] at h
        obtain ⟨rfl, rfl, rfl, rfl⟩ := h
        have K : W p l e R s m args below meth c H locs cells slots Q (F0 m (pc + 1) ls (.int (Int32.ofInt (N : Int)) :: S1.map (am_rv ad))) := kk.same hl hP hD hS
        have hv : Int32.ofNat N = Int32.ofInt (N : Int) := am_nI N
        unfold am_dsc at hdsc
        split at hdsc
        next hk =>
          have hw := am_ws_get (ft := ft) (ad := ad) (cA := cA) hdsc
          obtain ⟨hc, -⟩ := hc
          rcases (by omega : kd = 0 ∨ kd = 1 ∨ kd = 2 ∨ kd = 3) with rfl | rfl | rfl | rfl
          · rw [am_cell_a (by omega)] at hw
            exact va_alen hx hb hK hP k 0 hw (ty := .int) rfl hv hd K
          · rw [am_cell_a (by omega)] at hw
            exact va_alen hx hb hK hP k 1 hw (ty := .byte) rfl hv hd K
          · rw [am_cell_a (by omega)] at hw
            exact va_alen hx hb hK hP k 2 hw (ty := .boolean) rfl hv hd K
          · rw [am_cell_l] at hw
            exact va_alen hx hb hK hP k 3 hw (ty := .long) rfl hv hd K
        next hk =>
          obtain ⟨g0, g1, g2, g3, -⟩ := hro _ _ hdsc
          have ek : 1000 + (k - 1000) = k := by omega
          dsimp only at g0 g1 g2 g3
          rw [ek] at g0 g1
          rcases (by omega : kd = 0 ∨ kd = 1) with rfl | rfl
          · exact va_tlen hx hb (g0 rfl) hS hv hd K
          · exact va_tlen hx hb (g1 rfl) hS hv hd K
      next => cases h
    next => cases h
  next => cases h
end WME
