/-! cells that are written, new cells, calls of the JDK's own -/
theorem am_ob {x : Int} (h : am_okT 1 x = true) : vp_nar .byte (Int32.ofInt x) = Int32.ofInt x := by
  simp [am_okT] at h
  rw [vp_nar_byte, am_oi2b (by omega)]
  congr 1
  unfold am_i2b
  omega
theorem am_oz1 {x : Int} (h : am_okT 2 x = true) : Int32.ofInt x &&& 1 = Int32.ofInt x ∧ (Int32.ofInt x == 0 || Int32.ofInt x == 1) = true := by
  simp [am_okT] at h
  rcases (by omega : x = 0 ∨ x = 1) with rfl | rfl
  · decide
  · decide
theorem am_oz {x : Int} (h : am_okT 2 x = true) : vp_nar .boolean (Int32.ofInt x) = Int32.ofInt x := (am_oz1 h).1
theorem am_upd_i {σ : Nat → Nat → Int} {k j : Nat} {x : Int} : (fun i => Int32.ofInt (am_upd σ k j x k i)) = upd (fun i => Int32.ofInt (σ k i)) j (Int32.ofInt x) := by
  funext i
  unfold am_upd upd
  rw [if_pos rfl]
  split <;> rfl
theorem am_upd_l {σ : Nat → Nat → Int} {k j : Nat} {x : Int} : (fun i => Int64.ofInt (am_upd σ k j x k i)) = vp_updL (fun i => Int64.ofInt (σ k i)) j (Int64.ofInt x) := by
  funext i
  unfold am_upd vp_updL
  rw [if_pos rfl]
  split <;> rfl
theorem am_ws_upd {ft : List (List Nat)} {ad : Nat → Nat} {cA : Nat → ClassId} {μ : am_M} {k j : Nat} {x : Int} {c : am_C} (h : μ.1[k]? = some c) : am_ws ft ad cA (μ.1, μ.2.1, am_upd μ.2.2 k j x) = (am_ws ft ad cA μ).set k (ad k, am_cell ft ad cA (am_upd μ.2.2 k j x k) c) := am_ws_set (μ' := (μ.1, μ.2.1, am_upd μ.2.2 k j x)) h (fun _ _ => rfl) (fun _ hi => am_upd_ne hi) h
theorem am_ws_row {ft : List (List Nat)} {ad : Nat → Nat} {cA : Nat → ClassId} {μ : am_M} {k : Nat} {f : Nat → Int} {c : am_C} (h : μ.1[k]? = some c) : am_ws ft ad cA (μ.1, μ.2.1, am_row μ.2.2 k f) = (am_ws ft ad cA μ).set k (ad k, am_cell ft ad cA f c) := by
  rw [am_ws_set (μ' := (μ.1, μ.2.1, am_row μ.2.2 k f)) h (fun _ _ => rfl) (fun _ hi => am_row_ne hi) h]
  show (am_ws ft ad cA μ).set k (ad k, am_cell ft ad cA (am_row μ.2.2 k f k) c) = _
  rw [am_row_eq]
theorem am_range_set {N j : Nat} {f g : Nat → Value} (hj : j < N) (h : ∀ i, i ≠ j → g i = f i) : (List.range N).map g = ((List.range N).map f).set j (g j) := by
  apply List.ext_getElem?
  intro i
  by_cases e : i = j
  · subst e
    rw [List.getElem?_set_self (by simp; omega), List.getElem?_map, List.getElem?_range hj]
    rfl
  · rw [List.getElem?_set_ne (Ne.symm e), List.getElem?_map, List.getElem?_map]
    cases hr : (List.range N)[i]? with
    | none => rfl
    | some q =>
      have hq : q = i := by
        have hlt : i < N := by have := (List.getElem?_eq_some_iff.mp hr).1; simpa using this
        rw [List.getElem?_range hlt] at hr
        exact (Option.some.inj hr).symm
      subst hq
      show some (g q) = some (f q)
      rw [h q e]
section WM2
variable {ft : List (List Nat)} {p : Program} {l : Launch} {e : Env} {R : Room} {s : State} {m : MethodId} {args : Array Value} {below : List Frame} {meth : Method} {c : Code} {D : va_G} {cl : List vw_C} {cA : Nat → ClassId} {A : Nat → Prop} {nL : Nat} {ad : Nat → Nat} {μ μ' : am_M} {cells slots : Nat} {Q : State → Prop} {pc pc' len a b : Nat} {L L' : am_L} {S S' : List am_V} {T : List Cond} {tk : Nat → Option Cond} {cc : ByteArray} {own : String} {H : Heap} {locs : List Loc} {ls : Array Slot} {i : Instr} {rcl : List (String × (Nat → String × String))} {strs : List (String × Nat × String)}
theorem am_Kk.keep {σ : Nat → Nat → Int} (kk : am_Kk ft p l e R s m args below meth c D cl cA A nL ad μ cells slots Q pc' L' S' (μ.1, μ.2.1, σ)) (hl : am_lv ad ls nL L') (hP : va_P D cl (am_ws ft ad cA (μ.1, μ.2.1, σ)) H) (hD : va_D A (am_ws ft ad cA (μ.1, μ.2.1, σ))) (hS : va_S A s.heap H locs) : W p l e R s m args below meth c H locs cells slots Q (F0 m pc' ls (S'.map (am_rv ad))) := by
  have h := kk ad H locs ls am_ext.rf hl hP hD hS
  refine W.cs ?_ ?_ h
  · show cells = cells + (μ.1.length - μ.1.length)
    omega
  · show slots = slots + (am_sl μ - am_sl μ)
    omega
def am_ok27 (a : Nat) (i : Instr) (len : Nat) : Bool := decide (len = 1) && (match a with
  | 0 => decide (i = .iastore)
  | 1 => decide (i = .bastore)
  | 2 => decide (i = .bastore)
  | 3 => decide (i = .lastore)
  | _ => false)
theorem am_w_ast (X : am_X T cl D cA A p s m args c cc nL own) (hd : decode cc pc = .ok (i, len)) (ho : am_ok27 a i len = true) (h : am_sast a (pc + len) L S μ = some (pc', L', S', μ')) (I : am_I ft μ L S) (hl : am_lv ad ls nL L) (hP : va_P D cl (am_ws ft ad cA μ) H) (hD : va_D A (am_ws ft ad cA μ)) (hS : va_S A s.heap H locs) (kk : am_Kk ft p l e R s m args below meth c D cl cA A nL ad μ cells slots Q pc' L' S' μ') : W p l e R s m args below meth c H locs cells slots Q (F0 m pc ls (S.map (am_rv ad))) := by
  obtain ⟨hx, hb, -, hown, hts, hK, -⟩ := X
  unfold am_ok27 at ho
  simp only [Bool.and_eq_true, decide_eq_true_eq] at ho
  obtain ⟨rfl, ho⟩ := ho
  unfold am_sast at h
  split at h
  next x ix k S1 =>
    split at h
    next kd N rs hdsc =>
      split at h
      next hc =>
        obtain ⟨rfl, ha, h0, h1, hok⟩ := hc
        simp only [Option.some.injEq, Prod.mk.injEq] at h
        obtain ⟨rfl, rfl, rfl, rfl⟩ := h
        have ri : -2147483648 ≤ ix ∧ ix < 2147483648 := I.pop.top
        have hin : vp_in (Int32.ofInt ix) N := am_oin ri h0 h1
        have hcl : (Int32.ofInt ix).toNatClampNeg = ix.toNat := am_ocl ri
        have hw := am_ws_get (ft := ft) (ad := ad) (cA := cA) hdsc
        have hu := am_ws_upd (ft := ft) (ad := ad) (cA := cA) (j := ix.toNat) (x := x) hdsc
        rw [am_cell_a ha] at hw
        rw [am_cell_a ha, am_upd_i] at hu
        split at ho
        · simp only [decide_eq_true_eq] at ho
          subst ho
          refine va_iast hx hb hK hP hD hS k 0 hw rfl hin hd (fun H1 locs1 q1 q2 q3 => ?_)
          rw [hcl, ← hu] at q1 q2
          exact kk.keep hl q1 q2 q3
        · simp only [decide_eq_true_eq] at ho
          subst ho
          refine va_bast hx hb hK hP hD hS k 1 hw rfl hin hd (fun H1 locs1 q1 q2 q3 => ?_)
          rw [hcl, am_ob (hok.resolve_left (by omega)), ← hu] at q1 q2
          exact kk.keep hl q1 q2 q3
        · simp only [decide_eq_true_eq] at ho
          subst ho
          refine va_zast hx hb hK hP hD hS k 2 hw rfl hin hd (fun H1 locs1 q1 q2 q3 => ?_)
          rw [hcl, am_oz (hok.resolve_left (by omega)), ← hu] at q1 q2
          exact kk.keep hl q1 q2 q3
        · omega
        · cases ho
      next => cases h
    next => cases h
  next x ix k S1 =>
    split at h
    next kd N rs hdsc =>
      split at h
      next hc =>
        obtain ⟨rfl, rfl, h0, h1⟩ := hc
        simp only [Option.some.injEq, Prod.mk.injEq] at h
        obtain ⟨rfl, rfl, rfl, rfl⟩ := h
        have ri : -2147483648 ≤ ix ∧ ix < 2147483648 := I.pop.top
        have hin : vp_in (Int32.ofInt ix) N := am_oin ri h0 h1
        have hcl : (Int32.ofInt ix).toNatClampNeg = ix.toNat := am_ocl ri
        have hw := am_ws_get (ft := ft) (ad := ad) (cA := cA) hdsc
        have hu := am_ws_upd (ft := ft) (ad := ad) (cA := cA) (j := ix.toNat) (x := x) hdsc
        rw [am_cell_l] at hw
        rw [am_cell_l, am_upd_l] at hu
        simp only [decide_eq_true_eq] at ho
        subst ho
        refine va_last hx hb hK hP hD hS k 3 hw rfl hin hd (fun H1 locs1 q1 q2 q3 => ?_)
        rw [hcl, ← hu] at q1 q2
        exact kk.keep hl q1 q2 q3
      next => cases h
    next => cases h
  next => cases h
def am_ok24 (ft : List (List Nat)) (tk : Nat → Option Cond) (cl : List vw_C) (own nm : String) (a b d : Nat) (i : Instr) (len : Nat) : Bool := match i with
  | .putfield k => decide (len = 3) && (match cl[a]? with
    | some (C, Tt, N) => decide (b < N) && (decide (tk d = some (.fieldLink own k C (Tt b).2.1 (Tt b).2.2.1)) || (decide (tk d = some (.fieldLinkNest own k C (Tt b).2.1 (Tt b).2.2.1 "EatenToll")) && decide (¬ am_ft ft a b = 4))) && (decide (¬ am_ft ft a b = 4) || (decide (nm = "<init>") && decide (C = own)))
    | none => false)
  | _ => false
theorem am_fv_o {f : Nat → Int} {ci j : Nat} {rs : List Nat} (h : am_ft ft ci j = 0 ∨ am_ft ft ci j = 2) : am_fv ft ad f ci rs j = .int (Int32.ofInt (f j)) := by
  unfold am_fv
  rcases h with h | h <;> rw [h] <;> rfl
theorem am_fv_l {f : Nat → Int} {ci j : Nat} {rs : List Nat} (h : am_ft ft ci j = 3) : am_fv ft ad f ci rs j = .long (Int64.ofInt (f j)) := by
  unfold am_fv
  rw [h]
  rfl
theorem am_fv_r {f : Nat → Int} {ci j r : Nat} {rs : List Nat} (h : am_ft ft ci j = 4) (hr : rs[j]? = some (r + 1)) : am_fv ft ad f ci rs j = .ref (ad r) := by
  unfold am_fv
  rw [h, hr]
  rfl
theorem am_fv_c {f g : Nat → Int} {ci j : Nat} {rs rs' : List Nat} (h : f j = g j) (hr : rs[j]? = rs'[j]?) : am_fv ft ad f ci rs j = am_fv ft ad g ci rs' j := by
  unfold am_fv
  rw [h, hr]
theorem am_put_go {d k N kx : Nat} {rs : List Nat} {C : String} {Tt : u_T} {N' : Nat} {v : Value} {st : List Value} (htk : ∀ (d : Nat) (w : Cond), tk d = some w → w ∈ T) (X : am_X T cl D cA A p s m args c cc nL own) (hcl : am_clOk ft T cl) (hr : cl[a]? = some (C, Tt, N')) (hb1 : b < N') (hlk : tk d = some (.fieldLink own kx C (Tt b).2.1 (Tt b).2.2.1) ∨ tk d = some (.fieldLinkNest own kx C (Tt b).2.1 (Tt b).2.2.1 "EatenToll")) (hj : b < N) (hw : (am_ws ft ad cA μ)[k]? = some (ad k, .inr (a, (List.range N).map (am_fv ft ad (μ.2.2 k) a rs)))) (hfin : (Tt b).2.2.2 = false) {ty : FieldType} (hty : parseFieldDescriptor (Tt b).2.2.1 = some ty) (hn : narrow ty v = v) (hfit : fits ty v = true) (hP : va_P D cl (am_ws ft ad cA μ) H) (hD : va_D A (am_ws ft ad cA μ)) (hS : va_S A s.heap H locs) (hd : decode cc pc = .ok (.putfield kx, 3)) (K : ∀ (H1 : Heap) (locs1 : List Loc), va_P D cl ((am_ws ft ad cA μ).set k (ad k, .inr (a, ((List.range N).map (am_fv ft ad (μ.2.2 k) a rs)).set b v))) H1 → va_D A ((am_ws ft ad cA μ).set k (ad k, .inr (a, ((List.range N).map (am_fv ft ad (μ.2.2 k) a rs)).set b v))) → va_S A s.heap H1 locs1 → W p l e R s m args below meth c H1 locs1 cells slots Q (F0 m (pc + 3) ls st)) : W p l e R s m args below meth c H locs cells slots Q (F0 m pc ls (v :: .ref (ad k) :: st)) := by
  obtain ⟨hx, hb, -, hown, hts, hK, -⟩ := X
  have hq := hcl a C Tt N' hr
  have hsame : ∀ x, s.fieldFound? (Tt b).1 (Tt b).2.1 (Tt b).2.2.1 = some x → s.fieldFound? C (Tt b).2.1 (Tt b).2.2.1 = some x := fun x hx' => by rw [(hq.2.1 b hb1).1] at hx'; exact hx'
  have htys : ∀ k, k < N' → parseFieldDescriptor (Tt k).2.2.1 = some ((fun k => (parseFieldDescriptor (Tt k).2.2.1).getD .int) k) := fun k hk => by
    obtain ⟨-, ty', h1, -⟩ := hq.2.1 k hk
    show _ = some ((parseFieldDescriptor (Tt k).2.2.1).getD .int)
    rw [h1]
    rfl
  rcases hlk with hlk | hlk
  · exact va_put hx hb hts hq.1 (fun k => (parseFieldDescriptor (Tt k).2.2.1).getD .int) htys hq.2.2.1 hown hK hP hD hS k hw hr b hb1 (hts _ (htk _ _ hlk)) hsame hfin hty hn hfit (by simpa using hj) hd K
  · exact va_putN hx hb hts hq.1 (fun k => (parseFieldDescriptor (Tt k).2.2.1).getD .int) htys hq.2.2.1 hown hK hP hD hS k hw hr b hb1 (hts _ (htk _ _ hlk)) hsame hfin hty hn hfit (by simpa using hj) hd K
theorem am_w_putf {d : Nat} {nm : String} (htk : ∀ (d : Nat) (w : Cond), tk d = some w → w ∈ T) (X : am_X T cl D cA A p s m args c cc nL own) (hcl : am_clOk ft T cl) (hnm : nm = "<init>" → meth.name = "<init>") (hd : decode cc pc = .ok (i, len)) (ho : am_ok24 ft tk cl own nm a b d i len = true) (h : am_sputf ft a b (pc + len) L S μ = some (pc', L', S', μ')) (I : am_I ft μ L S) (hl : am_lv ad ls nL L) (hP : va_P D cl (am_ws ft ad cA μ) H) (hD : va_D A (am_ws ft ad cA μ)) (hS : va_S A s.heap H locs) (kk : am_Kk ft p l e R s m args below meth c D cl cA A nL ad μ cells slots Q pc' L' S' μ') : W p l e R s m args below meth c H locs cells slots Q (F0 m pc ls (S.map (am_rv ad))) := by
  unfold am_ok24 at ho
  split at ho
  next kx =>
    simp only [Bool.and_eq_true, decide_eq_true_eq] at ho
    obtain ⟨rfl, ho⟩ := ho
    split at ho
    next C Tt N' hr =>
      simp only [Bool.and_eq_true, decide_eq_true_eq, Bool.or_eq_true] at ho
      obtain ⟨⟨hb1, hlk⟩, hin⟩ := ho
      have hq := hcl a C Tt N' hr
      obtain ⟨hC, ty, hty, hft⟩ := hq.2.1 b hb1
      unfold am_sputf at h
      split at h
      next x k S1 =>
        split at h
        next kd N rs hdsc =>
          split at h
          next hc =>
            obtain ⟨rfl, hj, h00⟩ := hc
            have h0 : am_ft ft a b = 0 ∨ am_ft ft a b = 2 := h00.imp_right And.left
            simp only [Option.some.injEq, Prod.mk.injEq] at h
            obtain ⟨rfl, rfl, rfl, rfl⟩ := h
            have hw : (am_ws ft ad cA μ)[k]? = some (ad k, .inr (a, (List.range N).map (am_fv ft ad (μ.2.2 k) a rs))) := by rw [am_ws_get hdsc, am_cell_o]
            have hu := am_ws_upd (ft := ft) (ad := ad) (cA := cA) (j := b) (x := x) hdsc
            rw [am_cell_o, am_range_set (f := am_fv ft ad (μ.2.2 k) a rs) hj (fun i hi => am_fv_c (by unfold am_upd; rw [if_pos rfl, if_neg hi]) rfl), am_fv_o h0] at hu
            have e1 : am_upd μ.2.2 k b x k b = x := by unfold am_upd; rw [if_pos rfl, if_pos rfl]
            rw [e1] at hu
            have hfin : (Tt b).2.2.2 = false := by
              rcases hft with z | z | z | z
              · exact z.2.2
              · exact z.2.2
              · exact z.2.2
              · omega
            have hnf : narrow ty (.int (Int32.ofInt x)) = .int (Int32.ofInt x) ∧ fits ty (.int (Int32.ofInt x)) = true := by
              rcases hft with z | z | z | z
              · rw [z.2.1]; exact ⟨rfl, rfl⟩
              · have hok : am_okT 2 x = true := by
                  rcases h00 with y | y
                  · omega
                  · exact y.2
                rw [z.2.1]
                exact ⟨congrArg Value.int (am_oz1 hok).1, (am_oz1 hok).2⟩
              · omega
              · omega
            refine am_put_go (v := .int (Int32.ofInt x)) htk X hcl hr hb1 (hlk.imp_right And.left) hj hw hfin hty hnf.1 hnf.2 hP hD hS hd (fun H1 locs1 q1 q2 q3 => ?_)
            rw [← hu] at q1 q2
            exact kk.keep hl q1 q2 q3
          next => cases h
        next => cases h
      next x k S1 =>
        split at h
        next kd N rs hdsc =>
          split at h
          next hc =>
            obtain ⟨rfl, hj, h0⟩ := hc
            simp only [Option.some.injEq, Prod.mk.injEq] at h
            obtain ⟨rfl, rfl, rfl, rfl⟩ := h
            have hw : (am_ws ft ad cA μ)[k]? = some (ad k, .inr (a, (List.range N).map (am_fv ft ad (μ.2.2 k) a rs))) := by rw [am_ws_get hdsc, am_cell_o]
            have hu := am_ws_upd (ft := ft) (ad := ad) (cA := cA) (j := b) (x := x) hdsc
            rw [am_cell_o, am_range_set (f := am_fv ft ad (μ.2.2 k) a rs) hj (fun i hi => am_fv_c (by unfold am_upd; rw [if_pos rfl, if_neg hi]) rfl), am_fv_l h0] at hu
            have e1 : am_upd μ.2.2 k b x k b = x := by unfold am_upd; rw [if_pos rfl, if_pos rfl]
            rw [e1] at hu
            have hfin : (Tt b).2.2.2 = false ∧ ty = .long := by
              rcases hft with z | z | z | z
              · omega
              · omega
              · exact ⟨z.2.2, z.2.1⟩
              · omega
            refine am_put_go (v := .long (Int64.ofInt x)) htk X hcl hr hb1 (hlk.imp_right And.left) hj hw hfin.1 hty (by rw [hfin.2]; rfl) (by rw [hfin.2]; rfl) hP hD hS hd (fun H1 locs1 q1 q2 q3 => ?_)
            rw [← hu] at q1 q2
            exact kk.keep hl q1 q2 q3
          next => cases h
        next => cases h
      next r k S1 =>
        split at h
        next kd N rs hdsc =>
          split at h
          next hc =>
            obtain ⟨rfl, hj, h0, hrl⟩ := hc
            simp only [Option.some.injEq, Prod.mk.injEq] at h
            obtain ⟨rfl, rfl, rfl, rfl⟩ := h
            have hw : (am_ws ft ad cA μ)[k]? = some (ad k, .inr (a, (List.range N).map (am_fv ft ad (μ.2.2 k) a rs))) := by rw [am_ws_get hdsc, am_cell_o]
            have hk : k < μ.1.length := (List.getElem?_eq_some_iff.mp hdsc).1
            have hu := am_ws_set (ft := ft) (ad := ad) (cA := cA) (μ' := (μ.1.set k (4 + a, N, rs.set b (r + 1)), μ.2.1, μ.2.2)) (c' := (4 + a, N, rs.set b (r + 1))) hdsc (fun i hi => List.getElem?_set_ne (Ne.symm hi)) (fun _ _ => rfl) (List.getElem?_set_self hk)
            have hrb : (rs.set b (r + 1))[b]? = some (r + 1) := List.getElem?_set_self (by omega)
            rw [am_cell_o, am_range_set (f := am_fv ft ad (μ.2.2 k) a rs) hj (fun i hi => am_fv_c rfl (List.getElem?_set_ne (Ne.symm hi))), am_fv_r h0 hrb] at hu
            have hlk2 : tk d = some (.fieldLink own kx C (Tt b).2.1 (Tt b).2.2.1) := hlk.elim (fun z => z) (fun z => absurd h0 z.2)
            have hin2 := hin.elim (fun z => absurd h0 z) (fun z => z)
            have hfin : (Tt b).2.2.2 = true ∧ ((∃ n, ty = .object n) ∨ ∃ u, ty = .array u) := by
              rcases hft with z | z | z | z
              · omega
              · omega
              · omega
              · exact z.2
            have hnf : narrow ty (.ref (ad r)) = .ref (ad r) ∧ fits ty (.ref (ad r)) = true := by
              rcases hfin.2 with ⟨n, rfl⟩ | ⟨u, rfl⟩ <;> exact ⟨rfl, rfl⟩
            obtain ⟨hx, hb, -, hown, hts, hK, -⟩ := X
            have hsame : ∀ x, s.fieldFound? (Tt b).1 (Tt b).2.1 (Tt b).2.2.1 = some x → s.fieldFound? C (Tt b).2.1 (Tt b).2.2.1 = some x := fun x hx' => by rw [hC] at hx'; exact hx'
            have htys : ∀ k, k < N' → parseFieldDescriptor (Tt k).2.2.1 = some ((fun k => (parseFieldDescriptor (Tt k).2.2.1).getD .int) k) := fun k hk => by
              obtain ⟨-, ty', h1, -⟩ := hq.2.1 k hk
              show _ = some ((parseFieldDescriptor (Tt k).2.2.1).getD .int)
              rw [h1]
              rfl
            refine va_putF (v := .ref (ad r)) hx hb hts hq.1 (fun k => (parseFieldDescriptor (Tt k).2.2.1).getD .int) htys hq.2.2.1 hown hK hP hD hS k hw hr b hb1 (hts _ (htk _ _ hlk2)) hsame hfin.1 (hnm hin2.1) (hC.trans hin2.2) hty hnf.1 hnf.2 (by simpa using hj) hd (fun H1 locs1 q1 q2 q3 => ?_)
            rw [← hu] at q1 q2
            have K := kk ad H1 locs1 ls am_ext.rf hl q1 q2 q3
            refine W.cs ?_ ?_ K
            · show cells = cells + ((μ.1.set k _).length - μ.1.length)
              rw [List.length_set]
              omega
            · show slots = slots + (((μ.1.set k (4 + a, N, rs.set b (r + 1))).map (fun c => c.2.1)).sum - am_sl μ)
              rw [am_sl_set (c' := (4 + a, N, rs.set b (r + 1))) hdsc rfl]
              show slots = slots + (am_sl μ - am_sl μ)
              omega
          next => cases h
        next => cases h
      next => cases h
    next => cases ho
  next => cases ho
def am_ok31 (tk : Nat → Option Cond) (cl : List vw_C) (own : String) (a b d : Nat) (i : Instr) (len : Nat) : Bool := match i with
  | .new k => decide (len = 3) && (match cl[a]? with
    | some (C, _, N) => decide (N = b) && decide (tk d = some (.classLink own k C))
    | none => false)
  | _ => false
theorem am_w_new {d : Nat} (htk : ∀ (d : Nat) (w : Cond), tk d = some w → w ∈ T) (X : am_X T cl D cA A p s m args c cc nL own) (hcl : am_clOk ft T cl) (hd : decode cc pc = .ok (i, len)) (ho : am_ok31 tk cl own a b d i len = true) (h : am_snew a b (pc + len) L S μ = some (pc', L', S', μ')) (I : am_I ft μ L S) (hroom : cells + (μ'.1.length - μ.1.length) ≤ R.cells ∧ slots + (am_sl μ' - am_sl μ) ≤ R.slots) (hl : am_lv ad ls nL L) (hP : va_P D cl (am_ws ft ad cA μ) H) (hD : va_D A (am_ws ft ad cA μ)) (hS : va_S A s.heap H locs) (kk : am_Kk ft p l e R s m args below meth c D cl cA A nL ad μ cells slots Q pc' L' S' μ') : W p l e R s m args below meth c H locs cells slots Q (F0 m pc ls (S.map (am_rv ad))) := by
  obtain ⟨hx, hb, -, hown, hts, hK, hA⟩ := X
  unfold am_ok31 at ho
  split at ho
  next kx =>
    simp only [Bool.and_eq_true, decide_eq_true_eq] at ho
    obtain ⟨rfl, ho⟩ := ho
    split at ho
    next C Tt N hr =>
      simp only [Bool.and_eq_true, decide_eq_true_eq] at ho
      obtain ⟨rfl, hlk⟩ := ho
      have hq := hcl a C Tt N hr
      unfold am_snew at h
      split at h
      next hlt =>
        simp only [Option.some.injEq, Prod.mk.injEq] at h
        obtain ⟨rfl, rfl, rfl, rfl⟩ := h
        have e1 : (μ.1 ++ [(4 + a, N, List.replicate N 0)]).length - μ.1.length = 1 := by simp
        have e2 : am_sl (μ.1 ++ [(4 + a, N, List.replicate N 0)], μ.2.1, am_row μ.2.2 μ.1.length (fun _ => 0)) - am_sl μ = N := by rw [am_sl_new]; show am_sl μ + N - am_sl μ = N; omega
        rw [e2] at hroom
        have hroom1 : cells + 1 ≤ R.cells := by have := hroom.1; dsimp only at this; rw [e1] at this; exact this
        refine va_new (ci := a) (fs := (List.range N).map (am_fv ft ad (fun _ => 0) a (List.replicate N 0))) hx hb hts hq.1 (fun k => (parseFieldDescriptor (Tt k).2.2.1).getD .int) (fun k hk => ?_) hown (hts _ (htk _ _ hlk)) (hts _ hq.2.2.2.1) (hts _ hq.2.2.2.2) hK hP hD hS hA hr (fun j hj => ?_) hroom1 hroom.2 hd (fun q H1 q1 q2 q3 => ?_)
        · obtain ⟨-, ty', h1, -⟩ := hq.2.1 k hk
          show _ = some ((parseFieldDescriptor (Tt k).2.2.1).getD .int)
          rw [h1]
          rfl
        · obtain ⟨-, ty', h1, h2⟩ := hq.2.1 j hj
          show defaultValue ((parseFieldDescriptor (Tt j).2.2.1).getD .int) = _
          rw [h1]
          unfold vp_V
          rw [List.getD_eq_getElem?_getD, List.getElem?_map, List.getElem?_range hj]
          show defaultValue ty' = am_fv ft ad (fun _ => 0) a (List.replicate N 0) j
          rcases h2 with z | z | z | z
          · rw [z.2.1, am_fv_o (Or.inl z.1)]; rfl
          · rw [z.2.1, am_fv_o (Or.inr z.1)]; rfl
          · rw [z.2.1, am_fv_l z.1]; rfl
          · have h3 : (List.replicate N 0)[j]? = some 0 := by simp [hj]
            unfold am_fv
            rw [z.1, h3]
            rcases z.2.2 with ⟨n, rfl⟩ | ⟨u, rfl⟩ <;> rfl
        · have hw := am_ws_new (ft := ft) (ad := ad) (cA := cA) I.1 hlt (4 + a, N, List.replicate N 0) q
          rw [am_cell_o] at hw
          have hfv : (List.range N).map (am_fv ft (fun i => if i = μ.1.length then q else ad i) (fun _ => 0) a (List.replicate N 0)) = (List.range N).map (am_fv ft ad (fun _ => 0) a (List.replicate N 0)) := by
            apply List.map_congr_left
            intro j hj
            refine am_fv_ext (n := 0) (fun k hk => if_neg (by omega)) (fun j r hr' => ?_) j
            have := List.eq_of_mem_replicate (List.mem_of_getElem? hr')
            omega
          rw [hfv] at hw
          rw [← hw] at q1 q2
          have hext : am_ext μ.1.length ad (fun i => if i = μ.1.length then q else ad i) := fun k hk => if_neg (by omega)
          have K := kk _ H1 _ ls hext (hl.ext hext I.2.1) q1 q2 q3
          refine W.cs ?_ ?_ (W.eq ?_ K)
          · dsimp only
            rw [e1]
          · rw [e2]
          · show F0 m (pc + 3) ls (.ref q :: S.map (am_rv ad)) = F0 m (pc + 3) ls (.ref (if μ.1.length = μ.1.length then q else ad μ.1.length) :: S.map (am_rv _))
            rw [if_pos rfl, am_rvs_ext hext I.2.2]
      next => cases h
    next => cases ho
  next => cases ho
def am_aty (a : Nat) : FieldType := match a with
  | 0 => .int
  | 1 => .byte
  | 2 => .boolean
  | _ => .long
def am_ok32 (a : Nat) (i : Instr) (len : Nat) : Bool := match i with
  | .newarray t => decide (len = 2) && (decide (newarray.typeOf t = am_aty a) && decide (a < 4))
  | _ => false
theorem am_w_newa (X : am_X T cl D cA A p s m args c cc nL own) (harr : ∀ t, t < 4 → Cond.arrayClass (am_aty t) ∈ T) (hd : decode cc pc = .ok (i, len)) (ho : am_ok32 a i len = true) (h : am_snewa a (pc + len) L S μ = some (pc', L', S', μ')) (I : am_I ft μ L S) (hroom : cells + (μ'.1.length - μ.1.length) ≤ R.cells ∧ slots + (am_sl μ' - am_sl μ) ≤ R.slots) (hl : am_lv ad ls nL L) (hP : va_P D cl (am_ws ft ad cA μ) H) (hD : va_D A (am_ws ft ad cA μ)) (hS : va_S A s.heap H locs) (kk : am_Kk ft p l e R s m args below meth c D cl cA A nL ad μ cells slots Q pc' L' S' μ') : W p l e R s m args below meth c H locs cells slots Q (F0 m pc ls (S.map (am_rv ad))) := by
  obtain ⟨hx, hb, -, hown, hts, hK, hA⟩ := X
  unfold am_ok32 at ho
  split at ho
  next t =>
    simp only [Bool.and_eq_true, decide_eq_true_eq] at ho
    obtain ⟨rfl, hty, ha⟩ := ho
    unfold am_snewa at h
    split at h
    next n S1 =>
      split at h
      next hc =>
        obtain ⟨hlt, -, h0, h1⟩ := hc
        simp only [Option.some.injEq, Prod.mk.injEq] at h
        obtain ⟨rfl, rfl, rfl, rfl⟩ := h
        have rn : -2147483648 ≤ n ∧ n < 2147483648 := I.top
        have e1 : (μ.1 ++ [(a, n.toNat, [])]).length - μ.1.length = 1 := by simp
        have e2 : am_sl (μ.1 ++ [(a, n.toNat, [])], μ.2.1, am_row μ.2.2 μ.1.length (fun _ => 0)) - am_sl μ = n.toNat := by rw [am_sl_new]; show am_sl μ + n.toNat - am_sl μ = n.toNat; omega
        rw [e2] at hroom
        have hroom1 : cells + 1 ≤ R.cells := by have := hroom.1; dsimp only at this; rw [e1] at this; exact this
        have hcl : (Int32.ofInt n).toNatClampNeg = n.toNat := am_ocl rn
        have hneg : ¬ Int32.ofInt n < 0 := by rw [← am_o0, am_olt rn (by omega)]; omega
        have hw := fun q => am_ws_new (ft := ft) (ad := ad) (cA := cA) I.1 hlt (a, n.toNat, []) q
        have hext : ∀ q, am_ext μ.1.length ad (fun i => if i = μ.1.length then q else ad i) := fun q k hk => if_neg (by omega)
        have fin : ∀ (q : Nat) (H1 : Heap), va_P D cl (am_ws ft ad cA μ ++ [(q, am_cell ft (fun i => if i = μ.1.length then q else ad i) cA (fun _ => 0) (a, n.toNat, []))]) H1 → va_D A (am_ws ft ad cA μ ++ [(q, am_cell ft (fun i => if i = μ.1.length then q else ad i) cA (fun _ => 0) (a, n.toNat, []))]) → va_S A s.heap H1 locs → W p l e R s m args below meth c H1 locs (cells + 1) (slots + n.toNat) Q (F0 m (pc + 2) ls (.ref q :: S1.map (am_rv ad))) := by
          intro q H1 q1 q2 q3
          rw [← hw] at q1 q2
          have K := kk _ H1 _ ls (hext q) (hl.ext (hext q) I.2.1) q1 q2 q3
          refine W.cs ?_ ?_ (W.eq ?_ K)
          · dsimp only
            rw [e1]
          · rw [e2]
          · show F0 m (pc + 2) ls (.ref q :: S1.map (am_rv ad)) = F0 m (pc + 2) ls (.ref (if μ.1.length = μ.1.length then q else ad μ.1.length) :: S1.map (am_rv _))
            rw [if_pos rfl, am_rvs_ext (hext q) I.pop.2.2]
        have same : ∀ (tb : Nat) (ty : FieldType) (cB : ClassId), (am_tys cA)[tb]? = some (cA tb, ty) → (ty = .int ∨ ty = .byte ∨ ty = .boolean ∨ ty = .long) → va_K D cl (am_tys cA ++ [(cB, ty)]) s → cB = cA tb := by
          intro tb ty cB h1 h2 h3
          have g1 := (hK.2 tb _ h1).2
          have g2 := (h3.2 4 (cB, ty) rfl).2
          rcases h2 with rfl | rfl | rfl | rfl
          · exact Option.some.inj ((show s.vm.findClass _ = some cB from g2).symm.trans g1)
          · exact Option.some.inj ((show s.vm.findClass _ = some cB from g2).symm.trans g1)
          · exact Option.some.inj ((show s.vm.findClass _ = some cB from g2).symm.trans g1)
          · exact Option.some.inj ((show s.vm.findClass _ = some cB from g2).symm.trans g1)
        have harr' : (Cond.arrayClass (newarray.typeOf t)).before args s = true := by rw [hty]; exact hts _ (harr a ha)
        have hbytes : ∀ k, k ≤ 8 → n.toNat * k ≤ 536870912 := fun k hk => by
          have : n.toNat * k ≤ 100000 * 8 := Nat.mul_le_mul (by omega) hk
          omega
        rcases (by omega : a = 0 ∨ a = 1 ∨ a = 2 ∨ a = 3) with rfl | rfl | rfl | rfl
        · refine va_newa (ty := .int) (a0 := (n.toNat, .inl (fun _ => Int32.ofInt 0))) hx hb harr' hty hK hP hD hS hA (fun cB => rfl) hneg hcl (hbytes 4 (by omega)) hroom1 hroom.2 hd (fun q cB H1 g1 q1 q2 q3 => ?_)
          rw [same 0 .int cB rfl (Or.inl rfl) g1] at q1 q2
          exact fin q H1 (by rw [am_cell_a (by omega)]; exact q1) (by rw [am_cell_a (by omega)]; exact q2) q3
        · refine va_newa (ty := .byte) (a0 := (n.toNat, .inl (fun _ => Int32.ofInt 0))) hx hb harr' hty hK hP hD hS hA (fun cB => rfl) hneg hcl (hbytes 1 (by omega)) hroom1 hroom.2 hd (fun q cB H1 g1 q1 q2 q3 => ?_)
          rw [same 1 .byte cB rfl (Or.inr (Or.inl rfl)) g1] at q1 q2
          exact fin q H1 (by rw [am_cell_a (by omega)]; exact q1) (by rw [am_cell_a (by omega)]; exact q2) q3
        · refine va_newa (ty := .boolean) (a0 := (n.toNat, .inl (fun _ => Int32.ofInt 0))) hx hb harr' hty hK hP hD hS hA (fun cB => rfl) hneg hcl (hbytes 1 (by omega)) hroom1 hroom.2 hd (fun q cB H1 g1 q1 q2 q3 => ?_)
          rw [same 2 .boolean cB rfl (Or.inr (Or.inr (Or.inl rfl))) g1] at q1 q2
          exact fin q H1 (by rw [am_cell_a (by omega)]; exact q1) (by rw [am_cell_a (by omega)]; exact q2) q3
        · refine va_newa (ty := .long) (a0 := (n.toNat, .inr (.inl (fun _ => Int64.ofInt 0)))) hx hb harr' hty hK hP hD hS hA (fun cB => rfl) hneg hcl (hbytes 8 (by omega)) hroom1 hroom.2 hd (fun q cB H1 g1 q1 q2 q3 => ?_)
          rw [same 3 .long cB rfl (Or.inr (Or.inr (Or.inr rfl))) g1] at q1 q2
          exact fin q H1 (by rw [am_cell_l]; exact q1) (by rw [am_cell_l]; exact q2) q3
      next => cases h
    next => cases h
  next => cases ho
theorem am_cats_rv {S : List am_V} : ((S.map (am_rv ad)).map fun v => v.category).sum = am_cats S := by
  unfold am_cats
  rw [List.map_map]
  congr 1
  apply List.map_congr_left
  intro v _
  exact am_cat_rv ad v
theorem am_cp_i {f g : Nat → Int} {sp dp n : Nat} : (fun i => Int32.ofInt (am_cp f g sp dp n i)) = va_cpy (fun i => Int32.ofInt (f i)) (fun i => Int32.ofInt (g i)) sp dp n := by
  funext i
  unfold am_cp va_cpy
  split <;> rfl
theorem am_cp_l {f g : Nat → Int} {sp dp n : Nat} : (fun i => Int64.ofInt (am_cp f g sp dp n i)) = va_cpy (fun i => Int64.ofInt (f i)) (fun i => Int64.ofInt (g i)) sp dp n := by
  funext i
  unfold am_cp va_cpy
  split <;> rfl
/-- words that all methods share -/
def am_glOk (T : List Cond) : Prop := (∀ t, t < 4 → Cond.arrayClass (am_aty t) ∈ T) ∧ Cond.native arraycopyName ∈ T ∧ Cond.static arraycopyName ∈ T ∧ Cond.initialized "java/lang/System" ∈ T ∧ Cond.initialized "java/lang/Math" ∈ T ∧ (Cond.static Lib.Math.max.name ∈ T ∧ Cond.code Lib.Math.max.name Lib.Math.max.code 2 (some .int) ∈ T) ∧ (Cond.static Lib.Math.min.name ∈ T ∧ Cond.code Lib.Math.min.name Lib.Math.min.code 2 (some .int) ∈ T) ∧ (Cond.static Lib.Math.abs.name ∈ T ∧ Cond.code Lib.Math.abs.name Lib.Math.abs.code 1 (some .int) ∈ T) ∧ Cond.instanceMethod Lib.objectInit ∈ T ∧ Cond.code Lib.objectInit ⟨#[0xb1]⟩ 1 none ∈ T
def am_ok33 (tk : Nat → Option Cond) (own : String) (fr lo a d : Nat) (i : Instr) (len : Nat) : Bool := match i with
  | .invokestatic k => decide (len = 3) && (decide (tk d = some (.methodLink own k arraycopyName)) && (decide (1 ≤ fr) && (decide (26 ≤ lo) && decide (a = 0 ∨ a = 3))))
  | _ => false
theorem am_w_copy {d fr lo : Nat} (htk : ∀ (d : Nat) (w : Cond), tk d = some w → w ∈ T) (X : am_X T cl D cA A p s m args c cc nL own) (hgl : am_glOk T) (hR : R.frames = fr ∧ R.locals = lo) (hd : decode cc pc = .ok (i, len)) (ho : am_ok33 tk own fr lo a d i len = true) (h : am_scopy a (pc + len) L S μ = some (pc', L', S', μ')) (I : am_I ft μ L S) (hl : am_lv ad ls nL L) (hP : va_P D cl (am_ws ft ad cA μ) H) (hD : va_D A (am_ws ft ad cA μ)) (hS : va_S A s.heap H locs) (kk : am_Kk ft p l e R s m args below meth c D cl cA A nL ad μ cells slots Q pc' L' S' μ') : W p l e R s m args below meth c H locs cells slots Q (F0 m pc ls (S.map (am_rv ad))) := by
  obtain ⟨hx, hb, hml, hown, hts, hK, hA⟩ := X
  unfold am_ok33 at ho
  split at ho
  next kx =>
    simp only [Bool.and_eq_true, decide_eq_true_eq] at ho
    obtain ⟨rfl, hlk, hf, hlo, ha⟩ := ho
    unfold am_scopy at h
    split at h
    next n dp k1 sp k0 S1 =>
      split at h
      next kd0 N0 r0 kd1 N1 r1 h0 h1 =>
        split at h
        next hc =>
          obtain ⟨e0, e1, -, hn, hdp, hsp, hb0, hb1, hcat⟩ := hc
          simp only [Option.some.injEq, Prod.mk.injEq] at h
          obtain ⟨rfl, rfl, rfl, rfl⟩ := h
          subst e0
          subst e1
          have rn : -2147483648 ≤ n ∧ n < 2147483648 := I.top
          have rdp : -2147483648 ≤ dp ∧ dp < 2147483648 := I.pop.top
          have rsp : -2147483648 ≤ sp ∧ sp < 2147483648 := I.pop.pop.pop.top
          have cn : (Int32.ofInt n).toNatClampNeg = n.toNat := am_ocl rn
          have cdp : (Int32.ofInt dp).toNatClampNeg = dp.toNat := am_ocl rdp
          have csp : (Int32.ofInt sp).toNatClampNeg = sp.toNat := am_ocl rsp
          have nn : ¬ Int32.ofInt n < 0 := by rw [← am_o0, am_olt rn (by omega)]; omega
          have ndp : ¬ Int32.ofInt dp < 0 := by rw [← am_o0, am_olt rdp (by omega)]; omega
          have nsp : ¬ Int32.ofInt sp < 0 := by rw [← am_o0, am_olt rsp (by omega)]; omega
          have hw0 := am_ws_get (ft := ft) (ad := ad) (cA := cA) h0
          have hw1 := am_ws_get (ft := ft) (ad := ad) (cA := cA) h1
          have hu := am_ws_row (ft := ft) (ad := ad) (cA := cA) (f := am_cp (μ.2.2 k0) (μ.2.2 k1) sp.toNat dp.toNat n.toNat) h1
          have hms : c.maxLocals = ls.size := by rw [hml]; exact hl.1.1.symm
          have hlo2 : ((S1.map (am_rv ad)).map fun v => v.category).sum + (nativeFrameWords "java/lang/System" "arraycopy" 5 + 11) ≤ R.locals := by
            rw [am_cats_rv, hR.2, show nativeFrameWords "java/lang/System" "arraycopy" 5 = 7 by decide]
            omega
          rcases ha with ha | ha
          · subst ha
            rw [am_cell_a (by omega)] at hw0 hw1
            rw [am_cell_a (by omega), am_cp_i] at hu
            refine va_copyi (ty := .int) hx hb hms hown (hts _ (htk _ _ hlk)) (hts _ hgl.2.1) (hts _ hgl.2.2.1) (hts _ hgl.2.2.2.1) hK hP hD hS k0 k1 0 0 hw0 hw1 rfl rfl rfl nsp ndp nn (by rw [csp, cn]; omega) (by rw [cdp, cn]; omega) (fun _ _ => rfl) (by omega) hlo2 hd (fun H1 locs1 q1 q2 q3 => ?_)
            rw [csp, cdp, cn, ← hu] at q1 q2
            exact kk.keep hl q1 q2 q3
          · subst ha
            rw [am_cell_l] at hw0 hw1
            rw [am_cell_l, am_cp_l] at hu
            refine va_copyl hx hb hms hown (hts _ (htk _ _ hlk)) (hts _ hgl.2.1) (hts _ hgl.2.2.1) (hts _ hgl.2.2.2.1) hK hP hD hS k0 k1 3 3 hw0 hw1 rfl rfl rfl nsp ndp nn (by rw [csp, cn]; omega) (by rw [cdp, cn]; omega) (fun _ _ => rfl) (by omega) hlo2 hd (fun H1 locs1 q1 q2 q3 => ?_)
            rw [csp, cdp, cn, ← hu] at q1 q2
            exact kk.keep hl q1 q2 q3
        next => cases h
      next => cases h
    next => cases h
  next => cases ho
def am_mname (a : Nat) : MethodName := match a with
  | 0 => Lib.Math.max.name
  | 1 => Lib.Math.min.name
  | _ => Lib.Math.abs.name
def am_ok34 (tk : Nat → Option Cond) (own : String) (fr lo a d : Nat) (i : Instr) (len : Nat) : Bool := match i with
  | .invokestatic k => decide (len = 3) && (decide (tk d = some (.methodLink own k (am_mname a))) && (decide (1 ≤ fr) && decide (26 ≤ lo)))
  | _ => false
theorem am_w_math {d fr lo : Nat} (htk : ∀ (d : Nat) (w : Cond), tk d = some w → w ∈ T) (X : am_X T cl D cA A p s m args c cc nL own) (hgl : am_glOk T) (hR : R.frames = fr ∧ R.locals = lo) (hc0 : cells ≤ R.cells ∧ slots ≤ R.slots) (hd : decode cc pc = .ok (i, len)) (ho : am_ok34 tk own fr lo a d i len = true) (h : am_smath a (pc + len) L S μ = some (pc', L', S', μ')) (I : am_I ft μ L S) (hl : am_lv ad ls nL L) (hP : va_P D cl (am_ws ft ad cA μ) H) (hD : va_D A (am_ws ft ad cA μ)) (hS : va_S A s.heap H locs) (kk : am_Kk ft p l e R s m args below meth c D cl cA A nL ad μ cells slots Q pc' L' S' μ') : W p l e R s m args below meth c H locs cells slots Q (F0 m pc ls (S.map (am_rv ad))) := by
  obtain ⟨hx, hb, hml, hown, hts, hK, hA⟩ := X
  unfold am_ok34 at ho
  split at ho
  next kx =>
    simp only [Bool.and_eq_true, decide_eq_true_eq] at ho
    obtain ⟨rfl, hlk, hf, hlo⟩ := ho
    have hms : c.maxLocals = ls.size := by rw [hml]; exact hl.1.1.symm
    unfold am_smath at h
    split at h
    next y x S1 =>
      split at h
      next hcat =>
        simp only [Option.some.injEq, Prod.mk.injEq] at h
        obtain ⟨rfl, rfl, rfl, rfl⟩ := h
        have rx : -2147483648 ≤ x ∧ x < 2147483648 := I.pop.top
        have ry : -2147483648 ≤ y ∧ y < 2147483648 := I.top
        have hlo2 : ((S1.map (am_rv ad)).map fun v => v.category).sum + 13 ≤ R.locals := by rw [am_cats_rv, hR.2]; omega
        have K : W p l e R s m args below meth c H locs cells slots Q (F0 m (pc + 3) ls (.int (Int32.ofInt (if x < y then y else x)) :: S1.map (am_rv ad))) := kk.same hl hP hD hS
        have ev : (if Int32.ofInt x < Int32.ofInt y then Int32.ofInt y else Int32.ofInt x) = Int32.ofInt (if x < y then y else x) := by
          simp only [am_olt rx ry]
          split <;> rfl
        exact va_mmax hx hb hms hown (hts _ (htk _ _ hlk)) (hts _ hgl.2.2.2.2.2.1.1) (hts _ hgl.2.2.2.2.1) (hts _ hgl.2.2.2.2.2.1.2) (by omega) hlo2 hc0.1 hc0.2 hd (by rw [ev]; exact K)
      next => cases h
    next y x S1 =>
      split at h
      next hcat =>
        simp only [Option.some.injEq, Prod.mk.injEq] at h
        obtain ⟨rfl, rfl, rfl, rfl⟩ := h
        have rx : -2147483648 ≤ x ∧ x < 2147483648 := I.pop.top
        have ry : -2147483648 ≤ y ∧ y < 2147483648 := I.top
        have hlo2 : ((S1.map (am_rv ad)).map fun v => v.category).sum + 13 ≤ R.locals := by rw [am_cats_rv, hR.2]; omega
        have K : W p l e R s m args below meth c H locs cells slots Q (F0 m (pc + 3) ls (.int (Int32.ofInt (if y < x then y else x)) :: S1.map (am_rv ad))) := kk.same hl hP hD hS
        have ev : (if Int32.ofInt y < Int32.ofInt x then Int32.ofInt y else Int32.ofInt x) = Int32.ofInt (if y < x then y else x) := by
          simp only [am_olt ry rx]
          split <;> rfl
        exact va_mmin hx hb hms hown (hts _ (htk _ _ hlk)) (hts _ hgl.2.2.2.2.2.2.1.1) (hts _ hgl.2.2.2.2.1) (hts _ hgl.2.2.2.2.2.2.1.2) (by omega) hlo2 hc0.1 hc0.2 hd (by rw [ev]; exact K)
      next => cases h
    next x S1 =>
      split at h
      next hcat =>
        simp only [Option.some.injEq, Prod.mk.injEq] at h
        obtain ⟨rfl, rfl, rfl, rfl⟩ := h
        have rx : -2147483648 ≤ x ∧ x < 2147483648 := I.top
        have hlo2 : ((S1.map (am_rv ad)).map fun v => v.category).sum + 13 ≤ R.locals := by rw [am_cats_rv, hR.2]; omega
        have K : W p l e R s m args below meth c H locs cells slots Q (F0 m (pc + 3) ls (.int (Int32.ofInt (if 0 ≤ x then x else w32 (0 - x))) :: S1.map (am_rv ad))) := kk.same hl hP hD hS
        have ev : (if 0 ≤ Int32.ofInt x then Int32.ofInt x else 0 - Int32.ofInt x) = Int32.ofInt (if 0 ≤ x then x else w32 (0 - x)) := by
          have e0 : (0 ≤ Int32.ofInt x) ↔ 0 ≤ x := by rw [← am_o0, am_ole (by omega) rx]
          simp only [e0]
          split
          · rfl
          · rw [am_osub]; rfl
        exact va_mabs hx hb hms hown (hts _ (htk _ _ hlk)) (hts _ hgl.2.2.2.2.2.2.2.1.1) (hts _ hgl.2.2.2.2.1) (hts _ hgl.2.2.2.2.2.2.2.1.2) (by omega) hlo2 hc0.1 hc0.2 hd (by rw [ev]; exact K)
      next => cases h
    next => cases h
  next => cases ho
def am_ok37 (tk : Nat → Option Cond) (own : String) (fr lo d : Nat) (i : Instr) (len : Nat) : Bool := match i with
  | .invokespecial k => decide (len = 3) && (decide (tk d = some (.methodLink own k Lib.objectInit)) && (decide (1 ≤ fr) && decide (26 ≤ lo)))
  | _ => false
theorem am_w_oinit {d fr lo : Nat} (htk : ∀ (d : Nat) (w : Cond), tk d = some w → w ∈ T) (X : am_X T cl D cA A p s m args c cc nL own) (hgl : am_glOk T) (hR : R.frames = fr ∧ R.locals = lo) (hd : decode cc pc = .ok (i, len)) (ho : am_ok37 tk own fr lo d i len = true) (h : am_soinit (pc + len) L S μ = some (pc', L', S', μ')) (hl : am_lv ad ls nL L) (hP : va_P D cl (am_ws ft ad cA μ) H) (hD : va_D A (am_ws ft ad cA μ)) (hS : va_S A s.heap H locs) (kk : am_Kk ft p l e R s m args below meth c D cl cA A nL ad μ cells slots Q pc' L' S' μ') : W p l e R s m args below meth c H locs cells slots Q (F0 m pc ls (S.map (am_rv ad))) := by
  obtain ⟨hx, hb, hml, hown, hts, hK, hA⟩ := X
  unfold am_ok37 at ho
  split at ho
  next kx =>
    simp only [Bool.and_eq_true, decide_eq_true_eq] at ho
    obtain ⟨rfl, hlk, hf, hlo⟩ := ho
    unfold am_soinit at h
    split at h
    next k S1 =>
      split at h
      next hcat =>
        simp only [Option.some.injEq, Prod.mk.injEq] at h
        obtain ⟨rfl, rfl, rfl, rfl⟩ := h
        refine W.objInit hx hb hown (hts _ (htk _ _ hlk)) (hts _ hgl.2.2.2.2.2.2.2.2.1) (hts _ hgl.2.2.2.2.2.2.2.2.2) rfl (by rw [hml]; exact hl.1.1) rfl hd (by omega) ?_ (kk.same hl hP hD hS)
        show 2 * 0 + ((S1.map (am_rv ad)).map fun v => v.category).sum + 12 ≤ R.locals
        rw [am_cats_rv, hR.2]
        omega
      next => cases h
    next => cases h
  next => cases ho
end WM2
