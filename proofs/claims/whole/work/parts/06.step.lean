/-! one instruction of the abstract machine is one of the machine: what doesn't touch cells -/
def am_ftOk (t : Nat) (ty : FieldType) (fin : Bool) : Prop := (t = 0 ∧ ty = .int ∧ fin = false) ∨ (t = 2 ∧ ty = .boolean ∧ fin = false) ∨ (t = 3 ∧ ty = .long ∧ fin = false) ∨ (t = 4 ∧ fin = true ∧ ((∃ n, ty = .object n) ∨ ∃ u, ty = .array u))
def am_clOk (ft : List (List Nat)) (T : List Cond) (cl : List vw_C) : Prop := ∀ (ci : Nat) (C : String) (Tt : u_T) (N : Nat), cl[ci]? = some (C, Tt, N) → (∀ w ∈ u_ws C Tt N, w ∈ T) ∧ (∀ j, j < N → (Tt j).1 = C ∧ ∃ ty, parseFieldDescriptor (Tt j).2.2.1 = some ty ∧ am_ftOk (am_ft ft ci j) ty (Tt j).2.2.2) ∧ (∀ a, a < N → ∀ b, b < N → a ≠ b → (Tt a).2.1 ≠ (Tt b).2.1) ∧ Cond.instantiable C N ∈ T ∧ Cond.initialized C ∈ T
def am_X (T : List Cond) (cl : List vw_C) (D : va_G) (cA : Nat → ClassId) (A : Nat → Prop) (p : Program) (s : State) (m : MethodId) (args : Array Value) (c : Code) (cc : ByteArray) (nL : Nat) (own : String) : Prop :=
  p.tables.exec = Jvm.exec ∧ c.code = cc ∧ c.maxLocals = nL ∧ s.vm.findClass own = some m.cls ∧ (∀ w ∈ T, w.before args s = true) ∧ va_K D cl (am_tys cA) s ∧ ∀ q, s.heap.size ≤ q → A q
def am_Kk (ft : List (List Nat)) (p : Program) (l : Launch) (e : Env) (R : Room) (s : State) (m : MethodId) (args : Array Value) (below : List Frame) (meth : Method) (c : Code) (D : va_G) (cl : List vw_C) (cA : Nat → ClassId) (A : Nat → Prop) (nL : Nat) (ad : Nat → Nat) (μ : am_M) (cells slots : Nat) (Q : State → Prop) (pc' : Nat) (L' : am_L) (S' : List am_V) (μ' : am_M) : Prop :=
  ∀ (ad' : Nat → Nat) (H' : Heap) (locs' : List Loc) (ls' : Array Slot), am_ext μ.1.length ad ad' → am_lv ad' ls' nL L' → va_P D cl (am_ws ft ad' cA μ') H' → va_D A (am_ws ft ad' cA μ') → va_S A s.heap H' locs' → W p l e R s m args below meth c H' locs' (cells + (μ'.1.length - μ.1.length)) (slots + (am_sl μ' - am_sl μ)) Q (F0 m pc' ls' (S'.map (am_rv ad')))
section WST
variable {ft : List (List Nat)} {p : Program} {l : Launch} {e : Env} {R : Room} {s : State} {m : MethodId} {args : Array Value} {below : List Frame} {meth : Method} {c : Code} {D : va_G} {cl : List vw_C} {cA : Nat → ClassId} {A : Nat → Prop} {nL : Nat} {ad : Nat → Nat} {μ μ' : am_M} {cells slots : Nat} {Q : State → Prop} {pc pc' len a b : Nat} {L L' : am_L} {S S' : List am_V} {T : List Cond} {tk : Nat → Option Cond} {cc : ByteArray} {own : String} {H : Heap} {locs : List Loc} {ls : Array Slot} {i : Instr}
theorem am_Kk.same (kk : am_Kk ft p l e R s m args below meth c D cl cA A nL ad μ cells slots Q pc' L' S' μ) (hl : am_lv ad ls nL L') (hP : va_P D cl (am_ws ft ad cA μ) H) (hD : va_D A (am_ws ft ad cA μ)) (hS : va_S A s.heap H locs) : W p l e R s m args below meth c H locs cells slots Q (F0 m pc' ls (S'.map (am_rv ad))) := by
  have h := kk ad H locs ls am_ext.rf hl hP hD hS
  simpa only [Nat.sub_self, Nat.add_zero] using h
def am_ok0 (t a : Nat) (i : Instr) (len : Nat) : Bool := match t, i with
  | 0, .iload k => decide (k = a) && decide (len = 2)
  | 0, .iload_n k => decide ((k : Nat) = a) && decide (len = 1)
  | 1, .lload k => decide (k = a) && decide (len = 2)
  | 1, .lload_n k => decide ((k : Nat) = a) && decide (len = 1)
  | 2, .aload k => decide (k = a) && decide (len = 2)
  | 2, .aload_n k => decide ((k : Nat) = a) && decide (len = 1)
  | _, _ => false
theorem am_w_load {t : Nat} (X : am_X T cl D cA A p s m args c cc nL own) (hd : decode cc pc = .ok (i, len)) (ho : am_ok0 t a i len = true) (h : am_sload t a (pc + len) L S μ = some (pc', L', S', μ')) (hl : am_lv ad ls nL L) (hP : va_P D cl (am_ws ft ad cA μ) H) (hD : va_D A (am_ws ft ad cA μ)) (hS : va_S A s.heap H locs) (kk : am_Kk ft p l e R s m args below meth c D cl cA A nL ad μ cells slots Q pc' L' S' μ') : W p l e R s m args below meth c H locs cells slots Q (F0 m pc ls (S.map (am_rv ad))) := by
  obtain ⟨hx, hb, -⟩ := X
  unfold am_sload at h
  split at h
  next v hv =>
    split at h
    next htag =>
      simp only [Option.some.injEq, Prod.mk.injEq] at h
      obtain ⟨rfl, rfl, rfl, rfl⟩ := h
      have hg := hl.get hv
      have K := kk.same hl hP hD hS
      unfold am_ok0 at ho
      split at ho
      all_goals try simp only [Bool.and_eq_true, decide_eq_true_eq, Bool.false_eq_true] at ho
      · obtain ⟨rfl, rfl⟩ := ho
        match v, htag, hg, K with
        | .inl x, _, hg, K => exact lv_iload hx hb hd hg K
        | .inr (.inl _), z, _, _ => cases z
        | .inr (.inr _), z, _, _ => cases z
      · obtain ⟨h1, rfl⟩ := ho
        match v, htag, hg, K with
        | .inl x, _, hg, K => exact lv_iload_n hx hb hd h1 hg K
        | .inr (.inl _), z, _, _ => cases z
        | .inr (.inr _), z, _, _ => cases z
      · obtain ⟨rfl, rfl⟩ := ho
        match v, htag, hg, K with
        | .inr (.inl x), _, hg, K => exact lv_lload hx hb hd hg K
        | .inl _, z, _, _ => cases z
        | .inr (.inr _), z, _, _ => cases z
      · obtain ⟨h1, rfl⟩ := ho
        match v, htag, hg, K with
        | .inr (.inl x), _, hg, K => exact lv_lload_n hx hb hd h1 hg K
        | .inl _, z, _, _ => cases z
        | .inr (.inr _), z, _, _ => cases z
      · obtain ⟨rfl, rfl⟩ := ho
        match v, htag, hg, K with
        | .inr (.inr x), _, hg, K => exact lv_aload hx hb hd hg K
        | .inl _, z, _, _ => cases z
        | .inr (.inl _), z, _, _ => cases z
      · obtain ⟨h1, rfl⟩ := ho
        match v, htag, hg, K with
        | .inr (.inr x), _, hg, K => exact lv_aload_n hx hb hd h1 hg K
        | .inl _, z, _, _ => cases z
        | .inr (.inl _), z, _, _ => cases z
    next => cases h
  next => cases h
def am_ok3 (t a : Nat) (i : Instr) (len : Nat) : Bool := match t, i with
  | 0, .istore k => decide (k = a) && decide (len = 2)
  | 0, .istore_n k => decide ((k : Nat) = a) && decide (len = 1)
  | 1, .lstore k => decide (k = a) && decide (len = 2)
  | 1, .lstore_n k => decide ((k : Nat) = a) && decide (len = 1)
  | 2, .astore k => decide (k = a) && decide (len = 2)
  | 2, .astore_n k => decide ((k : Nat) = a) && decide (len = 1)
  | _, _ => false
theorem am_w_store {t : Nat} (X : am_X T cl D cA A p s m args c cc nL own) (hd : decode cc pc = .ok (i, len)) (ho : am_ok3 t a i len = true) (h : am_sstore t a (pc + len) L S μ = some (pc', L', S', μ')) (hl : am_lv ad ls nL L) (hP : va_P D cl (am_ws ft ad cA μ) H) (hD : va_D A (am_ws ft ad cA μ)) (hS : va_S A s.heap H locs) (kk : am_Kk ft p l e R s m args below meth c D cl cA A nL ad μ cells slots Q pc' L' S' μ') : W p l e R s m args below meth c H locs cells slots Q (F0 m pc ls (S.map (am_rv ad))) := by
  obtain ⟨hx, hb, -⟩ := X
  unfold am_sstore at h
  split at h
  next v S1 =>
    split at h
    next hc =>
      obtain ⟨htag, hlen⟩ := hc
      simp only [Option.some.injEq, Prod.mk.injEq] at h
      obtain ⟨rfl, rfl, rfl, rfl⟩ := h
      rw [hl.2] at hlen
      unfold am_ok3 at ho
      split at ho
      all_goals try simp only [Bool.and_eq_true, decide_eq_true_eq, Bool.false_eq_true] at ho
      · obtain ⟨rfl, rfl⟩ := ho
        match v, htag, hlen, kk with
        | .inl x, _, hlen, kk => exact lv_istore hx hb hd hl.1 hlen rfl (fun ls' h' => kk.same (hl.st1 (v := vI x) (by show ¬ 0 = 1; omega) h') hP hD hS)
        | .inr (.inl _), z, _, _ => cases z
        | .inr (.inr _), z, _, _ => cases z
      · obtain ⟨h1, rfl⟩ := ho
        match v, htag, hlen, kk with
        | .inl x, _, hlen, kk => exact lv_istore_n hx hb hd h1 hl.1 hlen rfl (fun ls' h' => kk.same (hl.st1 (v := vI x) (by show ¬ 0 = 1; omega) h') hP hD hS)
        | .inr (.inl _), z, _, _ => cases z
        | .inr (.inr _), z, _, _ => cases z
      · obtain ⟨rfl, rfl⟩ := ho
        match v, htag, hlen, kk with
        | .inr (.inl x), _, hlen, kk => exact lv_lstore hx hb hd hl.1 hlen rfl (fun ls' h' => kk.same (hl.st2 (v := vJ x) rfl h') hP hD hS)
        | .inl _, z, _, _ => cases z
        | .inr (.inr _), z, _, _ => cases z
      · obtain ⟨h1, rfl⟩ := ho
        match v, htag, hlen, kk with
        | .inr (.inl x), _, hlen, kk => exact lv_lstore_n hx hb hd h1 hl.1 hlen rfl (fun ls' h' => kk.same (hl.st2 (v := vJ x) rfl h') hP hD hS)
        | .inl _, z, _, _ => cases z
        | .inr (.inr _), z, _, _ => cases z
      · obtain ⟨rfl, rfl⟩ := ho
        match v, htag, hlen, kk with
        | .inr (.inr x), _, hlen, kk => exact lv_astore hx hb hd hl.1 hlen rfl (fun ls' h' => kk.same (hl.st1 (v := vP x) (by show ¬ 2 = 1; omega) h') hP hD hS)
        | .inl _, z, _, _ => cases z
        | .inr (.inl _), z, _, _ => cases z
      · obtain ⟨h1, rfl⟩ := ho
        match v, htag, hlen, kk with
        | .inr (.inr x), _, hlen, kk => exact lv_astore_n hx hb hd h1 hl.1 hlen rfl (fun ls' h' => kk.same (hl.st1 (v := vP x) (by show ¬ 2 = 1; omega) h') hP hD hS)
        | .inl _, z, _, _ => cases z
        | .inr (.inl _), z, _, _ => cases z
    next => cases h
  next => cases h
def am_ok6 (tk : Nat → Option Cond) (own : String) (d : Nat) (c : Int) (i : Instr) (len : Nat) : Bool := match i with
  | .iconst n => decide (n = c) && decide (len = 1)
  | .bipush n => decide ((Int8.ofInt n).toInt32 = Int32.ofInt c) && decide (len = 2)
  | .sipush n => decide ((Int16.ofInt n).toInt32 = Int32.ofInt c) && decide (len = 3)
  | .ldc k => decide (tk d = some (.constant own k (Int32.ofInt c))) && decide (len = 2)
  | .ldc_w k => decide (tk d = some (.constant own k (Int32.ofInt c))) && decide (len = 3)
  | _ => false
theorem am_w_iconst {d : Nat} {z : Int} (htk : ∀ (d : Nat) (w : Cond), tk d = some w → w ∈ T) (X : am_X T cl D cA A p s m args c cc nL own) (hd : decode cc pc = .ok (i, len)) (ho : am_ok6 tk own d z i len = true) (K : W p l e R s m args below meth c H locs cells slots Q (F0 m (pc + len) ls (.int (Int32.ofInt z) :: S.map (am_rv ad)))) : W p l e R s m args below meth c H locs cells slots Q (F0 m pc ls (S.map (am_rv ad))) := by
  obtain ⟨hx, hb, -, hown, hts, -⟩ := X
  unfold am_ok6 at ho
  split at ho
  all_goals try simp only [Bool.and_eq_true, decide_eq_true_eq, Bool.false_eq_true] at ho
  · obtain ⟨rfl, rfl⟩ := ho
    exact lv_iconst hx hb hd rfl K
  · obtain ⟨h1, rfl⟩ := ho
    exact lv_bipush hx hb hd h1 K
  · obtain ⟨h1, rfl⟩ := ho
    exact lv_sipush hx hb hd h1 K
  · obtain ⟨h1, rfl⟩ := ho
    exact lv_ldc hx hb hown (hts _ (htk _ _ h1)) hd K
  · obtain ⟨h1, rfl⟩ := ho
    exact lv_ldcw hx hb hown (hts _ (htk _ _ h1)) hd K
def am_ok7 (tk : Nat → Option Cond) (own : String) (d : Nat) (c : Int) (i : Instr) (len : Nat) : Bool := match i with
  | .lconst n => decide (Int64.ofNat (n : Nat) = Int64.ofInt c) && decide (len = 1)
  | .ldc2_w k => decide (tk d = some (.constantLong own k (Int64.ofInt c))) && decide (len = 3)
  | _ => false
theorem am_w_lconst {d : Nat} {z : Int} (htk : ∀ (d : Nat) (w : Cond), tk d = some w → w ∈ T) (X : am_X T cl D cA A p s m args c cc nL own) (hd : decode cc pc = .ok (i, len)) (ho : am_ok7 tk own d z i len = true) (K : W p l e R s m args below meth c H locs cells slots Q (F0 m (pc + len) ls (.long (Int64.ofInt z) :: S.map (am_rv ad)))) : W p l e R s m args below meth c H locs cells slots Q (F0 m pc ls (S.map (am_rv ad))) := by
  obtain ⟨hx, hb, -, hown, hts, -⟩ := X
  unfold am_ok7 at ho
  split at ho
  all_goals try simp only [Bool.and_eq_true, decide_eq_true_eq, Bool.false_eq_true] at ho
  · obtain ⟨h1, rfl⟩ := ho
    exact lv_lconst hx hb hd h1 K
  · obtain ⟨h1, rfl⟩ := ho
    exact lv_ldc2 hx hb hown (hts _ (htk _ _ h1)) hd K
def am_ok8 (a : Nat) (i : Instr) (len : Nat) : Bool := decide (len = 1) && (match a, i with
  | 0, .iadd => true
  | 1, .isub => true
  | 2, .imul => true
  | 3, .iand => true
  | 4, .ior => true
  | 5, .ixor => true
  | 6, .ishl => true
  | 7, .ishr => true
  | 8, .iushr => true
  | _, _ => false)
theorem am_w_bin (X : am_X T cl D cA A p s m args c cc nL own) (hd : decode cc pc = .ok (i, len)) (ho : am_ok8 a i len = true) (h : am_sbin a (pc + len) L S μ = some (pc', L', S', μ')) (hl : am_lv ad ls nL L) (hP : va_P D cl (am_ws ft ad cA μ) H) (hD : va_D A (am_ws ft ad cA μ)) (hS : va_S A s.heap H locs) (kk : am_Kk ft p l e R s m args below meth c D cl cA A nL ad μ cells slots Q pc' L' S' μ') : W p l e R s m args below meth c H locs cells slots Q (F0 m pc ls (S.map (am_rv ad))) := by
  obtain ⟨hx, hb, -⟩ := X
  unfold am_sbin at h
  split at h
  next y x S1 =>
    simp only [Option.some.injEq, Prod.mk.injEq] at h
    obtain ⟨rfl, rfl, rfl, rfl⟩ := h
    have K : W p l e R s m args below meth c H locs cells slots Q (F0 m (pc + len) ls (.int (Int32.ofInt (am_bin a x y)) :: S1.map (am_rv ad))) := kk.same hl hP hD hS
    unfold am_ok8 at ho
    simp only [Bool.and_eq_true, decide_eq_true_eq] at ho
    obtain ⟨rfl, ho⟩ := ho
    split at ho
    · exact lv_iadd hx hb hd (by rw [← am_oadd]; exact K)
    · exact lv_isub hx hb hd (by rw [← am_osub]; exact K)
    · exact lv_imul hx hb hd (by rw [← am_omul]; exact K)
    · exact lv_iand hx hb hd (by rw [← am_ofT (_ &&& _)]; exact K)
    · exact lv_ior hx hb hd (by rw [← am_ofT (_ ||| _)]; exact K)
    · exact lv_ixor hx hb hd (by rw [← am_ofT (_ ^^^ _)]; exact K)
    · exact lv_ishl hx hb hd (by rw [← am_ofT (_ <<< _)]; exact K)
    · exact lv_ishr hx hb hd (by rw [← am_ofT (_ >>> _)]; exact K)
    · exact lv_iushr hx hb hd (am_ofT _).symm K
    · cases ho
  next => cases h
def am_ok9 (a : Nat) (i : Instr) (len : Nat) : Bool := decide (len = 1) && (match a, i with
  | 0, .idiv => true
  | 1, .irem => true
  | _, _ => false)
theorem am_w_div (X : am_X T cl D cA A p s m args c cc nL own) (hd : decode cc pc = .ok (i, len)) (ho : am_ok9 a i len = true) (h : am_sdiv a (pc + len) L S μ = some (pc', L', S', μ')) (I : am_I ft μ L S) (hl : am_lv ad ls nL L) (hP : va_P D cl (am_ws ft ad cA μ) H) (hD : va_D A (am_ws ft ad cA μ)) (hS : va_S A s.heap H locs) (kk : am_Kk ft p l e R s m args below meth c D cl cA A nL ad μ cells slots Q pc' L' S' μ') : W p l e R s m args below meth c H locs cells slots Q (F0 m pc ls (S.map (am_rv ad))) := by
  obtain ⟨hx, hb, -⟩ := X
  unfold am_sdiv at h
  split at h
  next y x S1 =>
    split at h
    next => cases h
    next hy =>
      simp only [Option.some.injEq, Prod.mk.injEq] at h
      obtain ⟨rfl, rfl, rfl, rfl⟩ := h
      have K : W p l e R s m args below meth c H locs cells slots Q (F0 m (pc + len) ls (.int (Int32.ofInt (if a = 0 then am_div x y else am_rem x y)) :: S1.map (am_rv ad))) := kk.same hl hP hD hS
      have ry : -2147483648 ≤ y ∧ y < 2147483648 := I.top
      have rx : -2147483648 ≤ x ∧ x < 2147483648 := I.pop.top
      have hne : ¬ Int32.ofInt y = 0 := fun z => hy ((am_oeq ry (by omega)).mp z)
      unfold am_ok9 at ho
      simp only [Bool.and_eq_true, decide_eq_true_eq] at ho
      obtain ⟨rfl, ho⟩ := ho
      split at ho
      · rw [if_pos rfl] at K
        exact lv_idiv hx hb hd hne (by rw [← am_odiv rx ry]; exact K)
      · rw [if_neg (by omega)] at K
        exact lv_irem hx hb hd hne (by rw [← am_orem rx ry]; exact K)
      · cases ho
  next => cases h
def am_okE (j i : Instr) (len : Nat) : Bool := decide (len = 1) && decide (i = j)
theorem am_w_neg (X : am_X T cl D cA A p s m args c cc nL own) (hd : decode cc pc = .ok (i, len)) (ho : am_okE .ineg i len = true) (h : am_sneg (pc + len) L S μ = some (pc', L', S', μ')) (hl : am_lv ad ls nL L) (hP : va_P D cl (am_ws ft ad cA μ) H) (hD : va_D A (am_ws ft ad cA μ)) (hS : va_S A s.heap H locs) (kk : am_Kk ft p l e R s m args below meth c D cl cA A nL ad μ cells slots Q pc' L' S' μ') : W p l e R s m args below meth c H locs cells slots Q (F0 m pc ls (S.map (am_rv ad))) := by
  obtain ⟨hx, hb, -⟩ := X
  unfold am_okE at ho
  simp only [Bool.and_eq_true, decide_eq_true_eq] at ho
  obtain ⟨rfl, rfl⟩ := ho
  unfold am_sneg at h
  split at h
  next x S1 =>
    simp only [Option.some.injEq, Prod.mk.injEq] at h
    obtain ⟨rfl, rfl, rfl, rfl⟩ := h
    have K : W p l e R s m args below meth c H locs cells slots Q (F0 m (pc + 1) ls (.int (Int32.ofInt (w32 (-x))) :: S1.map (am_rv ad))) := kk.same hl hP hD hS
    exact lv_ineg hx hb hd (by rw [← am_oneg]; exact K)
  next => cases h
def am_ok12 (a : Nat) (i : Instr) (len : Nat) : Bool := decide (len = 1) && (match a, i with
  | 0, .ladd => true
  | 1, .lmul => true
  | _, _ => false)
theorem am_w_lbin (X : am_X T cl D cA A p s m args c cc nL own) (hd : decode cc pc = .ok (i, len)) (ho : am_ok12 a i len = true) (h : am_slbin a (pc + len) L S μ = some (pc', L', S', μ')) (hl : am_lv ad ls nL L) (hP : va_P D cl (am_ws ft ad cA μ) H) (hD : va_D A (am_ws ft ad cA μ)) (hS : va_S A s.heap H locs) (kk : am_Kk ft p l e R s m args below meth c D cl cA A nL ad μ cells slots Q pc' L' S' μ') : W p l e R s m args below meth c H locs cells slots Q (F0 m pc ls (S.map (am_rv ad))) := by
  obtain ⟨hx, hb, -⟩ := X
  unfold am_slbin at h
  split at h
  next y x S1 =>
    simp only [Option.some.injEq, Prod.mk.injEq] at h
    obtain ⟨rfl, rfl, rfl, rfl⟩ := h
    have K : W p l e R s m args below meth c H locs cells slots Q (F0 m (pc + len) ls (.long (Int64.ofInt (am_lbin a x y)) :: S1.map (am_rv ad))) := kk.same hl hP hD hS
    unfold am_ok12 at ho
    simp only [Bool.and_eq_true, decide_eq_true_eq] at ho
    obtain ⟨rfl, ho⟩ := ho
    split at ho
    · exact lv_ladd hx hb hd (by rw [← am_oladd]; exact K)
    · exact lv_lmul hx hb hd (by rw [← am_olmul]; exact K)
    · cases ho
  next => cases h
def am_ok13 (a : Nat) (i : Instr) (len : Nat) : Bool := decide (len = 1) && (match a, i with
  | 0, .i2l => true
  | 1, .l2i => true
  | 2, .i2b => true
  | 3, .i2c => true
  | _, _ => false)
theorem am_w_conv (X : am_X T cl D cA A p s m args c cc nL own) (hd : decode cc pc = .ok (i, len)) (ho : am_ok13 a i len = true) (h : am_sconv a (pc + len) L S μ = some (pc', L', S', μ')) (I : am_I ft μ L S) (hl : am_lv ad ls nL L) (hP : va_P D cl (am_ws ft ad cA μ) H) (hD : va_D A (am_ws ft ad cA μ)) (hS : va_S A s.heap H locs) (kk : am_Kk ft p l e R s m args below meth c D cl cA A nL ad μ cells slots Q pc' L' S' μ') : W p l e R s m args below meth c H locs cells slots Q (F0 m pc ls (S.map (am_rv ad))) := by
  obtain ⟨hx, hb, -⟩ := X
  unfold am_ok13 at ho
  simp only [Bool.and_eq_true, decide_eq_true_eq] at ho
  obtain ⟨rfl, ho⟩ := ho
  unfold am_sconv at h
  split at h
  next x S1 =>
    simp only [Option.some.injEq, Prod.mk.injEq] at h
    obtain ⟨rfl, rfl, rfl, rfl⟩ := h
    have K := kk.same hl hP hD hS
    split at ho
    · exact lv_i2l hx hb hd (am_oi2l I.top) K
    · rename_i z; cases z
    · rename_i z; cases z
    · rename_i z; cases z
    · cases ho
  next x S1 =>
    simp only [Option.some.injEq, Prod.mk.injEq] at h
    obtain ⟨rfl, rfl, rfl, rfl⟩ := h
    have K := kk.same hl hP hD hS
    split at ho
    · rename_i z; cases z
    · exact lv_l2i hx hb hd (am_ol2i I.top) K
    · rename_i z; cases z
    · rename_i z; cases z
    · cases ho
  next x S1 =>
    simp only [Option.some.injEq, Prod.mk.injEq] at h
    obtain ⟨rfl, rfl, rfl, rfl⟩ := h
    have K := kk.same hl hP hD hS
    split at ho
    · rename_i z; cases z
    · rename_i z; cases z
    · exact lv_i2b hx hb hd (am_oi2b I.top) K
    · rename_i z; cases z
    · cases ho
  next x S1 =>
    simp only [Option.some.injEq, Prod.mk.injEq] at h
    obtain ⟨rfl, rfl, rfl, rfl⟩ := h
    have K := kk.same hl hP hD hS
    split at ho
    · rename_i z; cases z
    · rename_i z; cases z
    · rename_i z; cases z
    · exact lv_i2c hx hb hd (am_oi2c I.top) K
    · cases ho
  next => cases h
theorem am_w_lcmp (X : am_X T cl D cA A p s m args c cc nL own) (hd : decode cc pc = .ok (i, len)) (ho : am_okE .lcmp i len = true) (h : am_slcmp (pc + len) L S μ = some (pc', L', S', μ')) (I : am_I ft μ L S) (hl : am_lv ad ls nL L) (hP : va_P D cl (am_ws ft ad cA μ) H) (hD : va_D A (am_ws ft ad cA μ)) (hS : va_S A s.heap H locs) (kk : am_Kk ft p l e R s m args below meth c D cl cA A nL ad μ cells slots Q pc' L' S' μ') : W p l e R s m args below meth c H locs cells slots Q (F0 m pc ls (S.map (am_rv ad))) := by
  obtain ⟨hx, hb, -⟩ := X
  unfold am_okE at ho
  simp only [Bool.and_eq_true, decide_eq_true_eq] at ho
  obtain ⟨rfl, rfl⟩ := ho
  unfold am_slcmp at h
  split at h
  next y x S1 =>
    simp only [Option.some.injEq, Prod.mk.injEq] at h
    obtain ⟨rfl, rfl, rfl, rfl⟩ := h
    have K : W p l e R s m args below meth c H locs cells slots Q (F0 m (pc + 1) ls (.int (Int32.ofInt (am_lcmp x y)) :: S1.map (am_rv ad))) := kk.same hl hP hD hS
    exact W.lcmp hx hb hd (by rw [am_olcmp I.pop.top I.top]; exact K)
  next => cases h
def am_ok15 (a : Nat) (z : Int) (i : Instr) (len : Nat) : Bool := match i with
  | .iinc k n => decide (k = a) && (decide (n = z) && decide (len = 3))
  | _ => false
theorem am_w_inc {z : Int} (X : am_X T cl D cA A p s m args c cc nL own) (hd : decode cc pc = .ok (i, len)) (ho : am_ok15 a z i len = true) (h : am_sinc a z (pc + len) L S μ = some (pc', L', S', μ')) (hl : am_lv ad ls nL L) (hP : va_P D cl (am_ws ft ad cA μ) H) (hD : va_D A (am_ws ft ad cA μ)) (hS : va_S A s.heap H locs) (kk : am_Kk ft p l e R s m args below meth c D cl cA A nL ad μ cells slots Q pc' L' S' μ') : W p l e R s m args below meth c H locs cells slots Q (F0 m pc ls (S.map (am_rv ad))) := by
  obtain ⟨hx, hb, -⟩ := X
  unfold am_ok15 at ho
  split at ho
  next kx n =>
    simp only [Bool.and_eq_true, decide_eq_true_eq] at ho
    obtain ⟨rfl, rfl, rfl⟩ := ho
    unfold am_sinc at h
    split at h
    next x hv =>
      simp only [Option.some.injEq, Prod.mk.injEq] at h
      obtain ⟨rfl, rfl, rfl, rfl⟩ := h
      have hm : (kx, Value.int (Int32.ofInt x)) ∈ am_prs ad L := am_prs_mem.mpr ⟨vI x, hv, rfl⟩
      obtain ⟨j, hj⟩ := List.getElem?_of_mem hm
      have hlt : kx < nL := by rw [← hl.2]; exact (List.getElem?_eq_some_iff.mp hv).1
      exact lv_iinc hx hb hd hl.1 hj (by rw [← Int32.ofInt_add, ← am_of_w32]) hlt rfl (fun ls' h' => kk.same (hl.st1 (v := vI (w32 (x + n))) (by show ¬ 0 = 1; omega) h') hP hD hS)
    next => cases h
  next => cases ho
def am_condOf (a : Nat) : Option Jvm.ClassFile.Cond := match a with
  | 0 => some .eq
  | 1 => some .ne
  | 2 => some .lt
  | 3 => some .ge
  | 4 => some .gt
  | 5 => some .le
  | _ => none
def am_ok16 (pc a b : Nat) (i : Instr) (len : Nat) : Bool := match i with
  | .ifCond cd off => decide (am_condOf a = some cd) && (decide ((pc : Int) + off = (b : Int)) && decide (len = 3))
  | _ => false
theorem am_w_if (X : am_X T cl D cA A p s m args c cc nL own) (hd : decode cc pc = .ok (i, len)) (ho : am_ok16 pc a b i len = true) (h : am_sif a b (pc + len) L S μ = some (pc', L', S', μ')) (I : am_I ft μ L S) (hl : am_lv ad ls nL L) (hP : va_P D cl (am_ws ft ad cA μ) H) (hD : va_D A (am_ws ft ad cA μ)) (hS : va_S A s.heap H locs) (kk : am_Kk ft p l e R s m args below meth c D cl cA A nL ad μ cells slots Q pc' L' S' μ') : W p l e R s m args below meth c H locs cells slots Q (F0 m pc ls (S.map (am_rv ad))) := by
  obtain ⟨hx, hb, -⟩ := X
  unfold am_ok16 at ho
  split at ho
  next cd off =>
    simp only [Bool.and_eq_true, decide_eq_true_eq] at ho
    obtain ⟨h1, h2, rfl⟩ := ho
    unfold am_sif at h
    split at h
    next x S1 =>
      simp only [Option.some.injEq, Prod.mk.injEq] at h
      obtain ⟨rfl, rfl, rfl, rfl⟩ := h
      have rx : -2147483648 ≤ x ∧ x < 2147483648 := I.top
      have K := kk.same hl hP hD hS
      have r0 : (-2147483648 : Int) ≤ 0 ∧ (0 : Int) < 2147483648 := by omega
      have ht : ∀ {z : Prop}, (z ↔ am_cnd a x 0 = true) → z → W p l e R s m args below meth c H locs cells slots Q (F0 m b ls (S1.map (am_rv ad))) := fun e hz => by
        rw [if_pos (e.mp hz)] at K
        exact K
      have hf : ∀ {z : Prop}, (z ↔ am_cnd a x 0 = true) → ¬ z → W p l e R s m args below meth c H locs cells slots Q (F0 m (pc + 3) ls (S1.map (am_rv ad))) := fun e hz => by
        rw [if_neg (fun q => hz (e.mpr q))] at K
        exact K
      unfold am_condOf at h1
      split at h1
      · cases h1
        have e : Int32.ofInt x = 0 ↔ am_cnd 0 x 0 = true := by rw [← am_o0, am_oeq rx r0]; simp [am_cnd]
        exact lv_if_eq hx hb hd h2 (ht e) (hf e)
      · cases h1
        have e : ¬ Int32.ofInt x = 0 ↔ am_cnd 1 x 0 = true := by rw [← am_o0, am_oeq rx r0]; simp [am_cnd]
        exact lv_if_ne hx hb hd h2 (ht e) (fun q => hf e (fun z => z q))
      · cases h1
        have e : Int32.ofInt x < 0 ↔ am_cnd 2 x 0 = true := by rw [← am_o0, am_olt rx r0]; simp [am_cnd]
        exact lv_if_lt hx hb hd h2 (ht e) (hf e)
      · cases h1
        have e : 0 ≤ Int32.ofInt x ↔ am_cnd 3 x 0 = true := by rw [← am_o0, am_ole r0 rx]; simp [am_cnd]
        exact lv_if_ge hx hb hd h2 (ht e) (hf e)
      · cases h1
        have e : 0 < Int32.ofInt x ↔ am_cnd 4 x 0 = true := by rw [← am_o0, am_olt r0 rx]; simp [am_cnd]
        exact lv_if_gt hx hb hd h2 (ht e) (hf e)
      · cases h1
        have e : Int32.ofInt x ≤ 0 ↔ am_cnd 5 x 0 = true := by rw [← am_o0, am_ole rx r0]; simp [am_cnd]
        exact lv_if_le hx hb hd h2 (ht e) (hf e)
      · cases h1
    next => cases h
  next => cases ho
def am_ok17 (pc a b : Nat) (i : Instr) (len : Nat) : Bool := match i with
  | .if_icmp cd off => decide (am_condOf a = some cd) && (decide ((pc : Int) + off = (b : Int)) && decide (len = 3))
  | _ => false
theorem am_w_icmp (X : am_X T cl D cA A p s m args c cc nL own) (hd : decode cc pc = .ok (i, len)) (ho : am_ok17 pc a b i len = true) (h : am_sicmp a b (pc + len) L S μ = some (pc', L', S', μ')) (I : am_I ft μ L S) (hl : am_lv ad ls nL L) (hP : va_P D cl (am_ws ft ad cA μ) H) (hD : va_D A (am_ws ft ad cA μ)) (hS : va_S A s.heap H locs) (kk : am_Kk ft p l e R s m args below meth c D cl cA A nL ad μ cells slots Q pc' L' S' μ') : W p l e R s m args below meth c H locs cells slots Q (F0 m pc ls (S.map (am_rv ad))) := by
  obtain ⟨hx, hb, -⟩ := X
  unfold am_ok17 at ho
  split at ho
  next cd off =>
    simp only [Bool.and_eq_true, decide_eq_true_eq] at ho
    obtain ⟨h1, h2, rfl⟩ := ho
    unfold am_sicmp at h
    split at h
    next y x S1 =>
      simp only [Option.some.injEq, Prod.mk.injEq] at h
      obtain ⟨rfl, rfl, rfl, rfl⟩ := h
      have ry : -2147483648 ≤ y ∧ y < 2147483648 := I.top
      have rx : -2147483648 ≤ x ∧ x < 2147483648 := I.pop.top
      have K := kk.same hl hP hD hS
      have ht : ∀ {z : Prop}, (z ↔ am_cnd a x y = true) → z → W p l e R s m args below meth c H locs cells slots Q (F0 m b ls (S1.map (am_rv ad))) := fun e hz => by
        rw [if_pos (e.mp hz)] at K
        exact K
      have hf : ∀ {z : Prop}, (z ↔ am_cnd a x y = true) → ¬ z → W p l e R s m args below meth c H locs cells slots Q (F0 m (pc + 3) ls (S1.map (am_rv ad))) := fun e hz => by
        rw [if_neg (fun q => hz (e.mpr q))] at K
        exact K
      unfold am_condOf at h1
      split at h1
      · cases h1
        have e : Int32.ofInt x = Int32.ofInt y ↔ am_cnd 0 x y = true := by rw [am_oeq rx ry]; simp [am_cnd]
        exact lv_icmp_eq hx hb hd h2 (ht e) (hf e)
      · cases h1
        have e : ¬ Int32.ofInt x = Int32.ofInt y ↔ am_cnd 1 x y = true := by rw [am_oeq rx ry]; simp [am_cnd]
        exact lv_icmp_ne hx hb hd h2 (ht e) (fun q => hf e (fun z => z q))
      · cases h1
        have e : Int32.ofInt x < Int32.ofInt y ↔ am_cnd 2 x y = true := by rw [am_olt rx ry]; simp [am_cnd]
        exact lv_icmp_lt hx hb hd h2 (ht e) (hf e)
      · cases h1
        have e : Int32.ofInt y ≤ Int32.ofInt x ↔ am_cnd 3 x y = true := by rw [am_ole ry rx]; simp [am_cnd]
        exact lv_icmp_ge hx hb hd h2 (ht e) (hf e)
      · cases h1
        have e : Int32.ofInt y < Int32.ofInt x ↔ am_cnd 4 x y = true := by rw [am_olt ry rx]; simp [am_cnd]
        exact lv_icmp_gt hx hb hd h2 (ht e) (hf e)
      · cases h1
        have e : Int32.ofInt x ≤ Int32.ofInt y ↔ am_cnd 5 x y = true := by rw [am_ole rx ry]; simp [am_cnd]
        exact lv_icmp_le hx hb hd h2 (ht e) (hf e)
      · cases h1
    next => cases h
  next => cases ho
def am_ok18 (pc b : Nat) (i : Instr) (len : Nat) : Bool := match i with
  | .goto off => decide ((pc : Int) + off = (b : Int)) && decide (len = 3)
  | _ => false
theorem am_w_goto (X : am_X T cl D cA A p s m args c cc nL own) (hd : decode cc pc = .ok (i, len)) (ho : am_ok18 pc b i len = true) {st : List Value} (K : W p l e R s m args below meth c H locs cells slots Q (F0 m b ls st)) : W p l e R s m args below meth c H locs cells slots Q (F0 m pc ls st) := by
  obtain ⟨hx, hb, -⟩ := X
  unfold am_ok18 at ho
  split at ho
  next off =>
    simp only [Bool.and_eq_true, decide_eq_true_eq] at ho
    obtain ⟨h1, rfl⟩ := ho
    exact lv_goto hx hb hd h1 K
  next => cases ho
def am_ok19 (pc b : Nat) (z : Int) (offs : List Nat) (i : Instr) : Bool := match i with
  | .tableswitch dflt lo hi os => decide (lo = z) && (decide (hi = z + (offs.length : Int) - 1) && (decide ((pc : Int) + dflt = (b : Int)) && decide (os.toList.map (fun o => (pc : Int) + o) = offs.map (fun t : Nat => (t : Int)))))
  | _ => false
theorem am_w_tsw {z : Int} {offs : List Nat} (X : am_X T cl D cA A p s m args c cc nL own) (hd : decode cc pc = .ok (i, len)) (ho : am_ok19 pc b z offs i = true) (h : am_stsw b z offs L S μ = some (pc', L', S', μ')) (I : am_I ft μ L S) (hl : am_lv ad ls nL L) (hP : va_P D cl (am_ws ft ad cA μ) H) (hD : va_D A (am_ws ft ad cA μ)) (hS : va_S A s.heap H locs) (kk : am_Kk ft p l e R s m args below meth c D cl cA A nL ad μ cells slots Q pc' L' S' μ') : W p l e R s m args below meth c H locs cells slots Q (F0 m pc ls (S.map (am_rv ad))) := by
  obtain ⟨hx, hb, -⟩ := X
  unfold am_ok19 at ho
  split at ho
  next dflt lo hi os =>
    simp only [Bool.and_eq_true, decide_eq_true_eq] at ho
    obtain ⟨rfl, rfl, h2, h3⟩ := ho
    unfold am_stsw at h
    split at h
    next x S1 =>
      have rx : -2147483648 ≤ x ∧ x < 2147483648 := I.top
      split at h
      next hout =>
        simp only [Option.some.injEq, Prod.mk.injEq] at h
        obtain ⟨rfl, rfl, rfl, rfl⟩ := h
        exact lv_tableOut (x := Int32.ofInt x) hx hb hd (by rw [am_toI rx]; omega) h2 (kk.same hl hP hD hS)
      next hin =>
        split at h
        next t ht =>
          simp only [Option.some.injEq, Prod.mk.injEq] at h
          obtain ⟨rfl, rfl, rfl, rfl⟩ := h
          have h4 : (os.toList.map (fun o => (pc : Int) + o))[(x - lo).toNat]? = some (t : Int) := by
            rw [h3, List.getElem?_map, ht]
            rfl
          rw [List.getElem?_map] at h4
          cases ho : os.toList[(x - lo).toNat]? with
          | none => rw [ho] at h4; cases h4
          | some o =>
            rw [ho] at h4
            have h5 : (pc : Int) + o = (t : Int) := Option.some.inj h4
            exact lv_tableIn (x := Int32.ofInt x) hx hb hd (by rw [am_toI rx]; omega) (by rw [am_toI rx]; omega) (by rw [am_toI rx, ← Array.getElem?_toList]; exact ho) h5 (kk.same hl hP hD hS)
        next => cases h
    next => cases h
  next => cases ho
theorem am_cat1 {ad : Nat → Nat} {v : am_V} (h : ¬ am_tag v = 1) : (am_rv ad v).category = 1 := by
  match v, h with
  | .inl _, _ => rfl
  | .inr (.inl _), h => exact absurd rfl h
  | .inr (.inr _), _ => rfl
theorem am_w_dup (X : am_X T cl D cA A p s m args c cc nL own) (hd : decode cc pc = .ok (i, len)) (ho : am_okE .dup i len = true) (h : am_sdup (pc + len) L S μ = some (pc', L', S', μ')) (hl : am_lv ad ls nL L) (hP : va_P D cl (am_ws ft ad cA μ) H) (hD : va_D A (am_ws ft ad cA μ)) (hS : va_S A s.heap H locs) (kk : am_Kk ft p l e R s m args below meth c D cl cA A nL ad μ cells slots Q pc' L' S' μ') : W p l e R s m args below meth c H locs cells slots Q (F0 m pc ls (S.map (am_rv ad))) := by
  obtain ⟨hx, hb, -⟩ := X
  unfold am_okE at ho
  simp only [Bool.and_eq_true, decide_eq_true_eq] at ho
  obtain ⟨rfl, rfl⟩ := ho
  unfold am_sdup at h
  split at h
  next v S1 =>
    split at h
    next => cases h
    next ht =>
      simp only [Option.some.injEq, Prod.mk.injEq] at h
      obtain ⟨rfl, rfl, rfl, rfl⟩ := h
      exact lv_dup hx hb hd (am_cat1 ht) (kk.same hl hP hD hS)
  next => cases h
theorem am_w_dup2 (X : am_X T cl D cA A p s m args c cc nL own) (hd : decode cc pc = .ok (i, len)) (ho : am_okE .dup2 i len = true) (h : am_sdup2 (pc + len) L S μ = some (pc', L', S', μ')) (hl : am_lv ad ls nL L) (hP : va_P D cl (am_ws ft ad cA μ) H) (hD : va_D A (am_ws ft ad cA μ)) (hS : va_S A s.heap H locs) (kk : am_Kk ft p l e R s m args below meth c D cl cA A nL ad μ cells slots Q pc' L' S' μ') : W p l e R s m args below meth c H locs cells slots Q (F0 m pc ls (S.map (am_rv ad))) := by
  obtain ⟨hx, hb, -⟩ := X
  unfold am_okE at ho
  simp only [Bool.and_eq_true, decide_eq_true_eq] at ho
  obtain ⟨rfl, rfl⟩ := ho
  unfold am_sdup2 at h
  split at h
  next v u S1 =>
    split at h
    next => cases h
    next ht =>
      simp only [Option.some.injEq, Prod.mk.injEq] at h
      obtain ⟨rfl, rfl, rfl, rfl⟩ := h
      exact lv_dup2_11 hx hb hd (am_cat1 (fun z => ht (Or.inl z))) (am_cat1 (fun z => ht (Or.inr z))) (kk.same hl hP hD hS)
  next => cases h
theorem am_w_pop (X : am_X T cl D cA A p s m args c cc nL own) (hd : decode cc pc = .ok (i, len)) (ho : am_okE .pop i len = true) (h : am_spop (pc + len) L S μ = some (pc', L', S', μ')) (hl : am_lv ad ls nL L) (hP : va_P D cl (am_ws ft ad cA μ) H) (hD : va_D A (am_ws ft ad cA μ)) (hS : va_S A s.heap H locs) (kk : am_Kk ft p l e R s m args below meth c D cl cA A nL ad μ cells slots Q pc' L' S' μ') : W p l e R s m args below meth c H locs cells slots Q (F0 m pc ls (S.map (am_rv ad))) := by
  obtain ⟨hx, hb, -⟩ := X
  unfold am_okE at ho
  simp only [Bool.and_eq_true, decide_eq_true_eq] at ho
  obtain ⟨rfl, rfl⟩ := ho
  unfold am_spop at h
  split at h
  next v S1 =>
    split at h
    next => cases h
    next ht =>
      simp only [Option.some.injEq, Prod.mk.injEq] at h
      obtain ⟨rfl, rfl, rfl, rfl⟩ := h
      exact lv_pop hx hb hd (am_cat1 ht) (kk.same hl hP hD hS)
  next => cases h
end WST
