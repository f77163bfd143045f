/-! THE CLAIM OUT OF ONE WALK OF THE LAW'S BODY. Your part is whole_start (and what it stands on); all else here is the same for every law, but numbers. -/
def R_law : String := "EatenTollLaw"
def lw_P (b : Addr) (xs : List Int32) (args : Array Value) (s : State) : Prop := args = #[.ref b] ∧ s.IntsAt b xs ∧ xs.length ≤ 3072 ∧ (Jvm.Cond.and given_1 narrow_1).before args s = true
def lw_Q (_ : Array Value) (s : State) (o : Outcome) (t : State) : Prop := o = .returned (some (.int 1)) ∧ Framed s o t [] 145 78752
def lw_Z (below : List Frame) (a : Array Value) (s : State) : State → Prop := fun t => ∃ o, t.status = .running ∧ Ended t below o ∧ lw_Q a s o t
/-- the law's own end, with 1 on the stack, nothing written that was there before, its room as the claim has it -/
theorem lw_ret {p : Program} {l : Launch} {e : Env} {s : State} {m : MethodId} {below : List Frame} {meth : Method} {c : Code} {b : Nat} (hx : p.tables.exec = Jvm.exec) (hb : c.code = code) (hr : meth.sig.returnType = ret) (hlocks : meth.locks = false) {pc : Nat} {H : Heap} {ls : Array Slot} (hdg : decode code pc = .ok (.ireturn, 1)) : W p l e room_1 s m #[Value.ref b] below meth c H [] 145 78752 (lw_Z below #[Value.ref b] s) (F0 m pc ls [.int 1]) := by
  intro T hT X
  obtain ⟨fs, hret, hrun, hended, hW, hframe⟩ := X.leave (v := some (.int 1)) (hlocks := hlocks) (fun h => by rw [hr] at h; cases h)
  have hmeth' : T.vm.method? m = some meth := X.method'
  refine ⟨T.setFrames fs, ?_, .returned (some (.int 1)), hrun, hended, rfl, ⟨_, rfl⟩, hW, hframe⟩
  jvm_step X.here [X.here.top, hx, hb, hdg, hmeth', hr, ret, narrow_b1]
  (try refine ⟨rfl, ?_⟩); (try refine ⟨rfl, ?_⟩)
  first | (intro acts; rw [hret _ acts rfl rfl rfl]) | rw [hret _ _ rfl rfl rfl]
  exact Steps.refl _
/-- what holds at the law's entry: the machine, the code, the tables' words (any of lw_tbl by 'hts w (by decide +kernel)'), the script of L ints xs at the cell b, what the Statement gives of the start (any of its parts by flat_of_before) -/
def lw_At (p : Program) (s : State) (m : MethodId) (meth : Method) (c : Code) (b L : Nat) (xs : Nat → Int32) : Prop :=
  p.tables.exec = Jvm.exec ∧ c.code = code ∧ meth.sig.returnType = ret ∧ c.maxLocals = 4 ∧ s.vm.findClass R_law = some m.cls ∧ (∀ w ∈ lw_tbl, w.before #[Value.ref b] s = true) ∧ va_X b L xs s s.heap ∧ b < s.heap.size ∧ meth.locks = false ∧ (Jvm.Cond.and given_1 narrow_1).before #[Value.ref b] s = true
/-! FROM A RUN OF THE ABSTRACT MACHINE TO THE CLAIM -/
def am_wb : List Int := [100, 105, 115, 104, 32, 109, 97, 110, 32, 98, 101, 108, 108, 121, 32, 103, 111, 101, 115, 32, 111, 119, 101, 32, 108, 97, 119, 32, 104, 97, 116, 101, 115, 32, 105, 108, 108, 32, 102, 97, 115, 116, 32, 105, 102, 32, 116, 104, 101, 110, 32, 101, 108, 115, 101, 32, 104, 111, 117, 114, 32, 108, 111, 97, 100, 32, 114, 111, 111, 109, 32, 102, 117, 108, 108, 32, 97, 104, 101, 97, 100, 32, 108, 101, 102, 116, 32, 115, 105, 99, 107, 32]
def am_sb : List Int := [59, 61, 43, 45, 42, 47, 60, 40, 41]
def am_mtold : List Int := [4, 8, 6, 20, 20, 8]
def am_ro (L : Nat) : List am_C := [(0, L, []), (0, 6, []), (17, 2, [1005, 0]), (17, 2, [1006, 0]), (1, 92, []), (1, 9, [])]
def am_s0 (xs : Nat → Int32) : Nat → Nat → Int := fun k j => if k = 1000 then (xs j).toInt else if k = 1001 then am_mtold.getD j 0 else if k = 1004 then am_wb.getD j 0 else if k = 1005 then am_sb.getD j 0 else 0
def am_m0 (L : Nat) (xs : Nat → Int32) : am_M := ([], am_ro L, am_s0 xs)
theorem am_getD_all {P : Int → Prop} {l : List Int} (h : ∀ x ∈ l, P x) (h0 : P 0) (j : Nat) : P (l.getD j 0) := by
  rw [List.getD_eq_getElem?_getD]
  cases hj : l[j]? with
  | none => exact h0
  | some x => exact h x (List.mem_of_getElem? hj)
theorem am_getD_map (l : List Int) (j : Nat) : (l.map Int32.ofInt).getD j 0 = Int32.ofInt (l.getD j 0) := by
  rw [List.getD_eq_getElem?_getD, List.getD_eq_getElem?_getD, List.getElem?_map]
  cases l[j]? <;> rfl
theorem am_wb_ok : ∀ x ∈ am_wb, am_okT 1 x = true := by decide +kernel
theorem am_sb_ok : ∀ x ∈ am_sb, am_okT 1 x = true := by decide +kernel
theorem am_mt_ok : ∀ x ∈ am_mtold, am_okT 0 x = true := by decide +kernel
theorem am_s0_0 (xs : Nat → Int32) (j : Nat) : am_s0 xs 1000 j = (xs j).toInt := if_pos rfl
theorem am_s0_1 (xs : Nat → Int32) (j : Nat) : am_s0 xs 1001 j = am_mtold.getD j 0 := (if_neg (by omega)).trans (if_pos rfl)
theorem am_s0_4 (xs : Nat → Int32) (j : Nat) : am_s0 xs 1004 j = am_wb.getD j 0 := (if_neg (by omega)).trans ((if_neg (by omega)).trans (if_pos rfl))
theorem am_s0_5 (xs : Nat → Int32) (j : Nat) : am_s0 xs 1005 j = am_sb.getD j 0 := (if_neg (by omega)).trans ((if_neg (by omega)).trans ((if_neg (by omega)).trans (if_pos rfl)))
theorem am_s0_o (xs : Nat → Int32) {k : Nat} (j : Nat) (h : k = 1002 ∨ k = 1003) : am_s0 xs k j = 0 := (if_neg (by omega)).trans ((if_neg (by omega)).trans ((if_neg (by omega)).trans (if_neg (by omega))))
theorem am_ro_get {L i : Nat} {c : am_C} (h : (am_ro L)[i]? = some c) : (i = 0 ∧ c = (0, L, [])) ∨ (i = 1 ∧ c = (0, 6, [])) ∨ (i = 2 ∧ c = (17, 2, [1005, 0])) ∨ (i = 3 ∧ c = (17, 2, [1006, 0])) ∨ (i = 4 ∧ c = (1, 92, [])) ∨ (i = 5 ∧ c = (1, 9, [])) := by
  match i, h with
  | 0, h => cases h; exact Or.inl ⟨rfl, rfl⟩
  | 1, h => cases h; exact Or.inr (Or.inl ⟨rfl, rfl⟩)
  | 2, h => cases h; exact Or.inr (Or.inr (Or.inl ⟨rfl, rfl⟩))
  | 3, h => cases h; exact Or.inr (Or.inr (Or.inr (Or.inl ⟨rfl, rfl⟩)))
  | 4, h => cases h; exact Or.inr (Or.inr (Or.inr (Or.inr (Or.inl ⟨rfl, rfl⟩))))
  | 5, h => cases h; exact Or.inr (Or.inr (Or.inr (Or.inr (Or.inr ⟨rfl, rfl⟩))))
  | _ + 6, h => simp [am_ro] at h
theorem am_refs2 {a : Nat} (ha : 1000 ≤ a) : ∀ j r : Nat, ([a + 1, 0] : List Nat)[j]? = some (r + 1) → (r < 0 ∨ 1000 ≤ r) := by
  intro j r z
  match j, z with
  | 0, z =>
    have : a + 1 = r + 1 := by simpa using z
    exact Or.inr (by omega)
  | 1, z => simp at z
  | _ + 2, z => simp at z
theorem am_R0 (L : Nat) (xs : Nat → Int32) : am_R am_ftab (am_m0 L xs) := by
  refine ⟨Nat.zero_le _, fun k c h => ?_⟩
  unfold am_dsc at h
  split at h
  next => cases h
  next hk =>
    rcases am_ro_get (show (am_ro L)[k - 1000]? = some c from h) with ⟨e, rfl⟩ | ⟨e, rfl⟩ | ⟨e, rfl⟩ | ⟨e, rfl⟩ | ⟨e, rfl⟩ | ⟨e, rfl⟩
    · obtain rfl : k = 1000 := by omega
      refine ⟨fun j => ?_, fun j r z => by simp at z⟩
      show am_okT 0 (am_s0 xs 1000 j) = true
      rw [am_s0_0]
      have := am_rng (xs j)
      simp [am_okT]
      omega
    · obtain rfl : k = 1001 := by omega
      refine ⟨fun j => ?_, fun j r z => by simp at z⟩
      show am_okT 0 (am_s0 xs 1001 j) = true
      rw [am_s0_1]
      exact am_getD_all am_mt_ok rfl j
    · obtain rfl : k = 1002 := by omega
      refine ⟨fun j => ?_, am_refs2 (a := 1004) (by omega)⟩
      show am_okT _ (am_s0 xs 1002 j) = true
      rw [am_s0_o xs j (Or.inl rfl)]
      exact am_okT0
    · obtain rfl : k = 1003 := by omega
      refine ⟨fun j => ?_, am_refs2 (a := 1005) (by omega)⟩
      show am_okT _ (am_s0 xs 1003 j) = true
      rw [am_s0_o xs j (Or.inr rfl)]
      exact am_okT0
    · obtain rfl : k = 1004 := by omega
      refine ⟨fun j => ?_, fun j r z => by simp at z⟩
      show am_okT 1 (am_s0 xs 1004 j) = true
      rw [am_s0_4]
      exact am_getD_all am_wb_ok rfl j
    · obtain rfl : k = 1005 := by omega
      refine ⟨fun j => ?_, fun j r z => by simp at z⟩
      show am_okT 1 (am_s0 xs 1005 j) = true
      rw [am_s0_5]
      exact am_getD_all am_sb_ok rfl j
def am_tm (i : Nat) : Term := if i = 0 then .string "EatenToll$Tape" 29 else .string "EatenToll$Tape" 71
def am_byt : List (List Int32) := [am_wb.map Int32.ofInt, am_sb.map Int32.ofInt]
def am_len : List Nat := [92, 9]
abbrev am_nar : List Cond := flatC (Jvm.Cond.and given_1 narrow_1)
set_option maxRecDepth 100000 in
theorem am_n_el : ((List.range 2).all fun i => (List.range (am_len.getD i 0)).all fun j => decide (Cond.eq (.elem (.field (am_tm i) "java/lang/String" "value" "[B") (.int (Int32.ofNat j))) (.int ((am_byt.getD i []).getD j 0)) ∈ am_nar)) = true := by decide +kernel
set_option maxRecDepth 100000 in
theorem am_n_ex : ∀ i, i < 2 → Cond.exactly (am_tm i) "java/lang/String" ∈ am_nar ∧ Cond.eq (.field (am_tm i) "java/lang/String" "coder" "B") (.int 0) ∈ am_nar ∧ Cond.arrayOf (.field (am_tm i) "java/lang/String" "value" "[B") .byte ∈ am_nar ∧ Cond.eq (.length (.field (am_tm i) "java/lang/String" "value" "[B")) (.int (Int32.ofNat (am_len.getD i 0))) ∈ am_nar := by decide +kernel
set_option maxRecDepth 100000 in
theorem am_n_ne : Cond.not (Cond.eq (am_tm 0) (am_tm 1)) ∈ am_nar := by decide +kernel
set_option maxRecDepth 100000 in
theorem am_n_mt : Cond.arrayOf (.static "EatenToll" "MOST_TOLD" "[I") .int ∈ am_nar ∧ Cond.eq (.length (.static "EatenToll" "MOST_TOLD" "[I")) (.int (Int32.ofNat 6)) ∈ am_nar ∧ ∀ j, j < 6 → Cond.eq (.elem (.static "EatenToll" "MOST_TOLD" "[I") (.int (Int32.ofNat j))) (.int (Int32.ofInt (am_mtold.getD j 0))) ∈ am_nar := by decide +kernel
set_option maxRecDepth 100000 in
theorem am_n_st : Cond.eq (.static "java/lang/String" "COMPACT_STRINGS" "Z") (.int 1) ∈ am_nar ∧ Cond.isRef (.static "jdk/internal/util/Preconditions" "SIOOBE_FORMATTER" "Ljava/util/function/BiFunction;") ∈ am_nar := by decide +kernel
set_option maxRecDepth 100000 in
theorem am_l_w : Cond.laysStatic "java/lang/String" "COMPACT_STRINGS" "Z" ∈ lw_tbl ∧ Cond.laysStatic "jdk/internal/util/Preconditions" "SIOOBE_FORMATTER" "Ljava/util/function/BiFunction;" ∈ lw_tbl ∧ Cond.laysStatic "EatenToll" "MOST_TOLD" "[I" ∈ lw_tbl ∧ Cond.initialized "java/lang/String" ∈ lw_tbl ∧ Cond.initialized "jdk/internal/util/Preconditions" ∈ lw_tbl ∧ Cond.initialized "EatenToll" ∈ lw_tbl := by decide +kernel
set_option maxRecDepth 100000 in
theorem am_l_s : ∀ i, i < 2 → Cond.stringRef "EatenToll$Tape" (if i = 0 then 29 else 71) ((am_strs.getD i ("", 0, "")).2.2) ∈ lw_tbl := by decide +kernel
def am_ad (b t k0 k1 v0 v1 : Nat) : Nat → Nat := fun k => if k = 1000 then b else if k = 1001 then t else if k = 1002 then k0 else if k = 1003 then k1 else if k = 1004 then v0 else if k = 1005 then v1 else 0
theorem am_code0 : am_bc 0 = code := rfl
set_option maxRecDepth 100000 in
set_option maxHeartbeats 4000000 in
theorem am_whole {p : Program} {e : Env} {s : State} {m : MethodId} {below : List Frame} {meth : Method} {c : Code} (l : Launch) {b L : Nat} {xs : Nat → Int32} (C0 : lw_At p s m meth c b L xs) {n : Nat} {μ' : am_M} (hrun : am_run am_ftab am_mL am_code n 0 0 [some (vP 1000), none, none, none] [] (am_m0 L xs) = some (some (vI 1), μ')) (hc : μ'.1.length ≤ 145) (hsl : am_sl μ' ≤ 78752) : W p l e room_1 s m #[Value.ref b] below meth c s.heap [] 0 0 (lw_Z below #[Value.ref b] s) (entryFrame m ([Value.ref b] : List Value).toArray 4) := by
  obtain ⟨hx, hb, hr, hml, hown, hts0, hX, hbl, hlocks, hgv⟩ := C0
  have hts : ∀ w ∈ am_T, w.before #[Value.ref b] s = true := fun w hw => hts0 w (am_T_in w hw)
  have hnar := flat_of_before _ hgv
  have hnA : ∀ a : Nat, a < s.heap.size → ¬ (fun q : Nat => s.heap.size ≤ q) a := fun a h z => absurd h (Nat.not_lt.mpr z)
  have h0 : ∀ k : Nat, ∃ q : ClassId × (Nat → Nat), ∀ r, am_cls[k]? = some r → u_Kn s r.1 r.2.1 r.2.2 q.1 q.2 := by
    intro k
    cases hk : am_cls[k]? with
    | none => exact ⟨(0, fun _ => 0), fun r h => by cases h⟩
    | some r =>
      obtain ⟨C, Tt, N⟩ := r
      have hq := am_clOk_1 k C Tt N hk
      obtain ⟨cC, iS, h⟩ := u_known (C := C) (T := Tt) (N := N) (n := N) hts hq.1 (hts _ hq.2.2.2.1)
      exact ⟨(cC, iS), fun r h' => by cases h'; exact h⟩
  obtain ⟨fD, hfD⟩ := Classical.axiomOfChoice h0
  have h1 : ∀ t : Nat, ∃ q : ClassId, t < 4 → ArrOfT s q (am_aty t) ∧ va_RA s q (am_aty t) := by
    intro t
    by_cases ht : t < 4
    · obtain ⟨cB, kB, comp, g1, g2, g3⟩ := Cond.arrayClass_spec (hts _ (am_glOk_1.1 t ht))
      refine ⟨cB, fun _ => ⟨fun n z => ⟨fun k h => (by cases h), kB, g2, comp, g3⟩, ?_⟩⟩
      match t, ht, g1 with
      | 0, _, g1 => exact g1
      | 1, _, g1 => exact g1
      | 2, _, g1 => exact g1
      | 3, _, g1 => exact g1
    · exact ⟨0, fun z => absurd z ht⟩
  obtain ⟨cA, hcA⟩ := Classical.axiomOfChoice h1
  have hK : va_K ((fun k => (fD k).1), (fun k => (fD k).2)) am_cls (am_tys cA) s := by
    refine ⟨fun k q hq => hfD k q hq, fun k q hq => ?_⟩
    match k, hq with
    | 0, hq => cases hq; exact hcA 0 (by omega)
    | 1, hq => cases hq; exact hcA 1 (by omega)
    | 2, hq => cases hq; exact hcA 2 (by omega)
    | 3, hq => cases hq; exact hcA 3 (by omega)
    | _ + 4, hq => simp [am_tys] at hq
  obtain ⟨t, ht, hT⟩ := va_Tof (args := #[Value.ref b]) (s := s) (N := 6) (f := fun j => .int (Int32.ofInt (am_mtold.getD j 0))) (A := fun q => s.heap.size ≤ q) (by decide) (hnar _ am_n_mt.1) (va_eqt (hnar _ am_n_mt.2.1)) (fun j hj => va_eqt (hnar _ (am_n_mt.2.2 j hj))) hnA
  obtain ⟨adK, adV, hStr, hev⟩ := vk_Sof (args := #[Value.ref b]) (s := s) (N := 2) (tm := am_tm) (len := am_len) (byt := am_byt) (A := fun q => s.heap.size ≤ q) (by decide) (fun i hi => hnar _ (am_n_ex i hi).1) (fun i hi => hnar _ (am_n_ex i hi).2.1) (fun i hi => hnar _ (am_n_ex i hi).2.2.1) (fun i hi => hnar _ (am_n_ex i hi).2.2.2)
    (fun i hi j hj => hnar _ (by
      have g := List.all_eq_true.mp am_n_el i (List.mem_range.mpr hi)
      have g2 := List.all_eq_true.mp g j (List.mem_range.mpr hj)
      exact decide_eq_true_eq.mp g2))
    (fun i j hi hj hij => by
      rcases (by omega : (i = 0 ∧ j = 1) ∨ (i = 1 ∧ j = 0)) with ⟨rfl, rfl⟩ | ⟨rfl, rfl⟩
      · exact Or.inl (hnar _ am_n_ne)
      · exact Or.inr (hnar _ am_n_ne)) hnA
  have hro : am_RO am_ftab am_rcls am_cls.length (am_ad b t (adK 0) (adK 1) (adV 0) (adV 1)) (fun q => s.heap.size ≤ q) s (am_m0 L xs).2.1 (am_m0 L xs).2.2 := by
    intro i c hc
    have hc : (am_ro L)[i]? = some c := hc
    match i, hc with
    | 0, hc =>
      cases hc
      refine ⟨fun _ => ?_, fun z => (by cases z), (by show ¬ (0 = 2); omega), (by show ¬ (0 = 3); omega), fun z => absurd z (by show ¬ (4 ≤ 0); omega)⟩
      obtain ⟨scr, x1, x2, x3, x4, x5⟩ := hX
      show va_T .int b L (fun j => .int (Int32.ofInt (xs j).toInt)) _ s s.heap
      refine ⟨scr, x1, x2, x3, by omega, by rw [x4], fun j hj => by show _ = some (Value.int (Int32.ofInt (xs j).toInt)); rw [am_ofT]; exact x5 j hj, hnA b hbl⟩
    | 1, hc =>
      cases hc
      exact ⟨fun _ => hT, fun z => (by cases z), (by decide), (by decide), fun z => absurd z (by show ¬ (4 ≤ 0); omega)⟩
    | 2, hc =>
      cases hc
      refine ⟨fun z => absurd z (by show ¬ (17 = 0); omega), fun z => absurd z (by show ¬ (17 = 1); omega), (by show ¬ (17 = 2); omega), (by show ¬ (17 = 3); omega), fun _ => ⟨Nat.le_refl 13, _, rfl, (hStr.1 0 (by omega)).1, fun j hj => ?_⟩⟩
      match j, hj with
      | 0, _ => exact (hStr.1 0 (by omega)).2.2.1
      | 1, _ => exact (hStr.1 0 (by omega)).2.1
    | 3, hc =>
      cases hc
      refine ⟨fun z => absurd z (by show ¬ (17 = 0); omega), fun z => absurd z (by show ¬ (17 = 1); omega), (by show ¬ (17 = 2); omega), (by show ¬ (17 = 3); omega), fun _ => ⟨Nat.le_refl 13, _, rfl, (hStr.1 1 (by omega)).1, fun j hj => ?_⟩⟩
      match j, hj with
      | 0, _ => exact (hStr.1 1 (by omega)).2.2.1
      | 1, _ => exact (hStr.1 1 (by omega)).2.1
    | 4, hc =>
      cases hc
      refine ⟨fun z => absurd z (by show ¬ (1 = 0); omega), fun _ => ?_, (by decide), (by decide), fun z => absurd z (by show ¬ (4 ≤ 1); omega)⟩
      have g := (hStr.1 0 (by omega)).2.2.2
      have ef : (fun j => Value.int ((am_byt.getD 0 []).getD j 0)) = (fun j => Value.int (Int32.ofInt (am_wb.getD j 0))) := funext fun j => congrArg Value.int (am_getD_map am_wb j)
      rw [ef] at g
      exact g
    | 5, hc =>
      cases hc
      refine ⟨fun z => absurd z (by show ¬ (1 = 0); omega), fun _ => ?_, (by decide), (by decide), fun z => absurd z (by show ¬ (4 ≤ 1); omega)⟩
      have g := (hStr.1 1 (by omega)).2.2.2
      have ef : (fun j => Value.int ((am_byt.getD 1 []).getD j 0)) = (fun j => Value.int (Int32.ofInt (am_sb.getD j 0))) := funext fun j => congrArg Value.int (am_getD_map am_sb j)
      rw [ef] at g
      exact g
    | _ + 6, hc => simp [am_ro] at hc
  have hg : am_GL am_NT am_strs (am_ad b t (adK 0) (adK 1) (adV 0) (adV 1)) (fun q => s.heap.size ≤ q) s := by
    refine ⟨va_Zof (hts0 _ am_l_w.2.2.1) (hts0 _ am_l_w.2.2.2.2.2) ht hnA, va_Zof (hts0 _ am_l_w.1) (hts0 _ am_l_w.2.2.2.1) (va_eqi (hnar _ am_n_st.1)) hnA, fun a q hq => ?_, va_Zqof (hts0 _ am_l_w.2.1) (hts0 _ am_l_w.2.2.2.2.1) (hnar _ am_n_st.2) hnA, fun w hw => va_Nw.of (am_nest_tab (List.all_eq_true.mp am_NT_nest w hw)) (hts w (by rw [am_T_split]; exact List.mem_append_right _ hw))⟩
    match a, hq with
    | 0, hq => cases hq; exact vk_R.of (hts0 _ (am_l_s 0 (by omega))) (hev 0 (by omega))
    | 1, hq => cases hq; exact vk_R.of (hts0 _ (am_l_s 1 (by omega))) (hev 1 (by omega))
    | _ + 2, hq => simp [am_strs] at hq
  have hI : am_I am_ftab (am_m0 L xs) [some (vP 1000), none, none, none] [] := by
    refine ⟨am_R0 L xs, fun v hv => ?_, fun v hv => by cases hv⟩
    simp at hv
    subst hv
    exact Or.inr (by omega)
  rw [lg_entry_eq]
  have hlv := am_lv_entry (ad := am_ad b t (adK 0) (adK 1) (adV 0) (adV 1)) (N := 4) (vs := [vP 1000]) (by decide)
  have hP : va_P ((fun k => (fD k).1), (fun k => (fD k).2)) am_cls (am_ws am_ftab (am_ad b t (adK 0) (adK 1) (adV 0) (adV 1)) cA (am_m0 L xs)) s.heap := fun k q h => by simp [am_ws, am_m0] at h
  have hD : va_D (fun q : Nat => s.heap.size ≤ q) (am_ws am_ftab (am_ad b t (adK 0) (adK 1) (adV 0) (adV 1)) cA (am_m0 L xs)) := ⟨fun i j p q h => by simp [am_ws, am_m0] at h, fun k q h => by simp [am_ws, am_m0] at h⟩
  have e0 : (am_m0 L xs).1.length = 0 := rfl
  have e1 : am_sl (am_m0 L xs) = 0 := rfl
  refine am_sim (l := l) am_prog_ok n 0 0 _ [] (am_m0 L xs) _ μ' hrun hI p e room_1 s m _ below meth c _ cA (fun q => s.heap.size ≤ q) (am_ad b t (adK 0) (adK 1) (adV 0) (adV 1)) 0 0 _ s.heap [] _ ⟨hx, hb, hml, hown, hts, hK, fun _ h => h⟩ (fun z => absurd z (by decide)) ⟨rfl, rfl⟩ ⟨by show 0 + (μ'.1.length - 0) ≤ 145; omega, by rw [e1]; show 0 + (am_sl μ' - 0) ≤ 78752; omega⟩ hro hg hlv hP hD va_S.rf ?_
  intro ad' H' locs' ls' pc' S' ap i len hext hd h30 hret hok hP' hD' hS'
  have hS2 : S' = [vI 1] ∧ decode code pc' = .ok (.ireturn, 1) := by
    unfold am_ok30 at h30
    simp only [Bool.and_eq_true, decide_eq_true_eq] at h30
    obtain ⟨rfl, h30⟩ := h30
    unfold am_ret at hret
    split at hret
    · cases hret
    · simp only [Bool.and_eq_true, decide_eq_true_eq] at h30
      exact absurd h30.2 (by decide)
    · split at hret
      · cases hret
        simp only [Bool.and_eq_true, decide_eq_true_eq] at h30
        exact ⟨rfl, by rw [← h30.1]; exact hd⟩
      · cases hret
    · simp only [Bool.and_eq_true, decide_eq_true_eq] at h30
      exact absurd h30.2 (by decide)
    · simp only [Bool.and_eq_true, decide_eq_true_eq] at h30
      exact absurd h30.2 (by decide)
    · cases hret
    · cases hret
  obtain ⟨rfl, hdg⟩ := hS2
  refine va_forget (fun q hq => hS'.2.2 q hq) ?_
  refine W.widen (k := 145) (n := 78752) (by show 0 + (μ'.1.length - 0) ≤ 145; omega) (by rw [e1]; show 0 + (am_sl μ' - 0) ≤ 78752; omega) ?_
  exact lw_ret hx hb hr hlocks hdg
