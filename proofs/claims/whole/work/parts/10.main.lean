/-! the simulation itself -/
theorem am_run_tag {ft : List (List Nat)} {mL : Nat → Nat} {code : Nat → Nat → Option am_E} : ∀ (n mid pc : Nat) (L : am_L) (S : List am_V) (μ : am_M) (r : Option am_V) (μ' : am_M), am_run ft mL code n mid pc L S μ = some (r, μ') → ∀ v, r = some v → ¬ am_tag v = 2 := by
  intro n
  induction n with
  | zero => intro mid pc L S μ r μ' h; cases h
  | succ n ih =>
    intro mid pc L S μ r μ' h
    unfold am_run at h
    split at h
    next => cases h
    next op len a b d c ks offs he =>
      split at h
      next =>
        split at h
        next =>
          split at h
          next => cases h
          next => exact ih _ _ _ _ _ _ _ h
        next => cases h
      next =>
        split at h
        next =>
          split at h
          next => cases h
          next r1 hr1 =>
            simp only [Option.some.injEq, Prod.mk.injEq] at h
            obtain ⟨rfl, rfl⟩ := h
            intro v hv
            subst hv
            unfold am_ret at hr1
            split at hr1
            · cases hr1
            · cases hr1; intro z; cases z
            · split at hr1
              · cases hr1; intro z; cases z
              · cases hr1
            · split at hr1
              · cases hr1; intro z; cases z
              · cases hr1
            · split at hr1
              · cases hr1; intro z; cases z
              · cases hr1
            · cases hr1; intro z; cases z
            · cases hr1
        next =>
          split at h
          next => cases h
          next => exact ih _ _ _ _ _ _ _ h
theorem am_rv_any {ad ad' : Nat → Nat} {v : am_V} (h : ¬ am_tag v = 2) : am_rv ad' v = am_rv ad v := by
  match v, h with
  | .inl _, _ => rfl
  | .inr (.inl _), _ => rfl
  | .inr (.inr _), h => exact absurd rfl h
section MAIN
variable (ft : List (List Nat)) (T Tg NT : List Cond) (tk : Nat → Option Cond) (cl : List vw_C) (rcl : List (String × (Nat → String × String))) (strs : List (String × Nat × String)) (y : Nat → MethodName) (bc : Nat → ByteArray) (mL np fr lo : Nat → Nat) (rt : Nat → Option FieldType) (code : Nat → Nat → Option am_E) (l : Launch)
/-- the program's tables are right -/
def am_Prog : Prop := am_clOk ft T cl ∧ am_glOk T ∧ am_ckOk Tg ∧ (∀ mid pc e, code mid pc = some e → am_chk ft tk cl rcl strs y bc mL np fr lo rt mid pc e = true) ∧ (∀ mid pc e, code mid pc = some e → e.1 = 29 → am_mOk Tg y bc mL rt np e.2.2.1) ∧ (∀ w ∈ Tg, goodWord w = true) ∧ (∀ w ∈ Tg, w ∈ T) ∧ (∀ w ∈ T, w ∈ Tg ∨ w ∈ NT) ∧ (∀ w ∈ NT, am_nest w = true) ∧ ∀ (d : Nat) (w : Cond), tk d = some w → w ∈ T
def am_SimP (n : Nat) : Prop := ∀ (mid pc : Nat) (L : am_L) (S : List am_V) (μ : am_M) (r : Option am_V) (μ' : am_M), am_run ft mL code n mid pc L S μ = some (r, μ') → am_I ft μ L S →
  ∀ (p : Program) (e : Env) (R : Room) (s : State) (m : MethodId) (args : Array Value) (below : List Frame) (meth : Method) (c : Code) (D : va_G) (cA : Nat → ClassId) (A : Nat → Prop) (ad : Nat → Nat) (cells slots : Nat) (Q : State → Prop) (H : Heap) (locs : List Loc) (ls : Array Slot),
  am_X T cl D cA A p s m args c (bc mid) (mL mid) (y mid).cls → ((y mid).name = "<init>" → meth.name = "<init>") → (R.frames = fr mid ∧ R.locals = lo mid) → (cells + (μ'.1.length - μ.1.length) ≤ R.cells ∧ slots + (am_sl μ' - am_sl μ) ≤ R.slots) → am_RO ft rcl cl.length ad A s μ.2.1 μ.2.2 → am_GL NT strs ad A s → am_lv ad ls (mL mid) L → va_P D cl (am_ws ft ad cA μ) H → va_D A (am_ws ft ad cA μ) → va_S A s.heap H locs →
  (∀ (ad' : Nat → Nat) (H' : Heap) (locs' : List Loc) (ls' : Array Slot) (pc' : Nat) (S' : List am_V) (ap : Nat) (i : Instr) (len : Nat), am_ext μ.1.length ad ad' → decode (bc mid) pc' = .ok (i, len) → am_ok30 (rt mid) ap i len = true → am_ret ap S' = some r → (∀ v ∈ S', am_okV μ'.1.length v) → va_P D cl (am_ws ft ad' cA μ') H' → va_D A (am_ws ft ad' cA μ') → va_S A s.heap H' locs' → W p l e R s m args below meth c H' locs' (cells + (μ'.1.length - μ.1.length)) (slots + (am_sl μ' - am_sl μ)) Q (F0 m pc' ls' (S'.map (am_rv ad')))) →
  W p l e R s m args below meth c H locs cells slots Q (F0 m pc ls (S.map (am_rv ad)))
end MAIN
section MET
variable {ft : List (List Nat)} {T Tg NT : List Cond} {cl : List vw_C} {rcl : List (String × (Nat → String × String))} {strs : List (String × Nat × String)} {y : Nat → MethodName} {bc : Nat → ByteArray} {mL np fr lo : Nat → Nat} {rt : Nat → Option FieldType} {code : Nat → Nat → Option am_E} {l : Launch}
theorem am_met {n : Nat} (hT : (∀ w ∈ T, w ∈ Tg ∨ w ∈ NT) ∧ ∀ w ∈ NT, am_nest w = true) (ih : am_SimP ft T NT cl rcl strs y bc mL fr lo rt code l n) {a : Nat} (hm : am_mOk Tg y bc mL rt np a) {vs : List am_V} {μ μ' : am_M} {r : Option am_V} (hlen : (am_ent0 vs).length ≤ mL a) (hrun : am_run ft mL code n a 0 (am_ent (mL a) vs) [] μ = some (r, μ')) (I : am_I ft μ (am_ent (mL a) vs) []) (D : va_G) (cA : Nat → ClassId) (ad : Nat → Nat) (sz : Nat) :
    Met l (y a) (Cond.code (y a) (bc a) (mL a) (rt a) :: Tg) ({ frames := fr a, cells := μ'.1.length - μ.1.length, slots := am_sl μ' - am_sl μ, locals := lo a } : Room) (am_Pc NT ft cl rcl strs D cA ad sz vs μ) (am_Qc ft cl D cA (va_A (am_ws ft ad cA μ) sz) ad μ.1.length r μ') (μ'.1.length - μ.1.length) (am_sl μ' - am_sl μ) (va_A (am_ws ft ad cA μ) sz) := by
  refine Met.ofW (cc := bc a) (maxL := mL a) (ret := rt a) hm.2.2.2.2.2 rfl ?_
  intro p e s m args below meth c s₁ B hml hv
  obtain ⟨rfl, hsz, hP, hD0, hK, hro, hg⟩ := hv
  have hx := B.exec
  have hb := B.bytes
  have hr := B.returns
  have hts := atoms_spec (ws := Cond.code (y a) (bc a) (mL a) (rt a) :: Tg) B.pre
  have hown : s.vm.findClass (y a).cls = some m.cls := findClass_of_methodNamed B.named
  have hlocks := B.notSynchronized
  have hin : meth.name = (y a).name := (name_of_methodNamed B.named B.method).1
  subst hsz
  have hD := hD0.self (sz := s.heap.size)
  have hA : ∀ q : Nat, s.heap.size ≤ q → va_A (am_ws ft ad cA μ) s.heap.size q := fun q h => Or.inr h
  have hS : va_S (va_A (am_ws ft ad cA μ) s.heap.size) s.heap s.heap [] := va_S.rf
  rw [lg_entry_eq]
  have hl := am_lv_entry (ad := ad) hlen
  refine ih a 0 (am_ent (mL a) vs) [] μ r μ' hrun I p e _ s m _ below meth c D cA (va_A (am_ws ft ad cA μ) s.heap.size) ad 0 0 _ s.heap [] _ ⟨hx, hb, hml, hown, fun w hw => (hT.1 w hw).elim (fun z => hts w (List.mem_cons_of_mem _ z)) (fun z => va_Nw.use (am_nest_tab (hT.2 w z)) (hg.2.2.2.2 w z)), hK, hA⟩ (fun z => hin.trans z) ⟨rfl, rfl⟩ ⟨by rw [Nat.zero_add]; exact Nat.le_refl _, by rw [Nat.zero_add]; exact Nat.le_refl _⟩ hro hg hl hP hD hS ?_
  intro ad' H' locs' ls' pc' S' ap i len hext hd h30 hret hok hP' hD' hS'
  rw [Nat.zero_add, Nat.zero_add]
  have hq : ∀ (v : Option Value), v = r.map (am_rv ad) → ∀ t : State, t.heap = H' → s.WarmedH t.vm → am_Qc ft cl D cA (va_A (am_ws ft ad cA μ) s.heap.size) ad μ.1.length r μ' (List.map (am_rv ad) vs).toArray s (.returned v) t := fun v hv t ht _ => ⟨by rw [hv], ⟨ad', hext, by rw [ht]; exact hP', hD'⟩, hS'.F ht⟩
  unfold am_ok30 at h30
  simp only [Bool.and_eq_true, decide_eq_true_eq] at h30
  obtain ⟨rfl, h30⟩ := h30
  unfold am_ret at hret
  split at hret
  · cases hret
    simp only [Bool.and_eq_true, decide_eq_true_eq] at h30
    obtain ⟨rfl, h31⟩ := h30
    exact W.vret hx hb (hr.trans h31) (hq none rfl) hS'.2.2 hd
  · cases hret
    simp only [Bool.and_eq_true, decide_eq_true_eq] at h30
    obtain ⟨rfl, h31⟩ := h30
    exact W.iret hx hb (hr.trans h31) (hq _ rfl) hS'.2.2 hd
  · split at hret
    · rename_i hz
      cases hret
      simp only [Bool.and_eq_true, decide_eq_true_eq] at h30
      obtain ⟨rfl, h31⟩ := h30
      exact W.zret hx hb (hr.trans h31) (congrArg Value.int (am_oz1 hz).1) (hq _ rfl) hS'.2.2 hd
    · cases hret
  · split at hret
    · rename_i hz
      cases hret
      simp only [Bool.and_eq_true, decide_eq_true_eq] at h30
      obtain ⟨rfl, h31⟩ := h30
      exact W.zret hx hb (hr.trans h31) (congrArg Value.int (am_ob hz)) (hq _ rfl) hS'.2.2 hd
    · cases hret
  · split at hret
    · rename_i x hz
      cases hret
      simp only [Bool.and_eq_true, decide_eq_true_eq] at h30
      obtain ⟨rfl, h31⟩ := h30
      refine W.zret hx hb (hr.trans h31) ?_ (hq _ rfl) hS'.2.2 hd
      obtain ⟨k, rfl⟩ : ∃ k : Nat, x = (k : Int) := ⟨x.toNat, by omega⟩
      rw [← am_nI]
      exact (pk_charN (by omega)).1
    · cases hret
  · cases hret
    simp only [Bool.and_eq_true, decide_eq_true_eq] at h30
    obtain ⟨rfl, h31⟩ := h30
    exact W.lret hx hb (hr.trans h31) (hq _ rfl) hS'.2.2 hd
  · cases hret
end MET
