def am_ftB (t : Nat) (ty : FieldType) (fin : Bool) : Bool := match t with
  | 0 => decide (ty = .int) && decide (fin = false)
  | 2 => decide (ty = .boolean) && decide (fin = false)
  | 3 => decide (ty = .long) && decide (fin = false)
  | 4 => decide (fin = true) && (match ty with
    | .object _ => true
    | .array _ => true
    | _ => false)
  | _ => false
theorem am_ftB_ok {t : Nat} {ty : FieldType} {fin : Bool} (h : am_ftB t ty fin = true) : am_ftOk t ty fin := by
  unfold am_ftB at h
  split at h
  · simp only [Bool.and_eq_true, decide_eq_true_eq] at h; exact Or.inl ⟨rfl, h.1, h.2⟩
  · simp only [Bool.and_eq_true, decide_eq_true_eq] at h; exact Or.inr (Or.inl ⟨rfl, h.1, h.2⟩)
  · simp only [Bool.and_eq_true, decide_eq_true_eq] at h; exact Or.inr (Or.inr (Or.inl ⟨rfl, h.1, h.2⟩))
  · simp only [Bool.and_eq_true, decide_eq_true_eq] at h
    refine Or.inr (Or.inr (Or.inr ⟨rfl, h.1, ?_⟩))
    split at h
    · exact Or.inl ⟨_, rfl⟩
    · exact Or.inr ⟨_, rfl⟩
    · cases h.2
  · cases h
set_option maxRecDepth 100000 in
theorem cl_w0 : ∀ w ∈ u_ws "EatenToll$Book" ct_0 9, w ∈ am_T := by decide +kernel
theorem cl_n0 : ∀ a, a < 9 → ∀ b, b < 9 → a ≠ b → (ct_0 a).2.1 ≠ (ct_0 b).2.1 := by decide +kernel
def cl_tb0 (j : Nat) : Bool := decide ((ct_0 j).1 = "EatenToll$Book") && (match parseFieldDescriptor (ct_0 j).2.2.1 with
  | some ty => am_ftB (am_ft am_ftab 0 j) ty (ct_0 j).2.2.2
  | none => false)
theorem cl_t0 : ∀ j, j < 9 → cl_tb0 j = true := by decide +kernel
set_option maxRecDepth 100000 in
theorem cl_w1 : ∀ w ∈ u_ws "EatenToll$Guesser" ct_1 9, w ∈ am_T := by decide +kernel
theorem cl_n1 : ∀ a, a < 9 → ∀ b, b < 9 → a ≠ b → (ct_1 a).2.1 ≠ (ct_1 b).2.1 := by decide +kernel
def cl_tb1 (j : Nat) : Bool := decide ((ct_1 j).1 = "EatenToll$Guesser") && (match parseFieldDescriptor (ct_1 j).2.2.1 with
  | some ty => am_ftB (am_ft am_ftab 1 j) ty (ct_1 j).2.2.2
  | none => false)
theorem cl_t1 : ∀ j, j < 9 → cl_tb1 j = true := by decide +kernel
set_option maxRecDepth 100000 in
theorem cl_w2 : ∀ w ∈ u_ws "EatenToll$Keeper" ct_2 3, w ∈ am_T := by decide +kernel
theorem cl_n2 : ∀ a, a < 3 → ∀ b, b < 3 → a ≠ b → (ct_2 a).2.1 ≠ (ct_2 b).2.1 := by decide +kernel
def cl_tb2 (j : Nat) : Bool := decide ((ct_2 j).1 = "EatenToll$Keeper") && (match parseFieldDescriptor (ct_2 j).2.2.1 with
  | some ty => am_ftB (am_ft am_ftab 2 j) ty (ct_2 j).2.2.2
  | none => false)
theorem cl_t2 : ∀ j, j < 3 → cl_tb2 j = true := by decide +kernel
set_option maxRecDepth 100000 in
theorem cl_w3 : ∀ w ∈ u_ws "EatenToll$Memory" ct_3 5, w ∈ am_T := by decide +kernel
theorem cl_n3 : ∀ a, a < 5 → ∀ b, b < 5 → a ≠ b → (ct_3 a).2.1 ≠ (ct_3 b).2.1 := by decide +kernel
def cl_tb3 (j : Nat) : Bool := decide ((ct_3 j).1 = "EatenToll$Memory") && (match parseFieldDescriptor (ct_3 j).2.2.1 with
  | some ty => am_ftB (am_ft am_ftab 3 j) ty (ct_3 j).2.2.2
  | none => false)
theorem cl_t3 : ∀ j, j < 5 → cl_tb3 j = true := by decide +kernel
set_option maxRecDepth 100000 in
theorem cl_w4 : ∀ w ∈ u_ws "EatenToll$Mouths" ct_4 8, w ∈ am_T := by decide +kernel
theorem cl_n4 : ∀ a, a < 8 → ∀ b, b < 8 → a ≠ b → (ct_4 a).2.1 ≠ (ct_4 b).2.1 := by decide +kernel
def cl_tb4 (j : Nat) : Bool := decide ((ct_4 j).1 = "EatenToll$Mouths") && (match parseFieldDescriptor (ct_4 j).2.2.1 with
  | some ty => am_ftB (am_ft am_ftab 4 j) ty (ct_4 j).2.2.2
  | none => false)
theorem cl_t4 : ∀ j, j < 8 → cl_tb4 j = true := by decide +kernel
set_option maxRecDepth 100000 in
theorem cl_w5 : ∀ w ∈ u_ws "EatenToll$Planner" ct_5 9, w ∈ am_T := by decide +kernel
theorem cl_n5 : ∀ a, a < 9 → ∀ b, b < 9 → a ≠ b → (ct_5 a).2.1 ≠ (ct_5 b).2.1 := by decide +kernel
def cl_tb5 (j : Nat) : Bool := decide ((ct_5 j).1 = "EatenToll$Planner") && (match parseFieldDescriptor (ct_5 j).2.2.1 with
  | some ty => am_ftB (am_ft am_ftab 5 j) ty (ct_5 j).2.2.2
  | none => false)
theorem cl_t5 : ∀ j, j < 9 → cl_tb5 j = true := by decide +kernel
set_option maxRecDepth 100000 in
theorem cl_w6 : ∀ w ∈ u_ws "EatenToll$Plate" ct_6 5, w ∈ am_T := by decide +kernel
theorem cl_n6 : ∀ a, a < 5 → ∀ b, b < 5 → a ≠ b → (ct_6 a).2.1 ≠ (ct_6 b).2.1 := by decide +kernel
def cl_tb6 (j : Nat) : Bool := decide ((ct_6 j).1 = "EatenToll$Plate") && (match parseFieldDescriptor (ct_6 j).2.2.1 with
  | some ty => am_ftB (am_ft am_ftab 6 j) ty (ct_6 j).2.2.2
  | none => false)
theorem cl_t6 : ∀ j, j < 5 → cl_tb6 j = true := by decide +kernel
set_option maxRecDepth 100000 in
theorem cl_w7 : ∀ w ∈ u_ws "EatenToll$Reader" ct_7 12, w ∈ am_T := by decide +kernel
theorem cl_n7 : ∀ a, a < 12 → ∀ b, b < 12 → a ≠ b → (ct_7 a).2.1 ≠ (ct_7 b).2.1 := by decide +kernel
def cl_tb7 (j : Nat) : Bool := decide ((ct_7 j).1 = "EatenToll$Reader") && (match parseFieldDescriptor (ct_7 j).2.2.1 with
  | some ty => am_ftB (am_ft am_ftab 7 j) ty (ct_7 j).2.2.2
  | none => false)
theorem cl_t7 : ∀ j, j < 12 → cl_tb7 j = true := by decide +kernel
set_option maxRecDepth 100000 in
theorem cl_w8 : ∀ w ∈ u_ws "EatenToll$Scene" ct_8 1, w ∈ am_T := by decide +kernel
theorem cl_n8 : ∀ a, a < 1 → ∀ b, b < 1 → a ≠ b → (ct_8 a).2.1 ≠ (ct_8 b).2.1 := by decide +kernel
def cl_tb8 (j : Nat) : Bool := decide ((ct_8 j).1 = "EatenToll$Scene") && (match parseFieldDescriptor (ct_8 j).2.2.1 with
  | some ty => am_ftB (am_ft am_ftab 8 j) ty (ct_8 j).2.2.2
  | none => false)
theorem cl_t8 : ∀ j, j < 1 → cl_tb8 j = true := by decide +kernel
set_option maxRecDepth 100000 in
theorem cl_w9 : ∀ w ∈ u_ws "EatenToll$Tape" ct_9 7, w ∈ am_T := by decide +kernel
theorem cl_n9 : ∀ a, a < 7 → ∀ b, b < 7 → a ≠ b → (ct_9 a).2.1 ≠ (ct_9 b).2.1 := by decide +kernel
def cl_tb9 (j : Nat) : Bool := decide ((ct_9 j).1 = "EatenToll$Tape") && (match parseFieldDescriptor (ct_9 j).2.2.1 with
  | some ty => am_ftB (am_ft am_ftab 9 j) ty (ct_9 j).2.2.2
  | none => false)
theorem cl_t9 : ∀ j, j < 7 → cl_tb9 j = true := by decide +kernel
set_option maxRecDepth 100000 in
theorem cl_w10 : ∀ w ∈ u_ws "EatenToll$Told" ct_10 21, w ∈ am_T := by decide +kernel
theorem cl_n10 : ∀ a, a < 21 → ∀ b, b < 21 → a ≠ b → (ct_10 a).2.1 ≠ (ct_10 b).2.1 := by decide +kernel
def cl_tb10 (j : Nat) : Bool := decide ((ct_10 j).1 = "EatenToll$Told") && (match parseFieldDescriptor (ct_10 j).2.2.1 with
  | some ty => am_ftB (am_ft am_ftab 10 j) ty (ct_10 j).2.2.2
  | none => false)
theorem cl_t10 : ∀ j, j < 21 → cl_tb10 j = true := by decide +kernel
set_option maxRecDepth 100000 in
theorem cl_w11 : ∀ w ∈ u_ws "EatenToll" ct_11 14, w ∈ am_T := by decide +kernel
theorem cl_n11 : ∀ a, a < 14 → ∀ b, b < 14 → a ≠ b → (ct_11 a).2.1 ≠ (ct_11 b).2.1 := by decide +kernel
def cl_tb11 (j : Nat) : Bool := decide ((ct_11 j).1 = "EatenToll") && (match parseFieldDescriptor (ct_11 j).2.2.1 with
  | some ty => am_ftB (am_ft am_ftab 11 j) ty (ct_11 j).2.2.2
  | none => false)
theorem cl_t11 : ∀ j, j < 14 → cl_tb11 j = true := by decide +kernel
set_option maxRecDepth 100000 in
theorem cl_w12 : ∀ w ∈ u_ws "EatenTollModel" ct_12 88, w ∈ am_T := by decide +kernel
theorem cl_n12 : ∀ a, a < 88 → ∀ b, b < 88 → a ≠ b → (ct_12 a).2.1 ≠ (ct_12 b).2.1 := by decide +kernel
def cl_tb12 (j : Nat) : Bool := decide ((ct_12 j).1 = "EatenTollModel") && (match parseFieldDescriptor (ct_12 j).2.2.1 with
  | some ty => am_ftB (am_ft am_ftab 12 j) ty (ct_12 j).2.2.2
  | none => false)
theorem cl_t12 : ∀ j, j < 88 → cl_tb12 j = true := by decide +kernel
theorem am_clOk_1 : am_clOk am_ftab am_T am_cls := by
  intro ci C Tt N h
  match ci, h with
  | 0, h =>
    cases h
    refine ⟨cl_w0, fun j hj => ?_, cl_n0, am_tk_mem (d := 499) (by decide +kernel), am_tk_mem (d := 124) (by decide +kernel)⟩
    have h1 := cl_t0 j hj
    unfold cl_tb0 at h1
    simp only [Bool.and_eq_true, decide_eq_true_eq] at h1
    refine ⟨h1.1, ?_⟩
    have h2 := h1.2
    split at h2
    next ty hty => exact ⟨ty, hty, am_ftB_ok h2⟩
    next => cases h2
  | 1, h =>
    cases h
    refine ⟨cl_w1, fun j hj => ?_, cl_n1, am_tk_mem (d := 465) (by decide +kernel), am_tk_mem (d := 123) (by decide +kernel)⟩
    have h1 := cl_t1 j hj
    unfold cl_tb1 at h1
    simp only [Bool.and_eq_true, decide_eq_true_eq] at h1
    refine ⟨h1.1, ?_⟩
    have h2 := h1.2
    split at h2
    next ty hty => exact ⟨ty, hty, am_ftB_ok h2⟩
    next => cases h2
  | 2, h =>
    cases h
    refine ⟨cl_w2, fun j hj => ?_, cl_n2, am_tk_mem (d := 363) (by decide +kernel), am_tk_mem (d := 119) (by decide +kernel)⟩
    have h1 := cl_t2 j hj
    unfold cl_tb2 at h1
    simp only [Bool.and_eq_true, decide_eq_true_eq] at h1
    refine ⟨h1.1, ?_⟩
    have h2 := h1.2
    split at h2
    next ty hty => exact ⟨ty, hty, am_ftB_ok h2⟩
    next => cases h2
  | 3, h =>
    cases h
    refine ⟨cl_w3, fun j hj => ?_, cl_n3, am_tk_mem (d := 379) (by decide +kernel), am_tk_mem (d := 120) (by decide +kernel)⟩
    have h1 := cl_t3 j hj
    unfold cl_tb3 at h1
    simp only [Bool.and_eq_true, decide_eq_true_eq] at h1
    refine ⟨h1.1, ?_⟩
    have h2 := h1.2
    split at h2
    next ty hty => exact ⟨ty, hty, am_ftB_ok h2⟩
    next => cases h2
  | 4, h =>
    cases h
    refine ⟨cl_w4, fun j hj => ?_, cl_n4, am_tk_mem (d := 400) (by decide +kernel), am_tk_mem (d := 121) (by decide +kernel)⟩
    have h1 := cl_t4 j hj
    unfold cl_tb4 at h1
    simp only [Bool.and_eq_true, decide_eq_true_eq] at h1
    refine ⟨h1.1, ?_⟩
    have h2 := h1.2
    split at h2
    next ty hty => exact ⟨ty, hty, am_ftB_ok h2⟩
    next => cases h2
  | 5, h =>
    cases h
    refine ⟨cl_w5, fun j hj => ?_, cl_n5, am_tk_mem (d := 431) (by decide +kernel), am_tk_mem (d := 122) (by decide +kernel)⟩
    have h1 := cl_t5 j hj
    unfold cl_tb5 at h1
    simp only [Bool.and_eq_true, decide_eq_true_eq] at h1
    refine ⟨h1.1, ?_⟩
    have h2 := h1.2
    split at h2
    next ty hty => exact ⟨ty, hty, am_ftB_ok h2⟩
    next => cases h2
  | 6, h =>
    cases h
    refine ⟨cl_w6, fun j hj => ?_, cl_n6, am_tk_mem (d := 342) (by decide +kernel), am_tk_mem (d := 118) (by decide +kernel)⟩
    have h1 := cl_t6 j hj
    unfold cl_tb6 at h1
    simp only [Bool.and_eq_true, decide_eq_true_eq] at h1
    refine ⟨h1.1, ?_⟩
    have h2 := h1.2
    split at h2
    next ty hty => exact ⟨ty, hty, am_ftB_ok h2⟩
    next => cases h2
  | 7, h =>
    cases h
    refine ⟨cl_w7, fun j hj => ?_, cl_n7, am_tk_mem (d := 290) (by decide +kernel), am_tk_mem (d := 116) (by decide +kernel)⟩
    have h1 := cl_t7 j hj
    unfold cl_tb7 at h1
    simp only [Bool.and_eq_true, decide_eq_true_eq] at h1
    refine ⟨h1.1, ?_⟩
    have h2 := h1.2
    split at h2
    next ty hty => exact ⟨ty, hty, am_ftB_ok h2⟩
    next => cases h2
  | 8, h =>
    cases h
    refine ⟨cl_w8, fun j hj => ?_, cl_n8, am_tk_mem (d := 333) (by decide +kernel), am_tk_mem (d := 117) (by decide +kernel)⟩
    have h1 := cl_t8 j hj
    unfold cl_tb8 at h1
    simp only [Bool.and_eq_true, decide_eq_true_eq] at h1
    refine ⟨h1.1, ?_⟩
    have h2 := h1.2
    split at h2
    next ty hty => exact ⟨ty, hty, am_ftB_ok h2⟩
    next => cases h2
  | 9, h =>
    cases h
    refine ⟨cl_w9, fun j hj => ?_, cl_n9, am_tk_mem (d := 139) (by decide +kernel), am_tk_mem (d := 109) (by decide +kernel)⟩
    have h1 := cl_t9 j hj
    unfold cl_tb9 at h1
    simp only [Bool.and_eq_true, decide_eq_true_eq] at h1
    refine ⟨h1.1, ?_⟩
    have h2 := h1.2
    split at h2
    next ty hty => exact ⟨ty, hty, am_ftB_ok h2⟩
    next => cases h2
  | 10, h =>
    cases h
    refine ⟨cl_w10, fun j hj => ?_, cl_n10, am_tk_mem (d := 217) (by decide +kernel), am_tk_mem (d := 114) (by decide +kernel)⟩
    have h1 := cl_t10 j hj
    unfold cl_tb10 at h1
    simp only [Bool.and_eq_true, decide_eq_true_eq] at h1
    refine ⟨h1.1, ?_⟩
    have h2 := h1.2
    split at h2
    next ty hty => exact ⟨ty, hty, am_ftB_ok h2⟩
    next => cases h2
  | 11, h =>
    cases h
    refine ⟨cl_w11, fun j hj => ?_, cl_n11, am_tk_mem (d := 131) (by decide +kernel), am_tk_mem (d := 108) (by decide +kernel)⟩
    have h1 := cl_t11 j hj
    unfold cl_tb11 at h1
    simp only [Bool.and_eq_true, decide_eq_true_eq] at h1
    refine ⟨h1.1, ?_⟩
    have h2 := h1.2
    split at h2
    next ty hty => exact ⟨ty, hty, am_ftB_ok h2⟩
    next => cases h2
  | 12, h =>
    cases h
    refine ⟨cl_w12, fun j hj => ?_, cl_n12, am_tk_mem (d := 1305) (by decide +kernel), am_tk_mem (d := 125) (by decide +kernel)⟩
    have h1 := cl_t12 j hj
    unfold cl_tb12 at h1
    simp only [Bool.and_eq_true, decide_eq_true_eq] at h1
    refine ⟨h1.1, ?_⟩
    have h2 := h1.2
    split at h2
    next ty hty => exact ⟨ty, hty, am_ftB_ok h2⟩
    next => cases h2
  | _ + 13, h => cases h
