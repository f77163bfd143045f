/-! WHAT IS TOLD, A SCENE, A PLATE: the specs' own functions. T: the cells of told; sc: a scene; F: what each law lays -/
def nD (T : am_Sg) : Nat := (T 8 0).toNat
def nM (T : am_Sg) : Nat := (T 8 1).toNat
def nB (T : am_Sg) : Nat := (T 8 2).toNat
def nG (T : am_Sg) : Nat := (T 8 3).toNat
def nE (T : am_Sg) : Nat := (T 8 4).toNat
/-- bit i of x -/
def bt1 (x : Int) (i : Nat) : Int := am_and (am_shr x (i : Int)) 1
def TOk (T : am_Sg) : Prop := (T 8 0 = (nD T : Int) ∧ nD T ≤ 4) ∧ (T 8 1 = (nM T : Int) ∧ nM T ≤ 8) ∧ (T 8 2 = (nB T : Int) ∧ nB T ≤ 6) ∧ (T 8 3 = (nG T : Int) ∧ nG T ≤ 20) ∧ (∀ d, d < nD T → 1 ≤ T 10 d ∧ T 10 d ≤ 9 ∧ 0 ≤ T 11 d ∧ T 11 d ≤ 99 ∧ 0 ≤ T 12 d ∧ T 12 d ≤ 999) ∧ (∀ m, m < nM T → 0 ≤ T 13 m ∧ T 13 m ≤ 99 ∧ 0 ≤ T 14 m ∧ T 14 m ≤ T 13 m ∧ 0 ≤ T 15 m ∧ T 15 m ≤ 9 ∧ 0 ≤ T 17 m ∧ T 17 m ≤ 15) ∧ (∀ b, b < nB T → 0 ≤ T 21 b ∧ T 21 b ≤ 99 ∧ 0 ≤ T 22 b ∧ T 22 b ≤ 99) ∧ (∀ g, g < nG T → 0 ≤ T 23 g ∧ T 23 g < (nM T : Int) ∧ 0 ≤ T 24 g ∧ T 24 g ≤ 23)
section TOKS
variable {T : am_Sg}
theorem TOk.d0 (h : TOk T) : T 8 0 = (nD T : Int) := h.1.1
theorem TOk.d4 (h : TOk T) : nD T ≤ 4 := h.1.2
theorem TOk.m0 (h : TOk T) : T 8 1 = (nM T : Int) := h.2.1.1
theorem TOk.m8 (h : TOk T) : nM T ≤ 8 := h.2.1.2
theorem TOk.b0 (h : TOk T) : T 8 2 = (nB T : Int) := h.2.2.1.1
theorem TOk.b6 (h : TOk T) : nB T ≤ 6 := h.2.2.1.2
theorem TOk.g0 (h : TOk T) : T 8 3 = (nG T : Int) := h.2.2.2.1.1
theorem TOk.g20 (h : TOk T) : nG T ≤ 20 := h.2.2.2.1.2
theorem TOk.di (h : TOk T) : ∀ d, d < nD T → 1 ≤ T 10 d ∧ T 10 d ≤ 9 ∧ 0 ≤ T 11 d ∧ T 11 d ≤ 99 ∧ 0 ≤ T 12 d ∧ T 12 d ≤ 999 := h.2.2.2.2.1
theorem TOk.mi (h : TOk T) : ∀ m, m < nM T → 0 ≤ T 13 m ∧ T 13 m ≤ 99 ∧ 0 ≤ T 14 m ∧ T 14 m ≤ T 13 m ∧ 0 ≤ T 15 m ∧ T 15 m ≤ 9 ∧ 0 ≤ T 17 m ∧ T 17 m ≤ 15 := h.2.2.2.2.2.1
theorem TOk.bi (h : TOk T) : ∀ b, b < nB T → 0 ≤ T 21 b ∧ T 21 b ≤ 99 ∧ 0 ≤ T 22 b ∧ T 22 b ≤ 99 := h.2.2.2.2.2.2.1
theorem TOk.gi (h : TOk T) : ∀ g, g < nG T → 0 ≤ T 23 g ∧ T 23 g < (nM T : Int) ∧ 0 ≤ T 24 g ∧ T 24 g ≤ 23 := h.2.2.2.2.2.2.2
end TOKS
/-- what the debts told come to for a man: the first n of them -/
def netS (σ : am_Sg) (l : Nat) (m : Int) : Nat → Int
  | 0 => 0
  | n + 1 =>
    let v := netS σ l m n
    let v1 := if σ 120 (20 * l + n) = m then w32 (v + σ 121 (20 * l + n)) else v
    if σ 119 (20 * l + n) = m then w32 (v1 - σ 121 (20 * l + n)) else v1
/-- the reference's live side holds the same -/
def TM (σ T : am_Sg) (l : Nat) : Prop := (σ 80 18 = (l : Int) ∧ l ≤ 1) ∧ (σ 91 l = T 8 0 ∧ σ 95 l = T 8 1 ∧ σ 112 l = T 8 2 ∧ σ 115 l = T 8 3 ∧ σ 118 l = T 8 4 ∧ T 8 4 = (nE T : Int) ∧ nE T ≤ 20) ∧ (∀ d, d < nD T → σ 92 (4 * l + d) = T 10 d ∧ σ 93 (4 * l + d) = T 11 d ∧ σ 94 (4 * l + d) = T 12 d) ∧ (∀ m, m < nM T → σ 96 (8 * l + m) = T 13 m ∧ σ 97 (8 * l + m) = T 14 m ∧ σ 98 (8 * l + m) = T 15 m ∧ σ 99 (8 * l + m) = T 16 m ∧ (∀ h : Nat, h < 24 → (bt1 (T 18 m) h = 0 ↔ ¬ (σ 100 (8 * l + m) ≤ (h : Int) ∧ (h : Int) ≤ σ 101 (8 * l + m))))) ∧ (∀ m, m < nM T → ∀ d, d < 4 → (σ 102 (4 * (8 * l + m) + d) = 0 ∨ σ 102 (4 * (8 * l + m) + d) = 1) ∧ bt1 (T 17 m) d = σ 102 (4 * (8 * l + m) + d) ∧ ((T 19 (4 * m + d) = 0 ∧ σ 103 (4 * (8 * l + m) + d) = 99) ∨ (σ 103 (4 * (8 * l + m) + d) = T 19 (4 * m + d) ∧ 1 ≤ T 19 (4 * m + d)))) ∧ (∀ b, b < nB T → σ 113 (6 * l + b) = T 21 b ∧ σ 114 (6 * l + b) = T 22 b) ∧ (∀ g, g < nG T → σ 116 (20 * l + g) = T 23 g ∧ σ 117 (20 * l + g) = T 24 g) ∧ (∀ m, m < nM T → T 20 m = netS σ l (m : Int) (nE T))
section TMS
variable {σ T : am_Sg} {l : Nat}
theorem TM.l0 (h : TM σ T l) : σ 80 18 = (l : Int) := h.1.1
theorem TM.l1 (h : TM σ T l) : l ≤ 1 := h.1.2
theorem TM.nd (h : TM σ T l) : σ 91 l = T 8 0 := h.2.1.1
theorem TM.nm (h : TM σ T l) : σ 95 l = T 8 1 := h.2.1.2.1
theorem TM.nb (h : TM σ T l) : σ 112 l = T 8 2 := h.2.1.2.2.1
theorem TM.ng (h : TM σ T l) : σ 115 l = T 8 3 := h.2.1.2.2.2.1
theorem TM.ne (h : TM σ T l) : σ 118 l = T 8 4 := h.2.1.2.2.2.2.1
theorem TM.e0 (h : TM σ T l) : T 8 4 = (nE T : Int) := h.2.1.2.2.2.2.2.1
theorem TM.e20 (h : TM σ T l) : nE T ≤ 20 := h.2.1.2.2.2.2.2.2
theorem TM.di (h : TM σ T l) : ∀ d, d < nD T → σ 92 (4 * l + d) = T 10 d ∧ σ 93 (4 * l + d) = T 11 d ∧ σ 94 (4 * l + d) = T 12 d := h.2.2.1
theorem TM.mi (h : TM σ T l) : ∀ m, m < nM T → σ 96 (8 * l + m) = T 13 m ∧ σ 97 (8 * l + m) = T 14 m ∧ σ 98 (8 * l + m) = T 15 m ∧ σ 99 (8 * l + m) = T 16 m ∧ (∀ h : Nat, h < 24 → (bt1 (T 18 m) h = 0 ↔ ¬ (σ 100 (8 * l + m) ≤ (h : Int) ∧ (h : Int) ≤ σ 101 (8 * l + m)))) := h.2.2.2.1
theorem TM.hi (h : TM σ T l) : ∀ m, m < nM T → ∀ d, d < 4 → (σ 102 (4 * (8 * l + m) + d) = 0 ∨ σ 102 (4 * (8 * l + m) + d) = 1) ∧ bt1 (T 17 m) d = σ 102 (4 * (8 * l + m) + d) ∧ ((T 19 (4 * m + d) = 0 ∧ σ 103 (4 * (8 * l + m) + d) = 99) ∨ (σ 103 (4 * (8 * l + m) + d) = T 19 (4 * m + d) ∧ 1 ≤ T 19 (4 * m + d))) := h.2.2.2.2.1
theorem TM.bi (h : TM σ T l) : ∀ b, b < nB T → σ 113 (6 * l + b) = T 21 b ∧ σ 114 (6 * l + b) = T 22 b := h.2.2.2.2.2.1
theorem TM.gi (h : TM σ T l) : ∀ g, g < nG T → σ 116 (20 * l + g) = T 23 g ∧ σ 117 (20 * l + g) = T 24 g := h.2.2.2.2.2.2.1
theorem TM.ni (h : TM σ T l) : ∀ m, m < nM T → T 20 m = netS σ l (m : Int) (nE T) := h.2.2.2.2.2.2.2
theorem netS_fr {σ' : am_Sg} (h1 : σ' 119 = σ 119) (h2 : σ' 120 = σ 120) (h3 : σ' 121 = σ 121) (l : Nat) (m : Int) : ∀ n, netS σ' l m n = netS σ l m n
  | 0 => rfl
  | n + 1 => by
    unfold netS
    rw [netS_fr h1 h2 h3 l m n, h1, h2, h3]
/-- cells that the reference's calls but read leave alone -/
def mdT (cs js : List Nat) : Bool := (cs.all (fun k => decide (k < 91) || decide (121 < k))) && !(js.contains 18)
theorem TM.fr {σ' : am_Sg} {cs js : List Nat} (h : TM σ T l) (hf : Fr cs js σ σ') (hd : mdT cs js = true) : TM σ' T l := by
  unfold mdT at hd
  simp only [Bool.and_eq_true, Bool.not_eq_true'] at hd
  have e : ∀ k, 91 ≤ k → k ≤ 121 → σ' k = σ k := by
    intro k h1 h2
    refine hf.1 k (by omega) ?_
    cases hc : cs.contains k with
    | false => rfl
    | true =>
      have := List.all_eq_true.mp hd.1 k (List.contains_iff_mem.mp hc)
      simp at this
      omega
  have e8 : σ' 80 18 = σ 80 18 := hf.2 18 hd.2
  unfold TM
  rw [e8, e 91 (by omega) (by omega), e 95 (by omega) (by omega), e 112 (by omega) (by omega), e 115 (by omega) (by omega), e 118 (by omega) (by omega), e 92 (by omega) (by omega), e 93 (by omega) (by omega), e 94 (by omega) (by omega), e 96 (by omega) (by omega), e 97 (by omega) (by omega), e 98 (by omega) (by omega), e 99 (by omega) (by omega), e 100 (by omega) (by omega), e 101 (by omega) (by omega), e 102 (by omega) (by omega), e 103 (by omega) (by omega), e 113 (by omega) (by omega), e 114 (by omega) (by omega), e 116 (by omega) (by omega), e 117 (by omega) (by omega)]
  have en := netS_fr (e 119 (by omega) (by omega)) (e 120 (by omega) (by omega)) (e 121 (by omega) (by omega)) l
  refine ⟨h.1, h.2.1, h.2.2.1, h.2.2.2.1, h.2.2.2.2.1, h.2.2.2.2.2.1, h.2.2.2.2.2.2.1, fun m hm => ?_⟩
  rw [en]
  exact h.ni m hm
end TMS
/-- seven variables -/
def vf (f : Nat → Int) : Nat → Int := fun j => if j < 7 then f j else 0
theorem vf_ext {f g : Nat → Int} (h : ∀ j, j < 7 → f j = g j) : vf f = vf g := by
  funext j
  unfold vf
  by_cases z : j < 7
  · rw [if_pos z, if_pos z, h j z]
  · rw [if_neg z, if_neg z]
abbrev LF : Type := Nat → Nat → (Nat → Int) → Int
def cl6 (v : Int) : Int := if v ≤ 0 then 0 else if v < 6 then v else 6
/-! the laws by the class's code; where no law of a gate looks at who was ahead, that is of no account -/
def AG (T : am_Sg) (F : LF) : Prop := ∀ g d, g < 2 → d < nD T → bt1 (T 7 20) g = 0 → ∀ v w : Nat → Int, (∀ j, ¬ j = 4 → v j = w j) → F g d v = F g d w
def LC (X : Nat) (T : am_Sg) (F : LF) : Prop := (∀ g d, g < 2 → d < nD T → (T 25 (4 * g + d) < 0 ∧ ∀ v, F g d v = 0) ∨ (0 ≤ T 25 (4 * g + d) ∧ ∀ σ : am_Sg, σ 7 = T 7 → σ 26 = T 26 → ∃ v σ', vcI X 199 [vP 57, vI (T 25 (4 * g + d))] σ = some (v, σ') ∧ Fr [59] [] σ σ' ∧ cl6 v = F g d (vf (σ 58)))) ∧ AG T F
/-- the places of a side in the cells of the laws -/
def sdp (l k j : Nat) : Prop := if k ≤ 106 then 8 * l ≤ j ∧ j < 8 * l + 8 else if k ≤ 111 then 50 * l ≤ j ∧ j < 50 * l + 50 else 420 * l ≤ j ∧ j < 420 * l + 420
def agL (σ σ1 : am_Sg) : Prop := (∀ k, (105 ≤ k ∧ k ≤ 111) ∨ k = 122 ∨ k = 123 → ∀ j, sdp (σ 80 18).toNat k j → σ1 k j = σ k j) ∧ σ1 80 18 = σ 80 18
def LM (X : Nat) (σ T : am_Sg) (l : Nat) (F : LF) : Prop := ∀ g d, g < 2 → d < nD T → ∀ σ1 : am_Sg, agL σ σ1 → ∃ σ', vcI X 201 [vP 80, vI (((8 * l + 4 * g + d : Nat)) : Int)] σ1 = some (F g d (vf (σ1 125)), σ') ∧ Fr [126] [63] σ1 σ'
def FOk (F : LF) : Prop := ∀ g d v, 0 ≤ F g d v ∧ F g d v ≤ 6
def mdL (cs js : List Nat) : Bool := (cs.all (fun k => (decide (k < 105) || decide (111 < k)) && (decide (¬ k = 122) && decide (¬ k = 123)))) && !(js.contains 18)
theorem agL.fr {cs js : List Nat} {σ σ' : am_Sg} (hf : Fr cs js σ σ') (hd : mdL cs js = true) : agL σ σ' := by
  unfold mdL at hd
  simp only [Bool.and_eq_true, Bool.not_eq_true'] at hd
  refine ⟨fun k hk j _ => congrFun (hf.1 k (by omega) ?_) j, hf.2 18 hd.2⟩
  cases hc : cs.contains k with
  | false => rfl
  | true =>
    have := List.all_eq_true.mp hd.1 k (List.contains_iff_mem.mp hc)
    simp at this
    omega
theorem agL.tr {a b c : am_Sg} (h : agL a b) (h' : agL b c) : agL a c := ⟨fun k hk j hj => (h'.1 k hk j (by rw [h.2]; exact hj)).trans (h.1 k hk j hj), h'.2.trans h.2⟩
theorem LM.ag {X l : Nat} {σ σ' T : am_Sg} {F : LF} (h : LM X σ T l F) (ha : agL σ σ') : LM X σ' T l F := fun g d hg hd σ1 h1 => h g d hg hd σ1 (ha.tr h1)
/-- the variables of a law, for a man: s is what is left of the dish -/
def vr (T : am_Sg) (sc : Nat → Int) (m : Nat) (ahead s : Int) : Nat → Int := fun j => if j = 0 then sc 44 else if j = 1 then T 16 m else if j = 2 then w32 (T 13 m - sc m) else if j = 3 then sc m else if j = 4 then ahead else if j = 5 then s else if j = 6 then (if 0 < sc (8 + m) then 1 else 0) else 0
/-- the bites laid -/
def bts (T : am_Sg) (F : LF) (sc : Nat → Int) (m g : Nat) (ahead : Int) : Nat → Int := fun d => if d < nD T then F g d (vr T sc m ahead (sc (32 + d))) else 0
/-- a sum over the first n -/
def sm (f : Nat → Int) : Nat → Int
  | 0 => 0
  | n + 1 => sm f n + f n
def bulkS (T : am_Sg) (b : Nat → Int) : Int := sm (fun d => b d * T 10 d) (nD T)
def gainS (T : am_Sg) (b : Nat → Int) : Int := sm (fun d => b d * T 11 d) (nD T)
def numS (b : Nat → Int) : Int := b 0 + b 1 + b 2 + b 3
/-- bites as they may be: few, and none of a dish that is not told -/
def BOk (T : am_Sg) (b : Nat → Int) (n : Int) : Prop := (∀ d, d < 4 → 0 ≤ b d ∧ b d ≤ n) ∧ ∀ d, nD T ≤ d → d < 4 → b d = 0
/-- a scene as it may be -/
def ScOk (T : am_Sg) (sc : Nat → Int) : Prop := (∀ m, m < nM T → 0 ≤ sc m ∧ sc m ≤ T 13 m ∧ 0 ≤ sc (8 + m) ∧ sc (8 + m) ≤ 12) ∧ (∀ d, d < 4 → 0 ≤ sc (32 + d) ∧ sc (32 + d) ≤ 999) ∧ (0 ≤ sc 44 ∧ sc 44 ≤ 23) ∧ ∀ j, -2147483648 ≤ sc j ∧ sc j < 2147483648
/-- an hour goes by -/
def hr1 (T : am_Sg) (sc : Nat → Int) (j : Nat) : Int := if j < nM T then (if sc j ≤ T 15 j then 0 else sc j - T 15 j) else if 8 ≤ j ∧ j < 8 + nM T then (if sc j ≤ 0 then 0 else sc j - 1) else sc j
def hrS (T : am_Sg) (sc : Nat → Int) : Nat → Int := fun j => if j < 46 then (if j = 44 then (if sc 44 < 23 then sc 44 + 1 else 0) else if sc 44 < 23 then hr1 T sc j else if j = 45 then w32 (sc 45 + 1) else if (24 ≤ j ∧ j < 32) ∨ j = 42 ∨ j = 43 then 0 else hr1 T sc j) else 0
/-- as the text tells it -/
def bgS (T : am_Sg) : Nat → Int := fun j => if j < nM T then T 14 j else if 32 ≤ j ∧ j < 32 + nD T then T 12 (j - 32) else 0
def fasting (T : am_Sg) (sc : Nat → Int) (m : Nat) : Prop := ¬ bt1 (T 18 m) (sc 44).toNat = 0
def hatesS (T : am_Sg) (m : Nat) (b : Nat → Int) : Prop := ∃ d, d < nD T ∧ 0 < b d ∧ ¬ bt1 (T 17 m) d = 0
def storesS (T : am_Sg) (sc b : Nat → Int) : Prop := ∀ d, d < nD T → b d ≤ sc (32 + d)
/-- why a man may not pass; 0 if he may -/
noncomputable def whyS (T : am_Sg) (sc : Nat → Int) (m : Nat) (b : Nat → Int) (ask : Prop) : Int :=
  @ite _ (0 < sc (8 + m)) (Classical.propDecidable _) 1 (@ite _ (0 < numS b ∧ fasting T sc m) (Classical.propDecidable _) 2 (@ite _ (hatesS T m b) (Classical.propDecidable _) 3 (@ite _ (ask ∧ ¬ storesS T sc b) (Classical.propDecidable _) 4 (@ite _ (T 13 m - sc m < bulkS T b) (Classical.propDecidable _) 5 0))))
/-- he swallows -/
noncomputable def swS (T : am_Sg) (sc : Nat → Int) (m g : Nat) (b : Nat → Int) : Nat → Int := fun j =>
  if j = m then sc m + bulkS T b else if j = 16 + m then w32 (sc j + numS b) else if j = 24 + m then 1 else if j = 40 + g then w32 (sc j + gainS T b) else if j = 42 + g then w32 (sc j + 1) else if 32 ≤ j ∧ j < 36 then sc j - b (j - 32) else if 36 ≤ j ∧ j < 40 then w32 (sc j + b (j - 36)) else if j = 8 + m then @ite _ (∃ d, d < nD T ∧ 0 < T 19 (4 * m + d) ∧ T 19 (4 * m + d) ≤ b d) (Classical.propDecidable _) 12 (sc j) else sc j
