/-! THE ABSTRACT MACHINE: whole numbers as Int, cells by number, no addresses -/
abbrev am_V : Type := Int ⊕ (Int ⊕ Nat)
abbrev vI (x : Int) : am_V := .inl x
abbrev vJ (x : Int) : am_V := .inr (.inl x)
abbrev vP (k : Nat) : am_V := .inr (.inr k)
abbrev am_L : Type := List (Option am_V)
/-- a cell: kind (0 int[], 1 byte[], 2 boolean[], 3 long[], 4 + class), how many places, references (0: null) -/
abbrev am_C : Type := Nat × Nat × List Nat
/-- cells that are written, cells that are only read (numbered from 1000 on), what all hold -/
abbrev am_M : Type := List am_C × List am_C × (Nat → Nat → Int)
/-- an instruction: op, length, three numbers, an Int, locals that die ahead of it, targets -/
abbrev am_E : Type := Nat × Nat × Nat × Nat × Nat × Int × List Nat × List Nat
def w32 (x : Int) : Int := (x + 2147483648) % 4294967296 - 2147483648
def w64 (x : Int) : Int := (x + 9223372036854775808) % 18446744073709551616 - 9223372036854775808
def am_and (x y : Int) : Int := (Int32.ofInt x &&& Int32.ofInt y).toInt
def am_or (x y : Int) : Int := (Int32.ofInt x ||| Int32.ofInt y).toInt
def am_xor (x y : Int) : Int := (Int32.ofInt x ^^^ Int32.ofInt y).toInt
def am_shl (x y : Int) : Int := (Int32.ofInt x <<< (Int32.ofInt y &&& 31)).toInt
def am_shr (x y : Int) : Int := (Int32.ofInt x >>> (Int32.ofInt y &&& 31)).toInt
def am_ushr (x y : Int) : Int := ((Int32.ofInt x).toUInt32 >>> ((Int32.ofInt y).toUInt32 &&& Int32.toUInt32 31)).toInt32.toInt
def am_div (x y : Int) : Int := w32 (Int.tdiv x y)
def am_rem (x y : Int) : Int := w32 (x - am_div x y * y)
def am_bin (a : Nat) (x y : Int) : Int := match a with
  | 0 => w32 (x + y)
  | 1 => w32 (x - y)
  | 2 => w32 (x * y)
  | 3 => am_and x y
  | 4 => am_or x y
  | 5 => am_xor x y
  | 6 => am_shl x y
  | 7 => am_shr x y
  | _ => am_ushr x y
def am_lbin (a : Nat) (x y : Int) : Int := match a with
  | 0 => w64 (x + y)
  | _ => w64 (x * y)
def am_i2b (x : Int) : Int := (x + 128) % 256 - 128
def am_i2c (x : Int) : Int := x % 65536
def am_lcmp (x y : Int) : Int := if x < y then -1 else if x = y then 0 else 1
def am_cnd (a : Nat) (x y : Int) : Bool := match a with
  | 0 => decide (x = y)
  | 1 => decide (¬ x = y)
  | 2 => decide (x < y)
  | 3 => decide (y ≤ x)
  | 4 => decide (y < x)
  | _ => decide (x ≤ y)
def am_tag : am_V → Nat
  | .inl _ => 0
  | .inr (.inl _) => 1
  | .inr (.inr _) => 2
def am_cat (v : am_V) : Nat := if am_tag v = 1 then 2 else 1
def am_cats (S : List am_V) : Nat := (S.map am_cat).sum
def am_isJ : Option (Option am_V) → Bool
  | some (some (.inr (.inl _))) => true
  | _ => false
def am_st (L : am_L) (a : Nat) (v : am_V) : am_L :=
  let L1 := match a with
    | 0 => L
    | k + 1 => if am_isJ L[k]? then L.set k none else L
  if am_tag v = 1 then (L1.set a (some v)).set (a + 1) none else L1.set a (some v)
def am_kill (ks : List Nat) (L : am_L) : am_L := ks.foldl (fun L k => L.set k none) L
def am_ent0 : List am_V → am_L
  | [] => []
  | v :: vs => if am_tag v = 1 then some v :: none :: am_ent0 vs else some v :: am_ent0 vs
def am_ent (n : Nat) (vs : List am_V) : am_L := am_ent0 vs ++ List.replicate (n - (am_ent0 vs).length) none
def am_dsc (μ : am_M) (k : Nat) : Option am_C := if k < 1000 then μ.1[k]? else μ.2.1[k - 1000]?
def am_okT (t : Nat) (x : Int) : Bool := match t with
  | 0 => decide (-2147483648 ≤ x) && decide (x < 2147483648)
  | 1 => decide (-128 ≤ x) && decide (x < 128)
  | 2 => decide (0 ≤ x) && decide (x ≤ 1)
  | 3 => decide (-9223372036854775808 ≤ x) && decide (x < 9223372036854775808)
  | _ => true
def am_upd (σ : Nat → Nat → Int) (k j : Nat) (x : Int) : Nat → Nat → Int := fun a i => if a = k then (if i = j then x else σ a i) else σ a i
def am_row (σ : Nat → Nat → Int) (k : Nat) (f : Nat → Int) : Nat → Nat → Int := fun a i => if a = k then f i else σ a i
def am_cp (f g : Nat → Int) (sp dp n : Nat) : Nat → Int := fun k => if dp ≤ k ∧ k < dp + n then f (sp + (k - dp)) else g k
/-- the type of a field: 0 int, 2 boolean, 3 long, 4 a reference -/
def am_ft (ft : List (List Nat)) (ci j : Nat) : Nat := (ft.getD ci []).getD j 0
abbrev am_O : Type := Option (Nat × am_L × List am_V × am_M)
def am_sload (t a n : Nat) (L : am_L) (S : List am_V) (μ : am_M) : am_O := match L[a]? with
  | some (some v) => if am_tag v = t then some (n, L, v :: S, μ) else none
  | _ => none
def am_sstore (t a n : Nat) (L : am_L) (S : List am_V) (μ : am_M) : am_O := match S with
  | v :: S => if am_tag v = t ∧ a + am_cat v ≤ L.length then some (n, am_st L a v, S, μ) else none
  | _ => none
def am_sbin (a n : Nat) (L : am_L) (S : List am_V) (μ : am_M) : am_O := match S with
  | .inl y :: .inl x :: S => some (n, L, vI (am_bin a x y) :: S, μ)
  | _ => none
def am_sdiv (a n : Nat) (L : am_L) (S : List am_V) (μ : am_M) : am_O := match S with
  | .inl y :: .inl x :: S => if y = 0 then none else some (n, L, vI (if a = 0 then am_div x y else am_rem x y) :: S, μ)
  | _ => none
def am_sneg (n : Nat) (L : am_L) (S : List am_V) (μ : am_M) : am_O := match S with
  | .inl x :: S => some (n, L, vI (w32 (-x)) :: S, μ)
  | _ => none
def am_slbin (a n : Nat) (L : am_L) (S : List am_V) (μ : am_M) : am_O := match S with
  | .inr (.inl y) :: .inr (.inl x) :: S => some (n, L, vJ (am_lbin a x y) :: S, μ)
  | _ => none
def am_sconv (a n : Nat) (L : am_L) (S : List am_V) (μ : am_M) : am_O := match a, S with
  | 0, .inl x :: S => some (n, L, vJ x :: S, μ)
  | 1, .inr (.inl x) :: S => some (n, L, vI (w32 x) :: S, μ)
  | 2, .inl x :: S => some (n, L, vI (am_i2b x) :: S, μ)
  | 3, .inl x :: S => some (n, L, vI (am_i2c x) :: S, μ)
  | _, _ => none
def am_slcmp (n : Nat) (L : am_L) (S : List am_V) (μ : am_M) : am_O := match S with
  | .inr (.inl y) :: .inr (.inl x) :: S => some (n, L, vI (am_lcmp x y) :: S, μ)
  | _ => none
def am_sinc (a : Nat) (c : Int) (n : Nat) (L : am_L) (S : List am_V) (μ : am_M) : am_O := match L[a]? with
  | some (some (.inl x)) => some (n, am_st L a (vI (w32 (x + c))), S, μ)
  | _ => none
def am_sif (a tgt n : Nat) (L : am_L) (S : List am_V) (μ : am_M) : am_O := match S with
  | .inl x :: S => some (if am_cnd a x 0 then tgt else n, L, S, μ)
  | _ => none
def am_sicmp (a tgt n : Nat) (L : am_L) (S : List am_V) (μ : am_M) : am_O := match S with
  | .inl y :: .inl x :: S => some (if am_cnd a x y then tgt else n, L, S, μ)
  | _ => none
def am_stsw (dflt : Nat) (lo : Int) (offs : List Nat) (L : am_L) (S : List am_V) (μ : am_M) : am_O := match S with
  | .inl x :: S => if x < lo ∨ lo + (offs.length : Int) ≤ x then some (dflt, L, S, μ) else match offs[(x - lo).toNat]? with
    | some t => some (t, L, S, μ)
    | none => none
  | _ => none
def am_sdup (n : Nat) (L : am_L) (S : List am_V) (μ : am_M) : am_O := match S with
  | v :: S => if am_tag v = 1 then none else some (n, L, v :: v :: S, μ)
  | _ => none
def am_sdup2 (n : Nat) (L : am_L) (S : List am_V) (μ : am_M) : am_O := match S with
  | v :: u :: S => if am_tag v = 1 ∨ am_tag u = 1 then none else some (n, L, v :: u :: v :: u :: S, μ)
  | _ => none
def am_spop (n : Nat) (L : am_L) (S : List am_V) (μ : am_M) : am_O := match S with
  | v :: S => if am_tag v = 1 then none else some (n, L, S, μ)
  | _ => none
/-- what a field holds -/
def am_fget (ft : List (List Nat)) (σ : Nat → Nat → Int) (k ci j : Nat) (rs : List Nat) : Option am_V := match am_ft ft ci j with
  | 0 => some (vI (σ k j))
  | 1 => some (vI (σ k j))
  | 2 => some (vI (σ k j))
  | 3 => some (vJ (σ k j))
  | _ => match rs[j]? with
    | some (r + 1) => some (vP r)
    | _ => none
def am_sgetf (ft : List (List Nat)) (ci j n : Nat) (L : am_L) (S : List am_V) (μ : am_M) : am_O := match S with
  | .inr (.inr k) :: S => match am_dsc μ k with
    | some (kd, N, rs) => if kd = 4 + ci ∧ j < N then match am_fget ft μ.2.2 k ci j rs with
      | some v => some (n, L, v :: S, μ)
      | none => none
      else none
    | none => none
  | _ => none
def am_sputf (ft : List (List Nat)) (ci j n : Nat) (L : am_L) (S : List am_V) (μ : am_M) : am_O := match S with
  | .inl x :: .inr (.inr k) :: S => match μ.1[k]? with
    | some (kd, N, _) => if kd = 4 + ci ∧ j < N ∧ (am_ft ft ci j = 0 ∨ (am_ft ft ci j = 2 ∧ am_okT 2 x = true)) then some (n, L, S, (μ.1, μ.2.1, am_upd μ.2.2 k j x)) else none
    | none => none
  | .inr (.inl x) :: .inr (.inr k) :: S => match μ.1[k]? with
    | some (kd, N, _) => if kd = 4 + ci ∧ j < N ∧ am_ft ft ci j = 3 then some (n, L, S, (μ.1, μ.2.1, am_upd μ.2.2 k j x)) else none
    | none => none
  | .inr (.inr r) :: .inr (.inr k) :: S => match μ.1[k]? with
    | some (kd, N, rs) => if kd = 4 + ci ∧ j < N ∧ am_ft ft ci j = 4 ∧ rs.length = N then some (n, L, S, (μ.1.set k (kd, N, rs.set j (r + 1)), μ.2.1, μ.2.2)) else none
    | none => none
  | _ => none
def am_sgets (a n : Nat) (L : am_L) (S : List am_V) (μ : am_M) : am_O := match a with
  | 0 => some (n, L, vP 1001 :: S, μ)
  | 1 => some (n, L, vI 1 :: S, μ)
  | _ => none
def am_sald (a n : Nat) (L : am_L) (S : List am_V) (μ : am_M) : am_O := match S with
  | .inl i :: .inr (.inr k) :: S => match am_dsc μ k with
    | some (kd, N, _) => if kd = a ∧ 0 ≤ i ∧ i < (N : Int) then some (n, L, (if a = 3 then vJ (μ.2.2 k i.toNat) else vI (μ.2.2 k i.toNat)) :: S, μ) else none
    | none => none
  | _ => none
def am_sast (a n : Nat) (L : am_L) (S : List am_V) (μ : am_M) : am_O := match S with
  | .inl x :: .inl i :: .inr (.inr k) :: S => match μ.1[k]? with
    | some (kd, N, _) => if kd = a ∧ a < 3 ∧ 0 ≤ i ∧ i < (N : Int) ∧ (a = 0 ∨ am_okT a x = true) then some (n, L, S, (μ.1, μ.2.1, am_upd μ.2.2 k i.toNat x)) else none
    | none => none
  | .inr (.inl x) :: .inl i :: .inr (.inr k) :: S => match μ.1[k]? with
    | some (kd, N, _) => if kd = a ∧ a = 3 ∧ 0 ≤ i ∧ i < (N : Int) then some (n, L, S, (μ.1, μ.2.1, am_upd μ.2.2 k i.toNat x)) else none
    | none => none
  | _ => none
def am_salen (n : Nat) (L : am_L) (S : List am_V) (μ : am_M) : am_O := match S with
  | .inr (.inr k) :: S => match am_dsc μ k with
    | some (kd, N, _) => if kd < 4 ∧ N < 2147483648 then some (n, L, vI N :: S, μ) else none
    | none => none
  | _ => none
def am_snew (ci N n : Nat) (L : am_L) (S : List am_V) (μ : am_M) : am_O :=
  if μ.1.length < 1000 then some (n, L, vP μ.1.length :: S, (μ.1 ++ [(4 + ci, N, List.replicate N 0)], μ.2.1, am_row μ.2.2 μ.1.length (fun _ => 0))) else none
def am_snewa (a n : Nat) (L : am_L) (S : List am_V) (μ : am_M) : am_O := match S with
  | .inl i :: S => if μ.1.length < 1000 ∧ a < 4 ∧ 0 ≤ i ∧ i < 100000 then some (n, L, vP μ.1.length :: S, (μ.1 ++ [(a, i.toNat, [])], μ.2.1, am_row μ.2.2 μ.1.length (fun _ => 0))) else none
  | _ => none
def am_scopy (a n : Nat) (L : am_L) (S : List am_V) (μ : am_M) : am_O := match S with
  | .inl m :: .inl dp :: .inr (.inr k1) :: .inl sp :: .inr (.inr k0) :: S => match μ.1[k0]?, μ.1[k1]? with
    | some (kd0, N0, _), some (kd1, N1, _) => if kd0 = a ∧ kd1 = a ∧ (a = 0 ∨ a = 3) ∧ 0 ≤ m ∧ 0 ≤ dp ∧ 0 ≤ sp ∧ sp + m ≤ (N0 : Int) ∧ dp + m ≤ (N1 : Int) ∧ am_cats S ≤ 8 then some (n, L, S, (μ.1, μ.2.1, am_row μ.2.2 k1 (am_cp (μ.2.2 k0) (μ.2.2 k1) sp.toNat dp.toNat m.toNat))) else none
    | _, _ => none
  | _ => none
def am_smath (a n : Nat) (L : am_L) (S : List am_V) (μ : am_M) : am_O := match a, S with
  | 0, .inl y :: .inl x :: S => if am_cats S ≤ 8 then some (n, L, vI (if x < y then y else x) :: S, μ) else none
  | 1, .inl y :: .inl x :: S => if am_cats S ≤ 8 then some (n, L, vI (if y < x then y else x) :: S, μ) else none
  | 2, .inl x :: S => if am_cats S ≤ 8 then some (n, L, vI (if 0 ≤ x then x else w32 (0 - x)) :: S, μ) else none
  | _, _ => none
def am_soinit (n : Nat) (L : am_L) (S : List am_V) (μ : am_M) : am_O := match S with
  | .inr (.inr _) :: S => if am_cats S ≤ 8 then some (n, L, S, μ) else none
  | _ => none
/-- String.checkIndex -/
def am_schk (n : Nat) (L : am_L) (S : List am_V) (μ : am_M) : am_O := match S with
  | .inl k :: .inl i :: S => if 0 ≤ i ∧ i < k ∧ am_cats S ≤ 8 then some (n, L, S, μ) else none
  | _ => none
/-- one instruction that is no call and no return -/
def am_step (ft : List (List Nat)) (e : am_E) (pc : Nat) (L : am_L) (S : List am_V) (μ : am_M) : am_O := match e with
  | (op, len, a, b, d, c, _, offs) => match op with
    | 0 => am_sload 0 a (pc + len) L S μ
    | 1 => am_sload 1 a (pc + len) L S μ
    | 2 => am_sload 2 a (pc + len) L S μ
    | 3 => am_sstore 0 a (pc + len) L S μ
    | 4 => am_sstore 1 a (pc + len) L S μ
    | 5 => am_sstore 2 a (pc + len) L S μ
    | 6 => some (pc + len, L, vI c :: S, μ)
    | 7 => some (pc + len, L, vJ c :: S, μ)
    | 8 => am_sbin a (pc + len) L S μ
    | 9 => am_sdiv 0 (pc + len) L S μ
    | 10 => am_sdiv 1 (pc + len) L S μ
    | 11 => am_sneg (pc + len) L S μ
    | 12 => am_slbin a (pc + len) L S μ
    | 13 => am_sconv a (pc + len) L S μ
    | 14 => am_slcmp (pc + len) L S μ
    | 15 => am_sinc a c (pc + len) L S μ
    | 16 => am_sif a b (pc + len) L S μ
    | 17 => am_sicmp a b (pc + len) L S μ
    | 18 => some (b, L, S, μ)
    | 19 => am_stsw b c offs L S μ
    | 20 => am_sdup (pc + len) L S μ
    | 21 => am_sdup2 (pc + len) L S μ
    | 22 => am_spop (pc + len) L S μ
    | 23 => am_sgetf ft a b (pc + len) L S μ
    | 24 => am_sputf ft a b (pc + len) L S μ
    | 25 => am_sgets a (pc + len) L S μ
    | 26 => am_sald a (pc + len) L S μ
    | 27 => am_sast a (pc + len) L S μ
    | 28 => am_salen (pc + len) L S μ
    | 31 => am_snew a b (pc + len) L S μ
    | 32 => am_snewa a (pc + len) L S μ
    | 33 => am_scopy a (pc + len) L S μ
    | 34 => am_smath a (pc + len) L S μ
    | 35 => am_schk (pc + len) L S μ
    | 37 => am_soinit (pc + len) L S μ
    | 38 => some (pc + len, L, vP (1002 + a) :: S, μ)
    | _ => none
/-- may this be called so: a receiver of the class told, room on the stack -/
def am_recvOk (c : Int) (d : Nat) (μ : am_M) (vs : List am_V) : Bool :=
  if c = 1 then true else match vs with
  | .inr (.inr k) :: _ => match am_dsc μ k with
    | some (kd, _, _) => decide (kd = 4 + d)
    | none => false
  | _ => false
/-- the answer that a return gives -/
def am_ret (a : Nat) (S : List am_V) : Option (Option am_V) := match a, S with
  | 0, [] => some none
  | 1, [.inl x] => some (some (vI x))
  | 3, [.inl x] => if am_okT 2 x then some (some (vI x)) else none
  | 4, [.inl x] => if am_okT 1 x then some (some (vI x)) else none
  | 5, [.inl x] => if 0 ≤ x ∧ x < 65536 then some (some (vI x)) else none
  | 2, [.inr (.inl x)] => some (some (vJ x))
  | _, _ => none
def am_run (ft : List (List Nat)) (mL : Nat → Nat) (code : Nat → Nat → Option am_E) : Nat → Nat → Nat → am_L → List am_V → am_M → Option (Option am_V × am_M)
  | 0, _, _, _, _, _ => none
  | n + 1, mid, pc, L, S, μ => match code mid pc with
    | none => none
    | some (op, len, a, b, d, c, ks, offs) =>
      if op = 29 then
        if b ≤ S.length ∧ (am_ent0 (S.take b).reverse).length ≤ mL a ∧ am_cats (S.drop b) ≤ 8 ∧ am_recvOk c d μ (S.take b).reverse = true then
          match am_run ft mL code n a 0 (am_ent (mL a) (S.take b).reverse) [] μ with
          | none => none
          | some (r, μ') => am_run ft mL code n mid (pc + len) (am_kill ks L) (r.toList ++ S.drop b) μ'
        else none
      else if op = 30 then
        match am_ret a S with
        | none => none
        | some r => some (r, μ)
      else match am_step ft (op, len, a, b, d, c, ks, offs) pc (am_kill ks L) S μ with
        | none => none
        | some (pc', L', S', μ') => am_run ft mL code n mid pc' L' S' μ'
