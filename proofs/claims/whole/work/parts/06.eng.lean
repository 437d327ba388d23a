/-! THE ENGINE: constants, the machine -/
/-- the class of each method (90: none of ours) -/
def m_ci : List Nat := [0, 0, 0, 0, 0, 0, 0, 1, 1, 1, 1, 1, 1, 1, 1, 1, 1, 1, 1, 1, 1, 1, 1, 1, 2, 2, 2, 2, 2, 2, 2, 2, 2, 2, 3, 3, 3, 3, 3, 3, 3, 3, 3, 3, 3, 3, 4, 4, 4, 4, 4, 4, 4, 4, 4, 4, 4, 4, 4, 4, 4, 4, 5, 5, 5, 5, 5, 6, 6, 6, 6, 6, 6, 6, 6, 6, 7, 7, 7, 7, 7, 7, 7, 7, 7, 7, 7, 7, 7, 8, 8, 8, 8, 8, 8, 8, 8, 8, 8, 8, 8, 8, 8, 8, 9, 9, 9, 9, 9, 9, 9, 9, 9, 9, 9, 9, 9, 9, 9, 9, 9, 9, 9, 60, 60, 60, 60, 10, 10, 10, 10, 10, 10, 10, 10, 10, 10, 10, 10, 10, 10, 10, 10, 10, 10, 10, 10, 10, 10, 10, 10, 10, 10, 10, 10, 10, 10, 10, 10, 10, 10, 10, 10, 10, 10, 10, 10, 10, 10, 11, 11, 11, 11, 11, 11, 11, 11, 11, 11, 11, 11, 11, 11, 11, 11, 11, 11, 11, 11, 11, 11, 11, 11, 11, 11, 11, 11, 11, 11, 11, 11, 11, 11, 11, 11, 11, 11, 11, 11, 11, 11, 11, 11, 11, 11, 11, 11, 11, 11, 11, 11, 11, 11, 11, 11, 11, 11, 11, 11, 11, 11, 11, 11, 11, 11, 11, 11, 11, 11, 11, 11, 11, 11, 11, 11, 11, 11, 11, 11, 11, 11, 11, 11, 11, 11, 11, 11, 11, 11, 11, 11, 11, 11, 11, 11, 11, 11, 11, 11, 11, 11, 11, 11, 11, 11, 11, 11, 11, 11, 11, 11, 11, 11, 11, 11, 11, 11, 11, 61, 61, 61, 61, 61, 90, 90, 90, 90, 90, 90, 90]
def c_rank : List Int32 := [0, 0, 0, 0, 0, 0, 0, 0, 0, 0, 0, 0, 0, 0, 0, 0, 0, 0, 0, 0, 0, 0, 0, 0, 0, 0, 1, 2, 3, 4, 4, 4, 4, 4, 4, 5, 5, 6, 6]
def c_sw : List Int32 := [0, 0, 0, 0, 0, 19, 20, 0, 21, 0, 22, 23, 24, 25, 26, 27, 1, 2, 3, 4, 5, 6, 7, 0, 0, 0, 8, 9, 0, 10, 11, 12, 13, 14, 15, 16, 17, 0, 18]
def c_blots : List Int32 := [0, 7, 56, 448, 3584, 63, 455, 3591, 504, 3640, 4032, 511, 3647, 4039, 4088, 4095]
def c_begins : List Int32 := [0, 1, 5, 11, 15, 16]
def c_let : List (List Int32) := [[], [], [], [], [59], [104, 111, 117, 115, 101], [104, 111, 108, 101], [115, 101, 101, 115], [112, 97, 110, 101], [105, 110], [102, 114, 97, 109, 101], [102, 101, 97, 115, 116], [116, 97, 120], [99, 97, 114, 114, 105, 101, 114, 115], [115, 101, 101, 100], [108, 97, 119], [100, 117, 101], [115, 110, 97, 112], [104, 97, 114, 109], [112, 97, 110, 101, 115], [115, 105, 122, 101], [112, 108, 97, 99, 101], [102, 97, 114], [110, 105, 103, 104, 116], [40], [41], [111, 114], [97, 110, 100], [110, 111, 116], [60], [60, 61], [61], [60, 62], [62, 61], [62], [43], [45], [42], [47]]
def a_nth {α : Type} : List α → Nat → Option α
  | [], _ => none
  | x :: _, 0 => some x
  | _ :: r, i + 1 => a_nth r i
theorem a_nth_eq {α : Type} : ∀ (l : List α) (i : Nat), a_nth l i = l[i]?
  | [], i => by cases i <;> rfl
  | x :: r, 0 => rfl
  | x :: r, i + 1 => by rw [a_nth, a_nth_eq r i]; simp
def a_ge (a b : Nat) : Bool := Nat.ble b a
/-- arrays that are constants: kind, elements -/
def c_arr (n : Nat) : Option (Nat × List Int32) := match Nat.beq n 2001 with
  | true => some (100, c_blots)
  | false => match Nat.beq n 2002 with
    | true => some (100, c_begins)
    | false => match Nat.beq n 2003 with
      | true => some (100, c_sw)
      | false => match a_ge n 4000 with
        | true => (match a_nth c_let (n - 4000) with
          | some l => some (102, l)
          | none => none)
        | false => none
/-- fields of constant objects (Strings: 61) -/
def c_fld (n ci j : Nat) : Option aV := match Nat.beq ci 61 with
  | true => (match a_ge n 3000 with
    | true => (match Nat.ble n 3038 with
      | true => (match j with
        | 0 => some (.inl (.ref (n + 1000)))
        | 1 => some (.inl (.int 0))
        | _ => none)
      | false => none)
    | false => none)
  | false => none
/-- fields of Tokens (60): rank, letters, ordinal -/
def a_tfld (i ci j : Nat) : Option aV := match Nat.beq ci 60 with
  | true => (match j with
    | 0 => some (.inl (.int (c_rank.getD i 0)))
    | 1 => some (.inl (.ref (3000 + i)))
    | 2 => some (.inl (.int (nI i)))
    | _ => none)
  | false => none
def a_gI (s : aS) (a k : Nat) : Int32 := s.1 a k
def a_gL (s : aS) (a k : Nat) : Int64 := s.2.1 a k
def a_gT (s : aS) (a k : Nat) : Option Nat := s.2.2 a k
def a_up {α : Type} (f : Nat → Nat → α) (a k : Nat) (v : α) : Nat → Nat → α := fun x y => if x = a ∧ y = k then v else f x y
def a_sI (s : aS) (a k : Nat) (v : Int32) : aS := (a_up s.1 a k v, s.2.1, s.2.2)
def a_sL (s : aS) (a k : Nat) (v : Int64) : aS := (s.1, a_up s.2.1 a k v, s.2.2)
def a_sT (s : aS) (a k : Nat) (v : Option Nat) : aS := (s.1, s.2.1, a_up s.2.2 a k v)
/-- a copy of n places of row b (from sp) into row a (from dp) -/
def a_cp {α : Type} (f : Nat → Nat → α) (b sp a dp n : Nat) : Nat → Nat → α := fun x y => if x = a then va_cpy (f b) (f a) sp dp n y else f x y
def a_cI (s : aS) (b sp a dp n : Nat) : aS := (a_cp s.1 b sp a dp n, s.2.1, s.2.2)
def a_cL (s : aS) (b sp a dp n : Nat) : aS := (s.1, a_cp s.2.1 b sp a dp n, s.2.2)
def a_cat (v : aV) : Nat := match v with
  | .inl x => x.category
  | .inr _ => 1
def a_get : aL → Nat → Option aV
  | [], _ => none
  | o :: _, 0 => o
  | _ :: r, i + 1 => a_get r i
def a_wide (o : Option aV) : Bool := match o with
  | some (.inl (.long _)) => true
  | some (.inl (.double _)) => true
  | _ => false
def a_put : aL → Nat → aV → aL
  | [], _, _ => []
  | _ :: r, 0, v => some v :: r
  | o :: r, 1, v => (match a_wide o with | true => none | false => o) :: a_put r 0 v
  | o :: r, i + 2, v => o :: a_put r (i + 1) v
def a_put2 : aL → Nat → aV → aL
  | [], _, _ => []
  | _ :: r, 0, v => some v :: (match r with | [] => [] | _ :: r2 => none :: r2)
  | o :: r, 1, v => (match a_wide o with | true => none | false => o) :: a_put2 r 0 v
  | o :: r, i + 2, v => o :: a_put2 r (i + 1) v
def a_in (i : Int32) (n : Nat) : Bool := !(decide (i < 0)) && Nat.blt i.toNatClampNeg n
def a_zok (x : Int32) : Bool := decide (x = 0) || decide (x = 1)
def a_rty (kd : Nat) : FieldType := match kd with
  | 4 => .boolean
  | 5 => .char
  | 6 => .byte
  | _ => .int
def a_rok (kd : Nat) (x : Int32) : Bool := match kd with
  | 0 => false
  | 1 => true
  | 2 => false
  | 3 => false
  | _ => decide (narrow (a_rty kd) (Value.int x) = Value.int x)
def a_rf (b : Nat) : aV := match Nat.beq b 9999 with
  | true => .inr none
  | false => .inl (.ref b)
def a_ty (ci j : Nat) : Nat := match a_nth a_FT ci with
  | none => 9
  | some l => (match a_nth l j with
    | none => 9
    | some t => t)
def a_fv (s : aS) (rl : List Nat) (a ci j : Nat) : Option aV := match a_ty ci j with
  | 0 => some (.inl (.int (a_gI s a j)))
  | 1 => some (.inl (.long (a_gL s a j)))
  | 2 => (match a_nth rl j with
    | some b => some (a_rf b)
    | none => none)
  | 3 => some (.inr (a_gT s a j))
  | 4 => some (.inl (.int (a_gI s a j)))
  | _ => none
def a_fget (k : aK) (s : aS) (v : aV) (ci j : Nat) : Option (Bool × aV) := match v with
  | .inl (.ref a) => (match Nat.blt a 1000 with
    | true => (match a_nth k a with
      | some q => (match Nat.beq q.1 ci with
        | true => (match a_fv s q.2.2 a ci j with
          | some w => some (true, w)
          | none => none)
        | false => none)
      | none => none)
    | false => (match c_fld a ci j with
      | some w => some (true, w)
      | none => none))
  | .inr (some i) => (match a_tfld i ci j with
    | some w => some (Nat.blt i 39, w)
    | none => none)
  | _ => none
/-- an int out of an array of a kind: the guard, the value -/
def a_ald (k : aK) (s : aS) (tag a : Nat) (i : Int32) : Option (Bool × Int32) := match Nat.blt a 1000 with
  | true => (match a_nth k a with
    | some q => (match Nat.beq q.1 tag with
      | true => some (a_in i q.2.1, a_gI s a i.toNatClampNeg)
      | false => none)
    | none => none)
  | false => (match c_arr a with
    | some q => (match Nat.beq q.1 tag with
      | true => some (a_in i q.2.length, q.2.getD i.toNatClampNeg 0)
      | false => none)
    | none => none)
/-- the length of an array -/
def a_len (k : aK) (a : Nat) : Option Nat := match Nat.blt a 1000 with
  | true => (match a_nth k a with
    | some q => (match a_ge q.1 100 && Nat.ble q.1 105 with
      | true => some q.2.1
      | false => none)
    | none => none)
  | false => (match Nat.beq a 2000 with
    | true => some 39
    | false => (match c_arr a with
      | some q => some q.2.length
      | none => none))
/-- the class of a receiver -/
def a_cls (k : aK) (v : aV) : Option Nat := match v with
  | .inl (.ref a) => (match Nat.blt a 1000 with
    | true => (match a_nth k a with
      | some q => some q.1
      | none => none)
    | false => (match a_ge a 3000 with
      | true => (match Nat.ble a 3038 with
        | true => some 61
        | false => none)
      | false => none))
  | .inr (some _) => some 60
  | _ => none
def a_take : Nat → List aV → List aV → Option (List aV × List aV)
  | 0, acc, st => some (acc, st)
  | n + 1, acc, v :: st => a_take n (v :: acc) st
  | _ + 1, _, [] => none
def a_room (st : List aV) : Bool := Nat.ble ((st.map a_cat).sum) 8
def a_find : List (Nat × aO) → Nat → Option aO
  | [], _ => none
  | q :: r, pc => match Nat.beq q.1 pc with
    | true => some q.2
    | false => a_find r pc
def a_nx (m : aM) (pc : Nat) (ls : aL) (st : List aV) (k : aK) (s : aS) : Option (Bool × aR) := some (true, .inl ((m, pc, ls, st), k, s))
def a_pI (st : List aV) (f : Int32 → List aV → Option (Bool × aR)) : Option (Bool × aR) := match st with
  | .inl (.int x) :: r => f x r
  | _ => none
def a_pL (st : List aV) (f : Int64 → List aV → Option (Bool × aR)) : Option (Bool × aR) := match st with
  | .inl (.long x) :: r => f x r
  | _ => none
def a_pR (st : List aV) (f : Nat → List aV → Option (Bool × aR)) : Option (Bool × aR) := match st with
  | .inl (.ref x) :: r => f x r
  | _ => none
def a_pT (st : List aV) (f : Option Nat → List aV → Option (Bool × aR)) : Option (Bool × aR) := match st with
  | .inr x :: r => f x r
  | _ => none
def a_pV (st : List aV) (f : aV → List aV → Option (Bool × aR)) : Option (Bool × aR) := match st with
  | x :: r => f x r
  | _ => none
def a_lI (ls : aL) (i : Nat) (f : Int32 → Option (Bool × aR)) : Option (Bool × aR) := match a_get ls i with
  | some (.inl (.int x)) => f x
  | _ => none
def a_lL (ls : aL) (i : Nat) (f : Int64 → Option (Bool × aR)) : Option (Bool × aR) := match a_get ls i with
  | some (.inl (.long x)) => f x
  | _ => none
/-- a reference (a cell, or a Token or null) -/
def a_isA (v : aV) : Bool := match v with
  | .inl (.ref _) => true
  | .inr _ => true
  | _ => false
def a_lA (ls : aL) (i : Nat) (f : aV → Option (Bool × aR)) : Option (Bool × aR) := match a_get ls i with
  | some v => (match a_isA v with
    | true => f v
    | false => none)
  | none => none
def a_tgt (pc : Nat) (off : Int) : Nat := ((pc : Int) + off).toNat
def a_swT (pc : Nat) (lo : Int) (d : Nat) (x : Int32) : List Int → Nat
  | [] => d
  | off :: r => if x = Int32.ofInt lo then a_tgt pc off else a_swT pc (lo + 1) d x r
def a_op2 (m : aM) (pc : Nat) (ls : aL) (st : List aV) (k : aK) (s : aS) (f : Int32 → Int32 → Int32) : Option (Bool × aR) := a_pI st fun y r => a_pI r fun x r => a_nx m (pc + 1) ls (.inl (.int (f x y)) :: r) k s
def a_opL2 (m : aM) (pc : Nat) (ls : aL) (st : List aV) (k : aK) (s : aS) (f : Int64 → Int64 → Int64) : Option (Bool × aR) := a_pL st fun y r => a_pL r fun x r => a_nx m (pc + 1) ls (.inl (.long (f x y)) :: r) k s
def a_put_fld (al : Bool) (o : aO) (m : aM) (pc : Nat) (ls : aL) (st : List aV) (k : aK) (s : aS) : Option (Bool × aR) := match a_ty o.2.2.1 o.2.2.2.1 with
  | 0 => a_pI st fun x r => a_pR r fun a r => (match a_nth k a with
    | some q => (match Nat.beq q.1 o.2.2.1 with
      | true => a_nx m (pc + 3) ls r k (a_sI s a o.2.2.2.1 x)
      | false => none)
    | none => none)
  | 4 => a_pI st fun x r => a_pR r fun a r => (match a_nth k a with
    | some q => (match Nat.beq q.1 o.2.2.1 with
      | true => some (a_zok x, .inl ((m, pc + 3, ls, r), k, a_sI s a o.2.2.2.1 x))
      | false => none)
    | none => none)
  | 1 => a_pL st fun x r => a_pR r fun a r => (match a_nth k a with
    | some q => (match Nat.beq q.1 o.2.2.1 with
      | true => a_nx m (pc + 3) ls r k (a_sL s a o.2.2.2.1 x)
      | false => none)
    | none => none)
  | 3 => a_pT st fun x r => a_pR r fun a r => (match a_nth k a with
    | some q => (match Nat.beq q.1 o.2.2.1 with
      | true => a_nx m (pc + 3) ls r k (a_sT s a o.2.2.2.1 x)
      | false => none)
    | none => none)
  | 2 => (match al with
    | true => a_pR st fun x r => a_pR r fun a r => (match a_nth k a with
      | some q => (match Nat.beq q.1 o.2.2.1 && Nat.blt x 1000 with
        | true => a_nx m (pc + 3) ls r (k.set a (q.1, q.2.1, q.2.2.set o.2.2.2.1 x)) s
        | false => none)
      | none => none)
    | false => none)
  | _ => none
/-- a store of an int into an array of a kind -/
def a_ast (tag : Nat) (nar : Int32 → Int32) (m : aM) (pc : Nat) (ls : aL) (st : List aV) (k : aK) (s : aS) : Option (Bool × aR) := a_pI st fun x r => a_pI r fun i r => a_pR r fun a r => (match Nat.blt a 1000 with
  | true => (match a_nth k a with
    | some q => (match Nat.beq q.1 tag with
      | true => some (a_in i q.2.1, .inl ((m, pc + 1, ls, r), k, a_sI s a i.toNatClampNeg (nar x)))
      | false => none)
    | none => none)
  | false => none)
def a_new (al : Bool) (m : aM) (pc : Nat) (ls : aL) (st : List aV) (k : aK) (s : aS) (t n : Nat) (rl : List Nat) : Option (Bool × aR) := match al with
  | true => some (Nat.blt k.length 1000, .inl ((m, pc, ls, .inl (.ref k.length) :: st), k ++ [(t, n, rl)], s))
  | false => none
def a_atag (t : ArrayType) : Nat := match t with
  | .int => 100
  | .long => 101
  | .byte => 102
  | .boolean => 103
  | _ => 99
def a_clsN (ci : Nat) : Nat := match a_nth a_FT ci with
  | none => 0
  | some l => l.length
def a_call (o : aO) (m : aM) (pc : Nat) (ls : aL) (args rest : List aV) : Option (Bool × aR) := some (a_room rest, .inr (.inl (o.2.2.1, args, (m, pc + 3, ls, rest))))
/-- a Token that there is -/
def a_tki (v : aV) : Bool := match v with
  | .inr (some i) => Nat.blt i 39
  | _ => true
def a_virt (o : aO) (m : aM) (pc : Nat) (ls : aL) (st : List aV) (k : aK) (s : aS) : Option (Bool × aR) := match a_take o.2.2.2.1 [] st with
  | none => none
  | some q => (match q.2 with
    | [] => none
    | v :: r => (match Nat.beq o.2.2.1 9002 with
      | true => (match v with
        | .inr (some i) => some ((match a_room r with | true => Nat.blt i 39 | false => false), .inl ((m, pc + 3, ls, .inl (.int (nI i)) :: r), k, s))
        | _ => none)
      | false => (match a_cls k v with
        | some c => (match a_nth m_ci o.2.2.1 with
          | some z => (match Nat.beq c z with
            | true => some ((match a_room r with | true => a_tki v | false => false), .inr (.inl (o.2.2.1, v :: q.1, (m, pc + 3, ls, r))))
            | false => none)
          | none => none)
        | none => none)))
def a_spec (o : aO) (m : aM) (pc : Nat) (ls : aL) (st : List aV) (k : aK) (s : aS) : Option (Bool × aR) := match a_take o.2.2.2.1 [] st with
  | none => none
  | some q => (match q.2 with
    | .inl (.ref a) :: r => (match Nat.beq o.2.2.1 9000 with
      | true => some (a_room r, .inl ((m, pc + 3, ls, r), k, s))
      | false => a_call o m pc ls (.inl (.ref a) :: q.1) r)
    | _ => none)
def a_copy (al : Bool) (m : aM) (pc : Nat) (ls : aL) (st : List aV) (k : aK) (s : aS) : Option (Bool × aR) := a_pI st fun n r => a_pI r fun dp r => a_pR r fun a r => a_pI r fun sp r => a_pR r fun b r => (match a_nth k a with
  | some q => (match a_nth k b with
    | some p => (match Nat.beq q.1 p.1 && !al with
      | true => (match Nat.beq q.1 100 with
        | true => some (a_room r && (!(decide (sp < 0)) && (!(decide (dp < 0)) && (!(decide (n < 0)) && (Nat.ble (sp.toNatClampNeg + n.toNatClampNeg) p.2.1 && Nat.ble (dp.toNatClampNeg + n.toNatClampNeg) q.2.1)))), .inl ((m, pc + 3, ls, r), k, a_cI s b sp.toNatClampNeg a dp.toNatClampNeg n.toNatClampNeg))
        | false => (match Nat.beq q.1 101 with
          | true => some (a_room r && (!(decide (sp < 0)) && (!(decide (dp < 0)) && (!(decide (n < 0)) && (Nat.ble (sp.toNatClampNeg + n.toNatClampNeg) p.2.1 && Nat.ble (dp.toNatClampNeg + n.toNatClampNeg) q.2.1)))), .inl ((m, pc + 3, ls, r), k, a_cL s b sp.toNatClampNeg a dp.toNatClampNeg n.toNatClampNeg))
          | false => none))
      | false => none)
    | none => none)
  | none => none)
/-- max, min, abs; max and min of longs -/
def a_math (n : Nat) (m : aM) (pc : Nat) (ls : aL) (st : List aV) (k : aK) (s : aS) : Option (Bool × aR) := match n with
  | 0 => a_pI st fun y r => a_pI r fun x r => some (a_room r, .inl ((m, pc + 3, ls, .inl (.int (if x < y then y else x)) :: r), k, s))
  | 1 => a_pI st fun y r => a_pI r fun x r => some (a_room r, .inl ((m, pc + 3, ls, .inl (.int (if y < x then y else x)) :: r), k, s))
  | 2 => a_pI st fun x r => some (a_room r, .inl ((m, pc + 3, ls, .inl (.int (if 0 ≤ x then x else 0 - x)) :: r), k, s))
  | 3 => a_pL st fun y r => a_pL r fun x r => some (a_room r, .inl ((m, pc + 3, ls, .inl (.long (if y < x then x else y)) :: r), k, s))
  | 4 => a_pL st fun y r => a_pL r fun x r => some (a_room r, .inl ((m, pc + 3, ls, .inl (.long (if y < x then y else x)) :: r), k, s))
  | _ => none
def a_stat (al : Bool) (o : aO) (m : aM) (pc : Nat) (ls : aL) (st : List aV) (k : aK) (s : aS) : Option (Bool × aR) := match Nat.beq o.2.2.1 9001 with
  | true => a_copy al m pc ls st k s
  | false => (match a_ge o.2.2.1 9010 && Nat.blt o.2.2.1 9999 with
    | true => a_math (o.2.2.1 - 9010) m pc ls st k s
    | false => (match a_take o.2.2.2.1 [] st with
      | none => none
      | some q => a_call o m pc ls q.1 q.2))
def a_gst (o : aO) : Option aV := match o.2.2.1 with
  | 0 => some (.inr (some o.2.2.2.1))
  | 1 => some (.inl (.ref o.2.2.2.1))
  | 2 => some (.inl (.int (nI o.2.2.2.1)))
  | 3 => some (.inl (.retAddr 0))
  | _ => none
/-- a reference out of an array: of Tokens (104, and the constant one), of rows (105) -/
def a_aald (m : aM) (pc : Nat) (ls : aL) (st : List aV) (k : aK) (s : aS) : Option (Bool × aR) := a_pI st fun i r => a_pR r fun a r => (match Nat.blt a 1000 with
  | true => (match a_nth k a with
    | some q => (match Nat.beq q.1 104 with
      | true => some (a_in i q.2.1, .inl ((m, pc + 1, ls, .inr (a_gT s a i.toNatClampNeg) :: r), k, s))
      | false => (match Nat.beq q.1 105 with
        | true => some (Nat.beq q.2.2.length q.2.1 && a_in i q.2.2.length, .inl ((m, pc + 1, ls, .inl (.ref (q.2.2.getD i.toNatClampNeg 9999)) :: r), k, s))
        | false => none))
    | none => none)
  | false => (match Nat.beq a 2000 with
    | true => some (a_in i 39, .inl ((m, pc + 1, ls, .inr (some i.toNatClampNeg) :: r), k, s))
    | false => none))
def a_tk (t : Option Nat) : Bool := match t with
  | none => true
  | some i => Nat.blt i 39
def a_aast (al : Bool) (m : aM) (pc : Nat) (ls : aL) (st : List aV) (k : aK) (s : aS) : Option (Bool × aR) := a_pT st fun t r => a_pI r fun i r => a_pR r fun a r => (match a_nth k a with
  | some q => (match Nat.beq q.1 104 && !al with
    | true => some (a_in i q.2.1 && a_tk t, .inl ((m, pc + 1, ls, r), k, a_sT s a i.toNatClampNeg t))
    | false => none)
  | none => none)
def a_bst (m : aM) (pc : Nat) (ls : aL) (st : List aV) (k : aK) (s : aS) : Option (Bool × aR) := a_pI st fun x r => a_pI r fun i r => a_pR r fun a r => (match a_nth k a with
    | some q => (match Nat.beq q.1 102 with
      | true => a_ast 102 (vp_nar .byte) m pc ls st k s
      | false => a_ast 103 (vp_nar .boolean) m pc ls st k s)
    | none => none)
def a_bld (m : aM) (pc : Nat) (ls : aL) (st : List aV) (k : aK) (s : aS) : Option (Bool × aR) := a_pI st fun i r => a_pR r fun a r => (match a_ald k s 102 a i with
  | some q => some (q.1, .inl ((m, pc + 1, ls, .inl (.int q.2) :: r), k, s))
  | none => (match a_ald k s 103 a i with
    | some q => some (q.1, .inl ((m, pc + 1, ls, .inl (.int q.2) :: r), k, s))
    | none => none))
def a_lst (s : aS) (a : Nat) (i : Int32) (x : Int64) : aS := a_sL s a i.toNatClampNeg x
def a_ex (al : Bool) (o : aO) (m : aM) (pc : Nat) (ls : aL) (st : List aV) (k : aK) (s : aS) : Option (Bool × aR) :=
  match o.1 with
  | .iconst n => a_nx m (pc + 1) ls (.inl (.int (Int32.ofInt n)) :: st) k s
  | .bipush n => a_nx m (pc + 2) ls (.inl (.int (Int8.ofInt n).toInt32) :: st) k s
  | .sipush n => a_nx m (pc + 3) ls (.inl (.int (Int16.ofInt n).toInt32) :: st) k s
  | .lconst n => a_nx m (pc + 1) ls (.inl (.long (Int64.ofNat (n : Nat))) :: st) k s
  | .ldc _ => a_nx m (pc + 2) ls (.inl (.int (Int32.ofNat o.2.2.1)) :: st) k s
  | .ldc_w _ => a_nx m (pc + 3) ls (.inl (.int (Int32.ofNat o.2.2.1)) :: st) k s
  | .ldc2_w _ => a_nx m (pc + 3) ls (.inl (.long (Int64.ofNat o.2.2.1)) :: st) k s
  | .iload_n n => a_lI ls n fun x => a_nx m (pc + 1) ls (.inl (.int x) :: st) k s
  | .iload n => a_lI ls n fun x => a_nx m (pc + 2) ls (.inl (.int x) :: st) k s
  | .lload_n n => a_lL ls n fun x => a_nx m (pc + 1) ls (.inl (.long x) :: st) k s
  | .lload n => a_lL ls n fun x => a_nx m (pc + 2) ls (.inl (.long x) :: st) k s
  | .aload_n n => a_lA ls n fun x => a_nx m (pc + 1) ls (x :: st) k s
  | .aload n => a_lA ls n fun x => a_nx m (pc + 2) ls (x :: st) k s
  | .istore_n n => a_pI st fun x r => a_nx m (pc + 1) (a_put ls n (.inl (.int x))) r k s
  | .istore n => a_pI st fun x r => a_nx m (pc + 2) (a_put ls n (.inl (.int x))) r k s
  | .lstore_n n => a_pL st fun x r => a_nx m (pc + 1) (a_put2 ls n (.inl (.long x))) r k s
  | .lstore n => a_pL st fun x r => a_nx m (pc + 2) (a_put2 ls n (.inl (.long x))) r k s
  | .astore_n n => a_pV st fun x r => (match a_isA x with
    | true => a_nx m (pc + 1) (a_put ls n x) r k s
    | false => none)
  | .astore n => a_pV st fun x r => (match a_isA x with
    | true => a_nx m (pc + 2) (a_put ls n x) r k s
    | false => none)
  | .iinc i n => a_lI ls i fun x => a_nx m (pc + 3) (a_put ls i (.inl (.int (x + Int32.ofInt n)))) st k s
  | .iadd => a_op2 m pc ls st k s (fun x y => x + y)
  | .isub => a_op2 m pc ls st k s (fun x y => x - y)
  | .imul => a_op2 m pc ls st k s (fun x y => x * y)
  | .iand => a_op2 m pc ls st k s (fun x y => x &&& y)
  | .ior => a_op2 m pc ls st k s (fun x y => x ||| y)
  | .ixor => a_op2 m pc ls st k s (fun x y => x ^^^ y)
  | .ishl => a_op2 m pc ls st k s (fun x y => x <<< (y &&& 31))
  | .ishr => a_op2 m pc ls st k s (fun x y => x >>> (y &&& 31))
  | .iushr => a_op2 m pc ls st k s (fun x y => (x.toUInt32 >>> (y.toUInt32 &&& Int32.toUInt32 31)).toInt32)
  | .idiv => a_pI st fun y r => a_pI r fun x r => some (!(decide (y = 0)), .inl ((m, pc + 1, ls, .inl (.int (x / y)) :: r), k, s))
  | .irem => a_pI st fun y r => a_pI r fun x r => some (!(decide (y = 0)), .inl ((m, pc + 1, ls, .inl (.int (x - x / y * y)) :: r), k, s))
  | .ineg => a_pI st fun x r => a_nx m (pc + 1) ls (.inl (.int (-x)) :: r) k s
  | .ladd => a_opL2 m pc ls st k s (fun x y => x + y)
  | .lsub => a_opL2 m pc ls st k s (fun x y => x - y)
  | .lmul => a_opL2 m pc ls st k s (fun x y => x * y)
  | .land => a_opL2 m pc ls st k s (fun x y => x &&& y)
  | .lor => a_opL2 m pc ls st k s (fun x y => x ||| y)
  | .ldiv => a_pL st fun y r => a_pL r fun x r => some (!(decide (y = 0)), .inl ((m, pc + 1, ls, .inl (.long (x / y)) :: r), k, s))
  | .lrem => a_pL st fun y r => a_pL r fun x r => some (!(decide (y = 0)), .inl ((m, pc + 1, ls, .inl (.long (x - x / y * y)) :: r), k, s))
  | .lneg => a_pL st fun x r => a_nx m (pc + 1) ls (.inl (.long (-x)) :: r) k s
  | .lshl => a_pI st fun y r => a_pL r fun x r => a_nx m (pc + 1) ls (.inl (.long (x <<< (y.toInt64 &&& 63))) :: r) k s
  | .lshr => a_pI st fun y r => a_pL r fun x r => a_nx m (pc + 1) ls (.inl (.long (x >>> (y.toInt64 &&& 63))) :: r) k s
  | .lushr => a_pI st fun y r => a_pL r fun x r => a_nx m (pc + 1) ls (.inl (.long ((x.toUInt64 >>> (y.toInt64.toUInt64 &&& Int64.toUInt64 63)).toInt64)) :: r) k s
  | .lcmp => a_pL st fun y r => a_pL r fun x r => a_nx m (pc + 1) ls (.inl (.int (lg_cmp x y)) :: r) k s
  | .i2l => a_pI st fun x r => a_nx m (pc + 1) ls (.inl (.long x.toInt64) :: r) k s
  | .l2i => a_pL st fun x r => a_nx m (pc + 1) ls (.inl (.int x.toInt32) :: r) k s
  | .i2b => a_pI st fun x r => a_nx m (pc + 1) ls (.inl (.int x.toInt8.toInt32) :: r) k s
  | .i2c => a_pI st fun x r => a_nx m (pc + 1) ls (.inl (.int (x.toUInt32 % 65536).toInt32) :: r) k s
  | .dup => a_pV st fun v r => (match Nat.beq (a_cat v) 1 with
    | true => a_nx m (pc + 1) ls (v :: v :: r) k s
    | false => none)
  | .pop => a_pV st fun v r => (match Nat.beq (a_cat v) 1 with
    | true => a_nx m (pc + 1) ls r k s
    | false => none)
  | .dup2 => a_pV st fun v r => (match Nat.beq (a_cat v) 2 with
    | true => a_nx m (pc + 1) ls (v :: v :: r) k s
    | false => a_pV r fun w r => (match Nat.beq (a_cat v) 1 && Nat.beq (a_cat w) 1 with
      | true => a_nx m (pc + 1) ls (v :: w :: v :: w :: r) k s
      | false => none))
  | .goto off => a_nx m (a_tgt pc off) ls st k s
  | .ifCond c off => a_pI st fun x r => (match c with
    | .eq => a_nx m (if x = 0 then a_tgt pc off else pc + 3) ls r k s
    | .ne => a_nx m (if x = 0 then pc + 3 else a_tgt pc off) ls r k s
    | .lt => a_nx m (if x < 0 then a_tgt pc off else pc + 3) ls r k s
    | .ge => a_nx m (if x < 0 then pc + 3 else a_tgt pc off) ls r k s
    | .gt => a_nx m (if 0 < x then a_tgt pc off else pc + 3) ls r k s
    | .le => a_nx m (if 0 < x then pc + 3 else a_tgt pc off) ls r k s)
  | .if_icmp c off => a_pI st fun y r => a_pI r fun x r => (match c with
    | .eq => a_nx m (if x = y then a_tgt pc off else pc + 3) ls r k s
    | .ne => a_nx m (if x = y then pc + 3 else a_tgt pc off) ls r k s
    | .lt => a_nx m (if x < y then a_tgt pc off else pc + 3) ls r k s
    | .ge => a_nx m (if x < y then pc + 3 else a_tgt pc off) ls r k s
    | .gt => a_nx m (if y < x then a_tgt pc off else pc + 3) ls r k s
    | .le => a_nx m (if y < x then pc + 3 else a_tgt pc off) ls r k s)
  | .if_acmp c off => a_pT st fun y r => a_pT r fun x r => (match c with
    | .eq => a_nx m (if x = y then a_tgt pc off else pc + 3) ls r k s
    | .ne => a_nx m (if x = y then pc + 3 else a_tgt pc off) ls r k s)
  | .ifnull off => a_pT st fun x r => a_nx m (if x = none then a_tgt pc off else pc + 3) ls r k s
  | .ifnonnull off => a_pT st fun x r => a_nx m (if x = none then pc + 3 else a_tgt pc off) ls r k s
  | .tableswitch d lo _ offs => a_pI st fun x r => a_nx m (a_swT pc lo (a_tgt pc d) x offs.toList) ls r k s
  | .getfield _ => a_pV st fun v r => (match a_fget k s v o.2.2.1 o.2.2.2.1 with
    | some w => some (w.1, .inl ((m, pc + 3, ls, w.2 :: r), k, s))
    | none => none)
  | .putfield _ => a_put_fld al o m pc ls st k s
  | .getstatic _ => (match a_gst o with
    | some v => a_nx m (pc + 3) ls (v :: st) k s
    | none => none)
  | .iaload => a_pI st fun i r => a_pR r fun a r => (match a_ald k s 100 a i with
    | some q => some (q.1, .inl ((m, pc + 1, ls, .inl (.int q.2) :: r), k, s))
    | none => none)
  | .baload => a_bld m pc ls st k s
  | .laload => a_pI st fun i r => a_pR r fun a r => (match a_nth k a with
    | some q => (match Nat.beq q.1 101 with
      | true => some (a_in i q.2.1, .inl ((m, pc + 1, ls, .inl (.long (a_gL s a i.toNatClampNeg)) :: r), k, s))
      | false => none)
    | none => none)
  | .aaload => a_aald m pc ls st k s
  | .iastore => a_ast 100 (fun x => x) m pc ls st k s
  | .bastore => a_bst m pc ls st k s
  | .lastore => a_pL st fun x r => a_pI r fun i r => a_pR r fun a r => (match a_nth k a with
    | some q => (match Nat.beq q.1 101 with
      | true => some (a_in i q.2.1, .inl ((m, pc + 1, ls, r), k, a_lst s a i x))
      | false => none)
    | none => none)
  | .aastore => a_aast al m pc ls st k s
  | .arraylength => a_pR st fun a r => (match a_len k a with
    | some n => a_nx m (pc + 1) ls (.inl (.int (nI n)) :: r) k s
    | none => none)
  | .new _ => a_new al m (pc + 3) ls st k s o.2.2.1 (a_clsN o.2.2.1) (List.replicate (a_clsN o.2.2.1) 9999)
  | .newarray t => a_pI st fun n r => (match decide (n < 0) || Nat.ble 100000 n.toNatClampNeg with
    | false => a_new al m (pc + 2) ls r k s (a_atag t) n.toNatClampNeg []
    | true => none)
  | .anewarray _ => a_pI st fun n r => (match decide (n < 0) || Nat.ble 100000 n.toNatClampNeg with
    | false => a_new al m (pc + 3) ls r k s 104 n.toNatClampNeg []
    | true => none)
  | .multianewarray _ _ => a_pI st fun b r => a_pI r fun a r => (match al with
    | true => (match decide (a < 0) || (decide (b < 0) || (Nat.ble 100000 a.toNatClampNeg || Nat.ble 100000 b.toNatClampNeg)) with
      | false => some (Nat.blt (k.length + 1 + a.toNatClampNeg) 1000, .inl ((m, pc + 4, ls, .inl (.ref k.length) :: r), (k ++ [(105, a.toNatClampNeg, (List.range a.toNatClampNeg).map (fun j => k.length + 1 + j))]) ++ List.replicate a.toNatClampNeg (100, b.toNatClampNeg, []), s))
      | true => none)
    | false => none)
  | .invokevirtual _ => a_virt o m pc ls st k s
  | .invokespecial _ => a_spec o m pc ls st k s
  | .invokestatic _ => a_stat al o m pc ls st k s
  | .ireturn => a_pI st fun x r => (match r with
    | [] => some (a_rok m.2.1 x, .inr (.inr (some (.inl (.int x)))))
    | _ => none)
  | .lreturn => a_pL st fun x r => (match r with
    | [] => some (Nat.beq m.2.1 2, .inr (.inr (some (.inl (.long x)))))
    | _ => none)
  | .areturn => a_pT st fun x r => (match r with
    | [] => some (Nat.beq m.2.1 3, .inr (.inr (some (.inr x))))
    | _ => none)
  | .return_ => (match st with
    | [] => some (Nat.beq m.2.1 0, .inr (.inr none))
    | _ => none)
  | _ => none
/-- which locals an instruction keeps (bits; 0: all) -/
def a_mskL : Nat → aL → aL
  | _, [] => []
  | c, o :: r => (match Nat.beq (c % 2) 0 with | true => none | false => o) :: a_mskL (c / 2) r
def a_msk (c : Nat) (ls : aL) : aL := match Nat.beq c 0 with
  | true => ls
  | false => a_mskL c ls
def aStep (al : Bool) (F : aF) (k : aK) (s : aS) : Option (Bool × aR) := match a_find F.1.2.2.2 F.2.1 with
  | some o => a_ex al o F.1 F.2.1 (a_msk (o.2.1 / 256) F.2.2.1) F.2.2.2 k s
  | none => none
/-- a method's first locals -/
def a_args : List aV → aL
  | [] => []
  | v :: r => match Nat.beq (a_cat v) 2 with
    | true => some v :: none :: a_args r
    | false => some v :: a_args r
def a_pad (ls : aL) (n : Nat) : aL := ls ++ List.replicate (n - ls.length) none
def a_ent (m : aM) (args : List aV) : aF := (m, 0, a_pad (a_args args) m.2.2.1, [])
def a_push (v : Option aV) (F : aF) : aF := match v with
  | some x => (F.1, F.2.1, F.2.2.1, x :: F.2.2.2)
  | none => F
def aRun (al : Bool) : Nat → aF → aK → aS → Option (Option aV × aK × aS)
  | 0, _, _, _ => none
  | n + 1, F, k, s => match aStep al F k s with
    | none => none
    | some (false, _) => none
    | some (true, .inl q) => aRun al n q.1 q.2.1 q.2.2
    | some (true, .inr (.inl q)) => (match a_nth pgL q.1 with
      | none => none
      | some z => (match Nat.ble (a_args q.2.1).length z.2.2.1 with
        | false => none
        | true => (match aRun al n (a_ent z q.2.1) k s with
          | none => none
          | some r => aRun al n (a_push r.1 q.2.2) r.2.1 r.2.2)))
    | some (true, .inr (.inr v)) => some (v, k, s)
