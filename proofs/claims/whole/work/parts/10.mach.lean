/-! THE ABSTRACT MACHINE (my own): ints and longs are Int, references are addresses, a heap is a function from addresses to cells. -/
abbrev AV : Type := Int ⊕ (Int ⊕ Option Nat)
abbrev aI (i : Int) : AV := Sum.inl i
abbrev aL (i : Int) : AV := Sum.inr (Sum.inl i)
abbrev aQ (r : Option Nat) : AV := Sum.inr (Sum.inr r)
abbrev aR (a : Nat) : AV := Sum.inr (Sum.inr (some a))
abbrev aN : AV := Sum.inr (Sum.inr none)
abbrev AA : Type := (Nat → Int) ⊕ ((Nat → Int) ⊕ (Nat → Option Nat))
abbrev AE : Type := (Nat × Nat × AA) ⊕ (Nat × List AV)
/-- cells, the next address, slots made so far, the address of the empty list's array, the address of Object[]'s class object -/
abbrev AH : Type := (Nat → Option AE) × Nat × Nat × Nat × Nat
abbrev AL : Type := List (Option AV)
abbrev AR : Type := Option AV ⊕ (Nat × Nat)
/-- what an instruction does: goes on; ends (answer, or the class and the address of what is thrown); calls (method, arguments, the pc behind it, the stack below) -/
abbrev Act : Type := Option ((Nat × AL × List AV × AH) ⊕ ((AR × AH) ⊕ (Nat × List AV × Nat × List AV)))
abbrev Nx : Type := Option (Nat × AL × List AV × AH)
abbrev inR (x : Int) : Prop := -2147483648 ≤ x ∧ x < 2147483648
abbrev inL (x : Int) : Prop := -9223372036854775808 ≤ x ∧ x < 9223372036854775808
def nx (pc : Nat) (L : AL) (st : List AV) (h : AH) : Nx := some (pc, L, st, h)
def wrp (x : Nx) : Act := match x with
  | some y => some (.inl y)
  | none => none
def fin (r : AR) (h : AH) : Act := some (.inr (.inl (r, h)))
/-- one cell of the heap changed -/
def up {α : Type} (f : Nat → α) (k : Nat) (x : α) : Nat → α := fun j => if j = k then x else f j
def hput (h : AH) (a : Nat) (e : AE) : AH := (up h.1 a (some e), h.2)
def hnew (h : AH) (e : AE) (k : Nat) : AH := (up h.1 h.2.1 (some e), h.2.1 + 1, h.2.2.1 + k, h.2.2.2)
def lng (v : Option (Option AV)) : Bool := match v with
  | some (some (.inr (.inl _))) => true
  | _ => false
def sto (L : AL) (k : Nat) (v : AV) : Option AL :=
  if k < L.length then (match k with
    | 0 => some (L.set 0 (some v))
    | j + 1 => if lng L[j]? then none else some (L.set (j + 1) (some v))) else none
def stoL (L : AL) (k : Nat) (v : AV) : Option AL :=
  if k + 1 < L.length then (match k with
    | 0 => some ((L.set 0 (some v)).set 1 none)
    | j + 1 => if lng L[j]? then none else some ((L.set (j + 1) (some v)).set (j + 2) none)) else none
def laid : List AV → AL
  | [] => []
  | .inl x :: r => some (.inl x) :: laid r
  | .inr (.inl x) :: r => some (.inr (.inl x)) :: none :: laid r
  | .inr (.inr x) :: r => some (.inr (.inr x)) :: laid r
def cmpI (c : ClassFile.Cond) (x y : Int) : Bool := match c with
  | .eq => decide (x = y)
  | .ne => !decide (x = y)
  | .lt => decide (x < y)
  | .ge => decide (y ≤ x)
  | .gt => decide (y < x)
  | .le => decide (x ≤ y)
def tg (pc : Nat) (off : Int) : Nat := ((pc : Int) + off).toNat
/-- the instructions that need no table -/
def o_ldI (k pc : Nat) (L : AL) (st : List AV) (h : AH) : Nx := match L[k]? with
  | some (some (.inl x)) => nx pc L (aI x :: st) h
  | _ => none
def o_ldL (k pc : Nat) (L : AL) (st : List AV) (h : AH) : Nx := match L[k]? with
  | some (some (.inr (.inl x))) => nx pc L (aL x :: st) h
  | _ => none
def o_ldA (k pc : Nat) (L : AL) (st : List AV) (h : AH) : Nx := match L[k]? with
  | some (some (.inr (.inr x))) => nx pc L (aQ x :: st) h
  | _ => none
def o_stI (k pc : Nat) (L : AL) (st : List AV) (h : AH) : Nx := match st with
  | .inl x :: r => (match sto L k (aI x) with
    | some L' => nx pc L' r h
    | none => none)
  | _ => none
def o_stL (k pc : Nat) (L : AL) (st : List AV) (h : AH) : Nx := match st with
  | .inr (.inl x) :: r => (match stoL L k (aL x) with
    | some L' => nx pc L' r h
    | none => none)
  | _ => none
def o_stA (k pc : Nat) (L : AL) (st : List AV) (h : AH) : Nx := match st with
  | .inr (.inr x) :: r => (match sto L k (aQ x) with
    | some L' => nx pc L' r h
    | none => none)
  | _ => none
def o_inc (k : Nat) (n : Int) (pc : Nat) (L : AL) (st : List AV) (h : AH) : Nx := match L[k]? with
  | some (some (.inl x)) => (match sto L k (aI (x + n)) with
    | some L' => nx pc L' st h
    | none => none)
  | _ => none
def o_bin (f : Int → Int → Int) (pc : Nat) (L : AL) (st : List AV) (h : AH) : Nx := match st with
  | .inl y :: .inl x :: r => nx pc L (aI (f x y) :: r) h
  | _ => none
def o_div (pc : Nat) (L : AL) (st : List AV) (h : AH) : Nx := match st with
  | .inl y :: .inl x :: r => if inR x ∧ inR y ∧ 0 < y then nx pc L (aI (x.tdiv y) :: r) h else none
  | _ => none
def o_binL (f : Int → Int → Int) (pc : Nat) (L : AL) (st : List AV) (h : AH) : Nx := match st with
  | .inr (.inl y) :: .inr (.inl x) :: r => nx pc L (aL (f x y) :: r) h
  | _ => none
def f_lshl (x y : Int) : Int := (Int64.ofInt x <<< ((Int32.ofInt y).toInt64 &&& 63)).toInt
def o_lshl (pc : Nat) (L : AL) (st : List AV) (h : AH) : Nx := match st with
  | .inl y :: .inr (.inl x) :: r => nx pc L (aL (f_lshl x y) :: r) h
  | _ => none
def o_i2l (pc : Nat) (L : AL) (st : List AV) (h : AH) : Nx := match st with
  | .inl x :: r => if inR x then nx pc L (aL x :: r) h else none
  | _ => none
def o_l2i (pc : Nat) (L : AL) (st : List AV) (h : AH) : Nx := match st with
  | .inr (.inl x) :: r => nx pc L (aI x :: r) h
  | _ => none
def o_lcmp (pc : Nat) (L : AL) (st : List AV) (h : AH) : Nx := match st with
  | .inr (.inl y) :: .inr (.inl x) :: r => if inL x ∧ inL y then nx pc L (aI (if x < y then -1 else if x = y then 0 else 1) :: r) h else none
  | _ => none
def one (v : AV) : Bool := match v with
  | .inr (.inl _) => false
  | _ => true
def o_dup (pc : Nat) (L : AL) (st : List AV) (h : AH) : Nx := match st with
  | v :: r => if one v then nx pc L (v :: v :: r) h else none
  | _ => none
def o_pop (pc : Nat) (L : AL) (st : List AV) (h : AH) : Nx := match st with
  | v :: r => if one v then nx pc L r h else none
  | _ => none
def o_dupx1 (pc : Nat) (L : AL) (st : List AV) (h : AH) : Nx := match st with
  | v :: w :: r => if one v && one w then nx pc L (v :: w :: v :: r) h else none
  | _ => none
def o_dup2 (pc : Nat) (L : AL) (st : List AV) (h : AH) : Nx := match st with
  | v :: w :: r => if one v && one w then nx pc L (v :: w :: v :: w :: r) h else none
  | _ => none
def o_if (c : ClassFile.Cond) (t pc : Nat) (L : AL) (st : List AV) (h : AH) : Nx := match st with
  | .inl x :: r => if inR x then (if cmpI c x 0 then nx t L r h else nx pc L r h) else none
  | _ => none
def o_icmp (c : ClassFile.Cond) (t pc : Nat) (L : AL) (st : List AV) (h : AH) : Nx := match st with
  | .inl y :: .inl x :: r => if inR x ∧ inR y then (if cmpI c x y then nx t L r h else nx pc L r h) else none
  | _ => none
def o_acmp (c : ACond) (t pc : Nat) (L : AL) (st : List AV) (h : AH) : Nx := match st with
  | .inr (.inr y) :: .inr (.inr x) :: r => (match c with
    | .eq => if decide (x = y) then nx t L r h else nx pc L r h
    | .ne => if decide (x = y) then nx pc L r h else nx t L r h)
  | _ => none
def o_null (b : Bool) (t pc : Nat) (L : AL) (st : List AV) (h : AH) : Nx := match st with
  | .inr (.inr none) :: r => if b then nx t L r h else nx pc L r h
  | .inr (.inr (some _)) :: r => if b then nx pc L r h else nx t L r h
  | _ => none
def o_tab (d lo hi : Int) (offs : Array Int) (pc : Nat) (L : AL) (st : List AV) (h : AH) : Nx := match st with
  | .inl x :: r => if inR x then (if x < lo ∨ hi < x then nx (tg pc d) L r h else (match offs[(x - lo).toNat]? with
    | some o => nx (tg pc o) L r h
    | none => none)) else none
  | _ => none
def o_alen (pc : Nat) (L : AL) (st : List AV) (h : AH) : Nx := match st with
  | .inr (.inr (some a)) :: r => (match h.1 a with
    | some (.inl (_, n, _)) => nx pc L (aI n :: r) h
    | _ => none)
  | _ => none
def o_iald (pc : Nat) (L : AL) (st : List AV) (h : AH) : Nx := match st with
  | .inl i :: .inr (.inr (some a)) :: r => (match h.1 a with
    | some (.inl (t, n, .inl F)) => if (t = 0 ∨ t = 9) ∧ 0 ≤ i ∧ i < n then nx pc L (aI (F i.toNat) :: r) h else none
    | _ => none)
  | _ => none
def o_bald (pc : Nat) (L : AL) (st : List AV) (h : AH) : Nx := match st with
  | .inl i :: .inr (.inr (some a)) :: r => (match h.1 a with
    | some (.inl (t, n, .inl F)) => if t = 2 ∧ 0 ≤ i ∧ i < n then nx pc L (aI (F i.toNat) :: r) h else none
    | _ => none)
  | _ => none
def o_lald (pc : Nat) (L : AL) (st : List AV) (h : AH) : Nx := match st with
  | .inl i :: .inr (.inr (some a)) :: r => (match h.1 a with
    | some (.inl (1, n, .inr (.inl F))) => if 0 ≤ i ∧ i < n then nx pc L (aL (F i.toNat) :: r) h else none
    | _ => none)
  | _ => none
def o_aald (pc : Nat) (L : AL) (st : List AV) (h : AH) : Nx := match st with
  | .inl i :: .inr (.inr (some a)) :: r => (match h.1 a with
    | some (.inl (t, n, .inr (.inr F))) => if (t = 3 ∨ t = 4) ∧ 0 ≤ i ∧ i < n then nx pc L (aQ (F i.toNat) :: r) h else none
    | _ => none)
  | _ => none
def o_iast (pc : Nat) (L : AL) (st : List AV) (h : AH) : Nx := match st with
  | .inl x :: .inl i :: .inr (.inr (some a)) :: r => (match h.1 a with
    | some (.inl (t, n, .inl F)) => if t = 0 ∧ 0 ≤ i ∧ i < n then nx pc L r (hput h a (.inl (t, n, .inl (up F i.toNat x)))) else none
    | _ => none)
  | _ => none
def o_bast (pc : Nat) (L : AL) (st : List AV) (h : AH) : Nx := match st with
  | .inl x :: .inl i :: .inr (.inr (some a)) :: r => (match h.1 a with
    | some (.inl (t, n, .inl F)) => if (t = 2 ∧ (x = 0 ∨ x = 1)) ∧ 0 ≤ i ∧ i < n then nx pc L r (hput h a (.inl (t, n, .inl (up F i.toNat x)))) else none
    | _ => none)
  | _ => none
def o_last (pc : Nat) (L : AL) (st : List AV) (h : AH) : Nx := match st with
  | .inr (.inl x) :: .inl i :: .inr (.inr (some a)) :: r => (match h.1 a with
    | some (.inl (1, n, .inr (.inl F))) => if 0 ≤ i ∧ i < n then nx pc L r (hput h a (.inl (1, n, .inr (.inl (up F i.toNat x))))) else none
    | _ => none)
  | _ => none
/-- may this reference lie in an array of the type t: Site (class 3) in its own, any object in Object's -/
def o_may (t : Nat) (x : Option Nat) (h : AH) : Bool := match x with
  | none => true
  | some b => (match h.1 b with
    | some (.inr (ci, _)) => (t == 4 && decide (ci < 8)) || (t == 3 && ci == ciSite)
    | _ => false)
def o_aast (pc : Nat) (L : AL) (st : List AV) (h : AH) : Nx := match st with
  | .inr (.inr x) :: .inl i :: .inr (.inr (some a)) :: r => (match h.1 a with
    | some (.inl (t, n, .inr (.inr F))) => if (t = 3 ∨ t = 4) ∧ 0 ≤ i ∧ i < n ∧ o_may t x h = true then nx pc L r (hput h a (.inl (t, n, .inr (.inr (up F i.toNat x))))) else none
    | _ => none)
  | _ => none
def o_newa (at_ : ArrayType) (pc : Nat) (L : AL) (st : List AV) (h : AH) : Nx := match st with
  | .inl n :: r => if 0 ≤ n ∧ n ≤ 1048576 then (match at_ with
    | .int => nx pc L (aR h.2.1 :: r) (hnew h (.inl (0, n.toNat, .inl (fun _ => 0))) n.toNat)
    | .long => nx pc L (aR h.2.1 :: r) (hnew h (.inl (1, n.toNat, .inr (.inl (fun _ => 0)))) n.toNat)
    | .boolean => nx pc L (aR h.2.1 :: r) (hnew h (.inl (2, n.toNat, .inl (fun _ => 0))) n.toNat)
    | _ => none) else none
  | _ => none
def o_ret (b : Bool) (st : List AV) (h : AH) : Act := match st with
  | [.inl x] => if b then (if x = 0 ∨ x = 1 then fin (.inl (some (aI x))) h else none) else fin (.inl (some (aI x))) h
  | _ => none
def o_lret (st : List AV) (h : AH) : Act := match st with
  | [.inr (.inl x)] => fin (.inl (some (aL x))) h
  | _ => none
def o_aret (st : List AV) (h : AH) : Act := match st with
  | [.inr (.inr x)] => fin (.inl (some (aQ x))) h
  | _ => none
def o_vret (st : List AV) (h : AH) : Act := match st with
  | [] => fin (.inl none) h
  | _ => none
def f_and (x y : Int) : Int := (Int32.ofInt x &&& Int32.ofInt y).toInt
def f_shr (x y : Int) : Int := (Int32.ofInt x >>> (Int32.ofInt y &&& 31)).toInt
def f_land (x y : Int) : Int := (Int64.ofInt x &&& Int64.ofInt y).toInt
def f_lor (x y : Int) : Int := (Int64.ofInt x ||| Int64.ofInt y).toInt
def stl (ins : Instr) (pc len : Nat) (L : AL) (st : List AV) (h : AH) : Nx := match ins with
  | .iconst n => nx (pc + len) L (aI n :: st) h
  | .bipush n => nx (pc + len) L (aI n :: st) h
  | .sipush n => nx (pc + len) L (aI n :: st) h
  | .lconst n => nx (pc + len) L (aL ((n : Nat) : Int) :: st) h
  | .aconst_null => nx (pc + len) L (aN :: st) h
  | .iload k => o_ldI k (pc + len) L st h
  | .iload_n k => o_ldI k.val (pc + len) L st h
  | .lload k => o_ldL k (pc + len) L st h
  | .lload_n k => o_ldL k.val (pc + len) L st h
  | .aload k => o_ldA k (pc + len) L st h
  | .aload_n k => o_ldA k.val (pc + len) L st h
  | .istore k => o_stI k (pc + len) L st h
  | .istore_n k => o_stI k.val (pc + len) L st h
  | .lstore k => o_stL k (pc + len) L st h
  | .lstore_n k => o_stL k.val (pc + len) L st h
  | .astore k => o_stA k (pc + len) L st h
  | .astore_n k => o_stA k.val (pc + len) L st h
  | .iinc k n => o_inc k n (pc + len) L st h
  | .iadd => o_bin (fun x y => x + y) (pc + len) L st h
  | .isub => o_bin (fun x y => x - y) (pc + len) L st h
  | .imul => o_bin (fun x y => x * y) (pc + len) L st h
  | .iand => o_bin f_and (pc + len) L st h
  | .ishr => o_bin f_shr (pc + len) L st h
  | .idiv => o_div (pc + len) L st h
  | .land => o_binL f_land (pc + len) L st h
  | .lor => o_binL f_lor (pc + len) L st h
  | .lshl => o_lshl (pc + len) L st h
  | .i2l => o_i2l (pc + len) L st h
  | .l2i => o_l2i (pc + len) L st h
  | .lcmp => o_lcmp (pc + len) L st h
  | .dup => o_dup (pc + len) L st h
  | .pop => o_pop (pc + len) L st h
  | .dup_x1 => o_dupx1 (pc + len) L st h
  | .dup2 => o_dup2 (pc + len) L st h
  | .ifCond c off => o_if c (tg pc off) (pc + len) L st h
  | .if_icmp c off => o_icmp c (tg pc off) (pc + len) L st h
  | .if_acmp c off => o_acmp c (tg pc off) (pc + len) L st h
  | .ifnull off => o_null true (tg pc off) (pc + len) L st h
  | .ifnonnull off => o_null false (tg pc off) (pc + len) L st h
  | .goto off => nx (tg pc off) L st h
  | .tableswitch d lo hi offs => o_tab d lo hi offs pc L st h
  | .arraylength => o_alen (pc + len) L st h
  | .iaload => o_iald (pc + len) L st h
  | .baload => o_bald (pc + len) L st h
  | .laload => o_lald (pc + len) L st h
  | .aaload => o_aald (pc + len) L st h
  | .iastore => o_iast (pc + len) L st h
  | .bastore => o_bast (pc + len) L st h
  | .lastore => o_last (pc + len) L st h
  | .aastore => o_aast (pc + len) L st h
  | .newarray t => o_newa t (pc + len) L st h
  | _ => none
/-! the instructions that need the tables -/
def o_get (ci k pc : Nat) (L : AL) (st : List AV) (h : AH) : Nx := match st with
  | .inr (.inr (some a)) :: r => (match h.1 a with
    | some (.inr (c, fs)) => if c = ci then (match fs[k]? with
      | some w => nx pc L (w :: r) h
      | none => none) else none
    | _ => none)
  | _ => none
/-- a value of the kind: 0 int, 1 boolean, 2 long, 3 reference -/
def okv (kind : Nat) (w : AV) : Bool := match w with
  | .inl x => kind == 0 || (kind == 1 && (x == 0 || x == 1))
  | .inr (.inl _) => kind == 2
  | .inr (.inr _) => kind == 3
def o_put (ci k kind pc : Nat) (L : AL) (st : List AV) (h : AH) : Nx := match st with
  | w :: .inr (.inr (some a)) :: r => (match h.1 a with
    | some (.inr (c, fs)) => if c = ci ∧ k < fs.length ∧ okv kind w = true then nx pc L r (hput h a (.inr (ci, fs.set k w))) else none
    | _ => none)
  | _ => none
def o_new (ci N : Nat) (fs : List AV) (pc : Nat) (L : AL) (st : List AV) (h : AH) : Nx := nx pc L (aR h.2.1 :: st) (hnew h (.inr (ci, fs)) N)
def o_anew (t pc : Nat) (L : AL) (st : List AV) (h : AH) : Nx := match st with
  | .inl n :: r => if 0 ≤ n ∧ n ≤ 1048576 then nx pc L (aR h.2.1 :: r) (hnew h (.inl (t, n.toNat, .inr (.inr (fun _ => none)))) n.toNat) else none
  | _ => none
def o_cast (ci pc : Nat) (L : AL) (st : List AV) (h : AH) : Nx := match st with
  | .inr (.inr none) :: r => nx pc L (aN :: r) h
  | .inr (.inr (some a)) :: r => (match h.1 a with
    | some (.inr (c, _)) => if c = ci then nx pc L (aR a :: r) h else none
    | _ => none)
  | _ => none
def o_castA (t pc : Nat) (L : AL) (st : List AV) (h : AH) : Nx := match st with
  | .inr (.inr (some a)) :: r => (match h.1 a with
    | some (.inl (t', n, _)) => if t' = t ∧ 0 < n then nx pc L (aR a :: r) h else none
    | _ => none)
  | _ => none
def o_oinit (pc : Nat) (L : AL) (st : List AV) (h : AH) : Nx := match st with
  | .inr (.inr (some _)) :: r => if r.length ≤ 4 then nx pc L r h else none
  | _ => none
def cpy {α : Type} (f g : Nat → α) (sp dp n : Nat) : Nat → α := fun k => if dp ≤ k ∧ k < dp + n then f (sp + (k - dp)) else g k
def o_copyI (pc : Nat) (L : AL) (st : List AV) (h : AH) : Nx := match st with
  | .inl n :: .inl dp :: .inr (.inr (some a)) :: .inl sp :: .inr (.inr (some a0)) :: r => (match h.1 a0, h.1 a with
    | some (.inl (0, n0, .inl f)), some (.inl (0, n1, .inl g)) => if 0 ≤ sp ∧ 0 ≤ dp ∧ 0 ≤ n ∧ sp + n ≤ n0 ∧ dp + n ≤ n1 ∧ r.length ≤ 4 ∧ 0 < n0 ∧ 0 < n1 then nx pc L r (hput h a (.inl (0, n1, .inl (cpy f g sp.toNat dp.toNat n.toNat)))) else none
    | _, _ => none)
  | _ => none
/-- objects of one class, or nothing, in the places -/
def o_all (f : Nat → Option Nat) (sp n : Nat) (h : AH) : Bool := (List.range 8).any fun ci => (List.range n).all fun i => match f (sp + i) with
  | none => true
  | some y => (match h.1 y with
    | some (.inr (c, _)) => c == ci
    | _ => false)
def o_copyQ (pc : Nat) (L : AL) (st : List AV) (h : AH) : Nx := match st with
  | .inl n :: .inl dp :: .inr (.inr (some a)) :: .inl sp :: .inr (.inr (some a0)) :: r => (match h.1 a0, h.1 a with
    | some (.inl (4, n0, .inr (.inr f))), some (.inl (4, n1, .inr (.inr g))) => if 0 ≤ sp ∧ 0 ≤ dp ∧ 0 ≤ n ∧ sp + n ≤ n0 ∧ dp + n ≤ n1 ∧ r.length ≤ 4 ∧ 0 < n0 ∧ 0 < n1 ∧ o_all f sp.toNat n.toNat h = true then nx pc L r (hput h a (.inl (4, n1, .inr (.inr (cpy f g sp.toNat dp.toNat n.toNat))))) else none
    | _, _ => none)
  | _ => none
def o_clone (pc : Nat) (L : AL) (st : List AV) (h : AH) : Nx := match st with
  | .inr (.inr (some a)) :: r => (match h.1 a with
    | some (.inl (0, n, .inl f)) => if r.length ≤ 4 then nx pc L (aR h.2.1 :: r) (hnew h (.inl (0, n, .inl f)) n) else none
    | _ => none)
  | _ => none
def o_mx (b : Bool) (pc : Nat) (L : AL) (st : List AV) (h : AH) : Nx := match st with
  | .inl y :: .inl x :: r => if inR x ∧ inR y ∧ r.length ≤ 4 then nx pc L (aI (if b then (if x < y then y else x) else (if y < x then y else x)) :: r) h else none
  | _ => none
/-- getClass() of an Object[] -/
def o_getC (pc : Nat) (L : AL) (st : List AV) (h : AH) : Nx := match st with
  | .inr (.inr (some a)) :: r => (match h.1 a with
    | some (.inl (4, n, _)) => if r.length ≤ 4 ∧ 0 < n then nx pc L (aR h.2.2.2.2 :: r) h else none
    | _ => none)
  | _ => none
/-- 'new X(text)' thrown at once -/
def o_throw (ci : Nat) (st : List AV) (h : AH) : Act := if st.length ≤ 4 then fin (.inr (ci, h.2.1)) (hnew h (.inr (ci, [])) 6) else none
def rcv (kind ci : Nat) (as : List AV) (h : AH) : Bool := match kind with
  | 0 => true
  | 1 => (match as with
    | .inr (.inr (some b)) :: _ => (match h.1 b with
      | some (.inr (c, _)) => c == ci
      | _ => false)
    | _ => false)
  | _ => (match as with
    | .inr (.inr (some _)) :: _ => true
    | _ => false)
def o_call (j na kind ci pc : Nat) (st : List AV) (h : AH) : Act := if na ≤ st.length ∧ st.length ≤ na + 4 ∧ rcv kind ci (st.take na).reverse h = true ∧ (laid (st.take na).reverse).length ≤ mxl j then some (.inr (.inr (j, (st.take na).reverse, pc, st.drop na))) else none
def dfv (k : Nat) : AV := match k with
  | 2 => aL 0
  | 3 => aN
  | _ => aI 0
def dfl (ci : Nat) : List AV := (fkind ci).map dfv
def stx (op : Nat × Nat × Nat × Nat × Nat) (pc : Nat) (L : AL) (st : List AV) (h : AH) : Nx := match op with
  | (0, ci, k, _, _) => o_get ci k (pc + 3) L st h
  | (1, ci, k, kind, _) => o_put ci k kind (pc + 3) L st h
  | (2, ci, N, _, _) => o_new ci N (dfl ci) (pc + 3) L st h
  | (3, t, _, _, _) => o_anew t (pc + 3) L st h
  | (4, ci, _, _, _) => o_cast ci (pc + 3) L st h
  | (5, t, _, _, _) => o_castA t (pc + 3) L st h
  | (6, _, _, _, _) => nx (pc + 3) L (aR h.2.2.2.1 :: st) h
  | (7, _, _, _, _) => o_oinit (pc + 3) L st h
  | (8, _, _, _, _) => o_copyI (pc + 3) L st h
  | (9, _, _, _, _) => o_copyQ (pc + 3) L st h
  | (10, _, _, _, _) => o_clone (pc + 3) L st h
  | (11, _, _, _, _) => o_mx true (pc + 3) L st h
  | (12, _, _, _, _) => o_mx false (pc + 3) L st h
  | (13, _, _, _, _) => o_getC (pc + 3) L st h
  | (14, _, _, _, _) => nx (pc + 2) L (aR h.2.2.2.2 :: st) h
  | (18, x, _, _, _) => nx (pc + 2) L (aI x :: st) h
  | (15, x, g, _, _) => nx (pc + 3) L (aL (if g = 0 then (x : Int) else -(x : Int)) :: st) h
  | _ => none
def entL (j : Nat) (as : List AV) : AL := laid as ++ List.replicate (mxl j - (laid as).length) none
/-- the instructions of the machine's own: an answer, or the next point; b: the method's answer is a boolean -/
def stm (ins : Instr) (b : Bool) (pc len : Nat) (L : AL) (st : List AV) (h : AH) : Act := match ins with
  | .ireturn => o_ret b st h
  | .lreturn => o_lret st h
  | .areturn => o_aret st h
  | .return_ => o_vret st h
  | _ => wrp (stl ins pc len L st h)
def stn (op : Nat × Nat × Nat × Nat × Nat) (pc : Nat) (L : AL) (st : List AV) (h : AH) : Act := match op with
  | (16, ci, _, _, _) => o_throw ci st h
  | (17, j, na, kind, ci) => o_call j na kind ci (pc + 3) st h
  | _ => wrp (stx op pc L st h)
def stp (i pc : Nat) (L : AL) (st : List AV) (h : AH) : Act := match cod i pc with
  | some (.inl ins, len) => stm ins (rtb i) pc len L st h
  | some (.inr op, _) => stn op pc L st h
  | none => none
/-- which handler takes what is thrown at pc: none at all is there; the one at; or the machine does not say -/
def hnd (i pc ci : Nat) : Option (Option Nat) := match (hdl i).filter (fun x => decide (x.1 ≤ pc) && decide (pc < x.2.1)) with
  | [] => some none
  | q => (match q.find? (fun x => x.2.2.2 == ci) with
    | some x => some (some x.2.2.1)
    | none => none)
def run : Nat → Nat → Nat → AL → List AV → AH → Option (AR × AH)
  | 0, _, _, _, _, _ => none
  | f + 1, i, pc, L, st, h => match stp i pc L st h with
    | none => none
    | some (.inl (pc', L', st', h')) => run f i pc' L' st' h'
    | some (.inr (.inl r)) => some r
    | some (.inr (.inr (j, as, pc', rest))) => (match run f j 0 (entL j as) [] h with
      | none => none
      | some (.inl w, h') => run f i pc' L (w.toList ++ rest) h'
      | some (.inr (ci, a), h') => (match hnd i pc ci with
        | none => none
        | some none => some (.inr (ci, a), h')
        | some (some p') => run f i p' L [aR a] h'))
theorem run_succ : ∀ (f i pc : Nat) (L : AL) (st : List AV) (h : AH) (x : AR × AH), run f i pc L st h = some x → run (f + 1) i pc L st h = some x := by
  intro f
  induction f with
  | zero => intro i pc L st h x hx; cases hx
  | succ f ih =>
    intro i pc L st h x hx
    rw [run] at hx
    rw [run]
    split at hx
    · cases hx
    · rename_i h1
      exact ih _ _ _ _ _ _ hx
    · exact hx
    · rename_i j as pc' rest h1
      split at hx
      · cases hx
      · rename_i w h' h2
        rw [ih _ _ _ _ _ _ h2]
        exact ih _ _ _ _ _ _ hx
      · rename_i ci a h' h2
        rw [ih _ _ _ _ _ _ h2]
        split at hx
        · cases hx
        · rename_i h3
          simp only [h3]
          exact hx
        · rename_i p' h3
          simp only [h3]
          exact ih _ _ _ _ _ _ hx
theorem run_add {f i pc : Nat} {L : AL} {st : List AV} {h : AH} {x : AR × AH} (hx : run f i pc L st h = some x) (k : Nat) : run (f + k) i pc L st h = some x := by
  induction k with
  | zero => exact hx
  | succ k ih => exact run_succ _ _ _ _ _ _ _ ih
/-! THE JUDGEMENT that all walks are written in: from the point the machine ends, and its end has Q -/
def Rn (i pc : Nat) (L : AL) (st : List AV) (h : AH) (Q : AR → AH → Prop) : Prop := ∃ f r h', run f i pc L st h = some (r, h') ∧ Q r h'
theorem Rn.step {i pc pc' : Nat} {L L' : AL} {st st' : List AV} {h h' : AH} {Q : AR → AH → Prop} (hs : stp i pc L st h = some (.inl (pc', L', st', h'))) (k : Rn i pc' L' st' h' Q) : Rn i pc L st h Q := by
  obtain ⟨f, r, h1, h2, h3⟩ := k
  refine ⟨f + 1, r, h1, ?_, h3⟩
  rw [run, hs]
  exact h2
theorem Rn.fin {i pc : Nat} {L : AL} {st : List AV} {h h' : AH} {r : AR} {Q : AR → AH → Prop} (hs : stp i pc L st h = some (.inr (.inl (r, h')))) (k : Q r h') : Rn i pc L st h Q := by
  refine ⟨1, r, h', ?_, k⟩
  rw [run, hs]
theorem Rn.mono {i pc : Nat} {L : AL} {st : List AV} {h : AH} {Q Q' : AR → AH → Prop} (k : Rn i pc L st h Q) (hq : ∀ r h', Q r h' → Q' r h') : Rn i pc L st h Q' := by
  obtain ⟨f, r, h1, h2, h3⟩ := k
  exact ⟨f, r, h1, h2, hq _ _ h3⟩
/-- what stands behind a call -/
def Bh (i pc pc' : Nat) (L : AL) (rest : List AV) (Q : AR → AH → Prop) (r : AR) (h' : AH) : Prop := match r with
  | .inl w => Rn i pc' L (w.toList ++ rest) h' Q
  | .inr (ci, a) => (match hnd i pc ci with
    | none => False
    | some none => Q (.inr (ci, a)) h'
    | some (some p') => Rn i p' L [aR a] h' Q)
theorem Rn.call {i pc pc' j : Nat} {L : AL} {st as rest : List AV} {h : AH} {Q : AR → AH → Prop} (hs : stp i pc L st h = some (.inr (.inr (j, as, pc', rest)))) (k : Rn j 0 (entL j as) [] h (Bh i pc pc' L rest Q)) : Rn i pc L st h Q := by
  obtain ⟨f, r, h1, h2, h3⟩ := k
  rcases r with w | ⟨ci, a⟩
  · obtain ⟨f2, r2, h4, h5, h6⟩ := h3
    refine ⟨f + f2 + 1, r2, h4, ?_, h6⟩
    rw [run, hs]
    simp only [run_add h2 f2]
    rw [Nat.add_comm f f2]
    exact run_add h5 f
  · unfold Bh at h3
    simp only at h3
    split at h3
    · exact h3.elim
    · rename_i h4
      refine ⟨f + 1, _, _, ?_, h3⟩
      rw [run, hs]
      simp only [h2, h4]
    · rename_i p' h4
      obtain ⟨f2, r2, h5, h6, h7⟩ := h3
      refine ⟨f + f2 + 1, r2, h5, ?_, h7⟩
      rw [run, hs]
      simp only [run_add h2 f2, h4]
      rw [Nat.add_comm f f2]
      exact run_add h6 f
