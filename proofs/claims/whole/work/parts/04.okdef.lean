/-! THE STATIC CHECK: what an instruction needs of the tables, by a program -/
def okl (bs : ByteArray) (pc : Nat) (ins : Instr) (len : Nat) : Bool := decide (decode bs pc = .ok (ins, len)) && (match ins with
  | .bipush n => decide (-128 ≤ n ∧ n < 128) && len == 2
  | .sipush n => decide (-32768 ≤ n ∧ n < 32768) && len == 3
  | .iload _ => len == 2
  | .lload _ => len == 2
  | .aload _ => len == 2
  | .istore _ => len == 2
  | .lstore _ => len == 2
  | .astore _ => len == 2
  | .iinc _ _ => len == 3
  | .ifCond _ off => decide (0 ≤ (pc : Int) + off) && len == 3
  | .if_icmp _ off => decide (0 ≤ (pc : Int) + off) && len == 3
  | .if_acmp _ off => decide (0 ≤ (pc : Int) + off) && len == 3
  | .ifnull off => decide (0 ≤ (pc : Int) + off) && len == 3
  | .ifnonnull off => decide (0 ≤ (pc : Int) + off) && len == 3
  | .goto off => decide (0 ≤ (pc : Int) + off) && len == 3
  | .tableswitch d _ _ offs => decide (0 ≤ (pc : Int) + d) && offs.toList.all (fun o => decide (0 ≤ (pc : Int) + o))
  | .newarray _ => len == 2
  | _ => len == 1)
def xw (w : Cond) : Bool := match w with
  | .castable _ _ => true
  | .declares _ => true
  | _ => false
/-- the String constants that are thrown with -/
def strl : List (String × Nat × String) := [("FarStore", 34, "so many sites cannot be"), ("FarStore", 41, "the sites are told already"), ("FarStore", 186, "no such site"), ("FarStore", 55, "too many objects"), ("FarStore", 66, "too many transactions"), ("FarStore", 190, "no such transaction"), ("FarStore", 196, "no such object"), ("FarStore", 202, "the object is a set"), ("FarStore", 206, "the transaction is not open"), ("FarStore", 204, "the object is no set"), ("FarStore", 104, "too many changes"), ("FarStore", 128, "no element has this number"), ("FarStore", 188, "a site sends itself nothing"), ("FarStore", 169, "nothing is told under this number")]
/-- pairs of classes that are not castable -/
def ncl : List (String × String) := [("java/lang/IllegalStateException", "java/lang/IllegalArgumentException"), ("java/util/NoSuchElementException", "java/lang/IllegalArgumentException"), ("java/lang/IllegalArgumentException", "java/lang/IllegalStateException"), ("java/util/NoSuchElementException", "java/lang/IllegalStateException"), ("java/lang/IllegalArgumentException", "java/util/NoSuchElementException"), ("java/lang/IllegalStateException", "java/util/NoSuchElementException")]
/-- the kind of a field's type -/
def tyk (ty : FieldType) : Nat := match ty with
  | .int => 0
  | .boolean => 1
  | .long => 2
  | .object _ => 3
  | .array _ => 3
  | _ => 9
def inG (w : Cond) : Bool := decide (w ∈ lw_tbl) && goodWord w
def inX (w : Cond) : Bool := decide (w ∈ lw_tbl) && xw w
def exN : List String := ["java/lang/RuntimeException", "java/lang/Exception"]
/-- the link of a field, by its own class's name or through the list's -/
def okf (own : String) (idx : Nat) (q : vw_C) (k : Nat) : Bool := decide (k < q.2.2) && (inG (.fieldLink own idx (q.2.1 k).1 (q.2.1 k).2.1 (q.2.1 k).2.2.1) || (inG (.fieldLink own idx "java/util/ArrayList" (q.2.1 k).2.1 (q.2.1 k).2.2.1) && inG (.sameField "java/util/ArrayList" (q.2.1 k).1 (q.2.1 k).2.1 (q.2.1 k).2.2.1)))
def nO : String := "java/lang/Object"
def yClone : MethodName := ⟨"[I", "clone", "()Ljava/lang/Object;"⟩
def yCloneO : MethodName := ⟨"java/lang/Object", "clone", "()Ljava/lang/Object;"⟩
def yGetC : MethodName := ⟨"java/lang/Object", "getClass", "()Ljava/lang/Class;"⟩
def ok_get (i pc ci k : Nat) : Bool := match decode (bts i) pc, classes[ci]? with
  | .ok (.getfield idx, 3), some q => okf (nam i).cls idx q k
  | _, _ => false
def ok_put (i pc ci k kind : Nat) : Bool := match decode (bts i) pc, classes[ci]? with
  | .ok (.putfield idx, 3), some q => okf (nam i).cls idx q k && decide (tyk (tyF ci k) = kind) && ((q.2.1 k).2.2.2 == false || (decide ((nam i).name = "<init>") && decide ((q.2.1 k).1 = (nam i).cls)))
  | _, _ => false
def ok_new (i pc ci N : Nat) : Bool := match decode (bts i) pc, classes[ci]? with
  | .ok (.new idx, 3), some q => decide (q.2.2 = N) && (inG (.classLink (nam i).cls idx q.1) && (inG (.instantiable q.1 N) && inG (.initialized q.1)))
  | _, _ => false
def ok_anew (i pc t : Nat) : Bool := match decode (bts i) pc with
  | .ok (.anewarray idx, 3) => (decide (t = 3) && inG (.classLink (nam i).cls idx nSite)) || (decide (t = 4) && inG (.classLink (nam i).cls idx nO))
  | _ => false
def ok_cast (i pc ci : Nat) : Bool := match decode (bts i) pc, classes[ci]? with
  | .ok (.checkcast idx, 3), some q => inG (.classLink (nam i).cls idx q.1)
  | _, _ => false
def ok_castA (i pc t : Nat) : Bool := match decode (bts i) pc with
  | .ok (.checkcast idx, 3) => (decide (t = 0) && inG (.classLink (nam i).cls idx "[I")) || (decide (t = 4) && inG (.classLink (nam i).cls idx "[Ljava/lang/Object;"))
  | _ => false
def ok_gets (i pc : Nat) : Bool := match decode (bts i) pc with
  | .ok (.getstatic idx, 3) => inG (.fieldLink (nam i).cls idx "java/util/ArrayList" "DEFAULTCAPACITY_EMPTY_ELEMENTDATA" "[Ljava/lang/Object;")
  | _ => false
def ok_oinit (i pc : Nat) : Bool := match decode (bts i) pc with
  | .ok (.invokespecial idx, 3) => inG (.methodLink (nam i).cls idx Lib.objectInit) && (inG (.instanceMethod Lib.objectInit) && (inG (.code Lib.objectInit ⟨#[0xb1]⟩ 1 none) && (decide (1 ≤ frs i) && decide (20 ≤ lcs i))))
  | _ => false
def ok_copy (i pc : Nat) : Bool := match decode (bts i) pc with
  | .ok (.invokestatic idx, 3) => inG (.methodLink (nam i).cls idx arraycopyName) && (inG (.native arraycopyName) && (inG (.static arraycopyName) && (inG (.initialized "java/lang/System") && (decide (1 ≤ frs i) && decide (40 ≤ lcs i)))))
  | _ => false
def ok_clone (i pc : Nat) : Bool := match decode (bts i) pc with
  | .ok (.invokevirtual idx, 3) => inG (.methodLink (nam i).cls idx yClone) && (inG (.sameMethod "[I" "java/lang/Object" "clone" "()Ljava/lang/Object;") && (inG (.native yCloneO) && (inG (.instanceMethod yCloneO) && (inG (.selects "[I" yClone yCloneO) && (inX (.castable "[I" "java/lang/Cloneable") && (decide (1 ≤ frs i) && decide (40 ≤ lcs i)))))))
  | _ => false
def ok_mm (i pc : Nat) (y : MethodName) (bs : ByteArray) : Bool := match decode (bts i) pc with
  | .ok (.invokestatic idx, 3) => inG (.methodLink (nam i).cls idx y) && (inG (.static y) && (inG (.initialized "java/lang/Math") && (inG (.code y bs 2 (some .int)) && (decide (1 ≤ frs i) && decide (40 ≤ lcs i)))))
  | _ => false
def ok_getC (i pc : Nat) : Bool := match decode (bts i) pc with
  | .ok (.invokevirtual idx, 3) => inG (.methodLink (nam i).cls idx yGetC) && (inX (.declares yGetC) && (inG (.selects "[Ljava/lang/Object;" yGetC yGetC) && (inG (.instanceMethod yGetC) && (inG (.native yGetC) && (decide (1 ≤ frs i) && decide (40 ≤ lcs i))))))
  | _ => false
def ok_ldcM (i pc : Nat) : Bool := match decode (bts i) pc with
  | .ok (.ldc idx, 2) => inG (.classLink (nam i).cls idx "[Ljava/lang/Object;")
  | _ => false
def ok_ldcI (i pc x : Nat) : Bool := match decode (bts i) pc with
  | .ok (.ldc idx, 2) => inG (.constant (nam i).cls idx (Int32.ofInt x))
  | _ => false
def ok_ldc2 (i pc x g : Nat) : Bool := match decode (bts i) pc with
  | .ok (.ldc2_w idx, 3) => inG (.constantLong (nam i).cls idx (Int64.ofInt (if g = 0 then (x : Int) else -(x : Int))))
  | _ => false
/-- the bytes of a constructor that passes its text on, by link 13 -/
def nsB : ByteArray := ⟨#[0x2a, 0x2b, 0xb7, 0x00, 0x0d, 0xb1]⟩
def nRT : String := "java/lang/RuntimeException"
def nEx : List String := ["java/lang/Exception"]
/-- what a throw of X needs, whose constructor calls Y's -/
def ownN (own : String) (ic : Nat) (X Y : String) (names : List String) : List Cond := Bundle.throwableAtoms ++ (Bundle.throwableSAtoms ++ (Bundle.passSAtoms X Y 13 nsB ++ (Bundle.chainSAtoms Y names ++ ([.methodLink own ic (Bundle.initS X), .instantiable X 6, .selects X Bundle.tFill0 Bundle.tFill0, .selects X Bundle.tFill Bundle.tFill] ++ ([("cause", "Ljava/lang/Throwable;"), ("stackTrace", Bundle.steD), ("suppressedExceptions", Bundle.listD), ("detailMessage", "Ljava/lang/String;"), ("backtrace", "Ljava/lang/Object;")].map (fun q => Cond.lays X Bundle.tN q.1 q.2) ++ [.isRef (.static Bundle.tN "UNASSIGNED_STACK" Bundle.steD), .isRef (.static Bundle.tN "SUPPRESSED_SENTINEL" Bundle.listD), .fieldLink Bundle.tN 198 Bundle.tN "backtrace" "Ljava/lang/Object;", .lays Bundle.tN Bundle.tN "backtrace" "Ljava/lang/Object;"])))))
def vx_atN (own : String) (ic : Nat) (X Y : String) (names : List String) : List Cond := (ownN own ic X Y names).filter vx_no
def ok_throw0 (i pc ci : Nat) : Bool := match decode (bts i) pc, decode (bts i) (pc + 4), decode (bts i) (pc + 6), classes[ci]? with
  | .ok (.new ik, 3), .ok (.ldc is, 2), .ok (.invokespecial ic, 3), some q => decide (decode (bts i) (pc + 3) = .ok (.dup, 1)) && (decide (decode (bts i) (pc + 9) = .ok (.athrow, 1)) && (decide (q.2.2 = 0) && (Bundle.fit q.1 && (inG (.classLink (nam i).cls ik q.1) && (inG (.initialized q.1) && (strl.any (fun z => decide (z.1 = (nam i).cls) && decide (z.2.1 = is)) && ((vx_atS (nam i).cls ic q.1 exN).all (fun w => inG w || inX w) && ((Cond.classLink (nam i).cls ik q.1 :: Cond.initialized q.1 :: vx_atS (nam i).cls ic q.1 exN).all vx_ot && (decide (tbl i = []) && (decide (6 ≤ frs i) && decide (90 ≤ lcs i)))))))))))
  | _, _, _, _ => false
def ok_throwN (i pc : Nat) : Bool := match decode (bts i) pc, decode (bts i) (pc + 4), decode (bts i) (pc + 6), classes[12]? with
  | .ok (.new ik, 3), .ok (.ldc is, 2), .ok (.invokespecial ic, 3), some q => decide (decode (bts i) (pc + 3) = .ok (.dup, 1)) && (decide (decode (bts i) (pc + 9) = .ok (.athrow, 1)) && (decide (q.2.2 = 0) && (Bundle.fit q.1 && (inG (.classLink (nam i).cls ik q.1) && (inG (.initialized q.1) && (strl.any (fun z => decide (z.1 = (nam i).cls) && decide (z.2.1 = is)) && ((vx_atN (nam i).cls ic q.1 nRT nEx).all (fun w => inG w || inX w) && ((Cond.classLink (nam i).cls ik q.1 :: Cond.initialized q.1 :: vx_atN (nam i).cls ic q.1 nRT nEx).all vx_ot && (decide (tbl i = []) && (decide (6 ≤ frs i) && decide (90 ≤ lcs i)))))))))))
  | _, _, _, _ => false
def ok_throw (i pc ci : Nat) : Bool := if ci = 12 then ok_throwN i pc else ok_throw0 i pc ci
/-- the word of a method's code -/
def okc (j : Nat) : Bool := inG (.codeWith (nam j) (bts j) (mxl j) (rty j) (tbl j)) || (decide (tbl j = []) && inG (.code (nam j) (bts j) (mxl j) (rty j)))
def ok_call (i pc j na kind ci : Nat) : Bool := (okc j && (inG (.initialized (nam j).cls) && (plainName (nam j).cls && (decide ((nam j).cls ≠ "java/lang/invoke/MethodHandle") && (decide ((nam j).cls ≠ "java/lang/invoke/VarHandle") && (decide (frs j + 1 ≤ frs i) && (decide (8 + (mxl j + 11) + lcs j ≤ lcs i) && decide (j < 141)))))))) && (match kind, decode (bts i) pc with
  | 0, .ok (.invokestatic idx, 3) => inG (.methodLink (nam i).cls idx (nam j)) && (inG (.static (nam j)) && decide ((parseMethodDescriptor (nam j).desc).map (fun d => d.parameters.length) = some na))
  | 1, .ok (.invokevirtual idx, 3) => (match classes[ci]? with
    | some q => inG (.methodLink (nam i).cls idx (nam j)) && (inG (.instanceMethod (nam j)) && (inG (.selects q.1 (nam j) (nam j)) && decide ((parseMethodDescriptor (nam j).desc).map (fun d => d.parameters.length + 1) = some na)))
    | none => false)
  | 2, .ok (.invokespecial idx, 3) => inG (.methodLink (nam i).cls idx (nam j)) && (inG (.instanceMethod (nam j)) && (decide ((nam j).name = "<init>") && (inG (.code (nam j) (bts j) (mxl j) none) && decide ((parseMethodDescriptor (nam j).desc).map (fun d => d.parameters.length + 1) = some na))))
  | _, _ => false)
def okx (i pc : Nat) (op : Nat × Nat × Nat × Nat × Nat) : Bool := match op with
  | (0, ci, k, _, _) => ok_get i pc ci k
  | (1, ci, k, kind, _) => ok_put i pc ci k kind
  | (2, ci, N, _, _) => ok_new i pc ci N
  | (3, t, _, _, _) => ok_anew i pc t
  | (4, ci, _, _, _) => ok_cast i pc ci
  | (5, t, _, _, _) => ok_castA i pc t
  | (6, _, _, _, _) => ok_gets i pc
  | (7, _, _, _, _) => ok_oinit i pc
  | (8, _, _, _, _) => ok_copy i pc
  | (9, _, _, _, _) => ok_copy i pc
  | (10, _, _, _, _) => ok_clone i pc
  | (11, _, _, _, _) => ok_mm i pc Lib.Math.max.name Lib.Math.max.code
  | (12, _, _, _, _) => ok_mm i pc Lib.Math.min.name Lib.Math.min.code
  | (13, _, _, _, _) => ok_getC i pc
  | (14, _, _, _, _) => ok_ldcM i pc
  | (18, x, _, _, _) => ok_ldcI i pc x
  | (15, x, g, _, _) => ok_ldc2 i pc x g
  | (16, ci, _, _, _) => ok_throw i pc ci
  | (17, j, na, kind, ci) => ok_call i pc j na kind ci
  | _ => false
/-- an answer fits the method's type -/
def okr (i : Nat) (ins : Instr) : Bool := match ins with
  | .ireturn => (match rty i with
    | some .int => true
    | some .boolean => true
    | _ => false)
  | .lreturn => decide (rty i = some .long)
  | .areturn => (match rty i with
    | some (.object _) => true
    | some (.array _) => true
    | _ => false)
  | .return_ => decide (rty i = none)
  | _ => true
def ok1 (i pc : Nat) (op : OI) (len : Nat) : Bool := match op with
  | .inl ins => okl (bts i) pc ins len && okr i ins
  | .inr x => okx i pc x
def okm (i : Nat) : Bool := (cdm i).all (fun x => ok1 i x.1 x.2.1 x.2.2)
theorem lookup_mem {α : Type} {l : List (Nat × α)} {a : Nat} {b : α} (h : l.lookup a = some b) : (a, b) ∈ l := by
  induction l with
  | nil => cases h
  | cons x r ih =>
    obtain ⟨k, y⟩ := x
    rw [List.lookup_cons] at h
    split at h
    · rename_i hk
      cases h
      have := eq_of_beq hk
      subst this
      exact List.mem_cons_self ..
    · exact List.mem_cons_of_mem _ (ih h)
theorem okm_at {i pc : Nat} {op : OI} {len : Nat} (h : okm i = true) (hc : cod i pc = some (op, len)) : ok1 i pc op len = true :=
  List.all_eq_true.mp h _ (lookup_mem hc)
/-! the classes -/
theorem cls_in : ∀ (ci : Nat) (q : vw_C), classes[ci]? = some q → ∀ w ∈ u_ws q.1 q.2.1 q.2.2, w ∈ lw_tbl := by
  intro ci q hq
  match ci, hq with
  | 0, hq => cases hq; decide +kernel
  | 1, hq => cases hq; decide +kernel
  | 2, hq => cases hq; decide +kernel
  | 3, hq => cases hq; decide +kernel
  | 4, hq => cases hq; decide +kernel
  | 5, hq => cases hq; decide +kernel
  | 6, hq => cases hq; decide +kernel
  | 7, hq => cases hq; decide +kernel
  | 8, hq => cases hq; decide +kernel
  | 9, hq => cases hq; decide +kernel
  | 10, hq => cases hq; decide +kernel
  | 11, hq => cases hq; decide +kernel
  | 12, hq => cases hq; decide +kernel
  | k + 13, hq => simp [classes] at hq
theorem cls_ty : ∀ (ci : Nat) (q : vw_C), classes[ci]? = some q → ∀ k, k < q.2.2 → parseFieldDescriptor (q.2.1 k).2.2.1 = some (tyF ci k) := by
  intro ci q hq
  match ci, hq with
  | 0, hq => cases hq; decide +kernel
  | 1, hq => cases hq; decide +kernel
  | 2, hq => cases hq; decide +kernel
  | 3, hq => cases hq; decide +kernel
  | 4, hq => cases hq; decide +kernel
  | 5, hq => cases hq; decide +kernel
  | 6, hq => cases hq; decide +kernel
  | 7, hq => cases hq; decide +kernel
  | 8, hq => cases hq; decide +kernel
  | 9, hq => cases hq; decide +kernel
  | 10, hq => cases hq; decide +kernel
  | 11, hq => cases hq; decide +kernel
  | 12, hq => cases hq; decide +kernel
  | k + 13, hq => simp [classes] at hq
theorem cls_nm : ∀ (ci : Nat) (q : vw_C), classes[ci]? = some q → ∀ a, a < q.2.2 → ∀ b, b < q.2.2 → a ≠ b → (q.2.1 a).2.1 ≠ (q.2.1 b).2.1 := by
  intro ci q hq
  match ci, hq with
  | 0, hq => cases hq; decide +kernel
  | 1, hq => cases hq; decide +kernel
  | 2, hq => cases hq; decide +kernel
  | 3, hq => cases hq; decide +kernel
  | 4, hq => cases hq; decide +kernel
  | 5, hq => cases hq; decide +kernel
  | 6, hq => cases hq; decide +kernel
  | 7, hq => cases hq; decide +kernel
  | 8, hq => cases hq; decide +kernel
  | 9, hq => cases hq; decide +kernel
  | 10, hq => cases hq; decide +kernel
  | 11, hq => cases hq; decide +kernel
  | 12, hq => cases hq; decide +kernel
  | k + 13, hq => simp [classes] at hq
theorem cls_ca : ∀ (ci : Nat) (q : vw_C), ci < 8 → classes[ci]? = some q → inX (.castable q.1 "java/lang/Object") = true := by
  intro ci q h8 hq
  match ci, hq with
  | 0, hq => cases hq; decide +kernel
  | 1, hq => cases hq; decide +kernel
  | 2, hq => cases hq; decide +kernel
  | 3, hq => cases hq; decide +kernel
  | 4, hq => cases hq; decide +kernel
  | 5, hq => cases hq; decide +kernel
  | 6, hq => cases hq; decide +kernel
  | 7, hq => cases hq; decide +kernel
  | k + 8, hq => omega
