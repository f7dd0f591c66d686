/-! THE PROGRAM of the abstract machine, out of the Statement (by gen/out.py) -/
abbrev OI : Type := Instr ⊕ (Nat × Nat × Nat × Nat × Nat)
def R_Store : String := "FarStore"
def F_Store : u_T := fun k => match k with
  | 0 => ("FarStore", "siteRow", "[LFarStore$Site;", false)
  | 1 => ("FarStore", "items", "Ljava/util/ArrayList;", true)
  | 2 => ("FarStore", "transactions", "Ljava/util/ArrayList;", true)
  | 3 => ("FarStore", "tally", "LFarStore$Tally;", true)
  | 4 => ("FarStore", "changesKept", "I", false)
  | _ => ("FarStore", "commitsMade", "I", false)
def R_Tally : String := "FarStore$Tally"
def F_Tally : u_T := fun k => match k with
  | 0 => ("FarStore$Tally", "elements", "[I", false)
  | 1 => ("FarStore$Tally", "counts", "[I", false)
  | _ => ("FarStore$Tally", "size", "I", false)
def R_Site : String := "FarStore$Site"
def F_Site : u_T := fun k => match k with
  | 0 => ("FarStore$Site", "number", "I", true)
  | 1 => ("FarStore$Site", "seenOf", "[I", true)
  | 2 => ("FarStore$Site", "held", "Ljava/util/ArrayList;", true)
  | _ => ("FarStore$Site", "inbox", "Ljava/util/ArrayList;", true)
def R_Item : String := "FarStore$Item"
def F_Item : u_T := fun k => match k with
  | 0 => ("FarStore$Item", "home", "I", true)
  | 1 => ("FarStore$Item", "isSet", "Z", true)
  | 2 => ("FarStore$Item", "writes", "Ljava/util/ArrayList;", true)
  | 3 => ("FarStore$Item", "changes", "Ljava/util/ArrayList;", true)
  | _ => ("FarStore$Item", "lockedBy", "I", false)
def R_Tran : String := "FarStore$Transaction"
def F_Tran : u_T := fun k => match k with
  | 0 => ("FarStore$Transaction", "number", "I", true)
  | 1 => ("FarStore$Transaction", "site", "I", true)
  | 2 => ("FarStore$Transaction", "start", "[I", true)
  | 3 => ("FarStore$Transaction", "writes", "Ljava/util/ArrayList;", true)
  | 4 => ("FarStore$Transaction", "changes", "Ljava/util/ArrayList;", true)
  | 5 => ("FarStore$Transaction", "phase", "I", false)
  | 6 => ("FarStore$Transaction", "commitNumber", "I", false)
  | _ => ("FarStore$Transaction", "yesesDue", "I", false)
def R_Write : String := "FarStore$Write"
def F_Write : u_T := fun k => match k with
  | 0 => ("FarStore$Write", "by", "LFarStore$Transaction;", true)
  | 1 => ("FarStore$Write", "item", "LFarStore$Item;", true)
  | _ => ("FarStore$Write", "value", "J", false)
def R_Change : String := "FarStore$Change"
def F_Change : u_T := fun k => match k with
  | 0 => ("FarStore$Change", "by", "LFarStore$Transaction;", true)
  | 1 => ("FarStore$Change", "item", "LFarStore$Item;", true)
  | 2 => ("FarStore$Change", "element", "I", true)
  | _ => ("FarStore$Change", "amount", "I", true)
def R_Msg : String := "FarStore$Message"
def F_Msg : u_T := fun k => match k with
  | 0 => ("FarStore$Message", "sort", "I", true)
  | 1 => ("FarStore$Message", "from", "I", true)
  | _ => ("FarStore$Message", "about", "LFarStore$Transaction;", true)
def R_List : String := "java/util/ArrayList"
def F_List : u_T := fun k => match k with
  | 0 => ("java/util/ArrayList", "elementData", "[Ljava/lang/Object;", false)
  | 1 => ("java/util/ArrayList", "size", "I", false)
  | _ => ("java/util/AbstractList", "modCount", "I", false)
def R_Model : String := "FarStoreModel"
def F_Model : u_T := fun k => match k with
  | 0 => ("FarStoreModel", "thrown", "I", false)
  | 1 => ("FarStoreModel", "sites", "I", false)
  | 2 => ("FarStoreModel", "objects", "I", false)
  | 3 => ("FarStoreModel", "transactions", "I", false)
  | 4 => ("FarStoreModel", "ops", "I", false)
  | 5 => ("FarStoreModel", "messages", "I", false)
  | 6 => ("FarStoreModel", "commits", "I", false)
  | 7 => ("FarStoreModel", "home", "[I", true)
  | 8 => ("FarStoreModel", "lock", "[I", true)
  | 9 => ("FarStoreModel", "isSet", "[Z", true)
  | 10 => ("FarStoreModel", "siteOf", "[I", true)
  | 11 => ("FarStoreModel", "state", "[I", true)
  | 12 => ("FarStoreModel", "number", "[I", true)
  | 13 => ("FarStoreModel", "start", "[I", true)
  | 14 => ("FarStoreModel", "yes", "[I", true)
  | 15 => ("FarStoreModel", "asked", "[I", true)
  | 16 => ("FarStoreModel", "opTran", "[I", true)
  | 17 => ("FarStoreModel", "opObject", "[I", true)
  | 18 => ("FarStoreModel", "opSign", "[I", true)
  | 19 => ("FarStoreModel", "opValue", "[J", true)
  | 20 => ("FarStoreModel", "applied", "[I", true)
  | 21 => ("FarStoreModel", "made", "[I", true)
  | 22 => ("FarStoreModel", "committed", "[I", true)
  | 23 => ("FarStoreModel", "from", "[I", true)
  | 24 => ("FarStoreModel", "to", "[I", true)
  | 25 => ("FarStoreModel", "sort", "[I", true)
  | 26 => ("FarStoreModel", "of", "[I", true)
  | 27 => ("FarStoreModel", "held", "[I", true)
  | _ => ("FarStoreModel", "heldMany", "[I", true)
def R_Iae : String := "java/lang/IllegalArgumentException"
def F_Iae : u_T := fun _ => ("", "", "", false)
def R_Ise : String := "java/lang/IllegalStateException"
def F_Ise : u_T := fun _ => ("", "", "", false)
def R_Nse : String := "java/util/NoSuchElementException"
def F_Nse : u_T := fun _ => ("", "", "", false)
def t_Store : Nat → FieldType := fun k => match k with
  | 0 => .array (.object "FarStore$Site")
  | 1 => .object "java/util/ArrayList"
  | 2 => .object "java/util/ArrayList"
  | 3 => .object "FarStore$Tally"
  | 4 => .int
  | _ => .int
def t_Tally : Nat → FieldType := fun k => match k with
  | 0 => .array (.int)
  | 1 => .array (.int)
  | _ => .int
def t_Site : Nat → FieldType := fun k => match k with
  | 0 => .int
  | 1 => .array (.int)
  | 2 => .object "java/util/ArrayList"
  | _ => .object "java/util/ArrayList"
def t_Item : Nat → FieldType := fun k => match k with
  | 0 => .int
  | 1 => .boolean
  | 2 => .object "java/util/ArrayList"
  | 3 => .object "java/util/ArrayList"
  | _ => .int
def t_Tran : Nat → FieldType := fun k => match k with
  | 0 => .int
  | 1 => .int
  | 2 => .array (.int)
  | 3 => .object "java/util/ArrayList"
  | 4 => .object "java/util/ArrayList"
  | 5 => .int
  | 6 => .int
  | _ => .int
def t_Write : Nat → FieldType := fun k => match k with
  | 0 => .object "FarStore$Transaction"
  | 1 => .object "FarStore$Item"
  | _ => .long
def t_Change : Nat → FieldType := fun k => match k with
  | 0 => .object "FarStore$Transaction"
  | 1 => .object "FarStore$Item"
  | 2 => .int
  | _ => .int
def t_Msg : Nat → FieldType := fun k => match k with
  | 0 => .int
  | 1 => .int
  | _ => .object "FarStore$Transaction"
def t_List : Nat → FieldType := fun k => match k with
  | 0 => .array (.object "java/lang/Object")
  | 1 => .int
  | _ => .int
def t_Model : Nat → FieldType := fun k => match k with
  | 0 => .int
  | 1 => .int
  | 2 => .int
  | 3 => .int
  | 4 => .int
  | 5 => .int
  | 6 => .int
  | 7 => .array (.int)
  | 8 => .array (.int)
  | 9 => .array (.boolean)
  | 10 => .array (.int)
  | 11 => .array (.int)
  | 12 => .array (.int)
  | 13 => .array (.int)
  | 14 => .array (.int)
  | 15 => .array (.int)
  | 16 => .array (.int)
  | 17 => .array (.int)
  | 18 => .array (.int)
  | 19 => .array (.long)
  | 20 => .array (.int)
  | 21 => .array (.int)
  | 22 => .array (.int)
  | 23 => .array (.int)
  | 24 => .array (.int)
  | 25 => .array (.int)
  | 26 => .array (.int)
  | 27 => .array (.int)
  | _ => .array (.int)
def t_Iae : Nat → FieldType := fun _ => .int
def t_Ise : Nat → FieldType := fun _ => .int
def t_Nse : Nat → FieldType := fun _ => .int
abbrev classes : List vw_C := [(R_Store, F_Store, 6), (R_Tally, F_Tally, 3), (R_Site, F_Site, 4), (R_Item, F_Item, 5), (R_Tran, F_Tran, 8), (R_Write, F_Write, 3), (R_Change, F_Change, 4), (R_Msg, F_Msg, 3), (R_List, F_List, 3), (R_Model, F_Model, 29), (R_Iae, F_Iae, 0), (R_Ise, F_Ise, 0), (R_Nse, F_Nse, 0)]
def tyF : Nat → Nat → FieldType := fun ci => match ci with
  | 0 => t_Store
  | 1 => t_Tally
  | 2 => t_Site
  | 3 => t_Item
  | 4 => t_Tran
  | 5 => t_Write
  | 6 => t_Change
  | 7 => t_Msg
  | 8 => t_List
  | 9 => t_Model
  | 10 => t_Iae
  | 11 => t_Ise
  | _ => t_Nse
def ciSite : Nat := 2
def nSite : String := R_Site
/-- the kinds of the fields: 0 int, 1 boolean, 2 long, 3 reference -/
def fkind : Nat → List Nat := fun ci => match ci with
  | 0 => [3, 3, 3, 3, 0, 0]
  | 1 => [3, 3, 0]
  | 2 => [0, 3, 3, 3]
  | 3 => [0, 1, 3, 3, 0]
  | 4 => [0, 0, 3, 3, 3, 0, 0, 0]
  | 5 => [3, 3, 2]
  | 6 => [3, 3, 0, 0]
  | 7 => [0, 0, 3]
  | 8 => [3, 0, 0]
  | 9 => [0, 0, 0, 0, 0, 0, 0, 3, 3, 3, 3, 3, 3, 3, 3, 3, 3, 3, 3, 3, 3, 3, 3, 3, 3, 3, 3, 3, 3]
  | 10 => []
  | 11 => []
  | _ => []
def nam : Nat → MethodName := fun i => match i with
  | 0 => ⟨"FarStore", "<init>", "()V"⟩
  | 1 => ⟨"java/util/ArrayList", "<init>", "()V"⟩
  | 2 => ⟨"java/util/AbstractList", "<init>", "()V"⟩
  | 3 => ⟨"java/util/AbstractCollection", "<init>", "()V"⟩
  | 4 => ⟨"FarStore$Tally", "<init>", "()V"⟩
  | 5 => ⟨"FarStore", "count", "(I)I"⟩
  | 6 => ⟨"java/util/ArrayList", "size", "()I"⟩
  | 7 => ⟨"FarStore", "commitsHeld", "()I"⟩
  | 8 => ⟨"FarStore", "messagesWaiting", "()I"⟩
  | 9 => ⟨"FarStoreLaw", "sites", "(LFarStore;I)I"⟩
  | 10 => ⟨"FarStore", "sites", "(I)V"⟩
  | 11 => ⟨"FarStore$Site", "<init>", "(II)V"⟩
  | 12 => ⟨"FarStoreLaw", "object", "(LFarStore;IZ[J)I"⟩
  | 13 => ⟨"FarStore", "object", "(IZ)I"⟩
  | 14 => ⟨"FarStore", "needSite", "(I)V"⟩
  | 15 => ⟨"FarStore$Item", "<init>", "(IZ)V"⟩
  | 16 => ⟨"java/util/ArrayList", "add", "(Ljava/lang/Object;)Z"⟩
  | 17 => ⟨"java/util/ArrayList", "add", "(Ljava/lang/Object;[Ljava/lang/Object;I)V"⟩
  | 18 => ⟨"java/util/ArrayList", "grow", "()[Ljava/lang/Object;"⟩
  | 19 => ⟨"java/util/ArrayList", "grow", "(I)[Ljava/lang/Object;"⟩
  | 20 => ⟨"jdk/internal/util/ArraysSupport", "newLength", "(III)I"⟩
  | 21 => ⟨"java/util/Arrays", "copyOf", "([Ljava/lang/Object;I)[Ljava/lang/Object;"⟩
  | 22 => ⟨"java/util/Arrays", "copyOf", "([Ljava/lang/Object;ILjava/lang/Class;)[Ljava/lang/Object;"⟩
  | 23 => ⟨"FarStoreLaw", "begin", "(LFarStore;I[J)I"⟩
  | 24 => ⟨"FarStore", "begin", "(I)I"⟩
  | 25 => ⟨"FarStore$Transaction", "<init>", "(II[I)V"⟩
  | 26 => ⟨"FarStoreLaw", "read", "(LFarStore;II[J)I"⟩
  | 27 => ⟨"FarStore", "read", "(II)J"⟩
  | 28 => ⟨"FarStore", "transactionOf", "(I)LFarStore$Transaction;"⟩
  | 29 => ⟨"java/util/ArrayList", "get", "(I)Ljava/lang/Object;"⟩
  | 30 => ⟨"java/util/Objects", "checkIndex", "(II)I"⟩
  | 31 => ⟨"jdk/internal/util/Preconditions", "checkIndex", "(IILjava/util/function/BiFunction;)I"⟩
  | 32 => ⟨"java/util/ArrayList", "elementData", "(I)Ljava/lang/Object;"⟩
  | 33 => ⟨"FarStore", "plainItem", "(I)LFarStore$Item;"⟩
  | 34 => ⟨"FarStore", "itemOf", "(I)LFarStore$Item;"⟩
  | 35 => ⟨"FarStore", "needOpen", "(LFarStore$Transaction;)V"⟩
  | 36 => ⟨"FarStore$Transaction", "valueOf", "(LFarStore$Item;)J"⟩
  | 37 => ⟨"FarStore$Transaction", "ownWrite", "(LFarStore$Item;)LFarStore$Write;"⟩
  | 38 => ⟨"FarStore$Transaction", "sees", "(LFarStore$Transaction;)Z"⟩
  | 39 => ⟨"FarStoreLaw", "write", "(LFarStore;IIJ)I"⟩
  | 40 => ⟨"FarStore", "write", "(IIJ)V"⟩
  | 41 => ⟨"FarStore$Transaction", "keepWrite", "(LFarStore$Item;J)V"⟩
  | 42 => ⟨"FarStore$Write", "<init>", "(LFarStore$Transaction;LFarStore$Item;J)V"⟩
  | 43 => ⟨"FarStoreLaw", "change", "(LFarStore;IIIZ)I"⟩
  | 44 => ⟨"FarStore", "change", "(IIIZ)V"⟩
  | 45 => ⟨"FarStore", "setItem", "(I)LFarStore$Item;"⟩
  | 46 => ⟨"FarStore$Change", "<init>", "(LFarStore$Transaction;LFarStore$Item;II)V"⟩
  | 47 => ⟨"FarStoreLaw", "count", "(LFarStore;III[J)I"⟩
  | 48 => ⟨"FarStore", "count", "(III)I"⟩
  | 49 => ⟨"FarStore$Transaction", "countOf", "(LFarStore$Item;I)I"⟩
  | 50 => ⟨"FarStoreLaw", "element", "(LFarStore;III[J)I"⟩
  | 51 => ⟨"FarStore", "element", "(III)I"⟩
  | 52 => ⟨"FarStore$Transaction", "countAll", "(LFarStore$Item;LFarStore$Tally;)V"⟩
  | 53 => ⟨"FarStore$Tally", "clear", "()V"⟩
  | 54 => ⟨"FarStore$Tally", "take", "(LFarStore$Change;)V"⟩
  | 55 => ⟨"FarStore$Tally", "firstNotBelow", "(I)I"⟩
  | 56 => ⟨"FarStore$Tally", "makeRoomAt", "(I)V"⟩
  | 57 => ⟨"java/util/Arrays", "copyOf", "([II)[I"⟩
  | 58 => ⟨"FarStore$Tally", "placeOf", "(I)I"⟩
  | 59 => ⟨"FarStoreLaw", "commit", "(LFarStore;I[J)I"⟩
  | 60 => ⟨"FarStore", "commit", "(I)I"⟩
  | 61 => ⟨"FarStore", "tryToCommit", "(LFarStore$Transaction;)V"⟩
  | 62 => ⟨"java/util/ArrayList", "isEmpty", "()Z"⟩
  | 63 => ⟨"FarStore$Transaction", "hasConflictAt", "(LFarStore$Site;)Z"⟩
  | 64 => ⟨"FarStore$Item", "hasConflict", "(LFarStore$Transaction;LFarStore$Site;)Z"⟩
  | 65 => ⟨"FarStore$Site", "hasApplied", "(LFarStore$Transaction;)Z"⟩
  | 66 => ⟨"FarStore", "otherHomes", "(LFarStore$Transaction;)I"⟩
  | 67 => ⟨"FarStore$Transaction", "asks", "(I)Z"⟩
  | 68 => ⟨"FarStore", "makeCommit", "(LFarStore$Transaction;)V"⟩
  | 69 => ⟨"FarStore$Transaction", "handToItems", "()V"⟩
  | 70 => ⟨"FarStore$Site", "apply", "(LFarStore$Transaction;)V"⟩
  | 71 => ⟨"FarStore$Transaction", "unlockAt", "(LFarStore$Site;)V"⟩
  | 72 => ⟨"FarStore$Message", "<init>", "(IILFarStore$Transaction;)V"⟩
  | 73 => ⟨"FarStore$Transaction", "lockAt", "(LFarStore$Site;)V"⟩
  | 74 => ⟨"FarStore", "sendToOtherHomes", "(LFarStore$Transaction;II)V"⟩
  | 75 => ⟨"FarStoreLaw", "abort", "(LFarStore;I)I"⟩
  | 76 => ⟨"FarStore", "abort", "(I)V"⟩
  | 77 => ⟨"FarStoreLaw", "deliver", "(LFarStore;II[J)I"⟩
  | 78 => ⟨"FarStore", "deliver", "(II)I"⟩
  | 79 => ⟨"FarStore", "needTwoSites", "(II)V"⟩
  | 80 => ⟨"FarStore$Site", "takeFrom", "(I)LFarStore$Message;"⟩
  | 81 => ⟨"java/util/ArrayList", "remove", "(I)Ljava/lang/Object;"⟩
  | 82 => ⟨"java/util/ArrayList", "fastRemove", "([Ljava/lang/Object;I)V"⟩
  | 83 => ⟨"FarStore", "arrive", "(LFarStore$Message;LFarStore$Site;)V"⟩
  | 84 => ⟨"FarStore", "answer", "(LFarStore$Transaction;LFarStore$Site;)V"⟩
  | 85 => ⟨"FarStore", "hearYes", "(LFarStore$Transaction;)V"⟩
  | 86 => ⟨"FarStore", "hearNo", "(LFarStore$Transaction;I)V"⟩
  | 87 => ⟨"FarStore$Site", "receive", "(LFarStore$Transaction;)V"⟩
  | 88 => ⟨"FarStore$Site", "canApply", "(LFarStore$Transaction;)Z"⟩
  | 89 => ⟨"FarStore$Site", "applyHeld", "()V"⟩
  | 90 => ⟨"FarStore$Site", "firstThatCanBeApplied", "()I"⟩
  | 91 => ⟨"FarStoreLaw", "waiting", "(LFarStore;II[J)I"⟩
  | 92 => ⟨"FarStore", "waiting", "(II)I"⟩
  | 93 => ⟨"FarStore$Site", "waitingFrom", "(I)I"⟩
  | 94 => ⟨"FarStoreLaw", "seen", "(LFarStore;II[J)I"⟩
  | 95 => ⟨"FarStore", "seen", "(II)I"⟩
  | 96 => ⟨"FarStoreLaw", "state", "(LFarStore;II[J)I"⟩
  | 97 => ⟨"FarStore", "state", "(II)I"⟩
  | 98 => ⟨"FarStore", "sitesThatApplied", "(LFarStore$Transaction;)I"⟩
  | 99 => ⟨"FarStoreLaw", "locked", "(LFarStore;I[J)I"⟩
  | 100 => ⟨"FarStore", "locked", "(I)I"⟩
  | 101 => ⟨"FarStoreModel", "<init>", "()V"⟩
  | 102 => ⟨"FarStoreModel", "thrown", "()I"⟩
  | 103 => ⟨"FarStoreModel", "sites", "(I)V"⟩
  | 104 => ⟨"FarStoreModel", "fails", "(ZZ)Z"⟩
  | 105 => ⟨"FarStoreModel", "object", "(IZ)I"⟩
  | 106 => ⟨"FarStoreModel", "isSite", "(I)Z"⟩
  | 107 => ⟨"FarStoreModel", "begin", "(I)I"⟩
  | 108 => ⟨"FarStoreModel", "read", "(II)J"⟩
  | 109 => ⟨"FarStoreModel", "isWrong", "(IIZ)Z"⟩
  | 110 => ⟨"FarStoreModel", "isTran", "(I)Z"⟩
  | 111 => ⟨"FarStoreModel", "isObject", "(I)Z"⟩
  | 112 => ⟨"FarStoreModel", "wrote", "(II)Z"⟩
  | 113 => ⟨"FarStoreModel", "lastOf", "(II)J"⟩
  | 114 => ⟨"FarStoreModel", "visible", "(II)Z"⟩
  | 115 => ⟨"FarStoreModel", "write", "(IIJ)V"⟩
  | 116 => ⟨"FarStoreModel", "did", "(IIJI)V"⟩
  | 117 => ⟨"FarStoreModel", "change", "(IIIZ)V"⟩
  | 118 => ⟨"FarStoreModel", "count", "(III)I"⟩
  | 119 => ⟨"FarStoreModel", "countOf", "(IIJ)I"⟩
  | 120 => ⟨"FarStoreModel", "element", "(III)I"⟩
  | 121 => ⟨"FarStoreModel", "no", "(I)I"⟩
  | 122 => ⟨"FarStoreModel", "commit", "(I)I"⟩
  | 123 => ⟨"FarStoreModel", "commits", "(I)V"⟩
  | 124 => ⟨"FarStoreModel", "unlock", "(II)V"⟩
  | 125 => ⟨"FarStoreModel", "send", "(IIII)V"⟩
  | 126 => ⟨"FarStoreModel", "release", "(I)V"⟩
  | 127 => ⟨"FarStoreModel", "canBe", "(II)Z"⟩
  | 128 => ⟨"FarStoreModel", "anyConflict", "(II)Z"⟩
  | 129 => ⟨"FarStoreModel", "conflict", "(II)Z"⟩
  | 130 => ⟨"FarStoreModel", "locks", "(II)V"⟩
  | 131 => ⟨"FarStoreModel", "writesAt", "(II)Z"⟩
  | 132 => ⟨"FarStoreModel", "abort", "(I)V"⟩
  | 133 => ⟨"FarStoreModel", "deliver", "(II)I"⟩
  | 134 => ⟨"FarStoreModel", "arrives", "(IIII)V"⟩
  | 135 => ⟨"FarStoreModel", "waiting", "(II)I"⟩
  | 136 => ⟨"FarStoreModel", "seen", "(II)I"⟩
  | 137 => ⟨"FarStoreModel", "state", "(II)I"⟩
  | 138 => ⟨"FarStoreModel", "locked", "(I)I"⟩
  | 139 => ⟨"FarStoreModel", "count", "(I)I"⟩
  | _ => ⟨"FarStoreLaw", "law", "([I)Z"⟩
def bts : Nat → ByteArray := fun i => match i with
  | 0 => prog_1_method_1_code
  | 1 => prog_24_method_2_code
  | 2 => prog_23_method_1_code
  | 3 => prog_22_method_1_code
  | 4 => prog_6_method_1_code
  | 5 => prog_1_method_17_code
  | 6 => prog_24_method_8_code
  | 7 => prog_1_method_34_code
  | 8 => prog_1_method_35_code
  | 9 => method_3_code
  | 10 => prog_1_method_2_code
  | 11 => prog_5_method_1_code
  | 12 => method_4_code
  | 13 => prog_1_method_3_code
  | 14 => prog_1_method_18_code
  | 15 => prog_3_method_1_code
  | 16 => prog_24_method_25_code
  | 17 => prog_24_method_24_code
  | 18 => prog_24_method_7_code
  | 19 => prog_24_method_6_code
  | 20 => prog_32_method_27_code
  | 21 => prog_25_method_119_code
  | 22 => prog_25_method_120_code
  | 23 => method_5_code
  | 24 => prog_1_method_4_code
  | 25 => prog_7_method_1_code
  | 26 => method_6_code
  | 27 => prog_1_method_5_code
  | 28 => prog_1_method_20_code
  | 29 => prog_24_method_20_code
  | 30 => prog_29_method_17_code
  | 31 => prog_33_method_11_code
  | 32 => prog_24_method_18_code
  | 33 => prog_1_method_22_code
  | 34 => prog_1_method_21_code
  | 35 => prog_1_method_24_code
  | 36 => prog_7_method_4_code
  | 37 => prog_7_method_12_code
  | 38 => prog_7_method_2_code
  | 39 => method_7_code
  | 40 => prog_1_method_6_code
  | 41 => prog_7_method_3_code
  | 42 => prog_8_method_1_code
  | 43 => method_8_code
  | 44 => prog_1_method_7_code
  | 45 => prog_1_method_23_code
  | 46 => prog_2_method_1_code
  | 47 => method_9_code
  | 48 => prog_1_method_8_code
  | 49 => prog_7_method_5_code
  | 50 => method_10_code
  | 51 => prog_1_method_9_code
  | 52 => prog_7_method_6_code
  | 53 => prog_6_method_2_code
  | 54 => prog_6_method_3_code
  | 55 => prog_6_method_5_code
  | 56 => prog_6_method_6_code
  | 57 => prog_25_method_123_code
  | 58 => prog_6_method_4_code
  | 59 => method_11_code
  | 60 => prog_1_method_10_code
  | 61 => prog_1_method_25_code
  | 62 => prog_24_method_9_code
  | 63 => prog_7_method_8_code
  | 64 => prog_3_method_2_code
  | 65 => prog_5_method_4_code
  | 66 => prog_1_method_26_code
  | 67 => prog_7_method_7_code
  | 68 => prog_1_method_28_code
  | 69 => prog_7_method_11_code
  | 70 => prog_5_method_6_code
  | 71 => prog_7_method_10_code
  | 72 => prog_4_method_1_code
  | 73 => prog_7_method_9_code
  | 74 => prog_1_method_27_code
  | 75 => method_12_code
  | 76 => prog_1_method_11_code
  | 77 => method_13_code
  | 78 => prog_1_method_12_code
  | 79 => prog_1_method_19_code
  | 80 => prog_5_method_2_code
  | 81 => prog_24_method_29_code
  | 82 => prog_24_method_39_code
  | 83 => prog_1_method_29_code
  | 84 => prog_1_method_30_code
  | 85 => prog_1_method_31_code
  | 86 => prog_1_method_32_code
  | 87 => prog_5_method_5_code
  | 88 => prog_5_method_7_code
  | 89 => prog_5_method_8_code
  | 90 => prog_5_method_9_code
  | 91 => method_14_code
  | 92 => prog_1_method_13_code
  | 93 => prog_5_method_3_code
  | 94 => method_15_code
  | 95 => prog_1_method_14_code
  | 96 => method_16_code
  | 97 => prog_1_method_15_code
  | 98 => prog_1_method_33_code
  | 99 => method_17_code
  | 100 => prog_1_method_16_code
  | 101 => prog_10_method_1_code
  | 102 => prog_10_method_2_code
  | 103 => prog_10_method_8_code
  | 104 => prog_10_method_4_code
  | 105 => prog_10_method_9_code
  | 106 => prog_10_method_5_code
  | 107 => prog_10_method_10_code
  | 108 => prog_10_method_15_code
  | 109 => prog_10_method_14_code
  | 110 => prog_10_method_7_code
  | 111 => prog_10_method_6_code
  | 112 => prog_10_method_12_code
  | 113 => prog_10_method_13_code
  | 114 => prog_10_method_11_code
  | 115 => prog_10_method_17_code
  | 116 => prog_10_method_16_code
  | 117 => prog_10_method_18_code
  | 118 => prog_10_method_20_code
  | 119 => prog_10_method_19_code
  | 120 => prog_10_method_21_code
  | 121 => prog_10_method_3_code
  | 122 => prog_10_method_29_code
  | 123 => prog_10_method_28_code
  | 124 => prog_10_method_26_code
  | 125 => prog_10_method_27_code
  | 126 => prog_10_method_32_code
  | 127 => prog_10_method_31_code
  | 128 => prog_10_method_23_code
  | 129 => prog_10_method_22_code
  | 130 => prog_10_method_25_code
  | 131 => prog_10_method_24_code
  | 132 => prog_10_method_30_code
  | 133 => prog_10_method_33_code
  | 134 => prog_10_method_34_code
  | 135 => prog_10_method_35_code
  | 136 => prog_10_method_36_code
  | 137 => prog_10_method_37_code
  | 138 => prog_10_method_38_code
  | 139 => prog_10_method_39_code
  | _ => code
def mxl : Nat → Nat := fun i => match i with
  | 0 => 1
  | 1 => 1
  | 2 => 1
  | 3 => 1
  | 4 => 1
  | 5 => 2
  | 6 => 1
  | 7 => 3
  | 8 => 3
  | 9 => 3
  | 10 => 4
  | 11 => 3
  | 12 => 5
  | 13 => 3
  | 14 => 2
  | 15 => 3
  | 16 => 2
  | 17 => 4
  | 18 => 1
  | 19 => 4
  | 20 => 4
  | 21 => 2
  | 22 => 4
  | 23 => 4
  | 24 => 3
  | 25 => 4
  | 26 => 5
  | 27 => 5
  | 28 => 2
  | 29 => 2
  | 30 => 2
  | 31 => 3
  | 32 => 2
  | 33 => 3
  | 34 => 2
  | 35 => 2
  | 36 => 5
  | 37 => 3
  | 38 => 2
  | 39 => 6
  | 40 => 7
  | 41 => 5
  | 42 => 5
  | 43 => 6
  | 44 => 7
  | 45 => 3
  | 46 => 5
  | 47 => 6
  | 48 => 6
  | 49 => 6
  | 50 => 6
  | 51 => 7
  | 52 => 5
  | 53 => 1
  | 54 => 3
  | 55 => 6
  | 56 => 2
  | 57 => 3
  | 58 => 4
  | 59 => 4
  | 60 => 3
  | 61 => 4
  | 62 => 1
  | 63 => 4
  | 64 => 5
  | 65 => 2
  | 66 => 4
  | 67 => 3
  | 68 => 4
  | 69 => 2
  | 70 => 2
  | 71 => 4
  | 72 => 4
  | 73 => 4
  | 74 => 5
  | 75 => 3
  | 76 => 3
  | 77 => 5
  | 78 => 4
  | 79 => 3
  | 80 => 3
  | 81 => 4
  | 82 => 4
  | 83 => 4
  | 84 => 4
  | 85 => 2
  | 86 => 3
  | 87 => 2
  | 88 => 3
  | 89 => 3
  | 90 => 2
  | 91 => 5
  | 92 => 3
  | 93 => 4
  | 94 => 5
  | 95 => 3
  | 96 => 5
  | 97 => 4
  | 98 => 4
  | 99 => 4
  | 100 => 2
  | 101 => 1
  | 102 => 1
  | 103 => 2
  | 104 => 3
  | 105 => 3
  | 106 => 2
  | 107 => 4
  | 108 => 5
  | 109 => 4
  | 110 => 2
  | 111 => 2
  | 112 => 4
  | 113 => 6
  | 114 => 3
  | 115 => 5
  | 116 => 6
  | 117 => 5
  | 118 => 4
  | 119 => 7
  | 120 => 10
  | 121 => 2
  | 122 => 7
  | 123 => 4
  | 124 => 4
  | 125 => 5
  | 126 => 6
  | 127 => 4
  | 128 => 4
  | 129 => 6
  | 130 => 4
  | 131 => 4
  | 132 => 2
  | 133 => 5
  | 134 => 6
  | 135 => 5
  | 136 => 3
  | 137 => 5
  | 138 => 2
  | 139 => 4
  | _ => 8
def rty : Nat → Option FieldType := fun i => match i with
  | 0 => none
  | 1 => none
  | 2 => none
  | 3 => none
  | 4 => none
  | 5 => some (.int)
  | 6 => some (.int)
  | 7 => some (.int)
  | 8 => some (.int)
  | 9 => some (.int)
  | 10 => none
  | 11 => none
  | 12 => some (.int)
  | 13 => some (.int)
  | 14 => none
  | 15 => none
  | 16 => some (.boolean)
  | 17 => none
  | 18 => some ((.array (.object "java/lang/Object")))
  | 19 => some ((.array (.object "java/lang/Object")))
  | 20 => some (.int)
  | 21 => some ((.array (.object "java/lang/Object")))
  | 22 => some ((.array (.object "java/lang/Object")))
  | 23 => some (.int)
  | 24 => some (.int)
  | 25 => none
  | 26 => some (.int)
  | 27 => some (.long)
  | 28 => some ((.object "FarStore$Transaction"))
  | 29 => some ((.object "java/lang/Object"))
  | 30 => some (.int)
  | 31 => some (.int)
  | 32 => some ((.object "java/lang/Object"))
  | 33 => some ((.object "FarStore$Item"))
  | 34 => some ((.object "FarStore$Item"))
  | 35 => none
  | 36 => some (.long)
  | 37 => some ((.object "FarStore$Write"))
  | 38 => some (.boolean)
  | 39 => some (.int)
  | 40 => none
  | 41 => none
  | 42 => none
  | 43 => some (.int)
  | 44 => none
  | 45 => some ((.object "FarStore$Item"))
  | 46 => none
  | 47 => some (.int)
  | 48 => some (.int)
  | 49 => some (.int)
  | 50 => some (.int)
  | 51 => some (.int)
  | 52 => none
  | 53 => none
  | 54 => none
  | 55 => some (.int)
  | 56 => none
  | 57 => some ((.array .int))
  | 58 => some (.int)
  | 59 => some (.int)
  | 60 => some (.int)
  | 61 => none
  | 62 => some (.boolean)
  | 63 => some (.boolean)
  | 64 => some (.boolean)
  | 65 => some (.boolean)
  | 66 => some (.int)
  | 67 => some (.boolean)
  | 68 => none
  | 69 => none
  | 70 => none
  | 71 => none
  | 72 => none
  | 73 => none
  | 74 => none
  | 75 => some (.int)
  | 76 => none
  | 77 => some (.int)
  | 78 => some (.int)
  | 79 => none
  | 80 => some ((.object "FarStore$Message"))
  | 81 => some ((.object "java/lang/Object"))
  | 82 => none
  | 83 => none
  | 84 => none
  | 85 => none
  | 86 => none
  | 87 => none
  | 88 => some (.boolean)
  | 89 => none
  | 90 => some (.int)
  | 91 => some (.int)
  | 92 => some (.int)
  | 93 => some (.int)
  | 94 => some (.int)
  | 95 => some (.int)
  | 96 => some (.int)
  | 97 => some (.int)
  | 98 => some (.int)
  | 99 => some (.int)
  | 100 => some (.int)
  | 101 => none
  | 102 => some (.int)
  | 103 => none
  | 104 => some (.boolean)
  | 105 => some (.int)
  | 106 => some (.boolean)
  | 107 => some (.int)
  | 108 => some (.long)
  | 109 => some (.boolean)
  | 110 => some (.boolean)
  | 111 => some (.boolean)
  | 112 => some (.boolean)
  | 113 => some (.long)
  | 114 => some (.boolean)
  | 115 => none
  | 116 => none
  | 117 => none
  | 118 => some (.int)
  | 119 => some (.int)
  | 120 => some (.int)
  | 121 => some (.int)
  | 122 => some (.int)
  | 123 => none
  | 124 => none
  | 125 => none
  | 126 => none
  | 127 => some (.boolean)
  | 128 => some (.boolean)
  | 129 => some (.boolean)
  | 130 => none
  | 131 => some (.boolean)
  | 132 => none
  | 133 => some (.int)
  | 134 => none
  | 135 => some (.int)
  | 136 => some (.int)
  | 137 => some (.int)
  | 138 => some (.int)
  | 139 => some (.int)
  | _ => some (.boolean)
/-- the answer is a boolean -/
def rtb (i : Nat) : Bool := match rty i with
  | some .boolean => true
  | _ => false
/-- exception tables: as the class file has them, and with the numbers of the classes -/
def tbl : Nat → List (Nat × Nat × Nat × Nat) := fun i => match i with
  | 9 => [(0, 5, 8, 13), (0, 5, 11, 15)]
  | 12 => [(0, 10, 13, 13), (0, 10, 17, 15)]
  | 23 => [(0, 9, 12, 13), (0, 9, 15, 15)]
  | 26 => [(0, 9, 12, 13), (0, 9, 16, 15)]
  | 39 => [(0, 7, 10, 13), (0, 7, 14, 15)]
  | 43 => [(0, 9, 12, 13), (0, 9, 16, 15)]
  | 47 => [(0, 12, 15, 13), (0, 12, 19, 15)]
  | 50 => [(0, 12, 15, 13), (0, 12, 19, 15), (0, 12, 23, 44)]
  | 59 => [(0, 9, 12, 13), (0, 9, 15, 15)]
  | 75 => [(0, 5, 8, 13), (0, 5, 11, 15)]
  | 77 => [(0, 10, 13, 13), (0, 10, 17, 15)]
  | 91 => [(0, 10, 13, 13), (0, 10, 17, 15)]
  | 94 => [(0, 10, 13, 13), (0, 10, 17, 15)]
  | 96 => [(0, 10, 13, 13), (0, 10, 17, 15)]
  | 99 => [(0, 9, 12, 13), (0, 9, 15, 15)]
  | _ => []
def hdl : Nat → List (Nat × Nat × Nat × Nat) := fun i => match i with
  | 9 => [(0, 5, 8, 10), (0, 5, 11, 11)]
  | 12 => [(0, 10, 13, 10), (0, 10, 17, 11)]
  | 23 => [(0, 9, 12, 10), (0, 9, 15, 11)]
  | 26 => [(0, 9, 12, 10), (0, 9, 16, 11)]
  | 39 => [(0, 7, 10, 10), (0, 7, 14, 11)]
  | 43 => [(0, 9, 12, 10), (0, 9, 16, 11)]
  | 47 => [(0, 12, 15, 10), (0, 12, 19, 11)]
  | 50 => [(0, 12, 15, 10), (0, 12, 19, 11), (0, 12, 23, 12)]
  | 59 => [(0, 9, 12, 10), (0, 9, 15, 11)]
  | 75 => [(0, 5, 8, 10), (0, 5, 11, 11)]
  | 77 => [(0, 10, 13, 10), (0, 10, 17, 11)]
  | 91 => [(0, 10, 13, 10), (0, 10, 17, 11)]
  | 94 => [(0, 10, 13, 10), (0, 10, 17, 11)]
  | 96 => [(0, 10, 13, 10), (0, 10, 17, 11)]
  | 99 => [(0, 9, 12, 10), (0, 9, 15, 11)]
  | _ => []
/-- the frames and the words of locals that a method wants above its own -/
def frs : Nat → Nat := fun i => match i with
  | 0 => 4
  | 1 => 3
  | 2 => 2
  | 3 => 1
  | 4 => 1
  | 5 => 3
  | 6 => 1
  | 7 => 2
  | 8 => 2
  | 9 => 7
  | 10 => 6
  | 11 => 4
  | 12 => 8
  | 13 => 7
  | 14 => 6
  | 15 => 4
  | 16 => 6
  | 17 => 5
  | 18 => 4
  | 19 => 3
  | 20 => 1
  | 21 => 2
  | 22 => 1
  | 23 => 8
  | 24 => 7
  | 25 => 4
  | 26 => 9
  | 27 => 8
  | 28 => 6
  | 29 => 3
  | 30 => 2
  | 31 => 1
  | 32 => 1
  | 33 => 7
  | 34 => 6
  | 35 => 6
  | 36 => 5
  | 37 => 4
  | 38 => 1
  | 39 => 9
  | 40 => 8
  | 41 => 7
  | 42 => 1
  | 43 => 9
  | 44 => 8
  | 45 => 7
  | 46 => 1
  | 47 => 9
  | 48 => 8
  | 49 => 4
  | 50 => 9
  | 51 => 8
  | 52 => 4
  | 53 => 1
  | 54 => 3
  | 55 => 1
  | 56 => 2
  | 57 => 1
  | 58 => 1
  | 59 => 11
  | 60 => 10
  | 61 => 9
  | 62 => 1
  | 63 => 5
  | 64 => 4
  | 65 => 1
  | 66 => 5
  | 67 => 4
  | 68 => 8
  | 69 => 7
  | 70 => 5
  | 71 => 4
  | 72 => 1
  | 73 => 4
  | 74 => 7
  | 75 => 8
  | 76 => 7
  | 77 => 12
  | 78 => 11
  | 79 => 7
  | 80 => 4
  | 81 => 3
  | 82 => 1
  | 83 => 10
  | 84 => 7
  | 85 => 9
  | 86 => 8
  | 87 => 7
  | 88 => 1
  | 89 => 6
  | 90 => 4
  | 91 => 9
  | 92 => 8
  | 93 => 4
  | 94 => 8
  | 95 => 7
  | 96 => 8
  | 97 => 7
  | 98 => 2
  | 99 => 8
  | 100 => 7
  | 101 => 1
  | 102 => 1
  | 103 => 2
  | 104 => 1
  | 105 => 2
  | 106 => 1
  | 107 => 2
  | 108 => 3
  | 109 => 2
  | 110 => 1
  | 111 => 1
  | 112 => 1
  | 113 => 1
  | 114 => 1
  | 115 => 3
  | 116 => 1
  | 117 => 3
  | 118 => 3
  | 119 => 2
  | 120 => 3
  | 121 => 1
  | 122 => 4
  | 123 => 3
  | 124 => 1
  | 125 => 1
  | 126 => 2
  | 127 => 1
  | 128 => 3
  | 129 => 2
  | 130 => 2
  | 131 => 2
  | 132 => 2
  | 133 => 5
  | 134 => 4
  | 135 => 2
  | 136 => 2
  | 137 => 2
  | 138 => 2
  | 139 => 1
  | _ => 13
def lcs : Nat → Nat := fun i => match i with
  | 0 => 80
  | 1 => 60
  | 2 => 40
  | 3 => 20
  | 4 => 20
  | 5 => 62
  | 6 => 20
  | 7 => 40
  | 8 => 40
  | 9 => 125
  | 10 => 102
  | 11 => 80
  | 12 => 193
  | 13 => 171
  | 14 => 90
  | 15 => 80
  | 16 => 150
  | 17 => 127
  | 18 => 107
  | 19 => 84
  | 20 => 40
  | 21 => 63
  | 22 => 40
  | 23 => 193
  | 24 => 171
  | 25 => 80
  | 26 => 157
  | 27 => 133
  | 28 => 90
  | 29 => 63
  | 30 => 42
  | 31 => 20
  | 32 => 20
  | 33 => 111
  | 34 => 90
  | 35 => 90
  | 36 => 106
  | 37 => 84
  | 38 => 20
  | 39 => 221
  | 40 => 195
  | 41 => 171
  | 42 => 20
  | 43 => 197
  | 44 => 171
  | 45 => 111
  | 46 => 20
  | 47 => 158
  | 48 => 133
  | 49 => 84
  | 50 => 159
  | 51 => 133
  | 52 => 105
  | 53 => 20
  | 54 => 83
  | 55 => 20
  | 56 => 62
  | 57 => 40
  | 58 => 20
  | 59 => 260
  | 60 => 238
  | 61 => 215
  | 62 => 20
  | 63 => 108
  | 64 => 84
  | 65 => 20
  | 66 => 106
  | 67 => 84
  | 68 => 192
  | 69 => 171
  | 70 => 107
  | 71 => 84
  | 72 => 20
  | 73 => 84
  | 74 => 171
  | 75 => 133
  | 76 => 111
  | 77 => 282
  | 78 => 259
  | 79 => 111
  | 80 => 86
  | 81 => 63
  | 82 => 40
  | 83 => 236
  | 84 => 171
  | 85 => 215
  | 86 => 195
  | 87 => 171
  | 88 => 20
  | 89 => 128
  | 90 => 84
  | 91 => 155
  | 92 => 133
  | 93 => 84
  | 94 => 133
  | 95 => 111
  | 96 => 134
  | 97 => 111
  | 98 => 41
  | 99 => 132
  | 100 => 111
  | 101 => 20
  | 102 => 20
  | 103 => 42
  | 104 => 20
  | 105 => 42
  | 106 => 20
  | 107 => 42
  | 108 => 65
  | 109 => 42
  | 110 => 20
  | 111 => 20
  | 112 => 20
  | 113 => 20
  | 114 => 20
  | 115 => 65
  | 116 => 20
  | 117 => 65
  | 118 => 68
  | 119 => 42
  | 120 => 68
  | 121 => 20
  | 122 => 91
  | 123 => 68
  | 124 => 20
  | 125 => 20
  | 126 => 43
  | 127 => 20
  | 128 => 68
  | 129 => 43
  | 130 => 43
  | 131 => 43
  | 132 => 42
  | 133 => 116
  | 134 => 91
  | 135 => 42
  | 136 => 42
  | 137 => 42
  | 138 => 42
  | 139 => 20
  | _ => 306
/-- FarStore.<init>()V -/
def cd_0 : List (Nat × (OI × Nat)) := [(0, (.inl (.aload_n 0), 1)), (1, (.inr (7, 0, 0, 0, 0), 3)), (4, (.inl (.aload_n 0), 1)), (5, (.inl (.iconst 0), 1)), (6, (.inr (3, 3, 0, 0, 0), 3)), (9, (.inr (1, 0, 0, 3, 0), 3)), (12, (.inl (.aload_n 0), 1)), (13, (.inr (2, 8, 3, 0, 0), 3)), (16, (.inl .dup, 1)), (17, (.inr (17, 1, 1, 2, 0), 3)), (20, (.inr (1, 0, 1, 3, 0), 3)), (23, (.inl (.aload_n 0), 1)), (24, (.inr (2, 8, 3, 0, 0), 3)), (27, (.inl .dup, 1)), (28, (.inr (17, 1, 1, 2, 0), 3)), (31, (.inr (1, 0, 2, 3, 0), 3)), (34, (.inl (.aload_n 0), 1)), (35, (.inr (2, 1, 3, 0, 0), 3)), (38, (.inl .dup, 1)), (39, (.inr (17, 4, 1, 2, 0), 3)), (42, (.inr (1, 0, 3, 3, 0), 3)), (45, (.inl .return_, 1))]
/-- java/util/ArrayList.<init>()V -/
def cd_1 : List (Nat × (OI × Nat)) := [(0, (.inl (.aload_n 0), 1)), (1, (.inr (17, 2, 1, 2, 0), 3)), (4, (.inl (.aload_n 0), 1)), (5, (.inr (6, 0, 0, 0, 0), 3)), (8, (.inr (1, 8, 0, 3, 0), 3)), (11, (.inl .return_, 1))]
/-- java/util/AbstractList.<init>()V -/
def cd_2 : List (Nat × (OI × Nat)) := [(0, (.inl (.aload_n 0), 1)), (1, (.inr (17, 3, 1, 2, 0), 3)), (4, (.inl (.aload_n 0), 1)), (5, (.inl (.iconst 0), 1)), (6, (.inr (1, 8, 2, 0, 0), 3)), (9, (.inl .return_, 1))]
/-- java/util/AbstractCollection.<init>()V -/
def cd_3 : List (Nat × (OI × Nat)) := [(0, (.inl (.aload_n 0), 1)), (1, (.inr (7, 0, 0, 0, 0), 3)), (4, (.inl .return_, 1))]
/-- FarStore$Tally.<init>()V -/
def cd_4 : List (Nat × (OI × Nat)) := [(0, (.inl (.aload_n 0), 1)), (1, (.inr (7, 0, 0, 0, 0), 3)), (4, (.inl (.aload_n 0), 1)), (5, (.inl (.bipush 16), 2)), (7, (.inl (.newarray .int), 2)), (9, (.inr (1, 1, 0, 3, 0), 3)), (12, (.inl (.aload_n 0), 1)), (13, (.inl (.bipush 16), 2)), (15, (.inl (.newarray .int), 2)), (17, (.inr (1, 1, 1, 3, 0), 3)), (20, (.inl .return_, 1))]
/-- FarStore.count(I)I -/
def cd_5 : List (Nat × (OI × Nat)) := [(0, (.inl (.iload_n 1), 1)), (1, (.inl (.tableswitch 76 0 5 #[39, 45, 53, 61, 66, 71]), 39)), (40, (.inl (.aload_n 0), 1)), (41, (.inr (0, 0, 0, 0, 0), 3)), (44, (.inl .arraylength, 1)), (45, (.inl .ireturn, 1)), (46, (.inl (.aload_n 0), 1)), (47, (.inr (0, 0, 1, 0, 0), 3)), (50, (.inr (17, 6, 1, 1, 8), 3)), (53, (.inl .ireturn, 1)), (54, (.inl (.aload_n 0), 1)), (55, (.inr (0, 0, 2, 0, 0), 3)), (58, (.inr (17, 6, 1, 1, 8), 3)), (61, (.inl .ireturn, 1)), (62, (.inl (.aload_n 0), 1)), (63, (.inr (0, 0, 5, 0, 0), 3)), (66, (.inl .ireturn, 1)), (67, (.inl (.aload_n 0), 1)), (68, (.inr (17, 7, 1, 1, 0), 3)), (71, (.inl .ireturn, 1)), (72, (.inl (.aload_n 0), 1)), (73, (.inr (17, 8, 1, 1, 0), 3)), (76, (.inl .ireturn, 1)), (77, (.inl (.iconst (-1)), 1)), (78, (.inl .ireturn, 1))]
/-- java/util/ArrayList.size()I -/
def cd_6 : List (Nat × (OI × Nat)) := [(0, (.inl (.aload_n 0), 1)), (1, (.inr (0, 8, 1, 0, 0), 3)), (4, (.inl .ireturn, 1))]
/-- FarStore.commitsHeld()I -/
def cd_7 : List (Nat × (OI × Nat)) := [(0, (.inl (.iconst 0), 1)), (1, (.inl (.istore_n 1), 1)), (2, (.inl (.iconst 0), 1)), (3, (.inl (.istore_n 2), 1)), (4, (.inl (.iload_n 2), 1)), (5, (.inl (.aload_n 0), 1)), (6, (.inr (0, 0, 0, 0, 0), 3)), (9, (.inl .arraylength, 1)), (10, (.inl (.if_icmp .ge 24), 3)), (13, (.inl (.iload_n 1), 1)), (14, (.inl (.aload_n 0), 1)), (15, (.inr (0, 0, 0, 0, 0), 3)), (18, (.inl (.iload_n 2), 1)), (19, (.inl .aaload, 1)), (20, (.inr (0, 2, 2, 0, 0), 3)), (23, (.inr (17, 6, 1, 1, 8), 3)), (26, (.inl .iadd, 1)), (27, (.inl (.istore_n 1), 1)), (28, (.inl (.iinc 2 1), 3)), (31, (.inl (.goto (-27)), 3)), (34, (.inl (.iload_n 1), 1)), (35, (.inl .ireturn, 1))]
/-- FarStore.messagesWaiting()I -/
def cd_8 : List (Nat × (OI × Nat)) := [(0, (.inl (.iconst 0), 1)), (1, (.inl (.istore_n 1), 1)), (2, (.inl (.iconst 0), 1)), (3, (.inl (.istore_n 2), 1)), (4, (.inl (.iload_n 2), 1)), (5, (.inl (.aload_n 0), 1)), (6, (.inr (0, 0, 0, 0, 0), 3)), (9, (.inl .arraylength, 1)), (10, (.inl (.if_icmp .ge 24), 3)), (13, (.inl (.iload_n 1), 1)), (14, (.inl (.aload_n 0), 1)), (15, (.inr (0, 0, 0, 0, 0), 3)), (18, (.inl (.iload_n 2), 1)), (19, (.inl .aaload, 1)), (20, (.inr (0, 2, 3, 0, 0), 3)), (23, (.inr (17, 6, 1, 1, 8), 3)), (26, (.inl .iadd, 1)), (27, (.inl (.istore_n 1), 1)), (28, (.inl (.iinc 2 1), 3)), (31, (.inl (.goto (-27)), 3)), (34, (.inl (.iload_n 1), 1)), (35, (.inl .ireturn, 1))]
/-- FarStoreLaw.sites(LFarStore;I)I -/
def cd_9 : List (Nat × (OI × Nat)) := [(0, (.inl (.aload_n 0), 1)), (1, (.inl (.iload_n 1), 1)), (2, (.inr (17, 10, 2, 1, 0), 3)), (5, (.inl (.goto 9), 3)), (8, (.inl (.astore_n 2), 1)), (9, (.inl (.iconst 1), 1)), (10, (.inl .ireturn, 1)), (11, (.inl (.astore_n 2), 1)), (12, (.inl (.iconst 2), 1)), (13, (.inl .ireturn, 1)), (14, (.inl (.iconst 0), 1)), (15, (.inl .ireturn, 1))]
/-- FarStore.sites(I)V -/
def cd_10 : List (Nat × (OI × Nat)) := [(0, (.inl (.iload_n 1), 1)), (1, (.inl (.iconst 1), 1)), (2, (.inl (.if_icmp .lt 9), 3)), (5, (.inl (.iload_n 1), 1)), (6, (.inl (.bipush 6), 2)), (8, (.inl (.if_icmp .le 13), 3)), (11, (.inr (16, 10, 0, 0, 0), 10)), (21, (.inl (.aload_n 0), 1)), (22, (.inr (0, 0, 0, 0, 0), 3)), (25, (.inl .arraylength, 1)), (26, (.inl (.ifCond .le 13), 3)), (29, (.inr (16, 11, 0, 0, 0), 10)), (39, (.inl (.iload_n 1), 1)), (40, (.inr (3, 3, 0, 0, 0), 3)), (43, (.inl (.astore_n 2), 1)), (44, (.inl (.iconst 0), 1)), (45, (.inl (.istore_n 3), 1)), (46, (.inl (.iload_n 3), 1)), (47, (.inl (.iload_n 1), 1)), (48, (.inl (.if_icmp .ge 21), 3)), (51, (.inl (.aload_n 2), 1)), (52, (.inl (.iload_n 3), 1)), (53, (.inr (2, 2, 4, 0, 0), 3)), (56, (.inl .dup, 1)), (57, (.inl (.iload_n 3), 1)), (58, (.inl (.iload_n 1), 1)), (59, (.inr (17, 11, 3, 2, 0), 3)), (62, (.inl .aastore, 1)), (63, (.inl (.iinc 3 1), 3)), (66, (.inl (.goto (-20)), 3)), (69, (.inl (.aload_n 0), 1)), (70, (.inl (.aload_n 2), 1)), (71, (.inr (1, 0, 0, 3, 0), 3)), (74, (.inl .return_, 1))]
/-- FarStore$Site.<init>(II)V -/
def cd_11 : List (Nat × (OI × Nat)) := [(0, (.inl (.aload_n 0), 1)), (1, (.inr (7, 0, 0, 0, 0), 3)), (4, (.inl (.aload_n 0), 1)), (5, (.inl (.iload_n 1), 1)), (6, (.inr (1, 2, 0, 0, 0), 3)), (9, (.inl (.aload_n 0), 1)), (10, (.inl (.iload_n 2), 1)), (11, (.inl (.newarray .int), 2)), (13, (.inr (1, 2, 1, 3, 0), 3)), (16, (.inl (.aload_n 0), 1)), (17, (.inr (2, 8, 3, 0, 0), 3)), (20, (.inl .dup, 1)), (21, (.inr (17, 1, 1, 2, 0), 3)), (24, (.inr (1, 2, 2, 3, 0), 3)), (27, (.inl (.aload_n 0), 1)), (28, (.inr (2, 8, 3, 0, 0), 3)), (31, (.inl .dup, 1)), (32, (.inr (17, 1, 1, 2, 0), 3)), (35, (.inr (1, 2, 3, 3, 0), 3)), (38, (.inl .return_, 1))]
/-- FarStoreLaw.object(LFarStore;IZ[J)I -/
def cd_12 : List (Nat × (OI × Nat)) := [(0, (.inl (.aload_n 3), 1)), (1, (.inl (.iconst 0), 1)), (2, (.inl (.aload_n 0), 1)), (3, (.inl (.iload_n 1), 1)), (4, (.inl (.iload_n 2), 1)), (5, (.inr (17, 13, 3, 1, 0), 3)), (8, (.inl .i2l, 1)), (9, (.inl .lastore, 1)), (10, (.inl (.goto 11), 3)), (13, (.inl (.astore 4), 2)), (15, (.inl (.iconst 1), 1)), (16, (.inl .ireturn, 1)), (17, (.inl (.astore 4), 2)), (19, (.inl (.iconst 2), 1)), (20, (.inl .ireturn, 1)), (21, (.inl (.iconst 0), 1)), (22, (.inl .ireturn, 1))]
/-- FarStore.object(IZ)I -/
def cd_13 : List (Nat × (OI × Nat)) := [(0, (.inl (.aload_n 0), 1)), (1, (.inl (.iload_n 1), 1)), (2, (.inr (17, 14, 2, 1, 0), 3)), (5, (.inl (.aload_n 0), 1)), (6, (.inr (0, 0, 1, 0, 0), 3)), (9, (.inr (17, 6, 1, 1, 8), 3)), (12, (.inl (.sipush 200), 3)), (15, (.inl (.if_icmp .lt 13), 3)), (18, (.inr (16, 11, 0, 0, 0), 10)), (28, (.inl (.aload_n 0), 1)), (29, (.inr (0, 0, 1, 0, 0), 3)), (32, (.inr (2, 3, 5, 0, 0), 3)), (35, (.inl .dup, 1)), (36, (.inl (.iload_n 1), 1)), (37, (.inl (.iload_n 2), 1)), (38, (.inr (17, 15, 3, 2, 0), 3)), (41, (.inr (17, 16, 2, 1, 8), 3)), (44, (.inl .pop, 1)), (45, (.inl (.aload_n 0), 1)), (46, (.inr (0, 0, 1, 0, 0), 3)), (49, (.inr (17, 6, 1, 1, 8), 3)), (52, (.inl (.iconst 1), 1)), (53, (.inl .isub, 1)), (54, (.inl .ireturn, 1))]
/-- FarStore.needSite(I)V -/
def cd_14 : List (Nat × (OI × Nat)) := [(0, (.inl (.iload_n 1), 1)), (1, (.inl (.ifCond .lt 12), 3)), (4, (.inl (.iload_n 1), 1)), (5, (.inl (.aload_n 0), 1)), (6, (.inr (0, 0, 0, 0, 0), 3)), (9, (.inl .arraylength, 1)), (10, (.inl (.if_icmp .lt 13), 3)), (13, (.inr (16, 10, 0, 0, 0), 10)), (23, (.inl .return_, 1))]
/-- FarStore$Item.<init>(IZ)V -/
def cd_15 : List (Nat × (OI × Nat)) := [(0, (.inl (.aload_n 0), 1)), (1, (.inr (7, 0, 0, 0, 0), 3)), (4, (.inl (.aload_n 0), 1)), (5, (.inl (.iload_n 1), 1)), (6, (.inr (1, 3, 0, 0, 0), 3)), (9, (.inl (.aload_n 0), 1)), (10, (.inl (.iload_n 2), 1)), (11, (.inr (1, 3, 1, 1, 0), 3)), (14, (.inl (.aload_n 0), 1)), (15, (.inr (2, 8, 3, 0, 0), 3)), (18, (.inl .dup, 1)), (19, (.inr (17, 1, 1, 2, 0), 3)), (22, (.inr (1, 3, 2, 3, 0), 3)), (25, (.inl (.aload_n 0), 1)), (26, (.inr (2, 8, 3, 0, 0), 3)), (29, (.inl .dup, 1)), (30, (.inr (17, 1, 1, 2, 0), 3)), (33, (.inr (1, 3, 3, 3, 0), 3)), (36, (.inl (.aload_n 0), 1)), (37, (.inl (.iconst (-1)), 1)), (38, (.inr (1, 3, 4, 0, 0), 3)), (41, (.inl .return_, 1))]
/-- java/util/ArrayList.add(Ljava/lang/Object;)Z -/
def cd_16 : List (Nat × (OI × Nat)) := [(0, (.inl (.aload_n 0), 1)), (1, (.inl .dup, 1)), (2, (.inr (0, 8, 2, 0, 0), 3)), (5, (.inl (.iconst 1), 1)), (6, (.inl .iadd, 1)), (7, (.inr (1, 8, 2, 0, 0), 3)), (10, (.inl (.aload_n 0), 1)), (11, (.inl (.aload_n 1), 1)), (12, (.inl (.aload_n 0), 1)), (13, (.inr (0, 8, 0, 0, 0), 3)), (16, (.inl (.aload_n 0), 1)), (17, (.inr (0, 8, 1, 0, 0), 3)), (20, (.inr (17, 17, 4, 1, 8), 3)), (23, (.inl (.iconst 1), 1)), (24, (.inl .ireturn, 1))]
/-- java/util/ArrayList.add(Ljava/lang/Object;[Ljava/lang/Object;I)V -/
def cd_17 : List (Nat × (OI × Nat)) := [(0, (.inl (.iload_n 3), 1)), (1, (.inl (.aload_n 2), 1)), (2, (.inl .arraylength, 1)), (3, (.inl (.if_icmp .ne 8), 3)), (6, (.inl (.aload_n 0), 1)), (7, (.inr (17, 18, 1, 1, 8), 3)), (10, (.inl (.astore_n 2), 1)), (11, (.inl (.aload_n 2), 1)), (12, (.inl (.iload_n 3), 1)), (13, (.inl (.aload_n 1), 1)), (14, (.inl .aastore, 1)), (15, (.inl (.aload_n 0), 1)), (16, (.inl (.iload_n 3), 1)), (17, (.inl (.iconst 1), 1)), (18, (.inl .iadd, 1)), (19, (.inr (1, 8, 1, 0, 0), 3)), (22, (.inl .return_, 1))]
/-- java/util/ArrayList.grow()[Ljava/lang/Object; -/
def cd_18 : List (Nat × (OI × Nat)) := [(0, (.inl (.aload_n 0), 1)), (1, (.inl (.aload_n 0), 1)), (2, (.inr (0, 8, 1, 0, 0), 3)), (5, (.inl (.iconst 1), 1)), (6, (.inl .iadd, 1)), (7, (.inr (17, 19, 2, 1, 8), 3)), (10, (.inl .areturn, 1))]
/-- java/util/ArrayList.grow(I)[Ljava/lang/Object; -/
def cd_19 : List (Nat × (OI × Nat)) := [(0, (.inl (.aload_n 0), 1)), (1, (.inr (0, 8, 0, 0, 0), 3)), (4, (.inl .arraylength, 1)), (5, (.inl (.istore_n 2), 1)), (6, (.inl (.iload_n 2), 1)), (7, (.inl (.ifCond .gt 13), 3)), (10, (.inl (.aload_n 0), 1)), (11, (.inr (0, 8, 0, 0, 0), 3)), (14, (.inr (6, 0, 0, 0, 0), 3)), (17, (.inl (.if_acmp .eq 28), 3)), (20, (.inl (.iload_n 2), 1)), (21, (.inl (.iload_n 1), 1)), (22, (.inl (.iload_n 2), 1)), (23, (.inl .isub, 1)), (24, (.inl (.iload_n 2), 1)), (25, (.inl (.iconst 1), 1)), (26, (.inl .ishr, 1)), (27, (.inr (17, 20, 3, 0, 0), 3)), (30, (.inl (.istore_n 3), 1)), (31, (.inl (.aload_n 0), 1)), (32, (.inl (.aload_n 0), 1)), (33, (.inr (0, 8, 0, 0, 0), 3)), (36, (.inl (.iload_n 3), 1)), (37, (.inr (17, 21, 2, 0, 0), 3)), (40, (.inl .dup_x1, 1)), (41, (.inr (1, 8, 0, 3, 0), 3)), (44, (.inl .areturn, 1)), (45, (.inl (.aload_n 0), 1)), (46, (.inl (.bipush 10), 2)), (48, (.inl (.iload_n 1), 1)), (49, (.inr (11, 0, 0, 0, 0), 3)), (52, (.inr (3, 4, 0, 0, 0), 3)), (55, (.inl .dup_x1, 1)), (56, (.inr (1, 8, 0, 3, 0), 3)), (59, (.inl .areturn, 1))]
/-- jdk/internal/util/ArraysSupport.newLength(III)I -/
def cd_20 : List (Nat × (OI × Nat)) := [(0, (.inl (.iload_n 0), 1)), (1, (.inl (.iload_n 1), 1)), (2, (.inl (.iload_n 2), 1)), (3, (.inr (11, 0, 0, 0, 0), 3)), (6, (.inl .iadd, 1)), (7, (.inl (.istore_n 3), 1)), (8, (.inl (.iconst 0), 1)), (9, (.inl (.iload_n 3), 1)), (10, (.inl (.if_icmp .ge 11), 3)), (13, (.inl (.iload_n 3), 1)), (14, (.inr (18, 2147483639, 0, 0, 0), 2)), (16, (.inl (.if_icmp .gt 5), 3)), (19, (.inl (.iload_n 3), 1)), (20, (.inl .ireturn, 1)), (21, (.inl (.iload_n 0), 1)), (22, (.inl (.iload_n 1), 1)), (26, (.inl .ireturn, 1))]
/-- java/util/Arrays.copyOf([Ljava/lang/Object;I)[Ljava/lang/Object; -/
def cd_21 : List (Nat × (OI × Nat)) := [(0, (.inl (.aload_n 0), 1)), (1, (.inl (.iload_n 1), 1)), (2, (.inl (.aload_n 0), 1)), (3, (.inr (13, 0, 0, 0, 0), 3)), (6, (.inr (17, 22, 3, 0, 0), 3)), (9, (.inl .areturn, 1))]
/-- java/util/Arrays.copyOf([Ljava/lang/Object;ILjava/lang/Class;)[Ljava/lang/Object; -/
def cd_22 : List (Nat × (OI × Nat)) := [(0, (.inl (.aload_n 2), 1)), (1, (.inr (14, 0, 0, 0, 0), 2)), (3, (.inl (.if_acmp .ne 10), 3)), (6, (.inl (.iload_n 1), 1)), (7, (.inr (3, 4, 0, 0, 0), 3)), (10, (.inl (.goto 14), 3)), (13, (.inl (.aload_n 2), 1)), (17, (.inl (.iload_n 1), 1)), (21, (.inr (5, 4, 0, 0, 0), 3)), (24, (.inl (.astore_n 3), 1)), (25, (.inl (.aload_n 0), 1)), (26, (.inl (.iconst 0), 1)), (27, (.inl (.aload_n 3), 1)), (28, (.inl (.iconst 0), 1)), (29, (.inl (.aload_n 0), 1)), (30, (.inl .arraylength, 1)), (31, (.inl (.iload_n 1), 1)), (32, (.inr (12, 0, 0, 0, 0), 3)), (35, (.inr (9, 0, 0, 0, 0), 3)), (38, (.inl (.aload_n 3), 1)), (39, (.inl .areturn, 1))]
/-- FarStoreLaw.begin(LFarStore;I[J)I -/
def cd_23 : List (Nat × (OI × Nat)) := [(0, (.inl (.aload_n 2), 1)), (1, (.inl (.iconst 0), 1)), (2, (.inl (.aload_n 0), 1)), (3, (.inl (.iload_n 1), 1)), (4, (.inr (17, 24, 2, 1, 0), 3)), (7, (.inl .i2l, 1)), (8, (.inl .lastore, 1)), (9, (.inl (.goto 9), 3)), (12, (.inl (.astore_n 3), 1)), (13, (.inl (.iconst 1), 1)), (14, (.inl .ireturn, 1)), (15, (.inl (.astore_n 3), 1)), (16, (.inl (.iconst 2), 1)), (17, (.inl .ireturn, 1)), (18, (.inl (.iconst 0), 1)), (19, (.inl .ireturn, 1))]
/-- FarStore.begin(I)I -/
def cd_24 : List (Nat × (OI × Nat)) := [(0, (.inl (.aload_n 0), 1)), (1, (.inl (.iload_n 1), 1)), (2, (.inr (17, 14, 2, 1, 0), 3)), (5, (.inl (.aload_n 0), 1)), (6, (.inr (0, 0, 2, 0, 0), 3)), (9, (.inr (17, 6, 1, 1, 8), 3)), (12, (.inl (.istore_n 2), 1)), (13, (.inl (.iload_n 2), 1)), (14, (.inl (.sipush 500), 3)), (17, (.inl (.if_icmp .lt 13), 3)), (20, (.inr (16, 11, 0, 0, 0), 10)), (30, (.inl (.aload_n 0), 1)), (31, (.inr (0, 0, 2, 0, 0), 3)), (34, (.inr (2, 4, 8, 0, 0), 3)), (37, (.inl .dup, 1)), (38, (.inl (.iload_n 2), 1)), (39, (.inl (.iload_n 1), 1)), (40, (.inl (.aload_n 0), 1)), (41, (.inr (0, 0, 0, 0, 0), 3)), (44, (.inl (.iload_n 1), 1)), (45, (.inl .aaload, 1)), (46, (.inr (0, 2, 1, 0, 0), 3)), (49, (.inr (17, 25, 4, 2, 0), 3)), (52, (.inr (17, 16, 2, 1, 8), 3)), (55, (.inl .pop, 1)), (56, (.inl (.iload_n 2), 1)), (57, (.inl .ireturn, 1))]
/-- FarStore$Transaction.<init>(II[I)V -/
def cd_25 : List (Nat × (OI × Nat)) := [(0, (.inl (.aload_n 0), 1)), (1, (.inr (7, 0, 0, 0, 0), 3)), (4, (.inl (.aload_n 0), 1)), (5, (.inl (.iload_n 1), 1)), (6, (.inr (1, 4, 0, 0, 0), 3)), (9, (.inl (.aload_n 0), 1)), (10, (.inl (.iload_n 2), 1)), (11, (.inr (1, 4, 1, 0, 0), 3)), (14, (.inl (.aload_n 0), 1)), (15, (.inl (.aload_n 3), 1)), (16, (.inr (10, 0, 0, 0, 0), 3)), (19, (.inr (5, 0, 0, 0, 0), 3)), (22, (.inr (1, 4, 2, 3, 0), 3)), (25, (.inl (.aload_n 0), 1)), (26, (.inr (2, 8, 3, 0, 0), 3)), (29, (.inl .dup, 1)), (30, (.inr (17, 1, 1, 2, 0), 3)), (33, (.inr (1, 4, 3, 3, 0), 3)), (36, (.inl (.aload_n 0), 1)), (37, (.inr (2, 8, 3, 0, 0), 3)), (40, (.inl .dup, 1)), (41, (.inr (17, 1, 1, 2, 0), 3)), (44, (.inr (1, 4, 4, 3, 0), 3)), (47, (.inl (.aload_n 0), 1)), (48, (.inl (.iconst 0), 1)), (49, (.inr (1, 4, 5, 0, 0), 3)), (52, (.inl .return_, 1))]
/-- FarStoreLaw.read(LFarStore;II[J)I -/
def cd_26 : List (Nat × (OI × Nat)) := [(0, (.inl (.aload_n 3), 1)), (1, (.inl (.iconst 0), 1)), (2, (.inl (.aload_n 0), 1)), (3, (.inl (.iload_n 1), 1)), (4, (.inl (.iload_n 2), 1)), (5, (.inr (17, 27, 3, 1, 0), 3)), (8, (.inl .lastore, 1)), (9, (.inl (.goto 11), 3)), (12, (.inl (.astore 4), 2)), (14, (.inl (.iconst 1), 1)), (15, (.inl .ireturn, 1)), (16, (.inl (.astore 4), 2)), (18, (.inl (.iconst 2), 1)), (19, (.inl .ireturn, 1)), (20, (.inl (.iconst 0), 1)), (21, (.inl .ireturn, 1))]
/-- FarStore.read(II)J -/
def cd_27 : List (Nat × (OI × Nat)) := [(0, (.inl (.aload_n 0), 1)), (1, (.inl (.iload_n 1), 1)), (2, (.inr (17, 28, 2, 1, 0), 3)), (5, (.inl (.astore_n 3), 1)), (6, (.inl (.aload_n 0), 1)), (7, (.inl (.iload_n 2), 1)), (8, (.inr (17, 33, 2, 1, 0), 3)), (11, (.inl (.astore 4), 2)), (13, (.inl (.aload_n 0), 1)), (14, (.inl (.aload_n 3), 1)), (15, (.inr (17, 35, 2, 1, 0), 3)), (18, (.inl (.aload_n 3), 1)), (19, (.inl (.aload 4), 2)), (21, (.inr (17, 36, 2, 1, 4), 3)), (24, (.inl .lreturn, 1))]
/-- FarStore.transactionOf(I)LFarStore$Transaction; -/
def cd_28 : List (Nat × (OI × Nat)) := [(0, (.inl (.iload_n 1), 1)), (1, (.inl (.ifCond .lt 14), 3)), (4, (.inl (.iload_n 1), 1)), (5, (.inl (.aload_n 0), 1)), (6, (.inr (0, 0, 2, 0, 0), 3)), (9, (.inr (17, 6, 1, 1, 8), 3)), (12, (.inl (.if_icmp .lt 13), 3)), (15, (.inr (16, 10, 0, 0, 0), 10)), (25, (.inl (.aload_n 0), 1)), (26, (.inr (0, 0, 2, 0, 0), 3)), (29, (.inl (.iload_n 1), 1)), (30, (.inr (17, 29, 2, 1, 8), 3)), (33, (.inr (4, 4, 0, 0, 0), 3)), (36, (.inl .areturn, 1))]
/-- java/util/ArrayList.get(I)Ljava/lang/Object; -/
def cd_29 : List (Nat × (OI × Nat)) := [(0, (.inl (.iload_n 1), 1)), (1, (.inl (.aload_n 0), 1)), (2, (.inr (0, 8, 1, 0, 0), 3)), (5, (.inr (17, 30, 2, 0, 0), 3)), (8, (.inl .pop, 1)), (9, (.inl (.aload_n 0), 1)), (10, (.inl (.iload_n 1), 1)), (11, (.inr (17, 32, 2, 1, 8), 3)), (14, (.inl .areturn, 1))]
/-- java/util/Objects.checkIndex(II)I -/
def cd_30 : List (Nat × (OI × Nat)) := [(0, (.inl (.iload_n 0), 1)), (1, (.inl (.iload_n 1), 1)), (2, (.inl .aconst_null, 1)), (3, (.inr (17, 31, 3, 0, 0), 3)), (6, (.inl .ireturn, 1))]
/-- jdk/internal/util/Preconditions.checkIndex(IILjava/util/function/BiFunction;)I -/
def cd_31 : List (Nat × (OI × Nat)) := [(0, (.inl (.iload_n 0), 1)), (1, (.inl (.ifCond .lt 8), 3)), (4, (.inl (.iload_n 0), 1)), (5, (.inl (.iload_n 1), 1)), (6, (.inl (.if_icmp .lt 10), 3)), (9, (.inl (.aload_n 2), 1)), (10, (.inl (.iload_n 0), 1)), (11, (.inl (.iload_n 1), 1)), (16, (.inl (.iload_n 0), 1)), (17, (.inl .ireturn, 1))]
/-- java/util/ArrayList.elementData(I)Ljava/lang/Object; -/
def cd_32 : List (Nat × (OI × Nat)) := [(0, (.inl (.aload_n 0), 1)), (1, (.inr (0, 8, 0, 0, 0), 3)), (4, (.inl (.iload_n 1), 1)), (5, (.inl .aaload, 1)), (6, (.inl .areturn, 1))]
/-- FarStore.plainItem(I)LFarStore$Item; -/
def cd_33 : List (Nat × (OI × Nat)) := [(0, (.inl (.aload_n 0), 1)), (1, (.inl (.iload_n 1), 1)), (2, (.inr (17, 34, 2, 1, 0), 3)), (5, (.inl (.astore_n 2), 1)), (6, (.inl (.aload_n 2), 1)), (7, (.inr (0, 3, 1, 0, 0), 3)), (10, (.inl (.ifCond .eq 13), 3)), (13, (.inr (16, 10, 0, 0, 0), 10)), (23, (.inl (.aload_n 2), 1)), (24, (.inl .areturn, 1))]
/-- FarStore.itemOf(I)LFarStore$Item; -/
def cd_34 : List (Nat × (OI × Nat)) := [(0, (.inl (.iload_n 1), 1)), (1, (.inl (.ifCond .lt 14), 3)), (4, (.inl (.iload_n 1), 1)), (5, (.inl (.aload_n 0), 1)), (6, (.inr (0, 0, 1, 0, 0), 3)), (9, (.inr (17, 6, 1, 1, 8), 3)), (12, (.inl (.if_icmp .lt 13), 3)), (15, (.inr (16, 10, 0, 0, 0), 10)), (25, (.inl (.aload_n 0), 1)), (26, (.inr (0, 0, 1, 0, 0), 3)), (29, (.inl (.iload_n 1), 1)), (30, (.inr (17, 29, 2, 1, 8), 3)), (33, (.inr (4, 3, 0, 0, 0), 3)), (36, (.inl .areturn, 1))]
/-- FarStore.needOpen(LFarStore$Transaction;)V -/
def cd_35 : List (Nat × (OI × Nat)) := [(0, (.inl (.aload_n 1), 1)), (1, (.inr (0, 4, 5, 0, 0), 3)), (4, (.inl (.ifCond .eq 13), 3)), (7, (.inr (16, 11, 0, 0, 0), 10)), (17, (.inl .return_, 1))]
/-- FarStore$Transaction.valueOf(LFarStore$Item;)J -/
def cd_36 : List (Nat × (OI × Nat)) := [(0, (.inl (.aload_n 0), 1)), (1, (.inl (.aload_n 1), 1)), (2, (.inr (17, 37, 2, 1, 4), 3)), (5, (.inl (.astore_n 2), 1)), (6, (.inl (.aload_n 2), 1)), (7, (.inl (.ifnull 8), 3)), (10, (.inl (.aload_n 2), 1)), (11, (.inr (0, 5, 2, 0, 0), 3)), (14, (.inl .lreturn, 1)), (15, (.inl (.aload_n 1), 1)), (16, (.inr (0, 3, 2, 0, 0), 3)), (19, (.inr (17, 6, 1, 1, 8), 3)), (22, (.inl (.iconst 1), 1)), (23, (.inl .isub, 1)), (24, (.inl (.istore_n 3), 1)), (25, (.inl (.iload_n 3), 1)), (26, (.inl (.ifCond .lt 40), 3)), (29, (.inl (.aload_n 1), 1)), (30, (.inr (0, 3, 2, 0, 0), 3)), (33, (.inl (.iload_n 3), 1)), (34, (.inr (17, 29, 2, 1, 8), 3)), (37, (.inr (4, 5, 0, 0, 0), 3)), (40, (.inl (.astore 4), 2)), (42, (.inl (.aload_n 0), 1)), (43, (.inl (.aload 4), 2)), (45, (.inr (0, 5, 0, 0, 0), 3)), (48, (.inr (17, 38, 2, 1, 4), 3)), (51, (.inl (.ifCond .eq 9), 3)), (54, (.inl (.aload 4), 2)), (56, (.inr (0, 5, 2, 0, 0), 3)), (59, (.inl .lreturn, 1)), (60, (.inl (.iinc 3 (-1)), 3)), (63, (.inl (.goto (-38)), 3)), (66, (.inl (.lconst 0), 1)), (67, (.inl .lreturn, 1))]
/-- FarStore$Transaction.ownWrite(LFarStore$Item;)LFarStore$Write; -/
def cd_37 : List (Nat × (OI × Nat)) := [(0, (.inl (.iconst 0), 1)), (1, (.inl (.istore_n 2), 1)), (2, (.inl (.iload_n 2), 1)), (3, (.inl (.aload_n 0), 1)), (4, (.inr (0, 4, 3, 0, 0), 3)), (7, (.inr (17, 6, 1, 1, 8), 3)), (10, (.inl (.if_icmp .ge 39), 3)), (13, (.inl (.aload_n 0), 1)), (14, (.inr (0, 4, 3, 0, 0), 3)), (17, (.inl (.iload_n 2), 1)), (18, (.inr (17, 29, 2, 1, 8), 3)), (21, (.inr (4, 5, 0, 0, 0), 3)), (24, (.inr (0, 5, 1, 0, 0), 3)), (27, (.inl (.aload_n 1), 1)), (28, (.inl (.if_acmp .ne 15), 3)), (31, (.inl (.aload_n 0), 1)), (32, (.inr (0, 4, 3, 0, 0), 3)), (35, (.inl (.iload_n 2), 1)), (36, (.inr (17, 29, 2, 1, 8), 3)), (39, (.inr (4, 5, 0, 0, 0), 3)), (42, (.inl .areturn, 1)), (43, (.inl (.iinc 2 1), 3)), (46, (.inl (.goto (-44)), 3)), (49, (.inl .aconst_null, 1)), (50, (.inl .areturn, 1))]
/-- FarStore$Transaction.sees(LFarStore$Transaction;)Z -/
def cd_38 : List (Nat × (OI × Nat)) := [(0, (.inl (.aload_n 1), 1)), (1, (.inr (0, 4, 6, 0, 0), 3)), (4, (.inl (.ifCond .le 23), 3)), (7, (.inl (.aload_n 1), 1)), (8, (.inr (0, 4, 6, 0, 0), 3)), (11, (.inl (.aload_n 0), 1)), (12, (.inr (0, 4, 2, 0, 0), 3)), (15, (.inl (.aload_n 1), 1)), (16, (.inr (0, 4, 1, 0, 0), 3)), (19, (.inl .iaload, 1)), (20, (.inl (.if_icmp .gt 7), 3)), (23, (.inl (.iconst 1), 1)), (24, (.inl (.goto 4), 3)), (27, (.inl (.iconst 0), 1)), (28, (.inl .ireturn, 1))]
/-- FarStoreLaw.write(LFarStore;IIJ)I -/
def cd_39 : List (Nat × (OI × Nat)) := [(0, (.inl (.aload_n 0), 1)), (1, (.inl (.iload_n 1), 1)), (2, (.inl (.iload_n 2), 1)), (3, (.inl (.lload_n 3), 1)), (4, (.inr (17, 40, 4, 1, 0), 3)), (7, (.inl (.goto 11), 3)), (10, (.inl (.astore 5), 2)), (12, (.inl (.iconst 1), 1)), (13, (.inl .ireturn, 1)), (14, (.inl (.astore 5), 2)), (16, (.inl (.iconst 2), 1)), (17, (.inl .ireturn, 1)), (18, (.inl (.iconst 0), 1)), (19, (.inl .ireturn, 1))]
/-- FarStore.write(IIJ)V -/
def cd_40 : List (Nat × (OI × Nat)) := [(0, (.inl (.aload_n 0), 1)), (1, (.inl (.iload_n 1), 1)), (2, (.inr (17, 28, 2, 1, 0), 3)), (5, (.inl (.astore 5), 2)), (7, (.inl (.aload_n 0), 1)), (8, (.inl (.iload_n 2), 1)), (9, (.inr (17, 33, 2, 1, 0), 3)), (12, (.inl (.astore 6), 2)), (14, (.inl (.aload_n 0), 1)), (15, (.inl (.aload 5), 2)), (17, (.inr (17, 35, 2, 1, 0), 3)), (20, (.inl (.aload 5), 2)), (22, (.inl (.aload 6), 2)), (24, (.inl (.lload_n 3), 1)), (25, (.inr (17, 41, 3, 1, 4), 3)), (28, (.inl .return_, 1))]
/-- FarStore$Transaction.keepWrite(LFarStore$Item;J)V -/
def cd_41 : List (Nat × (OI × Nat)) := [(0, (.inl (.aload_n 0), 1)), (1, (.inl (.aload_n 1), 1)), (2, (.inr (17, 37, 2, 1, 4), 3)), (5, (.inl (.astore 4), 2)), (7, (.inl (.aload 4), 2)), (9, (.inl (.ifnonnull 24), 3)), (12, (.inl (.aload_n 0), 1)), (13, (.inr (0, 4, 3, 0, 0), 3)), (16, (.inr (2, 5, 3, 0, 0), 3)), (19, (.inl .dup, 1)), (20, (.inl (.aload_n 0), 1)), (21, (.inl (.aload_n 1), 1)), (22, (.inl (.lload_n 2), 1)), (23, (.inr (17, 42, 4, 2, 0), 3)), (26, (.inr (17, 16, 2, 1, 8), 3)), (29, (.inl .pop, 1)), (30, (.inl (.goto 9), 3)), (33, (.inl (.aload 4), 2)), (35, (.inl (.lload_n 2), 1)), (36, (.inr (1, 5, 2, 2, 0), 3)), (39, (.inl .return_, 1))]
/-- FarStore$Write.<init>(LFarStore$Transaction;LFarStore$Item;J)V -/
def cd_42 : List (Nat × (OI × Nat)) := [(0, (.inl (.aload_n 0), 1)), (1, (.inr (7, 0, 0, 0, 0), 3)), (4, (.inl (.aload_n 0), 1)), (5, (.inl (.aload_n 1), 1)), (6, (.inr (1, 5, 0, 3, 0), 3)), (9, (.inl (.aload_n 0), 1)), (10, (.inl (.aload_n 2), 1)), (11, (.inr (1, 5, 1, 3, 0), 3)), (14, (.inl (.aload_n 0), 1)), (15, (.inl (.lload_n 3), 1)), (16, (.inr (1, 5, 2, 2, 0), 3)), (19, (.inl .return_, 1))]
/-- FarStoreLaw.change(LFarStore;IIIZ)I -/
def cd_43 : List (Nat × (OI × Nat)) := [(0, (.inl (.aload_n 0), 1)), (1, (.inl (.iload_n 1), 1)), (2, (.inl (.iload_n 2), 1)), (3, (.inl (.iload_n 3), 1)), (4, (.inl (.iload 4), 2)), (6, (.inr (17, 44, 5, 1, 0), 3)), (9, (.inl (.goto 11), 3)), (12, (.inl (.astore 5), 2)), (14, (.inl (.iconst 1), 1)), (15, (.inl .ireturn, 1)), (16, (.inl (.astore 5), 2)), (18, (.inl (.iconst 2), 1)), (19, (.inl .ireturn, 1)), (20, (.inl (.iconst 0), 1)), (21, (.inl .ireturn, 1))]
/-- FarStore.change(IIIZ)V -/
def cd_44 : List (Nat × (OI × Nat)) := [(0, (.inl (.aload_n 0), 1)), (1, (.inl (.iload_n 1), 1)), (2, (.inr (17, 28, 2, 1, 0), 3)), (5, (.inl (.astore 5), 2)), (7, (.inl (.aload_n 0), 1)), (8, (.inl (.iload_n 2), 1)), (9, (.inr (17, 45, 2, 1, 0), 3)), (12, (.inl (.astore 6), 2)), (14, (.inl (.aload_n 0), 1)), (15, (.inl (.aload 5), 2)), (17, (.inr (17, 35, 2, 1, 0), 3)), (20, (.inl (.aload_n 0), 1)), (21, (.inr (0, 0, 4, 0, 0), 3)), (24, (.inl (.sipush 512), 3)), (27, (.inl (.if_icmp .lt 13), 3)), (30, (.inr (16, 11, 0, 0, 0), 10)), (40, (.inl (.aload_n 0), 1)), (41, (.inl .dup, 1)), (42, (.inr (0, 0, 4, 0, 0), 3)), (45, (.inl (.iconst 1), 1)), (46, (.inl .iadd, 1)), (47, (.inr (1, 0, 4, 0, 0), 3)), (50, (.inl (.aload 5), 2)), (52, (.inr (0, 4, 4, 0, 0), 3)), (55, (.inr (2, 6, 4, 0, 0), 3)), (58, (.inl .dup, 1)), (59, (.inl (.aload 5), 2)), (61, (.inl (.aload 6), 2)), (63, (.inl (.iload_n 3), 1)), (64, (.inl (.iload 4), 2)), (66, (.inl (.ifCond .eq 7), 3)), (69, (.inl (.iconst 1), 1)), (70, (.inl (.goto 4), 3)), (73, (.inl (.iconst (-1)), 1)), (74, (.inr (17, 46, 5, 2, 0), 3)), (77, (.inr (17, 16, 2, 1, 8), 3)), (80, (.inl .pop, 1)), (81, (.inl .return_, 1))]
/-- FarStore.setItem(I)LFarStore$Item; -/
def cd_45 : List (Nat × (OI × Nat)) := [(0, (.inl (.aload_n 0), 1)), (1, (.inl (.iload_n 1), 1)), (2, (.inr (17, 34, 2, 1, 0), 3)), (5, (.inl (.astore_n 2), 1)), (6, (.inl (.aload_n 2), 1)), (7, (.inr (0, 3, 1, 0, 0), 3)), (10, (.inl (.ifCond .ne 13), 3)), (13, (.inr (16, 10, 0, 0, 0), 10)), (23, (.inl (.aload_n 2), 1)), (24, (.inl .areturn, 1))]
/-- FarStore$Change.<init>(LFarStore$Transaction;LFarStore$Item;II)V -/
def cd_46 : List (Nat × (OI × Nat)) := [(0, (.inl (.aload_n 0), 1)), (1, (.inr (7, 0, 0, 0, 0), 3)), (4, (.inl (.aload_n 0), 1)), (5, (.inl (.aload_n 1), 1)), (6, (.inr (1, 6, 0, 3, 0), 3)), (9, (.inl (.aload_n 0), 1)), (10, (.inl (.aload_n 2), 1)), (11, (.inr (1, 6, 1, 3, 0), 3)), (14, (.inl (.aload_n 0), 1)), (15, (.inl (.iload_n 3), 1)), (16, (.inr (1, 6, 2, 0, 0), 3)), (19, (.inl (.aload_n 0), 1)), (20, (.inl (.iload 4), 2)), (22, (.inr (1, 6, 3, 0, 0), 3)), (25, (.inl .return_, 1))]
/-- FarStoreLaw.count(LFarStore;III[J)I -/
def cd_47 : List (Nat × (OI × Nat)) := [(0, (.inl (.aload 4), 2)), (2, (.inl (.iconst 0), 1)), (3, (.inl (.aload_n 0), 1)), (4, (.inl (.iload_n 1), 1)), (5, (.inl (.iload_n 2), 1)), (6, (.inl (.iload_n 3), 1)), (7, (.inr (17, 48, 4, 1, 0), 3)), (10, (.inl .i2l, 1)), (11, (.inl .lastore, 1)), (12, (.inl (.goto 11), 3)), (15, (.inl (.astore 5), 2)), (17, (.inl (.iconst 1), 1)), (18, (.inl .ireturn, 1)), (19, (.inl (.astore 5), 2)), (21, (.inl (.iconst 2), 1)), (22, (.inl .ireturn, 1)), (23, (.inl (.iconst 0), 1)), (24, (.inl .ireturn, 1))]
/-- FarStore.count(III)I -/
def cd_48 : List (Nat × (OI × Nat)) := [(0, (.inl (.aload_n 0), 1)), (1, (.inl (.iload_n 1), 1)), (2, (.inr (17, 28, 2, 1, 0), 3)), (5, (.inl (.astore 4), 2)), (7, (.inl (.aload_n 0), 1)), (8, (.inl (.iload_n 2), 1)), (9, (.inr (17, 45, 2, 1, 0), 3)), (12, (.inl (.astore 5), 2)), (14, (.inl (.aload_n 0), 1)), (15, (.inl (.aload 4), 2)), (17, (.inr (17, 35, 2, 1, 0), 3)), (20, (.inl (.aload 4), 2)), (22, (.inl (.aload 5), 2)), (24, (.inl (.iload_n 3), 1)), (25, (.inr (17, 49, 3, 1, 4), 3)), (28, (.inl .ireturn, 1))]
/-- FarStore$Transaction.countOf(LFarStore$Item;I)I -/
def cd_49 : List (Nat × (OI × Nat)) := [(0, (.inl (.iconst 0), 1)), (1, (.inl (.istore_n 3), 1)), (2, (.inl (.iconst 0), 1)), (3, (.inl (.istore 4), 2)), (5, (.inl (.iload 4), 2)), (7, (.inl (.aload_n 1), 1)), (8, (.inr (0, 3, 3, 0, 0), 3)), (11, (.inr (17, 6, 1, 1, 8), 3)), (14, (.inl (.if_icmp .ge 52), 3)), (17, (.inl (.aload_n 1), 1)), (18, (.inr (0, 3, 3, 0, 0), 3)), (21, (.inl (.iload 4), 2)), (23, (.inr (17, 29, 2, 1, 8), 3)), (26, (.inr (4, 6, 0, 0, 0), 3)), (29, (.inl (.astore 5), 2)), (31, (.inl (.aload 5), 2)), (33, (.inr (0, 6, 2, 0, 0), 3)), (36, (.inl (.iload_n 2), 1)), (37, (.inl (.if_icmp .ne 23), 3)), (40, (.inl (.aload_n 0), 1)), (41, (.inl (.aload 5), 2)), (43, (.inr (0, 6, 0, 0, 0), 3)), (46, (.inr (17, 38, 2, 1, 4), 3)), (49, (.inl (.ifCond .eq 11), 3)), (52, (.inl (.iload_n 3), 1)), (53, (.inl (.aload 5), 2)), (55, (.inr (0, 6, 3, 0, 0), 3)), (58, (.inl .iadd, 1)), (59, (.inl (.istore_n 3), 1)), (60, (.inl (.iinc 4 1), 3)), (63, (.inl (.goto (-58)), 3)), (66, (.inl (.iconst 0), 1)), (67, (.inl (.istore 4), 2)), (69, (.inl (.iload 4), 2)), (71, (.inl (.aload_n 0), 1)), (72, (.inr (0, 4, 4, 0, 0), 3)), (75, (.inr (17, 6, 1, 1, 8), 3)), (78, (.inl (.if_icmp .ge 49), 3)), (81, (.inl (.aload_n 0), 1)), (82, (.inr (0, 4, 4, 0, 0), 3)), (85, (.inl (.iload 4), 2)), (87, (.inr (17, 29, 2, 1, 8), 3)), (90, (.inr (4, 6, 0, 0, 0), 3)), (93, (.inl (.astore 5), 2)), (95, (.inl (.aload 5), 2)), (97, (.inr (0, 6, 2, 0, 0), 3)), (100, (.inl (.iload_n 2), 1)), (101, (.inl (.if_icmp .ne 20), 3)), (104, (.inl (.aload 5), 2)), (106, (.inr (0, 6, 1, 0, 0), 3)), (109, (.inl (.aload_n 1), 1)), (110, (.inl (.if_acmp .ne 11), 3)), (113, (.inl (.iload_n 3), 1)), (114, (.inl (.aload 5), 2)), (116, (.inr (0, 6, 3, 0, 0), 3)), (119, (.inl .iadd, 1)), (120, (.inl (.istore_n 3), 1)), (121, (.inl (.iinc 4 1), 3)), (124, (.inl (.goto (-55)), 3)), (127, (.inl (.iload_n 3), 1)), (128, (.inl .ireturn, 1))]
/-- FarStoreLaw.element(LFarStore;III[J)I -/
def cd_50 : List (Nat × (OI × Nat)) := [(0, (.inl (.aload 4), 2)), (2, (.inl (.iconst 0), 1)), (3, (.inl (.aload_n 0), 1)), (4, (.inl (.iload_n 1), 1)), (5, (.inl (.iload_n 2), 1)), (6, (.inl (.iload_n 3), 1)), (7, (.inr (17, 51, 4, 1, 0), 3)), (10, (.inl .i2l, 1)), (11, (.inl .lastore, 1)), (12, (.inl (.goto 15), 3)), (15, (.inl (.astore 5), 2)), (17, (.inl (.iconst 1), 1)), (18, (.inl .ireturn, 1)), (19, (.inl (.astore 5), 2)), (21, (.inl (.iconst 2), 1)), (22, (.inl .ireturn, 1)), (23, (.inl (.astore 5), 2)), (25, (.inl (.iconst 3), 1)), (26, (.inl .ireturn, 1)), (27, (.inl (.iconst 0), 1)), (28, (.inl .ireturn, 1))]
/-- FarStore.element(III)I -/
def cd_51 : List (Nat × (OI × Nat)) := [(0, (.inl (.aload_n 0), 1)), (1, (.inl (.iload_n 1), 1)), (2, (.inr (17, 28, 2, 1, 0), 3)), (5, (.inl (.astore 4), 2)), (7, (.inl (.aload_n 0), 1)), (8, (.inl (.iload_n 2), 1)), (9, (.inr (17, 45, 2, 1, 0), 3)), (12, (.inl (.astore 5), 2)), (14, (.inl (.aload_n 0), 1)), (15, (.inl (.aload 4), 2)), (17, (.inr (17, 35, 2, 1, 0), 3)), (20, (.inl (.aload 4), 2)), (22, (.inl (.aload 5), 2)), (24, (.inl (.aload_n 0), 1)), (25, (.inr (0, 0, 3, 0, 0), 3)), (28, (.inr (17, 52, 3, 1, 4), 3)), (31, (.inl (.aload_n 0), 1)), (32, (.inr (0, 0, 3, 0, 0), 3)), (35, (.inl (.iload_n 3), 1)), (36, (.inr (17, 58, 2, 1, 1), 3)), (39, (.inl (.istore 6), 2)), (41, (.inl (.iload 6), 2)), (43, (.inl (.ifCond .ge 13), 3)), (46, (.inr (16, 12, 0, 0, 0), 10)), (56, (.inl (.aload_n 0), 1)), (57, (.inr (0, 0, 3, 0, 0), 3)), (60, (.inr (0, 1, 0, 0, 0), 3)), (63, (.inl (.iload 6), 2)), (65, (.inl .iaload, 1)), (66, (.inl .ireturn, 1))]
/-- FarStore$Transaction.countAll(LFarStore$Item;LFarStore$Tally;)V -/
def cd_52 : List (Nat × (OI × Nat)) := [(0, (.inl (.aload_n 2), 1)), (1, (.inr (17, 53, 1, 1, 1), 3)), (4, (.inl (.iconst 0), 1)), (5, (.inl (.istore_n 3), 1)), (6, (.inl (.iload_n 3), 1)), (7, (.inl (.aload_n 1), 1)), (8, (.inr (0, 3, 3, 0, 0), 3)), (11, (.inr (17, 6, 1, 1, 8), 3)), (14, (.inl (.if_icmp .ge 40), 3)), (17, (.inl (.aload_n 1), 1)), (18, (.inr (0, 3, 3, 0, 0), 3)), (21, (.inl (.iload_n 3), 1)), (22, (.inr (17, 29, 2, 1, 8), 3)), (25, (.inr (4, 6, 0, 0, 0), 3)), (28, (.inl (.astore 4), 2)), (30, (.inl (.aload_n 0), 1)), (31, (.inl (.aload 4), 2)), (33, (.inr (0, 6, 0, 0, 0), 3)), (36, (.inr (17, 38, 2, 1, 4), 3)), (39, (.inl (.ifCond .eq 9), 3)), (42, (.inl (.aload_n 2), 1)), (43, (.inl (.aload 4), 2)), (45, (.inr (17, 54, 2, 1, 1), 3)), (48, (.inl (.iinc 3 1), 3)), (51, (.inl (.goto (-45)), 3)), (54, (.inl (.iconst 0), 1)), (55, (.inl (.istore_n 3), 1)), (56, (.inl (.iload_n 3), 1)), (57, (.inl (.aload_n 0), 1)), (58, (.inr (0, 4, 4, 0, 0), 3)), (61, (.inr (17, 6, 1, 1, 8), 3)), (64, (.inl (.if_icmp .ge 37), 3)), (67, (.inl (.aload_n 0), 1)), (68, (.inr (0, 4, 4, 0, 0), 3)), (71, (.inl (.iload_n 3), 1)), (72, (.inr (17, 29, 2, 1, 8), 3)), (75, (.inr (4, 6, 0, 0, 0), 3)), (78, (.inl (.astore 4), 2)), (80, (.inl (.aload 4), 2)), (82, (.inr (0, 6, 1, 0, 0), 3)), (85, (.inl (.aload_n 1), 1)), (86, (.inl (.if_acmp .ne 9), 3)), (89, (.inl (.aload_n 2), 1)), (90, (.inl (.aload 4), 2)), (92, (.inr (17, 54, 2, 1, 1), 3)), (95, (.inl (.iinc 3 1), 3)), (98, (.inl (.goto (-42)), 3)), (101, (.inl .return_, 1))]
/-- FarStore$Tally.clear()V -/
def cd_53 : List (Nat × (OI × Nat)) := [(0, (.inl (.aload_n 0), 1)), (1, (.inl (.iconst 0), 1)), (2, (.inr (1, 1, 2, 0, 0), 3)), (5, (.inl .return_, 1))]
/-- FarStore$Tally.take(LFarStore$Change;)V -/
def cd_54 : List (Nat × (OI × Nat)) := [(0, (.inl (.aload_n 0), 1)), (1, (.inl (.aload_n 1), 1)), (2, (.inr (0, 6, 2, 0, 0), 3)), (5, (.inr (17, 55, 2, 1, 1), 3)), (8, (.inl (.istore_n 2), 1)), (9, (.inl (.iload_n 2), 1)), (10, (.inl (.aload_n 0), 1)), (11, (.inr (0, 1, 2, 0, 0), 3)), (14, (.inl (.if_icmp .eq 16), 3)), (17, (.inl (.aload_n 0), 1)), (18, (.inr (0, 1, 0, 0, 0), 3)), (21, (.inl (.iload_n 2), 1)), (22, (.inl .iaload, 1)), (23, (.inl (.aload_n 1), 1)), (24, (.inr (0, 6, 2, 0, 0), 3)), (27, (.inl (.if_icmp .eq 25), 3)), (30, (.inl (.aload_n 0), 1)), (31, (.inl (.iload_n 2), 1)), (32, (.inr (17, 56, 2, 1, 1), 3)), (35, (.inl (.aload_n 0), 1)), (36, (.inr (0, 1, 0, 0, 0), 3)), (39, (.inl (.iload_n 2), 1)), (40, (.inl (.aload_n 1), 1)), (41, (.inr (0, 6, 2, 0, 0), 3)), (44, (.inl .iastore, 1)), (45, (.inl (.aload_n 0), 1)), (46, (.inr (0, 1, 1, 0, 0), 3)), (49, (.inl (.iload_n 2), 1)), (50, (.inl (.iconst 0), 1)), (51, (.inl .iastore, 1)), (52, (.inl (.aload_n 0), 1)), (53, (.inr (0, 1, 1, 0, 0), 3)), (56, (.inl (.iload_n 2), 1)), (57, (.inl .dup2, 1)), (58, (.inl .iaload, 1)), (59, (.inl (.aload_n 1), 1)), (60, (.inr (0, 6, 3, 0, 0), 3)), (63, (.inl .iadd, 1)), (64, (.inl .iastore, 1)), (65, (.inl .return_, 1))]
/-- FarStore$Tally.firstNotBelow(I)I -/
def cd_55 : List (Nat × (OI × Nat)) := [(0, (.inl (.iconst 0), 1)), (1, (.inl (.istore_n 2), 1)), (2, (.inl (.aload_n 0), 1)), (3, (.inr (0, 1, 2, 0, 0), 3)), (6, (.inl (.istore_n 3), 1)), (7, (.inl (.aload_n 0), 1)), (8, (.inr (0, 1, 2, 0, 0), 3)), (11, (.inl (.istore 4), 2)), (13, (.inl (.iload_n 2), 1)), (14, (.inl (.iload_n 3), 1)), (15, (.inl (.if_icmp .ge 43), 3)), (18, (.inl (.iload 4), 2)), (20, (.inl (.ifCond .le 38), 3)), (23, (.inl (.iload_n 2), 1)), (24, (.inl (.iload_n 3), 1)), (25, (.inl .iadd, 1)), (26, (.inl (.iconst 2), 1)), (27, (.inl .idiv, 1)), (28, (.inl (.istore 5), 2)), (30, (.inl (.aload_n 0), 1)), (31, (.inr (0, 1, 0, 0, 0), 3)), (34, (.inl (.iload 5), 2)), (36, (.inl .iaload, 1)), (37, (.inl (.iload_n 1), 1)), (38, (.inl (.if_icmp .ge 11), 3)), (41, (.inl (.iload 5), 2)), (43, (.inl (.iconst 1), 1)), (44, (.inl .iadd, 1)), (45, (.inl (.istore_n 2), 1)), (46, (.inl (.goto 6), 3)), (49, (.inl (.iload 5), 2)), (51, (.inl (.istore_n 3), 1)), (52, (.inl (.iinc 4 (-1)), 3)), (55, (.inl (.goto (-42)), 3)), (58, (.inl (.iload_n 2), 1)), (59, (.inl .ireturn, 1))]
/-- FarStore$Tally.makeRoomAt(I)V -/
def cd_56 : List (Nat × (OI × Nat)) := [(0, (.inl (.aload_n 0), 1)), (1, (.inr (0, 1, 2, 0, 0), 3)), (4, (.inl (.aload_n 0), 1)), (5, (.inr (0, 1, 0, 0, 0), 3)), (8, (.inl .arraylength, 1)), (9, (.inl (.if_icmp .ne 37), 3)), (12, (.inl (.aload_n 0), 1)), (13, (.inl (.aload_n 0), 1)), (14, (.inr (0, 1, 0, 0, 0), 3)), (17, (.inl (.iconst 2), 1)), (18, (.inl (.aload_n 0), 1)), (19, (.inr (0, 1, 2, 0, 0), 3)), (22, (.inl .imul, 1)), (23, (.inr (17, 57, 2, 0, 0), 3)), (26, (.inr (1, 1, 0, 3, 0), 3)), (29, (.inl (.aload_n 0), 1)), (30, (.inl (.aload_n 0), 1)), (31, (.inr (0, 1, 1, 0, 0), 3)), (34, (.inl (.iconst 2), 1)), (35, (.inl (.aload_n 0), 1)), (36, (.inr (0, 1, 2, 0, 0), 3)), (39, (.inl .imul, 1)), (40, (.inr (17, 57, 2, 0, 0), 3)), (43, (.inr (1, 1, 1, 3, 0), 3)), (46, (.inl (.aload_n 0), 1)), (47, (.inr (0, 1, 0, 0, 0), 3)), (50, (.inl (.iload_n 1), 1)), (51, (.inl (.aload_n 0), 1)), (52, (.inr (0, 1, 0, 0, 0), 3)), (55, (.inl (.iload_n 1), 1)), (56, (.inl (.iconst 1), 1)), (57, (.inl .iadd, 1)), (58, (.inl (.aload_n 0), 1)), (59, (.inr (0, 1, 2, 0, 0), 3)), (62, (.inl (.iload_n 1), 1)), (63, (.inl .isub, 1)), (64, (.inr (8, 0, 0, 0, 0), 3)), (67, (.inl (.aload_n 0), 1)), (68, (.inr (0, 1, 1, 0, 0), 3)), (71, (.inl (.iload_n 1), 1)), (72, (.inl (.aload_n 0), 1)), (73, (.inr (0, 1, 1, 0, 0), 3)), (76, (.inl (.iload_n 1), 1)), (77, (.inl (.iconst 1), 1)), (78, (.inl .iadd, 1)), (79, (.inl (.aload_n 0), 1)), (80, (.inr (0, 1, 2, 0, 0), 3)), (83, (.inl (.iload_n 1), 1)), (84, (.inl .isub, 1)), (85, (.inr (8, 0, 0, 0, 0), 3)), (88, (.inl (.aload_n 0), 1)), (89, (.inl .dup, 1)), (90, (.inr (0, 1, 2, 0, 0), 3)), (93, (.inl (.iconst 1), 1)), (94, (.inl .iadd, 1)), (95, (.inr (1, 1, 2, 0, 0), 3)), (98, (.inl .return_, 1))]
/-- java/util/Arrays.copyOf([II)[I -/
def cd_57 : List (Nat × (OI × Nat)) := [(0, (.inl (.iload_n 1), 1)), (1, (.inl (.aload_n 0), 1)), (2, (.inl .arraylength, 1)), (3, (.inl (.if_icmp .ne 11), 3)), (6, (.inl (.aload_n 0), 1)), (7, (.inr (10, 0, 0, 0, 0), 3)), (10, (.inr (5, 0, 0, 0, 0), 3)), (13, (.inl .areturn, 1)), (14, (.inl (.iload_n 1), 1)), (15, (.inl (.newarray .int), 2)), (17, (.inl (.astore_n 2), 1)), (18, (.inl (.aload_n 0), 1)), (19, (.inl (.iconst 0), 1)), (20, (.inl (.aload_n 2), 1)), (21, (.inl (.iconst 0), 1)), (22, (.inl (.aload_n 0), 1)), (23, (.inl .arraylength, 1)), (24, (.inl (.iload_n 1), 1)), (25, (.inr (12, 0, 0, 0, 0), 3)), (28, (.inr (8, 0, 0, 0, 0), 3)), (31, (.inl (.aload_n 2), 1)), (32, (.inl .areturn, 1))]
/-- FarStore$Tally.placeOf(I)I -/
def cd_58 : List (Nat × (OI × Nat)) := [(0, (.inl (.iconst 0), 1)), (1, (.inl (.istore_n 2), 1)), (2, (.inl (.iconst 0), 1)), (3, (.inl (.istore_n 3), 1)), (4, (.inl (.iload_n 3), 1)), (5, (.inl (.aload_n 0), 1)), (6, (.inr (0, 1, 2, 0, 0), 3)), (9, (.inl (.if_icmp .ge 28), 3)), (12, (.inl (.aload_n 0), 1)), (13, (.inr (0, 1, 1, 0, 0), 3)), (16, (.inl (.iload_n 3), 1)), (17, (.inl .iaload, 1)), (18, (.inl (.ifCond .eq 13), 3)), (21, (.inl (.iload_n 2), 1)), (22, (.inl (.iload_n 1), 1)), (23, (.inl (.if_icmp .ne 5), 3)), (26, (.inl (.iload_n 3), 1)), (27, (.inl .ireturn, 1)), (28, (.inl (.iinc 2 1), 3)), (31, (.inl (.iinc 3 1), 3)), (34, (.inl (.goto (-30)), 3)), (37, (.inl (.iconst (-1)), 1)), (38, (.inl .ireturn, 1))]
/-- FarStoreLaw.commit(LFarStore;I[J)I -/
def cd_59 : List (Nat × (OI × Nat)) := [(0, (.inl (.aload_n 2), 1)), (1, (.inl (.iconst 0), 1)), (2, (.inl (.aload_n 0), 1)), (3, (.inl (.iload_n 1), 1)), (4, (.inr (17, 60, 2, 1, 0), 3)), (7, (.inl .i2l, 1)), (8, (.inl .lastore, 1)), (9, (.inl (.goto 9), 3)), (12, (.inl (.astore_n 3), 1)), (13, (.inl (.iconst 1), 1)), (14, (.inl .ireturn, 1)), (15, (.inl (.astore_n 3), 1)), (16, (.inl (.iconst 2), 1)), (17, (.inl .ireturn, 1)), (18, (.inl (.iconst 0), 1)), (19, (.inl .ireturn, 1))]
/-- FarStore.commit(I)I -/
def cd_60 : List (Nat × (OI × Nat)) := [(0, (.inl (.aload_n 0), 1)), (1, (.inl (.iload_n 1), 1)), (2, (.inr (17, 28, 2, 1, 0), 3)), (5, (.inl (.astore_n 2), 1)), (6, (.inl (.aload_n 0), 1)), (7, (.inl (.aload_n 2), 1)), (8, (.inr (17, 35, 2, 1, 0), 3)), (11, (.inl (.aload_n 0), 1)), (12, (.inl (.aload_n 2), 1)), (13, (.inr (17, 61, 2, 1, 0), 3)), (16, (.inl (.aload_n 2), 1)), (17, (.inr (0, 4, 5, 0, 0), 3)), (20, (.inl .ireturn, 1))]
/-- FarStore.tryToCommit(LFarStore$Transaction;)V -/
def cd_61 : List (Nat × (OI × Nat)) := [(0, (.inl (.aload_n 1), 1)), (1, (.inr (0, 4, 3, 0, 0), 3)), (4, (.inr (17, 62, 1, 1, 8), 3)), (7, (.inl (.ifCond .eq 19), 3)), (10, (.inl (.aload_n 1), 1)), (11, (.inr (0, 4, 4, 0, 0), 3)), (14, (.inr (17, 62, 1, 1, 8), 3)), (17, (.inl (.ifCond .eq 9), 3)), (20, (.inl (.aload_n 1), 1)), (21, (.inl (.iconst 1), 1)), (22, (.inr (1, 4, 5, 0, 0), 3)), (25, (.inl .return_, 1)), (26, (.inl (.aload_n 0), 1)), (27, (.inr (0, 0, 0, 0, 0), 3)), (30, (.inl (.aload_n 1), 1)), (31, (.inr (0, 4, 1, 0, 0), 3)), (34, (.inl .aaload, 1)), (35, (.inl (.astore_n 2), 1)), (36, (.inl (.aload_n 1), 1)), (37, (.inl (.aload_n 2), 1)), (38, (.inr (17, 63, 2, 1, 4), 3)), (41, (.inl (.ifCond .eq 9), 3)), (44, (.inl (.aload_n 1), 1)), (45, (.inl (.iconst 2), 1)), (46, (.inr (1, 4, 5, 0, 0), 3)), (49, (.inl .return_, 1)), (50, (.inl (.aload_n 0), 1)), (51, (.inl (.aload_n 1), 1)), (52, (.inr (17, 66, 2, 1, 0), 3)), (55, (.inl (.istore_n 3), 1)), (56, (.inl (.iload_n 3), 1)), (57, (.inl (.ifCond .ne 9), 3)), (60, (.inl (.aload_n 0), 1)), (61, (.inl (.aload_n 1), 1)), (62, (.inr (17, 68, 2, 1, 0), 3)), (65, (.inl .return_, 1)), (66, (.inl (.aload_n 1), 1)), (67, (.inl (.aload_n 2), 1)), (68, (.inr (17, 73, 2, 1, 4), 3)), (71, (.inl (.aload_n 1), 1)), (72, (.inl (.iconst 3), 1)), (73, (.inr (1, 4, 5, 0, 0), 3)), (76, (.inl (.aload_n 1), 1)), (77, (.inl (.iload_n 3), 1)), (78, (.inr (1, 4, 7, 0, 0), 3)), (81, (.inl (.aload_n 0), 1)), (82, (.inl (.aload_n 1), 1)), (83, (.inl (.iconst 1), 1)), (84, (.inl (.iconst (-1)), 1)), (85, (.inr (17, 74, 4, 1, 0), 3)), (88, (.inl .return_, 1))]
/-- java/util/ArrayList.isEmpty()Z -/
def cd_62 : List (Nat × (OI × Nat)) := [(0, (.inl (.aload_n 0), 1)), (1, (.inr (0, 8, 1, 0, 0), 3)), (4, (.inl (.ifCond .ne 7), 3)), (7, (.inl (.iconst 1), 1)), (8, (.inl (.goto 4), 3)), (11, (.inl (.iconst 0), 1)), (12, (.inl .ireturn, 1))]
/-- FarStore$Transaction.hasConflictAt(LFarStore$Site;)Z -/
def cd_63 : List (Nat × (OI × Nat)) := [(0, (.inl (.iconst 0), 1)), (1, (.inl (.istore_n 2), 1)), (2, (.inl (.iload_n 2), 1)), (3, (.inl (.aload_n 0), 1)), (4, (.inr (0, 4, 3, 0, 0), 3)), (7, (.inr (17, 6, 1, 1, 8), 3)), (10, (.inl (.if_icmp .ge 46), 3)), (13, (.inl (.aload_n 0), 1)), (14, (.inr (0, 4, 3, 0, 0), 3)), (17, (.inl (.iload_n 2), 1)), (18, (.inr (17, 29, 2, 1, 8), 3)), (21, (.inr (4, 5, 0, 0, 0), 3)), (24, (.inr (0, 5, 1, 0, 0), 3)), (27, (.inl (.astore_n 3), 1)), (28, (.inl (.aload_n 3), 1)), (29, (.inr (0, 3, 0, 0, 0), 3)), (32, (.inl (.aload_n 1), 1)), (33, (.inr (0, 2, 0, 0, 0), 3)), (36, (.inl (.if_icmp .ne 14), 3)), (39, (.inl (.aload_n 3), 1)), (40, (.inl (.aload_n 0), 1)), (41, (.inl (.aload_n 1), 1)), (42, (.inr (17, 64, 3, 1, 3), 3)), (45, (.inl (.ifCond .eq 5), 3)), (48, (.inl (.iconst 1), 1)), (49, (.inl .ireturn, 1)), (50, (.inl (.iinc 2 1), 3)), (53, (.inl (.goto (-51)), 3)), (56, (.inl (.iconst 0), 1)), (57, (.inl .ireturn, 1))]
/-- FarStore$Item.hasConflict(LFarStore$Transaction;LFarStore$Site;)Z -/
def cd_64 : List (Nat × (OI × Nat)) := [(0, (.inl (.aload_n 0), 1)), (1, (.inr (0, 3, 4, 0, 0), 3)), (4, (.inl (.iconst (-1)), 1)), (5, (.inl (.if_icmp .eq 16), 3)), (8, (.inl (.aload_n 0), 1)), (9, (.inr (0, 3, 4, 0, 0), 3)), (12, (.inl (.aload_n 1), 1)), (13, (.inr (0, 4, 0, 0, 0), 3)), (16, (.inl (.if_icmp .eq 5), 3)), (19, (.inl (.iconst 1), 1)), (20, (.inl .ireturn, 1)), (21, (.inl (.iconst 0), 1)), (22, (.inl (.istore_n 3), 1)), (23, (.inl (.iload_n 3), 1)), (24, (.inl (.aload_n 0), 1)), (25, (.inr (0, 3, 2, 0, 0), 3)), (28, (.inr (17, 6, 1, 1, 8), 3)), (31, (.inl (.if_icmp .ge 45), 3)), (34, (.inl (.aload_n 0), 1)), (35, (.inr (0, 3, 2, 0, 0), 3)), (38, (.inl (.iload_n 3), 1)), (39, (.inr (17, 29, 2, 1, 8), 3)), (42, (.inr (4, 5, 0, 0, 0), 3)), (45, (.inr (0, 5, 0, 0, 0), 3)), (48, (.inl (.astore 4), 2)), (50, (.inl (.aload_n 2), 1)), (51, (.inl (.aload 4), 2)), (53, (.inr (17, 65, 2, 1, 2), 3)), (56, (.inl (.ifCond .eq 14), 3)), (59, (.inl (.aload_n 1), 1)), (60, (.inl (.aload 4), 2)), (62, (.inr (17, 38, 2, 1, 4), 3)), (65, (.inl (.ifCond .ne 5), 3)), (68, (.inl (.iconst 1), 1)), (69, (.inl .ireturn, 1)), (70, (.inl (.iinc 3 1), 3)), (73, (.inl (.goto (-50)), 3)), (76, (.inl (.iconst 0), 1)), (77, (.inl .ireturn, 1))]
/-- FarStore$Site.hasApplied(LFarStore$Transaction;)Z -/
def cd_65 : List (Nat × (OI × Nat)) := [(0, (.inl (.aload_n 1), 1)), (1, (.inr (0, 4, 6, 0, 0), 3)), (4, (.inl (.ifCond .le 23), 3)), (7, (.inl (.aload_n 1), 1)), (8, (.inr (0, 4, 6, 0, 0), 3)), (11, (.inl (.aload_n 0), 1)), (12, (.inr (0, 2, 1, 0, 0), 3)), (15, (.inl (.aload_n 1), 1)), (16, (.inr (0, 4, 1, 0, 0), 3)), (19, (.inl .iaload, 1)), (20, (.inl (.if_icmp .gt 7), 3)), (23, (.inl (.iconst 1), 1)), (24, (.inl (.goto 4), 3)), (27, (.inl (.iconst 0), 1)), (28, (.inl .ireturn, 1))]
/-- FarStore.otherHomes(LFarStore$Transaction;)I -/
def cd_66 : List (Nat × (OI × Nat)) := [(0, (.inl (.iconst 0), 1)), (1, (.inl (.istore_n 2), 1)), (2, (.inl (.iconst 0), 1)), (3, (.inl (.istore_n 3), 1)), (4, (.inl (.iload_n 3), 1)), (5, (.inl (.aload_n 0), 1)), (6, (.inr (0, 0, 0, 0, 0), 3)), (9, (.inl .arraylength, 1)), (10, (.inl (.if_icmp .ge 20), 3)), (13, (.inl (.aload_n 1), 1)), (14, (.inl (.iload_n 3), 1)), (15, (.inr (17, 67, 2, 1, 4), 3)), (18, (.inl (.ifCond .eq 6), 3)), (21, (.inl (.iinc 2 1), 3)), (24, (.inl (.iinc 3 1), 3)), (27, (.inl (.goto (-23)), 3)), (30, (.inl (.iload_n 2), 1)), (31, (.inl .ireturn, 1))]
/-- FarStore$Transaction.asks(I)Z -/
def cd_67 : List (Nat × (OI × Nat)) := [(0, (.inl (.iload_n 1), 1)), (1, (.inl (.aload_n 0), 1)), (2, (.inr (0, 4, 1, 0, 0), 3)), (5, (.inl (.if_icmp .ne 5), 3)), (8, (.inl (.iconst 0), 1)), (9, (.inl .ireturn, 1)), (10, (.inl (.iconst 0), 1)), (11, (.inl (.istore_n 2), 1)), (12, (.inl (.iload_n 2), 1)), (13, (.inl (.aload_n 0), 1)), (14, (.inr (0, 4, 3, 0, 0), 3)), (17, (.inr (17, 6, 1, 1, 8), 3)), (20, (.inl (.if_icmp .ge 32), 3)), (23, (.inl (.aload_n 0), 1)), (24, (.inr (0, 4, 3, 0, 0), 3)), (27, (.inl (.iload_n 2), 1)), (28, (.inr (17, 29, 2, 1, 8), 3)), (31, (.inr (4, 5, 0, 0, 0), 3)), (34, (.inr (0, 5, 1, 0, 0), 3)), (37, (.inr (0, 3, 0, 0, 0), 3)), (40, (.inl (.iload_n 1), 1)), (41, (.inl (.if_icmp .ne 5), 3)), (44, (.inl (.iconst 1), 1)), (45, (.inl .ireturn, 1)), (46, (.inl (.iinc 2 1), 3)), (49, (.inl (.goto (-37)), 3)), (52, (.inl (.iconst 0), 1)), (53, (.inl .ireturn, 1))]
/-- FarStore.makeCommit(LFarStore$Transaction;)V -/
def cd_68 : List (Nat × (OI × Nat)) := [(0, (.inl (.aload_n 0), 1)), (1, (.inr (0, 0, 0, 0, 0), 3)), (4, (.inl (.aload_n 1), 1)), (5, (.inr (0, 4, 1, 0, 0), 3)), (8, (.inl .aaload, 1)), (9, (.inl (.astore_n 2), 1)), (10, (.inl (.aload_n 1), 1)), (11, (.inl (.iconst 1), 1)), (12, (.inr (1, 4, 5, 0, 0), 3)), (15, (.inl (.aload_n 1), 1)), (16, (.inl (.aload_n 2), 1)), (17, (.inr (0, 2, 1, 0, 0), 3)), (20, (.inl (.aload_n 1), 1)), (21, (.inr (0, 4, 1, 0, 0), 3)), (24, (.inl .iaload, 1)), (25, (.inl (.iconst 1), 1)), (26, (.inl .iadd, 1)), (27, (.inr (1, 4, 6, 0, 0), 3)), (30, (.inl (.aload_n 0), 1)), (31, (.inl .dup, 1)), (32, (.inr (0, 0, 5, 0, 0), 3)), (35, (.inl (.iconst 1), 1)), (36, (.inl .iadd, 1)), (37, (.inr (1, 0, 5, 0, 0), 3)), (40, (.inl (.aload_n 1), 1)), (41, (.inr (17, 69, 1, 1, 4), 3)), (44, (.inl (.aload_n 2), 1)), (45, (.inl (.aload_n 1), 1)), (46, (.inr (17, 70, 2, 1, 2), 3)), (49, (.inl (.iconst 0), 1)), (50, (.inl (.istore_n 3), 1)), (51, (.inl (.iload_n 3), 1)), (52, (.inl (.aload_n 0), 1)), (53, (.inr (0, 0, 0, 0, 0), 3)), (56, (.inl .arraylength, 1)), (57, (.inl (.if_icmp .ge 43), 3)), (60, (.inl (.iload_n 3), 1)), (61, (.inl (.aload_n 1), 1)), (62, (.inr (0, 4, 1, 0, 0), 3)), (65, (.inl (.if_icmp .eq 29), 3)), (68, (.inl (.aload_n 0), 1)), (69, (.inr (0, 0, 0, 0, 0), 3)), (72, (.inl (.iload_n 3), 1)), (73, (.inl .aaload, 1)), (74, (.inr (0, 2, 3, 0, 0), 3)), (77, (.inr (2, 7, 3, 0, 0), 3)), (80, (.inl .dup, 1)), (81, (.inl (.iconst 5), 1)), (82, (.inl (.aload_n 1), 1)), (83, (.inr (0, 4, 1, 0, 0), 3)), (86, (.inl (.aload_n 1), 1)), (87, (.inr (17, 72, 4, 2, 0), 3)), (90, (.inr (17, 16, 2, 1, 8), 3)), (93, (.inl .pop, 1)), (94, (.inl (.iinc 3 1), 3)), (97, (.inl (.goto (-46)), 3)), (100, (.inl .return_, 1))]
/-- FarStore$Transaction.handToItems()V -/
def cd_69 : List (Nat × (OI × Nat)) := [(0, (.inl (.iconst 0), 1)), (1, (.inl (.istore_n 1), 1)), (2, (.inl (.iload_n 1), 1)), (3, (.inl (.aload_n 0), 1)), (4, (.inr (0, 4, 3, 0, 0), 3)), (7, (.inr (17, 6, 1, 1, 8), 3)), (10, (.inl (.if_icmp .ge 41), 3)), (13, (.inl (.aload_n 0), 1)), (14, (.inr (0, 4, 3, 0, 0), 3)), (17, (.inl (.iload_n 1), 1)), (18, (.inr (17, 29, 2, 1, 8), 3)), (21, (.inr (4, 5, 0, 0, 0), 3)), (24, (.inr (0, 5, 1, 0, 0), 3)), (27, (.inr (0, 3, 2, 0, 0), 3)), (30, (.inl (.aload_n 0), 1)), (31, (.inr (0, 4, 3, 0, 0), 3)), (34, (.inl (.iload_n 1), 1)), (35, (.inr (17, 29, 2, 1, 8), 3)), (38, (.inr (4, 5, 0, 0, 0), 3)), (41, (.inr (17, 16, 2, 1, 8), 3)), (44, (.inl .pop, 1)), (45, (.inl (.iinc 1 1), 3)), (48, (.inl (.goto (-46)), 3)), (51, (.inl (.iconst 0), 1)), (52, (.inl (.istore_n 1), 1)), (53, (.inl (.iload_n 1), 1)), (54, (.inl (.aload_n 0), 1)), (55, (.inr (0, 4, 4, 0, 0), 3)), (58, (.inr (17, 6, 1, 1, 8), 3)), (61, (.inl (.if_icmp .ge 41), 3)), (64, (.inl (.aload_n 0), 1)), (65, (.inr (0, 4, 4, 0, 0), 3)), (68, (.inl (.iload_n 1), 1)), (69, (.inr (17, 29, 2, 1, 8), 3)), (72, (.inr (4, 6, 0, 0, 0), 3)), (75, (.inr (0, 6, 1, 0, 0), 3)), (78, (.inr (0, 3, 3, 0, 0), 3)), (81, (.inl (.aload_n 0), 1)), (82, (.inr (0, 4, 4, 0, 0), 3)), (85, (.inl (.iload_n 1), 1)), (86, (.inr (17, 29, 2, 1, 8), 3)), (89, (.inr (4, 6, 0, 0, 0), 3)), (92, (.inr (17, 16, 2, 1, 8), 3)), (95, (.inl .pop, 1)), (96, (.inl (.iinc 1 1), 3)), (99, (.inl (.goto (-46)), 3)), (102, (.inl .return_, 1))]
/-- FarStore$Site.apply(LFarStore$Transaction;)V -/
def cd_70 : List (Nat × (OI × Nat)) := [(0, (.inl (.aload_n 0), 1)), (1, (.inr (0, 2, 1, 0, 0), 3)), (4, (.inl (.aload_n 1), 1)), (5, (.inr (0, 4, 1, 0, 0), 3)), (8, (.inl (.aload_n 1), 1)), (9, (.inr (0, 4, 6, 0, 0), 3)), (12, (.inl .iastore, 1)), (13, (.inl (.aload_n 1), 1)), (14, (.inl (.aload_n 0), 1)), (15, (.inr (17, 71, 2, 1, 4), 3)), (18, (.inl .return_, 1))]
/-- FarStore$Transaction.unlockAt(LFarStore$Site;)V -/
def cd_71 : List (Nat × (OI × Nat)) := [(0, (.inl (.iconst 0), 1)), (1, (.inl (.istore_n 2), 1)), (2, (.inl (.iload_n 2), 1)), (3, (.inl (.aload_n 0), 1)), (4, (.inr (0, 4, 3, 0, 0), 3)), (7, (.inr (17, 6, 1, 1, 8), 3)), (10, (.inl (.if_icmp .ge 51), 3)), (13, (.inl (.aload_n 0), 1)), (14, (.inr (0, 4, 3, 0, 0), 3)), (17, (.inl (.iload_n 2), 1)), (18, (.inr (17, 29, 2, 1, 8), 3)), (21, (.inr (4, 5, 0, 0, 0), 3)), (24, (.inr (0, 5, 1, 0, 0), 3)), (27, (.inl (.astore_n 3), 1)), (28, (.inl (.aload_n 3), 1)), (29, (.inr (0, 3, 0, 0, 0), 3)), (32, (.inl (.aload_n 1), 1)), (33, (.inr (0, 2, 0, 0, 0), 3)), (36, (.inl (.if_icmp .ne 19), 3)), (39, (.inl (.aload_n 3), 1)), (40, (.inr (0, 3, 4, 0, 0), 3)), (43, (.inl (.aload_n 0), 1)), (44, (.inr (0, 4, 0, 0, 0), 3)), (47, (.inl (.if_icmp .ne 8), 3)), (50, (.inl (.aload_n 3), 1)), (51, (.inl (.iconst (-1)), 1)), (52, (.inr (1, 3, 4, 0, 0), 3)), (55, (.inl (.iinc 2 1), 3)), (58, (.inl (.goto (-56)), 3)), (61, (.inl .return_, 1))]
/-- FarStore$Message.<init>(IILFarStore$Transaction;)V -/
def cd_72 : List (Nat × (OI × Nat)) := [(0, (.inl (.aload_n 0), 1)), (1, (.inr (7, 0, 0, 0, 0), 3)), (4, (.inl (.aload_n 0), 1)), (5, (.inl (.iload_n 1), 1)), (6, (.inr (1, 7, 0, 0, 0), 3)), (9, (.inl (.aload_n 0), 1)), (10, (.inl (.iload_n 2), 1)), (11, (.inr (1, 7, 1, 0, 0), 3)), (14, (.inl (.aload_n 0), 1)), (15, (.inl (.aload_n 3), 1)), (16, (.inr (1, 7, 2, 3, 0), 3)), (19, (.inl .return_, 1))]
/-- FarStore$Transaction.lockAt(LFarStore$Site;)V -/
def cd_73 : List (Nat × (OI × Nat)) := [(0, (.inl (.iconst 0), 1)), (1, (.inl (.istore_n 2), 1)), (2, (.inl (.iload_n 2), 1)), (3, (.inl (.aload_n 0), 1)), (4, (.inr (0, 4, 3, 0, 0), 3)), (7, (.inr (17, 6, 1, 1, 8), 3)), (10, (.inl (.if_icmp .ge 43), 3)), (13, (.inl (.aload_n 0), 1)), (14, (.inr (0, 4, 3, 0, 0), 3)), (17, (.inl (.iload_n 2), 1)), (18, (.inr (17, 29, 2, 1, 8), 3)), (21, (.inr (4, 5, 0, 0, 0), 3)), (24, (.inr (0, 5, 1, 0, 0), 3)), (27, (.inl (.astore_n 3), 1)), (28, (.inl (.aload_n 3), 1)), (29, (.inr (0, 3, 0, 0, 0), 3)), (32, (.inl (.aload_n 1), 1)), (33, (.inr (0, 2, 0, 0, 0), 3)), (36, (.inl (.if_icmp .ne 11), 3)), (39, (.inl (.aload_n 3), 1)), (40, (.inl (.aload_n 0), 1)), (41, (.inr (0, 4, 0, 0, 0), 3)), (44, (.inr (1, 3, 4, 0, 0), 3)), (47, (.inl (.iinc 2 1), 3)), (50, (.inl (.goto (-48)), 3)), (53, (.inl .return_, 1))]
/-- FarStore.sendToOtherHomes(LFarStore$Transaction;II)V -/
def cd_74 : List (Nat × (OI × Nat)) := [(0, (.inl (.iconst 0), 1)), (1, (.inl (.istore 4), 2)), (3, (.inl (.iload 4), 2)), (5, (.inl (.aload_n 0), 1)), (6, (.inr (0, 0, 0, 0, 0), 3)), (9, (.inl .arraylength, 1)), (10, (.inl (.if_icmp .ge 51), 3)), (13, (.inl (.aload_n 1), 1)), (14, (.inl (.iload 4), 2)), (16, (.inr (17, 67, 2, 1, 4), 3)), (19, (.inl (.ifCond .eq 36), 3)), (22, (.inl (.iload 4), 2)), (24, (.inl (.iload_n 3), 1)), (25, (.inl (.if_icmp .eq 30), 3)), (28, (.inl (.aload_n 0), 1)), (29, (.inr (0, 0, 0, 0, 0), 3)), (32, (.inl (.iload 4), 2)), (34, (.inl .aaload, 1)), (35, (.inr (0, 2, 3, 0, 0), 3)), (38, (.inr (2, 7, 3, 0, 0), 3)), (41, (.inl .dup, 1)), (42, (.inl (.iload_n 2), 1)), (43, (.inl (.aload_n 1), 1)), (44, (.inr (0, 4, 1, 0, 0), 3)), (47, (.inl (.aload_n 1), 1)), (48, (.inr (17, 72, 4, 2, 0), 3)), (51, (.inr (17, 16, 2, 1, 8), 3)), (54, (.inl .pop, 1)), (55, (.inl (.iinc 4 1), 3)), (58, (.inl (.goto (-55)), 3)), (61, (.inl .return_, 1))]
/-- FarStoreLaw.abort(LFarStore;I)I -/
def cd_75 : List (Nat × (OI × Nat)) := [(0, (.inl (.aload_n 0), 1)), (1, (.inl (.iload_n 1), 1)), (2, (.inr (17, 76, 2, 1, 0), 3)), (5, (.inl (.goto 9), 3)), (8, (.inl (.astore_n 2), 1)), (9, (.inl (.iconst 1), 1)), (10, (.inl .ireturn, 1)), (11, (.inl (.astore_n 2), 1)), (12, (.inl (.iconst 2), 1)), (13, (.inl .ireturn, 1)), (14, (.inl (.iconst 0), 1)), (15, (.inl .ireturn, 1))]
/-- FarStore.abort(I)V -/
def cd_76 : List (Nat × (OI × Nat)) := [(0, (.inl (.aload_n 0), 1)), (1, (.inl (.iload_n 1), 1)), (2, (.inr (17, 28, 2, 1, 0), 3)), (5, (.inl (.astore_n 2), 1)), (6, (.inl (.aload_n 0), 1)), (7, (.inl (.aload_n 2), 1)), (8, (.inr (17, 35, 2, 1, 0), 3)), (11, (.inl (.aload_n 2), 1)), (12, (.inl (.iconst 2), 1)), (13, (.inr (1, 4, 5, 0, 0), 3)), (16, (.inl .return_, 1))]
/-- FarStoreLaw.deliver(LFarStore;II[J)I -/
def cd_77 : List (Nat × (OI × Nat)) := [(0, (.inl (.aload_n 3), 1)), (1, (.inl (.iconst 0), 1)), (2, (.inl (.aload_n 0), 1)), (3, (.inl (.iload_n 1), 1)), (4, (.inl (.iload_n 2), 1)), (5, (.inr (17, 78, 3, 1, 0), 3)), (8, (.inl .i2l, 1)), (9, (.inl .lastore, 1)), (10, (.inl (.goto 11), 3)), (13, (.inl (.astore 4), 2)), (15, (.inl (.iconst 1), 1)), (16, (.inl .ireturn, 1)), (17, (.inl (.astore 4), 2)), (19, (.inl (.iconst 2), 1)), (20, (.inl .ireturn, 1)), (21, (.inl (.iconst 0), 1)), (22, (.inl .ireturn, 1))]
/-- FarStore.deliver(II)I -/
def cd_78 : List (Nat × (OI × Nat)) := [(0, (.inl (.aload_n 0), 1)), (1, (.inl (.iload_n 1), 1)), (2, (.inl (.iload_n 2), 1)), (3, (.inr (17, 79, 3, 1, 0), 3)), (6, (.inl (.aload_n 0), 1)), (7, (.inr (0, 0, 0, 0, 0), 3)), (10, (.inl (.iload_n 2), 1)), (11, (.inl .aaload, 1)), (12, (.inl (.iload_n 1), 1)), (13, (.inr (17, 80, 2, 1, 2), 3)), (16, (.inl (.astore_n 3), 1)), (17, (.inl (.aload_n 3), 1)), (18, (.inl (.ifnonnull 5), 3)), (21, (.inl (.iconst 0), 1)), (22, (.inl .ireturn, 1)), (23, (.inl (.aload_n 0), 1)), (24, (.inl (.aload_n 3), 1)), (25, (.inl (.aload_n 0), 1)), (26, (.inr (0, 0, 0, 0, 0), 3)), (29, (.inl (.iload_n 2), 1)), (30, (.inl .aaload, 1)), (31, (.inr (17, 83, 3, 1, 0), 3)), (34, (.inl (.aload_n 3), 1)), (35, (.inr (0, 7, 0, 0, 0), 3)), (38, (.inl .ireturn, 1))]
/-- FarStore.needTwoSites(II)V -/
def cd_79 : List (Nat × (OI × Nat)) := [(0, (.inl (.aload_n 0), 1)), (1, (.inl (.iload_n 1), 1)), (2, (.inr (17, 14, 2, 1, 0), 3)), (5, (.inl (.aload_n 0), 1)), (6, (.inl (.iload_n 2), 1)), (7, (.inr (17, 14, 2, 1, 0), 3)), (10, (.inl (.iload_n 1), 1)), (11, (.inl (.iload_n 2), 1)), (12, (.inl (.if_icmp .ne 13), 3)), (15, (.inr (16, 10, 0, 0, 0), 10)), (25, (.inl .return_, 1))]
/-- FarStore$Site.takeFrom(I)LFarStore$Message; -/
def cd_80 : List (Nat × (OI × Nat)) := [(0, (.inl (.iconst 0), 1)), (1, (.inl (.istore_n 2), 1)), (2, (.inl (.iload_n 2), 1)), (3, (.inl (.aload_n 0), 1)), (4, (.inr (0, 2, 3, 0, 0), 3)), (7, (.inr (17, 6, 1, 1, 8), 3)), (10, (.inl (.if_icmp .ge 39), 3)), (13, (.inl (.aload_n 0), 1)), (14, (.inr (0, 2, 3, 0, 0), 3)), (17, (.inl (.iload_n 2), 1)), (18, (.inr (17, 29, 2, 1, 8), 3)), (21, (.inr (4, 7, 0, 0, 0), 3)), (24, (.inr (0, 7, 1, 0, 0), 3)), (27, (.inl (.iload_n 1), 1)), (28, (.inl (.if_icmp .ne 15), 3)), (31, (.inl (.aload_n 0), 1)), (32, (.inr (0, 2, 3, 0, 0), 3)), (35, (.inl (.iload_n 2), 1)), (36, (.inr (17, 81, 2, 1, 8), 3)), (39, (.inr (4, 7, 0, 0, 0), 3)), (42, (.inl .areturn, 1)), (43, (.inl (.iinc 2 1), 3)), (46, (.inl (.goto (-44)), 3)), (49, (.inl .aconst_null, 1)), (50, (.inl .areturn, 1))]
/-- java/util/ArrayList.remove(I)Ljava/lang/Object; -/
def cd_81 : List (Nat × (OI × Nat)) := [(0, (.inl (.iload_n 1), 1)), (1, (.inl (.aload_n 0), 1)), (2, (.inr (0, 8, 1, 0, 0), 3)), (5, (.inr (17, 30, 2, 0, 0), 3)), (8, (.inl .pop, 1)), (9, (.inl (.aload_n 0), 1)), (10, (.inr (0, 8, 0, 0, 0), 3)), (13, (.inl (.astore_n 2), 1)), (14, (.inl (.aload_n 2), 1)), (15, (.inl (.iload_n 1), 1)), (16, (.inl .aaload, 1)), (17, (.inl (.astore_n 3), 1)), (18, (.inl (.aload_n 0), 1)), (19, (.inl (.aload_n 2), 1)), (20, (.inl (.iload_n 1), 1)), (21, (.inr (17, 82, 3, 1, 8), 3)), (24, (.inl (.aload_n 3), 1)), (25, (.inl .areturn, 1))]
/-- java/util/ArrayList.fastRemove([Ljava/lang/Object;I)V -/
def cd_82 : List (Nat × (OI × Nat)) := [(0, (.inl (.aload_n 0), 1)), (1, (.inl .dup, 1)), (2, (.inr (0, 8, 2, 0, 0), 3)), (5, (.inl (.iconst 1), 1)), (6, (.inl .iadd, 1)), (7, (.inr (1, 8, 2, 0, 0), 3)), (10, (.inl (.aload_n 0), 1)), (11, (.inr (0, 8, 1, 0, 0), 3)), (14, (.inl (.iconst 1), 1)), (15, (.inl .isub, 1)), (16, (.inl .dup, 1)), (17, (.inl (.istore_n 3), 1)), (18, (.inl (.iload_n 2), 1)), (19, (.inl (.if_icmp .le 15), 3)), (22, (.inl (.aload_n 1), 1)), (23, (.inl (.iload_n 2), 1)), (24, (.inl (.iconst 1), 1)), (25, (.inl .iadd, 1)), (26, (.inl (.aload_n 1), 1)), (27, (.inl (.iload_n 2), 1)), (28, (.inl (.iload_n 3), 1)), (29, (.inl (.iload_n 2), 1)), (30, (.inl .isub, 1)), (31, (.inr (9, 0, 0, 0, 0), 3)), (34, (.inl (.aload_n 1), 1)), (35, (.inl (.aload_n 0), 1)), (36, (.inl (.iload_n 3), 1)), (37, (.inl .dup_x1, 1)), (38, (.inr (1, 8, 1, 0, 0), 3)), (41, (.inl .aconst_null, 1)), (42, (.inl .aastore, 1)), (43, (.inl .return_, 1))]
/-- FarStore.arrive(LFarStore$Message;LFarStore$Site;)V -/
def cd_83 : List (Nat × (OI × Nat)) := [(0, (.inl (.aload_n 1), 1)), (1, (.inr (0, 7, 2, 0, 0), 3)), (4, (.inl (.astore_n 3), 1)), (5, (.inl (.aload_n 1), 1)), (6, (.inr (0, 7, 0, 0, 0), 3)), (9, (.inl (.tableswitch 68 1 4 #[31, 40, 48, 60]), 31)), (40, (.inl (.aload_n 0), 1)), (41, (.inl (.aload_n 3), 1)), (42, (.inl (.aload_n 2), 1)), (43, (.inr (17, 84, 3, 1, 0), 3)), (46, (.inl (.goto 36), 3)), (49, (.inl (.aload_n 0), 1)), (50, (.inl (.aload_n 3), 1)), (51, (.inr (17, 85, 2, 1, 0), 3)), (54, (.inl (.goto 28), 3)), (57, (.inl (.aload_n 0), 1)), (58, (.inl (.aload_n 3), 1)), (59, (.inl (.aload_n 1), 1)), (60, (.inr (0, 7, 1, 0, 0), 3)), (63, (.inr (17, 86, 3, 1, 0), 3)), (66, (.inl (.goto 16), 3)), (69, (.inl (.aload_n 3), 1)), (70, (.inl (.aload_n 2), 1)), (71, (.inr (17, 71, 2, 1, 4), 3)), (74, (.inl (.goto 8), 3)), (77, (.inl (.aload_n 2), 1)), (78, (.inl (.aload_n 3), 1)), (79, (.inr (17, 87, 2, 1, 2), 3)), (82, (.inl .return_, 1))]
/-- FarStore.answer(LFarStore$Transaction;LFarStore$Site;)V -/
def cd_84 : List (Nat × (OI × Nat)) := [(0, (.inl (.iconst 3), 1)), (1, (.inl (.istore_n 3), 1)), (2, (.inl (.aload_n 1), 1)), (3, (.inl (.aload_n 2), 1)), (4, (.inr (17, 63, 2, 1, 4), 3)), (7, (.inl (.ifCond .ne 10), 3)), (10, (.inl (.aload_n 1), 1)), (11, (.inl (.aload_n 2), 1)), (12, (.inr (17, 73, 2, 1, 4), 3)), (15, (.inl (.iconst 2), 1)), (16, (.inl (.istore_n 3), 1)), (17, (.inl (.aload_n 0), 1)), (18, (.inr (0, 0, 0, 0, 0), 3)), (21, (.inl (.aload_n 1), 1)), (22, (.inr (0, 4, 1, 0, 0), 3)), (25, (.inl .aaload, 1)), (26, (.inr (0, 2, 3, 0, 0), 3)), (29, (.inr (2, 7, 3, 0, 0), 3)), (32, (.inl .dup, 1)), (33, (.inl (.iload_n 3), 1)), (34, (.inl (.aload_n 2), 1)), (35, (.inr (0, 2, 0, 0, 0), 3)), (38, (.inl (.aload_n 1), 1)), (39, (.inr (17, 72, 4, 2, 0), 3)), (42, (.inr (17, 16, 2, 1, 8), 3)), (45, (.inl .pop, 1)), (46, (.inl .return_, 1))]
/-- FarStore.hearYes(LFarStore$Transaction;)V -/
def cd_85 : List (Nat × (OI × Nat)) := [(0, (.inl (.aload_n 1), 1)), (1, (.inr (0, 4, 5, 0, 0), 3)), (4, (.inl (.iconst 3), 1)), (5, (.inl (.if_icmp .eq 4), 3)), (8, (.inl .return_, 1)), (9, (.inl (.aload_n 1), 1)), (10, (.inl .dup, 1)), (11, (.inr (0, 4, 7, 0, 0), 3)), (14, (.inl (.iconst 1), 1)), (15, (.inl .isub, 1)), (16, (.inr (1, 4, 7, 0, 0), 3)), (19, (.inl (.aload_n 1), 1)), (20, (.inr (0, 4, 7, 0, 0), 3)), (23, (.inl (.ifCond .ne 8), 3)), (26, (.inl (.aload_n 0), 1)), (27, (.inl (.aload_n 1), 1)), (28, (.inr (17, 68, 2, 1, 0), 3)), (31, (.inl .return_, 1))]
/-- FarStore.hearNo(LFarStore$Transaction;I)V -/
def cd_86 : List (Nat × (OI × Nat)) := [(0, (.inl (.aload_n 1), 1)), (1, (.inr (0, 4, 5, 0, 0), 3)), (4, (.inl (.iconst 3), 1)), (5, (.inl (.if_icmp .eq 4), 3)), (8, (.inl .return_, 1)), (9, (.inl (.aload_n 1), 1)), (10, (.inl (.iconst 2), 1)), (11, (.inr (1, 4, 5, 0, 0), 3)), (14, (.inl (.aload_n 1), 1)), (15, (.inl (.aload_n 0), 1)), (16, (.inr (0, 0, 0, 0, 0), 3)), (19, (.inl (.aload_n 1), 1)), (20, (.inr (0, 4, 1, 0, 0), 3)), (23, (.inl .aaload, 1)), (24, (.inr (17, 71, 2, 1, 4), 3)), (27, (.inl (.aload_n 0), 1)), (28, (.inl (.aload_n 1), 1)), (29, (.inl (.iconst 4), 1)), (30, (.inl (.iload_n 2), 1)), (31, (.inr (17, 74, 4, 1, 0), 3)), (34, (.inl .return_, 1))]
/-- FarStore$Site.receive(LFarStore$Transaction;)V -/
def cd_87 : List (Nat × (OI × Nat)) := [(0, (.inl (.aload_n 0), 1)), (1, (.inl (.aload_n 1), 1)), (2, (.inr (17, 88, 2, 1, 2), 3)), (5, (.inl (.ifCond .eq 15), 3)), (8, (.inl (.aload_n 0), 1)), (9, (.inl (.aload_n 1), 1)), (10, (.inr (17, 70, 2, 1, 2), 3)), (13, (.inl (.aload_n 0), 1)), (14, (.inr (17, 89, 1, 1, 2), 3)), (17, (.inl (.goto 12), 3)), (20, (.inl (.aload_n 0), 1)), (21, (.inr (0, 2, 2, 0, 0), 3)), (24, (.inl (.aload_n 1), 1)), (25, (.inr (17, 16, 2, 1, 8), 3)), (28, (.inl .pop, 1)), (29, (.inl .return_, 1))]
/-- FarStore$Site.canApply(LFarStore$Transaction;)Z -/
def cd_88 : List (Nat × (OI × Nat)) := [(0, (.inl (.aload_n 0), 1)), (1, (.inr (0, 2, 1, 0, 0), 3)), (4, (.inl (.aload_n 1), 1)), (5, (.inr (0, 4, 1, 0, 0), 3)), (8, (.inl .iaload, 1)), (9, (.inl (.aload_n 1), 1)), (10, (.inr (0, 4, 6, 0, 0), 3)), (13, (.inl (.iconst 1), 1)), (14, (.inl .isub, 1)), (15, (.inl (.if_icmp .eq 5), 3)), (18, (.inl (.iconst 0), 1)), (19, (.inl .ireturn, 1)), (20, (.inl (.iconst 0), 1)), (21, (.inl (.istore_n 2), 1)), (22, (.inl (.iload_n 2), 1)), (23, (.inl (.aload_n 0), 1)), (24, (.inr (0, 2, 1, 0, 0), 3)), (27, (.inl .arraylength, 1)), (28, (.inl (.if_icmp .ge 26), 3)), (31, (.inl (.aload_n 0), 1)), (32, (.inr (0, 2, 1, 0, 0), 3)), (35, (.inl (.iload_n 2), 1)), (36, (.inl .iaload, 1)), (37, (.inl (.aload_n 1), 1)), (38, (.inr (0, 4, 2, 0, 0), 3)), (41, (.inl (.iload_n 2), 1)), (42, (.inl .iaload, 1)), (43, (.inl (.if_icmp .ge 5), 3)), (46, (.inl (.iconst 0), 1)), (47, (.inl .ireturn, 1)), (48, (.inl (.iinc 2 1), 3)), (51, (.inl (.goto (-29)), 3)), (54, (.inl (.iconst 1), 1)), (55, (.inl .ireturn, 1))]
/-- FarStore$Site.applyHeld()V -/
def cd_89 : List (Nat × (OI × Nat)) := [(0, (.inl (.aload_n 0), 1)), (1, (.inr (0, 2, 2, 0, 0), 3)), (4, (.inr (17, 6, 1, 1, 8), 3)), (7, (.inl (.istore_n 1), 1)), (8, (.inl (.iload_n 1), 1)), (9, (.inl (.ifCond .le 34), 3)), (12, (.inl (.aload_n 0), 1)), (13, (.inr (17, 90, 1, 1, 2), 3)), (16, (.inl (.istore_n 2), 1)), (17, (.inl (.iload_n 2), 1)), (18, (.inl (.ifCond .ge 4), 3)), (21, (.inl .return_, 1)), (22, (.inl (.aload_n 0), 1)), (23, (.inl (.aload_n 0), 1)), (24, (.inr (0, 2, 2, 0, 0), 3)), (27, (.inl (.iload_n 2), 1)), (28, (.inr (17, 81, 2, 1, 8), 3)), (31, (.inr (4, 4, 0, 0, 0), 3)), (34, (.inr (17, 70, 2, 1, 2), 3)), (37, (.inl (.iinc 1 (-1)), 3)), (40, (.inl (.goto (-32)), 3)), (43, (.inl .return_, 1))]
/-- FarStore$Site.firstThatCanBeApplied()I -/
def cd_90 : List (Nat × (OI × Nat)) := [(0, (.inl (.iconst 0), 1)), (1, (.inl (.istore_n 1), 1)), (2, (.inl (.iload_n 1), 1)), (3, (.inl (.aload_n 0), 1)), (4, (.inr (0, 2, 2, 0, 0), 3)), (7, (.inr (17, 6, 1, 1, 8), 3)), (10, (.inl (.if_icmp .ge 29), 3)), (13, (.inl (.aload_n 0), 1)), (14, (.inl (.aload_n 0), 1)), (15, (.inr (0, 2, 2, 0, 0), 3)), (18, (.inl (.iload_n 1), 1)), (19, (.inr (17, 29, 2, 1, 8), 3)), (22, (.inr (4, 4, 0, 0, 0), 3)), (25, (.inr (17, 88, 2, 1, 2), 3)), (28, (.inl (.ifCond .eq 5), 3)), (31, (.inl (.iload_n 1), 1)), (32, (.inl .ireturn, 1)), (33, (.inl (.iinc 1 1), 3)), (36, (.inl (.goto (-34)), 3)), (39, (.inl (.iconst (-1)), 1)), (40, (.inl .ireturn, 1))]
/-- FarStoreLaw.waiting(LFarStore;II[J)I -/
def cd_91 : List (Nat × (OI × Nat)) := [(0, (.inl (.aload_n 3), 1)), (1, (.inl (.iconst 0), 1)), (2, (.inl (.aload_n 0), 1)), (3, (.inl (.iload_n 1), 1)), (4, (.inl (.iload_n 2), 1)), (5, (.inr (17, 92, 3, 1, 0), 3)), (8, (.inl .i2l, 1)), (9, (.inl .lastore, 1)), (10, (.inl (.goto 11), 3)), (13, (.inl (.astore 4), 2)), (15, (.inl (.iconst 1), 1)), (16, (.inl .ireturn, 1)), (17, (.inl (.astore 4), 2)), (19, (.inl (.iconst 2), 1)), (20, (.inl .ireturn, 1)), (21, (.inl (.iconst 0), 1)), (22, (.inl .ireturn, 1))]
/-- FarStore.waiting(II)I -/
def cd_92 : List (Nat × (OI × Nat)) := [(0, (.inl (.aload_n 0), 1)), (1, (.inl (.iload_n 1), 1)), (2, (.inl (.iload_n 2), 1)), (3, (.inr (17, 79, 3, 1, 0), 3)), (6, (.inl (.aload_n 0), 1)), (7, (.inr (0, 0, 0, 0, 0), 3)), (10, (.inl (.iload_n 2), 1)), (11, (.inl .aaload, 1)), (12, (.inl (.iload_n 1), 1)), (13, (.inr (17, 93, 2, 1, 2), 3)), (16, (.inl .ireturn, 1))]
/-- FarStore$Site.waitingFrom(I)I -/
def cd_93 : List (Nat × (OI × Nat)) := [(0, (.inl (.iconst 0), 1)), (1, (.inl (.istore_n 2), 1)), (2, (.inl (.iconst 0), 1)), (3, (.inl (.istore_n 3), 1)), (4, (.inl (.iload_n 3), 1)), (5, (.inl (.aload_n 0), 1)), (6, (.inr (0, 2, 3, 0, 0), 3)), (9, (.inr (17, 6, 1, 1, 8), 3)), (12, (.inl (.if_icmp .ge 30), 3)), (15, (.inl (.aload_n 0), 1)), (16, (.inr (0, 2, 3, 0, 0), 3)), (19, (.inl (.iload_n 3), 1)), (20, (.inr (17, 29, 2, 1, 8), 3)), (23, (.inr (4, 7, 0, 0, 0), 3)), (26, (.inr (0, 7, 1, 0, 0), 3)), (29, (.inl (.iload_n 1), 1)), (30, (.inl (.if_icmp .ne 6), 3)), (33, (.inl (.iinc 2 1), 3)), (36, (.inl (.iinc 3 1), 3)), (39, (.inl (.goto (-35)), 3)), (42, (.inl (.iload_n 2), 1)), (43, (.inl .ireturn, 1))]
/-- FarStoreLaw.seen(LFarStore;II[J)I -/
def cd_94 : List (Nat × (OI × Nat)) := [(0, (.inl (.aload_n 3), 1)), (1, (.inl (.iconst 0), 1)), (2, (.inl (.aload_n 0), 1)), (3, (.inl (.iload_n 1), 1)), (4, (.inl (.iload_n 2), 1)), (5, (.inr (17, 95, 3, 1, 0), 3)), (8, (.inl .i2l, 1)), (9, (.inl .lastore, 1)), (10, (.inl (.goto 11), 3)), (13, (.inl (.astore 4), 2)), (15, (.inl (.iconst 1), 1)), (16, (.inl .ireturn, 1)), (17, (.inl (.astore 4), 2)), (19, (.inl (.iconst 2), 1)), (20, (.inl .ireturn, 1)), (21, (.inl (.iconst 0), 1)), (22, (.inl .ireturn, 1))]
/-- FarStore.seen(II)I -/
def cd_95 : List (Nat × (OI × Nat)) := [(0, (.inl (.aload_n 0), 1)), (1, (.inl (.iload_n 1), 1)), (2, (.inr (17, 14, 2, 1, 0), 3)), (5, (.inl (.aload_n 0), 1)), (6, (.inl (.iload_n 2), 1)), (7, (.inr (17, 14, 2, 1, 0), 3)), (10, (.inl (.aload_n 0), 1)), (11, (.inr (0, 0, 0, 0, 0), 3)), (14, (.inl (.iload_n 1), 1)), (15, (.inl .aaload, 1)), (16, (.inr (0, 2, 1, 0, 0), 3)), (19, (.inl (.iload_n 2), 1)), (20, (.inl .iaload, 1)), (21, (.inl .ireturn, 1))]
/-- FarStoreLaw.state(LFarStore;II[J)I -/
def cd_96 : List (Nat × (OI × Nat)) := [(0, (.inl (.aload_n 3), 1)), (1, (.inl (.iconst 0), 1)), (2, (.inl (.aload_n 0), 1)), (3, (.inl (.iload_n 1), 1)), (4, (.inl (.iload_n 2), 1)), (5, (.inr (17, 97, 3, 1, 0), 3)), (8, (.inl .i2l, 1)), (9, (.inl .lastore, 1)), (10, (.inl (.goto 11), 3)), (13, (.inl (.astore 4), 2)), (15, (.inl (.iconst 1), 1)), (16, (.inl .ireturn, 1)), (17, (.inl (.astore 4), 2)), (19, (.inl (.iconst 2), 1)), (20, (.inl .ireturn, 1)), (21, (.inl (.iconst 0), 1)), (22, (.inl .ireturn, 1))]
/-- FarStore.state(II)I -/
def cd_97 : List (Nat × (OI × Nat)) := [(0, (.inl (.aload_n 0), 1)), (1, (.inl (.iload_n 1), 1)), (2, (.inr (17, 28, 2, 1, 0), 3)), (5, (.inl (.astore_n 3), 1)), (6, (.inl (.iload_n 2), 1)), (7, (.inl (.tableswitch 62 0 3 #[29, 34, 39, 45]), 29)), (36, (.inl (.aload_n 3), 1)), (37, (.inr (0, 4, 5, 0, 0), 3)), (40, (.inl .ireturn, 1)), (41, (.inl (.aload_n 3), 1)), (42, (.inr (0, 4, 6, 0, 0), 3)), (45, (.inl .ireturn, 1)), (46, (.inl (.aload_n 0), 1)), (47, (.inl (.aload_n 3), 1)), (48, (.inr (17, 98, 2, 1, 0), 3)), (51, (.inl .ireturn, 1)), (52, (.inl (.aload_n 3), 1)), (53, (.inr (0, 4, 5, 0, 0), 3)), (56, (.inl (.iconst 3), 1)), (57, (.inl (.if_icmp .ne 10), 3)), (60, (.inl (.aload_n 3), 1)), (61, (.inr (0, 4, 7, 0, 0), 3)), (64, (.inl (.goto 4), 3)), (67, (.inl (.iconst 0), 1)), (68, (.inl .ireturn, 1)), (69, (.inr (16, 10, 0, 0, 0), 10))]
/-- FarStore.sitesThatApplied(LFarStore$Transaction;)I -/
def cd_98 : List (Nat × (OI × Nat)) := [(0, (.inl (.iconst 0), 1)), (1, (.inl (.istore_n 2), 1)), (2, (.inl (.iconst 0), 1)), (3, (.inl (.istore_n 3), 1)), (4, (.inl (.iload_n 3), 1)), (5, (.inl (.aload_n 0), 1)), (6, (.inr (0, 0, 0, 0, 0), 3)), (9, (.inl .arraylength, 1)), (10, (.inl (.if_icmp .ge 25), 3)), (13, (.inl (.aload_n 0), 1)), (14, (.inr (0, 0, 0, 0, 0), 3)), (17, (.inl (.iload_n 3), 1)), (18, (.inl .aaload, 1)), (19, (.inl (.aload_n 1), 1)), (20, (.inr (17, 65, 2, 1, 2), 3)), (23, (.inl (.ifCond .eq 6), 3)), (26, (.inl (.iinc 2 1), 3)), (29, (.inl (.iinc 3 1), 3)), (32, (.inl (.goto (-28)), 3)), (35, (.inl (.iload_n 2), 1)), (36, (.inl .ireturn, 1))]
/-- FarStoreLaw.locked(LFarStore;I[J)I -/
def cd_99 : List (Nat × (OI × Nat)) := [(0, (.inl (.aload_n 2), 1)), (1, (.inl (.iconst 0), 1)), (2, (.inl (.aload_n 0), 1)), (3, (.inl (.iload_n 1), 1)), (4, (.inr (17, 100, 2, 1, 0), 3)), (7, (.inl .i2l, 1)), (8, (.inl .lastore, 1)), (9, (.inl (.goto 9), 3)), (12, (.inl (.astore_n 3), 1)), (13, (.inl (.iconst 1), 1)), (14, (.inl .ireturn, 1)), (15, (.inl (.astore_n 3), 1)), (16, (.inl (.iconst 2), 1)), (17, (.inl .ireturn, 1)), (18, (.inl (.iconst 0), 1)), (19, (.inl .ireturn, 1))]
/-- FarStore.locked(I)I -/
def cd_100 : List (Nat × (OI × Nat)) := [(0, (.inl (.aload_n 0), 1)), (1, (.inl (.iload_n 1), 1)), (2, (.inr (17, 34, 2, 1, 0), 3)), (5, (.inr (0, 3, 4, 0, 0), 3)), (8, (.inl .ireturn, 1))]
/-- FarStoreModel.<init>()V -/
def cd_101 : List (Nat × (OI × Nat)) := [(0, (.inl (.aload_n 0), 1)), (1, (.inr (7, 0, 0, 0, 0), 3)), (4, (.inl (.aload_n 0), 1)), (5, (.inl (.sipush 200), 3)), (8, (.inl (.newarray .int), 2)), (10, (.inr (1, 9, 7, 3, 0), 3)), (13, (.inl (.aload_n 0), 1)), (14, (.inl (.sipush 200), 3)), (17, (.inl (.newarray .int), 2)), (19, (.inr (1, 9, 8, 3, 0), 3)), (22, (.inl (.aload_n 0), 1)), (23, (.inl (.sipush 200), 3)), (26, (.inl (.newarray .boolean), 2)), (28, (.inr (1, 9, 9, 3, 0), 3)), (31, (.inl (.aload_n 0), 1)), (32, (.inl (.sipush 500), 3)), (35, (.inl (.newarray .int), 2)), (37, (.inr (1, 9, 10, 3, 0), 3)), (40, (.inl (.aload_n 0), 1)), (41, (.inl (.sipush 500), 3)), (44, (.inl (.newarray .int), 2)), (46, (.inr (1, 9, 11, 3, 0), 3)), (49, (.inl (.aload_n 0), 1)), (50, (.inl (.sipush 500), 3)), (53, (.inl (.newarray .int), 2)), (55, (.inr (1, 9, 12, 3, 0), 3)), (58, (.inl (.aload_n 0), 1)), (59, (.inl (.sipush 3000), 3)), (62, (.inl (.newarray .int), 2)), (64, (.inr (1, 9, 13, 3, 0), 3)), (67, (.inl (.aload_n 0), 1)), (68, (.inl (.sipush 500), 3)), (71, (.inl (.newarray .int), 2)), (73, (.inr (1, 9, 14, 3, 0), 3)), (76, (.inl (.aload_n 0), 1)), (77, (.inl (.sipush 500), 3)), (80, (.inl (.newarray .int), 2)), (82, (.inr (1, 9, 15, 3, 0), 3)), (85, (.inl (.aload_n 0), 1)), (86, (.inl (.sipush 4200), 3)), (89, (.inl (.newarray .int), 2)), (91, (.inr (1, 9, 16, 3, 0), 3)), (94, (.inl (.aload_n 0), 1)), (95, (.inl (.sipush 4200), 3)), (98, (.inl (.newarray .int), 2)), (100, (.inr (1, 9, 17, 3, 0), 3)), (103, (.inl (.aload_n 0), 1)), (104, (.inl (.sipush 4200), 3)), (107, (.inl (.newarray .int), 2)), (109, (.inr (1, 9, 18, 3, 0), 3)), (112, (.inl (.aload_n 0), 1)), (113, (.inl (.sipush 4200), 3)), (116, (.inl (.newarray .long), 2)), (118, (.inr (1, 9, 19, 3, 0), 3)), (121, (.inl (.aload_n 0), 1)), (122, (.inl (.bipush 36), 2)), (124, (.inl (.newarray .int), 2)), (126, (.inr (1, 9, 20, 3, 0), 3)), (129, (.inl (.aload_n 0), 1)), (130, (.inl (.bipush 6), 2)), (132, (.inl (.newarray .int), 2)), (134, (.inr (1, 9, 21, 3, 0), 3)), (137, (.inl (.aload_n 0), 1)), (138, (.inl (.sipush 3006), 3)), (141, (.inl (.newarray .int), 2)), (143, (.inr (1, 9, 22, 3, 0), 3)), (146, (.inl (.aload_n 0), 1)), (147, (.inl (.sipush 16000), 3)), (150, (.inl (.newarray .int), 2)), (152, (.inr (1, 9, 23, 3, 0), 3)), (155, (.inl (.aload_n 0), 1)), (156, (.inl (.sipush 16000), 3)), (159, (.inl (.newarray .int), 2)), (161, (.inr (1, 9, 24, 3, 0), 3)), (164, (.inl (.aload_n 0), 1)), (165, (.inl (.sipush 16000), 3)), (168, (.inl (.newarray .int), 2)), (170, (.inr (1, 9, 25, 3, 0), 3)), (173, (.inl (.aload_n 0), 1)), (174, (.inl (.sipush 16000), 3)), (177, (.inl (.newarray .int), 2)), (179, (.inr (1, 9, 26, 3, 0), 3)), (182, (.inl (.aload_n 0), 1)), (183, (.inl (.sipush 3000), 3)), (186, (.inl (.newarray .int), 2)), (188, (.inr (1, 9, 27, 3, 0), 3)), (191, (.inl (.aload_n 0), 1)), (192, (.inl (.bipush 6), 2)), (194, (.inl (.newarray .int), 2)), (196, (.inr (1, 9, 28, 3, 0), 3)), (199, (.inl .return_, 1))]
/-- FarStoreModel.thrown()I -/
def cd_102 : List (Nat × (OI × Nat)) := [(0, (.inl (.aload_n 0), 1)), (1, (.inr (0, 9, 0, 0, 0), 3)), (4, (.inl .ireturn, 1))]
/-- FarStoreModel.sites(I)V -/
def cd_103 : List (Nat × (OI × Nat)) := [(0, (.inl (.aload_n 0), 1)), (1, (.inl (.iload_n 1), 1)), (2, (.inl (.iconst 1), 1)), (3, (.inl (.if_icmp .lt 9), 3)), (6, (.inl (.iload_n 1), 1)), (7, (.inl (.bipush 6), 2)), (9, (.inl (.if_icmp .le 7), 3)), (12, (.inl (.iconst 1), 1)), (13, (.inl (.goto 4), 3)), (16, (.inl (.iconst 0), 1)), (17, (.inl (.aload_n 0), 1)), (18, (.inr (0, 9, 1, 0, 0), 3)), (21, (.inl (.ifCond .le 7), 3)), (24, (.inl (.iconst 1), 1)), (25, (.inl (.goto 4), 3)), (28, (.inl (.iconst 0), 1)), (29, (.inr (17, 104, 3, 1, 9), 3)), (32, (.inl (.ifCond .eq 4), 3)), (35, (.inl .return_, 1)), (36, (.inl (.aload_n 0), 1)), (37, (.inl (.iload_n 1), 1)), (38, (.inr (1, 9, 1, 0, 0), 3)), (41, (.inl .return_, 1))]
/-- FarStoreModel.fails(ZZ)Z -/
def cd_104 : List (Nat × (OI × Nat)) := [(0, (.inl (.aload_n 0), 1)), (1, (.inl (.iload_n 1), 1)), (2, (.inl (.ifCond .eq 7), 3)), (5, (.inl (.iconst 1), 1)), (6, (.inl (.goto 12), 3)), (9, (.inl (.iload_n 2), 1)), (10, (.inl (.ifCond .eq 7), 3)), (13, (.inl (.iconst 2), 1)), (14, (.inl (.goto 4), 3)), (17, (.inl (.iconst 0), 1)), (18, (.inr (1, 9, 0, 0, 0), 3)), (21, (.inl (.aload_n 0), 1)), (22, (.inr (0, 9, 0, 0, 0), 3)), (25, (.inl (.ifCond .eq 7), 3)), (28, (.inl (.iconst 1), 1)), (29, (.inl (.goto 4), 3)), (32, (.inl (.iconst 0), 1)), (33, (.inl .ireturn, 1))]
/-- FarStoreModel.object(IZ)I -/
def cd_105 : List (Nat × (OI × Nat)) := [(0, (.inl (.aload_n 0), 1)), (1, (.inl (.aload_n 0), 1)), (2, (.inl (.iload_n 1), 1)), (3, (.inr (17, 106, 2, 1, 9), 3)), (6, (.inl (.ifCond .ne 7), 3)), (9, (.inl (.iconst 1), 1)), (10, (.inl (.goto 4), 3)), (13, (.inl (.iconst 0), 1)), (14, (.inl (.aload_n 0), 1)), (15, (.inr (0, 9, 2, 0, 0), 3)), (18, (.inl (.sipush 200), 3)), (21, (.inl (.if_icmp .ne 7), 3)), (24, (.inl (.iconst 1), 1)), (25, (.inl (.goto 4), 3)), (28, (.inl (.iconst 0), 1)), (29, (.inr (17, 104, 3, 1, 9), 3)), (32, (.inl (.ifCond .eq 5), 3)), (35, (.inl (.iconst 0), 1)), (36, (.inl .ireturn, 1)), (37, (.inl (.aload_n 0), 1)), (38, (.inr (0, 9, 7, 0, 0), 3)), (41, (.inl (.aload_n 0), 1)), (42, (.inr (0, 9, 2, 0, 0), 3)), (45, (.inl (.iload_n 1), 1)), (46, (.inl .iastore, 1)), (47, (.inl (.aload_n 0), 1)), (48, (.inr (0, 9, 9, 0, 0), 3)), (51, (.inl (.aload_n 0), 1)), (52, (.inr (0, 9, 2, 0, 0), 3)), (55, (.inl (.iload_n 2), 1)), (56, (.inl .bastore, 1)), (57, (.inl (.aload_n 0), 1)), (58, (.inr (0, 9, 8, 0, 0), 3)), (61, (.inl (.aload_n 0), 1)), (62, (.inr (0, 9, 2, 0, 0), 3)), (65, (.inl (.iconst (-1)), 1)), (66, (.inl .iastore, 1)), (67, (.inl (.aload_n 0), 1)), (68, (.inl .dup, 1)), (69, (.inr (0, 9, 2, 0, 0), 3)), (72, (.inl (.iconst 1), 1)), (73, (.inl .iadd, 1)), (74, (.inr (1, 9, 2, 0, 0), 3)), (77, (.inl (.aload_n 0), 1)), (78, (.inr (0, 9, 2, 0, 0), 3)), (81, (.inl (.iconst 1), 1)), (82, (.inl .isub, 1)), (83, (.inl .ireturn, 1))]
/-- FarStoreModel.isSite(I)Z -/
def cd_106 : List (Nat × (OI × Nat)) := [(0, (.inl (.iload_n 1), 1)), (1, (.inl (.ifCond .lt 15), 3)), (4, (.inl (.iload_n 1), 1)), (5, (.inl (.aload_n 0), 1)), (6, (.inr (0, 9, 1, 0, 0), 3)), (9, (.inl (.if_icmp .ge 7), 3)), (12, (.inl (.iconst 1), 1)), (13, (.inl (.goto 4), 3)), (16, (.inl (.iconst 0), 1)), (17, (.inl .ireturn, 1))]
/-- FarStoreModel.begin(I)I -/
def cd_107 : List (Nat × (OI × Nat)) := [(0, (.inl (.aload_n 0), 1)), (1, (.inl (.aload_n 0), 1)), (2, (.inl (.iload_n 1), 1)), (3, (.inr (17, 106, 2, 1, 9), 3)), (6, (.inl (.ifCond .ne 7), 3)), (9, (.inl (.iconst 1), 1)), (10, (.inl (.goto 4), 3)), (13, (.inl (.iconst 0), 1)), (14, (.inl (.aload_n 0), 1)), (15, (.inr (0, 9, 3, 0, 0), 3)), (18, (.inl (.sipush 500), 3)), (21, (.inl (.if_icmp .ne 7), 3)), (24, (.inl (.iconst 1), 1)), (25, (.inl (.goto 4), 3)), (28, (.inl (.iconst 0), 1)), (29, (.inr (17, 104, 3, 1, 9), 3)), (32, (.inl (.ifCond .eq 5), 3)), (35, (.inl (.iconst 0), 1)), (36, (.inl .ireturn, 1)), (37, (.inl (.aload_n 0), 1)), (38, (.inr (0, 9, 3, 0, 0), 3)), (41, (.inl (.istore_n 2), 1)), (42, (.inl (.aload_n 0), 1)), (43, (.inl .dup, 1)), (44, (.inr (0, 9, 3, 0, 0), 3)), (47, (.inl (.iconst 1), 1)), (48, (.inl .iadd, 1)), (49, (.inr (1, 9, 3, 0, 0), 3)), (52, (.inl (.aload_n 0), 1)), (53, (.inr (0, 9, 10, 0, 0), 3)), (56, (.inl (.iload_n 2), 1)), (57, (.inl (.iload_n 1), 1)), (58, (.inl .iastore, 1)), (59, (.inl (.iconst 0), 1)), (60, (.inl (.istore_n 3), 1)), (61, (.inl (.iload_n 3), 1)), (62, (.inl (.aload_n 0), 1)), (63, (.inr (0, 9, 1, 0, 0), 3)), (66, (.inl (.if_icmp .ge 31), 3)), (69, (.inl (.aload_n 0), 1)), (70, (.inr (0, 9, 13, 0, 0), 3)), (73, (.inl (.bipush 6), 2)), (75, (.inl (.iload_n 2), 1)), (76, (.inl .imul, 1)), (77, (.inl (.iload_n 3), 1)), (78, (.inl .iadd, 1)), (79, (.inl (.aload_n 0), 1)), (80, (.inr (0, 9, 20, 0, 0), 3)), (83, (.inl (.bipush 6), 2)), (85, (.inl (.iload_n 1), 1)), (86, (.inl .imul, 1)), (87, (.inl (.iload_n 3), 1)), (88, (.inl .iadd, 1)), (89, (.inl .iaload, 1)), (90, (.inl .iastore, 1)), (91, (.inl (.iinc 3 1), 3)), (94, (.inl (.goto (-33)), 3)), (97, (.inl (.iload_n 2), 1)), (98, (.inl .ireturn, 1))]
/-- FarStoreModel.read(II)J -/
def cd_108 : List (Nat × (OI × Nat)) := [(0, (.inl (.aload_n 0), 1)), (1, (.inl (.iload_n 1), 1)), (2, (.inl (.iload_n 2), 1)), (3, (.inl (.iconst 0), 1)), (4, (.inr (17, 109, 4, 1, 9), 3)), (7, (.inl (.ifCond .eq 5), 3)), (10, (.inl (.lconst 0), 1)), (11, (.inl .lreturn, 1)), (12, (.inl (.aload_n 0), 1)), (13, (.inl (.iload_n 1), 1)), (14, (.inl (.iload_n 2), 1)), (15, (.inr (17, 112, 3, 1, 9), 3)), (18, (.inl (.ifCond .eq 10), 3)), (21, (.inl (.aload_n 0), 1)), (22, (.inl (.iload_n 1), 1)), (23, (.inl (.iload_n 2), 1)), (24, (.inr (17, 113, 3, 1, 9), 3)), (27, (.inl .lreturn, 1)), (28, (.inl (.iconst (-1)), 1)), (29, (.inl (.istore_n 3), 1)), (30, (.inl (.iconst 0), 1)), (31, (.inl (.istore 4), 2)), (33, (.inl (.iload 4), 2)), (35, (.inl (.aload_n 0), 1)), (36, (.inr (0, 9, 3, 0, 0), 3)), (39, (.inl (.if_icmp .ge 49), 3)), (42, (.inl (.aload_n 0), 1)), (43, (.inl (.iload 4), 2)), (45, (.inl (.iload_n 1), 1)), (46, (.inr (17, 114, 3, 1, 9), 3)), (49, (.inl (.ifCond .eq 33), 3)), (52, (.inl (.aload_n 0), 1)), (53, (.inl (.iload 4), 2)), (55, (.inl (.iload_n 2), 1)), (56, (.inr (17, 112, 3, 1, 9), 3)), (59, (.inl (.ifCond .ne 6), 3)), (62, (.inl (.goto 20), 3)), (65, (.inl (.iload_n 3), 1)), (66, (.inl (.ifCond .lt 13), 3)), (69, (.inl (.aload_n 0), 1)), (70, (.inl (.iload_n 3), 1)), (71, (.inl (.iload 4), 2)), (73, (.inr (17, 114, 3, 1, 9), 3)), (76, (.inl (.ifCond .eq 6), 3)), (79, (.inl (.iload 4), 2)), (81, (.inl (.istore_n 3), 1)), (82, (.inl (.iinc 4 1), 3)), (85, (.inl (.goto (-52)), 3)), (88, (.inl (.iload_n 3), 1)), (89, (.inl (.ifCond .ge 7), 3)), (92, (.inl (.lconst 0), 1)), (93, (.inl (.goto 9), 3)), (96, (.inl (.aload_n 0), 1)), (97, (.inl (.iload_n 3), 1)), (98, (.inl (.iload_n 2), 1)), (99, (.inr (17, 113, 3, 1, 9), 3)), (102, (.inl .lreturn, 1))]
/-- FarStoreModel.isWrong(IIZ)Z -/
def cd_109 : List (Nat × (OI × Nat)) := [(0, (.inl (.aload_n 0), 1)), (1, (.inl (.aload_n 0), 1)), (2, (.inl (.iload_n 1), 1)), (3, (.inr (17, 110, 2, 1, 9), 3)), (6, (.inl (.ifCond .eq 21), 3)), (9, (.inl (.aload_n 0), 1)), (10, (.inl (.iload_n 2), 1)), (11, (.inr (17, 111, 2, 1, 9), 3)), (14, (.inl (.ifCond .eq 13), 3)), (17, (.inl (.aload_n 0), 1)), (18, (.inr (0, 9, 9, 0, 0), 3)), (21, (.inl (.iload_n 2), 1)), (22, (.inl .baload, 1)), (23, (.inl (.iload_n 3), 1)), (24, (.inl (.if_icmp .eq 7), 3)), (27, (.inl (.iconst 1), 1)), (28, (.inl (.goto 4), 3)), (31, (.inl (.iconst 0), 1)), (32, (.inl (.aload_n 0), 1)), (33, (.inl (.iload_n 1), 1)), (34, (.inr (17, 110, 2, 1, 9), 3)), (37, (.inl (.ifCond .eq 16), 3)), (40, (.inl (.aload_n 0), 1)), (41, (.inr (0, 9, 11, 0, 0), 3)), (44, (.inl (.iload_n 1), 1)), (45, (.inl .iaload, 1)), (46, (.inl (.ifCond .eq 7), 3)), (49, (.inl (.iconst 1), 1)), (50, (.inl (.goto 4), 3)), (53, (.inl (.iconst 0), 1)), (54, (.inr (17, 104, 3, 1, 9), 3)), (57, (.inl .ireturn, 1))]
/-- FarStoreModel.isTran(I)Z -/
def cd_110 : List (Nat × (OI × Nat)) := [(0, (.inl (.iload_n 1), 1)), (1, (.inl (.ifCond .lt 15), 3)), (4, (.inl (.iload_n 1), 1)), (5, (.inl (.aload_n 0), 1)), (6, (.inr (0, 9, 3, 0, 0), 3)), (9, (.inl (.if_icmp .ge 7), 3)), (12, (.inl (.iconst 1), 1)), (13, (.inl (.goto 4), 3)), (16, (.inl (.iconst 0), 1)), (17, (.inl .ireturn, 1))]
/-- FarStoreModel.isObject(I)Z -/
def cd_111 : List (Nat × (OI × Nat)) := [(0, (.inl (.iload_n 1), 1)), (1, (.inl (.ifCond .lt 15), 3)), (4, (.inl (.iload_n 1), 1)), (5, (.inl (.aload_n 0), 1)), (6, (.inr (0, 9, 2, 0, 0), 3)), (9, (.inl (.if_icmp .ge 7), 3)), (12, (.inl (.iconst 1), 1)), (13, (.inl (.goto 4), 3)), (16, (.inl (.iconst 0), 1)), (17, (.inl .ireturn, 1))]
/-- FarStoreModel.wrote(II)Z -/
def cd_112 : List (Nat × (OI × Nat)) := [(0, (.inl (.iconst 0), 1)), (1, (.inl (.istore_n 3), 1)), (2, (.inl (.iload_n 3), 1)), (3, (.inl (.aload_n 0), 1)), (4, (.inr (0, 9, 4, 0, 0), 3)), (7, (.inl (.if_icmp .ge 31), 3)), (10, (.inl (.aload_n 0), 1)), (11, (.inr (0, 9, 16, 0, 0), 3)), (14, (.inl (.iload_n 3), 1)), (15, (.inl .iaload, 1)), (16, (.inl (.iload_n 1), 1)), (17, (.inl (.if_icmp .ne 15), 3)), (20, (.inl (.aload_n 0), 1)), (21, (.inr (0, 9, 17, 0, 0), 3)), (24, (.inl (.iload_n 3), 1)), (25, (.inl .iaload, 1)), (26, (.inl (.iload_n 2), 1)), (27, (.inl (.if_icmp .ne 5), 3)), (30, (.inl (.iconst 1), 1)), (31, (.inl .ireturn, 1)), (32, (.inl (.iinc 3 1), 3)), (35, (.inl (.goto (-33)), 3)), (38, (.inl (.iconst 0), 1)), (39, (.inl .ireturn, 1))]
/-- FarStoreModel.lastOf(II)J -/
def cd_113 : List (Nat × (OI × Nat)) := [(0, (.inl (.lconst 0), 1)), (1, (.inl (.lstore_n 3), 1)), (2, (.inl (.iconst 0), 1)), (3, (.inl (.istore 5), 2)), (5, (.inl (.iload 5), 2)), (7, (.inl (.aload_n 0), 1)), (8, (.inr (0, 9, 4, 0, 0), 3)), (11, (.inl (.if_icmp .ge 39), 3)), (14, (.inl (.aload_n 0), 1)), (15, (.inr (0, 9, 16, 0, 0), 3)), (18, (.inl (.iload 5), 2)), (20, (.inl .iaload, 1)), (21, (.inl (.iload_n 1), 1)), (22, (.inl (.if_icmp .ne 22), 3)), (25, (.inl (.aload_n 0), 1)), (26, (.inr (0, 9, 17, 0, 0), 3)), (29, (.inl (.iload 5), 2)), (31, (.inl .iaload, 1)), (32, (.inl (.iload_n 2), 1)), (33, (.inl (.if_icmp .ne 11), 3)), (36, (.inl (.aload_n 0), 1)), (37, (.inr (0, 9, 19, 0, 0), 3)), (40, (.inl (.iload 5), 2)), (42, (.inl .laload, 1)), (43, (.inl (.lstore_n 3), 1)), (44, (.inl (.iinc 5 1), 3)), (47, (.inl (.goto (-42)), 3)), (50, (.inl (.lload_n 3), 1)), (51, (.inl .lreturn, 1))]
/-- FarStoreModel.visible(II)Z -/
def cd_114 : List (Nat × (OI × Nat)) := [(0, (.inl (.aload_n 0), 1)), (1, (.inr (0, 9, 12, 0, 0), 3)), (4, (.inl (.iload_n 1), 1)), (5, (.inl .iaload, 1)), (6, (.inl (.ifCond .le 32), 3)), (9, (.inl (.aload_n 0), 1)), (10, (.inr (0, 9, 12, 0, 0), 3)), (13, (.inl (.iload_n 1), 1)), (14, (.inl .iaload, 1)), (15, (.inl (.aload_n 0), 1)), (16, (.inr (0, 9, 13, 0, 0), 3)), (19, (.inl (.bipush 6), 2)), (21, (.inl (.iload_n 2), 1)), (22, (.inl .imul, 1)), (23, (.inl (.aload_n 0), 1)), (24, (.inr (0, 9, 10, 0, 0), 3)), (27, (.inl (.iload_n 1), 1)), (28, (.inl .iaload, 1)), (29, (.inl .iadd, 1)), (30, (.inl .iaload, 1)), (31, (.inl (.if_icmp .gt 7), 3)), (34, (.inl (.iconst 1), 1)), (35, (.inl (.goto 4), 3)), (38, (.inl (.iconst 0), 1)), (39, (.inl .ireturn, 1))]
/-- FarStoreModel.write(IIJ)V -/
def cd_115 : List (Nat × (OI × Nat)) := [(0, (.inl (.aload_n 0), 1)), (1, (.inl (.iload_n 1), 1)), (2, (.inl (.iload_n 2), 1)), (3, (.inl (.iconst 0), 1)), (4, (.inr (17, 109, 4, 1, 9), 3)), (7, (.inl (.ifCond .ne 11), 3)), (10, (.inl (.aload_n 0), 1)), (11, (.inl (.iload_n 1), 1)), (12, (.inl (.iload_n 2), 1)), (13, (.inl (.lload_n 3), 1)), (14, (.inl (.iconst 0), 1)), (15, (.inr (17, 116, 5, 1, 9), 3)), (18, (.inl .return_, 1))]
/-- FarStoreModel.did(IIJI)V -/
def cd_116 : List (Nat × (OI × Nat)) := [(0, (.inl (.aload_n 0), 1)), (1, (.inr (0, 9, 16, 0, 0), 3)), (4, (.inl (.aload_n 0), 1)), (5, (.inr (0, 9, 4, 0, 0), 3)), (8, (.inl (.iload_n 1), 1)), (9, (.inl .iastore, 1)), (10, (.inl (.aload_n 0), 1)), (11, (.inr (0, 9, 17, 0, 0), 3)), (14, (.inl (.aload_n 0), 1)), (15, (.inr (0, 9, 4, 0, 0), 3)), (18, (.inl (.iload_n 2), 1)), (19, (.inl .iastore, 1)), (20, (.inl (.aload_n 0), 1)), (21, (.inr (0, 9, 19, 0, 0), 3)), (24, (.inl (.aload_n 0), 1)), (25, (.inr (0, 9, 4, 0, 0), 3)), (28, (.inl (.lload_n 3), 1)), (29, (.inl .lastore, 1)), (30, (.inl (.aload_n 0), 1)), (31, (.inr (0, 9, 18, 0, 0), 3)), (34, (.inl (.aload_n 0), 1)), (35, (.inr (0, 9, 4, 0, 0), 3)), (38, (.inl (.iload 5), 2)), (40, (.inl .iastore, 1)), (41, (.inl (.aload_n 0), 1)), (42, (.inl .dup, 1)), (43, (.inr (0, 9, 4, 0, 0), 3)), (46, (.inl (.iconst 1), 1)), (47, (.inl .iadd, 1)), (48, (.inr (1, 9, 4, 0, 0), 3)), (51, (.inl .return_, 1))]
/-- FarStoreModel.change(IIIZ)V -/
def cd_117 : List (Nat × (OI × Nat)) := [(0, (.inl (.aload_n 0), 1)), (1, (.inl (.iload_n 1), 1)), (2, (.inl (.iload_n 2), 1)), (3, (.inl (.iconst 1), 1)), (4, (.inr (17, 109, 4, 1, 9), 3)), (7, (.inl (.ifCond .ne 21), 3)), (10, (.inl (.aload_n 0), 1)), (11, (.inl (.iload_n 1), 1)), (12, (.inl (.iload_n 2), 1)), (13, (.inl (.iload_n 3), 1)), (14, (.inl .i2l, 1)), (15, (.inl (.iload 4), 2)), (17, (.inl (.ifCond .eq 7), 3)), (20, (.inl (.iconst 1), 1)), (21, (.inl (.goto 4), 3)), (24, (.inl (.iconst (-1)), 1)), (25, (.inr (17, 116, 5, 1, 9), 3)), (28, (.inl .return_, 1))]
/-- FarStoreModel.count(III)I -/
def cd_118 : List (Nat × (OI × Nat)) := [(0, (.inl (.aload_n 0), 1)), (1, (.inl (.iload_n 1), 1)), (2, (.inl (.iload_n 2), 1)), (3, (.inl (.iconst 1), 1)), (4, (.inr (17, 109, 4, 1, 9), 3)), (7, (.inl (.ifCond .eq 7), 3)), (10, (.inl (.iconst 0), 1)), (11, (.inl (.goto 11), 3)), (14, (.inl (.aload_n 0), 1)), (15, (.inl (.iload_n 1), 1)), (16, (.inl (.iload_n 2), 1)), (17, (.inl (.iload_n 3), 1)), (18, (.inl .i2l, 1)), (19, (.inr (17, 119, 4, 1, 9), 3)), (22, (.inl .ireturn, 1))]
/-- FarStoreModel.countOf(IIJ)I -/
def cd_119 : List (Nat × (OI × Nat)) := [(0, (.inl (.iconst 0), 1)), (1, (.inl (.istore 5), 2)), (3, (.inl (.iconst 0), 1)), (4, (.inl (.istore 6), 2)), (6, (.inl (.iload 6), 2)), (8, (.inl (.aload_n 0), 1)), (9, (.inr (0, 9, 4, 0, 0), 3)), (12, (.inl (.if_icmp .ge 70), 3)), (15, (.inl (.aload_n 0), 1)), (16, (.inr (0, 9, 17, 0, 0), 3)), (19, (.inl (.iload 6), 2)), (21, (.inl .iaload, 1)), (22, (.inl (.iload_n 2), 1)), (23, (.inl (.if_icmp .ne 53), 3)), (26, (.inl (.aload_n 0), 1)), (27, (.inr (0, 9, 19, 0, 0), 3)), (30, (.inl (.iload 6), 2)), (32, (.inl .laload, 1)), (33, (.inl (.lload_n 3), 1)), (34, (.inl .lcmp, 1)), (35, (.inl (.ifCond .ne 41), 3)), (38, (.inl (.aload_n 0), 1)), (39, (.inr (0, 9, 16, 0, 0), 3)), (42, (.inl (.iload 6), 2)), (44, (.inl .iaload, 1)), (45, (.inl (.iload_n 1), 1)), (46, (.inl (.if_icmp .eq 18), 3)), (49, (.inl (.aload_n 0), 1)), (50, (.inl (.aload_n 0), 1)), (51, (.inr (0, 9, 16, 0, 0), 3)), (54, (.inl (.iload 6), 2)), (56, (.inl .iaload, 1)), (57, (.inl (.iload_n 1), 1)), (58, (.inr (17, 114, 3, 1, 9), 3)), (61, (.inl (.ifCond .eq 15), 3)), (64, (.inl (.iload 5), 2)), (66, (.inl (.aload_n 0), 1)), (67, (.inr (0, 9, 18, 0, 0), 3)), (70, (.inl (.iload 6), 2)), (72, (.inl .iaload, 1)), (73, (.inl .iadd, 1)), (74, (.inl (.istore 5), 2)), (76, (.inl (.iinc 6 1), 3)), (79, (.inl (.goto (-73)), 3)), (82, (.inl (.iload 5), 2)), (84, (.inl .ireturn, 1))]
/-- FarStoreModel.element(III)I -/
def cd_120 : List (Nat × (OI × Nat)) := [(0, (.inl (.aload_n 0), 1)), (1, (.inl (.iload_n 1), 1)), (2, (.inl (.iload_n 2), 1)), (3, (.inl (.iconst 1), 1)), (4, (.inr (17, 109, 4, 1, 9), 3)), (7, (.inl (.ifCond .eq 5), 3)), (10, (.inl (.iconst 0), 1)), (11, (.inl .ireturn, 1)), (12, (.inr (15, 9223372036854775808, 1, 0, 0), 3)), (15, (.inl (.lstore 4), 2)), (17, (.inl (.iconst 0), 1)), (18, (.inl (.istore 6), 2)), (20, (.inl (.iload 6), 2)), (22, (.inl (.iload_n 3), 1)), (23, (.inl (.if_icmp .gt 113), 3)), (26, (.inr (15, 9223372036854775807, 0, 0, 0), 3)), (29, (.inl (.lstore 7), 2)), (31, (.inl (.iconst 0), 1)), (32, (.inl (.istore 9), 2)), (34, (.inl (.iload 9), 2)), (36, (.inl (.aload_n 0), 1)), (37, (.inr (0, 9, 4, 0, 0), 3)), (40, (.inl (.if_icmp .ge 71), 3)), (43, (.inl (.aload_n 0), 1)), (44, (.inr (0, 9, 17, 0, 0), 3)), (47, (.inl (.iload 9), 2)), (49, (.inl .iaload, 1)), (50, (.inl (.iload_n 2), 1)), (51, (.inl (.if_icmp .ne 54), 3)), (54, (.inl (.aload_n 0), 1)), (55, (.inr (0, 9, 19, 0, 0), 3)), (58, (.inl (.iload 9), 2)), (60, (.inl .laload, 1)), (61, (.inl (.lload 4), 2)), (63, (.inl .lcmp, 1)), (64, (.inl (.ifCond .le 41), 3)), (67, (.inl (.aload_n 0), 1)), (68, (.inr (0, 9, 19, 0, 0), 3)), (71, (.inl (.iload 9), 2)), (73, (.inl .laload, 1)), (74, (.inl (.lload 7), 2)), (76, (.inl .lcmp, 1)), (77, (.inl (.ifCond .ge 28), 3)), (80, (.inl (.aload_n 0), 1)), (81, (.inl (.iload_n 1), 1)), (82, (.inl (.iload_n 2), 1)), (83, (.inl (.aload_n 0), 1)), (84, (.inr (0, 9, 19, 0, 0), 3)), (87, (.inl (.iload 9), 2)), (89, (.inl .laload, 1)), (90, (.inr (17, 119, 4, 1, 9), 3)), (93, (.inl (.ifCond .eq 12), 3)), (96, (.inl (.aload_n 0), 1)), (97, (.inr (0, 9, 19, 0, 0), 3)), (100, (.inl (.iload 9), 2)), (102, (.inl .laload, 1)), (103, (.inl (.lstore 7), 2)), (105, (.inl (.iinc 9 1), 3)), (108, (.inl (.goto (-74)), 3)), (111, (.inl (.lload 7), 2)), (113, (.inr (15, 9223372036854775807, 0, 0, 0), 3)), (116, (.inl .lcmp, 1)), (117, (.inl (.ifCond .ne 9), 3)), (120, (.inl (.aload_n 0), 1)), (121, (.inl (.iconst 3), 1)), (122, (.inr (17, 121, 2, 1, 9), 3)), (125, (.inl .ireturn, 1)), (126, (.inl (.lload 7), 2)), (128, (.inl (.lstore 4), 2)), (130, (.inl (.iinc 6 1), 3)), (133, (.inl (.goto (-113)), 3)), (136, (.inl (.iload_n 3), 1)), (137, (.inl (.ifCond .ge 11), 3)), (140, (.inl (.aload_n 0), 1)), (141, (.inl (.iconst 3), 1)), (142, (.inr (17, 121, 2, 1, 9), 3)), (145, (.inl (.goto 6), 3)), (148, (.inl (.lload 4), 2)), (150, (.inl .l2i, 1)), (151, (.inl .ireturn, 1))]
/-- FarStoreModel.no(I)I -/
def cd_121 : List (Nat × (OI × Nat)) := [(0, (.inl (.aload_n 0), 1)), (1, (.inl (.iload_n 1), 1)), (2, (.inr (1, 9, 0, 0, 0), 3)), (5, (.inl (.iconst 0), 1)), (6, (.inl .ireturn, 1))]
/-- FarStoreModel.commit(I)I -/
def cd_122 : List (Nat × (OI × Nat)) := [(0, (.inl (.aload_n 0), 1)), (1, (.inl (.aload_n 0), 1)), (2, (.inl (.iload_n 1), 1)), (3, (.inr (17, 110, 2, 1, 9), 3)), (6, (.inl (.ifCond .ne 7), 3)), (9, (.inl (.iconst 1), 1)), (10, (.inl (.goto 4), 3)), (13, (.inl (.iconst 0), 1)), (14, (.inl (.aload_n 0), 1)), (15, (.inl (.iload_n 1), 1)), (16, (.inr (17, 110, 2, 1, 9), 3)), (19, (.inl (.ifCond .eq 16), 3)), (22, (.inl (.aload_n 0), 1)), (23, (.inr (0, 9, 11, 0, 0), 3)), (26, (.inl (.iload_n 1), 1)), (27, (.inl .iaload, 1)), (28, (.inl (.ifCond .eq 7), 3)), (31, (.inl (.iconst 1), 1)), (32, (.inl (.goto 4), 3)), (35, (.inl (.iconst 0), 1)), (36, (.inr (17, 104, 3, 1, 9), 3)), (39, (.inl (.ifCond .eq 5), 3)), (42, (.inl (.iconst 0), 1)), (43, (.inl .ireturn, 1)), (44, (.inl (.iconst 0), 1)), (45, (.inl (.istore_n 2), 1)), (46, (.inl (.iconst 0), 1)), (47, (.inl (.istore_n 3), 1)), (48, (.inl (.iconst 0), 1)), (49, (.inl (.istore 4), 2)), (51, (.inl (.aload_n 0), 1)), (52, (.inr (0, 9, 10, 0, 0), 3)), (55, (.inl (.iload_n 1), 1)), (56, (.inl .iaload, 1)), (57, (.inl (.istore 5), 2)), (59, (.inl (.iconst 0), 1)), (60, (.inl (.istore 6), 2)), (62, (.inl (.iload 6), 2)), (64, (.inl (.aload_n 0), 1)), (65, (.inr (0, 9, 4, 0, 0), 3)), (68, (.inl (.if_icmp .ge 77), 3)), (71, (.inl (.aload_n 0), 1)), (72, (.inr (0, 9, 16, 0, 0), 3)), (75, (.inl (.iload 6), 2)), (77, (.inl .iaload, 1)), (78, (.inl (.iload_n 1), 1)), (79, (.inl (.if_icmp .eq 6), 3)), (82, (.inl (.goto 57), 3)), (85, (.inl (.iconst 1), 1)), (86, (.inl (.istore_n 3), 1)), (87, (.inl (.aload_n 0), 1)), (88, (.inr (0, 9, 9, 0, 0), 3)), (91, (.inl (.aload_n 0), 1)), (92, (.inr (0, 9, 17, 0, 0), 3)), (95, (.inl (.iload 6), 2)), (97, (.inl .iaload, 1)), (98, (.inl .baload, 1)), (99, (.inl (.ifCond .ne 5), 3)), (102, (.inl (.iconst 1), 1)), (103, (.inl (.istore_n 2), 1)), (104, (.inl (.aload_n 0), 1)), (105, (.inr (0, 9, 9, 0, 0), 3)), (108, (.inl (.aload_n 0), 1)), (109, (.inr (0, 9, 17, 0, 0), 3)), (112, (.inl (.iload 6), 2)), (114, (.inl .iaload, 1)), (115, (.inl .baload, 1)), (116, (.inl (.ifCond .ne 23), 3)), (119, (.inl (.aload_n 0), 1)), (120, (.inr (0, 9, 7, 0, 0), 3)), (123, (.inl (.aload_n 0), 1)), (124, (.inr (0, 9, 17, 0, 0), 3)), (127, (.inl (.iload 6), 2)), (129, (.inl .iaload, 1)), (130, (.inl .iaload, 1)), (131, (.inl (.iload 5), 2)), (133, (.inl (.if_icmp .eq 6), 3)), (136, (.inl (.iconst 1), 1)), (137, (.inl (.istore 4), 2)), (139, (.inl (.iinc 6 1), 3)), (142, (.inl (.goto (-80)), 3)), (145, (.inl (.iload_n 3), 1)), (146, (.inl (.ifCond .ne 13), 3)), (149, (.inl (.aload_n 0), 1)), (150, (.inr (0, 9, 11, 0, 0), 3)), (153, (.inl (.iload_n 1), 1)), (154, (.inl (.iconst 1), 1)), (155, (.inl .iastore, 1)), (156, (.inl (.goto 120), 3)), (159, (.inl (.iload_n 2), 1)), (160, (.inl (.ifCond .ne 11), 3)), (163, (.inl (.aload_n 0), 1)), (164, (.inl (.iload_n 1), 1)), (165, (.inr (17, 123, 2, 1, 9), 3)), (168, (.inl (.goto 108), 3)), (171, (.inl (.aload_n 0), 1)), (172, (.inl (.iload_n 1), 1)), (173, (.inl (.iload 5), 2)), (175, (.inr (17, 128, 3, 1, 9), 3)), (178, (.inl (.ifCond .eq 13), 3)), (181, (.inl (.aload_n 0), 1)), (182, (.inr (0, 9, 11, 0, 0), 3)), (185, (.inl (.iload_n 1), 1)), (186, (.inl (.iconst 2), 1)), (187, (.inl .iastore, 1)), (188, (.inl (.goto 88), 3)), (191, (.inl (.iload 4), 2)), (193, (.inl (.ifCond .ne 11), 3)), (196, (.inl (.aload_n 0), 1)), (197, (.inl (.iload_n 1), 1)), (198, (.inr (17, 123, 2, 1, 9), 3)), (201, (.inl (.goto 75), 3)), (204, (.inl (.aload_n 0), 1)), (205, (.inl (.iload_n 1), 1)), (206, (.inl (.iload 5), 2)), (208, (.inr (17, 130, 3, 1, 9), 3)), (211, (.inl (.aload_n 0), 1)), (212, (.inr (0, 9, 11, 0, 0), 3)), (215, (.inl (.iload_n 1), 1)), (216, (.inl (.iconst 3), 1)), (217, (.inl .iastore, 1)), (218, (.inl (.iconst 0), 1)), (219, (.inl (.istore 6), 2)), (221, (.inl (.iload 6), 2)), (223, (.inl (.aload_n 0), 1)), (224, (.inr (0, 9, 1, 0, 0), 3)), (227, (.inl (.if_icmp .ge 49), 3)), (230, (.inl (.iload 6), 2)), (232, (.inl (.iload 5), 2)), (234, (.inl (.if_icmp .eq 36), 3)), (237, (.inl (.aload_n 0), 1)), (238, (.inl (.iload_n 1), 1)), (239, (.inl (.iload 6), 2)), (241, (.inr (17, 131, 3, 1, 9), 3)), (244, (.inl (.ifCond .ne 6), 3)), (247, (.inl (.goto 23), 3)), (250, (.inl (.aload_n 0), 1)), (251, (.inl (.iload 5), 2)), (253, (.inl (.iload 6), 2)), (255, (.inl (.iconst 1), 1)), (256, (.inl (.iload_n 1), 1)), (257, (.inr (17, 125, 5, 1, 9), 3)), (260, (.inl (.aload_n 0), 1)), (261, (.inr (0, 9, 15, 0, 0), 3)), (264, (.inl (.iload_n 1), 1)), (265, (.inl .dup2, 1)), (266, (.inl .iaload, 1)), (267, (.inl (.iconst 1), 1)), (268, (.inl .iadd, 1)), (269, (.inl .iastore, 1)), (270, (.inl (.iinc 6 1), 3)), (273, (.inl (.goto (-52)), 3)), (276, (.inl (.aload_n 0), 1)), (277, (.inr (0, 9, 11, 0, 0), 3)), (280, (.inl (.iload_n 1), 1)), (281, (.inl .iaload, 1)), (282, (.inl .ireturn, 1))]
/-- FarStoreModel.commits(I)V -/
def cd_123 : List (Nat × (OI × Nat)) := [(0, (.inl (.aload_n 0), 1)), (1, (.inr (0, 9, 10, 0, 0), 3)), (4, (.inl (.iload_n 1), 1)), (5, (.inl .iaload, 1)), (6, (.inl (.istore_n 2), 1)), (7, (.inl (.aload_n 0), 1)), (8, (.inr (0, 9, 11, 0, 0), 3)), (11, (.inl (.iload_n 1), 1)), (12, (.inl (.iconst 1), 1)), (13, (.inl .iastore, 1)), (14, (.inl (.aload_n 0), 1)), (15, (.inr (0, 9, 21, 0, 0), 3)), (18, (.inl (.iload_n 2), 1)), (19, (.inl .dup2, 1)), (20, (.inl .iaload, 1)), (21, (.inl (.iconst 1), 1)), (22, (.inl .iadd, 1)), (23, (.inl .iastore, 1)), (24, (.inl (.aload_n 0), 1)), (25, (.inl .dup, 1)), (26, (.inr (0, 9, 6, 0, 0), 3)), (29, (.inl (.iconst 1), 1)), (30, (.inl .iadd, 1)), (31, (.inr (1, 9, 6, 0, 0), 3)), (34, (.inl (.aload_n 0), 1)), (35, (.inr (0, 9, 12, 0, 0), 3)), (38, (.inl (.iload_n 1), 1)), (39, (.inl (.aload_n 0), 1)), (40, (.inr (0, 9, 21, 0, 0), 3)), (43, (.inl (.iload_n 2), 1)), (44, (.inl .iaload, 1)), (45, (.inl .iastore, 1)), (46, (.inl (.aload_n 0), 1)), (47, (.inr (0, 9, 22, 0, 0), 3)), (50, (.inl (.iload_n 2), 1)), (51, (.inl (.sipush 501), 3)), (54, (.inl .imul, 1)), (55, (.inl (.aload_n 0), 1)), (56, (.inr (0, 9, 21, 0, 0), 3)), (59, (.inl (.iload_n 2), 1)), (60, (.inl .iaload, 1)), (61, (.inl .iadd, 1)), (62, (.inl (.iload_n 1), 1)), (63, (.inl .iastore, 1)), (64, (.inl (.aload_n 0), 1)), (65, (.inr (0, 9, 20, 0, 0), 3)), (68, (.inl (.bipush 6), 2)), (70, (.inl (.iload_n 2), 1)), (71, (.inl .imul, 1)), (72, (.inl (.iload_n 2), 1)), (73, (.inl .iadd, 1)), (74, (.inl (.aload_n 0), 1)), (75, (.inr (0, 9, 21, 0, 0), 3)), (78, (.inl (.iload_n 2), 1)), (79, (.inl .iaload, 1)), (80, (.inl .iastore, 1)), (81, (.inl (.aload_n 0), 1)), (82, (.inl (.iload_n 1), 1)), (83, (.inl (.iload_n 2), 1)), (84, (.inr (17, 124, 3, 1, 9), 3)), (87, (.inl (.iconst 0), 1)), (88, (.inl (.istore_n 3), 1)), (89, (.inl (.iload_n 3), 1)), (90, (.inl (.aload_n 0), 1)), (91, (.inr (0, 9, 1, 0, 0), 3)), (94, (.inl (.if_icmp .ge 22), 3)), (97, (.inl (.iload_n 3), 1)), (98, (.inl (.iload_n 2), 1)), (99, (.inl (.if_icmp .eq 11), 3)), (102, (.inl (.aload_n 0), 1)), (103, (.inl (.iload_n 2), 1)), (104, (.inl (.iload_n 3), 1)), (105, (.inl (.iconst 5), 1)), (106, (.inl (.iload_n 1), 1)), (107, (.inr (17, 125, 5, 1, 9), 3)), (110, (.inl (.iinc 3 1), 3)), (113, (.inl (.goto (-24)), 3)), (116, (.inl (.aload_n 0), 1)), (117, (.inl (.iload_n 2), 1)), (118, (.inr (17, 126, 2, 1, 9), 3)), (121, (.inl .return_, 1))]
/-- FarStoreModel.unlock(II)V -/
def cd_124 : List (Nat × (OI × Nat)) := [(0, (.inl (.iconst 0), 1)), (1, (.inl (.istore_n 3), 1)), (2, (.inl (.iload_n 3), 1)), (3, (.inl (.aload_n 0), 1)), (4, (.inr (0, 9, 2, 0, 0), 3)), (7, (.inl (.if_icmp .ge 36), 3)), (10, (.inl (.aload_n 0), 1)), (11, (.inr (0, 9, 7, 0, 0), 3)), (14, (.inl (.iload_n 3), 1)), (15, (.inl .iaload, 1)), (16, (.inl (.iload_n 2), 1)), (17, (.inl (.if_icmp .ne 20), 3)), (20, (.inl (.aload_n 0), 1)), (21, (.inr (0, 9, 8, 0, 0), 3)), (24, (.inl (.iload_n 3), 1)), (25, (.inl .iaload, 1)), (26, (.inl (.iload_n 1), 1)), (27, (.inl (.if_icmp .ne 10), 3)), (30, (.inl (.aload_n 0), 1)), (31, (.inr (0, 9, 8, 0, 0), 3)), (34, (.inl (.iload_n 3), 1)), (35, (.inl (.iconst (-1)), 1)), (36, (.inl .iastore, 1)), (37, (.inl (.iinc 3 1), 3)), (40, (.inl (.goto (-38)), 3)), (43, (.inl .return_, 1))]
/-- FarStoreModel.send(IIII)V -/
def cd_125 : List (Nat × (OI × Nat)) := [(0, (.inl (.aload_n 0), 1)), (1, (.inr (0, 9, 23, 0, 0), 3)), (4, (.inl (.aload_n 0), 1)), (5, (.inr (0, 9, 5, 0, 0), 3)), (8, (.inl (.iload_n 1), 1)), (9, (.inl .iastore, 1)), (10, (.inl (.aload_n 0), 1)), (11, (.inr (0, 9, 24, 0, 0), 3)), (14, (.inl (.aload_n 0), 1)), (15, (.inr (0, 9, 5, 0, 0), 3)), (18, (.inl (.iload_n 2), 1)), (19, (.inl .iastore, 1)), (20, (.inl (.aload_n 0), 1)), (21, (.inr (0, 9, 25, 0, 0), 3)), (24, (.inl (.aload_n 0), 1)), (25, (.inr (0, 9, 5, 0, 0), 3)), (28, (.inl (.iload_n 3), 1)), (29, (.inl .iastore, 1)), (30, (.inl (.aload_n 0), 1)), (31, (.inr (0, 9, 26, 0, 0), 3)), (34, (.inl (.aload_n 0), 1)), (35, (.inr (0, 9, 5, 0, 0), 3)), (38, (.inl (.iload 4), 2)), (40, (.inl .iastore, 1)), (41, (.inl (.aload_n 0), 1)), (42, (.inl .dup, 1)), (43, (.inr (0, 9, 5, 0, 0), 3)), (46, (.inl (.iconst 1), 1)), (47, (.inl .iadd, 1)), (48, (.inr (1, 9, 5, 0, 0), 3)), (51, (.inl .return_, 1))]
/-- FarStoreModel.release(I)V -/
def cd_126 : List (Nat × (OI × Nat)) := [(0, (.inl (.iconst 1), 1)), (1, (.inl (.istore_n 2), 1)), (2, (.inl (.iload_n 2), 1)), (3, (.inl (.ifCond .eq 145), 3)), (6, (.inl (.iconst 0), 1)), (7, (.inl (.istore_n 2), 1)), (8, (.inl (.iconst 0), 1)), (9, (.inl (.istore_n 3), 1)), (10, (.inl (.iload_n 3), 1)), (11, (.inl (.aload_n 0), 1)), (12, (.inr (0, 9, 28, 0, 0), 3)), (15, (.inl (.iload_n 1), 1)), (16, (.inl .iaload, 1)), (17, (.inl (.if_icmp .ge 128), 3)), (20, (.inl (.iload_n 2), 1)), (21, (.inl (.ifCond .ne 124), 3)), (24, (.inl (.aload_n 0), 1)), (25, (.inr (0, 9, 27, 0, 0), 3)), (28, (.inl (.sipush 500), 3)), (31, (.inl (.iload_n 1), 1)), (32, (.inl .imul, 1)), (33, (.inl (.iload_n 3), 1)), (34, (.inl .iadd, 1)), (35, (.inl .iaload, 1)), (36, (.inl (.istore 4), 2)), (38, (.inl (.aload_n 0), 1)), (39, (.inl (.iload 4), 2)), (41, (.inl (.iload_n 1), 1)), (42, (.inr (17, 127, 3, 1, 9), 3)), (45, (.inl (.ifCond .ne 6), 3)), (48, (.inl (.goto 91), 3)), (51, (.inl (.aload_n 0), 1)), (52, (.inr (0, 9, 28, 0, 0), 3)), (55, (.inl (.iload_n 1), 1)), (56, (.inl .dup2, 1)), (57, (.inl .iaload, 1)), (58, (.inl (.iconst 1), 1)), (59, (.inl .isub, 1)), (60, (.inl .iastore, 1)), (61, (.inl (.iload_n 3), 1)), (62, (.inl (.istore 5), 2)), (64, (.inl (.iload 5), 2)), (66, (.inl (.aload_n 0), 1)), (67, (.inr (0, 9, 28, 0, 0), 3)), (70, (.inl (.iload_n 1), 1)), (71, (.inl .iaload, 1)), (72, (.inl (.if_icmp .ge 37), 3)), (75, (.inl (.aload_n 0), 1)), (76, (.inr (0, 9, 27, 0, 0), 3)), (79, (.inl (.sipush 500), 3)), (82, (.inl (.iload_n 1), 1)), (83, (.inl .imul, 1)), (84, (.inl (.iload 5), 2)), (86, (.inl .iadd, 1)), (87, (.inl (.aload_n 0), 1)), (88, (.inr (0, 9, 27, 0, 0), 3)), (91, (.inl (.sipush 500), 3)), (94, (.inl (.iload_n 1), 1)), (95, (.inl .imul, 1)), (96, (.inl (.iload 5), 2)), (98, (.inl .iadd, 1)), (99, (.inl (.iconst 1), 1)), (100, (.inl .iadd, 1)), (101, (.inl .iaload, 1)), (102, (.inl .iastore, 1)), (103, (.inl (.iinc 5 1), 3)), (106, (.inl (.goto (-42)), 3)), (109, (.inl (.aload_n 0), 1)), (110, (.inr (0, 9, 20, 0, 0), 3)), (113, (.inl (.bipush 6), 2)), (115, (.inl (.iload_n 1), 1)), (116, (.inl .imul, 1)), (117, (.inl (.aload_n 0), 1)), (118, (.inr (0, 9, 10, 0, 0), 3)), (121, (.inl (.iload 4), 2)), (123, (.inl .iaload, 1)), (124, (.inl .iadd, 1)), (125, (.inl .dup2, 1)), (126, (.inl .iaload, 1)), (127, (.inl (.iconst 1), 1)), (128, (.inl .iadd, 1)), (129, (.inl .iastore, 1)), (130, (.inl (.aload_n 0), 1)), (131, (.inl (.iload 4), 2)), (133, (.inl (.iload_n 1), 1)), (134, (.inr (17, 124, 3, 1, 9), 3)), (137, (.inl (.iconst 1), 1)), (138, (.inl (.istore_n 2), 1)), (139, (.inl (.iinc 3 1), 3)), (142, (.inl (.goto (-132)), 3)), (145, (.inl (.goto (-143)), 3)), (148, (.inl .return_, 1))]
/-- FarStoreModel.canBe(II)Z -/
def cd_127 : List (Nat × (OI × Nat)) := [(0, (.inl (.aload_n 0), 1)), (1, (.inr (0, 9, 12, 0, 0), 3)), (4, (.inl (.iload_n 1), 1)), (5, (.inl .iaload, 1)), (6, (.inl (.aload_n 0), 1)), (7, (.inr (0, 9, 20, 0, 0), 3)), (10, (.inl (.bipush 6), 2)), (12, (.inl (.iload_n 2), 1)), (13, (.inl .imul, 1)), (14, (.inl (.aload_n 0), 1)), (15, (.inr (0, 9, 10, 0, 0), 3)), (18, (.inl (.iload_n 1), 1)), (19, (.inl .iaload, 1)), (20, (.inl .iadd, 1)), (21, (.inl .iaload, 1)), (22, (.inl (.iconst 1), 1)), (23, (.inl .iadd, 1)), (24, (.inl (.if_icmp .eq 5), 3)), (27, (.inl (.iconst 0), 1)), (28, (.inl .ireturn, 1)), (29, (.inl (.iconst 0), 1)), (30, (.inl (.istore_n 3), 1)), (31, (.inl (.iload_n 3), 1)), (32, (.inl (.aload_n 0), 1)), (33, (.inr (0, 9, 1, 0, 0), 3)), (36, (.inl (.if_icmp .ge 36), 3)), (39, (.inl (.aload_n 0), 1)), (40, (.inr (0, 9, 13, 0, 0), 3)), (43, (.inl (.bipush 6), 2)), (45, (.inl (.iload_n 1), 1)), (46, (.inl .imul, 1)), (47, (.inl (.iload_n 3), 1)), (48, (.inl .iadd, 1)), (49, (.inl .iaload, 1)), (50, (.inl (.aload_n 0), 1)), (51, (.inr (0, 9, 20, 0, 0), 3)), (54, (.inl (.bipush 6), 2)), (56, (.inl (.iload_n 2), 1)), (57, (.inl .imul, 1)), (58, (.inl (.iload_n 3), 1)), (59, (.inl .iadd, 1)), (60, (.inl .iaload, 1)), (61, (.inl (.if_icmp .le 5), 3)), (64, (.inl (.iconst 0), 1)), (65, (.inl .ireturn, 1)), (66, (.inl (.iinc 3 1), 3)), (69, (.inl (.goto (-38)), 3)), (72, (.inl (.iconst 1), 1)), (73, (.inl .ireturn, 1))]
/-- FarStoreModel.anyConflict(II)Z -/
def cd_128 : List (Nat × (OI × Nat)) := [(0, (.inl (.iconst 0), 1)), (1, (.inl (.istore_n 3), 1)), (2, (.inl (.iload_n 3), 1)), (3, (.inl (.aload_n 0), 1)), (4, (.inr (0, 9, 2, 0, 0), 3)), (7, (.inl (.if_icmp .ge 48), 3)), (10, (.inl (.aload_n 0), 1)), (11, (.inr (0, 9, 9, 0, 0), 3)), (14, (.inl (.iload_n 3), 1)), (15, (.inl .baload, 1)), (16, (.inl (.ifCond .ne 33), 3)), (19, (.inl (.aload_n 0), 1)), (20, (.inr (0, 9, 7, 0, 0), 3)), (23, (.inl (.iload_n 3), 1)), (24, (.inl .iaload, 1)), (25, (.inl (.iload_n 2), 1)), (26, (.inl (.if_icmp .ne 23), 3)), (29, (.inl (.aload_n 0), 1)), (30, (.inl (.iload_n 1), 1)), (31, (.inl (.iload_n 3), 1)), (32, (.inr (17, 112, 3, 1, 9), 3)), (35, (.inl (.ifCond .eq 14), 3)), (38, (.inl (.aload_n 0), 1)), (39, (.inl (.iload_n 1), 1)), (40, (.inl (.iload_n 3), 1)), (41, (.inr (17, 129, 3, 1, 9), 3)), (44, (.inl (.ifCond .eq 5), 3)), (47, (.inl (.iconst 1), 1)), (48, (.inl .ireturn, 1)), (49, (.inl (.iinc 3 1), 3)), (52, (.inl (.goto (-50)), 3)), (55, (.inl (.iconst 0), 1)), (56, (.inl .ireturn, 1))]
/-- FarStoreModel.conflict(II)Z -/
def cd_129 : List (Nat × (OI × Nat)) := [(0, (.inl (.aload_n 0), 1)), (1, (.inr (0, 9, 7, 0, 0), 3)), (4, (.inl (.iload_n 2), 1)), (5, (.inl .iaload, 1)), (6, (.inl (.istore_n 3), 1)), (7, (.inl (.aload_n 0), 1)), (8, (.inr (0, 9, 8, 0, 0), 3)), (11, (.inl (.iload_n 2), 1)), (12, (.inl .iaload, 1)), (13, (.inl (.ifCond .lt 15), 3)), (16, (.inl (.aload_n 0), 1)), (17, (.inr (0, 9, 8, 0, 0), 3)), (20, (.inl (.iload_n 2), 1)), (21, (.inl .iaload, 1)), (22, (.inl (.iload_n 1), 1)), (23, (.inl (.if_icmp .eq 5), 3)), (26, (.inl (.iconst 1), 1)), (27, (.inl .ireturn, 1)), (28, (.inl (.iconst 0), 1)), (29, (.inl (.istore 4), 2)), (31, (.inl (.iload 4), 2)), (33, (.inl (.aload_n 0), 1)), (34, (.inr (0, 9, 3, 0, 0), 3)), (37, (.inl (.if_icmp .ge 86), 3)), (40, (.inl (.aload_n 0), 1)), (41, (.inr (0, 9, 12, 0, 0), 3)), (44, (.inl (.iload 4), 2)), (46, (.inl .iaload, 1)), (47, (.inl (.ifCond .le 34), 3)), (50, (.inl (.aload_n 0), 1)), (51, (.inr (0, 9, 12, 0, 0), 3)), (54, (.inl (.iload 4), 2)), (56, (.inl .iaload, 1)), (57, (.inl (.aload_n 0), 1)), (58, (.inr (0, 9, 20, 0, 0), 3)), (61, (.inl (.bipush 6), 2)), (63, (.inl (.iload_n 3), 1)), (64, (.inl .imul, 1)), (65, (.inl (.aload_n 0), 1)), (66, (.inr (0, 9, 10, 0, 0), 3)), (69, (.inl (.iload 4), 2)), (71, (.inl .iaload, 1)), (72, (.inl .iadd, 1)), (73, (.inl .iaload, 1)), (74, (.inl (.if_icmp .gt 7), 3)), (77, (.inl (.iconst 1), 1)), (78, (.inl (.goto 4), 3)), (81, (.inl (.iconst 0), 1)), (82, (.inl (.istore 5), 2)), (84, (.inl (.iload 4), 2)), (86, (.inl (.iload_n 1), 1)), (87, (.inl (.if_icmp .eq 30), 3)), (90, (.inl (.iload 5), 2)), (92, (.inl (.ifCond .eq 25), 3)), (95, (.inl (.aload_n 0), 1)), (96, (.inl (.iload 4), 2)), (98, (.inl (.iload_n 1), 1)), (99, (.inr (17, 114, 3, 1, 9), 3)), (102, (.inl (.ifCond .ne 15), 3)), (105, (.inl (.aload_n 0), 1)), (106, (.inl (.iload 4), 2)), (108, (.inl (.iload_n 2), 1)), (109, (.inr (17, 112, 3, 1, 9), 3)), (112, (.inl (.ifCond .eq 5), 3)), (115, (.inl (.iconst 1), 1)), (116, (.inl .ireturn, 1)), (117, (.inl (.iinc 4 1), 3)), (120, (.inl (.goto (-89)), 3)), (123, (.inl (.iconst 0), 1)), (124, (.inl .ireturn, 1))]
/-- FarStoreModel.locks(II)V -/
def cd_130 : List (Nat × (OI × Nat)) := [(0, (.inl (.iconst 0), 1)), (1, (.inl (.istore_n 3), 1)), (2, (.inl (.iload_n 3), 1)), (3, (.inl (.aload_n 0), 1)), (4, (.inr (0, 9, 2, 0, 0), 3)), (7, (.inl (.if_icmp .ge 44), 3)), (10, (.inl (.aload_n 0), 1)), (11, (.inr (0, 9, 9, 0, 0), 3)), (14, (.inl (.iload_n 3), 1)), (15, (.inl .baload, 1)), (16, (.inl (.ifCond .ne 29), 3)), (19, (.inl (.aload_n 0), 1)), (20, (.inr (0, 9, 7, 0, 0), 3)), (23, (.inl (.iload_n 3), 1)), (24, (.inl .iaload, 1)), (25, (.inl (.iload_n 2), 1)), (26, (.inl (.if_icmp .ne 19), 3)), (29, (.inl (.aload_n 0), 1)), (30, (.inl (.iload_n 1), 1)), (31, (.inl (.iload_n 3), 1)), (32, (.inr (17, 112, 3, 1, 9), 3)), (35, (.inl (.ifCond .eq 10), 3)), (38, (.inl (.aload_n 0), 1)), (39, (.inr (0, 9, 8, 0, 0), 3)), (42, (.inl (.iload_n 3), 1)), (43, (.inl (.iload_n 1), 1)), (44, (.inl .iastore, 1)), (45, (.inl (.iinc 3 1), 3)), (48, (.inl (.goto (-46)), 3)), (51, (.inl .return_, 1))]
/-- FarStoreModel.writesAt(II)Z -/
def cd_131 : List (Nat × (OI × Nat)) := [(0, (.inl (.iconst 0), 1)), (1, (.inl (.istore_n 3), 1)), (2, (.inl (.iload_n 3), 1)), (3, (.inl (.aload_n 0), 1)), (4, (.inr (0, 9, 2, 0, 0), 3)), (7, (.inl (.if_icmp .ge 39), 3)), (10, (.inl (.aload_n 0), 1)), (11, (.inr (0, 9, 9, 0, 0), 3)), (14, (.inl (.iload_n 3), 1)), (15, (.inl .baload, 1)), (16, (.inl (.ifCond .ne 24), 3)), (19, (.inl (.aload_n 0), 1)), (20, (.inr (0, 9, 7, 0, 0), 3)), (23, (.inl (.iload_n 3), 1)), (24, (.inl .iaload, 1)), (25, (.inl (.iload_n 2), 1)), (26, (.inl (.if_icmp .ne 14), 3)), (29, (.inl (.aload_n 0), 1)), (30, (.inl (.iload_n 1), 1)), (31, (.inl (.iload_n 3), 1)), (32, (.inr (17, 112, 3, 1, 9), 3)), (35, (.inl (.ifCond .eq 5), 3)), (38, (.inl (.iconst 1), 1)), (39, (.inl .ireturn, 1)), (40, (.inl (.iinc 3 1), 3)), (43, (.inl (.goto (-41)), 3)), (46, (.inl (.iconst 0), 1)), (47, (.inl .ireturn, 1))]
/-- FarStoreModel.abort(I)V -/
def cd_132 : List (Nat × (OI × Nat)) := [(0, (.inl (.aload_n 0), 1)), (1, (.inl (.aload_n 0), 1)), (2, (.inl (.iload_n 1), 1)), (3, (.inr (17, 110, 2, 1, 9), 3)), (6, (.inl (.ifCond .ne 7), 3)), (9, (.inl (.iconst 1), 1)), (10, (.inl (.goto 4), 3)), (13, (.inl (.iconst 0), 1)), (14, (.inl (.aload_n 0), 1)), (15, (.inl (.iload_n 1), 1)), (16, (.inr (17, 110, 2, 1, 9), 3)), (19, (.inl (.ifCond .eq 16), 3)), (22, (.inl (.aload_n 0), 1)), (23, (.inr (0, 9, 11, 0, 0), 3)), (26, (.inl (.iload_n 1), 1)), (27, (.inl .iaload, 1)), (28, (.inl (.ifCond .eq 7), 3)), (31, (.inl (.iconst 1), 1)), (32, (.inl (.goto 4), 3)), (35, (.inl (.iconst 0), 1)), (36, (.inr (17, 104, 3, 1, 9), 3)), (39, (.inl (.ifCond .eq 4), 3)), (42, (.inl .return_, 1)), (43, (.inl (.aload_n 0), 1)), (44, (.inr (0, 9, 11, 0, 0), 3)), (47, (.inl (.iload_n 1), 1)), (48, (.inl (.iconst 2), 1)), (49, (.inl .iastore, 1)), (50, (.inl .return_, 1))]
/-- FarStoreModel.deliver(II)I -/
def cd_133 : List (Nat × (OI × Nat)) := [(0, (.inl (.aload_n 0), 1)), (1, (.inl (.aload_n 0), 1)), (2, (.inl (.iload_n 1), 1)), (3, (.inr (17, 106, 2, 1, 9), 3)), (6, (.inl (.ifCond .eq 16), 3)), (9, (.inl (.aload_n 0), 1)), (10, (.inl (.iload_n 2), 1)), (11, (.inr (17, 106, 2, 1, 9), 3)), (14, (.inl (.ifCond .eq 8), 3)), (17, (.inl (.iload_n 1), 1)), (18, (.inl (.iload_n 2), 1)), (19, (.inl (.if_icmp .ne 7), 3)), (22, (.inl (.iconst 1), 1)), (23, (.inl (.goto 4), 3)), (26, (.inl (.iconst 0), 1)), (27, (.inl (.iconst 0), 1)), (28, (.inr (17, 104, 3, 1, 9), 3)), (31, (.inl (.ifCond .eq 5), 3)), (34, (.inl (.iconst 0), 1)), (35, (.inl .ireturn, 1)), (36, (.inl (.iconst 0), 1)), (37, (.inl (.istore_n 3), 1)), (38, (.inl (.iload_n 3), 1)), (39, (.inl (.aload_n 0), 1)), (40, (.inr (0, 9, 5, 0, 0), 3)), (43, (.inl (.if_icmp .ge 73), 3)), (46, (.inl (.aload_n 0), 1)), (47, (.inr (0, 9, 25, 0, 0), 3)), (50, (.inl (.iload_n 3), 1)), (51, (.inl .iaload, 1)), (52, (.inl (.ifCond .eq 58), 3)), (55, (.inl (.aload_n 0), 1)), (56, (.inr (0, 9, 23, 0, 0), 3)), (59, (.inl (.iload_n 3), 1)), (60, (.inl .iaload, 1)), (61, (.inl (.iload_n 1), 1)), (62, (.inl (.if_icmp .ne 48), 3)), (65, (.inl (.aload_n 0), 1)), (66, (.inr (0, 9, 24, 0, 0), 3)), (69, (.inl (.iload_n 3), 1)), (70, (.inl .iaload, 1)), (71, (.inl (.iload_n 2), 1)), (72, (.inl (.if_icmp .eq 6), 3)), (75, (.inl (.goto 35), 3)), (78, (.inl (.aload_n 0), 1)), (79, (.inr (0, 9, 25, 0, 0), 3)), (82, (.inl (.iload_n 3), 1)), (83, (.inl .iaload, 1)), (84, (.inl (.istore 4), 2)), (86, (.inl (.aload_n 0), 1)), (87, (.inr (0, 9, 25, 0, 0), 3)), (90, (.inl (.iload_n 3), 1)), (91, (.inl (.iconst 0), 1)), (92, (.inl .iastore, 1)), (93, (.inl (.aload_n 0), 1)), (94, (.inl (.iload 4), 2)), (96, (.inl (.aload_n 0), 1)), (97, (.inr (0, 9, 26, 0, 0), 3)), (100, (.inl (.iload_n 3), 1)), (101, (.inl .iaload, 1)), (102, (.inl (.iload_n 1), 1)), (103, (.inl (.iload_n 2), 1)), (104, (.inr (17, 134, 5, 1, 9), 3)), (107, (.inl (.iload 4), 2)), (109, (.inl .ireturn, 1)), (110, (.inl (.iinc 3 1), 3)), (113, (.inl (.goto (-75)), 3)), (116, (.inl (.iconst 0), 1)), (117, (.inl .ireturn, 1))]
/-- FarStoreModel.arrives(IIII)V -/
def cd_134 : List (Nat × (OI × Nat)) := [(0, (.inl (.iload_n 1), 1)), (1, (.inl (.tableswitch 209 1 4 #[31, 72, 118, 199]), 31)), (32, (.inl (.aload_n 0), 1)), (33, (.inl (.iload_n 2), 1)), (34, (.inl (.iload 4), 2)), (36, (.inr (17, 128, 3, 1, 9), 3)), (39, (.inl (.ifCond .eq 15), 3)), (42, (.inl (.aload_n 0), 1)), (43, (.inl (.iload 4), 2)), (45, (.inl (.iload_n 3), 1)), (46, (.inl (.iconst 3), 1)), (47, (.inl (.iload_n 2), 1)), (48, (.inr (17, 125, 5, 1, 9), 3)), (51, (.inl (.goto 196), 3)), (54, (.inl (.aload_n 0), 1)), (55, (.inl (.iload_n 2), 1)), (56, (.inl (.iload 4), 2)), (58, (.inr (17, 130, 3, 1, 9), 3)), (61, (.inl (.aload_n 0), 1)), (62, (.inl (.iload 4), 2)), (64, (.inl (.iload_n 3), 1)), (65, (.inl (.iconst 2), 1)), (66, (.inl (.iload_n 2), 1)), (67, (.inr (17, 125, 5, 1, 9), 3)), (70, (.inl (.goto 177), 3)), (73, (.inl (.aload_n 0), 1)), (74, (.inr (0, 9, 11, 0, 0), 3)), (77, (.inl (.iload_n 2), 1)), (78, (.inl .iaload, 1)), (79, (.inl (.iconst 3), 1)), (80, (.inl (.if_icmp .eq 6), 3)), (83, (.inl (.goto 164), 3)), (86, (.inl (.aload_n 0), 1)), (87, (.inr (0, 9, 14, 0, 0), 3)), (90, (.inl (.iload_n 2), 1)), (91, (.inl .dup2, 1)), (92, (.inl .iaload, 1)), (93, (.inl (.iconst 1), 1)), (94, (.inl .iadd, 1)), (95, (.inl .iastore, 1)), (96, (.inl (.aload_n 0), 1)), (97, (.inr (0, 9, 14, 0, 0), 3)), (100, (.inl (.iload_n 2), 1)), (101, (.inl .iaload, 1)), (102, (.inl (.aload_n 0), 1)), (103, (.inr (0, 9, 15, 0, 0), 3)), (106, (.inl (.iload_n 2), 1)), (107, (.inl .iaload, 1)), (108, (.inl (.if_icmp .ne 139), 3)), (111, (.inl (.aload_n 0), 1)), (112, (.inl (.iload_n 2), 1)), (113, (.inr (17, 123, 2, 1, 9), 3)), (116, (.inl (.goto 131), 3)), (119, (.inl (.aload_n 0), 1)), (120, (.inr (0, 9, 11, 0, 0), 3)), (123, (.inl (.iload_n 2), 1)), (124, (.inl .iaload, 1)), (125, (.inl (.iconst 3), 1)), (126, (.inl (.if_icmp .eq 6), 3)), (129, (.inl (.goto 118), 3)), (132, (.inl (.aload_n 0), 1)), (133, (.inr (0, 9, 11, 0, 0), 3)), (136, (.inl (.iload_n 2), 1)), (137, (.inl (.iconst 2), 1)), (138, (.inl .iastore, 1)), (139, (.inl (.aload_n 0), 1)), (140, (.inl (.iload_n 2), 1)), (141, (.inl (.iload 4), 2)), (143, (.inr (17, 124, 3, 1, 9), 3)), (146, (.inl (.iconst 0), 1)), (147, (.inl (.istore 5), 2)), (149, (.inl (.iload 5), 2)), (151, (.inl (.aload_n 0), 1)), (152, (.inr (0, 9, 1, 0, 0), 3)), (155, (.inl (.if_icmp .ge 42), 3)), (158, (.inl (.iload 5), 2)), (160, (.inl (.iload 4), 2)), (162, (.inl (.if_icmp .eq 29), 3)), (165, (.inl (.iload 5), 2)), (167, (.inl (.iload_n 3), 1)), (168, (.inl (.if_icmp .eq 23), 3)), (171, (.inl (.aload_n 0), 1)), (172, (.inl (.iload_n 2), 1)), (173, (.inl (.iload 5), 2)), (175, (.inr (17, 131, 3, 1, 9), 3)), (178, (.inl (.ifCond .eq 13), 3)), (181, (.inl (.aload_n 0), 1)), (182, (.inl (.iload 4), 2)), (184, (.inl (.iload 5), 2)), (186, (.inl (.iconst 4), 1)), (187, (.inl (.iload_n 2), 1)), (188, (.inr (17, 125, 5, 1, 9), 3)), (191, (.inl (.iinc 5 1), 3)), (194, (.inl (.goto (-45)), 3)), (197, (.inl (.goto 50), 3)), (200, (.inl (.aload_n 0), 1)), (201, (.inl (.iload_n 2), 1)), (202, (.inl (.iload 4), 2)), (204, (.inr (17, 124, 3, 1, 9), 3)), (207, (.inl (.goto 40), 3)), (210, (.inl (.aload_n 0), 1)), (211, (.inr (0, 9, 27, 0, 0), 3)), (214, (.inl (.sipush 500), 3)), (217, (.inl (.iload 4), 2)), (219, (.inl .imul, 1)), (220, (.inl (.aload_n 0), 1)), (221, (.inr (0, 9, 28, 0, 0), 3)), (224, (.inl (.iload 4), 2)), (226, (.inl .iaload, 1)), (227, (.inl .iadd, 1)), (228, (.inl (.iload_n 2), 1)), (229, (.inl .iastore, 1)), (230, (.inl (.aload_n 0), 1)), (231, (.inr (0, 9, 28, 0, 0), 3)), (234, (.inl (.iload 4), 2)), (236, (.inl .dup2, 1)), (237, (.inl .iaload, 1)), (238, (.inl (.iconst 1), 1)), (239, (.inl .iadd, 1)), (240, (.inl .iastore, 1)), (241, (.inl (.aload_n 0), 1)), (242, (.inl (.iload 4), 2)), (244, (.inr (17, 126, 2, 1, 9), 3)), (247, (.inl .return_, 1))]
/-- FarStoreModel.waiting(II)I -/
def cd_135 : List (Nat × (OI × Nat)) := [(0, (.inl (.aload_n 0), 1)), (1, (.inl (.aload_n 0), 1)), (2, (.inl (.iload_n 1), 1)), (3, (.inr (17, 106, 2, 1, 9), 3)), (6, (.inl (.ifCond .eq 16), 3)), (9, (.inl (.aload_n 0), 1)), (10, (.inl (.iload_n 2), 1)), (11, (.inr (17, 106, 2, 1, 9), 3)), (14, (.inl (.ifCond .eq 8), 3)), (17, (.inl (.iload_n 1), 1)), (18, (.inl (.iload_n 2), 1)), (19, (.inl (.if_icmp .ne 7), 3)), (22, (.inl (.iconst 1), 1)), (23, (.inl (.goto 4), 3)), (26, (.inl (.iconst 0), 1)), (27, (.inl (.iconst 0), 1)), (28, (.inr (17, 104, 3, 1, 9), 3)), (31, (.inl (.ifCond .eq 5), 3)), (34, (.inl (.iconst 0), 1)), (35, (.inl .ireturn, 1)), (36, (.inl (.iconst 0), 1)), (37, (.inl (.istore_n 3), 1)), (38, (.inl (.iconst 0), 1)), (39, (.inl (.istore 4), 2)), (41, (.inl (.iload 4), 2)), (43, (.inl (.aload_n 0), 1)), (44, (.inr (0, 9, 5, 0, 0), 3)), (47, (.inl (.if_icmp .ge 44), 3)), (50, (.inl (.aload_n 0), 1)), (51, (.inr (0, 9, 25, 0, 0), 3)), (54, (.inl (.iload 4), 2)), (56, (.inl .iaload, 1)), (57, (.inl (.ifCond .eq 28), 3)), (60, (.inl (.aload_n 0), 1)), (61, (.inr (0, 9, 23, 0, 0), 3)), (64, (.inl (.iload 4), 2)), (66, (.inl .iaload, 1)), (67, (.inl (.iload_n 1), 1)), (68, (.inl (.if_icmp .ne 17), 3)), (71, (.inl (.aload_n 0), 1)), (72, (.inr (0, 9, 24, 0, 0), 3)), (75, (.inl (.iload 4), 2)), (77, (.inl .iaload, 1)), (78, (.inl (.iload_n 2), 1)), (79, (.inl (.if_icmp .ne 6), 3)), (82, (.inl (.iinc 3 1), 3)), (85, (.inl (.iinc 4 1), 3)), (88, (.inl (.goto (-47)), 3)), (91, (.inl (.iload_n 3), 1)), (92, (.inl .ireturn, 1))]
/-- FarStoreModel.seen(II)I -/
def cd_136 : List (Nat × (OI × Nat)) := [(0, (.inl (.aload_n 0), 1)), (1, (.inl (.aload_n 0), 1)), (2, (.inl (.iload_n 1), 1)), (3, (.inr (17, 106, 2, 1, 9), 3)), (6, (.inl (.ifCond .eq 11), 3)), (9, (.inl (.aload_n 0), 1)), (10, (.inl (.iload_n 2), 1)), (11, (.inr (17, 106, 2, 1, 9), 3)), (14, (.inl (.ifCond .ne 7), 3)), (17, (.inl (.iconst 1), 1)), (18, (.inl (.goto 4), 3)), (21, (.inl (.iconst 0), 1)), (22, (.inl (.iconst 0), 1)), (23, (.inr (17, 104, 3, 1, 9), 3)), (26, (.inl (.ifCond .eq 7), 3)), (29, (.inl (.iconst 0), 1)), (30, (.inl (.goto 14), 3)), (33, (.inl (.aload_n 0), 1)), (34, (.inr (0, 9, 20, 0, 0), 3)), (37, (.inl (.bipush 6), 2)), (39, (.inl (.iload_n 1), 1)), (40, (.inl .imul, 1)), (41, (.inl (.iload_n 2), 1)), (42, (.inl .iadd, 1)), (43, (.inl .iaload, 1)), (44, (.inl .ireturn, 1))]
/-- FarStoreModel.state(II)I -/
def cd_137 : List (Nat × (OI × Nat)) := [(0, (.inl (.aload_n 0), 1)), (1, (.inl (.aload_n 0), 1)), (2, (.inl (.iload_n 1), 1)), (3, (.inr (17, 110, 2, 1, 9), 3)), (6, (.inl (.ifCond .eq 12), 3)), (9, (.inl (.iload_n 2), 1)), (10, (.inl (.ifCond .lt 8), 3)), (13, (.inl (.iload_n 2), 1)), (14, (.inl (.iconst 3), 1)), (15, (.inl (.if_icmp .le 7), 3)), (18, (.inl (.iconst 1), 1)), (19, (.inl (.goto 4), 3)), (22, (.inl (.iconst 0), 1)), (23, (.inl (.iconst 0), 1)), (24, (.inr (17, 104, 3, 1, 9), 3)), (27, (.inl (.ifCond .eq 5), 3)), (30, (.inl (.iconst 0), 1)), (31, (.inl .ireturn, 1)), (32, (.inl (.iload_n 2), 1)), (33, (.inl (.ifCond .ne 10), 3)), (36, (.inl (.aload_n 0), 1)), (37, (.inr (0, 9, 11, 0, 0), 3)), (40, (.inl (.iload_n 1), 1)), (41, (.inl .iaload, 1)), (42, (.inl .ireturn, 1)), (43, (.inl (.iload_n 2), 1)), (44, (.inl (.iconst 1), 1)), (45, (.inl (.if_icmp .ne 10), 3)), (48, (.inl (.aload_n 0), 1)), (49, (.inr (0, 9, 12, 0, 0), 3)), (52, (.inl (.iload_n 1), 1)), (53, (.inl .iaload, 1)), (54, (.inl .ireturn, 1)), (55, (.inl (.iload_n 2), 1)), (56, (.inl (.iconst 3), 1)), (57, (.inl (.if_icmp .ne 31), 3)), (60, (.inl (.aload_n 0), 1)), (61, (.inr (0, 9, 11, 0, 0), 3)), (64, (.inl (.iload_n 1), 1)), (65, (.inl .iaload, 1)), (66, (.inl (.iconst 3), 1)), (67, (.inl (.if_icmp .ne 19), 3)), (70, (.inl (.aload_n 0), 1)), (71, (.inr (0, 9, 15, 0, 0), 3)), (74, (.inl (.iload_n 1), 1)), (75, (.inl .iaload, 1)), (76, (.inl (.aload_n 0), 1)), (77, (.inr (0, 9, 14, 0, 0), 3)), (80, (.inl (.iload_n 1), 1)), (81, (.inl .iaload, 1)), (82, (.inl .isub, 1)), (83, (.inl (.goto 4), 3)), (86, (.inl (.iconst 0), 1)), (87, (.inl .ireturn, 1)), (88, (.inl (.iconst 0), 1)), (89, (.inl (.istore_n 3), 1)), (90, (.inl (.iconst 0), 1)), (91, (.inl (.istore 4), 2)), (93, (.inl (.iload 4), 2)), (95, (.inl (.aload_n 0), 1)), (96, (.inr (0, 9, 1, 0, 0), 3)), (99, (.inl (.if_icmp .ge 47), 3)), (102, (.inl (.aload_n 0), 1)), (103, (.inr (0, 9, 12, 0, 0), 3)), (106, (.inl (.iload_n 1), 1)), (107, (.inl .iaload, 1)), (108, (.inl (.ifCond .le 32), 3)), (111, (.inl (.aload_n 0), 1)), (112, (.inr (0, 9, 20, 0, 0), 3)), (115, (.inl (.bipush 6), 2)), (117, (.inl (.iload 4), 2)), (119, (.inl .imul, 1)), (120, (.inl (.aload_n 0), 1)), (121, (.inr (0, 9, 10, 0, 0), 3)), (124, (.inl (.iload_n 1), 1)), (125, (.inl .iaload, 1)), (126, (.inl .iadd, 1)), (127, (.inl .iaload, 1)), (128, (.inl (.aload_n 0), 1)), (129, (.inr (0, 9, 12, 0, 0), 3)), (132, (.inl (.iload_n 1), 1)), (133, (.inl .iaload, 1)), (134, (.inl (.if_icmp .lt 6), 3)), (137, (.inl (.iinc 3 1), 3)), (140, (.inl (.iinc 4 1), 3)), (143, (.inl (.goto (-50)), 3)), (146, (.inl (.iload_n 3), 1)), (147, (.inl .ireturn, 1))]
/-- FarStoreModel.locked(I)I -/
def cd_138 : List (Nat × (OI × Nat)) := [(0, (.inl (.aload_n 0), 1)), (1, (.inl (.aload_n 0), 1)), (2, (.inl (.iload_n 1), 1)), (3, (.inr (17, 111, 2, 1, 9), 3)), (6, (.inl (.ifCond .ne 7), 3)), (9, (.inl (.iconst 1), 1)), (10, (.inl (.goto 4), 3)), (13, (.inl (.iconst 0), 1)), (14, (.inl (.iconst 0), 1)), (15, (.inr (17, 104, 3, 1, 9), 3)), (18, (.inl (.ifCond .eq 7), 3)), (21, (.inl (.iconst 0), 1)), (22, (.inl (.goto 9), 3)), (25, (.inl (.aload_n 0), 1)), (26, (.inr (0, 9, 8, 0, 0), 3)), (29, (.inl (.iload_n 1), 1)), (30, (.inl .iaload, 1)), (31, (.inl .ireturn, 1))]
/-- FarStoreModel.count(I)I -/
def cd_139 : List (Nat × (OI × Nat)) := [(0, (.inl (.aload_n 0), 1)), (1, (.inl (.iconst 0), 1)), (2, (.inr (1, 9, 0, 0, 0), 3)), (5, (.inl (.iconst 0), 1)), (6, (.inl (.istore_n 2), 1)), (7, (.inl (.iload_n 1), 1)), (8, (.inl (.tableswitch 117 0 5 #[40, 45, 50, 55, 60, 87]), 40)), (48, (.inl (.aload_n 0), 1)), (49, (.inr (0, 9, 1, 0, 0), 3)), (52, (.inl .ireturn, 1)), (53, (.inl (.aload_n 0), 1)), (54, (.inr (0, 9, 2, 0, 0), 3)), (57, (.inl .ireturn, 1)), (58, (.inl (.aload_n 0), 1)), (59, (.inr (0, 9, 3, 0, 0), 3)), (62, (.inl .ireturn, 1)), (63, (.inl (.aload_n 0), 1)), (64, (.inr (0, 9, 6, 0, 0), 3)), (67, (.inl .ireturn, 1)), (68, (.inl (.iconst 0), 1)), (69, (.inl (.istore_n 3), 1)), (70, (.inl (.iload_n 3), 1)), (71, (.inl (.aload_n 0), 1)), (72, (.inr (0, 9, 1, 0, 0), 3)), (75, (.inl (.if_icmp .ge 18), 3)), (78, (.inl (.iload_n 2), 1)), (79, (.inl (.aload_n 0), 1)), (80, (.inr (0, 9, 28, 0, 0), 3)), (83, (.inl (.iload_n 3), 1)), (84, (.inl .iaload, 1)), (85, (.inl .iadd, 1)), (86, (.inl (.istore_n 2), 1)), (87, (.inl (.iinc 3 1), 3)), (90, (.inl (.goto (-20)), 3)), (93, (.inl (.iload_n 2), 1)), (94, (.inl .ireturn, 1)), (95, (.inl (.iconst 0), 1)), (96, (.inl (.istore_n 3), 1)), (97, (.inl (.iload_n 3), 1)), (98, (.inl (.aload_n 0), 1)), (99, (.inr (0, 9, 5, 0, 0), 3)), (102, (.inl (.if_icmp .ge 21), 3)), (105, (.inl (.aload_n 0), 1)), (106, (.inr (0, 9, 25, 0, 0), 3)), (109, (.inl (.iload_n 3), 1)), (110, (.inl .iaload, 1)), (111, (.inl (.ifCond .eq 6), 3)), (114, (.inl (.iinc 2 1), 3)), (117, (.inl (.iinc 3 1), 3)), (120, (.inl (.goto (-23)), 3)), (123, (.inl (.iload_n 2), 1)), (124, (.inl .ireturn, 1)), (125, (.inl (.iconst (-1)), 1)), (126, (.inl .ireturn, 1))]
/-- FarStoreLaw.law([I)Z -/
def cd_140 : List (Nat × (OI × Nat)) := [(0, (.inr (2, 0, 6, 0, 0), 3)), (3, (.inl .dup, 1)), (4, (.inr (17, 0, 1, 2, 0), 3)), (7, (.inl (.astore_n 1), 1)), (8, (.inr (2, 9, 29, 0, 0), 3)), (11, (.inl .dup, 1)), (12, (.inr (17, 101, 1, 2, 0), 3)), (15, (.inl (.astore_n 2), 1)), (16, (.inl (.iconst 1), 1)), (17, (.inl (.newarray .long), 2)), (19, (.inl (.astore_n 3), 1)), (20, (.inl (.iconst 0), 1)), (21, (.inl (.istore 4), 2)), (23, (.inl (.iload 4), 2)), (25, (.inl (.aload_n 0), 1)), (26, (.inl .arraylength, 1)), (27, (.inl (.iconst 5), 1)), (28, (.inl .isub, 1)), (29, (.inl (.if_icmp .gt 1121), 3)), (32, (.inl (.aload_n 0), 1)), (33, (.inl (.iload 4), 2)), (35, (.inl .iaload, 1)), (36, (.inl (.bipush 15), 2)), (38, (.inl .iand, 1)), (39, (.inl (.tableswitch 1105 0 15 #[77, 113, 197, 253, 320, 412, 500, 580, 660, 716, 752, 820, 888, 956, 1024, 1080]), 77)), (116, (.inl (.aload_n 1), 1)), (117, (.inl (.aload_n 0), 1)), (118, (.inl (.iload 4), 2)), (120, (.inl (.iconst 1), 1)), (121, (.inl .iadd, 1)), (122, (.inl .iaload, 1)), (123, (.inr (17, 9, 2, 0, 0), 3)), (126, (.inl (.istore 5), 2)), (128, (.inl (.aload_n 2), 1)), (129, (.inl (.aload_n 0), 1)), (130, (.inl (.iload 4), 2)), (132, (.inl (.iconst 1), 1)), (133, (.inl .iadd, 1)), (134, (.inl .iaload, 1)), (135, (.inr (17, 103, 2, 1, 9), 3)), (138, (.inl (.aload_n 2), 1)), (139, (.inr (17, 102, 1, 1, 9), 3)), (142, (.inl (.iload 5), 2)), (144, (.inl (.if_icmp .eq 5), 3)), (147, (.inl (.iconst 0), 1)), (148, (.inl .ireturn, 1)), (149, (.inl (.goto 995), 3)), (152, (.inl (.aload_n 1), 1)), (153, (.inl (.aload_n 0), 1)), (154, (.inl (.iload 4), 2)), (156, (.inl (.iconst 1), 1)), (157, (.inl .iadd, 1)), (158, (.inl .iaload, 1)), (159, (.inl (.aload_n 0), 1)), (160, (.inl (.iload 4), 2)), (162, (.inl (.iconst 2), 1)), (163, (.inl .iadd, 1)), (164, (.inl .iaload, 1)), (165, (.inl (.ifCond .eq 7), 3)), (168, (.inl (.iconst 1), 1)), (169, (.inl (.goto 4), 3)), (172, (.inl (.iconst 0), 1)), (173, (.inl (.aload_n 3), 1)), (174, (.inr (17, 12, 4, 0, 0), 3)), (177, (.inl (.istore 5), 2)), (179, (.inl (.aload_n 2), 1)), (180, (.inl (.aload_n 0), 1)), (181, (.inl (.iload 4), 2)), (183, (.inl (.iconst 1), 1)), (184, (.inl .iadd, 1)), (185, (.inl .iaload, 1)), (186, (.inl (.aload_n 0), 1)), (187, (.inl (.iload 4), 2)), (189, (.inl (.iconst 2), 1)), (190, (.inl .iadd, 1)), (191, (.inl .iaload, 1)), (192, (.inl (.ifCond .eq 7), 3)), (195, (.inl (.iconst 1), 1)), (196, (.inl (.goto 4), 3)), (199, (.inl (.iconst 0), 1)), (200, (.inr (17, 105, 3, 1, 9), 3)), (203, (.inl (.istore 6), 2)), (205, (.inl (.aload_n 2), 1)), (206, (.inr (17, 102, 1, 1, 9), 3)), (209, (.inl (.iload 5), 2)), (211, (.inl (.if_icmp .eq 5), 3)), (214, (.inl (.iconst 0), 1)), (215, (.inl .ireturn, 1)), (216, (.inl (.iload 5), 2)), (218, (.inl (.ifCond .ne 15), 3)), (221, (.inl (.aload_n 3), 1)), (222, (.inl (.iconst 0), 1)), (223, (.inl .laload, 1)), (224, (.inl (.iload 6), 2)), (226, (.inl .i2l, 1)), (227, (.inl .lcmp, 1)), (228, (.inl (.ifCond .eq 5), 3)), (231, (.inl (.iconst 0), 1)), (232, (.inl .ireturn, 1)), (233, (.inl (.goto 911), 3)), (236, (.inl (.aload_n 1), 1)), (237, (.inl (.aload_n 0), 1)), (238, (.inl (.iload 4), 2)), (240, (.inl (.iconst 1), 1)), (241, (.inl .iadd, 1)), (242, (.inl .iaload, 1)), (243, (.inl (.aload_n 3), 1)), (244, (.inr (17, 23, 3, 0, 0), 3)), (247, (.inl (.istore 5), 2)), (249, (.inl (.aload_n 2), 1)), (250, (.inl (.aload_n 0), 1)), (251, (.inl (.iload 4), 2)), (253, (.inl (.iconst 1), 1)), (254, (.inl .iadd, 1)), (255, (.inl .iaload, 1)), (256, (.inr (17, 107, 2, 1, 9), 3)), (259, (.inl (.istore 6), 2)), (261, (.inl (.aload_n 2), 1)), (262, (.inr (17, 102, 1, 1, 9), 3)), (265, (.inl (.iload 5), 2)), (267, (.inl (.if_icmp .eq 5), 3)), (270, (.inl (.iconst 0), 1)), (271, (.inl .ireturn, 1)), (272, (.inl (.iload 5), 2)), (274, (.inl (.ifCond .ne 15), 3)), (277, (.inl (.aload_n 3), 1)), (278, (.inl (.iconst 0), 1)), (279, (.inl .laload, 1)), (280, (.inl (.iload 6), 2)), (282, (.inl .i2l, 1)), (283, (.inl .lcmp, 1)), (284, (.inl (.ifCond .eq 5), 3)), (287, (.inl (.iconst 0), 1)), (288, (.inl .ireturn, 1)), (289, (.inl (.goto 855), 3)), (292, (.inl (.aload_n 1), 1)), (293, (.inl (.aload_n 0), 1)), (294, (.inl (.iload 4), 2)), (296, (.inl (.iconst 1), 1)), (297, (.inl .iadd, 1)), (298, (.inl .iaload, 1)), (299, (.inl (.aload_n 0), 1)), (300, (.inl (.iload 4), 2)), (302, (.inl (.iconst 2), 1)), (303, (.inl .iadd, 1)), (304, (.inl .iaload, 1)), (305, (.inl (.aload_n 3), 1)), (306, (.inr (17, 26, 4, 0, 0), 3)), (309, (.inl (.istore 5), 2)), (311, (.inl (.aload_n 2), 1)), (312, (.inl (.aload_n 0), 1)), (313, (.inl (.iload 4), 2)), (315, (.inl (.iconst 1), 1)), (316, (.inl .iadd, 1)), (317, (.inl .iaload, 1)), (318, (.inl (.aload_n 0), 1)), (319, (.inl (.iload 4), 2)), (321, (.inl (.iconst 2), 1)), (322, (.inl .iadd, 1)), (323, (.inl .iaload, 1)), (324, (.inr (17, 108, 3, 1, 9), 3)), (327, (.inl (.lstore 6), 2)), (329, (.inl (.aload_n 2), 1)), (330, (.inr (17, 102, 1, 1, 9), 3)), (333, (.inl (.iload 5), 2)), (335, (.inl (.if_icmp .eq 5), 3)), (338, (.inl (.iconst 0), 1)), (339, (.inl .ireturn, 1)), (340, (.inl (.iload 5), 2)), (342, (.inl (.ifCond .ne 14), 3)), (345, (.inl (.aload_n 3), 1)), (346, (.inl (.iconst 0), 1)), (347, (.inl .laload, 1)), (348, (.inl (.lload 6), 2)), (350, (.inl .lcmp, 1)), (351, (.inl (.ifCond .eq 5), 3)), (354, (.inl (.iconst 0), 1)), (355, (.inl .ireturn, 1)), (356, (.inl (.goto 788), 3)), (359, (.inl (.aload_n 1), 1)), (360, (.inl (.aload_n 0), 1)), (361, (.inl (.iload 4), 2)), (363, (.inl (.iconst 1), 1)), (364, (.inl .iadd, 1)), (365, (.inl .iaload, 1)), (366, (.inl (.aload_n 0), 1)), (367, (.inl (.iload 4), 2)), (369, (.inl (.iconst 2), 1)), (370, (.inl .iadd, 1)), (371, (.inl .iaload, 1)), (372, (.inl (.aload_n 0), 1)), (373, (.inl (.iload 4), 2)), (375, (.inl (.iconst 3), 1)), (376, (.inl .iadd, 1)), (377, (.inl .iaload, 1)), (378, (.inl .i2l, 1)), (379, (.inl (.bipush 32), 2)), (381, (.inl .lshl, 1)), (382, (.inl (.aload_n 0), 1)), (383, (.inl (.iload 4), 2)), (385, (.inl (.iconst 4), 1)), (386, (.inl .iadd, 1)), (387, (.inl .iaload, 1)), (388, (.inl .i2l, 1)), (389, (.inr (15, 4294967295, 0, 0, 0), 3)), (392, (.inl .land, 1)), (393, (.inl .lor, 1)), (394, (.inr (17, 39, 4, 0, 0), 3)), (397, (.inl (.istore 5), 2)), (399, (.inl (.aload_n 2), 1)), (400, (.inl (.aload_n 0), 1)), (401, (.inl (.iload 4), 2)), (403, (.inl (.iconst 1), 1)), (404, (.inl .iadd, 1)), (405, (.inl .iaload, 1)), (406, (.inl (.aload_n 0), 1)), (407, (.inl (.iload 4), 2)), (409, (.inl (.iconst 2), 1)), (410, (.inl .iadd, 1)), (411, (.inl .iaload, 1)), (412, (.inl (.aload_n 0), 1)), (413, (.inl (.iload 4), 2)), (415, (.inl (.iconst 3), 1)), (416, (.inl .iadd, 1)), (417, (.inl .iaload, 1)), (418, (.inl .i2l, 1)), (419, (.inl (.bipush 32), 2)), (421, (.inl .lshl, 1)), (422, (.inl (.aload_n 0), 1)), (423, (.inl (.iload 4), 2)), (425, (.inl (.iconst 4), 1)), (426, (.inl .iadd, 1)), (427, (.inl .iaload, 1)), (428, (.inl .i2l, 1)), (429, (.inr (15, 4294967295, 0, 0, 0), 3)), (432, (.inl .land, 1)), (433, (.inl .lor, 1)), (434, (.inr (17, 115, 4, 1, 9), 3)), (437, (.inl (.aload_n 2), 1)), (438, (.inr (17, 102, 1, 1, 9), 3)), (441, (.inl (.iload 5), 2)), (443, (.inl (.if_icmp .eq 5), 3)), (446, (.inl (.iconst 0), 1)), (447, (.inl .ireturn, 1)), (448, (.inl (.goto 696), 3)), (451, (.inl (.aload_n 1), 1)), (452, (.inl (.aload_n 0), 1)), (453, (.inl (.iload 4), 2)), (455, (.inl (.iconst 1), 1)), (456, (.inl .iadd, 1)), (457, (.inl .iaload, 1)), (458, (.inl (.aload_n 0), 1)), (459, (.inl (.iload 4), 2)), (461, (.inl (.iconst 2), 1)), (462, (.inl .iadd, 1)), (463, (.inl .iaload, 1)), (464, (.inl (.aload_n 0), 1)), (465, (.inl (.iload 4), 2)), (467, (.inl (.iconst 3), 1)), (468, (.inl .iadd, 1)), (469, (.inl .iaload, 1)), (470, (.inl (.aload_n 0), 1)), (471, (.inl (.iload 4), 2)), (473, (.inl (.iconst 4), 1)), (474, (.inl .iadd, 1)), (475, (.inl .iaload, 1)), (476, (.inl (.ifCond .eq 7), 3)), (479, (.inl (.iconst 1), 1)), (480, (.inl (.goto 4), 3)), (483, (.inl (.iconst 0), 1)), (484, (.inr (17, 43, 5, 0, 0), 3)), (487, (.inl (.istore 5), 2)), (489, (.inl (.aload_n 2), 1)), (490, (.inl (.aload_n 0), 1)), (491, (.inl (.iload 4), 2)), (493, (.inl (.iconst 1), 1)), (494, (.inl .iadd, 1)), (495, (.inl .iaload, 1)), (496, (.inl (.aload_n 0), 1)), (497, (.inl (.iload 4), 2)), (499, (.inl (.iconst 2), 1)), (500, (.inl .iadd, 1)), (501, (.inl .iaload, 1)), (502, (.inl (.aload_n 0), 1)), (503, (.inl (.iload 4), 2)), (505, (.inl (.iconst 3), 1)), (506, (.inl .iadd, 1)), (507, (.inl .iaload, 1)), (508, (.inl (.aload_n 0), 1)), (509, (.inl (.iload 4), 2)), (511, (.inl (.iconst 4), 1)), (512, (.inl .iadd, 1)), (513, (.inl .iaload, 1)), (514, (.inl (.ifCond .eq 7), 3)), (517, (.inl (.iconst 1), 1)), (518, (.inl (.goto 4), 3)), (521, (.inl (.iconst 0), 1)), (522, (.inr (17, 117, 5, 1, 9), 3)), (525, (.inl (.aload_n 2), 1)), (526, (.inr (17, 102, 1, 1, 9), 3)), (529, (.inl (.iload 5), 2)), (531, (.inl (.if_icmp .eq 5), 3)), (534, (.inl (.iconst 0), 1)), (535, (.inl .ireturn, 1)), (536, (.inl (.goto 608), 3)), (539, (.inl (.aload_n 1), 1)), (540, (.inl (.aload_n 0), 1)), (541, (.inl (.iload 4), 2)), (543, (.inl (.iconst 1), 1)), (544, (.inl .iadd, 1)), (545, (.inl .iaload, 1)), (546, (.inl (.aload_n 0), 1)), (547, (.inl (.iload 4), 2)), (549, (.inl (.iconst 2), 1)), (550, (.inl .iadd, 1)), (551, (.inl .iaload, 1)), (552, (.inl (.aload_n 0), 1)), (553, (.inl (.iload 4), 2)), (555, (.inl (.iconst 3), 1)), (556, (.inl .iadd, 1)), (557, (.inl .iaload, 1)), (558, (.inl (.aload_n 3), 1)), (559, (.inr (17, 47, 5, 0, 0), 3)), (562, (.inl (.istore 5), 2)), (564, (.inl (.aload_n 2), 1)), (565, (.inl (.aload_n 0), 1)), (566, (.inl (.iload 4), 2)), (568, (.inl (.iconst 1), 1)), (569, (.inl .iadd, 1)), (570, (.inl .iaload, 1)), (571, (.inl (.aload_n 0), 1)), (572, (.inl (.iload 4), 2)), (574, (.inl (.iconst 2), 1)), (575, (.inl .iadd, 1)), (576, (.inl .iaload, 1)), (577, (.inl (.aload_n 0), 1)), (578, (.inl (.iload 4), 2)), (580, (.inl (.iconst 3), 1)), (581, (.inl .iadd, 1)), (582, (.inl .iaload, 1)), (583, (.inr (17, 118, 4, 1, 9), 3)), (586, (.inl (.istore 6), 2)), (588, (.inl (.aload_n 2), 1)), (589, (.inr (17, 102, 1, 1, 9), 3)), (592, (.inl (.iload 5), 2)), (594, (.inl (.if_icmp .eq 5), 3)), (597, (.inl (.iconst 0), 1)), (598, (.inl .ireturn, 1)), (599, (.inl (.iload 5), 2)), (601, (.inl (.ifCond .ne 15), 3)), (604, (.inl (.aload_n 3), 1)), (605, (.inl (.iconst 0), 1)), (606, (.inl .laload, 1)), (607, (.inl (.iload 6), 2)), (609, (.inl .i2l, 1)), (610, (.inl .lcmp, 1)), (611, (.inl (.ifCond .eq 5), 3)), (614, (.inl (.iconst 0), 1)), (615, (.inl .ireturn, 1)), (616, (.inl (.goto 528), 3)), (619, (.inl (.aload_n 1), 1)), (620, (.inl (.aload_n 0), 1)), (621, (.inl (.iload 4), 2)), (623, (.inl (.iconst 1), 1)), (624, (.inl .iadd, 1)), (625, (.inl .iaload, 1)), (626, (.inl (.aload_n 0), 1)), (627, (.inl (.iload 4), 2)), (629, (.inl (.iconst 2), 1)), (630, (.inl .iadd, 1)), (631, (.inl .iaload, 1)), (632, (.inl (.aload_n 0), 1)), (633, (.inl (.iload 4), 2)), (635, (.inl (.iconst 3), 1)), (636, (.inl .iadd, 1)), (637, (.inl .iaload, 1)), (638, (.inl (.aload_n 3), 1)), (639, (.inr (17, 50, 5, 0, 0), 3)), (642, (.inl (.istore 5), 2)), (644, (.inl (.aload_n 2), 1)), (645, (.inl (.aload_n 0), 1)), (646, (.inl (.iload 4), 2)), (648, (.inl (.iconst 1), 1)), (649, (.inl .iadd, 1)), (650, (.inl .iaload, 1)), (651, (.inl (.aload_n 0), 1)), (652, (.inl (.iload 4), 2)), (654, (.inl (.iconst 2), 1)), (655, (.inl .iadd, 1)), (656, (.inl .iaload, 1)), (657, (.inl (.aload_n 0), 1)), (658, (.inl (.iload 4), 2)), (660, (.inl (.iconst 3), 1)), (661, (.inl .iadd, 1)), (662, (.inl .iaload, 1)), (663, (.inr (17, 120, 4, 1, 9), 3)), (666, (.inl (.istore 6), 2)), (668, (.inl (.aload_n 2), 1)), (669, (.inr (17, 102, 1, 1, 9), 3)), (672, (.inl (.iload 5), 2)), (674, (.inl (.if_icmp .eq 5), 3)), (677, (.inl (.iconst 0), 1)), (678, (.inl .ireturn, 1)), (679, (.inl (.iload 5), 2)), (681, (.inl (.ifCond .ne 15), 3)), (684, (.inl (.aload_n 3), 1)), (685, (.inl (.iconst 0), 1)), (686, (.inl .laload, 1)), (687, (.inl (.iload 6), 2)), (689, (.inl .i2l, 1)), (690, (.inl .lcmp, 1)), (691, (.inl (.ifCond .eq 5), 3)), (694, (.inl (.iconst 0), 1)), (695, (.inl .ireturn, 1)), (696, (.inl (.goto 448), 3)), (699, (.inl (.aload_n 1), 1)), (700, (.inl (.aload_n 0), 1)), (701, (.inl (.iload 4), 2)), (703, (.inl (.iconst 1), 1)), (704, (.inl .iadd, 1)), (705, (.inl .iaload, 1)), (706, (.inl (.aload_n 3), 1)), (707, (.inr (17, 59, 3, 0, 0), 3)), (710, (.inl (.istore 5), 2)), (712, (.inl (.aload_n 2), 1)), (713, (.inl (.aload_n 0), 1)), (714, (.inl (.iload 4), 2)), (716, (.inl (.iconst 1), 1)), (717, (.inl .iadd, 1)), (718, (.inl .iaload, 1)), (719, (.inr (17, 122, 2, 1, 9), 3)), (722, (.inl (.istore 6), 2)), (724, (.inl (.aload_n 2), 1)), (725, (.inr (17, 102, 1, 1, 9), 3)), (728, (.inl (.iload 5), 2)), (730, (.inl (.if_icmp .eq 5), 3)), (733, (.inl (.iconst 0), 1)), (734, (.inl .ireturn, 1)), (735, (.inl (.iload 5), 2)), (737, (.inl (.ifCond .ne 15), 3)), (740, (.inl (.aload_n 3), 1)), (741, (.inl (.iconst 0), 1)), (742, (.inl .laload, 1)), (743, (.inl (.iload 6), 2)), (745, (.inl .i2l, 1)), (746, (.inl .lcmp, 1)), (747, (.inl (.ifCond .eq 5), 3)), (750, (.inl (.iconst 0), 1)), (751, (.inl .ireturn, 1)), (752, (.inl (.goto 392), 3)), (755, (.inl (.aload_n 1), 1)), (756, (.inl (.aload_n 0), 1)), (757, (.inl (.iload 4), 2)), (759, (.inl (.iconst 1), 1)), (760, (.inl .iadd, 1)), (761, (.inl .iaload, 1)), (762, (.inr (17, 75, 2, 0, 0), 3)), (765, (.inl (.istore 5), 2)), (767, (.inl (.aload_n 2), 1)), (768, (.inl (.aload_n 0), 1)), (769, (.inl (.iload 4), 2)), (771, (.inl (.iconst 1), 1)), (772, (.inl .iadd, 1)), (773, (.inl .iaload, 1)), (774, (.inr (17, 132, 2, 1, 9), 3)), (777, (.inl (.aload_n 2), 1)), (778, (.inr (17, 102, 1, 1, 9), 3)), (781, (.inl (.iload 5), 2)), (783, (.inl (.if_icmp .eq 5), 3)), (786, (.inl (.iconst 0), 1)), (787, (.inl .ireturn, 1)), (788, (.inl (.goto 356), 3)), (791, (.inl (.aload_n 1), 1)), (792, (.inl (.aload_n 0), 1)), (793, (.inl (.iload 4), 2)), (795, (.inl (.iconst 1), 1)), (796, (.inl .iadd, 1)), (797, (.inl .iaload, 1)), (798, (.inl (.aload_n 0), 1)), (799, (.inl (.iload 4), 2)), (801, (.inl (.iconst 2), 1)), (802, (.inl .iadd, 1)), (803, (.inl .iaload, 1)), (804, (.inl (.aload_n 3), 1)), (805, (.inr (17, 77, 4, 0, 0), 3)), (808, (.inl (.istore 5), 2)), (810, (.inl (.aload_n 2), 1)), (811, (.inl (.aload_n 0), 1)), (812, (.inl (.iload 4), 2)), (814, (.inl (.iconst 1), 1)), (815, (.inl .iadd, 1)), (816, (.inl .iaload, 1)), (817, (.inl (.aload_n 0), 1)), (818, (.inl (.iload 4), 2)), (820, (.inl (.iconst 2), 1)), (821, (.inl .iadd, 1)), (822, (.inl .iaload, 1)), (823, (.inr (17, 133, 3, 1, 9), 3)), (826, (.inl (.istore 6), 2)), (828, (.inl (.aload_n 2), 1)), (829, (.inr (17, 102, 1, 1, 9), 3)), (832, (.inl (.iload 5), 2)), (834, (.inl (.if_icmp .eq 5), 3)), (837, (.inl (.iconst 0), 1)), (838, (.inl .ireturn, 1)), (839, (.inl (.iload 5), 2)), (841, (.inl (.ifCond .ne 15), 3)), (844, (.inl (.aload_n 3), 1)), (845, (.inl (.iconst 0), 1)), (846, (.inl .laload, 1)), (847, (.inl (.iload 6), 2)), (849, (.inl .i2l, 1)), (850, (.inl .lcmp, 1)), (851, (.inl (.ifCond .eq 5), 3)), (854, (.inl (.iconst 0), 1)), (855, (.inl .ireturn, 1)), (856, (.inl (.goto 288), 3)), (859, (.inl (.aload_n 1), 1)), (860, (.inl (.aload_n 0), 1)), (861, (.inl (.iload 4), 2)), (863, (.inl (.iconst 1), 1)), (864, (.inl .iadd, 1)), (865, (.inl .iaload, 1)), (866, (.inl (.aload_n 0), 1)), (867, (.inl (.iload 4), 2)), (869, (.inl (.iconst 2), 1)), (870, (.inl .iadd, 1)), (871, (.inl .iaload, 1)), (872, (.inl (.aload_n 3), 1)), (873, (.inr (17, 91, 4, 0, 0), 3)), (876, (.inl (.istore 5), 2)), (878, (.inl (.aload_n 2), 1)), (879, (.inl (.aload_n 0), 1)), (880, (.inl (.iload 4), 2)), (882, (.inl (.iconst 1), 1)), (883, (.inl .iadd, 1)), (884, (.inl .iaload, 1)), (885, (.inl (.aload_n 0), 1)), (886, (.inl (.iload 4), 2)), (888, (.inl (.iconst 2), 1)), (889, (.inl .iadd, 1)), (890, (.inl .iaload, 1)), (891, (.inr (17, 135, 3, 1, 9), 3)), (894, (.inl (.istore 6), 2)), (896, (.inl (.aload_n 2), 1)), (897, (.inr (17, 102, 1, 1, 9), 3)), (900, (.inl (.iload 5), 2)), (902, (.inl (.if_icmp .eq 5), 3)), (905, (.inl (.iconst 0), 1)), (906, (.inl .ireturn, 1)), (907, (.inl (.iload 5), 2)), (909, (.inl (.ifCond .ne 15), 3)), (912, (.inl (.aload_n 3), 1)), (913, (.inl (.iconst 0), 1)), (914, (.inl .laload, 1)), (915, (.inl (.iload 6), 2)), (917, (.inl .i2l, 1)), (918, (.inl .lcmp, 1)), (919, (.inl (.ifCond .eq 5), 3)), (922, (.inl (.iconst 0), 1)), (923, (.inl .ireturn, 1)), (924, (.inl (.goto 220), 3)), (927, (.inl (.aload_n 1), 1)), (928, (.inl (.aload_n 0), 1)), (929, (.inl (.iload 4), 2)), (931, (.inl (.iconst 1), 1)), (932, (.inl .iadd, 1)), (933, (.inl .iaload, 1)), (934, (.inl (.aload_n 0), 1)), (935, (.inl (.iload 4), 2)), (937, (.inl (.iconst 2), 1)), (938, (.inl .iadd, 1)), (939, (.inl .iaload, 1)), (940, (.inl (.aload_n 3), 1)), (941, (.inr (17, 94, 4, 0, 0), 3)), (944, (.inl (.istore 5), 2)), (946, (.inl (.aload_n 2), 1)), (947, (.inl (.aload_n 0), 1)), (948, (.inl (.iload 4), 2)), (950, (.inl (.iconst 1), 1)), (951, (.inl .iadd, 1)), (952, (.inl .iaload, 1)), (953, (.inl (.aload_n 0), 1)), (954, (.inl (.iload 4), 2)), (956, (.inl (.iconst 2), 1)), (957, (.inl .iadd, 1)), (958, (.inl .iaload, 1)), (959, (.inr (17, 136, 3, 1, 9), 3)), (962, (.inl (.istore 6), 2)), (964, (.inl (.aload_n 2), 1)), (965, (.inr (17, 102, 1, 1, 9), 3)), (968, (.inl (.iload 5), 2)), (970, (.inl (.if_icmp .eq 5), 3)), (973, (.inl (.iconst 0), 1)), (974, (.inl .ireturn, 1)), (975, (.inl (.iload 5), 2)), (977, (.inl (.ifCond .ne 15), 3)), (980, (.inl (.aload_n 3), 1)), (981, (.inl (.iconst 0), 1)), (982, (.inl .laload, 1)), (983, (.inl (.iload 6), 2)), (985, (.inl .i2l, 1)), (986, (.inl .lcmp, 1)), (987, (.inl (.ifCond .eq 5), 3)), (990, (.inl (.iconst 0), 1)), (991, (.inl .ireturn, 1)), (992, (.inl (.goto 152), 3)), (995, (.inl (.aload_n 1), 1)), (996, (.inl (.aload_n 0), 1)), (997, (.inl (.iload 4), 2)), (999, (.inl (.iconst 1), 1)), (1000, (.inl .iadd, 1)), (1001, (.inl .iaload, 1)), (1002, (.inl (.aload_n 0), 1)), (1003, (.inl (.iload 4), 2)), (1005, (.inl (.iconst 2), 1)), (1006, (.inl .iadd, 1)), (1007, (.inl .iaload, 1)), (1008, (.inl (.aload_n 3), 1)), (1009, (.inr (17, 96, 4, 0, 0), 3)), (1012, (.inl (.istore 5), 2)), (1014, (.inl (.aload_n 2), 1)), (1015, (.inl (.aload_n 0), 1)), (1016, (.inl (.iload 4), 2)), (1018, (.inl (.iconst 1), 1)), (1019, (.inl .iadd, 1)), (1020, (.inl .iaload, 1)), (1021, (.inl (.aload_n 0), 1)), (1022, (.inl (.iload 4), 2)), (1024, (.inl (.iconst 2), 1)), (1025, (.inl .iadd, 1)), (1026, (.inl .iaload, 1)), (1027, (.inr (17, 137, 3, 1, 9), 3)), (1030, (.inl (.istore 6), 2)), (1032, (.inl (.aload_n 2), 1)), (1033, (.inr (17, 102, 1, 1, 9), 3)), (1036, (.inl (.iload 5), 2)), (1038, (.inl (.if_icmp .eq 5), 3)), (1041, (.inl (.iconst 0), 1)), (1042, (.inl .ireturn, 1)), (1043, (.inl (.iload 5), 2)), (1045, (.inl (.ifCond .ne 15), 3)), (1048, (.inl (.aload_n 3), 1)), (1049, (.inl (.iconst 0), 1)), (1050, (.inl .laload, 1)), (1051, (.inl (.iload 6), 2)), (1053, (.inl .i2l, 1)), (1054, (.inl .lcmp, 1)), (1055, (.inl (.ifCond .eq 5), 3)), (1058, (.inl (.iconst 0), 1)), (1059, (.inl .ireturn, 1)), (1060, (.inl (.goto 84), 3)), (1063, (.inl (.aload_n 1), 1)), (1064, (.inl (.aload_n 0), 1)), (1065, (.inl (.iload 4), 2)), (1067, (.inl (.iconst 1), 1)), (1068, (.inl .iadd, 1)), (1069, (.inl .iaload, 1)), (1070, (.inl (.aload_n 3), 1)), (1071, (.inr (17, 99, 3, 0, 0), 3)), (1074, (.inl (.istore 5), 2)), (1076, (.inl (.aload_n 2), 1)), (1077, (.inl (.aload_n 0), 1)), (1078, (.inl (.iload 4), 2)), (1080, (.inl (.iconst 1), 1)), (1081, (.inl .iadd, 1)), (1082, (.inl .iaload, 1)), (1083, (.inr (17, 138, 2, 1, 9), 3)), (1086, (.inl (.istore 6), 2)), (1088, (.inl (.aload_n 2), 1)), (1089, (.inr (17, 102, 1, 1, 9), 3)), (1092, (.inl (.iload 5), 2)), (1094, (.inl (.if_icmp .eq 5), 3)), (1097, (.inl (.iconst 0), 1)), (1098, (.inl .ireturn, 1)), (1099, (.inl (.iload 5), 2)), (1101, (.inl (.ifCond .ne 15), 3)), (1104, (.inl (.aload_n 3), 1)), (1105, (.inl (.iconst 0), 1)), (1106, (.inl .laload, 1)), (1107, (.inl (.iload 6), 2)), (1109, (.inl .i2l, 1)), (1110, (.inl .lcmp, 1)), (1111, (.inl (.ifCond .eq 5), 3)), (1114, (.inl (.iconst 0), 1)), (1115, (.inl .ireturn, 1)), (1116, (.inl (.goto 28), 3)), (1119, (.inl (.aload_n 1), 1)), (1120, (.inl (.aload_n 0), 1)), (1121, (.inl (.iload 4), 2)), (1123, (.inl (.iconst 1), 1)), (1124, (.inl .iadd, 1)), (1125, (.inl .iaload, 1)), (1126, (.inr (17, 5, 2, 1, 0), 3)), (1129, (.inl (.aload_n 2), 1)), (1130, (.inl (.aload_n 0), 1)), (1131, (.inl (.iload 4), 2)), (1133, (.inl (.iconst 1), 1)), (1134, (.inl .iadd, 1)), (1135, (.inl .iaload, 1)), (1136, (.inr (17, 139, 2, 1, 9), 3)), (1139, (.inl (.if_icmp .eq 5), 3)), (1142, (.inl (.iconst 0), 1)), (1143, (.inl .ireturn, 1)), (1144, (.inl (.iinc 4 5), 3)), (1147, (.inl (.goto (-1124)), 3)), (1150, (.inl (.iconst 1), 1)), (1151, (.inl .ireturn, 1))]
def cdm : Nat → List (Nat × (OI × Nat)) := fun i => match i with
  | 0 => cd_0
  | 1 => cd_1
  | 2 => cd_2
  | 3 => cd_3
  | 4 => cd_4
  | 5 => cd_5
  | 6 => cd_6
  | 7 => cd_7
  | 8 => cd_8
  | 9 => cd_9
  | 10 => cd_10
  | 11 => cd_11
  | 12 => cd_12
  | 13 => cd_13
  | 14 => cd_14
  | 15 => cd_15
  | 16 => cd_16
  | 17 => cd_17
  | 18 => cd_18
  | 19 => cd_19
  | 20 => cd_20
  | 21 => cd_21
  | 22 => cd_22
  | 23 => cd_23
  | 24 => cd_24
  | 25 => cd_25
  | 26 => cd_26
  | 27 => cd_27
  | 28 => cd_28
  | 29 => cd_29
  | 30 => cd_30
  | 31 => cd_31
  | 32 => cd_32
  | 33 => cd_33
  | 34 => cd_34
  | 35 => cd_35
  | 36 => cd_36
  | 37 => cd_37
  | 38 => cd_38
  | 39 => cd_39
  | 40 => cd_40
  | 41 => cd_41
  | 42 => cd_42
  | 43 => cd_43
  | 44 => cd_44
  | 45 => cd_45
  | 46 => cd_46
  | 47 => cd_47
  | 48 => cd_48
  | 49 => cd_49
  | 50 => cd_50
  | 51 => cd_51
  | 52 => cd_52
  | 53 => cd_53
  | 54 => cd_54
  | 55 => cd_55
  | 56 => cd_56
  | 57 => cd_57
  | 58 => cd_58
  | 59 => cd_59
  | 60 => cd_60
  | 61 => cd_61
  | 62 => cd_62
  | 63 => cd_63
  | 64 => cd_64
  | 65 => cd_65
  | 66 => cd_66
  | 67 => cd_67
  | 68 => cd_68
  | 69 => cd_69
  | 70 => cd_70
  | 71 => cd_71
  | 72 => cd_72
  | 73 => cd_73
  | 74 => cd_74
  | 75 => cd_75
  | 76 => cd_76
  | 77 => cd_77
  | 78 => cd_78
  | 79 => cd_79
  | 80 => cd_80
  | 81 => cd_81
  | 82 => cd_82
  | 83 => cd_83
  | 84 => cd_84
  | 85 => cd_85
  | 86 => cd_86
  | 87 => cd_87
  | 88 => cd_88
  | 89 => cd_89
  | 90 => cd_90
  | 91 => cd_91
  | 92 => cd_92
  | 93 => cd_93
  | 94 => cd_94
  | 95 => cd_95
  | 96 => cd_96
  | 97 => cd_97
  | 98 => cd_98
  | 99 => cd_99
  | 100 => cd_100
  | 101 => cd_101
  | 102 => cd_102
  | 103 => cd_103
  | 104 => cd_104
  | 105 => cd_105
  | 106 => cd_106
  | 107 => cd_107
  | 108 => cd_108
  | 109 => cd_109
  | 110 => cd_110
  | 111 => cd_111
  | 112 => cd_112
  | 113 => cd_113
  | 114 => cd_114
  | 115 => cd_115
  | 116 => cd_116
  | 117 => cd_117
  | 118 => cd_118
  | 119 => cd_119
  | 120 => cd_120
  | 121 => cd_121
  | 122 => cd_122
  | 123 => cd_123
  | 124 => cd_124
  | 125 => cd_125
  | 126 => cd_126
  | 127 => cd_127
  | 128 => cd_128
  | 129 => cd_129
  | 130 => cd_130
  | 131 => cd_131
  | 132 => cd_132
  | 133 => cd_133
  | 134 => cd_134
  | 135 => cd_135
  | 136 => cd_136
  | 137 => cd_137
  | 138 => cd_138
  | 139 => cd_139
  | 140 => cd_140
  | _ => []
def cod (i pc : Nat) : Option (OI × Nat) := (cdm i).lookup pc
