-- ===== PART A: goes FIRST, ahead of the names: the tables' words, and 'selects' of the private methods out of them =====
/-- a private method of a class that the tables say can be made, by its rows of tables_1 -/
def lw_okq (q : MethodName × Nat) : Prop := (q.1.cls ≠ "java/lang/invoke/MethodHandle" ∧ q.1.cls ≠ "java/lang/invoke/VarHandle") ∧ Cond.instantiable q.1.cls q.2 ∈ tables_1 ∧ Cond.privateMethod q.1 ∈ tables_1 ∧ Cond.instanceMethod q.1 ∈ tables_1
theorem lw_p0 : lw_okq (⟨"OwedFurrows$Text", "faultOfThing", "(IZ)I"⟩, 2) := ⟨⟨by decide +kernel, by decide +kernel⟩, List.mem_of_getElem? (i := 20) (by decide +kernel), List.mem_of_getElem? (i := 206) (by decide +kernel), List.mem_of_getElem? (i := 207) (by decide +kernel)⟩
theorem lw_p1 : lw_okq (⟨"OwedFurrows$Land", "addField", "(LOwedFurrows$Text;I)V"⟩, 8) := ⟨⟨by decide +kernel, by decide +kernel⟩, List.mem_of_getElem? (i := 37) (by decide +kernel), List.mem_of_getElem? (i := 218) (by decide +kernel), List.mem_of_getElem? (i := 219) (by decide +kernel)⟩
theorem lw_p2 : lw_okq (⟨"OwedFurrows$Land", "addEater", "(LOwedFurrows$Text;I)V"⟩, 8) := ⟨⟨by decide +kernel, by decide +kernel⟩, List.mem_of_getElem? (i := 37) (by decide +kernel), List.mem_of_getElem? (i := 226) (by decide +kernel), List.mem_of_getElem? (i := 227) (by decide +kernel)⟩
theorem lw_p3 : lw_okq (⟨"OwedFurrows", "sownIfCome", "(I)I"⟩, 10) := ⟨⟨by decide +kernel, by decide +kernel⟩, List.mem_of_getElem? (i := 12) (by decide +kernel), List.mem_of_getElem? (i := 270) (by decide +kernel), List.mem_of_getElem? (i := 271) (by decide +kernel)⟩
theorem lw_p4 : lw_okq (⟨"OwedFurrows$Commons", "nearestOwed", "(II)I"⟩, 7) := ⟨⟨by decide +kernel, by decide +kernel⟩, List.mem_of_getElem? (i := 84) (by decide +kernel), List.mem_of_getElem? (i := 289) (by decide +kernel), List.mem_of_getElem? (i := 290) (by decide +kernel)⟩
theorem lw_p5 : lw_okq (⟨"OwedFurrows$Commons", "bringSeed", "(II)V"⟩, 7) := ⟨⟨by decide +kernel, by decide +kernel⟩, List.mem_of_getElem? (i := 84) (by decide +kernel), List.mem_of_getElem? (i := 296) (by decide +kernel), List.mem_of_getElem? (i := 297) (by decide +kernel)⟩
theorem lw_p6 : lw_okq (⟨"OwedFurrows", "isSownIfFed", "(II)Z"⟩, 10) := ⟨⟨by decide +kernel, by decide +kernel⟩, List.mem_of_getElem? (i := 12) (by decide +kernel), List.mem_of_getElem? (i := 388) (by decide +kernel), List.mem_of_getElem? (i := 389) (by decide +kernel)⟩
theorem lw_p7 : lw_okq (⟨"OwedFurrows", "tryToTake", "(II)Z"⟩, 10) := ⟨⟨by decide +kernel, by decide +kernel⟩, List.mem_of_getElem? (i := 12) (by decide +kernel), List.mem_of_getElem? (i := 392) (by decide +kernel), List.mem_of_getElem? (i := 393) (by decide +kernel)⟩
theorem lw_p8 : lw_okq (⟨"OwedFurrows", "isSo", "(III)Z"⟩, 10) := ⟨⟨by decide +kernel, by decide +kernel⟩, List.mem_of_getElem? (i := 12) (by decide +kernel), List.mem_of_getElem? (i := 410) (by decide +kernel), List.mem_of_getElem? (i := 411) (by decide +kernel)⟩
theorem lw_p9 : lw_okq (⟨"OwedFurrows", "playPair", "(IIII)V"⟩, 10) := ⟨⟨by decide +kernel, by decide +kernel⟩, List.mem_of_getElem? (i := 12) (by decide +kernel), List.mem_of_getElem? (i := 452) (by decide +kernel), List.mem_of_getElem? (i := 453) (by decide +kernel)⟩
theorem lw_p10 : lw_okq (⟨"OwedFurrows", "isAtRest", "(I)Z"⟩, 10) := ⟨⟨by decide +kernel, by decide +kernel⟩, List.mem_of_getElem? (i := 12) (by decide +kernel), List.mem_of_getElem? (i := 456) (by decide +kernel), List.mem_of_getElem? (i := 457) (by decide +kernel)⟩
theorem lw_p11 : lw_okq (⟨"OwedFurrows", "doByLot", "(I)V"⟩, 10) := ⟨⟨by decide +kernel, by decide +kernel⟩, List.mem_of_getElem? (i := 12) (by decide +kernel), List.mem_of_getElem? (i := 479) (by decide +kernel), List.mem_of_getElem? (i := 480) (by decide +kernel)⟩
theorem lw_p12 : lw_okq (⟨"OwedFurrowsModel", "readCountry", "()I"⟩, 34) := ⟨⟨by decide +kernel, by decide +kernel⟩, List.mem_of_getElem? (i := 491) (by decide +kernel), List.mem_of_getElem? (i := 616) (by decide +kernel), List.mem_of_getElem? (i := 617) (by decide +kernel)⟩
theorem lw_p13 : lw_okq (⟨"OwedFurrowsModel", "readThing", "()Z"⟩, 34) := ⟨⟨by decide +kernel, by decide +kernel⟩, List.mem_of_getElem? (i := 491) (by decide +kernel), List.mem_of_getElem? (i := 620) (by decide +kernel), List.mem_of_getElem? (i := 621) (by decide +kernel)⟩
theorem lw_p14 : lw_okq (⟨"OwedFurrowsModel", "readOneField", "()Z"⟩, 34) := ⟨⟨by decide +kernel, by decide +kernel⟩, List.mem_of_getElem? (i := 491) (by decide +kernel), List.mem_of_getElem? (i := 624) (by decide +kernel), List.mem_of_getElem? (i := 625) (by decide +kernel)⟩
theorem lw_p15 : lw_okq (⟨"OwedFurrowsModel", "figure", "(II)I"⟩, 34) := ⟨⟨by decide +kernel, by decide +kernel⟩, List.mem_of_getElem? (i := 491) (by decide +kernel), List.mem_of_getElem? (i := 628) (by decide +kernel), List.mem_of_getElem? (i := 629) (by decide +kernel)⟩
def lw_privs_1 : List (MethodName × Nat) := [(⟨"OwedFurrows$Text", "faultOfThing", "(IZ)I"⟩, 2), (⟨"OwedFurrows$Land", "addField", "(LOwedFurrows$Text;I)V"⟩, 8), (⟨"OwedFurrows$Land", "addEater", "(LOwedFurrows$Text;I)V"⟩, 8), (⟨"OwedFurrows", "sownIfCome", "(I)I"⟩, 10), (⟨"OwedFurrows$Commons", "nearestOwed", "(II)I"⟩, 7), (⟨"OwedFurrows$Commons", "bringSeed", "(II)V"⟩, 7), (⟨"OwedFurrows", "isSownIfFed", "(II)Z"⟩, 10), (⟨"OwedFurrows", "tryToTake", "(II)Z"⟩, 10), (⟨"OwedFurrows", "isSo", "(III)Z"⟩, 10), (⟨"OwedFurrows", "playPair", "(IIII)V"⟩, 10), (⟨"OwedFurrows", "isAtRest", "(I)Z"⟩, 10), (⟨"OwedFurrows", "doByLot", "(I)V"⟩, 10), (⟨"OwedFurrowsModel", "readCountry", "()I"⟩, 34), (⟨"OwedFurrowsModel", "readThing", "()Z"⟩, 34), (⟨"OwedFurrowsModel", "readOneField", "()Z"⟩, 34), (⟨"OwedFurrowsModel", "figure", "(II)I"⟩, 34)]
theorem lw_r1 : ∀ q ∈ lw_privs_1, lw_okq q := List.forall_mem_cons.mpr ⟨lw_p0, List.forall_mem_cons.mpr ⟨lw_p1, List.forall_mem_cons.mpr ⟨lw_p2, List.forall_mem_cons.mpr ⟨lw_p3, List.forall_mem_cons.mpr ⟨lw_p4, List.forall_mem_cons.mpr ⟨lw_p5, List.forall_mem_cons.mpr ⟨lw_p6, List.forall_mem_cons.mpr ⟨lw_p7, List.forall_mem_cons.mpr ⟨lw_p8, List.forall_mem_cons.mpr ⟨lw_p9, List.forall_mem_cons.mpr ⟨lw_p10, List.forall_mem_cons.mpr ⟨lw_p11, List.forall_mem_cons.mpr ⟨lw_p12, List.forall_mem_cons.mpr ⟨lw_p13, List.forall_mem_cons.mpr ⟨lw_p14, List.forall_mem_cons.mpr ⟨lw_p15, fun _ h => absurd h List.not_mem_nil⟩⟩⟩⟩⟩⟩⟩⟩⟩⟩⟩⟩⟩⟩⟩⟩
theorem lw_p16 : lw_okq (⟨"OwedFurrowsModel", "readOneEater", "()Z"⟩, 34) := ⟨⟨by decide +kernel, by decide +kernel⟩, List.mem_of_getElem? (i := 491) (by decide +kernel), List.mem_of_getElem? (i := 632) (by decide +kernel), List.mem_of_getElem? (i := 633) (by decide +kernel)⟩
theorem lw_p17 : lw_okq (⟨"OwedFurrowsModel", "owedTogether", "()I"⟩, 34) := ⟨⟨by decide +kernel, by decide +kernel⟩, List.mem_of_getElem? (i := 491) (by decide +kernel), List.mem_of_getElem? (i := 647) (by decide +kernel), List.mem_of_getElem? (i := 648) (by decide +kernel)⟩
theorem lw_p18 : lw_okq (⟨"OwedFurrowsModel", "sown", "([I)I"⟩, 34) := ⟨⟨by decide +kernel, by decide +kernel⟩, List.mem_of_getElem? (i := 491) (by decide +kernel), List.mem_of_getElem? (i := 657) (by decide +kernel), List.mem_of_getElem? (i := 658) (by decide +kernel)⟩
theorem lw_p19 : lw_okq (⟨"OwedFurrowsModel", "marched", "(I)I"⟩, 34) := ⟨⟨by decide +kernel, by decide +kernel⟩, List.mem_of_getElem? (i := 491) (by decide +kernel), List.mem_of_getElem? (i := 661) (by decide +kernel), List.mem_of_getElem? (i := 662) (by decide +kernel)⟩
theorem lw_p20 : lw_okq (⟨"OwedFurrowsModel", "begin", "()V"⟩, 34) := ⟨⟨by decide +kernel, by decide +kernel⟩, List.mem_of_getElem? (i := 491) (by decide +kernel), List.mem_of_getElem? (i := 665) (by decide +kernel), List.mem_of_getElem? (i := 666) (by decide +kernel)⟩
theorem lw_p21 : lw_okq (⟨"OwedFurrowsModel", "goMarch", "([II)I"⟩, 34) := ⟨⟨by decide +kernel, by decide +kernel⟩, List.mem_of_getElem? (i := 491) (by decide +kernel), List.mem_of_getElem? (i := 669) (by decide +kernel), List.mem_of_getElem? (i := 670) (by decide +kernel)⟩
theorem lw_p22 : lw_okq (⟨"OwedFurrowsModel", "goes", "([III)I"⟩, 34) := ⟨⟨by decide +kernel, by decide +kernel⟩, List.mem_of_getElem? (i := 491) (by decide +kernel), List.mem_of_getElem? (i := 676) (by decide +kernel), List.mem_of_getElem? (i := 677) (by decide +kernel)⟩
theorem lw_p23 : lw_okq (⟨"OwedFurrowsModel", "nearest", "([III)I"⟩, 34) := ⟨⟨by decide +kernel, by decide +kernel⟩, List.mem_of_getElem? (i := 491) (by decide +kernel), List.mem_of_getElem? (i := 680) (by decide +kernel), List.mem_of_getElem? (i := 681) (by decide +kernel)⟩
theorem lw_p24 : lw_okq (⟨"OwedFurrowsModel", "noField", "(I)Z"⟩, 34) := ⟨⟨by decide +kernel, by decide +kernel⟩, List.mem_of_getElem? (i := 491) (by decide +kernel), List.mem_of_getElem? (i := 694) (by decide +kernel), List.mem_of_getElem? (i := 695) (by decide +kernel)⟩
theorem lw_p25 : lw_okq (⟨"OwedFurrowsModel", "owing", "(I)I"⟩, 34) := ⟨⟨by decide +kernel, by decide +kernel⟩, List.mem_of_getElem? (i := 491) (by decide +kernel), List.mem_of_getElem? (i := 698) (by decide +kernel), List.mem_of_getElem? (i := 699) (by decide +kernel)⟩
theorem lw_p26 : lw_okq (⟨"OwedFurrowsModel", "noEater", "(I)Z"⟩, 34) := ⟨⟨by decide +kernel, by decide +kernel⟩, List.mem_of_getElem? (i := 491) (by decide +kernel), List.mem_of_getElem? (i := 706) (by decide +kernel), List.mem_of_getElem? (i := 707) (by decide +kernel)⟩
theorem lw_p27 : lw_okq (⟨"OwedFurrowsModel", "canEat", "([III)Z"⟩, 34) := ⟨⟨by decide +kernel, by decide +kernel⟩, List.mem_of_getElem? (i := 491) (by decide +kernel), List.mem_of_getElem? (i := 718) (by decide +kernel), List.mem_of_getElem? (i := 719) (by decide +kernel)⟩
theorem lw_p28 : lw_okq (⟨"OwedFurrowsModel", "bite", "(I)I"⟩, 34) := ⟨⟨by decide +kernel, by decide +kernel⟩, List.mem_of_getElem? (i := 491) (by decide +kernel), List.mem_of_getElem? (i := 722) (by decide +kernel), List.mem_of_getElem? (i := 723) (by decide +kernel)⟩
theorem lw_p29 : lw_okq (⟨"OwedFurrowsModel", "note", "()V"⟩, 34) := ⟨⟨by decide +kernel, by decide +kernel⟩, List.mem_of_getElem? (i := 491) (by decide +kernel), List.mem_of_getElem? (i := 726) (by decide +kernel), List.mem_of_getElem? (i := 727) (by decide +kernel)⟩
theorem lw_p30 : lw_okq (⟨"OwedFurrowsModel", "goEat", "([III)V"⟩, 34) := ⟨⟨by decide +kernel, by decide +kernel⟩, List.mem_of_getElem? (i := 491) (by decide +kernel), List.mem_of_getElem? (i := 730) (by decide +kernel), List.mem_of_getElem? (i := 731) (by decide +kernel)⟩
theorem lw_p31 : lw_okq (⟨"OwedFurrowsModel", "goHarvest", "([I)I"⟩, 34) := ⟨⟨by decide +kernel, by decide +kernel⟩, List.mem_of_getElem? (i := 491) (by decide +kernel), List.mem_of_getElem? (i := 746) (by decide +kernel), List.mem_of_getElem? (i := 747) (by decide +kernel)⟩
def lw_privs_2 : List (MethodName × Nat) := [(⟨"OwedFurrowsModel", "readOneEater", "()Z"⟩, 34), (⟨"OwedFurrowsModel", "owedTogether", "()I"⟩, 34), (⟨"OwedFurrowsModel", "sown", "([I)I"⟩, 34), (⟨"OwedFurrowsModel", "marched", "(I)I"⟩, 34), (⟨"OwedFurrowsModel", "begin", "()V"⟩, 34), (⟨"OwedFurrowsModel", "goMarch", "([II)I"⟩, 34), (⟨"OwedFurrowsModel", "goes", "([III)I"⟩, 34), (⟨"OwedFurrowsModel", "nearest", "([III)I"⟩, 34), (⟨"OwedFurrowsModel", "noField", "(I)Z"⟩, 34), (⟨"OwedFurrowsModel", "owing", "(I)I"⟩, 34), (⟨"OwedFurrowsModel", "noEater", "(I)Z"⟩, 34), (⟨"OwedFurrowsModel", "canEat", "([III)Z"⟩, 34), (⟨"OwedFurrowsModel", "bite", "(I)I"⟩, 34), (⟨"OwedFurrowsModel", "note", "()V"⟩, 34), (⟨"OwedFurrowsModel", "goEat", "([III)V"⟩, 34), (⟨"OwedFurrowsModel", "goHarvest", "([I)I"⟩, 34)]
theorem lw_r2 : ∀ q ∈ lw_privs_2, lw_okq q := List.forall_mem_cons.mpr ⟨lw_p16, List.forall_mem_cons.mpr ⟨lw_p17, List.forall_mem_cons.mpr ⟨lw_p18, List.forall_mem_cons.mpr ⟨lw_p19, List.forall_mem_cons.mpr ⟨lw_p20, List.forall_mem_cons.mpr ⟨lw_p21, List.forall_mem_cons.mpr ⟨lw_p22, List.forall_mem_cons.mpr ⟨lw_p23, List.forall_mem_cons.mpr ⟨lw_p24, List.forall_mem_cons.mpr ⟨lw_p25, List.forall_mem_cons.mpr ⟨lw_p26, List.forall_mem_cons.mpr ⟨lw_p27, List.forall_mem_cons.mpr ⟨lw_p28, List.forall_mem_cons.mpr ⟨lw_p29, List.forall_mem_cons.mpr ⟨lw_p30, List.forall_mem_cons.mpr ⟨lw_p31, fun _ h => absurd h List.not_mem_nil⟩⟩⟩⟩⟩⟩⟩⟩⟩⟩⟩⟩⟩⟩⟩⟩
theorem lw_p32 : lw_okq (⟨"OwedFurrowsModel", "isSownBy", "(II)Z"⟩, 34) := ⟨⟨by decide +kernel, by decide +kernel⟩, List.mem_of_getElem? (i := 491) (by decide +kernel), List.mem_of_getElem? (i := 766) (by decide +kernel), List.mem_of_getElem? (i := 767) (by decide +kernel)⟩
theorem lw_p33 : lw_okq (⟨"OwedFurrowsModel", "does", "(I)Z"⟩, 34) := ⟨⟨by decide +kernel, by decide +kernel⟩, List.mem_of_getElem? (i := 491) (by decide +kernel), List.mem_of_getElem? (i := 783) (by decide +kernel), List.mem_of_getElem? (i := 784) (by decide +kernel)⟩
theorem lw_p34 : lw_okq (⟨"OwedFurrowsModel", "eats", "(II)Z"⟩, 34) := ⟨⟨by decide +kernel, by decide +kernel⟩, List.mem_of_getElem? (i := 491) (by decide +kernel), List.mem_of_getElem? (i := 787) (by decide +kernel), List.mem_of_getElem? (i := 788) (by decide +kernel)⟩
def lw_privs_3 : List (MethodName × Nat) := [(⟨"OwedFurrowsModel", "isSownBy", "(II)Z"⟩, 34), (⟨"OwedFurrowsModel", "does", "(I)Z"⟩, 34), (⟨"OwedFurrowsModel", "eats", "(II)Z"⟩, 34)]
theorem lw_r3 : ∀ q ∈ lw_privs_3, lw_okq q := List.forall_mem_cons.mpr ⟨lw_p32, List.forall_mem_cons.mpr ⟨lw_p33, List.forall_mem_cons.mpr ⟨lw_p34, fun _ h => absurd h List.not_mem_nil⟩⟩⟩
def lw_privs : List (MethodName × Nat) := lw_privs_1 ++ (lw_privs_2 ++ (lw_privs_3))
def lw_tbl : List Cond := k2_sels lw_privs ++ tables_1
theorem lw_privs_ok : ∀ q ∈ lw_privs, lw_okq q := by
  show ∀ q ∈ lw_privs_1 ++ (lw_privs_2 ++ (lw_privs_3)), lw_okq q
  exact List.forall_mem_append.mpr ⟨lw_r1, List.forall_mem_append.mpr ⟨lw_r2, lw_r3⟩⟩

def RX0 : String := "OwedFurrows$Acts"
def TX0 : u_T := fun k => match k with
  | 0 => ("OwedFurrows$Acts", "ring", "[LOwedFurrows$Commons;", true)
  | 1 => ("OwedFurrows$Acts", "first", "I", false)
  | _ => ("OwedFurrows$Acts", "count", "I", false)
def tyX0 : Nat → FieldType := fun k => match k with
  | 0 => .array (.object "OwedFurrows$Commons")
  | 1 => .int
  | _ => .int
abbrev wsX00 : List Cond := u_ws RX0 TX0 3
theorem nmX0 : ∀ a, a < 3 → ∀ b, b < 3 → a ≠ b → (TX0 a).2.1 ≠ (TX0 b).2.1 := by decide +kernel
theorem tyX0_ok : ∀ k, k < 3 → parseFieldDescriptor (TX0 k).2.2.1 = some (tyX0 k) := by decide +kernel
abbrev cX0_init : ByteArray := prog_2_method_1_code
def yX0_init : MethodName := ⟨RX0, "<init>", "(LOwedFurrows$Land;)V"⟩
abbrev cX0_remember : ByteArray := prog_2_method_2_code
def yX0_remember : MethodName := ⟨RX0, "remember", "(LOwedFurrows$Commons;)V"⟩
abbrev cX0_takeBackInto : ByteArray := prog_2_method_3_code
def yX0_takeBackInto : MethodName := ⟨RX0, "takeBackInto", "(LOwedFurrows$Commons;)V"⟩
def RX1 : String := "OwedFurrows$Commons"
def TX1 : u_T := fun k => match k with
  | 0 => ("OwedFurrows$Commons", "land", "LOwedFurrows$Land;", true)
  | 1 => ("OwedFurrows$Commons", "loaves", "[I", true)
  | 2 => ("OwedFurrows$Commons", "sacks", "[I", true)
  | 3 => ("OwedFurrows$Commons", "debts", "[I", true)
  | 4 => ("OwedFurrows$Commons", "year", "I", false)
  | 5 => ("OwedFurrows$Commons", "visits", "[I", true)
  | _ => ("OwedFurrows$Commons", "ways", "[I", true)
def tyX1 : Nat → FieldType := fun k => match k with
  | 0 => .object "OwedFurrows$Land"
  | 1 => .array .int
  | 2 => .array .int
  | 3 => .array .int
  | 4 => .int
  | 5 => .array .int
  | _ => .array .int
abbrev wsX10 : List Cond := u_ws RX1 TX1 7
theorem nmX1 : ∀ a, a < 7 → ∀ b, b < 7 → a ≠ b → (TX1 a).2.1 ≠ (TX1 b).2.1 := by decide +kernel
theorem tyX1_ok : ∀ k, k < 7 → parseFieldDescriptor (TX1 k).2.2.1 = some (tyX1 k) := by decide +kernel
abbrev cX1_init : ByteArray := prog_3_method_1_code
def yX1_init : MethodName := ⟨RX1, "<init>", "(LOwedFurrows$Land;)V"⟩
abbrev cX1_beginAnew : ByteArray := prog_3_method_2_code
def yX1_beginAnew : MethodName := ⟨RX1, "beginAnew", "()V"⟩
abbrev cX1_copyFrom : ByteArray := prog_3_method_3_code
def yX1_copyFrom : MethodName := ⟨RX1, "copyFrom", "(LOwedFurrows$Commons;)V"⟩
abbrev cX1_debt : ByteArray := prog_3_method_4_code
def yX1_debt : MethodName := ⟨RX1, "debt", "(II)I"⟩
abbrev cX1_debtsOf : ByteArray := prog_3_method_5_code
def yX1_debtsOf : MethodName := ⟨RX1, "debtsOf", "(I)I"⟩
abbrev cX1_allDebts : ByteArray := prog_3_method_6_code
def yX1_allDebts : MethodName := ⟨RX1, "allDebts", "()I"⟩
abbrev cX1_debtorsOf : ByteArray := prog_3_method_7_code
def yX1_debtorsOf : MethodName := ⟨RX1, "debtorsOf", "(I)I"⟩
abbrev cX1_allLoaves : ByteArray := prog_3_method_8_code
def yX1_allLoaves : MethodName := ⟨RX1, "allLoaves", "()I"⟩
abbrev cX1_allSeed : ByteArray := prog_3_method_9_code
def yX1_allSeed : MethodName := ⟨RX1, "allSeed", "()I"⟩
abbrev cX1_isSown : ByteArray := prog_3_method_10_code
def yX1_isSown : MethodName := ⟨RX1, "isSown", "(I)Z"⟩
abbrev cX1_sownFields : ByteArray := prog_3_method_11_code
def yX1_sownFields : MethodName := ⟨RX1, "sownFields", "()I"⟩
abbrev cX1_canTake : ByteArray := prog_3_method_12_code
def yX1_canTake : MethodName := ⟨RX1, "canTake", "(II)Z"⟩
abbrev cX1_takeLoaves : ByteArray := prog_3_method_13_code
def yX1_takeLoaves : MethodName := ⟨RX1, "takeLoaves", "(II)V"⟩
abbrev cX1_callOut : ByteArray := prog_3_method_14_code
def yX1_callOut : MethodName := ⟨RX1, "callOut", "(I)V"⟩
abbrev cX1_sendOut : ByteArray := prog_3_method_15_code
def yX1_sendOut : MethodName := ⟨RX1, "sendOut", "(II)V"⟩
abbrev cX1_nearestOwed : ByteArray := prog_3_method_16_code
def yX1_nearestOwed : MethodName := ⟨RX1, "nearestOwed", "(II)I"⟩
abbrev cX1_bringSeed : ByteArray := prog_3_method_17_code
def yX1_bringSeed : MethodName := ⟨RX1, "bringSeed", "(II)V"⟩
abbrev cX1_reap : ByteArray := prog_3_method_18_code
def yX1_reap : MethodName := ⟨RX1, "reap", "()V"⟩
def RX2 : String := "OwedFurrows$Land"
def TX2 : u_T := fun k => match k with
  | 0 => ("OwedFurrows$Land", "places", "[I", true)
  | 1 => ("OwedFurrows$Land", "yields", "[I", true)
  | 2 => ("OwedFurrows$Land", "needs", "[I", true)
  | 3 => ("OwedFurrows$Land", "homes", "[I", true)
  | 4 => ("OwedFurrows$Land", "walks", "[I", true)
  | 5 => ("OwedFurrows$Land", "kinds", "[I", true)
  | 6 => ("OwedFurrows$Land", "fields", "I", false)
  | _ => ("OwedFurrows$Land", "eaters", "I", false)
def tyX2 : Nat → FieldType := fun k => match k with
  | 0 => .array .int
  | 1 => .array .int
  | 2 => .array .int
  | 3 => .array .int
  | 4 => .array .int
  | 5 => .array .int
  | 6 => .int
  | _ => .int
abbrev wsX20 : List Cond := u_ws RX2 TX2 8
theorem nmX2 : ∀ a, a < 8 → ∀ b, b < 8 → a ≠ b → (TX2 a).2.1 ≠ (TX2 b).2.1 := by decide +kernel
theorem tyX2_ok : ∀ k, k < 8 → parseFieldDescriptor (TX2 k).2.2.1 = some (tyX2 k) := by decide +kernel
abbrev cX2_init : ByteArray := prog_4_method_1_code
def yX2_init : MethodName := ⟨RX2, "<init>", "()V"⟩
abbrev cX2_readFrom : ByteArray := prog_4_method_2_code
def yX2_readFrom : MethodName := ⟨RX2, "readFrom", "(LOwedFurrows$Text;)V"⟩
abbrev cX2_addField : ByteArray := prog_4_method_3_code
def yX2_addField : MethodName := ⟨RX2, "addField", "(LOwedFurrows$Text;I)V"⟩
abbrev cX2_addEater : ByteArray := prog_4_method_4_code
def yX2_addEater : MethodName := ⟨RX2, "addEater", "(LOwedFurrows$Text;I)V"⟩
abbrev cX2_hasField : ByteArray := prog_4_method_5_code
def yX2_hasField : MethodName := ⟨RX2, "hasField", "(I)Z"⟩
abbrev cX2_hasEater : ByteArray := prog_4_method_6_code
def yX2_hasEater : MethodName := ⟨RX2, "hasEater", "(I)Z"⟩
abbrev cX2_allEaters : ByteArray := prog_4_method_7_code
def yX2_allEaters : MethodName := ⟨RX2, "allEaters", "()I"⟩
abbrev cX2_portionOf : ByteArray := prog_4_method_8_code
def yX2_portionOf : MethodName := ⟨RX2, "portionOf", "(I)I"⟩
def RX3 : String := "OwedFurrows$Text"
def TX3 : u_T := fun k => match k with
  | 0 => ("OwedFurrows$Text", "bytes", "[I", true)
  | _ => ("OwedFurrows$Text", "length", "I", false)
def tyX3 : Nat → FieldType := fun k => match k with
  | 0 => .array .int
  | _ => .int
abbrev wsX30 : List Cond := u_ws RX3 TX3 2
theorem nmX3 : ∀ a, a < 2 → ∀ b, b < 2 → a ≠ b → (TX3 a).2.1 ≠ (TX3 b).2.1 := by decide +kernel
theorem tyX3_ok : ∀ k, k < 2 → parseFieldDescriptor (TX3 k).2.2.1 = some (tyX3 k) := by decide +kernel
abbrev cX3_init : ByteArray := prog_5_method_1_code
def yX3_init : MethodName := ⟨RX3, "<init>", "()V"⟩
abbrev cX3_append : ByteArray := prog_5_method_2_code
def yX3_append : MethodName := ⟨RX3, "append", "(I)V"⟩
abbrev cX3_firstFault : ByteArray := prog_5_method_3_code
def yX3_firstFault : MethodName := ⟨RX3, "firstFault", "()I"⟩
abbrev cX3_faultOfThing : ByteArray := prog_5_method_4_code
def yX3_faultOfThing : MethodName := ⟨RX3, "faultOfThing", "(IZ)I"⟩
abbrev cX3_figure : ByteArray := prog_5_method_5_code
def yX3_figure : MethodName := ⟨RX3, "figure", "(I)I"⟩
def RX4 : String := "OwedFurrows$Tidings"
def TX4 : u_T := fun k => match k with
  | 0 => ("OwedFurrows$Tidings", "places", "[I", true)
  | 1 => ("OwedFurrows$Tidings", "cameThere", "[Z", true)
  | _ => ("OwedFurrows$Tidings", "count", "I", false)
def tyX4 : Nat → FieldType := fun k => match k with
  | 0 => .array .int
  | 1 => .array .boolean
  | _ => .int
abbrev wsX40 : List Cond := u_ws RX4 TX4 3
theorem nmX4 : ∀ a, a < 3 → ∀ b, b < 3 → a ≠ b → (TX4 a).2.1 ≠ (TX4 b).2.1 := by decide +kernel
theorem tyX4_ok : ∀ k, k < 3 → parseFieldDescriptor (TX4 k).2.2.1 = some (tyX4 k) := by decide +kernel
abbrev cX4_init : ByteArray := prog_6_method_1_code
def yX4_init : MethodName := ⟨RX4, "<init>", "()V"⟩
abbrev cX4_add : ByteArray := prog_6_method_2_code
def yX4_add : MethodName := ⟨RX4, "add", "(IZ)V"⟩
abbrev cX4_allowFor : ByteArray := prog_6_method_3_code
def yX4_allowFor : MethodName := ⟨RX4, "allowFor", "(II)Z"⟩
def RX5 : String := "OwedFurrows"
def TX5 : u_T := fun k => match k with
  | 0 => ("OwedFurrows", "text", "LOwedFurrows$Text;", true)
  | 1 => ("OwedFurrows", "land", "LOwedFurrows$Land;", true)
  | 2 => ("OwedFurrows", "now", "LOwedFurrows$Commons;", true)
  | 3 => ("OwedFurrows", "trial", "LOwedFurrows$Commons;", true)
  | 4 => ("OwedFurrows", "acts", "LOwedFurrows$Acts;", true)
  | 5 => ("OwedFurrows", "tidings", "LOwedFurrows$Tidings;", true)
  | 6 => ("OwedFurrows", "kept", "[LOwedFurrows$Commons;", true)
  | 7 => ("OwedFurrows", "isKept", "[Z", true)
  | 8 => ("OwedFurrows", "gains", "[I", true)
  | _ => ("OwedFurrows", "lotSeed", "J", false)
def tyX5 : Nat → FieldType := fun k => match k with
  | 0 => .object "OwedFurrows$Text"
  | 1 => .object "OwedFurrows$Land"
  | 2 => .object "OwedFurrows$Commons"
  | 3 => .object "OwedFurrows$Commons"
  | 4 => .object "OwedFurrows$Acts"
  | 5 => .object "OwedFurrows$Tidings"
  | 6 => .array (.object "OwedFurrows$Commons")
  | 7 => .array .boolean
  | 8 => .array .int
  | _ => .long
abbrev wsX50 : List Cond := u_ws RX5 TX5 10
theorem nmX5 : ∀ a, a < 10 → ∀ b, b < 10 → a ≠ b → (TX5 a).2.1 ≠ (TX5 b).2.1 := by decide +kernel
theorem tyX5_ok : ∀ k, k < 10 → parseFieldDescriptor (TX5 k).2.2.1 = some (tyX5 k) := by decide +kernel
abbrev cX5_init : ByteArray := prog_1_method_1_code
def yX5_init : MethodName := ⟨RX5, "<init>", "()V"⟩
abbrev cX5_write : ByteArray := prog_1_method_2_code
def yX5_write : MethodName := ⟨RX5, "write", "(I)I"⟩
abbrev cX5_wipe : ByteArray := prog_1_method_3_code
def yX5_wipe : MethodName := ⟨RX5, "wipe", "()I"⟩
abbrev cX5_fault : ByteArray := prog_1_method_4_code
def yX5_fault : MethodName := ⟨RX5, "fault", "()I"⟩
abbrev cX5_country : ByteArray := prog_1_method_5_code
def yX5_country : MethodName := ⟨RX5, "country", "()I"⟩
abbrev cX5_about : ByteArray := prog_1_method_6_code
def yX5_about : MethodName := ⟨RX5, "about", "(I)I"⟩
abbrev cX5_field : ByteArray := prog_1_method_7_code
def yX5_field : MethodName := ⟨RX5, "field", "(II)I"⟩
abbrev cX5_eater : ByteArray := prog_1_method_8_code
def yX5_eater : MethodName := ⟨RX5, "eater", "(II)I"⟩
abbrev cX5_owes : ByteArray := prog_1_method_9_code
def yX5_owes : MethodName := ⟨RX5, "owes", "(II)I"⟩
abbrev cX5_eat : ByteArray := prog_1_method_10_code
def yX5_eat : MethodName := ⟨RX5, "eat", "(II)I"⟩
abbrev cX5_cake : ByteArray := prog_1_method_11_code
def yX5_cake : MethodName := ⟨RX5, "cake", "(III)I"⟩
abbrev cX5_march : ByteArray := prog_1_method_12_code
def yX5_march : MethodName := ⟨RX5, "march", "()I"⟩
abbrev cX5_harvest : ByteArray := prog_1_method_13_code
def yX5_harvest : MethodName := ⟨RX5, "harvest", "()I"⟩
abbrev cX5_undo : ByteArray := prog_1_method_14_code
def yX5_undo : MethodName := ⟨RX5, "undo", "()I"⟩
abbrev cX5_ahead : ByteArray := prog_1_method_15_code
def yX5_ahead : MethodName := ⟨RX5, "ahead", "(II)I"⟩
abbrev cX5_wants : ByteArray := prog_1_method_16_code
def yX5_wants : MethodName := ⟨RX5, "wants", "(I)I"⟩
abbrev cX5_rid : ByteArray := prog_1_method_17_code
def yX5_rid : MethodName := ⟨RX5, "rid", "(I)I"⟩
abbrev cX5_judge : ByteArray := prog_1_method_18_code
def yX5_judge : MethodName := ⟨RX5, "judge", "(IJ)I"⟩
abbrev cX5_share : ByteArray := prog_1_method_19_code
def yX5_share : MethodName := ⟨RX5, "share", "(IZ)I"⟩
abbrev cX5_came : ByteArray := prog_1_method_20_code
def yX5_came : MethodName := ⟨RX5, "came", "(II)I"⟩
abbrev cX5_forget : ByteArray := prog_1_method_21_code
def yX5_forget : MethodName := ⟨RX5, "forget", "()I"⟩
abbrev cX5_strangers : ByteArray := prog_1_method_22_code
def yX5_strangers : MethodName := ⟨RX5, "strangers", "(I)I"⟩
abbrev cX5_rests : ByteArray := prog_1_method_23_code
def yX5_rests : MethodName := ⟨RX5, "rests", "(IIII)I"⟩
abbrev cX5_home : ByteArray := prog_1_method_24_code
def yX5_home : MethodName := ⟨RX5, "home", "(IIZ)I"⟩
abbrev cX5_seed : ByteArray := prog_1_method_25_code
def yX5_seed : MethodName := ⟨RX5, "seed", "(J)J"⟩
abbrev cX5_years : ByteArray := prog_1_method_26_code
def yX5_years : MethodName := ⟨RX5, "years", "(I)I"⟩
abbrev cX5_keep : ByteArray := prog_1_method_27_code
def yX5_keep : MethodName := ⟨RX5, "keep", "(I)I"⟩
abbrev cX5_again : ByteArray := prog_1_method_28_code
def yX5_again : MethodName := ⟨RX5, "again", "(I)I"⟩
abbrev cX5_sownIfCome : ByteArray := prog_1_method_29_code
def yX5_sownIfCome : MethodName := ⟨RX5, "sownIfCome", "(I)I"⟩
abbrev cX5_isSownIfFed : ByteArray := prog_1_method_30_code
def yX5_isSownIfFed : MethodName := ⟨RX5, "isSownIfFed", "(II)Z"⟩
abbrev cX5_tryToTake : ByteArray := prog_1_method_31_code
def yX5_tryToTake : MethodName := ⟨RX5, "tryToTake", "(II)Z"⟩
abbrev cX5_isSo : ByteArray := prog_1_method_32_code
def yX5_isSo : MethodName := ⟨RX5, "isSo", "(III)Z"⟩
abbrev cX5_playPair : ByteArray := prog_1_method_33_code
def yX5_playPair : MethodName := ⟨RX5, "playPair", "(IIII)V"⟩
abbrev cX5_isAtRest : ByteArray := prog_1_method_34_code
def yX5_isAtRest : MethodName := ⟨RX5, "isAtRest", "(I)Z"⟩
abbrev cX5_doByLot : ByteArray := prog_1_method_35_code
def yX5_doByLot : MethodName := ⟨RX5, "doByLot", "(I)V"⟩
abbrev cX5_withoutLast : ByteArray := prog_1_method_36_code
def yX5_withoutLast : MethodName := ⟨RX5, "withoutLast", "(JI)J"⟩
abbrev cX5_ordersOf : ByteArray := prog_1_method_37_code
def yX5_ordersOf : MethodName := ⟨RX5, "ordersOf", "(I)J"⟩
abbrev cX5_power : ByteArray := prog_1_method_38_code
def yX5_power : MethodName := ⟨RX5, "power", "(JI)J"⟩
abbrev cX5_partOfFraction : ByteArray := prog_1_method_39_code
def yX5_partOfFraction : MethodName := ⟨RX5, "partOfFraction", "(JJZ)I"⟩
def RX6 : String := "OwedFurrowsModel"
def TX6 : u_T := fun k => match k with
  | 0 => ("OwedFurrowsModel", "thrown", "I", false)
  | 1 => ("OwedFurrowsModel", "text", "[I", true)
  | 2 => ("OwedFurrowsModel", "textSize", "I", false)
  | 3 => ("OwedFurrowsModel", "place", "I", false)
  | 4 => ("OwedFurrowsModel", "fields", "I", false)
  | 5 => ("OwedFurrowsModel", "lies", "[I", true)
  | 6 => ("OwedFurrowsModel", "yields", "[I", true)
  | 7 => ("OwedFurrowsModel", "needs", "[I", true)
  | 8 => ("OwedFurrowsModel", "eaters", "I", false)
  | 9 => ("OwedFurrowsModel", "lives", "[I", true)
  | 10 => ("OwedFurrowsModel", "walk", "[I", true)
  | 11 => ("OwedFurrowsModel", "kind", "[I", true)
  | 12 => ("OwedFurrowsModel", "readFields", "I", false)
  | 13 => ("OwedFurrowsModel", "readField", "[I", true)
  | 14 => ("OwedFurrowsModel", "readEaters", "I", false)
  | 15 => ("OwedFurrowsModel", "readEater", "[I", true)
  | 16 => ("OwedFurrowsModel", "page", "[I", true)
  | 17 => ("OwedFurrowsModel", "trial", "[I", true)
  | 18 => ("OwedFurrowsModel", "book", "[I", true)
  | 19 => ("OwedFurrowsModel", "acts", "I", false)
  | 20 => ("OwedFurrowsModel", "kept", "[I", true)
  | 21 => ("OwedFurrowsModel", "isKept", "[Z", true)
  | 22 => ("OwedFurrowsModel", "cameMany", "I", false)
  | 23 => ("OwedFurrowsModel", "camePlace", "[I", true)
  | 24 => ("OwedFurrowsModel", "cameIs", "[I", true)
  | 25 => ("OwedFurrowsModel", "seed", "J", false)
  | 26 => ("OwedFurrowsModel", "wayFar", "I", false)
  | 27 => ("OwedFurrowsModel", "far", "[I", true)
  | 28 => ("OwedFurrowsModel", "strangerMany", "I", false)
  | 29 => ("OwedFurrowsModel", "strangerFirst", "I", false)
  | 30 => ("OwedFurrowsModel", "restMany", "I", false)
  | 31 => ("OwedFurrowsModel", "restFirst", "I", false)
  | 32 => ("OwedFurrowsModel", "gains", "[I", true)
  | _ => ("OwedFurrowsModel", "value", "[I", true)
def tyX6 : Nat → FieldType := fun k => match k with
  | 0 => .int
  | 1 => .array .int
  | 2 => .int
  | 3 => .int
  | 4 => .int
  | 5 => .array .int
  | 6 => .array .int
  | 7 => .array .int
  | 8 => .int
  | 9 => .array .int
  | 10 => .array .int
  | 11 => .array .int
  | 12 => .int
  | 13 => .array .int
  | 14 => .int
  | 15 => .array .int
  | 16 => .array .int
  | 17 => .array .int
  | 18 => .array .int
  | 19 => .int
  | 20 => .array .int
  | 21 => .array .boolean
  | 22 => .int
  | 23 => .array .int
  | 24 => .array .int
  | 25 => .long
  | 26 => .int
  | 27 => .array .int
  | 28 => .int
  | 29 => .int
  | 30 => .int
  | 31 => .int
  | 32 => .array .int
  | _ => .array .int
abbrev wsX60 : List Cond := u_ws RX6 TX6 34
theorem nmX6 : ∀ a, a < 34 → ∀ b, b < 34 → a ≠ b → (TX6 a).2.1 ≠ (TX6 b).2.1 := by decide +kernel
theorem tyX6_ok : ∀ k, k < 34 → parseFieldDescriptor (TX6 k).2.2.1 = some (tyX6 k) := by decide +kernel
abbrev cX6_init : ByteArray := prog_8_method_1_code
def yX6_init : MethodName := ⟨RX6, "<init>", "()V"⟩
abbrev cX6_in : ByteArray := prog_8_method_3_code
def yX6_in : MethodName := ⟨RX6, "in", "(JJJ)Z"⟩
abbrev cX6_has : ByteArray := prog_8_method_4_code
def yX6_has : MethodName := ⟨RX6, "has", "(II)Z"⟩
abbrev cX6_many : ByteArray := prog_8_method_5_code
def yX6_many : MethodName := ⟨RX6, "many", "(I)I"⟩
abbrev cX6_power : ByteArray := prog_8_method_6_code
def yX6_power : MethodName := ⟨RX6, "power", "(II)I"⟩
abbrev cX6_capped : ByteArray := prog_8_method_7_code
def yX6_capped : MethodName := ⟨RX6, "capped", "(I)I"⟩
abbrev cX6_apart : ByteArray := prog_8_method_8_code
def yX6_apart : MethodName := ⟨RX6, "apart", "(II)I"⟩
abbrev cX6_noField : ByteArray := prog_8_method_9_code
def yX6_noField : MethodName := ⟨RX6, "noField", "(I)Z"⟩
abbrev cX6_noEater : ByteArray := prog_8_method_10_code
def yX6_noEater : MethodName := ⟨RX6, "noEater", "(I)Z"⟩
abbrev cX6_write : ByteArray := prog_8_method_11_code
def yX6_write : MethodName := ⟨RX6, "write", "(I)I"⟩
abbrev cX6_wipe : ByteArray := prog_8_method_12_code
def yX6_wipe : MethodName := ⟨RX6, "wipe", "()I"⟩
abbrev cX6_figure : ByteArray := prog_8_method_13_code
def yX6_figure : MethodName := ⟨RX6, "figure", "(II)I"⟩
abbrev cX6_readOneField : ByteArray := prog_8_method_14_code
def yX6_readOneField : MethodName := ⟨RX6, "readOneField", "()Z"⟩
abbrev cX6_readOneEater : ByteArray := prog_8_method_15_code
def yX6_readOneEater : MethodName := ⟨RX6, "readOneEater", "()Z"⟩
abbrev cX6_readThing : ByteArray := prog_8_method_16_code
def yX6_readThing : MethodName := ⟨RX6, "readThing", "()Z"⟩
abbrev cX6_readCountry : ByteArray := prog_8_method_17_code
def yX6_readCountry : MethodName := ⟨RX6, "readCountry", "()I"⟩
abbrev cX6_fault : ByteArray := prog_8_method_18_code
def yX6_fault : MethodName := ⟨RX6, "fault", "()I"⟩
abbrev cX6_country : ByteArray := prog_8_method_19_code
def yX6_country : MethodName := ⟨RX6, "country", "()I"⟩
abbrev cX6_owed : ByteArray := prog_8_method_20_code
def yX6_owed : MethodName := ⟨RX6, "owed", "([III)I"⟩
abbrev cX6_owesAll : ByteArray := prog_8_method_21_code
def yX6_owesAll : MethodName := ⟨RX6, "owesAll", "([II)I"⟩
abbrev cX6_nearest : ByteArray := prog_8_method_22_code
def yX6_nearest : MethodName := ⟨RX6, "nearest", "([III)I"⟩
abbrev cX6_goes : ByteArray := prog_8_method_23_code
def yX6_goes : MethodName := ⟨RX6, "goes", "([III)I"⟩
abbrev cX6_sown : ByteArray := prog_8_method_24_code
def yX6_sown : MethodName := ⟨RX6, "sown", "([I)I"⟩
abbrev cX6_goMarch : ByteArray := prog_8_method_25_code
def yX6_goMarch : MethodName := ⟨RX6, "goMarch", "([II)I"⟩
abbrev cX6_loaves : ByteArray := prog_8_method_26_code
def yX6_loaves : MethodName := ⟨RX6, "loaves", "([I)I"⟩
abbrev cX6_goHarvest : ByteArray := prog_8_method_27_code
def yX6_goHarvest : MethodName := ⟨RX6, "goHarvest", "([I)I"⟩
abbrev cX6_begin : ByteArray := prog_8_method_28_code
def yX6_begin : MethodName := ⟨RX6, "begin", "()V"⟩
abbrev cX6_owedTogether : ByteArray := prog_8_method_29_code
def yX6_owedTogether : MethodName := ⟨RX6, "owedTogether", "()I"⟩
abbrev cX6_marched : ByteArray := prog_8_method_30_code
def yX6_marched : MethodName := ⟨RX6, "marched", "(I)I"⟩
abbrev cX6_about : ByteArray := prog_8_method_31_code
def yX6_about : MethodName := ⟨RX6, "about", "(I)I"⟩
abbrev cX6_owing : ByteArray := prog_8_method_32_code
def yX6_owing : MethodName := ⟨RX6, "owing", "(I)I"⟩
abbrev cX6_field : ByteArray := prog_8_method_33_code
def yX6_field : MethodName := ⟨RX6, "field", "(II)I"⟩
abbrev cX6_eater : ByteArray := prog_8_method_34_code
def yX6_eater : MethodName := ⟨RX6, "eater", "(II)I"⟩
abbrev cX6_owes : ByteArray := prog_8_method_35_code
def yX6_owes : MethodName := ⟨RX6, "owes", "(II)I"⟩
abbrev cX6_note : ByteArray := prog_8_method_36_code
def yX6_note : MethodName := ⟨RX6, "note", "()V"⟩
abbrev cX6_bite : ByteArray := prog_8_method_37_code
def yX6_bite : MethodName := ⟨RX6, "bite", "(I)I"⟩
abbrev cX6_canEat : ByteArray := prog_8_method_38_code
def yX6_canEat : MethodName := ⟨RX6, "canEat", "([III)Z"⟩
abbrev cX6_goEat : ByteArray := prog_8_method_39_code
def yX6_goEat : MethodName := ⟨RX6, "goEat", "([III)V"⟩
abbrev cX6_eat : ByteArray := prog_8_method_40_code
def yX6_eat : MethodName := ⟨RX6, "eat", "(II)I"⟩
abbrev cX6_cake : ByteArray := prog_8_method_41_code
def yX6_cake : MethodName := ⟨RX6, "cake", "(III)I"⟩
abbrev cX6_march : ByteArray := prog_8_method_42_code
def yX6_march : MethodName := ⟨RX6, "march", "()I"⟩
abbrev cX6_harvest : ByteArray := prog_8_method_43_code
def yX6_harvest : MethodName := ⟨RX6, "harvest", "()I"⟩
abbrev cX6_undo : ByteArray := prog_8_method_44_code
def yX6_undo : MethodName := ⟨RX6, "undo", "()I"⟩
abbrev cX6_ahead : ByteArray := prog_8_method_45_code
def yX6_ahead : MethodName := ⟨RX6, "ahead", "(II)I"⟩
abbrev cX6_isSownBy : ByteArray := prog_8_method_46_code
def yX6_isSownBy : MethodName := ⟨RX6, "isSownBy", "(II)Z"⟩
abbrev cX6_wants : ByteArray := prog_8_method_47_code
def yX6_wants : MethodName := ⟨RX6, "wants", "(I)I"⟩
abbrev cX6_rid : ByteArray := prog_8_method_48_code
def yX6_rid : MethodName := ⟨RX6, "rid", "(I)I"⟩
abbrev cX6_longPower : ByteArray := prog_8_method_49_code
def yX6_longPower : MethodName := ⟨RX6, "longPower", "(JI)J"⟩
abbrev cX6_eats : ByteArray := prog_8_method_50_code
def yX6_eats : MethodName := ⟨RX6, "eats", "(II)Z"⟩
abbrev cX6_does : ByteArray := prog_8_method_51_code
def yX6_does : MethodName := ⟨RX6, "does", "(I)Z"⟩
abbrev cX6_judge : ByteArray := prog_8_method_52_code
def yX6_judge : MethodName := ⟨RX6, "judge", "(IJ)I"⟩
abbrev cX6_ways : ByteArray := prog_8_method_53_code
def yX6_ways : MethodName := ⟨RX6, "ways", "(I)I"⟩
abbrev cX6_divisor : ByteArray := prog_8_method_54_code
def yX6_divisor : MethodName := ⟨RX6, "divisor", "(II)I"⟩
abbrev cX6_fraction : ByteArray := prog_8_method_55_code
def yX6_fraction : MethodName := ⟨RX6, "fraction", "(IIZ)I"⟩
abbrev cX6_share : ByteArray := prog_8_method_56_code
def yX6_share : MethodName := ⟨RX6, "share", "(IZ)I"⟩
abbrev cX6_came : ByteArray := prog_8_method_57_code
def yX6_came : MethodName := ⟨RX6, "came", "(II)I"⟩
abbrev cX6_forget : ByteArray := prog_8_method_58_code
def yX6_forget : MethodName := ⟨RX6, "forget", "()I"⟩
abbrev cX6_strangers : ByteArray := prog_8_method_59_code
def yX6_strangers : MethodName := ⟨RX6, "strangers", "(I)I"⟩
abbrev cX6_rests : ByteArray := prog_8_method_60_code
def yX6_rests : MethodName := ⟨RX6, "rests", "(IIII)I"⟩
abbrev cX6_home : ByteArray := prog_8_method_61_code
def yX6_home : MethodName := ⟨RX6, "home", "(IIZ)I"⟩
abbrev cX6_seed : ByteArray := prog_8_method_62_code
def yX6_seed : MethodName := ⟨RX6, "seed", "(J)J"⟩
abbrev cX6_years : ByteArray := prog_8_method_63_code
def yX6_years : MethodName := ⟨RX6, "years", "(I)I"⟩
abbrev cX6_keep : ByteArray := prog_8_method_64_code
def yX6_keep : MethodName := ⟨RX6, "keep", "(I)I"⟩
abbrev cX6_again : ByteArray := prog_8_method_65_code
def yX6_again : MethodName := ⟨RX6, "again", "(I)I"⟩
def RJ6 : String := "java/lang/Integer"
def TJ6 : u_T := fun k => match k with
  | _ => ("", "", "", false)
def tyJ6 : Nat → FieldType := fun k => match k with
  | _ => .int
abbrev wsJ60 : List Cond := u_ws RJ6 TJ6 0
theorem nmJ6 : ∀ a, a < 0 → ∀ b, b < 0 → a ≠ b → (TJ6 a).2.1 ≠ (TJ6 b).2.1 := by decide +kernel
theorem tyJ6_ok : ∀ k, k < 0 → parseFieldDescriptor (TJ6 k).2.2.1 = some (tyJ6 k) := by decide +kernel
abbrev cJ6_bitCount_0f7a4 : ByteArray := prog_9_method_49_code
def yJ6_bitCount_0f7a4 : MethodName := ⟨RJ6, "bitCount", "(I)I"⟩
def RJ9 : String := "java/lang/Math"
def TJ9 : u_T := fun k => match k with
  | _ => ("", "", "", false)
def tyJ9 : Nat → FieldType := fun k => match k with
  | _ => .int
abbrev wsJ90 : List Cond := u_ws RJ9 TJ9 0
theorem nmJ9 : ∀ a, a < 0 → ∀ b, b < 0 → a ≠ b → (TJ9 a).2.1 ≠ (TJ9 b).2.1 := by decide +kernel
theorem tyJ9_ok : ∀ k, k < 0 → parseFieldDescriptor (TJ9 k).2.2.1 = some (tyJ9 k) := by decide +kernel
abbrev cJ9_abs_0f7a4 : ByteArray := prog_10_method_59_code
def yJ9_abs_0f7a4 : MethodName := ⟨RJ9, "abs", "(I)I"⟩
abbrev cJ9_abs_067f4 : ByteArray := prog_10_method_61_code
def yJ9_abs_067f4 : MethodName := ⟨RJ9, "abs", "(J)J"⟩
abbrev cJ9_min_7cf53 : ByteArray := prog_10_method_69_code
def yJ9_min_7cf53 : MethodName := ⟨RJ9, "min", "(II)I"⟩
def RJ10 : String := "java/lang/System"
def TJ10 : u_T := fun k => match k with
  | _ => ("", "", "", false)
def tyJ10 : Nat → FieldType := fun k => match k with
  | _ => .int
abbrev wsJ100 : List Cond := u_ws RJ10 TJ10 0
theorem nmJ10 : ∀ a, a < 0 → ∀ b, b < 0 → a ≠ b → (TJ10 a).2.1 ≠ (TJ10 b).2.1 := by decide +kernel
theorem tyJ10_ok : ∀ k, k < 0 → parseFieldDescriptor (TJ10 k).2.2.1 = some (tyJ10 k) := by decide +kernel
def RL : String := "OwedFurrowsLaw"
abbrev cL_law : ByteArray := code
def yL_law : MethodName := ⟨RL, "law", "([I)Z"⟩
