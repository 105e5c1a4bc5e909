section
-- ===== PART A: goes FIRST, ahead of the names: the tables' words, and 'selects' of the private methods out of them =====
/-- a private method of a class that the tables say can be made, by its rows of tables_1 -/
def lw_okq (q : MethodName × Nat) : Prop := (q.1.cls ≠ "java/lang/invoke/MethodHandle" ∧ q.1.cls ≠ "java/lang/invoke/VarHandle") ∧ Cond.instantiable q.1.cls q.2 ∈ tables_1 ∧ Cond.privateMethod q.1 ∈ tables_1 ∧ Cond.instanceMethod q.1 ∈ tables_1
theorem lw_p0 : lw_okq (⟨"OwedFurrows$Text", "faultOfThing", "(IZ)I"⟩, 2) := ⟨⟨by decide +kernel, by decide +kernel⟩, List.mem_of_getElem? (i := 20) (by decide +kernel), List.mem_of_getElem? (i := 206) (by decide +kernel), List.mem_of_getElem? (i := 207) (by decide +kernel)⟩
theorem lw_p1 : lw_okq (⟨"OwedFurrows$Land", "addField", "(LOwedFurrows$Text;I)V"⟩, 8) := ⟨⟨by decide +kernel, by decide +kernel⟩, List.mem_of_getElem? (i := 37) (by decide +kernel), List.mem_of_getElem? (i := 218) (by decide +kernel), List.mem_of_getElem? (i := 219) (by decide +kernel)⟩
theorem lw_p2 : lw_okq (⟨"OwedFurrows$Land", "addEater", "(LOwedFurrows$Text;I)V"⟩, 8) := ⟨⟨by decide +kernel, by decide +kernel⟩, List.mem_of_getElem? (i := 37) (by decide +kernel), List.mem_of_getElem? (i := 226) (by decide +kernel), List.mem_of_getElem? (i := 227) (by decide +kernel)⟩
theorem lw_p3 : lw_okq (⟨"OwedFurrows", "sownIfCome", "(I)I"⟩, 10) := ⟨⟨by decide +kernel, by decide +kernel⟩, List.mem_of_getElem? (i := 12) (by decide +kernel), List.mem_of_getElem? (i := 270) (by decide +kernel), List.mem_of_getElem? (i := 271) (by decide +kernel)⟩
theorem lw_p4 : lw_okq (⟨"OwedFurrows$Commons", "nearestOwed", "(II)I"⟩, 7) := ⟨⟨by decide +kernel, by decide +kernel⟩, List.mem_of_getElem? (i := 84) (by decide +kernel), List.mem_of_getElem? (i := 289) (by decide +kernel), List.mem_of_getElem? (i := 290) (by decide +kernel)⟩
theorem lw_p5 : lw_okq (⟨"OwedFurrows$Commons", "bringSeed", "(II)V"⟩, 7) := ⟨⟨by decide +kernel, by decide +kernel⟩, List.mem_of_getElem? (i := 84) (by decide +kernel), List.mem_of_getElem? (i := 296) (by decide +kernel), List.mem_of_getElem? (i := 297) (by decide +kernel)⟩
theorem lw_p6 : lw_okq (⟨"OwedFurrows", "isSownIfFed", "(II)Z"⟩, 10) := ⟨⟨by decide +kernel, by decide +kernel⟩, List.mem_of_getElem? (i := 12) (by decide +kernel), List.mem_of_getElem? (i := 388) (by decide +kernel), List.mem_of_getElem? (i := 389) (by decide +kernel)⟩
theorem lw_p7 : lw_okq (⟨"OwedFurrows", "tryToTake", "(II)Z"⟩, 10) := ⟨⟨by decide +kernel, by decide +kernel⟩, List.mem_of_getElem? (i := 12) (by decide +kernel), List.mem_of_getElem? (i := 392) (by decide +kernel), List.mem_of_getElem? (i := 393) (by decide +kernel)⟩
theorem lw_p8 : lw_okq (⟨"OwedFurrows", "isSo", "(III)Z"⟩, 10) := ⟨⟨by decide +kernel, by decide +kernel⟩, List.mem_of_getElem? (i := 12) (by decide +kernel), List.mem_of_getElem? (i := 410) (by decide +kernel), List.mem_of_getElem? (i := 411) (by decide +kernel)⟩
theorem lw_p9 : lw_okq (⟨"OwedFurrows", "playPair", "(IIII)V"⟩, 10) := ⟨⟨by decide +kernel, by decide +kernel⟩, List.mem_of_getElem? (i := 12) (by decide +kernel), List.mem_of_getElem? (i := 449) (by decide +kernel), List.mem_of_getElem? (i := 450) (by decide +kernel)⟩
theorem lw_p10 : lw_okq (⟨"OwedFurrows", "isAtRest", "(I)Z"⟩, 10) := ⟨⟨by decide +kernel, by decide +kernel⟩, List.mem_of_getElem? (i := 12) (by decide +kernel), List.mem_of_getElem? (i := 453) (by decide +kernel), List.mem_of_getElem? (i := 454) (by decide +kernel)⟩
theorem lw_p11 : lw_okq (⟨"OwedFurrows", "doByLot", "(I)V"⟩, 10) := ⟨⟨by decide +kernel, by decide +kernel⟩, List.mem_of_getElem? (i := 12) (by decide +kernel), List.mem_of_getElem? (i := 476) (by decide +kernel), List.mem_of_getElem? (i := 477) (by decide +kernel)⟩
theorem lw_p12 : lw_okq (⟨"OwedFurrowsModel", "readCountry", "()I"⟩, 34) := ⟨⟨by decide +kernel, by decide +kernel⟩, List.mem_of_getElem? (i := 488) (by decide +kernel), List.mem_of_getElem? (i := 613) (by decide +kernel), List.mem_of_getElem? (i := 614) (by decide +kernel)⟩
theorem lw_p13 : lw_okq (⟨"OwedFurrowsModel", "readThing", "()Z"⟩, 34) := ⟨⟨by decide +kernel, by decide +kernel⟩, List.mem_of_getElem? (i := 488) (by decide +kernel), List.mem_of_getElem? (i := 617) (by decide +kernel), List.mem_of_getElem? (i := 618) (by decide +kernel)⟩
theorem lw_p14 : lw_okq (⟨"OwedFurrowsModel", "readOneField", "()Z"⟩, 34) := ⟨⟨by decide +kernel, by decide +kernel⟩, List.mem_of_getElem? (i := 488) (by decide +kernel), List.mem_of_getElem? (i := 621) (by decide +kernel), List.mem_of_getElem? (i := 622) (by decide +kernel)⟩
theorem lw_p15 : lw_okq (⟨"OwedFurrowsModel", "figure", "(II)I"⟩, 34) := ⟨⟨by decide +kernel, by decide +kernel⟩, List.mem_of_getElem? (i := 488) (by decide +kernel), List.mem_of_getElem? (i := 625) (by decide +kernel), List.mem_of_getElem? (i := 626) (by decide +kernel)⟩
def lw_privs_1 : List (MethodName × Nat) := [(⟨"OwedFurrows$Text", "faultOfThing", "(IZ)I"⟩, 2), (⟨"OwedFurrows$Land", "addField", "(LOwedFurrows$Text;I)V"⟩, 8), (⟨"OwedFurrows$Land", "addEater", "(LOwedFurrows$Text;I)V"⟩, 8), (⟨"OwedFurrows", "sownIfCome", "(I)I"⟩, 10), (⟨"OwedFurrows$Commons", "nearestOwed", "(II)I"⟩, 7), (⟨"OwedFurrows$Commons", "bringSeed", "(II)V"⟩, 7), (⟨"OwedFurrows", "isSownIfFed", "(II)Z"⟩, 10), (⟨"OwedFurrows", "tryToTake", "(II)Z"⟩, 10), (⟨"OwedFurrows", "isSo", "(III)Z"⟩, 10), (⟨"OwedFurrows", "playPair", "(IIII)V"⟩, 10), (⟨"OwedFurrows", "isAtRest", "(I)Z"⟩, 10), (⟨"OwedFurrows", "doByLot", "(I)V"⟩, 10), (⟨"OwedFurrowsModel", "readCountry", "()I"⟩, 34), (⟨"OwedFurrowsModel", "readThing", "()Z"⟩, 34), (⟨"OwedFurrowsModel", "readOneField", "()Z"⟩, 34), (⟨"OwedFurrowsModel", "figure", "(II)I"⟩, 34)]
theorem lw_r1 : ∀ q ∈ lw_privs_1, lw_okq q := List.forall_mem_cons.mpr ⟨lw_p0, List.forall_mem_cons.mpr ⟨lw_p1, List.forall_mem_cons.mpr ⟨lw_p2, List.forall_mem_cons.mpr ⟨lw_p3, List.forall_mem_cons.mpr ⟨lw_p4, List.forall_mem_cons.mpr ⟨lw_p5, List.forall_mem_cons.mpr ⟨lw_p6, List.forall_mem_cons.mpr ⟨lw_p7, List.forall_mem_cons.mpr ⟨lw_p8, List.forall_mem_cons.mpr ⟨lw_p9, List.forall_mem_cons.mpr ⟨lw_p10, List.forall_mem_cons.mpr ⟨lw_p11, List.forall_mem_cons.mpr ⟨lw_p12, List.forall_mem_cons.mpr ⟨lw_p13, List.forall_mem_cons.mpr ⟨lw_p14, List.forall_mem_cons.mpr ⟨lw_p15, fun _ h => absurd h List.not_mem_nil⟩⟩⟩⟩⟩⟩⟩⟩⟩⟩⟩⟩⟩⟩⟩⟩
theorem lw_p16 : lw_okq (⟨"OwedFurrowsModel", "readOneEater", "()Z"⟩, 34) := ⟨⟨by decide +kernel, by decide +kernel⟩, List.mem_of_getElem? (i := 488) (by decide +kernel), List.mem_of_getElem? (i := 629) (by decide +kernel), List.mem_of_getElem? (i := 630) (by decide +kernel)⟩
theorem lw_p17 : lw_okq (⟨"OwedFurrowsModel", "owedTogether", "()I"⟩, 34) := ⟨⟨by decide +kernel, by decide +kernel⟩, List.mem_of_getElem? (i := 488) (by decide +kernel), List.mem_of_getElem? (i := 644) (by decide +kernel), List.mem_of_getElem? (i := 645) (by decide +kernel)⟩
theorem lw_p18 : lw_okq (⟨"OwedFurrowsModel", "sown", "([I)I"⟩, 34) := ⟨⟨by decide +kernel, by decide +kernel⟩, List.mem_of_getElem? (i := 488) (by decide +kernel), List.mem_of_getElem? (i := 654) (by decide +kernel), List.mem_of_getElem? (i := 655) (by decide +kernel)⟩
theorem lw_p19 : lw_okq (⟨"OwedFurrowsModel", "marched", "(I)I"⟩, 34) := ⟨⟨by decide +kernel, by decide +kernel⟩, List.mem_of_getElem? (i := 488) (by decide +kernel), List.mem_of_getElem? (i := 658) (by decide +kernel), List.mem_of_getElem? (i := 659) (by decide +kernel)⟩
theorem lw_p20 : lw_okq (⟨"OwedFurrowsModel", "begin", "()V"⟩, 34) := ⟨⟨by decide +kernel, by decide +kernel⟩, List.mem_of_getElem? (i := 488) (by decide +kernel), List.mem_of_getElem? (i := 662) (by decide +kernel), List.mem_of_getElem? (i := 663) (by decide +kernel)⟩
theorem lw_p21 : lw_okq (⟨"OwedFurrowsModel", "goMarch", "([II)I"⟩, 34) := ⟨⟨by decide +kernel, by decide +kernel⟩, List.mem_of_getElem? (i := 488) (by decide +kernel), List.mem_of_getElem? (i := 666) (by decide +kernel), List.mem_of_getElem? (i := 667) (by decide +kernel)⟩
theorem lw_p22 : lw_okq (⟨"OwedFurrowsModel", "goes", "([III)I"⟩, 34) := ⟨⟨by decide +kernel, by decide +kernel⟩, List.mem_of_getElem? (i := 488) (by decide +kernel), List.mem_of_getElem? (i := 673) (by decide +kernel), List.mem_of_getElem? (i := 674) (by decide +kernel)⟩
theorem lw_p23 : lw_okq (⟨"OwedFurrowsModel", "nearest", "([III)I"⟩, 34) := ⟨⟨by decide +kernel, by decide +kernel⟩, List.mem_of_getElem? (i := 488) (by decide +kernel), List.mem_of_getElem? (i := 677) (by decide +kernel), List.mem_of_getElem? (i := 678) (by decide +kernel)⟩
theorem lw_p24 : lw_okq (⟨"OwedFurrowsModel", "noField", "(I)Z"⟩, 34) := ⟨⟨by decide +kernel, by decide +kernel⟩, List.mem_of_getElem? (i := 488) (by decide +kernel), List.mem_of_getElem? (i := 691) (by decide +kernel), List.mem_of_getElem? (i := 692) (by decide +kernel)⟩
theorem lw_p25 : lw_okq (⟨"OwedFurrowsModel", "owing", "(I)I"⟩, 34) := ⟨⟨by decide +kernel, by decide +kernel⟩, List.mem_of_getElem? (i := 488) (by decide +kernel), List.mem_of_getElem? (i := 695) (by decide +kernel), List.mem_of_getElem? (i := 696) (by decide +kernel)⟩
theorem lw_p26 : lw_okq (⟨"OwedFurrowsModel", "noEater", "(I)Z"⟩, 34) := ⟨⟨by decide +kernel, by decide +kernel⟩, List.mem_of_getElem? (i := 488) (by decide +kernel), List.mem_of_getElem? (i := 703) (by decide +kernel), List.mem_of_getElem? (i := 704) (by decide +kernel)⟩
theorem lw_p27 : lw_okq (⟨"OwedFurrowsModel", "canEat", "([III)Z"⟩, 34) := ⟨⟨by decide +kernel, by decide +kernel⟩, List.mem_of_getElem? (i := 488) (by decide +kernel), List.mem_of_getElem? (i := 715) (by decide +kernel), List.mem_of_getElem? (i := 716) (by decide +kernel)⟩
theorem lw_p28 : lw_okq (⟨"OwedFurrowsModel", "bite", "(I)I"⟩, 34) := ⟨⟨by decide +kernel, by decide +kernel⟩, List.mem_of_getElem? (i := 488) (by decide +kernel), List.mem_of_getElem? (i := 719) (by decide +kernel), List.mem_of_getElem? (i := 720) (by decide +kernel)⟩
theorem lw_p29 : lw_okq (⟨"OwedFurrowsModel", "note", "()V"⟩, 34) := ⟨⟨by decide +kernel, by decide +kernel⟩, List.mem_of_getElem? (i := 488) (by decide +kernel), List.mem_of_getElem? (i := 723) (by decide +kernel), List.mem_of_getElem? (i := 724) (by decide +kernel)⟩
theorem lw_p30 : lw_okq (⟨"OwedFurrowsModel", "goEat", "([III)V"⟩, 34) := ⟨⟨by decide +kernel, by decide +kernel⟩, List.mem_of_getElem? (i := 488) (by decide +kernel), List.mem_of_getElem? (i := 727) (by decide +kernel), List.mem_of_getElem? (i := 728) (by decide +kernel)⟩
theorem lw_p31 : lw_okq (⟨"OwedFurrowsModel", "goHarvest", "([I)I"⟩, 34) := ⟨⟨by decide +kernel, by decide +kernel⟩, List.mem_of_getElem? (i := 488) (by decide +kernel), List.mem_of_getElem? (i := 743) (by decide +kernel), List.mem_of_getElem? (i := 744) (by decide +kernel)⟩
def lw_privs_2 : List (MethodName × Nat) := [(⟨"OwedFurrowsModel", "readOneEater", "()Z"⟩, 34), (⟨"OwedFurrowsModel", "owedTogether", "()I"⟩, 34), (⟨"OwedFurrowsModel", "sown", "([I)I"⟩, 34), (⟨"OwedFurrowsModel", "marched", "(I)I"⟩, 34), (⟨"OwedFurrowsModel", "begin", "()V"⟩, 34), (⟨"OwedFurrowsModel", "goMarch", "([II)I"⟩, 34), (⟨"OwedFurrowsModel", "goes", "([III)I"⟩, 34), (⟨"OwedFurrowsModel", "nearest", "([III)I"⟩, 34), (⟨"OwedFurrowsModel", "noField", "(I)Z"⟩, 34), (⟨"OwedFurrowsModel", "owing", "(I)I"⟩, 34), (⟨"OwedFurrowsModel", "noEater", "(I)Z"⟩, 34), (⟨"OwedFurrowsModel", "canEat", "([III)Z"⟩, 34), (⟨"OwedFurrowsModel", "bite", "(I)I"⟩, 34), (⟨"OwedFurrowsModel", "note", "()V"⟩, 34), (⟨"OwedFurrowsModel", "goEat", "([III)V"⟩, 34), (⟨"OwedFurrowsModel", "goHarvest", "([I)I"⟩, 34)]
theorem lw_r2 : ∀ q ∈ lw_privs_2, lw_okq q := List.forall_mem_cons.mpr ⟨lw_p16, List.forall_mem_cons.mpr ⟨lw_p17, List.forall_mem_cons.mpr ⟨lw_p18, List.forall_mem_cons.mpr ⟨lw_p19, List.forall_mem_cons.mpr ⟨lw_p20, List.forall_mem_cons.mpr ⟨lw_p21, List.forall_mem_cons.mpr ⟨lw_p22, List.forall_mem_cons.mpr ⟨lw_p23, List.forall_mem_cons.mpr ⟨lw_p24, List.forall_mem_cons.mpr ⟨lw_p25, List.forall_mem_cons.mpr ⟨lw_p26, List.forall_mem_cons.mpr ⟨lw_p27, List.forall_mem_cons.mpr ⟨lw_p28, List.forall_mem_cons.mpr ⟨lw_p29, List.forall_mem_cons.mpr ⟨lw_p30, List.forall_mem_cons.mpr ⟨lw_p31, fun _ h => absurd h List.not_mem_nil⟩⟩⟩⟩⟩⟩⟩⟩⟩⟩⟩⟩⟩⟩⟩⟩
theorem lw_p32 : lw_okq (⟨"OwedFurrowsModel", "isSownBy", "(II)Z"⟩, 34) := ⟨⟨by decide +kernel, by decide +kernel⟩, List.mem_of_getElem? (i := 488) (by decide +kernel), List.mem_of_getElem? (i := 763) (by decide +kernel), List.mem_of_getElem? (i := 764) (by decide +kernel)⟩
theorem lw_p33 : lw_okq (⟨"OwedFurrowsModel", "does", "(I)Z"⟩, 34) := ⟨⟨by decide +kernel, by decide +kernel⟩, List.mem_of_getElem? (i := 488) (by decide +kernel), List.mem_of_getElem? (i := 780) (by decide +kernel), List.mem_of_getElem? (i := 781) (by decide +kernel)⟩
theorem lw_p34 : lw_okq (⟨"OwedFurrowsModel", "eats", "(II)Z"⟩, 34) := ⟨⟨by decide +kernel, by decide +kernel⟩, List.mem_of_getElem? (i := 488) (by decide +kernel), List.mem_of_getElem? (i := 784) (by decide +kernel), List.mem_of_getElem? (i := 785) (by decide +kernel)⟩
def lw_privs_3 : List (MethodName × Nat) := [(⟨"OwedFurrowsModel", "isSownBy", "(II)Z"⟩, 34), (⟨"OwedFurrowsModel", "does", "(I)Z"⟩, 34), (⟨"OwedFurrowsModel", "eats", "(II)Z"⟩, 34)]
theorem lw_r3 : ∀ q ∈ lw_privs_3, lw_okq q := List.forall_mem_cons.mpr ⟨lw_p32, List.forall_mem_cons.mpr ⟨lw_p33, List.forall_mem_cons.mpr ⟨lw_p34, fun _ h => absurd h List.not_mem_nil⟩⟩⟩
def lw_privs : List (MethodName × Nat) := lw_privs_1 ++ (lw_privs_2 ++ (lw_privs_3))
def lw_tbl : List Cond := k2_sels lw_privs ++ tables_1
theorem lw_privs_ok : ∀ q ∈ lw_privs, lw_okq q := by
  show ∀ q ∈ lw_privs_1 ++ (lw_privs_2 ++ (lw_privs_3)), lw_okq q
  exact List.forall_mem_append.mpr ⟨lw_r1, List.forall_mem_append.mpr ⟨lw_r2, lw_r3⟩⟩

def RX0 : String := "OwedFurrows$Acts"
def TX0 : u_T := fun k => match k with
  | 0 => ("OwedFurrows$Acts", "ring", "[LOwedFurrows$Commons;", true)
  | 1 => ("OwedFurrows$Acts", "first", "I", false)
  | _ => ("OwedFurrows$Acts", "count", "I", false)
def tyX0 : Nat → FieldType := fun k => match k with
  | 0 => .array (.object "OwedFurrows$Commons")
  | 1 => .int
  | _ => .int
abbrev wsX00 : List Cond := u_ws RX0 TX0 3
theorem nmX0 : ∀ a, a < 3 → ∀ b, b < 3 → a ≠ b → (TX0 a).2.1 ≠ (TX0 b).2.1 := by decide +kernel
theorem tyX0_ok : ∀ k, k < 3 → parseFieldDescriptor (TX0 k).2.2.1 = some (tyX0 k) := by decide +kernel
abbrev cX0_init : ByteArray := prog_2_method_1_code
def yX0_init : MethodName := ⟨RX0, "<init>", "(LOwedFurrows$Land;)V"⟩
abbrev cX0_remember : ByteArray := prog_2_method_2_code
def yX0_remember : MethodName := ⟨RX0, "remember", "(LOwedFurrows$Commons;)V"⟩
abbrev cX0_takeBackInto : ByteArray := prog_2_method_3_code
def yX0_takeBackInto : MethodName := ⟨RX0, "takeBackInto", "(LOwedFurrows$Commons;)V"⟩
def RX1 : String := "OwedFurrows$Commons"
def TX1 : u_T := fun k => match k with
  | 0 => ("OwedFurrows$Commons", "land", "LOwedFurrows$Land;", true)
  | 1 => ("OwedFurrows$Commons", "loaves", "[I", true)
  | 2 => ("OwedFurrows$Commons", "sacks", "[I", true)
  | 3 => ("OwedFurrows$Commons", "debts", "[I", true)
  | 4 => ("OwedFurrows$Commons", "year", "I", false)
  | 5 => ("OwedFurrows$Commons", "visits", "[I", true)
  | _ => ("OwedFurrows$Commons", "ways", "[I", true)
def tyX1 : Nat → FieldType := fun k => match k with
  | 0 => .object "OwedFurrows$Land"
  | 1 => .array .int
  | 2 => .array .int
  | 3 => .array .int
  | 4 => .int
  | 5 => .array .int
  | _ => .array .int
abbrev wsX10 : List Cond := u_ws RX1 TX1 7
theorem nmX1 : ∀ a, a < 7 → ∀ b, b < 7 → a ≠ b → (TX1 a).2.1 ≠ (TX1 b).2.1 := by decide +kernel
theorem tyX1_ok : ∀ k, k < 7 → parseFieldDescriptor (TX1 k).2.2.1 = some (tyX1 k) := by decide +kernel
abbrev cX1_init : ByteArray := prog_3_method_1_code
def yX1_init : MethodName := ⟨RX1, "<init>", "(LOwedFurrows$Land;)V"⟩
abbrev cX1_beginAnew : ByteArray := prog_3_method_2_code
def yX1_beginAnew : MethodName := ⟨RX1, "beginAnew", "()V"⟩
abbrev cX1_copyFrom : ByteArray := prog_3_method_3_code
def yX1_copyFrom : MethodName := ⟨RX1, "copyFrom", "(LOwedFurrows$Commons;)V"⟩
abbrev cX1_debt : ByteArray := prog_3_method_4_code
def yX1_debt : MethodName := ⟨RX1, "debt", "(II)I"⟩
abbrev cX1_debtsOf : ByteArray := prog_3_method_5_code
def yX1_debtsOf : MethodName := ⟨RX1, "debtsOf", "(I)I"⟩
abbrev cX1_allDebts : ByteArray := prog_3_method_6_code
def yX1_allDebts : MethodName := ⟨RX1, "allDebts", "()I"⟩
abbrev cX1_debtorsOf : ByteArray := prog_3_method_7_code
def yX1_debtorsOf : MethodName := ⟨RX1, "debtorsOf", "(I)I"⟩
abbrev cX1_allLoaves : ByteArray := prog_3_method_8_code
def yX1_allLoaves : MethodName := ⟨RX1, "allLoaves", "()I"⟩
abbrev cX1_allSeed : ByteArray := prog_3_method_9_code
def yX1_allSeed : MethodName := ⟨RX1, "allSeed", "()I"⟩
abbrev cX1_isSown : ByteArray := prog_3_method_10_code
def yX1_isSown : MethodName := ⟨RX1, "isSown", "(I)Z"⟩
abbrev cX1_sownFields : ByteArray := prog_3_method_11_code
def yX1_sownFields : MethodName := ⟨RX1, "sownFields", "()I"⟩
abbrev cX1_canTake : ByteArray := prog_3_method_12_code
def yX1_canTake : MethodName := ⟨RX1, "canTake", "(II)Z"⟩
abbrev cX1_takeLoaves : ByteArray := prog_3_method_13_code
def yX1_takeLoaves : MethodName := ⟨RX1, "takeLoaves", "(II)V"⟩
abbrev cX1_callOut : ByteArray := prog_3_method_14_code
def yX1_callOut : MethodName := ⟨RX1, "callOut", "(I)V"⟩
abbrev cX1_sendOut : ByteArray := prog_3_method_15_code
def yX1_sendOut : MethodName := ⟨RX1, "sendOut", "(II)V"⟩
abbrev cX1_nearestOwed : ByteArray := prog_3_method_16_code
def yX1_nearestOwed : MethodName := ⟨RX1, "nearestOwed", "(II)I"⟩
abbrev cX1_bringSeed : ByteArray := prog_3_method_17_code
def yX1_bringSeed : MethodName := ⟨RX1, "bringSeed", "(II)V"⟩
abbrev cX1_reap : ByteArray := prog_3_method_18_code
def yX1_reap : MethodName := ⟨RX1, "reap", "()V"⟩
def RX2 : String := "OwedFurrows$Land"
def TX2 : u_T := fun k => match k with
  | 0 => ("OwedFurrows$Land", "places", "[I", true)
  | 1 => ("OwedFurrows$Land", "yields", "[I", true)
  | 2 => ("OwedFurrows$Land", "needs", "[I", true)
  | 3 => ("OwedFurrows$Land", "homes", "[I", true)
  | 4 => ("OwedFurrows$Land", "walks", "[I", true)
  | 5 => ("OwedFurrows$Land", "kinds", "[I", true)
  | 6 => ("OwedFurrows$Land", "fields", "I", false)
  | _ => ("OwedFurrows$Land", "eaters", "I", false)
def tyX2 : Nat → FieldType := fun k => match k with
  | 0 => .array .int
  | 1 => .array .int
  | 2 => .array .int
  | 3 => .array .int
  | 4 => .array .int
  | 5 => .array .int
  | 6 => .int
  | _ => .int
abbrev wsX20 : List Cond := u_ws RX2 TX2 8
theorem nmX2 : ∀ a, a < 8 → ∀ b, b < 8 → a ≠ b → (TX2 a).2.1 ≠ (TX2 b).2.1 := by decide +kernel
theorem tyX2_ok : ∀ k, k < 8 → parseFieldDescriptor (TX2 k).2.2.1 = some (tyX2 k) := by decide +kernel
abbrev cX2_init : ByteArray := prog_4_method_1_code
def yX2_init : MethodName := ⟨RX2, "<init>", "()V"⟩
abbrev cX2_readFrom : ByteArray := prog_4_method_2_code
def yX2_readFrom : MethodName := ⟨RX2, "readFrom", "(LOwedFurrows$Text;)V"⟩
abbrev cX2_addField : ByteArray := prog_4_method_3_code
def yX2_addField : MethodName := ⟨RX2, "addField", "(LOwedFurrows$Text;I)V"⟩
abbrev cX2_addEater : ByteArray := prog_4_method_4_code
def yX2_addEater : MethodName := ⟨RX2, "addEater", "(LOwedFurrows$Text;I)V"⟩
abbrev cX2_hasField : ByteArray := prog_4_method_5_code
def yX2_hasField : MethodName := ⟨RX2, "hasField", "(I)Z"⟩
abbrev cX2_hasEater : ByteArray := prog_4_method_6_code
def yX2_hasEater : MethodName := ⟨RX2, "hasEater", "(I)Z"⟩
abbrev cX2_allEaters : ByteArray := prog_4_method_7_code
def yX2_allEaters : MethodName := ⟨RX2, "allEaters", "()I"⟩
abbrev cX2_portionOf : ByteArray := prog_4_method_8_code
def yX2_portionOf : MethodName := ⟨RX2, "portionOf", "(I)I"⟩
def RX3 : String := "OwedFurrows$Text"
def TX3 : u_T := fun k => match k with
  | 0 => ("OwedFurrows$Text", "bytes", "[I", true)
  | _ => ("OwedFurrows$Text", "length", "I", false)
def tyX3 : Nat → FieldType := fun k => match k with
  | 0 => .array .int
  | _ => .int
abbrev wsX30 : List Cond := u_ws RX3 TX3 2
theorem nmX3 : ∀ a, a < 2 → ∀ b, b < 2 → a ≠ b → (TX3 a).2.1 ≠ (TX3 b).2.1 := by decide +kernel
theorem tyX3_ok : ∀ k, k < 2 → parseFieldDescriptor (TX3 k).2.2.1 = some (tyX3 k) := by decide +kernel
abbrev cX3_init : ByteArray := prog_5_method_1_code
def yX3_init : MethodName := ⟨RX3, "<init>", "()V"⟩
abbrev cX3_append : ByteArray := prog_5_method_2_code
def yX3_append : MethodName := ⟨RX3, "append", "(I)V"⟩
abbrev cX3_firstFault : ByteArray := prog_5_method_3_code
def yX3_firstFault : MethodName := ⟨RX3, "firstFault", "()I"⟩
abbrev cX3_faultOfThing : ByteArray := prog_5_method_4_code
def yX3_faultOfThing : MethodName := ⟨RX3, "faultOfThing", "(IZ)I"⟩
abbrev cX3_figure : ByteArray := prog_5_method_5_code
def yX3_figure : MethodName := ⟨RX3, "figure", "(I)I"⟩
def RX4 : String := "OwedFurrows$Tidings"
def TX4 : u_T := fun k => match k with
  | 0 => ("OwedFurrows$Tidings", "places", "[I", true)
  | 1 => ("OwedFurrows$Tidings", "cameThere", "[Z", true)
  | _ => ("OwedFurrows$Tidings", "count", "I", false)
def tyX4 : Nat → FieldType := fun k => match k with
  | 0 => .array .int
  | 1 => .array .boolean
  | _ => .int
abbrev wsX40 : List Cond := u_ws RX4 TX4 3
theorem nmX4 : ∀ a, a < 3 → ∀ b, b < 3 → a ≠ b → (TX4 a).2.1 ≠ (TX4 b).2.1 := by decide +kernel
theorem tyX4_ok : ∀ k, k < 3 → parseFieldDescriptor (TX4 k).2.2.1 = some (tyX4 k) := by decide +kernel
abbrev cX4_init : ByteArray := prog_6_method_1_code
def yX4_init : MethodName := ⟨RX4, "<init>", "()V"⟩
abbrev cX4_add : ByteArray := prog_6_method_2_code
def yX4_add : MethodName := ⟨RX4, "add", "(IZ)V"⟩
abbrev cX4_allowFor : ByteArray := prog_6_method_3_code
def yX4_allowFor : MethodName := ⟨RX4, "allowFor", "(II)Z"⟩
def RX5 : String := "OwedFurrows"
def TX5 : u_T := fun k => match k with
  | 0 => ("OwedFurrows", "text", "LOwedFurrows$Text;", true)
  | 1 => ("OwedFurrows", "land", "LOwedFurrows$Land;", true)
  | 2 => ("OwedFurrows", "now", "LOwedFurrows$Commons;", true)
  | 3 => ("OwedFurrows", "trial", "LOwedFurrows$Commons;", true)
  | 4 => ("OwedFurrows", "acts", "LOwedFurrows$Acts;", true)
  | 5 => ("OwedFurrows", "tidings", "LOwedFurrows$Tidings;", true)
  | 6 => ("OwedFurrows", "kept", "[LOwedFurrows$Commons;", true)
  | 7 => ("OwedFurrows", "isKept", "[Z", true)
  | 8 => ("OwedFurrows", "gains", "[I", true)
  | _ => ("OwedFurrows", "lotSeed", "J", false)
def tyX5 : Nat → FieldType := fun k => match k with
  | 0 => .object "OwedFurrows$Text"
  | 1 => .object "OwedFurrows$Land"
  | 2 => .object "OwedFurrows$Commons"
  | 3 => .object "OwedFurrows$Commons"
  | 4 => .object "OwedFurrows$Acts"
  | 5 => .object "OwedFurrows$Tidings"
  | 6 => .array (.object "OwedFurrows$Commons")
  | 7 => .array .boolean
  | 8 => .array .int
  | _ => .long
abbrev wsX50 : List Cond := u_ws RX5 TX5 10
theorem nmX5 : ∀ a, a < 10 → ∀ b, b < 10 → a ≠ b → (TX5 a).2.1 ≠ (TX5 b).2.1 := by decide +kernel
theorem tyX5_ok : ∀ k, k < 10 → parseFieldDescriptor (TX5 k).2.2.1 = some (tyX5 k) := by decide +kernel
abbrev cX5_init : ByteArray := prog_1_method_1_code
def yX5_init : MethodName := ⟨RX5, "<init>", "()V"⟩
abbrev cX5_write : ByteArray := prog_1_method_2_code
def yX5_write : MethodName := ⟨RX5, "write", "(I)I"⟩
abbrev cX5_wipe : ByteArray := prog_1_method_3_code
def yX5_wipe : MethodName := ⟨RX5, "wipe", "()I"⟩
abbrev cX5_fault : ByteArray := prog_1_method_4_code
def yX5_fault : MethodName := ⟨RX5, "fault", "()I"⟩
abbrev cX5_country : ByteArray := prog_1_method_5_code
def yX5_country : MethodName := ⟨RX5, "country", "()I"⟩
abbrev cX5_about : ByteArray := prog_1_method_6_code
def yX5_about : MethodName := ⟨RX5, "about", "(I)I"⟩
abbrev cX5_field : ByteArray := prog_1_method_7_code
def yX5_field : MethodName := ⟨RX5, "field", "(II)I"⟩
abbrev cX5_eater : ByteArray := prog_1_method_8_code
def yX5_eater : MethodName := ⟨RX5, "eater", "(II)I"⟩
abbrev cX5_owes : ByteArray := prog_1_method_9_code
def yX5_owes : MethodName := ⟨RX5, "owes", "(II)I"⟩
abbrev cX5_eat : ByteArray := prog_1_method_10_code
def yX5_eat : MethodName := ⟨RX5, "eat", "(II)I"⟩
abbrev cX5_cake : ByteArray := prog_1_method_11_code
def yX5_cake : MethodName := ⟨RX5, "cake", "(III)I"⟩
abbrev cX5_march : ByteArray := prog_1_method_12_code
def yX5_march : MethodName := ⟨RX5, "march", "()I"⟩
abbrev cX5_harvest : ByteArray := prog_1_method_13_code
def yX5_harvest : MethodName := ⟨RX5, "harvest", "()I"⟩
abbrev cX5_undo : ByteArray := prog_1_method_14_code
def yX5_undo : MethodName := ⟨RX5, "undo", "()I"⟩
abbrev cX5_ahead : ByteArray := prog_1_method_15_code
def yX5_ahead : MethodName := ⟨RX5, "ahead", "(II)I"⟩
abbrev cX5_wants : ByteArray := prog_1_method_16_code
def yX5_wants : MethodName := ⟨RX5, "wants", "(I)I"⟩
abbrev cX5_rid : ByteArray := prog_1_method_17_code
def yX5_rid : MethodName := ⟨RX5, "rid", "(I)I"⟩
abbrev cX5_judge : ByteArray := prog_1_method_18_code
def yX5_judge : MethodName := ⟨RX5, "judge", "(IJ)I"⟩
abbrev cX5_share : ByteArray := prog_1_method_19_code
def yX5_share : MethodName := ⟨RX5, "share", "(IZ)I"⟩
abbrev cX5_came : ByteArray := prog_1_method_20_code
def yX5_came : MethodName := ⟨RX5, "came", "(II)I"⟩
abbrev cX5_forget : ByteArray := prog_1_method_21_code
def yX5_forget : MethodName := ⟨RX5, "forget", "()I"⟩
abbrev cX5_strangers : ByteArray := prog_1_method_22_code
def yX5_strangers : MethodName := ⟨RX5, "strangers", "(I)I"⟩
abbrev cX5_rests : ByteArray := prog_1_method_23_code
def yX5_rests : MethodName := ⟨RX5, "rests", "(IIII)I"⟩
abbrev cX5_home : ByteArray := prog_1_method_24_code
def yX5_home : MethodName := ⟨RX5, "home", "(IIZ)I"⟩
abbrev cX5_seed : ByteArray := prog_1_method_25_code
def yX5_seed : MethodName := ⟨RX5, "seed", "(J)J"⟩
abbrev cX5_years : ByteArray := prog_1_method_26_code
def yX5_years : MethodName := ⟨RX5, "years", "(I)I"⟩
abbrev cX5_keep : ByteArray := prog_1_method_27_code
def yX5_keep : MethodName := ⟨RX5, "keep", "(I)I"⟩
abbrev cX5_again : ByteArray := prog_1_method_28_code
def yX5_again : MethodName := ⟨RX5, "again", "(I)I"⟩
abbrev cX5_sownIfCome : ByteArray := prog_1_method_29_code
def yX5_sownIfCome : MethodName := ⟨RX5, "sownIfCome", "(I)I"⟩
abbrev cX5_isSownIfFed : ByteArray := prog_1_method_30_code
def yX5_isSownIfFed : MethodName := ⟨RX5, "isSownIfFed", "(II)Z"⟩
abbrev cX5_tryToTake : ByteArray := prog_1_method_31_code
def yX5_tryToTake : MethodName := ⟨RX5, "tryToTake", "(II)Z"⟩
abbrev cX5_isSo : ByteArray := prog_1_method_32_code
def yX5_isSo : MethodName := ⟨RX5, "isSo", "(III)Z"⟩
abbrev cX5_playPair : ByteArray := prog_1_method_33_code
def yX5_playPair : MethodName := ⟨RX5, "playPair", "(IIII)V"⟩
abbrev cX5_isAtRest : ByteArray := prog_1_method_34_code
def yX5_isAtRest : MethodName := ⟨RX5, "isAtRest", "(I)Z"⟩
abbrev cX5_doByLot : ByteArray := prog_1_method_35_code
def yX5_doByLot : MethodName := ⟨RX5, "doByLot", "(I)V"⟩
abbrev cX5_withoutLast : ByteArray := prog_1_method_36_code
def yX5_withoutLast : MethodName := ⟨RX5, "withoutLast", "(JI)J"⟩
abbrev cX5_ordersOf : ByteArray := prog_1_method_37_code
def yX5_ordersOf : MethodName := ⟨RX5, "ordersOf", "(I)J"⟩
abbrev cX5_power : ByteArray := prog_1_method_38_code
def yX5_power : MethodName := ⟨RX5, "power", "(JI)J"⟩
abbrev cX5_partOfFraction : ByteArray := prog_1_method_39_code
def yX5_partOfFraction : MethodName := ⟨RX5, "partOfFraction", "(JJZ)I"⟩
def RX6 : String := "OwedFurrowsModel"
def TX6 : u_T := fun k => match k with
  | 0 => ("OwedFurrowsModel", "thrown", "I", false)
  | 1 => ("OwedFurrowsModel", "text", "[I", true)
  | 2 => ("OwedFurrowsModel", "textSize", "I", false)
  | 3 => ("OwedFurrowsModel", "place", "I", false)
  | 4 => ("OwedFurrowsModel", "fields", "I", false)
  | 5 => ("OwedFurrowsModel", "lies", "[I", true)
  | 6 => ("OwedFurrowsModel", "yields", "[I", true)
  | 7 => ("OwedFurrowsModel", "needs", "[I", true)
  | 8 => ("OwedFurrowsModel", "eaters", "I", false)
  | 9 => ("OwedFurrowsModel", "lives", "[I", true)
  | 10 => ("OwedFurrowsModel", "walk", "[I", true)
  | 11 => ("OwedFurrowsModel", "kind", "[I", true)
  | 12 => ("OwedFurrowsModel", "readFields", "I", false)
  | 13 => ("OwedFurrowsModel", "readField", "[I", true)
  | 14 => ("OwedFurrowsModel", "readEaters", "I", false)
  | 15 => ("OwedFurrowsModel", "readEater", "[I", true)
  | 16 => ("OwedFurrowsModel", "page", "[I", true)
  | 17 => ("OwedFurrowsModel", "trial", "[I", true)
  | 18 => ("OwedFurrowsModel", "book", "[I", true)
  | 19 => ("OwedFurrowsModel", "acts", "I", false)
  | 20 => ("OwedFurrowsModel", "kept", "[I", true)
  | 21 => ("OwedFurrowsModel", "isKept", "[Z", true)
  | 22 => ("OwedFurrowsModel", "cameMany", "I", false)
  | 23 => ("OwedFurrowsModel", "camePlace", "[I", true)
  | 24 => ("OwedFurrowsModel", "cameIs", "[I", true)
  | 25 => ("OwedFurrowsModel", "seed", "J", false)
  | 26 => ("OwedFurrowsModel", "wayFar", "I", false)
  | 27 => ("OwedFurrowsModel", "far", "[I", true)
  | 28 => ("OwedFurrowsModel", "strangerMany", "I", false)
  | 29 => ("OwedFurrowsModel", "strangerFirst", "I", false)
  | 30 => ("OwedFurrowsModel", "restMany", "I", false)
  | 31 => ("OwedFurrowsModel", "restFirst", "I", false)
  | 32 => ("OwedFurrowsModel", "gains", "[I", true)
  | _ => ("OwedFurrowsModel", "value", "[I", true)
def tyX6 : Nat → FieldType := fun k => match k with
  | 0 => .int
  | 1 => .array .int
  | 2 => .int
  | 3 => .int
  | 4 => .int
  | 5 => .array .int
  | 6 => .array .int
  | 7 => .array .int
  | 8 => .int
  | 9 => .array .int
  | 10 => .array .int
  | 11 => .array .int
  | 12 => .int
  | 13 => .array .int
  | 14 => .int
  | 15 => .array .int
  | 16 => .array .int
  | 17 => .array .int
  | 18 => .array .int
  | 19 => .int
  | 20 => .array .int
  | 21 => .array .boolean
  | 22 => .int
  | 23 => .array .int
  | 24 => .array .int
  | 25 => .long
  | 26 => .int
  | 27 => .array .int
  | 28 => .int
  | 29 => .int
  | 30 => .int
  | 31 => .int
  | 32 => .array .int
  | _ => .array .int
abbrev wsX60 : List Cond := u_ws RX6 TX6 34
theorem nmX6 : ∀ a, a < 34 → ∀ b, b < 34 → a ≠ b → (TX6 a).2.1 ≠ (TX6 b).2.1 := by decide +kernel
theorem tyX6_ok : ∀ k, k < 34 → parseFieldDescriptor (TX6 k).2.2.1 = some (tyX6 k) := by decide +kernel
abbrev cX6_init : ByteArray := prog_8_method_1_code
def yX6_init : MethodName := ⟨RX6, "<init>", "()V"⟩
abbrev cX6_in : ByteArray := prog_8_method_3_code
def yX6_in : MethodName := ⟨RX6, "in", "(JJJ)Z"⟩
abbrev cX6_has : ByteArray := prog_8_method_4_code
def yX6_has : MethodName := ⟨RX6, "has", "(II)Z"⟩
abbrev cX6_many : ByteArray := prog_8_method_5_code
def yX6_many : MethodName := ⟨RX6, "many", "(I)I"⟩
abbrev cX6_power : ByteArray := prog_8_method_6_code
def yX6_power : MethodName := ⟨RX6, "power", "(II)I"⟩
abbrev cX6_capped : ByteArray := prog_8_method_7_code
def yX6_capped : MethodName := ⟨RX6, "capped", "(I)I"⟩
abbrev cX6_apart : ByteArray := prog_8_method_8_code
def yX6_apart : MethodName := ⟨RX6, "apart", "(II)I"⟩
abbrev cX6_noField : ByteArray := prog_8_method_9_code
def yX6_noField : MethodName := ⟨RX6, "noField", "(I)Z"⟩
abbrev cX6_noEater : ByteArray := prog_8_method_10_code
def yX6_noEater : MethodName := ⟨RX6, "noEater", "(I)Z"⟩
abbrev cX6_write : ByteArray := prog_8_method_11_code
def yX6_write : MethodName := ⟨RX6, "write", "(I)I"⟩
abbrev cX6_wipe : ByteArray := prog_8_method_12_code
def yX6_wipe : MethodName := ⟨RX6, "wipe", "()I"⟩
abbrev cX6_figure : ByteArray := prog_8_method_13_code
def yX6_figure : MethodName := ⟨RX6, "figure", "(II)I"⟩
abbrev cX6_readOneField : ByteArray := prog_8_method_14_code
def yX6_readOneField : MethodName := ⟨RX6, "readOneField", "()Z"⟩
abbrev cX6_readOneEater : ByteArray := prog_8_method_15_code
def yX6_readOneEater : MethodName := ⟨RX6, "readOneEater", "()Z"⟩
abbrev cX6_readThing : ByteArray := prog_8_method_16_code
def yX6_readThing : MethodName := ⟨RX6, "readThing", "()Z"⟩
abbrev cX6_readCountry : ByteArray := prog_8_method_17_code
def yX6_readCountry : MethodName := ⟨RX6, "readCountry", "()I"⟩
abbrev cX6_fault : ByteArray := prog_8_method_18_code
def yX6_fault : MethodName := ⟨RX6, "fault", "()I"⟩
abbrev cX6_country : ByteArray := prog_8_method_19_code
def yX6_country : MethodName := ⟨RX6, "country", "()I"⟩
abbrev cX6_owed : ByteArray := prog_8_method_20_code
def yX6_owed : MethodName := ⟨RX6, "owed", "([III)I"⟩
abbrev cX6_owesAll : ByteArray := prog_8_method_21_code
def yX6_owesAll : MethodName := ⟨RX6, "owesAll", "([II)I"⟩
abbrev cX6_nearest : ByteArray := prog_8_method_22_code
def yX6_nearest : MethodName := ⟨RX6, "nearest", "([III)I"⟩
abbrev cX6_goes : ByteArray := prog_8_method_23_code
def yX6_goes : MethodName := ⟨RX6, "goes", "([III)I"⟩
abbrev cX6_sown : ByteArray := prog_8_method_24_code
def yX6_sown : MethodName := ⟨RX6, "sown", "([I)I"⟩
abbrev cX6_goMarch : ByteArray := prog_8_method_25_code
def yX6_goMarch : MethodName := ⟨RX6, "goMarch", "([II)I"⟩
abbrev cX6_loaves : ByteArray := prog_8_method_26_code
def yX6_loaves : MethodName := ⟨RX6, "loaves", "([I)I"⟩
abbrev cX6_goHarvest : ByteArray := prog_8_method_27_code
def yX6_goHarvest : MethodName := ⟨RX6, "goHarvest", "([I)I"⟩
abbrev cX6_begin : ByteArray := prog_8_method_28_code
def yX6_begin : MethodName := ⟨RX6, "begin", "()V"⟩
abbrev cX6_owedTogether : ByteArray := prog_8_method_29_code
def yX6_owedTogether : MethodName := ⟨RX6, "owedTogether", "()I"⟩
abbrev cX6_marched : ByteArray := prog_8_method_30_code
def yX6_marched : MethodName := ⟨RX6, "marched", "(I)I"⟩
abbrev cX6_about : ByteArray := prog_8_method_31_code
def yX6_about : MethodName := ⟨RX6, "about", "(I)I"⟩
abbrev cX6_owing : ByteArray := prog_8_method_32_code
def yX6_owing : MethodName := ⟨RX6, "owing", "(I)I"⟩
abbrev cX6_field : ByteArray := prog_8_method_33_code
def yX6_field : MethodName := ⟨RX6, "field", "(II)I"⟩
abbrev cX6_eater : ByteArray := prog_8_method_34_code
def yX6_eater : MethodName := ⟨RX6, "eater", "(II)I"⟩
abbrev cX6_owes : ByteArray := prog_8_method_35_code
def yX6_owes : MethodName := ⟨RX6, "owes", "(II)I"⟩
abbrev cX6_note : ByteArray := prog_8_method_36_code
def yX6_note : MethodName := ⟨RX6, "note", "()V"⟩
abbrev cX6_bite : ByteArray := prog_8_method_37_code
def yX6_bite : MethodName := ⟨RX6, "bite", "(I)I"⟩
abbrev cX6_canEat : ByteArray := prog_8_method_38_code
def yX6_canEat : MethodName := ⟨RX6, "canEat", "([III)Z"⟩
abbrev cX6_goEat : ByteArray := prog_8_method_39_code
def yX6_goEat : MethodName := ⟨RX6, "goEat", "([III)V"⟩
abbrev cX6_eat : ByteArray := prog_8_method_40_code
def yX6_eat : MethodName := ⟨RX6, "eat", "(II)I"⟩
abbrev cX6_cake : ByteArray := prog_8_method_41_code
def yX6_cake : MethodName := ⟨RX6, "cake", "(III)I"⟩
abbrev cX6_march : ByteArray := prog_8_method_42_code
def yX6_march : MethodName := ⟨RX6, "march", "()I"⟩
abbrev cX6_harvest : ByteArray := prog_8_method_43_code
def yX6_harvest : MethodName := ⟨RX6, "harvest", "()I"⟩
abbrev cX6_undo : ByteArray := prog_8_method_44_code
def yX6_undo : MethodName := ⟨RX6, "undo", "()I"⟩
abbrev cX6_ahead : ByteArray := prog_8_method_45_code
def yX6_ahead : MethodName := ⟨RX6, "ahead", "(II)I"⟩
abbrev cX6_isSownBy : ByteArray := prog_8_method_46_code
def yX6_isSownBy : MethodName := ⟨RX6, "isSownBy", "(II)Z"⟩
abbrev cX6_wants : ByteArray := prog_8_method_47_code
def yX6_wants : MethodName := ⟨RX6, "wants", "(I)I"⟩
abbrev cX6_rid : ByteArray := prog_8_method_48_code
def yX6_rid : MethodName := ⟨RX6, "rid", "(I)I"⟩
abbrev cX6_longPower : ByteArray := prog_8_method_49_code
def yX6_longPower : MethodName := ⟨RX6, "longPower", "(JI)J"⟩
abbrev cX6_eats : ByteArray := prog_8_method_50_code
def yX6_eats : MethodName := ⟨RX6, "eats", "(II)Z"⟩
abbrev cX6_does : ByteArray := prog_8_method_51_code
def yX6_does : MethodName := ⟨RX6, "does", "(I)Z"⟩
abbrev cX6_judge : ByteArray := prog_8_method_52_code
def yX6_judge : MethodName := ⟨RX6, "judge", "(IJ)I"⟩
abbrev cX6_ways : ByteArray := prog_8_method_53_code
def yX6_ways : MethodName := ⟨RX6, "ways", "(I)I"⟩
abbrev cX6_divisor : ByteArray := prog_8_method_54_code
def yX6_divisor : MethodName := ⟨RX6, "divisor", "(II)I"⟩
abbrev cX6_fraction : ByteArray := prog_8_method_55_code
def yX6_fraction : MethodName := ⟨RX6, "fraction", "(IIZ)I"⟩
abbrev cX6_share : ByteArray := prog_8_method_56_code
def yX6_share : MethodName := ⟨RX6, "share", "(IZ)I"⟩
abbrev cX6_came : ByteArray := prog_8_method_57_code
def yX6_came : MethodName := ⟨RX6, "came", "(II)I"⟩
abbrev cX6_forget : ByteArray := prog_8_method_58_code
def yX6_forget : MethodName := ⟨RX6, "forget", "()I"⟩
abbrev cX6_strangers : ByteArray := prog_8_method_59_code
def yX6_strangers : MethodName := ⟨RX6, "strangers", "(I)I"⟩
abbrev cX6_rests : ByteArray := prog_8_method_60_code
def yX6_rests : MethodName := ⟨RX6, "rests", "(IIII)I"⟩
abbrev cX6_home : ByteArray := prog_8_method_61_code
def yX6_home : MethodName := ⟨RX6, "home", "(IIZ)I"⟩
abbrev cX6_seed : ByteArray := prog_8_method_62_code
def yX6_seed : MethodName := ⟨RX6, "seed", "(J)J"⟩
abbrev cX6_years : ByteArray := prog_8_method_63_code
def yX6_years : MethodName := ⟨RX6, "years", "(I)I"⟩
abbrev cX6_keep : ByteArray := prog_8_method_64_code
def yX6_keep : MethodName := ⟨RX6, "keep", "(I)I"⟩
abbrev cX6_again : ByteArray := prog_8_method_65_code
def yX6_again : MethodName := ⟨RX6, "again", "(I)I"⟩
def RJ6 : String := "java/lang/Integer"
def TJ6 : u_T := fun k => match k with
  | _ => ("", "", "", false)
def tyJ6 : Nat → FieldType := fun k => match k with
  | _ => .int
abbrev wsJ60 : List Cond := u_ws RJ6 TJ6 0
theorem nmJ6 : ∀ a, a < 0 → ∀ b, b < 0 → a ≠ b → (TJ6 a).2.1 ≠ (TJ6 b).2.1 := by decide +kernel
theorem tyJ6_ok : ∀ k, k < 0 → parseFieldDescriptor (TJ6 k).2.2.1 = some (tyJ6 k) := by decide +kernel
abbrev cJ6_bitCount_0f7a4 : ByteArray := prog_9_method_49_code
def yJ6_bitCount_0f7a4 : MethodName := ⟨RJ6, "bitCount", "(I)I"⟩
def RJ9 : String := "java/lang/Math"
def TJ9 : u_T := fun k => match k with
  | _ => ("", "", "", false)
def tyJ9 : Nat → FieldType := fun k => match k with
  | _ => .int
abbrev wsJ90 : List Cond := u_ws RJ9 TJ9 0
theorem nmJ9 : ∀ a, a < 0 → ∀ b, b < 0 → a ≠ b → (TJ9 a).2.1 ≠ (TJ9 b).2.1 := by decide +kernel
theorem tyJ9_ok : ∀ k, k < 0 → parseFieldDescriptor (TJ9 k).2.2.1 = some (tyJ9 k) := by decide +kernel
abbrev cJ9_abs_0f7a4 : ByteArray := prog_10_method_59_code
def yJ9_abs_0f7a4 : MethodName := ⟨RJ9, "abs", "(I)I"⟩
abbrev cJ9_min_7cf53 : ByteArray := prog_10_method_69_code
def yJ9_min_7cf53 : MethodName := ⟨RJ9, "min", "(II)I"⟩
def RJ10 : String := "java/lang/System"
def TJ10 : u_T := fun k => match k with
  | _ => ("", "", "", false)
def tyJ10 : Nat → FieldType := fun k => match k with
  | _ => .int
abbrev wsJ100 : List Cond := u_ws RJ10 TJ10 0
theorem nmJ10 : ∀ a, a < 0 → ∀ b, b < 0 → a ≠ b → (TJ10 a).2.1 ≠ (TJ10 b).2.1 := by decide +kernel
theorem tyJ10_ok : ∀ k, k < 0 → parseFieldDescriptor (TJ10 k).2.2.1 = some (tyJ10 k) := by decide +kernel
def RL : String := "OwedFurrowsLaw"
abbrev cL_law : ByteArray := code
def yL_law : MethodName := ⟨RL, "law", "([I)Z"⟩
end
section
/-! The judgement V: the kit's W with heap, locals and written places quantified away; a rule an instruction. -/
def wds : List Cond := lw_tbl.filter goodWord
theorem wd {w : Cond} (h : w ∈ lw_tbl) (q : goodWord w = true) : w ∈ wds := List.mem_filter.mpr ⟨h, q⟩
theorem wd_at {w : Cond} (i : Nat) (h : lw_tbl[i]? = some w) (q : goodWord w = true) : w ∈ wds := wd (List.mem_of_getElem? h) q
theorem wd_good : GoodIn wds wds := fun w hw => ⟨hw, good_of_word (List.mem_filter.mp hw).2⟩
abbrev Gx : Type := va_G × ClassId × ClassId × ClassId
abbrev classes : List vw_C := [(RX0, TX0, 3), (RX1, TX1, 7), (RX2, TX2, 8), (RX3, TX3, 2), (RX4, TX4, 3), (RX5, TX5, 10), (RX6, TX6, 34)]
abbrev tysG (g : Gx) : List (ClassId × FieldType) := [(g.2.1, .int), (g.2.2.1, .boolean), (g.2.2.2, .object RX1)]
/-- a method: its bytes, locals, class, answer -/
abbrev MS : Type := ByteArray × Nat × String × Option FieldType
/-- the machine's own things, which a walk never looks at -/
abbrev MV : Type := Program × Launch × Env × Room × State × MethodId × Array Value × List Frame × Method × Code
def Nx (M : MS) (pc : Nat) (i : Instr) (len pc' : Nat) : Prop := decode M.1 pc = .ok (i, len) ∧ pc + len = pc'
def Bd (g : Gx) (E : MV) (M : MS) (A : Nat → Prop) : Prop := E.1.tables.exec = Jvm.exec ∧ E.2.2.2.2.2.2.2.2.2.code = M.1 ∧ E.2.2.2.2.2.2.2.2.2.maxLocals = M.2.1 ∧ E.2.2.2.2.1.vm.findClass M.2.2.1 = some E.2.2.2.2.2.1.cls ∧ (∀ w ∈ wds, w.before E.2.2.2.2.2.2.1 E.2.2.2.2.1 = true) ∧ E.2.2.2.2.2.2.2.2.1.sig.returnType = M.2.2.2 ∧ E.2.2.2.2.2.2.2.2.1.locks = false ∧ va_K g.1 classes (tysG g) E.2.2.2.2.1 ∧ (∀ q : Nat, E.2.2.2.2.1.heap.size ≤ q → A q)
abbrev Wf (E : MV) (H : Heap) (locs : List Loc) (kc ks : Nat) (Q : State → Prop) (f : JFrame) : Prop := W E.1 E.2.1 E.2.2.1 E.2.2.2.1 E.2.2.2.2.1 E.2.2.2.2.2.1 E.2.2.2.2.2.2.1 E.2.2.2.2.2.2.2.1 E.2.2.2.2.2.2.2.2.1 E.2.2.2.2.2.2.2.2.2 H locs kc ks Q f
def V (g : Gx) (E : MV) (M : MS) (A : Nat → Prop) (Q : State → Prop) (kc ks : Nat) (ws : va_W) (pc : Nat) (lv : List (Nat × Value)) (st : List Value) : Prop :=
  Bd g E M A → ∀ (ls : Array Slot) (H : Heap) (locs : List Loc), lv_has ls M.2.1 lv → va_P g.1 classes ws H → va_D A ws → va_S A E.2.2.2.2.1.heap H locs → Wf E H locs kc ks Q (F0 E.2.2.2.2.2.1 pc ls st)
/-- a truth value as an int -/
def bI (b : Bool) : Int32 := if b then 1 else 0
theorem bI_t : bI true = 1 := rfl
theorem bI_f : bI false = 0 := rfl
theorem bI_n (b : Bool) : narrow .boolean (.int (bI b)) = .int (bI b) := by cases b <;> decide
theorem bI_0 {b : Bool} : bI b = 0 ↔ b = false := by cases b <;> decide
theorem bI_1 {b : Bool} : bI b = 1 ↔ b = true := by cases b <;> decide
theorem nI_of_int (n : Nat) : Int32.ofInt (n : Int) = nI n := rfl
/-- locals: a sorted list of places and values -/
def lvGet : List (Nat × Value) → Nat → Option Value
  | [], _ => none
  | q :: r, i => bif Nat.beq q.1 i then some q.2 else lvGet r i
def lvIns : List (Nat × Value) → Nat × Value → List (Nat × Value)
  | [], p => [p]
  | q :: r, p => bif Nat.blt q.1 p.1 then q :: lvIns r p else p :: q :: r
def lvPut (lv : List (Nat × Value)) (i : Nat) (v : Value) : List (Nat × Value) := lvIns (lv.filter (fun q => !(q.1 == i) && !(q.1 + 1 == i && q.2.category == 2))) (i, v)
def lvPut2 (lv : List (Nat × Value)) (i : Nat) (v : Value) : List (Nat × Value) := lvIns (lv.filter (fun q => !(q.1 == i) && (!(q.1 == i + 1) && !(q.1 + 1 == i && q.2.category == 2)))) (i, v)
theorem lvIns_mem {p q : Nat × Value} : ∀ {l : List (Nat × Value)}, q ∈ lvIns l p → q = p ∨ q ∈ l
  | [], h => by
    simp only [lvIns, List.mem_singleton] at h
    exact Or.inl h
  | x :: r, h => by
    unfold lvIns at h
    cases hb : Nat.blt x.1 p.1 with
    | true =>
      rw [hb, cond_true] at h
      rcases List.mem_cons.mp h with h | h
      · exact Or.inr (by rw [h]; exact List.mem_cons_self)
      · rcases lvIns_mem h with h | h
        · exact Or.inl h
        · exact Or.inr (List.mem_cons_of_mem _ h)
    | false =>
      rw [hb, cond_false] at h
      exact List.mem_cons.mp h
theorem lvGet_mem {i : Nat} {v : Value} : ∀ {l : List (Nat × Value)}, lvGet l i = some v → (i, v) ∈ l
  | [], h => by cases h
  | x :: r, h => by
    unfold lvGet at h
    cases hb : Nat.beq x.1 i with
    | true =>
      rw [hb, cond_true] at h
      have e := Nat.eq_of_beq_eq_true hb
      subst e
      cases h
      exact List.mem_cons_self
    | false =>
      rw [hb, cond_false] at h
      exact List.mem_cons_of_mem _ (lvGet_mem h)
theorem lv_gets {ls : Array Slot} {nL i : Nat} {v : Value} {lv : List (Nat × Value)} (h : lv_has ls nL lv) (hg : lvGet lv i = some v) : ls[i]? = some (.val v) := h.2.2 (i, v) (lvGet_mem hg)
theorem lv_less {ls : Array Slot} {nL : Nat} {l l' : List (Nat × Value)} (h : lv_has ls nL l) (hs : ∀ q ∈ l', q ∈ l) : lv_has ls nL l' := ⟨h.1, h.2.1, fun q hq => h.2.2 q (hs q hq)⟩
theorem lv_put {ls : Array Slot} {nL i : Nat} {v : Value} {lv : List (Nat × Value)} (h : lv_has ls nL ((i, v) :: lv.filter (fun q => !(q.1 == i) && !(q.1 + 1 == i && q.2.category == 2)))) : lv_has ls nL (lvPut lv i v) := lv_less h (fun q hq => List.mem_cons.mpr (lvIns_mem hq))
theorem lv_put2 {ls : Array Slot} {nL i : Nat} {v : Value} {lv : List (Nat × Value)} (h : lv_has ls nL ((i, v) :: lv.filter (fun q => !(q.1 == i) && (!(q.1 == i + 1) && !(q.1 + 1 == i && q.2.category == 2))))) : lv_has ls nL (lvPut2 lv i v) := lv_less h (fun q hq => List.mem_cons.mpr (lvIns_mem hq))
section VR
variable {g : Gx} {E : MV} {M : MS} {A : Nat → Prop} {Q : State → Prop} {kc ks : Nat} {ws ws' : va_W} {pc pc' : Nat} {lv lv' : List (Nat × Value)} {st : List Value}
theorem V_iconst {n : Int} {v : Int32} (hd : Nx M pc (.iconst n) 1 pc') (hv : Int32.ofInt n = v) (kk : V g E M A Q kc ks ws pc' lv (.int v :: st)) : V g E M A Q kc ks ws pc lv st := by
  obtain ⟨hd, rfl⟩ := hd
  intro B ls H locs hl hP hD hS
  exact lv_iconst B.1 B.2.1 hd hv (kk B ls H locs hl hP hD hS)
theorem V_bipush {n : Int} {v : Int32} (hd : Nx M pc (.bipush n) 2 pc') (hv : (Int8.ofInt n).toInt32 = v) (kk : V g E M A Q kc ks ws pc' lv (.int v :: st)) : V g E M A Q kc ks ws pc lv st := by
  obtain ⟨hd, rfl⟩ := hd
  intro B ls H locs hl hP hD hS
  exact lv_bipush B.1 B.2.1 hd hv (kk B ls H locs hl hP hD hS)
theorem V_sipush {n : Int} {v : Int32} (hd : Nx M pc (.sipush n) 3 pc') (hv : (Int16.ofInt n).toInt32 = v) (kk : V g E M A Q kc ks ws pc' lv (.int v :: st)) : V g E M A Q kc ks ws pc lv st := by
  obtain ⟨hd, rfl⟩ := hd
  intro B ls H locs hl hP hD hS
  exact lv_sipush B.1 B.2.1 hd hv (kk B ls H locs hl hP hD hS)
theorem V_lconst {n : Fin 2} {v : Int64} (hd : Nx M pc (.lconst n) 1 pc') (hv : Int64.ofNat (n : Nat) = v) (kk : V g E M A Q kc ks ws pc' lv (.long v :: st)) : V g E M A Q kc ks ws pc lv st := by
  obtain ⟨hd, rfl⟩ := hd
  intro B ls H locs hl hP hD hS
  exact lv_lconst B.1 B.2.1 hd hv (kk B ls H locs hl hP hD hS)
theorem V_iload_n {k : Fin 4} {x : Int32} (hd : Nx M pc (.iload_n k) 1 pc') (hg : lvGet lv (k : Nat) = some (.int x)) (kk : V g E M A Q kc ks ws pc' lv (.int x :: st)) : V g E M A Q kc ks ws pc lv st := by
  obtain ⟨hd, rfl⟩ := hd
  intro B ls H locs hl hP hD hS
  exact lv_iload_n B.1 B.2.1 hd rfl (lv_gets hl hg) (kk B ls H locs hl hP hD hS)
theorem V_iload {i : Nat} {x : Int32} (hd : Nx M pc (.iload i) 2 pc') (hg : lvGet lv i = some (.int x)) (kk : V g E M A Q kc ks ws pc' lv (.int x :: st)) : V g E M A Q kc ks ws pc lv st := by
  obtain ⟨hd, rfl⟩ := hd
  intro B ls H locs hl hP hD hS
  exact lv_iload B.1 B.2.1 hd (lv_gets hl hg) (kk B ls H locs hl hP hD hS)
theorem V_lload_n {k : Fin 4} {x : Int64} (hd : Nx M pc (.lload_n k) 1 pc') (hg : lvGet lv (k : Nat) = some (.long x)) (kk : V g E M A Q kc ks ws pc' lv (.long x :: st)) : V g E M A Q kc ks ws pc lv st := by
  obtain ⟨hd, rfl⟩ := hd
  intro B ls H locs hl hP hD hS
  exact lv_lload_n B.1 B.2.1 hd rfl (lv_gets hl hg) (kk B ls H locs hl hP hD hS)
theorem V_lload {i : Nat} {x : Int64} (hd : Nx M pc (.lload i) 2 pc') (hg : lvGet lv i = some (.long x)) (kk : V g E M A Q kc ks ws pc' lv (.long x :: st)) : V g E M A Q kc ks ws pc lv st := by
  obtain ⟨hd, rfl⟩ := hd
  intro B ls H locs hl hP hD hS
  exact lv_lload B.1 B.2.1 hd (lv_gets hl hg) (kk B ls H locs hl hP hD hS)
theorem V_aload_n {k : Fin 4} {x : Nat} (hd : Nx M pc (.aload_n k) 1 pc') (hg : lvGet lv (k : Nat) = some (.ref x)) (kk : V g E M A Q kc ks ws pc' lv (.ref x :: st)) : V g E M A Q kc ks ws pc lv st := by
  obtain ⟨hd, rfl⟩ := hd
  intro B ls H locs hl hP hD hS
  exact lv_aload_n B.1 B.2.1 hd rfl (lv_gets hl hg) (kk B ls H locs hl hP hD hS)
theorem V_aload {i : Nat} {x : Nat} (hd : Nx M pc (.aload i) 2 pc') (hg : lvGet lv i = some (.ref x)) (kk : V g E M A Q kc ks ws pc' lv (.ref x :: st)) : V g E M A Q kc ks ws pc lv st := by
  obtain ⟨hd, rfl⟩ := hd
  intro B ls H locs hl hP hD hS
  exact lv_aload B.1 B.2.1 hd (lv_gets hl hg) (kk B ls H locs hl hP hD hS)
theorem V_istore_n {k : Fin 4} {x : Int32} (hd : Nx M pc (.istore_n k) 1 pc') (hn : (k : Nat) < M.2.1) (hp : lvPut lv (k : Nat) (.int x) = lv') (kk : V g E M A Q kc ks ws pc' lv' st) : V g E M A Q kc ks ws pc lv (.int x :: st) := by
  obtain ⟨hd, rfl⟩ := hd
  intro B ls H locs hl hP hD hS
  exact lv_istore_n B.1 B.2.1 hd rfl hl hn rfl (fun ls' hl' => kk B ls' H locs (by rw [← hp]; exact lv_put hl') hP hD hS)
theorem V_istore {i : Nat} {x : Int32} (hd : Nx M pc (.istore i) 2 pc') (hn : i < M.2.1) (hp : lvPut lv i (.int x) = lv') (kk : V g E M A Q kc ks ws pc' lv' st) : V g E M A Q kc ks ws pc lv (.int x :: st) := by
  obtain ⟨hd, rfl⟩ := hd
  intro B ls H locs hl hP hD hS
  exact lv_istore B.1 B.2.1 hd hl hn rfl (fun ls' hl' => kk B ls' H locs (by rw [← hp]; exact lv_put hl') hP hD hS)
theorem V_lstore_n {k : Fin 4} {x : Int64} (hd : Nx M pc (.lstore_n k) 1 pc') (hn : (k : Nat) + 1 < M.2.1) (hp : lvPut2 lv (k : Nat) (.long x) = lv') (kk : V g E M A Q kc ks ws pc' lv' st) : V g E M A Q kc ks ws pc lv (.long x :: st) := by
  obtain ⟨hd, rfl⟩ := hd
  intro B ls H locs hl hP hD hS
  exact lv_lstore_n B.1 B.2.1 hd rfl hl hn rfl (fun ls' hl' => kk B ls' H locs (by rw [← hp]; exact lv_put2 hl') hP hD hS)
theorem V_lstore {i : Nat} {x : Int64} (hd : Nx M pc (.lstore i) 2 pc') (hn : i + 1 < M.2.1) (hp : lvPut2 lv i (.long x) = lv') (kk : V g E M A Q kc ks ws pc' lv' st) : V g E M A Q kc ks ws pc lv (.long x :: st) := by
  obtain ⟨hd, rfl⟩ := hd
  intro B ls H locs hl hP hD hS
  exact lv_lstore B.1 B.2.1 hd hl hn rfl (fun ls' hl' => kk B ls' H locs (by rw [← hp]; exact lv_put2 hl') hP hD hS)
theorem V_astore_n {k : Fin 4} {x : Nat} (hd : Nx M pc (.astore_n k) 1 pc') (hn : (k : Nat) < M.2.1) (hp : lvPut lv (k : Nat) (.ref x) = lv') (kk : V g E M A Q kc ks ws pc' lv' st) : V g E M A Q kc ks ws pc lv (.ref x :: st) := by
  obtain ⟨hd, rfl⟩ := hd
  intro B ls H locs hl hP hD hS
  exact lv_astore_n B.1 B.2.1 hd rfl hl hn rfl (fun ls' hl' => kk B ls' H locs (by rw [← hp]; exact lv_put hl') hP hD hS)
theorem V_astore {i : Nat} {x : Nat} (hd : Nx M pc (.astore i) 2 pc') (hn : i < M.2.1) (hp : lvPut lv i (.ref x) = lv') (kk : V g E M A Q kc ks ws pc' lv' st) : V g E M A Q kc ks ws pc lv (.ref x :: st) := by
  obtain ⟨hd, rfl⟩ := hd
  intro B ls H locs hl hP hD hS
  exact lv_astore B.1 B.2.1 hd hl hn rfl (fun ls' hl' => kk B ls' H locs (by rw [← hp]; exact lv_put hl') hP hD hS)
theorem lv_get_at : ∀ {l : List (Nat × Value)} {i : Nat} {v : Value}, lvGet l i = some v → ∃ k : Nat, l[k]? = some (i, v) := fun h => List.getElem?_of_mem (lvGet_mem h)
theorem V_iinc {i : Nat} {n : Int} {x v : Int32} (hd : Nx M pc (.iinc i n) 3 pc') (hg : lvGet lv i = some (.int x)) (hv : x + Int32.ofInt n = v) (hn : i < M.2.1) (hp : lvPut lv i (.int v) = lv') (kk : V g E M A Q kc ks ws pc' lv' st) : V g E M A Q kc ks ws pc lv st := by
  obtain ⟨hd, rfl⟩ := hd
  intro B ls H locs hl hP hD hS
  obtain ⟨k, hk⟩ := lv_get_at hg
  exact lv_iinc B.1 B.2.1 hd hl hk hv hn rfl (fun ls' hl' => kk B ls' H locs (by rw [← hp]; exact lv_put hl') hP hD hS)
theorem V_iadd {x y v : Int32} (hd : Nx M pc .iadd 1 pc') (hv : x + y = v) (kk : V g E M A Q kc ks ws pc' lv (.int v :: st)) : V g E M A Q kc ks ws pc lv (.int y :: .int x :: st) := by
  obtain ⟨hd, rfl⟩ := hd
  intro B ls H locs hl hP hD hS
  subst hv
  exact lv_iadd B.1 B.2.1 hd (kk B ls H locs hl hP hD hS)
theorem V_isub {x y v : Int32} (hd : Nx M pc .isub 1 pc') (hv : x - y = v) (kk : V g E M A Q kc ks ws pc' lv (.int v :: st)) : V g E M A Q kc ks ws pc lv (.int y :: .int x :: st) := by
  obtain ⟨hd, rfl⟩ := hd
  intro B ls H locs hl hP hD hS
  subst hv
  exact lv_isub B.1 B.2.1 hd (kk B ls H locs hl hP hD hS)
theorem V_imul {x y v : Int32} (hd : Nx M pc .imul 1 pc') (hv : x * y = v) (kk : V g E M A Q kc ks ws pc' lv (.int v :: st)) : V g E M A Q kc ks ws pc lv (.int y :: .int x :: st) := by
  obtain ⟨hd, rfl⟩ := hd
  intro B ls H locs hl hP hD hS
  subst hv
  exact lv_imul B.1 B.2.1 hd (kk B ls H locs hl hP hD hS)
theorem V_iand {x y v : Int32} (hd : Nx M pc .iand 1 pc') (hv : x &&& y = v) (kk : V g E M A Q kc ks ws pc' lv (.int v :: st)) : V g E M A Q kc ks ws pc lv (.int y :: .int x :: st) := by
  obtain ⟨hd, rfl⟩ := hd
  intro B ls H locs hl hP hD hS
  subst hv
  exact lv_iand B.1 B.2.1 hd (kk B ls H locs hl hP hD hS)
theorem V_ior {x y v : Int32} (hd : Nx M pc .ior 1 pc') (hv : x ||| y = v) (kk : V g E M A Q kc ks ws pc' lv (.int v :: st)) : V g E M A Q kc ks ws pc lv (.int y :: .int x :: st) := by
  obtain ⟨hd, rfl⟩ := hd
  intro B ls H locs hl hP hD hS
  subst hv
  exact lv_ior B.1 B.2.1 hd (kk B ls H locs hl hP hD hS)
theorem V_ixor {x y v : Int32} (hd : Nx M pc .ixor 1 pc') (hv : x ^^^ y = v) (kk : V g E M A Q kc ks ws pc' lv (.int v :: st)) : V g E M A Q kc ks ws pc lv (.int y :: .int x :: st) := by
  obtain ⟨hd, rfl⟩ := hd
  intro B ls H locs hl hP hD hS
  subst hv
  exact lv_ixor B.1 B.2.1 hd (kk B ls H locs hl hP hD hS)
theorem V_ishl {x y v : Int32} (hd : Nx M pc .ishl 1 pc') (hv : x <<< (y &&& 31) = v) (kk : V g E M A Q kc ks ws pc' lv (.int v :: st)) : V g E M A Q kc ks ws pc lv (.int y :: .int x :: st) := by
  obtain ⟨hd, rfl⟩ := hd
  intro B ls H locs hl hP hD hS
  subst hv
  exact lv_ishl B.1 B.2.1 hd (kk B ls H locs hl hP hD hS)
theorem V_ishr {x y v : Int32} (hd : Nx M pc .ishr 1 pc') (hv : x >>> (y &&& 31) = v) (kk : V g E M A Q kc ks ws pc' lv (.int v :: st)) : V g E M A Q kc ks ws pc lv (.int y :: .int x :: st) := by
  obtain ⟨hd, rfl⟩ := hd
  intro B ls H locs hl hP hD hS
  subst hv
  exact lv_ishr B.1 B.2.1 hd (kk B ls H locs hl hP hD hS)
theorem V_ladd {x y v : Int64} (hd : Nx M pc .ladd 1 pc') (hv : x + y = v) (kk : V g E M A Q kc ks ws pc' lv (.long v :: st)) : V g E M A Q kc ks ws pc lv (.long y :: .long x :: st) := by
  obtain ⟨hd, rfl⟩ := hd
  intro B ls H locs hl hP hD hS
  subst hv
  exact lv_ladd B.1 B.2.1 hd (kk B ls H locs hl hP hD hS)
theorem V_lsub {x y v : Int64} (hd : Nx M pc .lsub 1 pc') (hv : x - y = v) (kk : V g E M A Q kc ks ws pc' lv (.long v :: st)) : V g E M A Q kc ks ws pc lv (.long y :: .long x :: st) := by
  obtain ⟨hd, rfl⟩ := hd
  intro B ls H locs hl hP hD hS
  subst hv
  exact lv_lsub B.1 B.2.1 hd (kk B ls H locs hl hP hD hS)
theorem V_lmul {x y v : Int64} (hd : Nx M pc .lmul 1 pc') (hv : x * y = v) (kk : V g E M A Q kc ks ws pc' lv (.long v :: st)) : V g E M A Q kc ks ws pc lv (.long y :: .long x :: st) := by
  obtain ⟨hd, rfl⟩ := hd
  intro B ls H locs hl hP hD hS
  subst hv
  exact lv_lmul B.1 B.2.1 hd (kk B ls H locs hl hP hD hS)
theorem V_land {x y v : Int64} (hd : Nx M pc .land 1 pc') (hv : x &&& y = v) (kk : V g E M A Q kc ks ws pc' lv (.long v :: st)) : V g E M A Q kc ks ws pc lv (.long y :: .long x :: st) := by
  obtain ⟨hd, rfl⟩ := hd
  intro B ls H locs hl hP hD hS
  subst hv
  exact lv_land B.1 B.2.1 hd (kk B ls H locs hl hP hD hS)
theorem V_lor {x y v : Int64} (hd : Nx M pc .lor 1 pc') (hv : x ||| y = v) (kk : V g E M A Q kc ks ws pc' lv (.long v :: st)) : V g E M A Q kc ks ws pc lv (.long y :: .long x :: st) := by
  obtain ⟨hd, rfl⟩ := hd
  intro B ls H locs hl hP hD hS
  subst hv
  exact lv_lor B.1 B.2.1 hd (kk B ls H locs hl hP hD hS)
theorem V_idiv {x y v : Int32} (hd : Nx M pc .idiv 1 pc') (hne : ¬ y = 0) (hv : x / y = v) (kk : V g E M A Q kc ks ws pc' lv (.int v :: st)) : V g E M A Q kc ks ws pc lv (.int y :: .int x :: st) := by
  obtain ⟨hd, rfl⟩ := hd
  intro B ls H locs hl hP hD hS
  subst hv
  exact lv_idiv B.1 B.2.1 hd hne (kk B ls H locs hl hP hD hS)
theorem V_irem {x y v : Int32} (hd : Nx M pc .irem 1 pc') (hne : ¬ y = 0) (hv : x - x / y * y = v) (kk : V g E M A Q kc ks ws pc' lv (.int v :: st)) : V g E M A Q kc ks ws pc lv (.int y :: .int x :: st) := by
  obtain ⟨hd, rfl⟩ := hd
  intro B ls H locs hl hP hD hS
  subst hv
  exact lv_irem B.1 B.2.1 hd hne (kk B ls H locs hl hP hD hS)
theorem V_ldiv {x y v : Int64} (hd : Nx M pc .ldiv 1 pc') (hne : ¬ y = 0) (hv : x / y = v) (kk : V g E M A Q kc ks ws pc' lv (.long v :: st)) : V g E M A Q kc ks ws pc lv (.long y :: .long x :: st) := by
  obtain ⟨hd, rfl⟩ := hd
  intro B ls H locs hl hP hD hS
  subst hv
  exact lv_ldiv B.1 B.2.1 hd hne (kk B ls H locs hl hP hD hS)
theorem V_lrem {x y v : Int64} (hd : Nx M pc .lrem 1 pc') (hne : ¬ y = 0) (hv : x - x / y * y = v) (kk : V g E M A Q kc ks ws pc' lv (.long v :: st)) : V g E M A Q kc ks ws pc lv (.long y :: .long x :: st) := by
  obtain ⟨hd, rfl⟩ := hd
  intro B ls H locs hl hP hD hS
  subst hv
  exact lv_lrem B.1 B.2.1 hd hne (kk B ls H locs hl hP hD hS)
theorem V_ineg {x v : Int32} (hd : Nx M pc .ineg 1 pc') (hv : -x = v) (kk : V g E M A Q kc ks ws pc' lv (.int v :: st)) : V g E M A Q kc ks ws pc lv (.int x :: st) := by
  obtain ⟨hd, rfl⟩ := hd
  intro B ls H locs hl hP hD hS
  subst hv
  exact lv_ineg B.1 B.2.1 hd (kk B ls H locs hl hP hD hS)
theorem V_i2l {x : Int32} {v : Int64} (hd : Nx M pc .i2l 1 pc') (hv : x.toInt64 = v) (kk : V g E M A Q kc ks ws pc' lv (.long v :: st)) : V g E M A Q kc ks ws pc lv (.int x :: st) := by
  obtain ⟨hd, rfl⟩ := hd
  intro B ls H locs hl hP hD hS
  exact lv_i2l B.1 B.2.1 hd hv (kk B ls H locs hl hP hD hS)
theorem V_l2i {x : Int64} {v : Int32} (hd : Nx M pc .l2i 1 pc') (hv : x.toInt32 = v) (kk : V g E M A Q kc ks ws pc' lv (.int v :: st)) : V g E M A Q kc ks ws pc lv (.long x :: st) := by
  obtain ⟨hd, rfl⟩ := hd
  intro B ls H locs hl hP hD hS
  exact lv_l2i B.1 B.2.1 hd hv (kk B ls H locs hl hP hD hS)
theorem V_iushr {x y v : Int32} (hd : Nx M pc .iushr 1 pc') (hv : (x.toUInt32 >>> (y.toUInt32 &&& Int32.toUInt32 31)).toInt32 = v) (kk : V g E M A Q kc ks ws pc' lv (.int v :: st)) : V g E M A Q kc ks ws pc lv (.int y :: .int x :: st) := by
  obtain ⟨hd, rfl⟩ := hd
  intro B ls H locs hl hP hD hS
  exact lv_iushr B.1 B.2.1 hd hv (kk B ls H locs hl hP hD hS)
theorem V_lushr {x v : Int64} {y : Int32} (hd : Nx M pc .lushr 1 pc') (hv : (x.toUInt64 >>> (y.toInt64.toUInt64 &&& Int64.toUInt64 63)).toInt64 = v) (kk : V g E M A Q kc ks ws pc' lv (.long v :: st)) : V g E M A Q kc ks ws pc lv (.int y :: .long x :: st) := by
  obtain ⟨hd, rfl⟩ := hd
  intro B ls H locs hl hP hD hS
  exact lv_lushr B.1 B.2.1 hd hv (kk B ls H locs hl hP hD hS)
theorem V_lshl {x v : Int64} {y : Int32} (hd : Nx M pc .lshl 1 pc') (hv : x <<< (y.toInt64 &&& 63) = v) (kk : V g E M A Q kc ks ws pc' lv (.long v :: st)) : V g E M A Q kc ks ws pc lv (.int y :: .long x :: st) := by
  obtain ⟨hd, rfl⟩ := hd
  intro B ls H locs hl hP hD hS
  exact lv_lshl B.1 B.2.1 hd hv (kk B ls H locs hl hP hD hS)
theorem V_lcmp {x y : Int64} (hd : Nx M pc .lcmp 1 pc') (kk : V g E M A Q kc ks ws pc' lv (.int (lg_cmp x y) :: st)) : V g E M A Q kc ks ws pc lv (.long y :: .long x :: st) := by
  obtain ⟨hd, rfl⟩ := hd
  intro B ls H locs hl hP hD hS
  exact W.lcmp B.1 B.2.1 hd (kk B ls H locs hl hP hD hS)
theorem V_dup {va : Value} (hd : Nx M pc .dup 1 pc') (hva : va.category = 1) (kk : V g E M A Q kc ks ws pc' lv (va :: va :: st)) : V g E M A Q kc ks ws pc lv (va :: st) := by
  obtain ⟨hd, rfl⟩ := hd
  intro B ls H locs hl hP hD hS
  exact lv_dup B.1 B.2.1 hd hva (kk B ls H locs hl hP hD hS)
theorem V_pop {va : Value} (hd : Nx M pc .pop 1 pc') (hva : va.category = 1) (kk : V g E M A Q kc ks ws pc' lv st) : V g E M A Q kc ks ws pc lv (va :: st) := by
  obtain ⟨hd, rfl⟩ := hd
  intro B ls H locs hl hP hD hS
  exact lv_pop B.1 B.2.1 hd hva (kk B ls H locs hl hP hD hS)
theorem V_dup2 {va vb : Value} (hd : Nx M pc .dup2 1 pc') (hva : va.category = 1) (hvb : vb.category = 1) (kk : V g E M A Q kc ks ws pc' lv (va :: vb :: va :: vb :: st)) : V g E M A Q kc ks ws pc lv (va :: vb :: st) := by
  obtain ⟨hd, rfl⟩ := hd
  intro B ls H locs hl hP hD hS
  exact lv_dup2_11 B.1 B.2.1 hd hva hvb (kk B ls H locs hl hP hD hS)
theorem V_goto {off : Int} {tgt : Nat} (hd : Nx M pc (.goto off) 3 pc') (ht : (pc : Int) + off = (tgt : Int)) (kk : V g E M A Q kc ks ws tgt lv st) : V g E M A Q kc ks ws pc lv st := by
  intro B ls H locs hl hP hD hS
  exact lv_goto B.1 B.2.1 hd.1 ht (kk B ls H locs hl hP hD hS)
theorem V_icmp_eq {x y : Int32} {off : Int} {tgt : Nat} (hd : Nx M pc (.if_icmp .eq off) 3 pc') (ht : (pc : Int) + off = (tgt : Int)) (kt : x = y → V g E M A Q kc ks ws tgt lv st) (kf : ¬ x = y → V g E M A Q kc ks ws pc' lv st) : V g E M A Q kc ks ws pc lv (.int y :: .int x :: st) := by
  obtain ⟨hd, rfl⟩ := hd
  intro B ls H locs hl hP hD hS
  exact lv_icmp_eq B.1 B.2.1 hd ht (fun h => kt h B ls H locs hl hP hD hS) (fun h => kf h B ls H locs hl hP hD hS)
theorem V_if_eq {x : Int32} {off : Int} {tgt : Nat} (hd : Nx M pc (.ifCond .eq off) 3 pc') (ht : (pc : Int) + off = (tgt : Int)) (kt : x = 0 → V g E M A Q kc ks ws tgt lv st) (kf : ¬ x = 0 → V g E M A Q kc ks ws pc' lv st) : V g E M A Q kc ks ws pc lv (.int x :: st) := by
  obtain ⟨hd, rfl⟩ := hd
  intro B ls H locs hl hP hD hS
  exact lv_if_eq B.1 B.2.1 hd ht (fun h => kt h B ls H locs hl hP hD hS) (fun h => kf h B ls H locs hl hP hD hS)
theorem V_icmp_ne {x y : Int32} {off : Int} {tgt : Nat} (hd : Nx M pc (.if_icmp .ne off) 3 pc') (ht : (pc : Int) + off = (tgt : Int)) (kt : ¬ x = y → V g E M A Q kc ks ws tgt lv st) (kf : x = y → V g E M A Q kc ks ws pc' lv st) : V g E M A Q kc ks ws pc lv (.int y :: .int x :: st) := by
  obtain ⟨hd, rfl⟩ := hd
  intro B ls H locs hl hP hD hS
  exact lv_icmp_ne B.1 B.2.1 hd ht (fun h => kt h B ls H locs hl hP hD hS) (fun h => kf h B ls H locs hl hP hD hS)
theorem V_if_ne {x : Int32} {off : Int} {tgt : Nat} (hd : Nx M pc (.ifCond .ne off) 3 pc') (ht : (pc : Int) + off = (tgt : Int)) (kt : ¬ x = 0 → V g E M A Q kc ks ws tgt lv st) (kf : x = 0 → V g E M A Q kc ks ws pc' lv st) : V g E M A Q kc ks ws pc lv (.int x :: st) := by
  obtain ⟨hd, rfl⟩ := hd
  intro B ls H locs hl hP hD hS
  exact lv_if_ne B.1 B.2.1 hd ht (fun h => kt h B ls H locs hl hP hD hS) (fun h => kf h B ls H locs hl hP hD hS)
theorem V_icmp_lt {x y : Int32} {off : Int} {tgt : Nat} (hd : Nx M pc (.if_icmp .lt off) 3 pc') (ht : (pc : Int) + off = (tgt : Int)) (kt : x < y → V g E M A Q kc ks ws tgt lv st) (kf : ¬ x < y → V g E M A Q kc ks ws pc' lv st) : V g E M A Q kc ks ws pc lv (.int y :: .int x :: st) := by
  obtain ⟨hd, rfl⟩ := hd
  intro B ls H locs hl hP hD hS
  exact lv_icmp_lt B.1 B.2.1 hd ht (fun h => kt h B ls H locs hl hP hD hS) (fun h => kf h B ls H locs hl hP hD hS)
theorem V_if_lt {x : Int32} {off : Int} {tgt : Nat} (hd : Nx M pc (.ifCond .lt off) 3 pc') (ht : (pc : Int) + off = (tgt : Int)) (kt : x < 0 → V g E M A Q kc ks ws tgt lv st) (kf : ¬ x < 0 → V g E M A Q kc ks ws pc' lv st) : V g E M A Q kc ks ws pc lv (.int x :: st) := by
  obtain ⟨hd, rfl⟩ := hd
  intro B ls H locs hl hP hD hS
  exact lv_if_lt B.1 B.2.1 hd ht (fun h => kt h B ls H locs hl hP hD hS) (fun h => kf h B ls H locs hl hP hD hS)
theorem V_icmp_ge {x y : Int32} {off : Int} {tgt : Nat} (hd : Nx M pc (.if_icmp .ge off) 3 pc') (ht : (pc : Int) + off = (tgt : Int)) (kt : y ≤ x → V g E M A Q kc ks ws tgt lv st) (kf : ¬ y ≤ x → V g E M A Q kc ks ws pc' lv st) : V g E M A Q kc ks ws pc lv (.int y :: .int x :: st) := by
  obtain ⟨hd, rfl⟩ := hd
  intro B ls H locs hl hP hD hS
  exact lv_icmp_ge B.1 B.2.1 hd ht (fun h => kt h B ls H locs hl hP hD hS) (fun h => kf h B ls H locs hl hP hD hS)
theorem V_if_ge {x : Int32} {off : Int} {tgt : Nat} (hd : Nx M pc (.ifCond .ge off) 3 pc') (ht : (pc : Int) + off = (tgt : Int)) (kt : 0 ≤ x → V g E M A Q kc ks ws tgt lv st) (kf : ¬ 0 ≤ x → V g E M A Q kc ks ws pc' lv st) : V g E M A Q kc ks ws pc lv (.int x :: st) := by
  obtain ⟨hd, rfl⟩ := hd
  intro B ls H locs hl hP hD hS
  exact lv_if_ge B.1 B.2.1 hd ht (fun h => kt h B ls H locs hl hP hD hS) (fun h => kf h B ls H locs hl hP hD hS)
theorem V_icmp_gt {x y : Int32} {off : Int} {tgt : Nat} (hd : Nx M pc (.if_icmp .gt off) 3 pc') (ht : (pc : Int) + off = (tgt : Int)) (kt : y < x → V g E M A Q kc ks ws tgt lv st) (kf : ¬ y < x → V g E M A Q kc ks ws pc' lv st) : V g E M A Q kc ks ws pc lv (.int y :: .int x :: st) := by
  obtain ⟨hd, rfl⟩ := hd
  intro B ls H locs hl hP hD hS
  exact lv_icmp_gt B.1 B.2.1 hd ht (fun h => kt h B ls H locs hl hP hD hS) (fun h => kf h B ls H locs hl hP hD hS)
theorem V_if_gt {x : Int32} {off : Int} {tgt : Nat} (hd : Nx M pc (.ifCond .gt off) 3 pc') (ht : (pc : Int) + off = (tgt : Int)) (kt : 0 < x → V g E M A Q kc ks ws tgt lv st) (kf : ¬ 0 < x → V g E M A Q kc ks ws pc' lv st) : V g E M A Q kc ks ws pc lv (.int x :: st) := by
  obtain ⟨hd, rfl⟩ := hd
  intro B ls H locs hl hP hD hS
  exact lv_if_gt B.1 B.2.1 hd ht (fun h => kt h B ls H locs hl hP hD hS) (fun h => kf h B ls H locs hl hP hD hS)
theorem V_icmp_le {x y : Int32} {off : Int} {tgt : Nat} (hd : Nx M pc (.if_icmp .le off) 3 pc') (ht : (pc : Int) + off = (tgt : Int)) (kt : x ≤ y → V g E M A Q kc ks ws tgt lv st) (kf : ¬ x ≤ y → V g E M A Q kc ks ws pc' lv st) : V g E M A Q kc ks ws pc lv (.int y :: .int x :: st) := by
  obtain ⟨hd, rfl⟩ := hd
  intro B ls H locs hl hP hD hS
  exact lv_icmp_le B.1 B.2.1 hd ht (fun h => kt h B ls H locs hl hP hD hS) (fun h => kf h B ls H locs hl hP hD hS)
theorem V_if_le {x : Int32} {off : Int} {tgt : Nat} (hd : Nx M pc (.ifCond .le off) 3 pc') (ht : (pc : Int) + off = (tgt : Int)) (kt : x ≤ 0 → V g E M A Q kc ks ws tgt lv st) (kf : ¬ x ≤ 0 → V g E M A Q kc ks ws pc' lv st) : V g E M A Q kc ks ws pc lv (.int x :: st) := by
  obtain ⟨hd, rfl⟩ := hd
  intro B ls H locs hl hP hD hS
  exact lv_if_le B.1 B.2.1 hd ht (fun h => kt h B ls H locs hl hP hD hS) (fun h => kf h B ls H locs hl hP hD hS)
/-- both known by their numbers -/
theorem V_icmp_eq_N {a b : Nat} {off : Int} {tgt : Nat} (hd : Nx M pc (.if_icmp .eq off) 3 pc') (ht : (pc : Int) + off = (tgt : Int)) (ha : a < 2 ^ 31) (hb : b < 2 ^ 31) (kt : a = b → V g E M A Q kc ks ws tgt lv st) (kf : a ≠ b → V g E M A Q kc ks ws pc' lv st) : V g E M A Q kc ks ws pc lv (.int (nI b) :: .int (nI a) :: st) := by
  refine V_icmp_eq hd ht (fun h => kt ?_) (fun h => kf ?_)
  · exact (nI_eq ha hb).mp h
  · exact fun q => h ((nI_eq ha hb).mpr q)
/-- both known by their numbers -/
theorem V_icmp_ne_N {a b : Nat} {off : Int} {tgt : Nat} (hd : Nx M pc (.if_icmp .ne off) 3 pc') (ht : (pc : Int) + off = (tgt : Int)) (ha : a < 2 ^ 31) (hb : b < 2 ^ 31) (kt : a ≠ b → V g E M A Q kc ks ws tgt lv st) (kf : a = b → V g E M A Q kc ks ws pc' lv st) : V g E M A Q kc ks ws pc lv (.int (nI b) :: .int (nI a) :: st) := by
  refine V_icmp_ne hd ht (fun h => kt ?_) (fun h => kf ?_)
  · exact fun q => h ((nI_eq ha hb).mpr q)
  · exact (nI_eq ha hb).mp h
/-- both known by their numbers -/
theorem V_icmp_lt_N {a b : Nat} {off : Int} {tgt : Nat} (hd : Nx M pc (.if_icmp .lt off) 3 pc') (ht : (pc : Int) + off = (tgt : Int)) (ha : a < 2 ^ 31) (hb : b < 2 ^ 31) (kt : a < b → V g E M A Q kc ks ws tgt lv st) (kf : b ≤ a → V g E M A Q kc ks ws pc' lv st) : V g E M A Q kc ks ws pc lv (.int (nI b) :: .int (nI a) :: st) := by
  refine V_icmp_lt hd ht (fun h => kt ?_) (fun h => kf ?_)
  · exact (nI_ltI ha hb).mp h
  · rw [nI_ltI ha hb] at h; omega
/-- both known by their numbers -/
theorem V_icmp_ge_N {a b : Nat} {off : Int} {tgt : Nat} (hd : Nx M pc (.if_icmp .ge off) 3 pc') (ht : (pc : Int) + off = (tgt : Int)) (ha : a < 2 ^ 31) (hb : b < 2 ^ 31) (kt : b ≤ a → V g E M A Q kc ks ws tgt lv st) (kf : a < b → V g E M A Q kc ks ws pc' lv st) : V g E M A Q kc ks ws pc lv (.int (nI b) :: .int (nI a) :: st) := by
  refine V_icmp_ge hd ht (fun h => kt ?_) (fun h => kf ?_)
  · exact (nI_leI hb ha).mp h
  · rw [nI_leI hb ha] at h; omega
/-- both known by their numbers -/
theorem V_icmp_gt_N {a b : Nat} {off : Int} {tgt : Nat} (hd : Nx M pc (.if_icmp .gt off) 3 pc') (ht : (pc : Int) + off = (tgt : Int)) (ha : a < 2 ^ 31) (hb : b < 2 ^ 31) (kt : b < a → V g E M A Q kc ks ws tgt lv st) (kf : a ≤ b → V g E M A Q kc ks ws pc' lv st) : V g E M A Q kc ks ws pc lv (.int (nI b) :: .int (nI a) :: st) := by
  refine V_icmp_gt hd ht (fun h => kt ?_) (fun h => kf ?_)
  · exact (nI_ltI hb ha).mp h
  · rw [nI_ltI hb ha] at h; omega
/-- both known by their numbers -/
theorem V_icmp_le_N {a b : Nat} {off : Int} {tgt : Nat} (hd : Nx M pc (.if_icmp .le off) 3 pc') (ht : (pc : Int) + off = (tgt : Int)) (ha : a < 2 ^ 31) (hb : b < 2 ^ 31) (kt : a ≤ b → V g E M A Q kc ks ws tgt lv st) (kf : b < a → V g E M A Q kc ks ws pc' lv st) : V g E M A Q kc ks ws pc lv (.int (nI b) :: .int (nI a) :: st) := by
  refine V_icmp_le hd ht (fun h => kt ?_) (fun h => kf ?_)
  · exact (nI_leI ha hb).mp h
  · rw [nI_leI ha hb] at h; omega
theorem V_if_eq_N {a : Nat} {off : Int} {tgt : Nat} (hd : Nx M pc (.ifCond .eq off) 3 pc') (ht : (pc : Int) + off = (tgt : Int)) (ha : a < 2 ^ 31) (kt : a = 0 → V g E M A Q kc ks ws tgt lv st) (kf : a ≠ 0 → V g E M A Q kc ks ws pc' lv st) : V g E M A Q kc ks ws pc lv (.int (nI a) :: st) := by
  have e : nI a = 0 ↔ a = 0 := by rw [← nI_0]; exact nI_eq ha (by decide)
  exact V_if_eq hd ht (fun h => kt (e.mp h)) (fun h => kf (fun q => h (e.mpr q)))
theorem V_if_eq_b {b : Bool} {off : Int} {tgt : Nat} (hd : Nx M pc (.ifCond .eq off) 3 pc') (ht : (pc : Int) + off = (tgt : Int)) (kt : b = false → V g E M A Q kc ks ws tgt lv st) (kf : b = true → V g E M A Q kc ks ws pc' lv st) : V g E M A Q kc ks ws pc lv (.int (bI b) :: st) := by
  refine V_if_eq hd ht (fun h => kt ?_) (fun h => kf ?_)
  · exact bI_0.mp h
  · cases b with | true => rfl | false => exact absurd rfl h
theorem V_if_ne_N {a : Nat} {off : Int} {tgt : Nat} (hd : Nx M pc (.ifCond .ne off) 3 pc') (ht : (pc : Int) + off = (tgt : Int)) (ha : a < 2 ^ 31) (kt : a ≠ 0 → V g E M A Q kc ks ws tgt lv st) (kf : a = 0 → V g E M A Q kc ks ws pc' lv st) : V g E M A Q kc ks ws pc lv (.int (nI a) :: st) := by
  have e : nI a = 0 ↔ a = 0 := by rw [← nI_0]; exact nI_eq ha (by decide)
  exact V_if_ne hd ht (fun h => kt (fun q => h (e.mpr q))) (fun h => kf (e.mp h))
theorem V_if_ne_b {b : Bool} {off : Int} {tgt : Nat} (hd : Nx M pc (.ifCond .ne off) 3 pc') (ht : (pc : Int) + off = (tgt : Int)) (kt : b = true → V g E M A Q kc ks ws tgt lv st) (kf : b = false → V g E M A Q kc ks ws pc' lv st) : V g E M A Q kc ks ws pc lv (.int (bI b) :: st) := by
  refine V_if_ne hd ht (fun h => kt ?_) (fun h => kf ?_)
  · cases b with | true => rfl | false => exact absurd rfl h
  · exact bI_0.mp h
/-- a join: the two ways of a choice meet again, with one int on top -/
theorem V_join {b : Bool} {x y : Int32} {pj : Nat} {f : Nat} {st' : List Value} (k : (b = true → V g E M A Q kc ks ws pj lv (.int x :: st)) → (b = false → V g E M A Q kc ks ws pj lv (.int y :: st)) → V g E M A Q kc ks ws f lv st') (hJ : V g E M A Q kc ks ws pj lv (.int (if b = true then x else y) :: st)) : V g E M A Q kc ks ws f lv st' :=
  k (fun h => by rw [if_pos h] at hJ; exact hJ) (fun h => by rw [if_neg (by rw [h]; decide)] at hJ; exact hJ)
theorem V_joinb {b : Bool} {pj : Nat} {f : Nat} {st' : List Value} (k : (b = true → V g E M A Q kc ks ws pj lv (.int 1 :: st)) → (b = false → V g E M A Q kc ks ws pj lv (.int 0 :: st)) → V g E M A Q kc ks ws f lv st') (hJ : V g E M A Q kc ks ws pj lv (.int (bI b) :: st)) : V g E M A Q kc ks ws f lv st' :=
  k (fun h => by subst h; exact hJ) (fun h => by subst h; exact hJ)
theorem V_st {st2 : List Value} (h : st = st2) (k : V g E M A Q kc ks ws pc lv st2) : V g E M A Q kc ks ws pc lv st := by rw [h]; exact k
theorem V_lv {lv2 : List (Nat × Value)} (h : ∀ q ∈ lv2, q ∈ lv) (k : V g E M A Q kc ks ws pc lv2 st) : V g E M A Q kc ks ws pc lv st := fun B ls H locs hl hP hD hS => k B ls H locs (lv_less hl h) hP hD hS
theorem V_top {x y : Int32} (h : x = y) (k : V g E M A Q kc ks ws pc lv (.int y :: st)) : V g E M A Q kc ks ws pc lv (.int x :: st) := by rw [h]; exact k
theorem V_ws (h : ws = ws') (k : V g E M A Q kc ks ws' pc lv st) : V g E M A Q kc ks ws pc lv st := by rw [h]; exact k
end VR
end
section
/-! V: fields, arrays, calls, entry, return -/
/-- what holds of a callee's start -/
def PreC (g : Gx) (av : List Value) (w : va_W) (sz : Nat) : Array Value → State → Prop := va_Pc av (fun U => U.heap.size = sz ∧ va_P g.1 classes w U.heap ∧ va_K g.1 classes (tysG g) U ∧ va_D (fun _ => True) w)
/-- .. and of its end: an answer and a world over the same addresses, of which Po holds -/
def QcC (g : Gx) (w : va_W) (sz : Nat) (Po : Option Value → va_W → Prop) : Array Value → State → Outcome → State → Prop := fun _ st oc t =>
  (∃ (r : Option Value) (w' : va_W), Po r w' ∧ oc = .returned r ∧ w'.map Prod.fst = w.map Prod.fst ∧ va_P g.1 classes w' t.heap) ∧ va_F (va_A w sz) st t
abbrev wsM (y : MethodName) (M : MS) : List Cond := .code y M.1 M.2.1 M.2.2.2 :: wds
/-- a method's contract, no cell being made -/
def Ct (g : Gx) (l : Launch) (y : MethodName) (M : MS) (rm : Room) (av : List Value) (w : va_W) (Po : Option Value → va_W → Prop) : Prop :=
  ∀ sz : Nat, Met l y (wsM y M) rm (PreC g av w sz) (QcC g w sz Po) 0 0 (va_A w sz)
/-- .. whose answer and world are known -/
def Cd (g : Gx) (l : Launch) (y : MethodName) (M : MS) (rm : Room) (av : List Value) (w : va_W) (r : Option Value) (w' : va_W) : Prop := Ct g l y M rm av w (fun r' w'' => r' = r ∧ w'' = w')
theorem Ct.mono {g : Gx} {l : Launch} {y : MethodName} {M : MS} {rm : Room} {av : List Value} {w : va_W} {Po Po' : Option Value → va_W → Prop} (h : Ct g l y M rm av w Po) (hi : ∀ r w', Po r w' → Po' r w') : Ct g l y M rm av w Po' := by
  intro sz p e ha hc hk s m args below hf h1 h2 h3
  obtain ⟨t, o, q1, q2, q3, ⟨⟨⟨r, w', a1, a2, a3, a4⟩, a5⟩, a6⟩⟩ := h sz p e ha hc hk s m args below hf h1 h2 h3
  exact ⟨t, o, q1, q2, q3, ⟨⟨⟨r, w', hi r w' a1, a2, a3, a4⟩, a5⟩, a6⟩⟩
theorem va_D_addr {A : Nat → Prop} {w w' : va_W} (h : va_D A w) (e : w'.map Prod.fst = w.map Prod.fst) : va_D A w' := by
  have key : ∀ (k : Nat) (q : Nat × va_E), w'[k]? = some q → ∃ q0, w[k]? = some q0 ∧ q0.1 = q.1 := by
    intro k q hk
    have h1 : (w'.map Prod.fst)[k]? = some q.1 := by rw [List.getElem?_map, hk]; rfl
    rw [e, List.getElem?_map] at h1
    cases hq : w[k]? with
    | none => rw [hq] at h1; cases h1
    | some q0 => rw [hq] at h1; exact ⟨q0, rfl, Option.some.inj h1⟩
  refine ⟨fun i j x y hi hj hxy => ?_, fun k q hk => ?_⟩
  · obtain ⟨x0, h1, h2⟩ := key i x hi
    obtain ⟨y0, h3, h4⟩ := key j y hj
    exact h.1 i j x0 y0 h1 h3 (h2.trans (hxy.trans h4.symm))
  · obtain ⟨q0, h1, h2⟩ := key k q hk
    rw [← h2]
    exact h.2 k q0 h1
theorem PreC_blind {g : Gx} {av : List Value} {w : va_W} {sz : Nat} : FrameBlind (PreC g av w sz) := fun a U f mk q => by
  obtain ⟨q0, q1, q2, q3, q4⟩ := q
  exact ⟨q0, q1, q2, va_K.moved (u := U) (U := U.calling f mk a) (Vm.Alike.refl U.vm) q3, q4⟩
/-- what a walk knows of its own frame -/
def Ev (E : MV) (l : Launch) (rm : Room) (A : Nat → Prop) (w : va_W) (sz : Nat) : Prop := E.2.1 = l ∧ E.2.2.2.1 = rm ∧ A = va_A w sz
/-- what a walk has to come to -/
def Qm (g : Gx) (E : MV) (w : va_W) (sz : Nat) (Po : Option Value → va_W → Prop) (A : Nat → Prop) : State → Prop := MQ E.2.2.2.2.2.2.2.1 (QcC g w sz Po) E.2.2.2.2.2.2.1 E.2.2.2.2.1 0 0 A
/-- THE ENTRY: a contract by a walk -/
theorem Ct.of {g : Gx} {l : Launch} {y : MethodName} {M : MS} {rm : Room} {av : List Value} {lv : List (Nat × Value)} {w : va_W} {Po : Option Value → va_W → Prop} (hy : plainName y.cls = true ∧ y.cls = M.2.2.1 ∧ (lg_sl av).length ≤ M.2.1) (hlv : lv_args 0 av = lv)
    (body : ∀ (E : MV) (A : Nat → Prop) (sz : Nat), Ev E l rm A w sz → V g E M A (Qm g E w sz Po A) 0 0 w 0 lv []) : Ct g l y M rm av w Po := by
  intro sz
  subst hlv
  obtain ⟨hy, hc, hn⟩ := hy
  refine Met.ofW (cc := M.1) (maxL := M.2.1) (ret := M.2.2.2) hy rfl ?_
  intro p e s m args below meth c s₁ B hml hv
  obtain ⟨rfl, hsz, hP, hK, hD0⟩ := hv
  have hts := atoms_spec (ws := wsM y M) B.pre
  have hown : s.vm.findClass M.2.2.1 = some m.cls := by rw [← hc]; exact findClass_of_methodNamed B.named
  have hD := hD0.self (sz := sz)
  have b := body (p, l, e, rm, s, m, av.toArray, below, meth, c) (va_A w sz) sz ⟨rfl, rfl, rfl⟩
  have hl := lv_entry av (n := M.2.1) hn
  rw [lg_entry_eq]
  exact b ⟨B.exec, B.bytes, hml, hown, fun w hw => hts w (List.mem_cons_of_mem _ hw), B.returns, B.notSynchronized, hK, fun q h => Or.inr (by rw [← hsz]; exact h)⟩ _ _ _ hl hP hD va_S.rf
section VH
variable {g : Gx} {E : MV} {M : MS} {A : Nat → Prop} {Q : State → Prop} {kc ks : Nat} {ws ws' : va_W} {pc pc' : Nat} {lv lv' : List (Nat × Value)} {st : List Value}
/-- returns -/
theorem V_iret {w : va_W} {sz : Nat} {Po : Option Value → va_W → Prop} {v : Int32} (hM : M.2.2.2 = some .int) (hd : Nx M pc .ireturn 1 pc') (hp : Po (some (.int v)) ws) (ha : ws.map Prod.fst = w.map Prod.fst) {l : Launch} {rm : Room} (X : Ev E l rm A w sz) : V g E M A (Qm g E w sz Po A) 0 0 ws pc lv [.int v] := by
  intro B ls H locs hl hP hD hS
  exact W.iret B.1 B.2.1 (B.2.2.2.2.2.1.trans hM) (fun t ht hW => ⟨⟨_, ws, hp, rfl, ha, by rw [ht]; exact hP⟩, by rw [← X.2.2]; exact hS.F ht⟩) hS.2.2 hd.1 B.2.2.2.2.2.2.1
theorem V_zret {w : va_W} {sz : Nat} {Po : Option Value → va_W → Prop} {b : Bool} (hM : M.2.2.2 = some .boolean) (hd : Nx M pc .ireturn 1 pc') (hp : Po (some (.int (bI b))) ws) (ha : ws.map Prod.fst = w.map Prod.fst) {l : Launch} {rm : Room} (X : Ev E l rm A w sz) : V g E M A (Qm g E w sz Po A) 0 0 ws pc lv [.int (bI b)] := by
  intro B ls H locs hl hP hD hS
  exact W.zret B.1 B.2.1 (B.2.2.2.2.2.1.trans hM) (bI_n b) (fun t ht hW => ⟨⟨_, ws, hp, rfl, ha, by rw [ht]; exact hP⟩, by rw [← X.2.2]; exact hS.F ht⟩) hS.2.2 hd.1 B.2.2.2.2.2.2.1
theorem V_lret {w : va_W} {sz : Nat} {Po : Option Value → va_W → Prop} {v : Int64} (hM : M.2.2.2 = some .long) (hd : Nx M pc .lreturn 1 pc') (hp : Po (some (.long v)) ws) (ha : ws.map Prod.fst = w.map Prod.fst) {l : Launch} {rm : Room} (X : Ev E l rm A w sz) : V g E M A (Qm g E w sz Po A) 0 0 ws pc lv [.long v] := by
  intro B ls H locs hl hP hD hS
  exact W.lret B.1 B.2.1 (B.2.2.2.2.2.1.trans hM) (fun t ht hW => ⟨⟨_, ws, hp, rfl, ha, by rw [ht]; exact hP⟩, by rw [← X.2.2]; exact hS.F ht⟩) hS.2.2 hd.1 B.2.2.2.2.2.2.1
theorem V_vret {w : va_W} {sz : Nat} {Po : Option Value → va_W → Prop} (hM : M.2.2.2 = none) (hd : Nx M pc .return_ 1 pc') (hp : Po none ws) (ha : ws.map Prod.fst = w.map Prod.fst) {l : Launch} {rm : Room} (X : Ev E l rm A w sz) : V g E M A (Qm g E w sz Po A) 0 0 ws pc lv [] := by
  intro B ls H locs hl hP hD hS
  exact W.vret B.1 B.2.1 (B.2.2.2.2.2.1.trans hM) (fun t ht hW => ⟨⟨_, ws, hp, rfl, ha, by rw [ht]; exact hP⟩, by rw [← X.2.2]; exact hS.F ht⟩) hS.2.2 hd.1 B.2.2.2.2.2.2.1
/-- getfield: the object stands at place q0 of the world, the field at place k of its class's table -/
theorem V_get {C : String} {T : u_T} {N ci index a : Nat} {fs : List Value} {v : Value} (q0 k : Nat) (hin : ∀ w ∈ u_ws C T N, w ∈ wds) (hc : classes[ci]? = some (C, T, N)) (hk : k < N) (hf : Cond.fieldLink M.2.2.1 index (T k).1 (T k).2.1 (T k).2.2.1 ∈ wds) (hd : Nx M pc (.getfield index) 3 pc') (he : ws[q0]? = some (a, .inr (ci, fs))) (hv : fs[k]? = some v) (kk : V g E M A Q kc ks ws pc' lv (v :: st)) : V g E M A Q kc ks ws pc lv (.ref a :: st) := by
  obtain ⟨hd, rfl⟩ := hd
  intro B ls H locs hl hP hD hS
  exact va_get B.1 B.2.1 B.2.2.2.2.1 hin B.2.2.2.1 B.2.2.2.2.2.2.2.1 hP q0 he hc k hk (B.2.2.2.2.1 _ hf) (fun _ h => h) hv hd (kk B ls H locs hl hP hD hS)
theorem V_put {C : String} {T : u_T} {N ci index a : Nat} {fs : List Value} {v : Value} {ty : FieldType} (q0 k : Nat) (hin : ∀ w ∈ u_ws C T N, w ∈ wds) (ty0 : Nat → FieldType) (hty : ∀ k, k < N → parseFieldDescriptor (T k).2.2.1 = some (ty0 k)) (hnm : ∀ a, a < N → ∀ b, b < N → a ≠ b → (T a).2.1 ≠ (T b).2.1) (hc : classes[ci]? = some (C, T, N)) (hk : k < N) (hf : Cond.fieldLink M.2.2.1 index (T k).1 (T k).2.1 (T k).2.2.1 ∈ wds) (hfin : (T k).2.2.2 = false) (hty1 : ty0 k = ty) (hn : narrow ty v = v) (hfit : fits ty v = true) (hd : Nx M pc (.putfield index) 3 pc') (he : ws[q0]? = some (a, .inr (ci, fs))) (hl0 : k < fs.length) (hw : ws.set q0 (a, .inr (ci, fs.set k v)) = ws') (kk : V g E M A Q kc ks ws' pc' lv st) : V g E M A Q kc ks ws pc lv (v :: .ref a :: st) := by
  obtain ⟨hd, rfl⟩ := hd
  intro B ls H locs hl hP hD hS
  subst hw
  subst hty1
  exact va_put B.1 B.2.1 B.2.2.2.2.1 hin ty0 hty hnm B.2.2.2.1 B.2.2.2.2.2.2.2.1 hP hD hS q0 he hc k hk (B.2.2.2.2.1 _ hf) (fun _ h => h) hfin (hty k hk) hn hfit hl0 hd (fun H1 locs1 hP hD hS => kk B ls H1 locs1 hl hP hD hS)
theorem V_iald {a n j : Nat} {f : Nat → Int32} {v : Int32} (q0 : Nat) (hd : Nx M pc .iaload 1 pc') (he : ws[q0]? = some (a, .inl (g.2.1, n, .inl f))) (hj : j < n) (hn : n < 2 ^ 31) (hv : f j = v) (kk : V g E M A Q kc ks ws pc' lv (.int v :: st)) : V g E M A Q kc ks ws pc lv (.int (nI j) :: .ref a :: st) := by
  obtain ⟨hd, rfl⟩ := hd
  intro B ls H locs hl hP hD hS
  subst hv
  refine va_iald B.1 B.2.1 B.2.2.2.2.2.2.2.1 hP q0 0 he rfl (vp_in_nI hj hn) hd ?_
  rw [nI_clamp (Nat.lt_trans hj hn)]
  exact kk B ls H locs hl hP hD hS
theorem V_zald {a n j : Nat} {f : Nat → Int32} {v : Int32} (q0 : Nat) (hd : Nx M pc .baload 1 pc') (he : ws[q0]? = some (a, .inl (g.2.2.1, n, .inl f))) (hj : j < n) (hn : n < 2 ^ 31) (hv : f j = v) (kk : V g E M A Q kc ks ws pc' lv (.int v :: st)) : V g E M A Q kc ks ws pc lv (.int (nI j) :: .ref a :: st) := by
  obtain ⟨hd, rfl⟩ := hd
  intro B ls H locs hl hP hD hS
  subst hv
  refine va_zald B.1 B.2.1 B.2.2.2.2.2.2.2.1 hP q0 1 he rfl (vp_in_nI hj hn) hd ?_
  rw [nI_clamp (Nat.lt_trans hj hn)]
  exact kk B ls H locs hl hP hD hS
theorem V_aald {a n j b : Nat} {f : Nat → Option Nat} (q0 : Nat) (hd : Nx M pc .aaload 1 pc') (he : ws[q0]? = some (a, .inl (g.2.2.2, n, .inr (.inr (.inr (.inr f)))))) (hj : j < n) (hn : n < 2 ^ 31) (hv : f j = some b) (kk : V g E M A Q kc ks ws pc' lv (.ref b :: st)) : V g E M A Q kc ks ws pc lv (.int (nI j) :: .ref a :: st) := by
  obtain ⟨hd, rfl⟩ := hd
  intro B ls H locs hl hP hD hS
  refine va_aldq B.1 B.2.1 B.2.2.2.2.2.2.2.1 hP q0 2 he rfl (vp_in_nI hj hn) hd ?_
  rw [nI_clamp (Nat.lt_trans hj hn), hv]
  exact kk B ls H locs hl hP hD hS
theorem V_iast {a n j : Nat} {f : Nat → Int32} {x : Int32} (q0 : Nat) (hd : Nx M pc .iastore 1 pc') (he : ws[q0]? = some (a, .inl (g.2.1, n, .inl f))) (hj : j < n) (hn : n < 2 ^ 31) (hw : ws.set q0 (a, .inl (g.2.1, n, .inl (upd f j x))) = ws') (kk : V g E M A Q kc ks ws' pc' lv st) : V g E M A Q kc ks ws pc lv (.int x :: .int (nI j) :: .ref a :: st) := by
  obtain ⟨hd, rfl⟩ := hd
  intro B ls H locs hl hP hD hS
  subst hw
  refine va_iast B.1 B.2.1 B.2.2.2.2.2.2.2.1 hP hD hS q0 0 he rfl (vp_in_nI hj hn) hd ?_
  rw [nI_clamp (Nat.lt_trans hj hn)]
  exact fun H1 locs1 hP hD hS => kk B ls H1 locs1 hl hP hD hS
theorem V_zast {a n j : Nat} {f : Nat → Int32} {b : Bool} (q0 : Nat) (hd : Nx M pc .bastore 1 pc') (he : ws[q0]? = some (a, .inl (g.2.2.1, n, .inl f))) (hj : j < n) (hn : n < 2 ^ 31) (hw : ws.set q0 (a, .inl (g.2.2.1, n, .inl (upd f j (bI b)))) = ws') (kk : V g E M A Q kc ks ws' pc' lv st) : V g E M A Q kc ks ws pc lv (.int (bI b) :: .int (nI j) :: .ref a :: st) := by
  obtain ⟨hd, rfl⟩ := hd
  intro B ls H locs hl hP hD hS
  subst hw
  refine va_zast B.1 B.2.1 B.2.2.2.2.2.2.2.1 hP hD hS q0 1 he rfl (vp_in_nI hj hn) hd ?_
  rw [nI_clamp (Nat.lt_trans hj hn), show vp_nar .boolean (bI b) = bI b by cases b <;> decide]
  exact fun H1 locs1 hP hD hS => kk B ls H1 locs1 hl hP hD hS
/-- constants of the pool -/
theorem V_ldc {index : Nat} {v : Int32} (hc : Cond.constant M.2.2.1 index v ∈ wds) (hd : Nx M pc (.ldc index) 2 pc') (kk : V g E M A Q kc ks ws pc' lv (.int v :: st)) : V g E M A Q kc ks ws pc lv st := by
  obtain ⟨hd, rfl⟩ := hd
  intro B ls H locs hl hP hD hS
  exact lv_ldc B.1 B.2.1 B.2.2.2.1 (B.2.2.2.2.1 _ hc) hd (kk B ls H locs hl hP hD hS)
theorem V_ldc2 {index : Nat} {v : Int64} (hc : Cond.constantLong M.2.2.1 index v ∈ wds) (hd : Nx M pc (.ldc2_w index) 3 pc') (kk : V g E M A Q kc ks ws pc' lv (.long v :: st)) : V g E M A Q kc ks ws pc lv st := by
  obtain ⟨hd, rfl⟩ := hd
  intro B ls H locs hl hP hD hS
  exact lv_ldc2 B.1 B.2.1 B.2.2.2.1 (B.2.2.2.2.1 _ hc) hd (kk B ls H locs hl hP hD hS)
/-- switches -/
theorem V_tableOut {dflt lo hi : Int} {offs : Array Int} {len : Nat} {x : Int32} {tgt : Nat} (hd : Nx M pc (.tableswitch dflt lo hi offs) len pc') (h : x.toInt < lo ∨ hi < x.toInt) (ht : (pc : Int) + dflt = (tgt : Int)) (kk : V g E M A Q kc ks ws tgt lv st) : V g E M A Q kc ks ws pc lv (.int x :: st) := by
  intro B ls H locs hl hP hD hS
  exact lv_tableOut B.1 B.2.1 hd.1 h ht (kk B ls H locs hl hP hD hS)
theorem V_tableIn {dflt lo hi : Int} {offs : Array Int} {len : Nat} {x : Int32} {off : Int} {tgt : Nat} (hd : Nx M pc (.tableswitch dflt lo hi offs) len pc') (h1 : ¬ x.toInt < lo) (h2 : ¬ hi < x.toInt) (ho : offs[(x.toInt - lo).toNat]? = some off) (ht : (pc : Int) + off = (tgt : Int)) (kk : V g E M A Q kc ks ws tgt lv st) : V g E M A Q kc ks ws pc lv (.int x :: st) := by
  intro B ls H locs hl hP hD hS
  exact lv_tableIn B.1 B.2.1 hd.1 h1 h2 ho ht (kk B ls H locs hl hP hD hS)
end VH
/-- the cells w put at the places is -/
def wput (ws : va_W) : List Nat → va_W → va_W
  | i :: is, c :: w => wput (ws.set i c) is w
  | _, _ => ws
theorem wput_len : ∀ (is : List Nat) (w ws : va_W), (wput ws is w).length = ws.length
  | [], [], _ => rfl
  | [], _ :: _, _ => rfl
  | _ :: _, [], _ => rfl
  | i :: is, c :: w, ws => by
    show (wput (ws.set i c) is w).length = _
    rw [wput_len is w, List.length_set]
theorem wput_out : ∀ (is : List Nat) (w ws : va_W) (k : Nat), k ∉ is → (wput ws is w)[k]? = ws[k]?
  | [], [], _, _, _ => rfl
  | [], _ :: _, _, _, _ => rfl
  | _ :: _, [], _, _, _ => rfl
  | i :: is, c :: w, ws, k, h => by
    show (wput (ws.set i c) is w)[k]? = _
    rw [wput_out is w _ k (fun q => h (List.mem_cons_of_mem _ q)), List.getElem?_set_ne (fun q => h (by rw [q]; exact List.mem_cons_self))]
theorem wput_in : ∀ (is : List Nat) (w ws : va_W) (k : Nat) (q : Nat × va_E), k ∈ is → is.length = w.length → (wput ws is w)[k]? = some q → q ∈ w ∨ ws[k]? = none
  | [], _, _, _, _, h, _, _ => by cases h
  | _ :: _, [], _, _, _, _, h, _ => by cases h
  | i :: is, c :: w, ws, k, q, h, hl, hq => by
    have hq : (wput (ws.set i c) is w)[k]? = some q := hq
    by_cases hk : k ∈ is
    · rcases wput_in is w _ k q hk (Nat.succ.inj hl) hq with h1 | h1
      · exact Or.inl (List.mem_cons_of_mem _ h1)
      · refine Or.inr ?_
        rw [List.getElem?_eq_none_iff] at h1 ⊢
        rw [List.length_set] at h1
        exact h1
    · have hik : k = i := by
        rcases List.mem_cons.mp h with h | h
        · exact h
        · exact absurd h hk
      subst hik
      rw [wput_out is w _ k hk] at hq
      by_cases hlt : k < ws.length
      · rw [List.getElem?_set_self hlt] at hq
        cases hq
        exact Or.inl List.mem_cons_self
      · exact Or.inr (List.getElem?_eq_none (by omega))
/-- behind a call, in the same order -/
theorem wput_adr : ∀ (is : List Nat) (w wc ws : va_W), is.map (fun j => (ws.map Prod.fst)[j]?) = wc.map (fun q => some q.1) → w.map Prod.fst = wc.map Prod.fst → (wput ws is w).map Prod.fst = ws.map Prod.fst
  | [], [], _, _, _, _ => rfl
  | [], _ :: _, _, _, _, _ => rfl
  | _ :: _, [], _, _, _, _ => rfl
  | i :: is, c :: w, [], _, _, h => by cases h
  | i :: is, c :: w, d :: wc, ws, hs, h => by
    obtain ⟨h1, h2⟩ := List.cons.inj hs
    obtain ⟨h3, h4⟩ := List.cons.inj h
    have h1 : (ws.map Prod.fst)[i]? = some d.1 := h1
    have e : (ws.set i c).map Prod.fst = ws.map Prod.fst := by
      rw [List.map_set]
      apply List.ext_getElem?
      intro k
      by_cases hk : k = i
      · subst hk
        have hlt : k < (ws.map Prod.fst).length := (List.getElem?_eq_some_iff.mp h1).1
        rw [List.getElem?_set_self hlt, h1]
        show some c.1 = some d.1
        rw [show c.1 = d.1 from h3]
      · rw [List.getElem?_set_ne (Ne.symm hk)]
    show (wput (ws.set i c) is w).map Prod.fst = _
    rw [wput_adr is w wc (ws.set i c) (by rw [e]; exact h2) h4, e]
theorem wput_addr (is : List Nat) (w wc ws : va_W) (hs : is.map (fun i => ws[i]?) = wc.map some) (h : w.map Prod.fst = wc.map Prod.fst) : (wput ws is w).map Prod.fst = ws.map Prod.fst := by
  refine wput_adr is w wc ws ?_ h
  have h5 := congrArg (fun l => l.map (Option.map Prod.fst)) hs
  simp only [List.map_map] at h5
  refine Eq.trans ?_ (h5.trans ?_)
  · apply List.map_congr_left
    intro j _
    rw [List.getElem?_map]
    rfl
  · apply List.map_congr_left
    intro j _
    rfl
theorem va_back {A0 : Nat → Prop} {D : va_G} {cl : List vw_C} {ws wc w1 : va_W} {H H1 : Heap} (hP : va_P D cl ws H) (hD : va_D A0 ws) (is : List Nat) (hC : is.map (fun i => ws[i]?) = wc.map some) (ha : w1.map Prod.fst = wc.map Prod.fst)
    (hk : ∀ q : Nat, q < H.size → ¬ va_A wc H.size q → H1[q]? = H[q]?) (hP1 : va_P D cl w1 H1) : va_P D cl (wput ws is w1) H1 ∧ va_D A0 (wput ws is w1) := by
  refine ⟨fun k q hq => ?_, va_D_addr hD (wput_addr is w1 wc ws hC ha)⟩
  by_cases hi : k ∈ is
  · have hlen : is.length = w1.length := by
      have h1 := congrArg List.length hC
      have h2 := congrArg List.length ha
      simp only [List.length_map] at h1 h2
      omega
    rcases wput_in is w1 ws k q hi hlen hq with h | h
    · obtain ⟨i, hi⟩ := List.getElem?_of_mem h
      exact hP1 i q hi
    · rw [List.getElem?_eq_none_iff] at h
      have h3 := (List.getElem?_eq_some_iff.mp hq).1
      rw [wput_len] at h3
      omega
  · rw [wput_out is w1 ws k hi] at hq
    refine (hP k q hq).kept (hk q.1 ((hP k q hq).lt) (fun h => ?_))
    rcases h with ⟨k2, e, h⟩ | h
    · obtain ⟨j, h5, h6⟩ := va_in_of is hC h
      have hij := hD.1 k j q (q.1, e) hq h6 rfl
      subst hij
      exact hi (List.mem_of_getElem? h5)
    · have := (hP k q hq).lt
      omega
section VCall
variable {g : Gx} {E : MV} {M : MS} {A : Nat → Prop} {Q : State → Prop} {kc ks : Nat} {ws ws' : va_W} {pc pc' : Nat} {lv lv' : List (Nat × Value)} {st : List Value}
/-- behind a call whose run is known -/
theorem V_run {w : va_W} {sz : Nat} {Po : Option Value → va_W → Prop} {a : Array Value} {ls : Array Slot} {H : Heap} {locs : List Loc} {st0 : List Value} (is : List Nat) (hC : is.map (fun i => ws[i]?) = w.map some) (B : Bd g E M A) (hl : lv_has ls M.2.1 lv) (hP : va_P g.1 classes ws H) (hD : va_D A ws) (hS : va_S A E.2.2.2.2.1.heap H locs) (hsz : sz = H.size)
    (hr : va_Run E.1 E.2.1 E.2.2.1 E.2.2.2.1 E.2.2.2.2.1 E.2.2.2.2.2.1 E.2.2.2.2.2.2.1 E.2.2.2.2.2.2.2.1 E.2.2.2.2.2.2.2.2.1 E.2.2.2.2.2.2.2.2.2 H locs kc ks 0 0 (F0 E.2.2.2.2.2.1 pc ls st0) st (QcC g w sz Po a) (va_A w sz))
    (kk : ∀ (r : Option Value) (w' : va_W), Po r w' → V g E M A Q kc ks (wput ws is w') (pc + 3) lv (r.toList ++ st)) : Wf E H locs kc ks Q (F0 E.2.2.2.2.2.1 pc ls st0) := by
  subst hsz
  have hF := va_free (wc := w) hD hS B.2.2.2.2.2.2.2.2 is hC
  intro T hT X
  obtain ⟨v, st₀, t, T', L, h0, X', hL, e1, e2, ⟨⟨r, w', hp, hv, hadr, hP1⟩, hz, hk⟩, stp⟩ := hr T hT X
  cases hv
  rw [h0] at hz hk
  rw [← e1] at hz hk hP1
  obtain ⟨hP2, hD2⟩ := va_back hP hD is hC hadr hk hP1
  have hS2 : va_S A E.2.2.2.2.1.heap T'.heap (locs ++ L) := ⟨Nat.le_trans hS.1 hz, fun q h1 h2 => by
      rw [hk q (Nat.lt_of_lt_of_le h1 hS.1) (fun z => h2 (hF q z))]
      exact hS.2.1 q h1 h2, fun q hq => by
      rcases List.mem_append.mp hq with h | h
      · exact hS.2.2 q h
      · exact hF _ (hL q h)⟩
  obtain ⟨t2, a1, b1⟩ := kk v w' hp B ls T'.heap (locs ++ L) hl hP2 hD2 hS2 T' rfl X'
  exact ⟨t2, stp t2 a1, b1⟩
theorem D_weak {A : Nat → Prop} {ws w : va_W} (hD : va_D A ws) (is : List Nat) (hn : va_nd is = true) (hC : is.map (fun i => ws[i]?) = w.map some) : va_D (fun _ => True) w := (hD.sub is hn hC).weaken (fun _ _ _ _ => trivial)
theorem P_sub {D : va_G} {cl : List vw_C} {ws w : va_W} {H : Heap} (hP : va_P D cl ws H) (is : List Nat) (hC : is.map (fun i => ws[i]?) = w.map some) : va_P D cl w H := fun k q hq => by
  obtain ⟨i, -, h2⟩ := va_in_of is hC hq
  exact hP i q h2
/-- a virtual call -/
theorem V_callV {l : Launch} {y : MethodName} {N : MS} {rm : Room} {b : Nat} {As : List Value} {w : va_W} {Po : Option Value → va_W → Prop} {index ci : Nat} {C : vw_C} {st0 : List Value} {R0 : Room} {A1 : Nat → Prop} {w1 : va_W} {sz1 : Nat} (is : List Nat) (n : Nat) (X : Ev E l R0 A1 w1 sz1) (hM : Ct g l y N rm (.ref b :: As) w Po)
    (hw : Cond.methodLink M.2.2.1 index y ∈ wds ∧ Cond.instanceMethod y ∈ wds ∧ Cond.selects C.1 y y ∈ wds ∧ Cond.initialized C.1 ∈ wds ∧ Cond.code y N.1 N.2.1 N.2.2.2 ∈ wds)
    (hy : y.cls = C.1 ∧ y.cls ≠ "java/lang/invoke/MethodHandle" ∧ y.cls ≠ "java/lang/invoke/VarHandle" ∧ (parseMethodDescriptor y.desc).map (fun d => d.parameters.length) = some n) (hR : rm.cells = 0 ∧ rm.slots = 0 ∧ rm.frames + 1 ≤ R0.frames ∧ 8 + (N.2.1 + 11) + rm.locals ≤ R0.locals ∧ kc ≤ R0.cells ∧ ks ≤ R0.slots)
    (hC : is.map (fun i => ws[i]?) = w.map some) (hn : va_nd is = true) (q0 : Nat) {fs : List Value} (hc : classes[ci]? = some C) (hb : w[q0]? = some (b, .inr (ci, fs))) (hd : Nx M pc (.invokevirtual index) 3 pc') (hAs : As.length = n) (hst : st0 = As.reverse ++ .ref b :: st) (hcat : (st.map fun v => v.category).sum ≤ 8)
    (kk : ∀ (r : Option Value) (w' : va_W), Po r w' → V g E M A Q kc ks (wput ws is w') pc' lv (r.toList ++ st)) : V g E M A Q kc ks ws pc lv st0 := by
  obtain ⟨hd, rfl⟩ := hd
  subst hst
  obtain ⟨hE, hER, -⟩ := X
  subst hE
  subst hER
  intro B ls H locs hl hP hD hS
  have hPc := P_sub hP is hC
  refine V_run (w := w) (sz := H.size) (Po := Po) (a := (Value.ref b :: As).toArray) is hC B hl hP hD hS rfl ?_ kk
  exact va_runV (Ts := wds) (own := M.2.2.1) (C := C.1) (bytes := N.1) (maxL := N.2.1) (ret := N.2.2.2) (n := n) ⟨B.1, B.2.1, B.2.2.1, B.2.2.2.1, B.2.2.2.2.1⟩ (hM H.size)
    (cwV (ws' := wds) n B.2.2.2.2.1 (fun w hw2 => by
      have good : ∀ z ∈ wds, z ∈ wds ∧ ((z.onTables && z.keeps) = true ∨ ∃ ty, z = .arrayClass ty) := wd_good
      rcases List.mem_append.mp hw2 with h | h
      · simp only [List.mem_cons, List.not_mem_nil, or_false] at h
        rcases h with rfl | rfl | rfl | rfl
        · exact good _ hw.1
        · exact good _ hw.2.1
        · exact good _ hw.2.2.1
        · exact good _ hw.2.2.2.1
      · rcases List.mem_cons.mp h with rfl | h
        · exact good _ hw.2.2.2.2
        · exact good _ h) rfl hR.1 hR.2.1 hy ⟨hR.2.2.1, hR.2.2.2.1⟩)
    ⟨PreC_blind, va_recv B.2.2.2.2.2.2.2.1 hPc hc hb, fun U hU hW => ⟨rfl, by rw [hU], by rw [hU]; exact hPc, va_K.moved hW.alike B.2.2.2.2.2.2.2.1, D_weak hD is hn hC⟩⟩ rfl hAs hl.1 rfl (lv_room hcat) hd ⟨by simpa using hR.2.2.2.2.1, by simpa using hR.2.2.2.2.2⟩
/-- a static call -/
theorem V_callS {l : Launch} {y : MethodName} {N : MS} {rm : Room} {As : List Value} {w : va_W} {Po : Option Value → va_W → Prop} {index : Nat} {st0 : List Value} {R0 : Room} {A1 : Nat → Prop} {w1 : va_W} {sz1 : Nat} (is : List Nat) (n : Nat) (X : Ev E l R0 A1 w1 sz1) (hM : Ct g l y N rm As w Po)
    (hw : Cond.methodLink M.2.2.1 index y ∈ wds ∧ Cond.static y ∈ wds ∧ Cond.initialized y.cls ∈ wds ∧ Cond.code y N.1 N.2.1 N.2.2.2 ∈ wds)
    (hy : y.cls ≠ "java/lang/invoke/MethodHandle" ∧ y.cls ≠ "java/lang/invoke/VarHandle" ∧ (parseMethodDescriptor y.desc).map (fun d => d.parameters.length) = some n) (hR : rm.cells = 0 ∧ rm.slots = 0 ∧ rm.frames + 1 ≤ R0.frames ∧ 8 + (N.2.1 + 11) + rm.locals ≤ R0.locals ∧ kc ≤ R0.cells ∧ ks ≤ R0.slots)
    (hC : is.map (fun i => ws[i]?) = w.map some) (hn : va_nd is = true) (hd : Nx M pc (.invokestatic index) 3 pc') (hAs : As.length = n) (hst : st0 = As.reverse ++ st) (hcat : (st.map fun v => v.category).sum ≤ 8)
    (kk : ∀ (r : Option Value) (w' : va_W), Po r w' → V g E M A Q kc ks (wput ws is w') pc' lv (r.toList ++ st)) : V g E M A Q kc ks ws pc lv st0 := by
  obtain ⟨hd, rfl⟩ := hd
  subst hst
  obtain ⟨hE, hER, -⟩ := X
  subst hE
  subst hER
  intro B ls H locs hl hP hD hS
  have hPc := P_sub hP is hC
  refine V_run (w := w) (sz := H.size) (Po := Po) (a := As.toArray) is hC B hl hP hD hS rfl ?_ kk
  exact va_runS (Ts := wds) (own := M.2.2.1) (bytes := N.1) (maxL := N.2.1) (ret := N.2.2.2) (n := n) ⟨B.1, B.2.1, B.2.2.1, B.2.2.2.1, B.2.2.2.2.1⟩ (hM H.size)
    (va_cwS (ws' := wds) n B.2.2.2.2.1 (fun w hw2 => by
      have good : ∀ z ∈ wds, z ∈ wds ∧ ((z.onTables && z.keeps) = true ∨ ∃ ty, z = .arrayClass ty) := wd_good
      rcases List.mem_append.mp hw2 with h | h
      · simp only [List.mem_cons, List.not_mem_nil, or_false] at h
        rcases h with rfl | rfl | rfl
        · exact good _ hw.1
        · exact good _ hw.2.1
        · exact good _ hw.2.2.1
      · rcases List.mem_cons.mp h with rfl | h
        · exact good _ hw.2.2.2
        · exact good _ h) rfl hR.1 hR.2.1 hy ⟨hR.2.2.1, hR.2.2.2.1⟩)
    ⟨PreC_blind, fun U hU hW => ⟨rfl, by rw [hU], by rw [hU]; exact hPc, va_K.moved hW.alike B.2.2.2.2.2.2.2.1, D_weak hD is hn hC⟩⟩ rfl hAs hl.1 rfl (lv_room hcat) hd ⟨by simpa using hR.2.2.2.2.1, by simpa using hR.2.2.2.2.2⟩
/-- calls whose answer and world are known -/
theorem V_cVi {l : Launch} {y : MethodName} {N : MS} {rm : Room} {b : Nat} {As : List Value} {w w' : va_W} {r : Int32} {index ci : Nat} {C : vw_C} {st0 : List Value} {R0 : Room} {A1 : Nat → Prop} {w1 : va_W} {sz1 : Nat} (is : List Nat) (n : Nat) (X : Ev E l R0 A1 w1 sz1) (hM : Cd g l y N rm (.ref b :: As) w (some (.int r)) w')
    (hw : Cond.methodLink M.2.2.1 index y ∈ wds ∧ Cond.instanceMethod y ∈ wds ∧ Cond.selects C.1 y y ∈ wds ∧ Cond.initialized C.1 ∈ wds ∧ Cond.code y N.1 N.2.1 N.2.2.2 ∈ wds)
    (hy : y.cls = C.1 ∧ y.cls ≠ "java/lang/invoke/MethodHandle" ∧ y.cls ≠ "java/lang/invoke/VarHandle" ∧ (parseMethodDescriptor y.desc).map (fun d => d.parameters.length) = some n) (hR : rm.cells = 0 ∧ rm.slots = 0 ∧ rm.frames + 1 ≤ R0.frames ∧ 8 + (N.2.1 + 11) + rm.locals ≤ R0.locals ∧ kc ≤ R0.cells ∧ ks ≤ R0.slots)
    (hC : is.map (fun i => ws[i]?) = w.map some) (hn : va_nd is = true) (q0 : Nat) {fs : List Value} (hc : classes[ci]? = some C) (hb : w[q0]? = some (b, .inr (ci, fs))) (hd : Nx M pc (.invokevirtual index) 3 pc') (hAs : As.length = n) (hst : st0 = As.reverse ++ .ref b :: st) (hcat : (st.map fun v => v.category).sum ≤ 8) (hws : wput ws is w' = ws') (kk : V g E M A Q kc ks ws' pc' lv (.int r :: st)) : V g E M A Q kc ks ws pc lv st0 := by
  refine V_callV (C := C) is n X hM hw hy hR hC hn q0 hc hb hd hAs hst hcat ?_
  rintro _ _ ⟨rfl, rfl⟩
  rw [hws]
  exact kk
theorem V_cVl {l : Launch} {y : MethodName} {N : MS} {rm : Room} {b : Nat} {As : List Value} {w w' : va_W} {r : Int64} {index ci : Nat} {C : vw_C} {st0 : List Value} {R0 : Room} {A1 : Nat → Prop} {w1 : va_W} {sz1 : Nat} (is : List Nat) (n : Nat) (X : Ev E l R0 A1 w1 sz1) (hM : Cd g l y N rm (.ref b :: As) w (some (.long r)) w')
    (hw : Cond.methodLink M.2.2.1 index y ∈ wds ∧ Cond.instanceMethod y ∈ wds ∧ Cond.selects C.1 y y ∈ wds ∧ Cond.initialized C.1 ∈ wds ∧ Cond.code y N.1 N.2.1 N.2.2.2 ∈ wds)
    (hy : y.cls = C.1 ∧ y.cls ≠ "java/lang/invoke/MethodHandle" ∧ y.cls ≠ "java/lang/invoke/VarHandle" ∧ (parseMethodDescriptor y.desc).map (fun d => d.parameters.length) = some n) (hR : rm.cells = 0 ∧ rm.slots = 0 ∧ rm.frames + 1 ≤ R0.frames ∧ 8 + (N.2.1 + 11) + rm.locals ≤ R0.locals ∧ kc ≤ R0.cells ∧ ks ≤ R0.slots)
    (hC : is.map (fun i => ws[i]?) = w.map some) (hn : va_nd is = true) (q0 : Nat) {fs : List Value} (hc : classes[ci]? = some C) (hb : w[q0]? = some (b, .inr (ci, fs))) (hd : Nx M pc (.invokevirtual index) 3 pc') (hAs : As.length = n) (hst : st0 = As.reverse ++ .ref b :: st) (hcat : (st.map fun v => v.category).sum ≤ 8) (hws : wput ws is w' = ws') (kk : V g E M A Q kc ks ws' pc' lv (.long r :: st)) : V g E M A Q kc ks ws pc lv st0 := by
  refine V_callV (C := C) is n X hM hw hy hR hC hn q0 hc hb hd hAs hst hcat ?_
  rintro _ _ ⟨rfl, rfl⟩
  rw [hws]
  exact kk
theorem V_cVv {l : Launch} {y : MethodName} {N : MS} {rm : Room} {b : Nat} {As : List Value} {w w' : va_W} {index ci : Nat} {C : vw_C} {st0 : List Value} {R0 : Room} {A1 : Nat → Prop} {w1 : va_W} {sz1 : Nat} (is : List Nat) (n : Nat) (X : Ev E l R0 A1 w1 sz1) (hM : Cd g l y N rm (.ref b :: As) w (none) w')
    (hw : Cond.methodLink M.2.2.1 index y ∈ wds ∧ Cond.instanceMethod y ∈ wds ∧ Cond.selects C.1 y y ∈ wds ∧ Cond.initialized C.1 ∈ wds ∧ Cond.code y N.1 N.2.1 N.2.2.2 ∈ wds)
    (hy : y.cls = C.1 ∧ y.cls ≠ "java/lang/invoke/MethodHandle" ∧ y.cls ≠ "java/lang/invoke/VarHandle" ∧ (parseMethodDescriptor y.desc).map (fun d => d.parameters.length) = some n) (hR : rm.cells = 0 ∧ rm.slots = 0 ∧ rm.frames + 1 ≤ R0.frames ∧ 8 + (N.2.1 + 11) + rm.locals ≤ R0.locals ∧ kc ≤ R0.cells ∧ ks ≤ R0.slots)
    (hC : is.map (fun i => ws[i]?) = w.map some) (hn : va_nd is = true) (q0 : Nat) {fs : List Value} (hc : classes[ci]? = some C) (hb : w[q0]? = some (b, .inr (ci, fs))) (hd : Nx M pc (.invokevirtual index) 3 pc') (hAs : As.length = n) (hst : st0 = As.reverse ++ .ref b :: st) (hcat : (st.map fun v => v.category).sum ≤ 8) (hws : wput ws is w' = ws') (kk : V g E M A Q kc ks ws' pc' lv st) : V g E M A Q kc ks ws pc lv st0 := by
  refine V_callV (C := C) is n X hM hw hy hR hC hn q0 hc hb hd hAs hst hcat ?_
  rintro _ _ ⟨rfl, rfl⟩
  rw [hws]
  exact kk
theorem V_cSi {l : Launch} {y : MethodName} {N : MS} {rm : Room} {As : List Value} {w w' : va_W} {r : Int32} {index : Nat} {st0 : List Value} {R0 : Room} {A1 : Nat → Prop} {w1 : va_W} {sz1 : Nat} (is : List Nat) (n : Nat) (X : Ev E l R0 A1 w1 sz1) (hM : Cd g l y N rm As w (some (.int r)) w')
    (hw : Cond.methodLink M.2.2.1 index y ∈ wds ∧ Cond.static y ∈ wds ∧ Cond.initialized y.cls ∈ wds ∧ Cond.code y N.1 N.2.1 N.2.2.2 ∈ wds)
    (hy : y.cls ≠ "java/lang/invoke/MethodHandle" ∧ y.cls ≠ "java/lang/invoke/VarHandle" ∧ (parseMethodDescriptor y.desc).map (fun d => d.parameters.length) = some n) (hR : rm.cells = 0 ∧ rm.slots = 0 ∧ rm.frames + 1 ≤ R0.frames ∧ 8 + (N.2.1 + 11) + rm.locals ≤ R0.locals ∧ kc ≤ R0.cells ∧ ks ≤ R0.slots)
    (hC : is.map (fun i => ws[i]?) = w.map some) (hn : va_nd is = true) (hd : Nx M pc (.invokestatic index) 3 pc') (hAs : As.length = n) (hst : st0 = As.reverse ++ st) (hcat : (st.map fun v => v.category).sum ≤ 8) (hws : wput ws is w' = ws') (kk : V g E M A Q kc ks ws' pc' lv (.int r :: st)) : V g E M A Q kc ks ws pc lv st0 := by
  refine V_callS is n X hM hw hy hR hC hn hd hAs hst hcat ?_
  rintro _ _ ⟨rfl, rfl⟩
  rw [hws]
  exact kk
theorem V_cSl {l : Launch} {y : MethodName} {N : MS} {rm : Room} {As : List Value} {w w' : va_W} {r : Int64} {index : Nat} {st0 : List Value} {R0 : Room} {A1 : Nat → Prop} {w1 : va_W} {sz1 : Nat} (is : List Nat) (n : Nat) (X : Ev E l R0 A1 w1 sz1) (hM : Cd g l y N rm As w (some (.long r)) w')
    (hw : Cond.methodLink M.2.2.1 index y ∈ wds ∧ Cond.static y ∈ wds ∧ Cond.initialized y.cls ∈ wds ∧ Cond.code y N.1 N.2.1 N.2.2.2 ∈ wds)
    (hy : y.cls ≠ "java/lang/invoke/MethodHandle" ∧ y.cls ≠ "java/lang/invoke/VarHandle" ∧ (parseMethodDescriptor y.desc).map (fun d => d.parameters.length) = some n) (hR : rm.cells = 0 ∧ rm.slots = 0 ∧ rm.frames + 1 ≤ R0.frames ∧ 8 + (N.2.1 + 11) + rm.locals ≤ R0.locals ∧ kc ≤ R0.cells ∧ ks ≤ R0.slots)
    (hC : is.map (fun i => ws[i]?) = w.map some) (hn : va_nd is = true) (hd : Nx M pc (.invokestatic index) 3 pc') (hAs : As.length = n) (hst : st0 = As.reverse ++ st) (hcat : (st.map fun v => v.category).sum ≤ 8) (hws : wput ws is w' = ws') (kk : V g E M A Q kc ks ws' pc' lv (.long r :: st)) : V g E M A Q kc ks ws pc lv st0 := by
  refine V_callS is n X hM hw hy hR hC hn hd hAs hst hcat ?_
  rintro _ _ ⟨rfl, rfl⟩
  rw [hws]
  exact kk
theorem V_cSv {l : Launch} {y : MethodName} {N : MS} {rm : Room} {As : List Value} {w w' : va_W} {index : Nat} {st0 : List Value} {R0 : Room} {A1 : Nat → Prop} {w1 : va_W} {sz1 : Nat} (is : List Nat) (n : Nat) (X : Ev E l R0 A1 w1 sz1) (hM : Cd g l y N rm As w (none) w')
    (hw : Cond.methodLink M.2.2.1 index y ∈ wds ∧ Cond.static y ∈ wds ∧ Cond.initialized y.cls ∈ wds ∧ Cond.code y N.1 N.2.1 N.2.2.2 ∈ wds)
    (hy : y.cls ≠ "java/lang/invoke/MethodHandle" ∧ y.cls ≠ "java/lang/invoke/VarHandle" ∧ (parseMethodDescriptor y.desc).map (fun d => d.parameters.length) = some n) (hR : rm.cells = 0 ∧ rm.slots = 0 ∧ rm.frames + 1 ≤ R0.frames ∧ 8 + (N.2.1 + 11) + rm.locals ≤ R0.locals ∧ kc ≤ R0.cells ∧ ks ≤ R0.slots)
    (hC : is.map (fun i => ws[i]?) = w.map some) (hn : va_nd is = true) (hd : Nx M pc (.invokestatic index) 3 pc') (hAs : As.length = n) (hst : st0 = As.reverse ++ st) (hcat : (st.map fun v => v.category).sum ≤ 8) (hws : wput ws is w' = ws') (kk : V g E M A Q kc ks ws' pc' lv st) : V g E M A Q kc ks ws pc lv st0 := by
  refine V_callS is n X hM hw hy hR hC hn hd hAs hst hcat ?_
  rintro _ _ ⟨rfl, rfl⟩
  rw [hws]
  exact kk
/-- Math.min, Math.abs -/
theorem V_mmin {index : Nat} {x y v : Int32} {l : Launch} {R0 : Room} {A1 : Nat → Prop} {w1 : va_W} {sz1 : Nat} (X : Ev E l R0 A1 w1 sz1) (hw : Cond.methodLink M.2.2.1 index Lib.Math.min.name ∈ wds ∧ Cond.static Lib.Math.min.name ∈ wds ∧ Cond.initialized "java/lang/Math" ∈ wds ∧ Cond.code Lib.Math.min.name Lib.Math.min.code 2 (some .int) ∈ wds) (hR : 1 ≤ R0.frames ∧ (st.map fun v => v.category).sum + 13 ≤ R0.locals ∧ kc ≤ R0.cells ∧ ks ≤ R0.slots) (hd : Nx M pc (.invokestatic index) 3 pc') (hv : (if y < x then y else x) = v) (kk : V g E M A Q kc ks ws pc' lv (.int v :: st)) : V g E M A Q kc ks ws pc lv (.int y :: .int x :: st) := by
  obtain ⟨hd, rfl⟩ := hd
  obtain ⟨hE, hER, -⟩ := X
  subst hE
  subst hER
  subst hv
  intro B ls H locs hl hP hD hS
  exact va_mmin B.1 B.2.1 (B.2.2.1.trans hl.1.symm) B.2.2.2.1 (B.2.2.2.2.1 _ hw.1) (B.2.2.2.2.1 _ hw.2.1) (B.2.2.2.2.1 _ hw.2.2.1) (B.2.2.2.2.1 _ hw.2.2.2) hR.1 hR.2.1 hR.2.2.1 hR.2.2.2 hd (kk B ls H locs hl hP hD hS)
theorem V_mabs {index : Nat} {x v : Int32} {l : Launch} {R0 : Room} {A1 : Nat → Prop} {w1 : va_W} {sz1 : Nat} (X : Ev E l R0 A1 w1 sz1) (hw : Cond.methodLink M.2.2.1 index Lib.Math.abs.name ∈ wds ∧ Cond.static Lib.Math.abs.name ∈ wds ∧ Cond.initialized "java/lang/Math" ∈ wds ∧ Cond.code Lib.Math.abs.name Lib.Math.abs.code 1 (some .int) ∈ wds) (hR : 1 ≤ R0.frames ∧ (st.map fun v => v.category).sum + 13 ≤ R0.locals ∧ kc ≤ R0.cells ∧ ks ≤ R0.slots) (hd : Nx M pc (.invokestatic index) 3 pc') (hv : (if 0 ≤ x then x else 0 - x) = v) (kk : V g E M A Q kc ks ws pc' lv (.int v :: st)) : V g E M A Q kc ks ws pc lv (.int x :: st) := by
  obtain ⟨hd, rfl⟩ := hd
  obtain ⟨hE, hER, -⟩ := X
  subst hE
  subst hER
  subst hv
  intro B ls H locs hl hP hD hS
  exact va_mabs B.1 B.2.1 (B.2.2.1.trans hl.1.symm) B.2.2.2.1 (B.2.2.2.2.1 _ hw.1) (B.2.2.2.2.1 _ hw.2.1) (B.2.2.2.2.1 _ hw.2.2.1) (B.2.2.2.2.1 _ hw.2.2.2) hR.1 hR.2.1 hR.2.2.1 hR.2.2.2 hd (kk B ls H locs hl hP hD hS)
/-- an array's contents count below its length alone -/
theorem cell_congr (cA : ClassId) (n : Nat) {f f' : Nat → Int32} (h : ∀ j, j < n → f j = f' j) : vp_cell cA (n, .inl f) = vp_cell cA (n, .inl f') := by
  rw [vp_cell_i, vp_cell_i]
  unfold arrV
  congr 1
  congr 1
  funext j
  exact congrArg Value.int (h j.1 j.2)
theorem P_arr {D : va_G} {cl : List vw_C} {ws : va_W} {H : Heap} (hP : va_P D cl ws H) {q0 a n : Nat} {cA : ClassId} {f f' : Nat → Int32} (he : ws[q0]? = some (a, .inl (cA, n, .inl f))) (h : ∀ j, j < n → f j = f' j) : va_P D cl (ws.set q0 (a, .inl (cA, n, .inl f'))) H := by
  intro k q hq
  by_cases hk : k = q0
  · subst hk
    rw [List.getElem?_set_self ((List.getElem?_eq_some_iff.mp he).1)] at hq
    cases hq
    have h1 := hP k _ he
    show H[a]? = some (vp_cell cA (n, .inl f'))
    rw [← cell_congr cA n h]
    exact h1
  · rw [List.getElem?_set_ne (Ne.symm hk)] at hq
    exact hP k q hq
theorem V_arr {a n : Nat} {cA : ClassId} {f f' : Nat → Int32} (q0 : Nat) (he : ws[q0]? = some (a, .inl (cA, n, .inl f))) (h : ∀ j, j < n → f j = f' j) (hw : ws.set q0 (a, .inl (cA, n, .inl f')) = ws') (kk : V g E M A Q kc ks ws' pc lv st) : V g E M A Q kc ks ws pc lv st := by
  intro B ls H locs hl hP hD hS
  subst hw
  exact kk B ls H locs hl (P_arr hP he h) (hD.set he) hS
/-- System.arraycopy of a whole array of ints -/
theorem V_copy {index : Nat} {l : Launch} {R0 : Room} {A1 : Nat → Prop} {w1 : va_W} {sz1 : Nat} {a0 a n : Nat} {f h : Nat → Int32} (q0 q1 : Nat) (X : Ev E l R0 A1 w1 sz1) (hw : Cond.methodLink M.2.2.1 index arraycopyName ∈ wds ∧ Cond.native arraycopyName ∈ wds ∧ Cond.static arraycopyName ∈ wds ∧ Cond.initialized "java/lang/System" ∈ wds) (hR : 1 ≤ R0.frames ∧ (st.map fun v => v.category).sum + (nativeFrameWords "java/lang/System" "arraycopy" 5 + 11) ≤ R0.locals) (hd : Nx M pc (.invokestatic index) 3 pc') (he0 : ws[q0]? = some (a0, .inl (g.2.1, n, .inl f))) (he1 : ws[q1]? = some (a, .inl (g.2.1, n, .inl h))) (hn : n < 2 ^ 31) (hws : ws.set q1 (a, .inl (g.2.1, n, .inl f)) = ws') (kk : V g E M A Q kc ks ws' pc' lv st) : V g E M A Q kc ks ws pc lv (.int (nI n) :: .int (nI 0) :: .ref a :: .int (nI 0) :: .ref a0 :: st) := by
  obtain ⟨hd, rfl⟩ := hd
  obtain ⟨hE, hER, -⟩ := X
  subst hE
  subst hER
  subst hws
  intro B ls H locs hl hP hD hS
  have z0 : (nI 0).toNatClampNeg = 0 := nI_clamp (by decide)
  have zn : (nI n).toNatClampNeg = n := nI_clamp hn
  refine va_copyi B.1 B.2.1 (B.2.2.1.trans hl.1.symm) B.2.2.2.1 (B.2.2.2.2.1 _ hw.1) (B.2.2.2.2.1 _ hw.2.1) (B.2.2.2.2.1 _ hw.2.2.1) (B.2.2.2.2.1 _ hw.2.2.2) B.2.2.2.2.2.2.2.1 hP hD hS q0 q1 0 0 he0 he1 rfl rfl rfl (nI_pos (by decide)) (nI_pos (by decide)) (nI_pos hn) (by rw [z0, zn]; omega) (by rw [z0, zn]; omega) (fun _ _ => rfl) hR.1 hR.2 hd (fun H1 locs1 hP hD hS => ?_)
  rw [z0, zn] at hP hD
  have hlt := (List.getElem?_eq_some_iff.mp he1).1
  have hP2 := P_arr (f' := f) hP (List.getElem?_set_self hlt) (fun j hj => by rw [pk_cpy_in (Nat.zero_le _) (by omega)]; congr 1; omega)
  rw [List.set_set] at hP2
  exact kk B ls H1 locs1 hl hP2 (va_D_addr hD (by rw [List.map_set, List.map_set])) hS
end VCall
end
