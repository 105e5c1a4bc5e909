section
-- ===== PART A: goes FIRST, ahead of the names: the tables' words, and 'selects' of the private methods out of them =====
/-- a private method of a class that the tables say can be made, by its rows of tables_1 -/
def lw_okq (q : MethodName × Nat) : Prop := (q.1.cls ≠ "java/lang/invoke/MethodHandle" ∧ q.1.cls ≠ "java/lang/invoke/VarHandle") ∧ Cond.instantiable q.1.cls q.2 ∈ tables_1 ∧ Cond.privateMethod q.1 ∈ tables_1 ∧ Cond.instanceMethod q.1 ∈ tables_1
theorem lw_p0 : lw_okq (⟨"OwedFurrows$Text", "faultOfThing", "(IZ)I"⟩, 2) := ⟨⟨by decide +kernel, by decide +kernel⟩, List.mem_of_getElem? (i := 20) (by decide +kernel), List.mem_of_getElem? (i := 206) (by decide +kernel), List.mem_of_getElem? (i := 207) (by decide +kernel)⟩
theorem lw_p1 : lw_okq (⟨"OwedFurrows$Land", "addField", "(LOwedFurrows$Text;I)V"⟩, 8) := ⟨⟨by decide +kernel, by decide +kernel⟩, List.mem_of_getElem? (i := 37) (by decide +kernel), List.mem_of_getElem? (i := 218) (by decide +kernel), List.mem_of_getElem? (i := 219) (by decide +kernel)⟩
theorem lw_p2 : lw_okq (⟨"OwedFurrows$Land", "addEater", "(LOwedFurrows$Text;I)V"⟩, 8) := ⟨⟨by decide +kernel, by decide +kernel⟩, List.mem_of_getElem? (i := 37) (by decide +kernel), List.mem_of_getElem? (i := 226) (by decide +kernel), List.mem_of_getElem? (i := 227) (by decide +kernel)⟩
theorem lw_p3 : lw_okq (⟨"OwedFurrows", "sownIfCome", "(I)I"⟩, 10) := ⟨⟨by decide +kernel, by decide +kernel⟩, List.mem_of_getElem? (i := 12) (by decide +kernel), List.mem_of_getElem? (i := 270) (by decide +kernel), List.mem_of_getElem? (i := 271) (by decide +kernel)⟩
theorem lw_p4 : lw_okq (⟨"OwedFurrows$Commons", "nearestOwed", "(II)I"⟩, 7) := ⟨⟨by decide +kernel, by decide +kernel⟩, List.mem_of_getElem? (i := 84) (by decide +kernel), List.mem_of_getElem? (i := 289) (by decide +kernel), List.mem_of_getElem? (i := 290) (by decide +kernel)⟩
theorem lw_p5 : lw_okq (⟨"OwedFurrows$Commons", "bringSeed", "(II)V"⟩, 7) := ⟨⟨by decide +kernel, by decide +kernel⟩, List.mem_of_getElem? (i := 84) (by decide +kernel), List.mem_of_getElem? (i := 296) (by decide +kernel), List.mem_of_getElem? (i := 297) (by decide +kernel)⟩
theorem lw_p6 : lw_okq (⟨"OwedFurrows", "isSownIfFed", "(II)Z"⟩, 10) := ⟨⟨by decide +kernel, by decide +kernel⟩, List.mem_of_getElem? (i := 12) (by decide +kernel), List.mem_of_getElem? (i := 388) (by decide +kernel), List.mem_of_getElem? (i := 389) (by decide +kernel)⟩
theorem lw_p7 : lw_okq (⟨"OwedFurrows", "tryToTake", "(II)Z"⟩, 10) := ⟨⟨by decide +kernel, by decide +kernel⟩, List.mem_of_getElem? (i := 12) (by decide +kernel), List.mem_of_getElem? (i := 392) (by decide +kernel), List.mem_of_getElem? (i := 393) (by decide +kernel)⟩
theorem lw_p8 : lw_okq (⟨"OwedFurrows", "isSo", "(III)Z"⟩, 10) := ⟨⟨by decide +kernel, by decide +kernel⟩, List.mem_of_getElem? (i := 12) (by decide +kernel), List.mem_of_getElem? (i := 410) (by decide +kernel), List.mem_of_getElem? (i := 411) (by decide +kernel)⟩
theorem lw_p9 : lw_okq (⟨"OwedFurrows", "playPair", "(IIII)V"⟩, 10) := ⟨⟨by decide +kernel, by decide +kernel⟩, List.mem_of_getElem? (i := 12) (by decide +kernel), List.mem_of_getElem? (i := 449) (by decide +kernel), List.mem_of_getElem? (i := 450) (by decide +kernel)⟩
theorem lw_p10 : lw_okq (⟨"OwedFurrows", "isAtRest", "(I)Z"⟩, 10) := ⟨⟨by decide +kernel, by decide +kernel⟩, List.mem_of_getElem? (i := 12) (by decide +kernel), List.mem_of_getElem? (i := 453) (by decide +kernel), List.mem_of_getElem? (i := 454) (by decide +kernel)⟩
theorem lw_p11 : lw_okq (⟨"OwedFurrows", "doByLot", "(I)V"⟩, 10) := ⟨⟨by decide +kernel, by decide +kernel⟩, List.mem_of_getElem? (i := 12) (by decide +kernel), List.mem_of_getElem? (i := 476) (by decide +kernel), List.mem_of_getElem? (i := 477) (by decide +kernel)⟩
theorem lw_p12 : lw_okq (⟨"OwedFurrowsModel", "readCountry", "()I"⟩, 34) := ⟨⟨by decide +kernel, by decide +kernel⟩, List.mem_of_getElem? (i := 488) (by decide +kernel), List.mem_of_getElem? (i := 613) (by decide +kernel), List.mem_of_getElem? (i := 614) (by decide +kernel)⟩
theorem lw_p13 : lw_okq (⟨"OwedFurrowsModel", "readThing", "()Z"⟩, 34) := ⟨⟨by decide +kernel, by decide +kernel⟩, List.mem_of_getElem? (i := 488) (by decide +kernel), List.mem_of_getElem? (i := 617) (by decide +kernel), List.mem_of_getElem? (i := 618) (by decide +kernel)⟩
theorem lw_p14 : lw_okq (⟨"OwedFurrowsModel", "readOneField", "()Z"⟩, 34) := ⟨⟨by decide +kernel, by decide +kernel⟩, List.mem_of_getElem? (i := 488) (by decide +kernel), List.mem_of_getElem? (i := 621) (by decide +kernel), List.mem_of_getElem? (i := 622) (by decide +kernel)⟩
theorem lw_p15 : lw_okq (⟨"OwedFurrowsModel", "figure", "(II)I"⟩, 34) := ⟨⟨by decide +kernel, by decide +kernel⟩, List.mem_of_getElem? (i := 488) (by decide +kernel), List.mem_of_getElem? (i := 625) (by decide +kernel), List.mem_of_getElem? (i := 626) (by decide +kernel)⟩
def lw_privs_1 : List (MethodName × Nat) := [(⟨"OwedFurrows$Text", "faultOfThing", "(IZ)I"⟩, 2), (⟨"OwedFurrows$Land", "addField", "(LOwedFurrows$Text;I)V"⟩, 8), (⟨"OwedFurrows$Land", "addEater", "(LOwedFurrows$Text;I)V"⟩, 8), (⟨"OwedFurrows", "sownIfCome", "(I)I"⟩, 10), (⟨"OwedFurrows$Commons", "nearestOwed", "(II)I"⟩, 7), (⟨"OwedFurrows$Commons", "bringSeed", "(II)V"⟩, 7), (⟨"OwedFurrows", "isSownIfFed", "(II)Z"⟩, 10), (⟨"OwedFurrows", "tryToTake", "(II)Z"⟩, 10), (⟨"OwedFurrows", "isSo", "(III)Z"⟩, 10), (⟨"OwedFurrows", "playPair", "(IIII)V"⟩, 10), (⟨"OwedFurrows", "isAtRest", "(I)Z"⟩, 10), (⟨"OwedFurrows", "doByLot", "(I)V"⟩, 10), (⟨"OwedFurrowsModel", "readCountry", "()I"⟩, 34), (⟨"OwedFurrowsModel", "readThing", "()Z"⟩, 34), (⟨"OwedFurrowsModel", "readOneField", "()Z"⟩, 34), (⟨"OwedFurrowsModel", "figure", "(II)I"⟩, 34)]
theorem lw_r1 : ∀ q ∈ lw_privs_1, lw_okq q := List.forall_mem_cons.mpr ⟨lw_p0, List.forall_mem_cons.mpr ⟨lw_p1, List.forall_mem_cons.mpr ⟨lw_p2, List.forall_mem_cons.mpr ⟨lw_p3, List.forall_mem_cons.mpr ⟨lw_p4, List.forall_mem_cons.mpr ⟨lw_p5, List.forall_mem_cons.mpr ⟨lw_p6, List.forall_mem_cons.mpr ⟨lw_p7, List.forall_mem_cons.mpr ⟨lw_p8, List.forall_mem_cons.mpr ⟨lw_p9, List.forall_mem_cons.mpr ⟨lw_p10, List.forall_mem_cons.mpr ⟨lw_p11, List.forall_mem_cons.mpr ⟨lw_p12, List.forall_mem_cons.mpr ⟨lw_p13, List.forall_mem_cons.mpr ⟨lw_p14, List.forall_mem_cons.mpr ⟨lw_p15, fun _ h => absurd h List.not_mem_nil⟩⟩⟩⟩⟩⟩⟩⟩⟩⟩⟩⟩⟩⟩⟩⟩
theorem lw_p16 : lw_okq (⟨"OwedFurrowsModel", "readOneEater", "()Z"⟩, 34) := ⟨⟨by decide +kernel, by decide +kernel⟩, List.mem_of_getElem? (i := 488) (by decide +kernel), List.mem_of_getElem? (i := 629) (by decide +kernel), List.mem_of_getElem? (i := 630) (by decide +kernel)⟩
theorem lw_p17 : lw_okq (⟨"OwedFurrowsModel", "owedTogether", "()I"⟩, 34) := ⟨⟨by decide +kernel, by decide +kernel⟩, List.mem_of_getElem? (i := 488) (by decide +kernel), List.mem_of_getElem? (i := 644) (by decide +kernel), List.mem_of_getElem? (i := 645) (by decide +kernel)⟩
theorem lw_p18 : lw_okq (⟨"OwedFurrowsModel", "sown", "([I)I"⟩, 34) := ⟨⟨by decide +kernel, by decide +kernel⟩, List.mem_of_getElem? (i := 488) (by decide +kernel), List.mem_of_getElem? (i := 654) (by decide +kernel), List.mem_of_getElem? (i := 655) (by decide +kernel)⟩
theorem lw_p19 : lw_okq (⟨"OwedFurrowsModel", "marched", "(I)I"⟩, 34) := ⟨⟨by decide +kernel, by decide +kernel⟩, List.mem_of_getElem? (i := 488) (by decide +kernel), List.mem_of_getElem? (i := 658) (by decide +kernel), List.mem_of_getElem? (i := 659) (by decide +kernel)⟩
theorem lw_p20 : lw_okq (⟨"OwedFurrowsModel", "begin", "()V"⟩, 34) := ⟨⟨by decide +kernel, by decide +kernel⟩, List.mem_of_getElem? (i := 488) (by decide +kernel), List.mem_of_getElem? (i := 662) (by decide +kernel), List.mem_of_getElem? (i := 663) (by decide +kernel)⟩
theorem lw_p21 : lw_okq (⟨"OwedFurrowsModel", "goMarch", "([II)I"⟩, 34) := ⟨⟨by decide +kernel, by decide +kernel⟩, List.mem_of_getElem? (i := 488) (by decide +kernel), List.mem_of_getElem? (i := 666) (by decide +kernel), List.mem_of_getElem? (i := 667) (by decide +kernel)⟩
theorem lw_p22 : lw_okq (⟨"OwedFurrowsModel", "goes", "([III)I"⟩, 34) := ⟨⟨by decide +kernel, by decide +kernel⟩, List.mem_of_getElem? (i := 488) (by decide +kernel), List.mem_of_getElem? (i := 673) (by decide +kernel), List.mem_of_getElem? (i := 674) (by decide +kernel)⟩
theorem lw_p23 : lw_okq (⟨"OwedFurrowsModel", "nearest", "([III)I"⟩, 34) := ⟨⟨by decide +kernel, by decide +kernel⟩, List.mem_of_getElem? (i := 488) (by decide +kernel), List.mem_of_getElem? (i := 677) (by decide +kernel), List.mem_of_getElem? (i := 678) (by decide +kernel)⟩
theorem lw_p24 : lw_okq (⟨"OwedFurrowsModel", "noField", "(I)Z"⟩, 34) := ⟨⟨by decide +kernel, by decide +kernel⟩, List.mem_of_getElem? (i := 488) (by decide +kernel), List.mem_of_getElem? (i := 691) (by decide +kernel), List.mem_of_getElem? (i := 692) (by decide +kernel)⟩
theorem lw_p25 : lw_okq (⟨"OwedFurrowsModel", "owing", "(I)I"⟩, 34) := ⟨⟨by decide +kernel, by decide +kernel⟩, List.mem_of_getElem? (i := 488) (by decide +kernel), List.mem_of_getElem? (i := 695) (by decide +kernel), List.mem_of_getElem? (i := 696) (by decide +kernel)⟩
theorem lw_p26 : lw_okq (⟨"OwedFurrowsModel", "noEater", "(I)Z"⟩, 34) := ⟨⟨by decide +kernel, by decide +kernel⟩, List.mem_of_getElem? (i := 488) (by decide +kernel), List.mem_of_getElem? (i := 703) (by decide +kernel), List.mem_of_getElem? (i := 704) (by decide +kernel)⟩
theorem lw_p27 : lw_okq (⟨"OwedFurrowsModel", "canEat", "([III)Z"⟩, 34) := ⟨⟨by decide +kernel, by decide +kernel⟩, List.mem_of_getElem? (i := 488) (by decide +kernel), List.mem_of_getElem? (i := 715) (by decide +kernel), List.mem_of_getElem? (i := 716) (by decide +kernel)⟩
theorem lw_p28 : lw_okq (⟨"OwedFurrowsModel", "bite", "(I)I"⟩, 34) := ⟨⟨by decide +kernel, by decide +kernel⟩, List.mem_of_getElem? (i := 488) (by decide +kernel), List.mem_of_getElem? (i := 719) (by decide +kernel), List.mem_of_getElem? (i := 720) (by decide +kernel)⟩
theorem lw_p29 : lw_okq (⟨"OwedFurrowsModel", "note", "()V"⟩, 34) := ⟨⟨by decide +kernel, by decide +kernel⟩, List.mem_of_getElem? (i := 488) (by decide +kernel), List.mem_of_getElem? (i := 723) (by decide +kernel), List.mem_of_getElem? (i := 724) (by decide +kernel)⟩
theorem lw_p30 : lw_okq (⟨"OwedFurrowsModel", "goEat", "([III)V"⟩, 34) := ⟨⟨by decide +kernel, by decide +kernel⟩, List.mem_of_getElem? (i := 488) (by decide +kernel), List.mem_of_getElem? (i := 727) (by decide +kernel), List.mem_of_getElem? (i := 728) (by decide +kernel)⟩
theorem lw_p31 : lw_okq (⟨"OwedFurrowsModel", "goHarvest", "([I)I"⟩, 34) := ⟨⟨by decide +kernel, by decide +kernel⟩, List.mem_of_getElem? (i := 488) (by decide +kernel), List.mem_of_getElem? (i := 743) (by decide +kernel), List.mem_of_getElem? (i := 744) (by decide +kernel)⟩
def lw_privs_2 : List (MethodName × Nat) := [(⟨"OwedFurrowsModel", "readOneEater", "()Z"⟩, 34), (⟨"OwedFurrowsModel", "owedTogether", "()I"⟩, 34), (⟨"OwedFurrowsModel", "sown", "([I)I"⟩, 34), (⟨"OwedFurrowsModel", "marched", "(I)I"⟩, 34), (⟨"OwedFurrowsModel", "begin", "()V"⟩, 34), (⟨"OwedFurrowsModel", "goMarch", "([II)I"⟩, 34), (⟨"OwedFurrowsModel", "goes", "([III)I"⟩, 34), (⟨"OwedFurrowsModel", "nearest", "([III)I"⟩, 34), (⟨"OwedFurrowsModel", "noField", "(I)Z"⟩, 34), (⟨"OwedFurrowsModel", "owing", "(I)I"⟩, 34), (⟨"OwedFurrowsModel", "noEater", "(I)Z"⟩, 34), (⟨"OwedFurrowsModel", "canEat", "([III)Z"⟩, 34), (⟨"OwedFurrowsModel", "bite", "(I)I"⟩, 34), (⟨"OwedFurrowsModel", "note", "()V"⟩, 34), (⟨"OwedFurrowsModel", "goEat", "([III)V"⟩, 34), (⟨"OwedFurrowsModel", "goHarvest", "([I)I"⟩, 34)]
theorem lw_r2 : ∀ q ∈ lw_privs_2, lw_okq q := List.forall_mem_cons.mpr ⟨lw_p16, List.forall_mem_cons.mpr ⟨lw_p17, List.forall_mem_cons.mpr ⟨lw_p18, List.forall_mem_cons.mpr ⟨lw_p19, List.forall_mem_cons.mpr ⟨lw_p20, List.forall_mem_cons.mpr ⟨lw_p21, List.forall_mem_cons.mpr ⟨lw_p22, List.forall_mem_cons.mpr ⟨lw_p23, List.forall_mem_cons.mpr ⟨lw_p24, List.forall_mem_cons.mpr ⟨lw_p25, List.forall_mem_cons.mpr ⟨lw_p26, List.forall_mem_cons.mpr ⟨lw_p27, List.forall_mem_cons.mpr ⟨lw_p28, List.forall_mem_cons.mpr ⟨lw_p29, List.forall_mem_cons.mpr ⟨lw_p30, List.forall_mem_cons.mpr ⟨lw_p31, fun _ h => absurd h List.not_mem_nil⟩⟩⟩⟩⟩⟩⟩⟩⟩⟩⟩⟩⟩⟩⟩⟩
theorem lw_p32 : lw_okq (⟨"OwedFurrowsModel", "isSownBy", "(II)Z"⟩, 34) := ⟨⟨by decide +kernel, by decide +kernel⟩, List.mem_of_getElem? (i := 488) (by decide +kernel), List.mem_of_getElem? (i := 763) (by decide +kernel), List.mem_of_getElem? (i := 764) (by decide +kernel)⟩
theorem lw_p33 : lw_okq (⟨"OwedFurrowsModel", "does", "(I)Z"⟩, 34) := ⟨⟨by decide +kernel, by decide +kernel⟩, List.mem_of_getElem? (i := 488) (by decide +kernel), List.mem_of_getElem? (i := 780) (by decide +kernel), List.mem_of_getElem? (i := 781) (by decide +kernel)⟩
theorem lw_p34 : lw_okq (⟨"OwedFurrowsModel", "eats", "(II)Z"⟩, 34) := ⟨⟨by decide +kernel, by decide +kernel⟩, List.mem_of_getElem? (i := 488) (by decide +kernel), List.mem_of_getElem? (i := 784) (by decide +kernel), List.mem_of_getElem? (i := 785) (by decide +kernel)⟩
def lw_privs_3 : List (MethodName × Nat) := [(⟨"OwedFurrowsModel", "isSownBy", "(II)Z"⟩, 34), (⟨"OwedFurrowsModel", "does", "(I)Z"⟩, 34), (⟨"OwedFurrowsModel", "eats", "(II)Z"⟩, 34)]
theorem lw_r3 : ∀ q ∈ lw_privs_3, lw_okq q := List.forall_mem_cons.mpr ⟨lw_p32, List.forall_mem_cons.mpr ⟨lw_p33, List.forall_mem_cons.mpr ⟨lw_p34, fun _ h => absurd h List.not_mem_nil⟩⟩⟩
def lw_privs : List (MethodName × Nat) := lw_privs_1 ++ (lw_privs_2 ++ (lw_privs_3))
def lw_tbl : List Cond := k2_sels lw_privs ++ tables_1
theorem lw_privs_ok : ∀ q ∈ lw_privs, lw_okq q := by
  show ∀ q ∈ lw_privs_1 ++ (lw_privs_2 ++ (lw_privs_3)), lw_okq q
  exact List.forall_mem_append.mpr ⟨lw_r1, List.forall_mem_append.mpr ⟨lw_r2, lw_r3⟩⟩

def RX0 : String := "OwedFurrows$Acts"
def TX0 : u_T := fun k => match k with
  | 0 => ("OwedFurrows$Acts", "ring", "[LOwedFurrows$Commons;", true)
  | 1 => ("OwedFurrows$Acts", "first", "I", false)
  | _ => ("OwedFurrows$Acts", "count", "I", false)
def tyX0 : Nat → FieldType := fun k => match k with
  | 0 => .array (.object "OwedFurrows$Commons")
  | 1 => .int
  | _ => .int
abbrev wsX00 : List Cond := u_ws RX0 TX0 3
theorem nmX0 : ∀ a, a < 3 → ∀ b, b < 3 → a ≠ b → (TX0 a).2.1 ≠ (TX0 b).2.1 := by decide +kernel
theorem tyX0_ok : ∀ k, k < 3 → parseFieldDescriptor (TX0 k).2.2.1 = some (tyX0 k) := by decide +kernel
abbrev cX0_init : ByteArray := prog_2_method_1_code
def yX0_init : MethodName := ⟨RX0, "<init>", "(LOwedFurrows$Land;)V"⟩
abbrev cX0_remember : ByteArray := prog_2_method_2_code
def yX0_remember : MethodName := ⟨RX0, "remember", "(LOwedFurrows$Commons;)V"⟩
abbrev cX0_takeBackInto : ByteArray := prog_2_method_3_code
def yX0_takeBackInto : MethodName := ⟨RX0, "takeBackInto", "(LOwedFurrows$Commons;)V"⟩
def RX1 : String := "OwedFurrows$Commons"
def TX1 : u_T := fun k => match k with
  | 0 => ("OwedFurrows$Commons", "land", "LOwedFurrows$Land;", true)
  | 1 => ("OwedFurrows$Commons", "loaves", "[I", true)
  | 2 => ("OwedFurrows$Commons", "sacks", "[I", true)
  | 3 => ("OwedFurrows$Commons", "debts", "[I", true)
  | 4 => ("OwedFurrows$Commons", "year", "I", false)
  | 5 => ("OwedFurrows$Commons", "visits", "[I", true)
  | _ => ("OwedFurrows$Commons", "ways", "[I", true)
def tyX1 : Nat → FieldType := fun k => match k with
  | 0 => .object "OwedFurrows$Land"
  | 1 => .array .int
  | 2 => .array .int
  | 3 => .array .int
  | 4 => .int
  | 5 => .array .int
  | _ => .array .int
abbrev wsX10 : List Cond := u_ws RX1 TX1 7
theorem nmX1 : ∀ a, a < 7 → ∀ b, b < 7 → a ≠ b → (TX1 a).2.1 ≠ (TX1 b).2.1 := by decide +kernel
theorem tyX1_ok : ∀ k, k < 7 → parseFieldDescriptor (TX1 k).2.2.1 = some (tyX1 k) := by decide +kernel
abbrev cX1_init : ByteArray := prog_3_method_1_code
def yX1_init : MethodName := ⟨RX1, "<init>", "(LOwedFurrows$Land;)V"⟩
abbrev cX1_beginAnew : ByteArray := prog_3_method_2_code
def yX1_beginAnew : MethodName := ⟨RX1, "beginAnew", "()V"⟩
abbrev cX1_copyFrom : ByteArray := prog_3_method_3_code
def yX1_copyFrom : MethodName := ⟨RX1, "copyFrom", "(LOwedFurrows$Commons;)V"⟩
abbrev cX1_debt : ByteArray := prog_3_method_4_code
def yX1_debt : MethodName := ⟨RX1, "debt", "(II)I"⟩
abbrev cX1_debtsOf : ByteArray := prog_3_method_5_code
def yX1_debtsOf : MethodName := ⟨RX1, "debtsOf", "(I)I"⟩
abbrev cX1_allDebts : ByteArray := prog_3_method_6_code
def yX1_allDebts : MethodName := ⟨RX1, "allDebts", "()I"⟩
abbrev cX1_debtorsOf : ByteArray := prog_3_method_7_code
def yX1_debtorsOf : MethodName := ⟨RX1, "debtorsOf", "(I)I"⟩
abbrev cX1_allLoaves : ByteArray := prog_3_method_8_code
def yX1_allLoaves : MethodName := ⟨RX1, "allLoaves", "()I"⟩
abbrev cX1_allSeed : ByteArray := prog_3_method_9_code
def yX1_allSeed : MethodName := ⟨RX1, "allSeed", "()I"⟩
abbrev cX1_isSown : ByteArray := prog_3_method_10_code
def yX1_isSown : MethodName := ⟨RX1, "isSown", "(I)Z"⟩
abbrev cX1_sownFields : ByteArray := prog_3_method_11_code
def yX1_sownFields : MethodName := ⟨RX1, "sownFields", "()I"⟩
abbrev cX1_canTake : ByteArray := prog_3_method_12_code
def yX1_canTake : MethodName := ⟨RX1, "canTake", "(II)Z"⟩
abbrev cX1_takeLoaves : ByteArray := prog_3_method_13_code
def yX1_takeLoaves : MethodName := ⟨RX1, "takeLoaves", "(II)V"⟩
abbrev cX1_callOut : ByteArray := prog_3_method_14_code
def yX1_callOut : MethodName := ⟨RX1, "callOut", "(I)V"⟩
abbrev cX1_sendOut : ByteArray := prog_3_method_15_code
def yX1_sendOut : MethodName := ⟨RX1, "sendOut", "(II)V"⟩
abbrev cX1_nearestOwed : ByteArray := prog_3_method_16_code
def yX1_nearestOwed : MethodName := ⟨RX1, "nearestOwed", "(II)I"⟩
abbrev cX1_bringSeed : ByteArray := prog_3_method_17_code
def yX1_bringSeed : MethodName := ⟨RX1, "bringSeed", "(II)V"⟩
abbrev cX1_reap : ByteArray := prog_3_method_18_code
def yX1_reap : MethodName := ⟨RX1, "reap", "()V"⟩
def RX2 : String := "OwedFurrows$Land"
def TX2 : u_T := fun k => match k with
  | 0 => ("OwedFurrows$Land", "places", "[I", true)
  | 1 => ("OwedFurrows$Land", "yields", "[I", true)
  | 2 => ("OwedFurrows$Land", "needs", "[I", true)
  | 3 => ("OwedFurrows$Land", "homes", "[I", true)
  | 4 => ("OwedFurrows$Land", "walks", "[I", true)
  | 5 => ("OwedFurrows$Land", "kinds", "[I", true)
  | 6 => ("OwedFurrows$Land", "fields", "I", false)
  | _ => ("OwedFurrows$Land", "eaters", "I", false)
def tyX2 : Nat → FieldType := fun k => match k with
  | 0 => .array .int
  | 1 => .array .int
  | 2 => .array .int
  | 3 => .array .int
  | 4 => .array .int
  | 5 => .array .int
  | 6 => .int
  | _ => .int
abbrev wsX20 : List Cond := u_ws RX2 TX2 8
theorem nmX2 : ∀ a, a < 8 → ∀ b, b < 8 → a ≠ b → (TX2 a).2.1 ≠ (TX2 b).2.1 := by decide +kernel
theorem tyX2_ok : ∀ k, k < 8 → parseFieldDescriptor (TX2 k).2.2.1 = some (tyX2 k) := by decide +kernel
abbrev cX2_init : ByteArray := prog_4_method_1_code
def yX2_init : MethodName := ⟨RX2, "<init>", "()V"⟩
abbrev cX2_readFrom : ByteArray := prog_4_method_2_code
def yX2_readFrom : MethodName := ⟨RX2, "readFrom", "(LOwedFurrows$Text;)V"⟩
abbrev cX2_addField : ByteArray := prog_4_method_3_code
def yX2_addField : MethodName := ⟨RX2, "addField", "(LOwedFurrows$Text;I)V"⟩
abbrev cX2_addEater : ByteArray := prog_4_method_4_code
def yX2_addEater : MethodName := ⟨RX2, "addEater", "(LOwedFurrows$Text;I)V"⟩
abbrev cX2_hasField : ByteArray := prog_4_method_5_code
def yX2_hasField : MethodName := ⟨RX2, "hasField", "(I)Z"⟩
abbrev cX2_hasEater : ByteArray := prog_4_method_6_code
def yX2_hasEater : MethodName := ⟨RX2, "hasEater", "(I)Z"⟩
abbrev cX2_allEaters : ByteArray := prog_4_method_7_code
def yX2_allEaters : MethodName := ⟨RX2, "allEaters", "()I"⟩
abbrev cX2_portionOf : ByteArray := prog_4_method_8_code
def yX2_portionOf : MethodName := ⟨RX2, "portionOf", "(I)I"⟩
def RX3 : String := "OwedFurrows$Text"
def TX3 : u_T := fun k => match k with
  | 0 => ("OwedFurrows$Text", "bytes", "[I", true)
  | _ => ("OwedFurrows$Text", "length", "I", false)
def tyX3 : Nat → FieldType := fun k => match k with
  | 0 => .array .int
  | _ => .int
abbrev wsX30 : List Cond := u_ws RX3 TX3 2
theorem nmX3 : ∀ a, a < 2 → ∀ b, b < 2 → a ≠ b → (TX3 a).2.1 ≠ (TX3 b).2.1 := by decide +kernel
theorem tyX3_ok : ∀ k, k < 2 → parseFieldDescriptor (TX3 k).2.2.1 = some (tyX3 k) := by decide +kernel
abbrev cX3_init : ByteArray := prog_5_method_1_code
def yX3_init : MethodName := ⟨RX3, "<init>", "()V"⟩
abbrev cX3_append : ByteArray := prog_5_method_2_code
def yX3_append : MethodName := ⟨RX3, "append", "(I)V"⟩
abbrev cX3_firstFault : ByteArray := prog_5_method_3_code
def yX3_firstFault : MethodName := ⟨RX3, "firstFault", "()I"⟩
abbrev cX3_faultOfThing : ByteArray := prog_5_method_4_code
def yX3_faultOfThing : MethodName := ⟨RX3, "faultOfThing", "(IZ)I"⟩
abbrev cX3_figure : ByteArray := prog_5_method_5_code
def yX3_figure : MethodName := ⟨RX3, "figure", "(I)I"⟩
def RX4 : String := "OwedFurrows$Tidings"
def TX4 : u_T := fun k => match k with
  | 0 => ("OwedFurrows$Tidings", "places", "[I", true)
  | 1 => ("OwedFurrows$Tidings", "cameThere", "[Z", true)
  | _ => ("OwedFurrows$Tidings", "count", "I", false)
def tyX4 : Nat → FieldType := fun k => match k with
  | 0 => .array .int
  | 1 => .array .boolean
  | _ => .int
abbrev wsX40 : List Cond := u_ws RX4 TX4 3
theorem nmX4 : ∀ a, a < 3 → ∀ b, b < 3 → a ≠ b → (TX4 a).2.1 ≠ (TX4 b).2.1 := by decide +kernel
theorem tyX4_ok : ∀ k, k < 3 → parseFieldDescriptor (TX4 k).2.2.1 = some (tyX4 k) := by decide +kernel
abbrev cX4_init : ByteArray := prog_6_method_1_code
def yX4_init : MethodName := ⟨RX4, "<init>", "()V"⟩
abbrev cX4_add : ByteArray := prog_6_method_2_code
def yX4_add : MethodName := ⟨RX4, "add", "(IZ)V"⟩
abbrev cX4_allowFor : ByteArray := prog_6_method_3_code
def yX4_allowFor : MethodName := ⟨RX4, "allowFor", "(II)Z"⟩
def RX5 : String := "OwedFurrows"
def TX5 : u_T := fun k => match k with
  | 0 => ("OwedFurrows", "text", "LOwedFurrows$Text;", true)
  | 1 => ("OwedFurrows", "land", "LOwedFurrows$Land;", true)
  | 2 => ("OwedFurrows", "now", "LOwedFurrows$Commons;", true)
  | 3 => ("OwedFurrows", "trial", "LOwedFurrows$Commons;", true)
  | 4 => ("OwedFurrows", "acts", "LOwedFurrows$Acts;", true)
  | 5 => ("OwedFurrows", "tidings", "LOwedFurrows$Tidings;", true)
  | 6 => ("OwedFurrows", "kept", "[LOwedFurrows$Commons;", true)
  | 7 => ("OwedFurrows", "isKept", "[Z", true)
  | 8 => ("OwedFurrows", "gains", "[I", true)
  | _ => ("OwedFurrows", "lotSeed", "J", false)
def tyX5 : Nat → FieldType := fun k => match k with
  | 0 => .object "OwedFurrows$Text"
  | 1 => .object "OwedFurrows$Land"
  | 2 => .object "OwedFurrows$Commons"
  | 3 => .object "OwedFurrows$Commons"
  | 4 => .object "OwedFurrows$Acts"
  | 5 => .object "OwedFurrows$Tidings"
  | 6 => .array (.object "OwedFurrows$Commons")
  | 7 => .array .boolean
  | 8 => .array .int
  | _ => .long
abbrev wsX50 : List Cond := u_ws RX5 TX5 10
theorem nmX5 : ∀ a, a < 10 → ∀ b, b < 10 → a ≠ b → (TX5 a).2.1 ≠ (TX5 b).2.1 := by decide +kernel
theorem tyX5_ok : ∀ k, k < 10 → parseFieldDescriptor (TX5 k).2.2.1 = some (tyX5 k) := by decide +kernel
abbrev cX5_init : ByteArray := prog_1_method_1_code
def yX5_init : MethodName := ⟨RX5, "<init>", "()V"⟩
abbrev cX5_write : ByteArray := prog_1_method_2_code
def yX5_write : MethodName := ⟨RX5, "write", "(I)I"⟩
abbrev cX5_wipe : ByteArray := prog_1_method_3_code
def yX5_wipe : MethodName := ⟨RX5, "wipe", "()I"⟩
abbrev cX5_fault : ByteArray := prog_1_method_4_code
def yX5_fault : MethodName := ⟨RX5, "fault", "()I"⟩
abbrev cX5_country : ByteArray := prog_1_method_5_code
def yX5_country : MethodName := ⟨RX5, "country", "()I"⟩
abbrev cX5_about : ByteArray := prog_1_method_6_code
def yX5_about : MethodName := ⟨RX5, "about", "(I)I"⟩
abbrev cX5_field : ByteArray := prog_1_method_7_code
def yX5_field : MethodName := ⟨RX5, "field", "(II)I"⟩
abbrev cX5_eater : ByteArray := prog_1_method_8_code
def yX5_eater : MethodName := ⟨RX5, "eater", "(II)I"⟩
abbrev cX5_owes : ByteArray := prog_1_method_9_code
def yX5_owes : MethodName := ⟨RX5, "owes", "(II)I"⟩
abbrev cX5_eat : ByteArray := prog_1_method_10_code
def yX5_eat : MethodName := ⟨RX5, "eat", "(II)I"⟩
abbrev cX5_cake : ByteArray := prog_1_method_11_code
def yX5_cake : MethodName := ⟨RX5, "cake", "(III)I"⟩
abbrev cX5_march : ByteArray := prog_1_method_12_code
def yX5_march : MethodName := ⟨RX5, "march", "()I"⟩
abbrev cX5_harvest : ByteArray := prog_1_method_13_code
def yX5_harvest : MethodName := ⟨RX5, "harvest", "()I"⟩
abbrev cX5_undo : ByteArray := prog_1_method_14_code
def yX5_undo : MethodName := ⟨RX5, "undo", "()I"⟩
abbrev cX5_ahead : ByteArray := prog_1_method_15_code
def yX5_ahead : MethodName := ⟨RX5, "ahead", "(II)I"⟩
abbrev cX5_wants : ByteArray := prog_1_method_16_code
def yX5_wants : MethodName := ⟨RX5, "wants", "(I)I"⟩
abbrev cX5_rid : ByteArray := prog_1_method_17_code
def yX5_rid : MethodName := ⟨RX5, "rid", "(I)I"⟩
abbrev cX5_judge : ByteArray := prog_1_method_18_code
def yX5_judge : MethodName := ⟨RX5, "judge", "(IJ)I"⟩
abbrev cX5_share : ByteArray := prog_1_method_19_code
def yX5_share : MethodName := ⟨RX5, "share", "(IZ)I"⟩
abbrev cX5_came : ByteArray := prog_1_method_20_code
def yX5_came : MethodName := ⟨RX5, "came", "(II)I"⟩
abbrev cX5_forget : ByteArray := prog_1_method_21_code
def yX5_forget : MethodName := ⟨RX5, "forget", "()I"⟩
abbrev cX5_strangers : ByteArray := prog_1_method_22_code
def yX5_strangers : MethodName := ⟨RX5, "strangers", "(I)I"⟩
abbrev cX5_rests : ByteArray := prog_1_method_23_code
def yX5_rests : MethodName := ⟨RX5, "rests", "(IIII)I"⟩
abbrev cX5_home : ByteArray := prog_1_method_24_code
def yX5_home : MethodName := ⟨RX5, "home", "(IIZ)I"⟩
abbrev cX5_seed : ByteArray := prog_1_method_25_code
def yX5_seed : MethodName := ⟨RX5, "seed", "(J)J"⟩
abbrev cX5_years : ByteArray := prog_1_method_26_code
def yX5_years : MethodName := ⟨RX5, "years", "(I)I"⟩
abbrev cX5_keep : ByteArray := prog_1_method_27_code
def yX5_keep : MethodName := ⟨RX5, "keep", "(I)I"⟩
abbrev cX5_again : ByteArray := prog_1_method_28_code
def yX5_again : MethodName := ⟨RX5, "again", "(I)I"⟩
abbrev cX5_sownIfCome : ByteArray := prog_1_method_29_code
def yX5_sownIfCome : MethodName := ⟨RX5, "sownIfCome", "(I)I"⟩
abbrev cX5_isSownIfFed : ByteArray := prog_1_method_30_code
def yX5_isSownIfFed : MethodName := ⟨RX5, "isSownIfFed", "(II)Z"⟩
abbrev cX5_tryToTake : ByteArray := prog_1_method_31_code
def yX5_tryToTake : MethodName := ⟨RX5, "tryToTake", "(II)Z"⟩
abbrev cX5_isSo : ByteArray := prog_1_method_32_code
def yX5_isSo : MethodName := ⟨RX5, "isSo", "(III)Z"⟩
abbrev cX5_playPair : ByteArray := prog_1_method_33_code
def yX5_playPair : MethodName := ⟨RX5, "playPair", "(IIII)V"⟩
abbrev cX5_isAtRest : ByteArray := prog_1_method_34_code
def yX5_isAtRest : MethodName := ⟨RX5, "isAtRest", "(I)Z"⟩
abbrev cX5_doByLot : ByteArray := prog_1_method_35_code
def yX5_doByLot : MethodName := ⟨RX5, "doByLot", "(I)V"⟩
abbrev cX5_withoutLast : ByteArray := prog_1_method_36_code
def yX5_withoutLast : MethodName := ⟨RX5, "withoutLast", "(JI)J"⟩
abbrev cX5_ordersOf : ByteArray := prog_1_method_37_code
def yX5_ordersOf : MethodName := ⟨RX5, "ordersOf", "(I)J"⟩
abbrev cX5_power : ByteArray := prog_1_method_38_code
def yX5_power : MethodName := ⟨RX5, "power", "(JI)J"⟩
abbrev cX5_partOfFraction : ByteArray := prog_1_method_39_code
def yX5_partOfFraction : MethodName := ⟨RX5, "partOfFraction", "(JJZ)I"⟩
def RX6 : String := "OwedFurrowsModel"
def TX6 : u_T := fun k => match k with
  | 0 => ("OwedFurrowsModel", "thrown", "I", false)
  | 1 => ("OwedFurrowsModel", "text", "[I", true)
  | 2 => ("OwedFurrowsModel", "textSize", "I", false)
  | 3 => ("OwedFurrowsModel", "place", "I", false)
  | 4 => ("OwedFurrowsModel", "fields", "I", false)
  | 5 => ("OwedFurrowsModel", "lies", "[I", true)
  | 6 => ("OwedFurrowsModel", "yields", "[I", true)
  | 7 => ("OwedFurrowsModel", "needs", "[I", true)
  | 8 => ("OwedFurrowsModel", "eaters", "I", false)
  | 9 => ("OwedFurrowsModel", "lives", "[I", true)
  | 10 => ("OwedFurrowsModel", "walk", "[I", true)
  | 11 => ("OwedFurrowsModel", "kind", "[I", true)
  | 12 => ("OwedFurrowsModel", "readFields", "I", false)
  | 13 => ("OwedFurrowsModel", "readField", "[I", true)
  | 14 => ("OwedFurrowsModel", "readEaters", "I", false)
  | 15 => ("OwedFurrowsModel", "readEater", "[I", true)
  | 16 => ("OwedFurrowsModel", "page", "[I", true)
  | 17 => ("OwedFurrowsModel", "trial", "[I", true)
  | 18 => ("OwedFurrowsModel", "book", "[I", true)
  | 19 => ("OwedFurrowsModel", "acts", "I", false)
  | 20 => ("OwedFurrowsModel", "kept", "[I", true)
  | 21 => ("OwedFurrowsModel", "isKept", "[Z", true)
  | 22 => ("OwedFurrowsModel", "cameMany", "I", false)
  | 23 => ("OwedFurrowsModel", "camePlace", "[I", true)
  | 24 => ("OwedFurrowsModel", "cameIs", "[I", true)
  | 25 => ("OwedFurrowsModel", "seed", "J", false)
  | 26 => ("OwedFurrowsModel", "wayFar", "I", false)
  | 27 => ("OwedFurrowsModel", "far", "[I", true)
  | 28 => ("OwedFurrowsModel", "strangerMany", "I", false)
  | 29 => ("OwedFurrowsModel", "strangerFirst", "I", false)
  | 30 => ("OwedFurrowsModel", "restMany", "I", false)
  | 31 => ("OwedFurrowsModel", "restFirst", "I", false)
  | 32 => ("OwedFurrowsModel", "gains", "[I", true)
  | _ => ("OwedFurrowsModel", "value", "[I", true)
def tyX6 : Nat → FieldType := fun k => match k with
  | 0 => .int
  | 1 => .array .int
  | 2 => .int
  | 3 => .int
  | 4 => .int
  | 5 => .array .int
  | 6 => .array .int
  | 7 => .array .int
  | 8 => .int
  | 9 => .array .int
  | 10 => .array .int
  | 11 => .array .int
  | 12 => .int
  | 13 => .array .int
  | 14 => .int
  | 15 => .array .int
  | 16 => .array .int
  | 17 => .array .int
  | 18 => .array .int
  | 19 => .int
  | 20 => .array .int
  | 21 => .array .boolean
  | 22 => .int
  | 23 => .array .int
  | 24 => .array .int
  | 25 => .long
  | 26 => .int
  | 27 => .array .int
  | 28 => .int
  | 29 => .int
  | 30 => .int
  | 31 => .int
  | 32 => .array .int
  | _ => .array .int
abbrev wsX60 : List Cond := u_ws RX6 TX6 34
theorem nmX6 : ∀ a, a < 34 → ∀ b, b < 34 → a ≠ b → (TX6 a).2.1 ≠ (TX6 b).2.1 := by decide +kernel
theorem tyX6_ok : ∀ k, k < 34 → parseFieldDescriptor (TX6 k).2.2.1 = some (tyX6 k) := by decide +kernel
abbrev cX6_init : ByteArray := prog_8_method_1_code
def yX6_init : MethodName := ⟨RX6, "<init>", "()V"⟩
abbrev cX6_in : ByteArray := prog_8_method_3_code
def yX6_in : MethodName := ⟨RX6, "in", "(JJJ)Z"⟩
abbrev cX6_has : ByteArray := prog_8_method_4_code
def yX6_has : MethodName := ⟨RX6, "has", "(II)Z"⟩
abbrev cX6_many : ByteArray := prog_8_method_5_code
def yX6_many : MethodName := ⟨RX6, "many", "(I)I"⟩
abbrev cX6_power : ByteArray := prog_8_method_6_code
def yX6_power : MethodName := ⟨RX6, "power", "(II)I"⟩
abbrev cX6_capped : ByteArray := prog_8_method_7_code
def yX6_capped : MethodName := ⟨RX6, "capped", "(I)I"⟩
abbrev cX6_apart : ByteArray := prog_8_method_8_code
def yX6_apart : MethodName := ⟨RX6, "apart", "(II)I"⟩
abbrev cX6_noField : ByteArray := prog_8_method_9_code
def yX6_noField : MethodName := ⟨RX6, "noField", "(I)Z"⟩
abbrev cX6_noEater : ByteArray := prog_8_method_10_code
def yX6_noEater : MethodName := ⟨RX6, "noEater", "(I)Z"⟩
abbrev cX6_write : ByteArray := prog_8_method_11_code
def yX6_write : MethodName := ⟨RX6, "write", "(I)I"⟩
abbrev cX6_wipe : ByteArray := prog_8_method_12_code
def yX6_wipe : MethodName := ⟨RX6, "wipe", "()I"⟩
abbrev cX6_figure : ByteArray := prog_8_method_13_code
def yX6_figure : MethodName := ⟨RX6, "figure", "(II)I"⟩
abbrev cX6_readOneField : ByteArray := prog_8_method_14_code
def yX6_readOneField : MethodName := ⟨RX6, "readOneField", "()Z"⟩
abbrev cX6_readOneEater : ByteArray := prog_8_method_15_code
def yX6_readOneEater : MethodName := ⟨RX6, "readOneEater", "()Z"⟩
abbrev cX6_readThing : ByteArray := prog_8_method_16_code
def yX6_readThing : MethodName := ⟨RX6, "readThing", "()Z"⟩
abbrev cX6_readCountry : ByteArray := prog_8_method_17_code
def yX6_readCountry : MethodName := ⟨RX6, "readCountry", "()I"⟩
abbrev cX6_fault : ByteArray := prog_8_method_18_code
def yX6_fault : MethodName := ⟨RX6, "fault", "()I"⟩
abbrev cX6_country : ByteArray := prog_8_method_19_code
def yX6_country : MethodName := ⟨RX6, "country", "()I"⟩
abbrev cX6_owed : ByteArray := prog_8_method_20_code
def yX6_owed : MethodName := ⟨RX6, "owed", "([III)I"⟩
abbrev cX6_owesAll : ByteArray := prog_8_method_21_code
def yX6_owesAll : MethodName := ⟨RX6, "owesAll", "([II)I"⟩
abbrev cX6_nearest : ByteArray := prog_8_method_22_code
def yX6_nearest : MethodName := ⟨RX6, "nearest", "([III)I"⟩
abbrev cX6_goes : ByteArray := prog_8_method_23_code
def yX6_goes : MethodName := ⟨RX6, "goes", "([III)I"⟩
abbrev cX6_sown : ByteArray := prog_8_method_24_code
def yX6_sown : MethodName := ⟨RX6, "sown", "([I)I"⟩
abbrev cX6_goMarch : ByteArray := prog_8_method_25_code
def yX6_goMarch : MethodName := ⟨RX6, "goMarch", "([II)I"⟩
abbrev cX6_loaves : ByteArray := prog_8_method_26_code
def yX6_loaves : MethodName := ⟨RX6, "loaves", "([I)I"⟩
abbrev cX6_goHarvest : ByteArray := prog_8_method_27_code
def yX6_goHarvest : MethodName := ⟨RX6, "goHarvest", "([I)I"⟩
abbrev cX6_begin : ByteArray := prog_8_method_28_code
def yX6_begin : MethodName := ⟨RX6, "begin", "()V"⟩
abbrev cX6_owedTogether : ByteArray := prog_8_method_29_code
def yX6_owedTogether : MethodName := ⟨RX6, "owedTogether", "()I"⟩
abbrev cX6_marched : ByteArray := prog_8_method_30_code
def yX6_marched : MethodName := ⟨RX6, "marched", "(I)I"⟩
abbrev cX6_about : ByteArray := prog_8_method_31_code
def yX6_about : MethodName := ⟨RX6, "about", "(I)I"⟩
abbrev cX6_owing : ByteArray := prog_8_method_32_code
def yX6_owing : MethodName := ⟨RX6, "owing", "(I)I"⟩
abbrev cX6_field : ByteArray := prog_8_method_33_code
def yX6_field : MethodName := ⟨RX6, "field", "(II)I"⟩
abbrev cX6_eater : ByteArray := prog_8_method_34_code
def yX6_eater : MethodName := ⟨RX6, "eater", "(II)I"⟩
abbrev cX6_owes : ByteArray := prog_8_method_35_code
def yX6_owes : MethodName := ⟨RX6, "owes", "(II)I"⟩
abbrev cX6_note : ByteArray := prog_8_method_36_code
def yX6_note : MethodName := ⟨RX6, "note", "()V"⟩
abbrev cX6_bite : ByteArray := prog_8_method_37_code
def yX6_bite : MethodName := ⟨RX6, "bite", "(I)I"⟩
abbrev cX6_canEat : ByteArray := prog_8_method_38_code
def yX6_canEat : MethodName := ⟨RX6, "canEat", "([III)Z"⟩
abbrev cX6_goEat : ByteArray := prog_8_method_39_code
def yX6_goEat : MethodName := ⟨RX6, "goEat", "([III)V"⟩
abbrev cX6_eat : ByteArray := prog_8_method_40_code
def yX6_eat : MethodName := ⟨RX6, "eat", "(II)I"⟩
abbrev cX6_cake : ByteArray := prog_8_method_41_code
def yX6_cake : MethodName := ⟨RX6, "cake", "(III)I"⟩
abbrev cX6_march : ByteArray := prog_8_method_42_code
def yX6_march : MethodName := ⟨RX6, "march", "()I"⟩
abbrev cX6_harvest : ByteArray := prog_8_method_43_code
def yX6_harvest : MethodName := ⟨RX6, "harvest", "()I"⟩
abbrev cX6_undo : ByteArray := prog_8_method_44_code
def yX6_undo : MethodName := ⟨RX6, "undo", "()I"⟩
abbrev cX6_ahead : ByteArray := prog_8_method_45_code
def yX6_ahead : MethodName := ⟨RX6, "ahead", "(II)I"⟩
abbrev cX6_isSownBy : ByteArray := prog_8_method_46_code
def yX6_isSownBy : MethodName := ⟨RX6, "isSownBy", "(II)Z"⟩
abbrev cX6_wants : ByteArray := prog_8_method_47_code
def yX6_wants : MethodName := ⟨RX6, "wants", "(I)I"⟩
abbrev cX6_rid : ByteArray := prog_8_method_48_code
def yX6_rid : MethodName := ⟨RX6, "rid", "(I)I"⟩
abbrev cX6_longPower : ByteArray := prog_8_method_49_code
def yX6_longPower : MethodName := ⟨RX6, "longPower", "(JI)J"⟩
abbrev cX6_eats : ByteArray := prog_8_method_50_code
def yX6_eats : MethodName := ⟨RX6, "eats", "(II)Z"⟩
abbrev cX6_does : ByteArray := prog_8_method_51_code
def yX6_does : MethodName := ⟨RX6, "does", "(I)Z"⟩
abbrev cX6_judge : ByteArray := prog_8_method_52_code
def yX6_judge : MethodName := ⟨RX6, "judge", "(IJ)I"⟩
abbrev cX6_ways : ByteArray := prog_8_method_53_code
def yX6_ways : MethodName := ⟨RX6, "ways", "(I)I"⟩
abbrev cX6_divisor : ByteArray := prog_8_method_54_code
def yX6_divisor : MethodName := ⟨RX6, "divisor", "(II)I"⟩
abbrev cX6_fraction : ByteArray := prog_8_method_55_code
def yX6_fraction : MethodName := ⟨RX6, "fraction", "(IIZ)I"⟩
abbrev cX6_share : ByteArray := prog_8_method_56_code
def yX6_share : MethodName := ⟨RX6, "share", "(IZ)I"⟩
abbrev cX6_came : ByteArray := prog_8_method_57_code
def yX6_came : MethodName := ⟨RX6, "came", "(II)I"⟩
abbrev cX6_forget : ByteArray := prog_8_method_58_code
def yX6_forget : MethodName := ⟨RX6, "forget", "()I"⟩
abbrev cX6_strangers : ByteArray := prog_8_method_59_code
def yX6_strangers : MethodName := ⟨RX6, "strangers", "(I)I"⟩
abbrev cX6_rests : ByteArray := prog_8_method_60_code
def yX6_rests : MethodName := ⟨RX6, "rests", "(IIII)I"⟩
abbrev cX6_home : ByteArray := prog_8_method_61_code
def yX6_home : MethodName := ⟨RX6, "home", "(IIZ)I"⟩
abbrev cX6_seed : ByteArray := prog_8_method_62_code
def yX6_seed : MethodName := ⟨RX6, "seed", "(J)J"⟩
abbrev cX6_years : ByteArray := prog_8_method_63_code
def yX6_years : MethodName := ⟨RX6, "years", "(I)I"⟩
abbrev cX6_keep : ByteArray := prog_8_method_64_code
def yX6_keep : MethodName := ⟨RX6, "keep", "(I)I"⟩
abbrev cX6_again : ByteArray := prog_8_method_65_code
def yX6_again : MethodName := ⟨RX6, "again", "(I)I"⟩
def RJ6 : String := "java/lang/Integer"
def TJ6 : u_T := fun k => match k with
  | _ => ("", "", "", false)
def tyJ6 : Nat → FieldType := fun k => match k with
  | _ => .int
abbrev wsJ60 : List Cond := u_ws RJ6 TJ6 0
theorem nmJ6 : ∀ a, a < 0 → ∀ b, b < 0 → a ≠ b → (TJ6 a).2.1 ≠ (TJ6 b).2.1 := by decide +kernel
theorem tyJ6_ok : ∀ k, k < 0 → parseFieldDescriptor (TJ6 k).2.2.1 = some (tyJ6 k) := by decide +kernel
abbrev cJ6_bitCount_0f7a4 : ByteArray := prog_9_method_49_code
def yJ6_bitCount_0f7a4 : MethodName := ⟨RJ6, "bitCount", "(I)I"⟩
def RJ9 : String := "java/lang/Math"
def TJ9 : u_T := fun k => match k with
  | _ => ("", "", "", false)
def tyJ9 : Nat → FieldType := fun k => match k with
  | _ => .int
abbrev wsJ90 : List Cond := u_ws RJ9 TJ9 0
theorem nmJ9 : ∀ a, a < 0 → ∀ b, b < 0 → a ≠ b → (TJ9 a).2.1 ≠ (TJ9 b).2.1 := by decide +kernel
theorem tyJ9_ok : ∀ k, k < 0 → parseFieldDescriptor (TJ9 k).2.2.1 = some (tyJ9 k) := by decide +kernel
abbrev cJ9_abs_0f7a4 : ByteArray := prog_10_method_59_code
def yJ9_abs_0f7a4 : MethodName := ⟨RJ9, "abs", "(I)I"⟩
abbrev cJ9_min_7cf53 : ByteArray := prog_10_method_69_code
def yJ9_min_7cf53 : MethodName := ⟨RJ9, "min", "(II)I"⟩
def RJ10 : String := "java/lang/System"
def TJ10 : u_T := fun k => match k with
  | _ => ("", "", "", false)
def tyJ10 : Nat → FieldType := fun k => match k with
  | _ => .int
abbrev wsJ100 : List Cond := u_ws RJ10 TJ10 0
theorem nmJ10 : ∀ a, a < 0 → ∀ b, b < 0 → a ≠ b → (TJ10 a).2.1 ≠ (TJ10 b).2.1 := by decide +kernel
theorem tyJ10_ok : ∀ k, k < 0 → parseFieldDescriptor (TJ10 k).2.2.1 = some (tyJ10 k) := by decide +kernel
def RL : String := "OwedFurrowsLaw"
abbrev cL_law : ByteArray := code
def yL_law : MethodName := ⟨RL, "law", "([I)Z"⟩
end
section
/-! The judgement V: the kit's W with heap, locals and written places quantified away; a rule an instruction. -/
def wds : List Cond := lw_tbl.filter goodWord
theorem wd {w : Cond} (h : w ∈ lw_tbl) (q : goodWord w = true) : w ∈ wds := List.mem_filter.mpr ⟨h, q⟩
theorem wd_at {w : Cond} (i : Nat) (h : lw_tbl[i]? = some w) (q : goodWord w = true) : w ∈ wds := wd (List.mem_of_getElem? h) q
theorem wd_good : GoodIn wds wds := fun w hw => ⟨hw, good_of_word (List.mem_filter.mp hw).2⟩
abbrev Gx : Type := va_G × ClassId × ClassId × ClassId
abbrev classes : List vw_C := [(RX0, TX0, 3), (RX1, TX1, 7), (RX2, TX2, 8), (RX3, TX3, 2), (RX4, TX4, 3), (RX5, TX5, 10), (RX6, TX6, 34)]
abbrev tysG (g : Gx) : List (ClassId × FieldType) := [(g.2.1, .int), (g.2.2.1, .boolean), (g.2.2.2, .object RX1)]
/-- a method: its bytes, locals, class, answer -/
abbrev MS : Type := ByteArray × Nat × String × Option FieldType
/-- the machine's own things, which a walk never looks at -/
abbrev MV : Type := Program × Launch × Env × Room × State × MethodId × Array Value × List Frame × Method × Code
def Nx (M : MS) (pc : Nat) (i : Instr) (len pc' : Nat) : Prop := decode M.1 pc = .ok (i, len) ∧ pc + len = pc'
def Bd (g : Gx) (E : MV) (M : MS) (A : Nat → Prop) : Prop := E.1.tables.exec = Jvm.exec ∧ E.2.2.2.2.2.2.2.2.2.code = M.1 ∧ E.2.2.2.2.2.2.2.2.2.maxLocals = M.2.1 ∧ E.2.2.2.2.1.vm.findClass M.2.2.1 = some E.2.2.2.2.2.1.cls ∧ (∀ w ∈ wds, w.before E.2.2.2.2.2.2.1 E.2.2.2.2.1 = true) ∧ E.2.2.2.2.2.2.2.2.1.sig.returnType = M.2.2.2 ∧ E.2.2.2.2.2.2.2.2.1.locks = false ∧ va_K g.1 classes (tysG g) E.2.2.2.2.1 ∧ (∀ q : Nat, E.2.2.2.2.1.heap.size ≤ q → A q)
abbrev Wf (E : MV) (H : Heap) (locs : List Loc) (kc ks : Nat) (Q : State → Prop) (f : JFrame) : Prop := W E.1 E.2.1 E.2.2.1 E.2.2.2.1 E.2.2.2.2.1 E.2.2.2.2.2.1 E.2.2.2.2.2.2.1 E.2.2.2.2.2.2.2.1 E.2.2.2.2.2.2.2.2.1 E.2.2.2.2.2.2.2.2.2 H locs kc ks Q f
def V (g : Gx) (E : MV) (M : MS) (A : Nat → Prop) (Q : State → Prop) (kc ks : Nat) (ws : va_W) (pc : Nat) (lv : List (Nat × Value)) (st : List Value) : Prop :=
  Bd g E M A → ∀ (ls : Array Slot) (H : Heap) (locs : List Loc), lv_has ls M.2.1 lv → va_P g.1 classes ws H → va_D A ws → va_S A E.2.2.2.2.1.heap H locs → Wf E H locs kc ks Q (F0 E.2.2.2.2.2.1 pc ls st)
/-- a truth value as an int -/
def bI (b : Bool) : Int32 := if b then 1 else 0
theorem bI_t : bI true = 1 := rfl
theorem bI_f : bI false = 0 := rfl
theorem bI_n (b : Bool) : narrow .boolean (.int (bI b)) = .int (bI b) := by cases b <;> decide
theorem bI_0 {b : Bool} : bI b = 0 ↔ b = false := by cases b <;> decide
theorem bI_1 {b : Bool} : bI b = 1 ↔ b = true := by cases b <;> decide
theorem nI_of_int (n : Nat) : Int32.ofInt (n : Int) = nI n := rfl
/-- locals: a sorted list of places and values -/
def lvGet : List (Nat × Value) → Nat → Option Value
  | [], _ => none
  | q :: r, i => bif Nat.beq q.1 i then some q.2 else lvGet r i
def lvIns : List (Nat × Value) → Nat × Value → List (Nat × Value)
  | [], p => [p]
  | q :: r, p => bif Nat.blt q.1 p.1 then q :: lvIns r p else p :: q :: r
def lvPut (lv : List (Nat × Value)) (i : Nat) (v : Value) : List (Nat × Value) := lvIns (lv.filter (fun q => !(q.1 == i) && !(q.1 + 1 == i && q.2.category == 2))) (i, v)
def lvPut2 (lv : List (Nat × Value)) (i : Nat) (v : Value) : List (Nat × Value) := lvIns (lv.filter (fun q => !(q.1 == i) && (!(q.1 == i + 1) && !(q.1 + 1 == i && q.2.category == 2)))) (i, v)
theorem lvIns_mem {p q : Nat × Value} : ∀ {l : List (Nat × Value)}, q ∈ lvIns l p → q = p ∨ q ∈ l
  | [], h => by
    simp only [lvIns, List.mem_singleton] at h
    exact Or.inl h
  | x :: r, h => by
    unfold lvIns at h
    cases hb : Nat.blt x.1 p.1 with
    | true =>
      rw [hb, cond_true] at h
      rcases List.mem_cons.mp h with h | h
      · exact Or.inr (by rw [h]; exact List.mem_cons_self)
      · rcases lvIns_mem h with h | h
        · exact Or.inl h
        · exact Or.inr (List.mem_cons_of_mem _ h)
    | false =>
      rw [hb, cond_false] at h
      exact List.mem_cons.mp h
theorem lvGet_mem {i : Nat} {v : Value} : ∀ {l : List (Nat × Value)}, lvGet l i = some v → (i, v) ∈ l
  | [], h => by cases h
  | x :: r, h => by
    unfold lvGet at h
    cases hb : Nat.beq x.1 i with
    | true =>
      rw [hb, cond_true] at h
      have e := Nat.eq_of_beq_eq_true hb
      subst e
      cases h
      exact List.mem_cons_self
    | false =>
      rw [hb, cond_false] at h
      exact List.mem_cons_of_mem _ (lvGet_mem h)
theorem lv_gets {ls : Array Slot} {nL i : Nat} {v : Value} {lv : List (Nat × Value)} (h : lv_has ls nL lv) (hg : lvGet lv i = some v) : ls[i]? = some (.val v) := h.2.2 (i, v) (lvGet_mem hg)
theorem lv_less {ls : Array Slot} {nL : Nat} {l l' : List (Nat × Value)} (h : lv_has ls nL l) (hs : ∀ q ∈ l', q ∈ l) : lv_has ls nL l' := ⟨h.1, h.2.1, fun q hq => h.2.2 q (hs q hq)⟩
theorem lv_put {ls : Array Slot} {nL i : Nat} {v : Value} {lv : List (Nat × Value)} (h : lv_has ls nL ((i, v) :: lv.filter (fun q => !(q.1 == i) && !(q.1 + 1 == i && q.2.category == 2)))) : lv_has ls nL (lvPut lv i v) := lv_less h (fun q hq => List.mem_cons.mpr (lvIns_mem hq))
theorem lv_put2 {ls : Array Slot} {nL i : Nat} {v : Value} {lv : List (Nat × Value)} (h : lv_has ls nL ((i, v) :: lv.filter (fun q => !(q.1 == i) && (!(q.1 == i + 1) && !(q.1 + 1 == i && q.2.category == 2))))) : lv_has ls nL (lvPut2 lv i v) := lv_less h (fun q hq => List.mem_cons.mpr (lvIns_mem hq))
section VR
variable {g : Gx} {E : MV} {M : MS} {A : Nat → Prop} {Q : State → Prop} {kc ks : Nat} {ws ws' : va_W} {pc pc' : Nat} {lv lv' : List (Nat × Value)} {st : List Value}
theorem V_iconst {n : Int} {v : Int32} (hd : Nx M pc (.iconst n) 1 pc') (hv : Int32.ofInt n = v) (kk : V g E M A Q kc ks ws pc' lv (.int v :: st)) : V g E M A Q kc ks ws pc lv st := by
  obtain ⟨hd, rfl⟩ := hd
  intro B ls H locs hl hP hD hS
  exact lv_iconst B.1 B.2.1 hd hv (kk B ls H locs hl hP hD hS)
theorem V_bipush {n : Int} {v : Int32} (hd : Nx M pc (.bipush n) 2 pc') (hv : (Int8.ofInt n).toInt32 = v) (kk : V g E M A Q kc ks ws pc' lv (.int v :: st)) : V g E M A Q kc ks ws pc lv st := by
  obtain ⟨hd, rfl⟩ := hd
  intro B ls H locs hl hP hD hS
  exact lv_bipush B.1 B.2.1 hd hv (kk B ls H locs hl hP hD hS)
theorem V_sipush {n : Int} {v : Int32} (hd : Nx M pc (.sipush n) 3 pc') (hv : (Int16.ofInt n).toInt32 = v) (kk : V g E M A Q kc ks ws pc' lv (.int v :: st)) : V g E M A Q kc ks ws pc lv st := by
  obtain ⟨hd, rfl⟩ := hd
  intro B ls H locs hl hP hD hS
  exact lv_sipush B.1 B.2.1 hd hv (kk B ls H locs hl hP hD hS)
theorem V_lconst {n : Fin 2} {v : Int64} (hd : Nx M pc (.lconst n) 1 pc') (hv : Int64.ofNat (n : Nat) = v) (kk : V g E M A Q kc ks ws pc' lv (.long v :: st)) : V g E M A Q kc ks ws pc lv st := by
  obtain ⟨hd, rfl⟩ := hd
  intro B ls H locs hl hP hD hS
  exact lv_lconst B.1 B.2.1 hd hv (kk B ls H locs hl hP hD hS)
theorem V_iload_n {k : Fin 4} {x : Int32} (hd : Nx M pc (.iload_n k) 1 pc') (hg : lvGet lv (k : Nat) = some (.int x)) (kk : V g E M A Q kc ks ws pc' lv (.int x :: st)) : V g E M A Q kc ks ws pc lv st := by
  obtain ⟨hd, rfl⟩ := hd
  intro B ls H locs hl hP hD hS
  exact lv_iload_n B.1 B.2.1 hd rfl (lv_gets hl hg) (kk B ls H locs hl hP hD hS)
theorem V_iload {i : Nat} {x : Int32} (hd : Nx M pc (.iload i) 2 pc') (hg : lvGet lv i = some (.int x)) (kk : V g E M A Q kc ks ws pc' lv (.int x :: st)) : V g E M A Q kc ks ws pc lv st := by
  obtain ⟨hd, rfl⟩ := hd
  intro B ls H locs hl hP hD hS
  exact lv_iload B.1 B.2.1 hd (lv_gets hl hg) (kk B ls H locs hl hP hD hS)
theorem V_lload_n {k : Fin 4} {x : Int64} (hd : Nx M pc (.lload_n k) 1 pc') (hg : lvGet lv (k : Nat) = some (.long x)) (kk : V g E M A Q kc ks ws pc' lv (.long x :: st)) : V g E M A Q kc ks ws pc lv st := by
  obtain ⟨hd, rfl⟩ := hd
  intro B ls H locs hl hP hD hS
  exact lv_lload_n B.1 B.2.1 hd rfl (lv_gets hl hg) (kk B ls H locs hl hP hD hS)
theorem V_lload {i : Nat} {x : Int64} (hd : Nx M pc (.lload i) 2 pc') (hg : lvGet lv i = some (.long x)) (kk : V g E M A Q kc ks ws pc' lv (.long x :: st)) : V g E M A Q kc ks ws pc lv st := by
  obtain ⟨hd, rfl⟩ := hd
  intro B ls H locs hl hP hD hS
  exact lv_lload B.1 B.2.1 hd (lv_gets hl hg) (kk B ls H locs hl hP hD hS)
theorem V_aload_n {k : Fin 4} {x : Nat} (hd : Nx M pc (.aload_n k) 1 pc') (hg : lvGet lv (k : Nat) = some (.ref x)) (kk : V g E M A Q kc ks ws pc' lv (.ref x :: st)) : V g E M A Q kc ks ws pc lv st := by
  obtain ⟨hd, rfl⟩ := hd
  intro B ls H locs hl hP hD hS
  exact lv_aload_n B.1 B.2.1 hd rfl (lv_gets hl hg) (kk B ls H locs hl hP hD hS)
theorem V_aload {i : Nat} {x : Nat} (hd : Nx M pc (.aload i) 2 pc') (hg : lvGet lv i = some (.ref x)) (kk : V g E M A Q kc ks ws pc' lv (.ref x :: st)) : V g E M A Q kc ks ws pc lv st := by
  obtain ⟨hd, rfl⟩ := hd
  intro B ls H locs hl hP hD hS
  exact lv_aload B.1 B.2.1 hd (lv_gets hl hg) (kk B ls H locs hl hP hD hS)
theorem V_istore_n {k : Fin 4} {x : Int32} (hd : Nx M pc (.istore_n k) 1 pc') (hn : (k : Nat) < M.2.1) (hp : lvPut lv (k : Nat) (.int x) = lv') (kk : V g E M A Q kc ks ws pc' lv' st) : V g E M A Q kc ks ws pc lv (.int x :: st) := by
  obtain ⟨hd, rfl⟩ := hd
  intro B ls H locs hl hP hD hS
  exact lv_istore_n B.1 B.2.1 hd rfl hl hn rfl (fun ls' hl' => kk B ls' H locs (by rw [← hp]; exact lv_put hl') hP hD hS)
theorem V_istore {i : Nat} {x : Int32} (hd : Nx M pc (.istore i) 2 pc') (hn : i < M.2.1) (hp : lvPut lv i (.int x) = lv') (kk : V g E M A Q kc ks ws pc' lv' st) : V g E M A Q kc ks ws pc lv (.int x :: st) := by
  obtain ⟨hd, rfl⟩ := hd
  intro B ls H locs hl hP hD hS
  exact lv_istore B.1 B.2.1 hd hl hn rfl (fun ls' hl' => kk B ls' H locs (by rw [← hp]; exact lv_put hl') hP hD hS)
theorem V_lstore_n {k : Fin 4} {x : Int64} (hd : Nx M pc (.lstore_n k) 1 pc') (hn : (k : Nat) + 1 < M.2.1) (hp : lvPut2 lv (k : Nat) (.long x) = lv') (kk : V g E M A Q kc ks ws pc' lv' st) : V g E M A Q kc ks ws pc lv (.long x :: st) := by
  obtain ⟨hd, rfl⟩ := hd
  intro B ls H locs hl hP hD hS
  exact lv_lstore_n B.1 B.2.1 hd rfl hl hn rfl (fun ls' hl' => kk B ls' H locs (by rw [← hp]; exact lv_put2 hl') hP hD hS)
theorem V_lstore {i : Nat} {x : Int64} (hd : Nx M pc (.lstore i) 2 pc') (hn : i + 1 < M.2.1) (hp : lvPut2 lv i (.long x) = lv') (kk : V g E M A Q kc ks ws pc' lv' st) : V g E M A Q kc ks ws pc lv (.long x :: st) := by
  obtain ⟨hd, rfl⟩ := hd
  intro B ls H locs hl hP hD hS
  exact lv_lstore B.1 B.2.1 hd hl hn rfl (fun ls' hl' => kk B ls' H locs (by rw [← hp]; exact lv_put2 hl') hP hD hS)
theorem V_astore_n {k : Fin 4} {x : Nat} (hd : Nx M pc (.astore_n k) 1 pc') (hn : (k : Nat) < M.2.1) (hp : lvPut lv (k : Nat) (.ref x) = lv') (kk : V g E M A Q kc ks ws pc' lv' st) : V g E M A Q kc ks ws pc lv (.ref x :: st) := by
  obtain ⟨hd, rfl⟩ := hd
  intro B ls H locs hl hP hD hS
  exact lv_astore_n B.1 B.2.1 hd rfl hl hn rfl (fun ls' hl' => kk B ls' H locs (by rw [← hp]; exact lv_put hl') hP hD hS)
theorem V_astore {i : Nat} {x : Nat} (hd : Nx M pc (.astore i) 2 pc') (hn : i < M.2.1) (hp : lvPut lv i (.ref x) = lv') (kk : V g E M A Q kc ks ws pc' lv' st) : V g E M A Q kc ks ws pc lv (.ref x :: st) := by
  obtain ⟨hd, rfl⟩ := hd
  intro B ls H locs hl hP hD hS
  exact lv_astore B.1 B.2.1 hd hl hn rfl (fun ls' hl' => kk B ls' H locs (by rw [← hp]; exact lv_put hl') hP hD hS)
theorem lv_get_at : ∀ {l : List (Nat × Value)} {i : Nat} {v : Value}, lvGet l i = some v → ∃ k : Nat, l[k]? = some (i, v) := fun h => List.getElem?_of_mem (lvGet_mem h)
theorem V_iinc {i : Nat} {n : Int} {x v : Int32} (hd : Nx M pc (.iinc i n) 3 pc') (hg : lvGet lv i = some (.int x)) (hv : x + Int32.ofInt n = v) (hn : i < M.2.1) (hp : lvPut lv i (.int v) = lv') (kk : V g E M A Q kc ks ws pc' lv' st) : V g E M A Q kc ks ws pc lv st := by
  obtain ⟨hd, rfl⟩ := hd
  intro B ls H locs hl hP hD hS
  obtain ⟨k, hk⟩ := lv_get_at hg
  exact lv_iinc B.1 B.2.1 hd hl hk hv hn rfl (fun ls' hl' => kk B ls' H locs (by rw [← hp]; exact lv_put hl') hP hD hS)
theorem V_iadd {x y v : Int32} (hd : Nx M pc .iadd 1 pc') (hv : x + y = v) (kk : V g E M A Q kc ks ws pc' lv (.int v :: st)) : V g E M A Q kc ks ws pc lv (.int y :: .int x :: st) := by
  obtain ⟨hd, rfl⟩ := hd
  intro B ls H locs hl hP hD hS
  subst hv
  exact lv_iadd B.1 B.2.1 hd (kk B ls H locs hl hP hD hS)
theorem V_isub {x y v : Int32} (hd : Nx M pc .isub 1 pc') (hv : x - y = v) (kk : V g E M A Q kc ks ws pc' lv (.int v :: st)) : V g E M A Q kc ks ws pc lv (.int y :: .int x :: st) := by
  obtain ⟨hd, rfl⟩ := hd
  intro B ls H locs hl hP hD hS
  subst hv
  exact lv_isub B.1 B.2.1 hd (kk B ls H locs hl hP hD hS)
theorem V_imul {x y v : Int32} (hd : Nx M pc .imul 1 pc') (hv : x * y = v) (kk : V g E M A Q kc ks ws pc' lv (.int v :: st)) : V g E M A Q kc ks ws pc lv (.int y :: .int x :: st) := by
  obtain ⟨hd, rfl⟩ := hd
  intro B ls H locs hl hP hD hS
  subst hv
  exact lv_imul B.1 B.2.1 hd (kk B ls H locs hl hP hD hS)
theorem V_iand {x y v : Int32} (hd : Nx M pc .iand 1 pc') (hv : x &&& y = v) (kk : V g E M A Q kc ks ws pc' lv (.int v :: st)) : V g E M A Q kc ks ws pc lv (.int y :: .int x :: st) := by
  obtain ⟨hd, rfl⟩ := hd
  intro B ls H locs hl hP hD hS
  subst hv
  exact lv_iand B.1 B.2.1 hd (kk B ls H locs hl hP hD hS)
theorem V_ior {x y v : Int32} (hd : Nx M pc .ior 1 pc') (hv : x ||| y = v) (kk : V g E M A Q kc ks ws pc' lv (.int v :: st)) : V g E M A Q kc ks ws pc lv (.int y :: .int x :: st) := by
  obtain ⟨hd, rfl⟩ := hd
  intro B ls H locs hl hP hD hS
  subst hv
  exact lv_ior B.1 B.2.1 hd (kk B ls H locs hl hP hD hS)
theorem V_ixor {x y v : Int32} (hd : Nx M pc .ixor 1 pc') (hv : x ^^^ y = v) (kk : V g E M A Q kc ks ws pc' lv (.int v :: st)) : V g E M A Q kc ks ws pc lv (.int y :: .int x :: st) := by
  obtain ⟨hd, rfl⟩ := hd
  intro B ls H locs hl hP hD hS
  subst hv
  exact lv_ixor B.1 B.2.1 hd (kk B ls H locs hl hP hD hS)
theorem V_ishl {x y v : Int32} (hd : Nx M pc .ishl 1 pc') (hv : x <<< (y &&& 31) = v) (kk : V g E M A Q kc ks ws pc' lv (.int v :: st)) : V g E M A Q kc ks ws pc lv (.int y :: .int x :: st) := by
  obtain ⟨hd, rfl⟩ := hd
  intro B ls H locs hl hP hD hS
  subst hv
  exact lv_ishl B.1 B.2.1 hd (kk B ls H locs hl hP hD hS)
theorem V_ishr {x y v : Int32} (hd : Nx M pc .ishr 1 pc') (hv : x >>> (y &&& 31) = v) (kk : V g E M A Q kc ks ws pc' lv (.int v :: st)) : V g E M A Q kc ks ws pc lv (.int y :: .int x :: st) := by
  obtain ⟨hd, rfl⟩ := hd
  intro B ls H locs hl hP hD hS
  subst hv
  exact lv_ishr B.1 B.2.1 hd (kk B ls H locs hl hP hD hS)
theorem V_ladd {x y v : Int64} (hd : Nx M pc .ladd 1 pc') (hv : x + y = v) (kk : V g E M A Q kc ks ws pc' lv (.long v :: st)) : V g E M A Q kc ks ws pc lv (.long y :: .long x :: st) := by
  obtain ⟨hd, rfl⟩ := hd
  intro B ls H locs hl hP hD hS
  subst hv
  exact lv_ladd B.1 B.2.1 hd (kk B ls H locs hl hP hD hS)
theorem V_lsub {x y v : Int64} (hd : Nx M pc .lsub 1 pc') (hv : x - y = v) (kk : V g E M A Q kc ks ws pc' lv (.long v :: st)) : V g E M A Q kc ks ws pc lv (.long y :: .long x :: st) := by
  obtain ⟨hd, rfl⟩ := hd
  intro B ls H locs hl hP hD hS
  subst hv
  exact lv_lsub B.1 B.2.1 hd (kk B ls H locs hl hP hD hS)
theorem V_lmul {x y v : Int64} (hd : Nx M pc .lmul 1 pc') (hv : x * y = v) (kk : V g E M A Q kc ks ws pc' lv (.long v :: st)) : V g E M A Q kc ks ws pc lv (.long y :: .long x :: st) := by
  obtain ⟨hd, rfl⟩ := hd
  intro B ls H locs hl hP hD hS
  subst hv
  exact lv_lmul B.1 B.2.1 hd (kk B ls H locs hl hP hD hS)
theorem V_land {x y v : Int64} (hd : Nx M pc .land 1 pc') (hv : x &&& y = v) (kk : V g E M A Q kc ks ws pc' lv (.long v :: st)) : V g E M A Q kc ks ws pc lv (.long y :: .long x :: st) := by
  obtain ⟨hd, rfl⟩ := hd
  intro B ls H locs hl hP hD hS
  subst hv
  exact lv_land B.1 B.2.1 hd (kk B ls H locs hl hP hD hS)
theorem V_lor {x y v : Int64} (hd : Nx M pc .lor 1 pc') (hv : x ||| y = v) (kk : V g E M A Q kc ks ws pc' lv (.long v :: st)) : V g E M A Q kc ks ws pc lv (.long y :: .long x :: st) := by
  obtain ⟨hd, rfl⟩ := hd
  intro B ls H locs hl hP hD hS
  subst hv
  exact lv_lor B.1 B.2.1 hd (kk B ls H locs hl hP hD hS)
theorem V_idiv {x y v : Int32} (hd : Nx M pc .idiv 1 pc') (hne : ¬ y = 0) (hv : x / y = v) (kk : V g E M A Q kc ks ws pc' lv (.int v :: st)) : V g E M A Q kc ks ws pc lv (.int y :: .int x :: st) := by
  obtain ⟨hd, rfl⟩ := hd
  intro B ls H locs hl hP hD hS
  subst hv
  exact lv_idiv B.1 B.2.1 hd hne (kk B ls H locs hl hP hD hS)
theorem V_irem {x y v : Int32} (hd : Nx M pc .irem 1 pc') (hne : ¬ y = 0) (hv : x - x / y * y = v) (kk : V g E M A Q kc ks ws pc' lv (.int v :: st)) : V g E M A Q kc ks ws pc lv (.int y :: .int x :: st) := by
  obtain ⟨hd, rfl⟩ := hd
  intro B ls H locs hl hP hD hS
  subst hv
  exact lv_irem B.1 B.2.1 hd hne (kk B ls H locs hl hP hD hS)
theorem V_ldiv {x y v : Int64} (hd : Nx M pc .ldiv 1 pc') (hne : ¬ y = 0) (hv : x / y = v) (kk : V g E M A Q kc ks ws pc' lv (.long v :: st)) : V g E M A Q kc ks ws pc lv (.long y :: .long x :: st) := by
  obtain ⟨hd, rfl⟩ := hd
  intro B ls H locs hl hP hD hS
  subst hv
  exact lv_ldiv B.1 B.2.1 hd hne (kk B ls H locs hl hP hD hS)
theorem V_lrem {x y v : Int64} (hd : Nx M pc .lrem 1 pc') (hne : ¬ y = 0) (hv : x - x / y * y = v) (kk : V g E M A Q kc ks ws pc' lv (.long v :: st)) : V g E M A Q kc ks ws pc lv (.long y :: .long x :: st) := by
  obtain ⟨hd, rfl⟩ := hd
  intro B ls H locs hl hP hD hS
  subst hv
  exact lv_lrem B.1 B.2.1 hd hne (kk B ls H locs hl hP hD hS)
theorem V_ineg {x v : Int32} (hd : Nx M pc .ineg 1 pc') (hv : -x = v) (kk : V g E M A Q kc ks ws pc' lv (.int v :: st)) : V g E M A Q kc ks ws pc lv (.int x :: st) := by
  obtain ⟨hd, rfl⟩ := hd
  intro B ls H locs hl hP hD hS
  subst hv
  exact lv_ineg B.1 B.2.1 hd (kk B ls H locs hl hP hD hS)
theorem V_i2l {x : Int32} {v : Int64} (hd : Nx M pc .i2l 1 pc') (hv : x.toInt64 = v) (kk : V g E M A Q kc ks ws pc' lv (.long v :: st)) : V g E M A Q kc ks ws pc lv (.int x :: st) := by
  obtain ⟨hd, rfl⟩ := hd
  intro B ls H locs hl hP hD hS
  exact lv_i2l B.1 B.2.1 hd hv (kk B ls H locs hl hP hD hS)
theorem V_l2i {x : Int64} {v : Int32} (hd : Nx M pc .l2i 1 pc') (hv : x.toInt32 = v) (kk : V g E M A Q kc ks ws pc' lv (.int v :: st)) : V g E M A Q kc ks ws pc lv (.long x :: st) := by
  obtain ⟨hd, rfl⟩ := hd
  intro B ls H locs hl hP hD hS
  exact lv_l2i B.1 B.2.1 hd hv (kk B ls H locs hl hP hD hS)
theorem V_iushr {x y v : Int32} (hd : Nx M pc .iushr 1 pc') (hv : (x.toUInt32 >>> (y.toUInt32 &&& Int32.toUInt32 31)).toInt32 = v) (kk : V g E M A Q kc ks ws pc' lv (.int v :: st)) : V g E M A Q kc ks ws pc lv (.int y :: .int x :: st) := by
  obtain ⟨hd, rfl⟩ := hd
  intro B ls H locs hl hP hD hS
  exact lv_iushr B.1 B.2.1 hd hv (kk B ls H locs hl hP hD hS)
theorem V_lushr {x v : Int64} {y : Int32} (hd : Nx M pc .lushr 1 pc') (hv : (x.toUInt64 >>> (y.toInt64.toUInt64 &&& Int64.toUInt64 63)).toInt64 = v) (kk : V g E M A Q kc ks ws pc' lv (.long v :: st)) : V g E M A Q kc ks ws pc lv (.int y :: .long x :: st) := by
  obtain ⟨hd, rfl⟩ := hd
  intro B ls H locs hl hP hD hS
  exact lv_lushr B.1 B.2.1 hd hv (kk B ls H locs hl hP hD hS)
theorem V_lshl {x v : Int64} {y : Int32} (hd : Nx M pc .lshl 1 pc') (hv : x <<< (y.toInt64 &&& 63) = v) (kk : V g E M A Q kc ks ws pc' lv (.long v :: st)) : V g E M A Q kc ks ws pc lv (.int y :: .long x :: st) := by
  obtain ⟨hd, rfl⟩ := hd
  intro B ls H locs hl hP hD hS
  exact lv_lshl B.1 B.2.1 hd hv (kk B ls H locs hl hP hD hS)
theorem V_lcmp {x y : Int64} (hd : Nx M pc .lcmp 1 pc') (kk : V g E M A Q kc ks ws pc' lv (.int (lg_cmp x y) :: st)) : V g E M A Q kc ks ws pc lv (.long y :: .long x :: st) := by
  obtain ⟨hd, rfl⟩ := hd
  intro B ls H locs hl hP hD hS
  exact W.lcmp B.1 B.2.1 hd (kk B ls H locs hl hP hD hS)
theorem V_dup {va : Value} (hd : Nx M pc .dup 1 pc') (hva : va.category = 1) (kk : V g E M A Q kc ks ws pc' lv (va :: va :: st)) : V g E M A Q kc ks ws pc lv (va :: st) := by
  obtain ⟨hd, rfl⟩ := hd
  intro B ls H locs hl hP hD hS
  exact lv_dup B.1 B.2.1 hd hva (kk B ls H locs hl hP hD hS)
theorem V_pop {va : Value} (hd : Nx M pc .pop 1 pc') (hva : va.category = 1) (kk : V g E M A Q kc ks ws pc' lv st) : V g E M A Q kc ks ws pc lv (va :: st) := by
  obtain ⟨hd, rfl⟩ := hd
  intro B ls H locs hl hP hD hS
  exact lv_pop B.1 B.2.1 hd hva (kk B ls H locs hl hP hD hS)
theorem V_dup2 {va vb : Value} (hd : Nx M pc .dup2 1 pc') (hva : va.category = 1) (hvb : vb.category = 1) (kk : V g E M A Q kc ks ws pc' lv (va :: vb :: va :: vb :: st)) : V g E M A Q kc ks ws pc lv (va :: vb :: st) := by
  obtain ⟨hd, rfl⟩ := hd
  intro B ls H locs hl hP hD hS
  exact lv_dup2_11 B.1 B.2.1 hd hva hvb (kk B ls H locs hl hP hD hS)
theorem V_goto {off : Int} {tgt : Nat} (hd : Nx M pc (.goto off) 3 pc') (ht : (pc : Int) + off = (tgt : Int)) (kk : V g E M A Q kc ks ws tgt lv st) : V g E M A Q kc ks ws pc lv st := by
  intro B ls H locs hl hP hD hS
  exact lv_goto B.1 B.2.1 hd.1 ht (kk B ls H locs hl hP hD hS)
theorem V_icmp_eq {x y : Int32} {off : Int} {tgt : Nat} (hd : Nx M pc (.if_icmp .eq off) 3 pc') (ht : (pc : Int) + off = (tgt : Int)) (kt : x = y → V g E M A Q kc ks ws tgt lv st) (kf : ¬ x = y → V g E M A Q kc ks ws pc' lv st) : V g E M A Q kc ks ws pc lv (.int y :: .int x :: st) := by
  obtain ⟨hd, rfl⟩ := hd
  intro B ls H locs hl hP hD hS
  exact lv_icmp_eq B.1 B.2.1 hd ht (fun h => kt h B ls H locs hl hP hD hS) (fun h => kf h B ls H locs hl hP hD hS)
theorem V_if_eq {x : Int32} {off : Int} {tgt : Nat} (hd : Nx M pc (.ifCond .eq off) 3 pc') (ht : (pc : Int) + off = (tgt : Int)) (kt : x = 0 → V g E M A Q kc ks ws tgt lv st) (kf : ¬ x = 0 → V g E M A Q kc ks ws pc' lv st) : V g E M A Q kc ks ws pc lv (.int x :: st) := by
  obtain ⟨hd, rfl⟩ := hd
  intro B ls H locs hl hP hD hS
  exact lv_if_eq B.1 B.2.1 hd ht (fun h => kt h B ls H locs hl hP hD hS) (fun h => kf h B ls H locs hl hP hD hS)
theorem V_icmp_ne {x y : Int32} {off : Int} {tgt : Nat} (hd : Nx M pc (.if_icmp .ne off) 3 pc') (ht : (pc : Int) + off = (tgt : Int)) (kt : ¬ x = y → V g E M A Q kc ks ws tgt lv st) (kf : x = y → V g E M A Q kc ks ws pc' lv st) : V g E M A Q kc ks ws pc lv (.int y :: .int x :: st) := by
  obtain ⟨hd, rfl⟩ := hd
  intro B ls H locs hl hP hD hS
  exact lv_icmp_ne B.1 B.2.1 hd ht (fun h => kt h B ls H locs hl hP hD hS) (fun h => kf h B ls H locs hl hP hD hS)
theorem V_if_ne {x : Int32} {off : Int} {tgt : Nat} (hd : Nx M pc (.ifCond .ne off) 3 pc') (ht : (pc : Int) + off = (tgt : Int)) (kt : ¬ x = 0 → V g E M A Q kc ks ws tgt lv st) (kf : x = 0 → V g E M A Q kc ks ws pc' lv st) : V g E M A Q kc ks ws pc lv (.int x :: st) := by
  obtain ⟨hd, rfl⟩ := hd
  intro B ls H locs hl hP hD hS
  exact lv_if_ne B.1 B.2.1 hd ht (fun h => kt h B ls H locs hl hP hD hS) (fun h => kf h B ls H locs hl hP hD hS)
theorem V_icmp_lt {x y : Int32} {off : Int} {tgt : Nat} (hd : Nx M pc (.if_icmp .lt off) 3 pc') (ht : (pc : Int) + off = (tgt : Int)) (kt : x < y → V g E M A Q kc ks ws tgt lv st) (kf : ¬ x < y → V g E M A Q kc ks ws pc' lv st) : V g E M A Q kc ks ws pc lv (.int y :: .int x :: st) := by
  obtain ⟨hd, rfl⟩ := hd
  intro B ls H locs hl hP hD hS
  exact lv_icmp_lt B.1 B.2.1 hd ht (fun h => kt h B ls H locs hl hP hD hS) (fun h => kf h B ls H locs hl hP hD hS)
theorem V_if_lt {x : Int32} {off : Int} {tgt : Nat} (hd : Nx M pc (.ifCond .lt off) 3 pc') (ht : (pc : Int) + off = (tgt : Int)) (kt : x < 0 → V g E M A Q kc ks ws tgt lv st) (kf : ¬ x < 0 → V g E M A Q kc ks ws pc' lv st) : V g E M A Q kc ks ws pc lv (.int x :: st) := by
  obtain ⟨hd, rfl⟩ := hd
  intro B ls H locs hl hP hD hS
  exact lv_if_lt B.1 B.2.1 hd ht (fun h => kt h B ls H locs hl hP hD hS) (fun h => kf h B ls H locs hl hP hD hS)
theorem V_icmp_ge {x y : Int32} {off : Int} {tgt : Nat} (hd : Nx M pc (.if_icmp .ge off) 3 pc') (ht : (pc : Int) + off = (tgt : Int)) (kt : y ≤ x → V g E M A Q kc ks ws tgt lv st) (kf : ¬ y ≤ x → V g E M A Q kc ks ws pc' lv st) : V g E M A Q kc ks ws pc lv (.int y :: .int x :: st) := by
  obtain ⟨hd, rfl⟩ := hd
  intro B ls H locs hl hP hD hS
  exact lv_icmp_ge B.1 B.2.1 hd ht (fun h => kt h B ls H locs hl hP hD hS) (fun h => kf h B ls H locs hl hP hD hS)
theorem V_if_ge {x : Int32} {off : Int} {tgt : Nat} (hd : Nx M pc (.ifCond .ge off) 3 pc') (ht : (pc : Int) + off = (tgt : Int)) (kt : 0 ≤ x → V g E M A Q kc ks ws tgt lv st) (kf : ¬ 0 ≤ x → V g E M A Q kc ks ws pc' lv st) : V g E M A Q kc ks ws pc lv (.int x :: st) := by
  obtain ⟨hd, rfl⟩ := hd
  intro B ls H locs hl hP hD hS
  exact lv_if_ge B.1 B.2.1 hd ht (fun h => kt h B ls H locs hl hP hD hS) (fun h => kf h B ls H locs hl hP hD hS)
theorem V_icmp_gt {x y : Int32} {off : Int} {tgt : Nat} (hd : Nx M pc (.if_icmp .gt off) 3 pc') (ht : (pc : Int) + off = (tgt : Int)) (kt : y < x → V g E M A Q kc ks ws tgt lv st) (kf : ¬ y < x → V g E M A Q kc ks ws pc' lv st) : V g E M A Q kc ks ws pc lv (.int y :: .int x :: st) := by
  obtain ⟨hd, rfl⟩ := hd
  intro B ls H locs hl hP hD hS
  exact lv_icmp_gt B.1 B.2.1 hd ht (fun h => kt h B ls H locs hl hP hD hS) (fun h => kf h B ls H locs hl hP hD hS)
theorem V_if_gt {x : Int32} {off : Int} {tgt : Nat} (hd : Nx M pc (.ifCond .gt off) 3 pc') (ht : (pc : Int) + off = (tgt : Int)) (kt : 0 < x → V g E M A Q kc ks ws tgt lv st) (kf : ¬ 0 < x → V g E M A Q kc ks ws pc' lv st) : V g E M A Q kc ks ws pc lv (.int x :: st) := by
  obtain ⟨hd, rfl⟩ := hd
  intro B ls H locs hl hP hD hS
  exact lv_if_gt B.1 B.2.1 hd ht (fun h => kt h B ls H locs hl hP hD hS) (fun h => kf h B ls H locs hl hP hD hS)
theorem V_icmp_le {x y : Int32} {off : Int} {tgt : Nat} (hd : Nx M pc (.if_icmp .le off) 3 pc') (ht : (pc : Int) + off = (tgt : Int)) (kt : x ≤ y → V g E M A Q kc ks ws tgt lv st) (kf : ¬ x ≤ y → V g E M A Q kc ks ws pc' lv st) : V g E M A Q kc ks ws pc lv (.int y :: .int x :: st) := by
  obtain ⟨hd, rfl⟩ := hd
  intro B ls H locs hl hP hD hS
  exact lv_icmp_le B.1 B.2.1 hd ht (fun h => kt h B ls H locs hl hP hD hS) (fun h => kf h B ls H locs hl hP hD hS)
theorem V_if_le {x : Int32} {off : Int} {tgt : Nat} (hd : Nx M pc (.ifCond .le off) 3 pc') (ht : (pc : Int) + off = (tgt : Int)) (kt : x ≤ 0 → V g E M A Q kc ks ws tgt lv st) (kf : ¬ x ≤ 0 → V g E M A Q kc ks ws pc' lv st) : V g E M A Q kc ks ws pc lv (.int x :: st) := by
  obtain ⟨hd, rfl⟩ := hd
  intro B ls H locs hl hP hD hS
  exact lv_if_le B.1 B.2.1 hd ht (fun h => kt h B ls H locs hl hP hD hS) (fun h => kf h B ls H locs hl hP hD hS)
/-- both known by their numbers -/
theorem V_icmp_eq_N {a b : Nat} {off : Int} {tgt : Nat} (hd : Nx M pc (.if_icmp .eq off) 3 pc') (ht : (pc : Int) + off = (tgt : Int)) (ha : a < 2 ^ 31) (hb : b < 2 ^ 31) (kt : a = b → V g E M A Q kc ks ws tgt lv st) (kf : a ≠ b → V g E M A Q kc ks ws pc' lv st) : V g E M A Q kc ks ws pc lv (.int (nI b) :: .int (nI a) :: st) := by
  refine V_icmp_eq hd ht (fun h => kt ?_) (fun h => kf ?_)
  · exact (nI_eq ha hb).mp h
  · exact fun q => h ((nI_eq ha hb).mpr q)
/-- both known by their numbers -/
theorem V_icmp_ne_N {a b : Nat} {off : Int} {tgt : Nat} (hd : Nx M pc (.if_icmp .ne off) 3 pc') (ht : (pc : Int) + off = (tgt : Int)) (ha : a < 2 ^ 31) (hb : b < 2 ^ 31) (kt : a ≠ b → V g E M A Q kc ks ws tgt lv st) (kf : a = b → V g E M A Q kc ks ws pc' lv st) : V g E M A Q kc ks ws pc lv (.int (nI b) :: .int (nI a) :: st) := by
  refine V_icmp_ne hd ht (fun h => kt ?_) (fun h => kf ?_)
  · exact fun q => h ((nI_eq ha hb).mpr q)
  · exact (nI_eq ha hb).mp h
/-- both known by their numbers -/
theorem V_icmp_lt_N {a b : Nat} {off : Int} {tgt : Nat} (hd : Nx M pc (.if_icmp .lt off) 3 pc') (ht : (pc : Int) + off = (tgt : Int)) (ha : a < 2 ^ 31) (hb : b < 2 ^ 31) (kt : a < b → V g E M A Q kc ks ws tgt lv st) (kf : b ≤ a → V g E M A Q kc ks ws pc' lv st) : V g E M A Q kc ks ws pc lv (.int (nI b) :: .int (nI a) :: st) := by
  refine V_icmp_lt hd ht (fun h => kt ?_) (fun h => kf ?_)
  · exact (nI_ltI ha hb).mp h
  · rw [nI_ltI ha hb] at h; omega
/-- both known by their numbers -/
theorem V_icmp_ge_N {a b : Nat} {off : Int} {tgt : Nat} (hd : Nx M pc (.if_icmp .ge off) 3 pc') (ht : (pc : Int) + off = (tgt : Int)) (ha : a < 2 ^ 31) (hb : b < 2 ^ 31) (kt : b ≤ a → V g E M A Q kc ks ws tgt lv st) (kf : a < b → V g E M A Q kc ks ws pc' lv st) : V g E M A Q kc ks ws pc lv (.int (nI b) :: .int (nI a) :: st) := by
  refine V_icmp_ge hd ht (fun h => kt ?_) (fun h => kf ?_)
  · exact (nI_leI hb ha).mp h
  · rw [nI_leI hb ha] at h; omega
/-- both known by their numbers -/
theorem V_icmp_gt_N {a b : Nat} {off : Int} {tgt : Nat} (hd : Nx M pc (.if_icmp .gt off) 3 pc') (ht : (pc : Int) + off = (tgt : Int)) (ha : a < 2 ^ 31) (hb : b < 2 ^ 31) (kt : b < a → V g E M A Q kc ks ws tgt lv st) (kf : a ≤ b → V g E M A Q kc ks ws pc' lv st) : V g E M A Q kc ks ws pc lv (.int (nI b) :: .int (nI a) :: st) := by
  refine V_icmp_gt hd ht (fun h => kt ?_) (fun h => kf ?_)
  · exact (nI_ltI hb ha).mp h
  · rw [nI_ltI hb ha] at h; omega
/-- both known by their numbers -/
theorem V_icmp_le_N {a b : Nat} {off : Int} {tgt : Nat} (hd : Nx M pc (.if_icmp .le off) 3 pc') (ht : (pc : Int) + off = (tgt : Int)) (ha : a < 2 ^ 31) (hb : b < 2 ^ 31) (kt : a ≤ b → V g E M A Q kc ks ws tgt lv st) (kf : b < a → V g E M A Q kc ks ws pc' lv st) : V g E M A Q kc ks ws pc lv (.int (nI b) :: .int (nI a) :: st) := by
  refine V_icmp_le hd ht (fun h => kt ?_) (fun h => kf ?_)
  · exact (nI_leI ha hb).mp h
  · rw [nI_leI ha hb] at h; omega
theorem V_if_eq_N {a : Nat} {off : Int} {tgt : Nat} (hd : Nx M pc (.ifCond .eq off) 3 pc') (ht : (pc : Int) + off = (tgt : Int)) (ha : a < 2 ^ 31) (kt : a = 0 → V g E M A Q kc ks ws tgt lv st) (kf : a ≠ 0 → V g E M A Q kc ks ws pc' lv st) : V g E M A Q kc ks ws pc lv (.int (nI a) :: st) := by
  have e : nI a = 0 ↔ a = 0 := by rw [← nI_0]; exact nI_eq ha (by decide)
  exact V_if_eq hd ht (fun h => kt (e.mp h)) (fun h => kf (fun q => h (e.mpr q)))
theorem V_if_eq_b {b : Bool} {off : Int} {tgt : Nat} (hd : Nx M pc (.ifCond .eq off) 3 pc') (ht : (pc : Int) + off = (tgt : Int)) (kt : b = false → V g E M A Q kc ks ws tgt lv st) (kf : b = true → V g E M A Q kc ks ws pc' lv st) : V g E M A Q kc ks ws pc lv (.int (bI b) :: st) := by
  refine V_if_eq hd ht (fun h => kt ?_) (fun h => kf ?_)
  · exact bI_0.mp h
  · cases b with | true => rfl | false => exact absurd rfl h
theorem V_if_ne_N {a : Nat} {off : Int} {tgt : Nat} (hd : Nx M pc (.ifCond .ne off) 3 pc') (ht : (pc : Int) + off = (tgt : Int)) (ha : a < 2 ^ 31) (kt : a ≠ 0 → V g E M A Q kc ks ws tgt lv st) (kf : a = 0 → V g E M A Q kc ks ws pc' lv st) : V g E M A Q kc ks ws pc lv (.int (nI a) :: st) := by
  have e : nI a = 0 ↔ a = 0 := by rw [← nI_0]; exact nI_eq ha (by decide)
  exact V_if_ne hd ht (fun h => kt (fun q => h (e.mpr q))) (fun h => kf (e.mp h))
theorem V_if_ne_b {b : Bool} {off : Int} {tgt : Nat} (hd : Nx M pc (.ifCond .ne off) 3 pc') (ht : (pc : Int) + off = (tgt : Int)) (kt : b = true → V g E M A Q kc ks ws tgt lv st) (kf : b = false → V g E M A Q kc ks ws pc' lv st) : V g E M A Q kc ks ws pc lv (.int (bI b) :: st) := by
  refine V_if_ne hd ht (fun h => kt ?_) (fun h => kf ?_)
  · cases b with | true => rfl | false => exact absurd rfl h
  · exact bI_0.mp h
/-- a join: the two ways of a choice meet again, with one int on top -/
theorem V_join {b : Bool} {x y : Int32} {pj : Nat} {f : Nat} {st' : List Value} (k : (b = true → V g E M A Q kc ks ws pj lv (.int x :: st)) → (b = false → V g E M A Q kc ks ws pj lv (.int y :: st)) → V g E M A Q kc ks ws f lv st') (hJ : V g E M A Q kc ks ws pj lv (.int (if b = true then x else y) :: st)) : V g E M A Q kc ks ws f lv st' :=
  k (fun h => by rw [if_pos h] at hJ; exact hJ) (fun h => by rw [if_neg (by rw [h]; decide)] at hJ; exact hJ)
theorem V_joinb {b : Bool} {pj : Nat} {f : Nat} {st' : List Value} (k : (b = true → V g E M A Q kc ks ws pj lv (.int 1 :: st)) → (b = false → V g E M A Q kc ks ws pj lv (.int 0 :: st)) → V g E M A Q kc ks ws f lv st') (hJ : V g E M A Q kc ks ws pj lv (.int (bI b) :: st)) : V g E M A Q kc ks ws f lv st' :=
  k (fun h => by subst h; exact hJ) (fun h => by subst h; exact hJ)
theorem V_st {st2 : List Value} (h : st = st2) (k : V g E M A Q kc ks ws pc lv st2) : V g E M A Q kc ks ws pc lv st := by rw [h]; exact k
theorem V_lv {lv2 : List (Nat × Value)} (h : ∀ q ∈ lv2, q ∈ lv) (k : V g E M A Q kc ks ws pc lv2 st) : V g E M A Q kc ks ws pc lv st := fun B ls H locs hl hP hD hS => k B ls H locs (lv_less hl h) hP hD hS
theorem V_top {x y : Int32} (h : x = y) (k : V g E M A Q kc ks ws pc lv (.int y :: st)) : V g E M A Q kc ks ws pc lv (.int x :: st) := by rw [h]; exact k
theorem V_ws (h : ws = ws') (k : V g E M A Q kc ks ws' pc lv st) : V g E M A Q kc ks ws pc lv st := by rw [h]; exact k
end VR
end
section
/-! V: fields, arrays, calls, entry, return -/
/-- what holds of a callee's start -/
def PreC (g : Gx) (av : List Value) (w : va_W) (sz : Nat) : Array Value → State → Prop := va_Pc av (fun U => U.heap.size = sz ∧ va_P g.1 classes w U.heap ∧ va_K g.1 classes (tysG g) U ∧ va_D (fun _ => True) w)
/-- .. and of its end: an answer and a world over the same addresses, of which Po holds -/
def QcC (g : Gx) (w : va_W) (sz : Nat) (Po : Option Value → va_W → Prop) : Array Value → State → Outcome → State → Prop := fun _ st oc t =>
  (∃ (r : Option Value) (w' : va_W), Po r w' ∧ oc = .returned r ∧ w'.map Prod.fst = w.map Prod.fst ∧ va_P g.1 classes w' t.heap) ∧ va_F (va_A w sz) st t
abbrev wsM (y : MethodName) (M : MS) : List Cond := .code y M.1 M.2.1 M.2.2.2 :: wds
/-- a method's contract, no cell being made -/
def Ct (g : Gx) (l : Launch) (y : MethodName) (M : MS) (rm : Room) (av : List Value) (w : va_W) (Po : Option Value → va_W → Prop) : Prop :=
  ∀ sz : Nat, Met l y (wsM y M) rm (PreC g av w sz) (QcC g w sz Po) 0 0 (va_A w sz)
/-- .. whose answer and world are known -/
def Cd (g : Gx) (l : Launch) (y : MethodName) (M : MS) (rm : Room) (av : List Value) (w : va_W) (r : Option Value) (w' : va_W) : Prop := Ct g l y M rm av w (fun r' w'' => r' = r ∧ w'' = w')
theorem Ct.mono {g : Gx} {l : Launch} {y : MethodName} {M : MS} {rm : Room} {av : List Value} {w : va_W} {Po Po' : Option Value → va_W → Prop} (h : Ct g l y M rm av w Po) (hi : ∀ r w', Po r w' → Po' r w') : Ct g l y M rm av w Po' := by
  intro sz p e ha hc hk s m args below hf h1 h2 h3
  obtain ⟨t, o, q1, q2, q3, ⟨⟨⟨r, w', a1, a2, a3, a4⟩, a5⟩, a6⟩⟩ := h sz p e ha hc hk s m args below hf h1 h2 h3
  exact ⟨t, o, q1, q2, q3, ⟨⟨⟨r, w', hi r w' a1, a2, a3, a4⟩, a5⟩, a6⟩⟩
theorem va_D_addr {A : Nat → Prop} {w w' : va_W} (h : va_D A w) (e : w'.map Prod.fst = w.map Prod.fst) : va_D A w' := by
  have key : ∀ (k : Nat) (q : Nat × va_E), w'[k]? = some q → ∃ q0, w[k]? = some q0 ∧ q0.1 = q.1 := by
    intro k q hk
    have h1 : (w'.map Prod.fst)[k]? = some q.1 := by rw [List.getElem?_map, hk]; rfl
    rw [e, List.getElem?_map] at h1
    cases hq : w[k]? with
    | none => rw [hq] at h1; cases h1
    | some q0 => rw [hq] at h1; exact ⟨q0, rfl, Option.some.inj h1⟩
  refine ⟨fun i j x y hi hj hxy => ?_, fun k q hk => ?_⟩
  · obtain ⟨x0, h1, h2⟩ := key i x hi
    obtain ⟨y0, h3, h4⟩ := key j y hj
    exact h.1 i j x0 y0 h1 h3 (h2.trans (hxy.trans h4.symm))
  · obtain ⟨q0, h1, h2⟩ := key k q hk
    rw [← h2]
    exact h.2 k q0 h1
theorem PreC_blind {g : Gx} {av : List Value} {w : va_W} {sz : Nat} : FrameBlind (PreC g av w sz) := fun a U f mk q => by
  obtain ⟨q0, q1, q2, q3, q4⟩ := q
  exact ⟨q0, q1, q2, va_K.moved (u := U) (U := U.calling f mk a) (Vm.Alike.refl U.vm) q3, q4⟩
/-- what a walk knows of its own frame -/
def Ev (E : MV) (l : Launch) (rm : Room) (A : Nat → Prop) (w : va_W) (sz : Nat) : Prop := E.2.1 = l ∧ E.2.2.2.1 = rm ∧ A = va_A w sz
/-- what a walk has to come to -/
def Qm (g : Gx) (E : MV) (w : va_W) (sz : Nat) (Po : Option Value → va_W → Prop) (A : Nat → Prop) : State → Prop := MQ E.2.2.2.2.2.2.2.1 (QcC g w sz Po) E.2.2.2.2.2.2.1 E.2.2.2.2.1 0 0 A
/-- THE ENTRY: a contract by a walk -/
theorem Ct.of {g : Gx} {l : Launch} {y : MethodName} {M : MS} {rm : Room} {av : List Value} {lv : List (Nat × Value)} {w : va_W} {Po : Option Value → va_W → Prop} (hy : plainName y.cls = true ∧ y.cls = M.2.2.1 ∧ (lg_sl av).length ≤ M.2.1) (hlv : lv_args 0 av = lv)
    (body : ∀ (E : MV) (A : Nat → Prop) (sz : Nat), Ev E l rm A w sz → V g E M A (Qm g E w sz Po A) 0 0 w 0 lv []) : Ct g l y M rm av w Po := by
  intro sz
  subst hlv
  obtain ⟨hy, hc, hn⟩ := hy
  refine Met.ofW (cc := M.1) (maxL := M.2.1) (ret := M.2.2.2) hy rfl ?_
  intro p e s m args below meth c s₁ B hml hv
  obtain ⟨rfl, hsz, hP, hK, hD0⟩ := hv
  have hts := atoms_spec (ws := wsM y M) B.pre
  have hown : s.vm.findClass M.2.2.1 = some m.cls := by rw [← hc]; exact findClass_of_methodNamed B.named
  have hD := hD0.self (sz := sz)
  have b := body (p, l, e, rm, s, m, av.toArray, below, meth, c) (va_A w sz) sz ⟨rfl, rfl, rfl⟩
  have hl := lv_entry av (n := M.2.1) hn
  rw [lg_entry_eq]
  exact b ⟨B.exec, B.bytes, hml, hown, fun w hw => hts w (List.mem_cons_of_mem _ hw), B.returns, B.notSynchronized, hK, fun q h => Or.inr (by rw [← hsz]; exact h)⟩ _ _ _ hl hP hD va_S.rf
section VH
variable {g : Gx} {E : MV} {M : MS} {A : Nat → Prop} {Q : State → Prop} {kc ks : Nat} {ws ws' : va_W} {pc pc' : Nat} {lv lv' : List (Nat × Value)} {st : List Value}
/-- returns -/
theorem V_iret {w : va_W} {sz : Nat} {Po : Option Value → va_W → Prop} {v : Int32} (hM : M.2.2.2 = some .int) (hd : Nx M pc .ireturn 1 pc') (hp : Po (some (.int v)) ws) (ha : ws.map Prod.fst = w.map Prod.fst) {l : Launch} {rm : Room} (X : Ev E l rm A w sz) : V g E M A (Qm g E w sz Po A) 0 0 ws pc lv [.int v] := by
  intro B ls H locs hl hP hD hS
  exact W.iret B.1 B.2.1 (B.2.2.2.2.2.1.trans hM) (fun t ht hW => ⟨⟨_, ws, hp, rfl, ha, by rw [ht]; exact hP⟩, by rw [← X.2.2]; exact hS.F ht⟩) hS.2.2 hd.1 B.2.2.2.2.2.2.1
theorem V_zret {w : va_W} {sz : Nat} {Po : Option Value → va_W → Prop} {b : Bool} (hM : M.2.2.2 = some .boolean) (hd : Nx M pc .ireturn 1 pc') (hp : Po (some (.int (bI b))) ws) (ha : ws.map Prod.fst = w.map Prod.fst) {l : Launch} {rm : Room} (X : Ev E l rm A w sz) : V g E M A (Qm g E w sz Po A) 0 0 ws pc lv [.int (bI b)] := by
  intro B ls H locs hl hP hD hS
  exact W.zret B.1 B.2.1 (B.2.2.2.2.2.1.trans hM) (bI_n b) (fun t ht hW => ⟨⟨_, ws, hp, rfl, ha, by rw [ht]; exact hP⟩, by rw [← X.2.2]; exact hS.F ht⟩) hS.2.2 hd.1 B.2.2.2.2.2.2.1
theorem V_lret {w : va_W} {sz : Nat} {Po : Option Value → va_W → Prop} {v : Int64} (hM : M.2.2.2 = some .long) (hd : Nx M pc .lreturn 1 pc') (hp : Po (some (.long v)) ws) (ha : ws.map Prod.fst = w.map Prod.fst) {l : Launch} {rm : Room} (X : Ev E l rm A w sz) : V g E M A (Qm g E w sz Po A) 0 0 ws pc lv [.long v] := by
  intro B ls H locs hl hP hD hS
  exact W.lret B.1 B.2.1 (B.2.2.2.2.2.1.trans hM) (fun t ht hW => ⟨⟨_, ws, hp, rfl, ha, by rw [ht]; exact hP⟩, by rw [← X.2.2]; exact hS.F ht⟩) hS.2.2 hd.1 B.2.2.2.2.2.2.1
theorem V_vret {w : va_W} {sz : Nat} {Po : Option Value → va_W → Prop} (hM : M.2.2.2 = none) (hd : Nx M pc .return_ 1 pc') (hp : Po none ws) (ha : ws.map Prod.fst = w.map Prod.fst) {l : Launch} {rm : Room} (X : Ev E l rm A w sz) : V g E M A (Qm g E w sz Po A) 0 0 ws pc lv [] := by
  intro B ls H locs hl hP hD hS
  exact W.vret B.1 B.2.1 (B.2.2.2.2.2.1.trans hM) (fun t ht hW => ⟨⟨_, ws, hp, rfl, ha, by rw [ht]; exact hP⟩, by rw [← X.2.2]; exact hS.F ht⟩) hS.2.2 hd.1 B.2.2.2.2.2.2.1
/-- getfield: the object stands at place q0 of the world, the field at place k of its class's table -/
theorem V_get {C : String} {T : u_T} {N ci index a : Nat} {fs : List Value} {v : Value} (q0 k : Nat) (hin : ∀ w ∈ u_ws C T N, w ∈ wds) (hc : classes[ci]? = some (C, T, N)) (hk : k < N) (hf : Cond.fieldLink M.2.2.1 index (T k).1 (T k).2.1 (T k).2.2.1 ∈ wds) (hd : Nx M pc (.getfield index) 3 pc') (he : ws[q0]? = some (a, .inr (ci, fs))) (hv : fs[k]? = some v) (kk : V g E M A Q kc ks ws pc' lv (v :: st)) : V g E M A Q kc ks ws pc lv (.ref a :: st) := by
  obtain ⟨hd, rfl⟩ := hd
  intro B ls H locs hl hP hD hS
  exact va_get B.1 B.2.1 B.2.2.2.2.1 hin B.2.2.2.1 B.2.2.2.2.2.2.2.1 hP q0 he hc k hk (B.2.2.2.2.1 _ hf) (fun _ h => h) hv hd (kk B ls H locs hl hP hD hS)
theorem V_put {C : String} {T : u_T} {N ci index a : Nat} {fs : List Value} {v : Value} {ty : FieldType} (q0 k : Nat) (hin : ∀ w ∈ u_ws C T N, w ∈ wds) (ty0 : Nat → FieldType) (hty : ∀ k, k < N → parseFieldDescriptor (T k).2.2.1 = some (ty0 k)) (hnm : ∀ a, a < N → ∀ b, b < N → a ≠ b → (T a).2.1 ≠ (T b).2.1) (hc : classes[ci]? = some (C, T, N)) (hk : k < N) (hf : Cond.fieldLink M.2.2.1 index (T k).1 (T k).2.1 (T k).2.2.1 ∈ wds) (hfin : (T k).2.2.2 = false) (hty1 : ty0 k = ty) (hn : narrow ty v = v) (hfit : fits ty v = true) (hd : Nx M pc (.putfield index) 3 pc') (he : ws[q0]? = some (a, .inr (ci, fs))) (hl0 : k < fs.length) (hw : ws.set q0 (a, .inr (ci, fs.set k v)) = ws') (kk : V g E M A Q kc ks ws' pc' lv st) : V g E M A Q kc ks ws pc lv (v :: .ref a :: st) := by
  obtain ⟨hd, rfl⟩ := hd
  intro B ls H locs hl hP hD hS
  subst hw
  subst hty1
  exact va_put B.1 B.2.1 B.2.2.2.2.1 hin ty0 hty hnm B.2.2.2.1 B.2.2.2.2.2.2.2.1 hP hD hS q0 he hc k hk (B.2.2.2.2.1 _ hf) (fun _ h => h) hfin (hty k hk) hn hfit hl0 hd (fun H1 locs1 hP hD hS => kk B ls H1 locs1 hl hP hD hS)
theorem V_iald {a n j : Nat} {f : Nat → Int32} {v : Int32} (q0 : Nat) (hd : Nx M pc .iaload 1 pc') (he : ws[q0]? = some (a, .inl (g.2.1, n, .inl f))) (hj : j < n) (hn : n < 2 ^ 31) (hv : f j = v) (kk : V g E M A Q kc ks ws pc' lv (.int v :: st)) : V g E M A Q kc ks ws pc lv (.int (nI j) :: .ref a :: st) := by
  obtain ⟨hd, rfl⟩ := hd
  intro B ls H locs hl hP hD hS
  subst hv
  refine va_iald B.1 B.2.1 B.2.2.2.2.2.2.2.1 hP q0 0 he rfl (vp_in_nI hj hn) hd ?_
  rw [nI_clamp (Nat.lt_trans hj hn)]
  exact kk B ls H locs hl hP hD hS
theorem V_zald {a n j : Nat} {f : Nat → Int32} {v : Int32} (q0 : Nat) (hd : Nx M pc .baload 1 pc') (he : ws[q0]? = some (a, .inl (g.2.2.1, n, .inl f))) (hj : j < n) (hn : n < 2 ^ 31) (hv : f j = v) (kk : V g E M A Q kc ks ws pc' lv (.int v :: st)) : V g E M A Q kc ks ws pc lv (.int (nI j) :: .ref a :: st) := by
  obtain ⟨hd, rfl⟩ := hd
  intro B ls H locs hl hP hD hS
  subst hv
  refine va_zald B.1 B.2.1 B.2.2.2.2.2.2.2.1 hP q0 1 he rfl (vp_in_nI hj hn) hd ?_
  rw [nI_clamp (Nat.lt_trans hj hn)]
  exact kk B ls H locs hl hP hD hS
theorem V_aald {a n j b : Nat} {f : Nat → Option Nat} (q0 : Nat) (hd : Nx M pc .aaload 1 pc') (he : ws[q0]? = some (a, .inl (g.2.2.2, n, .inr (.inr (.inr (.inr f)))))) (hj : j < n) (hn : n < 2 ^ 31) (hv : f j = some b) (kk : V g E M A Q kc ks ws pc' lv (.ref b :: st)) : V g E M A Q kc ks ws pc lv (.int (nI j) :: .ref a :: st) := by
  obtain ⟨hd, rfl⟩ := hd
  intro B ls H locs hl hP hD hS
  refine va_aldq B.1 B.2.1 B.2.2.2.2.2.2.2.1 hP q0 2 he rfl (vp_in_nI hj hn) hd ?_
  rw [nI_clamp (Nat.lt_trans hj hn), hv]
  exact kk B ls H locs hl hP hD hS
theorem V_iast {a n j : Nat} {f : Nat → Int32} {x : Int32} (q0 : Nat) (hd : Nx M pc .iastore 1 pc') (he : ws[q0]? = some (a, .inl (g.2.1, n, .inl f))) (hj : j < n) (hn : n < 2 ^ 31) (hw : ws.set q0 (a, .inl (g.2.1, n, .inl (upd f j x))) = ws') (kk : V g E M A Q kc ks ws' pc' lv st) : V g E M A Q kc ks ws pc lv (.int x :: .int (nI j) :: .ref a :: st) := by
  obtain ⟨hd, rfl⟩ := hd
  intro B ls H locs hl hP hD hS
  subst hw
  refine va_iast B.1 B.2.1 B.2.2.2.2.2.2.2.1 hP hD hS q0 0 he rfl (vp_in_nI hj hn) hd ?_
  rw [nI_clamp (Nat.lt_trans hj hn)]
  exact fun H1 locs1 hP hD hS => kk B ls H1 locs1 hl hP hD hS
theorem V_zast {a n j : Nat} {f : Nat → Int32} {b : Bool} (q0 : Nat) (hd : Nx M pc .bastore 1 pc') (he : ws[q0]? = some (a, .inl (g.2.2.1, n, .inl f))) (hj : j < n) (hn : n < 2 ^ 31) (hw : ws.set q0 (a, .inl (g.2.2.1, n, .inl (upd f j (bI b)))) = ws') (kk : V g E M A Q kc ks ws' pc' lv st) : V g E M A Q kc ks ws pc lv (.int (bI b) :: .int (nI j) :: .ref a :: st) := by
  obtain ⟨hd, rfl⟩ := hd
  intro B ls H locs hl hP hD hS
  subst hw
  refine va_zast B.1 B.2.1 B.2.2.2.2.2.2.2.1 hP hD hS q0 1 he rfl (vp_in_nI hj hn) hd ?_
  rw [nI_clamp (Nat.lt_trans hj hn), show vp_nar .boolean (bI b) = bI b by cases b <;> decide]
  exact fun H1 locs1 hP hD hS => kk B ls H1 locs1 hl hP hD hS
/-- constants of the pool -/
theorem V_ldc {index : Nat} {v : Int32} (hc : Cond.constant M.2.2.1 index v ∈ wds) (hd : Nx M pc (.ldc index) 2 pc') (kk : V g E M A Q kc ks ws pc' lv (.int v :: st)) : V g E M A Q kc ks ws pc lv st := by
  obtain ⟨hd, rfl⟩ := hd
  intro B ls H locs hl hP hD hS
  exact lv_ldc B.1 B.2.1 B.2.2.2.1 (B.2.2.2.2.1 _ hc) hd (kk B ls H locs hl hP hD hS)
theorem V_ldc2 {index : Nat} {v : Int64} (hc : Cond.constantLong M.2.2.1 index v ∈ wds) (hd : Nx M pc (.ldc2_w index) 3 pc') (kk : V g E M A Q kc ks ws pc' lv (.long v :: st)) : V g E M A Q kc ks ws pc lv st := by
  obtain ⟨hd, rfl⟩ := hd
  intro B ls H locs hl hP hD hS
  exact lv_ldc2 B.1 B.2.1 B.2.2.2.1 (B.2.2.2.2.1 _ hc) hd (kk B ls H locs hl hP hD hS)
/-- switches -/
theorem V_tableOut {dflt lo hi : Int} {offs : Array Int} {len : Nat} {x : Int32} {tgt : Nat} (hd : Nx M pc (.tableswitch dflt lo hi offs) len pc') (h : x.toInt < lo ∨ hi < x.toInt) (ht : (pc : Int) + dflt = (tgt : Int)) (kk : V g E M A Q kc ks ws tgt lv st) : V g E M A Q kc ks ws pc lv (.int x :: st) := by
  intro B ls H locs hl hP hD hS
  exact lv_tableOut B.1 B.2.1 hd.1 h ht (kk B ls H locs hl hP hD hS)
theorem V_tableIn {dflt lo hi : Int} {offs : Array Int} {len : Nat} {x : Int32} {off : Int} {tgt : Nat} (hd : Nx M pc (.tableswitch dflt lo hi offs) len pc') (h1 : ¬ x.toInt < lo) (h2 : ¬ hi < x.toInt) (ho : offs[(x.toInt - lo).toNat]? = some off) (ht : (pc : Int) + off = (tgt : Int)) (kk : V g E M A Q kc ks ws tgt lv st) : V g E M A Q kc ks ws pc lv (.int x :: st) := by
  intro B ls H locs hl hP hD hS
  exact lv_tableIn B.1 B.2.1 hd.1 h1 h2 ho ht (kk B ls H locs hl hP hD hS)
end VH
/-- the cells w put at the places is -/
def wput (ws : va_W) : List Nat → va_W → va_W
  | i :: is, c :: w => wput (ws.set i c) is w
  | _, _ => ws
theorem wput_len : ∀ (is : List Nat) (w ws : va_W), (wput ws is w).length = ws.length
  | [], [], _ => rfl
  | [], _ :: _, _ => rfl
  | _ :: _, [], _ => rfl
  | i :: is, c :: w, ws => by
    show (wput (ws.set i c) is w).length = _
    rw [wput_len is w, List.length_set]
theorem wput_out : ∀ (is : List Nat) (w ws : va_W) (k : Nat), k ∉ is → (wput ws is w)[k]? = ws[k]?
  | [], [], _, _, _ => rfl
  | [], _ :: _, _, _, _ => rfl
  | _ :: _, [], _, _, _ => rfl
  | i :: is, c :: w, ws, k, h => by
    show (wput (ws.set i c) is w)[k]? = _
    rw [wput_out is w _ k (fun q => h (List.mem_cons_of_mem _ q)), List.getElem?_set_ne (fun q => h (by rw [q]; exact List.mem_cons_self))]
theorem wput_in : ∀ (is : List Nat) (w ws : va_W) (k : Nat) (q : Nat × va_E), k ∈ is → is.length = w.length → (wput ws is w)[k]? = some q → q ∈ w ∨ ws[k]? = none
  | [], _, _, _, _, h, _, _ => by cases h
  | _ :: _, [], _, _, _, _, h, _ => by cases h
  | i :: is, c :: w, ws, k, q, h, hl, hq => by
    have hq : (wput (ws.set i c) is w)[k]? = some q := hq
    by_cases hk : k ∈ is
    · rcases wput_in is w _ k q hk (Nat.succ.inj hl) hq with h1 | h1
      · exact Or.inl (List.mem_cons_of_mem _ h1)
      · refine Or.inr ?_
        rw [List.getElem?_eq_none_iff] at h1 ⊢
        rw [List.length_set] at h1
        exact h1
    · have hik : k = i := by
        rcases List.mem_cons.mp h with h | h
        · exact h
        · exact absurd h hk
      subst hik
      rw [wput_out is w _ k hk] at hq
      by_cases hlt : k < ws.length
      · rw [List.getElem?_set_self hlt] at hq
        cases hq
        exact Or.inl List.mem_cons_self
      · exact Or.inr (List.getElem?_eq_none (by omega))
/-- behind a call, in the same order -/
theorem wput_adr : ∀ (is : List Nat) (w wc ws : va_W), is.map (fun j => (ws.map Prod.fst)[j]?) = wc.map (fun q => some q.1) → w.map Prod.fst = wc.map Prod.fst → (wput ws is w).map Prod.fst = ws.map Prod.fst
  | [], [], _, _, _, _ => rfl
  | [], _ :: _, _, _, _, _ => rfl
  | _ :: _, [], _, _, _, _ => rfl
  | i :: is, c :: w, [], _, _, h => by cases h
  | i :: is, c :: w, d :: wc, ws, hs, h => by
    obtain ⟨h1, h2⟩ := List.cons.inj hs
    obtain ⟨h3, h4⟩ := List.cons.inj h
    have h1 : (ws.map Prod.fst)[i]? = some d.1 := h1
    have e : (ws.set i c).map Prod.fst = ws.map Prod.fst := by
      rw [List.map_set]
      apply List.ext_getElem?
      intro k
      by_cases hk : k = i
      · subst hk
        have hlt : k < (ws.map Prod.fst).length := (List.getElem?_eq_some_iff.mp h1).1
        rw [List.getElem?_set_self hlt, h1]
        show some c.1 = some d.1
        rw [show c.1 = d.1 from h3]
      · rw [List.getElem?_set_ne (Ne.symm hk)]
    show (wput (ws.set i c) is w).map Prod.fst = _
    rw [wput_adr is w wc (ws.set i c) (by rw [e]; exact h2) h4, e]
theorem wput_addr (is : List Nat) (w wc ws : va_W) (hs : is.map (fun i => ws[i]?) = wc.map some) (h : w.map Prod.fst = wc.map Prod.fst) : (wput ws is w).map Prod.fst = ws.map Prod.fst := by
  refine wput_adr is w wc ws ?_ h
  have h5 := congrArg (fun l => l.map (Option.map Prod.fst)) hs
  simp only [List.map_map] at h5
  refine Eq.trans ?_ (h5.trans ?_)
  · apply List.map_congr_left
    intro j _
    rw [List.getElem?_map]
    rfl
  · apply List.map_congr_left
    intro j _
    rfl
theorem va_back {A0 : Nat → Prop} {D : va_G} {cl : List vw_C} {ws wc w1 : va_W} {H H1 : Heap} (hP : va_P D cl ws H) (hD : va_D A0 ws) (is : List Nat) (hC : is.map (fun i => ws[i]?) = wc.map some) (ha : w1.map Prod.fst = wc.map Prod.fst)
    (hk : ∀ q : Nat, q < H.size → ¬ va_A wc H.size q → H1[q]? = H[q]?) (hP1 : va_P D cl w1 H1) : va_P D cl (wput ws is w1) H1 ∧ va_D A0 (wput ws is w1) := by
  refine ⟨fun k q hq => ?_, va_D_addr hD (wput_addr is w1 wc ws hC ha)⟩
  by_cases hi : k ∈ is
  · have hlen : is.length = w1.length := by
      have h1 := congrArg List.length hC
      have h2 := congrArg List.length ha
      simp only [List.length_map] at h1 h2
      omega
    rcases wput_in is w1 ws k q hi hlen hq with h | h
    · obtain ⟨i, hi⟩ := List.getElem?_of_mem h
      exact hP1 i q hi
    · rw [List.getElem?_eq_none_iff] at h
      have h3 := (List.getElem?_eq_some_iff.mp hq).1
      rw [wput_len] at h3
      omega
  · rw [wput_out is w1 ws k hi] at hq
    refine (hP k q hq).kept (hk q.1 ((hP k q hq).lt) (fun h => ?_))
    rcases h with ⟨k2, e, h⟩ | h
    · obtain ⟨j, h5, h6⟩ := va_in_of is hC h
      have hij := hD.1 k j q (q.1, e) hq h6 rfl
      subst hij
      exact hi (List.mem_of_getElem? h5)
    · have := (hP k q hq).lt
      omega
section VCall
variable {g : Gx} {E : MV} {M : MS} {A : Nat → Prop} {Q : State → Prop} {kc ks : Nat} {ws ws' : va_W} {pc pc' : Nat} {lv lv' : List (Nat × Value)} {st : List Value}
/-- behind a call whose run is known -/
theorem V_run {w : va_W} {sz : Nat} {Po : Option Value → va_W → Prop} {a : Array Value} {ls : Array Slot} {H : Heap} {locs : List Loc} {st0 : List Value} (is : List Nat) (hC : is.map (fun i => ws[i]?) = w.map some) (B : Bd g E M A) (hl : lv_has ls M.2.1 lv) (hP : va_P g.1 classes ws H) (hD : va_D A ws) (hS : va_S A E.2.2.2.2.1.heap H locs) (hsz : sz = H.size)
    (hr : va_Run E.1 E.2.1 E.2.2.1 E.2.2.2.1 E.2.2.2.2.1 E.2.2.2.2.2.1 E.2.2.2.2.2.2.1 E.2.2.2.2.2.2.2.1 E.2.2.2.2.2.2.2.2.1 E.2.2.2.2.2.2.2.2.2 H locs kc ks 0 0 (F0 E.2.2.2.2.2.1 pc ls st0) st (QcC g w sz Po a) (va_A w sz))
    (kk : ∀ (r : Option Value) (w' : va_W), Po r w' → V g E M A Q kc ks (wput ws is w') (pc + 3) lv (r.toList ++ st)) : Wf E H locs kc ks Q (F0 E.2.2.2.2.2.1 pc ls st0) := by
  subst hsz
  have hF := va_free (wc := w) hD hS B.2.2.2.2.2.2.2.2 is hC
  intro T hT X
  obtain ⟨v, st₀, t, T', L, h0, X', hL, e1, e2, ⟨⟨r, w', hp, hv, hadr, hP1⟩, hz, hk⟩, stp⟩ := hr T hT X
  cases hv
  rw [h0] at hz hk
  rw [← e1] at hz hk hP1
  obtain ⟨hP2, hD2⟩ := va_back hP hD is hC hadr hk hP1
  have hS2 : va_S A E.2.2.2.2.1.heap T'.heap (locs ++ L) := ⟨Nat.le_trans hS.1 hz, fun q h1 h2 => by
      rw [hk q (Nat.lt_of_lt_of_le h1 hS.1) (fun z => h2 (hF q z))]
      exact hS.2.1 q h1 h2, fun q hq => by
      rcases List.mem_append.mp hq with h | h
      · exact hS.2.2 q h
      · exact hF _ (hL q h)⟩
  obtain ⟨t2, a1, b1⟩ := kk v w' hp B ls T'.heap (locs ++ L) hl hP2 hD2 hS2 T' rfl X'
  exact ⟨t2, stp t2 a1, b1⟩
theorem D_weak {A : Nat → Prop} {ws w : va_W} (hD : va_D A ws) (is : List Nat) (hn : va_nd is = true) (hC : is.map (fun i => ws[i]?) = w.map some) : va_D (fun _ => True) w := (hD.sub is hn hC).weaken (fun _ _ _ _ => trivial)
theorem P_sub {D : va_G} {cl : List vw_C} {ws w : va_W} {H : Heap} (hP : va_P D cl ws H) (is : List Nat) (hC : is.map (fun i => ws[i]?) = w.map some) : va_P D cl w H := fun k q hq => by
  obtain ⟨i, -, h2⟩ := va_in_of is hC hq
  exact hP i q h2
/-- a virtual call -/
theorem V_callV {l : Launch} {y : MethodName} {N : MS} {rm : Room} {b : Nat} {As : List Value} {w : va_W} {Po : Option Value → va_W → Prop} {index ci : Nat} {C : vw_C} {st0 : List Value} {R0 : Room} {A1 : Nat → Prop} {w1 : va_W} {sz1 : Nat} (is : List Nat) (n : Nat) (X : Ev E l R0 A1 w1 sz1) (hM : Ct g l y N rm (.ref b :: As) w Po)
    (hw : Cond.methodLink M.2.2.1 index y ∈ wds ∧ Cond.instanceMethod y ∈ wds ∧ Cond.selects C.1 y y ∈ wds ∧ Cond.initialized C.1 ∈ wds ∧ Cond.code y N.1 N.2.1 N.2.2.2 ∈ wds)
    (hy : y.cls = C.1 ∧ y.cls ≠ "java/lang/invoke/MethodHandle" ∧ y.cls ≠ "java/lang/invoke/VarHandle" ∧ (parseMethodDescriptor y.desc).map (fun d => d.parameters.length) = some n) (hR : rm.cells = 0 ∧ rm.slots = 0 ∧ rm.frames + 1 ≤ R0.frames ∧ 8 + (N.2.1 + 11) + rm.locals ≤ R0.locals ∧ kc ≤ R0.cells ∧ ks ≤ R0.slots)
    (hC : is.map (fun i => ws[i]?) = w.map some) (hn : va_nd is = true) (q0 : Nat) {fs : List Value} (hc : classes[ci]? = some C) (hb : w[q0]? = some (b, .inr (ci, fs))) (hd : Nx M pc (.invokevirtual index) 3 pc') (hAs : As.length = n) (hst : st0 = As.reverse ++ .ref b :: st) (hcat : (st.map fun v => v.category).sum ≤ 8)
    (kk : ∀ (r : Option Value) (w' : va_W), Po r w' → V g E M A Q kc ks (wput ws is w') pc' lv (r.toList ++ st)) : V g E M A Q kc ks ws pc lv st0 := by
  obtain ⟨hd, rfl⟩ := hd
  subst hst
  obtain ⟨hE, hER, -⟩ := X
  subst hE
  subst hER
  intro B ls H locs hl hP hD hS
  have hPc := P_sub hP is hC
  refine V_run (w := w) (sz := H.size) (Po := Po) (a := (Value.ref b :: As).toArray) is hC B hl hP hD hS rfl ?_ kk
  exact va_runV (Ts := wds) (own := M.2.2.1) (C := C.1) (bytes := N.1) (maxL := N.2.1) (ret := N.2.2.2) (n := n) ⟨B.1, B.2.1, B.2.2.1, B.2.2.2.1, B.2.2.2.2.1⟩ (hM H.size)
    (cwV (ws' := wds) n B.2.2.2.2.1 (fun w hw2 => by
      have good : ∀ z ∈ wds, z ∈ wds ∧ ((z.onTables && z.keeps) = true ∨ ∃ ty, z = .arrayClass ty) := wd_good
      rcases List.mem_append.mp hw2 with h | h
      · simp only [List.mem_cons, List.not_mem_nil, or_false] at h
        rcases h with rfl | rfl | rfl | rfl
        · exact good _ hw.1
        · exact good _ hw.2.1
        · exact good _ hw.2.2.1
        · exact good _ hw.2.2.2.1
      · rcases List.mem_cons.mp h with rfl | h
        · exact good _ hw.2.2.2.2
        · exact good _ h) rfl hR.1 hR.2.1 hy ⟨hR.2.2.1, hR.2.2.2.1⟩)
    ⟨PreC_blind, va_recv B.2.2.2.2.2.2.2.1 hPc hc hb, fun U hU hW => ⟨rfl, by rw [hU], by rw [hU]; exact hPc, va_K.moved hW.alike B.2.2.2.2.2.2.2.1, D_weak hD is hn hC⟩⟩ rfl hAs hl.1 rfl (lv_room hcat) hd ⟨by simpa using hR.2.2.2.2.1, by simpa using hR.2.2.2.2.2⟩
/-- a static call -/
theorem V_callS {l : Launch} {y : MethodName} {N : MS} {rm : Room} {As : List Value} {w : va_W} {Po : Option Value → va_W → Prop} {index : Nat} {st0 : List Value} {R0 : Room} {A1 : Nat → Prop} {w1 : va_W} {sz1 : Nat} (is : List Nat) (n : Nat) (X : Ev E l R0 A1 w1 sz1) (hM : Ct g l y N rm As w Po)
    (hw : Cond.methodLink M.2.2.1 index y ∈ wds ∧ Cond.static y ∈ wds ∧ Cond.initialized y.cls ∈ wds ∧ Cond.code y N.1 N.2.1 N.2.2.2 ∈ wds)
    (hy : y.cls ≠ "java/lang/invoke/MethodHandle" ∧ y.cls ≠ "java/lang/invoke/VarHandle" ∧ (parseMethodDescriptor y.desc).map (fun d => d.parameters.length) = some n) (hR : rm.cells = 0 ∧ rm.slots = 0 ∧ rm.frames + 1 ≤ R0.frames ∧ 8 + (N.2.1 + 11) + rm.locals ≤ R0.locals ∧ kc ≤ R0.cells ∧ ks ≤ R0.slots)
    (hC : is.map (fun i => ws[i]?) = w.map some) (hn : va_nd is = true) (hd : Nx M pc (.invokestatic index) 3 pc') (hAs : As.length = n) (hst : st0 = As.reverse ++ st) (hcat : (st.map fun v => v.category).sum ≤ 8)
    (kk : ∀ (r : Option Value) (w' : va_W), Po r w' → V g E M A Q kc ks (wput ws is w') pc' lv (r.toList ++ st)) : V g E M A Q kc ks ws pc lv st0 := by
  obtain ⟨hd, rfl⟩ := hd
  subst hst
  obtain ⟨hE, hER, -⟩ := X
  subst hE
  subst hER
  intro B ls H locs hl hP hD hS
  have hPc := P_sub hP is hC
  refine V_run (w := w) (sz := H.size) (Po := Po) (a := As.toArray) is hC B hl hP hD hS rfl ?_ kk
  exact va_runS (Ts := wds) (own := M.2.2.1) (bytes := N.1) (maxL := N.2.1) (ret := N.2.2.2) (n := n) ⟨B.1, B.2.1, B.2.2.1, B.2.2.2.1, B.2.2.2.2.1⟩ (hM H.size)
    (va_cwS (ws' := wds) n B.2.2.2.2.1 (fun w hw2 => by
      have good : ∀ z ∈ wds, z ∈ wds ∧ ((z.onTables && z.keeps) = true ∨ ∃ ty, z = .arrayClass ty) := wd_good
      rcases List.mem_append.mp hw2 with h | h
      · simp only [List.mem_cons, List.not_mem_nil, or_false] at h
        rcases h with rfl | rfl | rfl
        · exact good _ hw.1
        · exact good _ hw.2.1
        · exact good _ hw.2.2.1
      · rcases List.mem_cons.mp h with rfl | h
        · exact good _ hw.2.2.2
        · exact good _ h) rfl hR.1 hR.2.1 hy ⟨hR.2.2.1, hR.2.2.2.1⟩)
    ⟨PreC_blind, fun U hU hW => ⟨rfl, by rw [hU], by rw [hU]; exact hPc, va_K.moved hW.alike B.2.2.2.2.2.2.2.1, D_weak hD is hn hC⟩⟩ rfl hAs hl.1 rfl (lv_room hcat) hd ⟨by simpa using hR.2.2.2.2.1, by simpa using hR.2.2.2.2.2⟩
/-- calls whose answer and world are known -/
theorem V_cVi {l : Launch} {y : MethodName} {N : MS} {rm : Room} {b : Nat} {As : List Value} {w w' : va_W} {r : Int32} {index ci : Nat} {C : vw_C} {st0 : List Value} {R0 : Room} {A1 : Nat → Prop} {w1 : va_W} {sz1 : Nat} (is : List Nat) (n : Nat) (X : Ev E l R0 A1 w1 sz1) (hM : Cd g l y N rm (.ref b :: As) w (some (.int r)) w')
    (hw : Cond.methodLink M.2.2.1 index y ∈ wds ∧ Cond.instanceMethod y ∈ wds ∧ Cond.selects C.1 y y ∈ wds ∧ Cond.initialized C.1 ∈ wds ∧ Cond.code y N.1 N.2.1 N.2.2.2 ∈ wds)
    (hy : y.cls = C.1 ∧ y.cls ≠ "java/lang/invoke/MethodHandle" ∧ y.cls ≠ "java/lang/invoke/VarHandle" ∧ (parseMethodDescriptor y.desc).map (fun d => d.parameters.length) = some n) (hR : rm.cells = 0 ∧ rm.slots = 0 ∧ rm.frames + 1 ≤ R0.frames ∧ 8 + (N.2.1 + 11) + rm.locals ≤ R0.locals ∧ kc ≤ R0.cells ∧ ks ≤ R0.slots)
    (hC : is.map (fun i => ws[i]?) = w.map some) (hn : va_nd is = true) (q0 : Nat) {fs : List Value} (hc : classes[ci]? = some C) (hb : w[q0]? = some (b, .inr (ci, fs))) (hd : Nx M pc (.invokevirtual index) 3 pc') (hAs : As.length = n) (hst : st0 = As.reverse ++ .ref b :: st) (hcat : (st.map fun v => v.category).sum ≤ 8) (hws : wput ws is w' = ws') (kk : V g E M A Q kc ks ws' pc' lv (.int r :: st)) : V g E M A Q kc ks ws pc lv st0 := by
  refine V_callV (C := C) is n X hM hw hy hR hC hn q0 hc hb hd hAs hst hcat ?_
  rintro _ _ ⟨rfl, rfl⟩
  rw [hws]
  exact kk
theorem V_cVl {l : Launch} {y : MethodName} {N : MS} {rm : Room} {b : Nat} {As : List Value} {w w' : va_W} {r : Int64} {index ci : Nat} {C : vw_C} {st0 : List Value} {R0 : Room} {A1 : Nat → Prop} {w1 : va_W} {sz1 : Nat} (is : List Nat) (n : Nat) (X : Ev E l R0 A1 w1 sz1) (hM : Cd g l y N rm (.ref b :: As) w (some (.long r)) w')
    (hw : Cond.methodLink M.2.2.1 index y ∈ wds ∧ Cond.instanceMethod y ∈ wds ∧ Cond.selects C.1 y y ∈ wds ∧ Cond.initialized C.1 ∈ wds ∧ Cond.code y N.1 N.2.1 N.2.2.2 ∈ wds)
    (hy : y.cls = C.1 ∧ y.cls ≠ "java/lang/invoke/MethodHandle" ∧ y.cls ≠ "java/lang/invoke/VarHandle" ∧ (parseMethodDescriptor y.desc).map (fun d => d.parameters.length) = some n) (hR : rm.cells = 0 ∧ rm.slots = 0 ∧ rm.frames + 1 ≤ R0.frames ∧ 8 + (N.2.1 + 11) + rm.locals ≤ R0.locals ∧ kc ≤ R0.cells ∧ ks ≤ R0.slots)
    (hC : is.map (fun i => ws[i]?) = w.map some) (hn : va_nd is = true) (q0 : Nat) {fs : List Value} (hc : classes[ci]? = some C) (hb : w[q0]? = some (b, .inr (ci, fs))) (hd : Nx M pc (.invokevirtual index) 3 pc') (hAs : As.length = n) (hst : st0 = As.reverse ++ .ref b :: st) (hcat : (st.map fun v => v.category).sum ≤ 8) (hws : wput ws is w' = ws') (kk : V g E M A Q kc ks ws' pc' lv (.long r :: st)) : V g E M A Q kc ks ws pc lv st0 := by
  refine V_callV (C := C) is n X hM hw hy hR hC hn q0 hc hb hd hAs hst hcat ?_
  rintro _ _ ⟨rfl, rfl⟩
  rw [hws]
  exact kk
theorem V_cVv {l : Launch} {y : MethodName} {N : MS} {rm : Room} {b : Nat} {As : List Value} {w w' : va_W} {index ci : Nat} {C : vw_C} {st0 : List Value} {R0 : Room} {A1 : Nat → Prop} {w1 : va_W} {sz1 : Nat} (is : List Nat) (n : Nat) (X : Ev E l R0 A1 w1 sz1) (hM : Cd g l y N rm (.ref b :: As) w (none) w')
    (hw : Cond.methodLink M.2.2.1 index y ∈ wds ∧ Cond.instanceMethod y ∈ wds ∧ Cond.selects C.1 y y ∈ wds ∧ Cond.initialized C.1 ∈ wds ∧ Cond.code y N.1 N.2.1 N.2.2.2 ∈ wds)
    (hy : y.cls = C.1 ∧ y.cls ≠ "java/lang/invoke/MethodHandle" ∧ y.cls ≠ "java/lang/invoke/VarHandle" ∧ (parseMethodDescriptor y.desc).map (fun d => d.parameters.length) = some n) (hR : rm.cells = 0 ∧ rm.slots = 0 ∧ rm.frames + 1 ≤ R0.frames ∧ 8 + (N.2.1 + 11) + rm.locals ≤ R0.locals ∧ kc ≤ R0.cells ∧ ks ≤ R0.slots)
    (hC : is.map (fun i => ws[i]?) = w.map some) (hn : va_nd is = true) (q0 : Nat) {fs : List Value} (hc : classes[ci]? = some C) (hb : w[q0]? = some (b, .inr (ci, fs))) (hd : Nx M pc (.invokevirtual index) 3 pc') (hAs : As.length = n) (hst : st0 = As.reverse ++ .ref b :: st) (hcat : (st.map fun v => v.category).sum ≤ 8) (hws : wput ws is w' = ws') (kk : V g E M A Q kc ks ws' pc' lv st) : V g E M A Q kc ks ws pc lv st0 := by
  refine V_callV (C := C) is n X hM hw hy hR hC hn q0 hc hb hd hAs hst hcat ?_
  rintro _ _ ⟨rfl, rfl⟩
  rw [hws]
  exact kk
theorem V_cSi {l : Launch} {y : MethodName} {N : MS} {rm : Room} {As : List Value} {w w' : va_W} {r : Int32} {index : Nat} {st0 : List Value} {R0 : Room} {A1 : Nat → Prop} {w1 : va_W} {sz1 : Nat} (is : List Nat) (n : Nat) (X : Ev E l R0 A1 w1 sz1) (hM : Cd g l y N rm As w (some (.int r)) w')
    (hw : Cond.methodLink M.2.2.1 index y ∈ wds ∧ Cond.static y ∈ wds ∧ Cond.initialized y.cls ∈ wds ∧ Cond.code y N.1 N.2.1 N.2.2.2 ∈ wds)
    (hy : y.cls ≠ "java/lang/invoke/MethodHandle" ∧ y.cls ≠ "java/lang/invoke/VarHandle" ∧ (parseMethodDescriptor y.desc).map (fun d => d.parameters.length) = some n) (hR : rm.cells = 0 ∧ rm.slots = 0 ∧ rm.frames + 1 ≤ R0.frames ∧ 8 + (N.2.1 + 11) + rm.locals ≤ R0.locals ∧ kc ≤ R0.cells ∧ ks ≤ R0.slots)
    (hC : is.map (fun i => ws[i]?) = w.map some) (hn : va_nd is = true) (hd : Nx M pc (.invokestatic index) 3 pc') (hAs : As.length = n) (hst : st0 = As.reverse ++ st) (hcat : (st.map fun v => v.category).sum ≤ 8) (hws : wput ws is w' = ws') (kk : V g E M A Q kc ks ws' pc' lv (.int r :: st)) : V g E M A Q kc ks ws pc lv st0 := by
  refine V_callS is n X hM hw hy hR hC hn hd hAs hst hcat ?_
  rintro _ _ ⟨rfl, rfl⟩
  rw [hws]
  exact kk
theorem V_cSl {l : Launch} {y : MethodName} {N : MS} {rm : Room} {As : List Value} {w w' : va_W} {r : Int64} {index : Nat} {st0 : List Value} {R0 : Room} {A1 : Nat → Prop} {w1 : va_W} {sz1 : Nat} (is : List Nat) (n : Nat) (X : Ev E l R0 A1 w1 sz1) (hM : Cd g l y N rm As w (some (.long r)) w')
    (hw : Cond.methodLink M.2.2.1 index y ∈ wds ∧ Cond.static y ∈ wds ∧ Cond.initialized y.cls ∈ wds ∧ Cond.code y N.1 N.2.1 N.2.2.2 ∈ wds)
    (hy : y.cls ≠ "java/lang/invoke/MethodHandle" ∧ y.cls ≠ "java/lang/invoke/VarHandle" ∧ (parseMethodDescriptor y.desc).map (fun d => d.parameters.length) = some n) (hR : rm.cells = 0 ∧ rm.slots = 0 ∧ rm.frames + 1 ≤ R0.frames ∧ 8 + (N.2.1 + 11) + rm.locals ≤ R0.locals ∧ kc ≤ R0.cells ∧ ks ≤ R0.slots)
    (hC : is.map (fun i => ws[i]?) = w.map some) (hn : va_nd is = true) (hd : Nx M pc (.invokestatic index) 3 pc') (hAs : As.length = n) (hst : st0 = As.reverse ++ st) (hcat : (st.map fun v => v.category).sum ≤ 8) (hws : wput ws is w' = ws') (kk : V g E M A Q kc ks ws' pc' lv (.long r :: st)) : V g E M A Q kc ks ws pc lv st0 := by
  refine V_callS is n X hM hw hy hR hC hn hd hAs hst hcat ?_
  rintro _ _ ⟨rfl, rfl⟩
  rw [hws]
  exact kk
theorem V_cSv {l : Launch} {y : MethodName} {N : MS} {rm : Room} {As : List Value} {w w' : va_W} {index : Nat} {st0 : List Value} {R0 : Room} {A1 : Nat → Prop} {w1 : va_W} {sz1 : Nat} (is : List Nat) (n : Nat) (X : Ev E l R0 A1 w1 sz1) (hM : Cd g l y N rm As w (none) w')
    (hw : Cond.methodLink M.2.2.1 index y ∈ wds ∧ Cond.static y ∈ wds ∧ Cond.initialized y.cls ∈ wds ∧ Cond.code y N.1 N.2.1 N.2.2.2 ∈ wds)
    (hy : y.cls ≠ "java/lang/invoke/MethodHandle" ∧ y.cls ≠ "java/lang/invoke/VarHandle" ∧ (parseMethodDescriptor y.desc).map (fun d => d.parameters.length) = some n) (hR : rm.cells = 0 ∧ rm.slots = 0 ∧ rm.frames + 1 ≤ R0.frames ∧ 8 + (N.2.1 + 11) + rm.locals ≤ R0.locals ∧ kc ≤ R0.cells ∧ ks ≤ R0.slots)
    (hC : is.map (fun i => ws[i]?) = w.map some) (hn : va_nd is = true) (hd : Nx M pc (.invokestatic index) 3 pc') (hAs : As.length = n) (hst : st0 = As.reverse ++ st) (hcat : (st.map fun v => v.category).sum ≤ 8) (hws : wput ws is w' = ws') (kk : V g E M A Q kc ks ws' pc' lv st) : V g E M A Q kc ks ws pc lv st0 := by
  refine V_callS is n X hM hw hy hR hC hn hd hAs hst hcat ?_
  rintro _ _ ⟨rfl, rfl⟩
  rw [hws]
  exact kk
/-- Math.min, Math.abs -/
theorem V_mmin {index : Nat} {x y v : Int32} {l : Launch} {R0 : Room} {A1 : Nat → Prop} {w1 : va_W} {sz1 : Nat} (X : Ev E l R0 A1 w1 sz1) (hw : Cond.methodLink M.2.2.1 index Lib.Math.min.name ∈ wds ∧ Cond.static Lib.Math.min.name ∈ wds ∧ Cond.initialized "java/lang/Math" ∈ wds ∧ Cond.code Lib.Math.min.name Lib.Math.min.code 2 (some .int) ∈ wds) (hR : 1 ≤ R0.frames ∧ (st.map fun v => v.category).sum + 13 ≤ R0.locals ∧ kc ≤ R0.cells ∧ ks ≤ R0.slots) (hd : Nx M pc (.invokestatic index) 3 pc') (hv : (if y < x then y else x) = v) (kk : V g E M A Q kc ks ws pc' lv (.int v :: st)) : V g E M A Q kc ks ws pc lv (.int y :: .int x :: st) := by
  obtain ⟨hd, rfl⟩ := hd
  obtain ⟨hE, hER, -⟩ := X
  subst hE
  subst hER
  subst hv
  intro B ls H locs hl hP hD hS
  exact va_mmin B.1 B.2.1 (B.2.2.1.trans hl.1.symm) B.2.2.2.1 (B.2.2.2.2.1 _ hw.1) (B.2.2.2.2.1 _ hw.2.1) (B.2.2.2.2.1 _ hw.2.2.1) (B.2.2.2.2.1 _ hw.2.2.2) hR.1 hR.2.1 hR.2.2.1 hR.2.2.2 hd (kk B ls H locs hl hP hD hS)
theorem V_mabs {index : Nat} {x v : Int32} {l : Launch} {R0 : Room} {A1 : Nat → Prop} {w1 : va_W} {sz1 : Nat} (X : Ev E l R0 A1 w1 sz1) (hw : Cond.methodLink M.2.2.1 index Lib.Math.abs.name ∈ wds ∧ Cond.static Lib.Math.abs.name ∈ wds ∧ Cond.initialized "java/lang/Math" ∈ wds ∧ Cond.code Lib.Math.abs.name Lib.Math.abs.code 1 (some .int) ∈ wds) (hR : 1 ≤ R0.frames ∧ (st.map fun v => v.category).sum + 13 ≤ R0.locals ∧ kc ≤ R0.cells ∧ ks ≤ R0.slots) (hd : Nx M pc (.invokestatic index) 3 pc') (hv : (if 0 ≤ x then x else 0 - x) = v) (kk : V g E M A Q kc ks ws pc' lv (.int v :: st)) : V g E M A Q kc ks ws pc lv (.int x :: st) := by
  obtain ⟨hd, rfl⟩ := hd
  obtain ⟨hE, hER, -⟩ := X
  subst hE
  subst hER
  subst hv
  intro B ls H locs hl hP hD hS
  exact va_mabs B.1 B.2.1 (B.2.2.1.trans hl.1.symm) B.2.2.2.1 (B.2.2.2.2.1 _ hw.1) (B.2.2.2.2.1 _ hw.2.1) (B.2.2.2.2.1 _ hw.2.2.1) (B.2.2.2.2.1 _ hw.2.2.2) hR.1 hR.2.1 hR.2.2.1 hR.2.2.2 hd (kk B ls H locs hl hP hD hS)
/-- an array's contents count below its length alone -/
theorem cell_congr (cA : ClassId) (n : Nat) {f f' : Nat → Int32} (h : ∀ j, j < n → f j = f' j) : vp_cell cA (n, .inl f) = vp_cell cA (n, .inl f') := by
  rw [vp_cell_i, vp_cell_i]
  unfold arrV
  congr 1
  congr 1
  funext j
  exact congrArg Value.int (h j.1 j.2)
theorem P_arr {D : va_G} {cl : List vw_C} {ws : va_W} {H : Heap} (hP : va_P D cl ws H) {q0 a n : Nat} {cA : ClassId} {f f' : Nat → Int32} (he : ws[q0]? = some (a, .inl (cA, n, .inl f))) (h : ∀ j, j < n → f j = f' j) : va_P D cl (ws.set q0 (a, .inl (cA, n, .inl f'))) H := by
  intro k q hq
  by_cases hk : k = q0
  · subst hk
    rw [List.getElem?_set_self ((List.getElem?_eq_some_iff.mp he).1)] at hq
    cases hq
    have h1 := hP k _ he
    show H[a]? = some (vp_cell cA (n, .inl f'))
    rw [← cell_congr cA n h]
    exact h1
  · rw [List.getElem?_set_ne (Ne.symm hk)] at hq
    exact hP k q hq
theorem V_arr {a n : Nat} {cA : ClassId} {f f' : Nat → Int32} (q0 : Nat) (he : ws[q0]? = some (a, .inl (cA, n, .inl f))) (h : ∀ j, j < n → f j = f' j) (hw : ws.set q0 (a, .inl (cA, n, .inl f')) = ws') (kk : V g E M A Q kc ks ws' pc lv st) : V g E M A Q kc ks ws pc lv st := by
  intro B ls H locs hl hP hD hS
  subst hw
  exact kk B ls H locs hl (P_arr hP he h) (hD.set he) hS
/-- System.arraycopy of a whole array of ints -/
theorem V_copy {index : Nat} {l : Launch} {R0 : Room} {A1 : Nat → Prop} {w1 : va_W} {sz1 : Nat} {a0 a n : Nat} {f h : Nat → Int32} (q0 q1 : Nat) (X : Ev E l R0 A1 w1 sz1) (hw : Cond.methodLink M.2.2.1 index arraycopyName ∈ wds ∧ Cond.native arraycopyName ∈ wds ∧ Cond.static arraycopyName ∈ wds ∧ Cond.initialized "java/lang/System" ∈ wds) (hR : 1 ≤ R0.frames ∧ (st.map fun v => v.category).sum + (nativeFrameWords "java/lang/System" "arraycopy" 5 + 11) ≤ R0.locals) (hd : Nx M pc (.invokestatic index) 3 pc') (he0 : ws[q0]? = some (a0, .inl (g.2.1, n, .inl f))) (he1 : ws[q1]? = some (a, .inl (g.2.1, n, .inl h))) (hn : n < 2 ^ 31) (hws : ws.set q1 (a, .inl (g.2.1, n, .inl f)) = ws') (kk : V g E M A Q kc ks ws' pc' lv st) : V g E M A Q kc ks ws pc lv (.int (nI n) :: .int (nI 0) :: .ref a :: .int (nI 0) :: .ref a0 :: st) := by
  obtain ⟨hd, rfl⟩ := hd
  obtain ⟨hE, hER, -⟩ := X
  subst hE
  subst hER
  subst hws
  intro B ls H locs hl hP hD hS
  have z0 : (nI 0).toNatClampNeg = 0 := nI_clamp (by decide)
  have zn : (nI n).toNatClampNeg = n := nI_clamp hn
  refine va_copyi B.1 B.2.1 (B.2.2.1.trans hl.1.symm) B.2.2.2.1 (B.2.2.2.2.1 _ hw.1) (B.2.2.2.2.1 _ hw.2.1) (B.2.2.2.2.1 _ hw.2.2.1) (B.2.2.2.2.1 _ hw.2.2.2) B.2.2.2.2.2.2.2.1 hP hD hS q0 q1 0 0 he0 he1 rfl rfl rfl (nI_pos (by decide)) (nI_pos (by decide)) (nI_pos hn) (by rw [z0, zn]; omega) (by rw [z0, zn]; omega) (fun _ _ => rfl) hR.1 hR.2 hd (fun H1 locs1 hP hD hS => ?_)
  rw [z0, zn] at hP hD
  have hlt := (List.getElem?_eq_some_iff.mp he1).1
  have hP2 := P_arr (f' := f) hP (List.getElem?_set_self hlt) (fun j hj => by rw [pk_cpy_in (Nat.zero_le _) (by omega)]; congr 1; omega)
  rw [List.set_set] at hP2
  exact kk B ls H1 locs1 hl hP2 (va_D_addr hD (by rw [List.map_set, List.map_set])) hS
end VCall
end
section
/-! words of the tables by their places; the methods -/
theorem wd_1 {w : Cond} (i : Nat) (h : tables_1_1[i]? = some w) (q : goodWord w = true) : w ∈ wds := wd (List.mem_append_right _ (List.mem_append_left _ (List.mem_of_getElem? h))) q
theorem wd_2 {w : Cond} (i : Nat) (h : tables_1_2[i]? = some w) (q : goodWord w = true) : w ∈ wds := wd (List.mem_append_right _ (List.mem_append_right _ (List.mem_append_left _ (List.mem_of_getElem? h)))) q
theorem wd_3 {w : Cond} (i : Nat) (h : tables_1_3[i]? = some w) (q : goodWord w = true) : w ∈ wds := wd (List.mem_append_right _ (List.mem_append_right _ (List.mem_append_right _ (List.mem_append_left _ (List.mem_of_getElem? h))))) q
theorem wd_4 {w : Cond} (i : Nat) (h : tables_1_4[i]? = some w) (q : goodWord w = true) : w ∈ wds := wd (List.mem_append_right _ (List.mem_append_right _ (List.mem_append_right _ (List.mem_append_right _ (List.mem_of_getElem? h))))) q
theorem iX0 : ∀ w ∈ u_ws RX0 TX0 3, w ∈ wds := by
  have h : (u_ws RX0 TX0 3).all (fun w => decide (w ∈ lw_tbl) && goodWord w) = true := by decide +kernel
  intro w hw
  have h1 := List.all_eq_true.mp h w hw
  simp only [Bool.and_eq_true, decide_eq_true_eq] at h1
  exact wd h1.1 h1.2
theorem iX1 : ∀ w ∈ u_ws RX1 TX1 7, w ∈ wds := by
  have h : (u_ws RX1 TX1 7).all (fun w => decide (w ∈ lw_tbl) && goodWord w) = true := by decide +kernel
  intro w hw
  have h1 := List.all_eq_true.mp h w hw
  simp only [Bool.and_eq_true, decide_eq_true_eq] at h1
  exact wd h1.1 h1.2
theorem iX2 : ∀ w ∈ u_ws RX2 TX2 8, w ∈ wds := by
  have h : (u_ws RX2 TX2 8).all (fun w => decide (w ∈ lw_tbl) && goodWord w) = true := by decide +kernel
  intro w hw
  have h1 := List.all_eq_true.mp h w hw
  simp only [Bool.and_eq_true, decide_eq_true_eq] at h1
  exact wd h1.1 h1.2
theorem iX3 : ∀ w ∈ u_ws RX3 TX3 2, w ∈ wds := by
  have h : (u_ws RX3 TX3 2).all (fun w => decide (w ∈ lw_tbl) && goodWord w) = true := by decide +kernel
  intro w hw
  have h1 := List.all_eq_true.mp h w hw
  simp only [Bool.and_eq_true, decide_eq_true_eq] at h1
  exact wd h1.1 h1.2
theorem iX4 : ∀ w ∈ u_ws RX4 TX4 3, w ∈ wds := by
  have h : (u_ws RX4 TX4 3).all (fun w => decide (w ∈ lw_tbl) && goodWord w) = true := by decide +kernel
  intro w hw
  have h1 := List.all_eq_true.mp h w hw
  simp only [Bool.and_eq_true, decide_eq_true_eq] at h1
  exact wd h1.1 h1.2
theorem iX5 : ∀ w ∈ u_ws RX5 TX5 10, w ∈ wds := by
  have h : (u_ws RX5 TX5 10).all (fun w => decide (w ∈ lw_tbl) && goodWord w) = true := by decide +kernel
  intro w hw
  have h1 := List.all_eq_true.mp h w hw
  simp only [Bool.and_eq_true, decide_eq_true_eq] at h1
  exact wd h1.1 h1.2
theorem iX6 : ∀ w ∈ u_ws RX6 TX6 34, w ∈ wds := by
  have h : (u_ws RX6 TX6 34).all (fun w => decide (w ∈ lw_tbl) && goodWord w) = true := by decide +kernel
  intro w hw
  have h1 := List.all_eq_true.mp h w hw
  simp only [Bool.and_eq_true, decide_eq_true_eq] at h1
  exact wd h1.1 h1.2
theorem in_RL : Cond.initialized RL ∈ wds := wd_1 0 rfl rfl
theorem in_RX5 : Cond.initialized RX5 ∈ wds := wd_1 1 rfl rfl
theorem in_RX3 : Cond.initialized RX3 ∈ wds := wd_1 2 rfl rfl
theorem in_RX2 : Cond.initialized RX2 ∈ wds := wd_1 3 rfl rfl
theorem in_RX1 : Cond.initialized RX1 ∈ wds := wd_1 4 rfl rfl
theorem in_RX0 : Cond.initialized RX0 ∈ wds := wd_1 5 rfl rfl
theorem in_RX4 : Cond.initialized RX4 ∈ wds := wd_1 6 rfl rfl
theorem in_RX6 : Cond.initialized RX6 ∈ wds := wd_1 7 rfl rfl
theorem in_RJ10 : Cond.initialized "java/lang/System" ∈ wds := wd_1 8 rfl rfl
theorem in_RJ9 : Cond.initialized "java/lang/Math" ∈ wds := wd_1 9 rfl rfl
theorem in_RJ6 : Cond.initialized "java/lang/Integer" ∈ wds := wd_1 10 rfl rfl
theorem cl_RL_7 : Cond.classLink RL 7 RX5 ∈ wds := wd_1 11 rfl rfl
theorem ia_RX5 : Cond.instantiable RX5 10 ∈ wds := wd_1 12 rfl rfl
theorem cl_RX5_7 : Cond.classLink RX5 7 RX3 ∈ wds := wd_1 19 rfl rfl
theorem ia_RX3 : Cond.instantiable RX3 2 ∈ wds := wd_1 20 rfl rfl
theorem f_RX3_9 : Cond.fieldLink RX3 9 (TX3 0).1 (TX3 0).2.1 (TX3 0).2.2.1 ∈ wds := wd_1 25 rfl rfl
theorem f_RX2_42 : Cond.fieldLink RX2 42 (TX3 0).1 (TX3 0).2.1 (TX3 0).2.2.1 ∈ wds := wd_1 26 rfl rfl
theorem f_RX3_15 : Cond.fieldLink RX3 15 (TX3 1).1 (TX3 1).2.1 (TX3 1).2.2.1 ∈ wds := wd_1 27 rfl rfl
theorem f_RX2_37 : Cond.fieldLink RX2 37 (TX3 1).1 (TX3 1).2.1 (TX3 1).2.2.1 ∈ wds := wd_1 28 rfl rfl
theorem f_RX5_65 : Cond.fieldLink RX5 65 (TX3 1).1 (TX3 1).2.1 (TX3 1).2.2.1 ∈ wds := wd_1 29 rfl rfl
theorem cl_RX5_16 : Cond.classLink RX5 16 RX2 ∈ wds := wd_1 36 rfl rfl
theorem ia_RX2 : Cond.instantiable RX2 8 ∈ wds := wd_1 37 rfl rfl
theorem f_RX2_9 : Cond.fieldLink RX2 9 (TX2 0).1 (TX2 0).2.1 (TX2 0).2.2.1 ∈ wds := wd_1 42 rfl rfl
theorem f_RX5_120 : Cond.fieldLink RX5 120 (TX2 0).1 (TX2 0).2.1 (TX2 0).2.2.1 ∈ wds := wd_1 43 rfl rfl
theorem f_RX1_91 : Cond.fieldLink RX1 91 (TX2 0).1 (TX2 0).2.1 (TX2 0).2.2.1 ∈ wds := wd_1 44 rfl rfl
theorem f_RX2_15 : Cond.fieldLink RX2 15 (TX2 1).1 (TX2 1).2.1 (TX2 1).2.2.1 ∈ wds := wd_1 45 rfl rfl
theorem f_RX1_40 : Cond.fieldLink RX1 40 (TX2 1).1 (TX2 1).2.1 (TX2 1).2.2.1 ∈ wds := wd_1 46 rfl rfl
theorem f_RX5_123 : Cond.fieldLink RX5 123 (TX2 1).1 (TX2 1).2.1 (TX2 1).2.2.1 ∈ wds := wd_1 47 rfl rfl
theorem f_RX2_18 : Cond.fieldLink RX2 18 (TX2 2).1 (TX2 2).2.1 (TX2 2).2.2.1 ∈ wds := wd_1 48 rfl rfl
theorem f_RX5_126 : Cond.fieldLink RX5 126 (TX2 2).1 (TX2 2).2.1 (TX2 2).2.2.1 ∈ wds := wd_1 49 rfl rfl
theorem f_RX1_60 : Cond.fieldLink RX1 60 (TX2 2).1 (TX2 2).2.1 (TX2 2).2.2.1 ∈ wds := wd_1 50 rfl rfl
theorem f_RX2_21 : Cond.fieldLink RX2 21 (TX2 3).1 (TX2 3).2.1 (TX2 3).2.2.1 ∈ wds := wd_1 51 rfl rfl
theorem f_RX5_141 : Cond.fieldLink RX5 141 (TX2 3).1 (TX2 3).2.1 (TX2 3).2.2.1 ∈ wds := wd_1 52 rfl rfl
theorem f_RX1_85 : Cond.fieldLink RX1 85 (TX2 3).1 (TX2 3).2.1 (TX2 3).2.2.1 ∈ wds := wd_1 53 rfl rfl
theorem f_RX2_24 : Cond.fieldLink RX2 24 (TX2 4).1 (TX2 4).2.1 (TX2 4).2.2.1 ∈ wds := wd_1 54 rfl rfl
theorem f_RX5_144 : Cond.fieldLink RX5 144 (TX2 4).1 (TX2 4).2.1 (TX2 4).2.2.1 ∈ wds := wd_1 55 rfl rfl
theorem f_RX1_78 : Cond.fieldLink RX1 78 (TX2 4).1 (TX2 4).2.1 (TX2 4).2.2.1 ∈ wds := wd_1 56 rfl rfl
theorem f_RX2_27 : Cond.fieldLink RX2 27 (TX2 5).1 (TX2 5).2.1 (TX2 5).2.2.1 ∈ wds := wd_1 57 rfl rfl
theorem f_RX5_147 : Cond.fieldLink RX5 147 (TX2 5).1 (TX2 5).2.1 (TX2 5).2.2.1 ∈ wds := wd_1 58 rfl rfl
theorem f_RX1_67 : Cond.fieldLink RX1 67 (TX2 5).1 (TX2 5).2.1 (TX2 5).2.2.1 ∈ wds := wd_1 59 rfl rfl
theorem f_RX2_30 : Cond.fieldLink RX2 30 (TX2 6).1 (TX2 6).2.1 (TX2 6).2.2.1 ∈ wds := wd_1 60 rfl rfl
theorem f_RX1_35 : Cond.fieldLink RX1 35 (TX2 6).1 (TX2 6).2.1 (TX2 6).2.2.1 ∈ wds := wd_1 61 rfl rfl
theorem f_RX5_87 : Cond.fieldLink RX5 87 (TX2 6).1 (TX2 6).2.1 (TX2 6).2.2.1 ∈ wds := wd_1 62 rfl rfl
theorem f_RX2_34 : Cond.fieldLink RX2 34 (TX2 7).1 (TX2 7).2.1 (TX2 7).2.2.1 ∈ wds := wd_1 63 rfl rfl
theorem f_RX5_90 : Cond.fieldLink RX5 90 (TX2 7).1 (TX2 7).2.1 (TX2 7).2.2.1 ∈ wds := wd_1 64 rfl rfl
theorem f_RX1_53 : Cond.fieldLink RX1 53 (TX2 7).1 (TX2 7).2.1 (TX2 7).2.2.1 ∈ wds := wd_1 65 rfl rfl
theorem cl_RX5_23 : Cond.classLink RX5 23 RX1 ∈ wds := wd_1 83 rfl rfl
theorem ia_RX1 : Cond.instantiable RX1 7 ∈ wds := wd_1 84 rfl rfl
theorem f_RX1_9 : Cond.fieldLink RX1 9 (TX1 0).1 (TX1 0).2.1 (TX1 0).2.2.1 ∈ wds := wd_1 89 rfl rfl
theorem f_RX1_15 : Cond.fieldLink RX1 15 (TX1 1).1 (TX1 1).2.1 (TX1 1).2.2.1 ∈ wds := wd_1 90 rfl rfl
theorem f_RX5_129 : Cond.fieldLink RX5 129 (TX1 1).1 (TX1 1).2.1 (TX1 1).2.2.1 ∈ wds := wd_1 91 rfl rfl
theorem f_RX1_19 : Cond.fieldLink RX1 19 (TX1 2).1 (TX1 2).2.1 (TX1 2).2.2.1 ∈ wds := wd_1 92 rfl rfl
theorem f_RX5_132 : Cond.fieldLink RX5 132 (TX1 2).1 (TX1 2).2.1 (TX1 2).2.2.1 ∈ wds := wd_1 93 rfl rfl
theorem f_RX1_22 : Cond.fieldLink RX1 22 (TX1 3).1 (TX1 3).2.1 (TX1 3).2.2.1 ∈ wds := wd_1 94 rfl rfl
theorem f_RX1_25 : Cond.fieldLink RX1 25 (TX1 4).1 (TX1 4).2.1 (TX1 4).2.2.1 ∈ wds := wd_1 95 rfl rfl
theorem f_RX5_93 : Cond.fieldLink RX5 93 (TX1 4).1 (TX1 4).2.1 (TX1 4).2.2.1 ∈ wds := wd_1 96 rfl rfl
theorem f_RX1_29 : Cond.fieldLink RX1 29 (TX1 5).1 (TX1 5).2.1 (TX1 5).2.2.1 ∈ wds := wd_1 97 rfl rfl
theorem f_RX5_153 : Cond.fieldLink RX5 153 (TX1 5).1 (TX1 5).2.1 (TX1 5).2.2.1 ∈ wds := wd_1 98 rfl rfl
theorem f_RX1_32 : Cond.fieldLink RX1 32 (TX1 6).1 (TX1 6).2.1 (TX1 6).2.2.1 ∈ wds := wd_1 99 rfl rfl
theorem f_RX5_156 : Cond.fieldLink RX5 156 (TX1 6).1 (TX1 6).2.1 (TX1 6).2.2.1 ∈ wds := wd_1 100 rfl rfl
theorem cl_RX5_35 : Cond.classLink RX5 35 RX0 ∈ wds := wd_1 116 rfl rfl
theorem ia_RX0 : Cond.instantiable RX0 3 ∈ wds := wd_1 117 rfl rfl
theorem cl_RX0_9 : Cond.classLink RX0 9 RX1 ∈ wds := wd_1 122 rfl rfl
theorem f_RX0_11 : Cond.fieldLink RX0 11 (TX0 0).1 (TX0 0).2.1 (TX0 0).2.2.1 ∈ wds := wd_1 125 rfl rfl
theorem f_RX0_20 : Cond.fieldLink RX0 20 (TX0 1).1 (TX0 1).2.1 (TX0 1).2.2.1 ∈ wds := wd_1 126 rfl rfl
theorem f_RX0_24 : Cond.fieldLink RX0 24 (TX0 2).1 (TX0 2).2.1 (TX0 2).2.2.1 ∈ wds := wd_1 127 rfl rfl
theorem f_RX5_84 : Cond.fieldLink RX5 84 (TX0 2).1 (TX0 2).2.1 (TX0 2).2.2.1 ∈ wds := wd_1 128 rfl rfl
theorem cl_RX5_42 : Cond.classLink RX5 42 RX4 ∈ wds := wd_1 136 rfl rfl
theorem ia_RX4 : Cond.instantiable RX4 3 ∈ wds := wd_1 137 rfl rfl
theorem f_RX4_9 : Cond.fieldLink RX4 9 (TX4 0).1 (TX4 0).2.1 (TX4 0).2.2.1 ∈ wds := wd_1 142 rfl rfl
theorem f_RX4_15 : Cond.fieldLink RX4 15 (TX4 1).1 (TX4 1).2.1 (TX4 1).2.2.1 ∈ wds := wd_1 143 rfl rfl
theorem f_RX4_19 : Cond.fieldLink RX4 19 (TX4 2).1 (TX4 2).2.1 (TX4 2).2.2.1 ∈ wds := wd_1 144 rfl rfl
theorem f_RX5_115 : Cond.fieldLink RX5 115 (TX4 2).1 (TX4 2).2.1 (TX4 2).2.2.1 ∈ wds := wd_1 145 rfl rfl
theorem f_RX5_10 : Cond.fieldLink RX5 10 (TX5 0).1 (TX5 0).2.1 (TX5 0).2.2.1 ∈ wds := wd_1 154 rfl rfl
theorem f_RX5_19 : Cond.fieldLink RX5 19 (TX5 1).1 (TX5 1).2.1 (TX5 1).2.2.1 ∈ wds := wd_1 155 rfl rfl
theorem f_RX5_28 : Cond.fieldLink RX5 28 (TX5 2).1 (TX5 2).2.1 (TX5 2).2.2.1 ∈ wds := wd_1 156 rfl rfl
theorem f_RX5_32 : Cond.fieldLink RX5 32 (TX5 3).1 (TX5 3).2.1 (TX5 3).2.2.1 ∈ wds := wd_1 157 rfl rfl
theorem f_RX5_38 : Cond.fieldLink RX5 38 (TX5 4).1 (TX5 4).2.1 (TX5 4).2.2.1 ∈ wds := wd_1 158 rfl rfl
theorem f_RX5_45 : Cond.fieldLink RX5 45 (TX5 5).1 (TX5 5).2.1 (TX5 5).2.2.1 ∈ wds := wd_1 159 rfl rfl
theorem f_RX5_49 : Cond.fieldLink RX5 49 (TX5 6).1 (TX5 6).2.1 (TX5 6).2.2.1 ∈ wds := wd_1 160 rfl rfl
theorem f_RX5_53 : Cond.fieldLink RX5 53 (TX5 7).1 (TX5 7).2.1 (TX5 7).2.2.1 ∈ wds := wd_1 161 rfl rfl
theorem f_RX5_57 : Cond.fieldLink RX5 57 (TX5 8).1 (TX5 8).2.1 (TX5 8).2.2.1 ∈ wds := wd_1 162 rfl rfl
theorem f_RX5_61 : Cond.fieldLink RX5 61 (TX5 9).1 (TX5 9).2.1 (TX5 9).2.2.1 ∈ wds := wd_1 163 rfl rfl
theorem ct_RJ6_265 : Cond.constant RJ6 265 (1431655765) ∈ wds := wd_2 144 rfl rfl
theorem ct_RJ6_266 : Cond.constant RJ6 266 (858993459) ∈ wds := wd_2 145 rfl rfl
theorem ct_RJ6_267 : Cond.constant RJ6 267 (252645135) ∈ wds := wd_2 146 rfl rfl
theorem ct_RX5_202 : Cond.constantLong RX5 202 (1000) ∈ wds := wd_2 168 rfl rfl
theorem ct_RX5_233 : Cond.constantLong RX5 233 (10) ∈ wds := wd_2 223 rfl rfl
theorem ct_RX5_235 : Cond.constantLong RX5 235 (6364136223846793005) ∈ wds := wd_2 232 rfl rfl
theorem ct_RX5_237 : Cond.constantLong RX5 237 (1442695040888963407) ∈ wds := wd_2 233 rfl rfl
theorem ct_RX5_239 : Cond.constantLong RX5 239 (28) ∈ wds := wd_2 234 rfl rfl
theorem cl_RL_10 : Cond.classLink RL 10 RX6 ∈ wds := wd_3 7 rfl rfl
theorem ia_RX6 : Cond.instantiable RX6 34 ∈ wds := wd_3 8 rfl rfl
theorem f_RX6_68 : Cond.fieldLink RX6 68 (TX6 0).1 (TX6 0).2.1 (TX6 0).2.2.1 ∈ wds := wd_3 13 rfl rfl
theorem f_RX6_7 : Cond.fieldLink RX6 7 (TX6 1).1 (TX6 1).2.1 (TX6 1).2.2.1 ∈ wds := wd_3 14 rfl rfl
theorem f_RX6_84 : Cond.fieldLink RX6 84 (TX6 2).1 (TX6 2).2.1 (TX6 2).2.2.1 ∈ wds := wd_3 15 rfl rfl
theorem f_RX6_87 : Cond.fieldLink RX6 87 (TX6 3).1 (TX6 3).2.1 (TX6 3).2.2.1 ∈ wds := wd_3 16 rfl rfl
theorem f_RX6_72 : Cond.fieldLink RX6 72 (TX6 4).1 (TX6 4).2.1 (TX6 4).2.2.1 ∈ wds := wd_3 17 rfl rfl
theorem f_RX6_13 : Cond.fieldLink RX6 13 (TX6 5).1 (TX6 5).2.1 (TX6 5).2.2.1 ∈ wds := wd_3 18 rfl rfl
theorem f_RX6_16 : Cond.fieldLink RX6 16 (TX6 6).1 (TX6 6).2.1 (TX6 6).2.2.1 ∈ wds := wd_3 19 rfl rfl
theorem f_RX6_19 : Cond.fieldLink RX6 19 (TX6 7).1 (TX6 7).2.1 (TX6 7).2.2.1 ∈ wds := wd_3 20 rfl rfl
theorem f_RX6_79 : Cond.fieldLink RX6 79 (TX6 8).1 (TX6 8).2.1 (TX6 8).2.2.1 ∈ wds := wd_3 21 rfl rfl
theorem f_RX6_22 : Cond.fieldLink RX6 22 (TX6 9).1 (TX6 9).2.1 (TX6 9).2.2.1 ∈ wds := wd_3 22 rfl rfl
theorem f_RX6_25 : Cond.fieldLink RX6 25 (TX6 10).1 (TX6 10).2.1 (TX6 10).2.2.1 ∈ wds := wd_3 23 rfl rfl
theorem f_RX6_28 : Cond.fieldLink RX6 28 (TX6 11).1 (TX6 11).2.1 (TX6 11).2.2.1 ∈ wds := wd_3 24 rfl rfl
theorem f_RX6_94 : Cond.fieldLink RX6 94 (TX6 12).1 (TX6 12).2.1 (TX6 12).2.2.1 ∈ wds := wd_3 25 rfl rfl
theorem f_RX6_31 : Cond.fieldLink RX6 31 (TX6 13).1 (TX6 13).2.1 (TX6 13).2.2.1 ∈ wds := wd_3 26 rfl rfl
theorem f_RX6_97 : Cond.fieldLink RX6 97 (TX6 14).1 (TX6 14).2.1 (TX6 14).2.2.1 ∈ wds := wd_3 27 rfl rfl
theorem f_RX6_34 : Cond.fieldLink RX6 34 (TX6 15).1 (TX6 15).2.1 (TX6 15).2.2.1 ∈ wds := wd_3 28 rfl rfl
theorem f_RX6_37 : Cond.fieldLink RX6 37 (TX6 16).1 (TX6 16).2.1 (TX6 16).2.2.1 ∈ wds := wd_3 29 rfl rfl
theorem f_RX6_40 : Cond.fieldLink RX6 40 (TX6 17).1 (TX6 17).2.1 (TX6 17).2.2.1 ∈ wds := wd_3 30 rfl rfl
theorem f_RX6_43 : Cond.fieldLink RX6 43 (TX6 18).1 (TX6 18).2.1 (TX6 18).2.2.1 ∈ wds := wd_3 31 rfl rfl
theorem f_RX6_114 : Cond.fieldLink RX6 114 (TX6 19).1 (TX6 19).2.1 (TX6 19).2.2.1 ∈ wds := wd_3 32 rfl rfl
theorem f_RX6_46 : Cond.fieldLink RX6 46 (TX6 20).1 (TX6 20).2.1 (TX6 20).2.2.1 ∈ wds := wd_3 33 rfl rfl
theorem f_RX6_49 : Cond.fieldLink RX6 49 (TX6 21).1 (TX6 21).2.1 (TX6 21).2.2.1 ∈ wds := wd_3 34 rfl rfl
theorem f_RX6_164 : Cond.fieldLink RX6 164 (TX6 22).1 (TX6 22).2.1 (TX6 22).2.2.1 ∈ wds := wd_3 35 rfl rfl
theorem f_RX6_53 : Cond.fieldLink RX6 53 (TX6 23).1 (TX6 23).2.1 (TX6 23).2.2.1 ∈ wds := wd_3 36 rfl rfl
theorem f_RX6_56 : Cond.fieldLink RX6 56 (TX6 24).1 (TX6 24).2.1 (TX6 24).2.2.1 ∈ wds := wd_3 37 rfl rfl
theorem f_RX6_243 : Cond.fieldLink RX6 243 (TX6 25).1 (TX6 25).2.1 (TX6 25).2.2.1 ∈ wds := wd_3 38 rfl rfl
theorem f_RX6_124 : Cond.fieldLink RX6 124 (TX6 26).1 (TX6 26).2.1 (TX6 26).2.2.1 ∈ wds := wd_3 39 rfl rfl
theorem f_RX6_59 : Cond.fieldLink RX6 59 (TX6 27).1 (TX6 27).2.1 (TX6 27).2.2.1 ∈ wds := wd_3 40 rfl rfl
theorem f_RX6_226 : Cond.fieldLink RX6 226 (TX6 28).1 (TX6 28).2.1 (TX6 28).2.2.1 ∈ wds := wd_3 41 rfl rfl
theorem f_RX6_229 : Cond.fieldLink RX6 229 (TX6 29).1 (TX6 29).2.1 (TX6 29).2.2.1 ∈ wds := wd_3 42 rfl rfl
theorem f_RX6_232 : Cond.fieldLink RX6 232 (TX6 30).1 (TX6 30).2.1 (TX6 30).2.2.1 ∈ wds := wd_3 43 rfl rfl
theorem f_RX6_235 : Cond.fieldLink RX6 235 (TX6 31).1 (TX6 31).2.1 (TX6 31).2.2.1 ∈ wds := wd_3 44 rfl rfl
theorem f_RX6_62 : Cond.fieldLink RX6 62 (TX6 32).1 (TX6 32).2.1 (TX6 32).2.2.1 ∈ wds := wd_3 45 rfl rfl
theorem f_RX6_65 : Cond.fieldLink RX6 65 (TX6 33).1 (TX6 33).2.1 (TX6 33).2.2.1 ∈ wds := wd_3 46 rfl rfl
theorem ct_RX6_82 : Cond.constantLong RX6 82 (255) ∈ wds := wd_3 120 rfl rfl
theorem ct_RX6_194 : Cond.constantLong RX6 194 (9) ∈ wds := wd_4 34 rfl rfl
theorem ct_RX6_205 : Cond.constantLong RX6 205 (4) ∈ wds := wd_4 54 rfl rfl
theorem ct_RX6_207 : Cond.constantLong RX6 207 (1000) ∈ wds := wd_4 55 rfl rfl
theorem ct_RX6_238 : Cond.constantLong RX6 238 (10) ∈ wds := wd_4 100 rfl rfl
theorem ct_RX6_247 : Cond.constantLong RX6 247 (30) ∈ wds := wd_4 112 rfl rfl
theorem ct_RX6_249 : Cond.constantLong RX6 249 (6364136223846793005) ∈ wds := wd_4 113 rfl rfl
theorem ct_RX6_251 : Cond.constantLong RX6 251 (1442695040888963407) ∈ wds := wd_4 114 rfl rfl
theorem ct_RX6_253 : Cond.constantLong RX6 253 (28) ∈ wds := wd_4 115 rfl rfl
theorem ct_RL_81 : Cond.constantLong RL 81 (4294967295) ∈ wds := wd_4 124 rfl rfl
theorem ac_I : Cond.arrayClass .int ∈ wds := wd_1 35 rfl rfl
theorem ac_Z : Cond.arrayClass .boolean ∈ wds := wd_1 153 rfl rfl
abbrev mX5_init : MS := (cX5_init, 2, RX5, none)
theorem cd_X5_init : Cond.code yX5_init cX5_init 2 none ∈ wds := wd_1 15 rfl rfl
theorem hy_X5_init : yX5_init.cls = RX5 ∧ yX5_init.cls ≠ "java/lang/invoke/MethodHandle" ∧ yX5_init.cls ≠ "java/lang/invoke/VarHandle" ∧ (parseMethodDescriptor yX5_init.desc).map (fun d => d.parameters.length) = some 0 := ⟨rfl, by decide +kernel, by decide +kernel, by decide +kernel⟩
abbrev mX3_init : MS := (cX3_init, 1, RX3, none)
theorem cd_X3_init : Cond.code yX3_init cX3_init 1 none ∈ wds := wd_1 23 rfl rfl
theorem hy_X3_init : yX3_init.cls = RX3 ∧ yX3_init.cls ≠ "java/lang/invoke/MethodHandle" ∧ yX3_init.cls ≠ "java/lang/invoke/VarHandle" ∧ (parseMethodDescriptor yX3_init.desc).map (fun d => d.parameters.length) = some 0 := ⟨rfl, by decide +kernel, by decide +kernel, by decide +kernel⟩
abbrev mX2_init : MS := (cX2_init, 1, RX2, none)
theorem cd_X2_init : Cond.code yX2_init cX2_init 1 none ∈ wds := wd_1 40 rfl rfl
theorem hy_X2_init : yX2_init.cls = RX2 ∧ yX2_init.cls ≠ "java/lang/invoke/MethodHandle" ∧ yX2_init.cls ≠ "java/lang/invoke/VarHandle" ∧ (parseMethodDescriptor yX2_init.desc).map (fun d => d.parameters.length) = some 0 := ⟨rfl, by decide +kernel, by decide +kernel, by decide +kernel⟩
abbrev mX1_init : MS := (cX1_init, 2, RX1, none)
theorem cd_X1_init : Cond.code yX1_init cX1_init 2 none ∈ wds := wd_1 87 rfl rfl
theorem hy_X1_init : yX1_init.cls = RX1 ∧ yX1_init.cls ≠ "java/lang/invoke/MethodHandle" ∧ yX1_init.cls ≠ "java/lang/invoke/VarHandle" ∧ (parseMethodDescriptor yX1_init.desc).map (fun d => d.parameters.length) = some 1 := ⟨rfl, by decide +kernel, by decide +kernel, by decide +kernel⟩
abbrev mX0_init : MS := (cX0_init, 3, RX0, none)
theorem cd_X0_init : Cond.code yX0_init cX0_init 3 none ∈ wds := wd_1 120 rfl rfl
theorem hy_X0_init : yX0_init.cls = RX0 ∧ yX0_init.cls ≠ "java/lang/invoke/MethodHandle" ∧ yX0_init.cls ≠ "java/lang/invoke/VarHandle" ∧ (parseMethodDescriptor yX0_init.desc).map (fun d => d.parameters.length) = some 1 := ⟨rfl, by decide +kernel, by decide +kernel, by decide +kernel⟩
abbrev mX4_init : MS := (cX4_init, 1, RX4, none)
theorem cd_X4_init : Cond.code yX4_init cX4_init 1 none ∈ wds := wd_1 140 rfl rfl
theorem hy_X4_init : yX4_init.cls = RX4 ∧ yX4_init.cls ≠ "java/lang/invoke/MethodHandle" ∧ yX4_init.cls ≠ "java/lang/invoke/VarHandle" ∧ (parseMethodDescriptor yX4_init.desc).map (fun d => d.parameters.length) = some 0 := ⟨rfl, by decide +kernel, by decide +kernel, by decide +kernel⟩
abbrev mX5_write : MS := (cX5_write, 2, RX5, (some .int))
theorem cd_X5_write : Cond.code yX5_write cX5_write 2 (some .int) ∈ wds := wd_1 188 rfl rfl
theorem hy_X5_write : yX5_write.cls = RX5 ∧ yX5_write.cls ≠ "java/lang/invoke/MethodHandle" ∧ yX5_write.cls ≠ "java/lang/invoke/VarHandle" ∧ (parseMethodDescriptor yX5_write.desc).map (fun d => d.parameters.length) = some 1 := ⟨rfl, by decide +kernel, by decide +kernel, by decide +kernel⟩
abbrev mX3_append : MS := (cX3_append, 2, RX3, none)
theorem cd_X3_append : Cond.code yX3_append cX3_append 2 none ∈ wds := wd_1 192 rfl rfl
theorem hy_X3_append : yX3_append.cls = RX3 ∧ yX3_append.cls ≠ "java/lang/invoke/MethodHandle" ∧ yX3_append.cls ≠ "java/lang/invoke/VarHandle" ∧ (parseMethodDescriptor yX3_append.desc).map (fun d => d.parameters.length) = some 1 := ⟨rfl, by decide +kernel, by decide +kernel, by decide +kernel⟩
abbrev mX5_wipe : MS := (cX5_wipe, 2, RX5, (some .int))
theorem cd_X5_wipe : Cond.code yX5_wipe cX5_wipe 2 (some .int) ∈ wds := wd_1 196 rfl rfl
theorem hy_X5_wipe : yX5_wipe.cls = RX5 ∧ yX5_wipe.cls ≠ "java/lang/invoke/MethodHandle" ∧ yX5_wipe.cls ≠ "java/lang/invoke/VarHandle" ∧ (parseMethodDescriptor yX5_wipe.desc).map (fun d => d.parameters.length) = some 0 := ⟨rfl, by decide +kernel, by decide +kernel, by decide +kernel⟩
abbrev mX5_fault : MS := (cX5_fault, 1, RX5, (some .int))
theorem cd_X5_fault : Cond.code yX5_fault cX5_fault 1 (some .int) ∈ wds := wd_1 200 rfl rfl
theorem hy_X5_fault : yX5_fault.cls = RX5 ∧ yX5_fault.cls ≠ "java/lang/invoke/MethodHandle" ∧ yX5_fault.cls ≠ "java/lang/invoke/VarHandle" ∧ (parseMethodDescriptor yX5_fault.desc).map (fun d => d.parameters.length) = some 0 := ⟨rfl, by decide +kernel, by decide +kernel, by decide +kernel⟩
abbrev mX3_firstFault : MS := (cX3_firstFault, 6, RX3, (some .int))
theorem cd_X3_firstFault : Cond.code yX3_firstFault cX3_firstFault 6 (some .int) ∈ wds := wd_1 204 rfl rfl
theorem hy_X3_firstFault : yX3_firstFault.cls = RX3 ∧ yX3_firstFault.cls ≠ "java/lang/invoke/MethodHandle" ∧ yX3_firstFault.cls ≠ "java/lang/invoke/VarHandle" ∧ (parseMethodDescriptor yX3_firstFault.desc).map (fun d => d.parameters.length) = some 0 := ⟨rfl, by decide +kernel, by decide +kernel, by decide +kernel⟩
abbrev mX3_faultOfThing : MS := (cX3_faultOfThing, 7, RX3, (some .int))
theorem cd_X3_faultOfThing : Cond.code yX3_faultOfThing cX3_faultOfThing 7 (some .int) ∈ wds := wd_1 208 rfl rfl
theorem hy_X3_faultOfThing : yX3_faultOfThing.cls = RX3 ∧ yX3_faultOfThing.cls ≠ "java/lang/invoke/MethodHandle" ∧ yX3_faultOfThing.cls ≠ "java/lang/invoke/VarHandle" ∧ (parseMethodDescriptor yX3_faultOfThing.desc).map (fun d => d.parameters.length) = some 2 := ⟨rfl, by decide +kernel, by decide +kernel, by decide +kernel⟩
abbrev mX5_country : MS := (cX5_country, 2, RX5, (some .int))
theorem cd_X5_country : Cond.code yX5_country cX5_country 2 (some .int) ∈ wds := wd_1 212 rfl rfl
theorem hy_X5_country : yX5_country.cls = RX5 ∧ yX5_country.cls ≠ "java/lang/invoke/MethodHandle" ∧ yX5_country.cls ≠ "java/lang/invoke/VarHandle" ∧ (parseMethodDescriptor yX5_country.desc).map (fun d => d.parameters.length) = some 0 := ⟨rfl, by decide +kernel, by decide +kernel, by decide +kernel⟩
abbrev mX2_readFrom : MS := (cX2_readFrom, 3, RX2, none)
theorem cd_X2_readFrom : Cond.code yX2_readFrom cX2_readFrom 3 none ∈ wds := wd_1 216 rfl rfl
theorem hy_X2_readFrom : yX2_readFrom.cls = RX2 ∧ yX2_readFrom.cls ≠ "java/lang/invoke/MethodHandle" ∧ yX2_readFrom.cls ≠ "java/lang/invoke/VarHandle" ∧ (parseMethodDescriptor yX2_readFrom.desc).map (fun d => d.parameters.length) = some 1 := ⟨rfl, by decide +kernel, by decide +kernel, by decide +kernel⟩
abbrev mX2_addField : MS := (cX2_addField, 3, RX2, none)
theorem cd_X2_addField : Cond.code yX2_addField cX2_addField 3 none ∈ wds := wd_1 220 rfl rfl
theorem hy_X2_addField : yX2_addField.cls = RX2 ∧ yX2_addField.cls ≠ "java/lang/invoke/MethodHandle" ∧ yX2_addField.cls ≠ "java/lang/invoke/VarHandle" ∧ (parseMethodDescriptor yX2_addField.desc).map (fun d => d.parameters.length) = some 2 := ⟨rfl, by decide +kernel, by decide +kernel, by decide +kernel⟩
abbrev mX3_figure : MS := (cX3_figure, 2, RX3, (some .int))
theorem cd_X3_figure : Cond.code yX3_figure cX3_figure 2 (some .int) ∈ wds := wd_1 224 rfl rfl
theorem hy_X3_figure : yX3_figure.cls = RX3 ∧ yX3_figure.cls ≠ "java/lang/invoke/MethodHandle" ∧ yX3_figure.cls ≠ "java/lang/invoke/VarHandle" ∧ (parseMethodDescriptor yX3_figure.desc).map (fun d => d.parameters.length) = some 1 := ⟨rfl, by decide +kernel, by decide +kernel, by decide +kernel⟩
abbrev mX2_addEater : MS := (cX2_addEater, 3, RX2, none)
theorem cd_X2_addEater : Cond.code yX2_addEater cX2_addEater 3 none ∈ wds := wd_1 228 rfl rfl
theorem hy_X2_addEater : yX2_addEater.cls = RX2 ∧ yX2_addEater.cls ≠ "java/lang/invoke/MethodHandle" ∧ yX2_addEater.cls ≠ "java/lang/invoke/VarHandle" ∧ (parseMethodDescriptor yX2_addEater.desc).map (fun d => d.parameters.length) = some 2 := ⟨rfl, by decide +kernel, by decide +kernel, by decide +kernel⟩
abbrev mX1_beginAnew : MS := (cX1_beginAnew, 2, RX1, none)
theorem cd_X1_beginAnew : Cond.code yX1_beginAnew cX1_beginAnew 2 none ∈ wds := wd_1 232 rfl rfl
theorem hy_X1_beginAnew : yX1_beginAnew.cls = RX1 ∧ yX1_beginAnew.cls ≠ "java/lang/invoke/MethodHandle" ∧ yX1_beginAnew.cls ≠ "java/lang/invoke/VarHandle" ∧ (parseMethodDescriptor yX1_beginAnew.desc).map (fun d => d.parameters.length) = some 0 := ⟨rfl, by decide +kernel, by decide +kernel, by decide +kernel⟩
abbrev mX5_about : MS := (cX5_about, 2, RX5, (some .int))
theorem cd_X5_about : Cond.code yX5_about cX5_about 2 (some .int) ∈ wds := wd_1 236 rfl rfl
theorem hy_X5_about : yX5_about.cls = RX5 ∧ yX5_about.cls ≠ "java/lang/invoke/MethodHandle" ∧ yX5_about.cls ≠ "java/lang/invoke/VarHandle" ∧ (parseMethodDescriptor yX5_about.desc).map (fun d => d.parameters.length) = some 1 := ⟨rfl, by decide +kernel, by decide +kernel, by decide +kernel⟩
abbrev mX1_allLoaves : MS := (cX1_allLoaves, 3, RX1, (some .int))
theorem cd_X1_allLoaves : Cond.code yX1_allLoaves cX1_allLoaves 3 (some .int) ∈ wds := wd_2 0 rfl rfl
theorem hy_X1_allLoaves : yX1_allLoaves.cls = RX1 ∧ yX1_allLoaves.cls ≠ "java/lang/invoke/MethodHandle" ∧ yX1_allLoaves.cls ≠ "java/lang/invoke/VarHandle" ∧ (parseMethodDescriptor yX1_allLoaves.desc).map (fun d => d.parameters.length) = some 0 := ⟨rfl, by decide +kernel, by decide +kernel, by decide +kernel⟩
abbrev mX1_allSeed : MS := (cX1_allSeed, 3, RX1, (some .int))
theorem cd_X1_allSeed : Cond.code yX1_allSeed cX1_allSeed 3 (some .int) ∈ wds := wd_2 4 rfl rfl
theorem hy_X1_allSeed : yX1_allSeed.cls = RX1 ∧ yX1_allSeed.cls ≠ "java/lang/invoke/MethodHandle" ∧ yX1_allSeed.cls ≠ "java/lang/invoke/VarHandle" ∧ (parseMethodDescriptor yX1_allSeed.desc).map (fun d => d.parameters.length) = some 0 := ⟨rfl, by decide +kernel, by decide +kernel, by decide +kernel⟩
abbrev mX1_allDebts : MS := (cX1_allDebts, 3, RX1, (some .int))
theorem cd_X1_allDebts : Cond.code yX1_allDebts cX1_allDebts 3 (some .int) ∈ wds := wd_2 8 rfl rfl
theorem hy_X1_allDebts : yX1_allDebts.cls = RX1 ∧ yX1_allDebts.cls ≠ "java/lang/invoke/MethodHandle" ∧ yX1_allDebts.cls ≠ "java/lang/invoke/VarHandle" ∧ (parseMethodDescriptor yX1_allDebts.desc).map (fun d => d.parameters.length) = some 0 := ⟨rfl, by decide +kernel, by decide +kernel, by decide +kernel⟩
abbrev mX1_debtsOf : MS := (cX1_debtsOf, 4, RX1, (some .int))
theorem cd_X1_debtsOf : Cond.code yX1_debtsOf cX1_debtsOf 4 (some .int) ∈ wds := wd_2 12 rfl rfl
theorem hy_X1_debtsOf : yX1_debtsOf.cls = RX1 ∧ yX1_debtsOf.cls ≠ "java/lang/invoke/MethodHandle" ∧ yX1_debtsOf.cls ≠ "java/lang/invoke/VarHandle" ∧ (parseMethodDescriptor yX1_debtsOf.desc).map (fun d => d.parameters.length) = some 1 := ⟨rfl, by decide +kernel, by decide +kernel, by decide +kernel⟩
abbrev mX1_debt : MS := (cX1_debt, 3, RX1, (some .int))
theorem cd_X1_debt : Cond.code yX1_debt cX1_debt 3 (some .int) ∈ wds := wd_2 16 rfl rfl
theorem hy_X1_debt : yX1_debt.cls = RX1 ∧ yX1_debt.cls ≠ "java/lang/invoke/MethodHandle" ∧ yX1_debt.cls ≠ "java/lang/invoke/VarHandle" ∧ (parseMethodDescriptor yX1_debt.desc).map (fun d => d.parameters.length) = some 2 := ⟨rfl, by decide +kernel, by decide +kernel, by decide +kernel⟩
abbrev mX1_sownFields : MS := (cX1_sownFields, 3, RX1, (some .int))
theorem cd_X1_sownFields : Cond.code yX1_sownFields cX1_sownFields 3 (some .int) ∈ wds := wd_2 20 rfl rfl
theorem hy_X1_sownFields : yX1_sownFields.cls = RX1 ∧ yX1_sownFields.cls ≠ "java/lang/invoke/MethodHandle" ∧ yX1_sownFields.cls ≠ "java/lang/invoke/VarHandle" ∧ (parseMethodDescriptor yX1_sownFields.desc).map (fun d => d.parameters.length) = some 0 := ⟨rfl, by decide +kernel, by decide +kernel, by decide +kernel⟩
abbrev mX1_isSown : MS := (cX1_isSown, 2, RX1, (some .boolean))
theorem cd_X1_isSown : Cond.code yX1_isSown cX1_isSown 2 (some .boolean) ∈ wds := wd_2 24 rfl rfl
theorem hy_X1_isSown : yX1_isSown.cls = RX1 ∧ yX1_isSown.cls ≠ "java/lang/invoke/MethodHandle" ∧ yX1_isSown.cls ≠ "java/lang/invoke/VarHandle" ∧ (parseMethodDescriptor yX1_isSown.desc).map (fun d => d.parameters.length) = some 1 := ⟨rfl, by decide +kernel, by decide +kernel, by decide +kernel⟩
abbrev mX2_allEaters : MS := (cX2_allEaters, 1, RX2, (some .int))
theorem cd_X2_allEaters : Cond.code yX2_allEaters cX2_allEaters 1 (some .int) ∈ wds := wd_2 28 rfl rfl
theorem hy_X2_allEaters : yX2_allEaters.cls = RX2 ∧ yX2_allEaters.cls ≠ "java/lang/invoke/MethodHandle" ∧ yX2_allEaters.cls ≠ "java/lang/invoke/VarHandle" ∧ (parseMethodDescriptor yX2_allEaters.desc).map (fun d => d.parameters.length) = some 0 := ⟨rfl, by decide +kernel, by decide +kernel, by decide +kernel⟩
abbrev mX5_sownIfCome : MS := (cX5_sownIfCome, 2, RX5, (some .int))
theorem cd_X5_sownIfCome : Cond.code yX5_sownIfCome cX5_sownIfCome 2 (some .int) ∈ wds := wd_2 32 rfl rfl
theorem hy_X5_sownIfCome : yX5_sownIfCome.cls = RX5 ∧ yX5_sownIfCome.cls ≠ "java/lang/invoke/MethodHandle" ∧ yX5_sownIfCome.cls ≠ "java/lang/invoke/VarHandle" ∧ (parseMethodDescriptor yX5_sownIfCome.desc).map (fun d => d.parameters.length) = some 1 := ⟨rfl, by decide +kernel, by decide +kernel, by decide +kernel⟩
abbrev mX1_copyFrom : MS := (cX1_copyFrom, 2, RX1, none)
theorem cd_X1_copyFrom : Cond.code yX1_copyFrom cX1_copyFrom 2 none ∈ wds := wd_2 36 rfl rfl
theorem hy_X1_copyFrom : yX1_copyFrom.cls = RX1 ∧ yX1_copyFrom.cls ≠ "java/lang/invoke/MethodHandle" ∧ yX1_copyFrom.cls ≠ "java/lang/invoke/VarHandle" ∧ (parseMethodDescriptor yX1_copyFrom.desc).map (fun d => d.parameters.length) = some 1 := ⟨rfl, by decide +kernel, by decide +kernel, by decide +kernel⟩
abbrev mX1_callOut : MS := (cX1_callOut, 3, RX1, none)
theorem cd_X1_callOut : Cond.code yX1_callOut cX1_callOut 3 none ∈ wds := wd_2 43 rfl rfl
theorem hy_X1_callOut : yX1_callOut.cls = RX1 ∧ yX1_callOut.cls ≠ "java/lang/invoke/MethodHandle" ∧ yX1_callOut.cls ≠ "java/lang/invoke/VarHandle" ∧ (parseMethodDescriptor yX1_callOut.desc).map (fun d => d.parameters.length) = some 1 := ⟨rfl, by decide +kernel, by decide +kernel, by decide +kernel⟩
abbrev mX1_sendOut : MS := (cX1_sendOut, 7, RX1, none)
theorem cd_X1_sendOut : Cond.code yX1_sendOut cX1_sendOut 7 none ∈ wds := wd_2 47 rfl rfl
theorem hy_X1_sendOut : yX1_sendOut.cls = RX1 ∧ yX1_sendOut.cls ≠ "java/lang/invoke/MethodHandle" ∧ yX1_sendOut.cls ≠ "java/lang/invoke/VarHandle" ∧ (parseMethodDescriptor yX1_sendOut.desc).map (fun d => d.parameters.length) = some 2 := ⟨rfl, by decide +kernel, by decide +kernel, by decide +kernel⟩
abbrev mX1_nearestOwed : MS := (cX1_nearestOwed, 7, RX1, (some .int))
theorem cd_X1_nearestOwed : Cond.code yX1_nearestOwed cX1_nearestOwed 7 (some .int) ∈ wds := wd_2 51 rfl rfl
theorem hy_X1_nearestOwed : yX1_nearestOwed.cls = RX1 ∧ yX1_nearestOwed.cls ≠ "java/lang/invoke/MethodHandle" ∧ yX1_nearestOwed.cls ≠ "java/lang/invoke/VarHandle" ∧ (parseMethodDescriptor yX1_nearestOwed.desc).map (fun d => d.parameters.length) = some 2 := ⟨rfl, by decide +kernel, by decide +kernel, by decide +kernel⟩
abbrev mX1_bringSeed : MS := (cX1_bringSeed, 3, RX1, none)
theorem cd_X1_bringSeed : Cond.code yX1_bringSeed cX1_bringSeed 3 none ∈ wds := wd_2 58 rfl rfl
theorem hy_X1_bringSeed : yX1_bringSeed.cls = RX1 ∧ yX1_bringSeed.cls ≠ "java/lang/invoke/MethodHandle" ∧ yX1_bringSeed.cls ≠ "java/lang/invoke/VarHandle" ∧ (parseMethodDescriptor yX1_bringSeed.desc).map (fun d => d.parameters.length) = some 2 := ⟨rfl, by decide +kernel, by decide +kernel, by decide +kernel⟩
abbrev mX5_field : MS := (cX5_field, 3, RX5, (some .int))
theorem cd_X5_field : Cond.code yX5_field cX5_field 3 (some .int) ∈ wds := wd_2 65 rfl rfl
theorem hy_X5_field : yX5_field.cls = RX5 ∧ yX5_field.cls ≠ "java/lang/invoke/MethodHandle" ∧ yX5_field.cls ≠ "java/lang/invoke/VarHandle" ∧ (parseMethodDescriptor yX5_field.desc).map (fun d => d.parameters.length) = some 2 := ⟨rfl, by decide +kernel, by decide +kernel, by decide +kernel⟩
abbrev mX2_hasField : MS := (cX2_hasField, 2, RX2, (some .boolean))
theorem cd_X2_hasField : Cond.code yX2_hasField cX2_hasField 2 (some .boolean) ∈ wds := wd_2 69 rfl rfl
theorem hy_X2_hasField : yX2_hasField.cls = RX2 ∧ yX2_hasField.cls ≠ "java/lang/invoke/MethodHandle" ∧ yX2_hasField.cls ≠ "java/lang/invoke/VarHandle" ∧ (parseMethodDescriptor yX2_hasField.desc).map (fun d => d.parameters.length) = some 1 := ⟨rfl, by decide +kernel, by decide +kernel, by decide +kernel⟩
abbrev mX1_debtorsOf : MS := (cX1_debtorsOf, 4, RX1, (some .int))
theorem cd_X1_debtorsOf : Cond.code yX1_debtorsOf cX1_debtorsOf 4 (some .int) ∈ wds := wd_2 73 rfl rfl
theorem hy_X1_debtorsOf : yX1_debtorsOf.cls = RX1 ∧ yX1_debtorsOf.cls ≠ "java/lang/invoke/MethodHandle" ∧ yX1_debtorsOf.cls ≠ "java/lang/invoke/VarHandle" ∧ (parseMethodDescriptor yX1_debtorsOf.desc).map (fun d => d.parameters.length) = some 1 := ⟨rfl, by decide +kernel, by decide +kernel, by decide +kernel⟩
abbrev mX5_eater : MS := (cX5_eater, 3, RX5, (some .int))
theorem cd_X5_eater : Cond.code yX5_eater cX5_eater 3 (some .int) ∈ wds := wd_2 77 rfl rfl
theorem hy_X5_eater : yX5_eater.cls = RX5 ∧ yX5_eater.cls ≠ "java/lang/invoke/MethodHandle" ∧ yX5_eater.cls ≠ "java/lang/invoke/VarHandle" ∧ (parseMethodDescriptor yX5_eater.desc).map (fun d => d.parameters.length) = some 2 := ⟨rfl, by decide +kernel, by decide +kernel, by decide +kernel⟩
abbrev mX2_hasEater : MS := (cX2_hasEater, 2, RX2, (some .boolean))
theorem cd_X2_hasEater : Cond.code yX2_hasEater cX2_hasEater 2 (some .boolean) ∈ wds := wd_2 81 rfl rfl
theorem hy_X2_hasEater : yX2_hasEater.cls = RX2 ∧ yX2_hasEater.cls ≠ "java/lang/invoke/MethodHandle" ∧ yX2_hasEater.cls ≠ "java/lang/invoke/VarHandle" ∧ (parseMethodDescriptor yX2_hasEater.desc).map (fun d => d.parameters.length) = some 1 := ⟨rfl, by decide +kernel, by decide +kernel, by decide +kernel⟩
abbrev mX5_owes : MS := (cX5_owes, 3, RX5, (some .int))
theorem cd_X5_owes : Cond.code yX5_owes cX5_owes 3 (some .int) ∈ wds := wd_2 86 rfl rfl
theorem hy_X5_owes : yX5_owes.cls = RX5 ∧ yX5_owes.cls ≠ "java/lang/invoke/MethodHandle" ∧ yX5_owes.cls ≠ "java/lang/invoke/VarHandle" ∧ (parseMethodDescriptor yX5_owes.desc).map (fun d => d.parameters.length) = some 2 := ⟨rfl, by decide +kernel, by decide +kernel, by decide +kernel⟩
abbrev mX5_eat : MS := (cX5_eat, 3, RX5, (some .int))
theorem cd_X5_eat : Cond.code yX5_eat cX5_eat 3 (some .int) ∈ wds := wd_2 91 rfl rfl
theorem hy_X5_eat : yX5_eat.cls = RX5 ∧ yX5_eat.cls ≠ "java/lang/invoke/MethodHandle" ∧ yX5_eat.cls ≠ "java/lang/invoke/VarHandle" ∧ (parseMethodDescriptor yX5_eat.desc).map (fun d => d.parameters.length) = some 2 := ⟨rfl, by decide +kernel, by decide +kernel, by decide +kernel⟩
abbrev mX1_canTake : MS := (cX1_canTake, 4, RX1, (some .boolean))
theorem cd_X1_canTake : Cond.code yX1_canTake cX1_canTake 4 (some .boolean) ∈ wds := wd_2 95 rfl rfl
theorem hy_X1_canTake : yX1_canTake.cls = RX1 ∧ yX1_canTake.cls ≠ "java/lang/invoke/MethodHandle" ∧ yX1_canTake.cls ≠ "java/lang/invoke/VarHandle" ∧ (parseMethodDescriptor yX1_canTake.desc).map (fun d => d.parameters.length) = some 2 := ⟨rfl, by decide +kernel, by decide +kernel, by decide +kernel⟩
abbrev mX2_portionOf : MS := (cX2_portionOf, 2, RX2, (some .int))
theorem cd_X2_portionOf : Cond.code yX2_portionOf cX2_portionOf 2 (some .int) ∈ wds := wd_2 99 rfl rfl
theorem hy_X2_portionOf : yX2_portionOf.cls = RX2 ∧ yX2_portionOf.cls ≠ "java/lang/invoke/MethodHandle" ∧ yX2_portionOf.cls ≠ "java/lang/invoke/VarHandle" ∧ (parseMethodDescriptor yX2_portionOf.desc).map (fun d => d.parameters.length) = some 1 := ⟨rfl, by decide +kernel, by decide +kernel, by decide +kernel⟩
abbrev mX0_remember : MS := (cX0_remember, 2, RX0, none)
theorem cd_X0_remember : Cond.code yX0_remember cX0_remember 2 none ∈ wds := wd_2 103 rfl rfl
theorem hy_X0_remember : yX0_remember.cls = RX0 ∧ yX0_remember.cls ≠ "java/lang/invoke/MethodHandle" ∧ yX0_remember.cls ≠ "java/lang/invoke/VarHandle" ∧ (parseMethodDescriptor yX0_remember.desc).map (fun d => d.parameters.length) = some 1 := ⟨rfl, by decide +kernel, by decide +kernel, by decide +kernel⟩
abbrev mX1_takeLoaves : MS := (cX1_takeLoaves, 4, RX1, none)
theorem cd_X1_takeLoaves : Cond.code yX1_takeLoaves cX1_takeLoaves 4 none ∈ wds := wd_2 108 rfl rfl
theorem hy_X1_takeLoaves : yX1_takeLoaves.cls = RX1 ∧ yX1_takeLoaves.cls ≠ "java/lang/invoke/MethodHandle" ∧ yX1_takeLoaves.cls ≠ "java/lang/invoke/VarHandle" ∧ (parseMethodDescriptor yX1_takeLoaves.desc).map (fun d => d.parameters.length) = some 2 := ⟨rfl, by decide +kernel, by decide +kernel, by decide +kernel⟩
abbrev mX5_cake : MS := (cX5_cake, 4, RX5, (some .int))
theorem cd_X5_cake : Cond.code yX5_cake cX5_cake 4 (some .int) ∈ wds := wd_2 112 rfl rfl
theorem hy_X5_cake : yX5_cake.cls = RX5 ∧ yX5_cake.cls ≠ "java/lang/invoke/MethodHandle" ∧ yX5_cake.cls ≠ "java/lang/invoke/VarHandle" ∧ (parseMethodDescriptor yX5_cake.desc).map (fun d => d.parameters.length) = some 3 := ⟨rfl, by decide +kernel, by decide +kernel, by decide +kernel⟩
abbrev mX5_march : MS := (cX5_march, 1, RX5, (some .int))
theorem cd_X5_march : Cond.code yX5_march cX5_march 1 (some .int) ∈ wds := wd_2 116 rfl rfl
theorem hy_X5_march : yX5_march.cls = RX5 ∧ yX5_march.cls ≠ "java/lang/invoke/MethodHandle" ∧ yX5_march.cls ≠ "java/lang/invoke/VarHandle" ∧ (parseMethodDescriptor yX5_march.desc).map (fun d => d.parameters.length) = some 0 := ⟨rfl, by decide +kernel, by decide +kernel, by decide +kernel⟩
abbrev mX5_harvest : MS := (cX5_harvest, 1, RX5, (some .int))
theorem cd_X5_harvest : Cond.code yX5_harvest cX5_harvest 1 (some .int) ∈ wds := wd_2 120 rfl rfl
theorem hy_X5_harvest : yX5_harvest.cls = RX5 ∧ yX5_harvest.cls ≠ "java/lang/invoke/MethodHandle" ∧ yX5_harvest.cls ≠ "java/lang/invoke/VarHandle" ∧ (parseMethodDescriptor yX5_harvest.desc).map (fun d => d.parameters.length) = some 0 := ⟨rfl, by decide +kernel, by decide +kernel, by decide +kernel⟩
abbrev mX1_reap : MS := (cX1_reap, 2, RX1, none)
theorem cd_X1_reap : Cond.code yX1_reap cX1_reap 2 none ∈ wds := wd_2 124 rfl rfl
theorem hy_X1_reap : yX1_reap.cls = RX1 ∧ yX1_reap.cls ≠ "java/lang/invoke/MethodHandle" ∧ yX1_reap.cls ≠ "java/lang/invoke/VarHandle" ∧ (parseMethodDescriptor yX1_reap.desc).map (fun d => d.parameters.length) = some 0 := ⟨rfl, by decide +kernel, by decide +kernel, by decide +kernel⟩
abbrev mX5_undo : MS := (cX5_undo, 1, RX5, (some .int))
theorem cd_X5_undo : Cond.code yX5_undo cX5_undo 1 (some .int) ∈ wds := wd_2 128 rfl rfl
theorem hy_X5_undo : yX5_undo.cls = RX5 ∧ yX5_undo.cls ≠ "java/lang/invoke/MethodHandle" ∧ yX5_undo.cls ≠ "java/lang/invoke/VarHandle" ∧ (parseMethodDescriptor yX5_undo.desc).map (fun d => d.parameters.length) = some 0 := ⟨rfl, by decide +kernel, by decide +kernel, by decide +kernel⟩
abbrev mX0_takeBackInto : MS := (cX0_takeBackInto, 2, RX0, none)
theorem cd_X0_takeBackInto : Cond.code yX0_takeBackInto cX0_takeBackInto 2 none ∈ wds := wd_2 132 rfl rfl
theorem hy_X0_takeBackInto : yX0_takeBackInto.cls = RX0 ∧ yX0_takeBackInto.cls ≠ "java/lang/invoke/MethodHandle" ∧ yX0_takeBackInto.cls ≠ "java/lang/invoke/VarHandle" ∧ (parseMethodDescriptor yX0_takeBackInto.desc).map (fun d => d.parameters.length) = some 1 := ⟨rfl, by decide +kernel, by decide +kernel, by decide +kernel⟩
abbrev mX5_ahead : MS := (cX5_ahead, 4, RX5, (some .int))
theorem cd_X5_ahead : Cond.code yX5_ahead cX5_ahead 4 (some .int) ∈ wds := wd_2 136 rfl rfl
theorem hy_X5_ahead : yX5_ahead.cls = RX5 ∧ yX5_ahead.cls ≠ "java/lang/invoke/MethodHandle" ∧ yX5_ahead.cls ≠ "java/lang/invoke/VarHandle" ∧ (parseMethodDescriptor yX5_ahead.desc).map (fun d => d.parameters.length) = some 2 := ⟨rfl, by decide +kernel, by decide +kernel, by decide +kernel⟩
abbrev mX5_wants : MS := (cX5_wants, 5, RX5, (some .int))
theorem cd_X5_wants : Cond.code yX5_wants cX5_wants 5 (some .int) ∈ wds := wd_2 140 rfl rfl
theorem hy_X5_wants : yX5_wants.cls = RX5 ∧ yX5_wants.cls ≠ "java/lang/invoke/MethodHandle" ∧ yX5_wants.cls ≠ "java/lang/invoke/VarHandle" ∧ (parseMethodDescriptor yX5_wants.desc).map (fun d => d.parameters.length) = some 1 := ⟨rfl, by decide +kernel, by decide +kernel, by decide +kernel⟩
abbrev mJ6_bitCount_0f7a4 : MS := (cJ6_bitCount_0f7a4, 1, RJ6, (some .int))
theorem cd_J6_bitCount_0f7a4 : Cond.code yJ6_bitCount_0f7a4 cJ6_bitCount_0f7a4 1 (some .int) ∈ wds := wd_2 143 rfl rfl
theorem hy_J6_bitCount_0f7a4 : yJ6_bitCount_0f7a4.cls = RJ6 ∧ yJ6_bitCount_0f7a4.cls ≠ "java/lang/invoke/MethodHandle" ∧ yJ6_bitCount_0f7a4.cls ≠ "java/lang/invoke/VarHandle" ∧ (parseMethodDescriptor yJ6_bitCount_0f7a4.desc).map (fun d => d.parameters.length) = some 1 := ⟨rfl, by decide +kernel, by decide +kernel, by decide +kernel⟩
abbrev mX5_isSownIfFed : MS := (cX5_isSownIfFed, 4, RX5, (some .boolean))
theorem cd_X5_isSownIfFed : Cond.code yX5_isSownIfFed cX5_isSownIfFed 4 (some .boolean) ∈ wds := wd_2 150 rfl rfl
theorem hy_X5_isSownIfFed : yX5_isSownIfFed.cls = RX5 ∧ yX5_isSownIfFed.cls ≠ "java/lang/invoke/MethodHandle" ∧ yX5_isSownIfFed.cls ≠ "java/lang/invoke/VarHandle" ∧ (parseMethodDescriptor yX5_isSownIfFed.desc).map (fun d => d.parameters.length) = some 2 := ⟨rfl, by decide +kernel, by decide +kernel, by decide +kernel⟩
abbrev mX5_tryToTake : MS := (cX5_tryToTake, 3, RX5, (some .boolean))
theorem cd_X5_tryToTake : Cond.code yX5_tryToTake cX5_tryToTake 3 (some .boolean) ∈ wds := wd_2 154 rfl rfl
theorem hy_X5_tryToTake : yX5_tryToTake.cls = RX5 ∧ yX5_tryToTake.cls ≠ "java/lang/invoke/MethodHandle" ∧ yX5_tryToTake.cls ≠ "java/lang/invoke/VarHandle" ∧ (parseMethodDescriptor yX5_tryToTake.desc).map (fun d => d.parameters.length) = some 2 := ⟨rfl, by decide +kernel, by decide +kernel, by decide +kernel⟩
abbrev mX5_rid : MS := (cX5_rid, 2, RX5, (some .int))
theorem cd_X5_rid : Cond.code yX5_rid cX5_rid 2 (some .int) ∈ wds := wd_2 159 rfl rfl
theorem hy_X5_rid : yX5_rid.cls = RX5 ∧ yX5_rid.cls ≠ "java/lang/invoke/MethodHandle" ∧ yX5_rid.cls ≠ "java/lang/invoke/VarHandle" ∧ (parseMethodDescriptor yX5_rid.desc).map (fun d => d.parameters.length) = some 1 := ⟨rfl, by decide +kernel, by decide +kernel, by decide +kernel⟩
abbrev mX5_judge : MS := (cX5_judge, 6, RX5, (some .int))
theorem cd_X5_judge : Cond.code yX5_judge cX5_judge 6 (some .int) ∈ wds := wd_2 164 rfl rfl
theorem hy_X5_judge : yX5_judge.cls = RX5 ∧ yX5_judge.cls ≠ "java/lang/invoke/MethodHandle" ∧ yX5_judge.cls ≠ "java/lang/invoke/VarHandle" ∧ (parseMethodDescriptor yX5_judge.desc).map (fun d => d.parameters.length) = some 2 := ⟨rfl, by decide +kernel, by decide +kernel, by decide +kernel⟩
abbrev mX5_withoutLast : MS := (cX5_withoutLast, 6, RX5, (some .long))
theorem cd_X5_withoutLast : Cond.code yX5_withoutLast cX5_withoutLast 6 (some .long) ∈ wds := wd_2 167 rfl rfl
theorem hy_X5_withoutLast : yX5_withoutLast.cls = RX5 ∧ yX5_withoutLast.cls ≠ "java/lang/invoke/MethodHandle" ∧ yX5_withoutLast.cls ≠ "java/lang/invoke/VarHandle" ∧ (parseMethodDescriptor yX5_withoutLast.desc).map (fun d => d.parameters.length) = some 2 := ⟨rfl, by decide +kernel, by decide +kernel, by decide +kernel⟩
abbrev mX5_isSo : MS := (cX5_isSo, 4, RX5, (some .boolean))
theorem cd_X5_isSo : Cond.code yX5_isSo cX5_isSo 4 (some .boolean) ∈ wds := wd_2 172 rfl rfl
theorem hy_X5_isSo : yX5_isSo.cls = RX5 ∧ yX5_isSo.cls ≠ "java/lang/invoke/MethodHandle" ∧ yX5_isSo.cls ≠ "java/lang/invoke/VarHandle" ∧ (parseMethodDescriptor yX5_isSo.desc).map (fun d => d.parameters.length) = some 3 := ⟨rfl, by decide +kernel, by decide +kernel, by decide +kernel⟩
abbrev mX5_share : MS := (cX5_share, 8, RX5, (some .int))
theorem cd_X5_share : Cond.code yX5_share cX5_share 8 (some .int) ∈ wds := wd_2 176 rfl rfl
theorem hy_X5_share : yX5_share.cls = RX5 ∧ yX5_share.cls ≠ "java/lang/invoke/MethodHandle" ∧ yX5_share.cls ≠ "java/lang/invoke/VarHandle" ∧ (parseMethodDescriptor yX5_share.desc).map (fun d => d.parameters.length) = some 2 := ⟨rfl, by decide +kernel, by decide +kernel, by decide +kernel⟩
abbrev mX5_ordersOf : MS := (cX5_ordersOf, 4, RX5, (some .long))
theorem cd_X5_ordersOf : Cond.code yX5_ordersOf cX5_ordersOf 4 (some .long) ∈ wds := wd_2 179 rfl rfl
theorem hy_X5_ordersOf : yX5_ordersOf.cls = RX5 ∧ yX5_ordersOf.cls ≠ "java/lang/invoke/MethodHandle" ∧ yX5_ordersOf.cls ≠ "java/lang/invoke/VarHandle" ∧ (parseMethodDescriptor yX5_ordersOf.desc).map (fun d => d.parameters.length) = some 1 := ⟨rfl, by decide +kernel, by decide +kernel, by decide +kernel⟩
abbrev mX5_partOfFraction : MS := (cX5_partOfFraction, 12, RX5, (some .int))
theorem cd_X5_partOfFraction : Cond.code yX5_partOfFraction cX5_partOfFraction 12 (some .int) ∈ wds := wd_2 182 rfl rfl
theorem hy_X5_partOfFraction : yX5_partOfFraction.cls = RX5 ∧ yX5_partOfFraction.cls ≠ "java/lang/invoke/MethodHandle" ∧ yX5_partOfFraction.cls ≠ "java/lang/invoke/VarHandle" ∧ (parseMethodDescriptor yX5_partOfFraction.desc).map (fun d => d.parameters.length) = some 3 := ⟨rfl, by decide +kernel, by decide +kernel, by decide +kernel⟩
abbrev mX5_came : MS := (cX5_came, 3, RX5, (some .int))
theorem cd_X5_came : Cond.code yX5_came cX5_came 3 (some .int) ∈ wds := wd_2 186 rfl rfl
theorem hy_X5_came : yX5_came.cls = RX5 ∧ yX5_came.cls ≠ "java/lang/invoke/MethodHandle" ∧ yX5_came.cls ≠ "java/lang/invoke/VarHandle" ∧ (parseMethodDescriptor yX5_came.desc).map (fun d => d.parameters.length) = some 2 := ⟨rfl, by decide +kernel, by decide +kernel, by decide +kernel⟩
abbrev mX4_add : MS := (cX4_add, 3, RX4, none)
theorem cd_X4_add : Cond.code yX4_add cX4_add 3 none ∈ wds := wd_2 190 rfl rfl
theorem hy_X4_add : yX4_add.cls = RX4 ∧ yX4_add.cls ≠ "java/lang/invoke/MethodHandle" ∧ yX4_add.cls ≠ "java/lang/invoke/VarHandle" ∧ (parseMethodDescriptor yX4_add.desc).map (fun d => d.parameters.length) = some 2 := ⟨rfl, by decide +kernel, by decide +kernel, by decide +kernel⟩
abbrev mX5_forget : MS := (cX5_forget, 2, RX5, (some .int))
theorem cd_X5_forget : Cond.code yX5_forget cX5_forget 2 (some .int) ∈ wds := wd_2 194 rfl rfl
theorem hy_X5_forget : yX5_forget.cls = RX5 ∧ yX5_forget.cls ≠ "java/lang/invoke/MethodHandle" ∧ yX5_forget.cls ≠ "java/lang/invoke/VarHandle" ∧ (parseMethodDescriptor yX5_forget.desc).map (fun d => d.parameters.length) = some 0 := ⟨rfl, by decide +kernel, by decide +kernel, by decide +kernel⟩
abbrev mX5_strangers : MS := (cX5_strangers, 5, RX5, (some .int))
theorem cd_X5_strangers : Cond.code yX5_strangers cX5_strangers 5 (some .int) ∈ wds := wd_2 198 rfl rfl
theorem hy_X5_strangers : yX5_strangers.cls = RX5 ∧ yX5_strangers.cls ≠ "java/lang/invoke/MethodHandle" ∧ yX5_strangers.cls ≠ "java/lang/invoke/VarHandle" ∧ (parseMethodDescriptor yX5_strangers.desc).map (fun d => d.parameters.length) = some 1 := ⟨rfl, by decide +kernel, by decide +kernel, by decide +kernel⟩
abbrev mX4_allowFor : MS := (cX4_allowFor, 5, RX4, (some .boolean))
theorem cd_X4_allowFor : Cond.code yX4_allowFor cX4_allowFor 5 (some .boolean) ∈ wds := wd_2 202 rfl rfl
theorem hy_X4_allowFor : yX4_allowFor.cls = RX4 ∧ yX4_allowFor.cls ≠ "java/lang/invoke/MethodHandle" ∧ yX4_allowFor.cls ≠ "java/lang/invoke/VarHandle" ∧ (parseMethodDescriptor yX4_allowFor.desc).map (fun d => d.parameters.length) = some 2 := ⟨rfl, by decide +kernel, by decide +kernel, by decide +kernel⟩
abbrev mX5_rests : MS := (cX5_rests, 8, RX5, (some .int))
theorem cd_X5_rests : Cond.code yX5_rests cX5_rests 8 (some .int) ∈ wds := wd_2 207 rfl rfl
theorem hy_X5_rests : yX5_rests.cls = RX5 ∧ yX5_rests.cls ≠ "java/lang/invoke/MethodHandle" ∧ yX5_rests.cls ≠ "java/lang/invoke/VarHandle" ∧ (parseMethodDescriptor yX5_rests.desc).map (fun d => d.parameters.length) = some 4 := ⟨rfl, by decide +kernel, by decide +kernel, by decide +kernel⟩
abbrev mX5_playPair : MS := (cX5_playPair, 8, RX5, none)
theorem cd_X5_playPair : Cond.code yX5_playPair cX5_playPair 8 none ∈ wds := wd_2 211 rfl rfl
theorem hy_X5_playPair : yX5_playPair.cls = RX5 ∧ yX5_playPair.cls ≠ "java/lang/invoke/MethodHandle" ∧ yX5_playPair.cls ≠ "java/lang/invoke/VarHandle" ∧ (parseMethodDescriptor yX5_playPair.desc).map (fun d => d.parameters.length) = some 4 := ⟨rfl, by decide +kernel, by decide +kernel, by decide +kernel⟩
abbrev mX5_isAtRest : MS := (cX5_isAtRest, 4, RX5, (some .boolean))
theorem cd_X5_isAtRest : Cond.code yX5_isAtRest cX5_isAtRest 4 (some .boolean) ∈ wds := wd_2 215 rfl rfl
theorem hy_X5_isAtRest : yX5_isAtRest.cls = RX5 ∧ yX5_isAtRest.cls ≠ "java/lang/invoke/MethodHandle" ∧ yX5_isAtRest.cls ≠ "java/lang/invoke/VarHandle" ∧ (parseMethodDescriptor yX5_isAtRest.desc).map (fun d => d.parameters.length) = some 1 := ⟨rfl, by decide +kernel, by decide +kernel, by decide +kernel⟩
abbrev mX5_home : MS := (cX5_home, 8, RX5, (some .int))
theorem cd_X5_home : Cond.code yX5_home cX5_home 8 (some .int) ∈ wds := wd_2 219 rfl rfl
theorem hy_X5_home : yX5_home.cls = RX5 ∧ yX5_home.cls ≠ "java/lang/invoke/MethodHandle" ∧ yX5_home.cls ≠ "java/lang/invoke/VarHandle" ∧ (parseMethodDescriptor yX5_home.desc).map (fun d => d.parameters.length) = some 3 := ⟨rfl, by decide +kernel, by decide +kernel, by decide +kernel⟩
abbrev mX5_power : MS := (cX5_power, 6, RX5, (some .long))
theorem cd_X5_power : Cond.code yX5_power cX5_power 6 (some .long) ∈ wds := wd_2 222 rfl rfl
theorem hy_X5_power : yX5_power.cls = RX5 ∧ yX5_power.cls ≠ "java/lang/invoke/MethodHandle" ∧ yX5_power.cls ≠ "java/lang/invoke/VarHandle" ∧ (parseMethodDescriptor yX5_power.desc).map (fun d => d.parameters.length) = some 2 := ⟨rfl, by decide +kernel, by decide +kernel, by decide +kernel⟩
abbrev mX5_seed : MS := (cX5_seed, 5, RX5, (some .long))
theorem cd_X5_seed : Cond.code yX5_seed cX5_seed 5 (some .long) ∈ wds := wd_2 227 rfl rfl
theorem hy_X5_seed : yX5_seed.cls = RX5 ∧ yX5_seed.cls ≠ "java/lang/invoke/MethodHandle" ∧ yX5_seed.cls ≠ "java/lang/invoke/VarHandle" ∧ (parseMethodDescriptor yX5_seed.desc).map (fun d => d.parameters.length) = some 1 := ⟨rfl, by decide +kernel, by decide +kernel, by decide +kernel⟩
abbrev mX5_years : MS := (cX5_years, 4, RX5, (some .int))
theorem cd_X5_years : Cond.code yX5_years cX5_years 4 (some .int) ∈ wds := wd_2 231 rfl rfl
theorem hy_X5_years : yX5_years.cls = RX5 ∧ yX5_years.cls ≠ "java/lang/invoke/MethodHandle" ∧ yX5_years.cls ≠ "java/lang/invoke/VarHandle" ∧ (parseMethodDescriptor yX5_years.desc).map (fun d => d.parameters.length) = some 1 := ⟨rfl, by decide +kernel, by decide +kernel, by decide +kernel⟩
abbrev mX5_doByLot : MS := (cX5_doByLot, 2, RX5, none)
theorem cd_X5_doByLot : Cond.code yX5_doByLot cX5_doByLot 2 none ∈ wds := wd_2 238 rfl rfl
theorem hy_X5_doByLot : yX5_doByLot.cls = RX5 ∧ yX5_doByLot.cls ≠ "java/lang/invoke/MethodHandle" ∧ yX5_doByLot.cls ≠ "java/lang/invoke/VarHandle" ∧ (parseMethodDescriptor yX5_doByLot.desc).map (fun d => d.parameters.length) = some 1 := ⟨rfl, by decide +kernel, by decide +kernel, by decide +kernel⟩
abbrev mX5_keep : MS := (cX5_keep, 2, RX5, (some .int))
theorem cd_X5_keep : Cond.code yX5_keep cX5_keep 2 (some .int) ∈ wds := wd_3 2 rfl rfl
theorem hy_X5_keep : yX5_keep.cls = RX5 ∧ yX5_keep.cls ≠ "java/lang/invoke/MethodHandle" ∧ yX5_keep.cls ≠ "java/lang/invoke/VarHandle" ∧ (parseMethodDescriptor yX5_keep.desc).map (fun d => d.parameters.length) = some 1 := ⟨rfl, by decide +kernel, by decide +kernel, by decide +kernel⟩
abbrev mX5_again : MS := (cX5_again, 2, RX5, (some .int))
theorem cd_X5_again : Cond.code yX5_again cX5_again 2 (some .int) ∈ wds := wd_3 6 rfl rfl
theorem hy_X5_again : yX5_again.cls = RX5 ∧ yX5_again.cls ≠ "java/lang/invoke/MethodHandle" ∧ yX5_again.cls ≠ "java/lang/invoke/VarHandle" ∧ (parseMethodDescriptor yX5_again.desc).map (fun d => d.parameters.length) = some 1 := ⟨rfl, by decide +kernel, by decide +kernel, by decide +kernel⟩
abbrev mX6_init : MS := (cX6_init, 1, RX6, none)
theorem cd_X6_init : Cond.code yX6_init cX6_init 1 none ∈ wds := wd_3 11 rfl rfl
theorem hy_X6_init : yX6_init.cls = RX6 ∧ yX6_init.cls ≠ "java/lang/invoke/MethodHandle" ∧ yX6_init.cls ≠ "java/lang/invoke/VarHandle" ∧ (parseMethodDescriptor yX6_init.desc).map (fun d => d.parameters.length) = some 0 := ⟨rfl, by decide +kernel, by decide +kernel, by decide +kernel⟩
abbrev mX6_write : MS := (cX6_write, 2, RX6, (some .int))
theorem cd_X6_write : Cond.code yX6_write cX6_write 2 (some .int) ∈ wds := wd_3 119 rfl rfl
theorem hy_X6_write : yX6_write.cls = RX6 ∧ yX6_write.cls ≠ "java/lang/invoke/MethodHandle" ∧ yX6_write.cls ≠ "java/lang/invoke/VarHandle" ∧ (parseMethodDescriptor yX6_write.desc).map (fun d => d.parameters.length) = some 1 := ⟨rfl, by decide +kernel, by decide +kernel, by decide +kernel⟩
abbrev mX6_in : MS := (cX6_in, 6, RX6, (some .boolean))
theorem cd_X6_in : Cond.code yX6_in cX6_in 6 (some .boolean) ∈ wds := wd_3 123 rfl rfl
theorem hy_X6_in : yX6_in.cls = RX6 ∧ yX6_in.cls ≠ "java/lang/invoke/MethodHandle" ∧ yX6_in.cls ≠ "java/lang/invoke/VarHandle" ∧ (parseMethodDescriptor yX6_in.desc).map (fun d => d.parameters.length) = some 3 := ⟨rfl, by decide +kernel, by decide +kernel, by decide +kernel⟩
abbrev mX6_wipe : MS := (cX6_wipe, 2, RX6, (some .int))
theorem cd_X6_wipe : Cond.code yX6_wipe cX6_wipe 2 (some .int) ∈ wds := wd_3 127 rfl rfl
theorem hy_X6_wipe : yX6_wipe.cls = RX6 ∧ yX6_wipe.cls ≠ "java/lang/invoke/MethodHandle" ∧ yX6_wipe.cls ≠ "java/lang/invoke/VarHandle" ∧ (parseMethodDescriptor yX6_wipe.desc).map (fun d => d.parameters.length) = some 0 := ⟨rfl, by decide +kernel, by decide +kernel, by decide +kernel⟩
abbrev mX6_fault : MS := (cX6_fault, 1, RX6, (some .int))
theorem cd_X6_fault : Cond.code yX6_fault cX6_fault 1 (some .int) ∈ wds := wd_3 131 rfl rfl
theorem hy_X6_fault : yX6_fault.cls = RX6 ∧ yX6_fault.cls ≠ "java/lang/invoke/MethodHandle" ∧ yX6_fault.cls ≠ "java/lang/invoke/VarHandle" ∧ (parseMethodDescriptor yX6_fault.desc).map (fun d => d.parameters.length) = some 0 := ⟨rfl, by decide +kernel, by decide +kernel, by decide +kernel⟩
abbrev mX6_readCountry : MS := (cX6_readCountry, 1, RX6, (some .int))
theorem cd_X6_readCountry : Cond.code yX6_readCountry cX6_readCountry 1 (some .int) ∈ wds := wd_3 135 rfl rfl
theorem hy_X6_readCountry : yX6_readCountry.cls = RX6 ∧ yX6_readCountry.cls ≠ "java/lang/invoke/MethodHandle" ∧ yX6_readCountry.cls ≠ "java/lang/invoke/VarHandle" ∧ (parseMethodDescriptor yX6_readCountry.desc).map (fun d => d.parameters.length) = some 0 := ⟨rfl, by decide +kernel, by decide +kernel, by decide +kernel⟩
abbrev mX6_readThing : MS := (cX6_readThing, 2, RX6, (some .boolean))
theorem cd_X6_readThing : Cond.code yX6_readThing cX6_readThing 2 (some .boolean) ∈ wds := wd_3 139 rfl rfl
theorem hy_X6_readThing : yX6_readThing.cls = RX6 ∧ yX6_readThing.cls ≠ "java/lang/invoke/MethodHandle" ∧ yX6_readThing.cls ≠ "java/lang/invoke/VarHandle" ∧ (parseMethodDescriptor yX6_readThing.desc).map (fun d => d.parameters.length) = some 0 := ⟨rfl, by decide +kernel, by decide +kernel, by decide +kernel⟩
abbrev mX6_readOneField : MS := (cX6_readOneField, 4, RX6, (some .boolean))
theorem cd_X6_readOneField : Cond.code yX6_readOneField cX6_readOneField 4 (some .boolean) ∈ wds := wd_3 143 rfl rfl
theorem hy_X6_readOneField : yX6_readOneField.cls = RX6 ∧ yX6_readOneField.cls ≠ "java/lang/invoke/MethodHandle" ∧ yX6_readOneField.cls ≠ "java/lang/invoke/VarHandle" ∧ (parseMethodDescriptor yX6_readOneField.desc).map (fun d => d.parameters.length) = some 0 := ⟨rfl, by decide +kernel, by decide +kernel, by decide +kernel⟩
abbrev mX6_figure : MS := (cX6_figure, 3, RX6, (some .int))
theorem cd_X6_figure : Cond.code yX6_figure cX6_figure 3 (some .int) ∈ wds := wd_3 147 rfl rfl
theorem hy_X6_figure : yX6_figure.cls = RX6 ∧ yX6_figure.cls ≠ "java/lang/invoke/MethodHandle" ∧ yX6_figure.cls ≠ "java/lang/invoke/VarHandle" ∧ (parseMethodDescriptor yX6_figure.desc).map (fun d => d.parameters.length) = some 2 := ⟨rfl, by decide +kernel, by decide +kernel, by decide +kernel⟩
abbrev mX6_readOneEater : MS := (cX6_readOneEater, 4, RX6, (some .boolean))
theorem cd_X6_readOneEater : Cond.code yX6_readOneEater cX6_readOneEater 4 (some .boolean) ∈ wds := wd_3 151 rfl rfl
theorem hy_X6_readOneEater : yX6_readOneEater.cls = RX6 ∧ yX6_readOneEater.cls ≠ "java/lang/invoke/MethodHandle" ∧ yX6_readOneEater.cls ≠ "java/lang/invoke/VarHandle" ∧ (parseMethodDescriptor yX6_readOneEater.desc).map (fun d => d.parameters.length) = some 0 := ⟨rfl, by decide +kernel, by decide +kernel, by decide +kernel⟩
abbrev mX6_country : MS := (cX6_country, 2, RX6, (some .int))
theorem cd_X6_country : Cond.code yX6_country cX6_country 2 (some .int) ∈ wds := wd_3 155 rfl rfl
theorem hy_X6_country : yX6_country.cls = RX6 ∧ yX6_country.cls ≠ "java/lang/invoke/MethodHandle" ∧ yX6_country.cls ≠ "java/lang/invoke/VarHandle" ∧ (parseMethodDescriptor yX6_country.desc).map (fun d => d.parameters.length) = some 0 := ⟨rfl, by decide +kernel, by decide +kernel, by decide +kernel⟩
abbrev mX6_about : MS := (cX6_about, 2, RX6, (some .int))
theorem cd_X6_about : Cond.code yX6_about cX6_about 2 (some .int) ∈ wds := wd_3 159 rfl rfl
theorem hy_X6_about : yX6_about.cls = RX6 ∧ yX6_about.cls ≠ "java/lang/invoke/MethodHandle" ∧ yX6_about.cls ≠ "java/lang/invoke/VarHandle" ∧ (parseMethodDescriptor yX6_about.desc).map (fun d => d.parameters.length) = some 1 := ⟨rfl, by decide +kernel, by decide +kernel, by decide +kernel⟩
abbrev mX6_loaves : MS := (cX6_loaves, 1, RX6, (some .int))
theorem cd_X6_loaves : Cond.code yX6_loaves cX6_loaves 1 (some .int) ∈ wds := wd_3 162 rfl rfl
theorem hy_X6_loaves : yX6_loaves.cls = RX6 ∧ yX6_loaves.cls ≠ "java/lang/invoke/MethodHandle" ∧ yX6_loaves.cls ≠ "java/lang/invoke/VarHandle" ∧ (parseMethodDescriptor yX6_loaves.desc).map (fun d => d.parameters.length) = some 1 := ⟨rfl, by decide +kernel, by decide +kernel, by decide +kernel⟩
abbrev mX6_owedTogether : MS := (cX6_owedTogether, 3, RX6, (some .int))
theorem cd_X6_owedTogether : Cond.code yX6_owedTogether cX6_owedTogether 3 (some .int) ∈ wds := wd_3 166 rfl rfl
theorem hy_X6_owedTogether : yX6_owedTogether.cls = RX6 ∧ yX6_owedTogether.cls ≠ "java/lang/invoke/MethodHandle" ∧ yX6_owedTogether.cls ≠ "java/lang/invoke/VarHandle" ∧ (parseMethodDescriptor yX6_owedTogether.desc).map (fun d => d.parameters.length) = some 0 := ⟨rfl, by decide +kernel, by decide +kernel, by decide +kernel⟩
abbrev mX6_owesAll : MS := (cX6_owesAll, 2, RX6, (some .int))
theorem cd_X6_owesAll : Cond.code yX6_owesAll cX6_owesAll 2 (some .int) ∈ wds := wd_3 169 rfl rfl
theorem hy_X6_owesAll : yX6_owesAll.cls = RX6 ∧ yX6_owesAll.cls ≠ "java/lang/invoke/MethodHandle" ∧ yX6_owesAll.cls ≠ "java/lang/invoke/VarHandle" ∧ (parseMethodDescriptor yX6_owesAll.desc).map (fun d => d.parameters.length) = some 2 := ⟨rfl, by decide +kernel, by decide +kernel, by decide +kernel⟩
abbrev mX6_owed : MS := (cX6_owed, 3, RX6, (some .int))
theorem cd_X6_owed : Cond.code yX6_owed cX6_owed 3 (some .int) ∈ wds := wd_3 172 rfl rfl
theorem hy_X6_owed : yX6_owed.cls = RX6 ∧ yX6_owed.cls ≠ "java/lang/invoke/MethodHandle" ∧ yX6_owed.cls ≠ "java/lang/invoke/VarHandle" ∧ (parseMethodDescriptor yX6_owed.desc).map (fun d => d.parameters.length) = some 3 := ⟨rfl, by decide +kernel, by decide +kernel, by decide +kernel⟩
abbrev mX6_sown : MS := (cX6_sown, 4, RX6, (some .int))
theorem cd_X6_sown : Cond.code yX6_sown cX6_sown 4 (some .int) ∈ wds := wd_3 176 rfl rfl
theorem hy_X6_sown : yX6_sown.cls = RX6 ∧ yX6_sown.cls ≠ "java/lang/invoke/MethodHandle" ∧ yX6_sown.cls ≠ "java/lang/invoke/VarHandle" ∧ (parseMethodDescriptor yX6_sown.desc).map (fun d => d.parameters.length) = some 1 := ⟨rfl, by decide +kernel, by decide +kernel, by decide +kernel⟩
abbrev mX6_marched : MS := (cX6_marched, 2, RX6, (some .int))
theorem cd_X6_marched : Cond.code yX6_marched cX6_marched 2 (some .int) ∈ wds := wd_3 180 rfl rfl
theorem hy_X6_marched : yX6_marched.cls = RX6 ∧ yX6_marched.cls ≠ "java/lang/invoke/MethodHandle" ∧ yX6_marched.cls ≠ "java/lang/invoke/VarHandle" ∧ (parseMethodDescriptor yX6_marched.desc).map (fun d => d.parameters.length) = some 1 := ⟨rfl, by decide +kernel, by decide +kernel, by decide +kernel⟩
abbrev mX6_begin : MS := (cX6_begin, 2, RX6, none)
theorem cd_X6_begin : Cond.code yX6_begin cX6_begin 2 none ∈ wds := wd_3 184 rfl rfl
theorem hy_X6_begin : yX6_begin.cls = RX6 ∧ yX6_begin.cls ≠ "java/lang/invoke/MethodHandle" ∧ yX6_begin.cls ≠ "java/lang/invoke/VarHandle" ∧ (parseMethodDescriptor yX6_begin.desc).map (fun d => d.parameters.length) = some 0 := ⟨rfl, by decide +kernel, by decide +kernel, by decide +kernel⟩
abbrev mX6_goMarch : MS := (cX6_goMarch, 4, RX6, (some .int))
theorem cd_X6_goMarch : Cond.code yX6_goMarch cX6_goMarch 4 (some .int) ∈ wds := wd_3 188 rfl rfl
theorem hy_X6_goMarch : yX6_goMarch.cls = RX6 ∧ yX6_goMarch.cls ≠ "java/lang/invoke/MethodHandle" ∧ yX6_goMarch.cls ≠ "java/lang/invoke/VarHandle" ∧ (parseMethodDescriptor yX6_goMarch.desc).map (fun d => d.parameters.length) = some 2 := ⟨rfl, by decide +kernel, by decide +kernel, by decide +kernel⟩
abbrev mX6_has : MS := (cX6_has, 2, RX6, (some .boolean))
theorem cd_X6_has : Cond.code yX6_has cX6_has 2 (some .boolean) ∈ wds := wd_3 191 rfl rfl
theorem hy_X6_has : yX6_has.cls = RX6 ∧ yX6_has.cls ≠ "java/lang/invoke/MethodHandle" ∧ yX6_has.cls ≠ "java/lang/invoke/VarHandle" ∧ (parseMethodDescriptor yX6_has.desc).map (fun d => d.parameters.length) = some 2 := ⟨rfl, by decide +kernel, by decide +kernel, by decide +kernel⟩
abbrev mX6_goes : MS := (cX6_goes, 9, RX6, (some .int))
theorem cd_X6_goes : Cond.code yX6_goes cX6_goes 9 (some .int) ∈ wds := wd_3 195 rfl rfl
theorem hy_X6_goes : yX6_goes.cls = RX6 ∧ yX6_goes.cls ≠ "java/lang/invoke/MethodHandle" ∧ yX6_goes.cls ≠ "java/lang/invoke/VarHandle" ∧ (parseMethodDescriptor yX6_goes.desc).map (fun d => d.parameters.length) = some 3 := ⟨rfl, by decide +kernel, by decide +kernel, by decide +kernel⟩
abbrev mX6_nearest : MS := (cX6_nearest, 7, RX6, (some .int))
theorem cd_X6_nearest : Cond.code yX6_nearest cX6_nearest 7 (some .int) ∈ wds := wd_3 199 rfl rfl
theorem hy_X6_nearest : yX6_nearest.cls = RX6 ∧ yX6_nearest.cls ≠ "java/lang/invoke/MethodHandle" ∧ yX6_nearest.cls ≠ "java/lang/invoke/VarHandle" ∧ (parseMethodDescriptor yX6_nearest.desc).map (fun d => d.parameters.length) = some 3 := ⟨rfl, by decide +kernel, by decide +kernel, by decide +kernel⟩
abbrev mX6_apart : MS := (cX6_apart, 2, RX6, (some .int))
theorem cd_X6_apart : Cond.code yX6_apart cX6_apart 2 (some .int) ∈ wds := wd_3 202 rfl rfl
theorem hy_X6_apart : yX6_apart.cls = RX6 ∧ yX6_apart.cls ≠ "java/lang/invoke/MethodHandle" ∧ yX6_apart.cls ≠ "java/lang/invoke/VarHandle" ∧ (parseMethodDescriptor yX6_apart.desc).map (fun d => d.parameters.length) = some 2 := ⟨rfl, by decide +kernel, by decide +kernel, by decide +kernel⟩
abbrev mX6_capped : MS := (cX6_capped, 1, RX6, (some .int))
theorem cd_X6_capped : Cond.code yX6_capped cX6_capped 1 (some .int) ∈ wds := wd_3 205 rfl rfl
theorem hy_X6_capped : yX6_capped.cls = RX6 ∧ yX6_capped.cls ≠ "java/lang/invoke/MethodHandle" ∧ yX6_capped.cls ≠ "java/lang/invoke/VarHandle" ∧ (parseMethodDescriptor yX6_capped.desc).map (fun d => d.parameters.length) = some 1 := ⟨rfl, by decide +kernel, by decide +kernel, by decide +kernel⟩
abbrev mX6_field : MS := (cX6_field, 3, RX6, (some .int))
theorem cd_X6_field : Cond.code yX6_field cX6_field 3 (some .int) ∈ wds := wd_3 209 rfl rfl
theorem hy_X6_field : yX6_field.cls = RX6 ∧ yX6_field.cls ≠ "java/lang/invoke/MethodHandle" ∧ yX6_field.cls ≠ "java/lang/invoke/VarHandle" ∧ (parseMethodDescriptor yX6_field.desc).map (fun d => d.parameters.length) = some 2 := ⟨rfl, by decide +kernel, by decide +kernel, by decide +kernel⟩
abbrev mX6_noField : MS := (cX6_noField, 2, RX6, (some .boolean))
theorem cd_X6_noField : Cond.code yX6_noField cX6_noField 2 (some .boolean) ∈ wds := wd_3 213 rfl rfl
theorem hy_X6_noField : yX6_noField.cls = RX6 ∧ yX6_noField.cls ≠ "java/lang/invoke/MethodHandle" ∧ yX6_noField.cls ≠ "java/lang/invoke/VarHandle" ∧ (parseMethodDescriptor yX6_noField.desc).map (fun d => d.parameters.length) = some 1 := ⟨rfl, by decide +kernel, by decide +kernel, by decide +kernel⟩
abbrev mX6_owing : MS := (cX6_owing, 4, RX6, (some .int))
theorem cd_X6_owing : Cond.code yX6_owing cX6_owing 4 (some .int) ∈ wds := wd_3 217 rfl rfl
theorem hy_X6_owing : yX6_owing.cls = RX6 ∧ yX6_owing.cls ≠ "java/lang/invoke/MethodHandle" ∧ yX6_owing.cls ≠ "java/lang/invoke/VarHandle" ∧ (parseMethodDescriptor yX6_owing.desc).map (fun d => d.parameters.length) = some 1 := ⟨rfl, by decide +kernel, by decide +kernel, by decide +kernel⟩
abbrev mX6_eater : MS := (cX6_eater, 4, RX6, (some .int))
theorem cd_X6_eater : Cond.code yX6_eater cX6_eater 4 (some .int) ∈ wds := wd_3 221 rfl rfl
theorem hy_X6_eater : yX6_eater.cls = RX6 ∧ yX6_eater.cls ≠ "java/lang/invoke/MethodHandle" ∧ yX6_eater.cls ≠ "java/lang/invoke/VarHandle" ∧ (parseMethodDescriptor yX6_eater.desc).map (fun d => d.parameters.length) = some 2 := ⟨rfl, by decide +kernel, by decide +kernel, by decide +kernel⟩
abbrev mX6_noEater : MS := (cX6_noEater, 2, RX6, (some .boolean))
theorem cd_X6_noEater : Cond.code yX6_noEater cX6_noEater 2 (some .boolean) ∈ wds := wd_3 225 rfl rfl
theorem hy_X6_noEater : yX6_noEater.cls = RX6 ∧ yX6_noEater.cls ≠ "java/lang/invoke/MethodHandle" ∧ yX6_noEater.cls ≠ "java/lang/invoke/VarHandle" ∧ (parseMethodDescriptor yX6_noEater.desc).map (fun d => d.parameters.length) = some 1 := ⟨rfl, by decide +kernel, by decide +kernel, by decide +kernel⟩
abbrev mX6_owes : MS := (cX6_owes, 3, RX6, (some .int))
theorem cd_X6_owes : Cond.code yX6_owes cX6_owes 3 (some .int) ∈ wds := wd_3 229 rfl rfl
theorem hy_X6_owes : yX6_owes.cls = RX6 ∧ yX6_owes.cls ≠ "java/lang/invoke/MethodHandle" ∧ yX6_owes.cls ≠ "java/lang/invoke/VarHandle" ∧ (parseMethodDescriptor yX6_owes.desc).map (fun d => d.parameters.length) = some 2 := ⟨rfl, by decide +kernel, by decide +kernel, by decide +kernel⟩
abbrev mX6_eat : MS := (cX6_eat, 3, RX6, (some .int))
theorem cd_X6_eat : Cond.code yX6_eat cX6_eat 3 (some .int) ∈ wds := wd_3 233 rfl rfl
theorem hy_X6_eat : yX6_eat.cls = RX6 ∧ yX6_eat.cls ≠ "java/lang/invoke/MethodHandle" ∧ yX6_eat.cls ≠ "java/lang/invoke/VarHandle" ∧ (parseMethodDescriptor yX6_eat.desc).map (fun d => d.parameters.length) = some 2 := ⟨rfl, by decide +kernel, by decide +kernel, by decide +kernel⟩
abbrev mX6_canEat : MS := (cX6_canEat, 4, RX6, (some .boolean))
theorem cd_X6_canEat : Cond.code yX6_canEat cX6_canEat 4 (some .boolean) ∈ wds := wd_3 237 rfl rfl
theorem hy_X6_canEat : yX6_canEat.cls = RX6 ∧ yX6_canEat.cls ≠ "java/lang/invoke/MethodHandle" ∧ yX6_canEat.cls ≠ "java/lang/invoke/VarHandle" ∧ (parseMethodDescriptor yX6_canEat.desc).map (fun d => d.parameters.length) = some 3 := ⟨rfl, by decide +kernel, by decide +kernel, by decide +kernel⟩
abbrev mX6_bite : MS := (cX6_bite, 2, RX6, (some .int))
theorem cd_X6_bite : Cond.code yX6_bite cX6_bite 2 (some .int) ∈ wds := wd_4 1 rfl rfl
theorem hy_X6_bite : yX6_bite.cls = RX6 ∧ yX6_bite.cls ≠ "java/lang/invoke/MethodHandle" ∧ yX6_bite.cls ≠ "java/lang/invoke/VarHandle" ∧ (parseMethodDescriptor yX6_bite.desc).map (fun d => d.parameters.length) = some 1 := ⟨rfl, by decide +kernel, by decide +kernel, by decide +kernel⟩
abbrev mX6_note : MS := (cX6_note, 2, RX6, none)
theorem cd_X6_note : Cond.code yX6_note cX6_note 2 none ∈ wds := wd_4 5 rfl rfl
theorem hy_X6_note : yX6_note.cls = RX6 ∧ yX6_note.cls ≠ "java/lang/invoke/MethodHandle" ∧ yX6_note.cls ≠ "java/lang/invoke/VarHandle" ∧ (parseMethodDescriptor yX6_note.desc).map (fun d => d.parameters.length) = some 0 := ⟨rfl, by decide +kernel, by decide +kernel, by decide +kernel⟩
abbrev mX6_goEat : MS := (cX6_goEat, 4, RX6, none)
theorem cd_X6_goEat : Cond.code yX6_goEat cX6_goEat 4 none ∈ wds := wd_4 9 rfl rfl
theorem hy_X6_goEat : yX6_goEat.cls = RX6 ∧ yX6_goEat.cls ≠ "java/lang/invoke/MethodHandle" ∧ yX6_goEat.cls ≠ "java/lang/invoke/VarHandle" ∧ (parseMethodDescriptor yX6_goEat.desc).map (fun d => d.parameters.length) = some 3 := ⟨rfl, by decide +kernel, by decide +kernel, by decide +kernel⟩
abbrev mX6_cake : MS := (cX6_cake, 4, RX6, (some .int))
theorem cd_X6_cake : Cond.code yX6_cake cX6_cake 4 (some .int) ∈ wds := wd_4 13 rfl rfl
theorem hy_X6_cake : yX6_cake.cls = RX6 ∧ yX6_cake.cls ≠ "java/lang/invoke/MethodHandle" ∧ yX6_cake.cls ≠ "java/lang/invoke/VarHandle" ∧ (parseMethodDescriptor yX6_cake.desc).map (fun d => d.parameters.length) = some 3 := ⟨rfl, by decide +kernel, by decide +kernel, by decide +kernel⟩
abbrev mX6_march : MS := (cX6_march, 1, RX6, (some .int))
theorem cd_X6_march : Cond.code yX6_march cX6_march 1 (some .int) ∈ wds := wd_4 17 rfl rfl
theorem hy_X6_march : yX6_march.cls = RX6 ∧ yX6_march.cls ≠ "java/lang/invoke/MethodHandle" ∧ yX6_march.cls ≠ "java/lang/invoke/VarHandle" ∧ (parseMethodDescriptor yX6_march.desc).map (fun d => d.parameters.length) = some 0 := ⟨rfl, by decide +kernel, by decide +kernel, by decide +kernel⟩
abbrev mX6_harvest : MS := (cX6_harvest, 1, RX6, (some .int))
theorem cd_X6_harvest : Cond.code yX6_harvest cX6_harvest 1 (some .int) ∈ wds := wd_4 21 rfl rfl
theorem hy_X6_harvest : yX6_harvest.cls = RX6 ∧ yX6_harvest.cls ≠ "java/lang/invoke/MethodHandle" ∧ yX6_harvest.cls ≠ "java/lang/invoke/VarHandle" ∧ (parseMethodDescriptor yX6_harvest.desc).map (fun d => d.parameters.length) = some 0 := ⟨rfl, by decide +kernel, by decide +kernel, by decide +kernel⟩
abbrev mX6_goHarvest : MS := (cX6_goHarvest, 4, RX6, (some .int))
theorem cd_X6_goHarvest : Cond.code yX6_goHarvest cX6_goHarvest 4 (some .int) ∈ wds := wd_4 25 rfl rfl
theorem hy_X6_goHarvest : yX6_goHarvest.cls = RX6 ∧ yX6_goHarvest.cls ≠ "java/lang/invoke/MethodHandle" ∧ yX6_goHarvest.cls ≠ "java/lang/invoke/VarHandle" ∧ (parseMethodDescriptor yX6_goHarvest.desc).map (fun d => d.parameters.length) = some 1 := ⟨rfl, by decide +kernel, by decide +kernel, by decide +kernel⟩
abbrev mX6_undo : MS := (cX6_undo, 2, RX6, (some .int))
theorem cd_X6_undo : Cond.code yX6_undo cX6_undo 2 (some .int) ∈ wds := wd_4 29 rfl rfl
theorem hy_X6_undo : yX6_undo.cls = RX6 ∧ yX6_undo.cls ≠ "java/lang/invoke/MethodHandle" ∧ yX6_undo.cls ≠ "java/lang/invoke/VarHandle" ∧ (parseMethodDescriptor yX6_undo.desc).map (fun d => d.parameters.length) = some 0 := ⟨rfl, by decide +kernel, by decide +kernel, by decide +kernel⟩
abbrev mX6_ahead : MS := (cX6_ahead, 4, RX6, (some .int))
theorem cd_X6_ahead : Cond.code yX6_ahead cX6_ahead 4 (some .int) ∈ wds := wd_4 33 rfl rfl
theorem hy_X6_ahead : yX6_ahead.cls = RX6 ∧ yX6_ahead.cls ≠ "java/lang/invoke/MethodHandle" ∧ yX6_ahead.cls ≠ "java/lang/invoke/VarHandle" ∧ (parseMethodDescriptor yX6_ahead.desc).map (fun d => d.parameters.length) = some 2 := ⟨rfl, by decide +kernel, by decide +kernel, by decide +kernel⟩
abbrev mX6_wants : MS := (cX6_wants, 5, RX6, (some .int))
theorem cd_X6_wants : Cond.code yX6_wants cX6_wants 5 (some .int) ∈ wds := wd_4 38 rfl rfl
theorem hy_X6_wants : yX6_wants.cls = RX6 ∧ yX6_wants.cls ≠ "java/lang/invoke/MethodHandle" ∧ yX6_wants.cls ≠ "java/lang/invoke/VarHandle" ∧ (parseMethodDescriptor yX6_wants.desc).map (fun d => d.parameters.length) = some 1 := ⟨rfl, by decide +kernel, by decide +kernel, by decide +kernel⟩
abbrev mX6_many : MS := (cX6_many, 3, RX6, (some .int))
theorem cd_X6_many : Cond.code yX6_many cX6_many 3 (some .int) ∈ wds := wd_4 41 rfl rfl
theorem hy_X6_many : yX6_many.cls = RX6 ∧ yX6_many.cls ≠ "java/lang/invoke/MethodHandle" ∧ yX6_many.cls ≠ "java/lang/invoke/VarHandle" ∧ (parseMethodDescriptor yX6_many.desc).map (fun d => d.parameters.length) = some 1 := ⟨rfl, by decide +kernel, by decide +kernel, by decide +kernel⟩
abbrev mX6_isSownBy : MS := (cX6_isSownBy, 4, RX6, (some .boolean))
theorem cd_X6_isSownBy : Cond.code yX6_isSownBy cX6_isSownBy 4 (some .boolean) ∈ wds := wd_4 45 rfl rfl
theorem hy_X6_isSownBy : yX6_isSownBy.cls = RX6 ∧ yX6_isSownBy.cls ≠ "java/lang/invoke/MethodHandle" ∧ yX6_isSownBy.cls ≠ "java/lang/invoke/VarHandle" ∧ (parseMethodDescriptor yX6_isSownBy.desc).map (fun d => d.parameters.length) = some 2 := ⟨rfl, by decide +kernel, by decide +kernel, by decide +kernel⟩
abbrev mX6_rid : MS := (cX6_rid, 2, RX6, (some .int))
theorem cd_X6_rid : Cond.code yX6_rid cX6_rid 2 (some .int) ∈ wds := wd_4 49 rfl rfl
theorem hy_X6_rid : yX6_rid.cls = RX6 ∧ yX6_rid.cls ≠ "java/lang/invoke/MethodHandle" ∧ yX6_rid.cls ≠ "java/lang/invoke/VarHandle" ∧ (parseMethodDescriptor yX6_rid.desc).map (fun d => d.parameters.length) = some 1 := ⟨rfl, by decide +kernel, by decide +kernel, by decide +kernel⟩
abbrev mX6_judge : MS := (cX6_judge, 5, RX6, (some .int))
theorem cd_X6_judge : Cond.code yX6_judge cX6_judge 5 (some .int) ∈ wds := wd_4 53 rfl rfl
theorem hy_X6_judge : yX6_judge.cls = RX6 ∧ yX6_judge.cls ≠ "java/lang/invoke/MethodHandle" ∧ yX6_judge.cls ≠ "java/lang/invoke/VarHandle" ∧ (parseMethodDescriptor yX6_judge.desc).map (fun d => d.parameters.length) = some 2 := ⟨rfl, by decide +kernel, by decide +kernel, by decide +kernel⟩
abbrev mX6_longPower : MS := (cX6_longPower, 6, RX6, (some .long))
theorem cd_X6_longPower : Cond.code yX6_longPower cX6_longPower 6 (some .long) ∈ wds := wd_4 58 rfl rfl
theorem hy_X6_longPower : yX6_longPower.cls = RX6 ∧ yX6_longPower.cls ≠ "java/lang/invoke/MethodHandle" ∧ yX6_longPower.cls ≠ "java/lang/invoke/VarHandle" ∧ (parseMethodDescriptor yX6_longPower.desc).map (fun d => d.parameters.length) = some 2 := ⟨rfl, by decide +kernel, by decide +kernel, by decide +kernel⟩
abbrev mX6_does : MS := (cX6_does, 5, RX6, (some .boolean))
theorem cd_X6_does : Cond.code yX6_does cX6_does 5 (some .boolean) ∈ wds := wd_4 62 rfl rfl
theorem hy_X6_does : yX6_does.cls = RX6 ∧ yX6_does.cls ≠ "java/lang/invoke/MethodHandle" ∧ yX6_does.cls ≠ "java/lang/invoke/VarHandle" ∧ (parseMethodDescriptor yX6_does.desc).map (fun d => d.parameters.length) = some 1 := ⟨rfl, by decide +kernel, by decide +kernel, by decide +kernel⟩
abbrev mX6_eats : MS := (cX6_eats, 4, RX6, (some .boolean))
theorem cd_X6_eats : Cond.code yX6_eats cX6_eats 4 (some .boolean) ∈ wds := wd_4 66 rfl rfl
theorem hy_X6_eats : yX6_eats.cls = RX6 ∧ yX6_eats.cls ≠ "java/lang/invoke/MethodHandle" ∧ yX6_eats.cls ≠ "java/lang/invoke/VarHandle" ∧ (parseMethodDescriptor yX6_eats.desc).map (fun d => d.parameters.length) = some 2 := ⟨rfl, by decide +kernel, by decide +kernel, by decide +kernel⟩
abbrev mX6_share : MS := (cX6_share, 6, RX6, (some .int))
theorem cd_X6_share : Cond.code yX6_share cX6_share 6 (some .int) ∈ wds := wd_4 70 rfl rfl
theorem hy_X6_share : yX6_share.cls = RX6 ∧ yX6_share.cls ≠ "java/lang/invoke/MethodHandle" ∧ yX6_share.cls ≠ "java/lang/invoke/VarHandle" ∧ (parseMethodDescriptor yX6_share.desc).map (fun d => d.parameters.length) = some 2 := ⟨rfl, by decide +kernel, by decide +kernel, by decide +kernel⟩
abbrev mX6_ways : MS := (cX6_ways, 3, RX6, (some .int))
theorem cd_X6_ways : Cond.code yX6_ways cX6_ways 3 (some .int) ∈ wds := wd_4 73 rfl rfl
theorem hy_X6_ways : yX6_ways.cls = RX6 ∧ yX6_ways.cls ≠ "java/lang/invoke/MethodHandle" ∧ yX6_ways.cls ≠ "java/lang/invoke/VarHandle" ∧ (parseMethodDescriptor yX6_ways.desc).map (fun d => d.parameters.length) = some 1 := ⟨rfl, by decide +kernel, by decide +kernel, by decide +kernel⟩
abbrev mX6_fraction : MS := (cX6_fraction, 4, RX6, (some .int))
theorem cd_X6_fraction : Cond.code yX6_fraction cX6_fraction 4 (some .int) ∈ wds := wd_4 76 rfl rfl
theorem hy_X6_fraction : yX6_fraction.cls = RX6 ∧ yX6_fraction.cls ≠ "java/lang/invoke/MethodHandle" ∧ yX6_fraction.cls ≠ "java/lang/invoke/VarHandle" ∧ (parseMethodDescriptor yX6_fraction.desc).map (fun d => d.parameters.length) = some 3 := ⟨rfl, by decide +kernel, by decide +kernel, by decide +kernel⟩
abbrev mX6_divisor : MS := (cX6_divisor, 5, RX6, (some .int))
theorem cd_X6_divisor : Cond.code yX6_divisor cX6_divisor 5 (some .int) ∈ wds := wd_4 79 rfl rfl
theorem hy_X6_divisor : yX6_divisor.cls = RX6 ∧ yX6_divisor.cls ≠ "java/lang/invoke/MethodHandle" ∧ yX6_divisor.cls ≠ "java/lang/invoke/VarHandle" ∧ (parseMethodDescriptor yX6_divisor.desc).map (fun d => d.parameters.length) = some 2 := ⟨rfl, by decide +kernel, by decide +kernel, by decide +kernel⟩
abbrev mX6_came : MS := (cX6_came, 3, RX6, (some .int))
theorem cd_X6_came : Cond.code yX6_came cX6_came 3 (some .int) ∈ wds := wd_4 83 rfl rfl
theorem hy_X6_came : yX6_came.cls = RX6 ∧ yX6_came.cls ≠ "java/lang/invoke/MethodHandle" ∧ yX6_came.cls ≠ "java/lang/invoke/VarHandle" ∧ (parseMethodDescriptor yX6_came.desc).map (fun d => d.parameters.length) = some 2 := ⟨rfl, by decide +kernel, by decide +kernel, by decide +kernel⟩
abbrev mX6_forget : MS := (cX6_forget, 2, RX6, (some .int))
theorem cd_X6_forget : Cond.code yX6_forget cX6_forget 2 (some .int) ∈ wds := wd_4 87 rfl rfl
theorem hy_X6_forget : yX6_forget.cls = RX6 ∧ yX6_forget.cls ≠ "java/lang/invoke/MethodHandle" ∧ yX6_forget.cls ≠ "java/lang/invoke/VarHandle" ∧ (parseMethodDescriptor yX6_forget.desc).map (fun d => d.parameters.length) = some 0 := ⟨rfl, by decide +kernel, by decide +kernel, by decide +kernel⟩
abbrev mX6_strangers : MS := (cX6_strangers, 5, RX6, (some .int))
theorem cd_X6_strangers : Cond.code yX6_strangers cX6_strangers 5 (some .int) ∈ wds := wd_4 91 rfl rfl
theorem hy_X6_strangers : yX6_strangers.cls = RX6 ∧ yX6_strangers.cls ≠ "java/lang/invoke/MethodHandle" ∧ yX6_strangers.cls ≠ "java/lang/invoke/VarHandle" ∧ (parseMethodDescriptor yX6_strangers.desc).map (fun d => d.parameters.length) = some 1 := ⟨rfl, by decide +kernel, by decide +kernel, by decide +kernel⟩
abbrev mX6_rests : MS := (cX6_rests, 9, RX6, (some .int))
theorem cd_X6_rests : Cond.code yX6_rests cX6_rests 9 (some .int) ∈ wds := wd_4 95 rfl rfl
theorem hy_X6_rests : yX6_rests.cls = RX6 ∧ yX6_rests.cls ≠ "java/lang/invoke/MethodHandle" ∧ yX6_rests.cls ≠ "java/lang/invoke/VarHandle" ∧ (parseMethodDescriptor yX6_rests.desc).map (fun d => d.parameters.length) = some 4 := ⟨rfl, by decide +kernel, by decide +kernel, by decide +kernel⟩
abbrev mX6_home : MS := (cX6_home, 7, RX6, (some .int))
theorem cd_X6_home : Cond.code yX6_home cX6_home 7 (some .int) ∈ wds := wd_4 99 rfl rfl
theorem hy_X6_home : yX6_home.cls = RX6 ∧ yX6_home.cls ≠ "java/lang/invoke/MethodHandle" ∧ yX6_home.cls ≠ "java/lang/invoke/VarHandle" ∧ (parseMethodDescriptor yX6_home.desc).map (fun d => d.parameters.length) = some 3 := ⟨rfl, by decide +kernel, by decide +kernel, by decide +kernel⟩
abbrev mX6_power : MS := (cX6_power, 4, RX6, (some .int))
theorem cd_X6_power : Cond.code yX6_power cX6_power 4 (some .int) ∈ wds := wd_4 103 rfl rfl
theorem hy_X6_power : yX6_power.cls = RX6 ∧ yX6_power.cls ≠ "java/lang/invoke/MethodHandle" ∧ yX6_power.cls ≠ "java/lang/invoke/VarHandle" ∧ (parseMethodDescriptor yX6_power.desc).map (fun d => d.parameters.length) = some 2 := ⟨rfl, by decide +kernel, by decide +kernel, by decide +kernel⟩
abbrev mX6_seed : MS := (cX6_seed, 5, RX6, (some .long))
theorem cd_X6_seed : Cond.code yX6_seed cX6_seed 5 (some .long) ∈ wds := wd_4 107 rfl rfl
theorem hy_X6_seed : yX6_seed.cls = RX6 ∧ yX6_seed.cls ≠ "java/lang/invoke/MethodHandle" ∧ yX6_seed.cls ≠ "java/lang/invoke/VarHandle" ∧ (parseMethodDescriptor yX6_seed.desc).map (fun d => d.parameters.length) = some 1 := ⟨rfl, by decide +kernel, by decide +kernel, by decide +kernel⟩
abbrev mX6_years : MS := (cX6_years, 5, RX6, (some .int))
theorem cd_X6_years : Cond.code yX6_years cX6_years 5 (some .int) ∈ wds := wd_4 111 rfl rfl
theorem hy_X6_years : yX6_years.cls = RX6 ∧ yX6_years.cls ≠ "java/lang/invoke/MethodHandle" ∧ yX6_years.cls ≠ "java/lang/invoke/VarHandle" ∧ (parseMethodDescriptor yX6_years.desc).map (fun d => d.parameters.length) = some 1 := ⟨rfl, by decide +kernel, by decide +kernel, by decide +kernel⟩
abbrev mX6_keep : MS := (cX6_keep, 3, RX6, (some .int))
theorem cd_X6_keep : Cond.code yX6_keep cX6_keep 3 (some .int) ∈ wds := wd_4 119 rfl rfl
theorem hy_X6_keep : yX6_keep.cls = RX6 ∧ yX6_keep.cls ≠ "java/lang/invoke/MethodHandle" ∧ yX6_keep.cls ≠ "java/lang/invoke/VarHandle" ∧ (parseMethodDescriptor yX6_keep.desc).map (fun d => d.parameters.length) = some 1 := ⟨rfl, by decide +kernel, by decide +kernel, by decide +kernel⟩
abbrev mX6_again : MS := (cX6_again, 3, RX6, (some .int))
theorem cd_X6_again : Cond.code yX6_again cX6_again 3 (some .int) ∈ wds := wd_4 123 rfl rfl
theorem hy_X6_again : yX6_again.cls = RX6 ∧ yX6_again.cls ≠ "java/lang/invoke/MethodHandle" ∧ yX6_again.cls ≠ "java/lang/invoke/VarHandle" ∧ (parseMethodDescriptor yX6_again.desc).map (fun d => d.parameters.length) = some 1 := ⟨rfl, by decide +kernel, by decide +kernel, by decide +kernel⟩
theorem ml_RL_9 : Cond.methodLink RL 9 yX5_init ∈ wds := wd_1 13 rfl rfl
theorem ml_RX5_1 : Cond.methodLink RX5 1 objectInit ∈ wds := wd_1 16 rfl rfl
theorem ml_RX5_9 : Cond.methodLink RX5 9 yX3_init ∈ wds := wd_1 21 rfl rfl
theorem ml_RX3_3 : Cond.methodLink RX3 3 objectInit ∈ wds := wd_1 24 rfl rfl
theorem ml_RX5_18 : Cond.methodLink RX5 18 yX2_init ∈ wds := wd_1 38 rfl rfl
theorem ml_RX2_3 : Cond.methodLink RX2 3 objectInit ∈ wds := wd_1 41 rfl rfl
theorem ml_RX5_25 : Cond.methodLink RX5 25 yX1_init ∈ wds := wd_1 85 rfl rfl
theorem ml_RX1_3 : Cond.methodLink RX1 3 objectInit ∈ wds := wd_1 88 rfl rfl
theorem ml_RX5_37 : Cond.methodLink RX5 37 yX0_init ∈ wds := wd_1 118 rfl rfl
theorem ml_RX0_3 : Cond.methodLink RX0 3 objectInit ∈ wds := wd_1 121 rfl rfl
theorem ml_RX0_17 : Cond.methodLink RX0 17 yX1_init ∈ wds := wd_1 124 rfl rfl
theorem ml_RX5_44 : Cond.methodLink RX5 44 yX4_init ∈ wds := wd_1 138 rfl rfl
theorem ml_RX4_3 : Cond.methodLink RX4 3 objectInit ∈ wds := wd_1 141 rfl rfl
theorem ml_RL_13 : Cond.methodLink RL 13 yX5_write ∈ wds := wd_1 185 rfl rfl
theorem ml_RX5_69 : Cond.methodLink RX5 69 yX3_append ∈ wds := wd_1 189 rfl rfl
theorem ml_RL_18 : Cond.methodLink RL 18 yX5_wipe ∈ wds := wd_1 193 rfl rfl
theorem ml_RL_23 : Cond.methodLink RL 23 yX5_fault ∈ wds := wd_1 197 rfl rfl
theorem ml_RX5_73 : Cond.methodLink RX5 73 yX3_firstFault ∈ wds := wd_1 201 rfl rfl
theorem ml_RX3_19 : Cond.methodLink RX3 19 yX3_faultOfThing ∈ wds := wd_1 205 rfl rfl
theorem ml_RL_27 : Cond.methodLink RL 27 yX5_country ∈ wds := wd_1 209 rfl rfl
theorem ml_RX5_77 : Cond.methodLink RX5 77 yX2_readFrom ∈ wds := wd_1 213 rfl rfl
theorem ml_RX2_45 : Cond.methodLink RX2 45 yX2_addField ∈ wds := wd_1 217 rfl rfl
theorem ml_RX2_52 : Cond.methodLink RX2 52 yX3_figure ∈ wds := wd_1 221 rfl rfl
theorem ml_RX2_49 : Cond.methodLink RX2 49 yX2_addEater ∈ wds := wd_1 225 rfl rfl
theorem ml_RX5_81 : Cond.methodLink RX5 81 yX1_beginAnew ∈ wds := wd_1 229 rfl rfl
theorem ml_RL_31 : Cond.methodLink RL 31 yX5_about ∈ wds := wd_1 233 rfl rfl
theorem ml_RX5_96 : Cond.methodLink RX5 96 yX1_allLoaves ∈ wds := wd_1 237 rfl rfl
theorem ml_RX5_99 : Cond.methodLink RX5 99 yX1_allSeed ∈ wds := wd_2 1 rfl rfl
theorem ml_RX5_102 : Cond.methodLink RX5 102 yX1_allDebts ∈ wds := wd_2 5 rfl rfl
theorem ml_RX1_56 : Cond.methodLink RX1 56 yX1_debtsOf ∈ wds := wd_2 9 rfl rfl
theorem ml_RX1_49 : Cond.methodLink RX1 49 yX1_debt ∈ wds := wd_2 13 rfl rfl
theorem ml_RX5_105 : Cond.methodLink RX5 105 yX1_sownFields ∈ wds := wd_2 17 rfl rfl
theorem ml_RX1_63 : Cond.methodLink RX1 63 yX1_isSown ∈ wds := wd_2 21 rfl rfl
theorem ml_RX5_108 : Cond.methodLink RX5 108 yX2_allEaters ∈ wds := wd_2 25 rfl rfl
theorem ml_RX5_111 : Cond.methodLink RX5 111 yX5_sownIfCome ∈ wds := wd_2 29 rfl rfl
theorem ml_RX5_184 : Cond.methodLink RX5 184 yX1_copyFrom ∈ wds := wd_2 33 rfl rfl
theorem ml_RX1_43 : Cond.methodLink RX1 43 arraycopyName ∈ wds := wd_2 37 rfl rfl
theorem ml_RX5_175 : Cond.methodLink RX5 175 yX1_callOut ∈ wds := wd_2 40 rfl rfl
theorem ml_RX1_81 : Cond.methodLink RX1 81 yX1_sendOut ∈ wds := wd_2 44 rfl rfl
theorem ml_RX1_88 : Cond.methodLink RX1 88 yX1_nearestOwed ∈ wds := wd_2 48 rfl rfl
theorem ml_RX1_94 : Cond.methodLink RX1 94 Lib.Math.abs.name ∈ wds := wd_2 52 rfl rfl
theorem ml_RX1_97 : Cond.methodLink RX1 97 yX1_bringSeed ∈ wds := wd_2 55 rfl rfl
theorem ml_RX1_73 : Cond.methodLink RX1 73 Lib.Math.min.name ∈ wds := wd_2 59 rfl rfl
theorem ml_RL_35 : Cond.methodLink RL 35 yX5_field ∈ wds := wd_2 62 rfl rfl
theorem ml_RX5_116 : Cond.methodLink RX5 116 yX2_hasField ∈ wds := wd_2 66 rfl rfl
theorem ml_RX5_135 : Cond.methodLink RX5 135 yX1_debtorsOf ∈ wds := wd_2 70 rfl rfl
theorem ml_RL_40 : Cond.methodLink RL 40 yX5_eater ∈ wds := wd_2 74 rfl rfl
theorem ml_RX5_138 : Cond.methodLink RX5 138 yX2_hasEater ∈ wds := wd_2 78 rfl rfl
theorem ml_RX5_150 : Cond.methodLink RX5 150 yX1_debtsOf ∈ wds := wd_2 82 rfl rfl
theorem ml_RL_44 : Cond.methodLink RL 44 yX5_owes ∈ wds := wd_2 83 rfl rfl
theorem ml_RX5_159 : Cond.methodLink RX5 159 yX1_debt ∈ wds := wd_2 87 rfl rfl
theorem ml_RL_48 : Cond.methodLink RL 48 yX5_eat ∈ wds := wd_2 88 rfl rfl
theorem ml_RX5_163 : Cond.methodLink RX5 163 yX1_canTake ∈ wds := wd_2 92 rfl rfl
theorem ml_RX1_70 : Cond.methodLink RX1 70 yX2_portionOf ∈ wds := wd_2 96 rfl rfl
theorem ml_RX5_167 : Cond.methodLink RX5 167 yX0_remember ∈ wds := wd_2 100 rfl rfl
theorem ml_RX0_27 : Cond.methodLink RX0 27 yX1_copyFrom ∈ wds := wd_2 104 rfl rfl
theorem ml_RX5_171 : Cond.methodLink RX5 171 yX1_takeLoaves ∈ wds := wd_2 105 rfl rfl
theorem ml_RL_52 : Cond.methodLink RL 52 yX5_cake ∈ wds := wd_2 109 rfl rfl
theorem ml_RL_57 : Cond.methodLink RL 57 yX5_march ∈ wds := wd_2 113 rfl rfl
theorem ml_RL_61 : Cond.methodLink RL 61 yX5_harvest ∈ wds := wd_2 117 rfl rfl
theorem ml_RX5_178 : Cond.methodLink RX5 178 yX1_reap ∈ wds := wd_2 121 rfl rfl
theorem ml_RL_65 : Cond.methodLink RL 65 yX5_undo ∈ wds := wd_2 125 rfl rfl
theorem ml_RX5_181 : Cond.methodLink RX5 181 yX0_takeBackInto ∈ wds := wd_2 129 rfl rfl
theorem ml_RL_69 : Cond.methodLink RL 69 yX5_ahead ∈ wds := wd_2 133 rfl rfl
theorem ml_RL_73 : Cond.methodLink RL 73 yX5_wants ∈ wds := wd_2 137 rfl rfl
theorem ml_RX5_187 : Cond.methodLink RX5 187 yJ6_bitCount_0f7a4 ∈ wds := wd_2 141 rfl rfl
theorem ml_RX5_192 : Cond.methodLink RX5 192 yX5_isSownIfFed ∈ wds := wd_2 147 rfl rfl
theorem ml_RX5_244 : Cond.methodLink RX5 244 yX5_tryToTake ∈ wds := wd_2 151 rfl rfl
theorem ml_RX5_247 : Cond.methodLink RX5 247 yX1_isSown ∈ wds := wd_2 155 rfl rfl
theorem ml_RL_77 : Cond.methodLink RL 77 yX5_rid ∈ wds := wd_2 156 rfl rfl
theorem ml_RX5_195 : Cond.methodLink RX5 195 yX1_sendOut ∈ wds := wd_2 160 rfl rfl
theorem ml_RL_83 : Cond.methodLink RL 83 yX5_judge ∈ wds := wd_2 161 rfl rfl
theorem ml_RX5_198 : Cond.methodLink RX5 198 yX5_withoutLast ∈ wds := wd_2 165 rfl rfl
theorem ml_RX5_204 : Cond.methodLink RX5 204 yX5_isSo ∈ wds := wd_2 169 rfl rfl
theorem ml_RL_88 : Cond.methodLink RL 88 yX5_share ∈ wds := wd_2 173 rfl rfl
theorem ml_RX5_208 : Cond.methodLink RX5 208 yX5_ordersOf ∈ wds := wd_2 177 rfl rfl
theorem ml_RX5_212 : Cond.methodLink RX5 212 yX5_partOfFraction ∈ wds := wd_2 180 rfl rfl
theorem ml_RL_93 : Cond.methodLink RL 93 yX5_came ∈ wds := wd_2 183 rfl rfl
theorem ml_RX5_216 : Cond.methodLink RX5 216 yX4_add ∈ wds := wd_2 187 rfl rfl
theorem ml_RL_97 : Cond.methodLink RL 97 yX5_forget ∈ wds := wd_2 191 rfl rfl
theorem ml_RL_101 : Cond.methodLink RL 101 yX5_strangers ∈ wds := wd_2 195 rfl rfl
theorem ml_RX5_220 : Cond.methodLink RX5 220 yX4_allowFor ∈ wds := wd_2 199 rfl rfl
theorem ml_RX4_23 : Cond.methodLink RX4 23 Lib.Math.abs.name ∈ wds := wd_2 203 rfl rfl
theorem ml_RL_105 : Cond.methodLink RL 105 yX5_rests ∈ wds := wd_2 204 rfl rfl
theorem ml_RX5_223 : Cond.methodLink RX5 223 yX5_playPair ∈ wds := wd_2 208 rfl rfl
theorem ml_RX5_227 : Cond.methodLink RX5 227 yX5_isAtRest ∈ wds := wd_2 212 rfl rfl
theorem ml_RL_110 : Cond.methodLink RL 110 yX5_home ∈ wds := wd_2 216 rfl rfl
theorem ml_RX5_230 : Cond.methodLink RX5 230 yX5_power ∈ wds := wd_2 220 rfl rfl
theorem ml_RL_115 : Cond.methodLink RL 115 yX5_seed ∈ wds := wd_2 224 rfl rfl
theorem ml_RL_120 : Cond.methodLink RL 120 yX5_years ∈ wds := wd_2 228 rfl rfl
theorem ml_RX5_241 : Cond.methodLink RX5 241 yX5_doByLot ∈ wds := wd_2 235 rfl rfl
theorem ml_RL_124 : Cond.methodLink RL 124 yX5_keep ∈ wds := wd_2 239 rfl rfl
theorem ml_RL_128 : Cond.methodLink RL 128 yX5_again ∈ wds := wd_3 3 rfl rfl
theorem ml_RL_12 : Cond.methodLink RL 12 yX6_init ∈ wds := wd_3 9 rfl rfl
theorem ml_RX6_1 : Cond.methodLink RX6 1 objectInit ∈ wds := wd_3 12 rfl rfl
theorem ml_RL_17 : Cond.methodLink RL 17 yX6_write ∈ wds := wd_3 116 rfl rfl
theorem ml_RX6_75 : Cond.methodLink RX6 75 yX6_in ∈ wds := wd_3 121 rfl rfl
theorem ml_RL_22 : Cond.methodLink RL 22 yX6_wipe ∈ wds := wd_3 124 rfl rfl
theorem ml_RL_26 : Cond.methodLink RL 26 yX6_fault ∈ wds := wd_3 128 rfl rfl
theorem ml_RX6_110 : Cond.methodLink RX6 110 yX6_readCountry ∈ wds := wd_3 132 rfl rfl
theorem ml_RX6_107 : Cond.methodLink RX6 107 yX6_readThing ∈ wds := wd_3 136 rfl rfl
theorem ml_RX6_100 : Cond.methodLink RX6 100 yX6_readOneField ∈ wds := wd_3 140 rfl rfl
theorem ml_RX6_90 : Cond.methodLink RX6 90 yX6_figure ∈ wds := wd_3 144 rfl rfl
theorem ml_RX6_104 : Cond.methodLink RX6 104 yX6_readOneEater ∈ wds := wd_3 148 rfl rfl
theorem ml_RL_30 : Cond.methodLink RL 30 yX6_country ∈ wds := wd_3 152 rfl rfl
theorem ml_RL_34 : Cond.methodLink RL 34 yX6_about ∈ wds := wd_3 156 rfl rfl
theorem ml_RX6_145 : Cond.methodLink RX6 145 yX6_loaves ∈ wds := wd_3 160 rfl rfl
theorem ml_RX6_158 : Cond.methodLink RX6 158 yX6_owedTogether ∈ wds := wd_3 163 rfl rfl
theorem ml_RX6_148 : Cond.methodLink RX6 148 yX6_owesAll ∈ wds := wd_3 167 rfl rfl
theorem ml_RX6_117 : Cond.methodLink RX6 117 yX6_owed ∈ wds := wd_3 170 rfl rfl
theorem ml_RX6_141 : Cond.methodLink RX6 141 yX6_sown ∈ wds := wd_3 173 rfl rfl
theorem ml_RX6_161 : Cond.methodLink RX6 161 yX6_marched ∈ wds := wd_3 177 rfl rfl
theorem ml_RX6_152 : Cond.methodLink RX6 152 yX6_begin ∈ wds := wd_3 181 rfl rfl
theorem ml_RX6_155 : Cond.methodLink RX6 155 yX6_goMarch ∈ wds := wd_3 185 rfl rfl
theorem ml_RX6_134 : Cond.methodLink RX6 134 yX6_has ∈ wds := wd_3 189 rfl rfl
theorem ml_RX6_138 : Cond.methodLink RX6 138 yX6_goes ∈ wds := wd_3 192 rfl rfl
theorem ml_RX6_127 : Cond.methodLink RX6 127 yX6_nearest ∈ wds := wd_3 196 rfl rfl
theorem ml_RX6_121 : Cond.methodLink RX6 121 yX6_apart ∈ wds := wd_3 200 rfl rfl
theorem ml_RX6_130 : Cond.methodLink RX6 130 yX6_capped ∈ wds := wd_3 203 rfl rfl
theorem ml_RL_39 : Cond.methodLink RL 39 yX6_field ∈ wds := wd_3 206 rfl rfl
theorem ml_RX6_167 : Cond.methodLink RX6 167 yX6_noField ∈ wds := wd_3 210 rfl rfl
theorem ml_RX6_171 : Cond.methodLink RX6 171 yX6_owing ∈ wds := wd_3 214 rfl rfl
theorem ml_RL_43 : Cond.methodLink RL 43 yX6_eater ∈ wds := wd_3 218 rfl rfl
theorem ml_RX6_174 : Cond.methodLink RX6 174 yX6_noEater ∈ wds := wd_3 222 rfl rfl
theorem ml_RL_47 : Cond.methodLink RL 47 yX6_owes ∈ wds := wd_3 226 rfl rfl
theorem ml_RL_51 : Cond.methodLink RL 51 yX6_eat ∈ wds := wd_3 230 rfl rfl
theorem ml_RX6_180 : Cond.methodLink RX6 180 yX6_canEat ∈ wds := wd_3 234 rfl rfl
theorem ml_RX6_177 : Cond.methodLink RX6 177 yX6_bite ∈ wds := wd_3 238 rfl rfl
theorem ml_RX6_184 : Cond.methodLink RX6 184 yX6_note ∈ wds := wd_4 2 rfl rfl
theorem ml_RX6_187 : Cond.methodLink RX6 187 yX6_goEat ∈ wds := wd_4 6 rfl rfl
theorem ml_RL_56 : Cond.methodLink RL 56 yX6_cake ∈ wds := wd_4 10 rfl rfl
theorem ml_RL_60 : Cond.methodLink RL 60 yX6_march ∈ wds := wd_4 14 rfl rfl
theorem ml_RL_64 : Cond.methodLink RL 64 yX6_harvest ∈ wds := wd_4 18 rfl rfl
theorem ml_RX6_191 : Cond.methodLink RX6 191 yX6_goHarvest ∈ wds := wd_4 22 rfl rfl
theorem ml_RL_68 : Cond.methodLink RL 68 yX6_undo ∈ wds := wd_4 26 rfl rfl
theorem ml_RL_72 : Cond.methodLink RL 72 yX6_ahead ∈ wds := wd_4 30 rfl rfl
theorem ml_RL_76 : Cond.methodLink RL 76 yX6_wants ∈ wds := wd_4 35 rfl rfl
theorem ml_RX6_196 : Cond.methodLink RX6 196 yX6_many ∈ wds := wd_4 39 rfl rfl
theorem ml_RX6_199 : Cond.methodLink RX6 199 yX6_isSownBy ∈ wds := wd_4 42 rfl rfl
theorem ml_RL_80 : Cond.methodLink RL 80 yX6_rid ∈ wds := wd_4 46 rfl rfl
theorem ml_RL_87 : Cond.methodLink RL 87 yX6_judge ∈ wds := wd_4 50 rfl rfl
theorem ml_RX6_209 : Cond.methodLink RX6 209 yX6_longPower ∈ wds := wd_4 56 rfl rfl
theorem ml_RX6_213 : Cond.methodLink RX6 213 yX6_does ∈ wds := wd_4 59 rfl rfl
theorem ml_RX6_202 : Cond.methodLink RX6 202 yX6_eats ∈ wds := wd_4 63 rfl rfl
theorem ml_RL_92 : Cond.methodLink RL 92 yX6_share ∈ wds := wd_4 67 rfl rfl
theorem ml_RX6_219 : Cond.methodLink RX6 219 yX6_ways ∈ wds := wd_4 71 rfl rfl
theorem ml_RX6_222 : Cond.methodLink RX6 222 yX6_fraction ∈ wds := wd_4 74 rfl rfl
theorem ml_RX6_216 : Cond.methodLink RX6 216 yX6_divisor ∈ wds := wd_4 77 rfl rfl
theorem ml_RL_96 : Cond.methodLink RL 96 yX6_came ∈ wds := wd_4 80 rfl rfl
theorem ml_RL_100 : Cond.methodLink RL 100 yX6_forget ∈ wds := wd_4 84 rfl rfl
theorem ml_RL_104 : Cond.methodLink RL 104 yX6_strangers ∈ wds := wd_4 88 rfl rfl
theorem ml_RL_109 : Cond.methodLink RL 109 yX6_rests ∈ wds := wd_4 92 rfl rfl
theorem ml_RL_114 : Cond.methodLink RL 114 yX6_home ∈ wds := wd_4 96 rfl rfl
theorem ml_RX6_240 : Cond.methodLink RX6 240 yX6_power ∈ wds := wd_4 101 rfl rfl
theorem ml_RL_119 : Cond.methodLink RL 119 yX6_seed ∈ wds := wd_4 104 rfl rfl
theorem ml_RL_123 : Cond.methodLink RL 123 yX6_years ∈ wds := wd_4 108 rfl rfl
theorem ml_RL_127 : Cond.methodLink RL 127 yX6_keep ∈ wds := wd_4 116 rfl rfl
theorem ml_RL_131 : Cond.methodLink RL 131 yX6_again ∈ wds := wd_4 120 rfl rfl
theorem im_yX5_init : Cond.instanceMethod yX5_init ∈ wds := wd_1 14 rfl rfl
theorem im_objectInit : Cond.instanceMethod objectInit ∈ wds := wd_1 17 rfl rfl
theorem im_yX3_init : Cond.instanceMethod yX3_init ∈ wds := wd_1 22 rfl rfl
theorem im_yX2_init : Cond.instanceMethod yX2_init ∈ wds := wd_1 39 rfl rfl
theorem im_yX1_init : Cond.instanceMethod yX1_init ∈ wds := wd_1 86 rfl rfl
theorem im_yX0_init : Cond.instanceMethod yX0_init ∈ wds := wd_1 119 rfl rfl
theorem im_yX4_init : Cond.instanceMethod yX4_init ∈ wds := wd_1 139 rfl rfl
theorem im_yX5_write : Cond.instanceMethod yX5_write ∈ wds := wd_1 186 rfl rfl
theorem se_yX5_write : Cond.selects RX5 yX5_write yX5_write ∈ wds := wd_1 187 rfl rfl
theorem im_yX3_append : Cond.instanceMethod yX3_append ∈ wds := wd_1 190 rfl rfl
theorem se_yX3_append : Cond.selects RX3 yX3_append yX3_append ∈ wds := wd_1 191 rfl rfl
theorem im_yX5_wipe : Cond.instanceMethod yX5_wipe ∈ wds := wd_1 194 rfl rfl
theorem se_yX5_wipe : Cond.selects RX5 yX5_wipe yX5_wipe ∈ wds := wd_1 195 rfl rfl
theorem im_yX5_fault : Cond.instanceMethod yX5_fault ∈ wds := wd_1 198 rfl rfl
theorem se_yX5_fault : Cond.selects RX5 yX5_fault yX5_fault ∈ wds := wd_1 199 rfl rfl
theorem im_yX3_firstFault : Cond.instanceMethod yX3_firstFault ∈ wds := wd_1 202 rfl rfl
theorem se_yX3_firstFault : Cond.selects RX3 yX3_firstFault yX3_firstFault ∈ wds := wd_1 203 rfl rfl
theorem im_yX3_faultOfThing : Cond.instanceMethod yX3_faultOfThing ∈ wds := wd_1 207 rfl rfl
theorem im_yX5_country : Cond.instanceMethod yX5_country ∈ wds := wd_1 210 rfl rfl
theorem se_yX5_country : Cond.selects RX5 yX5_country yX5_country ∈ wds := wd_1 211 rfl rfl
theorem im_yX2_readFrom : Cond.instanceMethod yX2_readFrom ∈ wds := wd_1 214 rfl rfl
theorem se_yX2_readFrom : Cond.selects RX2 yX2_readFrom yX2_readFrom ∈ wds := wd_1 215 rfl rfl
theorem im_yX2_addField : Cond.instanceMethod yX2_addField ∈ wds := wd_1 219 rfl rfl
theorem im_yX3_figure : Cond.instanceMethod yX3_figure ∈ wds := wd_1 222 rfl rfl
theorem se_yX3_figure : Cond.selects RX3 yX3_figure yX3_figure ∈ wds := wd_1 223 rfl rfl
theorem im_yX2_addEater : Cond.instanceMethod yX2_addEater ∈ wds := wd_1 227 rfl rfl
theorem im_yX1_beginAnew : Cond.instanceMethod yX1_beginAnew ∈ wds := wd_1 230 rfl rfl
theorem se_yX1_beginAnew : Cond.selects RX1 yX1_beginAnew yX1_beginAnew ∈ wds := wd_1 231 rfl rfl
theorem im_yX5_about : Cond.instanceMethod yX5_about ∈ wds := wd_1 234 rfl rfl
theorem se_yX5_about : Cond.selects RX5 yX5_about yX5_about ∈ wds := wd_1 235 rfl rfl
theorem im_yX1_allLoaves : Cond.instanceMethod yX1_allLoaves ∈ wds := wd_1 238 rfl rfl
theorem se_yX1_allLoaves : Cond.selects RX1 yX1_allLoaves yX1_allLoaves ∈ wds := wd_1 239 rfl rfl
theorem im_yX1_allSeed : Cond.instanceMethod yX1_allSeed ∈ wds := wd_2 2 rfl rfl
theorem se_yX1_allSeed : Cond.selects RX1 yX1_allSeed yX1_allSeed ∈ wds := wd_2 3 rfl rfl
theorem im_yX1_allDebts : Cond.instanceMethod yX1_allDebts ∈ wds := wd_2 6 rfl rfl
theorem se_yX1_allDebts : Cond.selects RX1 yX1_allDebts yX1_allDebts ∈ wds := wd_2 7 rfl rfl
theorem im_yX1_debtsOf : Cond.instanceMethod yX1_debtsOf ∈ wds := wd_2 10 rfl rfl
theorem se_yX1_debtsOf : Cond.selects RX1 yX1_debtsOf yX1_debtsOf ∈ wds := wd_2 11 rfl rfl
theorem im_yX1_debt : Cond.instanceMethod yX1_debt ∈ wds := wd_2 14 rfl rfl
theorem se_yX1_debt : Cond.selects RX1 yX1_debt yX1_debt ∈ wds := wd_2 15 rfl rfl
theorem im_yX1_sownFields : Cond.instanceMethod yX1_sownFields ∈ wds := wd_2 18 rfl rfl
theorem se_yX1_sownFields : Cond.selects RX1 yX1_sownFields yX1_sownFields ∈ wds := wd_2 19 rfl rfl
theorem im_yX1_isSown : Cond.instanceMethod yX1_isSown ∈ wds := wd_2 22 rfl rfl
theorem se_yX1_isSown : Cond.selects RX1 yX1_isSown yX1_isSown ∈ wds := wd_2 23 rfl rfl
theorem im_yX2_allEaters : Cond.instanceMethod yX2_allEaters ∈ wds := wd_2 26 rfl rfl
theorem se_yX2_allEaters : Cond.selects RX2 yX2_allEaters yX2_allEaters ∈ wds := wd_2 27 rfl rfl
theorem im_yX5_sownIfCome : Cond.instanceMethod yX5_sownIfCome ∈ wds := wd_2 31 rfl rfl
theorem im_yX1_copyFrom : Cond.instanceMethod yX1_copyFrom ∈ wds := wd_2 34 rfl rfl
theorem se_yX1_copyFrom : Cond.selects RX1 yX1_copyFrom yX1_copyFrom ∈ wds := wd_2 35 rfl rfl
theorem sm_arraycopyName : Cond.static arraycopyName ∈ wds := wd_2 38 rfl rfl
theorem nm_arraycopyName : Cond.native arraycopyName ∈ wds := wd_2 39 rfl rfl
theorem im_yX1_callOut : Cond.instanceMethod yX1_callOut ∈ wds := wd_2 41 rfl rfl
theorem se_yX1_callOut : Cond.selects RX1 yX1_callOut yX1_callOut ∈ wds := wd_2 42 rfl rfl
theorem im_yX1_sendOut : Cond.instanceMethod yX1_sendOut ∈ wds := wd_2 45 rfl rfl
theorem se_yX1_sendOut : Cond.selects RX1 yX1_sendOut yX1_sendOut ∈ wds := wd_2 46 rfl rfl
theorem im_yX1_nearestOwed : Cond.instanceMethod yX1_nearestOwed ∈ wds := wd_2 50 rfl rfl
theorem sm_Lib_Math_abs_name : Cond.static Lib.Math.abs.name ∈ wds := wd_2 53 rfl rfl
theorem im_yX1_bringSeed : Cond.instanceMethod yX1_bringSeed ∈ wds := wd_2 57 rfl rfl
theorem sm_Lib_Math_min_name : Cond.static Lib.Math.min.name ∈ wds := wd_2 60 rfl rfl
theorem im_yX5_field : Cond.instanceMethod yX5_field ∈ wds := wd_2 63 rfl rfl
theorem se_yX5_field : Cond.selects RX5 yX5_field yX5_field ∈ wds := wd_2 64 rfl rfl
theorem im_yX2_hasField : Cond.instanceMethod yX2_hasField ∈ wds := wd_2 67 rfl rfl
theorem se_yX2_hasField : Cond.selects RX2 yX2_hasField yX2_hasField ∈ wds := wd_2 68 rfl rfl
theorem im_yX1_debtorsOf : Cond.instanceMethod yX1_debtorsOf ∈ wds := wd_2 71 rfl rfl
theorem se_yX1_debtorsOf : Cond.selects RX1 yX1_debtorsOf yX1_debtorsOf ∈ wds := wd_2 72 rfl rfl
theorem im_yX5_eater : Cond.instanceMethod yX5_eater ∈ wds := wd_2 75 rfl rfl
theorem se_yX5_eater : Cond.selects RX5 yX5_eater yX5_eater ∈ wds := wd_2 76 rfl rfl
theorem im_yX2_hasEater : Cond.instanceMethod yX2_hasEater ∈ wds := wd_2 79 rfl rfl
theorem se_yX2_hasEater : Cond.selects RX2 yX2_hasEater yX2_hasEater ∈ wds := wd_2 80 rfl rfl
theorem im_yX5_owes : Cond.instanceMethod yX5_owes ∈ wds := wd_2 84 rfl rfl
theorem se_yX5_owes : Cond.selects RX5 yX5_owes yX5_owes ∈ wds := wd_2 85 rfl rfl
theorem im_yX5_eat : Cond.instanceMethod yX5_eat ∈ wds := wd_2 89 rfl rfl
theorem se_yX5_eat : Cond.selects RX5 yX5_eat yX5_eat ∈ wds := wd_2 90 rfl rfl
theorem im_yX1_canTake : Cond.instanceMethod yX1_canTake ∈ wds := wd_2 93 rfl rfl
theorem se_yX1_canTake : Cond.selects RX1 yX1_canTake yX1_canTake ∈ wds := wd_2 94 rfl rfl
theorem im_yX2_portionOf : Cond.instanceMethod yX2_portionOf ∈ wds := wd_2 97 rfl rfl
theorem se_yX2_portionOf : Cond.selects RX2 yX2_portionOf yX2_portionOf ∈ wds := wd_2 98 rfl rfl
theorem im_yX0_remember : Cond.instanceMethod yX0_remember ∈ wds := wd_2 101 rfl rfl
theorem se_yX0_remember : Cond.selects RX0 yX0_remember yX0_remember ∈ wds := wd_2 102 rfl rfl
theorem im_yX1_takeLoaves : Cond.instanceMethod yX1_takeLoaves ∈ wds := wd_2 106 rfl rfl
theorem se_yX1_takeLoaves : Cond.selects RX1 yX1_takeLoaves yX1_takeLoaves ∈ wds := wd_2 107 rfl rfl
theorem im_yX5_cake : Cond.instanceMethod yX5_cake ∈ wds := wd_2 110 rfl rfl
theorem se_yX5_cake : Cond.selects RX5 yX5_cake yX5_cake ∈ wds := wd_2 111 rfl rfl
theorem im_yX5_march : Cond.instanceMethod yX5_march ∈ wds := wd_2 114 rfl rfl
theorem se_yX5_march : Cond.selects RX5 yX5_march yX5_march ∈ wds := wd_2 115 rfl rfl
theorem im_yX5_harvest : Cond.instanceMethod yX5_harvest ∈ wds := wd_2 118 rfl rfl
theorem se_yX5_harvest : Cond.selects RX5 yX5_harvest yX5_harvest ∈ wds := wd_2 119 rfl rfl
theorem im_yX1_reap : Cond.instanceMethod yX1_reap ∈ wds := wd_2 122 rfl rfl
theorem se_yX1_reap : Cond.selects RX1 yX1_reap yX1_reap ∈ wds := wd_2 123 rfl rfl
theorem im_yX5_undo : Cond.instanceMethod yX5_undo ∈ wds := wd_2 126 rfl rfl
theorem se_yX5_undo : Cond.selects RX5 yX5_undo yX5_undo ∈ wds := wd_2 127 rfl rfl
theorem im_yX0_takeBackInto : Cond.instanceMethod yX0_takeBackInto ∈ wds := wd_2 130 rfl rfl
theorem se_yX0_takeBackInto : Cond.selects RX0 yX0_takeBackInto yX0_takeBackInto ∈ wds := wd_2 131 rfl rfl
theorem im_yX5_ahead : Cond.instanceMethod yX5_ahead ∈ wds := wd_2 134 rfl rfl
theorem se_yX5_ahead : Cond.selects RX5 yX5_ahead yX5_ahead ∈ wds := wd_2 135 rfl rfl
theorem im_yX5_wants : Cond.instanceMethod yX5_wants ∈ wds := wd_2 138 rfl rfl
theorem se_yX5_wants : Cond.selects RX5 yX5_wants yX5_wants ∈ wds := wd_2 139 rfl rfl
theorem sm_yJ6_bitCount_0f7a4 : Cond.static yJ6_bitCount_0f7a4 ∈ wds := wd_2 142 rfl rfl
theorem im_yX5_isSownIfFed : Cond.instanceMethod yX5_isSownIfFed ∈ wds := wd_2 149 rfl rfl
theorem im_yX5_tryToTake : Cond.instanceMethod yX5_tryToTake ∈ wds := wd_2 153 rfl rfl
theorem im_yX5_rid : Cond.instanceMethod yX5_rid ∈ wds := wd_2 157 rfl rfl
theorem se_yX5_rid : Cond.selects RX5 yX5_rid yX5_rid ∈ wds := wd_2 158 rfl rfl
theorem im_yX5_judge : Cond.instanceMethod yX5_judge ∈ wds := wd_2 162 rfl rfl
theorem se_yX5_judge : Cond.selects RX5 yX5_judge yX5_judge ∈ wds := wd_2 163 rfl rfl
theorem sm_yX5_withoutLast : Cond.static yX5_withoutLast ∈ wds := wd_2 166 rfl rfl
theorem im_yX5_isSo : Cond.instanceMethod yX5_isSo ∈ wds := wd_2 171 rfl rfl
theorem im_yX5_share : Cond.instanceMethod yX5_share ∈ wds := wd_2 174 rfl rfl
theorem se_yX5_share : Cond.selects RX5 yX5_share yX5_share ∈ wds := wd_2 175 rfl rfl
theorem sm_yX5_ordersOf : Cond.static yX5_ordersOf ∈ wds := wd_2 178 rfl rfl
theorem sm_yX5_partOfFraction : Cond.static yX5_partOfFraction ∈ wds := wd_2 181 rfl rfl
theorem im_yX5_came : Cond.instanceMethod yX5_came ∈ wds := wd_2 184 rfl rfl
theorem se_yX5_came : Cond.selects RX5 yX5_came yX5_came ∈ wds := wd_2 185 rfl rfl
theorem im_yX4_add : Cond.instanceMethod yX4_add ∈ wds := wd_2 188 rfl rfl
theorem se_yX4_add : Cond.selects RX4 yX4_add yX4_add ∈ wds := wd_2 189 rfl rfl
theorem im_yX5_forget : Cond.instanceMethod yX5_forget ∈ wds := wd_2 192 rfl rfl
theorem se_yX5_forget : Cond.selects RX5 yX5_forget yX5_forget ∈ wds := wd_2 193 rfl rfl
theorem im_yX5_strangers : Cond.instanceMethod yX5_strangers ∈ wds := wd_2 196 rfl rfl
theorem se_yX5_strangers : Cond.selects RX5 yX5_strangers yX5_strangers ∈ wds := wd_2 197 rfl rfl
theorem im_yX4_allowFor : Cond.instanceMethod yX4_allowFor ∈ wds := wd_2 200 rfl rfl
theorem se_yX4_allowFor : Cond.selects RX4 yX4_allowFor yX4_allowFor ∈ wds := wd_2 201 rfl rfl
theorem im_yX5_rests : Cond.instanceMethod yX5_rests ∈ wds := wd_2 205 rfl rfl
theorem se_yX5_rests : Cond.selects RX5 yX5_rests yX5_rests ∈ wds := wd_2 206 rfl rfl
theorem im_yX5_playPair : Cond.instanceMethod yX5_playPair ∈ wds := wd_2 210 rfl rfl
theorem im_yX5_isAtRest : Cond.instanceMethod yX5_isAtRest ∈ wds := wd_2 214 rfl rfl
theorem im_yX5_home : Cond.instanceMethod yX5_home ∈ wds := wd_2 217 rfl rfl
theorem se_yX5_home : Cond.selects RX5 yX5_home yX5_home ∈ wds := wd_2 218 rfl rfl
theorem sm_yX5_power : Cond.static yX5_power ∈ wds := wd_2 221 rfl rfl
theorem im_yX5_seed : Cond.instanceMethod yX5_seed ∈ wds := wd_2 225 rfl rfl
theorem se_yX5_seed : Cond.selects RX5 yX5_seed yX5_seed ∈ wds := wd_2 226 rfl rfl
theorem im_yX5_years : Cond.instanceMethod yX5_years ∈ wds := wd_2 229 rfl rfl
theorem se_yX5_years : Cond.selects RX5 yX5_years yX5_years ∈ wds := wd_2 230 rfl rfl
theorem im_yX5_doByLot : Cond.instanceMethod yX5_doByLot ∈ wds := wd_2 237 rfl rfl
theorem im_yX5_keep : Cond.instanceMethod yX5_keep ∈ wds := wd_3 0 rfl rfl
theorem se_yX5_keep : Cond.selects RX5 yX5_keep yX5_keep ∈ wds := wd_3 1 rfl rfl
theorem im_yX5_again : Cond.instanceMethod yX5_again ∈ wds := wd_3 4 rfl rfl
theorem se_yX5_again : Cond.selects RX5 yX5_again yX5_again ∈ wds := wd_3 5 rfl rfl
theorem im_yX6_init : Cond.instanceMethod yX6_init ∈ wds := wd_3 10 rfl rfl
theorem im_yX6_write : Cond.instanceMethod yX6_write ∈ wds := wd_3 117 rfl rfl
theorem se_yX6_write : Cond.selects RX6 yX6_write yX6_write ∈ wds := wd_3 118 rfl rfl
theorem sm_yX6_in : Cond.static yX6_in ∈ wds := wd_3 122 rfl rfl
theorem im_yX6_wipe : Cond.instanceMethod yX6_wipe ∈ wds := wd_3 125 rfl rfl
theorem se_yX6_wipe : Cond.selects RX6 yX6_wipe yX6_wipe ∈ wds := wd_3 126 rfl rfl
theorem im_yX6_fault : Cond.instanceMethod yX6_fault ∈ wds := wd_3 129 rfl rfl
theorem se_yX6_fault : Cond.selects RX6 yX6_fault yX6_fault ∈ wds := wd_3 130 rfl rfl
theorem im_yX6_readCountry : Cond.instanceMethod yX6_readCountry ∈ wds := wd_3 134 rfl rfl
theorem im_yX6_readThing : Cond.instanceMethod yX6_readThing ∈ wds := wd_3 138 rfl rfl
theorem im_yX6_readOneField : Cond.instanceMethod yX6_readOneField ∈ wds := wd_3 142 rfl rfl
theorem im_yX6_figure : Cond.instanceMethod yX6_figure ∈ wds := wd_3 146 rfl rfl
theorem im_yX6_readOneEater : Cond.instanceMethod yX6_readOneEater ∈ wds := wd_3 150 rfl rfl
theorem im_yX6_country : Cond.instanceMethod yX6_country ∈ wds := wd_3 153 rfl rfl
theorem se_yX6_country : Cond.selects RX6 yX6_country yX6_country ∈ wds := wd_3 154 rfl rfl
theorem im_yX6_about : Cond.instanceMethod yX6_about ∈ wds := wd_3 157 rfl rfl
theorem se_yX6_about : Cond.selects RX6 yX6_about yX6_about ∈ wds := wd_3 158 rfl rfl
theorem sm_yX6_loaves : Cond.static yX6_loaves ∈ wds := wd_3 161 rfl rfl
theorem im_yX6_owedTogether : Cond.instanceMethod yX6_owedTogether ∈ wds := wd_3 165 rfl rfl
theorem sm_yX6_owesAll : Cond.static yX6_owesAll ∈ wds := wd_3 168 rfl rfl
theorem sm_yX6_owed : Cond.static yX6_owed ∈ wds := wd_3 171 rfl rfl
theorem im_yX6_sown : Cond.instanceMethod yX6_sown ∈ wds := wd_3 175 rfl rfl
theorem im_yX6_marched : Cond.instanceMethod yX6_marched ∈ wds := wd_3 179 rfl rfl
theorem im_yX6_begin : Cond.instanceMethod yX6_begin ∈ wds := wd_3 183 rfl rfl
theorem im_yX6_goMarch : Cond.instanceMethod yX6_goMarch ∈ wds := wd_3 187 rfl rfl
theorem sm_yX6_has : Cond.static yX6_has ∈ wds := wd_3 190 rfl rfl
theorem im_yX6_goes : Cond.instanceMethod yX6_goes ∈ wds := wd_3 194 rfl rfl
theorem im_yX6_nearest : Cond.instanceMethod yX6_nearest ∈ wds := wd_3 198 rfl rfl
theorem sm_yX6_apart : Cond.static yX6_apart ∈ wds := wd_3 201 rfl rfl
theorem sm_yX6_capped : Cond.static yX6_capped ∈ wds := wd_3 204 rfl rfl
theorem im_yX6_field : Cond.instanceMethod yX6_field ∈ wds := wd_3 207 rfl rfl
theorem se_yX6_field : Cond.selects RX6 yX6_field yX6_field ∈ wds := wd_3 208 rfl rfl
theorem im_yX6_noField : Cond.instanceMethod yX6_noField ∈ wds := wd_3 212 rfl rfl
theorem im_yX6_owing : Cond.instanceMethod yX6_owing ∈ wds := wd_3 216 rfl rfl
theorem im_yX6_eater : Cond.instanceMethod yX6_eater ∈ wds := wd_3 219 rfl rfl
theorem se_yX6_eater : Cond.selects RX6 yX6_eater yX6_eater ∈ wds := wd_3 220 rfl rfl
theorem im_yX6_noEater : Cond.instanceMethod yX6_noEater ∈ wds := wd_3 224 rfl rfl
theorem im_yX6_owes : Cond.instanceMethod yX6_owes ∈ wds := wd_3 227 rfl rfl
theorem se_yX6_owes : Cond.selects RX6 yX6_owes yX6_owes ∈ wds := wd_3 228 rfl rfl
theorem im_yX6_eat : Cond.instanceMethod yX6_eat ∈ wds := wd_3 231 rfl rfl
theorem se_yX6_eat : Cond.selects RX6 yX6_eat yX6_eat ∈ wds := wd_3 232 rfl rfl
theorem im_yX6_canEat : Cond.instanceMethod yX6_canEat ∈ wds := wd_3 236 rfl rfl
theorem im_yX6_bite : Cond.instanceMethod yX6_bite ∈ wds := wd_4 0 rfl rfl
theorem im_yX6_note : Cond.instanceMethod yX6_note ∈ wds := wd_4 4 rfl rfl
theorem im_yX6_goEat : Cond.instanceMethod yX6_goEat ∈ wds := wd_4 8 rfl rfl
theorem im_yX6_cake : Cond.instanceMethod yX6_cake ∈ wds := wd_4 11 rfl rfl
theorem se_yX6_cake : Cond.selects RX6 yX6_cake yX6_cake ∈ wds := wd_4 12 rfl rfl
theorem im_yX6_march : Cond.instanceMethod yX6_march ∈ wds := wd_4 15 rfl rfl
theorem se_yX6_march : Cond.selects RX6 yX6_march yX6_march ∈ wds := wd_4 16 rfl rfl
theorem im_yX6_harvest : Cond.instanceMethod yX6_harvest ∈ wds := wd_4 19 rfl rfl
theorem se_yX6_harvest : Cond.selects RX6 yX6_harvest yX6_harvest ∈ wds := wd_4 20 rfl rfl
theorem im_yX6_goHarvest : Cond.instanceMethod yX6_goHarvest ∈ wds := wd_4 24 rfl rfl
theorem im_yX6_undo : Cond.instanceMethod yX6_undo ∈ wds := wd_4 27 rfl rfl
theorem se_yX6_undo : Cond.selects RX6 yX6_undo yX6_undo ∈ wds := wd_4 28 rfl rfl
theorem im_yX6_ahead : Cond.instanceMethod yX6_ahead ∈ wds := wd_4 31 rfl rfl
theorem se_yX6_ahead : Cond.selects RX6 yX6_ahead yX6_ahead ∈ wds := wd_4 32 rfl rfl
theorem im_yX6_wants : Cond.instanceMethod yX6_wants ∈ wds := wd_4 36 rfl rfl
theorem se_yX6_wants : Cond.selects RX6 yX6_wants yX6_wants ∈ wds := wd_4 37 rfl rfl
theorem sm_yX6_many : Cond.static yX6_many ∈ wds := wd_4 40 rfl rfl
theorem im_yX6_isSownBy : Cond.instanceMethod yX6_isSownBy ∈ wds := wd_4 44 rfl rfl
theorem im_yX6_rid : Cond.instanceMethod yX6_rid ∈ wds := wd_4 47 rfl rfl
theorem se_yX6_rid : Cond.selects RX6 yX6_rid yX6_rid ∈ wds := wd_4 48 rfl rfl
theorem im_yX6_judge : Cond.instanceMethod yX6_judge ∈ wds := wd_4 51 rfl rfl
theorem se_yX6_judge : Cond.selects RX6 yX6_judge yX6_judge ∈ wds := wd_4 52 rfl rfl
theorem sm_yX6_longPower : Cond.static yX6_longPower ∈ wds := wd_4 57 rfl rfl
theorem im_yX6_does : Cond.instanceMethod yX6_does ∈ wds := wd_4 61 rfl rfl
theorem im_yX6_eats : Cond.instanceMethod yX6_eats ∈ wds := wd_4 65 rfl rfl
theorem im_yX6_share : Cond.instanceMethod yX6_share ∈ wds := wd_4 68 rfl rfl
theorem se_yX6_share : Cond.selects RX6 yX6_share yX6_share ∈ wds := wd_4 69 rfl rfl
theorem sm_yX6_ways : Cond.static yX6_ways ∈ wds := wd_4 72 rfl rfl
theorem sm_yX6_fraction : Cond.static yX6_fraction ∈ wds := wd_4 75 rfl rfl
theorem sm_yX6_divisor : Cond.static yX6_divisor ∈ wds := wd_4 78 rfl rfl
theorem im_yX6_came : Cond.instanceMethod yX6_came ∈ wds := wd_4 81 rfl rfl
theorem se_yX6_came : Cond.selects RX6 yX6_came yX6_came ∈ wds := wd_4 82 rfl rfl
theorem im_yX6_forget : Cond.instanceMethod yX6_forget ∈ wds := wd_4 85 rfl rfl
theorem se_yX6_forget : Cond.selects RX6 yX6_forget yX6_forget ∈ wds := wd_4 86 rfl rfl
theorem im_yX6_strangers : Cond.instanceMethod yX6_strangers ∈ wds := wd_4 89 rfl rfl
theorem se_yX6_strangers : Cond.selects RX6 yX6_strangers yX6_strangers ∈ wds := wd_4 90 rfl rfl
theorem im_yX6_rests : Cond.instanceMethod yX6_rests ∈ wds := wd_4 93 rfl rfl
theorem se_yX6_rests : Cond.selects RX6 yX6_rests yX6_rests ∈ wds := wd_4 94 rfl rfl
theorem im_yX6_home : Cond.instanceMethod yX6_home ∈ wds := wd_4 97 rfl rfl
theorem se_yX6_home : Cond.selects RX6 yX6_home yX6_home ∈ wds := wd_4 98 rfl rfl
theorem sm_yX6_power : Cond.static yX6_power ∈ wds := wd_4 102 rfl rfl
theorem im_yX6_seed : Cond.instanceMethod yX6_seed ∈ wds := wd_4 105 rfl rfl
theorem se_yX6_seed : Cond.selects RX6 yX6_seed yX6_seed ∈ wds := wd_4 106 rfl rfl
theorem im_yX6_years : Cond.instanceMethod yX6_years ∈ wds := wd_4 109 rfl rfl
theorem se_yX6_years : Cond.selects RX6 yX6_years yX6_years ∈ wds := wd_4 110 rfl rfl
theorem im_yX6_keep : Cond.instanceMethod yX6_keep ∈ wds := wd_4 117 rfl rfl
theorem se_yX6_keep : Cond.selects RX6 yX6_keep yX6_keep ∈ wds := wd_4 118 rfl rfl
theorem im_yX6_again : Cond.instanceMethod yX6_again ∈ wds := wd_4 121 rfl rfl
theorem se_yX6_again : Cond.selects RX6 yX6_again yX6_again ∈ wds := wd_4 122 rfl rfl
theorem se_yX3_faultOfThing : Cond.selects RX3 yX3_faultOfThing yX3_faultOfThing ∈ wds := wd_at 0 rfl rfl
theorem se_yX2_addField : Cond.selects RX2 yX2_addField yX2_addField ∈ wds := wd_at 1 rfl rfl
theorem se_yX2_addEater : Cond.selects RX2 yX2_addEater yX2_addEater ∈ wds := wd_at 2 rfl rfl
theorem se_yX5_sownIfCome : Cond.selects RX5 yX5_sownIfCome yX5_sownIfCome ∈ wds := wd_at 3 rfl rfl
theorem se_yX1_nearestOwed : Cond.selects RX1 yX1_nearestOwed yX1_nearestOwed ∈ wds := wd_at 4 rfl rfl
theorem se_yX1_bringSeed : Cond.selects RX1 yX1_bringSeed yX1_bringSeed ∈ wds := wd_at 5 rfl rfl
theorem se_yX5_isSownIfFed : Cond.selects RX5 yX5_isSownIfFed yX5_isSownIfFed ∈ wds := wd_at 6 rfl rfl
theorem se_yX5_tryToTake : Cond.selects RX5 yX5_tryToTake yX5_tryToTake ∈ wds := wd_at 7 rfl rfl
theorem se_yX5_isSo : Cond.selects RX5 yX5_isSo yX5_isSo ∈ wds := wd_at 8 rfl rfl
theorem se_yX5_playPair : Cond.selects RX5 yX5_playPair yX5_playPair ∈ wds := wd_at 9 rfl rfl
theorem se_yX5_isAtRest : Cond.selects RX5 yX5_isAtRest yX5_isAtRest ∈ wds := wd_at 10 rfl rfl
theorem se_yX5_doByLot : Cond.selects RX5 yX5_doByLot yX5_doByLot ∈ wds := wd_at 11 rfl rfl
theorem se_yX6_readCountry : Cond.selects RX6 yX6_readCountry yX6_readCountry ∈ wds := wd_at 12 rfl rfl
theorem se_yX6_readThing : Cond.selects RX6 yX6_readThing yX6_readThing ∈ wds := wd_at 13 rfl rfl
theorem se_yX6_readOneField : Cond.selects RX6 yX6_readOneField yX6_readOneField ∈ wds := wd_at 14 rfl rfl
theorem se_yX6_figure : Cond.selects RX6 yX6_figure yX6_figure ∈ wds := wd_at 15 rfl rfl
theorem se_yX6_readOneEater : Cond.selects RX6 yX6_readOneEater yX6_readOneEater ∈ wds := wd_at 16 rfl rfl
theorem se_yX6_owedTogether : Cond.selects RX6 yX6_owedTogether yX6_owedTogether ∈ wds := wd_at 17 rfl rfl
theorem se_yX6_sown : Cond.selects RX6 yX6_sown yX6_sown ∈ wds := wd_at 18 rfl rfl
theorem se_yX6_marched : Cond.selects RX6 yX6_marched yX6_marched ∈ wds := wd_at 19 rfl rfl
theorem se_yX6_begin : Cond.selects RX6 yX6_begin yX6_begin ∈ wds := wd_at 20 rfl rfl
theorem se_yX6_goMarch : Cond.selects RX6 yX6_goMarch yX6_goMarch ∈ wds := wd_at 21 rfl rfl
theorem se_yX6_goes : Cond.selects RX6 yX6_goes yX6_goes ∈ wds := wd_at 22 rfl rfl
theorem se_yX6_nearest : Cond.selects RX6 yX6_nearest yX6_nearest ∈ wds := wd_at 23 rfl rfl
theorem se_yX6_noField : Cond.selects RX6 yX6_noField yX6_noField ∈ wds := wd_at 24 rfl rfl
theorem se_yX6_owing : Cond.selects RX6 yX6_owing yX6_owing ∈ wds := wd_at 25 rfl rfl
theorem se_yX6_noEater : Cond.selects RX6 yX6_noEater yX6_noEater ∈ wds := wd_at 26 rfl rfl
theorem se_yX6_canEat : Cond.selects RX6 yX6_canEat yX6_canEat ∈ wds := wd_at 27 rfl rfl
theorem se_yX6_bite : Cond.selects RX6 yX6_bite yX6_bite ∈ wds := wd_at 28 rfl rfl
theorem se_yX6_note : Cond.selects RX6 yX6_note yX6_note ∈ wds := wd_at 29 rfl rfl
theorem se_yX6_goEat : Cond.selects RX6 yX6_goEat yX6_goEat ∈ wds := wd_at 30 rfl rfl
theorem se_yX6_goHarvest : Cond.selects RX6 yX6_goHarvest yX6_goHarvest ∈ wds := wd_at 31 rfl rfl
theorem se_yX6_isSownBy : Cond.selects RX6 yX6_isSownBy yX6_isSownBy ∈ wds := wd_at 32 rfl rfl
theorem se_yX6_does : Cond.selects RX6 yX6_does yX6_does ∈ wds := wd_at 33 rfl rfl
theorem se_yX6_eats : Cond.selects RX6 yX6_eats yX6_eats ∈ wds := wd_at 34 rfl rfl
theorem cd_objectInit : Cond.code objectInit ⟨#[0xb1]⟩ 1 none ∈ wds := wd_1 18 rfl rfl
theorem cd_Lib_Math_abs_name : Cond.code Lib.Math.abs.name Lib.Math.abs.code 1 (some .int) ∈ wds := wd_2 54 rfl rfl
theorem cd_Lib_Math_min_name : Cond.code Lib.Math.min.name Lib.Math.min.code 2 (some .int) ∈ wds := wd_2 61 rfl rfl
theorem k_RL_13 : Cond.methodLink RL 13 yX5_write ∈ wds ∧ Cond.instanceMethod yX5_write ∈ wds ∧ Cond.selects RX5 yX5_write yX5_write ∈ wds ∧ Cond.initialized RX5 ∈ wds ∧ Cond.code yX5_write cX5_write 2 (some .int) ∈ wds := ⟨ml_RL_13, im_yX5_write, se_yX5_write, in_RX5, cd_X5_write⟩
theorem k_RX5_69 : Cond.methodLink RX5 69 yX3_append ∈ wds ∧ Cond.instanceMethod yX3_append ∈ wds ∧ Cond.selects RX3 yX3_append yX3_append ∈ wds ∧ Cond.initialized RX3 ∈ wds ∧ Cond.code yX3_append cX3_append 2 none ∈ wds := ⟨ml_RX5_69, im_yX3_append, se_yX3_append, in_RX3, cd_X3_append⟩
theorem k_RL_18 : Cond.methodLink RL 18 yX5_wipe ∈ wds ∧ Cond.instanceMethod yX5_wipe ∈ wds ∧ Cond.selects RX5 yX5_wipe yX5_wipe ∈ wds ∧ Cond.initialized RX5 ∈ wds ∧ Cond.code yX5_wipe cX5_wipe 2 (some .int) ∈ wds := ⟨ml_RL_18, im_yX5_wipe, se_yX5_wipe, in_RX5, cd_X5_wipe⟩
theorem k_RL_23 : Cond.methodLink RL 23 yX5_fault ∈ wds ∧ Cond.instanceMethod yX5_fault ∈ wds ∧ Cond.selects RX5 yX5_fault yX5_fault ∈ wds ∧ Cond.initialized RX5 ∈ wds ∧ Cond.code yX5_fault cX5_fault 1 (some .int) ∈ wds := ⟨ml_RL_23, im_yX5_fault, se_yX5_fault, in_RX5, cd_X5_fault⟩
theorem k_RX5_73 : Cond.methodLink RX5 73 yX3_firstFault ∈ wds ∧ Cond.instanceMethod yX3_firstFault ∈ wds ∧ Cond.selects RX3 yX3_firstFault yX3_firstFault ∈ wds ∧ Cond.initialized RX3 ∈ wds ∧ Cond.code yX3_firstFault cX3_firstFault 6 (some .int) ∈ wds := ⟨ml_RX5_73, im_yX3_firstFault, se_yX3_firstFault, in_RX3, cd_X3_firstFault⟩
theorem k_RX3_19 : Cond.methodLink RX3 19 yX3_faultOfThing ∈ wds ∧ Cond.instanceMethod yX3_faultOfThing ∈ wds ∧ Cond.selects RX3 yX3_faultOfThing yX3_faultOfThing ∈ wds ∧ Cond.initialized RX3 ∈ wds ∧ Cond.code yX3_faultOfThing cX3_faultOfThing 7 (some .int) ∈ wds := ⟨ml_RX3_19, im_yX3_faultOfThing, se_yX3_faultOfThing, in_RX3, cd_X3_faultOfThing⟩
theorem k_RL_27 : Cond.methodLink RL 27 yX5_country ∈ wds ∧ Cond.instanceMethod yX5_country ∈ wds ∧ Cond.selects RX5 yX5_country yX5_country ∈ wds ∧ Cond.initialized RX5 ∈ wds ∧ Cond.code yX5_country cX5_country 2 (some .int) ∈ wds := ⟨ml_RL_27, im_yX5_country, se_yX5_country, in_RX5, cd_X5_country⟩
theorem k_RX5_77 : Cond.methodLink RX5 77 yX2_readFrom ∈ wds ∧ Cond.instanceMethod yX2_readFrom ∈ wds ∧ Cond.selects RX2 yX2_readFrom yX2_readFrom ∈ wds ∧ Cond.initialized RX2 ∈ wds ∧ Cond.code yX2_readFrom cX2_readFrom 3 none ∈ wds := ⟨ml_RX5_77, im_yX2_readFrom, se_yX2_readFrom, in_RX2, cd_X2_readFrom⟩
theorem k_RX2_45 : Cond.methodLink RX2 45 yX2_addField ∈ wds ∧ Cond.instanceMethod yX2_addField ∈ wds ∧ Cond.selects RX2 yX2_addField yX2_addField ∈ wds ∧ Cond.initialized RX2 ∈ wds ∧ Cond.code yX2_addField cX2_addField 3 none ∈ wds := ⟨ml_RX2_45, im_yX2_addField, se_yX2_addField, in_RX2, cd_X2_addField⟩
theorem k_RX2_52 : Cond.methodLink RX2 52 yX3_figure ∈ wds ∧ Cond.instanceMethod yX3_figure ∈ wds ∧ Cond.selects RX3 yX3_figure yX3_figure ∈ wds ∧ Cond.initialized RX3 ∈ wds ∧ Cond.code yX3_figure cX3_figure 2 (some .int) ∈ wds := ⟨ml_RX2_52, im_yX3_figure, se_yX3_figure, in_RX3, cd_X3_figure⟩
theorem k_RX2_49 : Cond.methodLink RX2 49 yX2_addEater ∈ wds ∧ Cond.instanceMethod yX2_addEater ∈ wds ∧ Cond.selects RX2 yX2_addEater yX2_addEater ∈ wds ∧ Cond.initialized RX2 ∈ wds ∧ Cond.code yX2_addEater cX2_addEater 3 none ∈ wds := ⟨ml_RX2_49, im_yX2_addEater, se_yX2_addEater, in_RX2, cd_X2_addEater⟩
theorem k_RX5_81 : Cond.methodLink RX5 81 yX1_beginAnew ∈ wds ∧ Cond.instanceMethod yX1_beginAnew ∈ wds ∧ Cond.selects RX1 yX1_beginAnew yX1_beginAnew ∈ wds ∧ Cond.initialized RX1 ∈ wds ∧ Cond.code yX1_beginAnew cX1_beginAnew 2 none ∈ wds := ⟨ml_RX5_81, im_yX1_beginAnew, se_yX1_beginAnew, in_RX1, cd_X1_beginAnew⟩
theorem k_RL_31 : Cond.methodLink RL 31 yX5_about ∈ wds ∧ Cond.instanceMethod yX5_about ∈ wds ∧ Cond.selects RX5 yX5_about yX5_about ∈ wds ∧ Cond.initialized RX5 ∈ wds ∧ Cond.code yX5_about cX5_about 2 (some .int) ∈ wds := ⟨ml_RL_31, im_yX5_about, se_yX5_about, in_RX5, cd_X5_about⟩
theorem k_RX5_96 : Cond.methodLink RX5 96 yX1_allLoaves ∈ wds ∧ Cond.instanceMethod yX1_allLoaves ∈ wds ∧ Cond.selects RX1 yX1_allLoaves yX1_allLoaves ∈ wds ∧ Cond.initialized RX1 ∈ wds ∧ Cond.code yX1_allLoaves cX1_allLoaves 3 (some .int) ∈ wds := ⟨ml_RX5_96, im_yX1_allLoaves, se_yX1_allLoaves, in_RX1, cd_X1_allLoaves⟩
theorem k_RX5_99 : Cond.methodLink RX5 99 yX1_allSeed ∈ wds ∧ Cond.instanceMethod yX1_allSeed ∈ wds ∧ Cond.selects RX1 yX1_allSeed yX1_allSeed ∈ wds ∧ Cond.initialized RX1 ∈ wds ∧ Cond.code yX1_allSeed cX1_allSeed 3 (some .int) ∈ wds := ⟨ml_RX5_99, im_yX1_allSeed, se_yX1_allSeed, in_RX1, cd_X1_allSeed⟩
theorem k_RX5_102 : Cond.methodLink RX5 102 yX1_allDebts ∈ wds ∧ Cond.instanceMethod yX1_allDebts ∈ wds ∧ Cond.selects RX1 yX1_allDebts yX1_allDebts ∈ wds ∧ Cond.initialized RX1 ∈ wds ∧ Cond.code yX1_allDebts cX1_allDebts 3 (some .int) ∈ wds := ⟨ml_RX5_102, im_yX1_allDebts, se_yX1_allDebts, in_RX1, cd_X1_allDebts⟩
theorem k_RX1_56 : Cond.methodLink RX1 56 yX1_debtsOf ∈ wds ∧ Cond.instanceMethod yX1_debtsOf ∈ wds ∧ Cond.selects RX1 yX1_debtsOf yX1_debtsOf ∈ wds ∧ Cond.initialized RX1 ∈ wds ∧ Cond.code yX1_debtsOf cX1_debtsOf 4 (some .int) ∈ wds := ⟨ml_RX1_56, im_yX1_debtsOf, se_yX1_debtsOf, in_RX1, cd_X1_debtsOf⟩
theorem k_RX1_49 : Cond.methodLink RX1 49 yX1_debt ∈ wds ∧ Cond.instanceMethod yX1_debt ∈ wds ∧ Cond.selects RX1 yX1_debt yX1_debt ∈ wds ∧ Cond.initialized RX1 ∈ wds ∧ Cond.code yX1_debt cX1_debt 3 (some .int) ∈ wds := ⟨ml_RX1_49, im_yX1_debt, se_yX1_debt, in_RX1, cd_X1_debt⟩
theorem k_RX5_105 : Cond.methodLink RX5 105 yX1_sownFields ∈ wds ∧ Cond.instanceMethod yX1_sownFields ∈ wds ∧ Cond.selects RX1 yX1_sownFields yX1_sownFields ∈ wds ∧ Cond.initialized RX1 ∈ wds ∧ Cond.code yX1_sownFields cX1_sownFields 3 (some .int) ∈ wds := ⟨ml_RX5_105, im_yX1_sownFields, se_yX1_sownFields, in_RX1, cd_X1_sownFields⟩
theorem k_RX1_63 : Cond.methodLink RX1 63 yX1_isSown ∈ wds ∧ Cond.instanceMethod yX1_isSown ∈ wds ∧ Cond.selects RX1 yX1_isSown yX1_isSown ∈ wds ∧ Cond.initialized RX1 ∈ wds ∧ Cond.code yX1_isSown cX1_isSown 2 (some .boolean) ∈ wds := ⟨ml_RX1_63, im_yX1_isSown, se_yX1_isSown, in_RX1, cd_X1_isSown⟩
theorem k_RX5_108 : Cond.methodLink RX5 108 yX2_allEaters ∈ wds ∧ Cond.instanceMethod yX2_allEaters ∈ wds ∧ Cond.selects RX2 yX2_allEaters yX2_allEaters ∈ wds ∧ Cond.initialized RX2 ∈ wds ∧ Cond.code yX2_allEaters cX2_allEaters 1 (some .int) ∈ wds := ⟨ml_RX5_108, im_yX2_allEaters, se_yX2_allEaters, in_RX2, cd_X2_allEaters⟩
theorem k_RX5_111 : Cond.methodLink RX5 111 yX5_sownIfCome ∈ wds ∧ Cond.instanceMethod yX5_sownIfCome ∈ wds ∧ Cond.selects RX5 yX5_sownIfCome yX5_sownIfCome ∈ wds ∧ Cond.initialized RX5 ∈ wds ∧ Cond.code yX5_sownIfCome cX5_sownIfCome 2 (some .int) ∈ wds := ⟨ml_RX5_111, im_yX5_sownIfCome, se_yX5_sownIfCome, in_RX5, cd_X5_sownIfCome⟩
theorem k_RX5_184 : Cond.methodLink RX5 184 yX1_copyFrom ∈ wds ∧ Cond.instanceMethod yX1_copyFrom ∈ wds ∧ Cond.selects RX1 yX1_copyFrom yX1_copyFrom ∈ wds ∧ Cond.initialized RX1 ∈ wds ∧ Cond.code yX1_copyFrom cX1_copyFrom 2 none ∈ wds := ⟨ml_RX5_184, im_yX1_copyFrom, se_yX1_copyFrom, in_RX1, cd_X1_copyFrom⟩
theorem k_RX1_43 : Cond.methodLink RX1 43 arraycopyName ∈ wds ∧ Cond.native arraycopyName ∈ wds ∧ Cond.static arraycopyName ∈ wds ∧ Cond.initialized "java/lang/System" ∈ wds := ⟨ml_RX1_43, nm_arraycopyName, sm_arraycopyName, in_RJ10⟩
theorem k_RX5_175 : Cond.methodLink RX5 175 yX1_callOut ∈ wds ∧ Cond.instanceMethod yX1_callOut ∈ wds ∧ Cond.selects RX1 yX1_callOut yX1_callOut ∈ wds ∧ Cond.initialized RX1 ∈ wds ∧ Cond.code yX1_callOut cX1_callOut 3 none ∈ wds := ⟨ml_RX5_175, im_yX1_callOut, se_yX1_callOut, in_RX1, cd_X1_callOut⟩
theorem k_RX1_81 : Cond.methodLink RX1 81 yX1_sendOut ∈ wds ∧ Cond.instanceMethod yX1_sendOut ∈ wds ∧ Cond.selects RX1 yX1_sendOut yX1_sendOut ∈ wds ∧ Cond.initialized RX1 ∈ wds ∧ Cond.code yX1_sendOut cX1_sendOut 7 none ∈ wds := ⟨ml_RX1_81, im_yX1_sendOut, se_yX1_sendOut, in_RX1, cd_X1_sendOut⟩
theorem k_RX1_88 : Cond.methodLink RX1 88 yX1_nearestOwed ∈ wds ∧ Cond.instanceMethod yX1_nearestOwed ∈ wds ∧ Cond.selects RX1 yX1_nearestOwed yX1_nearestOwed ∈ wds ∧ Cond.initialized RX1 ∈ wds ∧ Cond.code yX1_nearestOwed cX1_nearestOwed 7 (some .int) ∈ wds := ⟨ml_RX1_88, im_yX1_nearestOwed, se_yX1_nearestOwed, in_RX1, cd_X1_nearestOwed⟩
theorem k_RX1_94 : Cond.methodLink RX1 94 Lib.Math.abs.name ∈ wds ∧ Cond.static Lib.Math.abs.name ∈ wds ∧ Cond.initialized "java/lang/Math" ∈ wds ∧ Cond.code Lib.Math.abs.name Lib.Math.abs.code 1 (some .int) ∈ wds := ⟨ml_RX1_94, sm_Lib_Math_abs_name, in_RJ9, cd_Lib_Math_abs_name⟩
theorem k_RX1_97 : Cond.methodLink RX1 97 yX1_bringSeed ∈ wds ∧ Cond.instanceMethod yX1_bringSeed ∈ wds ∧ Cond.selects RX1 yX1_bringSeed yX1_bringSeed ∈ wds ∧ Cond.initialized RX1 ∈ wds ∧ Cond.code yX1_bringSeed cX1_bringSeed 3 none ∈ wds := ⟨ml_RX1_97, im_yX1_bringSeed, se_yX1_bringSeed, in_RX1, cd_X1_bringSeed⟩
theorem k_RX1_73 : Cond.methodLink RX1 73 Lib.Math.min.name ∈ wds ∧ Cond.static Lib.Math.min.name ∈ wds ∧ Cond.initialized "java/lang/Math" ∈ wds ∧ Cond.code Lib.Math.min.name Lib.Math.min.code 2 (some .int) ∈ wds := ⟨ml_RX1_73, sm_Lib_Math_min_name, in_RJ9, cd_Lib_Math_min_name⟩
theorem k_RL_35 : Cond.methodLink RL 35 yX5_field ∈ wds ∧ Cond.instanceMethod yX5_field ∈ wds ∧ Cond.selects RX5 yX5_field yX5_field ∈ wds ∧ Cond.initialized RX5 ∈ wds ∧ Cond.code yX5_field cX5_field 3 (some .int) ∈ wds := ⟨ml_RL_35, im_yX5_field, se_yX5_field, in_RX5, cd_X5_field⟩
theorem k_RX5_116 : Cond.methodLink RX5 116 yX2_hasField ∈ wds ∧ Cond.instanceMethod yX2_hasField ∈ wds ∧ Cond.selects RX2 yX2_hasField yX2_hasField ∈ wds ∧ Cond.initialized RX2 ∈ wds ∧ Cond.code yX2_hasField cX2_hasField 2 (some .boolean) ∈ wds := ⟨ml_RX5_116, im_yX2_hasField, se_yX2_hasField, in_RX2, cd_X2_hasField⟩
theorem k_RX5_135 : Cond.methodLink RX5 135 yX1_debtorsOf ∈ wds ∧ Cond.instanceMethod yX1_debtorsOf ∈ wds ∧ Cond.selects RX1 yX1_debtorsOf yX1_debtorsOf ∈ wds ∧ Cond.initialized RX1 ∈ wds ∧ Cond.code yX1_debtorsOf cX1_debtorsOf 4 (some .int) ∈ wds := ⟨ml_RX5_135, im_yX1_debtorsOf, se_yX1_debtorsOf, in_RX1, cd_X1_debtorsOf⟩
theorem k_RL_40 : Cond.methodLink RL 40 yX5_eater ∈ wds ∧ Cond.instanceMethod yX5_eater ∈ wds ∧ Cond.selects RX5 yX5_eater yX5_eater ∈ wds ∧ Cond.initialized RX5 ∈ wds ∧ Cond.code yX5_eater cX5_eater 3 (some .int) ∈ wds := ⟨ml_RL_40, im_yX5_eater, se_yX5_eater, in_RX5, cd_X5_eater⟩
theorem k_RX5_138 : Cond.methodLink RX5 138 yX2_hasEater ∈ wds ∧ Cond.instanceMethod yX2_hasEater ∈ wds ∧ Cond.selects RX2 yX2_hasEater yX2_hasEater ∈ wds ∧ Cond.initialized RX2 ∈ wds ∧ Cond.code yX2_hasEater cX2_hasEater 2 (some .boolean) ∈ wds := ⟨ml_RX5_138, im_yX2_hasEater, se_yX2_hasEater, in_RX2, cd_X2_hasEater⟩
theorem k_RX5_150 : Cond.methodLink RX5 150 yX1_debtsOf ∈ wds ∧ Cond.instanceMethod yX1_debtsOf ∈ wds ∧ Cond.selects RX1 yX1_debtsOf yX1_debtsOf ∈ wds ∧ Cond.initialized RX1 ∈ wds ∧ Cond.code yX1_debtsOf cX1_debtsOf 4 (some .int) ∈ wds := ⟨ml_RX5_150, im_yX1_debtsOf, se_yX1_debtsOf, in_RX1, cd_X1_debtsOf⟩
theorem k_RL_44 : Cond.methodLink RL 44 yX5_owes ∈ wds ∧ Cond.instanceMethod yX5_owes ∈ wds ∧ Cond.selects RX5 yX5_owes yX5_owes ∈ wds ∧ Cond.initialized RX5 ∈ wds ∧ Cond.code yX5_owes cX5_owes 3 (some .int) ∈ wds := ⟨ml_RL_44, im_yX5_owes, se_yX5_owes, in_RX5, cd_X5_owes⟩
theorem k_RX5_159 : Cond.methodLink RX5 159 yX1_debt ∈ wds ∧ Cond.instanceMethod yX1_debt ∈ wds ∧ Cond.selects RX1 yX1_debt yX1_debt ∈ wds ∧ Cond.initialized RX1 ∈ wds ∧ Cond.code yX1_debt cX1_debt 3 (some .int) ∈ wds := ⟨ml_RX5_159, im_yX1_debt, se_yX1_debt, in_RX1, cd_X1_debt⟩
theorem k_RL_48 : Cond.methodLink RL 48 yX5_eat ∈ wds ∧ Cond.instanceMethod yX5_eat ∈ wds ∧ Cond.selects RX5 yX5_eat yX5_eat ∈ wds ∧ Cond.initialized RX5 ∈ wds ∧ Cond.code yX5_eat cX5_eat 3 (some .int) ∈ wds := ⟨ml_RL_48, im_yX5_eat, se_yX5_eat, in_RX5, cd_X5_eat⟩
theorem k_RX5_163 : Cond.methodLink RX5 163 yX1_canTake ∈ wds ∧ Cond.instanceMethod yX1_canTake ∈ wds ∧ Cond.selects RX1 yX1_canTake yX1_canTake ∈ wds ∧ Cond.initialized RX1 ∈ wds ∧ Cond.code yX1_canTake cX1_canTake 4 (some .boolean) ∈ wds := ⟨ml_RX5_163, im_yX1_canTake, se_yX1_canTake, in_RX1, cd_X1_canTake⟩
theorem k_RX1_70 : Cond.methodLink RX1 70 yX2_portionOf ∈ wds ∧ Cond.instanceMethod yX2_portionOf ∈ wds ∧ Cond.selects RX2 yX2_portionOf yX2_portionOf ∈ wds ∧ Cond.initialized RX2 ∈ wds ∧ Cond.code yX2_portionOf cX2_portionOf 2 (some .int) ∈ wds := ⟨ml_RX1_70, im_yX2_portionOf, se_yX2_portionOf, in_RX2, cd_X2_portionOf⟩
theorem k_RX5_167 : Cond.methodLink RX5 167 yX0_remember ∈ wds ∧ Cond.instanceMethod yX0_remember ∈ wds ∧ Cond.selects RX0 yX0_remember yX0_remember ∈ wds ∧ Cond.initialized RX0 ∈ wds ∧ Cond.code yX0_remember cX0_remember 2 none ∈ wds := ⟨ml_RX5_167, im_yX0_remember, se_yX0_remember, in_RX0, cd_X0_remember⟩
theorem k_RX0_27 : Cond.methodLink RX0 27 yX1_copyFrom ∈ wds ∧ Cond.instanceMethod yX1_copyFrom ∈ wds ∧ Cond.selects RX1 yX1_copyFrom yX1_copyFrom ∈ wds ∧ Cond.initialized RX1 ∈ wds ∧ Cond.code yX1_copyFrom cX1_copyFrom 2 none ∈ wds := ⟨ml_RX0_27, im_yX1_copyFrom, se_yX1_copyFrom, in_RX1, cd_X1_copyFrom⟩
theorem k_RX5_171 : Cond.methodLink RX5 171 yX1_takeLoaves ∈ wds ∧ Cond.instanceMethod yX1_takeLoaves ∈ wds ∧ Cond.selects RX1 yX1_takeLoaves yX1_takeLoaves ∈ wds ∧ Cond.initialized RX1 ∈ wds ∧ Cond.code yX1_takeLoaves cX1_takeLoaves 4 none ∈ wds := ⟨ml_RX5_171, im_yX1_takeLoaves, se_yX1_takeLoaves, in_RX1, cd_X1_takeLoaves⟩
theorem k_RL_52 : Cond.methodLink RL 52 yX5_cake ∈ wds ∧ Cond.instanceMethod yX5_cake ∈ wds ∧ Cond.selects RX5 yX5_cake yX5_cake ∈ wds ∧ Cond.initialized RX5 ∈ wds ∧ Cond.code yX5_cake cX5_cake 4 (some .int) ∈ wds := ⟨ml_RL_52, im_yX5_cake, se_yX5_cake, in_RX5, cd_X5_cake⟩
theorem k_RL_57 : Cond.methodLink RL 57 yX5_march ∈ wds ∧ Cond.instanceMethod yX5_march ∈ wds ∧ Cond.selects RX5 yX5_march yX5_march ∈ wds ∧ Cond.initialized RX5 ∈ wds ∧ Cond.code yX5_march cX5_march 1 (some .int) ∈ wds := ⟨ml_RL_57, im_yX5_march, se_yX5_march, in_RX5, cd_X5_march⟩
theorem k_RL_61 : Cond.methodLink RL 61 yX5_harvest ∈ wds ∧ Cond.instanceMethod yX5_harvest ∈ wds ∧ Cond.selects RX5 yX5_harvest yX5_harvest ∈ wds ∧ Cond.initialized RX5 ∈ wds ∧ Cond.code yX5_harvest cX5_harvest 1 (some .int) ∈ wds := ⟨ml_RL_61, im_yX5_harvest, se_yX5_harvest, in_RX5, cd_X5_harvest⟩
theorem k_RX5_178 : Cond.methodLink RX5 178 yX1_reap ∈ wds ∧ Cond.instanceMethod yX1_reap ∈ wds ∧ Cond.selects RX1 yX1_reap yX1_reap ∈ wds ∧ Cond.initialized RX1 ∈ wds ∧ Cond.code yX1_reap cX1_reap 2 none ∈ wds := ⟨ml_RX5_178, im_yX1_reap, se_yX1_reap, in_RX1, cd_X1_reap⟩
theorem k_RL_65 : Cond.methodLink RL 65 yX5_undo ∈ wds ∧ Cond.instanceMethod yX5_undo ∈ wds ∧ Cond.selects RX5 yX5_undo yX5_undo ∈ wds ∧ Cond.initialized RX5 ∈ wds ∧ Cond.code yX5_undo cX5_undo 1 (some .int) ∈ wds := ⟨ml_RL_65, im_yX5_undo, se_yX5_undo, in_RX5, cd_X5_undo⟩
theorem k_RX5_181 : Cond.methodLink RX5 181 yX0_takeBackInto ∈ wds ∧ Cond.instanceMethod yX0_takeBackInto ∈ wds ∧ Cond.selects RX0 yX0_takeBackInto yX0_takeBackInto ∈ wds ∧ Cond.initialized RX0 ∈ wds ∧ Cond.code yX0_takeBackInto cX0_takeBackInto 2 none ∈ wds := ⟨ml_RX5_181, im_yX0_takeBackInto, se_yX0_takeBackInto, in_RX0, cd_X0_takeBackInto⟩
theorem k_RL_69 : Cond.methodLink RL 69 yX5_ahead ∈ wds ∧ Cond.instanceMethod yX5_ahead ∈ wds ∧ Cond.selects RX5 yX5_ahead yX5_ahead ∈ wds ∧ Cond.initialized RX5 ∈ wds ∧ Cond.code yX5_ahead cX5_ahead 4 (some .int) ∈ wds := ⟨ml_RL_69, im_yX5_ahead, se_yX5_ahead, in_RX5, cd_X5_ahead⟩
theorem k_RL_73 : Cond.methodLink RL 73 yX5_wants ∈ wds ∧ Cond.instanceMethod yX5_wants ∈ wds ∧ Cond.selects RX5 yX5_wants yX5_wants ∈ wds ∧ Cond.initialized RX5 ∈ wds ∧ Cond.code yX5_wants cX5_wants 5 (some .int) ∈ wds := ⟨ml_RL_73, im_yX5_wants, se_yX5_wants, in_RX5, cd_X5_wants⟩
theorem k_RX5_187 : Cond.methodLink RX5 187 yJ6_bitCount_0f7a4 ∈ wds ∧ Cond.static yJ6_bitCount_0f7a4 ∈ wds ∧ Cond.initialized yJ6_bitCount_0f7a4.cls ∈ wds ∧ Cond.code yJ6_bitCount_0f7a4 cJ6_bitCount_0f7a4 1 (some .int) ∈ wds := ⟨ml_RX5_187, sm_yJ6_bitCount_0f7a4, in_RJ6, cd_J6_bitCount_0f7a4⟩
theorem k_RX5_192 : Cond.methodLink RX5 192 yX5_isSownIfFed ∈ wds ∧ Cond.instanceMethod yX5_isSownIfFed ∈ wds ∧ Cond.selects RX5 yX5_isSownIfFed yX5_isSownIfFed ∈ wds ∧ Cond.initialized RX5 ∈ wds ∧ Cond.code yX5_isSownIfFed cX5_isSownIfFed 4 (some .boolean) ∈ wds := ⟨ml_RX5_192, im_yX5_isSownIfFed, se_yX5_isSownIfFed, in_RX5, cd_X5_isSownIfFed⟩
theorem k_RX5_244 : Cond.methodLink RX5 244 yX5_tryToTake ∈ wds ∧ Cond.instanceMethod yX5_tryToTake ∈ wds ∧ Cond.selects RX5 yX5_tryToTake yX5_tryToTake ∈ wds ∧ Cond.initialized RX5 ∈ wds ∧ Cond.code yX5_tryToTake cX5_tryToTake 3 (some .boolean) ∈ wds := ⟨ml_RX5_244, im_yX5_tryToTake, se_yX5_tryToTake, in_RX5, cd_X5_tryToTake⟩
theorem k_RX5_247 : Cond.methodLink RX5 247 yX1_isSown ∈ wds ∧ Cond.instanceMethod yX1_isSown ∈ wds ∧ Cond.selects RX1 yX1_isSown yX1_isSown ∈ wds ∧ Cond.initialized RX1 ∈ wds ∧ Cond.code yX1_isSown cX1_isSown 2 (some .boolean) ∈ wds := ⟨ml_RX5_247, im_yX1_isSown, se_yX1_isSown, in_RX1, cd_X1_isSown⟩
theorem k_RL_77 : Cond.methodLink RL 77 yX5_rid ∈ wds ∧ Cond.instanceMethod yX5_rid ∈ wds ∧ Cond.selects RX5 yX5_rid yX5_rid ∈ wds ∧ Cond.initialized RX5 ∈ wds ∧ Cond.code yX5_rid cX5_rid 2 (some .int) ∈ wds := ⟨ml_RL_77, im_yX5_rid, se_yX5_rid, in_RX5, cd_X5_rid⟩
theorem k_RX5_195 : Cond.methodLink RX5 195 yX1_sendOut ∈ wds ∧ Cond.instanceMethod yX1_sendOut ∈ wds ∧ Cond.selects RX1 yX1_sendOut yX1_sendOut ∈ wds ∧ Cond.initialized RX1 ∈ wds ∧ Cond.code yX1_sendOut cX1_sendOut 7 none ∈ wds := ⟨ml_RX5_195, im_yX1_sendOut, se_yX1_sendOut, in_RX1, cd_X1_sendOut⟩
theorem k_RL_83 : Cond.methodLink RL 83 yX5_judge ∈ wds ∧ Cond.instanceMethod yX5_judge ∈ wds ∧ Cond.selects RX5 yX5_judge yX5_judge ∈ wds ∧ Cond.initialized RX5 ∈ wds ∧ Cond.code yX5_judge cX5_judge 6 (some .int) ∈ wds := ⟨ml_RL_83, im_yX5_judge, se_yX5_judge, in_RX5, cd_X5_judge⟩
theorem k_RX5_198 : Cond.methodLink RX5 198 yX5_withoutLast ∈ wds ∧ Cond.static yX5_withoutLast ∈ wds ∧ Cond.initialized yX5_withoutLast.cls ∈ wds ∧ Cond.code yX5_withoutLast cX5_withoutLast 6 (some .long) ∈ wds := ⟨ml_RX5_198, sm_yX5_withoutLast, in_RX5, cd_X5_withoutLast⟩
theorem k_RX5_204 : Cond.methodLink RX5 204 yX5_isSo ∈ wds ∧ Cond.instanceMethod yX5_isSo ∈ wds ∧ Cond.selects RX5 yX5_isSo yX5_isSo ∈ wds ∧ Cond.initialized RX5 ∈ wds ∧ Cond.code yX5_isSo cX5_isSo 4 (some .boolean) ∈ wds := ⟨ml_RX5_204, im_yX5_isSo, se_yX5_isSo, in_RX5, cd_X5_isSo⟩
theorem k_RL_88 : Cond.methodLink RL 88 yX5_share ∈ wds ∧ Cond.instanceMethod yX5_share ∈ wds ∧ Cond.selects RX5 yX5_share yX5_share ∈ wds ∧ Cond.initialized RX5 ∈ wds ∧ Cond.code yX5_share cX5_share 8 (some .int) ∈ wds := ⟨ml_RL_88, im_yX5_share, se_yX5_share, in_RX5, cd_X5_share⟩
theorem k_RX5_208 : Cond.methodLink RX5 208 yX5_ordersOf ∈ wds ∧ Cond.static yX5_ordersOf ∈ wds ∧ Cond.initialized yX5_ordersOf.cls ∈ wds ∧ Cond.code yX5_ordersOf cX5_ordersOf 4 (some .long) ∈ wds := ⟨ml_RX5_208, sm_yX5_ordersOf, in_RX5, cd_X5_ordersOf⟩
theorem k_RX5_212 : Cond.methodLink RX5 212 yX5_partOfFraction ∈ wds ∧ Cond.static yX5_partOfFraction ∈ wds ∧ Cond.initialized yX5_partOfFraction.cls ∈ wds ∧ Cond.code yX5_partOfFraction cX5_partOfFraction 12 (some .int) ∈ wds := ⟨ml_RX5_212, sm_yX5_partOfFraction, in_RX5, cd_X5_partOfFraction⟩
theorem k_RL_93 : Cond.methodLink RL 93 yX5_came ∈ wds ∧ Cond.instanceMethod yX5_came ∈ wds ∧ Cond.selects RX5 yX5_came yX5_came ∈ wds ∧ Cond.initialized RX5 ∈ wds ∧ Cond.code yX5_came cX5_came 3 (some .int) ∈ wds := ⟨ml_RL_93, im_yX5_came, se_yX5_came, in_RX5, cd_X5_came⟩
theorem k_RX5_216 : Cond.methodLink RX5 216 yX4_add ∈ wds ∧ Cond.instanceMethod yX4_add ∈ wds ∧ Cond.selects RX4 yX4_add yX4_add ∈ wds ∧ Cond.initialized RX4 ∈ wds ∧ Cond.code yX4_add cX4_add 3 none ∈ wds := ⟨ml_RX5_216, im_yX4_add, se_yX4_add, in_RX4, cd_X4_add⟩
theorem k_RL_97 : Cond.methodLink RL 97 yX5_forget ∈ wds ∧ Cond.instanceMethod yX5_forget ∈ wds ∧ Cond.selects RX5 yX5_forget yX5_forget ∈ wds ∧ Cond.initialized RX5 ∈ wds ∧ Cond.code yX5_forget cX5_forget 2 (some .int) ∈ wds := ⟨ml_RL_97, im_yX5_forget, se_yX5_forget, in_RX5, cd_X5_forget⟩
theorem k_RL_101 : Cond.methodLink RL 101 yX5_strangers ∈ wds ∧ Cond.instanceMethod yX5_strangers ∈ wds ∧ Cond.selects RX5 yX5_strangers yX5_strangers ∈ wds ∧ Cond.initialized RX5 ∈ wds ∧ Cond.code yX5_strangers cX5_strangers 5 (some .int) ∈ wds := ⟨ml_RL_101, im_yX5_strangers, se_yX5_strangers, in_RX5, cd_X5_strangers⟩
theorem k_RX5_220 : Cond.methodLink RX5 220 yX4_allowFor ∈ wds ∧ Cond.instanceMethod yX4_allowFor ∈ wds ∧ Cond.selects RX4 yX4_allowFor yX4_allowFor ∈ wds ∧ Cond.initialized RX4 ∈ wds ∧ Cond.code yX4_allowFor cX4_allowFor 5 (some .boolean) ∈ wds := ⟨ml_RX5_220, im_yX4_allowFor, se_yX4_allowFor, in_RX4, cd_X4_allowFor⟩
theorem k_RX4_23 : Cond.methodLink RX4 23 Lib.Math.abs.name ∈ wds ∧ Cond.static Lib.Math.abs.name ∈ wds ∧ Cond.initialized "java/lang/Math" ∈ wds ∧ Cond.code Lib.Math.abs.name Lib.Math.abs.code 1 (some .int) ∈ wds := ⟨ml_RX4_23, sm_Lib_Math_abs_name, in_RJ9, cd_Lib_Math_abs_name⟩
theorem k_RL_105 : Cond.methodLink RL 105 yX5_rests ∈ wds ∧ Cond.instanceMethod yX5_rests ∈ wds ∧ Cond.selects RX5 yX5_rests yX5_rests ∈ wds ∧ Cond.initialized RX5 ∈ wds ∧ Cond.code yX5_rests cX5_rests 8 (some .int) ∈ wds := ⟨ml_RL_105, im_yX5_rests, se_yX5_rests, in_RX5, cd_X5_rests⟩
theorem k_RX5_223 : Cond.methodLink RX5 223 yX5_playPair ∈ wds ∧ Cond.instanceMethod yX5_playPair ∈ wds ∧ Cond.selects RX5 yX5_playPair yX5_playPair ∈ wds ∧ Cond.initialized RX5 ∈ wds ∧ Cond.code yX5_playPair cX5_playPair 8 none ∈ wds := ⟨ml_RX5_223, im_yX5_playPair, se_yX5_playPair, in_RX5, cd_X5_playPair⟩
theorem k_RX5_227 : Cond.methodLink RX5 227 yX5_isAtRest ∈ wds ∧ Cond.instanceMethod yX5_isAtRest ∈ wds ∧ Cond.selects RX5 yX5_isAtRest yX5_isAtRest ∈ wds ∧ Cond.initialized RX5 ∈ wds ∧ Cond.code yX5_isAtRest cX5_isAtRest 4 (some .boolean) ∈ wds := ⟨ml_RX5_227, im_yX5_isAtRest, se_yX5_isAtRest, in_RX5, cd_X5_isAtRest⟩
theorem k_RL_110 : Cond.methodLink RL 110 yX5_home ∈ wds ∧ Cond.instanceMethod yX5_home ∈ wds ∧ Cond.selects RX5 yX5_home yX5_home ∈ wds ∧ Cond.initialized RX5 ∈ wds ∧ Cond.code yX5_home cX5_home 8 (some .int) ∈ wds := ⟨ml_RL_110, im_yX5_home, se_yX5_home, in_RX5, cd_X5_home⟩
theorem k_RX5_230 : Cond.methodLink RX5 230 yX5_power ∈ wds ∧ Cond.static yX5_power ∈ wds ∧ Cond.initialized yX5_power.cls ∈ wds ∧ Cond.code yX5_power cX5_power 6 (some .long) ∈ wds := ⟨ml_RX5_230, sm_yX5_power, in_RX5, cd_X5_power⟩
theorem k_RL_115 : Cond.methodLink RL 115 yX5_seed ∈ wds ∧ Cond.instanceMethod yX5_seed ∈ wds ∧ Cond.selects RX5 yX5_seed yX5_seed ∈ wds ∧ Cond.initialized RX5 ∈ wds ∧ Cond.code yX5_seed cX5_seed 5 (some .long) ∈ wds := ⟨ml_RL_115, im_yX5_seed, se_yX5_seed, in_RX5, cd_X5_seed⟩
theorem k_RL_120 : Cond.methodLink RL 120 yX5_years ∈ wds ∧ Cond.instanceMethod yX5_years ∈ wds ∧ Cond.selects RX5 yX5_years yX5_years ∈ wds ∧ Cond.initialized RX5 ∈ wds ∧ Cond.code yX5_years cX5_years 4 (some .int) ∈ wds := ⟨ml_RL_120, im_yX5_years, se_yX5_years, in_RX5, cd_X5_years⟩
theorem k_RX5_241 : Cond.methodLink RX5 241 yX5_doByLot ∈ wds ∧ Cond.instanceMethod yX5_doByLot ∈ wds ∧ Cond.selects RX5 yX5_doByLot yX5_doByLot ∈ wds ∧ Cond.initialized RX5 ∈ wds ∧ Cond.code yX5_doByLot cX5_doByLot 2 none ∈ wds := ⟨ml_RX5_241, im_yX5_doByLot, se_yX5_doByLot, in_RX5, cd_X5_doByLot⟩
theorem k_RL_124 : Cond.methodLink RL 124 yX5_keep ∈ wds ∧ Cond.instanceMethod yX5_keep ∈ wds ∧ Cond.selects RX5 yX5_keep yX5_keep ∈ wds ∧ Cond.initialized RX5 ∈ wds ∧ Cond.code yX5_keep cX5_keep 2 (some .int) ∈ wds := ⟨ml_RL_124, im_yX5_keep, se_yX5_keep, in_RX5, cd_X5_keep⟩
theorem k_RL_128 : Cond.methodLink RL 128 yX5_again ∈ wds ∧ Cond.instanceMethod yX5_again ∈ wds ∧ Cond.selects RX5 yX5_again yX5_again ∈ wds ∧ Cond.initialized RX5 ∈ wds ∧ Cond.code yX5_again cX5_again 2 (some .int) ∈ wds := ⟨ml_RL_128, im_yX5_again, se_yX5_again, in_RX5, cd_X5_again⟩
theorem k_RL_17 : Cond.methodLink RL 17 yX6_write ∈ wds ∧ Cond.instanceMethod yX6_write ∈ wds ∧ Cond.selects RX6 yX6_write yX6_write ∈ wds ∧ Cond.initialized RX6 ∈ wds ∧ Cond.code yX6_write cX6_write 2 (some .int) ∈ wds := ⟨ml_RL_17, im_yX6_write, se_yX6_write, in_RX6, cd_X6_write⟩
theorem k_RX6_75 : Cond.methodLink RX6 75 yX6_in ∈ wds ∧ Cond.static yX6_in ∈ wds ∧ Cond.initialized yX6_in.cls ∈ wds ∧ Cond.code yX6_in cX6_in 6 (some .boolean) ∈ wds := ⟨ml_RX6_75, sm_yX6_in, in_RX6, cd_X6_in⟩
theorem k_RL_22 : Cond.methodLink RL 22 yX6_wipe ∈ wds ∧ Cond.instanceMethod yX6_wipe ∈ wds ∧ Cond.selects RX6 yX6_wipe yX6_wipe ∈ wds ∧ Cond.initialized RX6 ∈ wds ∧ Cond.code yX6_wipe cX6_wipe 2 (some .int) ∈ wds := ⟨ml_RL_22, im_yX6_wipe, se_yX6_wipe, in_RX6, cd_X6_wipe⟩
theorem k_RL_26 : Cond.methodLink RL 26 yX6_fault ∈ wds ∧ Cond.instanceMethod yX6_fault ∈ wds ∧ Cond.selects RX6 yX6_fault yX6_fault ∈ wds ∧ Cond.initialized RX6 ∈ wds ∧ Cond.code yX6_fault cX6_fault 1 (some .int) ∈ wds := ⟨ml_RL_26, im_yX6_fault, se_yX6_fault, in_RX6, cd_X6_fault⟩
theorem k_RX6_110 : Cond.methodLink RX6 110 yX6_readCountry ∈ wds ∧ Cond.instanceMethod yX6_readCountry ∈ wds ∧ Cond.selects RX6 yX6_readCountry yX6_readCountry ∈ wds ∧ Cond.initialized RX6 ∈ wds ∧ Cond.code yX6_readCountry cX6_readCountry 1 (some .int) ∈ wds := ⟨ml_RX6_110, im_yX6_readCountry, se_yX6_readCountry, in_RX6, cd_X6_readCountry⟩
theorem k_RX6_107 : Cond.methodLink RX6 107 yX6_readThing ∈ wds ∧ Cond.instanceMethod yX6_readThing ∈ wds ∧ Cond.selects RX6 yX6_readThing yX6_readThing ∈ wds ∧ Cond.initialized RX6 ∈ wds ∧ Cond.code yX6_readThing cX6_readThing 2 (some .boolean) ∈ wds := ⟨ml_RX6_107, im_yX6_readThing, se_yX6_readThing, in_RX6, cd_X6_readThing⟩
theorem k_RX6_100 : Cond.methodLink RX6 100 yX6_readOneField ∈ wds ∧ Cond.instanceMethod yX6_readOneField ∈ wds ∧ Cond.selects RX6 yX6_readOneField yX6_readOneField ∈ wds ∧ Cond.initialized RX6 ∈ wds ∧ Cond.code yX6_readOneField cX6_readOneField 4 (some .boolean) ∈ wds := ⟨ml_RX6_100, im_yX6_readOneField, se_yX6_readOneField, in_RX6, cd_X6_readOneField⟩
theorem k_RX6_90 : Cond.methodLink RX6 90 yX6_figure ∈ wds ∧ Cond.instanceMethod yX6_figure ∈ wds ∧ Cond.selects RX6 yX6_figure yX6_figure ∈ wds ∧ Cond.initialized RX6 ∈ wds ∧ Cond.code yX6_figure cX6_figure 3 (some .int) ∈ wds := ⟨ml_RX6_90, im_yX6_figure, se_yX6_figure, in_RX6, cd_X6_figure⟩
theorem k_RX6_104 : Cond.methodLink RX6 104 yX6_readOneEater ∈ wds ∧ Cond.instanceMethod yX6_readOneEater ∈ wds ∧ Cond.selects RX6 yX6_readOneEater yX6_readOneEater ∈ wds ∧ Cond.initialized RX6 ∈ wds ∧ Cond.code yX6_readOneEater cX6_readOneEater 4 (some .boolean) ∈ wds := ⟨ml_RX6_104, im_yX6_readOneEater, se_yX6_readOneEater, in_RX6, cd_X6_readOneEater⟩
theorem k_RL_30 : Cond.methodLink RL 30 yX6_country ∈ wds ∧ Cond.instanceMethod yX6_country ∈ wds ∧ Cond.selects RX6 yX6_country yX6_country ∈ wds ∧ Cond.initialized RX6 ∈ wds ∧ Cond.code yX6_country cX6_country 2 (some .int) ∈ wds := ⟨ml_RL_30, im_yX6_country, se_yX6_country, in_RX6, cd_X6_country⟩
theorem k_RL_34 : Cond.methodLink RL 34 yX6_about ∈ wds ∧ Cond.instanceMethod yX6_about ∈ wds ∧ Cond.selects RX6 yX6_about yX6_about ∈ wds ∧ Cond.initialized RX6 ∈ wds ∧ Cond.code yX6_about cX6_about 2 (some .int) ∈ wds := ⟨ml_RL_34, im_yX6_about, se_yX6_about, in_RX6, cd_X6_about⟩
theorem k_RX6_145 : Cond.methodLink RX6 145 yX6_loaves ∈ wds ∧ Cond.static yX6_loaves ∈ wds ∧ Cond.initialized yX6_loaves.cls ∈ wds ∧ Cond.code yX6_loaves cX6_loaves 1 (some .int) ∈ wds := ⟨ml_RX6_145, sm_yX6_loaves, in_RX6, cd_X6_loaves⟩
theorem k_RX6_158 : Cond.methodLink RX6 158 yX6_owedTogether ∈ wds ∧ Cond.instanceMethod yX6_owedTogether ∈ wds ∧ Cond.selects RX6 yX6_owedTogether yX6_owedTogether ∈ wds ∧ Cond.initialized RX6 ∈ wds ∧ Cond.code yX6_owedTogether cX6_owedTogether 3 (some .int) ∈ wds := ⟨ml_RX6_158, im_yX6_owedTogether, se_yX6_owedTogether, in_RX6, cd_X6_owedTogether⟩
theorem k_RX6_148 : Cond.methodLink RX6 148 yX6_owesAll ∈ wds ∧ Cond.static yX6_owesAll ∈ wds ∧ Cond.initialized yX6_owesAll.cls ∈ wds ∧ Cond.code yX6_owesAll cX6_owesAll 2 (some .int) ∈ wds := ⟨ml_RX6_148, sm_yX6_owesAll, in_RX6, cd_X6_owesAll⟩
theorem k_RX6_117 : Cond.methodLink RX6 117 yX6_owed ∈ wds ∧ Cond.static yX6_owed ∈ wds ∧ Cond.initialized yX6_owed.cls ∈ wds ∧ Cond.code yX6_owed cX6_owed 3 (some .int) ∈ wds := ⟨ml_RX6_117, sm_yX6_owed, in_RX6, cd_X6_owed⟩
theorem k_RX6_141 : Cond.methodLink RX6 141 yX6_sown ∈ wds ∧ Cond.instanceMethod yX6_sown ∈ wds ∧ Cond.selects RX6 yX6_sown yX6_sown ∈ wds ∧ Cond.initialized RX6 ∈ wds ∧ Cond.code yX6_sown cX6_sown 4 (some .int) ∈ wds := ⟨ml_RX6_141, im_yX6_sown, se_yX6_sown, in_RX6, cd_X6_sown⟩
theorem k_RX6_161 : Cond.methodLink RX6 161 yX6_marched ∈ wds ∧ Cond.instanceMethod yX6_marched ∈ wds ∧ Cond.selects RX6 yX6_marched yX6_marched ∈ wds ∧ Cond.initialized RX6 ∈ wds ∧ Cond.code yX6_marched cX6_marched 2 (some .int) ∈ wds := ⟨ml_RX6_161, im_yX6_marched, se_yX6_marched, in_RX6, cd_X6_marched⟩
theorem k_RX6_152 : Cond.methodLink RX6 152 yX6_begin ∈ wds ∧ Cond.instanceMethod yX6_begin ∈ wds ∧ Cond.selects RX6 yX6_begin yX6_begin ∈ wds ∧ Cond.initialized RX6 ∈ wds ∧ Cond.code yX6_begin cX6_begin 2 none ∈ wds := ⟨ml_RX6_152, im_yX6_begin, se_yX6_begin, in_RX6, cd_X6_begin⟩
theorem k_RX6_155 : Cond.methodLink RX6 155 yX6_goMarch ∈ wds ∧ Cond.instanceMethod yX6_goMarch ∈ wds ∧ Cond.selects RX6 yX6_goMarch yX6_goMarch ∈ wds ∧ Cond.initialized RX6 ∈ wds ∧ Cond.code yX6_goMarch cX6_goMarch 4 (some .int) ∈ wds := ⟨ml_RX6_155, im_yX6_goMarch, se_yX6_goMarch, in_RX6, cd_X6_goMarch⟩
theorem k_RX6_134 : Cond.methodLink RX6 134 yX6_has ∈ wds ∧ Cond.static yX6_has ∈ wds ∧ Cond.initialized yX6_has.cls ∈ wds ∧ Cond.code yX6_has cX6_has 2 (some .boolean) ∈ wds := ⟨ml_RX6_134, sm_yX6_has, in_RX6, cd_X6_has⟩
theorem k_RX6_138 : Cond.methodLink RX6 138 yX6_goes ∈ wds ∧ Cond.instanceMethod yX6_goes ∈ wds ∧ Cond.selects RX6 yX6_goes yX6_goes ∈ wds ∧ Cond.initialized RX6 ∈ wds ∧ Cond.code yX6_goes cX6_goes 9 (some .int) ∈ wds := ⟨ml_RX6_138, im_yX6_goes, se_yX6_goes, in_RX6, cd_X6_goes⟩
theorem k_RX6_127 : Cond.methodLink RX6 127 yX6_nearest ∈ wds ∧ Cond.instanceMethod yX6_nearest ∈ wds ∧ Cond.selects RX6 yX6_nearest yX6_nearest ∈ wds ∧ Cond.initialized RX6 ∈ wds ∧ Cond.code yX6_nearest cX6_nearest 7 (some .int) ∈ wds := ⟨ml_RX6_127, im_yX6_nearest, se_yX6_nearest, in_RX6, cd_X6_nearest⟩
theorem k_RX6_121 : Cond.methodLink RX6 121 yX6_apart ∈ wds ∧ Cond.static yX6_apart ∈ wds ∧ Cond.initialized yX6_apart.cls ∈ wds ∧ Cond.code yX6_apart cX6_apart 2 (some .int) ∈ wds := ⟨ml_RX6_121, sm_yX6_apart, in_RX6, cd_X6_apart⟩
theorem k_RX6_130 : Cond.methodLink RX6 130 yX6_capped ∈ wds ∧ Cond.static yX6_capped ∈ wds ∧ Cond.initialized yX6_capped.cls ∈ wds ∧ Cond.code yX6_capped cX6_capped 1 (some .int) ∈ wds := ⟨ml_RX6_130, sm_yX6_capped, in_RX6, cd_X6_capped⟩
theorem k_RL_39 : Cond.methodLink RL 39 yX6_field ∈ wds ∧ Cond.instanceMethod yX6_field ∈ wds ∧ Cond.selects RX6 yX6_field yX6_field ∈ wds ∧ Cond.initialized RX6 ∈ wds ∧ Cond.code yX6_field cX6_field 3 (some .int) ∈ wds := ⟨ml_RL_39, im_yX6_field, se_yX6_field, in_RX6, cd_X6_field⟩
theorem k_RX6_167 : Cond.methodLink RX6 167 yX6_noField ∈ wds ∧ Cond.instanceMethod yX6_noField ∈ wds ∧ Cond.selects RX6 yX6_noField yX6_noField ∈ wds ∧ Cond.initialized RX6 ∈ wds ∧ Cond.code yX6_noField cX6_noField 2 (some .boolean) ∈ wds := ⟨ml_RX6_167, im_yX6_noField, se_yX6_noField, in_RX6, cd_X6_noField⟩
theorem k_RX6_171 : Cond.methodLink RX6 171 yX6_owing ∈ wds ∧ Cond.instanceMethod yX6_owing ∈ wds ∧ Cond.selects RX6 yX6_owing yX6_owing ∈ wds ∧ Cond.initialized RX6 ∈ wds ∧ Cond.code yX6_owing cX6_owing 4 (some .int) ∈ wds := ⟨ml_RX6_171, im_yX6_owing, se_yX6_owing, in_RX6, cd_X6_owing⟩
theorem k_RL_43 : Cond.methodLink RL 43 yX6_eater ∈ wds ∧ Cond.instanceMethod yX6_eater ∈ wds ∧ Cond.selects RX6 yX6_eater yX6_eater ∈ wds ∧ Cond.initialized RX6 ∈ wds ∧ Cond.code yX6_eater cX6_eater 4 (some .int) ∈ wds := ⟨ml_RL_43, im_yX6_eater, se_yX6_eater, in_RX6, cd_X6_eater⟩
theorem k_RX6_174 : Cond.methodLink RX6 174 yX6_noEater ∈ wds ∧ Cond.instanceMethod yX6_noEater ∈ wds ∧ Cond.selects RX6 yX6_noEater yX6_noEater ∈ wds ∧ Cond.initialized RX6 ∈ wds ∧ Cond.code yX6_noEater cX6_noEater 2 (some .boolean) ∈ wds := ⟨ml_RX6_174, im_yX6_noEater, se_yX6_noEater, in_RX6, cd_X6_noEater⟩
theorem k_RL_47 : Cond.methodLink RL 47 yX6_owes ∈ wds ∧ Cond.instanceMethod yX6_owes ∈ wds ∧ Cond.selects RX6 yX6_owes yX6_owes ∈ wds ∧ Cond.initialized RX6 ∈ wds ∧ Cond.code yX6_owes cX6_owes 3 (some .int) ∈ wds := ⟨ml_RL_47, im_yX6_owes, se_yX6_owes, in_RX6, cd_X6_owes⟩
theorem k_RL_51 : Cond.methodLink RL 51 yX6_eat ∈ wds ∧ Cond.instanceMethod yX6_eat ∈ wds ∧ Cond.selects RX6 yX6_eat yX6_eat ∈ wds ∧ Cond.initialized RX6 ∈ wds ∧ Cond.code yX6_eat cX6_eat 3 (some .int) ∈ wds := ⟨ml_RL_51, im_yX6_eat, se_yX6_eat, in_RX6, cd_X6_eat⟩
theorem k_RX6_180 : Cond.methodLink RX6 180 yX6_canEat ∈ wds ∧ Cond.instanceMethod yX6_canEat ∈ wds ∧ Cond.selects RX6 yX6_canEat yX6_canEat ∈ wds ∧ Cond.initialized RX6 ∈ wds ∧ Cond.code yX6_canEat cX6_canEat 4 (some .boolean) ∈ wds := ⟨ml_RX6_180, im_yX6_canEat, se_yX6_canEat, in_RX6, cd_X6_canEat⟩
theorem k_RX6_177 : Cond.methodLink RX6 177 yX6_bite ∈ wds ∧ Cond.instanceMethod yX6_bite ∈ wds ∧ Cond.selects RX6 yX6_bite yX6_bite ∈ wds ∧ Cond.initialized RX6 ∈ wds ∧ Cond.code yX6_bite cX6_bite 2 (some .int) ∈ wds := ⟨ml_RX6_177, im_yX6_bite, se_yX6_bite, in_RX6, cd_X6_bite⟩
theorem k_RX6_184 : Cond.methodLink RX6 184 yX6_note ∈ wds ∧ Cond.instanceMethod yX6_note ∈ wds ∧ Cond.selects RX6 yX6_note yX6_note ∈ wds ∧ Cond.initialized RX6 ∈ wds ∧ Cond.code yX6_note cX6_note 2 none ∈ wds := ⟨ml_RX6_184, im_yX6_note, se_yX6_note, in_RX6, cd_X6_note⟩
theorem k_RX6_187 : Cond.methodLink RX6 187 yX6_goEat ∈ wds ∧ Cond.instanceMethod yX6_goEat ∈ wds ∧ Cond.selects RX6 yX6_goEat yX6_goEat ∈ wds ∧ Cond.initialized RX6 ∈ wds ∧ Cond.code yX6_goEat cX6_goEat 4 none ∈ wds := ⟨ml_RX6_187, im_yX6_goEat, se_yX6_goEat, in_RX6, cd_X6_goEat⟩
theorem k_RL_56 : Cond.methodLink RL 56 yX6_cake ∈ wds ∧ Cond.instanceMethod yX6_cake ∈ wds ∧ Cond.selects RX6 yX6_cake yX6_cake ∈ wds ∧ Cond.initialized RX6 ∈ wds ∧ Cond.code yX6_cake cX6_cake 4 (some .int) ∈ wds := ⟨ml_RL_56, im_yX6_cake, se_yX6_cake, in_RX6, cd_X6_cake⟩
theorem k_RL_60 : Cond.methodLink RL 60 yX6_march ∈ wds ∧ Cond.instanceMethod yX6_march ∈ wds ∧ Cond.selects RX6 yX6_march yX6_march ∈ wds ∧ Cond.initialized RX6 ∈ wds ∧ Cond.code yX6_march cX6_march 1 (some .int) ∈ wds := ⟨ml_RL_60, im_yX6_march, se_yX6_march, in_RX6, cd_X6_march⟩
theorem k_RL_64 : Cond.methodLink RL 64 yX6_harvest ∈ wds ∧ Cond.instanceMethod yX6_harvest ∈ wds ∧ Cond.selects RX6 yX6_harvest yX6_harvest ∈ wds ∧ Cond.initialized RX6 ∈ wds ∧ Cond.code yX6_harvest cX6_harvest 1 (some .int) ∈ wds := ⟨ml_RL_64, im_yX6_harvest, se_yX6_harvest, in_RX6, cd_X6_harvest⟩
theorem k_RX6_191 : Cond.methodLink RX6 191 yX6_goHarvest ∈ wds ∧ Cond.instanceMethod yX6_goHarvest ∈ wds ∧ Cond.selects RX6 yX6_goHarvest yX6_goHarvest ∈ wds ∧ Cond.initialized RX6 ∈ wds ∧ Cond.code yX6_goHarvest cX6_goHarvest 4 (some .int) ∈ wds := ⟨ml_RX6_191, im_yX6_goHarvest, se_yX6_goHarvest, in_RX6, cd_X6_goHarvest⟩
theorem k_RL_68 : Cond.methodLink RL 68 yX6_undo ∈ wds ∧ Cond.instanceMethod yX6_undo ∈ wds ∧ Cond.selects RX6 yX6_undo yX6_undo ∈ wds ∧ Cond.initialized RX6 ∈ wds ∧ Cond.code yX6_undo cX6_undo 2 (some .int) ∈ wds := ⟨ml_RL_68, im_yX6_undo, se_yX6_undo, in_RX6, cd_X6_undo⟩
theorem k_RL_72 : Cond.methodLink RL 72 yX6_ahead ∈ wds ∧ Cond.instanceMethod yX6_ahead ∈ wds ∧ Cond.selects RX6 yX6_ahead yX6_ahead ∈ wds ∧ Cond.initialized RX6 ∈ wds ∧ Cond.code yX6_ahead cX6_ahead 4 (some .int) ∈ wds := ⟨ml_RL_72, im_yX6_ahead, se_yX6_ahead, in_RX6, cd_X6_ahead⟩
theorem k_RL_76 : Cond.methodLink RL 76 yX6_wants ∈ wds ∧ Cond.instanceMethod yX6_wants ∈ wds ∧ Cond.selects RX6 yX6_wants yX6_wants ∈ wds ∧ Cond.initialized RX6 ∈ wds ∧ Cond.code yX6_wants cX6_wants 5 (some .int) ∈ wds := ⟨ml_RL_76, im_yX6_wants, se_yX6_wants, in_RX6, cd_X6_wants⟩
theorem k_RX6_196 : Cond.methodLink RX6 196 yX6_many ∈ wds ∧ Cond.static yX6_many ∈ wds ∧ Cond.initialized yX6_many.cls ∈ wds ∧ Cond.code yX6_many cX6_many 3 (some .int) ∈ wds := ⟨ml_RX6_196, sm_yX6_many, in_RX6, cd_X6_many⟩
theorem k_RX6_199 : Cond.methodLink RX6 199 yX6_isSownBy ∈ wds ∧ Cond.instanceMethod yX6_isSownBy ∈ wds ∧ Cond.selects RX6 yX6_isSownBy yX6_isSownBy ∈ wds ∧ Cond.initialized RX6 ∈ wds ∧ Cond.code yX6_isSownBy cX6_isSownBy 4 (some .boolean) ∈ wds := ⟨ml_RX6_199, im_yX6_isSownBy, se_yX6_isSownBy, in_RX6, cd_X6_isSownBy⟩
theorem k_RL_80 : Cond.methodLink RL 80 yX6_rid ∈ wds ∧ Cond.instanceMethod yX6_rid ∈ wds ∧ Cond.selects RX6 yX6_rid yX6_rid ∈ wds ∧ Cond.initialized RX6 ∈ wds ∧ Cond.code yX6_rid cX6_rid 2 (some .int) ∈ wds := ⟨ml_RL_80, im_yX6_rid, se_yX6_rid, in_RX6, cd_X6_rid⟩
theorem k_RL_87 : Cond.methodLink RL 87 yX6_judge ∈ wds ∧ Cond.instanceMethod yX6_judge ∈ wds ∧ Cond.selects RX6 yX6_judge yX6_judge ∈ wds ∧ Cond.initialized RX6 ∈ wds ∧ Cond.code yX6_judge cX6_judge 5 (some .int) ∈ wds := ⟨ml_RL_87, im_yX6_judge, se_yX6_judge, in_RX6, cd_X6_judge⟩
theorem k_RX6_209 : Cond.methodLink RX6 209 yX6_longPower ∈ wds ∧ Cond.static yX6_longPower ∈ wds ∧ Cond.initialized yX6_longPower.cls ∈ wds ∧ Cond.code yX6_longPower cX6_longPower 6 (some .long) ∈ wds := ⟨ml_RX6_209, sm_yX6_longPower, in_RX6, cd_X6_longPower⟩
theorem k_RX6_213 : Cond.methodLink RX6 213 yX6_does ∈ wds ∧ Cond.instanceMethod yX6_does ∈ wds ∧ Cond.selects RX6 yX6_does yX6_does ∈ wds ∧ Cond.initialized RX6 ∈ wds ∧ Cond.code yX6_does cX6_does 5 (some .boolean) ∈ wds := ⟨ml_RX6_213, im_yX6_does, se_yX6_does, in_RX6, cd_X6_does⟩
theorem k_RX6_202 : Cond.methodLink RX6 202 yX6_eats ∈ wds ∧ Cond.instanceMethod yX6_eats ∈ wds ∧ Cond.selects RX6 yX6_eats yX6_eats ∈ wds ∧ Cond.initialized RX6 ∈ wds ∧ Cond.code yX6_eats cX6_eats 4 (some .boolean) ∈ wds := ⟨ml_RX6_202, im_yX6_eats, se_yX6_eats, in_RX6, cd_X6_eats⟩
theorem k_RL_92 : Cond.methodLink RL 92 yX6_share ∈ wds ∧ Cond.instanceMethod yX6_share ∈ wds ∧ Cond.selects RX6 yX6_share yX6_share ∈ wds ∧ Cond.initialized RX6 ∈ wds ∧ Cond.code yX6_share cX6_share 6 (some .int) ∈ wds := ⟨ml_RL_92, im_yX6_share, se_yX6_share, in_RX6, cd_X6_share⟩
theorem k_RX6_219 : Cond.methodLink RX6 219 yX6_ways ∈ wds ∧ Cond.static yX6_ways ∈ wds ∧ Cond.initialized yX6_ways.cls ∈ wds ∧ Cond.code yX6_ways cX6_ways 3 (some .int) ∈ wds := ⟨ml_RX6_219, sm_yX6_ways, in_RX6, cd_X6_ways⟩
theorem k_RX6_222 : Cond.methodLink RX6 222 yX6_fraction ∈ wds ∧ Cond.static yX6_fraction ∈ wds ∧ Cond.initialized yX6_fraction.cls ∈ wds ∧ Cond.code yX6_fraction cX6_fraction 4 (some .int) ∈ wds := ⟨ml_RX6_222, sm_yX6_fraction, in_RX6, cd_X6_fraction⟩
theorem k_RX6_216 : Cond.methodLink RX6 216 yX6_divisor ∈ wds ∧ Cond.static yX6_divisor ∈ wds ∧ Cond.initialized yX6_divisor.cls ∈ wds ∧ Cond.code yX6_divisor cX6_divisor 5 (some .int) ∈ wds := ⟨ml_RX6_216, sm_yX6_divisor, in_RX6, cd_X6_divisor⟩
theorem k_RL_96 : Cond.methodLink RL 96 yX6_came ∈ wds ∧ Cond.instanceMethod yX6_came ∈ wds ∧ Cond.selects RX6 yX6_came yX6_came ∈ wds ∧ Cond.initialized RX6 ∈ wds ∧ Cond.code yX6_came cX6_came 3 (some .int) ∈ wds := ⟨ml_RL_96, im_yX6_came, se_yX6_came, in_RX6, cd_X6_came⟩
theorem k_RL_100 : Cond.methodLink RL 100 yX6_forget ∈ wds ∧ Cond.instanceMethod yX6_forget ∈ wds ∧ Cond.selects RX6 yX6_forget yX6_forget ∈ wds ∧ Cond.initialized RX6 ∈ wds ∧ Cond.code yX6_forget cX6_forget 2 (some .int) ∈ wds := ⟨ml_RL_100, im_yX6_forget, se_yX6_forget, in_RX6, cd_X6_forget⟩
theorem k_RL_104 : Cond.methodLink RL 104 yX6_strangers ∈ wds ∧ Cond.instanceMethod yX6_strangers ∈ wds ∧ Cond.selects RX6 yX6_strangers yX6_strangers ∈ wds ∧ Cond.initialized RX6 ∈ wds ∧ Cond.code yX6_strangers cX6_strangers 5 (some .int) ∈ wds := ⟨ml_RL_104, im_yX6_strangers, se_yX6_strangers, in_RX6, cd_X6_strangers⟩
theorem k_RL_109 : Cond.methodLink RL 109 yX6_rests ∈ wds ∧ Cond.instanceMethod yX6_rests ∈ wds ∧ Cond.selects RX6 yX6_rests yX6_rests ∈ wds ∧ Cond.initialized RX6 ∈ wds ∧ Cond.code yX6_rests cX6_rests 9 (some .int) ∈ wds := ⟨ml_RL_109, im_yX6_rests, se_yX6_rests, in_RX6, cd_X6_rests⟩
theorem k_RL_114 : Cond.methodLink RL 114 yX6_home ∈ wds ∧ Cond.instanceMethod yX6_home ∈ wds ∧ Cond.selects RX6 yX6_home yX6_home ∈ wds ∧ Cond.initialized RX6 ∈ wds ∧ Cond.code yX6_home cX6_home 7 (some .int) ∈ wds := ⟨ml_RL_114, im_yX6_home, se_yX6_home, in_RX6, cd_X6_home⟩
theorem k_RX6_240 : Cond.methodLink RX6 240 yX6_power ∈ wds ∧ Cond.static yX6_power ∈ wds ∧ Cond.initialized yX6_power.cls ∈ wds ∧ Cond.code yX6_power cX6_power 4 (some .int) ∈ wds := ⟨ml_RX6_240, sm_yX6_power, in_RX6, cd_X6_power⟩
theorem k_RL_119 : Cond.methodLink RL 119 yX6_seed ∈ wds ∧ Cond.instanceMethod yX6_seed ∈ wds ∧ Cond.selects RX6 yX6_seed yX6_seed ∈ wds ∧ Cond.initialized RX6 ∈ wds ∧ Cond.code yX6_seed cX6_seed 5 (some .long) ∈ wds := ⟨ml_RL_119, im_yX6_seed, se_yX6_seed, in_RX6, cd_X6_seed⟩
theorem k_RL_123 : Cond.methodLink RL 123 yX6_years ∈ wds ∧ Cond.instanceMethod yX6_years ∈ wds ∧ Cond.selects RX6 yX6_years yX6_years ∈ wds ∧ Cond.initialized RX6 ∈ wds ∧ Cond.code yX6_years cX6_years 5 (some .int) ∈ wds := ⟨ml_RL_123, im_yX6_years, se_yX6_years, in_RX6, cd_X6_years⟩
theorem k_RL_127 : Cond.methodLink RL 127 yX6_keep ∈ wds ∧ Cond.instanceMethod yX6_keep ∈ wds ∧ Cond.selects RX6 yX6_keep yX6_keep ∈ wds ∧ Cond.initialized RX6 ∈ wds ∧ Cond.code yX6_keep cX6_keep 3 (some .int) ∈ wds := ⟨ml_RL_127, im_yX6_keep, se_yX6_keep, in_RX6, cd_X6_keep⟩
theorem k_RL_131 : Cond.methodLink RL 131 yX6_again ∈ wds ∧ Cond.instanceMethod yX6_again ∈ wds ∧ Cond.selects RX6 yX6_again yX6_again ∈ wds ∧ Cond.initialized RX6 ∈ wds ∧ Cond.code yX6_again cX6_again 3 (some .int) ∈ wds := ⟨ml_RL_131, im_yX6_again, se_yX6_again, in_RX6, cd_X6_again⟩
end
