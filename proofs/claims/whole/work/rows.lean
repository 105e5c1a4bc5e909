section
-- ===== PART A: goes FIRST, ahead of the names: the tables' words, and 'selects' of the private methods out of them =====
/-- a private method of a class that the tables say can be made, by its rows of tables_1 -/
def lw_okq (q : MethodName × Nat) : Prop := (q.1.cls ≠ "java/lang/invoke/MethodHandle" ∧ q.1.cls ≠ "java/lang/invoke/VarHandle") ∧ Cond.instantiable q.1.cls q.2 ∈ tables_1 ∧ Cond.privateMethod q.1 ∈ tables_1 ∧ Cond.instanceMethod q.1 ∈ tables_1
theorem lw_p0 : lw_okq (⟨"OwedFurrows$Text", "faultOfThing", "(IZ)I"⟩, 2) := ⟨⟨by decide +kernel, by decide +kernel⟩, List.mem_of_getElem? (i := 20) (by decide +kernel), List.mem_of_getElem? (i := 206) (by decide +kernel), List.mem_of_getElem? (i := 207) (by decide +kernel)⟩
theorem lw_p1 : lw_okq (⟨"OwedFurrows$Land", "addField", "(LOwedFurrows$Text;I)V"⟩, 8) := ⟨⟨by decide +kernel, by decide +kernel⟩, List.mem_of_getElem? (i := 37) (by decide +kernel), List.mem_of_getElem? (i := 218) (by decide +kernel), List.mem_of_getElem? (i := 219) (by decide +kernel)⟩
theorem lw_p2 : lw_okq (⟨"OwedFurrows$Land", "addEater", "(LOwedFurrows$Text;I)V"⟩, 8) := ⟨⟨by decide +kernel, by decide +kernel⟩, List.mem_of_getElem? (i := 37) (by decide +kernel), List.mem_of_getElem? (i := 226) (by decide +kernel), List.mem_of_getElem? (i := 227) (by decide +kernel)⟩
theorem lw_p3 : lw_okq (⟨"OwedFurrows", "sownIfCome", "(I)I"⟩, 10) := ⟨⟨by decide +kernel, by decide +kernel⟩, List.mem_of_getElem? (i := 12) (by decide +kernel), List.mem_of_getElem? (i := 270) (by decide +kernel), List.mem_of_getElem? (i := 271) (by decide +kernel)⟩
theorem lw_p4 : lw_okq (⟨"OwedFurrows$Commons", "nearestOwed", "(II)I"⟩, 7) := ⟨⟨by decide +kernel, by decide +kernel⟩, List.mem_of_getElem? (i := 84) (by decide +kernel), List.mem_of_getElem? (i := 289) (by decide +kernel), List.mem_of_getElem? (i := 290) (by decide +kernel)⟩
theorem lw_p5 : lw_okq (⟨"OwedFurrows$Commons", "bringSeed", "(II)V"⟩, 7) := ⟨⟨by decide +kernel, by decide +kernel⟩, List.mem_of_getElem? (i := 84) (by decide +kernel), List.mem_of_getElem? (i := 296) (by decide +kernel), List.mem_of_getElem? (i := 297) (by decide +kernel)⟩
theorem lw_p6 : lw_okq (⟨"OwedFurrows", "isSownIfFed", "(II)Z"⟩, 10) := ⟨⟨by decide +kernel, by decide +kernel⟩, List.mem_of_getElem? (i := 12) (by decide +kernel), List.mem_of_getElem? (i := 388) (by decide +kernel), List.mem_of_getElem? (i := 389) (by decide +kernel)⟩
theorem lw_p7 : lw_okq (⟨"OwedFurrows", "tryToTake", "(II)Z"⟩, 10) := ⟨⟨by decide +kernel, by decide +kernel⟩, List.mem_of_getElem? (i := 12) (by decide +kernel), List.mem_of_getElem? (i := 392) (by decide +kernel), List.mem_of_getElem? (i := 393) (by decide +kernel)⟩
theorem lw_p8 : lw_okq (⟨"OwedFurrows", "isSo", "(III)Z"⟩, 10) := ⟨⟨by decide +kernel, by decide +kernel⟩, List.mem_of_getElem? (i := 12) (by decide +kernel), List.mem_of_getElem? (i := 410) (by decide +kernel), List.mem_of_getElem? (i := 411) (by decide +kernel)⟩
theorem lw_p9 : lw_okq (⟨"OwedFurrows", "playPair", "(IIII)V"⟩, 10) := ⟨⟨by decide +kernel, by decide +kernel⟩, List.mem_of_getElem? (i := 12) (by decide +kernel), List.mem_of_getElem? (i := 449) (by decide +kernel), List.mem_of_getElem? (i := 450) (by decide +kernel)⟩
theorem lw_p10 : lw_okq (⟨"OwedFurrows", "isAtRest", "(I)Z"⟩, 10) := ⟨⟨by decide +kernel, by decide +kernel⟩, List.mem_of_getElem? (i := 12) (by decide +kernel), List.mem_of_getElem? (i := 453) (by decide +kernel), List.mem_of_getElem? (i := 454) (by decide +kernel)⟩
theorem lw_p11 : lw_okq (⟨"OwedFurrows", "doByLot", "(I)V"⟩, 10) := ⟨⟨by decide +kernel, by decide +kernel⟩, List.mem_of_getElem? (i := 12) (by decide +kernel), List.mem_of_getElem? (i := 476) (by decide +kernel), List.mem_of_getElem? (i := 477) (by decide +kernel)⟩
theorem lw_p12 : lw_okq (⟨"OwedFurrowsModel", "readCountry", "()I"⟩, 34) := ⟨⟨by decide +kernel, by decide +kernel⟩, List.mem_of_getElem? (i := 488) (by decide +kernel), List.mem_of_getElem? (i := 613) (by decide +kernel), List.mem_of_getElem? (i := 614) (by decide +kernel)⟩
theorem lw_p13 : lw_okq (⟨"OwedFurrowsModel", "readThing", "()Z"⟩, 34) := ⟨⟨by decide +kernel, by decide +kernel⟩, List.mem_of_getElem? (i := 488) (by decide +kernel), List.mem_of_getElem? (i := 617) (by decide +kernel), List.mem_of_getElem? (i := 618) (by decide +kernel)⟩
theorem lw_p14 : lw_okq (⟨"OwedFurrowsModel", "readOneField", "()Z"⟩, 34) := ⟨⟨by decide +kernel, by decide +kernel⟩, List.mem_of_getElem? (i := 488) (by decide +kernel), List.mem_of_getElem? (i := 621) (by decide +kernel), List.mem_of_getElem? (i := 622) (by decide +kernel)⟩
theorem lw_p15 : lw_okq (⟨"OwedFurrowsModel", "figure", "(II)I"⟩, 34) := ⟨⟨by decide +kernel, by decide +kernel⟩, List.mem_of_getElem? (i := 488) (by decide +kernel), List.mem_of_getElem? (i := 625) (by decide +kernel), List.mem_of_getElem? (i := 626) (by decide +kernel)⟩
def lw_privs_1 : List (MethodName × Nat) := [(⟨"OwedFurrows$Text", "faultOfThing", "(IZ)I"⟩, 2), (⟨"OwedFurrows$Land", "addField", "(LOwedFurrows$Text;I)V"⟩, 8), (⟨"OwedFurrows$Land", "addEater", "(LOwedFurrows$Text;I)V"⟩, 8), (⟨"OwedFurrows", "sownIfCome", "(I)I"⟩, 10), (⟨"OwedFurrows$Commons", "nearestOwed", "(II)I"⟩, 7), (⟨"OwedFurrows$Commons", "bringSeed", "(II)V"⟩, 7), (⟨"OwedFurrows", "isSownIfFed", "(II)Z"⟩, 10), (⟨"OwedFurrows", "tryToTake", "(II)Z"⟩, 10), (⟨"OwedFurrows", "isSo", "(III)Z"⟩, 10), (⟨"OwedFurrows", "playPair", "(IIII)V"⟩, 10), (⟨"OwedFurrows", "isAtRest", "(I)Z"⟩, 10), (⟨"OwedFurrows", "doByLot", "(I)V"⟩, 10), (⟨"OwedFurrowsModel", "readCountry", "()I"⟩, 34), (⟨"OwedFurrowsModel", "readThing", "()Z"⟩, 34), (⟨"OwedFurrowsModel", "readOneField", "()Z"⟩, 34), (⟨"OwedFurrowsModel", "figure", "(II)I"⟩, 34)]
theorem lw_r1 : ∀ q ∈ lw_privs_1, lw_okq q := List.forall_mem_cons.mpr ⟨lw_p0, List.forall_mem_cons.mpr ⟨lw_p1, List.forall_mem_cons.mpr ⟨lw_p2, List.forall_mem_cons.mpr ⟨lw_p3, List.forall_mem_cons.mpr ⟨lw_p4, List.forall_mem_cons.mpr ⟨lw_p5, List.forall_mem_cons.mpr ⟨lw_p6, List.forall_mem_cons.mpr ⟨lw_p7, List.forall_mem_cons.mpr ⟨lw_p8, List.forall_mem_cons.mpr ⟨lw_p9, List.forall_mem_cons.mpr ⟨lw_p10, List.forall_mem_cons.mpr ⟨lw_p11, List.forall_mem_cons.mpr ⟨lw_p12, List.forall_mem_cons.mpr ⟨lw_p13, List.forall_mem_cons.mpr ⟨lw_p14, List.forall_mem_cons.mpr ⟨lw_p15, fun _ h => absurd h List.not_mem_nil⟩⟩⟩⟩⟩⟩⟩⟩⟩⟩⟩⟩⟩⟩⟩⟩
theorem lw_p16 : lw_okq (⟨"OwedFurrowsModel", "readOneEater", "()Z"⟩, 34) := ⟨⟨by decide +kernel, by decide +kernel⟩, List.mem_of_getElem? (i := 488) (by decide +kernel), List.mem_of_getElem? (i := 629) (by decide +kernel), List.mem_of_getElem? (i := 630) (by decide +kernel)⟩
theorem lw_p17 : lw_okq (⟨"OwedFurrowsModel", "owedTogether", "()I"⟩, 34) := ⟨⟨by decide +kernel, by decide +kernel⟩, List.mem_of_getElem? (i := 488) (by decide +kernel), List.mem_of_getElem? (i := 644) (by decide +kernel), List.mem_of_getElem? (i := 645) (by decide +kernel)⟩
theorem lw_p18 : lw_okq (⟨"OwedFurrowsModel", "sown", "([I)I"⟩, 34) := ⟨⟨by decide +kernel, by decide +kernel⟩, List.mem_of_getElem? (i := 488) (by decide +kernel), List.mem_of_getElem? (i := 654) (by decide +kernel), List.mem_of_getElem? (i := 655) (by decide +kernel)⟩
theorem lw_p19 : lw_okq (⟨"OwedFurrowsModel", "marched", "(I)I"⟩, 34) := ⟨⟨by decide +kernel, by decide +kernel⟩, List.mem_of_getElem? (i := 488) (by decide +kernel), List.mem_of_getElem? (i := 658) (by decide +kernel), List.mem_of_getElem? (i := 659) (by decide +kernel)⟩
theorem lw_p20 : lw_okq (⟨"OwedFurrowsModel", "begin", "()V"⟩, 34) := ⟨⟨by decide +kernel, by decide +kernel⟩, List.mem_of_getElem? (i := 488) (by decide +kernel), List.mem_of_getElem? (i := 662) (by decide +kernel), List.mem_of_getElem? (i := 663) (by decide +kernel)⟩
theorem lw_p21 : lw_okq (⟨"OwedFurrowsModel", "goMarch", "([II)I"⟩, 34) := ⟨⟨by decide +kernel, by decide +kernel⟩, List.mem_of_getElem? (i := 488) (by decide +kernel), List.mem_of_getElem? (i := 666) (by decide +kernel), List.mem_of_getElem? (i := 667) (by decide +kernel)⟩
theorem lw_p22 : lw_okq (⟨"OwedFurrowsModel", "goes", "([III)I"⟩, 34) := ⟨⟨by decide +kernel, by decide +kernel⟩, List.mem_of_getElem? (i := 488) (by decide +kernel), List.mem_of_getElem? (i := 673) (by decide +kernel), List.mem_of_getElem? (i := 674) (by decide +kernel)⟩
theorem lw_p23 : lw_okq (⟨"OwedFurrowsModel", "nearest", "([III)I"⟩, 34) := ⟨⟨by decide +kernel, by decide +kernel⟩, List.mem_of_getElem? (i := 488) (by decide +kernel), List.mem_of_getElem? (i := 677) (by decide +kernel), List.mem_of_getElem? (i := 678) (by decide +kernel)⟩
theorem lw_p24 : lw_okq (⟨"OwedFurrowsModel", "noField", "(I)Z"⟩, 34) := ⟨⟨by decide +kernel, by decide +kernel⟩, List.mem_of_getElem? (i := 488) (by decide +kernel), List.mem_of_getElem? (i := 691) (by decide +kernel), List.mem_of_getElem? (i := 692) (by decide +kernel)⟩
theorem lw_p25 : lw_okq (⟨"OwedFurrowsModel", "owing", "(I)I"⟩, 34) := ⟨⟨by decide +kernel, by decide +kernel⟩, List.mem_of_getElem? (i := 488) (by decide +kernel), List.mem_of_getElem? (i := 695) (by decide +kernel), List.mem_of_getElem? (i := 696) (by decide +kernel)⟩
theorem lw_p26 : lw_okq (⟨"OwedFurrowsModel", "noEater", "(I)Z"⟩, 34) := ⟨⟨by decide +kernel, by decide +kernel⟩, List.mem_of_getElem? (i := 488) (by decide +kernel), List.mem_of_getElem? (i := 703) (by decide +kernel), List.mem_of_getElem? (i := 704) (by decide +kernel)⟩
theorem lw_p27 : lw_okq (⟨"OwedFurrowsModel", "canEat", "([III)Z"⟩, 34) := ⟨⟨by decide +kernel, by decide +kernel⟩, List.mem_of_getElem? (i := 488) (by decide +kernel), List.mem_of_getElem? (i := 715) (by decide +kernel), List.mem_of_getElem? (i := 716) (by decide +kernel)⟩
theorem lw_p28 : lw_okq (⟨"OwedFurrowsModel", "bite", "(I)I"⟩, 34) := ⟨⟨by decide +kernel, by decide +kernel⟩, List.mem_of_getElem? (i := 488) (by decide +kernel), List.mem_of_getElem? (i := 719) (by decide +kernel), List.mem_of_getElem? (i := 720) (by decide +kernel)⟩
theorem lw_p29 : lw_okq (⟨"OwedFurrowsModel", "note", "()V"⟩, 34) := ⟨⟨by decide +kernel, by decide +kernel⟩, List.mem_of_getElem? (i := 488) (by decide +kernel), List.mem_of_getElem? (i := 723) (by decide +kernel), List.mem_of_getElem? (i := 724) (by decide +kernel)⟩
theorem lw_p30 : lw_okq (⟨"OwedFurrowsModel", "goEat", "([III)V"⟩, 34) := ⟨⟨by decide +kernel, by decide +kernel⟩, List.mem_of_getElem? (i := 488) (by decide +kernel), List.mem_of_getElem? (i := 727) (by decide +kernel), List.mem_of_getElem? (i := 728) (by decide +kernel)⟩
theorem lw_p31 : lw_okq (⟨"OwedFurrowsModel", "goHarvest", "([I)I"⟩, 34) := ⟨⟨by decide +kernel, by decide +kernel⟩, List.mem_of_getElem? (i := 488) (by decide +kernel), List.mem_of_getElem? (i := 743) (by decide +kernel), List.mem_of_getElem? (i := 744) (by decide +kernel)⟩
def lw_privs_2 : List (MethodName × Nat) := [(⟨"OwedFurrowsModel", "readOneEater", "()Z"⟩, 34), (⟨"OwedFurrowsModel", "owedTogether", "()I"⟩, 34), (⟨"OwedFurrowsModel", "sown", "([I)I"⟩, 34), (⟨"OwedFurrowsModel", "marched", "(I)I"⟩, 34), (⟨"OwedFurrowsModel", "begin", "()V"⟩, 34), (⟨"OwedFurrowsModel", "goMarch", "([II)I"⟩, 34), (⟨"OwedFurrowsModel", "goes", "([III)I"⟩, 34), (⟨"OwedFurrowsModel", "nearest", "([III)I"⟩, 34), (⟨"OwedFurrowsModel", "noField", "(I)Z"⟩, 34), (⟨"OwedFurrowsModel", "owing", "(I)I"⟩, 34), (⟨"OwedFurrowsModel", "noEater", "(I)Z"⟩, 34), (⟨"OwedFurrowsModel", "canEat", "([III)Z"⟩, 34), (⟨"OwedFurrowsModel", "bite", "(I)I"⟩, 34), (⟨"OwedFurrowsModel", "note", "()V"⟩, 34), (⟨"OwedFurrowsModel", "goEat", "([III)V"⟩, 34), (⟨"OwedFurrowsModel", "goHarvest", "([I)I"⟩, 34)]
theorem lw_r2 : ∀ q ∈ lw_privs_2, lw_okq q := List.forall_mem_cons.mpr ⟨lw_p16, List.forall_mem_cons.mpr ⟨lw_p17, List.forall_mem_cons.mpr ⟨lw_p18, List.forall_mem_cons.mpr ⟨lw_p19, List.forall_mem_cons.mpr ⟨lw_p20, List.forall_mem_cons.mpr ⟨lw_p21, List.forall_mem_cons.mpr ⟨lw_p22, List.forall_mem_cons.mpr ⟨lw_p23, List.forall_mem_cons.mpr ⟨lw_p24, List.forall_mem_cons.mpr ⟨lw_p25, List.forall_mem_cons.mpr ⟨lw_p26, List.forall_mem_cons.mpr ⟨lw_p27, List.forall_mem_cons.mpr ⟨lw_p28, List.forall_mem_cons.mpr ⟨lw_p29, List.forall_mem_cons.mpr ⟨lw_p30, List.forall_mem_cons.mpr ⟨lw_p31, fun _ h => absurd h List.not_mem_nil⟩⟩⟩⟩⟩⟩⟩⟩⟩⟩⟩⟩⟩⟩⟩⟩
theorem lw_p32 : lw_okq (⟨"OwedFurrowsModel", "isSownBy", "(II)Z"⟩, 34) := ⟨⟨by decide +kernel, by decide +kernel⟩, List.mem_of_getElem? (i := 488) (by decide +kernel), List.mem_of_getElem? (i := 763) (by decide +kernel), List.mem_of_getElem? (i := 764) (by decide +kernel)⟩
theorem lw_p33 : lw_okq (⟨"OwedFurrowsModel", "does", "(I)Z"⟩, 34) := ⟨⟨by decide +kernel, by decide +kernel⟩, List.mem_of_getElem? (i := 488) (by decide +kernel), List.mem_of_getElem? (i := 780) (by decide +kernel), List.mem_of_getElem? (i := 781) (by decide +kernel)⟩
theorem lw_p34 : lw_okq (⟨"OwedFurrowsModel", "eats", "(II)Z"⟩, 34) := ⟨⟨by decide +kernel, by decide +kernel⟩, List.mem_of_getElem? (i := 488) (by decide +kernel), List.mem_of_getElem? (i := 784) (by decide +kernel), List.mem_of_getElem? (i := 785) (by decide +kernel)⟩
def lw_privs_3 : List (MethodName × Nat) := [(⟨"OwedFurrowsModel", "isSownBy", "(II)Z"⟩, 34), (⟨"OwedFurrowsModel", "does", "(I)Z"⟩, 34), (⟨"OwedFurrowsModel", "eats", "(II)Z"⟩, 34)]
theorem lw_r3 : ∀ q ∈ lw_privs_3, lw_okq q := List.forall_mem_cons.mpr ⟨lw_p32, List.forall_mem_cons.mpr ⟨lw_p33, List.forall_mem_cons.mpr ⟨lw_p34, fun _ h => absurd h List.not_mem_nil⟩⟩⟩
def lw_privs : List (MethodName × Nat) := lw_privs_1 ++ (lw_privs_2 ++ (lw_privs_3))
def lw_tbl : List Cond := k2_sels lw_privs ++ tables_1
theorem lw_privs_ok : ∀ q ∈ lw_privs, lw_okq q := by
  show ∀ q ∈ lw_privs_1 ++ (lw_privs_2 ++ (lw_privs_3)), lw_okq q
  exact List.forall_mem_append.mpr ⟨lw_r1, List.forall_mem_append.mpr ⟨lw_r2, lw_r3⟩⟩

def RX0 : String := "OwedFurrows$Acts"
def TX0 : u_T := fun k => match k with
  | 0 => ("OwedFurrows$Acts", "ring", "[LOwedFurrows$Commons;", true)
  | 1 => ("OwedFurrows$Acts", "first", "I", false)
  | _ => ("OwedFurrows$Acts", "count", "I", false)
def tyX0 : Nat → FieldType := fun k => match k with
  | 0 => .array (.object "OwedFurrows$Commons")
  | 1 => .int
  | _ => .int
abbrev wsX00 : List Cond := u_ws RX0 TX0 3
theorem nmX0 : ∀ a, a < 3 → ∀ b, b < 3 → a ≠ b → (TX0 a).2.1 ≠ (TX0 b).2.1 := by decide +kernel
theorem tyX0_ok : ∀ k, k < 3 → parseFieldDescriptor (TX0 k).2.2.1 = some (tyX0 k) := by decide +kernel
abbrev cX0_init : ByteArray := prog_2_method_1_code
def yX0_init : MethodName := ⟨RX0, "<init>", "(LOwedFurrows$Land;)V"⟩
abbrev cX0_remember : ByteArray := prog_2_method_2_code
def yX0_remember : MethodName := ⟨RX0, "remember", "(LOwedFurrows$Commons;)V"⟩
abbrev cX0_takeBackInto : ByteArray := prog_2_method_3_code
def yX0_takeBackInto : MethodName := ⟨RX0, "takeBackInto", "(LOwedFurrows$Commons;)V"⟩
def RX1 : String := "OwedFurrows$Commons"
def TX1 : u_T := fun k => match k with
  | 0 => ("OwedFurrows$Commons", "land", "LOwedFurrows$Land;", true)
  | 1 => ("OwedFurrows$Commons", "loaves", "[I", true)
  | 2 => ("OwedFurrows$Commons", "sacks", "[I", true)
  | 3 => ("OwedFurrows$Commons", "debts", "[I", true)
  | 4 => ("OwedFurrows$Commons", "year", "I", false)
  | 5 => ("OwedFurrows$Commons", "visits", "[I", true)
  | _ => ("OwedFurrows$Commons", "ways", "[I", true)
def tyX1 : Nat → FieldType := fun k => match k with
  | 0 => .object "OwedFurrows$Land"
  | 1 => .array .int
  | 2 => .array .int
  | 3 => .array .int
  | 4 => .int
  | 5 => .array .int
  | _ => .array .int
abbrev wsX10 : List Cond := u_ws RX1 TX1 7
theorem nmX1 : ∀ a, a < 7 → ∀ b, b < 7 → a ≠ b → (TX1 a).2.1 ≠ (TX1 b).2.1 := by decide +kernel
theorem tyX1_ok : ∀ k, k < 7 → parseFieldDescriptor (TX1 k).2.2.1 = some (tyX1 k) := by decide +kernel
abbrev cX1_init : ByteArray := prog_3_method_1_code
def yX1_init : MethodName := ⟨RX1, "<init>", "(LOwedFurrows$Land;)V"⟩
abbrev cX1_beginAnew : ByteArray := prog_3_method_2_code
def yX1_beginAnew : MethodName := ⟨RX1, "beginAnew", "()V"⟩
abbrev cX1_copyFrom : ByteArray := prog_3_method_3_code
def yX1_copyFrom : MethodName := ⟨RX1, "copyFrom", "(LOwedFurrows$Commons;)V"⟩
abbrev cX1_debt : ByteArray := prog_3_method_4_code
def yX1_debt : MethodName := ⟨RX1, "debt", "(II)I"⟩
abbrev cX1_debtsOf : ByteArray := prog_3_method_5_code
def yX1_debtsOf : MethodName := ⟨RX1, "debtsOf", "(I)I"⟩
abbrev cX1_allDebts : ByteArray := prog_3_method_6_code
def yX1_allDebts : MethodName := ⟨RX1, "allDebts", "()I"⟩
abbrev cX1_debtorsOf : ByteArray := prog_3_method_7_code
def yX1_debtorsOf : MethodName := ⟨RX1, "debtorsOf", "(I)I"⟩
abbrev cX1_allLoaves : ByteArray := prog_3_method_8_code
def yX1_allLoaves : MethodName := ⟨RX1, "allLoaves", "()I"⟩
abbrev cX1_allSeed : ByteArray := prog_3_method_9_code
def yX1_allSeed : MethodName := ⟨RX1, "allSeed", "()I"⟩
abbrev cX1_isSown : ByteArray := prog_3_method_10_code
def yX1_isSown : MethodName := ⟨RX1, "isSown", "(I)Z"⟩
abbrev cX1_sownFields : ByteArray := prog_3_method_11_code
def yX1_sownFields : MethodName := ⟨RX1, "sownFields", "()I"⟩
abbrev cX1_canTake : ByteArray := prog_3_method_12_code
def yX1_canTake : MethodName := ⟨RX1, "canTake", "(II)Z"⟩
abbrev cX1_takeLoaves : ByteArray := prog_3_method_13_code
def yX1_takeLoaves : MethodName := ⟨RX1, "takeLoaves", "(II)V"⟩
abbrev cX1_callOut : ByteArray := prog_3_method_14_code
def yX1_callOut : MethodName := ⟨RX1, "callOut", "(I)V"⟩
abbrev cX1_sendOut : ByteArray := prog_3_method_15_code
def yX1_sendOut : MethodName := ⟨RX1, "sendOut", "(II)V"⟩
abbrev cX1_nearestOwed : ByteArray := prog_3_method_16_code
def yX1_nearestOwed : MethodName := ⟨RX1, "nearestOwed", "(II)I"⟩
abbrev cX1_bringSeed : ByteArray := prog_3_method_17_code
def yX1_bringSeed : MethodName := ⟨RX1, "bringSeed", "(II)V"⟩
abbrev cX1_reap : ByteArray := prog_3_method_18_code
def yX1_reap : MethodName := ⟨RX1, "reap", "()V"⟩
def RX2 : String := "OwedFurrows$Land"
def TX2 : u_T := fun k => match k with
  | 0 => ("OwedFurrows$Land", "places", "[I", true)
  | 1 => ("OwedFurrows$Land", "yields", "[I", true)
  | 2 => ("OwedFurrows$Land", "needs", "[I", true)
  | 3 => ("OwedFurrows$Land", "homes", "[I", true)
  | 4 => ("OwedFurrows$Land", "walks", "[I", true)
  | 5 => ("OwedFurrows$Land", "kinds", "[I", true)
  | 6 => ("OwedFurrows$Land", "fields", "I", false)
  | _ => ("OwedFurrows$Land", "eaters", "I", false)
def tyX2 : Nat → FieldType := fun k => match k with
  | 0 => .array .int
  | 1 => .array .int
  | 2 => .array .int
  | 3 => .array .int
  | 4 => .array .int
  | 5 => .array .int
  | 6 => .int
  | _ => .int
abbrev wsX20 : List Cond := u_ws RX2 TX2 8
theorem nmX2 : ∀ a, a < 8 → ∀ b, b < 8 → a ≠ b → (TX2 a).2.1 ≠ (TX2 b).2.1 := by decide +kernel
theorem tyX2_ok : ∀ k, k < 8 → parseFieldDescriptor (TX2 k).2.2.1 = some (tyX2 k) := by decide +kernel
abbrev cX2_init : ByteArray := prog_4_method_1_code
def yX2_init : MethodName := ⟨RX2, "<init>", "()V"⟩
abbrev cX2_readFrom : ByteArray := prog_4_method_2_code
def yX2_readFrom : MethodName := ⟨RX2, "readFrom", "(LOwedFurrows$Text;)V"⟩
abbrev cX2_addField : ByteArray := prog_4_method_3_code
def yX2_addField : MethodName := ⟨RX2, "addField", "(LOwedFurrows$Text;I)V"⟩
abbrev cX2_addEater : ByteArray := prog_4_method_4_code
def yX2_addEater : MethodName := ⟨RX2, "addEater", "(LOwedFurrows$Text;I)V"⟩
abbrev cX2_hasField : ByteArray := prog_4_method_5_code
def yX2_hasField : MethodName := ⟨RX2, "hasField", "(I)Z"⟩
abbrev cX2_hasEater : ByteArray := prog_4_method_6_code
def yX2_hasEater : MethodName := ⟨RX2, "hasEater", "(I)Z"⟩
abbrev cX2_allEaters : ByteArray := prog_4_method_7_code
def yX2_allEaters : MethodName := ⟨RX2, "allEaters", "()I"⟩
abbrev cX2_portionOf : ByteArray := prog_4_method_8_code
def yX2_portionOf : MethodName := ⟨RX2, "portionOf", "(I)I"⟩
def RX3 : String := "OwedFurrows$Text"
def TX3 : u_T := fun k => match k with
  | 0 => ("OwedFurrows$Text", "bytes", "[I", true)
  | _ => ("OwedFurrows$Text", "length", "I", false)
def tyX3 : Nat → FieldType := fun k => match k with
  | 0 => .array .int
  | _ => .int
abbrev wsX30 : List Cond := u_ws RX3 TX3 2
theorem nmX3 : ∀ a, a < 2 → ∀ b, b < 2 → a ≠ b → (TX3 a).2.1 ≠ (TX3 b).2.1 := by decide +kernel
theorem tyX3_ok : ∀ k, k < 2 → parseFieldDescriptor (TX3 k).2.2.1 = some (tyX3 k) := by decide +kernel
abbrev cX3_init : ByteArray := prog_5_method_1_code
def yX3_init : MethodName := ⟨RX3, "<init>", "()V"⟩
abbrev cX3_append : ByteArray := prog_5_method_2_code
def yX3_append : MethodName := ⟨RX3, "append", "(I)V"⟩
abbrev cX3_firstFault : ByteArray := prog_5_method_3_code
def yX3_firstFault : MethodName := ⟨RX3, "firstFault", "()I"⟩
abbrev cX3_faultOfThing : ByteArray := prog_5_method_4_code
def yX3_faultOfThing : MethodName := ⟨RX3, "faultOfThing", "(IZ)I"⟩
abbrev cX3_figure : ByteArray := prog_5_method_5_code
def yX3_figure : MethodName := ⟨RX3, "figure", "(I)I"⟩
def RX4 : String := "OwedFurrows$Tidings"
def TX4 : u_T := fun k => match k with
  | 0 => ("OwedFurrows$Tidings", "places", "[I", true)
  | 1 => ("OwedFurrows$Tidings", "cameThere", "[Z", true)
  | _ => ("OwedFurrows$Tidings", "count", "I", false)
def tyX4 : Nat → FieldType := fun k => match k with
  | 0 => .array .int
  | 1 => .array .boolean
  | _ => .int
abbrev wsX40 : List Cond := u_ws RX4 TX4 3
theorem nmX4 : ∀ a, a < 3 → ∀ b, b < 3 → a ≠ b → (TX4 a).2.1 ≠ (TX4 b).2.1 := by decide +kernel
theorem tyX4_ok : ∀ k, k < 3 → parseFieldDescriptor (TX4 k).2.2.1 = some (tyX4 k) := by decide +kernel
abbrev cX4_init : ByteArray := prog_6_method_1_code
def yX4_init : MethodName := ⟨RX4, "<init>", "()V"⟩
abbrev cX4_add : ByteArray := prog_6_method_2_code
def yX4_add : MethodName := ⟨RX4, "add", "(IZ)V"⟩
abbrev cX4_allowFor : ByteArray := prog_6_method_3_code
def yX4_allowFor : MethodName := ⟨RX4, "allowFor", "(II)Z"⟩
def RX5 : String := "OwedFurrows"
def TX5 : u_T := fun k => match k with
  | 0 => ("OwedFurrows", "text", "LOwedFurrows$Text;", true)
  | 1 => ("OwedFurrows", "land", "LOwedFurrows$Land;", true)
  | 2 => ("OwedFurrows", "now", "LOwedFurrows$Commons;", true)
  | 3 => ("OwedFurrows", "trial", "LOwedFurrows$Commons;", true)
  | 4 => ("OwedFurrows", "acts", "LOwedFurrows$Acts;", true)
  | 5 => ("OwedFurrows", "tidings", "LOwedFurrows$Tidings;", true)
  | 6 => ("OwedFurrows", "kept", "[LOwedFurrows$Commons;", true)
  | 7 => ("OwedFurrows", "isKept", "[Z", true)
  | 8 => ("OwedFurrows", "gains", "[I", true)
  | _ => ("OwedFurrows", "lotSeed", "J", false)
def tyX5 : Nat → FieldType := fun k => match k with
  | 0 => .object "OwedFurrows$Text"
  | 1 => .object "OwedFurrows$Land"
  | 2 => .object "OwedFurrows$Commons"
  | 3 => .object "OwedFurrows$Commons"
  | 4 => .object "OwedFurrows$Acts"
  | 5 => .object "OwedFurrows$Tidings"
  | 6 => .array (.object "OwedFurrows$Commons")
  | 7 => .array .boolean
  | 8 => .array .int
  | _ => .long
abbrev wsX50 : List Cond := u_ws RX5 TX5 10
theorem nmX5 : ∀ a, a < 10 → ∀ b, b < 10 → a ≠ b → (TX5 a).2.1 ≠ (TX5 b).2.1 := by decide +kernel
theorem tyX5_ok : ∀ k, k < 10 → parseFieldDescriptor (TX5 k).2.2.1 = some (tyX5 k) := by decide +kernel
abbrev cX5_init : ByteArray := prog_1_method_1_code
def yX5_init : MethodName := ⟨RX5, "<init>", "()V"⟩
abbrev cX5_write : ByteArray := prog_1_method_2_code
def yX5_write : MethodName := ⟨RX5, "write", "(I)I"⟩
abbrev cX5_wipe : ByteArray := prog_1_method_3_code
def yX5_wipe : MethodName := ⟨RX5, "wipe", "()I"⟩
abbrev cX5_fault : ByteArray := prog_1_method_4_code
def yX5_fault : MethodName := ⟨RX5, "fault", "()I"⟩
abbrev cX5_country : ByteArray := prog_1_method_5_code
def yX5_country : MethodName := ⟨RX5, "country", "()I"⟩
abbrev cX5_about : ByteArray := prog_1_method_6_code
def yX5_about : MethodName := ⟨RX5, "about", "(I)I"⟩
abbrev cX5_field : ByteArray := prog_1_method_7_code
def yX5_field : MethodName := ⟨RX5, "field", "(II)I"⟩
abbrev cX5_eater : ByteArray := prog_1_method_8_code
def yX5_eater : MethodName := ⟨RX5, "eater", "(II)I"⟩
abbrev cX5_owes : ByteArray := prog_1_method_9_code
def yX5_owes : MethodName := ⟨RX5, "owes", "(II)I"⟩
abbrev cX5_eat : ByteArray := prog_1_method_10_code
def yX5_eat : MethodName := ⟨RX5, "eat", "(II)I"⟩
abbrev cX5_cake : ByteArray := prog_1_method_11_code
def yX5_cake : MethodName := ⟨RX5, "cake", "(III)I"⟩
abbrev cX5_march : ByteArray := prog_1_method_12_code
def yX5_march : MethodName := ⟨RX5, "march", "()I"⟩
abbrev cX5_harvest : ByteArray := prog_1_method_13_code
def yX5_harvest : MethodName := ⟨RX5, "harvest", "()I"⟩
abbrev cX5_undo : ByteArray := prog_1_method_14_code
def yX5_undo : MethodName := ⟨RX5, "undo", "()I"⟩
abbrev cX5_ahead : ByteArray := prog_1_method_15_code
def yX5_ahead : MethodName := ⟨RX5, "ahead", "(II)I"⟩
abbrev cX5_wants : ByteArray := prog_1_method_16_code
def yX5_wants : MethodName := ⟨RX5, "wants", "(I)I"⟩
abbrev cX5_rid : ByteArray := prog_1_method_17_code
def yX5_rid : MethodName := ⟨RX5, "rid", "(I)I"⟩
abbrev cX5_judge : ByteArray := prog_1_method_18_code
def yX5_judge : MethodName := ⟨RX5, "judge", "(IJ)I"⟩
abbrev cX5_share : ByteArray := prog_1_method_19_code
def yX5_share : MethodName := ⟨RX5, "share", "(IZ)I"⟩
abbrev cX5_came : ByteArray := prog_1_method_20_code
def yX5_came : MethodName := ⟨RX5, "came", "(II)I"⟩
abbrev cX5_forget : ByteArray := prog_1_method_21_code
def yX5_forget : MethodName := ⟨RX5, "forget", "()I"⟩
abbrev cX5_strangers : ByteArray := prog_1_method_22_code
def yX5_strangers : MethodName := ⟨RX5, "strangers", "(I)I"⟩
abbrev cX5_rests : ByteArray := prog_1_method_23_code
def yX5_rests : MethodName := ⟨RX5, "rests", "(IIII)I"⟩
abbrev cX5_home : ByteArray := prog_1_method_24_code
def yX5_home : MethodName := ⟨RX5, "home", "(IIZ)I"⟩
abbrev cX5_seed : ByteArray := prog_1_method_25_code
def yX5_seed : MethodName := ⟨RX5, "seed", "(J)J"⟩
abbrev cX5_years : ByteArray := prog_1_method_26_code
def yX5_years : MethodName := ⟨RX5, "years", "(I)I"⟩
abbrev cX5_keep : ByteArray := prog_1_method_27_code
def yX5_keep : MethodName := ⟨RX5, "keep", "(I)I"⟩
abbrev cX5_again : ByteArray := prog_1_method_28_code
def yX5_again : MethodName := ⟨RX5, "again", "(I)I"⟩
abbrev cX5_sownIfCome : ByteArray := prog_1_method_29_code
def yX5_sownIfCome : MethodName := ⟨RX5, "sownIfCome", "(I)I"⟩
abbrev cX5_isSownIfFed : ByteArray := prog_1_method_30_code
def yX5_isSownIfFed : MethodName := ⟨RX5, "isSownIfFed", "(II)Z"⟩
abbrev cX5_tryToTake : ByteArray := prog_1_method_31_code
def yX5_tryToTake : MethodName := ⟨RX5, "tryToTake", "(II)Z"⟩
abbrev cX5_isSo : ByteArray := prog_1_method_32_code
def yX5_isSo : MethodName := ⟨RX5, "isSo", "(III)Z"⟩
abbrev cX5_playPair : ByteArray := prog_1_method_33_code
def yX5_playPair : MethodName := ⟨RX5, "playPair", "(IIII)V"⟩
abbrev cX5_isAtRest : ByteArray := prog_1_method_34_code
def yX5_isAtRest : MethodName := ⟨RX5, "isAtRest", "(I)Z"⟩
abbrev cX5_doByLot : ByteArray := prog_1_method_35_code
def yX5_doByLot : MethodName := ⟨RX5, "doByLot", "(I)V"⟩
abbrev cX5_withoutLast : ByteArray := prog_1_method_36_code
def yX5_withoutLast : MethodName := ⟨RX5, "withoutLast", "(JI)J"⟩
abbrev cX5_ordersOf : ByteArray := prog_1_method_37_code
def yX5_ordersOf : MethodName := ⟨RX5, "ordersOf", "(I)J"⟩
abbrev cX5_power : ByteArray := prog_1_method_38_code
def yX5_power : MethodName := ⟨RX5, "power", "(JI)J"⟩
abbrev cX5_partOfFraction : ByteArray := prog_1_method_39_code
def yX5_partOfFraction : MethodName := ⟨RX5, "partOfFraction", "(JJZ)I"⟩
def RX6 : String := "OwedFurrowsModel"
def TX6 : u_T := fun k => match k with
  | 0 => ("OwedFurrowsModel", "thrown", "I", false)
  | 1 => ("OwedFurrowsModel", "text", "[I", true)
  | 2 => ("OwedFurrowsModel", "textSize", "I", false)
  | 3 => ("OwedFurrowsModel", "place", "I", false)
  | 4 => ("OwedFurrowsModel", "fields", "I", false)
  | 5 => ("OwedFurrowsModel", "lies", "[I", true)
  | 6 => ("OwedFurrowsModel", "yields", "[I", true)
  | 7 => ("OwedFurrowsModel", "needs", "[I", true)
  | 8 => ("OwedFurrowsModel", "eaters", "I", false)
  | 9 => ("OwedFurrowsModel", "lives", "[I", true)
  | 10 => ("OwedFurrowsModel", "walk", "[I", true)
  | 11 => ("OwedFurrowsModel", "kind", "[I", true)
  | 12 => ("OwedFurrowsModel", "readFields", "I", false)
  | 13 => ("OwedFurrowsModel", "readField", "[I", true)
  | 14 => ("OwedFurrowsModel", "readEaters", "I", false)
  | 15 => ("OwedFurrowsModel", "readEater", "[I", true)
  | 16 => ("OwedFurrowsModel", "page", "[I", true)
  | 17 => ("OwedFurrowsModel", "trial", "[I", true)
  | 18 => ("OwedFurrowsModel", "book", "[I", true)
  | 19 => ("OwedFurrowsModel", "acts", "I", false)
  | 20 => ("OwedFurrowsModel", "kept", "[I", true)
  | 21 => ("OwedFurrowsModel", "isKept", "[Z", true)
  | 22 => ("OwedFurrowsModel", "cameMany", "I", false)
  | 23 => ("OwedFurrowsModel", "camePlace", "[I", true)
  | 24 => ("OwedFurrowsModel", "cameIs", "[I", true)
  | 25 => ("OwedFurrowsModel", "seed", "J", false)
  | 26 => ("OwedFurrowsModel", "wayFar", "I", false)
  | 27 => ("OwedFurrowsModel", "far", "[I", true)
  | 28 => ("OwedFurrowsModel", "strangerMany", "I", false)
  | 29 => ("OwedFurrowsModel", "strangerFirst", "I", false)
  | 30 => ("OwedFurrowsModel", "restMany", "I", false)
  | 31 => ("OwedFurrowsModel", "restFirst", "I", false)
  | 32 => ("OwedFurrowsModel", "gains", "[I", true)
  | _ => ("OwedFurrowsModel", "value", "[I", true)
def tyX6 : Nat → FieldType := fun k => match k with
  | 0 => .int
  | 1 => .array .int
  | 2 => .int
  | 3 => .int
  | 4 => .int
  | 5 => .array .int
  | 6 => .array .int
  | 7 => .array .int
  | 8 => .int
  | 9 => .array .int
  | 10 => .array .int
  | 11 => .array .int
  | 12 => .int
  | 13 => .array .int
  | 14 => .int
  | 15 => .array .int
  | 16 => .array .int
  | 17 => .array .int
  | 18 => .array .int
  | 19 => .int
  | 20 => .array .int
  | 21 => .array .boolean
  | 22 => .int
  | 23 => .array .int
  | 24 => .array .int
  | 25 => .long
  | 26 => .int
  | 27 => .array .int
  | 28 => .int
  | 29 => .int
  | 30 => .int
  | 31 => .int
  | 32 => .array .int
  | _ => .array .int
abbrev wsX60 : List Cond := u_ws RX6 TX6 34
theorem nmX6 : ∀ a, a < 34 → ∀ b, b < 34 → a ≠ b → (TX6 a).2.1 ≠ (TX6 b).2.1 := by decide +kernel
theorem tyX6_ok : ∀ k, k < 34 → parseFieldDescriptor (TX6 k).2.2.1 = some (tyX6 k) := by decide +kernel
abbrev cX6_init : ByteArray := prog_8_method_1_code
def yX6_init : MethodName := ⟨RX6, "<init>", "()V"⟩
abbrev cX6_in : ByteArray := prog_8_method_3_code
def yX6_in : MethodName := ⟨RX6, "in", "(JJJ)Z"⟩
abbrev cX6_has : ByteArray := prog_8_method_4_code
def yX6_has : MethodName := ⟨RX6, "has", "(II)Z"⟩
abbrev cX6_many : ByteArray := prog_8_method_5_code
def yX6_many : MethodName := ⟨RX6, "many", "(I)I"⟩
abbrev cX6_power : ByteArray := prog_8_method_6_code
def yX6_power : MethodName := ⟨RX6, "power", "(II)I"⟩
abbrev cX6_capped : ByteArray := prog_8_method_7_code
def yX6_capped : MethodName := ⟨RX6, "capped", "(I)I"⟩
abbrev cX6_apart : ByteArray := prog_8_method_8_code
def yX6_apart : MethodName := ⟨RX6, "apart", "(II)I"⟩
abbrev cX6_noField : ByteArray := prog_8_method_9_code
def yX6_noField : MethodName := ⟨RX6, "noField", "(I)Z"⟩
abbrev cX6_noEater : ByteArray := prog_8_method_10_code
def yX6_noEater : MethodName := ⟨RX6, "noEater", "(I)Z"⟩
abbrev cX6_write : ByteArray := prog_8_method_11_code
def yX6_write : MethodName := ⟨RX6, "write", "(I)I"⟩
abbrev cX6_wipe : ByteArray := prog_8_method_12_code
def yX6_wipe : MethodName := ⟨RX6, "wipe", "()I"⟩
abbrev cX6_figure : ByteArray := prog_8_method_13_code
def yX6_figure : MethodName := ⟨RX6, "figure", "(II)I"⟩
abbrev cX6_readOneField : ByteArray := prog_8_method_14_code
def yX6_readOneField : MethodName := ⟨RX6, "readOneField", "()Z"⟩
abbrev cX6_readOneEater : ByteArray := prog_8_method_15_code
def yX6_readOneEater : MethodName := ⟨RX6, "readOneEater", "()Z"⟩
abbrev cX6_readThing : ByteArray := prog_8_method_16_code
def yX6_readThing : MethodName := ⟨RX6, "readThing", "()Z"⟩
abbrev cX6_readCountry : ByteArray := prog_8_method_17_code
def yX6_readCountry : MethodName := ⟨RX6, "readCountry", "()I"⟩
abbrev cX6_fault : ByteArray := prog_8_method_18_code
def yX6_fault : MethodName := ⟨RX6, "fault", "()I"⟩
abbrev cX6_country : ByteArray := prog_8_method_19_code
def yX6_country : MethodName := ⟨RX6, "country", "()I"⟩
abbrev cX6_owed : ByteArray := prog_8_method_20_code
def yX6_owed : MethodName := ⟨RX6, "owed", "([III)I"⟩
abbrev cX6_owesAll : ByteArray := prog_8_method_21_code
def yX6_owesAll : MethodName := ⟨RX6, "owesAll", "([II)I"⟩
abbrev cX6_nearest : ByteArray := prog_8_method_22_code
def yX6_nearest : MethodName := ⟨RX6, "nearest", "([III)I"⟩
abbrev cX6_goes : ByteArray := prog_8_method_23_code
def yX6_goes : MethodName := ⟨RX6, "goes", "([III)I"⟩
abbrev cX6_sown : ByteArray := prog_8_method_24_code
def yX6_sown : MethodName := ⟨RX6, "sown", "([I)I"⟩
abbrev cX6_goMarch : ByteArray := prog_8_method_25_code
def yX6_goMarch : MethodName := ⟨RX6, "goMarch", "([II)I"⟩
abbrev cX6_loaves : ByteArray := prog_8_method_26_code
def yX6_loaves : MethodName := ⟨RX6, "loaves", "([I)I"⟩
abbrev cX6_goHarvest : ByteArray := prog_8_method_27_code
def yX6_goHarvest : MethodName := ⟨RX6, "goHarvest", "([I)I"⟩
abbrev cX6_begin : ByteArray := prog_8_method_28_code
def yX6_begin : MethodName := ⟨RX6, "begin", "()V"⟩
abbrev cX6_owedTogether : ByteArray := prog_8_method_29_code
def yX6_owedTogether : MethodName := ⟨RX6, "owedTogether", "()I"⟩
abbrev cX6_marched : ByteArray := prog_8_method_30_code
def yX6_marched : MethodName := ⟨RX6, "marched", "(I)I"⟩
abbrev cX6_about : ByteArray := prog_8_method_31_code
def yX6_about : MethodName := ⟨RX6, "about", "(I)I"⟩
abbrev cX6_owing : ByteArray := prog_8_method_32_code
def yX6_owing : MethodName := ⟨RX6, "owing", "(I)I"⟩
abbrev cX6_field : ByteArray := prog_8_method_33_code
def yX6_field : MethodName := ⟨RX6, "field", "(II)I"⟩
abbrev cX6_eater : ByteArray := prog_8_method_34_code
def yX6_eater : MethodName := ⟨RX6, "eater", "(II)I"⟩
abbrev cX6_owes : ByteArray := prog_8_method_35_code
def yX6_owes : MethodName := ⟨RX6, "owes", "(II)I"⟩
abbrev cX6_note : ByteArray := prog_8_method_36_code
def yX6_note : MethodName := ⟨RX6, "note", "()V"⟩
abbrev cX6_bite : ByteArray := prog_8_method_37_code
def yX6_bite : MethodName := ⟨RX6, "bite", "(I)I"⟩
abbrev cX6_canEat : ByteArray := prog_8_method_38_code
def yX6_canEat : MethodName := ⟨RX6, "canEat", "([III)Z"⟩
abbrev cX6_goEat : ByteArray := prog_8_method_39_code
def yX6_goEat : MethodName := ⟨RX6, "goEat", "([III)V"⟩
abbrev cX6_eat : ByteArray := prog_8_method_40_code
def yX6_eat : MethodName := ⟨RX6, "eat", "(II)I"⟩
abbrev cX6_cake : ByteArray := prog_8_method_41_code
def yX6_cake : MethodName := ⟨RX6, "cake", "(III)I"⟩
abbrev cX6_march : ByteArray := prog_8_method_42_code
def yX6_march : MethodName := ⟨RX6, "march", "()I"⟩
abbrev cX6_harvest : ByteArray := prog_8_method_43_code
def yX6_harvest : MethodName := ⟨RX6, "harvest", "()I"⟩
abbrev cX6_undo : ByteArray := prog_8_method_44_code
def yX6_undo : MethodName := ⟨RX6, "undo", "()I"⟩
abbrev cX6_ahead : ByteArray := prog_8_method_45_code
def yX6_ahead : MethodName := ⟨RX6, "ahead", "(II)I"⟩
abbrev cX6_isSownBy : ByteArray := prog_8_method_46_code
def yX6_isSownBy : MethodName := ⟨RX6, "isSownBy", "(II)Z"⟩
abbrev cX6_wants : ByteArray := prog_8_method_47_code
def yX6_wants : MethodName := ⟨RX6, "wants", "(I)I"⟩
abbrev cX6_rid : ByteArray := prog_8_method_48_code
def yX6_rid : MethodName := ⟨RX6, "rid", "(I)I"⟩
abbrev cX6_longPower : ByteArray := prog_8_method_49_code
def yX6_longPower : MethodName := ⟨RX6, "longPower", "(JI)J"⟩
abbrev cX6_eats : ByteArray := prog_8_method_50_code
def yX6_eats : MethodName := ⟨RX6, "eats", "(II)Z"⟩
abbrev cX6_does : ByteArray := prog_8_method_51_code
def yX6_does : MethodName := ⟨RX6, "does", "(I)Z"⟩
abbrev cX6_judge : ByteArray := prog_8_method_52_code
def yX6_judge : MethodName := ⟨RX6, "judge", "(IJ)I"⟩
abbrev cX6_ways : ByteArray := prog_8_method_53_code
def yX6_ways : MethodName := ⟨RX6, "ways", "(I)I"⟩
abbrev cX6_divisor : ByteArray := prog_8_method_54_code
def yX6_divisor : MethodName := ⟨RX6, "divisor", "(II)I"⟩
abbrev cX6_fraction : ByteArray := prog_8_method_55_code
def yX6_fraction : MethodName := ⟨RX6, "fraction", "(IIZ)I"⟩
abbrev cX6_share : ByteArray := prog_8_method_56_code
def yX6_share : MethodName := ⟨RX6, "share", "(IZ)I"⟩
abbrev cX6_came : ByteArray := prog_8_method_57_code
def yX6_came : MethodName := ⟨RX6, "came", "(II)I"⟩
abbrev cX6_forget : ByteArray := prog_8_method_58_code
def yX6_forget : MethodName := ⟨RX6, "forget", "()I"⟩
abbrev cX6_strangers : ByteArray := prog_8_method_59_code
def yX6_strangers : MethodName := ⟨RX6, "strangers", "(I)I"⟩
abbrev cX6_rests : ByteArray := prog_8_method_60_code
def yX6_rests : MethodName := ⟨RX6, "rests", "(IIII)I"⟩
abbrev cX6_home : ByteArray := prog_8_method_61_code
def yX6_home : MethodName := ⟨RX6, "home", "(IIZ)I"⟩
abbrev cX6_seed : ByteArray := prog_8_method_62_code
def yX6_seed : MethodName := ⟨RX6, "seed", "(J)J"⟩
abbrev cX6_years : ByteArray := prog_8_method_63_code
def yX6_years : MethodName := ⟨RX6, "years", "(I)I"⟩
abbrev cX6_keep : ByteArray := prog_8_method_64_code
def yX6_keep : MethodName := ⟨RX6, "keep", "(I)I"⟩
abbrev cX6_again : ByteArray := prog_8_method_65_code
def yX6_again : MethodName := ⟨RX6, "again", "(I)I"⟩
def RJ6 : String := "java/lang/Integer"
def TJ6 : u_T := fun k => match k with
  | _ => ("", "", "", false)
def tyJ6 : Nat → FieldType := fun k => match k with
  | _ => .int
abbrev wsJ60 : List Cond := u_ws RJ6 TJ6 0
theorem nmJ6 : ∀ a, a < 0 → ∀ b, b < 0 → a ≠ b → (TJ6 a).2.1 ≠ (TJ6 b).2.1 := by decide +kernel
theorem tyJ6_ok : ∀ k, k < 0 → parseFieldDescriptor (TJ6 k).2.2.1 = some (tyJ6 k) := by decide +kernel
abbrev cJ6_bitCount_0f7a4 : ByteArray := prog_9_method_49_code
def yJ6_bitCount_0f7a4 : MethodName := ⟨RJ6, "bitCount", "(I)I"⟩
def RJ9 : String := "java/lang/Math"
def TJ9 : u_T := fun k => match k with
  | _ => ("", "", "", false)
def tyJ9 : Nat → FieldType := fun k => match k with
  | _ => .int
abbrev wsJ90 : List Cond := u_ws RJ9 TJ9 0
theorem nmJ9 : ∀ a, a < 0 → ∀ b, b < 0 → a ≠ b → (TJ9 a).2.1 ≠ (TJ9 b).2.1 := by decide +kernel
theorem tyJ9_ok : ∀ k, k < 0 → parseFieldDescriptor (TJ9 k).2.2.1 = some (tyJ9 k) := by decide +kernel
abbrev cJ9_abs_0f7a4 : ByteArray := prog_10_method_59_code
def yJ9_abs_0f7a4 : MethodName := ⟨RJ9, "abs", "(I)I"⟩
abbrev cJ9_min_7cf53 : ByteArray := prog_10_method_69_code
def yJ9_min_7cf53 : MethodName := ⟨RJ9, "min", "(II)I"⟩
def RJ10 : String := "java/lang/System"
def TJ10 : u_T := fun k => match k with
  | _ => ("", "", "", false)
def tyJ10 : Nat → FieldType := fun k => match k with
  | _ => .int
abbrev wsJ100 : List Cond := u_ws RJ10 TJ10 0
theorem nmJ10 : ∀ a, a < 0 → ∀ b, b < 0 → a ≠ b → (TJ10 a).2.1 ≠ (TJ10 b).2.1 := by decide +kernel
theorem tyJ10_ok : ∀ k, k < 0 → parseFieldDescriptor (TJ10 k).2.2.1 = some (tyJ10 k) := by decide +kernel
def RL : String := "OwedFurrowsLaw"
abbrev cL_law : ByteArray := code
def yL_law : MethodName := ⟨RL, "law", "([I)Z"⟩
end
section
/-! The judgement V: the kit's W with heap, locals and written places quantified away; a rule an instruction. -/
def wds : List Cond := lw_tbl.filter goodWord
theorem wd {w : Cond} (h : w ∈ lw_tbl) (q : goodWord w = true) : w ∈ wds := List.mem_filter.mpr ⟨h, q⟩
theorem wd_at {w : Cond} (i : Nat) (h : lw_tbl[i]? = some w) (q : goodWord w = true) : w ∈ wds := wd (List.mem_of_getElem? h) q
theorem wd_good : GoodIn wds wds := fun w hw => ⟨hw, good_of_word (List.mem_filter.mp hw).2⟩
abbrev Gx : Type := va_G × ClassId × ClassId × ClassId
abbrev classes : List vw_C := [(RX0, TX0, 3), (RX1, TX1, 7), (RX2, TX2, 8), (RX3, TX3, 2), (RX4, TX4, 3), (RX5, TX5, 10), (RX6, TX6, 34)]
abbrev tysG (g : Gx) : List (ClassId × FieldType) := [(g.2.1, .int), (g.2.2.1, .boolean), (g.2.2.2, .object RX1)]
/-- a method: its bytes, locals, class, answer -/
abbrev MS : Type := ByteArray × Nat × String × Option FieldType
/-- the machine's own things, which a walk never looks at -/
abbrev MV : Type := Program × Launch × Env × Room × State × MethodId × Array Value × List Frame × Method × Code
def Nx (M : MS) (pc : Nat) (i : Instr) (len pc' : Nat) : Prop := decode M.1 pc = .ok (i, len) ∧ pc + len = pc'
def Bd (g : Gx) (E : MV) (M : MS) (A : Nat → Prop) : Prop := E.1.tables.exec = Jvm.exec ∧ E.2.2.2.2.2.2.2.2.2.code = M.1 ∧ E.2.2.2.2.2.2.2.2.2.maxLocals = M.2.1 ∧ E.2.2.2.2.1.vm.findClass M.2.2.1 = some E.2.2.2.2.2.1.cls ∧ (∀ w ∈ wds, w.before E.2.2.2.2.2.2.1 E.2.2.2.2.1 = true) ∧ E.2.2.2.2.2.2.2.2.1.sig.returnType = M.2.2.2 ∧ E.2.2.2.2.2.2.2.2.1.locks = false ∧ va_K g.1 classes (tysG g) E.2.2.2.2.1 ∧ (∀ q : Nat, E.2.2.2.2.1.heap.size ≤ q → A q)
abbrev Wf (E : MV) (H : Heap) (locs : List Loc) (kc ks : Nat) (Q : State → Prop) (f : JFrame) : Prop := W E.1 E.2.1 E.2.2.1 E.2.2.2.1 E.2.2.2.2.1 E.2.2.2.2.2.1 E.2.2.2.2.2.2.1 E.2.2.2.2.2.2.2.1 E.2.2.2.2.2.2.2.2.1 E.2.2.2.2.2.2.2.2.2 H locs kc ks Q f
def V (g : Gx) (E : MV) (M : MS) (A : Nat → Prop) (Q : State → Prop) (kc ks : Nat) (ws : va_W) (pc : Nat) (lv : List (Nat × Value)) (st : List Value) : Prop :=
  Bd g E M A → ∀ (ls : Array Slot) (H : Heap) (locs : List Loc), lv_has ls M.2.1 lv → va_P g.1 classes ws H → va_D A ws → va_S A E.2.2.2.2.1.heap H locs → Wf E H locs kc ks Q (F0 E.2.2.2.2.2.1 pc ls st)
/-- a truth value as an int -/
def bI (b : Bool) : Int32 := if b then 1 else 0
theorem bI_t : bI true = 1 := rfl
theorem bI_f : bI false = 0 := rfl
theorem bI_n (b : Bool) : narrow .boolean (.int (bI b)) = .int (bI b) := by cases b <;> decide
theorem bI_0 {b : Bool} : bI b = 0 ↔ b = false := by cases b <;> decide
theorem bI_1 {b : Bool} : bI b = 1 ↔ b = true := by cases b <;> decide
theorem nI_of_int (n : Nat) : Int32.ofInt (n : Int) = nI n := rfl
/-- locals: a sorted list of places and values -/
def lvGet : List (Nat × Value) → Nat → Option Value
  | [], _ => none
  | q :: r, i => bif Nat.beq q.1 i then some q.2 else lvGet r i
def lvIns : List (Nat × Value) → Nat × Value → List (Nat × Value)
  | [], p => [p]
  | q :: r, p => bif Nat.blt q.1 p.1 then q :: lvIns r p else p :: q :: r
def lvPut (lv : List (Nat × Value)) (i : Nat) (v : Value) : List (Nat × Value) := lvIns (lv.filter (fun q => !(q.1 == i) && !(q.1 + 1 == i && q.2.category == 2))) (i, v)
def lvPut2 (lv : List (Nat × Value)) (i : Nat) (v : Value) : List (Nat × Value) := lvIns (lv.filter (fun q => !(q.1 == i) && (!(q.1 == i + 1) && !(q.1 + 1 == i && q.2.category == 2)))) (i, v)
theorem lvIns_mem {p q : Nat × Value} : ∀ {l : List (Nat × Value)}, q ∈ lvIns l p → q = p ∨ q ∈ l
  | [], h => by
    simp only [lvIns, List.mem_singleton] at h
    exact Or.inl h
  | x :: r, h => by
    unfold lvIns at h
    cases hb : Nat.blt x.1 p.1 with
    | true =>
      rw [hb, cond_true] at h
      rcases List.mem_cons.mp h with h | h
      · exact Or.inr (by rw [h]; exact List.mem_cons_self)
      · rcases lvIns_mem h with h | h
        · exact Or.inl h
        · exact Or.inr (List.mem_cons_of_mem _ h)
    | false =>
      rw [hb, cond_false] at h
      exact List.mem_cons.mp h
theorem lvGet_mem {i : Nat} {v : Value} : ∀ {l : List (Nat × Value)}, lvGet l i = some v → (i, v) ∈ l
  | [], h => by cases h
  | x :: r, h => by
    unfold lvGet at h
    cases hb : Nat.beq x.1 i with
    | true =>
      rw [hb, cond_true] at h
      have e := Nat.eq_of_beq_eq_true hb
      subst e
      cases h
      exact List.mem_cons_self
    | false =>
      rw [hb, cond_false] at h
      exact List.mem_cons_of_mem _ (lvGet_mem h)
theorem lv_gets {ls : Array Slot} {nL i : Nat} {v : Value} {lv : List (Nat × Value)} (h : lv_has ls nL lv) (hg : lvGet lv i = some v) : ls[i]? = some (.val v) := h.2.2 (i, v) (lvGet_mem hg)
theorem lv_less {ls : Array Slot} {nL : Nat} {l l' : List (Nat × Value)} (h : lv_has ls nL l) (hs : ∀ q ∈ l', q ∈ l) : lv_has ls nL l' := ⟨h.1, h.2.1, fun q hq => h.2.2 q (hs q hq)⟩
theorem lv_put {ls : Array Slot} {nL i : Nat} {v : Value} {lv : List (Nat × Value)} (h : lv_has ls nL ((i, v) :: lv.filter (fun q => !(q.1 == i) && !(q.1 + 1 == i && q.2.category == 2)))) : lv_has ls nL (lvPut lv i v) := lv_less h (fun q hq => List.mem_cons.mpr (lvIns_mem hq))
theorem lv_put2 {ls : Array Slot} {nL i : Nat} {v : Value} {lv : List (Nat × Value)} (h : lv_has ls nL ((i, v) :: lv.filter (fun q => !(q.1 == i) && (!(q.1 == i + 1) && !(q.1 + 1 == i && q.2.category == 2))))) : lv_has ls nL (lvPut2 lv i v) := lv_less h (fun q hq => List.mem_cons.mpr (lvIns_mem hq))
section VR
variable {g : Gx} {E : MV} {M : MS} {A : Nat → Prop} {Q : State → Prop} {kc ks : Nat} {ws ws' : va_W} {pc pc' : Nat} {lv lv' : List (Nat × Value)} {st : List Value}
theorem V_iconst {n : Int} {v : Int32} (hd : Nx M pc (.iconst n) 1 pc') (hv : Int32.ofInt n = v) (kk : V g E M A Q kc ks ws pc' lv (.int v :: st)) : V g E M A Q kc ks ws pc lv st := by
  obtain ⟨hd, rfl⟩ := hd
  intro B ls H locs hl hP hD hS
  exact lv_iconst B.1 B.2.1 hd hv (kk B ls H locs hl hP hD hS)
theorem V_bipush {n : Int} {v : Int32} (hd : Nx M pc (.bipush n) 2 pc') (hv : (Int8.ofInt n).toInt32 = v) (kk : V g E M A Q kc ks ws pc' lv (.int v :: st)) : V g E M A Q kc ks ws pc lv st := by
  obtain ⟨hd, rfl⟩ := hd
  intro B ls H locs hl hP hD hS
  exact lv_bipush B.1 B.2.1 hd hv (kk B ls H locs hl hP hD hS)
theorem V_sipush {n : Int} {v : Int32} (hd : Nx M pc (.sipush n) 3 pc') (hv : (Int16.ofInt n).toInt32 = v) (kk : V g E M A Q kc ks ws pc' lv (.int v :: st)) : V g E M A Q kc ks ws pc lv st := by
  obtain ⟨hd, rfl⟩ := hd
  intro B ls H locs hl hP hD hS
  exact lv_sipush B.1 B.2.1 hd hv (kk B ls H locs hl hP hD hS)
theorem V_lconst {n : Fin 2} {v : Int64} (hd : Nx M pc (.lconst n) 1 pc') (hv : Int64.ofNat (n : Nat) = v) (kk : V g E M A Q kc ks ws pc' lv (.long v :: st)) : V g E M A Q kc ks ws pc lv st := by
  obtain ⟨hd, rfl⟩ := hd
  intro B ls H locs hl hP hD hS
  exact lv_lconst B.1 B.2.1 hd hv (kk B ls H locs hl hP hD hS)
theorem V_iload_n {k : Fin 4} {x : Int32} (hd : Nx M pc (.iload_n k) 1 pc') (hg : lvGet lv (k : Nat) = some (.int x)) (kk : V g E M A Q kc ks ws pc' lv (.int x :: st)) : V g E M A Q kc ks ws pc lv st := by
  obtain ⟨hd, rfl⟩ := hd
  intro B ls H locs hl hP hD hS
  exact lv_iload_n B.1 B.2.1 hd rfl (lv_gets hl hg) (kk B ls H locs hl hP hD hS)
theorem V_iload {i : Nat} {x : Int32} (hd : Nx M pc (.iload i) 2 pc') (hg : lvGet lv i = some (.int x)) (kk : V g E M A Q kc ks ws pc' lv (.int x :: st)) : V g E M A Q kc ks ws pc lv st := by
  obtain ⟨hd, rfl⟩ := hd
  intro B ls H locs hl hP hD hS
  exact lv_iload B.1 B.2.1 hd (lv_gets hl hg) (kk B ls H locs hl hP hD hS)
theorem V_lload_n {k : Fin 4} {x : Int64} (hd : Nx M pc (.lload_n k) 1 pc') (hg : lvGet lv (k : Nat) = some (.long x)) (kk : V g E M A Q kc ks ws pc' lv (.long x :: st)) : V g E M A Q kc ks ws pc lv st := by
  obtain ⟨hd, rfl⟩ := hd
  intro B ls H locs hl hP hD hS
  exact lv_lload_n B.1 B.2.1 hd rfl (lv_gets hl hg) (kk B ls H locs hl hP hD hS)
theorem V_lload {i : Nat} {x : Int64} (hd : Nx M pc (.lload i) 2 pc') (hg : lvGet lv i = some (.long x)) (kk : V g E M A Q kc ks ws pc' lv (.long x :: st)) : V g E M A Q kc ks ws pc lv st := by
  obtain ⟨hd, rfl⟩ := hd
  intro B ls H locs hl hP hD hS
  exact lv_lload B.1 B.2.1 hd (lv_gets hl hg) (kk B ls H locs hl hP hD hS)
theorem V_aload_n {k : Fin 4} {x : Nat} (hd : Nx M pc (.aload_n k) 1 pc') (hg : lvGet lv (k : Nat) = some (.ref x)) (kk : V g E M A Q kc ks ws pc' lv (.ref x :: st)) : V g E M A Q kc ks ws pc lv st := by
  obtain ⟨hd, rfl⟩ := hd
  intro B ls H locs hl hP hD hS
  exact lv_aload_n B.1 B.2.1 hd rfl (lv_gets hl hg) (kk B ls H locs hl hP hD hS)
theorem V_aload {i : Nat} {x : Nat} (hd : Nx M pc (.aload i) 2 pc') (hg : lvGet lv i = some (.ref x)) (kk : V g E M A Q kc ks ws pc' lv (.ref x :: st)) : V g E M A Q kc ks ws pc lv st := by
  obtain ⟨hd, rfl⟩ := hd
  intro B ls H locs hl hP hD hS
  exact lv_aload B.1 B.2.1 hd (lv_gets hl hg) (kk B ls H locs hl hP hD hS)
theorem V_istore_n {k : Fin 4} {x : Int32} (hd : Nx M pc (.istore_n k) 1 pc') (hn : (k : Nat) < M.2.1) (hp : lvPut lv (k : Nat) (.int x) = lv') (kk : V g E M A Q kc ks ws pc' lv' st) : V g E M A Q kc ks ws pc lv (.int x :: st) := by
  obtain ⟨hd, rfl⟩ := hd
  intro B ls H locs hl hP hD hS
  exact lv_istore_n B.1 B.2.1 hd rfl hl hn rfl (fun ls' hl' => kk B ls' H locs (by rw [← hp]; exact lv_put hl') hP hD hS)
theorem V_istore {i : Nat} {x : Int32} (hd : Nx M pc (.istore i) 2 pc') (hn : i < M.2.1) (hp : lvPut lv i (.int x) = lv') (kk : V g E M A Q kc ks ws pc' lv' st) : V g E M A Q kc ks ws pc lv (.int x :: st) := by
  obtain ⟨hd, rfl⟩ := hd
  intro B ls H locs hl hP hD hS
  exact lv_istore B.1 B.2.1 hd hl hn rfl (fun ls' hl' => kk B ls' H locs (by rw [← hp]; exact lv_put hl') hP hD hS)
theorem V_lstore_n {k : Fin 4} {x : Int64} (hd : Nx M pc (.lstore_n k) 1 pc') (hn : (k : Nat) + 1 < M.2.1) (hp : lvPut2 lv (k : Nat) (.long x) = lv') (kk : V g E M A Q kc ks ws pc' lv' st) : V g E M A Q kc ks ws pc lv (.long x :: st) := by
  obtain ⟨hd, rfl⟩ := hd
  intro B ls H locs hl hP hD hS
  exact lv_lstore_n B.1 B.2.1 hd rfl hl hn rfl (fun ls' hl' => kk B ls' H locs (by rw [← hp]; exact lv_put2 hl') hP hD hS)
theorem V_lstore {i : Nat} {x : Int64} (hd : Nx M pc (.lstore i) 2 pc') (hn : i + 1 < M.2.1) (hp : lvPut2 lv i (.long x) = lv') (kk : V g E M A Q kc ks ws pc' lv' st) : V g E M A Q kc ks ws pc lv (.long x :: st) := by
  obtain ⟨hd, rfl⟩ := hd
  intro B ls H locs hl hP hD hS
  exact lv_lstore B.1 B.2.1 hd hl hn rfl (fun ls' hl' => kk B ls' H locs (by rw [← hp]; exact lv_put2 hl') hP hD hS)
theorem V_astore_n {k : Fin 4} {x : Nat} (hd : Nx M pc (.astore_n k) 1 pc') (hn : (k : Nat) < M.2.1) (hp : lvPut lv (k : Nat) (.ref x) = lv') (kk : V g E M A Q kc ks ws pc' lv' st) : V g E M A Q kc ks ws pc lv (.ref x :: st) := by
  obtain ⟨hd, rfl⟩ := hd
  intro B ls H locs hl hP hD hS
  exact lv_astore_n B.1 B.2.1 hd rfl hl hn rfl (fun ls' hl' => kk B ls' H locs (by rw [← hp]; exact lv_put hl') hP hD hS)
theorem V_astore {i : Nat} {x : Nat} (hd : Nx M pc (.astore i) 2 pc') (hn : i < M.2.1) (hp : lvPut lv i (.ref x) = lv') (kk : V g E M A Q kc ks ws pc' lv' st) : V g E M A Q kc ks ws pc lv (.ref x :: st) := by
  obtain ⟨hd, rfl⟩ := hd
  intro B ls H locs hl hP hD hS
  exact lv_astore B.1 B.2.1 hd hl hn rfl (fun ls' hl' => kk B ls' H locs (by rw [← hp]; exact lv_put hl') hP hD hS)
theorem lv_get_at : ∀ {l : List (Nat × Value)} {i : Nat} {v : Value}, lvGet l i = some v → ∃ k : Nat, l[k]? = some (i, v) := fun h => List.getElem?_of_mem (lvGet_mem h)
theorem V_iinc {i : Nat} {n : Int} {x v : Int32} (hd : Nx M pc (.iinc i n) 3 pc') (hg : lvGet lv i = some (.int x)) (hv : x + Int32.ofInt n = v) (hn : i < M.2.1) (hp : lvPut lv i (.int v) = lv') (kk : V g E M A Q kc ks ws pc' lv' st) : V g E M A Q kc ks ws pc lv st := by
  obtain ⟨hd, rfl⟩ := hd
  intro B ls H locs hl hP hD hS
  obtain ⟨k, hk⟩ := lv_get_at hg
  exact lv_iinc B.1 B.2.1 hd hl hk hv hn rfl (fun ls' hl' => kk B ls' H locs (by rw [← hp]; exact lv_put hl') hP hD hS)
theorem V_iadd {x y v : Int32} (hd : Nx M pc .iadd 1 pc') (hv : x + y = v) (kk : V g E M A Q kc ks ws pc' lv (.int v :: st)) : V g E M A Q kc ks ws pc lv (.int y :: .int x :: st) := by
  obtain ⟨hd, rfl⟩ := hd
  intro B ls H locs hl hP hD hS
  subst hv
  exact lv_iadd B.1 B.2.1 hd (kk B ls H locs hl hP hD hS)
theorem V_isub {x y v : Int32} (hd : Nx M pc .isub 1 pc') (hv : x - y = v) (kk : V g E M A Q kc ks ws pc' lv (.int v :: st)) : V g E M A Q kc ks ws pc lv (.int y :: .int x :: st) := by
  obtain ⟨hd, rfl⟩ := hd
  intro B ls H locs hl hP hD hS
  subst hv
  exact lv_isub B.1 B.2.1 hd (kk B ls H locs hl hP hD hS)
theorem V_imul {x y v : Int32} (hd : Nx M pc .imul 1 pc') (hv : x * y = v) (kk : V g E M A Q kc ks ws pc' lv (.int v :: st)) : V g E M A Q kc ks ws pc lv (.int y :: .int x :: st) := by
  obtain ⟨hd, rfl⟩ := hd
  intro B ls H locs hl hP hD hS
  subst hv
  exact lv_imul B.1 B.2.1 hd (kk B ls H locs hl hP hD hS)
theorem V_iand {x y v : Int32} (hd : Nx M pc .iand 1 pc') (hv : x &&& y = v) (kk : V g E M A Q kc ks ws pc' lv (.int v :: st)) : V g E M A Q kc ks ws pc lv (.int y :: .int x :: st) := by
  obtain ⟨hd, rfl⟩ := hd
  intro B ls H locs hl hP hD hS
  subst hv
  exact lv_iand B.1 B.2.1 hd (kk B ls H locs hl hP hD hS)
theorem V_ior {x y v : Int32} (hd : Nx M pc .ior 1 pc') (hv : x ||| y = v) (kk : V g E M A Q kc ks ws pc' lv (.int v :: st)) : V g E M A Q kc ks ws pc lv (.int y :: .int x :: st) := by
  obtain ⟨hd, rfl⟩ := hd
  intro B ls H locs hl hP hD hS
  subst hv
  exact lv_ior B.1 B.2.1 hd (kk B ls H locs hl hP hD hS)
theorem V_ixor {x y v : Int32} (hd : Nx M pc .ixor 1 pc') (hv : x ^^^ y = v) (kk : V g E M A Q kc ks ws pc' lv (.int v :: st)) : V g E M A Q kc ks ws pc lv (.int y :: .int x :: st) := by
  obtain ⟨hd, rfl⟩ := hd
  intro B ls H locs hl hP hD hS
  subst hv
  exact lv_ixor B.1 B.2.1 hd (kk B ls H locs hl hP hD hS)
theorem V_ishl {x y v : Int32} (hd : Nx M pc .ishl 1 pc') (hv : x <<< (y &&& 31) = v) (kk : V g E M A Q kc ks ws pc' lv (.int v :: st)) : V g E M A Q kc ks ws pc lv (.int y :: .int x :: st) := by
  obtain ⟨hd, rfl⟩ := hd
  intro B ls H locs hl hP hD hS
  subst hv
  exact lv_ishl B.1 B.2.1 hd (kk B ls H locs hl hP hD hS)
theorem V_ishr {x y v : Int32} (hd : Nx M pc .ishr 1 pc') (hv : x >>> (y &&& 31) = v) (kk : V g E M A Q kc ks ws pc' lv (.int v :: st)) : V g E M A Q kc ks ws pc lv (.int y :: .int x :: st) := by
  obtain ⟨hd, rfl⟩ := hd
  intro B ls H locs hl hP hD hS
  subst hv
  exact lv_ishr B.1 B.2.1 hd (kk B ls H locs hl hP hD hS)
theorem V_ladd {x y v : Int64} (hd : Nx M pc .ladd 1 pc') (hv : x + y = v) (kk : V g E M A Q kc ks ws pc' lv (.long v :: st)) : V g E M A Q kc ks ws pc lv (.long y :: .long x :: st) := by
  obtain ⟨hd, rfl⟩ := hd
  intro B ls H locs hl hP hD hS
  subst hv
  exact lv_ladd B.1 B.2.1 hd (kk B ls H locs hl hP hD hS)
theorem V_lsub {x y v : Int64} (hd : Nx M pc .lsub 1 pc') (hv : x - y = v) (kk : V g E M A Q kc ks ws pc' lv (.long v :: st)) : V g E M A Q kc ks ws pc lv (.long y :: .long x :: st) := by
  obtain ⟨hd, rfl⟩ := hd
  intro B ls H locs hl hP hD hS
  subst hv
  exact lv_lsub B.1 B.2.1 hd (kk B ls H locs hl hP hD hS)
theorem V_lmul {x y v : Int64} (hd : Nx M pc .lmul 1 pc') (hv : x * y = v) (kk : V g E M A Q kc ks ws pc' lv (.long v :: st)) : V g E M A Q kc ks ws pc lv (.long y :: .long x :: st) := by
  obtain ⟨hd, rfl⟩ := hd
  intro B ls H locs hl hP hD hS
  subst hv
  exact lv_lmul B.1 B.2.1 hd (kk B ls H locs hl hP hD hS)
theorem V_land {x y v : Int64} (hd : Nx M pc .land 1 pc') (hv : x &&& y = v) (kk : V g E M A Q kc ks ws pc' lv (.long v :: st)) : V g E M A Q kc ks ws pc lv (.long y :: .long x :: st) := by
  obtain ⟨hd, rfl⟩ := hd
  intro B ls H locs hl hP hD hS
  subst hv
  exact lv_land B.1 B.2.1 hd (kk B ls H locs hl hP hD hS)
theorem V_lor {x y v : Int64} (hd : Nx M pc .lor 1 pc') (hv : x ||| y = v) (kk : V g E M A Q kc ks ws pc' lv (.long v :: st)) : V g E M A Q kc ks ws pc lv (.long y :: .long x :: st) := by
  obtain ⟨hd, rfl⟩ := hd
  intro B ls H locs hl hP hD hS
  subst hv
  exact lv_lor B.1 B.2.1 hd (kk B ls H locs hl hP hD hS)
theorem V_idiv {x y v : Int32} (hd : Nx M pc .idiv 1 pc') (hne : ¬ y = 0) (hv : x / y = v) (kk : V g E M A Q kc ks ws pc' lv (.int v :: st)) : V g E M A Q kc ks ws pc lv (.int y :: .int x :: st) := by
  obtain ⟨hd, rfl⟩ := hd
  intro B ls H locs hl hP hD hS
  subst hv
  exact lv_idiv B.1 B.2.1 hd hne (kk B ls H locs hl hP hD hS)
theorem V_irem {x y v : Int32} (hd : Nx M pc .irem 1 pc') (hne : ¬ y = 0) (hv : x - x / y * y = v) (kk : V g E M A Q kc ks ws pc' lv (.int v :: st)) : V g E M A Q kc ks ws pc lv (.int y :: .int x :: st) := by
  obtain ⟨hd, rfl⟩ := hd
  intro B ls H locs hl hP hD hS
  subst hv
  exact lv_irem B.1 B.2.1 hd hne (kk B ls H locs hl hP hD hS)
theorem V_ldiv {x y v : Int64} (hd : Nx M pc .ldiv 1 pc') (hne : ¬ y = 0) (hv : x / y = v) (kk : V g E M A Q kc ks ws pc' lv (.long v :: st)) : V g E M A Q kc ks ws pc lv (.long y :: .long x :: st) := by
  obtain ⟨hd, rfl⟩ := hd
  intro B ls H locs hl hP hD hS
  subst hv
  exact lv_ldiv B.1 B.2.1 hd hne (kk B ls H locs hl hP hD hS)
theorem V_lrem {x y v : Int64} (hd : Nx M pc .lrem 1 pc') (hne : ¬ y = 0) (hv : x - x / y * y = v) (kk : V g E M A Q kc ks ws pc' lv (.long v :: st)) : V g E M A Q kc ks ws pc lv (.long y :: .long x :: st) := by
  obtain ⟨hd, rfl⟩ := hd
  intro B ls H locs hl hP hD hS
  subst hv
  exact lv_lrem B.1 B.2.1 hd hne (kk B ls H locs hl hP hD hS)
theorem V_ineg {x v : Int32} (hd : Nx M pc .ineg 1 pc') (hv : -x = v) (kk : V g E M A Q kc ks ws pc' lv (.int v :: st)) : V g E M A Q kc ks ws pc lv (.int x :: st) := by
  obtain ⟨hd, rfl⟩ := hd
  intro B ls H locs hl hP hD hS
  subst hv
  exact lv_ineg B.1 B.2.1 hd (kk B ls H locs hl hP hD hS)
theorem V_i2l {x : Int32} {v : Int64} (hd : Nx M pc .i2l 1 pc') (hv : x.toInt64 = v) (kk : V g E M A Q kc ks ws pc' lv (.long v :: st)) : V g E M A Q kc ks ws pc lv (.int x :: st) := by
  obtain ⟨hd, rfl⟩ := hd
  intro B ls H locs hl hP hD hS
  exact lv_i2l B.1 B.2.1 hd hv (kk B ls H locs hl hP hD hS)
theorem V_l2i {x : Int64} {v : Int32} (hd : Nx M pc .l2i 1 pc') (hv : x.toInt32 = v) (kk : V g E M A Q kc ks ws pc' lv (.int v :: st)) : V g E M A Q kc ks ws pc lv (.long x :: st) := by
  obtain ⟨hd, rfl⟩ := hd
  intro B ls H locs hl hP hD hS
  exact lv_l2i B.1 B.2.1 hd hv (kk B ls H locs hl hP hD hS)
theorem V_iushr {x y v : Int32} (hd : Nx M pc .iushr 1 pc') (hv : (x.toUInt32 >>> (y.toUInt32 &&& Int32.toUInt32 31)).toInt32 = v) (kk : V g E M A Q kc ks ws pc' lv (.int v :: st)) : V g E M A Q kc ks ws pc lv (.int y :: .int x :: st) := by
  obtain ⟨hd, rfl⟩ := hd
  intro B ls H locs hl hP hD hS
  exact lv_iushr B.1 B.2.1 hd hv (kk B ls H locs hl hP hD hS)
theorem V_lushr {x v : Int64} {y : Int32} (hd : Nx M pc .lushr 1 pc') (hv : (x.toUInt64 >>> (y.toInt64.toUInt64 &&& Int64.toUInt64 63)).toInt64 = v) (kk : V g E M A Q kc ks ws pc' lv (.long v :: st)) : V g E M A Q kc ks ws pc lv (.int y :: .long x :: st) := by
  obtain ⟨hd, rfl⟩ := hd
  intro B ls H locs hl hP hD hS
  exact lv_lushr B.1 B.2.1 hd hv (kk B ls H locs hl hP hD hS)
theorem V_lshl {x v : Int64} {y : Int32} (hd : Nx M pc .lshl 1 pc') (hv : x <<< (y.toInt64 &&& 63) = v) (kk : V g E M A Q kc ks ws pc' lv (.long v :: st)) : V g E M A Q kc ks ws pc lv (.int y :: .long x :: st) := by
  obtain ⟨hd, rfl⟩ := hd
  intro B ls H locs hl hP hD hS
  exact lv_lshl B.1 B.2.1 hd hv (kk B ls H locs hl hP hD hS)
theorem V_lcmp {x y : Int64} (hd : Nx M pc .lcmp 1 pc') (kk : V g E M A Q kc ks ws pc' lv (.int (lg_cmp x y) :: st)) : V g E M A Q kc ks ws pc lv (.long y :: .long x :: st) := by
  obtain ⟨hd, rfl⟩ := hd
  intro B ls H locs hl hP hD hS
  exact W.lcmp B.1 B.2.1 hd (kk B ls H locs hl hP hD hS)
theorem V_dup {va : Value} (hd : Nx M pc .dup 1 pc') (hva : va.category = 1) (kk : V g E M A Q kc ks ws pc' lv (va :: va :: st)) : V g E M A Q kc ks ws pc lv (va :: st) := by
  obtain ⟨hd, rfl⟩ := hd
  intro B ls H locs hl hP hD hS
  exact lv_dup B.1 B.2.1 hd hva (kk B ls H locs hl hP hD hS)
theorem V_pop {va : Value} (hd : Nx M pc .pop 1 pc') (hva : va.category = 1) (kk : V g E M A Q kc ks ws pc' lv st) : V g E M A Q kc ks ws pc lv (va :: st) := by
  obtain ⟨hd, rfl⟩ := hd
  intro B ls H locs hl hP hD hS
  exact lv_pop B.1 B.2.1 hd hva (kk B ls H locs hl hP hD hS)
theorem V_dup2 {va vb : Value} (hd : Nx M pc .dup2 1 pc') (hva : va.category = 1) (hvb : vb.category = 1) (kk : V g E M A Q kc ks ws pc' lv (va :: vb :: va :: vb :: st)) : V g E M A Q kc ks ws pc lv (va :: vb :: st) := by
  obtain ⟨hd, rfl⟩ := hd
  intro B ls H locs hl hP hD hS
  exact lv_dup2_11 B.1 B.2.1 hd hva hvb (kk B ls H locs hl hP hD hS)
theorem V_goto {off : Int} {tgt : Nat} (hd : Nx M pc (.goto off) 3 pc') (ht : (pc : Int) + off = (tgt : Int)) (kk : V g E M A Q kc ks ws tgt lv st) : V g E M A Q kc ks ws pc lv st := by
  intro B ls H locs hl hP hD hS
  exact lv_goto B.1 B.2.1 hd.1 ht (kk B ls H locs hl hP hD hS)
theorem V_icmp_eq {x y : Int32} {off : Int} {tgt : Nat} (hd : Nx M pc (.if_icmp .eq off) 3 pc') (ht : (pc : Int) + off = (tgt : Int)) (kt : x = y → V g E M A Q kc ks ws tgt lv st) (kf : ¬ x = y → V g E M A Q kc ks ws pc' lv st) : V g E M A Q kc ks ws pc lv (.int y :: .int x :: st) := by
  obtain ⟨hd, rfl⟩ := hd
  intro B ls H locs hl hP hD hS
  exact lv_icmp_eq B.1 B.2.1 hd ht (fun h => kt h B ls H locs hl hP hD hS) (fun h => kf h B ls H locs hl hP hD hS)
theorem V_if_eq {x : Int32} {off : Int} {tgt : Nat} (hd : Nx M pc (.ifCond .eq off) 3 pc') (ht : (pc : Int) + off = (tgt : Int)) (kt : x = 0 → V g E M A Q kc ks ws tgt lv st) (kf : ¬ x = 0 → V g E M A Q kc ks ws pc' lv st) : V g E M A Q kc ks ws pc lv (.int x :: st) := by
  obtain ⟨hd, rfl⟩ := hd
  intro B ls H locs hl hP hD hS
  exact lv_if_eq B.1 B.2.1 hd ht (fun h => kt h B ls H locs hl hP hD hS) (fun h => kf h B ls H locs hl hP hD hS)
theorem V_icmp_ne {x y : Int32} {off : Int} {tgt : Nat} (hd : Nx M pc (.if_icmp .ne off) 3 pc') (ht : (pc : Int) + off = (tgt : Int)) (kt : ¬ x = y → V g E M A Q kc ks ws tgt lv st) (kf : x = y → V g E M A Q kc ks ws pc' lv st) : V g E M A Q kc ks ws pc lv (.int y :: .int x :: st) := by
  obtain ⟨hd, rfl⟩ := hd
  intro B ls H locs hl hP hD hS
  exact lv_icmp_ne B.1 B.2.1 hd ht (fun h => kt h B ls H locs hl hP hD hS) (fun h => kf h B ls H locs hl hP hD hS)
theorem V_if_ne {x : Int32} {off : Int} {tgt : Nat} (hd : Nx M pc (.ifCond .ne off) 3 pc') (ht : (pc : Int) + off = (tgt : Int)) (kt : ¬ x = 0 → V g E M A Q kc ks ws tgt lv st) (kf : x = 0 → V g E M A Q kc ks ws pc' lv st) : V g E M A Q kc ks ws pc lv (.int x :: st) := by
  obtain ⟨hd, rfl⟩ := hd
  intro B ls H locs hl hP hD hS
  exact lv_if_ne B.1 B.2.1 hd ht (fun h => kt h B ls H locs hl hP hD hS) (fun h => kf h B ls H locs hl hP hD hS)
theorem V_icmp_lt {x y : Int32} {off : Int} {tgt : Nat} (hd : Nx M pc (.if_icmp .lt off) 3 pc') (ht : (pc : Int) + off = (tgt : Int)) (kt : x < y → V g E M A Q kc ks ws tgt lv st) (kf : ¬ x < y → V g E M A Q kc ks ws pc' lv st) : V g E M A Q kc ks ws pc lv (.int y :: .int x :: st) := by
  obtain ⟨hd, rfl⟩ := hd
  intro B ls H locs hl hP hD hS
  exact lv_icmp_lt B.1 B.2.1 hd ht (fun h => kt h B ls H locs hl hP hD hS) (fun h => kf h B ls H locs hl hP hD hS)
theorem V_if_lt {x : Int32} {off : Int} {tgt : Nat} (hd : Nx M pc (.ifCond .lt off) 3 pc') (ht : (pc : Int) + off = (tgt : Int)) (kt : x < 0 → V g E M A Q kc ks ws tgt lv st) (kf : ¬ x < 0 → V g E M A Q kc ks ws pc' lv st) : V g E M A Q kc ks ws pc lv (.int x :: st) := by
  obtain ⟨hd, rfl⟩ := hd
  intro B ls H locs hl hP hD hS
  exact lv_if_lt B.1 B.2.1 hd ht (fun h => kt h B ls H locs hl hP hD hS) (fun h => kf h B ls H locs hl hP hD hS)
theorem V_icmp_ge {x y : Int32} {off : Int} {tgt : Nat} (hd : Nx M pc (.if_icmp .ge off) 3 pc') (ht : (pc : Int) + off = (tgt : Int)) (kt : y ≤ x → V g E M A Q kc ks ws tgt lv st) (kf : ¬ y ≤ x → V g E M A Q kc ks ws pc' lv st) : V g E M A Q kc ks ws pc lv (.int y :: .int x :: st) := by
  obtain ⟨hd, rfl⟩ := hd
  intro B ls H locs hl hP hD hS
  exact lv_icmp_ge B.1 B.2.1 hd ht (fun h => kt h B ls H locs hl hP hD hS) (fun h => kf h B ls H locs hl hP hD hS)
theorem V_if_ge {x : Int32} {off : Int} {tgt : Nat} (hd : Nx M pc (.ifCond .ge off) 3 pc') (ht : (pc : Int) + off = (tgt : Int)) (kt : 0 ≤ x → V g E M A Q kc ks ws tgt lv st) (kf : ¬ 0 ≤ x → V g E M A Q kc ks ws pc' lv st) : V g E M A Q kc ks ws pc lv (.int x :: st) := by
  obtain ⟨hd, rfl⟩ := hd
  intro B ls H locs hl hP hD hS
  exact lv_if_ge B.1 B.2.1 hd ht (fun h => kt h B ls H locs hl hP hD hS) (fun h => kf h B ls H locs hl hP hD hS)
theorem V_icmp_gt {x y : Int32} {off : Int} {tgt : Nat} (hd : Nx M pc (.if_icmp .gt off) 3 pc') (ht : (pc : Int) + off = (tgt : Int)) (kt : y < x → V g E M A Q kc ks ws tgt lv st) (kf : ¬ y < x → V g E M A Q kc ks ws pc' lv st) : V g E M A Q kc ks ws pc lv (.int y :: .int x :: st) := by
  obtain ⟨hd, rfl⟩ := hd
  intro B ls H locs hl hP hD hS
  exact lv_icmp_gt B.1 B.2.1 hd ht (fun h => kt h B ls H locs hl hP hD hS) (fun h => kf h B ls H locs hl hP hD hS)
theorem V_if_gt {x : Int32} {off : Int} {tgt : Nat} (hd : Nx M pc (.ifCond .gt off) 3 pc') (ht : (pc : Int) + off = (tgt : Int)) (kt : 0 < x → V g E M A Q kc ks ws tgt lv st) (kf : ¬ 0 < x → V g E M A Q kc ks ws pc' lv st) : V g E M A Q kc ks ws pc lv (.int x :: st) := by
  obtain ⟨hd, rfl⟩ := hd
  intro B ls H locs hl hP hD hS
  exact lv_if_gt B.1 B.2.1 hd ht (fun h => kt h B ls H locs hl hP hD hS) (fun h => kf h B ls H locs hl hP hD hS)
theorem V_icmp_le {x y : Int32} {off : Int} {tgt : Nat} (hd : Nx M pc (.if_icmp .le off) 3 pc') (ht : (pc : Int) + off = (tgt : Int)) (kt : x ≤ y → V g E M A Q kc ks ws tgt lv st) (kf : ¬ x ≤ y → V g E M A Q kc ks ws pc' lv st) : V g E M A Q kc ks ws pc lv (.int y :: .int x :: st) := by
  obtain ⟨hd, rfl⟩ := hd
  intro B ls H locs hl hP hD hS
  exact lv_icmp_le B.1 B.2.1 hd ht (fun h => kt h B ls H locs hl hP hD hS) (fun h => kf h B ls H locs hl hP hD hS)
theorem V_if_le {x : Int32} {off : Int} {tgt : Nat} (hd : Nx M pc (.ifCond .le off) 3 pc') (ht : (pc : Int) + off = (tgt : Int)) (kt : x ≤ 0 → V g E M A Q kc ks ws tgt lv st) (kf : ¬ x ≤ 0 → V g E M A Q kc ks ws pc' lv st) : V g E M A Q kc ks ws pc lv (.int x :: st) := by
  obtain ⟨hd, rfl⟩ := hd
  intro B ls H locs hl hP hD hS
  exact lv_if_le B.1 B.2.1 hd ht (fun h => kt h B ls H locs hl hP hD hS) (fun h => kf h B ls H locs hl hP hD hS)
/-- both known by their numbers -/
theorem V_icmp_eq_N {a b : Nat} {off : Int} {tgt : Nat} (hd : Nx M pc (.if_icmp .eq off) 3 pc') (ht : (pc : Int) + off = (tgt : Int)) (ha : a < 2 ^ 31) (hb : b < 2 ^ 31) (kt : a = b → V g E M A Q kc ks ws tgt lv st) (kf : a ≠ b → V g E M A Q kc ks ws pc' lv st) : V g E M A Q kc ks ws pc lv (.int (nI b) :: .int (nI a) :: st) := by
  refine V_icmp_eq hd ht (fun h => kt ?_) (fun h => kf ?_)
  · exact (nI_eq ha hb).mp h
  · exact fun q => h ((nI_eq ha hb).mpr q)
/-- both known by their numbers -/
theorem V_icmp_ne_N {a b : Nat} {off : Int} {tgt : Nat} (hd : Nx M pc (.if_icmp .ne off) 3 pc') (ht : (pc : Int) + off = (tgt : Int)) (ha : a < 2 ^ 31) (hb : b < 2 ^ 31) (kt : a ≠ b → V g E M A Q kc ks ws tgt lv st) (kf : a = b → V g E M A Q kc ks ws pc' lv st) : V g E M A Q kc ks ws pc lv (.int (nI b) :: .int (nI a) :: st) := by
  refine V_icmp_ne hd ht (fun h => kt ?_) (fun h => kf ?_)
  · exact fun q => h ((nI_eq ha hb).mpr q)
  · exact (nI_eq ha hb).mp h
/-- both known by their numbers -/
theorem V_icmp_lt_N {a b : Nat} {off : Int} {tgt : Nat} (hd : Nx M pc (.if_icmp .lt off) 3 pc') (ht : (pc : Int) + off = (tgt : Int)) (ha : a < 2 ^ 31) (hb : b < 2 ^ 31) (kt : a < b → V g E M A Q kc ks ws tgt lv st) (kf : b ≤ a → V g E M A Q kc ks ws pc' lv st) : V g E M A Q kc ks ws pc lv (.int (nI b) :: .int (nI a) :: st) := by
  refine V_icmp_lt hd ht (fun h => kt ?_) (fun h => kf ?_)
  · exact (nI_ltI ha hb).mp h
  · rw [nI_ltI ha hb] at h; omega
/-- both known by their numbers -/
theorem V_icmp_ge_N {a b : Nat} {off : Int} {tgt : Nat} (hd : Nx M pc (.if_icmp .ge off) 3 pc') (ht : (pc : Int) + off = (tgt : Int)) (ha : a < 2 ^ 31) (hb : b < 2 ^ 31) (kt : b ≤ a → V g E M A Q kc ks ws tgt lv st) (kf : a < b → V g E M A Q kc ks ws pc' lv st) : V g E M A Q kc ks ws pc lv (.int (nI b) :: .int (nI a) :: st) := by
  refine V_icmp_ge hd ht (fun h => kt ?_) (fun h => kf ?_)
  · exact (nI_leI hb ha).mp h
  · rw [nI_leI hb ha] at h; omega
/-- both known by their numbers -/
theorem V_icmp_gt_N {a b : Nat} {off : Int} {tgt : Nat} (hd : Nx M pc (.if_icmp .gt off) 3 pc') (ht : (pc : Int) + off = (tgt : Int)) (ha : a < 2 ^ 31) (hb : b < 2 ^ 31) (kt : b < a → V g E M A Q kc ks ws tgt lv st) (kf : a ≤ b → V g E M A Q kc ks ws pc' lv st) : V g E M A Q kc ks ws pc lv (.int (nI b) :: .int (nI a) :: st) := by
  refine V_icmp_gt hd ht (fun h => kt ?_) (fun h => kf ?_)
  · exact (nI_ltI hb ha).mp h
  · rw [nI_ltI hb ha] at h; omega
/-- both known by their numbers -/
theorem V_icmp_le_N {a b : Nat} {off : Int} {tgt : Nat} (hd : Nx M pc (.if_icmp .le off) 3 pc') (ht : (pc : Int) + off = (tgt : Int)) (ha : a < 2 ^ 31) (hb : b < 2 ^ 31) (kt : a ≤ b → V g E M A Q kc ks ws tgt lv st) (kf : b < a → V g E M A Q kc ks ws pc' lv st) : V g E M A Q kc ks ws pc lv (.int (nI b) :: .int (nI a) :: st) := by
  refine V_icmp_le hd ht (fun h => kt ?_) (fun h => kf ?_)
  · exact (nI_leI ha hb).mp h
  · rw [nI_leI ha hb] at h; omega
theorem V_if_eq_N {a : Nat} {off : Int} {tgt : Nat} (hd : Nx M pc (.ifCond .eq off) 3 pc') (ht : (pc : Int) + off = (tgt : Int)) (ha : a < 2 ^ 31) (kt : a = 0 → V g E M A Q kc ks ws tgt lv st) (kf : a ≠ 0 → V g E M A Q kc ks ws pc' lv st) : V g E M A Q kc ks ws pc lv (.int (nI a) :: st) := by
  have e : nI a = 0 ↔ a = 0 := by rw [← nI_0]; exact nI_eq ha (by decide)
  exact V_if_eq hd ht (fun h => kt (e.mp h)) (fun h => kf (fun q => h (e.mpr q)))
theorem V_if_eq_b {b : Bool} {off : Int} {tgt : Nat} (hd : Nx M pc (.ifCond .eq off) 3 pc') (ht : (pc : Int) + off = (tgt : Int)) (kt : b = false → V g E M A Q kc ks ws tgt lv st) (kf : b = true → V g E M A Q kc ks ws pc' lv st) : V g E M A Q kc ks ws pc lv (.int (bI b) :: st) := by
  refine V_if_eq hd ht (fun h => kt ?_) (fun h => kf ?_)
  · exact bI_0.mp h
  · cases b with | true => rfl | false => exact absurd rfl h
theorem V_if_ne_N {a : Nat} {off : Int} {tgt : Nat} (hd : Nx M pc (.ifCond .ne off) 3 pc') (ht : (pc : Int) + off = (tgt : Int)) (ha : a < 2 ^ 31) (kt : a ≠ 0 → V g E M A Q kc ks ws tgt lv st) (kf : a = 0 → V g E M A Q kc ks ws pc' lv st) : V g E M A Q kc ks ws pc lv (.int (nI a) :: st) := by
  have e : nI a = 0 ↔ a = 0 := by rw [← nI_0]; exact nI_eq ha (by decide)
  exact V_if_ne hd ht (fun h => kt (fun q => h (e.mpr q))) (fun h => kf (e.mp h))
theorem V_if_ne_b {b : Bool} {off : Int} {tgt : Nat} (hd : Nx M pc (.ifCond .ne off) 3 pc') (ht : (pc : Int) + off = (tgt : Int)) (kt : b = true → V g E M A Q kc ks ws tgt lv st) (kf : b = false → V g E M A Q kc ks ws pc' lv st) : V g E M A Q kc ks ws pc lv (.int (bI b) :: st) := by
  refine V_if_ne hd ht (fun h => kt ?_) (fun h => kf ?_)
  · cases b with | true => rfl | false => exact absurd rfl h
  · exact bI_0.mp h
/-- a join: the two ways of a choice meet again, with one int on top -/
theorem V_join {b : Bool} {x y : Int32} {pj : Nat} {f : Nat} {st' : List Value} (k : (b = true → V g E M A Q kc ks ws pj lv (.int x :: st)) → (b = false → V g E M A Q kc ks ws pj lv (.int y :: st)) → V g E M A Q kc ks ws f lv st') (hJ : V g E M A Q kc ks ws pj lv (.int (if b = true then x else y) :: st)) : V g E M A Q kc ks ws f lv st' :=
  k (fun h => by rw [if_pos h] at hJ; exact hJ) (fun h => by rw [if_neg (by rw [h]; decide)] at hJ; exact hJ)
theorem V_joinb {b : Bool} {pj : Nat} {f : Nat} {st' : List Value} (k : (b = true → V g E M A Q kc ks ws pj lv (.int 1 :: st)) → (b = false → V g E M A Q kc ks ws pj lv (.int 0 :: st)) → V g E M A Q kc ks ws f lv st') (hJ : V g E M A Q kc ks ws pj lv (.int (bI b) :: st)) : V g E M A Q kc ks ws f lv st' :=
  k (fun h => by subst h; exact hJ) (fun h => by subst h; exact hJ)
theorem V_st {st2 : List Value} (h : st = st2) (k : V g E M A Q kc ks ws pc lv st2) : V g E M A Q kc ks ws pc lv st := by rw [h]; exact k
theorem V_lv {lv2 : List (Nat × Value)} (h : ∀ q ∈ lv2, q ∈ lv) (k : V g E M A Q kc ks ws pc lv2 st) : V g E M A Q kc ks ws pc lv st := fun B ls H locs hl hP hD hS => k B ls H locs (lv_less hl h) hP hD hS
theorem V_top {x y : Int32} (h : x = y) (k : V g E M A Q kc ks ws pc lv (.int y :: st)) : V g E M A Q kc ks ws pc lv (.int x :: st) := by rw [h]; exact k
theorem V_ws (h : ws = ws') (k : V g E M A Q kc ks ws' pc lv st) : V g E M A Q kc ks ws pc lv st := by rw [h]; exact k
end VR
end
section
/-! V: fields, arrays, calls, entry, return -/
/-- what holds of a callee's start -/
def PreC (g : Gx) (av : List Value) (w : va_W) (sz : Nat) : Array Value → State → Prop := va_Pc av (fun U => U.heap.size = sz ∧ va_P g.1 classes w U.heap ∧ va_K g.1 classes (tysG g) U ∧ va_D (fun _ => True) w)
/-- .. and of its end: an answer and a world over the same addresses, of which Po holds -/
def QcC (g : Gx) (w : va_W) (sz : Nat) (Po : Option Value → va_W → Prop) : Array Value → State → Outcome → State → Prop := fun _ st oc t =>
  (∃ (r : Option Value) (w' : va_W), Po r w' ∧ oc = .returned r ∧ w'.map Prod.fst = w.map Prod.fst ∧ va_P g.1 classes w' t.heap) ∧ va_F (va_A w sz) st t
abbrev wsM (y : MethodName) (M : MS) : List Cond := .code y M.1 M.2.1 M.2.2.2 :: wds
/-- a method's contract, no cell being made -/
def Ct (g : Gx) (l : Launch) (y : MethodName) (M : MS) (rm : Room) (av : List Value) (w : va_W) (Po : Option Value → va_W → Prop) : Prop :=
  ∀ sz : Nat, Met l y (wsM y M) rm (PreC g av w sz) (QcC g w sz Po) 0 0 (va_A w sz)
/-- .. whose answer and world are known -/
def Cd (g : Gx) (l : Launch) (y : MethodName) (M : MS) (rm : Room) (av : List Value) (w : va_W) (r : Option Value) (w' : va_W) : Prop := Ct g l y M rm av w (fun r' w'' => r' = r ∧ w'' = w')
theorem Ct.mono {g : Gx} {l : Launch} {y : MethodName} {M : MS} {rm : Room} {av : List Value} {w : va_W} {Po Po' : Option Value → va_W → Prop} (h : Ct g l y M rm av w Po) (hi : ∀ r w', Po r w' → Po' r w') : Ct g l y M rm av w Po' := by
  intro sz p e ha hc hk s m args below hf h1 h2 h3
  obtain ⟨t, o, q1, q2, q3, ⟨⟨⟨r, w', a1, a2, a3, a4⟩, a5⟩, a6⟩⟩ := h sz p e ha hc hk s m args below hf h1 h2 h3
  exact ⟨t, o, q1, q2, q3, ⟨⟨⟨r, w', hi r w' a1, a2, a3, a4⟩, a5⟩, a6⟩⟩
theorem va_D_addr {A : Nat → Prop} {w w' : va_W} (h : va_D A w) (e : w'.map Prod.fst = w.map Prod.fst) : va_D A w' := by
  have key : ∀ (k : Nat) (q : Nat × va_E), w'[k]? = some q → ∃ q0, w[k]? = some q0 ∧ q0.1 = q.1 := by
    intro k q hk
    have h1 : (w'.map Prod.fst)[k]? = some q.1 := by rw [List.getElem?_map, hk]; rfl
    rw [e, List.getElem?_map] at h1
    cases hq : w[k]? with
    | none => rw [hq] at h1; cases h1
    | some q0 => rw [hq] at h1; exact ⟨q0, rfl, Option.some.inj h1⟩
  refine ⟨fun i j x y hi hj hxy => ?_, fun k q hk => ?_⟩
  · obtain ⟨x0, h1, h2⟩ := key i x hi
    obtain ⟨y0, h3, h4⟩ := key j y hj
    exact h.1 i j x0 y0 h1 h3 (h2.trans (hxy.trans h4.symm))
  · obtain ⟨q0, h1, h2⟩ := key k q hk
    rw [← h2]
    exact h.2 k q0 h1
theorem PreC_blind {g : Gx} {av : List Value} {w : va_W} {sz : Nat} : FrameBlind (PreC g av w sz) := fun a U f mk q => by
  obtain ⟨q0, q1, q2, q3, q4⟩ := q
  exact ⟨q0, q1, q2, va_K.moved (u := U) (U := U.calling f mk a) (Vm.Alike.refl U.vm) q3, q4⟩
/-- what a walk knows of its own frame -/
def Ev (E : MV) (l : Launch) (rm : Room) (A : Nat → Prop) (w : va_W) (sz : Nat) : Prop := E.2.1 = l ∧ E.2.2.2.1 = rm ∧ A = va_A w sz
/-- what a walk has to come to -/
def Qm (g : Gx) (E : MV) (w : va_W) (sz : Nat) (Po : Option Value → va_W → Prop) (A : Nat → Prop) : State → Prop := MQ E.2.2.2.2.2.2.2.1 (QcC g w sz Po) E.2.2.2.2.2.2.1 E.2.2.2.2.1 0 0 A
/-- THE ENTRY: a contract by a walk -/
theorem Ct.of {g : Gx} {l : Launch} {y : MethodName} {M : MS} {rm : Room} {av : List Value} {lv : List (Nat × Value)} {w : va_W} {Po : Option Value → va_W → Prop} (hy : plainName y.cls = true ∧ y.cls = M.2.2.1 ∧ (lg_sl av).length ≤ M.2.1) (hlv : lv_args 0 av = lv)
    (body : ∀ (E : MV) (A : Nat → Prop) (sz : Nat) (Q : State → Prop), Ev E l rm A w sz → Q = Qm g E w sz Po A → V g E M A Q 0 0 w 0 lv []) : Ct g l y M rm av w Po := by
  intro sz
  subst hlv
  obtain ⟨hy, hc, hn⟩ := hy
  refine Met.ofW (cc := M.1) (maxL := M.2.1) (ret := M.2.2.2) hy rfl ?_
  intro p e s m args below meth c s₁ B hml hv
  obtain ⟨rfl, hsz, hP, hK, hD0⟩ := hv
  have hts := atoms_spec (ws := wsM y M) B.pre
  have hown : s.vm.findClass M.2.2.1 = some m.cls := by rw [← hc]; exact findClass_of_methodNamed B.named
  have hD := hD0.self (sz := sz)
  have b := body (p, l, e, rm, s, m, av.toArray, below, meth, c) (va_A w sz) sz _ ⟨rfl, rfl, rfl⟩ rfl
  have hl := lv_entry av (n := M.2.1) hn
  rw [lg_entry_eq]
  exact b ⟨B.exec, B.bytes, hml, hown, fun w hw => hts w (List.mem_cons_of_mem _ hw), B.returns, B.notSynchronized, hK, fun q h => Or.inr (by rw [← hsz]; exact h)⟩ _ _ _ hl hP hD va_S.rf
section VH
variable {g : Gx} {E : MV} {M : MS} {A : Nat → Prop} {Q : State → Prop} {kc ks : Nat} {ws ws' : va_W} {pc pc' : Nat} {lv lv' : List (Nat × Value)} {st : List Value}
/-- returns -/
theorem V_iret {w : va_W} {sz : Nat} {Po : Option Value → va_W → Prop} {v : Int32} (hM : M.2.2.2 = some .int) (hd : Nx M pc .ireturn 1 pc') (hp : Po (some (.int v)) ws) (ha : ws.map Prod.fst = w.map Prod.fst) {l : Launch} {rm : Room} (X : Ev E l rm A w sz) (hQ : Q = Qm g E w sz Po A) : V g E M A Q 0 0 ws pc lv [.int v] := by
  subst hQ
  intro B ls H locs hl hP hD hS
  exact W.iret B.1 B.2.1 (B.2.2.2.2.2.1.trans hM) (fun t ht hW => ⟨⟨_, ws, hp, rfl, ha, by rw [ht]; exact hP⟩, by rw [← X.2.2]; exact hS.F ht⟩) hS.2.2 hd.1 B.2.2.2.2.2.2.1
theorem V_zret {w : va_W} {sz : Nat} {Po : Option Value → va_W → Prop} {b : Bool} (hM : M.2.2.2 = some .boolean) (hd : Nx M pc .ireturn 1 pc') (hp : Po (some (.int (bI b))) ws) (ha : ws.map Prod.fst = w.map Prod.fst) {l : Launch} {rm : Room} (X : Ev E l rm A w sz) (hQ : Q = Qm g E w sz Po A) : V g E M A Q 0 0 ws pc lv [.int (bI b)] := by
  subst hQ
  intro B ls H locs hl hP hD hS
  exact W.zret B.1 B.2.1 (B.2.2.2.2.2.1.trans hM) (bI_n b) (fun t ht hW => ⟨⟨_, ws, hp, rfl, ha, by rw [ht]; exact hP⟩, by rw [← X.2.2]; exact hS.F ht⟩) hS.2.2 hd.1 B.2.2.2.2.2.2.1
theorem V_lret {w : va_W} {sz : Nat} {Po : Option Value → va_W → Prop} {v : Int64} (hM : M.2.2.2 = some .long) (hd : Nx M pc .lreturn 1 pc') (hp : Po (some (.long v)) ws) (ha : ws.map Prod.fst = w.map Prod.fst) {l : Launch} {rm : Room} (X : Ev E l rm A w sz) (hQ : Q = Qm g E w sz Po A) : V g E M A Q 0 0 ws pc lv [.long v] := by
  subst hQ
  intro B ls H locs hl hP hD hS
  exact W.lret B.1 B.2.1 (B.2.2.2.2.2.1.trans hM) (fun t ht hW => ⟨⟨_, ws, hp, rfl, ha, by rw [ht]; exact hP⟩, by rw [← X.2.2]; exact hS.F ht⟩) hS.2.2 hd.1 B.2.2.2.2.2.2.1
theorem V_vret {w : va_W} {sz : Nat} {Po : Option Value → va_W → Prop} (hM : M.2.2.2 = none) (hd : Nx M pc .return_ 1 pc') (hp : Po none ws) (ha : ws.map Prod.fst = w.map Prod.fst) {l : Launch} {rm : Room} (X : Ev E l rm A w sz) (hQ : Q = Qm g E w sz Po A) : V g E M A Q 0 0 ws pc lv [] := by
  subst hQ
  intro B ls H locs hl hP hD hS
  exact W.vret B.1 B.2.1 (B.2.2.2.2.2.1.trans hM) (fun t ht hW => ⟨⟨_, ws, hp, rfl, ha, by rw [ht]; exact hP⟩, by rw [← X.2.2]; exact hS.F ht⟩) hS.2.2 hd.1 B.2.2.2.2.2.2.1
/-- getfield: the object stands at place q0 of the world, the field at place k of its class's table -/
theorem V_get {C : String} {T : u_T} {N ci index a : Nat} {fs : List Value} {v : Value} (q0 k : Nat) (hin : ∀ w ∈ u_ws C T N, w ∈ wds) (hc : classes[ci]? = some (C, T, N)) (hk : k < N) (hf : Cond.fieldLink M.2.2.1 index (T k).1 (T k).2.1 (T k).2.2.1 ∈ wds) (hd : Nx M pc (.getfield index) 3 pc') (he : ws[q0]? = some (a, .inr (ci, fs))) (hv : fs[k]? = some v) (kk : V g E M A Q kc ks ws pc' lv (v :: st)) : V g E M A Q kc ks ws pc lv (.ref a :: st) := by
  obtain ⟨hd, rfl⟩ := hd
  intro B ls H locs hl hP hD hS
  exact va_get B.1 B.2.1 B.2.2.2.2.1 hin B.2.2.2.1 B.2.2.2.2.2.2.2.1 hP q0 he hc k hk (B.2.2.2.2.1 _ hf) (fun _ h => h) hv hd (kk B ls H locs hl hP hD hS)
theorem V_put {C : String} {T : u_T} {N ci index a : Nat} {fs : List Value} {v : Value} {ty : FieldType} (q0 k : Nat) (hin : ∀ w ∈ u_ws C T N, w ∈ wds) (ty0 : Nat → FieldType) (hty : ∀ k, k < N → parseFieldDescriptor (T k).2.2.1 = some (ty0 k)) (hnm : ∀ a, a < N → ∀ b, b < N → a ≠ b → (T a).2.1 ≠ (T b).2.1) (hc : classes[ci]? = some (C, T, N)) (hk : k < N) (hf : Cond.fieldLink M.2.2.1 index (T k).1 (T k).2.1 (T k).2.2.1 ∈ wds) (hfin : (T k).2.2.2 = false) (hty1 : ty0 k = ty) (hn : narrow ty v = v) (hfit : fits ty v = true) (hd : Nx M pc (.putfield index) 3 pc') (he : ws[q0]? = some (a, .inr (ci, fs))) (hl0 : k < fs.length) (hw : ws.set q0 (a, .inr (ci, fs.set k v)) = ws') (kk : V g E M A Q kc ks ws' pc' lv st) : V g E M A Q kc ks ws pc lv (v :: .ref a :: st) := by
  obtain ⟨hd, rfl⟩ := hd
  intro B ls H locs hl hP hD hS
  subst hw
  subst hty1
  exact va_put B.1 B.2.1 B.2.2.2.2.1 hin ty0 hty hnm B.2.2.2.1 B.2.2.2.2.2.2.2.1 hP hD hS q0 he hc k hk (B.2.2.2.2.1 _ hf) (fun _ h => h) hfin (hty k hk) hn hfit hl0 hd (fun H1 locs1 hP hD hS => kk B ls H1 locs1 hl hP hD hS)
theorem V_iald {a n j : Nat} {f : Nat → Int32} {v : Int32} (q0 : Nat) (hd : Nx M pc .iaload 1 pc') (he : ws[q0]? = some (a, .inl (g.2.1, n, .inl f))) (hj : j < n) (hn : n < 2 ^ 31) (hv : f j = v) (kk : V g E M A Q kc ks ws pc' lv (.int v :: st)) : V g E M A Q kc ks ws pc lv (.int (nI j) :: .ref a :: st) := by
  obtain ⟨hd, rfl⟩ := hd
  intro B ls H locs hl hP hD hS
  subst hv
  refine va_iald B.1 B.2.1 B.2.2.2.2.2.2.2.1 hP q0 0 he rfl (vp_in_nI hj hn) hd ?_
  rw [nI_clamp (Nat.lt_trans hj hn)]
  exact kk B ls H locs hl hP hD hS
theorem V_zald {a n j : Nat} {f : Nat → Int32} {v : Int32} (q0 : Nat) (hd : Nx M pc .baload 1 pc') (he : ws[q0]? = some (a, .inl (g.2.2.1, n, .inl f))) (hj : j < n) (hn : n < 2 ^ 31) (hv : f j = v) (kk : V g E M A Q kc ks ws pc' lv (.int v :: st)) : V g E M A Q kc ks ws pc lv (.int (nI j) :: .ref a :: st) := by
  obtain ⟨hd, rfl⟩ := hd
  intro B ls H locs hl hP hD hS
  subst hv
  refine va_zald B.1 B.2.1 B.2.2.2.2.2.2.2.1 hP q0 1 he rfl (vp_in_nI hj hn) hd ?_
  rw [nI_clamp (Nat.lt_trans hj hn)]
  exact kk B ls H locs hl hP hD hS
theorem V_aald {a n j b : Nat} {f : Nat → Option Nat} (q0 : Nat) (hd : Nx M pc .aaload 1 pc') (he : ws[q0]? = some (a, .inl (g.2.2.2, n, .inr (.inr (.inr (.inr f)))))) (hj : j < n) (hn : n < 2 ^ 31) (hv : f j = some b) (kk : V g E M A Q kc ks ws pc' lv (.ref b :: st)) : V g E M A Q kc ks ws pc lv (.int (nI j) :: .ref a :: st) := by
  obtain ⟨hd, rfl⟩ := hd
  intro B ls H locs hl hP hD hS
  refine va_aldq B.1 B.2.1 B.2.2.2.2.2.2.2.1 hP q0 2 he rfl (vp_in_nI hj hn) hd ?_
  rw [nI_clamp (Nat.lt_trans hj hn), hv]
  exact kk B ls H locs hl hP hD hS
theorem V_iast {a n j : Nat} {f : Nat → Int32} {x : Int32} (q0 : Nat) (hd : Nx M pc .iastore 1 pc') (he : ws[q0]? = some (a, .inl (g.2.1, n, .inl f))) (hj : j < n) (hn : n < 2 ^ 31) (hw : ws.set q0 (a, .inl (g.2.1, n, .inl (upd f j x))) = ws') (kk : V g E M A Q kc ks ws' pc' lv st) : V g E M A Q kc ks ws pc lv (.int x :: .int (nI j) :: .ref a :: st) := by
  obtain ⟨hd, rfl⟩ := hd
  intro B ls H locs hl hP hD hS
  subst hw
  refine va_iast B.1 B.2.1 B.2.2.2.2.2.2.2.1 hP hD hS q0 0 he rfl (vp_in_nI hj hn) hd ?_
  rw [nI_clamp (Nat.lt_trans hj hn)]
  exact fun H1 locs1 hP hD hS => kk B ls H1 locs1 hl hP hD hS
theorem V_zast {a n j : Nat} {f : Nat → Int32} {b : Bool} (q0 : Nat) (hd : Nx M pc .bastore 1 pc') (he : ws[q0]? = some (a, .inl (g.2.2.1, n, .inl f))) (hj : j < n) (hn : n < 2 ^ 31) (hw : ws.set q0 (a, .inl (g.2.2.1, n, .inl (upd f j (bI b)))) = ws') (kk : V g E M A Q kc ks ws' pc' lv st) : V g E M A Q kc ks ws pc lv (.int (bI b) :: .int (nI j) :: .ref a :: st) := by
  obtain ⟨hd, rfl⟩ := hd
  intro B ls H locs hl hP hD hS
  subst hw
  refine va_zast B.1 B.2.1 B.2.2.2.2.2.2.2.1 hP hD hS q0 1 he rfl (vp_in_nI hj hn) hd ?_
  rw [nI_clamp (Nat.lt_trans hj hn), show vp_nar .boolean (bI b) = bI b by cases b <;> decide]
  exact fun H1 locs1 hP hD hS => kk B ls H1 locs1 hl hP hD hS
/-- constants of the pool -/
theorem V_ldc {index : Nat} {v : Int32} (hc : Cond.constant M.2.2.1 index v ∈ wds) (hd : Nx M pc (.ldc index) 2 pc') (kk : V g E M A Q kc ks ws pc' lv (.int v :: st)) : V g E M A Q kc ks ws pc lv st := by
  obtain ⟨hd, rfl⟩ := hd
  intro B ls H locs hl hP hD hS
  exact lv_ldc B.1 B.2.1 B.2.2.2.1 (B.2.2.2.2.1 _ hc) hd (kk B ls H locs hl hP hD hS)
theorem V_ldc2 {index : Nat} {v : Int64} (hc : Cond.constantLong M.2.2.1 index v ∈ wds) (hd : Nx M pc (.ldc2_w index) 3 pc') (kk : V g E M A Q kc ks ws pc' lv (.long v :: st)) : V g E M A Q kc ks ws pc lv st := by
  obtain ⟨hd, rfl⟩ := hd
  intro B ls H locs hl hP hD hS
  exact lv_ldc2 B.1 B.2.1 B.2.2.2.1 (B.2.2.2.2.1 _ hc) hd (kk B ls H locs hl hP hD hS)
/-- switches -/
theorem V_tableOut {dflt lo hi : Int} {offs : Array Int} {len : Nat} {x : Int32} {tgt : Nat} (hd : Nx M pc (.tableswitch dflt lo hi offs) len pc') (h : x.toInt < lo ∨ hi < x.toInt) (ht : (pc : Int) + dflt = (tgt : Int)) (kk : V g E M A Q kc ks ws tgt lv st) : V g E M A Q kc ks ws pc lv (.int x :: st) := by
  intro B ls H locs hl hP hD hS
  exact lv_tableOut B.1 B.2.1 hd.1 h ht (kk B ls H locs hl hP hD hS)
theorem V_tableIn {dflt lo hi : Int} {offs : Array Int} {len : Nat} {x : Int32} {off : Int} {tgt : Nat} (hd : Nx M pc (.tableswitch dflt lo hi offs) len pc') (h1 : ¬ x.toInt < lo) (h2 : ¬ hi < x.toInt) (ho : offs[(x.toInt - lo).toNat]? = some off) (ht : (pc : Int) + off = (tgt : Int)) (kk : V g E M A Q kc ks ws tgt lv st) : V g E M A Q kc ks ws pc lv (.int x :: st) := by
  intro B ls H locs hl hP hD hS
  exact lv_tableIn B.1 B.2.1 hd.1 h1 h2 ho ht (kk B ls H locs hl hP hD hS)
end VH
/-- the cells w put at the places is -/
def wput (ws : va_W) : List Nat → va_W → va_W
  | i :: is, c :: w => wput (ws.set i c) is w
  | _, _ => ws
theorem wput_len : ∀ (is : List Nat) (w ws : va_W), (wput ws is w).length = ws.length
  | [], [], _ => rfl
  | [], _ :: _, _ => rfl
  | _ :: _, [], _ => rfl
  | i :: is, c :: w, ws => by
    show (wput (ws.set i c) is w).length = _
    rw [wput_len is w, List.length_set]
theorem wput_out : ∀ (is : List Nat) (w ws : va_W) (k : Nat), k ∉ is → (wput ws is w)[k]? = ws[k]?
  | [], [], _, _, _ => rfl
  | [], _ :: _, _, _, _ => rfl
  | _ :: _, [], _, _, _ => rfl
  | i :: is, c :: w, ws, k, h => by
    show (wput (ws.set i c) is w)[k]? = _
    rw [wput_out is w _ k (fun q => h (List.mem_cons_of_mem _ q)), List.getElem?_set_ne (fun q => h (by rw [q]; exact List.mem_cons_self))]
theorem wput_in : ∀ (is : List Nat) (w ws : va_W) (k : Nat) (q : Nat × va_E), k ∈ is → is.length = w.length → (wput ws is w)[k]? = some q → q ∈ w ∨ ws[k]? = none
  | [], _, _, _, _, h, _, _ => by cases h
  | _ :: _, [], _, _, _, _, h, _ => by cases h
  | i :: is, c :: w, ws, k, q, h, hl, hq => by
    have hq : (wput (ws.set i c) is w)[k]? = some q := hq
    by_cases hk : k ∈ is
    · rcases wput_in is w _ k q hk (Nat.succ.inj hl) hq with h1 | h1
      · exact Or.inl (List.mem_cons_of_mem _ h1)
      · refine Or.inr ?_
        rw [List.getElem?_eq_none_iff] at h1 ⊢
        rw [List.length_set] at h1
        exact h1
    · have hik : k = i := by
        rcases List.mem_cons.mp h with h | h
        · exact h
        · exact absurd h hk
      subst hik
      rw [wput_out is w _ k hk] at hq
      by_cases hlt : k < ws.length
      · rw [List.getElem?_set_self hlt] at hq
        cases hq
        exact Or.inl List.mem_cons_self
      · exact Or.inr (List.getElem?_eq_none (by omega))
/-- behind a call, in the same order -/
theorem wput_adr : ∀ (is : List Nat) (w wc ws : va_W), is.map (fun j => (ws.map Prod.fst)[j]?) = wc.map (fun q => some q.1) → w.map Prod.fst = wc.map Prod.fst → (wput ws is w).map Prod.fst = ws.map Prod.fst
  | [], [], _, _, _, _ => rfl
  | [], _ :: _, _, _, _, _ => rfl
  | _ :: _, [], _, _, _, _ => rfl
  | i :: is, c :: w, [], _, _, h => by cases h
  | i :: is, c :: w, d :: wc, ws, hs, h => by
    obtain ⟨h1, h2⟩ := List.cons.inj hs
    obtain ⟨h3, h4⟩ := List.cons.inj h
    have h1 : (ws.map Prod.fst)[i]? = some d.1 := h1
    have e : (ws.set i c).map Prod.fst = ws.map Prod.fst := by
      rw [List.map_set]
      apply List.ext_getElem?
      intro k
      by_cases hk : k = i
      · subst hk
        have hlt : k < (ws.map Prod.fst).length := (List.getElem?_eq_some_iff.mp h1).1
        rw [List.getElem?_set_self hlt, h1]
        show some c.1 = some d.1
        rw [show c.1 = d.1 from h3]
      · rw [List.getElem?_set_ne (Ne.symm hk)]
    show (wput (ws.set i c) is w).map Prod.fst = _
    rw [wput_adr is w wc (ws.set i c) (by rw [e]; exact h2) h4, e]
theorem wput_addr (is : List Nat) (w wc ws : va_W) (hs : is.map (fun i => ws[i]?) = wc.map some) (h : w.map Prod.fst = wc.map Prod.fst) : (wput ws is w).map Prod.fst = ws.map Prod.fst := by
  refine wput_adr is w wc ws ?_ h
  have h5 := congrArg (fun l => l.map (Option.map Prod.fst)) hs
  simp only [List.map_map] at h5
  refine Eq.trans ?_ (h5.trans ?_)
  · apply List.map_congr_left
    intro j _
    rw [List.getElem?_map]
    rfl
  · apply List.map_congr_left
    intro j _
    rfl
theorem va_back {A0 : Nat → Prop} {D : va_G} {cl : List vw_C} {ws wc w1 : va_W} {H H1 : Heap} (hP : va_P D cl ws H) (hD : va_D A0 ws) (is : List Nat) (hC : is.map (fun i => ws[i]?) = wc.map some) (ha : w1.map Prod.fst = wc.map Prod.fst)
    (hk : ∀ q : Nat, q < H.size → ¬ va_A wc H.size q → H1[q]? = H[q]?) (hP1 : va_P D cl w1 H1) : va_P D cl (wput ws is w1) H1 ∧ va_D A0 (wput ws is w1) := by
  refine ⟨fun k q hq => ?_, va_D_addr hD (wput_addr is w1 wc ws hC ha)⟩
  by_cases hi : k ∈ is
  · have hlen : is.length = w1.length := by
      have h1 := congrArg List.length hC
      have h2 := congrArg List.length ha
      simp only [List.length_map] at h1 h2
      omega
    rcases wput_in is w1 ws k q hi hlen hq with h | h
    · obtain ⟨i, hi⟩ := List.getElem?_of_mem h
      exact hP1 i q hi
    · rw [List.getElem?_eq_none_iff] at h
      have h3 := (List.getElem?_eq_some_iff.mp hq).1
      rw [wput_len] at h3
      omega
  · rw [wput_out is w1 ws k hi] at hq
    refine (hP k q hq).kept (hk q.1 ((hP k q hq).lt) (fun h => ?_))
    rcases h with ⟨k2, e, h⟩ | h
    · obtain ⟨j, h5, h6⟩ := va_in_of is hC h
      have hij := hD.1 k j q (q.1, e) hq h6 rfl
      subst hij
      exact hi (List.mem_of_getElem? h5)
    · have := (hP k q hq).lt
      omega
section VCall
variable {g : Gx} {E : MV} {M : MS} {A : Nat → Prop} {Q : State → Prop} {kc ks : Nat} {ws ws' : va_W} {pc pc' : Nat} {lv lv' : List (Nat × Value)} {st : List Value}
/-- behind a call whose run is known -/
theorem V_run {w : va_W} {sz : Nat} {Po : Option Value → va_W → Prop} {a : Array Value} {ls : Array Slot} {H : Heap} {locs : List Loc} {st0 : List Value} (is : List Nat) (hC : is.map (fun i => ws[i]?) = w.map some) (B : Bd g E M A) (hl : lv_has ls M.2.1 lv) (hP : va_P g.1 classes ws H) (hD : va_D A ws) (hS : va_S A E.2.2.2.2.1.heap H locs) (hsz : sz = H.size)
    (hr : va_Run E.1 E.2.1 E.2.2.1 E.2.2.2.1 E.2.2.2.2.1 E.2.2.2.2.2.1 E.2.2.2.2.2.2.1 E.2.2.2.2.2.2.2.1 E.2.2.2.2.2.2.2.2.1 E.2.2.2.2.2.2.2.2.2 H locs kc ks 0 0 (F0 E.2.2.2.2.2.1 pc ls st0) st (QcC g w sz Po a) (va_A w sz))
    (kk : ∀ (r : Option Value) (w' : va_W), Po r w' → V g E M A Q kc ks (wput ws is w') (pc + 3) lv (r.toList ++ st)) : Wf E H locs kc ks Q (F0 E.2.2.2.2.2.1 pc ls st0) := by
  subst hsz
  have hF := va_free (wc := w) hD hS B.2.2.2.2.2.2.2.2 is hC
  intro T hT X
  obtain ⟨v, st₀, t, T', L, h0, X', hL, e1, e2, ⟨⟨r, w', hp, hv, hadr, hP1⟩, hz, hk⟩, stp⟩ := hr T hT X
  cases hv
  rw [h0] at hz hk
  rw [← e1] at hz hk hP1
  obtain ⟨hP2, hD2⟩ := va_back hP hD is hC hadr hk hP1
  have hS2 : va_S A E.2.2.2.2.1.heap T'.heap (locs ++ L) := ⟨Nat.le_trans hS.1 hz, fun q h1 h2 => by
      rw [hk q (Nat.lt_of_lt_of_le h1 hS.1) (fun z => h2 (hF q z))]
      exact hS.2.1 q h1 h2, fun q hq => by
      rcases List.mem_append.mp hq with h | h
      · exact hS.2.2 q h
      · exact hF _ (hL q h)⟩
  obtain ⟨t2, a1, b1⟩ := kk v w' hp B ls T'.heap (locs ++ L) hl hP2 hD2 hS2 T' rfl X'
  exact ⟨t2, stp t2 a1, b1⟩
theorem D_weak {A : Nat → Prop} {ws w : va_W} (hD : va_D A ws) (is : List Nat) (hn : va_nd is = true) (hC : is.map (fun i => ws[i]?) = w.map some) : va_D (fun _ => True) w := (hD.sub is hn hC).weaken (fun _ _ _ _ => trivial)
theorem P_sub {D : va_G} {cl : List vw_C} {ws w : va_W} {H : Heap} (hP : va_P D cl ws H) (is : List Nat) (hC : is.map (fun i => ws[i]?) = w.map some) : va_P D cl w H := fun k q hq => by
  obtain ⟨i, -, h2⟩ := va_in_of is hC hq
  exact hP i q h2
/-- a virtual call -/
theorem V_callV {l : Launch} {y : MethodName} {N : MS} {rm : Room} {b : Nat} {As : List Value} {w : va_W} {Po : Option Value → va_W → Prop} {index ci : Nat} {C : vw_C} {st0 : List Value} {R0 : Room} {A1 : Nat → Prop} {w1 : va_W} {sz1 : Nat} (is : List Nat) (n : Nat) (X : Ev E l R0 A1 w1 sz1) (hM : Ct g l y N rm (.ref b :: As) w Po)
    (hw : Cond.methodLink M.2.2.1 index y ∈ wds ∧ Cond.instanceMethod y ∈ wds ∧ Cond.selects C.1 y y ∈ wds ∧ Cond.initialized C.1 ∈ wds ∧ Cond.code y N.1 N.2.1 N.2.2.2 ∈ wds)
    (hy : y.cls = C.1 ∧ y.cls ≠ "java/lang/invoke/MethodHandle" ∧ y.cls ≠ "java/lang/invoke/VarHandle" ∧ (parseMethodDescriptor y.desc).map (fun d => d.parameters.length) = some n) (hR : rm.cells = 0 ∧ rm.slots = 0 ∧ rm.frames + 1 ≤ R0.frames ∧ 8 + (N.2.1 + 11) + rm.locals ≤ R0.locals ∧ kc ≤ R0.cells ∧ ks ≤ R0.slots)
    (hC : is.map (fun i => ws[i]?) = w.map some) (hn : va_nd is = true) (q0 : Nat) {fs : List Value} (hc : classes[ci]? = some C) (hb : w[q0]? = some (b, .inr (ci, fs))) (hd : Nx M pc (.invokevirtual index) 3 pc') (hAs : As.length = n) (hst : st0 = As.reverse ++ .ref b :: st) (hcat : (st.map fun v => v.category).sum ≤ 8)
    (kk : ∀ (r : Option Value) (w' : va_W), Po r w' → V g E M A Q kc ks (wput ws is w') pc' lv (r.toList ++ st)) : V g E M A Q kc ks ws pc lv st0 := by
  obtain ⟨hd, rfl⟩ := hd
  subst hst
  obtain ⟨hE, hER, -⟩ := X
  subst hE
  subst hER
  intro B ls H locs hl hP hD hS
  have hPc := P_sub hP is hC
  refine V_run (w := w) (sz := H.size) (Po := Po) (a := (Value.ref b :: As).toArray) is hC B hl hP hD hS rfl ?_ kk
  exact va_runV (Ts := wds) (own := M.2.2.1) (C := C.1) (bytes := N.1) (maxL := N.2.1) (ret := N.2.2.2) (n := n) ⟨B.1, B.2.1, B.2.2.1, B.2.2.2.1, B.2.2.2.2.1⟩ (hM H.size)
    (cwV (ws' := wds) n B.2.2.2.2.1 (fun w hw2 => by
      have good : ∀ z ∈ wds, z ∈ wds ∧ ((z.onTables && z.keeps) = true ∨ ∃ ty, z = .arrayClass ty) := wd_good
      rcases List.mem_append.mp hw2 with h | h
      · simp only [List.mem_cons, List.not_mem_nil, or_false] at h
        rcases h with rfl | rfl | rfl | rfl
        · exact good _ hw.1
        · exact good _ hw.2.1
        · exact good _ hw.2.2.1
        · exact good _ hw.2.2.2.1
      · rcases List.mem_cons.mp h with rfl | h
        · exact good _ hw.2.2.2.2
        · exact good _ h) rfl hR.1 hR.2.1 hy ⟨hR.2.2.1, hR.2.2.2.1⟩)
    ⟨PreC_blind, va_recv B.2.2.2.2.2.2.2.1 hPc hc hb, fun U hU hW => ⟨rfl, by rw [hU], by rw [hU]; exact hPc, va_K.moved hW.alike B.2.2.2.2.2.2.2.1, D_weak hD is hn hC⟩⟩ rfl hAs hl.1 rfl (lv_room hcat) hd ⟨by simpa using hR.2.2.2.2.1, by simpa using hR.2.2.2.2.2⟩
/-- a static call -/
theorem V_callS {l : Launch} {y : MethodName} {N : MS} {rm : Room} {As : List Value} {w : va_W} {Po : Option Value → va_W → Prop} {index : Nat} {st0 : List Value} {R0 : Room} {A1 : Nat → Prop} {w1 : va_W} {sz1 : Nat} (is : List Nat) (n : Nat) (X : Ev E l R0 A1 w1 sz1) (hM : Ct g l y N rm As w Po)
    (hw : Cond.methodLink M.2.2.1 index y ∈ wds ∧ Cond.static y ∈ wds ∧ Cond.initialized y.cls ∈ wds ∧ Cond.code y N.1 N.2.1 N.2.2.2 ∈ wds)
    (hy : y.cls ≠ "java/lang/invoke/MethodHandle" ∧ y.cls ≠ "java/lang/invoke/VarHandle" ∧ (parseMethodDescriptor y.desc).map (fun d => d.parameters.length) = some n) (hR : rm.cells = 0 ∧ rm.slots = 0 ∧ rm.frames + 1 ≤ R0.frames ∧ 8 + (N.2.1 + 11) + rm.locals ≤ R0.locals ∧ kc ≤ R0.cells ∧ ks ≤ R0.slots)
    (hC : is.map (fun i => ws[i]?) = w.map some) (hn : va_nd is = true) (hd : Nx M pc (.invokestatic index) 3 pc') (hAs : As.length = n) (hst : st0 = As.reverse ++ st) (hcat : (st.map fun v => v.category).sum ≤ 8)
    (kk : ∀ (r : Option Value) (w' : va_W), Po r w' → V g E M A Q kc ks (wput ws is w') pc' lv (r.toList ++ st)) : V g E M A Q kc ks ws pc lv st0 := by
  obtain ⟨hd, rfl⟩ := hd
  subst hst
  obtain ⟨hE, hER, -⟩ := X
  subst hE
  subst hER
  intro B ls H locs hl hP hD hS
  have hPc := P_sub hP is hC
  refine V_run (w := w) (sz := H.size) (Po := Po) (a := As.toArray) is hC B hl hP hD hS rfl ?_ kk
  exact va_runS (Ts := wds) (own := M.2.2.1) (bytes := N.1) (maxL := N.2.1) (ret := N.2.2.2) (n := n) ⟨B.1, B.2.1, B.2.2.1, B.2.2.2.1, B.2.2.2.2.1⟩ (hM H.size)
    (va_cwS (ws' := wds) n B.2.2.2.2.1 (fun w hw2 => by
      have good : ∀ z ∈ wds, z ∈ wds ∧ ((z.onTables && z.keeps) = true ∨ ∃ ty, z = .arrayClass ty) := wd_good
      rcases List.mem_append.mp hw2 with h | h
      · simp only [List.mem_cons, List.not_mem_nil, or_false] at h
        rcases h with rfl | rfl | rfl
        · exact good _ hw.1
        · exact good _ hw.2.1
        · exact good _ hw.2.2.1
      · rcases List.mem_cons.mp h with rfl | h
        · exact good _ hw.2.2.2
        · exact good _ h) rfl hR.1 hR.2.1 hy ⟨hR.2.2.1, hR.2.2.2.1⟩)
    ⟨PreC_blind, fun U hU hW => ⟨rfl, by rw [hU], by rw [hU]; exact hPc, va_K.moved hW.alike B.2.2.2.2.2.2.2.1, D_weak hD is hn hC⟩⟩ rfl hAs hl.1 rfl (lv_room hcat) hd ⟨by simpa using hR.2.2.2.2.1, by simpa using hR.2.2.2.2.2⟩
/-- calls whose answer and world are known -/
theorem V_cVi {l : Launch} {y : MethodName} {N : MS} {rm : Room} {b : Nat} {As : List Value} {w w' : va_W} {r : Int32} {index ci : Nat} {C : vw_C} {st0 : List Value} {R0 : Room} {A1 : Nat → Prop} {w1 : va_W} {sz1 : Nat} (is : List Nat) (n : Nat) (X : Ev E l R0 A1 w1 sz1) (hM : Cd g l y N rm (.ref b :: As) w (some (.int r)) w')
    (hw : Cond.methodLink M.2.2.1 index y ∈ wds ∧ Cond.instanceMethod y ∈ wds ∧ Cond.selects C.1 y y ∈ wds ∧ Cond.initialized C.1 ∈ wds ∧ Cond.code y N.1 N.2.1 N.2.2.2 ∈ wds)
    (hy : y.cls = C.1 ∧ y.cls ≠ "java/lang/invoke/MethodHandle" ∧ y.cls ≠ "java/lang/invoke/VarHandle" ∧ (parseMethodDescriptor y.desc).map (fun d => d.parameters.length) = some n) (hR : rm.cells = 0 ∧ rm.slots = 0 ∧ rm.frames + 1 ≤ R0.frames ∧ 8 + (N.2.1 + 11) + rm.locals ≤ R0.locals ∧ kc ≤ R0.cells ∧ ks ≤ R0.slots)
    (hC : is.map (fun i => ws[i]?) = w.map some) (hn : va_nd is = true) (q0 : Nat) {fs : List Value} (hc : classes[ci]? = some C) (hb : w[q0]? = some (b, .inr (ci, fs))) (hd : Nx M pc (.invokevirtual index) 3 pc') (hAs : As.length = n) (hst : st0 = As.reverse ++ .ref b :: st) (hcat : (st.map fun v => v.category).sum ≤ 8) (hws : wput ws is w' = ws') (kk : V g E M A Q kc ks ws' pc' lv (.int r :: st)) : V g E M A Q kc ks ws pc lv st0 := by
  refine V_callV (C := C) is n X hM hw hy hR hC hn q0 hc hb hd hAs hst hcat ?_
  rintro _ _ ⟨rfl, rfl⟩
  rw [hws]
  exact kk
theorem V_cVl {l : Launch} {y : MethodName} {N : MS} {rm : Room} {b : Nat} {As : List Value} {w w' : va_W} {r : Int64} {index ci : Nat} {C : vw_C} {st0 : List Value} {R0 : Room} {A1 : Nat → Prop} {w1 : va_W} {sz1 : Nat} (is : List Nat) (n : Nat) (X : Ev E l R0 A1 w1 sz1) (hM : Cd g l y N rm (.ref b :: As) w (some (.long r)) w')
    (hw : Cond.methodLink M.2.2.1 index y ∈ wds ∧ Cond.instanceMethod y ∈ wds ∧ Cond.selects C.1 y y ∈ wds ∧ Cond.initialized C.1 ∈ wds ∧ Cond.code y N.1 N.2.1 N.2.2.2 ∈ wds)
    (hy : y.cls = C.1 ∧ y.cls ≠ "java/lang/invoke/MethodHandle" ∧ y.cls ≠ "java/lang/invoke/VarHandle" ∧ (parseMethodDescriptor y.desc).map (fun d => d.parameters.length) = some n) (hR : rm.cells = 0 ∧ rm.slots = 0 ∧ rm.frames + 1 ≤ R0.frames ∧ 8 + (N.2.1 + 11) + rm.locals ≤ R0.locals ∧ kc ≤ R0.cells ∧ ks ≤ R0.slots)
    (hC : is.map (fun i => ws[i]?) = w.map some) (hn : va_nd is = true) (q0 : Nat) {fs : List Value} (hc : classes[ci]? = some C) (hb : w[q0]? = some (b, .inr (ci, fs))) (hd : Nx M pc (.invokevirtual index) 3 pc') (hAs : As.length = n) (hst : st0 = As.reverse ++ .ref b :: st) (hcat : (st.map fun v => v.category).sum ≤ 8) (hws : wput ws is w' = ws') (kk : V g E M A Q kc ks ws' pc' lv (.long r :: st)) : V g E M A Q kc ks ws pc lv st0 := by
  refine V_callV (C := C) is n X hM hw hy hR hC hn q0 hc hb hd hAs hst hcat ?_
  rintro _ _ ⟨rfl, rfl⟩
  rw [hws]
  exact kk
theorem V_cVv {l : Launch} {y : MethodName} {N : MS} {rm : Room} {b : Nat} {As : List Value} {w w' : va_W} {index ci : Nat} {C : vw_C} {st0 : List Value} {R0 : Room} {A1 : Nat → Prop} {w1 : va_W} {sz1 : Nat} (is : List Nat) (n : Nat) (X : Ev E l R0 A1 w1 sz1) (hM : Cd g l y N rm (.ref b :: As) w (none) w')
    (hw : Cond.methodLink M.2.2.1 index y ∈ wds ∧ Cond.instanceMethod y ∈ wds ∧ Cond.selects C.1 y y ∈ wds ∧ Cond.initialized C.1 ∈ wds ∧ Cond.code y N.1 N.2.1 N.2.2.2 ∈ wds)
    (hy : y.cls = C.1 ∧ y.cls ≠ "java/lang/invoke/MethodHandle" ∧ y.cls ≠ "java/lang/invoke/VarHandle" ∧ (parseMethodDescriptor y.desc).map (fun d => d.parameters.length) = some n) (hR : rm.cells = 0 ∧ rm.slots = 0 ∧ rm.frames + 1 ≤ R0.frames ∧ 8 + (N.2.1 + 11) + rm.locals ≤ R0.locals ∧ kc ≤ R0.cells ∧ ks ≤ R0.slots)
    (hC : is.map (fun i => ws[i]?) = w.map some) (hn : va_nd is = true) (q0 : Nat) {fs : List Value} (hc : classes[ci]? = some C) (hb : w[q0]? = some (b, .inr (ci, fs))) (hd : Nx M pc (.invokevirtual index) 3 pc') (hAs : As.length = n) (hst : st0 = As.reverse ++ .ref b :: st) (hcat : (st.map fun v => v.category).sum ≤ 8) (hws : wput ws is w' = ws') (kk : V g E M A Q kc ks ws' pc' lv st) : V g E M A Q kc ks ws pc lv st0 := by
  refine V_callV (C := C) is n X hM hw hy hR hC hn q0 hc hb hd hAs hst hcat ?_
  rintro _ _ ⟨rfl, rfl⟩
  rw [hws]
  exact kk
theorem V_cSi {l : Launch} {y : MethodName} {N : MS} {rm : Room} {As : List Value} {w w' : va_W} {r : Int32} {index : Nat} {st0 : List Value} {R0 : Room} {A1 : Nat → Prop} {w1 : va_W} {sz1 : Nat} (is : List Nat) (n : Nat) (X : Ev E l R0 A1 w1 sz1) (hM : Cd g l y N rm As w (some (.int r)) w')
    (hw : Cond.methodLink M.2.2.1 index y ∈ wds ∧ Cond.static y ∈ wds ∧ Cond.initialized y.cls ∈ wds ∧ Cond.code y N.1 N.2.1 N.2.2.2 ∈ wds)
    (hy : y.cls ≠ "java/lang/invoke/MethodHandle" ∧ y.cls ≠ "java/lang/invoke/VarHandle" ∧ (parseMethodDescriptor y.desc).map (fun d => d.parameters.length) = some n) (hR : rm.cells = 0 ∧ rm.slots = 0 ∧ rm.frames + 1 ≤ R0.frames ∧ 8 + (N.2.1 + 11) + rm.locals ≤ R0.locals ∧ kc ≤ R0.cells ∧ ks ≤ R0.slots)
    (hC : is.map (fun i => ws[i]?) = w.map some) (hn : va_nd is = true) (hd : Nx M pc (.invokestatic index) 3 pc') (hAs : As.length = n) (hst : st0 = As.reverse ++ st) (hcat : (st.map fun v => v.category).sum ≤ 8) (hws : wput ws is w' = ws') (kk : V g E M A Q kc ks ws' pc' lv (.int r :: st)) : V g E M A Q kc ks ws pc lv st0 := by
  refine V_callS is n X hM hw hy hR hC hn hd hAs hst hcat ?_
  rintro _ _ ⟨rfl, rfl⟩
  rw [hws]
  exact kk
theorem V_cSl {l : Launch} {y : MethodName} {N : MS} {rm : Room} {As : List Value} {w w' : va_W} {r : Int64} {index : Nat} {st0 : List Value} {R0 : Room} {A1 : Nat → Prop} {w1 : va_W} {sz1 : Nat} (is : List Nat) (n : Nat) (X : Ev E l R0 A1 w1 sz1) (hM : Cd g l y N rm As w (some (.long r)) w')
    (hw : Cond.methodLink M.2.2.1 index y ∈ wds ∧ Cond.static y ∈ wds ∧ Cond.initialized y.cls ∈ wds ∧ Cond.code y N.1 N.2.1 N.2.2.2 ∈ wds)
    (hy : y.cls ≠ "java/lang/invoke/MethodHandle" ∧ y.cls ≠ "java/lang/invoke/VarHandle" ∧ (parseMethodDescriptor y.desc).map (fun d => d.parameters.length) = some n) (hR : rm.cells = 0 ∧ rm.slots = 0 ∧ rm.frames + 1 ≤ R0.frames ∧ 8 + (N.2.1 + 11) + rm.locals ≤ R0.locals ∧ kc ≤ R0.cells ∧ ks ≤ R0.slots)
    (hC : is.map (fun i => ws[i]?) = w.map some) (hn : va_nd is = true) (hd : Nx M pc (.invokestatic index) 3 pc') (hAs : As.length = n) (hst : st0 = As.reverse ++ st) (hcat : (st.map fun v => v.category).sum ≤ 8) (hws : wput ws is w' = ws') (kk : V g E M A Q kc ks ws' pc' lv (.long r :: st)) : V g E M A Q kc ks ws pc lv st0 := by
  refine V_callS is n X hM hw hy hR hC hn hd hAs hst hcat ?_
  rintro _ _ ⟨rfl, rfl⟩
  rw [hws]
  exact kk
theorem V_cSv {l : Launch} {y : MethodName} {N : MS} {rm : Room} {As : List Value} {w w' : va_W} {index : Nat} {st0 : List Value} {R0 : Room} {A1 : Nat → Prop} {w1 : va_W} {sz1 : Nat} (is : List Nat) (n : Nat) (X : Ev E l R0 A1 w1 sz1) (hM : Cd g l y N rm As w (none) w')
    (hw : Cond.methodLink M.2.2.1 index y ∈ wds ∧ Cond.static y ∈ wds ∧ Cond.initialized y.cls ∈ wds ∧ Cond.code y N.1 N.2.1 N.2.2.2 ∈ wds)
    (hy : y.cls ≠ "java/lang/invoke/MethodHandle" ∧ y.cls ≠ "java/lang/invoke/VarHandle" ∧ (parseMethodDescriptor y.desc).map (fun d => d.parameters.length) = some n) (hR : rm.cells = 0 ∧ rm.slots = 0 ∧ rm.frames + 1 ≤ R0.frames ∧ 8 + (N.2.1 + 11) + rm.locals ≤ R0.locals ∧ kc ≤ R0.cells ∧ ks ≤ R0.slots)
    (hC : is.map (fun i => ws[i]?) = w.map some) (hn : va_nd is = true) (hd : Nx M pc (.invokestatic index) 3 pc') (hAs : As.length = n) (hst : st0 = As.reverse ++ st) (hcat : (st.map fun v => v.category).sum ≤ 8) (hws : wput ws is w' = ws') (kk : V g E M A Q kc ks ws' pc' lv st) : V g E M A Q kc ks ws pc lv st0 := by
  refine V_callS is n X hM hw hy hR hC hn hd hAs hst hcat ?_
  rintro _ _ ⟨rfl, rfl⟩
  rw [hws]
  exact kk
/-- Math.min, Math.abs -/
theorem V_mmin {index : Nat} {x y v : Int32} {l : Launch} {R0 : Room} {A1 : Nat → Prop} {w1 : va_W} {sz1 : Nat} (X : Ev E l R0 A1 w1 sz1) (hw : Cond.methodLink M.2.2.1 index Lib.Math.min.name ∈ wds ∧ Cond.static Lib.Math.min.name ∈ wds ∧ Cond.initialized "java/lang/Math" ∈ wds ∧ Cond.code Lib.Math.min.name Lib.Math.min.code 2 (some .int) ∈ wds) (hR : 1 ≤ R0.frames ∧ (st.map fun v => v.category).sum + 13 ≤ R0.locals ∧ kc ≤ R0.cells ∧ ks ≤ R0.slots) (hd : Nx M pc (.invokestatic index) 3 pc') (hv : (if y < x then y else x) = v) (kk : V g E M A Q kc ks ws pc' lv (.int v :: st)) : V g E M A Q kc ks ws pc lv (.int y :: .int x :: st) := by
  obtain ⟨hd, rfl⟩ := hd
  obtain ⟨hE, hER, -⟩ := X
  subst hE
  subst hER
  subst hv
  intro B ls H locs hl hP hD hS
  exact va_mmin B.1 B.2.1 (B.2.2.1.trans hl.1.symm) B.2.2.2.1 (B.2.2.2.2.1 _ hw.1) (B.2.2.2.2.1 _ hw.2.1) (B.2.2.2.2.1 _ hw.2.2.1) (B.2.2.2.2.1 _ hw.2.2.2) hR.1 hR.2.1 hR.2.2.1 hR.2.2.2 hd (kk B ls H locs hl hP hD hS)
theorem V_mabs {index : Nat} {x v : Int32} {l : Launch} {R0 : Room} {A1 : Nat → Prop} {w1 : va_W} {sz1 : Nat} (X : Ev E l R0 A1 w1 sz1) (hw : Cond.methodLink M.2.2.1 index Lib.Math.abs.name ∈ wds ∧ Cond.static Lib.Math.abs.name ∈ wds ∧ Cond.initialized "java/lang/Math" ∈ wds ∧ Cond.code Lib.Math.abs.name Lib.Math.abs.code 1 (some .int) ∈ wds) (hR : 1 ≤ R0.frames ∧ (st.map fun v => v.category).sum + 13 ≤ R0.locals ∧ kc ≤ R0.cells ∧ ks ≤ R0.slots) (hd : Nx M pc (.invokestatic index) 3 pc') (hv : (if 0 ≤ x then x else 0 - x) = v) (kk : V g E M A Q kc ks ws pc' lv (.int v :: st)) : V g E M A Q kc ks ws pc lv (.int x :: st) := by
  obtain ⟨hd, rfl⟩ := hd
  obtain ⟨hE, hER, -⟩ := X
  subst hE
  subst hER
  subst hv
  intro B ls H locs hl hP hD hS
  exact va_mabs B.1 B.2.1 (B.2.2.1.trans hl.1.symm) B.2.2.2.1 (B.2.2.2.2.1 _ hw.1) (B.2.2.2.2.1 _ hw.2.1) (B.2.2.2.2.1 _ hw.2.2.1) (B.2.2.2.2.1 _ hw.2.2.2) hR.1 hR.2.1 hR.2.2.1 hR.2.2.2 hd (kk B ls H locs hl hP hD hS)
/-- an array's contents count below its length alone -/
theorem cell_congr (cA : ClassId) (n : Nat) {f f' : Nat → Int32} (h : ∀ j, j < n → f j = f' j) : vp_cell cA (n, .inl f) = vp_cell cA (n, .inl f') := by
  rw [vp_cell_i, vp_cell_i]
  unfold arrV
  congr 1
  congr 1
  funext j
  exact congrArg Value.int (h j.1 j.2)
theorem P_arr {D : va_G} {cl : List vw_C} {ws : va_W} {H : Heap} (hP : va_P D cl ws H) {q0 a n : Nat} {cA : ClassId} {f f' : Nat → Int32} (he : ws[q0]? = some (a, .inl (cA, n, .inl f))) (h : ∀ j, j < n → f j = f' j) : va_P D cl (ws.set q0 (a, .inl (cA, n, .inl f'))) H := by
  intro k q hq
  by_cases hk : k = q0
  · subst hk
    rw [List.getElem?_set_self ((List.getElem?_eq_some_iff.mp he).1)] at hq
    cases hq
    have h1 := hP k _ he
    show H[a]? = some (vp_cell cA (n, .inl f'))
    rw [← cell_congr cA n h]
    exact h1
  · rw [List.getElem?_set_ne (Ne.symm hk)] at hq
    exact hP k q hq
theorem V_arr {a n : Nat} {cA : ClassId} {f f' : Nat → Int32} (q0 : Nat) (he : ws[q0]? = some (a, .inl (cA, n, .inl f))) (h : ∀ j, j < n → f j = f' j) (hw : ws.set q0 (a, .inl (cA, n, .inl f')) = ws') (kk : V g E M A Q kc ks ws' pc lv st) : V g E M A Q kc ks ws pc lv st := by
  intro B ls H locs hl hP hD hS
  subst hw
  exact kk B ls H locs hl (P_arr hP he h) (hD.set he) hS
/-- System.arraycopy of a whole array of ints -/
theorem V_copy {index : Nat} {l : Launch} {R0 : Room} {A1 : Nat → Prop} {w1 : va_W} {sz1 : Nat} {a0 a n : Nat} {f h : Nat → Int32} (q0 q1 : Nat) (X : Ev E l R0 A1 w1 sz1) (hw : Cond.methodLink M.2.2.1 index arraycopyName ∈ wds ∧ Cond.native arraycopyName ∈ wds ∧ Cond.static arraycopyName ∈ wds ∧ Cond.initialized "java/lang/System" ∈ wds) (hR : 1 ≤ R0.frames ∧ (st.map fun v => v.category).sum + (nativeFrameWords "java/lang/System" "arraycopy" 5 + 11) ≤ R0.locals) (hd : Nx M pc (.invokestatic index) 3 pc') (he0 : ws[q0]? = some (a0, .inl (g.2.1, n, .inl f))) (he1 : ws[q1]? = some (a, .inl (g.2.1, n, .inl h))) (hn : n < 2 ^ 31) (hws : ws.set q1 (a, .inl (g.2.1, n, .inl f)) = ws') (kk : V g E M A Q kc ks ws' pc' lv st) : V g E M A Q kc ks ws pc lv (.int (nI n) :: .int (nI 0) :: .ref a :: .int (nI 0) :: .ref a0 :: st) := by
  obtain ⟨hd, rfl⟩ := hd
  obtain ⟨hE, hER, -⟩ := X
  subst hE
  subst hER
  subst hws
  intro B ls H locs hl hP hD hS
  have z0 : (nI 0).toNatClampNeg = 0 := nI_clamp (by decide)
  have zn : (nI n).toNatClampNeg = n := nI_clamp hn
  refine va_copyi B.1 B.2.1 (B.2.2.1.trans hl.1.symm) B.2.2.2.1 (B.2.2.2.2.1 _ hw.1) (B.2.2.2.2.1 _ hw.2.1) (B.2.2.2.2.1 _ hw.2.2.1) (B.2.2.2.2.1 _ hw.2.2.2) B.2.2.2.2.2.2.2.1 hP hD hS q0 q1 0 0 he0 he1 rfl rfl rfl (nI_pos (by decide)) (nI_pos (by decide)) (nI_pos hn) (by rw [z0, zn]; omega) (by rw [z0, zn]; omega) (fun _ _ => rfl) hR.1 hR.2 hd (fun H1 locs1 hP hD hS => ?_)
  rw [z0, zn] at hP hD
  have hlt := (List.getElem?_eq_some_iff.mp he1).1
  have hP2 := P_arr (f' := f) hP (List.getElem?_set_self hlt) (fun j hj => by rw [pk_cpy_in (Nat.zero_le _) (by omega)]; congr 1; omega)
  rw [List.set_set] at hP2
  exact kk B ls H1 locs1 hl hP2 (va_D_addr hD (by rw [List.map_set, List.map_set])) hS
end VCall
end
section
/-! words of the tables by their places; the methods -/
theorem wd_1 {w : Cond} (i : Nat) (h : tables_1_1[i]? = some w) (q : goodWord w = true) : w ∈ wds := wd (List.mem_append_right _ (List.mem_append_left _ (List.mem_of_getElem? h))) q
theorem wd_2 {w : Cond} (i : Nat) (h : tables_1_2[i]? = some w) (q : goodWord w = true) : w ∈ wds := wd (List.mem_append_right _ (List.mem_append_right _ (List.mem_append_left _ (List.mem_of_getElem? h)))) q
theorem wd_3 {w : Cond} (i : Nat) (h : tables_1_3[i]? = some w) (q : goodWord w = true) : w ∈ wds := wd (List.mem_append_right _ (List.mem_append_right _ (List.mem_append_right _ (List.mem_append_left _ (List.mem_of_getElem? h))))) q
theorem wd_4 {w : Cond} (i : Nat) (h : tables_1_4[i]? = some w) (q : goodWord w = true) : w ∈ wds := wd (List.mem_append_right _ (List.mem_append_right _ (List.mem_append_right _ (List.mem_append_right _ (List.mem_of_getElem? h))))) q
theorem iX0 : ∀ w ∈ u_ws RX0 TX0 3, w ∈ wds := by
  have h : (u_ws RX0 TX0 3).all (fun w => decide (w ∈ lw_tbl) && goodWord w) = true := by decide +kernel
  intro w hw
  have h1 := List.all_eq_true.mp h w hw
  simp only [Bool.and_eq_true, decide_eq_true_eq] at h1
  exact wd h1.1 h1.2
theorem iX1 : ∀ w ∈ u_ws RX1 TX1 7, w ∈ wds := by
  have h : (u_ws RX1 TX1 7).all (fun w => decide (w ∈ lw_tbl) && goodWord w) = true := by decide +kernel
  intro w hw
  have h1 := List.all_eq_true.mp h w hw
  simp only [Bool.and_eq_true, decide_eq_true_eq] at h1
  exact wd h1.1 h1.2
theorem iX2 : ∀ w ∈ u_ws RX2 TX2 8, w ∈ wds := by
  have h : (u_ws RX2 TX2 8).all (fun w => decide (w ∈ lw_tbl) && goodWord w) = true := by decide +kernel
  intro w hw
  have h1 := List.all_eq_true.mp h w hw
  simp only [Bool.and_eq_true, decide_eq_true_eq] at h1
  exact wd h1.1 h1.2
theorem iX3 : ∀ w ∈ u_ws RX3 TX3 2, w ∈ wds := by
  have h : (u_ws RX3 TX3 2).all (fun w => decide (w ∈ lw_tbl) && goodWord w) = true := by decide +kernel
  intro w hw
  have h1 := List.all_eq_true.mp h w hw
  simp only [Bool.and_eq_true, decide_eq_true_eq] at h1
  exact wd h1.1 h1.2
theorem iX4 : ∀ w ∈ u_ws RX4 TX4 3, w ∈ wds := by
  have h : (u_ws RX4 TX4 3).all (fun w => decide (w ∈ lw_tbl) && goodWord w) = true := by decide +kernel
  intro w hw
  have h1 := List.all_eq_true.mp h w hw
  simp only [Bool.and_eq_true, decide_eq_true_eq] at h1
  exact wd h1.1 h1.2
theorem iX5 : ∀ w ∈ u_ws RX5 TX5 10, w ∈ wds := by
  have h : (u_ws RX5 TX5 10).all (fun w => decide (w ∈ lw_tbl) && goodWord w) = true := by decide +kernel
  intro w hw
  have h1 := List.all_eq_true.mp h w hw
  simp only [Bool.and_eq_true, decide_eq_true_eq] at h1
  exact wd h1.1 h1.2
theorem iX6 : ∀ w ∈ u_ws RX6 TX6 34, w ∈ wds := by
  have h : (u_ws RX6 TX6 34).all (fun w => decide (w ∈ lw_tbl) && goodWord w) = true := by decide +kernel
  intro w hw
  have h1 := List.all_eq_true.mp h w hw
  simp only [Bool.and_eq_true, decide_eq_true_eq] at h1
  exact wd h1.1 h1.2
theorem in_RL : Cond.initialized RL ∈ wds := wd_1 0 rfl rfl
theorem in_RX5 : Cond.initialized RX5 ∈ wds := wd_1 1 rfl rfl
theorem in_RX3 : Cond.initialized RX3 ∈ wds := wd_1 2 rfl rfl
theorem in_RX2 : Cond.initialized RX2 ∈ wds := wd_1 3 rfl rfl
theorem in_RX1 : Cond.initialized RX1 ∈ wds := wd_1 4 rfl rfl
theorem in_RX0 : Cond.initialized RX0 ∈ wds := wd_1 5 rfl rfl
theorem in_RX4 : Cond.initialized RX4 ∈ wds := wd_1 6 rfl rfl
theorem in_RX6 : Cond.initialized RX6 ∈ wds := wd_1 7 rfl rfl
theorem in_RJ10 : Cond.initialized "java/lang/System" ∈ wds := wd_1 8 rfl rfl
theorem in_RJ9 : Cond.initialized "java/lang/Math" ∈ wds := wd_1 9 rfl rfl
theorem in_RJ6 : Cond.initialized "java/lang/Integer" ∈ wds := wd_1 10 rfl rfl
theorem cl_RL_7 : Cond.classLink RL 7 RX5 ∈ wds := wd_1 11 rfl rfl
theorem ia_RX5 : Cond.instantiable RX5 10 ∈ wds := wd_1 12 rfl rfl
theorem cl_RX5_7 : Cond.classLink RX5 7 RX3 ∈ wds := wd_1 19 rfl rfl
theorem ia_RX3 : Cond.instantiable RX3 2 ∈ wds := wd_1 20 rfl rfl
theorem f_RX3_9 : Cond.fieldLink RX3 9 (TX3 0).1 (TX3 0).2.1 (TX3 0).2.2.1 ∈ wds := wd_1 25 rfl rfl
theorem f_RX2_42 : Cond.fieldLink RX2 42 (TX3 0).1 (TX3 0).2.1 (TX3 0).2.2.1 ∈ wds := wd_1 26 rfl rfl
theorem f_RX3_15 : Cond.fieldLink RX3 15 (TX3 1).1 (TX3 1).2.1 (TX3 1).2.2.1 ∈ wds := wd_1 27 rfl rfl
theorem f_RX2_37 : Cond.fieldLink RX2 37 (TX3 1).1 (TX3 1).2.1 (TX3 1).2.2.1 ∈ wds := wd_1 28 rfl rfl
theorem f_RX5_65 : Cond.fieldLink RX5 65 (TX3 1).1 (TX3 1).2.1 (TX3 1).2.2.1 ∈ wds := wd_1 29 rfl rfl
theorem cl_RX5_16 : Cond.classLink RX5 16 RX2 ∈ wds := wd_1 36 rfl rfl
theorem ia_RX2 : Cond.instantiable RX2 8 ∈ wds := wd_1 37 rfl rfl
theorem f_RX2_9 : Cond.fieldLink RX2 9 (TX2 0).1 (TX2 0).2.1 (TX2 0).2.2.1 ∈ wds := wd_1 42 rfl rfl
theorem f_RX5_120 : Cond.fieldLink RX5 120 (TX2 0).1 (TX2 0).2.1 (TX2 0).2.2.1 ∈ wds := wd_1 43 rfl rfl
theorem f_RX1_91 : Cond.fieldLink RX1 91 (TX2 0).1 (TX2 0).2.1 (TX2 0).2.2.1 ∈ wds := wd_1 44 rfl rfl
theorem f_RX2_15 : Cond.fieldLink RX2 15 (TX2 1).1 (TX2 1).2.1 (TX2 1).2.2.1 ∈ wds := wd_1 45 rfl rfl
theorem f_RX1_40 : Cond.fieldLink RX1 40 (TX2 1).1 (TX2 1).2.1 (TX2 1).2.2.1 ∈ wds := wd_1 46 rfl rfl
theorem f_RX5_123 : Cond.fieldLink RX5 123 (TX2 1).1 (TX2 1).2.1 (TX2 1).2.2.1 ∈ wds := wd_1 47 rfl rfl
theorem f_RX2_18 : Cond.fieldLink RX2 18 (TX2 2).1 (TX2 2).2.1 (TX2 2).2.2.1 ∈ wds := wd_1 48 rfl rfl
theorem f_RX5_126 : Cond.fieldLink RX5 126 (TX2 2).1 (TX2 2).2.1 (TX2 2).2.2.1 ∈ wds := wd_1 49 rfl rfl
theorem f_RX1_60 : Cond.fieldLink RX1 60 (TX2 2).1 (TX2 2).2.1 (TX2 2).2.2.1 ∈ wds := wd_1 50 rfl rfl
theorem f_RX2_21 : Cond.fieldLink RX2 21 (TX2 3).1 (TX2 3).2.1 (TX2 3).2.2.1 ∈ wds := wd_1 51 rfl rfl
theorem f_RX5_141 : Cond.fieldLink RX5 141 (TX2 3).1 (TX2 3).2.1 (TX2 3).2.2.1 ∈ wds := wd_1 52 rfl rfl
theorem f_RX1_85 : Cond.fieldLink RX1 85 (TX2 3).1 (TX2 3).2.1 (TX2 3).2.2.1 ∈ wds := wd_1 53 rfl rfl
theorem f_RX2_24 : Cond.fieldLink RX2 24 (TX2 4).1 (TX2 4).2.1 (TX2 4).2.2.1 ∈ wds := wd_1 54 rfl rfl
theorem f_RX5_144 : Cond.fieldLink RX5 144 (TX2 4).1 (TX2 4).2.1 (TX2 4).2.2.1 ∈ wds := wd_1 55 rfl rfl
theorem f_RX1_78 : Cond.fieldLink RX1 78 (TX2 4).1 (TX2 4).2.1 (TX2 4).2.2.1 ∈ wds := wd_1 56 rfl rfl
theorem f_RX2_27 : Cond.fieldLink RX2 27 (TX2 5).1 (TX2 5).2.1 (TX2 5).2.2.1 ∈ wds := wd_1 57 rfl rfl
theorem f_RX5_147 : Cond.fieldLink RX5 147 (TX2 5).1 (TX2 5).2.1 (TX2 5).2.2.1 ∈ wds := wd_1 58 rfl rfl
theorem f_RX1_67 : Cond.fieldLink RX1 67 (TX2 5).1 (TX2 5).2.1 (TX2 5).2.2.1 ∈ wds := wd_1 59 rfl rfl
theorem f_RX2_30 : Cond.fieldLink RX2 30 (TX2 6).1 (TX2 6).2.1 (TX2 6).2.2.1 ∈ wds := wd_1 60 rfl rfl
theorem f_RX1_35 : Cond.fieldLink RX1 35 (TX2 6).1 (TX2 6).2.1 (TX2 6).2.2.1 ∈ wds := wd_1 61 rfl rfl
theorem f_RX5_87 : Cond.fieldLink RX5 87 (TX2 6).1 (TX2 6).2.1 (TX2 6).2.2.1 ∈ wds := wd_1 62 rfl rfl
theorem f_RX2_34 : Cond.fieldLink RX2 34 (TX2 7).1 (TX2 7).2.1 (TX2 7).2.2.1 ∈ wds := wd_1 63 rfl rfl
theorem f_RX5_90 : Cond.fieldLink RX5 90 (TX2 7).1 (TX2 7).2.1 (TX2 7).2.2.1 ∈ wds := wd_1 64 rfl rfl
theorem f_RX1_53 : Cond.fieldLink RX1 53 (TX2 7).1 (TX2 7).2.1 (TX2 7).2.2.1 ∈ wds := wd_1 65 rfl rfl
theorem cl_RX5_23 : Cond.classLink RX5 23 RX1 ∈ wds := wd_1 83 rfl rfl
theorem ia_RX1 : Cond.instantiable RX1 7 ∈ wds := wd_1 84 rfl rfl
theorem f_RX1_9 : Cond.fieldLink RX1 9 (TX1 0).1 (TX1 0).2.1 (TX1 0).2.2.1 ∈ wds := wd_1 89 rfl rfl
theorem f_RX1_15 : Cond.fieldLink RX1 15 (TX1 1).1 (TX1 1).2.1 (TX1 1).2.2.1 ∈ wds := wd_1 90 rfl rfl
theorem f_RX5_129 : Cond.fieldLink RX5 129 (TX1 1).1 (TX1 1).2.1 (TX1 1).2.2.1 ∈ wds := wd_1 91 rfl rfl
theorem f_RX1_19 : Cond.fieldLink RX1 19 (TX1 2).1 (TX1 2).2.1 (TX1 2).2.2.1 ∈ wds := wd_1 92 rfl rfl
theorem f_RX5_132 : Cond.fieldLink RX5 132 (TX1 2).1 (TX1 2).2.1 (TX1 2).2.2.1 ∈ wds := wd_1 93 rfl rfl
theorem f_RX1_22 : Cond.fieldLink RX1 22 (TX1 3).1 (TX1 3).2.1 (TX1 3).2.2.1 ∈ wds := wd_1 94 rfl rfl
theorem f_RX1_25 : Cond.fieldLink RX1 25 (TX1 4).1 (TX1 4).2.1 (TX1 4).2.2.1 ∈ wds := wd_1 95 rfl rfl
theorem f_RX5_93 : Cond.fieldLink RX5 93 (TX1 4).1 (TX1 4).2.1 (TX1 4).2.2.1 ∈ wds := wd_1 96 rfl rfl
theorem f_RX1_29 : Cond.fieldLink RX1 29 (TX1 5).1 (TX1 5).2.1 (TX1 5).2.2.1 ∈ wds := wd_1 97 rfl rfl
theorem f_RX5_153 : Cond.fieldLink RX5 153 (TX1 5).1 (TX1 5).2.1 (TX1 5).2.2.1 ∈ wds := wd_1 98 rfl rfl
theorem f_RX1_32 : Cond.fieldLink RX1 32 (TX1 6).1 (TX1 6).2.1 (TX1 6).2.2.1 ∈ wds := wd_1 99 rfl rfl
theorem f_RX5_156 : Cond.fieldLink RX5 156 (TX1 6).1 (TX1 6).2.1 (TX1 6).2.2.1 ∈ wds := wd_1 100 rfl rfl
theorem cl_RX5_35 : Cond.classLink RX5 35 RX0 ∈ wds := wd_1 116 rfl rfl
theorem ia_RX0 : Cond.instantiable RX0 3 ∈ wds := wd_1 117 rfl rfl
theorem cl_RX0_9 : Cond.classLink RX0 9 RX1 ∈ wds := wd_1 122 rfl rfl
theorem f_RX0_11 : Cond.fieldLink RX0 11 (TX0 0).1 (TX0 0).2.1 (TX0 0).2.2.1 ∈ wds := wd_1 125 rfl rfl
theorem f_RX0_20 : Cond.fieldLink RX0 20 (TX0 1).1 (TX0 1).2.1 (TX0 1).2.2.1 ∈ wds := wd_1 126 rfl rfl
theorem f_RX0_24 : Cond.fieldLink RX0 24 (TX0 2).1 (TX0 2).2.1 (TX0 2).2.2.1 ∈ wds := wd_1 127 rfl rfl
theorem f_RX5_84 : Cond.fieldLink RX5 84 (TX0 2).1 (TX0 2).2.1 (TX0 2).2.2.1 ∈ wds := wd_1 128 rfl rfl
theorem cl_RX5_42 : Cond.classLink RX5 42 RX4 ∈ wds := wd_1 136 rfl rfl
theorem ia_RX4 : Cond.instantiable RX4 3 ∈ wds := wd_1 137 rfl rfl
theorem f_RX4_9 : Cond.fieldLink RX4 9 (TX4 0).1 (TX4 0).2.1 (TX4 0).2.2.1 ∈ wds := wd_1 142 rfl rfl
theorem f_RX4_15 : Cond.fieldLink RX4 15 (TX4 1).1 (TX4 1).2.1 (TX4 1).2.2.1 ∈ wds := wd_1 143 rfl rfl
theorem f_RX4_19 : Cond.fieldLink RX4 19 (TX4 2).1 (TX4 2).2.1 (TX4 2).2.2.1 ∈ wds := wd_1 144 rfl rfl
theorem f_RX5_115 : Cond.fieldLink RX5 115 (TX4 2).1 (TX4 2).2.1 (TX4 2).2.2.1 ∈ wds := wd_1 145 rfl rfl
theorem f_RX5_10 : Cond.fieldLink RX5 10 (TX5 0).1 (TX5 0).2.1 (TX5 0).2.2.1 ∈ wds := wd_1 154 rfl rfl
theorem f_RX5_19 : Cond.fieldLink RX5 19 (TX5 1).1 (TX5 1).2.1 (TX5 1).2.2.1 ∈ wds := wd_1 155 rfl rfl
theorem f_RX5_28 : Cond.fieldLink RX5 28 (TX5 2).1 (TX5 2).2.1 (TX5 2).2.2.1 ∈ wds := wd_1 156 rfl rfl
theorem f_RX5_32 : Cond.fieldLink RX5 32 (TX5 3).1 (TX5 3).2.1 (TX5 3).2.2.1 ∈ wds := wd_1 157 rfl rfl
theorem f_RX5_38 : Cond.fieldLink RX5 38 (TX5 4).1 (TX5 4).2.1 (TX5 4).2.2.1 ∈ wds := wd_1 158 rfl rfl
theorem f_RX5_45 : Cond.fieldLink RX5 45 (TX5 5).1 (TX5 5).2.1 (TX5 5).2.2.1 ∈ wds := wd_1 159 rfl rfl
theorem f_RX5_49 : Cond.fieldLink RX5 49 (TX5 6).1 (TX5 6).2.1 (TX5 6).2.2.1 ∈ wds := wd_1 160 rfl rfl
theorem f_RX5_53 : Cond.fieldLink RX5 53 (TX5 7).1 (TX5 7).2.1 (TX5 7).2.2.1 ∈ wds := wd_1 161 rfl rfl
theorem f_RX5_57 : Cond.fieldLink RX5 57 (TX5 8).1 (TX5 8).2.1 (TX5 8).2.2.1 ∈ wds := wd_1 162 rfl rfl
theorem f_RX5_61 : Cond.fieldLink RX5 61 (TX5 9).1 (TX5 9).2.1 (TX5 9).2.2.1 ∈ wds := wd_1 163 rfl rfl
theorem ct_RJ6_265 : Cond.constant RJ6 265 (1431655765) ∈ wds := wd_2 144 rfl rfl
theorem ct_RJ6_266 : Cond.constant RJ6 266 (858993459) ∈ wds := wd_2 145 rfl rfl
theorem ct_RJ6_267 : Cond.constant RJ6 267 (252645135) ∈ wds := wd_2 146 rfl rfl
theorem ct_RX5_202 : Cond.constantLong RX5 202 (1000) ∈ wds := wd_2 168 rfl rfl
theorem ct_RX5_233 : Cond.constantLong RX5 233 (10) ∈ wds := wd_2 223 rfl rfl
theorem ct_RX5_235 : Cond.constantLong RX5 235 (6364136223846793005) ∈ wds := wd_2 232 rfl rfl
theorem ct_RX5_237 : Cond.constantLong RX5 237 (1442695040888963407) ∈ wds := wd_2 233 rfl rfl
theorem ct_RX5_239 : Cond.constantLong RX5 239 (28) ∈ wds := wd_2 234 rfl rfl
theorem cl_RL_10 : Cond.classLink RL 10 RX6 ∈ wds := wd_3 7 rfl rfl
theorem ia_RX6 : Cond.instantiable RX6 34 ∈ wds := wd_3 8 rfl rfl
theorem f_RX6_68 : Cond.fieldLink RX6 68 (TX6 0).1 (TX6 0).2.1 (TX6 0).2.2.1 ∈ wds := wd_3 13 rfl rfl
theorem f_RX6_7 : Cond.fieldLink RX6 7 (TX6 1).1 (TX6 1).2.1 (TX6 1).2.2.1 ∈ wds := wd_3 14 rfl rfl
theorem f_RX6_84 : Cond.fieldLink RX6 84 (TX6 2).1 (TX6 2).2.1 (TX6 2).2.2.1 ∈ wds := wd_3 15 rfl rfl
theorem f_RX6_87 : Cond.fieldLink RX6 87 (TX6 3).1 (TX6 3).2.1 (TX6 3).2.2.1 ∈ wds := wd_3 16 rfl rfl
theorem f_RX6_72 : Cond.fieldLink RX6 72 (TX6 4).1 (TX6 4).2.1 (TX6 4).2.2.1 ∈ wds := wd_3 17 rfl rfl
theorem f_RX6_13 : Cond.fieldLink RX6 13 (TX6 5).1 (TX6 5).2.1 (TX6 5).2.2.1 ∈ wds := wd_3 18 rfl rfl
theorem f_RX6_16 : Cond.fieldLink RX6 16 (TX6 6).1 (TX6 6).2.1 (TX6 6).2.2.1 ∈ wds := wd_3 19 rfl rfl
theorem f_RX6_19 : Cond.fieldLink RX6 19 (TX6 7).1 (TX6 7).2.1 (TX6 7).2.2.1 ∈ wds := wd_3 20 rfl rfl
theorem f_RX6_79 : Cond.fieldLink RX6 79 (TX6 8).1 (TX6 8).2.1 (TX6 8).2.2.1 ∈ wds := wd_3 21 rfl rfl
theorem f_RX6_22 : Cond.fieldLink RX6 22 (TX6 9).1 (TX6 9).2.1 (TX6 9).2.2.1 ∈ wds := wd_3 22 rfl rfl
theorem f_RX6_25 : Cond.fieldLink RX6 25 (TX6 10).1 (TX6 10).2.1 (TX6 10).2.2.1 ∈ wds := wd_3 23 rfl rfl
theorem f_RX6_28 : Cond.fieldLink RX6 28 (TX6 11).1 (TX6 11).2.1 (TX6 11).2.2.1 ∈ wds := wd_3 24 rfl rfl
theorem f_RX6_94 : Cond.fieldLink RX6 94 (TX6 12).1 (TX6 12).2.1 (TX6 12).2.2.1 ∈ wds := wd_3 25 rfl rfl
theorem f_RX6_31 : Cond.fieldLink RX6 31 (TX6 13).1 (TX6 13).2.1 (TX6 13).2.2.1 ∈ wds := wd_3 26 rfl rfl
theorem f_RX6_97 : Cond.fieldLink RX6 97 (TX6 14).1 (TX6 14).2.1 (TX6 14).2.2.1 ∈ wds := wd_3 27 rfl rfl
theorem f_RX6_34 : Cond.fieldLink RX6 34 (TX6 15).1 (TX6 15).2.1 (TX6 15).2.2.1 ∈ wds := wd_3 28 rfl rfl
theorem f_RX6_37 : Cond.fieldLink RX6 37 (TX6 16).1 (TX6 16).2.1 (TX6 16).2.2.1 ∈ wds := wd_3 29 rfl rfl
theorem f_RX6_40 : Cond.fieldLink RX6 40 (TX6 17).1 (TX6 17).2.1 (TX6 17).2.2.1 ∈ wds := wd_3 30 rfl rfl
theorem f_RX6_43 : Cond.fieldLink RX6 43 (TX6 18).1 (TX6 18).2.1 (TX6 18).2.2.1 ∈ wds := wd_3 31 rfl rfl
theorem f_RX6_114 : Cond.fieldLink RX6 114 (TX6 19).1 (TX6 19).2.1 (TX6 19).2.2.1 ∈ wds := wd_3 32 rfl rfl
theorem f_RX6_46 : Cond.fieldLink RX6 46 (TX6 20).1 (TX6 20).2.1 (TX6 20).2.2.1 ∈ wds := wd_3 33 rfl rfl
theorem f_RX6_49 : Cond.fieldLink RX6 49 (TX6 21).1 (TX6 21).2.1 (TX6 21).2.2.1 ∈ wds := wd_3 34 rfl rfl
theorem f_RX6_164 : Cond.fieldLink RX6 164 (TX6 22).1 (TX6 22).2.1 (TX6 22).2.2.1 ∈ wds := wd_3 35 rfl rfl
theorem f_RX6_53 : Cond.fieldLink RX6 53 (TX6 23).1 (TX6 23).2.1 (TX6 23).2.2.1 ∈ wds := wd_3 36 rfl rfl
theorem f_RX6_56 : Cond.fieldLink RX6 56 (TX6 24).1 (TX6 24).2.1 (TX6 24).2.2.1 ∈ wds := wd_3 37 rfl rfl
theorem f_RX6_243 : Cond.fieldLink RX6 243 (TX6 25).1 (TX6 25).2.1 (TX6 25).2.2.1 ∈ wds := wd_3 38 rfl rfl
theorem f_RX6_124 : Cond.fieldLink RX6 124 (TX6 26).1 (TX6 26).2.1 (TX6 26).2.2.1 ∈ wds := wd_3 39 rfl rfl
theorem f_RX6_59 : Cond.fieldLink RX6 59 (TX6 27).1 (TX6 27).2.1 (TX6 27).2.2.1 ∈ wds := wd_3 40 rfl rfl
theorem f_RX6_226 : Cond.fieldLink RX6 226 (TX6 28).1 (TX6 28).2.1 (TX6 28).2.2.1 ∈ wds := wd_3 41 rfl rfl
theorem f_RX6_229 : Cond.fieldLink RX6 229 (TX6 29).1 (TX6 29).2.1 (TX6 29).2.2.1 ∈ wds := wd_3 42 rfl rfl
theorem f_RX6_232 : Cond.fieldLink RX6 232 (TX6 30).1 (TX6 30).2.1 (TX6 30).2.2.1 ∈ wds := wd_3 43 rfl rfl
theorem f_RX6_235 : Cond.fieldLink RX6 235 (TX6 31).1 (TX6 31).2.1 (TX6 31).2.2.1 ∈ wds := wd_3 44 rfl rfl
theorem f_RX6_62 : Cond.fieldLink RX6 62 (TX6 32).1 (TX6 32).2.1 (TX6 32).2.2.1 ∈ wds := wd_3 45 rfl rfl
theorem f_RX6_65 : Cond.fieldLink RX6 65 (TX6 33).1 (TX6 33).2.1 (TX6 33).2.2.1 ∈ wds := wd_3 46 rfl rfl
theorem ct_RX6_82 : Cond.constantLong RX6 82 (255) ∈ wds := wd_3 120 rfl rfl
theorem ct_RX6_194 : Cond.constantLong RX6 194 (9) ∈ wds := wd_4 34 rfl rfl
theorem ct_RX6_205 : Cond.constantLong RX6 205 (4) ∈ wds := wd_4 54 rfl rfl
theorem ct_RX6_207 : Cond.constantLong RX6 207 (1000) ∈ wds := wd_4 55 rfl rfl
theorem ct_RX6_238 : Cond.constantLong RX6 238 (10) ∈ wds := wd_4 100 rfl rfl
theorem ct_RX6_247 : Cond.constantLong RX6 247 (30) ∈ wds := wd_4 112 rfl rfl
theorem ct_RX6_249 : Cond.constantLong RX6 249 (6364136223846793005) ∈ wds := wd_4 113 rfl rfl
theorem ct_RX6_251 : Cond.constantLong RX6 251 (1442695040888963407) ∈ wds := wd_4 114 rfl rfl
theorem ct_RX6_253 : Cond.constantLong RX6 253 (28) ∈ wds := wd_4 115 rfl rfl
theorem ct_RL_81 : Cond.constantLong RL 81 (4294967295) ∈ wds := wd_4 124 rfl rfl
theorem ac_I : Cond.arrayClass .int ∈ wds := wd_1 35 rfl rfl
theorem ac_Z : Cond.arrayClass .boolean ∈ wds := wd_1 153 rfl rfl
abbrev mX5_init : MS := (cX5_init, 2, RX5, none)
theorem cd_X5_init : Cond.code yX5_init cX5_init 2 none ∈ wds := wd_1 15 rfl rfl
theorem hy_X5_init : yX5_init.cls = RX5 ∧ yX5_init.cls ≠ "java/lang/invoke/MethodHandle" ∧ yX5_init.cls ≠ "java/lang/invoke/VarHandle" ∧ (parseMethodDescriptor yX5_init.desc).map (fun d => d.parameters.length) = some 0 := ⟨rfl, by decide +kernel, by decide +kernel, by decide +kernel⟩
abbrev mX3_init : MS := (cX3_init, 1, RX3, none)
theorem cd_X3_init : Cond.code yX3_init cX3_init 1 none ∈ wds := wd_1 23 rfl rfl
theorem hy_X3_init : yX3_init.cls = RX3 ∧ yX3_init.cls ≠ "java/lang/invoke/MethodHandle" ∧ yX3_init.cls ≠ "java/lang/invoke/VarHandle" ∧ (parseMethodDescriptor yX3_init.desc).map (fun d => d.parameters.length) = some 0 := ⟨rfl, by decide +kernel, by decide +kernel, by decide +kernel⟩
abbrev mX2_init : MS := (cX2_init, 1, RX2, none)
theorem cd_X2_init : Cond.code yX2_init cX2_init 1 none ∈ wds := wd_1 40 rfl rfl
theorem hy_X2_init : yX2_init.cls = RX2 ∧ yX2_init.cls ≠ "java/lang/invoke/MethodHandle" ∧ yX2_init.cls ≠ "java/lang/invoke/VarHandle" ∧ (parseMethodDescriptor yX2_init.desc).map (fun d => d.parameters.length) = some 0 := ⟨rfl, by decide +kernel, by decide +kernel, by decide +kernel⟩
abbrev mX1_init : MS := (cX1_init, 2, RX1, none)
theorem cd_X1_init : Cond.code yX1_init cX1_init 2 none ∈ wds := wd_1 87 rfl rfl
theorem hy_X1_init : yX1_init.cls = RX1 ∧ yX1_init.cls ≠ "java/lang/invoke/MethodHandle" ∧ yX1_init.cls ≠ "java/lang/invoke/VarHandle" ∧ (parseMethodDescriptor yX1_init.desc).map (fun d => d.parameters.length) = some 1 := ⟨rfl, by decide +kernel, by decide +kernel, by decide +kernel⟩
abbrev mX0_init : MS := (cX0_init, 3, RX0, none)
theorem cd_X0_init : Cond.code yX0_init cX0_init 3 none ∈ wds := wd_1 120 rfl rfl
theorem hy_X0_init : yX0_init.cls = RX0 ∧ yX0_init.cls ≠ "java/lang/invoke/MethodHandle" ∧ yX0_init.cls ≠ "java/lang/invoke/VarHandle" ∧ (parseMethodDescriptor yX0_init.desc).map (fun d => d.parameters.length) = some 1 := ⟨rfl, by decide +kernel, by decide +kernel, by decide +kernel⟩
abbrev mX4_init : MS := (cX4_init, 1, RX4, none)
theorem cd_X4_init : Cond.code yX4_init cX4_init 1 none ∈ wds := wd_1 140 rfl rfl
theorem hy_X4_init : yX4_init.cls = RX4 ∧ yX4_init.cls ≠ "java/lang/invoke/MethodHandle" ∧ yX4_init.cls ≠ "java/lang/invoke/VarHandle" ∧ (parseMethodDescriptor yX4_init.desc).map (fun d => d.parameters.length) = some 0 := ⟨rfl, by decide +kernel, by decide +kernel, by decide +kernel⟩
abbrev mX5_write : MS := (cX5_write, 2, RX5, (some .int))
theorem cd_X5_write : Cond.code yX5_write cX5_write 2 (some .int) ∈ wds := wd_1 188 rfl rfl
theorem hy_X5_write : yX5_write.cls = RX5 ∧ yX5_write.cls ≠ "java/lang/invoke/MethodHandle" ∧ yX5_write.cls ≠ "java/lang/invoke/VarHandle" ∧ (parseMethodDescriptor yX5_write.desc).map (fun d => d.parameters.length) = some 1 := ⟨rfl, by decide +kernel, by decide +kernel, by decide +kernel⟩
abbrev mX3_append : MS := (cX3_append, 2, RX3, none)
theorem cd_X3_append : Cond.code yX3_append cX3_append 2 none ∈ wds := wd_1 192 rfl rfl
theorem hy_X3_append : yX3_append.cls = RX3 ∧ yX3_append.cls ≠ "java/lang/invoke/MethodHandle" ∧ yX3_append.cls ≠ "java/lang/invoke/VarHandle" ∧ (parseMethodDescriptor yX3_append.desc).map (fun d => d.parameters.length) = some 1 := ⟨rfl, by decide +kernel, by decide +kernel, by decide +kernel⟩
abbrev mX5_wipe : MS := (cX5_wipe, 2, RX5, (some .int))
theorem cd_X5_wipe : Cond.code yX5_wipe cX5_wipe 2 (some .int) ∈ wds := wd_1 196 rfl rfl
theorem hy_X5_wipe : yX5_wipe.cls = RX5 ∧ yX5_wipe.cls ≠ "java/lang/invoke/MethodHandle" ∧ yX5_wipe.cls ≠ "java/lang/invoke/VarHandle" ∧ (parseMethodDescriptor yX5_wipe.desc).map (fun d => d.parameters.length) = some 0 := ⟨rfl, by decide +kernel, by decide +kernel, by decide +kernel⟩
abbrev mX5_fault : MS := (cX5_fault, 1, RX5, (some .int))
theorem cd_X5_fault : Cond.code yX5_fault cX5_fault 1 (some .int) ∈ wds := wd_1 200 rfl rfl
theorem hy_X5_fault : yX5_fault.cls = RX5 ∧ yX5_fault.cls ≠ "java/lang/invoke/MethodHandle" ∧ yX5_fault.cls ≠ "java/lang/invoke/VarHandle" ∧ (parseMethodDescriptor yX5_fault.desc).map (fun d => d.parameters.length) = some 0 := ⟨rfl, by decide +kernel, by decide +kernel, by decide +kernel⟩
abbrev mX3_firstFault : MS := (cX3_firstFault, 6, RX3, (some .int))
theorem cd_X3_firstFault : Cond.code yX3_firstFault cX3_firstFault 6 (some .int) ∈ wds := wd_1 204 rfl rfl
theorem hy_X3_firstFault : yX3_firstFault.cls = RX3 ∧ yX3_firstFault.cls ≠ "java/lang/invoke/MethodHandle" ∧ yX3_firstFault.cls ≠ "java/lang/invoke/VarHandle" ∧ (parseMethodDescriptor yX3_firstFault.desc).map (fun d => d.parameters.length) = some 0 := ⟨rfl, by decide +kernel, by decide +kernel, by decide +kernel⟩
abbrev mX3_faultOfThing : MS := (cX3_faultOfThing, 7, RX3, (some .int))
theorem cd_X3_faultOfThing : Cond.code yX3_faultOfThing cX3_faultOfThing 7 (some .int) ∈ wds := wd_1 208 rfl rfl
theorem hy_X3_faultOfThing : yX3_faultOfThing.cls = RX3 ∧ yX3_faultOfThing.cls ≠ "java/lang/invoke/MethodHandle" ∧ yX3_faultOfThing.cls ≠ "java/lang/invoke/VarHandle" ∧ (parseMethodDescriptor yX3_faultOfThing.desc).map (fun d => d.parameters.length) = some 2 := ⟨rfl, by decide +kernel, by decide +kernel, by decide +kernel⟩
abbrev mX5_country : MS := (cX5_country, 2, RX5, (some .int))
theorem cd_X5_country : Cond.code yX5_country cX5_country 2 (some .int) ∈ wds := wd_1 212 rfl rfl
theorem hy_X5_country : yX5_country.cls = RX5 ∧ yX5_country.cls ≠ "java/lang/invoke/MethodHandle" ∧ yX5_country.cls ≠ "java/lang/invoke/VarHandle" ∧ (parseMethodDescriptor yX5_country.desc).map (fun d => d.parameters.length) = some 0 := ⟨rfl, by decide +kernel, by decide +kernel, by decide +kernel⟩
abbrev mX2_readFrom : MS := (cX2_readFrom, 3, RX2, none)
theorem cd_X2_readFrom : Cond.code yX2_readFrom cX2_readFrom 3 none ∈ wds := wd_1 216 rfl rfl
theorem hy_X2_readFrom : yX2_readFrom.cls = RX2 ∧ yX2_readFrom.cls ≠ "java/lang/invoke/MethodHandle" ∧ yX2_readFrom.cls ≠ "java/lang/invoke/VarHandle" ∧ (parseMethodDescriptor yX2_readFrom.desc).map (fun d => d.parameters.length) = some 1 := ⟨rfl, by decide +kernel, by decide +kernel, by decide +kernel⟩
abbrev mX2_addField : MS := (cX2_addField, 3, RX2, none)
theorem cd_X2_addField : Cond.code yX2_addField cX2_addField 3 none ∈ wds := wd_1 220 rfl rfl
theorem hy_X2_addField : yX2_addField.cls = RX2 ∧ yX2_addField.cls ≠ "java/lang/invoke/MethodHandle" ∧ yX2_addField.cls ≠ "java/lang/invoke/VarHandle" ∧ (parseMethodDescriptor yX2_addField.desc).map (fun d => d.parameters.length) = some 2 := ⟨rfl, by decide +kernel, by decide +kernel, by decide +kernel⟩
abbrev mX3_figure : MS := (cX3_figure, 2, RX3, (some .int))
theorem cd_X3_figure : Cond.code yX3_figure cX3_figure 2 (some .int) ∈ wds := wd_1 224 rfl rfl
theorem hy_X3_figure : yX3_figure.cls = RX3 ∧ yX3_figure.cls ≠ "java/lang/invoke/MethodHandle" ∧ yX3_figure.cls ≠ "java/lang/invoke/VarHandle" ∧ (parseMethodDescriptor yX3_figure.desc).map (fun d => d.parameters.length) = some 1 := ⟨rfl, by decide +kernel, by decide +kernel, by decide +kernel⟩
abbrev mX2_addEater : MS := (cX2_addEater, 3, RX2, none)
theorem cd_X2_addEater : Cond.code yX2_addEater cX2_addEater 3 none ∈ wds := wd_1 228 rfl rfl
theorem hy_X2_addEater : yX2_addEater.cls = RX2 ∧ yX2_addEater.cls ≠ "java/lang/invoke/MethodHandle" ∧ yX2_addEater.cls ≠ "java/lang/invoke/VarHandle" ∧ (parseMethodDescriptor yX2_addEater.desc).map (fun d => d.parameters.length) = some 2 := ⟨rfl, by decide +kernel, by decide +kernel, by decide +kernel⟩
abbrev mX1_beginAnew : MS := (cX1_beginAnew, 2, RX1, none)
theorem cd_X1_beginAnew : Cond.code yX1_beginAnew cX1_beginAnew 2 none ∈ wds := wd_1 232 rfl rfl
theorem hy_X1_beginAnew : yX1_beginAnew.cls = RX1 ∧ yX1_beginAnew.cls ≠ "java/lang/invoke/MethodHandle" ∧ yX1_beginAnew.cls ≠ "java/lang/invoke/VarHandle" ∧ (parseMethodDescriptor yX1_beginAnew.desc).map (fun d => d.parameters.length) = some 0 := ⟨rfl, by decide +kernel, by decide +kernel, by decide +kernel⟩
abbrev mX5_about : MS := (cX5_about, 2, RX5, (some .int))
theorem cd_X5_about : Cond.code yX5_about cX5_about 2 (some .int) ∈ wds := wd_1 236 rfl rfl
theorem hy_X5_about : yX5_about.cls = RX5 ∧ yX5_about.cls ≠ "java/lang/invoke/MethodHandle" ∧ yX5_about.cls ≠ "java/lang/invoke/VarHandle" ∧ (parseMethodDescriptor yX5_about.desc).map (fun d => d.parameters.length) = some 1 := ⟨rfl, by decide +kernel, by decide +kernel, by decide +kernel⟩
abbrev mX1_allLoaves : MS := (cX1_allLoaves, 3, RX1, (some .int))
theorem cd_X1_allLoaves : Cond.code yX1_allLoaves cX1_allLoaves 3 (some .int) ∈ wds := wd_2 0 rfl rfl
theorem hy_X1_allLoaves : yX1_allLoaves.cls = RX1 ∧ yX1_allLoaves.cls ≠ "java/lang/invoke/MethodHandle" ∧ yX1_allLoaves.cls ≠ "java/lang/invoke/VarHandle" ∧ (parseMethodDescriptor yX1_allLoaves.desc).map (fun d => d.parameters.length) = some 0 := ⟨rfl, by decide +kernel, by decide +kernel, by decide +kernel⟩
abbrev mX1_allSeed : MS := (cX1_allSeed, 3, RX1, (some .int))
theorem cd_X1_allSeed : Cond.code yX1_allSeed cX1_allSeed 3 (some .int) ∈ wds := wd_2 4 rfl rfl
theorem hy_X1_allSeed : yX1_allSeed.cls = RX1 ∧ yX1_allSeed.cls ≠ "java/lang/invoke/MethodHandle" ∧ yX1_allSeed.cls ≠ "java/lang/invoke/VarHandle" ∧ (parseMethodDescriptor yX1_allSeed.desc).map (fun d => d.parameters.length) = some 0 := ⟨rfl, by decide +kernel, by decide +kernel, by decide +kernel⟩
abbrev mX1_allDebts : MS := (cX1_allDebts, 3, RX1, (some .int))
theorem cd_X1_allDebts : Cond.code yX1_allDebts cX1_allDebts 3 (some .int) ∈ wds := wd_2 8 rfl rfl
theorem hy_X1_allDebts : yX1_allDebts.cls = RX1 ∧ yX1_allDebts.cls ≠ "java/lang/invoke/MethodHandle" ∧ yX1_allDebts.cls ≠ "java/lang/invoke/VarHandle" ∧ (parseMethodDescriptor yX1_allDebts.desc).map (fun d => d.parameters.length) = some 0 := ⟨rfl, by decide +kernel, by decide +kernel, by decide +kernel⟩
abbrev mX1_debtsOf : MS := (cX1_debtsOf, 4, RX1, (some .int))
theorem cd_X1_debtsOf : Cond.code yX1_debtsOf cX1_debtsOf 4 (some .int) ∈ wds := wd_2 12 rfl rfl
theorem hy_X1_debtsOf : yX1_debtsOf.cls = RX1 ∧ yX1_debtsOf.cls ≠ "java/lang/invoke/MethodHandle" ∧ yX1_debtsOf.cls ≠ "java/lang/invoke/VarHandle" ∧ (parseMethodDescriptor yX1_debtsOf.desc).map (fun d => d.parameters.length) = some 1 := ⟨rfl, by decide +kernel, by decide +kernel, by decide +kernel⟩
abbrev mX1_debt : MS := (cX1_debt, 3, RX1, (some .int))
theorem cd_X1_debt : Cond.code yX1_debt cX1_debt 3 (some .int) ∈ wds := wd_2 16 rfl rfl
theorem hy_X1_debt : yX1_debt.cls = RX1 ∧ yX1_debt.cls ≠ "java/lang/invoke/MethodHandle" ∧ yX1_debt.cls ≠ "java/lang/invoke/VarHandle" ∧ (parseMethodDescriptor yX1_debt.desc).map (fun d => d.parameters.length) = some 2 := ⟨rfl, by decide +kernel, by decide +kernel, by decide +kernel⟩
abbrev mX1_sownFields : MS := (cX1_sownFields, 3, RX1, (some .int))
theorem cd_X1_sownFields : Cond.code yX1_sownFields cX1_sownFields 3 (some .int) ∈ wds := wd_2 20 rfl rfl
theorem hy_X1_sownFields : yX1_sownFields.cls = RX1 ∧ yX1_sownFields.cls ≠ "java/lang/invoke/MethodHandle" ∧ yX1_sownFields.cls ≠ "java/lang/invoke/VarHandle" ∧ (parseMethodDescriptor yX1_sownFields.desc).map (fun d => d.parameters.length) = some 0 := ⟨rfl, by decide +kernel, by decide +kernel, by decide +kernel⟩
abbrev mX1_isSown : MS := (cX1_isSown, 2, RX1, (some .boolean))
theorem cd_X1_isSown : Cond.code yX1_isSown cX1_isSown 2 (some .boolean) ∈ wds := wd_2 24 rfl rfl
theorem hy_X1_isSown : yX1_isSown.cls = RX1 ∧ yX1_isSown.cls ≠ "java/lang/invoke/MethodHandle" ∧ yX1_isSown.cls ≠ "java/lang/invoke/VarHandle" ∧ (parseMethodDescriptor yX1_isSown.desc).map (fun d => d.parameters.length) = some 1 := ⟨rfl, by decide +kernel, by decide +kernel, by decide +kernel⟩
abbrev mX2_allEaters : MS := (cX2_allEaters, 1, RX2, (some .int))
theorem cd_X2_allEaters : Cond.code yX2_allEaters cX2_allEaters 1 (some .int) ∈ wds := wd_2 28 rfl rfl
theorem hy_X2_allEaters : yX2_allEaters.cls = RX2 ∧ yX2_allEaters.cls ≠ "java/lang/invoke/MethodHandle" ∧ yX2_allEaters.cls ≠ "java/lang/invoke/VarHandle" ∧ (parseMethodDescriptor yX2_allEaters.desc).map (fun d => d.parameters.length) = some 0 := ⟨rfl, by decide +kernel, by decide +kernel, by decide +kernel⟩
abbrev mX5_sownIfCome : MS := (cX5_sownIfCome, 2, RX5, (some .int))
theorem cd_X5_sownIfCome : Cond.code yX5_sownIfCome cX5_sownIfCome 2 (some .int) ∈ wds := wd_2 32 rfl rfl
theorem hy_X5_sownIfCome : yX5_sownIfCome.cls = RX5 ∧ yX5_sownIfCome.cls ≠ "java/lang/invoke/MethodHandle" ∧ yX5_sownIfCome.cls ≠ "java/lang/invoke/VarHandle" ∧ (parseMethodDescriptor yX5_sownIfCome.desc).map (fun d => d.parameters.length) = some 1 := ⟨rfl, by decide +kernel, by decide +kernel, by decide +kernel⟩
abbrev mX1_copyFrom : MS := (cX1_copyFrom, 2, RX1, none)
theorem cd_X1_copyFrom : Cond.code yX1_copyFrom cX1_copyFrom 2 none ∈ wds := wd_2 36 rfl rfl
theorem hy_X1_copyFrom : yX1_copyFrom.cls = RX1 ∧ yX1_copyFrom.cls ≠ "java/lang/invoke/MethodHandle" ∧ yX1_copyFrom.cls ≠ "java/lang/invoke/VarHandle" ∧ (parseMethodDescriptor yX1_copyFrom.desc).map (fun d => d.parameters.length) = some 1 := ⟨rfl, by decide +kernel, by decide +kernel, by decide +kernel⟩
abbrev mX1_callOut : MS := (cX1_callOut, 3, RX1, none)
theorem cd_X1_callOut : Cond.code yX1_callOut cX1_callOut 3 none ∈ wds := wd_2 43 rfl rfl
theorem hy_X1_callOut : yX1_callOut.cls = RX1 ∧ yX1_callOut.cls ≠ "java/lang/invoke/MethodHandle" ∧ yX1_callOut.cls ≠ "java/lang/invoke/VarHandle" ∧ (parseMethodDescriptor yX1_callOut.desc).map (fun d => d.parameters.length) = some 1 := ⟨rfl, by decide +kernel, by decide +kernel, by decide +kernel⟩
abbrev mX1_sendOut : MS := (cX1_sendOut, 7, RX1, none)
theorem cd_X1_sendOut : Cond.code yX1_sendOut cX1_sendOut 7 none ∈ wds := wd_2 47 rfl rfl
theorem hy_X1_sendOut : yX1_sendOut.cls = RX1 ∧ yX1_sendOut.cls ≠ "java/lang/invoke/MethodHandle" ∧ yX1_sendOut.cls ≠ "java/lang/invoke/VarHandle" ∧ (parseMethodDescriptor yX1_sendOut.desc).map (fun d => d.parameters.length) = some 2 := ⟨rfl, by decide +kernel, by decide +kernel, by decide +kernel⟩
abbrev mX1_nearestOwed : MS := (cX1_nearestOwed, 7, RX1, (some .int))
theorem cd_X1_nearestOwed : Cond.code yX1_nearestOwed cX1_nearestOwed 7 (some .int) ∈ wds := wd_2 51 rfl rfl
theorem hy_X1_nearestOwed : yX1_nearestOwed.cls = RX1 ∧ yX1_nearestOwed.cls ≠ "java/lang/invoke/MethodHandle" ∧ yX1_nearestOwed.cls ≠ "java/lang/invoke/VarHandle" ∧ (parseMethodDescriptor yX1_nearestOwed.desc).map (fun d => d.parameters.length) = some 2 := ⟨rfl, by decide +kernel, by decide +kernel, by decide +kernel⟩
abbrev mX1_bringSeed : MS := (cX1_bringSeed, 3, RX1, none)
theorem cd_X1_bringSeed : Cond.code yX1_bringSeed cX1_bringSeed 3 none ∈ wds := wd_2 58 rfl rfl
theorem hy_X1_bringSeed : yX1_bringSeed.cls = RX1 ∧ yX1_bringSeed.cls ≠ "java/lang/invoke/MethodHandle" ∧ yX1_bringSeed.cls ≠ "java/lang/invoke/VarHandle" ∧ (parseMethodDescriptor yX1_bringSeed.desc).map (fun d => d.parameters.length) = some 2 := ⟨rfl, by decide +kernel, by decide +kernel, by decide +kernel⟩
abbrev mX5_field : MS := (cX5_field, 3, RX5, (some .int))
theorem cd_X5_field : Cond.code yX5_field cX5_field 3 (some .int) ∈ wds := wd_2 65 rfl rfl
theorem hy_X5_field : yX5_field.cls = RX5 ∧ yX5_field.cls ≠ "java/lang/invoke/MethodHandle" ∧ yX5_field.cls ≠ "java/lang/invoke/VarHandle" ∧ (parseMethodDescriptor yX5_field.desc).map (fun d => d.parameters.length) = some 2 := ⟨rfl, by decide +kernel, by decide +kernel, by decide +kernel⟩
abbrev mX2_hasField : MS := (cX2_hasField, 2, RX2, (some .boolean))
theorem cd_X2_hasField : Cond.code yX2_hasField cX2_hasField 2 (some .boolean) ∈ wds := wd_2 69 rfl rfl
theorem hy_X2_hasField : yX2_hasField.cls = RX2 ∧ yX2_hasField.cls ≠ "java/lang/invoke/MethodHandle" ∧ yX2_hasField.cls ≠ "java/lang/invoke/VarHandle" ∧ (parseMethodDescriptor yX2_hasField.desc).map (fun d => d.parameters.length) = some 1 := ⟨rfl, by decide +kernel, by decide +kernel, by decide +kernel⟩
abbrev mX1_debtorsOf : MS := (cX1_debtorsOf, 4, RX1, (some .int))
theorem cd_X1_debtorsOf : Cond.code yX1_debtorsOf cX1_debtorsOf 4 (some .int) ∈ wds := wd_2 73 rfl rfl
theorem hy_X1_debtorsOf : yX1_debtorsOf.cls = RX1 ∧ yX1_debtorsOf.cls ≠ "java/lang/invoke/MethodHandle" ∧ yX1_debtorsOf.cls ≠ "java/lang/invoke/VarHandle" ∧ (parseMethodDescriptor yX1_debtorsOf.desc).map (fun d => d.parameters.length) = some 1 := ⟨rfl, by decide +kernel, by decide +kernel, by decide +kernel⟩
abbrev mX5_eater : MS := (cX5_eater, 3, RX5, (some .int))
theorem cd_X5_eater : Cond.code yX5_eater cX5_eater 3 (some .int) ∈ wds := wd_2 77 rfl rfl
theorem hy_X5_eater : yX5_eater.cls = RX5 ∧ yX5_eater.cls ≠ "java/lang/invoke/MethodHandle" ∧ yX5_eater.cls ≠ "java/lang/invoke/VarHandle" ∧ (parseMethodDescriptor yX5_eater.desc).map (fun d => d.parameters.length) = some 2 := ⟨rfl, by decide +kernel, by decide +kernel, by decide +kernel⟩
abbrev mX2_hasEater : MS := (cX2_hasEater, 2, RX2, (some .boolean))
theorem cd_X2_hasEater : Cond.code yX2_hasEater cX2_hasEater 2 (some .boolean) ∈ wds := wd_2 81 rfl rfl
theorem hy_X2_hasEater : yX2_hasEater.cls = RX2 ∧ yX2_hasEater.cls ≠ "java/lang/invoke/MethodHandle" ∧ yX2_hasEater.cls ≠ "java/lang/invoke/VarHandle" ∧ (parseMethodDescriptor yX2_hasEater.desc).map (fun d => d.parameters.length) = some 1 := ⟨rfl, by decide +kernel, by decide +kernel, by decide +kernel⟩
abbrev mX5_owes : MS := (cX5_owes, 3, RX5, (some .int))
theorem cd_X5_owes : Cond.code yX5_owes cX5_owes 3 (some .int) ∈ wds := wd_2 86 rfl rfl
theorem hy_X5_owes : yX5_owes.cls = RX5 ∧ yX5_owes.cls ≠ "java/lang/invoke/MethodHandle" ∧ yX5_owes.cls ≠ "java/lang/invoke/VarHandle" ∧ (parseMethodDescriptor yX5_owes.desc).map (fun d => d.parameters.length) = some 2 := ⟨rfl, by decide +kernel, by decide +kernel, by decide +kernel⟩
abbrev mX5_eat : MS := (cX5_eat, 3, RX5, (some .int))
theorem cd_X5_eat : Cond.code yX5_eat cX5_eat 3 (some .int) ∈ wds := wd_2 91 rfl rfl
theorem hy_X5_eat : yX5_eat.cls = RX5 ∧ yX5_eat.cls ≠ "java/lang/invoke/MethodHandle" ∧ yX5_eat.cls ≠ "java/lang/invoke/VarHandle" ∧ (parseMethodDescriptor yX5_eat.desc).map (fun d => d.parameters.length) = some 2 := ⟨rfl, by decide +kernel, by decide +kernel, by decide +kernel⟩
abbrev mX1_canTake : MS := (cX1_canTake, 4, RX1, (some .boolean))
theorem cd_X1_canTake : Cond.code yX1_canTake cX1_canTake 4 (some .boolean) ∈ wds := wd_2 95 rfl rfl
theorem hy_X1_canTake : yX1_canTake.cls = RX1 ∧ yX1_canTake.cls ≠ "java/lang/invoke/MethodHandle" ∧ yX1_canTake.cls ≠ "java/lang/invoke/VarHandle" ∧ (parseMethodDescriptor yX1_canTake.desc).map (fun d => d.parameters.length) = some 2 := ⟨rfl, by decide +kernel, by decide +kernel, by decide +kernel⟩
abbrev mX2_portionOf : MS := (cX2_portionOf, 2, RX2, (some .int))
theorem cd_X2_portionOf : Cond.code yX2_portionOf cX2_portionOf 2 (some .int) ∈ wds := wd_2 99 rfl rfl
theorem hy_X2_portionOf : yX2_portionOf.cls = RX2 ∧ yX2_portionOf.cls ≠ "java/lang/invoke/MethodHandle" ∧ yX2_portionOf.cls ≠ "java/lang/invoke/VarHandle" ∧ (parseMethodDescriptor yX2_portionOf.desc).map (fun d => d.parameters.length) = some 1 := ⟨rfl, by decide +kernel, by decide +kernel, by decide +kernel⟩
abbrev mX0_remember : MS := (cX0_remember, 2, RX0, none)
theorem cd_X0_remember : Cond.code yX0_remember cX0_remember 2 none ∈ wds := wd_2 103 rfl rfl
theorem hy_X0_remember : yX0_remember.cls = RX0 ∧ yX0_remember.cls ≠ "java/lang/invoke/MethodHandle" ∧ yX0_remember.cls ≠ "java/lang/invoke/VarHandle" ∧ (parseMethodDescriptor yX0_remember.desc).map (fun d => d.parameters.length) = some 1 := ⟨rfl, by decide +kernel, by decide +kernel, by decide +kernel⟩
abbrev mX1_takeLoaves : MS := (cX1_takeLoaves, 4, RX1, none)
theorem cd_X1_takeLoaves : Cond.code yX1_takeLoaves cX1_takeLoaves 4 none ∈ wds := wd_2 108 rfl rfl
theorem hy_X1_takeLoaves : yX1_takeLoaves.cls = RX1 ∧ yX1_takeLoaves.cls ≠ "java/lang/invoke/MethodHandle" ∧ yX1_takeLoaves.cls ≠ "java/lang/invoke/VarHandle" ∧ (parseMethodDescriptor yX1_takeLoaves.desc).map (fun d => d.parameters.length) = some 2 := ⟨rfl, by decide +kernel, by decide +kernel, by decide +kernel⟩
abbrev mX5_cake : MS := (cX5_cake, 4, RX5, (some .int))
theorem cd_X5_cake : Cond.code yX5_cake cX5_cake 4 (some .int) ∈ wds := wd_2 112 rfl rfl
theorem hy_X5_cake : yX5_cake.cls = RX5 ∧ yX5_cake.cls ≠ "java/lang/invoke/MethodHandle" ∧ yX5_cake.cls ≠ "java/lang/invoke/VarHandle" ∧ (parseMethodDescriptor yX5_cake.desc).map (fun d => d.parameters.length) = some 3 := ⟨rfl, by decide +kernel, by decide +kernel, by decide +kernel⟩
abbrev mX5_march : MS := (cX5_march, 1, RX5, (some .int))
theorem cd_X5_march : Cond.code yX5_march cX5_march 1 (some .int) ∈ wds := wd_2 116 rfl rfl
theorem hy_X5_march : yX5_march.cls = RX5 ∧ yX5_march.cls ≠ "java/lang/invoke/MethodHandle" ∧ yX5_march.cls ≠ "java/lang/invoke/VarHandle" ∧ (parseMethodDescriptor yX5_march.desc).map (fun d => d.parameters.length) = some 0 := ⟨rfl, by decide +kernel, by decide +kernel, by decide +kernel⟩
abbrev mX5_harvest : MS := (cX5_harvest, 1, RX5, (some .int))
theorem cd_X5_harvest : Cond.code yX5_harvest cX5_harvest 1 (some .int) ∈ wds := wd_2 120 rfl rfl
theorem hy_X5_harvest : yX5_harvest.cls = RX5 ∧ yX5_harvest.cls ≠ "java/lang/invoke/MethodHandle" ∧ yX5_harvest.cls ≠ "java/lang/invoke/VarHandle" ∧ (parseMethodDescriptor yX5_harvest.desc).map (fun d => d.parameters.length) = some 0 := ⟨rfl, by decide +kernel, by decide +kernel, by decide +kernel⟩
abbrev mX1_reap : MS := (cX1_reap, 2, RX1, none)
theorem cd_X1_reap : Cond.code yX1_reap cX1_reap 2 none ∈ wds := wd_2 124 rfl rfl
theorem hy_X1_reap : yX1_reap.cls = RX1 ∧ yX1_reap.cls ≠ "java/lang/invoke/MethodHandle" ∧ yX1_reap.cls ≠ "java/lang/invoke/VarHandle" ∧ (parseMethodDescriptor yX1_reap.desc).map (fun d => d.parameters.length) = some 0 := ⟨rfl, by decide +kernel, by decide +kernel, by decide +kernel⟩
abbrev mX5_undo : MS := (cX5_undo, 1, RX5, (some .int))
theorem cd_X5_undo : Cond.code yX5_undo cX5_undo 1 (some .int) ∈ wds := wd_2 128 rfl rfl
theorem hy_X5_undo : yX5_undo.cls = RX5 ∧ yX5_undo.cls ≠ "java/lang/invoke/MethodHandle" ∧ yX5_undo.cls ≠ "java/lang/invoke/VarHandle" ∧ (parseMethodDescriptor yX5_undo.desc).map (fun d => d.parameters.length) = some 0 := ⟨rfl, by decide +kernel, by decide +kernel, by decide +kernel⟩
abbrev mX0_takeBackInto : MS := (cX0_takeBackInto, 2, RX0, none)
theorem cd_X0_takeBackInto : Cond.code yX0_takeBackInto cX0_takeBackInto 2 none ∈ wds := wd_2 132 rfl rfl
theorem hy_X0_takeBackInto : yX0_takeBackInto.cls = RX0 ∧ yX0_takeBackInto.cls ≠ "java/lang/invoke/MethodHandle" ∧ yX0_takeBackInto.cls ≠ "java/lang/invoke/VarHandle" ∧ (parseMethodDescriptor yX0_takeBackInto.desc).map (fun d => d.parameters.length) = some 1 := ⟨rfl, by decide +kernel, by decide +kernel, by decide +kernel⟩
abbrev mX5_ahead : MS := (cX5_ahead, 4, RX5, (some .int))
theorem cd_X5_ahead : Cond.code yX5_ahead cX5_ahead 4 (some .int) ∈ wds := wd_2 136 rfl rfl
theorem hy_X5_ahead : yX5_ahead.cls = RX5 ∧ yX5_ahead.cls ≠ "java/lang/invoke/MethodHandle" ∧ yX5_ahead.cls ≠ "java/lang/invoke/VarHandle" ∧ (parseMethodDescriptor yX5_ahead.desc).map (fun d => d.parameters.length) = some 2 := ⟨rfl, by decide +kernel, by decide +kernel, by decide +kernel⟩
abbrev mX5_wants : MS := (cX5_wants, 5, RX5, (some .int))
theorem cd_X5_wants : Cond.code yX5_wants cX5_wants 5 (some .int) ∈ wds := wd_2 140 rfl rfl
theorem hy_X5_wants : yX5_wants.cls = RX5 ∧ yX5_wants.cls ≠ "java/lang/invoke/MethodHandle" ∧ yX5_wants.cls ≠ "java/lang/invoke/VarHandle" ∧ (parseMethodDescriptor yX5_wants.desc).map (fun d => d.parameters.length) = some 1 := ⟨rfl, by decide +kernel, by decide +kernel, by decide +kernel⟩
abbrev mJ6_bitCount_0f7a4 : MS := (cJ6_bitCount_0f7a4, 1, RJ6, (some .int))
theorem cd_J6_bitCount_0f7a4 : Cond.code yJ6_bitCount_0f7a4 cJ6_bitCount_0f7a4 1 (some .int) ∈ wds := wd_2 143 rfl rfl
theorem hy_J6_bitCount_0f7a4 : yJ6_bitCount_0f7a4.cls = RJ6 ∧ yJ6_bitCount_0f7a4.cls ≠ "java/lang/invoke/MethodHandle" ∧ yJ6_bitCount_0f7a4.cls ≠ "java/lang/invoke/VarHandle" ∧ (parseMethodDescriptor yJ6_bitCount_0f7a4.desc).map (fun d => d.parameters.length) = some 1 := ⟨rfl, by decide +kernel, by decide +kernel, by decide +kernel⟩
abbrev mX5_isSownIfFed : MS := (cX5_isSownIfFed, 4, RX5, (some .boolean))
theorem cd_X5_isSownIfFed : Cond.code yX5_isSownIfFed cX5_isSownIfFed 4 (some .boolean) ∈ wds := wd_2 150 rfl rfl
theorem hy_X5_isSownIfFed : yX5_isSownIfFed.cls = RX5 ∧ yX5_isSownIfFed.cls ≠ "java/lang/invoke/MethodHandle" ∧ yX5_isSownIfFed.cls ≠ "java/lang/invoke/VarHandle" ∧ (parseMethodDescriptor yX5_isSownIfFed.desc).map (fun d => d.parameters.length) = some 2 := ⟨rfl, by decide +kernel, by decide +kernel, by decide +kernel⟩
abbrev mX5_tryToTake : MS := (cX5_tryToTake, 3, RX5, (some .boolean))
theorem cd_X5_tryToTake : Cond.code yX5_tryToTake cX5_tryToTake 3 (some .boolean) ∈ wds := wd_2 154 rfl rfl
theorem hy_X5_tryToTake : yX5_tryToTake.cls = RX5 ∧ yX5_tryToTake.cls ≠ "java/lang/invoke/MethodHandle" ∧ yX5_tryToTake.cls ≠ "java/lang/invoke/VarHandle" ∧ (parseMethodDescriptor yX5_tryToTake.desc).map (fun d => d.parameters.length) = some 2 := ⟨rfl, by decide +kernel, by decide +kernel, by decide +kernel⟩
abbrev mX5_rid : MS := (cX5_rid, 2, RX5, (some .int))
theorem cd_X5_rid : Cond.code yX5_rid cX5_rid 2 (some .int) ∈ wds := wd_2 159 rfl rfl
theorem hy_X5_rid : yX5_rid.cls = RX5 ∧ yX5_rid.cls ≠ "java/lang/invoke/MethodHandle" ∧ yX5_rid.cls ≠ "java/lang/invoke/VarHandle" ∧ (parseMethodDescriptor yX5_rid.desc).map (fun d => d.parameters.length) = some 1 := ⟨rfl, by decide +kernel, by decide +kernel, by decide +kernel⟩
abbrev mX5_judge : MS := (cX5_judge, 6, RX5, (some .int))
theorem cd_X5_judge : Cond.code yX5_judge cX5_judge 6 (some .int) ∈ wds := wd_2 164 rfl rfl
theorem hy_X5_judge : yX5_judge.cls = RX5 ∧ yX5_judge.cls ≠ "java/lang/invoke/MethodHandle" ∧ yX5_judge.cls ≠ "java/lang/invoke/VarHandle" ∧ (parseMethodDescriptor yX5_judge.desc).map (fun d => d.parameters.length) = some 2 := ⟨rfl, by decide +kernel, by decide +kernel, by decide +kernel⟩
abbrev mX5_withoutLast : MS := (cX5_withoutLast, 6, RX5, (some .long))
theorem cd_X5_withoutLast : Cond.code yX5_withoutLast cX5_withoutLast 6 (some .long) ∈ wds := wd_2 167 rfl rfl
theorem hy_X5_withoutLast : yX5_withoutLast.cls = RX5 ∧ yX5_withoutLast.cls ≠ "java/lang/invoke/MethodHandle" ∧ yX5_withoutLast.cls ≠ "java/lang/invoke/VarHandle" ∧ (parseMethodDescriptor yX5_withoutLast.desc).map (fun d => d.parameters.length) = some 2 := ⟨rfl, by decide +kernel, by decide +kernel, by decide +kernel⟩
abbrev mX5_isSo : MS := (cX5_isSo, 4, RX5, (some .boolean))
theorem cd_X5_isSo : Cond.code yX5_isSo cX5_isSo 4 (some .boolean) ∈ wds := wd_2 172 rfl rfl
theorem hy_X5_isSo : yX5_isSo.cls = RX5 ∧ yX5_isSo.cls ≠ "java/lang/invoke/MethodHandle" ∧ yX5_isSo.cls ≠ "java/lang/invoke/VarHandle" ∧ (parseMethodDescriptor yX5_isSo.desc).map (fun d => d.parameters.length) = some 3 := ⟨rfl, by decide +kernel, by decide +kernel, by decide +kernel⟩
abbrev mX5_share : MS := (cX5_share, 8, RX5, (some .int))
theorem cd_X5_share : Cond.code yX5_share cX5_share 8 (some .int) ∈ wds := wd_2 176 rfl rfl
theorem hy_X5_share : yX5_share.cls = RX5 ∧ yX5_share.cls ≠ "java/lang/invoke/MethodHandle" ∧ yX5_share.cls ≠ "java/lang/invoke/VarHandle" ∧ (parseMethodDescriptor yX5_share.desc).map (fun d => d.parameters.length) = some 2 := ⟨rfl, by decide +kernel, by decide +kernel, by decide +kernel⟩
abbrev mX5_ordersOf : MS := (cX5_ordersOf, 4, RX5, (some .long))
theorem cd_X5_ordersOf : Cond.code yX5_ordersOf cX5_ordersOf 4 (some .long) ∈ wds := wd_2 179 rfl rfl
theorem hy_X5_ordersOf : yX5_ordersOf.cls = RX5 ∧ yX5_ordersOf.cls ≠ "java/lang/invoke/MethodHandle" ∧ yX5_ordersOf.cls ≠ "java/lang/invoke/VarHandle" ∧ (parseMethodDescriptor yX5_ordersOf.desc).map (fun d => d.parameters.length) = some 1 := ⟨rfl, by decide +kernel, by decide +kernel, by decide +kernel⟩
abbrev mX5_partOfFraction : MS := (cX5_partOfFraction, 12, RX5, (some .int))
theorem cd_X5_partOfFraction : Cond.code yX5_partOfFraction cX5_partOfFraction 12 (some .int) ∈ wds := wd_2 182 rfl rfl
theorem hy_X5_partOfFraction : yX5_partOfFraction.cls = RX5 ∧ yX5_partOfFraction.cls ≠ "java/lang/invoke/MethodHandle" ∧ yX5_partOfFraction.cls ≠ "java/lang/invoke/VarHandle" ∧ (parseMethodDescriptor yX5_partOfFraction.desc).map (fun d => d.parameters.length) = some 3 := ⟨rfl, by decide +kernel, by decide +kernel, by decide +kernel⟩
abbrev mX5_came : MS := (cX5_came, 3, RX5, (some .int))
theorem cd_X5_came : Cond.code yX5_came cX5_came 3 (some .int) ∈ wds := wd_2 186 rfl rfl
theorem hy_X5_came : yX5_came.cls = RX5 ∧ yX5_came.cls ≠ "java/lang/invoke/MethodHandle" ∧ yX5_came.cls ≠ "java/lang/invoke/VarHandle" ∧ (parseMethodDescriptor yX5_came.desc).map (fun d => d.parameters.length) = some 2 := ⟨rfl, by decide +kernel, by decide +kernel, by decide +kernel⟩
abbrev mX4_add : MS := (cX4_add, 3, RX4, none)
theorem cd_X4_add : Cond.code yX4_add cX4_add 3 none ∈ wds := wd_2 190 rfl rfl
theorem hy_X4_add : yX4_add.cls = RX4 ∧ yX4_add.cls ≠ "java/lang/invoke/MethodHandle" ∧ yX4_add.cls ≠ "java/lang/invoke/VarHandle" ∧ (parseMethodDescriptor yX4_add.desc).map (fun d => d.parameters.length) = some 2 := ⟨rfl, by decide +kernel, by decide +kernel, by decide +kernel⟩
abbrev mX5_forget : MS := (cX5_forget, 2, RX5, (some .int))
theorem cd_X5_forget : Cond.code yX5_forget cX5_forget 2 (some .int) ∈ wds := wd_2 194 rfl rfl
theorem hy_X5_forget : yX5_forget.cls = RX5 ∧ yX5_forget.cls ≠ "java/lang/invoke/MethodHandle" ∧ yX5_forget.cls ≠ "java/lang/invoke/VarHandle" ∧ (parseMethodDescriptor yX5_forget.desc).map (fun d => d.parameters.length) = some 0 := ⟨rfl, by decide +kernel, by decide +kernel, by decide +kernel⟩
abbrev mX5_strangers : MS := (cX5_strangers, 5, RX5, (some .int))
theorem cd_X5_strangers : Cond.code yX5_strangers cX5_strangers 5 (some .int) ∈ wds := wd_2 198 rfl rfl
theorem hy_X5_strangers : yX5_strangers.cls = RX5 ∧ yX5_strangers.cls ≠ "java/lang/invoke/MethodHandle" ∧ yX5_strangers.cls ≠ "java/lang/invoke/VarHandle" ∧ (parseMethodDescriptor yX5_strangers.desc).map (fun d => d.parameters.length) = some 1 := ⟨rfl, by decide +kernel, by decide +kernel, by decide +kernel⟩
abbrev mX4_allowFor : MS := (cX4_allowFor, 5, RX4, (some .boolean))
theorem cd_X4_allowFor : Cond.code yX4_allowFor cX4_allowFor 5 (some .boolean) ∈ wds := wd_2 202 rfl rfl
theorem hy_X4_allowFor : yX4_allowFor.cls = RX4 ∧ yX4_allowFor.cls ≠ "java/lang/invoke/MethodHandle" ∧ yX4_allowFor.cls ≠ "java/lang/invoke/VarHandle" ∧ (parseMethodDescriptor yX4_allowFor.desc).map (fun d => d.parameters.length) = some 2 := ⟨rfl, by decide +kernel, by decide +kernel, by decide +kernel⟩
abbrev mX5_rests : MS := (cX5_rests, 8, RX5, (some .int))
theorem cd_X5_rests : Cond.code yX5_rests cX5_rests 8 (some .int) ∈ wds := wd_2 207 rfl rfl
theorem hy_X5_rests : yX5_rests.cls = RX5 ∧ yX5_rests.cls ≠ "java/lang/invoke/MethodHandle" ∧ yX5_rests.cls ≠ "java/lang/invoke/VarHandle" ∧ (parseMethodDescriptor yX5_rests.desc).map (fun d => d.parameters.length) = some 4 := ⟨rfl, by decide +kernel, by decide +kernel, by decide +kernel⟩
abbrev mX5_playPair : MS := (cX5_playPair, 8, RX5, none)
theorem cd_X5_playPair : Cond.code yX5_playPair cX5_playPair 8 none ∈ wds := wd_2 211 rfl rfl
theorem hy_X5_playPair : yX5_playPair.cls = RX5 ∧ yX5_playPair.cls ≠ "java/lang/invoke/MethodHandle" ∧ yX5_playPair.cls ≠ "java/lang/invoke/VarHandle" ∧ (parseMethodDescriptor yX5_playPair.desc).map (fun d => d.parameters.length) = some 4 := ⟨rfl, by decide +kernel, by decide +kernel, by decide +kernel⟩
abbrev mX5_isAtRest : MS := (cX5_isAtRest, 4, RX5, (some .boolean))
theorem cd_X5_isAtRest : Cond.code yX5_isAtRest cX5_isAtRest 4 (some .boolean) ∈ wds := wd_2 215 rfl rfl
theorem hy_X5_isAtRest : yX5_isAtRest.cls = RX5 ∧ yX5_isAtRest.cls ≠ "java/lang/invoke/MethodHandle" ∧ yX5_isAtRest.cls ≠ "java/lang/invoke/VarHandle" ∧ (parseMethodDescriptor yX5_isAtRest.desc).map (fun d => d.parameters.length) = some 1 := ⟨rfl, by decide +kernel, by decide +kernel, by decide +kernel⟩
abbrev mX5_home : MS := (cX5_home, 8, RX5, (some .int))
theorem cd_X5_home : Cond.code yX5_home cX5_home 8 (some .int) ∈ wds := wd_2 219 rfl rfl
theorem hy_X5_home : yX5_home.cls = RX5 ∧ yX5_home.cls ≠ "java/lang/invoke/MethodHandle" ∧ yX5_home.cls ≠ "java/lang/invoke/VarHandle" ∧ (parseMethodDescriptor yX5_home.desc).map (fun d => d.parameters.length) = some 3 := ⟨rfl, by decide +kernel, by decide +kernel, by decide +kernel⟩
abbrev mX5_power : MS := (cX5_power, 6, RX5, (some .long))
theorem cd_X5_power : Cond.code yX5_power cX5_power 6 (some .long) ∈ wds := wd_2 222 rfl rfl
theorem hy_X5_power : yX5_power.cls = RX5 ∧ yX5_power.cls ≠ "java/lang/invoke/MethodHandle" ∧ yX5_power.cls ≠ "java/lang/invoke/VarHandle" ∧ (parseMethodDescriptor yX5_power.desc).map (fun d => d.parameters.length) = some 2 := ⟨rfl, by decide +kernel, by decide +kernel, by decide +kernel⟩
abbrev mX5_seed : MS := (cX5_seed, 5, RX5, (some .long))
theorem cd_X5_seed : Cond.code yX5_seed cX5_seed 5 (some .long) ∈ wds := wd_2 227 rfl rfl
theorem hy_X5_seed : yX5_seed.cls = RX5 ∧ yX5_seed.cls ≠ "java/lang/invoke/MethodHandle" ∧ yX5_seed.cls ≠ "java/lang/invoke/VarHandle" ∧ (parseMethodDescriptor yX5_seed.desc).map (fun d => d.parameters.length) = some 1 := ⟨rfl, by decide +kernel, by decide +kernel, by decide +kernel⟩
abbrev mX5_years : MS := (cX5_years, 4, RX5, (some .int))
theorem cd_X5_years : Cond.code yX5_years cX5_years 4 (some .int) ∈ wds := wd_2 231 rfl rfl
theorem hy_X5_years : yX5_years.cls = RX5 ∧ yX5_years.cls ≠ "java/lang/invoke/MethodHandle" ∧ yX5_years.cls ≠ "java/lang/invoke/VarHandle" ∧ (parseMethodDescriptor yX5_years.desc).map (fun d => d.parameters.length) = some 1 := ⟨rfl, by decide +kernel, by decide +kernel, by decide +kernel⟩
abbrev mX5_doByLot : MS := (cX5_doByLot, 2, RX5, none)
theorem cd_X5_doByLot : Cond.code yX5_doByLot cX5_doByLot 2 none ∈ wds := wd_2 238 rfl rfl
theorem hy_X5_doByLot : yX5_doByLot.cls = RX5 ∧ yX5_doByLot.cls ≠ "java/lang/invoke/MethodHandle" ∧ yX5_doByLot.cls ≠ "java/lang/invoke/VarHandle" ∧ (parseMethodDescriptor yX5_doByLot.desc).map (fun d => d.parameters.length) = some 1 := ⟨rfl, by decide +kernel, by decide +kernel, by decide +kernel⟩
abbrev mX5_keep : MS := (cX5_keep, 2, RX5, (some .int))
theorem cd_X5_keep : Cond.code yX5_keep cX5_keep 2 (some .int) ∈ wds := wd_3 2 rfl rfl
theorem hy_X5_keep : yX5_keep.cls = RX5 ∧ yX5_keep.cls ≠ "java/lang/invoke/MethodHandle" ∧ yX5_keep.cls ≠ "java/lang/invoke/VarHandle" ∧ (parseMethodDescriptor yX5_keep.desc).map (fun d => d.parameters.length) = some 1 := ⟨rfl, by decide +kernel, by decide +kernel, by decide +kernel⟩
abbrev mX5_again : MS := (cX5_again, 2, RX5, (some .int))
theorem cd_X5_again : Cond.code yX5_again cX5_again 2 (some .int) ∈ wds := wd_3 6 rfl rfl
theorem hy_X5_again : yX5_again.cls = RX5 ∧ yX5_again.cls ≠ "java/lang/invoke/MethodHandle" ∧ yX5_again.cls ≠ "java/lang/invoke/VarHandle" ∧ (parseMethodDescriptor yX5_again.desc).map (fun d => d.parameters.length) = some 1 := ⟨rfl, by decide +kernel, by decide +kernel, by decide +kernel⟩
abbrev mX6_init : MS := (cX6_init, 1, RX6, none)
theorem cd_X6_init : Cond.code yX6_init cX6_init 1 none ∈ wds := wd_3 11 rfl rfl
theorem hy_X6_init : yX6_init.cls = RX6 ∧ yX6_init.cls ≠ "java/lang/invoke/MethodHandle" ∧ yX6_init.cls ≠ "java/lang/invoke/VarHandle" ∧ (parseMethodDescriptor yX6_init.desc).map (fun d => d.parameters.length) = some 0 := ⟨rfl, by decide +kernel, by decide +kernel, by decide +kernel⟩
abbrev mX6_write : MS := (cX6_write, 2, RX6, (some .int))
theorem cd_X6_write : Cond.code yX6_write cX6_write 2 (some .int) ∈ wds := wd_3 119 rfl rfl
theorem hy_X6_write : yX6_write.cls = RX6 ∧ yX6_write.cls ≠ "java/lang/invoke/MethodHandle" ∧ yX6_write.cls ≠ "java/lang/invoke/VarHandle" ∧ (parseMethodDescriptor yX6_write.desc).map (fun d => d.parameters.length) = some 1 := ⟨rfl, by decide +kernel, by decide +kernel, by decide +kernel⟩
abbrev mX6_in : MS := (cX6_in, 6, RX6, (some .boolean))
theorem cd_X6_in : Cond.code yX6_in cX6_in 6 (some .boolean) ∈ wds := wd_3 123 rfl rfl
theorem hy_X6_in : yX6_in.cls = RX6 ∧ yX6_in.cls ≠ "java/lang/invoke/MethodHandle" ∧ yX6_in.cls ≠ "java/lang/invoke/VarHandle" ∧ (parseMethodDescriptor yX6_in.desc).map (fun d => d.parameters.length) = some 3 := ⟨rfl, by decide +kernel, by decide +kernel, by decide +kernel⟩
abbrev mX6_wipe : MS := (cX6_wipe, 2, RX6, (some .int))
theorem cd_X6_wipe : Cond.code yX6_wipe cX6_wipe 2 (some .int) ∈ wds := wd_3 127 rfl rfl
theorem hy_X6_wipe : yX6_wipe.cls = RX6 ∧ yX6_wipe.cls ≠ "java/lang/invoke/MethodHandle" ∧ yX6_wipe.cls ≠ "java/lang/invoke/VarHandle" ∧ (parseMethodDescriptor yX6_wipe.desc).map (fun d => d.parameters.length) = some 0 := ⟨rfl, by decide +kernel, by decide +kernel, by decide +kernel⟩
abbrev mX6_fault : MS := (cX6_fault, 1, RX6, (some .int))
theorem cd_X6_fault : Cond.code yX6_fault cX6_fault 1 (some .int) ∈ wds := wd_3 131 rfl rfl
theorem hy_X6_fault : yX6_fault.cls = RX6 ∧ yX6_fault.cls ≠ "java/lang/invoke/MethodHandle" ∧ yX6_fault.cls ≠ "java/lang/invoke/VarHandle" ∧ (parseMethodDescriptor yX6_fault.desc).map (fun d => d.parameters.length) = some 0 := ⟨rfl, by decide +kernel, by decide +kernel, by decide +kernel⟩
abbrev mX6_readCountry : MS := (cX6_readCountry, 1, RX6, (some .int))
theorem cd_X6_readCountry : Cond.code yX6_readCountry cX6_readCountry 1 (some .int) ∈ wds := wd_3 135 rfl rfl
theorem hy_X6_readCountry : yX6_readCountry.cls = RX6 ∧ yX6_readCountry.cls ≠ "java/lang/invoke/MethodHandle" ∧ yX6_readCountry.cls ≠ "java/lang/invoke/VarHandle" ∧ (parseMethodDescriptor yX6_readCountry.desc).map (fun d => d.parameters.length) = some 0 := ⟨rfl, by decide +kernel, by decide +kernel, by decide +kernel⟩
abbrev mX6_readThing : MS := (cX6_readThing, 2, RX6, (some .boolean))
theorem cd_X6_readThing : Cond.code yX6_readThing cX6_readThing 2 (some .boolean) ∈ wds := wd_3 139 rfl rfl
theorem hy_X6_readThing : yX6_readThing.cls = RX6 ∧ yX6_readThing.cls ≠ "java/lang/invoke/MethodHandle" ∧ yX6_readThing.cls ≠ "java/lang/invoke/VarHandle" ∧ (parseMethodDescriptor yX6_readThing.desc).map (fun d => d.parameters.length) = some 0 := ⟨rfl, by decide +kernel, by decide +kernel, by decide +kernel⟩
abbrev mX6_readOneField : MS := (cX6_readOneField, 4, RX6, (some .boolean))
theorem cd_X6_readOneField : Cond.code yX6_readOneField cX6_readOneField 4 (some .boolean) ∈ wds := wd_3 143 rfl rfl
theorem hy_X6_readOneField : yX6_readOneField.cls = RX6 ∧ yX6_readOneField.cls ≠ "java/lang/invoke/MethodHandle" ∧ yX6_readOneField.cls ≠ "java/lang/invoke/VarHandle" ∧ (parseMethodDescriptor yX6_readOneField.desc).map (fun d => d.parameters.length) = some 0 := ⟨rfl, by decide +kernel, by decide +kernel, by decide +kernel⟩
abbrev mX6_figure : MS := (cX6_figure, 3, RX6, (some .int))
theorem cd_X6_figure : Cond.code yX6_figure cX6_figure 3 (some .int) ∈ wds := wd_3 147 rfl rfl
theorem hy_X6_figure : yX6_figure.cls = RX6 ∧ yX6_figure.cls ≠ "java/lang/invoke/MethodHandle" ∧ yX6_figure.cls ≠ "java/lang/invoke/VarHandle" ∧ (parseMethodDescriptor yX6_figure.desc).map (fun d => d.parameters.length) = some 2 := ⟨rfl, by decide +kernel, by decide +kernel, by decide +kernel⟩
abbrev mX6_readOneEater : MS := (cX6_readOneEater, 4, RX6, (some .boolean))
theorem cd_X6_readOneEater : Cond.code yX6_readOneEater cX6_readOneEater 4 (some .boolean) ∈ wds := wd_3 151 rfl rfl
theorem hy_X6_readOneEater : yX6_readOneEater.cls = RX6 ∧ yX6_readOneEater.cls ≠ "java/lang/invoke/MethodHandle" ∧ yX6_readOneEater.cls ≠ "java/lang/invoke/VarHandle" ∧ (parseMethodDescriptor yX6_readOneEater.desc).map (fun d => d.parameters.length) = some 0 := ⟨rfl, by decide +kernel, by decide +kernel, by decide +kernel⟩
abbrev mX6_country : MS := (cX6_country, 2, RX6, (some .int))
theorem cd_X6_country : Cond.code yX6_country cX6_country 2 (some .int) ∈ wds := wd_3 155 rfl rfl
theorem hy_X6_country : yX6_country.cls = RX6 ∧ yX6_country.cls ≠ "java/lang/invoke/MethodHandle" ∧ yX6_country.cls ≠ "java/lang/invoke/VarHandle" ∧ (parseMethodDescriptor yX6_country.desc).map (fun d => d.parameters.length) = some 0 := ⟨rfl, by decide +kernel, by decide +kernel, by decide +kernel⟩
abbrev mX6_about : MS := (cX6_about, 2, RX6, (some .int))
theorem cd_X6_about : Cond.code yX6_about cX6_about 2 (some .int) ∈ wds := wd_3 159 rfl rfl
theorem hy_X6_about : yX6_about.cls = RX6 ∧ yX6_about.cls ≠ "java/lang/invoke/MethodHandle" ∧ yX6_about.cls ≠ "java/lang/invoke/VarHandle" ∧ (parseMethodDescriptor yX6_about.desc).map (fun d => d.parameters.length) = some 1 := ⟨rfl, by decide +kernel, by decide +kernel, by decide +kernel⟩
abbrev mX6_loaves : MS := (cX6_loaves, 1, RX6, (some .int))
theorem cd_X6_loaves : Cond.code yX6_loaves cX6_loaves 1 (some .int) ∈ wds := wd_3 162 rfl rfl
theorem hy_X6_loaves : yX6_loaves.cls = RX6 ∧ yX6_loaves.cls ≠ "java/lang/invoke/MethodHandle" ∧ yX6_loaves.cls ≠ "java/lang/invoke/VarHandle" ∧ (parseMethodDescriptor yX6_loaves.desc).map (fun d => d.parameters.length) = some 1 := ⟨rfl, by decide +kernel, by decide +kernel, by decide +kernel⟩
abbrev mX6_owedTogether : MS := (cX6_owedTogether, 3, RX6, (some .int))
theorem cd_X6_owedTogether : Cond.code yX6_owedTogether cX6_owedTogether 3 (some .int) ∈ wds := wd_3 166 rfl rfl
theorem hy_X6_owedTogether : yX6_owedTogether.cls = RX6 ∧ yX6_owedTogether.cls ≠ "java/lang/invoke/MethodHandle" ∧ yX6_owedTogether.cls ≠ "java/lang/invoke/VarHandle" ∧ (parseMethodDescriptor yX6_owedTogether.desc).map (fun d => d.parameters.length) = some 0 := ⟨rfl, by decide +kernel, by decide +kernel, by decide +kernel⟩
abbrev mX6_owesAll : MS := (cX6_owesAll, 2, RX6, (some .int))
theorem cd_X6_owesAll : Cond.code yX6_owesAll cX6_owesAll 2 (some .int) ∈ wds := wd_3 169 rfl rfl
theorem hy_X6_owesAll : yX6_owesAll.cls = RX6 ∧ yX6_owesAll.cls ≠ "java/lang/invoke/MethodHandle" ∧ yX6_owesAll.cls ≠ "java/lang/invoke/VarHandle" ∧ (parseMethodDescriptor yX6_owesAll.desc).map (fun d => d.parameters.length) = some 2 := ⟨rfl, by decide +kernel, by decide +kernel, by decide +kernel⟩
abbrev mX6_owed : MS := (cX6_owed, 3, RX6, (some .int))
theorem cd_X6_owed : Cond.code yX6_owed cX6_owed 3 (some .int) ∈ wds := wd_3 172 rfl rfl
theorem hy_X6_owed : yX6_owed.cls = RX6 ∧ yX6_owed.cls ≠ "java/lang/invoke/MethodHandle" ∧ yX6_owed.cls ≠ "java/lang/invoke/VarHandle" ∧ (parseMethodDescriptor yX6_owed.desc).map (fun d => d.parameters.length) = some 3 := ⟨rfl, by decide +kernel, by decide +kernel, by decide +kernel⟩
abbrev mX6_sown : MS := (cX6_sown, 4, RX6, (some .int))
theorem cd_X6_sown : Cond.code yX6_sown cX6_sown 4 (some .int) ∈ wds := wd_3 176 rfl rfl
theorem hy_X6_sown : yX6_sown.cls = RX6 ∧ yX6_sown.cls ≠ "java/lang/invoke/MethodHandle" ∧ yX6_sown.cls ≠ "java/lang/invoke/VarHandle" ∧ (parseMethodDescriptor yX6_sown.desc).map (fun d => d.parameters.length) = some 1 := ⟨rfl, by decide +kernel, by decide +kernel, by decide +kernel⟩
abbrev mX6_marched : MS := (cX6_marched, 2, RX6, (some .int))
theorem cd_X6_marched : Cond.code yX6_marched cX6_marched 2 (some .int) ∈ wds := wd_3 180 rfl rfl
theorem hy_X6_marched : yX6_marched.cls = RX6 ∧ yX6_marched.cls ≠ "java/lang/invoke/MethodHandle" ∧ yX6_marched.cls ≠ "java/lang/invoke/VarHandle" ∧ (parseMethodDescriptor yX6_marched.desc).map (fun d => d.parameters.length) = some 1 := ⟨rfl, by decide +kernel, by decide +kernel, by decide +kernel⟩
abbrev mX6_begin : MS := (cX6_begin, 2, RX6, none)
theorem cd_X6_begin : Cond.code yX6_begin cX6_begin 2 none ∈ wds := wd_3 184 rfl rfl
theorem hy_X6_begin : yX6_begin.cls = RX6 ∧ yX6_begin.cls ≠ "java/lang/invoke/MethodHandle" ∧ yX6_begin.cls ≠ "java/lang/invoke/VarHandle" ∧ (parseMethodDescriptor yX6_begin.desc).map (fun d => d.parameters.length) = some 0 := ⟨rfl, by decide +kernel, by decide +kernel, by decide +kernel⟩
abbrev mX6_goMarch : MS := (cX6_goMarch, 4, RX6, (some .int))
theorem cd_X6_goMarch : Cond.code yX6_goMarch cX6_goMarch 4 (some .int) ∈ wds := wd_3 188 rfl rfl
theorem hy_X6_goMarch : yX6_goMarch.cls = RX6 ∧ yX6_goMarch.cls ≠ "java/lang/invoke/MethodHandle" ∧ yX6_goMarch.cls ≠ "java/lang/invoke/VarHandle" ∧ (parseMethodDescriptor yX6_goMarch.desc).map (fun d => d.parameters.length) = some 2 := ⟨rfl, by decide +kernel, by decide +kernel, by decide +kernel⟩
abbrev mX6_has : MS := (cX6_has, 2, RX6, (some .boolean))
theorem cd_X6_has : Cond.code yX6_has cX6_has 2 (some .boolean) ∈ wds := wd_3 191 rfl rfl
theorem hy_X6_has : yX6_has.cls = RX6 ∧ yX6_has.cls ≠ "java/lang/invoke/MethodHandle" ∧ yX6_has.cls ≠ "java/lang/invoke/VarHandle" ∧ (parseMethodDescriptor yX6_has.desc).map (fun d => d.parameters.length) = some 2 := ⟨rfl, by decide +kernel, by decide +kernel, by decide +kernel⟩
abbrev mX6_goes : MS := (cX6_goes, 9, RX6, (some .int))
theorem cd_X6_goes : Cond.code yX6_goes cX6_goes 9 (some .int) ∈ wds := wd_3 195 rfl rfl
theorem hy_X6_goes : yX6_goes.cls = RX6 ∧ yX6_goes.cls ≠ "java/lang/invoke/MethodHandle" ∧ yX6_goes.cls ≠ "java/lang/invoke/VarHandle" ∧ (parseMethodDescriptor yX6_goes.desc).map (fun d => d.parameters.length) = some 3 := ⟨rfl, by decide +kernel, by decide +kernel, by decide +kernel⟩
abbrev mX6_nearest : MS := (cX6_nearest, 7, RX6, (some .int))
theorem cd_X6_nearest : Cond.code yX6_nearest cX6_nearest 7 (some .int) ∈ wds := wd_3 199 rfl rfl
theorem hy_X6_nearest : yX6_nearest.cls = RX6 ∧ yX6_nearest.cls ≠ "java/lang/invoke/MethodHandle" ∧ yX6_nearest.cls ≠ "java/lang/invoke/VarHandle" ∧ (parseMethodDescriptor yX6_nearest.desc).map (fun d => d.parameters.length) = some 3 := ⟨rfl, by decide +kernel, by decide +kernel, by decide +kernel⟩
abbrev mX6_apart : MS := (cX6_apart, 2, RX6, (some .int))
theorem cd_X6_apart : Cond.code yX6_apart cX6_apart 2 (some .int) ∈ wds := wd_3 202 rfl rfl
theorem hy_X6_apart : yX6_apart.cls = RX6 ∧ yX6_apart.cls ≠ "java/lang/invoke/MethodHandle" ∧ yX6_apart.cls ≠ "java/lang/invoke/VarHandle" ∧ (parseMethodDescriptor yX6_apart.desc).map (fun d => d.parameters.length) = some 2 := ⟨rfl, by decide +kernel, by decide +kernel, by decide +kernel⟩
abbrev mX6_capped : MS := (cX6_capped, 1, RX6, (some .int))
theorem cd_X6_capped : Cond.code yX6_capped cX6_capped 1 (some .int) ∈ wds := wd_3 205 rfl rfl
theorem hy_X6_capped : yX6_capped.cls = RX6 ∧ yX6_capped.cls ≠ "java/lang/invoke/MethodHandle" ∧ yX6_capped.cls ≠ "java/lang/invoke/VarHandle" ∧ (parseMethodDescriptor yX6_capped.desc).map (fun d => d.parameters.length) = some 1 := ⟨rfl, by decide +kernel, by decide +kernel, by decide +kernel⟩
abbrev mX6_field : MS := (cX6_field, 3, RX6, (some .int))
theorem cd_X6_field : Cond.code yX6_field cX6_field 3 (some .int) ∈ wds := wd_3 209 rfl rfl
theorem hy_X6_field : yX6_field.cls = RX6 ∧ yX6_field.cls ≠ "java/lang/invoke/MethodHandle" ∧ yX6_field.cls ≠ "java/lang/invoke/VarHandle" ∧ (parseMethodDescriptor yX6_field.desc).map (fun d => d.parameters.length) = some 2 := ⟨rfl, by decide +kernel, by decide +kernel, by decide +kernel⟩
abbrev mX6_noField : MS := (cX6_noField, 2, RX6, (some .boolean))
theorem cd_X6_noField : Cond.code yX6_noField cX6_noField 2 (some .boolean) ∈ wds := wd_3 213 rfl rfl
theorem hy_X6_noField : yX6_noField.cls = RX6 ∧ yX6_noField.cls ≠ "java/lang/invoke/MethodHandle" ∧ yX6_noField.cls ≠ "java/lang/invoke/VarHandle" ∧ (parseMethodDescriptor yX6_noField.desc).map (fun d => d.parameters.length) = some 1 := ⟨rfl, by decide +kernel, by decide +kernel, by decide +kernel⟩
abbrev mX6_owing : MS := (cX6_owing, 4, RX6, (some .int))
theorem cd_X6_owing : Cond.code yX6_owing cX6_owing 4 (some .int) ∈ wds := wd_3 217 rfl rfl
theorem hy_X6_owing : yX6_owing.cls = RX6 ∧ yX6_owing.cls ≠ "java/lang/invoke/MethodHandle" ∧ yX6_owing.cls ≠ "java/lang/invoke/VarHandle" ∧ (parseMethodDescriptor yX6_owing.desc).map (fun d => d.parameters.length) = some 1 := ⟨rfl, by decide +kernel, by decide +kernel, by decide +kernel⟩
abbrev mX6_eater : MS := (cX6_eater, 4, RX6, (some .int))
theorem cd_X6_eater : Cond.code yX6_eater cX6_eater 4 (some .int) ∈ wds := wd_3 221 rfl rfl
theorem hy_X6_eater : yX6_eater.cls = RX6 ∧ yX6_eater.cls ≠ "java/lang/invoke/MethodHandle" ∧ yX6_eater.cls ≠ "java/lang/invoke/VarHandle" ∧ (parseMethodDescriptor yX6_eater.desc).map (fun d => d.parameters.length) = some 2 := ⟨rfl, by decide +kernel, by decide +kernel, by decide +kernel⟩
abbrev mX6_noEater : MS := (cX6_noEater, 2, RX6, (some .boolean))
theorem cd_X6_noEater : Cond.code yX6_noEater cX6_noEater 2 (some .boolean) ∈ wds := wd_3 225 rfl rfl
theorem hy_X6_noEater : yX6_noEater.cls = RX6 ∧ yX6_noEater.cls ≠ "java/lang/invoke/MethodHandle" ∧ yX6_noEater.cls ≠ "java/lang/invoke/VarHandle" ∧ (parseMethodDescriptor yX6_noEater.desc).map (fun d => d.parameters.length) = some 1 := ⟨rfl, by decide +kernel, by decide +kernel, by decide +kernel⟩
abbrev mX6_owes : MS := (cX6_owes, 3, RX6, (some .int))
theorem cd_X6_owes : Cond.code yX6_owes cX6_owes 3 (some .int) ∈ wds := wd_3 229 rfl rfl
theorem hy_X6_owes : yX6_owes.cls = RX6 ∧ yX6_owes.cls ≠ "java/lang/invoke/MethodHandle" ∧ yX6_owes.cls ≠ "java/lang/invoke/VarHandle" ∧ (parseMethodDescriptor yX6_owes.desc).map (fun d => d.parameters.length) = some 2 := ⟨rfl, by decide +kernel, by decide +kernel, by decide +kernel⟩
abbrev mX6_eat : MS := (cX6_eat, 3, RX6, (some .int))
theorem cd_X6_eat : Cond.code yX6_eat cX6_eat 3 (some .int) ∈ wds := wd_3 233 rfl rfl
theorem hy_X6_eat : yX6_eat.cls = RX6 ∧ yX6_eat.cls ≠ "java/lang/invoke/MethodHandle" ∧ yX6_eat.cls ≠ "java/lang/invoke/VarHandle" ∧ (parseMethodDescriptor yX6_eat.desc).map (fun d => d.parameters.length) = some 2 := ⟨rfl, by decide +kernel, by decide +kernel, by decide +kernel⟩
abbrev mX6_canEat : MS := (cX6_canEat, 4, RX6, (some .boolean))
theorem cd_X6_canEat : Cond.code yX6_canEat cX6_canEat 4 (some .boolean) ∈ wds := wd_3 237 rfl rfl
theorem hy_X6_canEat : yX6_canEat.cls = RX6 ∧ yX6_canEat.cls ≠ "java/lang/invoke/MethodHandle" ∧ yX6_canEat.cls ≠ "java/lang/invoke/VarHandle" ∧ (parseMethodDescriptor yX6_canEat.desc).map (fun d => d.parameters.length) = some 3 := ⟨rfl, by decide +kernel, by decide +kernel, by decide +kernel⟩
abbrev mX6_bite : MS := (cX6_bite, 2, RX6, (some .int))
theorem cd_X6_bite : Cond.code yX6_bite cX6_bite 2 (some .int) ∈ wds := wd_4 1 rfl rfl
theorem hy_X6_bite : yX6_bite.cls = RX6 ∧ yX6_bite.cls ≠ "java/lang/invoke/MethodHandle" ∧ yX6_bite.cls ≠ "java/lang/invoke/VarHandle" ∧ (parseMethodDescriptor yX6_bite.desc).map (fun d => d.parameters.length) = some 1 := ⟨rfl, by decide +kernel, by decide +kernel, by decide +kernel⟩
abbrev mX6_note : MS := (cX6_note, 2, RX6, none)
theorem cd_X6_note : Cond.code yX6_note cX6_note 2 none ∈ wds := wd_4 5 rfl rfl
theorem hy_X6_note : yX6_note.cls = RX6 ∧ yX6_note.cls ≠ "java/lang/invoke/MethodHandle" ∧ yX6_note.cls ≠ "java/lang/invoke/VarHandle" ∧ (parseMethodDescriptor yX6_note.desc).map (fun d => d.parameters.length) = some 0 := ⟨rfl, by decide +kernel, by decide +kernel, by decide +kernel⟩
abbrev mX6_goEat : MS := (cX6_goEat, 4, RX6, none)
theorem cd_X6_goEat : Cond.code yX6_goEat cX6_goEat 4 none ∈ wds := wd_4 9 rfl rfl
theorem hy_X6_goEat : yX6_goEat.cls = RX6 ∧ yX6_goEat.cls ≠ "java/lang/invoke/MethodHandle" ∧ yX6_goEat.cls ≠ "java/lang/invoke/VarHandle" ∧ (parseMethodDescriptor yX6_goEat.desc).map (fun d => d.parameters.length) = some 3 := ⟨rfl, by decide +kernel, by decide +kernel, by decide +kernel⟩
abbrev mX6_cake : MS := (cX6_cake, 4, RX6, (some .int))
theorem cd_X6_cake : Cond.code yX6_cake cX6_cake 4 (some .int) ∈ wds := wd_4 13 rfl rfl
theorem hy_X6_cake : yX6_cake.cls = RX6 ∧ yX6_cake.cls ≠ "java/lang/invoke/MethodHandle" ∧ yX6_cake.cls ≠ "java/lang/invoke/VarHandle" ∧ (parseMethodDescriptor yX6_cake.desc).map (fun d => d.parameters.length) = some 3 := ⟨rfl, by decide +kernel, by decide +kernel, by decide +kernel⟩
abbrev mX6_march : MS := (cX6_march, 1, RX6, (some .int))
theorem cd_X6_march : Cond.code yX6_march cX6_march 1 (some .int) ∈ wds := wd_4 17 rfl rfl
theorem hy_X6_march : yX6_march.cls = RX6 ∧ yX6_march.cls ≠ "java/lang/invoke/MethodHandle" ∧ yX6_march.cls ≠ "java/lang/invoke/VarHandle" ∧ (parseMethodDescriptor yX6_march.desc).map (fun d => d.parameters.length) = some 0 := ⟨rfl, by decide +kernel, by decide +kernel, by decide +kernel⟩
abbrev mX6_harvest : MS := (cX6_harvest, 1, RX6, (some .int))
theorem cd_X6_harvest : Cond.code yX6_harvest cX6_harvest 1 (some .int) ∈ wds := wd_4 21 rfl rfl
theorem hy_X6_harvest : yX6_harvest.cls = RX6 ∧ yX6_harvest.cls ≠ "java/lang/invoke/MethodHandle" ∧ yX6_harvest.cls ≠ "java/lang/invoke/VarHandle" ∧ (parseMethodDescriptor yX6_harvest.desc).map (fun d => d.parameters.length) = some 0 := ⟨rfl, by decide +kernel, by decide +kernel, by decide +kernel⟩
abbrev mX6_goHarvest : MS := (cX6_goHarvest, 4, RX6, (some .int))
theorem cd_X6_goHarvest : Cond.code yX6_goHarvest cX6_goHarvest 4 (some .int) ∈ wds := wd_4 25 rfl rfl
theorem hy_X6_goHarvest : yX6_goHarvest.cls = RX6 ∧ yX6_goHarvest.cls ≠ "java/lang/invoke/MethodHandle" ∧ yX6_goHarvest.cls ≠ "java/lang/invoke/VarHandle" ∧ (parseMethodDescriptor yX6_goHarvest.desc).map (fun d => d.parameters.length) = some 1 := ⟨rfl, by decide +kernel, by decide +kernel, by decide +kernel⟩
abbrev mX6_undo : MS := (cX6_undo, 2, RX6, (some .int))
theorem cd_X6_undo : Cond.code yX6_undo cX6_undo 2 (some .int) ∈ wds := wd_4 29 rfl rfl
theorem hy_X6_undo : yX6_undo.cls = RX6 ∧ yX6_undo.cls ≠ "java/lang/invoke/MethodHandle" ∧ yX6_undo.cls ≠ "java/lang/invoke/VarHandle" ∧ (parseMethodDescriptor yX6_undo.desc).map (fun d => d.parameters.length) = some 0 := ⟨rfl, by decide +kernel, by decide +kernel, by decide +kernel⟩
abbrev mX6_ahead : MS := (cX6_ahead, 4, RX6, (some .int))
theorem cd_X6_ahead : Cond.code yX6_ahead cX6_ahead 4 (some .int) ∈ wds := wd_4 33 rfl rfl
theorem hy_X6_ahead : yX6_ahead.cls = RX6 ∧ yX6_ahead.cls ≠ "java/lang/invoke/MethodHandle" ∧ yX6_ahead.cls ≠ "java/lang/invoke/VarHandle" ∧ (parseMethodDescriptor yX6_ahead.desc).map (fun d => d.parameters.length) = some 2 := ⟨rfl, by decide +kernel, by decide +kernel, by decide +kernel⟩
abbrev mX6_wants : MS := (cX6_wants, 5, RX6, (some .int))
theorem cd_X6_wants : Cond.code yX6_wants cX6_wants 5 (some .int) ∈ wds := wd_4 38 rfl rfl
theorem hy_X6_wants : yX6_wants.cls = RX6 ∧ yX6_wants.cls ≠ "java/lang/invoke/MethodHandle" ∧ yX6_wants.cls ≠ "java/lang/invoke/VarHandle" ∧ (parseMethodDescriptor yX6_wants.desc).map (fun d => d.parameters.length) = some 1 := ⟨rfl, by decide +kernel, by decide +kernel, by decide +kernel⟩
abbrev mX6_many : MS := (cX6_many, 3, RX6, (some .int))
theorem cd_X6_many : Cond.code yX6_many cX6_many 3 (some .int) ∈ wds := wd_4 41 rfl rfl
theorem hy_X6_many : yX6_many.cls = RX6 ∧ yX6_many.cls ≠ "java/lang/invoke/MethodHandle" ∧ yX6_many.cls ≠ "java/lang/invoke/VarHandle" ∧ (parseMethodDescriptor yX6_many.desc).map (fun d => d.parameters.length) = some 1 := ⟨rfl, by decide +kernel, by decide +kernel, by decide +kernel⟩
abbrev mX6_isSownBy : MS := (cX6_isSownBy, 4, RX6, (some .boolean))
theorem cd_X6_isSownBy : Cond.code yX6_isSownBy cX6_isSownBy 4 (some .boolean) ∈ wds := wd_4 45 rfl rfl
theorem hy_X6_isSownBy : yX6_isSownBy.cls = RX6 ∧ yX6_isSownBy.cls ≠ "java/lang/invoke/MethodHandle" ∧ yX6_isSownBy.cls ≠ "java/lang/invoke/VarHandle" ∧ (parseMethodDescriptor yX6_isSownBy.desc).map (fun d => d.parameters.length) = some 2 := ⟨rfl, by decide +kernel, by decide +kernel, by decide +kernel⟩
abbrev mX6_rid : MS := (cX6_rid, 2, RX6, (some .int))
theorem cd_X6_rid : Cond.code yX6_rid cX6_rid 2 (some .int) ∈ wds := wd_4 49 rfl rfl
theorem hy_X6_rid : yX6_rid.cls = RX6 ∧ yX6_rid.cls ≠ "java/lang/invoke/MethodHandle" ∧ yX6_rid.cls ≠ "java/lang/invoke/VarHandle" ∧ (parseMethodDescriptor yX6_rid.desc).map (fun d => d.parameters.length) = some 1 := ⟨rfl, by decide +kernel, by decide +kernel, by decide +kernel⟩
abbrev mX6_judge : MS := (cX6_judge, 5, RX6, (some .int))
theorem cd_X6_judge : Cond.code yX6_judge cX6_judge 5 (some .int) ∈ wds := wd_4 53 rfl rfl
theorem hy_X6_judge : yX6_judge.cls = RX6 ∧ yX6_judge.cls ≠ "java/lang/invoke/MethodHandle" ∧ yX6_judge.cls ≠ "java/lang/invoke/VarHandle" ∧ (parseMethodDescriptor yX6_judge.desc).map (fun d => d.parameters.length) = some 2 := ⟨rfl, by decide +kernel, by decide +kernel, by decide +kernel⟩
abbrev mX6_longPower : MS := (cX6_longPower, 6, RX6, (some .long))
theorem cd_X6_longPower : Cond.code yX6_longPower cX6_longPower 6 (some .long) ∈ wds := wd_4 58 rfl rfl
theorem hy_X6_longPower : yX6_longPower.cls = RX6 ∧ yX6_longPower.cls ≠ "java/lang/invoke/MethodHandle" ∧ yX6_longPower.cls ≠ "java/lang/invoke/VarHandle" ∧ (parseMethodDescriptor yX6_longPower.desc).map (fun d => d.parameters.length) = some 2 := ⟨rfl, by decide +kernel, by decide +kernel, by decide +kernel⟩
abbrev mX6_does : MS := (cX6_does, 5, RX6, (some .boolean))
theorem cd_X6_does : Cond.code yX6_does cX6_does 5 (some .boolean) ∈ wds := wd_4 62 rfl rfl
theorem hy_X6_does : yX6_does.cls = RX6 ∧ yX6_does.cls ≠ "java/lang/invoke/MethodHandle" ∧ yX6_does.cls ≠ "java/lang/invoke/VarHandle" ∧ (parseMethodDescriptor yX6_does.desc).map (fun d => d.parameters.length) = some 1 := ⟨rfl, by decide +kernel, by decide +kernel, by decide +kernel⟩
abbrev mX6_eats : MS := (cX6_eats, 4, RX6, (some .boolean))
theorem cd_X6_eats : Cond.code yX6_eats cX6_eats 4 (some .boolean) ∈ wds := wd_4 66 rfl rfl
theorem hy_X6_eats : yX6_eats.cls = RX6 ∧ yX6_eats.cls ≠ "java/lang/invoke/MethodHandle" ∧ yX6_eats.cls ≠ "java/lang/invoke/VarHandle" ∧ (parseMethodDescriptor yX6_eats.desc).map (fun d => d.parameters.length) = some 2 := ⟨rfl, by decide +kernel, by decide +kernel, by decide +kernel⟩
abbrev mX6_share : MS := (cX6_share, 6, RX6, (some .int))
theorem cd_X6_share : Cond.code yX6_share cX6_share 6 (some .int) ∈ wds := wd_4 70 rfl rfl
theorem hy_X6_share : yX6_share.cls = RX6 ∧ yX6_share.cls ≠ "java/lang/invoke/MethodHandle" ∧ yX6_share.cls ≠ "java/lang/invoke/VarHandle" ∧ (parseMethodDescriptor yX6_share.desc).map (fun d => d.parameters.length) = some 2 := ⟨rfl, by decide +kernel, by decide +kernel, by decide +kernel⟩
abbrev mX6_ways : MS := (cX6_ways, 3, RX6, (some .int))
theorem cd_X6_ways : Cond.code yX6_ways cX6_ways 3 (some .int) ∈ wds := wd_4 73 rfl rfl
theorem hy_X6_ways : yX6_ways.cls = RX6 ∧ yX6_ways.cls ≠ "java/lang/invoke/MethodHandle" ∧ yX6_ways.cls ≠ "java/lang/invoke/VarHandle" ∧ (parseMethodDescriptor yX6_ways.desc).map (fun d => d.parameters.length) = some 1 := ⟨rfl, by decide +kernel, by decide +kernel, by decide +kernel⟩
abbrev mX6_fraction : MS := (cX6_fraction, 4, RX6, (some .int))
theorem cd_X6_fraction : Cond.code yX6_fraction cX6_fraction 4 (some .int) ∈ wds := wd_4 76 rfl rfl
theorem hy_X6_fraction : yX6_fraction.cls = RX6 ∧ yX6_fraction.cls ≠ "java/lang/invoke/MethodHandle" ∧ yX6_fraction.cls ≠ "java/lang/invoke/VarHandle" ∧ (parseMethodDescriptor yX6_fraction.desc).map (fun d => d.parameters.length) = some 3 := ⟨rfl, by decide +kernel, by decide +kernel, by decide +kernel⟩
abbrev mX6_divisor : MS := (cX6_divisor, 5, RX6, (some .int))
theorem cd_X6_divisor : Cond.code yX6_divisor cX6_divisor 5 (some .int) ∈ wds := wd_4 79 rfl rfl
theorem hy_X6_divisor : yX6_divisor.cls = RX6 ∧ yX6_divisor.cls ≠ "java/lang/invoke/MethodHandle" ∧ yX6_divisor.cls ≠ "java/lang/invoke/VarHandle" ∧ (parseMethodDescriptor yX6_divisor.desc).map (fun d => d.parameters.length) = some 2 := ⟨rfl, by decide +kernel, by decide +kernel, by decide +kernel⟩
abbrev mX6_came : MS := (cX6_came, 3, RX6, (some .int))
theorem cd_X6_came : Cond.code yX6_came cX6_came 3 (some .int) ∈ wds := wd_4 83 rfl rfl
theorem hy_X6_came : yX6_came.cls = RX6 ∧ yX6_came.cls ≠ "java/lang/invoke/MethodHandle" ∧ yX6_came.cls ≠ "java/lang/invoke/VarHandle" ∧ (parseMethodDescriptor yX6_came.desc).map (fun d => d.parameters.length) = some 2 := ⟨rfl, by decide +kernel, by decide +kernel, by decide +kernel⟩
abbrev mX6_forget : MS := (cX6_forget, 2, RX6, (some .int))
theorem cd_X6_forget : Cond.code yX6_forget cX6_forget 2 (some .int) ∈ wds := wd_4 87 rfl rfl
theorem hy_X6_forget : yX6_forget.cls = RX6 ∧ yX6_forget.cls ≠ "java/lang/invoke/MethodHandle" ∧ yX6_forget.cls ≠ "java/lang/invoke/VarHandle" ∧ (parseMethodDescriptor yX6_forget.desc).map (fun d => d.parameters.length) = some 0 := ⟨rfl, by decide +kernel, by decide +kernel, by decide +kernel⟩
abbrev mX6_strangers : MS := (cX6_strangers, 5, RX6, (some .int))
theorem cd_X6_strangers : Cond.code yX6_strangers cX6_strangers 5 (some .int) ∈ wds := wd_4 91 rfl rfl
theorem hy_X6_strangers : yX6_strangers.cls = RX6 ∧ yX6_strangers.cls ≠ "java/lang/invoke/MethodHandle" ∧ yX6_strangers.cls ≠ "java/lang/invoke/VarHandle" ∧ (parseMethodDescriptor yX6_strangers.desc).map (fun d => d.parameters.length) = some 1 := ⟨rfl, by decide +kernel, by decide +kernel, by decide +kernel⟩
abbrev mX6_rests : MS := (cX6_rests, 9, RX6, (some .int))
theorem cd_X6_rests : Cond.code yX6_rests cX6_rests 9 (some .int) ∈ wds := wd_4 95 rfl rfl
theorem hy_X6_rests : yX6_rests.cls = RX6 ∧ yX6_rests.cls ≠ "java/lang/invoke/MethodHandle" ∧ yX6_rests.cls ≠ "java/lang/invoke/VarHandle" ∧ (parseMethodDescriptor yX6_rests.desc).map (fun d => d.parameters.length) = some 4 := ⟨rfl, by decide +kernel, by decide +kernel, by decide +kernel⟩
abbrev mX6_home : MS := (cX6_home, 7, RX6, (some .int))
theorem cd_X6_home : Cond.code yX6_home cX6_home 7 (some .int) ∈ wds := wd_4 99 rfl rfl
theorem hy_X6_home : yX6_home.cls = RX6 ∧ yX6_home.cls ≠ "java/lang/invoke/MethodHandle" ∧ yX6_home.cls ≠ "java/lang/invoke/VarHandle" ∧ (parseMethodDescriptor yX6_home.desc).map (fun d => d.parameters.length) = some 3 := ⟨rfl, by decide +kernel, by decide +kernel, by decide +kernel⟩
abbrev mX6_power : MS := (cX6_power, 4, RX6, (some .int))
theorem cd_X6_power : Cond.code yX6_power cX6_power 4 (some .int) ∈ wds := wd_4 103 rfl rfl
theorem hy_X6_power : yX6_power.cls = RX6 ∧ yX6_power.cls ≠ "java/lang/invoke/MethodHandle" ∧ yX6_power.cls ≠ "java/lang/invoke/VarHandle" ∧ (parseMethodDescriptor yX6_power.desc).map (fun d => d.parameters.length) = some 2 := ⟨rfl, by decide +kernel, by decide +kernel, by decide +kernel⟩
abbrev mX6_seed : MS := (cX6_seed, 5, RX6, (some .long))
theorem cd_X6_seed : Cond.code yX6_seed cX6_seed 5 (some .long) ∈ wds := wd_4 107 rfl rfl
theorem hy_X6_seed : yX6_seed.cls = RX6 ∧ yX6_seed.cls ≠ "java/lang/invoke/MethodHandle" ∧ yX6_seed.cls ≠ "java/lang/invoke/VarHandle" ∧ (parseMethodDescriptor yX6_seed.desc).map (fun d => d.parameters.length) = some 1 := ⟨rfl, by decide +kernel, by decide +kernel, by decide +kernel⟩
abbrev mX6_years : MS := (cX6_years, 5, RX6, (some .int))
theorem cd_X6_years : Cond.code yX6_years cX6_years 5 (some .int) ∈ wds := wd_4 111 rfl rfl
theorem hy_X6_years : yX6_years.cls = RX6 ∧ yX6_years.cls ≠ "java/lang/invoke/MethodHandle" ∧ yX6_years.cls ≠ "java/lang/invoke/VarHandle" ∧ (parseMethodDescriptor yX6_years.desc).map (fun d => d.parameters.length) = some 1 := ⟨rfl, by decide +kernel, by decide +kernel, by decide +kernel⟩
abbrev mX6_keep : MS := (cX6_keep, 3, RX6, (some .int))
theorem cd_X6_keep : Cond.code yX6_keep cX6_keep 3 (some .int) ∈ wds := wd_4 119 rfl rfl
theorem hy_X6_keep : yX6_keep.cls = RX6 ∧ yX6_keep.cls ≠ "java/lang/invoke/MethodHandle" ∧ yX6_keep.cls ≠ "java/lang/invoke/VarHandle" ∧ (parseMethodDescriptor yX6_keep.desc).map (fun d => d.parameters.length) = some 1 := ⟨rfl, by decide +kernel, by decide +kernel, by decide +kernel⟩
abbrev mX6_again : MS := (cX6_again, 3, RX6, (some .int))
theorem cd_X6_again : Cond.code yX6_again cX6_again 3 (some .int) ∈ wds := wd_4 123 rfl rfl
theorem hy_X6_again : yX6_again.cls = RX6 ∧ yX6_again.cls ≠ "java/lang/invoke/MethodHandle" ∧ yX6_again.cls ≠ "java/lang/invoke/VarHandle" ∧ (parseMethodDescriptor yX6_again.desc).map (fun d => d.parameters.length) = some 1 := ⟨rfl, by decide +kernel, by decide +kernel, by decide +kernel⟩
theorem ml_RL_9 : Cond.methodLink RL 9 yX5_init ∈ wds := wd_1 13 rfl rfl
theorem ml_RX5_1 : Cond.methodLink RX5 1 objectInit ∈ wds := wd_1 16 rfl rfl
theorem ml_RX5_9 : Cond.methodLink RX5 9 yX3_init ∈ wds := wd_1 21 rfl rfl
theorem ml_RX3_3 : Cond.methodLink RX3 3 objectInit ∈ wds := wd_1 24 rfl rfl
theorem ml_RX5_18 : Cond.methodLink RX5 18 yX2_init ∈ wds := wd_1 38 rfl rfl
theorem ml_RX2_3 : Cond.methodLink RX2 3 objectInit ∈ wds := wd_1 41 rfl rfl
theorem ml_RX5_25 : Cond.methodLink RX5 25 yX1_init ∈ wds := wd_1 85 rfl rfl
theorem ml_RX1_3 : Cond.methodLink RX1 3 objectInit ∈ wds := wd_1 88 rfl rfl
theorem ml_RX5_37 : Cond.methodLink RX5 37 yX0_init ∈ wds := wd_1 118 rfl rfl
theorem ml_RX0_3 : Cond.methodLink RX0 3 objectInit ∈ wds := wd_1 121 rfl rfl
theorem ml_RX0_17 : Cond.methodLink RX0 17 yX1_init ∈ wds := wd_1 124 rfl rfl
theorem ml_RX5_44 : Cond.methodLink RX5 44 yX4_init ∈ wds := wd_1 138 rfl rfl
theorem ml_RX4_3 : Cond.methodLink RX4 3 objectInit ∈ wds := wd_1 141 rfl rfl
theorem ml_RL_13 : Cond.methodLink RL 13 yX5_write ∈ wds := wd_1 185 rfl rfl
theorem ml_RX5_69 : Cond.methodLink RX5 69 yX3_append ∈ wds := wd_1 189 rfl rfl
theorem ml_RL_18 : Cond.methodLink RL 18 yX5_wipe ∈ wds := wd_1 193 rfl rfl
theorem ml_RL_23 : Cond.methodLink RL 23 yX5_fault ∈ wds := wd_1 197 rfl rfl
theorem ml_RX5_73 : Cond.methodLink RX5 73 yX3_firstFault ∈ wds := wd_1 201 rfl rfl
theorem ml_RX3_19 : Cond.methodLink RX3 19 yX3_faultOfThing ∈ wds := wd_1 205 rfl rfl
theorem ml_RL_27 : Cond.methodLink RL 27 yX5_country ∈ wds := wd_1 209 rfl rfl
theorem ml_RX5_77 : Cond.methodLink RX5 77 yX2_readFrom ∈ wds := wd_1 213 rfl rfl
theorem ml_RX2_45 : Cond.methodLink RX2 45 yX2_addField ∈ wds := wd_1 217 rfl rfl
theorem ml_RX2_52 : Cond.methodLink RX2 52 yX3_figure ∈ wds := wd_1 221 rfl rfl
theorem ml_RX2_49 : Cond.methodLink RX2 49 yX2_addEater ∈ wds := wd_1 225 rfl rfl
theorem ml_RX5_81 : Cond.methodLink RX5 81 yX1_beginAnew ∈ wds := wd_1 229 rfl rfl
theorem ml_RL_31 : Cond.methodLink RL 31 yX5_about ∈ wds := wd_1 233 rfl rfl
theorem ml_RX5_96 : Cond.methodLink RX5 96 yX1_allLoaves ∈ wds := wd_1 237 rfl rfl
theorem ml_RX5_99 : Cond.methodLink RX5 99 yX1_allSeed ∈ wds := wd_2 1 rfl rfl
theorem ml_RX5_102 : Cond.methodLink RX5 102 yX1_allDebts ∈ wds := wd_2 5 rfl rfl
theorem ml_RX1_56 : Cond.methodLink RX1 56 yX1_debtsOf ∈ wds := wd_2 9 rfl rfl
theorem ml_RX1_49 : Cond.methodLink RX1 49 yX1_debt ∈ wds := wd_2 13 rfl rfl
theorem ml_RX5_105 : Cond.methodLink RX5 105 yX1_sownFields ∈ wds := wd_2 17 rfl rfl
theorem ml_RX1_63 : Cond.methodLink RX1 63 yX1_isSown ∈ wds := wd_2 21 rfl rfl
theorem ml_RX5_108 : Cond.methodLink RX5 108 yX2_allEaters ∈ wds := wd_2 25 rfl rfl
theorem ml_RX5_111 : Cond.methodLink RX5 111 yX5_sownIfCome ∈ wds := wd_2 29 rfl rfl
theorem ml_RX5_184 : Cond.methodLink RX5 184 yX1_copyFrom ∈ wds := wd_2 33 rfl rfl
theorem ml_RX1_43 : Cond.methodLink RX1 43 arraycopyName ∈ wds := wd_2 37 rfl rfl
theorem ml_RX5_175 : Cond.methodLink RX5 175 yX1_callOut ∈ wds := wd_2 40 rfl rfl
theorem ml_RX1_81 : Cond.methodLink RX1 81 yX1_sendOut ∈ wds := wd_2 44 rfl rfl
theorem ml_RX1_88 : Cond.methodLink RX1 88 yX1_nearestOwed ∈ wds := wd_2 48 rfl rfl
theorem ml_RX1_94 : Cond.methodLink RX1 94 Lib.Math.abs.name ∈ wds := wd_2 52 rfl rfl
theorem ml_RX1_97 : Cond.methodLink RX1 97 yX1_bringSeed ∈ wds := wd_2 55 rfl rfl
theorem ml_RX1_73 : Cond.methodLink RX1 73 Lib.Math.min.name ∈ wds := wd_2 59 rfl rfl
theorem ml_RL_35 : Cond.methodLink RL 35 yX5_field ∈ wds := wd_2 62 rfl rfl
theorem ml_RX5_116 : Cond.methodLink RX5 116 yX2_hasField ∈ wds := wd_2 66 rfl rfl
theorem ml_RX5_135 : Cond.methodLink RX5 135 yX1_debtorsOf ∈ wds := wd_2 70 rfl rfl
theorem ml_RL_40 : Cond.methodLink RL 40 yX5_eater ∈ wds := wd_2 74 rfl rfl
theorem ml_RX5_138 : Cond.methodLink RX5 138 yX2_hasEater ∈ wds := wd_2 78 rfl rfl
theorem ml_RX5_150 : Cond.methodLink RX5 150 yX1_debtsOf ∈ wds := wd_2 82 rfl rfl
theorem ml_RL_44 : Cond.methodLink RL 44 yX5_owes ∈ wds := wd_2 83 rfl rfl
theorem ml_RX5_159 : Cond.methodLink RX5 159 yX1_debt ∈ wds := wd_2 87 rfl rfl
theorem ml_RL_48 : Cond.methodLink RL 48 yX5_eat ∈ wds := wd_2 88 rfl rfl
theorem ml_RX5_163 : Cond.methodLink RX5 163 yX1_canTake ∈ wds := wd_2 92 rfl rfl
theorem ml_RX1_70 : Cond.methodLink RX1 70 yX2_portionOf ∈ wds := wd_2 96 rfl rfl
theorem ml_RX5_167 : Cond.methodLink RX5 167 yX0_remember ∈ wds := wd_2 100 rfl rfl
theorem ml_RX0_27 : Cond.methodLink RX0 27 yX1_copyFrom ∈ wds := wd_2 104 rfl rfl
theorem ml_RX5_171 : Cond.methodLink RX5 171 yX1_takeLoaves ∈ wds := wd_2 105 rfl rfl
theorem ml_RL_52 : Cond.methodLink RL 52 yX5_cake ∈ wds := wd_2 109 rfl rfl
theorem ml_RL_57 : Cond.methodLink RL 57 yX5_march ∈ wds := wd_2 113 rfl rfl
theorem ml_RL_61 : Cond.methodLink RL 61 yX5_harvest ∈ wds := wd_2 117 rfl rfl
theorem ml_RX5_178 : Cond.methodLink RX5 178 yX1_reap ∈ wds := wd_2 121 rfl rfl
theorem ml_RL_65 : Cond.methodLink RL 65 yX5_undo ∈ wds := wd_2 125 rfl rfl
theorem ml_RX5_181 : Cond.methodLink RX5 181 yX0_takeBackInto ∈ wds := wd_2 129 rfl rfl
theorem ml_RL_69 : Cond.methodLink RL 69 yX5_ahead ∈ wds := wd_2 133 rfl rfl
theorem ml_RL_73 : Cond.methodLink RL 73 yX5_wants ∈ wds := wd_2 137 rfl rfl
theorem ml_RX5_187 : Cond.methodLink RX5 187 yJ6_bitCount_0f7a4 ∈ wds := wd_2 141 rfl rfl
theorem ml_RX5_192 : Cond.methodLink RX5 192 yX5_isSownIfFed ∈ wds := wd_2 147 rfl rfl
theorem ml_RX5_244 : Cond.methodLink RX5 244 yX5_tryToTake ∈ wds := wd_2 151 rfl rfl
theorem ml_RX5_247 : Cond.methodLink RX5 247 yX1_isSown ∈ wds := wd_2 155 rfl rfl
theorem ml_RL_77 : Cond.methodLink RL 77 yX5_rid ∈ wds := wd_2 156 rfl rfl
theorem ml_RX5_195 : Cond.methodLink RX5 195 yX1_sendOut ∈ wds := wd_2 160 rfl rfl
theorem ml_RL_83 : Cond.methodLink RL 83 yX5_judge ∈ wds := wd_2 161 rfl rfl
theorem ml_RX5_198 : Cond.methodLink RX5 198 yX5_withoutLast ∈ wds := wd_2 165 rfl rfl
theorem ml_RX5_204 : Cond.methodLink RX5 204 yX5_isSo ∈ wds := wd_2 169 rfl rfl
theorem ml_RL_88 : Cond.methodLink RL 88 yX5_share ∈ wds := wd_2 173 rfl rfl
theorem ml_RX5_208 : Cond.methodLink RX5 208 yX5_ordersOf ∈ wds := wd_2 177 rfl rfl
theorem ml_RX5_212 : Cond.methodLink RX5 212 yX5_partOfFraction ∈ wds := wd_2 180 rfl rfl
theorem ml_RL_93 : Cond.methodLink RL 93 yX5_came ∈ wds := wd_2 183 rfl rfl
theorem ml_RX5_216 : Cond.methodLink RX5 216 yX4_add ∈ wds := wd_2 187 rfl rfl
theorem ml_RL_97 : Cond.methodLink RL 97 yX5_forget ∈ wds := wd_2 191 rfl rfl
theorem ml_RL_101 : Cond.methodLink RL 101 yX5_strangers ∈ wds := wd_2 195 rfl rfl
theorem ml_RX5_220 : Cond.methodLink RX5 220 yX4_allowFor ∈ wds := wd_2 199 rfl rfl
theorem ml_RX4_23 : Cond.methodLink RX4 23 Lib.Math.abs.name ∈ wds := wd_2 203 rfl rfl
theorem ml_RL_105 : Cond.methodLink RL 105 yX5_rests ∈ wds := wd_2 204 rfl rfl
theorem ml_RX5_223 : Cond.methodLink RX5 223 yX5_playPair ∈ wds := wd_2 208 rfl rfl
theorem ml_RX5_227 : Cond.methodLink RX5 227 yX5_isAtRest ∈ wds := wd_2 212 rfl rfl
theorem ml_RL_110 : Cond.methodLink RL 110 yX5_home ∈ wds := wd_2 216 rfl rfl
theorem ml_RX5_230 : Cond.methodLink RX5 230 yX5_power ∈ wds := wd_2 220 rfl rfl
theorem ml_RL_115 : Cond.methodLink RL 115 yX5_seed ∈ wds := wd_2 224 rfl rfl
theorem ml_RL_120 : Cond.methodLink RL 120 yX5_years ∈ wds := wd_2 228 rfl rfl
theorem ml_RX5_241 : Cond.methodLink RX5 241 yX5_doByLot ∈ wds := wd_2 235 rfl rfl
theorem ml_RL_124 : Cond.methodLink RL 124 yX5_keep ∈ wds := wd_2 239 rfl rfl
theorem ml_RL_128 : Cond.methodLink RL 128 yX5_again ∈ wds := wd_3 3 rfl rfl
theorem ml_RL_12 : Cond.methodLink RL 12 yX6_init ∈ wds := wd_3 9 rfl rfl
theorem ml_RX6_1 : Cond.methodLink RX6 1 objectInit ∈ wds := wd_3 12 rfl rfl
theorem ml_RL_17 : Cond.methodLink RL 17 yX6_write ∈ wds := wd_3 116 rfl rfl
theorem ml_RX6_75 : Cond.methodLink RX6 75 yX6_in ∈ wds := wd_3 121 rfl rfl
theorem ml_RL_22 : Cond.methodLink RL 22 yX6_wipe ∈ wds := wd_3 124 rfl rfl
theorem ml_RL_26 : Cond.methodLink RL 26 yX6_fault ∈ wds := wd_3 128 rfl rfl
theorem ml_RX6_110 : Cond.methodLink RX6 110 yX6_readCountry ∈ wds := wd_3 132 rfl rfl
theorem ml_RX6_107 : Cond.methodLink RX6 107 yX6_readThing ∈ wds := wd_3 136 rfl rfl
theorem ml_RX6_100 : Cond.methodLink RX6 100 yX6_readOneField ∈ wds := wd_3 140 rfl rfl
theorem ml_RX6_90 : Cond.methodLink RX6 90 yX6_figure ∈ wds := wd_3 144 rfl rfl
theorem ml_RX6_104 : Cond.methodLink RX6 104 yX6_readOneEater ∈ wds := wd_3 148 rfl rfl
theorem ml_RL_30 : Cond.methodLink RL 30 yX6_country ∈ wds := wd_3 152 rfl rfl
theorem ml_RL_34 : Cond.methodLink RL 34 yX6_about ∈ wds := wd_3 156 rfl rfl
theorem ml_RX6_145 : Cond.methodLink RX6 145 yX6_loaves ∈ wds := wd_3 160 rfl rfl
theorem ml_RX6_158 : Cond.methodLink RX6 158 yX6_owedTogether ∈ wds := wd_3 163 rfl rfl
theorem ml_RX6_148 : Cond.methodLink RX6 148 yX6_owesAll ∈ wds := wd_3 167 rfl rfl
theorem ml_RX6_117 : Cond.methodLink RX6 117 yX6_owed ∈ wds := wd_3 170 rfl rfl
theorem ml_RX6_141 : Cond.methodLink RX6 141 yX6_sown ∈ wds := wd_3 173 rfl rfl
theorem ml_RX6_161 : Cond.methodLink RX6 161 yX6_marched ∈ wds := wd_3 177 rfl rfl
theorem ml_RX6_152 : Cond.methodLink RX6 152 yX6_begin ∈ wds := wd_3 181 rfl rfl
theorem ml_RX6_155 : Cond.methodLink RX6 155 yX6_goMarch ∈ wds := wd_3 185 rfl rfl
theorem ml_RX6_134 : Cond.methodLink RX6 134 yX6_has ∈ wds := wd_3 189 rfl rfl
theorem ml_RX6_138 : Cond.methodLink RX6 138 yX6_goes ∈ wds := wd_3 192 rfl rfl
theorem ml_RX6_127 : Cond.methodLink RX6 127 yX6_nearest ∈ wds := wd_3 196 rfl rfl
theorem ml_RX6_121 : Cond.methodLink RX6 121 yX6_apart ∈ wds := wd_3 200 rfl rfl
theorem ml_RX6_130 : Cond.methodLink RX6 130 yX6_capped ∈ wds := wd_3 203 rfl rfl
theorem ml_RL_39 : Cond.methodLink RL 39 yX6_field ∈ wds := wd_3 206 rfl rfl
theorem ml_RX6_167 : Cond.methodLink RX6 167 yX6_noField ∈ wds := wd_3 210 rfl rfl
theorem ml_RX6_171 : Cond.methodLink RX6 171 yX6_owing ∈ wds := wd_3 214 rfl rfl
theorem ml_RL_43 : Cond.methodLink RL 43 yX6_eater ∈ wds := wd_3 218 rfl rfl
theorem ml_RX6_174 : Cond.methodLink RX6 174 yX6_noEater ∈ wds := wd_3 222 rfl rfl
theorem ml_RL_47 : Cond.methodLink RL 47 yX6_owes ∈ wds := wd_3 226 rfl rfl
theorem ml_RL_51 : Cond.methodLink RL 51 yX6_eat ∈ wds := wd_3 230 rfl rfl
theorem ml_RX6_180 : Cond.methodLink RX6 180 yX6_canEat ∈ wds := wd_3 234 rfl rfl
theorem ml_RX6_177 : Cond.methodLink RX6 177 yX6_bite ∈ wds := wd_3 238 rfl rfl
theorem ml_RX6_184 : Cond.methodLink RX6 184 yX6_note ∈ wds := wd_4 2 rfl rfl
theorem ml_RX6_187 : Cond.methodLink RX6 187 yX6_goEat ∈ wds := wd_4 6 rfl rfl
theorem ml_RL_56 : Cond.methodLink RL 56 yX6_cake ∈ wds := wd_4 10 rfl rfl
theorem ml_RL_60 : Cond.methodLink RL 60 yX6_march ∈ wds := wd_4 14 rfl rfl
theorem ml_RL_64 : Cond.methodLink RL 64 yX6_harvest ∈ wds := wd_4 18 rfl rfl
theorem ml_RX6_191 : Cond.methodLink RX6 191 yX6_goHarvest ∈ wds := wd_4 22 rfl rfl
theorem ml_RL_68 : Cond.methodLink RL 68 yX6_undo ∈ wds := wd_4 26 rfl rfl
theorem ml_RL_72 : Cond.methodLink RL 72 yX6_ahead ∈ wds := wd_4 30 rfl rfl
theorem ml_RL_76 : Cond.methodLink RL 76 yX6_wants ∈ wds := wd_4 35 rfl rfl
theorem ml_RX6_196 : Cond.methodLink RX6 196 yX6_many ∈ wds := wd_4 39 rfl rfl
theorem ml_RX6_199 : Cond.methodLink RX6 199 yX6_isSownBy ∈ wds := wd_4 42 rfl rfl
theorem ml_RL_80 : Cond.methodLink RL 80 yX6_rid ∈ wds := wd_4 46 rfl rfl
theorem ml_RL_87 : Cond.methodLink RL 87 yX6_judge ∈ wds := wd_4 50 rfl rfl
theorem ml_RX6_209 : Cond.methodLink RX6 209 yX6_longPower ∈ wds := wd_4 56 rfl rfl
theorem ml_RX6_213 : Cond.methodLink RX6 213 yX6_does ∈ wds := wd_4 59 rfl rfl
theorem ml_RX6_202 : Cond.methodLink RX6 202 yX6_eats ∈ wds := wd_4 63 rfl rfl
theorem ml_RL_92 : Cond.methodLink RL 92 yX6_share ∈ wds := wd_4 67 rfl rfl
theorem ml_RX6_219 : Cond.methodLink RX6 219 yX6_ways ∈ wds := wd_4 71 rfl rfl
theorem ml_RX6_222 : Cond.methodLink RX6 222 yX6_fraction ∈ wds := wd_4 74 rfl rfl
theorem ml_RX6_216 : Cond.methodLink RX6 216 yX6_divisor ∈ wds := wd_4 77 rfl rfl
theorem ml_RL_96 : Cond.methodLink RL 96 yX6_came ∈ wds := wd_4 80 rfl rfl
theorem ml_RL_100 : Cond.methodLink RL 100 yX6_forget ∈ wds := wd_4 84 rfl rfl
theorem ml_RL_104 : Cond.methodLink RL 104 yX6_strangers ∈ wds := wd_4 88 rfl rfl
theorem ml_RL_109 : Cond.methodLink RL 109 yX6_rests ∈ wds := wd_4 92 rfl rfl
theorem ml_RL_114 : Cond.methodLink RL 114 yX6_home ∈ wds := wd_4 96 rfl rfl
theorem ml_RX6_240 : Cond.methodLink RX6 240 yX6_power ∈ wds := wd_4 101 rfl rfl
theorem ml_RL_119 : Cond.methodLink RL 119 yX6_seed ∈ wds := wd_4 104 rfl rfl
theorem ml_RL_123 : Cond.methodLink RL 123 yX6_years ∈ wds := wd_4 108 rfl rfl
theorem ml_RL_127 : Cond.methodLink RL 127 yX6_keep ∈ wds := wd_4 116 rfl rfl
theorem ml_RL_131 : Cond.methodLink RL 131 yX6_again ∈ wds := wd_4 120 rfl rfl
theorem im_yX5_init : Cond.instanceMethod yX5_init ∈ wds := wd_1 14 rfl rfl
theorem im_objectInit : Cond.instanceMethod objectInit ∈ wds := wd_1 17 rfl rfl
theorem im_yX3_init : Cond.instanceMethod yX3_init ∈ wds := wd_1 22 rfl rfl
theorem im_yX2_init : Cond.instanceMethod yX2_init ∈ wds := wd_1 39 rfl rfl
theorem im_yX1_init : Cond.instanceMethod yX1_init ∈ wds := wd_1 86 rfl rfl
theorem im_yX0_init : Cond.instanceMethod yX0_init ∈ wds := wd_1 119 rfl rfl
theorem im_yX4_init : Cond.instanceMethod yX4_init ∈ wds := wd_1 139 rfl rfl
theorem im_yX5_write : Cond.instanceMethod yX5_write ∈ wds := wd_1 186 rfl rfl
theorem se_yX5_write : Cond.selects RX5 yX5_write yX5_write ∈ wds := wd_1 187 rfl rfl
theorem im_yX3_append : Cond.instanceMethod yX3_append ∈ wds := wd_1 190 rfl rfl
theorem se_yX3_append : Cond.selects RX3 yX3_append yX3_append ∈ wds := wd_1 191 rfl rfl
theorem im_yX5_wipe : Cond.instanceMethod yX5_wipe ∈ wds := wd_1 194 rfl rfl
theorem se_yX5_wipe : Cond.selects RX5 yX5_wipe yX5_wipe ∈ wds := wd_1 195 rfl rfl
theorem im_yX5_fault : Cond.instanceMethod yX5_fault ∈ wds := wd_1 198 rfl rfl
theorem se_yX5_fault : Cond.selects RX5 yX5_fault yX5_fault ∈ wds := wd_1 199 rfl rfl
theorem im_yX3_firstFault : Cond.instanceMethod yX3_firstFault ∈ wds := wd_1 202 rfl rfl
theorem se_yX3_firstFault : Cond.selects RX3 yX3_firstFault yX3_firstFault ∈ wds := wd_1 203 rfl rfl
theorem im_yX3_faultOfThing : Cond.instanceMethod yX3_faultOfThing ∈ wds := wd_1 207 rfl rfl
theorem im_yX5_country : Cond.instanceMethod yX5_country ∈ wds := wd_1 210 rfl rfl
theorem se_yX5_country : Cond.selects RX5 yX5_country yX5_country ∈ wds := wd_1 211 rfl rfl
theorem im_yX2_readFrom : Cond.instanceMethod yX2_readFrom ∈ wds := wd_1 214 rfl rfl
theorem se_yX2_readFrom : Cond.selects RX2 yX2_readFrom yX2_readFrom ∈ wds := wd_1 215 rfl rfl
theorem im_yX2_addField : Cond.instanceMethod yX2_addField ∈ wds := wd_1 219 rfl rfl
theorem im_yX3_figure : Cond.instanceMethod yX3_figure ∈ wds := wd_1 222 rfl rfl
theorem se_yX3_figure : Cond.selects RX3 yX3_figure yX3_figure ∈ wds := wd_1 223 rfl rfl
theorem im_yX2_addEater : Cond.instanceMethod yX2_addEater ∈ wds := wd_1 227 rfl rfl
theorem im_yX1_beginAnew : Cond.instanceMethod yX1_beginAnew ∈ wds := wd_1 230 rfl rfl
theorem se_yX1_beginAnew : Cond.selects RX1 yX1_beginAnew yX1_beginAnew ∈ wds := wd_1 231 rfl rfl
theorem im_yX5_about : Cond.instanceMethod yX5_about ∈ wds := wd_1 234 rfl rfl
theorem se_yX5_about : Cond.selects RX5 yX5_about yX5_about ∈ wds := wd_1 235 rfl rfl
theorem im_yX1_allLoaves : Cond.instanceMethod yX1_allLoaves ∈ wds := wd_1 238 rfl rfl
theorem se_yX1_allLoaves : Cond.selects RX1 yX1_allLoaves yX1_allLoaves ∈ wds := wd_1 239 rfl rfl
theorem im_yX1_allSeed : Cond.instanceMethod yX1_allSeed ∈ wds := wd_2 2 rfl rfl
theorem se_yX1_allSeed : Cond.selects RX1 yX1_allSeed yX1_allSeed ∈ wds := wd_2 3 rfl rfl
theorem im_yX1_allDebts : Cond.instanceMethod yX1_allDebts ∈ wds := wd_2 6 rfl rfl
theorem se_yX1_allDebts : Cond.selects RX1 yX1_allDebts yX1_allDebts ∈ wds := wd_2 7 rfl rfl
theorem im_yX1_debtsOf : Cond.instanceMethod yX1_debtsOf ∈ wds := wd_2 10 rfl rfl
theorem se_yX1_debtsOf : Cond.selects RX1 yX1_debtsOf yX1_debtsOf ∈ wds := wd_2 11 rfl rfl
theorem im_yX1_debt : Cond.instanceMethod yX1_debt ∈ wds := wd_2 14 rfl rfl
theorem se_yX1_debt : Cond.selects RX1 yX1_debt yX1_debt ∈ wds := wd_2 15 rfl rfl
theorem im_yX1_sownFields : Cond.instanceMethod yX1_sownFields ∈ wds := wd_2 18 rfl rfl
theorem se_yX1_sownFields : Cond.selects RX1 yX1_sownFields yX1_sownFields ∈ wds := wd_2 19 rfl rfl
theorem im_yX1_isSown : Cond.instanceMethod yX1_isSown ∈ wds := wd_2 22 rfl rfl
theorem se_yX1_isSown : Cond.selects RX1 yX1_isSown yX1_isSown ∈ wds := wd_2 23 rfl rfl
theorem im_yX2_allEaters : Cond.instanceMethod yX2_allEaters ∈ wds := wd_2 26 rfl rfl
theorem se_yX2_allEaters : Cond.selects RX2 yX2_allEaters yX2_allEaters ∈ wds := wd_2 27 rfl rfl
theorem im_yX5_sownIfCome : Cond.instanceMethod yX5_sownIfCome ∈ wds := wd_2 31 rfl rfl
theorem im_yX1_copyFrom : Cond.instanceMethod yX1_copyFrom ∈ wds := wd_2 34 rfl rfl
theorem se_yX1_copyFrom : Cond.selects RX1 yX1_copyFrom yX1_copyFrom ∈ wds := wd_2 35 rfl rfl
theorem sm_arraycopyName : Cond.static arraycopyName ∈ wds := wd_2 38 rfl rfl
theorem nm_arraycopyName : Cond.native arraycopyName ∈ wds := wd_2 39 rfl rfl
theorem im_yX1_callOut : Cond.instanceMethod yX1_callOut ∈ wds := wd_2 41 rfl rfl
theorem se_yX1_callOut : Cond.selects RX1 yX1_callOut yX1_callOut ∈ wds := wd_2 42 rfl rfl
theorem im_yX1_sendOut : Cond.instanceMethod yX1_sendOut ∈ wds := wd_2 45 rfl rfl
theorem se_yX1_sendOut : Cond.selects RX1 yX1_sendOut yX1_sendOut ∈ wds := wd_2 46 rfl rfl
theorem im_yX1_nearestOwed : Cond.instanceMethod yX1_nearestOwed ∈ wds := wd_2 50 rfl rfl
theorem sm_Lib_Math_abs_name : Cond.static Lib.Math.abs.name ∈ wds := wd_2 53 rfl rfl
theorem im_yX1_bringSeed : Cond.instanceMethod yX1_bringSeed ∈ wds := wd_2 57 rfl rfl
theorem sm_Lib_Math_min_name : Cond.static Lib.Math.min.name ∈ wds := wd_2 60 rfl rfl
theorem im_yX5_field : Cond.instanceMethod yX5_field ∈ wds := wd_2 63 rfl rfl
theorem se_yX5_field : Cond.selects RX5 yX5_field yX5_field ∈ wds := wd_2 64 rfl rfl
theorem im_yX2_hasField : Cond.instanceMethod yX2_hasField ∈ wds := wd_2 67 rfl rfl
theorem se_yX2_hasField : Cond.selects RX2 yX2_hasField yX2_hasField ∈ wds := wd_2 68 rfl rfl
theorem im_yX1_debtorsOf : Cond.instanceMethod yX1_debtorsOf ∈ wds := wd_2 71 rfl rfl
theorem se_yX1_debtorsOf : Cond.selects RX1 yX1_debtorsOf yX1_debtorsOf ∈ wds := wd_2 72 rfl rfl
theorem im_yX5_eater : Cond.instanceMethod yX5_eater ∈ wds := wd_2 75 rfl rfl
theorem se_yX5_eater : Cond.selects RX5 yX5_eater yX5_eater ∈ wds := wd_2 76 rfl rfl
theorem im_yX2_hasEater : Cond.instanceMethod yX2_hasEater ∈ wds := wd_2 79 rfl rfl
theorem se_yX2_hasEater : Cond.selects RX2 yX2_hasEater yX2_hasEater ∈ wds := wd_2 80 rfl rfl
theorem im_yX5_owes : Cond.instanceMethod yX5_owes ∈ wds := wd_2 84 rfl rfl
theorem se_yX5_owes : Cond.selects RX5 yX5_owes yX5_owes ∈ wds := wd_2 85 rfl rfl
theorem im_yX5_eat : Cond.instanceMethod yX5_eat ∈ wds := wd_2 89 rfl rfl
theorem se_yX5_eat : Cond.selects RX5 yX5_eat yX5_eat ∈ wds := wd_2 90 rfl rfl
theorem im_yX1_canTake : Cond.instanceMethod yX1_canTake ∈ wds := wd_2 93 rfl rfl
theorem se_yX1_canTake : Cond.selects RX1 yX1_canTake yX1_canTake ∈ wds := wd_2 94 rfl rfl
theorem im_yX2_portionOf : Cond.instanceMethod yX2_portionOf ∈ wds := wd_2 97 rfl rfl
theorem se_yX2_portionOf : Cond.selects RX2 yX2_portionOf yX2_portionOf ∈ wds := wd_2 98 rfl rfl
theorem im_yX0_remember : Cond.instanceMethod yX0_remember ∈ wds := wd_2 101 rfl rfl
theorem se_yX0_remember : Cond.selects RX0 yX0_remember yX0_remember ∈ wds := wd_2 102 rfl rfl
theorem im_yX1_takeLoaves : Cond.instanceMethod yX1_takeLoaves ∈ wds := wd_2 106 rfl rfl
theorem se_yX1_takeLoaves : Cond.selects RX1 yX1_takeLoaves yX1_takeLoaves ∈ wds := wd_2 107 rfl rfl
theorem im_yX5_cake : Cond.instanceMethod yX5_cake ∈ wds := wd_2 110 rfl rfl
theorem se_yX5_cake : Cond.selects RX5 yX5_cake yX5_cake ∈ wds := wd_2 111 rfl rfl
theorem im_yX5_march : Cond.instanceMethod yX5_march ∈ wds := wd_2 114 rfl rfl
theorem se_yX5_march : Cond.selects RX5 yX5_march yX5_march ∈ wds := wd_2 115 rfl rfl
theorem im_yX5_harvest : Cond.instanceMethod yX5_harvest ∈ wds := wd_2 118 rfl rfl
theorem se_yX5_harvest : Cond.selects RX5 yX5_harvest yX5_harvest ∈ wds := wd_2 119 rfl rfl
theorem im_yX1_reap : Cond.instanceMethod yX1_reap ∈ wds := wd_2 122 rfl rfl
theorem se_yX1_reap : Cond.selects RX1 yX1_reap yX1_reap ∈ wds := wd_2 123 rfl rfl
theorem im_yX5_undo : Cond.instanceMethod yX5_undo ∈ wds := wd_2 126 rfl rfl
theorem se_yX5_undo : Cond.selects RX5 yX5_undo yX5_undo ∈ wds := wd_2 127 rfl rfl
theorem im_yX0_takeBackInto : Cond.instanceMethod yX0_takeBackInto ∈ wds := wd_2 130 rfl rfl
theorem se_yX0_takeBackInto : Cond.selects RX0 yX0_takeBackInto yX0_takeBackInto ∈ wds := wd_2 131 rfl rfl
theorem im_yX5_ahead : Cond.instanceMethod yX5_ahead ∈ wds := wd_2 134 rfl rfl
theorem se_yX5_ahead : Cond.selects RX5 yX5_ahead yX5_ahead ∈ wds := wd_2 135 rfl rfl
theorem im_yX5_wants : Cond.instanceMethod yX5_wants ∈ wds := wd_2 138 rfl rfl
theorem se_yX5_wants : Cond.selects RX5 yX5_wants yX5_wants ∈ wds := wd_2 139 rfl rfl
theorem sm_yJ6_bitCount_0f7a4 : Cond.static yJ6_bitCount_0f7a4 ∈ wds := wd_2 142 rfl rfl
theorem im_yX5_isSownIfFed : Cond.instanceMethod yX5_isSownIfFed ∈ wds := wd_2 149 rfl rfl
theorem im_yX5_tryToTake : Cond.instanceMethod yX5_tryToTake ∈ wds := wd_2 153 rfl rfl
theorem im_yX5_rid : Cond.instanceMethod yX5_rid ∈ wds := wd_2 157 rfl rfl
theorem se_yX5_rid : Cond.selects RX5 yX5_rid yX5_rid ∈ wds := wd_2 158 rfl rfl
theorem im_yX5_judge : Cond.instanceMethod yX5_judge ∈ wds := wd_2 162 rfl rfl
theorem se_yX5_judge : Cond.selects RX5 yX5_judge yX5_judge ∈ wds := wd_2 163 rfl rfl
theorem sm_yX5_withoutLast : Cond.static yX5_withoutLast ∈ wds := wd_2 166 rfl rfl
theorem im_yX5_isSo : Cond.instanceMethod yX5_isSo ∈ wds := wd_2 171 rfl rfl
theorem im_yX5_share : Cond.instanceMethod yX5_share ∈ wds := wd_2 174 rfl rfl
theorem se_yX5_share : Cond.selects RX5 yX5_share yX5_share ∈ wds := wd_2 175 rfl rfl
theorem sm_yX5_ordersOf : Cond.static yX5_ordersOf ∈ wds := wd_2 178 rfl rfl
theorem sm_yX5_partOfFraction : Cond.static yX5_partOfFraction ∈ wds := wd_2 181 rfl rfl
theorem im_yX5_came : Cond.instanceMethod yX5_came ∈ wds := wd_2 184 rfl rfl
theorem se_yX5_came : Cond.selects RX5 yX5_came yX5_came ∈ wds := wd_2 185 rfl rfl
theorem im_yX4_add : Cond.instanceMethod yX4_add ∈ wds := wd_2 188 rfl rfl
theorem se_yX4_add : Cond.selects RX4 yX4_add yX4_add ∈ wds := wd_2 189 rfl rfl
theorem im_yX5_forget : Cond.instanceMethod yX5_forget ∈ wds := wd_2 192 rfl rfl
theorem se_yX5_forget : Cond.selects RX5 yX5_forget yX5_forget ∈ wds := wd_2 193 rfl rfl
theorem im_yX5_strangers : Cond.instanceMethod yX5_strangers ∈ wds := wd_2 196 rfl rfl
theorem se_yX5_strangers : Cond.selects RX5 yX5_strangers yX5_strangers ∈ wds := wd_2 197 rfl rfl
theorem im_yX4_allowFor : Cond.instanceMethod yX4_allowFor ∈ wds := wd_2 200 rfl rfl
theorem se_yX4_allowFor : Cond.selects RX4 yX4_allowFor yX4_allowFor ∈ wds := wd_2 201 rfl rfl
theorem im_yX5_rests : Cond.instanceMethod yX5_rests ∈ wds := wd_2 205 rfl rfl
theorem se_yX5_rests : Cond.selects RX5 yX5_rests yX5_rests ∈ wds := wd_2 206 rfl rfl
theorem im_yX5_playPair : Cond.instanceMethod yX5_playPair ∈ wds := wd_2 210 rfl rfl
theorem im_yX5_isAtRest : Cond.instanceMethod yX5_isAtRest ∈ wds := wd_2 214 rfl rfl
theorem im_yX5_home : Cond.instanceMethod yX5_home ∈ wds := wd_2 217 rfl rfl
theorem se_yX5_home : Cond.selects RX5 yX5_home yX5_home ∈ wds := wd_2 218 rfl rfl
theorem sm_yX5_power : Cond.static yX5_power ∈ wds := wd_2 221 rfl rfl
theorem im_yX5_seed : Cond.instanceMethod yX5_seed ∈ wds := wd_2 225 rfl rfl
theorem se_yX5_seed : Cond.selects RX5 yX5_seed yX5_seed ∈ wds := wd_2 226 rfl rfl
theorem im_yX5_years : Cond.instanceMethod yX5_years ∈ wds := wd_2 229 rfl rfl
theorem se_yX5_years : Cond.selects RX5 yX5_years yX5_years ∈ wds := wd_2 230 rfl rfl
theorem im_yX5_doByLot : Cond.instanceMethod yX5_doByLot ∈ wds := wd_2 237 rfl rfl
theorem im_yX5_keep : Cond.instanceMethod yX5_keep ∈ wds := wd_3 0 rfl rfl
theorem se_yX5_keep : Cond.selects RX5 yX5_keep yX5_keep ∈ wds := wd_3 1 rfl rfl
theorem im_yX5_again : Cond.instanceMethod yX5_again ∈ wds := wd_3 4 rfl rfl
theorem se_yX5_again : Cond.selects RX5 yX5_again yX5_again ∈ wds := wd_3 5 rfl rfl
theorem im_yX6_init : Cond.instanceMethod yX6_init ∈ wds := wd_3 10 rfl rfl
theorem im_yX6_write : Cond.instanceMethod yX6_write ∈ wds := wd_3 117 rfl rfl
theorem se_yX6_write : Cond.selects RX6 yX6_write yX6_write ∈ wds := wd_3 118 rfl rfl
theorem sm_yX6_in : Cond.static yX6_in ∈ wds := wd_3 122 rfl rfl
theorem im_yX6_wipe : Cond.instanceMethod yX6_wipe ∈ wds := wd_3 125 rfl rfl
theorem se_yX6_wipe : Cond.selects RX6 yX6_wipe yX6_wipe ∈ wds := wd_3 126 rfl rfl
theorem im_yX6_fault : Cond.instanceMethod yX6_fault ∈ wds := wd_3 129 rfl rfl
theorem se_yX6_fault : Cond.selects RX6 yX6_fault yX6_fault ∈ wds := wd_3 130 rfl rfl
theorem im_yX6_readCountry : Cond.instanceMethod yX6_readCountry ∈ wds := wd_3 134 rfl rfl
theorem im_yX6_readThing : Cond.instanceMethod yX6_readThing ∈ wds := wd_3 138 rfl rfl
theorem im_yX6_readOneField : Cond.instanceMethod yX6_readOneField ∈ wds := wd_3 142 rfl rfl
theorem im_yX6_figure : Cond.instanceMethod yX6_figure ∈ wds := wd_3 146 rfl rfl
theorem im_yX6_readOneEater : Cond.instanceMethod yX6_readOneEater ∈ wds := wd_3 150 rfl rfl
theorem im_yX6_country : Cond.instanceMethod yX6_country ∈ wds := wd_3 153 rfl rfl
theorem se_yX6_country : Cond.selects RX6 yX6_country yX6_country ∈ wds := wd_3 154 rfl rfl
theorem im_yX6_about : Cond.instanceMethod yX6_about ∈ wds := wd_3 157 rfl rfl
theorem se_yX6_about : Cond.selects RX6 yX6_about yX6_about ∈ wds := wd_3 158 rfl rfl
theorem sm_yX6_loaves : Cond.static yX6_loaves ∈ wds := wd_3 161 rfl rfl
theorem im_yX6_owedTogether : Cond.instanceMethod yX6_owedTogether ∈ wds := wd_3 165 rfl rfl
theorem sm_yX6_owesAll : Cond.static yX6_owesAll ∈ wds := wd_3 168 rfl rfl
theorem sm_yX6_owed : Cond.static yX6_owed ∈ wds := wd_3 171 rfl rfl
theorem im_yX6_sown : Cond.instanceMethod yX6_sown ∈ wds := wd_3 175 rfl rfl
theorem im_yX6_marched : Cond.instanceMethod yX6_marched ∈ wds := wd_3 179 rfl rfl
theorem im_yX6_begin : Cond.instanceMethod yX6_begin ∈ wds := wd_3 183 rfl rfl
theorem im_yX6_goMarch : Cond.instanceMethod yX6_goMarch ∈ wds := wd_3 187 rfl rfl
theorem sm_yX6_has : Cond.static yX6_has ∈ wds := wd_3 190 rfl rfl
theorem im_yX6_goes : Cond.instanceMethod yX6_goes ∈ wds := wd_3 194 rfl rfl
theorem im_yX6_nearest : Cond.instanceMethod yX6_nearest ∈ wds := wd_3 198 rfl rfl
theorem sm_yX6_apart : Cond.static yX6_apart ∈ wds := wd_3 201 rfl rfl
theorem sm_yX6_capped : Cond.static yX6_capped ∈ wds := wd_3 204 rfl rfl
theorem im_yX6_field : Cond.instanceMethod yX6_field ∈ wds := wd_3 207 rfl rfl
theorem se_yX6_field : Cond.selects RX6 yX6_field yX6_field ∈ wds := wd_3 208 rfl rfl
theorem im_yX6_noField : Cond.instanceMethod yX6_noField ∈ wds := wd_3 212 rfl rfl
theorem im_yX6_owing : Cond.instanceMethod yX6_owing ∈ wds := wd_3 216 rfl rfl
theorem im_yX6_eater : Cond.instanceMethod yX6_eater ∈ wds := wd_3 219 rfl rfl
theorem se_yX6_eater : Cond.selects RX6 yX6_eater yX6_eater ∈ wds := wd_3 220 rfl rfl
theorem im_yX6_noEater : Cond.instanceMethod yX6_noEater ∈ wds := wd_3 224 rfl rfl
theorem im_yX6_owes : Cond.instanceMethod yX6_owes ∈ wds := wd_3 227 rfl rfl
theorem se_yX6_owes : Cond.selects RX6 yX6_owes yX6_owes ∈ wds := wd_3 228 rfl rfl
theorem im_yX6_eat : Cond.instanceMethod yX6_eat ∈ wds := wd_3 231 rfl rfl
theorem se_yX6_eat : Cond.selects RX6 yX6_eat yX6_eat ∈ wds := wd_3 232 rfl rfl
theorem im_yX6_canEat : Cond.instanceMethod yX6_canEat ∈ wds := wd_3 236 rfl rfl
theorem im_yX6_bite : Cond.instanceMethod yX6_bite ∈ wds := wd_4 0 rfl rfl
theorem im_yX6_note : Cond.instanceMethod yX6_note ∈ wds := wd_4 4 rfl rfl
theorem im_yX6_goEat : Cond.instanceMethod yX6_goEat ∈ wds := wd_4 8 rfl rfl
theorem im_yX6_cake : Cond.instanceMethod yX6_cake ∈ wds := wd_4 11 rfl rfl
theorem se_yX6_cake : Cond.selects RX6 yX6_cake yX6_cake ∈ wds := wd_4 12 rfl rfl
theorem im_yX6_march : Cond.instanceMethod yX6_march ∈ wds := wd_4 15 rfl rfl
theorem se_yX6_march : Cond.selects RX6 yX6_march yX6_march ∈ wds := wd_4 16 rfl rfl
theorem im_yX6_harvest : Cond.instanceMethod yX6_harvest ∈ wds := wd_4 19 rfl rfl
theorem se_yX6_harvest : Cond.selects RX6 yX6_harvest yX6_harvest ∈ wds := wd_4 20 rfl rfl
theorem im_yX6_goHarvest : Cond.instanceMethod yX6_goHarvest ∈ wds := wd_4 24 rfl rfl
theorem im_yX6_undo : Cond.instanceMethod yX6_undo ∈ wds := wd_4 27 rfl rfl
theorem se_yX6_undo : Cond.selects RX6 yX6_undo yX6_undo ∈ wds := wd_4 28 rfl rfl
theorem im_yX6_ahead : Cond.instanceMethod yX6_ahead ∈ wds := wd_4 31 rfl rfl
theorem se_yX6_ahead : Cond.selects RX6 yX6_ahead yX6_ahead ∈ wds := wd_4 32 rfl rfl
theorem im_yX6_wants : Cond.instanceMethod yX6_wants ∈ wds := wd_4 36 rfl rfl
theorem se_yX6_wants : Cond.selects RX6 yX6_wants yX6_wants ∈ wds := wd_4 37 rfl rfl
theorem sm_yX6_many : Cond.static yX6_many ∈ wds := wd_4 40 rfl rfl
theorem im_yX6_isSownBy : Cond.instanceMethod yX6_isSownBy ∈ wds := wd_4 44 rfl rfl
theorem im_yX6_rid : Cond.instanceMethod yX6_rid ∈ wds := wd_4 47 rfl rfl
theorem se_yX6_rid : Cond.selects RX6 yX6_rid yX6_rid ∈ wds := wd_4 48 rfl rfl
theorem im_yX6_judge : Cond.instanceMethod yX6_judge ∈ wds := wd_4 51 rfl rfl
theorem se_yX6_judge : Cond.selects RX6 yX6_judge yX6_judge ∈ wds := wd_4 52 rfl rfl
theorem sm_yX6_longPower : Cond.static yX6_longPower ∈ wds := wd_4 57 rfl rfl
theorem im_yX6_does : Cond.instanceMethod yX6_does ∈ wds := wd_4 61 rfl rfl
theorem im_yX6_eats : Cond.instanceMethod yX6_eats ∈ wds := wd_4 65 rfl rfl
theorem im_yX6_share : Cond.instanceMethod yX6_share ∈ wds := wd_4 68 rfl rfl
theorem se_yX6_share : Cond.selects RX6 yX6_share yX6_share ∈ wds := wd_4 69 rfl rfl
theorem sm_yX6_ways : Cond.static yX6_ways ∈ wds := wd_4 72 rfl rfl
theorem sm_yX6_fraction : Cond.static yX6_fraction ∈ wds := wd_4 75 rfl rfl
theorem sm_yX6_divisor : Cond.static yX6_divisor ∈ wds := wd_4 78 rfl rfl
theorem im_yX6_came : Cond.instanceMethod yX6_came ∈ wds := wd_4 81 rfl rfl
theorem se_yX6_came : Cond.selects RX6 yX6_came yX6_came ∈ wds := wd_4 82 rfl rfl
theorem im_yX6_forget : Cond.instanceMethod yX6_forget ∈ wds := wd_4 85 rfl rfl
theorem se_yX6_forget : Cond.selects RX6 yX6_forget yX6_forget ∈ wds := wd_4 86 rfl rfl
theorem im_yX6_strangers : Cond.instanceMethod yX6_strangers ∈ wds := wd_4 89 rfl rfl
theorem se_yX6_strangers : Cond.selects RX6 yX6_strangers yX6_strangers ∈ wds := wd_4 90 rfl rfl
theorem im_yX6_rests : Cond.instanceMethod yX6_rests ∈ wds := wd_4 93 rfl rfl
theorem se_yX6_rests : Cond.selects RX6 yX6_rests yX6_rests ∈ wds := wd_4 94 rfl rfl
theorem im_yX6_home : Cond.instanceMethod yX6_home ∈ wds := wd_4 97 rfl rfl
theorem se_yX6_home : Cond.selects RX6 yX6_home yX6_home ∈ wds := wd_4 98 rfl rfl
theorem sm_yX6_power : Cond.static yX6_power ∈ wds := wd_4 102 rfl rfl
theorem im_yX6_seed : Cond.instanceMethod yX6_seed ∈ wds := wd_4 105 rfl rfl
theorem se_yX6_seed : Cond.selects RX6 yX6_seed yX6_seed ∈ wds := wd_4 106 rfl rfl
theorem im_yX6_years : Cond.instanceMethod yX6_years ∈ wds := wd_4 109 rfl rfl
theorem se_yX6_years : Cond.selects RX6 yX6_years yX6_years ∈ wds := wd_4 110 rfl rfl
theorem im_yX6_keep : Cond.instanceMethod yX6_keep ∈ wds := wd_4 117 rfl rfl
theorem se_yX6_keep : Cond.selects RX6 yX6_keep yX6_keep ∈ wds := wd_4 118 rfl rfl
theorem im_yX6_again : Cond.instanceMethod yX6_again ∈ wds := wd_4 121 rfl rfl
theorem se_yX6_again : Cond.selects RX6 yX6_again yX6_again ∈ wds := wd_4 122 rfl rfl
theorem se_yX3_faultOfThing : Cond.selects RX3 yX3_faultOfThing yX3_faultOfThing ∈ wds := wd_at 0 rfl rfl
theorem se_yX2_addField : Cond.selects RX2 yX2_addField yX2_addField ∈ wds := wd_at 1 rfl rfl
theorem se_yX2_addEater : Cond.selects RX2 yX2_addEater yX2_addEater ∈ wds := wd_at 2 rfl rfl
theorem se_yX5_sownIfCome : Cond.selects RX5 yX5_sownIfCome yX5_sownIfCome ∈ wds := wd_at 3 rfl rfl
theorem se_yX1_nearestOwed : Cond.selects RX1 yX1_nearestOwed yX1_nearestOwed ∈ wds := wd_at 4 rfl rfl
theorem se_yX1_bringSeed : Cond.selects RX1 yX1_bringSeed yX1_bringSeed ∈ wds := wd_at 5 rfl rfl
theorem se_yX5_isSownIfFed : Cond.selects RX5 yX5_isSownIfFed yX5_isSownIfFed ∈ wds := wd_at 6 rfl rfl
theorem se_yX5_tryToTake : Cond.selects RX5 yX5_tryToTake yX5_tryToTake ∈ wds := wd_at 7 rfl rfl
theorem se_yX5_isSo : Cond.selects RX5 yX5_isSo yX5_isSo ∈ wds := wd_at 8 rfl rfl
theorem se_yX5_playPair : Cond.selects RX5 yX5_playPair yX5_playPair ∈ wds := wd_at 9 rfl rfl
theorem se_yX5_isAtRest : Cond.selects RX5 yX5_isAtRest yX5_isAtRest ∈ wds := wd_at 10 rfl rfl
theorem se_yX5_doByLot : Cond.selects RX5 yX5_doByLot yX5_doByLot ∈ wds := wd_at 11 rfl rfl
theorem se_yX6_readCountry : Cond.selects RX6 yX6_readCountry yX6_readCountry ∈ wds := wd_at 12 rfl rfl
theorem se_yX6_readThing : Cond.selects RX6 yX6_readThing yX6_readThing ∈ wds := wd_at 13 rfl rfl
theorem se_yX6_readOneField : Cond.selects RX6 yX6_readOneField yX6_readOneField ∈ wds := wd_at 14 rfl rfl
theorem se_yX6_figure : Cond.selects RX6 yX6_figure yX6_figure ∈ wds := wd_at 15 rfl rfl
theorem se_yX6_readOneEater : Cond.selects RX6 yX6_readOneEater yX6_readOneEater ∈ wds := wd_at 16 rfl rfl
theorem se_yX6_owedTogether : Cond.selects RX6 yX6_owedTogether yX6_owedTogether ∈ wds := wd_at 17 rfl rfl
theorem se_yX6_sown : Cond.selects RX6 yX6_sown yX6_sown ∈ wds := wd_at 18 rfl rfl
theorem se_yX6_marched : Cond.selects RX6 yX6_marched yX6_marched ∈ wds := wd_at 19 rfl rfl
theorem se_yX6_begin : Cond.selects RX6 yX6_begin yX6_begin ∈ wds := wd_at 20 rfl rfl
theorem se_yX6_goMarch : Cond.selects RX6 yX6_goMarch yX6_goMarch ∈ wds := wd_at 21 rfl rfl
theorem se_yX6_goes : Cond.selects RX6 yX6_goes yX6_goes ∈ wds := wd_at 22 rfl rfl
theorem se_yX6_nearest : Cond.selects RX6 yX6_nearest yX6_nearest ∈ wds := wd_at 23 rfl rfl
theorem se_yX6_noField : Cond.selects RX6 yX6_noField yX6_noField ∈ wds := wd_at 24 rfl rfl
theorem se_yX6_owing : Cond.selects RX6 yX6_owing yX6_owing ∈ wds := wd_at 25 rfl rfl
theorem se_yX6_noEater : Cond.selects RX6 yX6_noEater yX6_noEater ∈ wds := wd_at 26 rfl rfl
theorem se_yX6_canEat : Cond.selects RX6 yX6_canEat yX6_canEat ∈ wds := wd_at 27 rfl rfl
theorem se_yX6_bite : Cond.selects RX6 yX6_bite yX6_bite ∈ wds := wd_at 28 rfl rfl
theorem se_yX6_note : Cond.selects RX6 yX6_note yX6_note ∈ wds := wd_at 29 rfl rfl
theorem se_yX6_goEat : Cond.selects RX6 yX6_goEat yX6_goEat ∈ wds := wd_at 30 rfl rfl
theorem se_yX6_goHarvest : Cond.selects RX6 yX6_goHarvest yX6_goHarvest ∈ wds := wd_at 31 rfl rfl
theorem se_yX6_isSownBy : Cond.selects RX6 yX6_isSownBy yX6_isSownBy ∈ wds := wd_at 32 rfl rfl
theorem se_yX6_does : Cond.selects RX6 yX6_does yX6_does ∈ wds := wd_at 33 rfl rfl
theorem se_yX6_eats : Cond.selects RX6 yX6_eats yX6_eats ∈ wds := wd_at 34 rfl rfl
theorem cd_objectInit : Cond.code objectInit ⟨#[0xb1]⟩ 1 none ∈ wds := wd_1 18 rfl rfl
theorem cd_Lib_Math_abs_name : Cond.code Lib.Math.abs.name Lib.Math.abs.code 1 (some .int) ∈ wds := wd_2 54 rfl rfl
theorem cd_Lib_Math_min_name : Cond.code Lib.Math.min.name Lib.Math.min.code 2 (some .int) ∈ wds := wd_2 61 rfl rfl
theorem k_RL_13 : Cond.methodLink RL 13 yX5_write ∈ wds ∧ Cond.instanceMethod yX5_write ∈ wds ∧ Cond.selects RX5 yX5_write yX5_write ∈ wds ∧ Cond.initialized RX5 ∈ wds ∧ Cond.code yX5_write cX5_write 2 (some .int) ∈ wds := ⟨ml_RL_13, im_yX5_write, se_yX5_write, in_RX5, cd_X5_write⟩
theorem k_RX5_69 : Cond.methodLink RX5 69 yX3_append ∈ wds ∧ Cond.instanceMethod yX3_append ∈ wds ∧ Cond.selects RX3 yX3_append yX3_append ∈ wds ∧ Cond.initialized RX3 ∈ wds ∧ Cond.code yX3_append cX3_append 2 none ∈ wds := ⟨ml_RX5_69, im_yX3_append, se_yX3_append, in_RX3, cd_X3_append⟩
theorem k_RL_18 : Cond.methodLink RL 18 yX5_wipe ∈ wds ∧ Cond.instanceMethod yX5_wipe ∈ wds ∧ Cond.selects RX5 yX5_wipe yX5_wipe ∈ wds ∧ Cond.initialized RX5 ∈ wds ∧ Cond.code yX5_wipe cX5_wipe 2 (some .int) ∈ wds := ⟨ml_RL_18, im_yX5_wipe, se_yX5_wipe, in_RX5, cd_X5_wipe⟩
theorem k_RL_23 : Cond.methodLink RL 23 yX5_fault ∈ wds ∧ Cond.instanceMethod yX5_fault ∈ wds ∧ Cond.selects RX5 yX5_fault yX5_fault ∈ wds ∧ Cond.initialized RX5 ∈ wds ∧ Cond.code yX5_fault cX5_fault 1 (some .int) ∈ wds := ⟨ml_RL_23, im_yX5_fault, se_yX5_fault, in_RX5, cd_X5_fault⟩
theorem k_RX5_73 : Cond.methodLink RX5 73 yX3_firstFault ∈ wds ∧ Cond.instanceMethod yX3_firstFault ∈ wds ∧ Cond.selects RX3 yX3_firstFault yX3_firstFault ∈ wds ∧ Cond.initialized RX3 ∈ wds ∧ Cond.code yX3_firstFault cX3_firstFault 6 (some .int) ∈ wds := ⟨ml_RX5_73, im_yX3_firstFault, se_yX3_firstFault, in_RX3, cd_X3_firstFault⟩
theorem k_RX3_19 : Cond.methodLink RX3 19 yX3_faultOfThing ∈ wds ∧ Cond.instanceMethod yX3_faultOfThing ∈ wds ∧ Cond.selects RX3 yX3_faultOfThing yX3_faultOfThing ∈ wds ∧ Cond.initialized RX3 ∈ wds ∧ Cond.code yX3_faultOfThing cX3_faultOfThing 7 (some .int) ∈ wds := ⟨ml_RX3_19, im_yX3_faultOfThing, se_yX3_faultOfThing, in_RX3, cd_X3_faultOfThing⟩
theorem k_RL_27 : Cond.methodLink RL 27 yX5_country ∈ wds ∧ Cond.instanceMethod yX5_country ∈ wds ∧ Cond.selects RX5 yX5_country yX5_country ∈ wds ∧ Cond.initialized RX5 ∈ wds ∧ Cond.code yX5_country cX5_country 2 (some .int) ∈ wds := ⟨ml_RL_27, im_yX5_country, se_yX5_country, in_RX5, cd_X5_country⟩
theorem k_RX5_77 : Cond.methodLink RX5 77 yX2_readFrom ∈ wds ∧ Cond.instanceMethod yX2_readFrom ∈ wds ∧ Cond.selects RX2 yX2_readFrom yX2_readFrom ∈ wds ∧ Cond.initialized RX2 ∈ wds ∧ Cond.code yX2_readFrom cX2_readFrom 3 none ∈ wds := ⟨ml_RX5_77, im_yX2_readFrom, se_yX2_readFrom, in_RX2, cd_X2_readFrom⟩
theorem k_RX2_45 : Cond.methodLink RX2 45 yX2_addField ∈ wds ∧ Cond.instanceMethod yX2_addField ∈ wds ∧ Cond.selects RX2 yX2_addField yX2_addField ∈ wds ∧ Cond.initialized RX2 ∈ wds ∧ Cond.code yX2_addField cX2_addField 3 none ∈ wds := ⟨ml_RX2_45, im_yX2_addField, se_yX2_addField, in_RX2, cd_X2_addField⟩
theorem k_RX2_52 : Cond.methodLink RX2 52 yX3_figure ∈ wds ∧ Cond.instanceMethod yX3_figure ∈ wds ∧ Cond.selects RX3 yX3_figure yX3_figure ∈ wds ∧ Cond.initialized RX3 ∈ wds ∧ Cond.code yX3_figure cX3_figure 2 (some .int) ∈ wds := ⟨ml_RX2_52, im_yX3_figure, se_yX3_figure, in_RX3, cd_X3_figure⟩
theorem k_RX2_49 : Cond.methodLink RX2 49 yX2_addEater ∈ wds ∧ Cond.instanceMethod yX2_addEater ∈ wds ∧ Cond.selects RX2 yX2_addEater yX2_addEater ∈ wds ∧ Cond.initialized RX2 ∈ wds ∧ Cond.code yX2_addEater cX2_addEater 3 none ∈ wds := ⟨ml_RX2_49, im_yX2_addEater, se_yX2_addEater, in_RX2, cd_X2_addEater⟩
theorem k_RX5_81 : Cond.methodLink RX5 81 yX1_beginAnew ∈ wds ∧ Cond.instanceMethod yX1_beginAnew ∈ wds ∧ Cond.selects RX1 yX1_beginAnew yX1_beginAnew ∈ wds ∧ Cond.initialized RX1 ∈ wds ∧ Cond.code yX1_beginAnew cX1_beginAnew 2 none ∈ wds := ⟨ml_RX5_81, im_yX1_beginAnew, se_yX1_beginAnew, in_RX1, cd_X1_beginAnew⟩
theorem k_RL_31 : Cond.methodLink RL 31 yX5_about ∈ wds ∧ Cond.instanceMethod yX5_about ∈ wds ∧ Cond.selects RX5 yX5_about yX5_about ∈ wds ∧ Cond.initialized RX5 ∈ wds ∧ Cond.code yX5_about cX5_about 2 (some .int) ∈ wds := ⟨ml_RL_31, im_yX5_about, se_yX5_about, in_RX5, cd_X5_about⟩
theorem k_RX5_96 : Cond.methodLink RX5 96 yX1_allLoaves ∈ wds ∧ Cond.instanceMethod yX1_allLoaves ∈ wds ∧ Cond.selects RX1 yX1_allLoaves yX1_allLoaves ∈ wds ∧ Cond.initialized RX1 ∈ wds ∧ Cond.code yX1_allLoaves cX1_allLoaves 3 (some .int) ∈ wds := ⟨ml_RX5_96, im_yX1_allLoaves, se_yX1_allLoaves, in_RX1, cd_X1_allLoaves⟩
theorem k_RX5_99 : Cond.methodLink RX5 99 yX1_allSeed ∈ wds ∧ Cond.instanceMethod yX1_allSeed ∈ wds ∧ Cond.selects RX1 yX1_allSeed yX1_allSeed ∈ wds ∧ Cond.initialized RX1 ∈ wds ∧ Cond.code yX1_allSeed cX1_allSeed 3 (some .int) ∈ wds := ⟨ml_RX5_99, im_yX1_allSeed, se_yX1_allSeed, in_RX1, cd_X1_allSeed⟩
theorem k_RX5_102 : Cond.methodLink RX5 102 yX1_allDebts ∈ wds ∧ Cond.instanceMethod yX1_allDebts ∈ wds ∧ Cond.selects RX1 yX1_allDebts yX1_allDebts ∈ wds ∧ Cond.initialized RX1 ∈ wds ∧ Cond.code yX1_allDebts cX1_allDebts 3 (some .int) ∈ wds := ⟨ml_RX5_102, im_yX1_allDebts, se_yX1_allDebts, in_RX1, cd_X1_allDebts⟩
theorem k_RX1_56 : Cond.methodLink RX1 56 yX1_debtsOf ∈ wds ∧ Cond.instanceMethod yX1_debtsOf ∈ wds ∧ Cond.selects RX1 yX1_debtsOf yX1_debtsOf ∈ wds ∧ Cond.initialized RX1 ∈ wds ∧ Cond.code yX1_debtsOf cX1_debtsOf 4 (some .int) ∈ wds := ⟨ml_RX1_56, im_yX1_debtsOf, se_yX1_debtsOf, in_RX1, cd_X1_debtsOf⟩
theorem k_RX1_49 : Cond.methodLink RX1 49 yX1_debt ∈ wds ∧ Cond.instanceMethod yX1_debt ∈ wds ∧ Cond.selects RX1 yX1_debt yX1_debt ∈ wds ∧ Cond.initialized RX1 ∈ wds ∧ Cond.code yX1_debt cX1_debt 3 (some .int) ∈ wds := ⟨ml_RX1_49, im_yX1_debt, se_yX1_debt, in_RX1, cd_X1_debt⟩
theorem k_RX5_105 : Cond.methodLink RX5 105 yX1_sownFields ∈ wds ∧ Cond.instanceMethod yX1_sownFields ∈ wds ∧ Cond.selects RX1 yX1_sownFields yX1_sownFields ∈ wds ∧ Cond.initialized RX1 ∈ wds ∧ Cond.code yX1_sownFields cX1_sownFields 3 (some .int) ∈ wds := ⟨ml_RX5_105, im_yX1_sownFields, se_yX1_sownFields, in_RX1, cd_X1_sownFields⟩
theorem k_RX1_63 : Cond.methodLink RX1 63 yX1_isSown ∈ wds ∧ Cond.instanceMethod yX1_isSown ∈ wds ∧ Cond.selects RX1 yX1_isSown yX1_isSown ∈ wds ∧ Cond.initialized RX1 ∈ wds ∧ Cond.code yX1_isSown cX1_isSown 2 (some .boolean) ∈ wds := ⟨ml_RX1_63, im_yX1_isSown, se_yX1_isSown, in_RX1, cd_X1_isSown⟩
theorem k_RX5_108 : Cond.methodLink RX5 108 yX2_allEaters ∈ wds ∧ Cond.instanceMethod yX2_allEaters ∈ wds ∧ Cond.selects RX2 yX2_allEaters yX2_allEaters ∈ wds ∧ Cond.initialized RX2 ∈ wds ∧ Cond.code yX2_allEaters cX2_allEaters 1 (some .int) ∈ wds := ⟨ml_RX5_108, im_yX2_allEaters, se_yX2_allEaters, in_RX2, cd_X2_allEaters⟩
theorem k_RX5_111 : Cond.methodLink RX5 111 yX5_sownIfCome ∈ wds ∧ Cond.instanceMethod yX5_sownIfCome ∈ wds ∧ Cond.selects RX5 yX5_sownIfCome yX5_sownIfCome ∈ wds ∧ Cond.initialized RX5 ∈ wds ∧ Cond.code yX5_sownIfCome cX5_sownIfCome 2 (some .int) ∈ wds := ⟨ml_RX5_111, im_yX5_sownIfCome, se_yX5_sownIfCome, in_RX5, cd_X5_sownIfCome⟩
theorem k_RX5_184 : Cond.methodLink RX5 184 yX1_copyFrom ∈ wds ∧ Cond.instanceMethod yX1_copyFrom ∈ wds ∧ Cond.selects RX1 yX1_copyFrom yX1_copyFrom ∈ wds ∧ Cond.initialized RX1 ∈ wds ∧ Cond.code yX1_copyFrom cX1_copyFrom 2 none ∈ wds := ⟨ml_RX5_184, im_yX1_copyFrom, se_yX1_copyFrom, in_RX1, cd_X1_copyFrom⟩
theorem k_RX1_43 : Cond.methodLink RX1 43 arraycopyName ∈ wds ∧ Cond.native arraycopyName ∈ wds ∧ Cond.static arraycopyName ∈ wds ∧ Cond.initialized "java/lang/System" ∈ wds := ⟨ml_RX1_43, nm_arraycopyName, sm_arraycopyName, in_RJ10⟩
theorem k_RX5_175 : Cond.methodLink RX5 175 yX1_callOut ∈ wds ∧ Cond.instanceMethod yX1_callOut ∈ wds ∧ Cond.selects RX1 yX1_callOut yX1_callOut ∈ wds ∧ Cond.initialized RX1 ∈ wds ∧ Cond.code yX1_callOut cX1_callOut 3 none ∈ wds := ⟨ml_RX5_175, im_yX1_callOut, se_yX1_callOut, in_RX1, cd_X1_callOut⟩
theorem k_RX1_81 : Cond.methodLink RX1 81 yX1_sendOut ∈ wds ∧ Cond.instanceMethod yX1_sendOut ∈ wds ∧ Cond.selects RX1 yX1_sendOut yX1_sendOut ∈ wds ∧ Cond.initialized RX1 ∈ wds ∧ Cond.code yX1_sendOut cX1_sendOut 7 none ∈ wds := ⟨ml_RX1_81, im_yX1_sendOut, se_yX1_sendOut, in_RX1, cd_X1_sendOut⟩
theorem k_RX1_88 : Cond.methodLink RX1 88 yX1_nearestOwed ∈ wds ∧ Cond.instanceMethod yX1_nearestOwed ∈ wds ∧ Cond.selects RX1 yX1_nearestOwed yX1_nearestOwed ∈ wds ∧ Cond.initialized RX1 ∈ wds ∧ Cond.code yX1_nearestOwed cX1_nearestOwed 7 (some .int) ∈ wds := ⟨ml_RX1_88, im_yX1_nearestOwed, se_yX1_nearestOwed, in_RX1, cd_X1_nearestOwed⟩
theorem k_RX1_94 : Cond.methodLink RX1 94 Lib.Math.abs.name ∈ wds ∧ Cond.static Lib.Math.abs.name ∈ wds ∧ Cond.initialized "java/lang/Math" ∈ wds ∧ Cond.code Lib.Math.abs.name Lib.Math.abs.code 1 (some .int) ∈ wds := ⟨ml_RX1_94, sm_Lib_Math_abs_name, in_RJ9, cd_Lib_Math_abs_name⟩
theorem k_RX1_97 : Cond.methodLink RX1 97 yX1_bringSeed ∈ wds ∧ Cond.instanceMethod yX1_bringSeed ∈ wds ∧ Cond.selects RX1 yX1_bringSeed yX1_bringSeed ∈ wds ∧ Cond.initialized RX1 ∈ wds ∧ Cond.code yX1_bringSeed cX1_bringSeed 3 none ∈ wds := ⟨ml_RX1_97, im_yX1_bringSeed, se_yX1_bringSeed, in_RX1, cd_X1_bringSeed⟩
theorem k_RX1_73 : Cond.methodLink RX1 73 Lib.Math.min.name ∈ wds ∧ Cond.static Lib.Math.min.name ∈ wds ∧ Cond.initialized "java/lang/Math" ∈ wds ∧ Cond.code Lib.Math.min.name Lib.Math.min.code 2 (some .int) ∈ wds := ⟨ml_RX1_73, sm_Lib_Math_min_name, in_RJ9, cd_Lib_Math_min_name⟩
theorem k_RL_35 : Cond.methodLink RL 35 yX5_field ∈ wds ∧ Cond.instanceMethod yX5_field ∈ wds ∧ Cond.selects RX5 yX5_field yX5_field ∈ wds ∧ Cond.initialized RX5 ∈ wds ∧ Cond.code yX5_field cX5_field 3 (some .int) ∈ wds := ⟨ml_RL_35, im_yX5_field, se_yX5_field, in_RX5, cd_X5_field⟩
theorem k_RX5_116 : Cond.methodLink RX5 116 yX2_hasField ∈ wds ∧ Cond.instanceMethod yX2_hasField ∈ wds ∧ Cond.selects RX2 yX2_hasField yX2_hasField ∈ wds ∧ Cond.initialized RX2 ∈ wds ∧ Cond.code yX2_hasField cX2_hasField 2 (some .boolean) ∈ wds := ⟨ml_RX5_116, im_yX2_hasField, se_yX2_hasField, in_RX2, cd_X2_hasField⟩
theorem k_RX5_135 : Cond.methodLink RX5 135 yX1_debtorsOf ∈ wds ∧ Cond.instanceMethod yX1_debtorsOf ∈ wds ∧ Cond.selects RX1 yX1_debtorsOf yX1_debtorsOf ∈ wds ∧ Cond.initialized RX1 ∈ wds ∧ Cond.code yX1_debtorsOf cX1_debtorsOf 4 (some .int) ∈ wds := ⟨ml_RX5_135, im_yX1_debtorsOf, se_yX1_debtorsOf, in_RX1, cd_X1_debtorsOf⟩
theorem k_RL_40 : Cond.methodLink RL 40 yX5_eater ∈ wds ∧ Cond.instanceMethod yX5_eater ∈ wds ∧ Cond.selects RX5 yX5_eater yX5_eater ∈ wds ∧ Cond.initialized RX5 ∈ wds ∧ Cond.code yX5_eater cX5_eater 3 (some .int) ∈ wds := ⟨ml_RL_40, im_yX5_eater, se_yX5_eater, in_RX5, cd_X5_eater⟩
theorem k_RX5_138 : Cond.methodLink RX5 138 yX2_hasEater ∈ wds ∧ Cond.instanceMethod yX2_hasEater ∈ wds ∧ Cond.selects RX2 yX2_hasEater yX2_hasEater ∈ wds ∧ Cond.initialized RX2 ∈ wds ∧ Cond.code yX2_hasEater cX2_hasEater 2 (some .boolean) ∈ wds := ⟨ml_RX5_138, im_yX2_hasEater, se_yX2_hasEater, in_RX2, cd_X2_hasEater⟩
theorem k_RX5_150 : Cond.methodLink RX5 150 yX1_debtsOf ∈ wds ∧ Cond.instanceMethod yX1_debtsOf ∈ wds ∧ Cond.selects RX1 yX1_debtsOf yX1_debtsOf ∈ wds ∧ Cond.initialized RX1 ∈ wds ∧ Cond.code yX1_debtsOf cX1_debtsOf 4 (some .int) ∈ wds := ⟨ml_RX5_150, im_yX1_debtsOf, se_yX1_debtsOf, in_RX1, cd_X1_debtsOf⟩
theorem k_RL_44 : Cond.methodLink RL 44 yX5_owes ∈ wds ∧ Cond.instanceMethod yX5_owes ∈ wds ∧ Cond.selects RX5 yX5_owes yX5_owes ∈ wds ∧ Cond.initialized RX5 ∈ wds ∧ Cond.code yX5_owes cX5_owes 3 (some .int) ∈ wds := ⟨ml_RL_44, im_yX5_owes, se_yX5_owes, in_RX5, cd_X5_owes⟩
theorem k_RX5_159 : Cond.methodLink RX5 159 yX1_debt ∈ wds ∧ Cond.instanceMethod yX1_debt ∈ wds ∧ Cond.selects RX1 yX1_debt yX1_debt ∈ wds ∧ Cond.initialized RX1 ∈ wds ∧ Cond.code yX1_debt cX1_debt 3 (some .int) ∈ wds := ⟨ml_RX5_159, im_yX1_debt, se_yX1_debt, in_RX1, cd_X1_debt⟩
theorem k_RL_48 : Cond.methodLink RL 48 yX5_eat ∈ wds ∧ Cond.instanceMethod yX5_eat ∈ wds ∧ Cond.selects RX5 yX5_eat yX5_eat ∈ wds ∧ Cond.initialized RX5 ∈ wds ∧ Cond.code yX5_eat cX5_eat 3 (some .int) ∈ wds := ⟨ml_RL_48, im_yX5_eat, se_yX5_eat, in_RX5, cd_X5_eat⟩
theorem k_RX5_163 : Cond.methodLink RX5 163 yX1_canTake ∈ wds ∧ Cond.instanceMethod yX1_canTake ∈ wds ∧ Cond.selects RX1 yX1_canTake yX1_canTake ∈ wds ∧ Cond.initialized RX1 ∈ wds ∧ Cond.code yX1_canTake cX1_canTake 4 (some .boolean) ∈ wds := ⟨ml_RX5_163, im_yX1_canTake, se_yX1_canTake, in_RX1, cd_X1_canTake⟩
theorem k_RX1_70 : Cond.methodLink RX1 70 yX2_portionOf ∈ wds ∧ Cond.instanceMethod yX2_portionOf ∈ wds ∧ Cond.selects RX2 yX2_portionOf yX2_portionOf ∈ wds ∧ Cond.initialized RX2 ∈ wds ∧ Cond.code yX2_portionOf cX2_portionOf 2 (some .int) ∈ wds := ⟨ml_RX1_70, im_yX2_portionOf, se_yX2_portionOf, in_RX2, cd_X2_portionOf⟩
theorem k_RX5_167 : Cond.methodLink RX5 167 yX0_remember ∈ wds ∧ Cond.instanceMethod yX0_remember ∈ wds ∧ Cond.selects RX0 yX0_remember yX0_remember ∈ wds ∧ Cond.initialized RX0 ∈ wds ∧ Cond.code yX0_remember cX0_remember 2 none ∈ wds := ⟨ml_RX5_167, im_yX0_remember, se_yX0_remember, in_RX0, cd_X0_remember⟩
theorem k_RX0_27 : Cond.methodLink RX0 27 yX1_copyFrom ∈ wds ∧ Cond.instanceMethod yX1_copyFrom ∈ wds ∧ Cond.selects RX1 yX1_copyFrom yX1_copyFrom ∈ wds ∧ Cond.initialized RX1 ∈ wds ∧ Cond.code yX1_copyFrom cX1_copyFrom 2 none ∈ wds := ⟨ml_RX0_27, im_yX1_copyFrom, se_yX1_copyFrom, in_RX1, cd_X1_copyFrom⟩
theorem k_RX5_171 : Cond.methodLink RX5 171 yX1_takeLoaves ∈ wds ∧ Cond.instanceMethod yX1_takeLoaves ∈ wds ∧ Cond.selects RX1 yX1_takeLoaves yX1_takeLoaves ∈ wds ∧ Cond.initialized RX1 ∈ wds ∧ Cond.code yX1_takeLoaves cX1_takeLoaves 4 none ∈ wds := ⟨ml_RX5_171, im_yX1_takeLoaves, se_yX1_takeLoaves, in_RX1, cd_X1_takeLoaves⟩
theorem k_RL_52 : Cond.methodLink RL 52 yX5_cake ∈ wds ∧ Cond.instanceMethod yX5_cake ∈ wds ∧ Cond.selects RX5 yX5_cake yX5_cake ∈ wds ∧ Cond.initialized RX5 ∈ wds ∧ Cond.code yX5_cake cX5_cake 4 (some .int) ∈ wds := ⟨ml_RL_52, im_yX5_cake, se_yX5_cake, in_RX5, cd_X5_cake⟩
theorem k_RL_57 : Cond.methodLink RL 57 yX5_march ∈ wds ∧ Cond.instanceMethod yX5_march ∈ wds ∧ Cond.selects RX5 yX5_march yX5_march ∈ wds ∧ Cond.initialized RX5 ∈ wds ∧ Cond.code yX5_march cX5_march 1 (some .int) ∈ wds := ⟨ml_RL_57, im_yX5_march, se_yX5_march, in_RX5, cd_X5_march⟩
theorem k_RL_61 : Cond.methodLink RL 61 yX5_harvest ∈ wds ∧ Cond.instanceMethod yX5_harvest ∈ wds ∧ Cond.selects RX5 yX5_harvest yX5_harvest ∈ wds ∧ Cond.initialized RX5 ∈ wds ∧ Cond.code yX5_harvest cX5_harvest 1 (some .int) ∈ wds := ⟨ml_RL_61, im_yX5_harvest, se_yX5_harvest, in_RX5, cd_X5_harvest⟩
theorem k_RX5_178 : Cond.methodLink RX5 178 yX1_reap ∈ wds ∧ Cond.instanceMethod yX1_reap ∈ wds ∧ Cond.selects RX1 yX1_reap yX1_reap ∈ wds ∧ Cond.initialized RX1 ∈ wds ∧ Cond.code yX1_reap cX1_reap 2 none ∈ wds := ⟨ml_RX5_178, im_yX1_reap, se_yX1_reap, in_RX1, cd_X1_reap⟩
theorem k_RL_65 : Cond.methodLink RL 65 yX5_undo ∈ wds ∧ Cond.instanceMethod yX5_undo ∈ wds ∧ Cond.selects RX5 yX5_undo yX5_undo ∈ wds ∧ Cond.initialized RX5 ∈ wds ∧ Cond.code yX5_undo cX5_undo 1 (some .int) ∈ wds := ⟨ml_RL_65, im_yX5_undo, se_yX5_undo, in_RX5, cd_X5_undo⟩
theorem k_RX5_181 : Cond.methodLink RX5 181 yX0_takeBackInto ∈ wds ∧ Cond.instanceMethod yX0_takeBackInto ∈ wds ∧ Cond.selects RX0 yX0_takeBackInto yX0_takeBackInto ∈ wds ∧ Cond.initialized RX0 ∈ wds ∧ Cond.code yX0_takeBackInto cX0_takeBackInto 2 none ∈ wds := ⟨ml_RX5_181, im_yX0_takeBackInto, se_yX0_takeBackInto, in_RX0, cd_X0_takeBackInto⟩
theorem k_RL_69 : Cond.methodLink RL 69 yX5_ahead ∈ wds ∧ Cond.instanceMethod yX5_ahead ∈ wds ∧ Cond.selects RX5 yX5_ahead yX5_ahead ∈ wds ∧ Cond.initialized RX5 ∈ wds ∧ Cond.code yX5_ahead cX5_ahead 4 (some .int) ∈ wds := ⟨ml_RL_69, im_yX5_ahead, se_yX5_ahead, in_RX5, cd_X5_ahead⟩
theorem k_RL_73 : Cond.methodLink RL 73 yX5_wants ∈ wds ∧ Cond.instanceMethod yX5_wants ∈ wds ∧ Cond.selects RX5 yX5_wants yX5_wants ∈ wds ∧ Cond.initialized RX5 ∈ wds ∧ Cond.code yX5_wants cX5_wants 5 (some .int) ∈ wds := ⟨ml_RL_73, im_yX5_wants, se_yX5_wants, in_RX5, cd_X5_wants⟩
theorem k_RX5_187 : Cond.methodLink RX5 187 yJ6_bitCount_0f7a4 ∈ wds ∧ Cond.static yJ6_bitCount_0f7a4 ∈ wds ∧ Cond.initialized yJ6_bitCount_0f7a4.cls ∈ wds ∧ Cond.code yJ6_bitCount_0f7a4 cJ6_bitCount_0f7a4 1 (some .int) ∈ wds := ⟨ml_RX5_187, sm_yJ6_bitCount_0f7a4, in_RJ6, cd_J6_bitCount_0f7a4⟩
theorem k_RX5_192 : Cond.methodLink RX5 192 yX5_isSownIfFed ∈ wds ∧ Cond.instanceMethod yX5_isSownIfFed ∈ wds ∧ Cond.selects RX5 yX5_isSownIfFed yX5_isSownIfFed ∈ wds ∧ Cond.initialized RX5 ∈ wds ∧ Cond.code yX5_isSownIfFed cX5_isSownIfFed 4 (some .boolean) ∈ wds := ⟨ml_RX5_192, im_yX5_isSownIfFed, se_yX5_isSownIfFed, in_RX5, cd_X5_isSownIfFed⟩
theorem k_RX5_244 : Cond.methodLink RX5 244 yX5_tryToTake ∈ wds ∧ Cond.instanceMethod yX5_tryToTake ∈ wds ∧ Cond.selects RX5 yX5_tryToTake yX5_tryToTake ∈ wds ∧ Cond.initialized RX5 ∈ wds ∧ Cond.code yX5_tryToTake cX5_tryToTake 3 (some .boolean) ∈ wds := ⟨ml_RX5_244, im_yX5_tryToTake, se_yX5_tryToTake, in_RX5, cd_X5_tryToTake⟩
theorem k_RX5_247 : Cond.methodLink RX5 247 yX1_isSown ∈ wds ∧ Cond.instanceMethod yX1_isSown ∈ wds ∧ Cond.selects RX1 yX1_isSown yX1_isSown ∈ wds ∧ Cond.initialized RX1 ∈ wds ∧ Cond.code yX1_isSown cX1_isSown 2 (some .boolean) ∈ wds := ⟨ml_RX5_247, im_yX1_isSown, se_yX1_isSown, in_RX1, cd_X1_isSown⟩
theorem k_RL_77 : Cond.methodLink RL 77 yX5_rid ∈ wds ∧ Cond.instanceMethod yX5_rid ∈ wds ∧ Cond.selects RX5 yX5_rid yX5_rid ∈ wds ∧ Cond.initialized RX5 ∈ wds ∧ Cond.code yX5_rid cX5_rid 2 (some .int) ∈ wds := ⟨ml_RL_77, im_yX5_rid, se_yX5_rid, in_RX5, cd_X5_rid⟩
theorem k_RX5_195 : Cond.methodLink RX5 195 yX1_sendOut ∈ wds ∧ Cond.instanceMethod yX1_sendOut ∈ wds ∧ Cond.selects RX1 yX1_sendOut yX1_sendOut ∈ wds ∧ Cond.initialized RX1 ∈ wds ∧ Cond.code yX1_sendOut cX1_sendOut 7 none ∈ wds := ⟨ml_RX5_195, im_yX1_sendOut, se_yX1_sendOut, in_RX1, cd_X1_sendOut⟩
theorem k_RL_83 : Cond.methodLink RL 83 yX5_judge ∈ wds ∧ Cond.instanceMethod yX5_judge ∈ wds ∧ Cond.selects RX5 yX5_judge yX5_judge ∈ wds ∧ Cond.initialized RX5 ∈ wds ∧ Cond.code yX5_judge cX5_judge 6 (some .int) ∈ wds := ⟨ml_RL_83, im_yX5_judge, se_yX5_judge, in_RX5, cd_X5_judge⟩
theorem k_RX5_198 : Cond.methodLink RX5 198 yX5_withoutLast ∈ wds ∧ Cond.static yX5_withoutLast ∈ wds ∧ Cond.initialized yX5_withoutLast.cls ∈ wds ∧ Cond.code yX5_withoutLast cX5_withoutLast 6 (some .long) ∈ wds := ⟨ml_RX5_198, sm_yX5_withoutLast, in_RX5, cd_X5_withoutLast⟩
theorem k_RX5_204 : Cond.methodLink RX5 204 yX5_isSo ∈ wds ∧ Cond.instanceMethod yX5_isSo ∈ wds ∧ Cond.selects RX5 yX5_isSo yX5_isSo ∈ wds ∧ Cond.initialized RX5 ∈ wds ∧ Cond.code yX5_isSo cX5_isSo 4 (some .boolean) ∈ wds := ⟨ml_RX5_204, im_yX5_isSo, se_yX5_isSo, in_RX5, cd_X5_isSo⟩
theorem k_RL_88 : Cond.methodLink RL 88 yX5_share ∈ wds ∧ Cond.instanceMethod yX5_share ∈ wds ∧ Cond.selects RX5 yX5_share yX5_share ∈ wds ∧ Cond.initialized RX5 ∈ wds ∧ Cond.code yX5_share cX5_share 8 (some .int) ∈ wds := ⟨ml_RL_88, im_yX5_share, se_yX5_share, in_RX5, cd_X5_share⟩
theorem k_RX5_208 : Cond.methodLink RX5 208 yX5_ordersOf ∈ wds ∧ Cond.static yX5_ordersOf ∈ wds ∧ Cond.initialized yX5_ordersOf.cls ∈ wds ∧ Cond.code yX5_ordersOf cX5_ordersOf 4 (some .long) ∈ wds := ⟨ml_RX5_208, sm_yX5_ordersOf, in_RX5, cd_X5_ordersOf⟩
theorem k_RX5_212 : Cond.methodLink RX5 212 yX5_partOfFraction ∈ wds ∧ Cond.static yX5_partOfFraction ∈ wds ∧ Cond.initialized yX5_partOfFraction.cls ∈ wds ∧ Cond.code yX5_partOfFraction cX5_partOfFraction 12 (some .int) ∈ wds := ⟨ml_RX5_212, sm_yX5_partOfFraction, in_RX5, cd_X5_partOfFraction⟩
theorem k_RL_93 : Cond.methodLink RL 93 yX5_came ∈ wds ∧ Cond.instanceMethod yX5_came ∈ wds ∧ Cond.selects RX5 yX5_came yX5_came ∈ wds ∧ Cond.initialized RX5 ∈ wds ∧ Cond.code yX5_came cX5_came 3 (some .int) ∈ wds := ⟨ml_RL_93, im_yX5_came, se_yX5_came, in_RX5, cd_X5_came⟩
theorem k_RX5_216 : Cond.methodLink RX5 216 yX4_add ∈ wds ∧ Cond.instanceMethod yX4_add ∈ wds ∧ Cond.selects RX4 yX4_add yX4_add ∈ wds ∧ Cond.initialized RX4 ∈ wds ∧ Cond.code yX4_add cX4_add 3 none ∈ wds := ⟨ml_RX5_216, im_yX4_add, se_yX4_add, in_RX4, cd_X4_add⟩
theorem k_RL_97 : Cond.methodLink RL 97 yX5_forget ∈ wds ∧ Cond.instanceMethod yX5_forget ∈ wds ∧ Cond.selects RX5 yX5_forget yX5_forget ∈ wds ∧ Cond.initialized RX5 ∈ wds ∧ Cond.code yX5_forget cX5_forget 2 (some .int) ∈ wds := ⟨ml_RL_97, im_yX5_forget, se_yX5_forget, in_RX5, cd_X5_forget⟩
theorem k_RL_101 : Cond.methodLink RL 101 yX5_strangers ∈ wds ∧ Cond.instanceMethod yX5_strangers ∈ wds ∧ Cond.selects RX5 yX5_strangers yX5_strangers ∈ wds ∧ Cond.initialized RX5 ∈ wds ∧ Cond.code yX5_strangers cX5_strangers 5 (some .int) ∈ wds := ⟨ml_RL_101, im_yX5_strangers, se_yX5_strangers, in_RX5, cd_X5_strangers⟩
theorem k_RX5_220 : Cond.methodLink RX5 220 yX4_allowFor ∈ wds ∧ Cond.instanceMethod yX4_allowFor ∈ wds ∧ Cond.selects RX4 yX4_allowFor yX4_allowFor ∈ wds ∧ Cond.initialized RX4 ∈ wds ∧ Cond.code yX4_allowFor cX4_allowFor 5 (some .boolean) ∈ wds := ⟨ml_RX5_220, im_yX4_allowFor, se_yX4_allowFor, in_RX4, cd_X4_allowFor⟩
theorem k_RX4_23 : Cond.methodLink RX4 23 Lib.Math.abs.name ∈ wds ∧ Cond.static Lib.Math.abs.name ∈ wds ∧ Cond.initialized "java/lang/Math" ∈ wds ∧ Cond.code Lib.Math.abs.name Lib.Math.abs.code 1 (some .int) ∈ wds := ⟨ml_RX4_23, sm_Lib_Math_abs_name, in_RJ9, cd_Lib_Math_abs_name⟩
theorem k_RL_105 : Cond.methodLink RL 105 yX5_rests ∈ wds ∧ Cond.instanceMethod yX5_rests ∈ wds ∧ Cond.selects RX5 yX5_rests yX5_rests ∈ wds ∧ Cond.initialized RX5 ∈ wds ∧ Cond.code yX5_rests cX5_rests 8 (some .int) ∈ wds := ⟨ml_RL_105, im_yX5_rests, se_yX5_rests, in_RX5, cd_X5_rests⟩
theorem k_RX5_223 : Cond.methodLink RX5 223 yX5_playPair ∈ wds ∧ Cond.instanceMethod yX5_playPair ∈ wds ∧ Cond.selects RX5 yX5_playPair yX5_playPair ∈ wds ∧ Cond.initialized RX5 ∈ wds ∧ Cond.code yX5_playPair cX5_playPair 8 none ∈ wds := ⟨ml_RX5_223, im_yX5_playPair, se_yX5_playPair, in_RX5, cd_X5_playPair⟩
theorem k_RX5_227 : Cond.methodLink RX5 227 yX5_isAtRest ∈ wds ∧ Cond.instanceMethod yX5_isAtRest ∈ wds ∧ Cond.selects RX5 yX5_isAtRest yX5_isAtRest ∈ wds ∧ Cond.initialized RX5 ∈ wds ∧ Cond.code yX5_isAtRest cX5_isAtRest 4 (some .boolean) ∈ wds := ⟨ml_RX5_227, im_yX5_isAtRest, se_yX5_isAtRest, in_RX5, cd_X5_isAtRest⟩
theorem k_RL_110 : Cond.methodLink RL 110 yX5_home ∈ wds ∧ Cond.instanceMethod yX5_home ∈ wds ∧ Cond.selects RX5 yX5_home yX5_home ∈ wds ∧ Cond.initialized RX5 ∈ wds ∧ Cond.code yX5_home cX5_home 8 (some .int) ∈ wds := ⟨ml_RL_110, im_yX5_home, se_yX5_home, in_RX5, cd_X5_home⟩
theorem k_RX5_230 : Cond.methodLink RX5 230 yX5_power ∈ wds ∧ Cond.static yX5_power ∈ wds ∧ Cond.initialized yX5_power.cls ∈ wds ∧ Cond.code yX5_power cX5_power 6 (some .long) ∈ wds := ⟨ml_RX5_230, sm_yX5_power, in_RX5, cd_X5_power⟩
theorem k_RL_115 : Cond.methodLink RL 115 yX5_seed ∈ wds ∧ Cond.instanceMethod yX5_seed ∈ wds ∧ Cond.selects RX5 yX5_seed yX5_seed ∈ wds ∧ Cond.initialized RX5 ∈ wds ∧ Cond.code yX5_seed cX5_seed 5 (some .long) ∈ wds := ⟨ml_RL_115, im_yX5_seed, se_yX5_seed, in_RX5, cd_X5_seed⟩
theorem k_RL_120 : Cond.methodLink RL 120 yX5_years ∈ wds ∧ Cond.instanceMethod yX5_years ∈ wds ∧ Cond.selects RX5 yX5_years yX5_years ∈ wds ∧ Cond.initialized RX5 ∈ wds ∧ Cond.code yX5_years cX5_years 4 (some .int) ∈ wds := ⟨ml_RL_120, im_yX5_years, se_yX5_years, in_RX5, cd_X5_years⟩
theorem k_RX5_241 : Cond.methodLink RX5 241 yX5_doByLot ∈ wds ∧ Cond.instanceMethod yX5_doByLot ∈ wds ∧ Cond.selects RX5 yX5_doByLot yX5_doByLot ∈ wds ∧ Cond.initialized RX5 ∈ wds ∧ Cond.code yX5_doByLot cX5_doByLot 2 none ∈ wds := ⟨ml_RX5_241, im_yX5_doByLot, se_yX5_doByLot, in_RX5, cd_X5_doByLot⟩
theorem k_RL_124 : Cond.methodLink RL 124 yX5_keep ∈ wds ∧ Cond.instanceMethod yX5_keep ∈ wds ∧ Cond.selects RX5 yX5_keep yX5_keep ∈ wds ∧ Cond.initialized RX5 ∈ wds ∧ Cond.code yX5_keep cX5_keep 2 (some .int) ∈ wds := ⟨ml_RL_124, im_yX5_keep, se_yX5_keep, in_RX5, cd_X5_keep⟩
theorem k_RL_128 : Cond.methodLink RL 128 yX5_again ∈ wds ∧ Cond.instanceMethod yX5_again ∈ wds ∧ Cond.selects RX5 yX5_again yX5_again ∈ wds ∧ Cond.initialized RX5 ∈ wds ∧ Cond.code yX5_again cX5_again 2 (some .int) ∈ wds := ⟨ml_RL_128, im_yX5_again, se_yX5_again, in_RX5, cd_X5_again⟩
theorem k_RL_17 : Cond.methodLink RL 17 yX6_write ∈ wds ∧ Cond.instanceMethod yX6_write ∈ wds ∧ Cond.selects RX6 yX6_write yX6_write ∈ wds ∧ Cond.initialized RX6 ∈ wds ∧ Cond.code yX6_write cX6_write 2 (some .int) ∈ wds := ⟨ml_RL_17, im_yX6_write, se_yX6_write, in_RX6, cd_X6_write⟩
theorem k_RX6_75 : Cond.methodLink RX6 75 yX6_in ∈ wds ∧ Cond.static yX6_in ∈ wds ∧ Cond.initialized yX6_in.cls ∈ wds ∧ Cond.code yX6_in cX6_in 6 (some .boolean) ∈ wds := ⟨ml_RX6_75, sm_yX6_in, in_RX6, cd_X6_in⟩
theorem k_RL_22 : Cond.methodLink RL 22 yX6_wipe ∈ wds ∧ Cond.instanceMethod yX6_wipe ∈ wds ∧ Cond.selects RX6 yX6_wipe yX6_wipe ∈ wds ∧ Cond.initialized RX6 ∈ wds ∧ Cond.code yX6_wipe cX6_wipe 2 (some .int) ∈ wds := ⟨ml_RL_22, im_yX6_wipe, se_yX6_wipe, in_RX6, cd_X6_wipe⟩
theorem k_RL_26 : Cond.methodLink RL 26 yX6_fault ∈ wds ∧ Cond.instanceMethod yX6_fault ∈ wds ∧ Cond.selects RX6 yX6_fault yX6_fault ∈ wds ∧ Cond.initialized RX6 ∈ wds ∧ Cond.code yX6_fault cX6_fault 1 (some .int) ∈ wds := ⟨ml_RL_26, im_yX6_fault, se_yX6_fault, in_RX6, cd_X6_fault⟩
theorem k_RX6_110 : Cond.methodLink RX6 110 yX6_readCountry ∈ wds ∧ Cond.instanceMethod yX6_readCountry ∈ wds ∧ Cond.selects RX6 yX6_readCountry yX6_readCountry ∈ wds ∧ Cond.initialized RX6 ∈ wds ∧ Cond.code yX6_readCountry cX6_readCountry 1 (some .int) ∈ wds := ⟨ml_RX6_110, im_yX6_readCountry, se_yX6_readCountry, in_RX6, cd_X6_readCountry⟩
theorem k_RX6_107 : Cond.methodLink RX6 107 yX6_readThing ∈ wds ∧ Cond.instanceMethod yX6_readThing ∈ wds ∧ Cond.selects RX6 yX6_readThing yX6_readThing ∈ wds ∧ Cond.initialized RX6 ∈ wds ∧ Cond.code yX6_readThing cX6_readThing 2 (some .boolean) ∈ wds := ⟨ml_RX6_107, im_yX6_readThing, se_yX6_readThing, in_RX6, cd_X6_readThing⟩
theorem k_RX6_100 : Cond.methodLink RX6 100 yX6_readOneField ∈ wds ∧ Cond.instanceMethod yX6_readOneField ∈ wds ∧ Cond.selects RX6 yX6_readOneField yX6_readOneField ∈ wds ∧ Cond.initialized RX6 ∈ wds ∧ Cond.code yX6_readOneField cX6_readOneField 4 (some .boolean) ∈ wds := ⟨ml_RX6_100, im_yX6_readOneField, se_yX6_readOneField, in_RX6, cd_X6_readOneField⟩
theorem k_RX6_90 : Cond.methodLink RX6 90 yX6_figure ∈ wds ∧ Cond.instanceMethod yX6_figure ∈ wds ∧ Cond.selects RX6 yX6_figure yX6_figure ∈ wds ∧ Cond.initialized RX6 ∈ wds ∧ Cond.code yX6_figure cX6_figure 3 (some .int) ∈ wds := ⟨ml_RX6_90, im_yX6_figure, se_yX6_figure, in_RX6, cd_X6_figure⟩
theorem k_RX6_104 : Cond.methodLink RX6 104 yX6_readOneEater ∈ wds ∧ Cond.instanceMethod yX6_readOneEater ∈ wds ∧ Cond.selects RX6 yX6_readOneEater yX6_readOneEater ∈ wds ∧ Cond.initialized RX6 ∈ wds ∧ Cond.code yX6_readOneEater cX6_readOneEater 4 (some .boolean) ∈ wds := ⟨ml_RX6_104, im_yX6_readOneEater, se_yX6_readOneEater, in_RX6, cd_X6_readOneEater⟩
theorem k_RL_30 : Cond.methodLink RL 30 yX6_country ∈ wds ∧ Cond.instanceMethod yX6_country ∈ wds ∧ Cond.selects RX6 yX6_country yX6_country ∈ wds ∧ Cond.initialized RX6 ∈ wds ∧ Cond.code yX6_country cX6_country 2 (some .int) ∈ wds := ⟨ml_RL_30, im_yX6_country, se_yX6_country, in_RX6, cd_X6_country⟩
theorem k_RL_34 : Cond.methodLink RL 34 yX6_about ∈ wds ∧ Cond.instanceMethod yX6_about ∈ wds ∧ Cond.selects RX6 yX6_about yX6_about ∈ wds ∧ Cond.initialized RX6 ∈ wds ∧ Cond.code yX6_about cX6_about 2 (some .int) ∈ wds := ⟨ml_RL_34, im_yX6_about, se_yX6_about, in_RX6, cd_X6_about⟩
theorem k_RX6_145 : Cond.methodLink RX6 145 yX6_loaves ∈ wds ∧ Cond.static yX6_loaves ∈ wds ∧ Cond.initialized yX6_loaves.cls ∈ wds ∧ Cond.code yX6_loaves cX6_loaves 1 (some .int) ∈ wds := ⟨ml_RX6_145, sm_yX6_loaves, in_RX6, cd_X6_loaves⟩
theorem k_RX6_158 : Cond.methodLink RX6 158 yX6_owedTogether ∈ wds ∧ Cond.instanceMethod yX6_owedTogether ∈ wds ∧ Cond.selects RX6 yX6_owedTogether yX6_owedTogether ∈ wds ∧ Cond.initialized RX6 ∈ wds ∧ Cond.code yX6_owedTogether cX6_owedTogether 3 (some .int) ∈ wds := ⟨ml_RX6_158, im_yX6_owedTogether, se_yX6_owedTogether, in_RX6, cd_X6_owedTogether⟩
theorem k_RX6_148 : Cond.methodLink RX6 148 yX6_owesAll ∈ wds ∧ Cond.static yX6_owesAll ∈ wds ∧ Cond.initialized yX6_owesAll.cls ∈ wds ∧ Cond.code yX6_owesAll cX6_owesAll 2 (some .int) ∈ wds := ⟨ml_RX6_148, sm_yX6_owesAll, in_RX6, cd_X6_owesAll⟩
theorem k_RX6_117 : Cond.methodLink RX6 117 yX6_owed ∈ wds ∧ Cond.static yX6_owed ∈ wds ∧ Cond.initialized yX6_owed.cls ∈ wds ∧ Cond.code yX6_owed cX6_owed 3 (some .int) ∈ wds := ⟨ml_RX6_117, sm_yX6_owed, in_RX6, cd_X6_owed⟩
theorem k_RX6_141 : Cond.methodLink RX6 141 yX6_sown ∈ wds ∧ Cond.instanceMethod yX6_sown ∈ wds ∧ Cond.selects RX6 yX6_sown yX6_sown ∈ wds ∧ Cond.initialized RX6 ∈ wds ∧ Cond.code yX6_sown cX6_sown 4 (some .int) ∈ wds := ⟨ml_RX6_141, im_yX6_sown, se_yX6_sown, in_RX6, cd_X6_sown⟩
theorem k_RX6_161 : Cond.methodLink RX6 161 yX6_marched ∈ wds ∧ Cond.instanceMethod yX6_marched ∈ wds ∧ Cond.selects RX6 yX6_marched yX6_marched ∈ wds ∧ Cond.initialized RX6 ∈ wds ∧ Cond.code yX6_marched cX6_marched 2 (some .int) ∈ wds := ⟨ml_RX6_161, im_yX6_marched, se_yX6_marched, in_RX6, cd_X6_marched⟩
theorem k_RX6_152 : Cond.methodLink RX6 152 yX6_begin ∈ wds ∧ Cond.instanceMethod yX6_begin ∈ wds ∧ Cond.selects RX6 yX6_begin yX6_begin ∈ wds ∧ Cond.initialized RX6 ∈ wds ∧ Cond.code yX6_begin cX6_begin 2 none ∈ wds := ⟨ml_RX6_152, im_yX6_begin, se_yX6_begin, in_RX6, cd_X6_begin⟩
theorem k_RX6_155 : Cond.methodLink RX6 155 yX6_goMarch ∈ wds ∧ Cond.instanceMethod yX6_goMarch ∈ wds ∧ Cond.selects RX6 yX6_goMarch yX6_goMarch ∈ wds ∧ Cond.initialized RX6 ∈ wds ∧ Cond.code yX6_goMarch cX6_goMarch 4 (some .int) ∈ wds := ⟨ml_RX6_155, im_yX6_goMarch, se_yX6_goMarch, in_RX6, cd_X6_goMarch⟩
theorem k_RX6_134 : Cond.methodLink RX6 134 yX6_has ∈ wds ∧ Cond.static yX6_has ∈ wds ∧ Cond.initialized yX6_has.cls ∈ wds ∧ Cond.code yX6_has cX6_has 2 (some .boolean) ∈ wds := ⟨ml_RX6_134, sm_yX6_has, in_RX6, cd_X6_has⟩
theorem k_RX6_138 : Cond.methodLink RX6 138 yX6_goes ∈ wds ∧ Cond.instanceMethod yX6_goes ∈ wds ∧ Cond.selects RX6 yX6_goes yX6_goes ∈ wds ∧ Cond.initialized RX6 ∈ wds ∧ Cond.code yX6_goes cX6_goes 9 (some .int) ∈ wds := ⟨ml_RX6_138, im_yX6_goes, se_yX6_goes, in_RX6, cd_X6_goes⟩
theorem k_RX6_127 : Cond.methodLink RX6 127 yX6_nearest ∈ wds ∧ Cond.instanceMethod yX6_nearest ∈ wds ∧ Cond.selects RX6 yX6_nearest yX6_nearest ∈ wds ∧ Cond.initialized RX6 ∈ wds ∧ Cond.code yX6_nearest cX6_nearest 7 (some .int) ∈ wds := ⟨ml_RX6_127, im_yX6_nearest, se_yX6_nearest, in_RX6, cd_X6_nearest⟩
theorem k_RX6_121 : Cond.methodLink RX6 121 yX6_apart ∈ wds ∧ Cond.static yX6_apart ∈ wds ∧ Cond.initialized yX6_apart.cls ∈ wds ∧ Cond.code yX6_apart cX6_apart 2 (some .int) ∈ wds := ⟨ml_RX6_121, sm_yX6_apart, in_RX6, cd_X6_apart⟩
theorem k_RX6_130 : Cond.methodLink RX6 130 yX6_capped ∈ wds ∧ Cond.static yX6_capped ∈ wds ∧ Cond.initialized yX6_capped.cls ∈ wds ∧ Cond.code yX6_capped cX6_capped 1 (some .int) ∈ wds := ⟨ml_RX6_130, sm_yX6_capped, in_RX6, cd_X6_capped⟩
theorem k_RL_39 : Cond.methodLink RL 39 yX6_field ∈ wds ∧ Cond.instanceMethod yX6_field ∈ wds ∧ Cond.selects RX6 yX6_field yX6_field ∈ wds ∧ Cond.initialized RX6 ∈ wds ∧ Cond.code yX6_field cX6_field 3 (some .int) ∈ wds := ⟨ml_RL_39, im_yX6_field, se_yX6_field, in_RX6, cd_X6_field⟩
theorem k_RX6_167 : Cond.methodLink RX6 167 yX6_noField ∈ wds ∧ Cond.instanceMethod yX6_noField ∈ wds ∧ Cond.selects RX6 yX6_noField yX6_noField ∈ wds ∧ Cond.initialized RX6 ∈ wds ∧ Cond.code yX6_noField cX6_noField 2 (some .boolean) ∈ wds := ⟨ml_RX6_167, im_yX6_noField, se_yX6_noField, in_RX6, cd_X6_noField⟩
theorem k_RX6_171 : Cond.methodLink RX6 171 yX6_owing ∈ wds ∧ Cond.instanceMethod yX6_owing ∈ wds ∧ Cond.selects RX6 yX6_owing yX6_owing ∈ wds ∧ Cond.initialized RX6 ∈ wds ∧ Cond.code yX6_owing cX6_owing 4 (some .int) ∈ wds := ⟨ml_RX6_171, im_yX6_owing, se_yX6_owing, in_RX6, cd_X6_owing⟩
theorem k_RL_43 : Cond.methodLink RL 43 yX6_eater ∈ wds ∧ Cond.instanceMethod yX6_eater ∈ wds ∧ Cond.selects RX6 yX6_eater yX6_eater ∈ wds ∧ Cond.initialized RX6 ∈ wds ∧ Cond.code yX6_eater cX6_eater 4 (some .int) ∈ wds := ⟨ml_RL_43, im_yX6_eater, se_yX6_eater, in_RX6, cd_X6_eater⟩
theorem k_RX6_174 : Cond.methodLink RX6 174 yX6_noEater ∈ wds ∧ Cond.instanceMethod yX6_noEater ∈ wds ∧ Cond.selects RX6 yX6_noEater yX6_noEater ∈ wds ∧ Cond.initialized RX6 ∈ wds ∧ Cond.code yX6_noEater cX6_noEater 2 (some .boolean) ∈ wds := ⟨ml_RX6_174, im_yX6_noEater, se_yX6_noEater, in_RX6, cd_X6_noEater⟩
theorem k_RL_47 : Cond.methodLink RL 47 yX6_owes ∈ wds ∧ Cond.instanceMethod yX6_owes ∈ wds ∧ Cond.selects RX6 yX6_owes yX6_owes ∈ wds ∧ Cond.initialized RX6 ∈ wds ∧ Cond.code yX6_owes cX6_owes 3 (some .int) ∈ wds := ⟨ml_RL_47, im_yX6_owes, se_yX6_owes, in_RX6, cd_X6_owes⟩
theorem k_RL_51 : Cond.methodLink RL 51 yX6_eat ∈ wds ∧ Cond.instanceMethod yX6_eat ∈ wds ∧ Cond.selects RX6 yX6_eat yX6_eat ∈ wds ∧ Cond.initialized RX6 ∈ wds ∧ Cond.code yX6_eat cX6_eat 3 (some .int) ∈ wds := ⟨ml_RL_51, im_yX6_eat, se_yX6_eat, in_RX6, cd_X6_eat⟩
theorem k_RX6_180 : Cond.methodLink RX6 180 yX6_canEat ∈ wds ∧ Cond.instanceMethod yX6_canEat ∈ wds ∧ Cond.selects RX6 yX6_canEat yX6_canEat ∈ wds ∧ Cond.initialized RX6 ∈ wds ∧ Cond.code yX6_canEat cX6_canEat 4 (some .boolean) ∈ wds := ⟨ml_RX6_180, im_yX6_canEat, se_yX6_canEat, in_RX6, cd_X6_canEat⟩
theorem k_RX6_177 : Cond.methodLink RX6 177 yX6_bite ∈ wds ∧ Cond.instanceMethod yX6_bite ∈ wds ∧ Cond.selects RX6 yX6_bite yX6_bite ∈ wds ∧ Cond.initialized RX6 ∈ wds ∧ Cond.code yX6_bite cX6_bite 2 (some .int) ∈ wds := ⟨ml_RX6_177, im_yX6_bite, se_yX6_bite, in_RX6, cd_X6_bite⟩
theorem k_RX6_184 : Cond.methodLink RX6 184 yX6_note ∈ wds ∧ Cond.instanceMethod yX6_note ∈ wds ∧ Cond.selects RX6 yX6_note yX6_note ∈ wds ∧ Cond.initialized RX6 ∈ wds ∧ Cond.code yX6_note cX6_note 2 none ∈ wds := ⟨ml_RX6_184, im_yX6_note, se_yX6_note, in_RX6, cd_X6_note⟩
theorem k_RX6_187 : Cond.methodLink RX6 187 yX6_goEat ∈ wds ∧ Cond.instanceMethod yX6_goEat ∈ wds ∧ Cond.selects RX6 yX6_goEat yX6_goEat ∈ wds ∧ Cond.initialized RX6 ∈ wds ∧ Cond.code yX6_goEat cX6_goEat 4 none ∈ wds := ⟨ml_RX6_187, im_yX6_goEat, se_yX6_goEat, in_RX6, cd_X6_goEat⟩
theorem k_RL_56 : Cond.methodLink RL 56 yX6_cake ∈ wds ∧ Cond.instanceMethod yX6_cake ∈ wds ∧ Cond.selects RX6 yX6_cake yX6_cake ∈ wds ∧ Cond.initialized RX6 ∈ wds ∧ Cond.code yX6_cake cX6_cake 4 (some .int) ∈ wds := ⟨ml_RL_56, im_yX6_cake, se_yX6_cake, in_RX6, cd_X6_cake⟩
theorem k_RL_60 : Cond.methodLink RL 60 yX6_march ∈ wds ∧ Cond.instanceMethod yX6_march ∈ wds ∧ Cond.selects RX6 yX6_march yX6_march ∈ wds ∧ Cond.initialized RX6 ∈ wds ∧ Cond.code yX6_march cX6_march 1 (some .int) ∈ wds := ⟨ml_RL_60, im_yX6_march, se_yX6_march, in_RX6, cd_X6_march⟩
theorem k_RL_64 : Cond.methodLink RL 64 yX6_harvest ∈ wds ∧ Cond.instanceMethod yX6_harvest ∈ wds ∧ Cond.selects RX6 yX6_harvest yX6_harvest ∈ wds ∧ Cond.initialized RX6 ∈ wds ∧ Cond.code yX6_harvest cX6_harvest 1 (some .int) ∈ wds := ⟨ml_RL_64, im_yX6_harvest, se_yX6_harvest, in_RX6, cd_X6_harvest⟩
theorem k_RX6_191 : Cond.methodLink RX6 191 yX6_goHarvest ∈ wds ∧ Cond.instanceMethod yX6_goHarvest ∈ wds ∧ Cond.selects RX6 yX6_goHarvest yX6_goHarvest ∈ wds ∧ Cond.initialized RX6 ∈ wds ∧ Cond.code yX6_goHarvest cX6_goHarvest 4 (some .int) ∈ wds := ⟨ml_RX6_191, im_yX6_goHarvest, se_yX6_goHarvest, in_RX6, cd_X6_goHarvest⟩
theorem k_RL_68 : Cond.methodLink RL 68 yX6_undo ∈ wds ∧ Cond.instanceMethod yX6_undo ∈ wds ∧ Cond.selects RX6 yX6_undo yX6_undo ∈ wds ∧ Cond.initialized RX6 ∈ wds ∧ Cond.code yX6_undo cX6_undo 2 (some .int) ∈ wds := ⟨ml_RL_68, im_yX6_undo, se_yX6_undo, in_RX6, cd_X6_undo⟩
theorem k_RL_72 : Cond.methodLink RL 72 yX6_ahead ∈ wds ∧ Cond.instanceMethod yX6_ahead ∈ wds ∧ Cond.selects RX6 yX6_ahead yX6_ahead ∈ wds ∧ Cond.initialized RX6 ∈ wds ∧ Cond.code yX6_ahead cX6_ahead 4 (some .int) ∈ wds := ⟨ml_RL_72, im_yX6_ahead, se_yX6_ahead, in_RX6, cd_X6_ahead⟩
theorem k_RL_76 : Cond.methodLink RL 76 yX6_wants ∈ wds ∧ Cond.instanceMethod yX6_wants ∈ wds ∧ Cond.selects RX6 yX6_wants yX6_wants ∈ wds ∧ Cond.initialized RX6 ∈ wds ∧ Cond.code yX6_wants cX6_wants 5 (some .int) ∈ wds := ⟨ml_RL_76, im_yX6_wants, se_yX6_wants, in_RX6, cd_X6_wants⟩
theorem k_RX6_196 : Cond.methodLink RX6 196 yX6_many ∈ wds ∧ Cond.static yX6_many ∈ wds ∧ Cond.initialized yX6_many.cls ∈ wds ∧ Cond.code yX6_many cX6_many 3 (some .int) ∈ wds := ⟨ml_RX6_196, sm_yX6_many, in_RX6, cd_X6_many⟩
theorem k_RX6_199 : Cond.methodLink RX6 199 yX6_isSownBy ∈ wds ∧ Cond.instanceMethod yX6_isSownBy ∈ wds ∧ Cond.selects RX6 yX6_isSownBy yX6_isSownBy ∈ wds ∧ Cond.initialized RX6 ∈ wds ∧ Cond.code yX6_isSownBy cX6_isSownBy 4 (some .boolean) ∈ wds := ⟨ml_RX6_199, im_yX6_isSownBy, se_yX6_isSownBy, in_RX6, cd_X6_isSownBy⟩
theorem k_RL_80 : Cond.methodLink RL 80 yX6_rid ∈ wds ∧ Cond.instanceMethod yX6_rid ∈ wds ∧ Cond.selects RX6 yX6_rid yX6_rid ∈ wds ∧ Cond.initialized RX6 ∈ wds ∧ Cond.code yX6_rid cX6_rid 2 (some .int) ∈ wds := ⟨ml_RL_80, im_yX6_rid, se_yX6_rid, in_RX6, cd_X6_rid⟩
theorem k_RL_87 : Cond.methodLink RL 87 yX6_judge ∈ wds ∧ Cond.instanceMethod yX6_judge ∈ wds ∧ Cond.selects RX6 yX6_judge yX6_judge ∈ wds ∧ Cond.initialized RX6 ∈ wds ∧ Cond.code yX6_judge cX6_judge 5 (some .int) ∈ wds := ⟨ml_RL_87, im_yX6_judge, se_yX6_judge, in_RX6, cd_X6_judge⟩
theorem k_RX6_209 : Cond.methodLink RX6 209 yX6_longPower ∈ wds ∧ Cond.static yX6_longPower ∈ wds ∧ Cond.initialized yX6_longPower.cls ∈ wds ∧ Cond.code yX6_longPower cX6_longPower 6 (some .long) ∈ wds := ⟨ml_RX6_209, sm_yX6_longPower, in_RX6, cd_X6_longPower⟩
theorem k_RX6_213 : Cond.methodLink RX6 213 yX6_does ∈ wds ∧ Cond.instanceMethod yX6_does ∈ wds ∧ Cond.selects RX6 yX6_does yX6_does ∈ wds ∧ Cond.initialized RX6 ∈ wds ∧ Cond.code yX6_does cX6_does 5 (some .boolean) ∈ wds := ⟨ml_RX6_213, im_yX6_does, se_yX6_does, in_RX6, cd_X6_does⟩
theorem k_RX6_202 : Cond.methodLink RX6 202 yX6_eats ∈ wds ∧ Cond.instanceMethod yX6_eats ∈ wds ∧ Cond.selects RX6 yX6_eats yX6_eats ∈ wds ∧ Cond.initialized RX6 ∈ wds ∧ Cond.code yX6_eats cX6_eats 4 (some .boolean) ∈ wds := ⟨ml_RX6_202, im_yX6_eats, se_yX6_eats, in_RX6, cd_X6_eats⟩
theorem k_RL_92 : Cond.methodLink RL 92 yX6_share ∈ wds ∧ Cond.instanceMethod yX6_share ∈ wds ∧ Cond.selects RX6 yX6_share yX6_share ∈ wds ∧ Cond.initialized RX6 ∈ wds ∧ Cond.code yX6_share cX6_share 6 (some .int) ∈ wds := ⟨ml_RL_92, im_yX6_share, se_yX6_share, in_RX6, cd_X6_share⟩
theorem k_RX6_219 : Cond.methodLink RX6 219 yX6_ways ∈ wds ∧ Cond.static yX6_ways ∈ wds ∧ Cond.initialized yX6_ways.cls ∈ wds ∧ Cond.code yX6_ways cX6_ways 3 (some .int) ∈ wds := ⟨ml_RX6_219, sm_yX6_ways, in_RX6, cd_X6_ways⟩
theorem k_RX6_222 : Cond.methodLink RX6 222 yX6_fraction ∈ wds ∧ Cond.static yX6_fraction ∈ wds ∧ Cond.initialized yX6_fraction.cls ∈ wds ∧ Cond.code yX6_fraction cX6_fraction 4 (some .int) ∈ wds := ⟨ml_RX6_222, sm_yX6_fraction, in_RX6, cd_X6_fraction⟩
theorem k_RX6_216 : Cond.methodLink RX6 216 yX6_divisor ∈ wds ∧ Cond.static yX6_divisor ∈ wds ∧ Cond.initialized yX6_divisor.cls ∈ wds ∧ Cond.code yX6_divisor cX6_divisor 5 (some .int) ∈ wds := ⟨ml_RX6_216, sm_yX6_divisor, in_RX6, cd_X6_divisor⟩
theorem k_RL_96 : Cond.methodLink RL 96 yX6_came ∈ wds ∧ Cond.instanceMethod yX6_came ∈ wds ∧ Cond.selects RX6 yX6_came yX6_came ∈ wds ∧ Cond.initialized RX6 ∈ wds ∧ Cond.code yX6_came cX6_came 3 (some .int) ∈ wds := ⟨ml_RL_96, im_yX6_came, se_yX6_came, in_RX6, cd_X6_came⟩
theorem k_RL_100 : Cond.methodLink RL 100 yX6_forget ∈ wds ∧ Cond.instanceMethod yX6_forget ∈ wds ∧ Cond.selects RX6 yX6_forget yX6_forget ∈ wds ∧ Cond.initialized RX6 ∈ wds ∧ Cond.code yX6_forget cX6_forget 2 (some .int) ∈ wds := ⟨ml_RL_100, im_yX6_forget, se_yX6_forget, in_RX6, cd_X6_forget⟩
theorem k_RL_104 : Cond.methodLink RL 104 yX6_strangers ∈ wds ∧ Cond.instanceMethod yX6_strangers ∈ wds ∧ Cond.selects RX6 yX6_strangers yX6_strangers ∈ wds ∧ Cond.initialized RX6 ∈ wds ∧ Cond.code yX6_strangers cX6_strangers 5 (some .int) ∈ wds := ⟨ml_RL_104, im_yX6_strangers, se_yX6_strangers, in_RX6, cd_X6_strangers⟩
theorem k_RL_109 : Cond.methodLink RL 109 yX6_rests ∈ wds ∧ Cond.instanceMethod yX6_rests ∈ wds ∧ Cond.selects RX6 yX6_rests yX6_rests ∈ wds ∧ Cond.initialized RX6 ∈ wds ∧ Cond.code yX6_rests cX6_rests 9 (some .int) ∈ wds := ⟨ml_RL_109, im_yX6_rests, se_yX6_rests, in_RX6, cd_X6_rests⟩
theorem k_RL_114 : Cond.methodLink RL 114 yX6_home ∈ wds ∧ Cond.instanceMethod yX6_home ∈ wds ∧ Cond.selects RX6 yX6_home yX6_home ∈ wds ∧ Cond.initialized RX6 ∈ wds ∧ Cond.code yX6_home cX6_home 7 (some .int) ∈ wds := ⟨ml_RL_114, im_yX6_home, se_yX6_home, in_RX6, cd_X6_home⟩
theorem k_RX6_240 : Cond.methodLink RX6 240 yX6_power ∈ wds ∧ Cond.static yX6_power ∈ wds ∧ Cond.initialized yX6_power.cls ∈ wds ∧ Cond.code yX6_power cX6_power 4 (some .int) ∈ wds := ⟨ml_RX6_240, sm_yX6_power, in_RX6, cd_X6_power⟩
theorem k_RL_119 : Cond.methodLink RL 119 yX6_seed ∈ wds ∧ Cond.instanceMethod yX6_seed ∈ wds ∧ Cond.selects RX6 yX6_seed yX6_seed ∈ wds ∧ Cond.initialized RX6 ∈ wds ∧ Cond.code yX6_seed cX6_seed 5 (some .long) ∈ wds := ⟨ml_RL_119, im_yX6_seed, se_yX6_seed, in_RX6, cd_X6_seed⟩
theorem k_RL_123 : Cond.methodLink RL 123 yX6_years ∈ wds ∧ Cond.instanceMethod yX6_years ∈ wds ∧ Cond.selects RX6 yX6_years yX6_years ∈ wds ∧ Cond.initialized RX6 ∈ wds ∧ Cond.code yX6_years cX6_years 5 (some .int) ∈ wds := ⟨ml_RL_123, im_yX6_years, se_yX6_years, in_RX6, cd_X6_years⟩
theorem k_RL_127 : Cond.methodLink RL 127 yX6_keep ∈ wds ∧ Cond.instanceMethod yX6_keep ∈ wds ∧ Cond.selects RX6 yX6_keep yX6_keep ∈ wds ∧ Cond.initialized RX6 ∈ wds ∧ Cond.code yX6_keep cX6_keep 3 (some .int) ∈ wds := ⟨ml_RL_127, im_yX6_keep, se_yX6_keep, in_RX6, cd_X6_keep⟩
theorem k_RL_131 : Cond.methodLink RL 131 yX6_again ∈ wds ∧ Cond.instanceMethod yX6_again ∈ wds ∧ Cond.selects RX6 yX6_again yX6_again ∈ wds ∧ Cond.initialized RX6 ∈ wds ∧ Cond.code yX6_again cX6_again 3 (some .int) ∈ wds := ⟨ml_RL_131, im_yX6_again, se_yX6_again, in_RX6, cd_X6_again⟩
end
section
theorem nX0_init_0 : Nx mX0_init 0 (.aload_n 0) 1 1 := ⟨by decide +kernel, rfl⟩
theorem nX0_init_1 : Nx mX0_init 1 (.invokespecial 3) 3 4 := ⟨by decide +kernel, rfl⟩
theorem nX0_init_4 : Nx mX0_init 4 (.aload_n 0) 1 5 := ⟨by decide +kernel, rfl⟩
theorem nX0_init_5 : Nx mX0_init 5 (.bipush 14) 2 7 := ⟨by decide +kernel, rfl⟩
theorem nX0_init_7 : Nx mX0_init 7 (.anewarray 9) 3 10 := ⟨by decide +kernel, rfl⟩
theorem nX0_init_10 : Nx mX0_init 10 (.putfield 11) 3 13 := ⟨by decide +kernel, rfl⟩
theorem nX0_init_13 : Nx mX0_init 13 (.iconst 0) 1 14 := ⟨by decide +kernel, rfl⟩
theorem nX0_init_14 : Nx mX0_init 14 (.istore_n 2) 1 15 := ⟨by decide +kernel, rfl⟩
theorem nX0_init_15 : Nx mX0_init 15 (.iload_n 2) 1 16 := ⟨by decide +kernel, rfl⟩
theorem nX0_init_16 : Nx mX0_init 16 (.bipush 14) 2 18 := ⟨by decide +kernel, rfl⟩
theorem nX0_init_18 : Nx mX0_init 18 (.if_icmp .ge 23) 3 21 := ⟨by decide +kernel, rfl⟩
theorem nX0_init_21 : Nx mX0_init 21 (.aload_n 0) 1 22 := ⟨by decide +kernel, rfl⟩
theorem nX0_init_22 : Nx mX0_init 22 (.getfield 11) 3 25 := ⟨by decide +kernel, rfl⟩
theorem nX0_init_25 : Nx mX0_init 25 (.iload_n 2) 1 26 := ⟨by decide +kernel, rfl⟩
theorem nX0_init_26 : Nx mX0_init 26 (.new 9) 3 29 := ⟨by decide +kernel, rfl⟩
theorem nX0_init_29 : Nx mX0_init 29 (.dup) 1 30 := ⟨by decide +kernel, rfl⟩
theorem nX0_init_30 : Nx mX0_init 30 (.aload_n 1) 1 31 := ⟨by decide +kernel, rfl⟩
theorem nX0_init_31 : Nx mX0_init 31 (.invokespecial 17) 3 34 := ⟨by decide +kernel, rfl⟩
theorem nX0_init_34 : Nx mX0_init 34 (.aastore) 1 35 := ⟨by decide +kernel, rfl⟩
theorem nX0_init_35 : Nx mX0_init 35 (.iinc 2 1) 3 38 := ⟨by decide +kernel, rfl⟩
theorem nX0_init_38 : Nx mX0_init 38 (.goto (-23)) 3 41 := ⟨by decide +kernel, rfl⟩
theorem nX0_init_41 : Nx mX0_init 41 (.aload_n 0) 1 42 := ⟨by decide +kernel, rfl⟩
theorem nX0_init_42 : Nx mX0_init 42 (.iconst 0) 1 43 := ⟨by decide +kernel, rfl⟩
theorem nX0_init_43 : Nx mX0_init 43 (.putfield 20) 3 46 := ⟨by decide +kernel, rfl⟩
theorem nX0_init_46 : Nx mX0_init 46 (.aload_n 0) 1 47 := ⟨by decide +kernel, rfl⟩
theorem nX0_init_47 : Nx mX0_init 47 (.iconst 0) 1 48 := ⟨by decide +kernel, rfl⟩
theorem nX0_init_48 : Nx mX0_init 48 (.putfield 24) 3 51 := ⟨by decide +kernel, rfl⟩
theorem nX0_init_51 : Nx mX0_init 51 (.return_) 1 52 := ⟨by decide +kernel, rfl⟩
theorem nX0_remember_0 : Nx mX0_remember 0 (.aload_n 0) 1 1 := ⟨by decide +kernel, rfl⟩
theorem nX0_remember_1 : Nx mX0_remember 1 (.getfield 24) 3 4 := ⟨by decide +kernel, rfl⟩
theorem nX0_remember_4 : Nx mX0_remember 4 (.bipush 14) 2 6 := ⟨by decide +kernel, rfl⟩
theorem nX0_remember_6 : Nx mX0_remember 6 (.if_icmp .ne 26) 3 9 := ⟨by decide +kernel, rfl⟩
theorem nX0_remember_9 : Nx mX0_remember 9 (.aload_n 0) 1 10 := ⟨by decide +kernel, rfl⟩
theorem nX0_remember_10 : Nx mX0_remember 10 (.aload_n 0) 1 11 := ⟨by decide +kernel, rfl⟩
theorem nX0_remember_11 : Nx mX0_remember 11 (.getfield 20) 3 14 := ⟨by decide +kernel, rfl⟩
theorem nX0_remember_14 : Nx mX0_remember 14 (.iconst 1) 1 15 := ⟨by decide +kernel, rfl⟩
theorem nX0_remember_15 : Nx mX0_remember 15 (.iadd) 1 16 := ⟨by decide +kernel, rfl⟩
theorem nX0_remember_16 : Nx mX0_remember 16 (.bipush 14) 2 18 := ⟨by decide +kernel, rfl⟩
theorem nX0_remember_18 : Nx mX0_remember 18 (.irem) 1 19 := ⟨by decide +kernel, rfl⟩
theorem nX0_remember_19 : Nx mX0_remember 19 (.putfield 20) 3 22 := ⟨by decide +kernel, rfl⟩
theorem nX0_remember_22 : Nx mX0_remember 22 (.aload_n 0) 1 23 := ⟨by decide +kernel, rfl⟩
theorem nX0_remember_23 : Nx mX0_remember 23 (.dup) 1 24 := ⟨by decide +kernel, rfl⟩
theorem nX0_remember_24 : Nx mX0_remember 24 (.getfield 24) 3 27 := ⟨by decide +kernel, rfl⟩
theorem nX0_remember_27 : Nx mX0_remember 27 (.iconst 1) 1 28 := ⟨by decide +kernel, rfl⟩
theorem nX0_remember_28 : Nx mX0_remember 28 (.isub) 1 29 := ⟨by decide +kernel, rfl⟩
theorem nX0_remember_29 : Nx mX0_remember 29 (.putfield 24) 3 32 := ⟨by decide +kernel, rfl⟩
theorem nX0_remember_32 : Nx mX0_remember 32 (.aload_n 0) 1 33 := ⟨by decide +kernel, rfl⟩
theorem nX0_remember_33 : Nx mX0_remember 33 (.getfield 11) 3 36 := ⟨by decide +kernel, rfl⟩
theorem nX0_remember_36 : Nx mX0_remember 36 (.aload_n 0) 1 37 := ⟨by decide +kernel, rfl⟩
theorem nX0_remember_37 : Nx mX0_remember 37 (.getfield 20) 3 40 := ⟨by decide +kernel, rfl⟩
theorem nX0_remember_40 : Nx mX0_remember 40 (.aload_n 0) 1 41 := ⟨by decide +kernel, rfl⟩
theorem nX0_remember_41 : Nx mX0_remember 41 (.getfield 24) 3 44 := ⟨by decide +kernel, rfl⟩
theorem nX0_remember_44 : Nx mX0_remember 44 (.iadd) 1 45 := ⟨by decide +kernel, rfl⟩
theorem nX0_remember_45 : Nx mX0_remember 45 (.bipush 14) 2 47 := ⟨by decide +kernel, rfl⟩
theorem nX0_remember_47 : Nx mX0_remember 47 (.irem) 1 48 := ⟨by decide +kernel, rfl⟩
theorem nX0_remember_48 : Nx mX0_remember 48 (.aaload) 1 49 := ⟨by decide +kernel, rfl⟩
theorem nX0_remember_49 : Nx mX0_remember 49 (.aload_n 1) 1 50 := ⟨by decide +kernel, rfl⟩
theorem nX0_remember_50 : Nx mX0_remember 50 (.invokevirtual 27) 3 53 := ⟨by decide +kernel, rfl⟩
theorem nX0_remember_53 : Nx mX0_remember 53 (.aload_n 0) 1 54 := ⟨by decide +kernel, rfl⟩
theorem nX0_remember_54 : Nx mX0_remember 54 (.dup) 1 55 := ⟨by decide +kernel, rfl⟩
theorem nX0_remember_55 : Nx mX0_remember 55 (.getfield 24) 3 58 := ⟨by decide +kernel, rfl⟩
theorem nX0_remember_58 : Nx mX0_remember 58 (.iconst 1) 1 59 := ⟨by decide +kernel, rfl⟩
theorem nX0_remember_59 : Nx mX0_remember 59 (.iadd) 1 60 := ⟨by decide +kernel, rfl⟩
theorem nX0_remember_60 : Nx mX0_remember 60 (.putfield 24) 3 63 := ⟨by decide +kernel, rfl⟩
theorem nX0_remember_63 : Nx mX0_remember 63 (.return_) 1 64 := ⟨by decide +kernel, rfl⟩
theorem nX0_takeBackInto_0 : Nx mX0_takeBackInto 0 (.aload_n 0) 1 1 := ⟨by decide +kernel, rfl⟩
theorem nX0_takeBackInto_1 : Nx mX0_takeBackInto 1 (.getfield 24) 3 4 := ⟨by decide +kernel, rfl⟩
theorem nX0_takeBackInto_4 : Nx mX0_takeBackInto 4 (.ifCond .le 34) 3 7 := ⟨by decide +kernel, rfl⟩
theorem nX0_takeBackInto_7 : Nx mX0_takeBackInto 7 (.aload_n 0) 1 8 := ⟨by decide +kernel, rfl⟩
theorem nX0_takeBackInto_8 : Nx mX0_takeBackInto 8 (.dup) 1 9 := ⟨by decide +kernel, rfl⟩
theorem nX0_takeBackInto_9 : Nx mX0_takeBackInto 9 (.getfield 24) 3 12 := ⟨by decide +kernel, rfl⟩
theorem nX0_takeBackInto_12 : Nx mX0_takeBackInto 12 (.iconst 1) 1 13 := ⟨by decide +kernel, rfl⟩
theorem nX0_takeBackInto_13 : Nx mX0_takeBackInto 13 (.isub) 1 14 := ⟨by decide +kernel, rfl⟩
theorem nX0_takeBackInto_14 : Nx mX0_takeBackInto 14 (.putfield 24) 3 17 := ⟨by decide +kernel, rfl⟩
theorem nX0_takeBackInto_17 : Nx mX0_takeBackInto 17 (.aload_n 1) 1 18 := ⟨by decide +kernel, rfl⟩
theorem nX0_takeBackInto_18 : Nx mX0_takeBackInto 18 (.aload_n 0) 1 19 := ⟨by decide +kernel, rfl⟩
theorem nX0_takeBackInto_19 : Nx mX0_takeBackInto 19 (.getfield 11) 3 22 := ⟨by decide +kernel, rfl⟩
theorem nX0_takeBackInto_22 : Nx mX0_takeBackInto 22 (.aload_n 0) 1 23 := ⟨by decide +kernel, rfl⟩
theorem nX0_takeBackInto_23 : Nx mX0_takeBackInto 23 (.getfield 20) 3 26 := ⟨by decide +kernel, rfl⟩
theorem nX0_takeBackInto_26 : Nx mX0_takeBackInto 26 (.aload_n 0) 1 27 := ⟨by decide +kernel, rfl⟩
theorem nX0_takeBackInto_27 : Nx mX0_takeBackInto 27 (.getfield 24) 3 30 := ⟨by decide +kernel, rfl⟩
theorem nX0_takeBackInto_30 : Nx mX0_takeBackInto 30 (.iadd) 1 31 := ⟨by decide +kernel, rfl⟩
theorem nX0_takeBackInto_31 : Nx mX0_takeBackInto 31 (.bipush 14) 2 33 := ⟨by decide +kernel, rfl⟩
theorem nX0_takeBackInto_33 : Nx mX0_takeBackInto 33 (.irem) 1 34 := ⟨by decide +kernel, rfl⟩
theorem nX0_takeBackInto_34 : Nx mX0_takeBackInto 34 (.aaload) 1 35 := ⟨by decide +kernel, rfl⟩
theorem nX0_takeBackInto_35 : Nx mX0_takeBackInto 35 (.invokevirtual 27) 3 38 := ⟨by decide +kernel, rfl⟩
theorem nX0_takeBackInto_38 : Nx mX0_takeBackInto 38 (.return_) 1 39 := ⟨by decide +kernel, rfl⟩
theorem nX1_init_0 : Nx mX1_init 0 (.aload_n 0) 1 1 := ⟨by decide +kernel, rfl⟩
theorem nX1_init_1 : Nx mX1_init 1 (.invokespecial 3) 3 4 := ⟨by decide +kernel, rfl⟩
theorem nX1_init_4 : Nx mX1_init 4 (.aload_n 0) 1 5 := ⟨by decide +kernel, rfl⟩
theorem nX1_init_5 : Nx mX1_init 5 (.aload_n 1) 1 6 := ⟨by decide +kernel, rfl⟩
theorem nX1_init_6 : Nx mX1_init 6 (.putfield 9) 3 9 := ⟨by decide +kernel, rfl⟩
theorem nX1_init_9 : Nx mX1_init 9 (.aload_n 0) 1 10 := ⟨by decide +kernel, rfl⟩
theorem nX1_init_10 : Nx mX1_init 10 (.iconst 4) 1 11 := ⟨by decide +kernel, rfl⟩
theorem nX1_init_11 : Nx mX1_init 11 (.newarray .int) 2 13 := ⟨by decide +kernel, rfl⟩
theorem nX1_init_13 : Nx mX1_init 13 (.putfield 15) 3 16 := ⟨by decide +kernel, rfl⟩
theorem nX1_init_16 : Nx mX1_init 16 (.aload_n 0) 1 17 := ⟨by decide +kernel, rfl⟩
theorem nX1_init_17 : Nx mX1_init 17 (.iconst 4) 1 18 := ⟨by decide +kernel, rfl⟩
theorem nX1_init_18 : Nx mX1_init 18 (.newarray .int) 2 20 := ⟨by decide +kernel, rfl⟩
theorem nX1_init_20 : Nx mX1_init 20 (.putfield 19) 3 23 := ⟨by decide +kernel, rfl⟩
theorem nX1_init_23 : Nx mX1_init 23 (.aload_n 0) 1 24 := ⟨by decide +kernel, rfl⟩
theorem nX1_init_24 : Nx mX1_init 24 (.bipush 20) 2 26 := ⟨by decide +kernel, rfl⟩
theorem nX1_init_26 : Nx mX1_init 26 (.newarray .int) 2 28 := ⟨by decide +kernel, rfl⟩
theorem nX1_init_28 : Nx mX1_init 28 (.putfield 22) 3 31 := ⟨by decide +kernel, rfl⟩
theorem nX1_init_31 : Nx mX1_init 31 (.aload_n 0) 1 32 := ⟨by decide +kernel, rfl⟩
theorem nX1_init_32 : Nx mX1_init 32 (.iconst 0) 1 33 := ⟨by decide +kernel, rfl⟩
theorem nX1_init_33 : Nx mX1_init 33 (.putfield 25) 3 36 := ⟨by decide +kernel, rfl⟩
theorem nX1_init_36 : Nx mX1_init 36 (.aload_n 0) 1 37 := ⟨by decide +kernel, rfl⟩
theorem nX1_init_37 : Nx mX1_init 37 (.iconst 5) 1 38 := ⟨by decide +kernel, rfl⟩
theorem nX1_init_38 : Nx mX1_init 38 (.newarray .int) 2 40 := ⟨by decide +kernel, rfl⟩
theorem nX1_init_40 : Nx mX1_init 40 (.putfield 29) 3 43 := ⟨by decide +kernel, rfl⟩
theorem nX1_init_43 : Nx mX1_init 43 (.aload_n 0) 1 44 := ⟨by decide +kernel, rfl⟩
theorem nX1_init_44 : Nx mX1_init 44 (.iconst 5) 1 45 := ⟨by decide +kernel, rfl⟩
theorem nX1_init_45 : Nx mX1_init 45 (.newarray .int) 2 47 := ⟨by decide +kernel, rfl⟩
theorem nX1_init_47 : Nx mX1_init 47 (.putfield 32) 3 50 := ⟨by decide +kernel, rfl⟩
theorem nX1_init_50 : Nx mX1_init 50 (.return_) 1 51 := ⟨by decide +kernel, rfl⟩
theorem nX1_beginAnew_0 : Nx mX1_beginAnew 0 (.iconst 0) 1 1 := ⟨by decide +kernel, rfl⟩
theorem nX1_beginAnew_1 : Nx mX1_beginAnew 1 (.istore_n 1) 1 2 := ⟨by decide +kernel, rfl⟩
theorem nX1_beginAnew_2 : Nx mX1_beginAnew 2 (.iload_n 1) 1 3 := ⟨by decide +kernel, rfl⟩
theorem nX1_beginAnew_3 : Nx mX1_beginAnew 3 (.iconst 4) 1 4 := ⟨by decide +kernel, rfl⟩
theorem nX1_beginAnew_4 : Nx mX1_beginAnew 4 (.if_icmp .ge 46) 3 7 := ⟨by decide +kernel, rfl⟩
theorem nX1_beginAnew_7 : Nx mX1_beginAnew 7 (.aload_n 0) 1 8 := ⟨by decide +kernel, rfl⟩
theorem nX1_beginAnew_8 : Nx mX1_beginAnew 8 (.getfield 15) 3 11 := ⟨by decide +kernel, rfl⟩
theorem nX1_beginAnew_11 : Nx mX1_beginAnew 11 (.iload_n 1) 1 12 := ⟨by decide +kernel, rfl⟩
theorem nX1_beginAnew_12 : Nx mX1_beginAnew 12 (.iload_n 1) 1 13 := ⟨by decide +kernel, rfl⟩
theorem nX1_beginAnew_13 : Nx mX1_beginAnew 13 (.aload_n 0) 1 14 := ⟨by decide +kernel, rfl⟩
theorem nX1_beginAnew_14 : Nx mX1_beginAnew 14 (.getfield 9) 3 17 := ⟨by decide +kernel, rfl⟩
theorem nX1_beginAnew_17 : Nx mX1_beginAnew 17 (.getfield 35) 3 20 := ⟨by decide +kernel, rfl⟩
theorem nX1_beginAnew_20 : Nx mX1_beginAnew 20 (.if_icmp .ge 15) 3 23 := ⟨by decide +kernel, rfl⟩
theorem nX1_beginAnew_23 : Nx mX1_beginAnew 23 (.aload_n 0) 1 24 := ⟨by decide +kernel, rfl⟩
theorem nX1_beginAnew_24 : Nx mX1_beginAnew 24 (.getfield 9) 3 27 := ⟨by decide +kernel, rfl⟩
theorem nX1_beginAnew_27 : Nx mX1_beginAnew 27 (.getfield 40) 3 30 := ⟨by decide +kernel, rfl⟩
theorem nX1_beginAnew_30 : Nx mX1_beginAnew 30 (.iload_n 1) 1 31 := ⟨by decide +kernel, rfl⟩
theorem nX1_beginAnew_31 : Nx mX1_beginAnew 31 (.iaload) 1 32 := ⟨by decide +kernel, rfl⟩
theorem nX1_beginAnew_32 : Nx mX1_beginAnew 32 (.goto 4) 3 35 := ⟨by decide +kernel, rfl⟩
theorem nX1_beginAnew_35 : Nx mX1_beginAnew 35 (.iconst 0) 1 36 := ⟨by decide +kernel, rfl⟩
theorem nX1_beginAnew_36 : Nx mX1_beginAnew 36 (.iastore) 1 37 := ⟨by decide +kernel, rfl⟩
theorem nX1_beginAnew_37 : Nx mX1_beginAnew 37 (.aload_n 0) 1 38 := ⟨by decide +kernel, rfl⟩
theorem nX1_beginAnew_38 : Nx mX1_beginAnew 38 (.getfield 19) 3 41 := ⟨by decide +kernel, rfl⟩
theorem nX1_beginAnew_41 : Nx mX1_beginAnew 41 (.iload_n 1) 1 42 := ⟨by decide +kernel, rfl⟩
theorem nX1_beginAnew_42 : Nx mX1_beginAnew 42 (.iconst 0) 1 43 := ⟨by decide +kernel, rfl⟩
theorem nX1_beginAnew_43 : Nx mX1_beginAnew 43 (.iastore) 1 44 := ⟨by decide +kernel, rfl⟩
theorem nX1_beginAnew_44 : Nx mX1_beginAnew 44 (.iinc 1 1) 3 47 := ⟨by decide +kernel, rfl⟩
theorem nX1_beginAnew_47 : Nx mX1_beginAnew 47 (.goto (-45)) 3 50 := ⟨by decide +kernel, rfl⟩
theorem nX1_beginAnew_50 : Nx mX1_beginAnew 50 (.iconst 0) 1 51 := ⟨by decide +kernel, rfl⟩
theorem nX1_beginAnew_51 : Nx mX1_beginAnew 51 (.istore_n 1) 1 52 := ⟨by decide +kernel, rfl⟩
theorem nX1_beginAnew_52 : Nx mX1_beginAnew 52 (.iload_n 1) 1 53 := ⟨by decide +kernel, rfl⟩
theorem nX1_beginAnew_53 : Nx mX1_beginAnew 53 (.bipush 20) 2 55 := ⟨by decide +kernel, rfl⟩
theorem nX1_beginAnew_55 : Nx mX1_beginAnew 55 (.if_icmp .ge 16) 3 58 := ⟨by decide +kernel, rfl⟩
theorem nX1_beginAnew_58 : Nx mX1_beginAnew 58 (.aload_n 0) 1 59 := ⟨by decide +kernel, rfl⟩
theorem nX1_beginAnew_59 : Nx mX1_beginAnew 59 (.getfield 22) 3 62 := ⟨by decide +kernel, rfl⟩
theorem nX1_beginAnew_62 : Nx mX1_beginAnew 62 (.iload_n 1) 1 63 := ⟨by decide +kernel, rfl⟩
theorem nX1_beginAnew_63 : Nx mX1_beginAnew 63 (.iconst 0) 1 64 := ⟨by decide +kernel, rfl⟩
theorem nX1_beginAnew_64 : Nx mX1_beginAnew 64 (.iastore) 1 65 := ⟨by decide +kernel, rfl⟩
theorem nX1_beginAnew_65 : Nx mX1_beginAnew 65 (.iinc 1 1) 3 68 := ⟨by decide +kernel, rfl⟩
theorem nX1_beginAnew_68 : Nx mX1_beginAnew 68 (.goto (-16)) 3 71 := ⟨by decide +kernel, rfl⟩
theorem nX1_beginAnew_71 : Nx mX1_beginAnew 71 (.aload_n 0) 1 72 := ⟨by decide +kernel, rfl⟩
theorem nX1_beginAnew_72 : Nx mX1_beginAnew 72 (.iconst 0) 1 73 := ⟨by decide +kernel, rfl⟩
theorem nX1_beginAnew_73 : Nx mX1_beginAnew 73 (.putfield 25) 3 76 := ⟨by decide +kernel, rfl⟩
theorem nX1_beginAnew_76 : Nx mX1_beginAnew 76 (.return_) 1 77 := ⟨by decide +kernel, rfl⟩
theorem nX1_copyFrom_0 : Nx mX1_copyFrom 0 (.aload_n 1) 1 1 := ⟨by decide +kernel, rfl⟩
theorem nX1_copyFrom_1 : Nx mX1_copyFrom 1 (.getfield 15) 3 4 := ⟨by decide +kernel, rfl⟩
theorem nX1_copyFrom_4 : Nx mX1_copyFrom 4 (.iconst 0) 1 5 := ⟨by decide +kernel, rfl⟩
theorem nX1_copyFrom_5 : Nx mX1_copyFrom 5 (.aload_n 0) 1 6 := ⟨by decide +kernel, rfl⟩
theorem nX1_copyFrom_6 : Nx mX1_copyFrom 6 (.getfield 15) 3 9 := ⟨by decide +kernel, rfl⟩
theorem nX1_copyFrom_9 : Nx mX1_copyFrom 9 (.iconst 0) 1 10 := ⟨by decide +kernel, rfl⟩
theorem nX1_copyFrom_10 : Nx mX1_copyFrom 10 (.iconst 4) 1 11 := ⟨by decide +kernel, rfl⟩
theorem nX1_copyFrom_11 : Nx mX1_copyFrom 11 (.invokestatic 43) 3 14 := ⟨by decide +kernel, rfl⟩
theorem nX1_copyFrom_14 : Nx mX1_copyFrom 14 (.aload_n 1) 1 15 := ⟨by decide +kernel, rfl⟩
theorem nX1_copyFrom_15 : Nx mX1_copyFrom 15 (.getfield 19) 3 18 := ⟨by decide +kernel, rfl⟩
theorem nX1_copyFrom_18 : Nx mX1_copyFrom 18 (.iconst 0) 1 19 := ⟨by decide +kernel, rfl⟩
theorem nX1_copyFrom_19 : Nx mX1_copyFrom 19 (.aload_n 0) 1 20 := ⟨by decide +kernel, rfl⟩
theorem nX1_copyFrom_20 : Nx mX1_copyFrom 20 (.getfield 19) 3 23 := ⟨by decide +kernel, rfl⟩
theorem nX1_copyFrom_23 : Nx mX1_copyFrom 23 (.iconst 0) 1 24 := ⟨by decide +kernel, rfl⟩
theorem nX1_copyFrom_24 : Nx mX1_copyFrom 24 (.iconst 4) 1 25 := ⟨by decide +kernel, rfl⟩
theorem nX1_copyFrom_25 : Nx mX1_copyFrom 25 (.invokestatic 43) 3 28 := ⟨by decide +kernel, rfl⟩
theorem nX1_copyFrom_28 : Nx mX1_copyFrom 28 (.aload_n 1) 1 29 := ⟨by decide +kernel, rfl⟩
theorem nX1_copyFrom_29 : Nx mX1_copyFrom 29 (.getfield 22) 3 32 := ⟨by decide +kernel, rfl⟩
theorem nX1_copyFrom_32 : Nx mX1_copyFrom 32 (.iconst 0) 1 33 := ⟨by decide +kernel, rfl⟩
theorem nX1_copyFrom_33 : Nx mX1_copyFrom 33 (.aload_n 0) 1 34 := ⟨by decide +kernel, rfl⟩
theorem nX1_copyFrom_34 : Nx mX1_copyFrom 34 (.getfield 22) 3 37 := ⟨by decide +kernel, rfl⟩
theorem nX1_copyFrom_37 : Nx mX1_copyFrom 37 (.iconst 0) 1 38 := ⟨by decide +kernel, rfl⟩
theorem nX1_copyFrom_38 : Nx mX1_copyFrom 38 (.bipush 20) 2 40 := ⟨by decide +kernel, rfl⟩
theorem nX1_copyFrom_40 : Nx mX1_copyFrom 40 (.invokestatic 43) 3 43 := ⟨by decide +kernel, rfl⟩
theorem nX1_copyFrom_43 : Nx mX1_copyFrom 43 (.aload_n 0) 1 44 := ⟨by decide +kernel, rfl⟩
theorem nX1_copyFrom_44 : Nx mX1_copyFrom 44 (.aload_n 1) 1 45 := ⟨by decide +kernel, rfl⟩
theorem nX1_copyFrom_45 : Nx mX1_copyFrom 45 (.getfield 25) 3 48 := ⟨by decide +kernel, rfl⟩
theorem nX1_copyFrom_48 : Nx mX1_copyFrom 48 (.putfield 25) 3 51 := ⟨by decide +kernel, rfl⟩
theorem nX1_copyFrom_51 : Nx mX1_copyFrom 51 (.return_) 1 52 := ⟨by decide +kernel, rfl⟩
theorem nX1_debt_0 : Nx mX1_debt 0 (.aload_n 0) 1 1 := ⟨by decide +kernel, rfl⟩
theorem nX1_debt_1 : Nx mX1_debt 1 (.getfield 22) 3 4 := ⟨by decide +kernel, rfl⟩
theorem nX1_debt_4 : Nx mX1_debt 4 (.iload_n 1) 1 5 := ⟨by decide +kernel, rfl⟩
theorem nX1_debt_5 : Nx mX1_debt 5 (.iconst 4) 1 6 := ⟨by decide +kernel, rfl⟩
theorem nX1_debt_6 : Nx mX1_debt 6 (.imul) 1 7 := ⟨by decide +kernel, rfl⟩
theorem nX1_debt_7 : Nx mX1_debt 7 (.iload_n 2) 1 8 := ⟨by decide +kernel, rfl⟩
theorem nX1_debt_8 : Nx mX1_debt 8 (.iadd) 1 9 := ⟨by decide +kernel, rfl⟩
theorem nX1_debt_9 : Nx mX1_debt 9 (.iaload) 1 10 := ⟨by decide +kernel, rfl⟩
theorem nX1_debt_10 : Nx mX1_debt 10 (.ireturn) 1 11 := ⟨by decide +kernel, rfl⟩
theorem nX1_debtsOf_0 : Nx mX1_debtsOf 0 (.iconst 0) 1 1 := ⟨by decide +kernel, rfl⟩
theorem nX1_debtsOf_1 : Nx mX1_debtsOf 1 (.istore_n 2) 1 2 := ⟨by decide +kernel, rfl⟩
theorem nX1_debtsOf_2 : Nx mX1_debtsOf 2 (.iconst 0) 1 3 := ⟨by decide +kernel, rfl⟩
theorem nX1_debtsOf_3 : Nx mX1_debtsOf 3 (.istore_n 3) 1 4 := ⟨by decide +kernel, rfl⟩
theorem nX1_debtsOf_4 : Nx mX1_debtsOf 4 (.iload_n 3) 1 5 := ⟨by decide +kernel, rfl⟩
theorem nX1_debtsOf_5 : Nx mX1_debtsOf 5 (.aload_n 0) 1 6 := ⟨by decide +kernel, rfl⟩
theorem nX1_debtsOf_6 : Nx mX1_debtsOf 6 (.getfield 9) 3 9 := ⟨by decide +kernel, rfl⟩
theorem nX1_debtsOf_9 : Nx mX1_debtsOf 9 (.getfield 35) 3 12 := ⟨by decide +kernel, rfl⟩
theorem nX1_debtsOf_12 : Nx mX1_debtsOf 12 (.if_icmp .ge 18) 3 15 := ⟨by decide +kernel, rfl⟩
theorem nX1_debtsOf_15 : Nx mX1_debtsOf 15 (.iload_n 2) 1 16 := ⟨by decide +kernel, rfl⟩
theorem nX1_debtsOf_16 : Nx mX1_debtsOf 16 (.aload_n 0) 1 17 := ⟨by decide +kernel, rfl⟩
theorem nX1_debtsOf_17 : Nx mX1_debtsOf 17 (.iload_n 1) 1 18 := ⟨by decide +kernel, rfl⟩
theorem nX1_debtsOf_18 : Nx mX1_debtsOf 18 (.iload_n 3) 1 19 := ⟨by decide +kernel, rfl⟩
theorem nX1_debtsOf_19 : Nx mX1_debtsOf 19 (.invokevirtual 49) 3 22 := ⟨by decide +kernel, rfl⟩
theorem nX1_debtsOf_22 : Nx mX1_debtsOf 22 (.iadd) 1 23 := ⟨by decide +kernel, rfl⟩
theorem nX1_debtsOf_23 : Nx mX1_debtsOf 23 (.istore_n 2) 1 24 := ⟨by decide +kernel, rfl⟩
theorem nX1_debtsOf_24 : Nx mX1_debtsOf 24 (.iinc 3 1) 3 27 := ⟨by decide +kernel, rfl⟩
theorem nX1_debtsOf_27 : Nx mX1_debtsOf 27 (.goto (-23)) 3 30 := ⟨by decide +kernel, rfl⟩
theorem nX1_debtsOf_30 : Nx mX1_debtsOf 30 (.iload_n 2) 1 31 := ⟨by decide +kernel, rfl⟩
theorem nX1_debtsOf_31 : Nx mX1_debtsOf 31 (.ireturn) 1 32 := ⟨by decide +kernel, rfl⟩
theorem nX1_allDebts_0 : Nx mX1_allDebts 0 (.iconst 0) 1 1 := ⟨by decide +kernel, rfl⟩
theorem nX1_allDebts_1 : Nx mX1_allDebts 1 (.istore_n 1) 1 2 := ⟨by decide +kernel, rfl⟩
theorem nX1_allDebts_2 : Nx mX1_allDebts 2 (.iconst 0) 1 3 := ⟨by decide +kernel, rfl⟩
theorem nX1_allDebts_3 : Nx mX1_allDebts 3 (.istore_n 2) 1 4 := ⟨by decide +kernel, rfl⟩
theorem nX1_allDebts_4 : Nx mX1_allDebts 4 (.iload_n 2) 1 5 := ⟨by decide +kernel, rfl⟩
theorem nX1_allDebts_5 : Nx mX1_allDebts 5 (.aload_n 0) 1 6 := ⟨by decide +kernel, rfl⟩
theorem nX1_allDebts_6 : Nx mX1_allDebts 6 (.getfield 9) 3 9 := ⟨by decide +kernel, rfl⟩
theorem nX1_allDebts_9 : Nx mX1_allDebts 9 (.getfield 53) 3 12 := ⟨by decide +kernel, rfl⟩
theorem nX1_allDebts_12 : Nx mX1_allDebts 12 (.if_icmp .ge 17) 3 15 := ⟨by decide +kernel, rfl⟩
theorem nX1_allDebts_15 : Nx mX1_allDebts 15 (.iload_n 1) 1 16 := ⟨by decide +kernel, rfl⟩
theorem nX1_allDebts_16 : Nx mX1_allDebts 16 (.aload_n 0) 1 17 := ⟨by decide +kernel, rfl⟩
theorem nX1_allDebts_17 : Nx mX1_allDebts 17 (.iload_n 2) 1 18 := ⟨by decide +kernel, rfl⟩
theorem nX1_allDebts_18 : Nx mX1_allDebts 18 (.invokevirtual 56) 3 21 := ⟨by decide +kernel, rfl⟩
theorem nX1_allDebts_21 : Nx mX1_allDebts 21 (.iadd) 1 22 := ⟨by decide +kernel, rfl⟩
theorem nX1_allDebts_22 : Nx mX1_allDebts 22 (.istore_n 1) 1 23 := ⟨by decide +kernel, rfl⟩
theorem nX1_allDebts_23 : Nx mX1_allDebts 23 (.iinc 2 1) 3 26 := ⟨by decide +kernel, rfl⟩
theorem nX1_allDebts_26 : Nx mX1_allDebts 26 (.goto (-22)) 3 29 := ⟨by decide +kernel, rfl⟩
theorem nX1_allDebts_29 : Nx mX1_allDebts 29 (.iload_n 1) 1 30 := ⟨by decide +kernel, rfl⟩
theorem nX1_allDebts_30 : Nx mX1_allDebts 30 (.ireturn) 1 31 := ⟨by decide +kernel, rfl⟩
theorem nX1_debtorsOf_0 : Nx mX1_debtorsOf 0 (.iconst 0) 1 1 := ⟨by decide +kernel, rfl⟩
theorem nX1_debtorsOf_1 : Nx mX1_debtorsOf 1 (.istore_n 2) 1 2 := ⟨by decide +kernel, rfl⟩
theorem nX1_debtorsOf_2 : Nx mX1_debtorsOf 2 (.iconst 0) 1 3 := ⟨by decide +kernel, rfl⟩
theorem nX1_debtorsOf_3 : Nx mX1_debtorsOf 3 (.istore_n 3) 1 4 := ⟨by decide +kernel, rfl⟩
theorem nX1_debtorsOf_4 : Nx mX1_debtorsOf 4 (.iload_n 3) 1 5 := ⟨by decide +kernel, rfl⟩
theorem nX1_debtorsOf_5 : Nx mX1_debtorsOf 5 (.aload_n 0) 1 6 := ⟨by decide +kernel, rfl⟩
theorem nX1_debtorsOf_6 : Nx mX1_debtorsOf 6 (.getfield 9) 3 9 := ⟨by decide +kernel, rfl⟩
theorem nX1_debtorsOf_9 : Nx mX1_debtorsOf 9 (.getfield 53) 3 12 := ⟨by decide +kernel, rfl⟩
theorem nX1_debtorsOf_12 : Nx mX1_debtorsOf 12 (.if_icmp .ge 28) 3 15 := ⟨by decide +kernel, rfl⟩
theorem nX1_debtorsOf_15 : Nx mX1_debtorsOf 15 (.iload_n 2) 1 16 := ⟨by decide +kernel, rfl⟩
theorem nX1_debtorsOf_16 : Nx mX1_debtorsOf 16 (.aload_n 0) 1 17 := ⟨by decide +kernel, rfl⟩
theorem nX1_debtorsOf_17 : Nx mX1_debtorsOf 17 (.iload_n 3) 1 18 := ⟨by decide +kernel, rfl⟩
theorem nX1_debtorsOf_18 : Nx mX1_debtorsOf 18 (.iload_n 1) 1 19 := ⟨by decide +kernel, rfl⟩
theorem nX1_debtorsOf_19 : Nx mX1_debtorsOf 19 (.invokevirtual 49) 3 22 := ⟨by decide +kernel, rfl⟩
theorem nX1_debtorsOf_22 : Nx mX1_debtorsOf 22 (.ifCond .le 9) 3 25 := ⟨by decide +kernel, rfl⟩
theorem nX1_debtorsOf_25 : Nx mX1_debtorsOf 25 (.iconst 1) 1 26 := ⟨by decide +kernel, rfl⟩
theorem nX1_debtorsOf_26 : Nx mX1_debtorsOf 26 (.iload_n 3) 1 27 := ⟨by decide +kernel, rfl⟩
theorem nX1_debtorsOf_27 : Nx mX1_debtorsOf 27 (.ishl) 1 28 := ⟨by decide +kernel, rfl⟩
theorem nX1_debtorsOf_28 : Nx mX1_debtorsOf 28 (.goto 4) 3 31 := ⟨by decide +kernel, rfl⟩
theorem nX1_debtorsOf_31 : Nx mX1_debtorsOf 31 (.iconst 0) 1 32 := ⟨by decide +kernel, rfl⟩
theorem nX1_debtorsOf_32 : Nx mX1_debtorsOf 32 (.ior) 1 33 := ⟨by decide +kernel, rfl⟩
theorem nX1_debtorsOf_33 : Nx mX1_debtorsOf 33 (.istore_n 2) 1 34 := ⟨by decide +kernel, rfl⟩
theorem nX1_debtorsOf_34 : Nx mX1_debtorsOf 34 (.iinc 3 1) 3 37 := ⟨by decide +kernel, rfl⟩
theorem nX1_debtorsOf_37 : Nx mX1_debtorsOf 37 (.goto (-33)) 3 40 := ⟨by decide +kernel, rfl⟩
theorem nX1_debtorsOf_40 : Nx mX1_debtorsOf 40 (.iload_n 2) 1 41 := ⟨by decide +kernel, rfl⟩
theorem nX1_debtorsOf_41 : Nx mX1_debtorsOf 41 (.ireturn) 1 42 := ⟨by decide +kernel, rfl⟩
theorem nX1_allLoaves_0 : Nx mX1_allLoaves 0 (.iconst 0) 1 1 := ⟨by decide +kernel, rfl⟩
theorem nX1_allLoaves_1 : Nx mX1_allLoaves 1 (.istore_n 1) 1 2 := ⟨by decide +kernel, rfl⟩
theorem nX1_allLoaves_2 : Nx mX1_allLoaves 2 (.iconst 0) 1 3 := ⟨by decide +kernel, rfl⟩
theorem nX1_allLoaves_3 : Nx mX1_allLoaves 3 (.istore_n 2) 1 4 := ⟨by decide +kernel, rfl⟩
theorem nX1_allLoaves_4 : Nx mX1_allLoaves 4 (.iload_n 2) 1 5 := ⟨by decide +kernel, rfl⟩
theorem nX1_allLoaves_5 : Nx mX1_allLoaves 5 (.aload_n 0) 1 6 := ⟨by decide +kernel, rfl⟩
theorem nX1_allLoaves_6 : Nx mX1_allLoaves 6 (.getfield 9) 3 9 := ⟨by decide +kernel, rfl⟩
theorem nX1_allLoaves_9 : Nx mX1_allLoaves 9 (.getfield 35) 3 12 := ⟨by decide +kernel, rfl⟩
theorem nX1_allLoaves_12 : Nx mX1_allLoaves 12 (.if_icmp .ge 18) 3 15 := ⟨by decide +kernel, rfl⟩
theorem nX1_allLoaves_15 : Nx mX1_allLoaves 15 (.iload_n 1) 1 16 := ⟨by decide +kernel, rfl⟩
theorem nX1_allLoaves_16 : Nx mX1_allLoaves 16 (.aload_n 0) 1 17 := ⟨by decide +kernel, rfl⟩
theorem nX1_allLoaves_17 : Nx mX1_allLoaves 17 (.getfield 15) 3 20 := ⟨by decide +kernel, rfl⟩
theorem nX1_allLoaves_20 : Nx mX1_allLoaves 20 (.iload_n 2) 1 21 := ⟨by decide +kernel, rfl⟩
theorem nX1_allLoaves_21 : Nx mX1_allLoaves 21 (.iaload) 1 22 := ⟨by decide +kernel, rfl⟩
theorem nX1_allLoaves_22 : Nx mX1_allLoaves 22 (.iadd) 1 23 := ⟨by decide +kernel, rfl⟩
theorem nX1_allLoaves_23 : Nx mX1_allLoaves 23 (.istore_n 1) 1 24 := ⟨by decide +kernel, rfl⟩
theorem nX1_allLoaves_24 : Nx mX1_allLoaves 24 (.iinc 2 1) 3 27 := ⟨by decide +kernel, rfl⟩
theorem nX1_allLoaves_27 : Nx mX1_allLoaves 27 (.goto (-23)) 3 30 := ⟨by decide +kernel, rfl⟩
theorem nX1_allLoaves_30 : Nx mX1_allLoaves 30 (.iload_n 1) 1 31 := ⟨by decide +kernel, rfl⟩
theorem nX1_allLoaves_31 : Nx mX1_allLoaves 31 (.ireturn) 1 32 := ⟨by decide +kernel, rfl⟩
theorem nX1_allSeed_0 : Nx mX1_allSeed 0 (.iconst 0) 1 1 := ⟨by decide +kernel, rfl⟩
theorem nX1_allSeed_1 : Nx mX1_allSeed 1 (.istore_n 1) 1 2 := ⟨by decide +kernel, rfl⟩
theorem nX1_allSeed_2 : Nx mX1_allSeed 2 (.iconst 0) 1 3 := ⟨by decide +kernel, rfl⟩
theorem nX1_allSeed_3 : Nx mX1_allSeed 3 (.istore_n 2) 1 4 := ⟨by decide +kernel, rfl⟩
theorem nX1_allSeed_4 : Nx mX1_allSeed 4 (.iload_n 2) 1 5 := ⟨by decide +kernel, rfl⟩
theorem nX1_allSeed_5 : Nx mX1_allSeed 5 (.aload_n 0) 1 6 := ⟨by decide +kernel, rfl⟩
theorem nX1_allSeed_6 : Nx mX1_allSeed 6 (.getfield 9) 3 9 := ⟨by decide +kernel, rfl⟩
theorem nX1_allSeed_9 : Nx mX1_allSeed 9 (.getfield 35) 3 12 := ⟨by decide +kernel, rfl⟩
theorem nX1_allSeed_12 : Nx mX1_allSeed 12 (.if_icmp .ge 18) 3 15 := ⟨by decide +kernel, rfl⟩
theorem nX1_allSeed_15 : Nx mX1_allSeed 15 (.iload_n 1) 1 16 := ⟨by decide +kernel, rfl⟩
theorem nX1_allSeed_16 : Nx mX1_allSeed 16 (.aload_n 0) 1 17 := ⟨by decide +kernel, rfl⟩
theorem nX1_allSeed_17 : Nx mX1_allSeed 17 (.getfield 19) 3 20 := ⟨by decide +kernel, rfl⟩
theorem nX1_allSeed_20 : Nx mX1_allSeed 20 (.iload_n 2) 1 21 := ⟨by decide +kernel, rfl⟩
theorem nX1_allSeed_21 : Nx mX1_allSeed 21 (.iaload) 1 22 := ⟨by decide +kernel, rfl⟩
theorem nX1_allSeed_22 : Nx mX1_allSeed 22 (.iadd) 1 23 := ⟨by decide +kernel, rfl⟩
theorem nX1_allSeed_23 : Nx mX1_allSeed 23 (.istore_n 1) 1 24 := ⟨by decide +kernel, rfl⟩
theorem nX1_allSeed_24 : Nx mX1_allSeed 24 (.iinc 2 1) 3 27 := ⟨by decide +kernel, rfl⟩
theorem nX1_allSeed_27 : Nx mX1_allSeed 27 (.goto (-23)) 3 30 := ⟨by decide +kernel, rfl⟩
theorem nX1_allSeed_30 : Nx mX1_allSeed 30 (.iload_n 1) 1 31 := ⟨by decide +kernel, rfl⟩
theorem nX1_allSeed_31 : Nx mX1_allSeed 31 (.ireturn) 1 32 := ⟨by decide +kernel, rfl⟩
theorem nX1_isSown_0 : Nx mX1_isSown 0 (.aload_n 0) 1 1 := ⟨by decide +kernel, rfl⟩
theorem nX1_isSown_1 : Nx mX1_isSown 1 (.getfield 19) 3 4 := ⟨by decide +kernel, rfl⟩
theorem nX1_isSown_4 : Nx mX1_isSown 4 (.iload_n 1) 1 5 := ⟨by decide +kernel, rfl⟩
theorem nX1_isSown_5 : Nx mX1_isSown 5 (.iaload) 1 6 := ⟨by decide +kernel, rfl⟩
theorem nX1_isSown_6 : Nx mX1_isSown 6 (.aload_n 0) 1 7 := ⟨by decide +kernel, rfl⟩
theorem nX1_isSown_7 : Nx mX1_isSown 7 (.getfield 9) 3 10 := ⟨by decide +kernel, rfl⟩
theorem nX1_isSown_10 : Nx mX1_isSown 10 (.getfield 60) 3 13 := ⟨by decide +kernel, rfl⟩
theorem nX1_isSown_13 : Nx mX1_isSown 13 (.iload_n 1) 1 14 := ⟨by decide +kernel, rfl⟩
theorem nX1_isSown_14 : Nx mX1_isSown 14 (.iaload) 1 15 := ⟨by decide +kernel, rfl⟩
theorem nX1_isSown_15 : Nx mX1_isSown 15 (.if_icmp .lt 7) 3 18 := ⟨by decide +kernel, rfl⟩
theorem nX1_isSown_18 : Nx mX1_isSown 18 (.iconst 1) 1 19 := ⟨by decide +kernel, rfl⟩
theorem nX1_isSown_19 : Nx mX1_isSown 19 (.goto 4) 3 22 := ⟨by decide +kernel, rfl⟩
theorem nX1_isSown_22 : Nx mX1_isSown 22 (.iconst 0) 1 23 := ⟨by decide +kernel, rfl⟩
theorem nX1_isSown_23 : Nx mX1_isSown 23 (.ireturn) 1 24 := ⟨by decide +kernel, rfl⟩
theorem nX1_sownFields_0 : Nx mX1_sownFields 0 (.iconst 0) 1 1 := ⟨by decide +kernel, rfl⟩
theorem nX1_sownFields_1 : Nx mX1_sownFields 1 (.istore_n 1) 1 2 := ⟨by decide +kernel, rfl⟩
theorem nX1_sownFields_2 : Nx mX1_sownFields 2 (.iconst 0) 1 3 := ⟨by decide +kernel, rfl⟩
theorem nX1_sownFields_3 : Nx mX1_sownFields 3 (.istore_n 2) 1 4 := ⟨by decide +kernel, rfl⟩
theorem nX1_sownFields_4 : Nx mX1_sownFields 4 (.iload_n 2) 1 5 := ⟨by decide +kernel, rfl⟩
theorem nX1_sownFields_5 : Nx mX1_sownFields 5 (.aload_n 0) 1 6 := ⟨by decide +kernel, rfl⟩
theorem nX1_sownFields_6 : Nx mX1_sownFields 6 (.getfield 9) 3 9 := ⟨by decide +kernel, rfl⟩
theorem nX1_sownFields_9 : Nx mX1_sownFields 9 (.getfield 35) 3 12 := ⟨by decide +kernel, rfl⟩
theorem nX1_sownFields_12 : Nx mX1_sownFields 12 (.if_icmp .ge 27) 3 15 := ⟨by decide +kernel, rfl⟩
theorem nX1_sownFields_15 : Nx mX1_sownFields 15 (.iload_n 1) 1 16 := ⟨by decide +kernel, rfl⟩
theorem nX1_sownFields_16 : Nx mX1_sownFields 16 (.aload_n 0) 1 17 := ⟨by decide +kernel, rfl⟩
theorem nX1_sownFields_17 : Nx mX1_sownFields 17 (.iload_n 2) 1 18 := ⟨by decide +kernel, rfl⟩
theorem nX1_sownFields_18 : Nx mX1_sownFields 18 (.invokevirtual 63) 3 21 := ⟨by decide +kernel, rfl⟩
theorem nX1_sownFields_21 : Nx mX1_sownFields 21 (.ifCond .eq 9) 3 24 := ⟨by decide +kernel, rfl⟩
theorem nX1_sownFields_24 : Nx mX1_sownFields 24 (.iconst 1) 1 25 := ⟨by decide +kernel, rfl⟩
theorem nX1_sownFields_25 : Nx mX1_sownFields 25 (.iload_n 2) 1 26 := ⟨by decide +kernel, rfl⟩
theorem nX1_sownFields_26 : Nx mX1_sownFields 26 (.ishl) 1 27 := ⟨by decide +kernel, rfl⟩
theorem nX1_sownFields_27 : Nx mX1_sownFields 27 (.goto 4) 3 30 := ⟨by decide +kernel, rfl⟩
theorem nX1_sownFields_30 : Nx mX1_sownFields 30 (.iconst 0) 1 31 := ⟨by decide +kernel, rfl⟩
theorem nX1_sownFields_31 : Nx mX1_sownFields 31 (.ior) 1 32 := ⟨by decide +kernel, rfl⟩
theorem nX1_sownFields_32 : Nx mX1_sownFields 32 (.istore_n 1) 1 33 := ⟨by decide +kernel, rfl⟩
theorem nX1_sownFields_33 : Nx mX1_sownFields 33 (.iinc 2 1) 3 36 := ⟨by decide +kernel, rfl⟩
theorem nX1_sownFields_36 : Nx mX1_sownFields 36 (.goto (-32)) 3 39 := ⟨by decide +kernel, rfl⟩
theorem nX1_sownFields_39 : Nx mX1_sownFields 39 (.iload_n 1) 1 40 := ⟨by decide +kernel, rfl⟩
theorem nX1_sownFields_40 : Nx mX1_sownFields 40 (.ireturn) 1 41 := ⟨by decide +kernel, rfl⟩
theorem nX1_canTake_0 : Nx mX1_canTake 0 (.aload_n 0) 1 1 := ⟨by decide +kernel, rfl⟩
theorem nX1_canTake_1 : Nx mX1_canTake 1 (.getfield 9) 3 4 := ⟨by decide +kernel, rfl⟩
theorem nX1_canTake_4 : Nx mX1_canTake 4 (.getfield 67) 3 7 := ⟨by decide +kernel, rfl⟩
theorem nX1_canTake_7 : Nx mX1_canTake 7 (.iload_n 1) 1 8 := ⟨by decide +kernel, rfl⟩
theorem nX1_canTake_8 : Nx mX1_canTake 8 (.iaload) 1 9 := ⟨by decide +kernel, rfl⟩
theorem nX1_canTake_9 : Nx mX1_canTake 9 (.iconst 3) 1 10 := ⟨by decide +kernel, rfl⟩
theorem nX1_canTake_10 : Nx mX1_canTake 10 (.if_icmp .ne 15) 3 13 := ⟨by decide +kernel, rfl⟩
theorem nX1_canTake_13 : Nx mX1_canTake 13 (.aload_n 0) 1 14 := ⟨by decide +kernel, rfl⟩
theorem nX1_canTake_14 : Nx mX1_canTake 14 (.iload_n 1) 1 15 := ⟨by decide +kernel, rfl⟩
theorem nX1_canTake_15 : Nx mX1_canTake 15 (.invokevirtual 56) 3 18 := ⟨by decide +kernel, rfl⟩
theorem nX1_canTake_18 : Nx mX1_canTake 18 (.ifCond .le 7) 3 21 := ⟨by decide +kernel, rfl⟩
theorem nX1_canTake_21 : Nx mX1_canTake 21 (.iconst 1) 1 22 := ⟨by decide +kernel, rfl⟩
theorem nX1_canTake_22 : Nx mX1_canTake 22 (.goto 4) 3 25 := ⟨by decide +kernel, rfl⟩
theorem nX1_canTake_25 : Nx mX1_canTake 25 (.iconst 0) 1 26 := ⟨by decide +kernel, rfl⟩
theorem nX1_canTake_26 : Nx mX1_canTake 26 (.istore_n 3) 1 27 := ⟨by decide +kernel, rfl⟩
theorem nX1_canTake_27 : Nx mX1_canTake 27 (.aload_n 0) 1 28 := ⟨by decide +kernel, rfl⟩
theorem nX1_canTake_28 : Nx mX1_canTake 28 (.getfield 15) 3 31 := ⟨by decide +kernel, rfl⟩
theorem nX1_canTake_31 : Nx mX1_canTake 31 (.iload_n 2) 1 32 := ⟨by decide +kernel, rfl⟩
theorem nX1_canTake_32 : Nx mX1_canTake 32 (.iaload) 1 33 := ⟨by decide +kernel, rfl⟩
theorem nX1_canTake_33 : Nx mX1_canTake 33 (.aload_n 0) 1 34 := ⟨by decide +kernel, rfl⟩
theorem nX1_canTake_34 : Nx mX1_canTake 34 (.getfield 9) 3 37 := ⟨by decide +kernel, rfl⟩
theorem nX1_canTake_37 : Nx mX1_canTake 37 (.iload_n 1) 1 38 := ⟨by decide +kernel, rfl⟩
theorem nX1_canTake_38 : Nx mX1_canTake 38 (.invokevirtual 70) 3 41 := ⟨by decide +kernel, rfl⟩
theorem nX1_canTake_41 : Nx mX1_canTake 41 (.if_icmp .lt 11) 3 44 := ⟨by decide +kernel, rfl⟩
theorem nX1_canTake_44 : Nx mX1_canTake 44 (.iload_n 3) 1 45 := ⟨by decide +kernel, rfl⟩
theorem nX1_canTake_45 : Nx mX1_canTake 45 (.ifCond .ne 7) 3 48 := ⟨by decide +kernel, rfl⟩
theorem nX1_canTake_48 : Nx mX1_canTake 48 (.iconst 1) 1 49 := ⟨by decide +kernel, rfl⟩
theorem nX1_canTake_49 : Nx mX1_canTake 49 (.goto 4) 3 52 := ⟨by decide +kernel, rfl⟩
theorem nX1_canTake_52 : Nx mX1_canTake 52 (.iconst 0) 1 53 := ⟨by decide +kernel, rfl⟩
theorem nX1_canTake_53 : Nx mX1_canTake 53 (.ireturn) 1 54 := ⟨by decide +kernel, rfl⟩
theorem nX1_takeLoaves_0 : Nx mX1_takeLoaves 0 (.aload_n 0) 1 1 := ⟨by decide +kernel, rfl⟩
theorem nX1_takeLoaves_1 : Nx mX1_takeLoaves 1 (.getfield 9) 3 4 := ⟨by decide +kernel, rfl⟩
theorem nX1_takeLoaves_4 : Nx mX1_takeLoaves 4 (.iload_n 1) 1 5 := ⟨by decide +kernel, rfl⟩
theorem nX1_takeLoaves_5 : Nx mX1_takeLoaves 5 (.invokevirtual 70) 3 8 := ⟨by decide +kernel, rfl⟩
theorem nX1_takeLoaves_8 : Nx mX1_takeLoaves 8 (.istore_n 3) 1 9 := ⟨by decide +kernel, rfl⟩
theorem nX1_takeLoaves_9 : Nx mX1_takeLoaves 9 (.aload_n 0) 1 10 := ⟨by decide +kernel, rfl⟩
theorem nX1_takeLoaves_10 : Nx mX1_takeLoaves 10 (.getfield 15) 3 13 := ⟨by decide +kernel, rfl⟩
theorem nX1_takeLoaves_13 : Nx mX1_takeLoaves 13 (.iload_n 2) 1 14 := ⟨by decide +kernel, rfl⟩
theorem nX1_takeLoaves_14 : Nx mX1_takeLoaves 14 (.dup2) 1 15 := ⟨by decide +kernel, rfl⟩
theorem nX1_takeLoaves_15 : Nx mX1_takeLoaves 15 (.iaload) 1 16 := ⟨by decide +kernel, rfl⟩
theorem nX1_takeLoaves_16 : Nx mX1_takeLoaves 16 (.iload_n 3) 1 17 := ⟨by decide +kernel, rfl⟩
theorem nX1_takeLoaves_17 : Nx mX1_takeLoaves 17 (.isub) 1 18 := ⟨by decide +kernel, rfl⟩
theorem nX1_takeLoaves_18 : Nx mX1_takeLoaves 18 (.iastore) 1 19 := ⟨by decide +kernel, rfl⟩
theorem nX1_takeLoaves_19 : Nx mX1_takeLoaves 19 (.aload_n 0) 1 20 := ⟨by decide +kernel, rfl⟩
theorem nX1_takeLoaves_20 : Nx mX1_takeLoaves 20 (.getfield 22) 3 23 := ⟨by decide +kernel, rfl⟩
theorem nX1_takeLoaves_23 : Nx mX1_takeLoaves 23 (.iload_n 1) 1 24 := ⟨by decide +kernel, rfl⟩
theorem nX1_takeLoaves_24 : Nx mX1_takeLoaves 24 (.iconst 4) 1 25 := ⟨by decide +kernel, rfl⟩
theorem nX1_takeLoaves_25 : Nx mX1_takeLoaves 25 (.imul) 1 26 := ⟨by decide +kernel, rfl⟩
theorem nX1_takeLoaves_26 : Nx mX1_takeLoaves 26 (.iload_n 2) 1 27 := ⟨by decide +kernel, rfl⟩
theorem nX1_takeLoaves_27 : Nx mX1_takeLoaves 27 (.iadd) 1 28 := ⟨by decide +kernel, rfl⟩
theorem nX1_takeLoaves_28 : Nx mX1_takeLoaves 28 (.bipush 99) 2 30 := ⟨by decide +kernel, rfl⟩
theorem nX1_takeLoaves_30 : Nx mX1_takeLoaves 30 (.aload_n 0) 1 31 := ⟨by decide +kernel, rfl⟩
theorem nX1_takeLoaves_31 : Nx mX1_takeLoaves 31 (.iload_n 1) 1 32 := ⟨by decide +kernel, rfl⟩
theorem nX1_takeLoaves_32 : Nx mX1_takeLoaves 32 (.iload_n 2) 1 33 := ⟨by decide +kernel, rfl⟩
theorem nX1_takeLoaves_33 : Nx mX1_takeLoaves 33 (.invokevirtual 49) 3 36 := ⟨by decide +kernel, rfl⟩
theorem nX1_takeLoaves_36 : Nx mX1_takeLoaves 36 (.iload_n 3) 1 37 := ⟨by decide +kernel, rfl⟩
theorem nX1_takeLoaves_37 : Nx mX1_takeLoaves 37 (.iadd) 1 38 := ⟨by decide +kernel, rfl⟩
theorem nX1_takeLoaves_38 : Nx mX1_takeLoaves 38 (.invokestatic 73) 3 41 := ⟨by decide +kernel, rfl⟩
theorem nX1_takeLoaves_41 : Nx mX1_takeLoaves 41 (.iastore) 1 42 := ⟨by decide +kernel, rfl⟩
theorem nX1_takeLoaves_42 : Nx mX1_takeLoaves 42 (.return_) 1 43 := ⟨by decide +kernel, rfl⟩
theorem nX1_callOut_0 : Nx mX1_callOut 0 (.iconst 0) 1 1 := ⟨by decide +kernel, rfl⟩
theorem nX1_callOut_1 : Nx mX1_callOut 1 (.istore_n 2) 1 2 := ⟨by decide +kernel, rfl⟩
theorem nX1_callOut_2 : Nx mX1_callOut 2 (.iload_n 2) 1 3 := ⟨by decide +kernel, rfl⟩
theorem nX1_callOut_3 : Nx mX1_callOut 3 (.aload_n 0) 1 4 := ⟨by decide +kernel, rfl⟩
theorem nX1_callOut_4 : Nx mX1_callOut 4 (.getfield 9) 3 7 := ⟨by decide +kernel, rfl⟩
theorem nX1_callOut_7 : Nx mX1_callOut 7 (.getfield 53) 3 10 := ⟨by decide +kernel, rfl⟩
theorem nX1_callOut_10 : Nx mX1_callOut 10 (.if_icmp .ge 32) 3 13 := ⟨by decide +kernel, rfl⟩
theorem nX1_callOut_13 : Nx mX1_callOut 13 (.iload_n 1) 1 14 := ⟨by decide +kernel, rfl⟩
theorem nX1_callOut_14 : Nx mX1_callOut 14 (.iload_n 2) 1 15 := ⟨by decide +kernel, rfl⟩
theorem nX1_callOut_15 : Nx mX1_callOut 15 (.ishr) 1 16 := ⟨by decide +kernel, rfl⟩
theorem nX1_callOut_16 : Nx mX1_callOut 16 (.iconst 1) 1 17 := ⟨by decide +kernel, rfl⟩
theorem nX1_callOut_17 : Nx mX1_callOut 17 (.iand) 1 18 := ⟨by decide +kernel, rfl⟩
theorem nX1_callOut_18 : Nx mX1_callOut 18 (.iconst 1) 1 19 := ⟨by decide +kernel, rfl⟩
theorem nX1_callOut_19 : Nx mX1_callOut 19 (.if_icmp .ne 17) 3 22 := ⟨by decide +kernel, rfl⟩
theorem nX1_callOut_22 : Nx mX1_callOut 22 (.aload_n 0) 1 23 := ⟨by decide +kernel, rfl⟩
theorem nX1_callOut_23 : Nx mX1_callOut 23 (.iload_n 2) 1 24 := ⟨by decide +kernel, rfl⟩
theorem nX1_callOut_24 : Nx mX1_callOut 24 (.aload_n 0) 1 25 := ⟨by decide +kernel, rfl⟩
theorem nX1_callOut_25 : Nx mX1_callOut 25 (.getfield 9) 3 28 := ⟨by decide +kernel, rfl⟩
theorem nX1_callOut_28 : Nx mX1_callOut 28 (.getfield 78) 3 31 := ⟨by decide +kernel, rfl⟩
theorem nX1_callOut_31 : Nx mX1_callOut 31 (.iload_n 2) 1 32 := ⟨by decide +kernel, rfl⟩
theorem nX1_callOut_32 : Nx mX1_callOut 32 (.iaload) 1 33 := ⟨by decide +kernel, rfl⟩
theorem nX1_callOut_33 : Nx mX1_callOut 33 (.invokevirtual 81) 3 36 := ⟨by decide +kernel, rfl⟩
theorem nX1_callOut_36 : Nx mX1_callOut 36 (.iinc 2 1) 3 39 := ⟨by decide +kernel, rfl⟩
theorem nX1_callOut_39 : Nx mX1_callOut 39 (.goto (-37)) 3 42 := ⟨by decide +kernel, rfl⟩
theorem nX1_callOut_42 : Nx mX1_callOut 42 (.return_) 1 43 := ⟨by decide +kernel, rfl⟩
theorem nX1_sendOut_0 : Nx mX1_sendOut 0 (.aload_n 0) 1 1 := ⟨by decide +kernel, rfl⟩
theorem nX1_sendOut_1 : Nx mX1_sendOut 1 (.getfield 29) 3 4 := ⟨by decide +kernel, rfl⟩
theorem nX1_sendOut_4 : Nx mX1_sendOut 4 (.iload_n 1) 1 5 := ⟨by decide +kernel, rfl⟩
theorem nX1_sendOut_5 : Nx mX1_sendOut 5 (.iconst 0) 1 6 := ⟨by decide +kernel, rfl⟩
theorem nX1_sendOut_6 : Nx mX1_sendOut 6 (.iastore) 1 7 := ⟨by decide +kernel, rfl⟩
theorem nX1_sendOut_7 : Nx mX1_sendOut 7 (.aload_n 0) 1 8 := ⟨by decide +kernel, rfl⟩
theorem nX1_sendOut_8 : Nx mX1_sendOut 8 (.getfield 32) 3 11 := ⟨by decide +kernel, rfl⟩
theorem nX1_sendOut_11 : Nx mX1_sendOut 11 (.iload_n 1) 1 12 := ⟨by decide +kernel, rfl⟩
theorem nX1_sendOut_12 : Nx mX1_sendOut 12 (.iconst 0) 1 13 := ⟨by decide +kernel, rfl⟩
theorem nX1_sendOut_13 : Nx mX1_sendOut 13 (.iastore) 1 14 := ⟨by decide +kernel, rfl⟩
theorem nX1_sendOut_14 : Nx mX1_sendOut 14 (.aload_n 0) 1 15 := ⟨by decide +kernel, rfl⟩
theorem nX1_sendOut_15 : Nx mX1_sendOut 15 (.getfield 9) 3 18 := ⟨by decide +kernel, rfl⟩
theorem nX1_sendOut_18 : Nx mX1_sendOut 18 (.getfield 85) 3 21 := ⟨by decide +kernel, rfl⟩
theorem nX1_sendOut_21 : Nx mX1_sendOut 21 (.iload_n 1) 1 22 := ⟨by decide +kernel, rfl⟩
theorem nX1_sendOut_22 : Nx mX1_sendOut 22 (.iaload) 1 23 := ⟨by decide +kernel, rfl⟩
theorem nX1_sendOut_23 : Nx mX1_sendOut 23 (.istore_n 3) 1 24 := ⟨by decide +kernel, rfl⟩
theorem nX1_sendOut_24 : Nx mX1_sendOut 24 (.iconst 0) 1 25 := ⟨by decide +kernel, rfl⟩
theorem nX1_sendOut_25 : Nx mX1_sendOut 25 (.istore 4) 2 27 := ⟨by decide +kernel, rfl⟩
theorem nX1_sendOut_27 : Nx mX1_sendOut 27 (.iload 4) 2 29 := ⟨by decide +kernel, rfl⟩
theorem nX1_sendOut_29 : Nx mX1_sendOut 29 (.iconst 4) 1 30 := ⟨by decide +kernel, rfl⟩
theorem nX1_sendOut_30 : Nx mX1_sendOut 30 (.if_icmp .ge 111) 3 33 := ⟨by decide +kernel, rfl⟩
theorem nX1_sendOut_33 : Nx mX1_sendOut 33 (.aload_n 0) 1 34 := ⟨by decide +kernel, rfl⟩
theorem nX1_sendOut_34 : Nx mX1_sendOut 34 (.iload_n 1) 1 35 := ⟨by decide +kernel, rfl⟩
theorem nX1_sendOut_35 : Nx mX1_sendOut 35 (.iload_n 3) 1 36 := ⟨by decide +kernel, rfl⟩
theorem nX1_sendOut_36 : Nx mX1_sendOut 36 (.invokevirtual 88) 3 39 := ⟨by decide +kernel, rfl⟩
theorem nX1_sendOut_39 : Nx mX1_sendOut 39 (.istore 5) 2 41 := ⟨by decide +kernel, rfl⟩
theorem nX1_sendOut_41 : Nx mX1_sendOut 41 (.iload 5) 2 43 := ⟨by decide +kernel, rfl⟩
theorem nX1_sendOut_43 : Nx mX1_sendOut 43 (.bipush (-9)) 2 45 := ⟨by decide +kernel, rfl⟩
theorem nX1_sendOut_45 : Nx mX1_sendOut 45 (.if_icmp .ne 4) 3 48 := ⟨by decide +kernel, rfl⟩
theorem nX1_sendOut_48 : Nx mX1_sendOut 48 (.return_) 1 49 := ⟨by decide +kernel, rfl⟩
theorem nX1_sendOut_49 : Nx mX1_sendOut 49 (.aload_n 0) 1 50 := ⟨by decide +kernel, rfl⟩
theorem nX1_sendOut_50 : Nx mX1_sendOut 50 (.getfield 9) 3 53 := ⟨by decide +kernel, rfl⟩
theorem nX1_sendOut_53 : Nx mX1_sendOut 53 (.getfield 91) 3 56 := ⟨by decide +kernel, rfl⟩
theorem nX1_sendOut_56 : Nx mX1_sendOut 56 (.iload 5) 2 58 := ⟨by decide +kernel, rfl⟩
theorem nX1_sendOut_58 : Nx mX1_sendOut 58 (.iaload) 1 59 := ⟨by decide +kernel, rfl⟩
theorem nX1_sendOut_59 : Nx mX1_sendOut 59 (.iload_n 3) 1 60 := ⟨by decide +kernel, rfl⟩
theorem nX1_sendOut_60 : Nx mX1_sendOut 60 (.isub) 1 61 := ⟨by decide +kernel, rfl⟩
theorem nX1_sendOut_61 : Nx mX1_sendOut 61 (.invokestatic 94) 3 64 := ⟨by decide +kernel, rfl⟩
theorem nX1_sendOut_64 : Nx mX1_sendOut 64 (.istore 6) 2 66 := ⟨by decide +kernel, rfl⟩
theorem nX1_sendOut_66 : Nx mX1_sendOut 66 (.aload_n 0) 1 67 := ⟨by decide +kernel, rfl⟩
theorem nX1_sendOut_67 : Nx mX1_sendOut 67 (.getfield 9) 3 70 := ⟨by decide +kernel, rfl⟩
theorem nX1_sendOut_70 : Nx mX1_sendOut 70 (.getfield 67) 3 73 := ⟨by decide +kernel, rfl⟩
theorem nX1_sendOut_73 : Nx mX1_sendOut 73 (.iload_n 1) 1 74 := ⟨by decide +kernel, rfl⟩
theorem nX1_sendOut_74 : Nx mX1_sendOut 74 (.iaload) 1 75 := ⟨by decide +kernel, rfl⟩
theorem nX1_sendOut_75 : Nx mX1_sendOut 75 (.iconst 1) 1 76 := ⟨by decide +kernel, rfl⟩
theorem nX1_sendOut_76 : Nx mX1_sendOut 76 (.if_icmp .eq 17) 3 79 := ⟨by decide +kernel, rfl⟩
theorem nX1_sendOut_79 : Nx mX1_sendOut 79 (.aload_n 0) 1 80 := ⟨by decide +kernel, rfl⟩
theorem nX1_sendOut_80 : Nx mX1_sendOut 80 (.getfield 32) 3 83 := ⟨by decide +kernel, rfl⟩
theorem nX1_sendOut_83 : Nx mX1_sendOut 83 (.iload_n 1) 1 84 := ⟨by decide +kernel, rfl⟩
theorem nX1_sendOut_84 : Nx mX1_sendOut 84 (.iaload) 1 85 := ⟨by decide +kernel, rfl⟩
theorem nX1_sendOut_85 : Nx mX1_sendOut 85 (.iload 6) 2 87 := ⟨by decide +kernel, rfl⟩
theorem nX1_sendOut_87 : Nx mX1_sendOut 87 (.iadd) 1 88 := ⟨by decide +kernel, rfl⟩
theorem nX1_sendOut_88 : Nx mX1_sendOut 88 (.iload_n 2) 1 89 := ⟨by decide +kernel, rfl⟩
theorem nX1_sendOut_89 : Nx mX1_sendOut 89 (.if_icmp .le 4) 3 92 := ⟨by decide +kernel, rfl⟩
theorem nX1_sendOut_92 : Nx mX1_sendOut 92 (.return_) 1 93 := ⟨by decide +kernel, rfl⟩
theorem nX1_sendOut_93 : Nx mX1_sendOut 93 (.aload_n 0) 1 94 := ⟨by decide +kernel, rfl⟩
theorem nX1_sendOut_94 : Nx mX1_sendOut 94 (.iload_n 1) 1 95 := ⟨by decide +kernel, rfl⟩
theorem nX1_sendOut_95 : Nx mX1_sendOut 95 (.iload 5) 2 97 := ⟨by decide +kernel, rfl⟩
theorem nX1_sendOut_97 : Nx mX1_sendOut 97 (.invokevirtual 97) 3 100 := ⟨by decide +kernel, rfl⟩
theorem nX1_sendOut_100 : Nx mX1_sendOut 100 (.aload_n 0) 1 101 := ⟨by decide +kernel, rfl⟩
theorem nX1_sendOut_101 : Nx mX1_sendOut 101 (.getfield 29) 3 104 := ⟨by decide +kernel, rfl⟩
theorem nX1_sendOut_104 : Nx mX1_sendOut 104 (.iload_n 1) 1 105 := ⟨by decide +kernel, rfl⟩
theorem nX1_sendOut_105 : Nx mX1_sendOut 105 (.dup2) 1 106 := ⟨by decide +kernel, rfl⟩
theorem nX1_sendOut_106 : Nx mX1_sendOut 106 (.iaload) 1 107 := ⟨by decide +kernel, rfl⟩
theorem nX1_sendOut_107 : Nx mX1_sendOut 107 (.iconst 1) 1 108 := ⟨by decide +kernel, rfl⟩
theorem nX1_sendOut_108 : Nx mX1_sendOut 108 (.iload 5) 2 110 := ⟨by decide +kernel, rfl⟩
theorem nX1_sendOut_110 : Nx mX1_sendOut 110 (.ishl) 1 111 := ⟨by decide +kernel, rfl⟩
theorem nX1_sendOut_111 : Nx mX1_sendOut 111 (.ior) 1 112 := ⟨by decide +kernel, rfl⟩
theorem nX1_sendOut_112 : Nx mX1_sendOut 112 (.iastore) 1 113 := ⟨by decide +kernel, rfl⟩
theorem nX1_sendOut_113 : Nx mX1_sendOut 113 (.aload_n 0) 1 114 := ⟨by decide +kernel, rfl⟩
theorem nX1_sendOut_114 : Nx mX1_sendOut 114 (.getfield 32) 3 117 := ⟨by decide +kernel, rfl⟩
theorem nX1_sendOut_117 : Nx mX1_sendOut 117 (.iload_n 1) 1 118 := ⟨by decide +kernel, rfl⟩
theorem nX1_sendOut_118 : Nx mX1_sendOut 118 (.dup2) 1 119 := ⟨by decide +kernel, rfl⟩
theorem nX1_sendOut_119 : Nx mX1_sendOut 119 (.iaload) 1 120 := ⟨by decide +kernel, rfl⟩
theorem nX1_sendOut_120 : Nx mX1_sendOut 120 (.iload 6) 2 122 := ⟨by decide +kernel, rfl⟩
theorem nX1_sendOut_122 : Nx mX1_sendOut 122 (.iadd) 1 123 := ⟨by decide +kernel, rfl⟩
theorem nX1_sendOut_123 : Nx mX1_sendOut 123 (.iastore) 1 124 := ⟨by decide +kernel, rfl⟩
theorem nX1_sendOut_124 : Nx mX1_sendOut 124 (.aload_n 0) 1 125 := ⟨by decide +kernel, rfl⟩
theorem nX1_sendOut_125 : Nx mX1_sendOut 125 (.getfield 9) 3 128 := ⟨by decide +kernel, rfl⟩
theorem nX1_sendOut_128 : Nx mX1_sendOut 128 (.getfield 91) 3 131 := ⟨by decide +kernel, rfl⟩
theorem nX1_sendOut_131 : Nx mX1_sendOut 131 (.iload 5) 2 133 := ⟨by decide +kernel, rfl⟩
theorem nX1_sendOut_133 : Nx mX1_sendOut 133 (.iaload) 1 134 := ⟨by decide +kernel, rfl⟩
theorem nX1_sendOut_134 : Nx mX1_sendOut 134 (.istore_n 3) 1 135 := ⟨by decide +kernel, rfl⟩
theorem nX1_sendOut_135 : Nx mX1_sendOut 135 (.iinc 4 1) 3 138 := ⟨by decide +kernel, rfl⟩
theorem nX1_sendOut_138 : Nx mX1_sendOut 138 (.goto (-111)) 3 141 := ⟨by decide +kernel, rfl⟩
theorem nX1_sendOut_141 : Nx mX1_sendOut 141 (.return_) 1 142 := ⟨by decide +kernel, rfl⟩
theorem nX1_nearestOwed_0 : Nx mX1_nearestOwed 0 (.bipush (-9)) 2 2 := ⟨by decide +kernel, rfl⟩
theorem nX1_nearestOwed_2 : Nx mX1_nearestOwed 2 (.istore_n 3) 1 3 := ⟨by decide +kernel, rfl⟩
theorem nX1_nearestOwed_3 : Nx mX1_nearestOwed 3 (.bipush 10) 2 5 := ⟨by decide +kernel, rfl⟩
theorem nX1_nearestOwed_5 : Nx mX1_nearestOwed 5 (.istore 4) 2 7 := ⟨by decide +kernel, rfl⟩
theorem nX1_nearestOwed_7 : Nx mX1_nearestOwed 7 (.iconst 0) 1 8 := ⟨by decide +kernel, rfl⟩
theorem nX1_nearestOwed_8 : Nx mX1_nearestOwed 8 (.istore 5) 2 10 := ⟨by decide +kernel, rfl⟩
theorem nX1_nearestOwed_10 : Nx mX1_nearestOwed 10 (.iload 5) 2 12 := ⟨by decide +kernel, rfl⟩
theorem nX1_nearestOwed_12 : Nx mX1_nearestOwed 12 (.aload_n 0) 1 13 := ⟨by decide +kernel, rfl⟩
theorem nX1_nearestOwed_13 : Nx mX1_nearestOwed 13 (.getfield 9) 3 16 := ⟨by decide +kernel, rfl⟩
theorem nX1_nearestOwed_16 : Nx mX1_nearestOwed 16 (.getfield 35) 3 19 := ⟨by decide +kernel, rfl⟩
theorem nX1_nearestOwed_19 : Nx mX1_nearestOwed 19 (.if_icmp .ge 50) 3 22 := ⟨by decide +kernel, rfl⟩
theorem nX1_nearestOwed_22 : Nx mX1_nearestOwed 22 (.aload_n 0) 1 23 := ⟨by decide +kernel, rfl⟩
theorem nX1_nearestOwed_23 : Nx mX1_nearestOwed 23 (.getfield 9) 3 26 := ⟨by decide +kernel, rfl⟩
theorem nX1_nearestOwed_26 : Nx mX1_nearestOwed 26 (.getfield 91) 3 29 := ⟨by decide +kernel, rfl⟩
theorem nX1_nearestOwed_29 : Nx mX1_nearestOwed 29 (.iload 5) 2 31 := ⟨by decide +kernel, rfl⟩
theorem nX1_nearestOwed_31 : Nx mX1_nearestOwed 31 (.iaload) 1 32 := ⟨by decide +kernel, rfl⟩
theorem nX1_nearestOwed_32 : Nx mX1_nearestOwed 32 (.iload_n 2) 1 33 := ⟨by decide +kernel, rfl⟩
theorem nX1_nearestOwed_33 : Nx mX1_nearestOwed 33 (.isub) 1 34 := ⟨by decide +kernel, rfl⟩
theorem nX1_nearestOwed_34 : Nx mX1_nearestOwed 34 (.invokestatic 94) 3 37 := ⟨by decide +kernel, rfl⟩
theorem nX1_nearestOwed_37 : Nx mX1_nearestOwed 37 (.istore 6) 2 39 := ⟨by decide +kernel, rfl⟩
theorem nX1_nearestOwed_39 : Nx mX1_nearestOwed 39 (.aload_n 0) 1 40 := ⟨by decide +kernel, rfl⟩
theorem nX1_nearestOwed_40 : Nx mX1_nearestOwed 40 (.iload_n 1) 1 41 := ⟨by decide +kernel, rfl⟩
theorem nX1_nearestOwed_41 : Nx mX1_nearestOwed 41 (.iload 5) 2 43 := ⟨by decide +kernel, rfl⟩
theorem nX1_nearestOwed_43 : Nx mX1_nearestOwed 43 (.invokevirtual 49) 3 46 := ⟨by decide +kernel, rfl⟩
theorem nX1_nearestOwed_46 : Nx mX1_nearestOwed 46 (.ifCond .le 17) 3 49 := ⟨by decide +kernel, rfl⟩
theorem nX1_nearestOwed_49 : Nx mX1_nearestOwed 49 (.iload 6) 2 51 := ⟨by decide +kernel, rfl⟩
theorem nX1_nearestOwed_51 : Nx mX1_nearestOwed 51 (.iload 4) 2 53 := ⟨by decide +kernel, rfl⟩
theorem nX1_nearestOwed_53 : Nx mX1_nearestOwed 53 (.if_icmp .ge 10) 3 56 := ⟨by decide +kernel, rfl⟩
theorem nX1_nearestOwed_56 : Nx mX1_nearestOwed 56 (.iload 5) 2 58 := ⟨by decide +kernel, rfl⟩
theorem nX1_nearestOwed_58 : Nx mX1_nearestOwed 58 (.istore_n 3) 1 59 := ⟨by decide +kernel, rfl⟩
theorem nX1_nearestOwed_59 : Nx mX1_nearestOwed 59 (.iload 6) 2 61 := ⟨by decide +kernel, rfl⟩
theorem nX1_nearestOwed_61 : Nx mX1_nearestOwed 61 (.istore 4) 2 63 := ⟨by decide +kernel, rfl⟩
theorem nX1_nearestOwed_63 : Nx mX1_nearestOwed 63 (.iinc 5 1) 3 66 := ⟨by decide +kernel, rfl⟩
theorem nX1_nearestOwed_66 : Nx mX1_nearestOwed 66 (.goto (-56)) 3 69 := ⟨by decide +kernel, rfl⟩
theorem nX1_nearestOwed_69 : Nx mX1_nearestOwed 69 (.iload_n 3) 1 70 := ⟨by decide +kernel, rfl⟩
theorem nX1_nearestOwed_70 : Nx mX1_nearestOwed 70 (.ireturn) 1 71 := ⟨by decide +kernel, rfl⟩
theorem nX1_bringSeed_0 : Nx mX1_bringSeed 0 (.aload_n 0) 1 1 := ⟨by decide +kernel, rfl⟩
theorem nX1_bringSeed_1 : Nx mX1_bringSeed 1 (.getfield 19) 3 4 := ⟨by decide +kernel, rfl⟩
theorem nX1_bringSeed_4 : Nx mX1_bringSeed 4 (.iload_n 2) 1 5 := ⟨by decide +kernel, rfl⟩
theorem nX1_bringSeed_5 : Nx mX1_bringSeed 5 (.bipush 99) 2 7 := ⟨by decide +kernel, rfl⟩
theorem nX1_bringSeed_7 : Nx mX1_bringSeed 7 (.aload_n 0) 1 8 := ⟨by decide +kernel, rfl⟩
theorem nX1_bringSeed_8 : Nx mX1_bringSeed 8 (.getfield 19) 3 11 := ⟨by decide +kernel, rfl⟩
theorem nX1_bringSeed_11 : Nx mX1_bringSeed 11 (.iload_n 2) 1 12 := ⟨by decide +kernel, rfl⟩
theorem nX1_bringSeed_12 : Nx mX1_bringSeed 12 (.iaload) 1 13 := ⟨by decide +kernel, rfl⟩
theorem nX1_bringSeed_13 : Nx mX1_bringSeed 13 (.aload_n 0) 1 14 := ⟨by decide +kernel, rfl⟩
theorem nX1_bringSeed_14 : Nx mX1_bringSeed 14 (.iload_n 1) 1 15 := ⟨by decide +kernel, rfl⟩
theorem nX1_bringSeed_15 : Nx mX1_bringSeed 15 (.iload_n 2) 1 16 := ⟨by decide +kernel, rfl⟩
theorem nX1_bringSeed_16 : Nx mX1_bringSeed 16 (.invokevirtual 49) 3 19 := ⟨by decide +kernel, rfl⟩
theorem nX1_bringSeed_19 : Nx mX1_bringSeed 19 (.iadd) 1 20 := ⟨by decide +kernel, rfl⟩
theorem nX1_bringSeed_20 : Nx mX1_bringSeed 20 (.invokestatic 73) 3 23 := ⟨by decide +kernel, rfl⟩
theorem nX1_bringSeed_23 : Nx mX1_bringSeed 23 (.iastore) 1 24 := ⟨by decide +kernel, rfl⟩
theorem nX1_bringSeed_24 : Nx mX1_bringSeed 24 (.aload_n 0) 1 25 := ⟨by decide +kernel, rfl⟩
theorem nX1_bringSeed_25 : Nx mX1_bringSeed 25 (.getfield 22) 3 28 := ⟨by decide +kernel, rfl⟩
theorem nX1_bringSeed_28 : Nx mX1_bringSeed 28 (.iload_n 1) 1 29 := ⟨by decide +kernel, rfl⟩
theorem nX1_bringSeed_29 : Nx mX1_bringSeed 29 (.iconst 4) 1 30 := ⟨by decide +kernel, rfl⟩
theorem nX1_bringSeed_30 : Nx mX1_bringSeed 30 (.imul) 1 31 := ⟨by decide +kernel, rfl⟩
theorem nX1_bringSeed_31 : Nx mX1_bringSeed 31 (.iload_n 2) 1 32 := ⟨by decide +kernel, rfl⟩
theorem nX1_bringSeed_32 : Nx mX1_bringSeed 32 (.iadd) 1 33 := ⟨by decide +kernel, rfl⟩
theorem nX1_bringSeed_33 : Nx mX1_bringSeed 33 (.iconst 0) 1 34 := ⟨by decide +kernel, rfl⟩
theorem nX1_bringSeed_34 : Nx mX1_bringSeed 34 (.iastore) 1 35 := ⟨by decide +kernel, rfl⟩
theorem nX1_bringSeed_35 : Nx mX1_bringSeed 35 (.return_) 1 36 := ⟨by decide +kernel, rfl⟩
theorem nX1_reap_0 : Nx mX1_reap 0 (.iconst 0) 1 1 := ⟨by decide +kernel, rfl⟩
theorem nX1_reap_1 : Nx mX1_reap 1 (.istore_n 1) 1 2 := ⟨by decide +kernel, rfl⟩
theorem nX1_reap_2 : Nx mX1_reap 2 (.iload_n 1) 1 3 := ⟨by decide +kernel, rfl⟩
theorem nX1_reap_3 : Nx mX1_reap 3 (.aload_n 0) 1 4 := ⟨by decide +kernel, rfl⟩
theorem nX1_reap_4 : Nx mX1_reap 4 (.getfield 9) 3 7 := ⟨by decide +kernel, rfl⟩
theorem nX1_reap_7 : Nx mX1_reap 7 (.getfield 35) 3 10 := ⟨by decide +kernel, rfl⟩
theorem nX1_reap_10 : Nx mX1_reap 10 (.if_icmp .ge 51) 3 13 := ⟨by decide +kernel, rfl⟩
theorem nX1_reap_13 : Nx mX1_reap 13 (.aload_n 0) 1 14 := ⟨by decide +kernel, rfl⟩
theorem nX1_reap_14 : Nx mX1_reap 14 (.iload_n 1) 1 15 := ⟨by decide +kernel, rfl⟩
theorem nX1_reap_15 : Nx mX1_reap 15 (.invokevirtual 63) 3 18 := ⟨by decide +kernel, rfl⟩
theorem nX1_reap_18 : Nx mX1_reap 18 (.ifCond .eq 30) 3 21 := ⟨by decide +kernel, rfl⟩
theorem nX1_reap_21 : Nx mX1_reap 21 (.aload_n 0) 1 22 := ⟨by decide +kernel, rfl⟩
theorem nX1_reap_22 : Nx mX1_reap 22 (.getfield 15) 3 25 := ⟨by decide +kernel, rfl⟩
theorem nX1_reap_25 : Nx mX1_reap 25 (.iload_n 1) 1 26 := ⟨by decide +kernel, rfl⟩
theorem nX1_reap_26 : Nx mX1_reap 26 (.bipush 99) 2 28 := ⟨by decide +kernel, rfl⟩
theorem nX1_reap_28 : Nx mX1_reap 28 (.aload_n 0) 1 29 := ⟨by decide +kernel, rfl⟩
theorem nX1_reap_29 : Nx mX1_reap 29 (.getfield 15) 3 32 := ⟨by decide +kernel, rfl⟩
theorem nX1_reap_32 : Nx mX1_reap 32 (.iload_n 1) 1 33 := ⟨by decide +kernel, rfl⟩
theorem nX1_reap_33 : Nx mX1_reap 33 (.iaload) 1 34 := ⟨by decide +kernel, rfl⟩
theorem nX1_reap_34 : Nx mX1_reap 34 (.aload_n 0) 1 35 := ⟨by decide +kernel, rfl⟩
theorem nX1_reap_35 : Nx mX1_reap 35 (.getfield 9) 3 38 := ⟨by decide +kernel, rfl⟩
theorem nX1_reap_38 : Nx mX1_reap 38 (.getfield 40) 3 41 := ⟨by decide +kernel, rfl⟩
theorem nX1_reap_41 : Nx mX1_reap 41 (.iload_n 1) 1 42 := ⟨by decide +kernel, rfl⟩
theorem nX1_reap_42 : Nx mX1_reap 42 (.iaload) 1 43 := ⟨by decide +kernel, rfl⟩
theorem nX1_reap_43 : Nx mX1_reap 43 (.iadd) 1 44 := ⟨by decide +kernel, rfl⟩
theorem nX1_reap_44 : Nx mX1_reap 44 (.invokestatic 73) 3 47 := ⟨by decide +kernel, rfl⟩
theorem nX1_reap_47 : Nx mX1_reap 47 (.iastore) 1 48 := ⟨by decide +kernel, rfl⟩
theorem nX1_reap_48 : Nx mX1_reap 48 (.aload_n 0) 1 49 := ⟨by decide +kernel, rfl⟩
theorem nX1_reap_49 : Nx mX1_reap 49 (.getfield 19) 3 52 := ⟨by decide +kernel, rfl⟩
theorem nX1_reap_52 : Nx mX1_reap 52 (.iload_n 1) 1 53 := ⟨by decide +kernel, rfl⟩
theorem nX1_reap_53 : Nx mX1_reap 53 (.iconst 0) 1 54 := ⟨by decide +kernel, rfl⟩
theorem nX1_reap_54 : Nx mX1_reap 54 (.iastore) 1 55 := ⟨by decide +kernel, rfl⟩
theorem nX1_reap_55 : Nx mX1_reap 55 (.iinc 1 1) 3 58 := ⟨by decide +kernel, rfl⟩
theorem nX1_reap_58 : Nx mX1_reap 58 (.goto (-56)) 3 61 := ⟨by decide +kernel, rfl⟩
theorem nX1_reap_61 : Nx mX1_reap 61 (.aload_n 0) 1 62 := ⟨by decide +kernel, rfl⟩
theorem nX1_reap_62 : Nx mX1_reap 62 (.dup) 1 63 := ⟨by decide +kernel, rfl⟩
theorem nX1_reap_63 : Nx mX1_reap 63 (.getfield 25) 3 66 := ⟨by decide +kernel, rfl⟩
theorem nX1_reap_66 : Nx mX1_reap 66 (.iconst 1) 1 67 := ⟨by decide +kernel, rfl⟩
theorem nX1_reap_67 : Nx mX1_reap 67 (.iadd) 1 68 := ⟨by decide +kernel, rfl⟩
theorem nX1_reap_68 : Nx mX1_reap 68 (.putfield 25) 3 71 := ⟨by decide +kernel, rfl⟩
theorem nX1_reap_71 : Nx mX1_reap 71 (.return_) 1 72 := ⟨by decide +kernel, rfl⟩
theorem nX2_init_0 : Nx mX2_init 0 (.aload_n 0) 1 1 := ⟨by decide +kernel, rfl⟩
theorem nX2_init_1 : Nx mX2_init 1 (.invokespecial 3) 3 4 := ⟨by decide +kernel, rfl⟩
theorem nX2_init_4 : Nx mX2_init 4 (.aload_n 0) 1 5 := ⟨by decide +kernel, rfl⟩
theorem nX2_init_5 : Nx mX2_init 5 (.iconst 4) 1 6 := ⟨by decide +kernel, rfl⟩
theorem nX2_init_6 : Nx mX2_init 6 (.newarray .int) 2 8 := ⟨by decide +kernel, rfl⟩
theorem nX2_init_8 : Nx mX2_init 8 (.putfield 9) 3 11 := ⟨by decide +kernel, rfl⟩
theorem nX2_init_11 : Nx mX2_init 11 (.aload_n 0) 1 12 := ⟨by decide +kernel, rfl⟩
theorem nX2_init_12 : Nx mX2_init 12 (.iconst 4) 1 13 := ⟨by decide +kernel, rfl⟩
theorem nX2_init_13 : Nx mX2_init 13 (.newarray .int) 2 15 := ⟨by decide +kernel, rfl⟩
theorem nX2_init_15 : Nx mX2_init 15 (.putfield 15) 3 18 := ⟨by decide +kernel, rfl⟩
theorem nX2_init_18 : Nx mX2_init 18 (.aload_n 0) 1 19 := ⟨by decide +kernel, rfl⟩
theorem nX2_init_19 : Nx mX2_init 19 (.iconst 4) 1 20 := ⟨by decide +kernel, rfl⟩
theorem nX2_init_20 : Nx mX2_init 20 (.newarray .int) 2 22 := ⟨by decide +kernel, rfl⟩
theorem nX2_init_22 : Nx mX2_init 22 (.putfield 18) 3 25 := ⟨by decide +kernel, rfl⟩
theorem nX2_init_25 : Nx mX2_init 25 (.aload_n 0) 1 26 := ⟨by decide +kernel, rfl⟩
theorem nX2_init_26 : Nx mX2_init 26 (.iconst 5) 1 27 := ⟨by decide +kernel, rfl⟩
theorem nX2_init_27 : Nx mX2_init 27 (.newarray .int) 2 29 := ⟨by decide +kernel, rfl⟩
theorem nX2_init_29 : Nx mX2_init 29 (.putfield 21) 3 32 := ⟨by decide +kernel, rfl⟩
theorem nX2_init_32 : Nx mX2_init 32 (.aload_n 0) 1 33 := ⟨by decide +kernel, rfl⟩
theorem nX2_init_33 : Nx mX2_init 33 (.iconst 5) 1 34 := ⟨by decide +kernel, rfl⟩
theorem nX2_init_34 : Nx mX2_init 34 (.newarray .int) 2 36 := ⟨by decide +kernel, rfl⟩
theorem nX2_init_36 : Nx mX2_init 36 (.putfield 24) 3 39 := ⟨by decide +kernel, rfl⟩
theorem nX2_init_39 : Nx mX2_init 39 (.aload_n 0) 1 40 := ⟨by decide +kernel, rfl⟩
theorem nX2_init_40 : Nx mX2_init 40 (.iconst 5) 1 41 := ⟨by decide +kernel, rfl⟩
theorem nX2_init_41 : Nx mX2_init 41 (.newarray .int) 2 43 := ⟨by decide +kernel, rfl⟩
theorem nX2_init_43 : Nx mX2_init 43 (.putfield 27) 3 46 := ⟨by decide +kernel, rfl⟩
theorem nX2_init_46 : Nx mX2_init 46 (.aload_n 0) 1 47 := ⟨by decide +kernel, rfl⟩
theorem nX2_init_47 : Nx mX2_init 47 (.iconst 0) 1 48 := ⟨by decide +kernel, rfl⟩
theorem nX2_init_48 : Nx mX2_init 48 (.putfield 30) 3 51 := ⟨by decide +kernel, rfl⟩
theorem nX2_init_51 : Nx mX2_init 51 (.aload_n 0) 1 52 := ⟨by decide +kernel, rfl⟩
theorem nX2_init_52 : Nx mX2_init 52 (.iconst 0) 1 53 := ⟨by decide +kernel, rfl⟩
theorem nX2_init_53 : Nx mX2_init 53 (.putfield 34) 3 56 := ⟨by decide +kernel, rfl⟩
theorem nX2_init_56 : Nx mX2_init 56 (.return_) 1 57 := ⟨by decide +kernel, rfl⟩
theorem nX2_readFrom_0 : Nx mX2_readFrom 0 (.aload_n 0) 1 1 := ⟨by decide +kernel, rfl⟩
theorem nX2_readFrom_1 : Nx mX2_readFrom 1 (.iconst 0) 1 2 := ⟨by decide +kernel, rfl⟩
theorem nX2_readFrom_2 : Nx mX2_readFrom 2 (.putfield 30) 3 5 := ⟨by decide +kernel, rfl⟩
theorem nX2_readFrom_5 : Nx mX2_readFrom 5 (.aload_n 0) 1 6 := ⟨by decide +kernel, rfl⟩
theorem nX2_readFrom_6 : Nx mX2_readFrom 6 (.iconst 0) 1 7 := ⟨by decide +kernel, rfl⟩
theorem nX2_readFrom_7 : Nx mX2_readFrom 7 (.putfield 34) 3 10 := ⟨by decide +kernel, rfl⟩
theorem nX2_readFrom_10 : Nx mX2_readFrom 10 (.iconst 1) 1 11 := ⟨by decide +kernel, rfl⟩
theorem nX2_readFrom_11 : Nx mX2_readFrom 11 (.istore_n 2) 1 12 := ⟨by decide +kernel, rfl⟩
theorem nX2_readFrom_12 : Nx mX2_readFrom 12 (.iload_n 2) 1 13 := ⟨by decide +kernel, rfl⟩
theorem nX2_readFrom_13 : Nx mX2_readFrom 13 (.aload_n 1) 1 14 := ⟨by decide +kernel, rfl⟩
theorem nX2_readFrom_14 : Nx mX2_readFrom 14 (.getfield 37) 3 17 := ⟨by decide +kernel, rfl⟩
theorem nX2_readFrom_17 : Nx mX2_readFrom 17 (.if_icmp .ge 35) 3 20 := ⟨by decide +kernel, rfl⟩
theorem nX2_readFrom_20 : Nx mX2_readFrom 20 (.aload_n 1) 1 21 := ⟨by decide +kernel, rfl⟩
theorem nX2_readFrom_21 : Nx mX2_readFrom 21 (.getfield 42) 3 24 := ⟨by decide +kernel, rfl⟩
theorem nX2_readFrom_24 : Nx mX2_readFrom 24 (.iload_n 2) 1 25 := ⟨by decide +kernel, rfl⟩
theorem nX2_readFrom_25 : Nx mX2_readFrom 25 (.iaload) 1 26 := ⟨by decide +kernel, rfl⟩
theorem nX2_readFrom_26 : Nx mX2_readFrom 26 (.bipush 71) 2 28 := ⟨by decide +kernel, rfl⟩
theorem nX2_readFrom_28 : Nx mX2_readFrom 28 (.if_icmp .ne 12) 3 31 := ⟨by decide +kernel, rfl⟩
theorem nX2_readFrom_31 : Nx mX2_readFrom 31 (.aload_n 0) 1 32 := ⟨by decide +kernel, rfl⟩
theorem nX2_readFrom_32 : Nx mX2_readFrom 32 (.aload_n 1) 1 33 := ⟨by decide +kernel, rfl⟩
theorem nX2_readFrom_33 : Nx mX2_readFrom 33 (.iload_n 2) 1 34 := ⟨by decide +kernel, rfl⟩
theorem nX2_readFrom_34 : Nx mX2_readFrom 34 (.invokevirtual 45) 3 37 := ⟨by decide +kernel, rfl⟩
theorem nX2_readFrom_37 : Nx mX2_readFrom 37 (.goto 9) 3 40 := ⟨by decide +kernel, rfl⟩
theorem nX2_readFrom_40 : Nx mX2_readFrom 40 (.aload_n 0) 1 41 := ⟨by decide +kernel, rfl⟩
theorem nX2_readFrom_41 : Nx mX2_readFrom 41 (.aload_n 1) 1 42 := ⟨by decide +kernel, rfl⟩
theorem nX2_readFrom_42 : Nx mX2_readFrom 42 (.iload_n 2) 1 43 := ⟨by decide +kernel, rfl⟩
theorem nX2_readFrom_43 : Nx mX2_readFrom 43 (.invokevirtual 49) 3 46 := ⟨by decide +kernel, rfl⟩
theorem nX2_readFrom_46 : Nx mX2_readFrom 46 (.iinc 2 4) 3 49 := ⟨by decide +kernel, rfl⟩
theorem nX2_readFrom_49 : Nx mX2_readFrom 49 (.goto (-37)) 3 52 := ⟨by decide +kernel, rfl⟩
theorem nX2_readFrom_52 : Nx mX2_readFrom 52 (.return_) 1 53 := ⟨by decide +kernel, rfl⟩
theorem nX2_addField_0 : Nx mX2_addField 0 (.aload_n 0) 1 1 := ⟨by decide +kernel, rfl⟩
theorem nX2_addField_1 : Nx mX2_addField 1 (.getfield 30) 3 4 := ⟨by decide +kernel, rfl⟩
theorem nX2_addField_4 : Nx mX2_addField 4 (.iconst 4) 1 5 := ⟨by decide +kernel, rfl⟩
theorem nX2_addField_5 : Nx mX2_addField 5 (.if_icmp .ge 61) 3 8 := ⟨by decide +kernel, rfl⟩
theorem nX2_addField_8 : Nx mX2_addField 8 (.aload_n 0) 1 9 := ⟨by decide +kernel, rfl⟩
theorem nX2_addField_9 : Nx mX2_addField 9 (.getfield 9) 3 12 := ⟨by decide +kernel, rfl⟩
theorem nX2_addField_12 : Nx mX2_addField 12 (.aload_n 0) 1 13 := ⟨by decide +kernel, rfl⟩
theorem nX2_addField_13 : Nx mX2_addField 13 (.getfield 30) 3 16 := ⟨by decide +kernel, rfl⟩
theorem nX2_addField_16 : Nx mX2_addField 16 (.aload_n 1) 1 17 := ⟨by decide +kernel, rfl⟩
theorem nX2_addField_17 : Nx mX2_addField 17 (.iload_n 2) 1 18 := ⟨by decide +kernel, rfl⟩
theorem nX2_addField_18 : Nx mX2_addField 18 (.iconst 1) 1 19 := ⟨by decide +kernel, rfl⟩
theorem nX2_addField_19 : Nx mX2_addField 19 (.iadd) 1 20 := ⟨by decide +kernel, rfl⟩
theorem nX2_addField_20 : Nx mX2_addField 20 (.invokevirtual 52) 3 23 := ⟨by decide +kernel, rfl⟩
theorem nX2_addField_23 : Nx mX2_addField 23 (.iastore) 1 24 := ⟨by decide +kernel, rfl⟩
theorem nX2_addField_24 : Nx mX2_addField 24 (.aload_n 0) 1 25 := ⟨by decide +kernel, rfl⟩
theorem nX2_addField_25 : Nx mX2_addField 25 (.getfield 15) 3 28 := ⟨by decide +kernel, rfl⟩
theorem nX2_addField_28 : Nx mX2_addField 28 (.aload_n 0) 1 29 := ⟨by decide +kernel, rfl⟩
theorem nX2_addField_29 : Nx mX2_addField 29 (.getfield 30) 3 32 := ⟨by decide +kernel, rfl⟩
theorem nX2_addField_32 : Nx mX2_addField 32 (.aload_n 1) 1 33 := ⟨by decide +kernel, rfl⟩
theorem nX2_addField_33 : Nx mX2_addField 33 (.iload_n 2) 1 34 := ⟨by decide +kernel, rfl⟩
theorem nX2_addField_34 : Nx mX2_addField 34 (.iconst 2) 1 35 := ⟨by decide +kernel, rfl⟩
theorem nX2_addField_35 : Nx mX2_addField 35 (.iadd) 1 36 := ⟨by decide +kernel, rfl⟩
theorem nX2_addField_36 : Nx mX2_addField 36 (.invokevirtual 52) 3 39 := ⟨by decide +kernel, rfl⟩
theorem nX2_addField_39 : Nx mX2_addField 39 (.iastore) 1 40 := ⟨by decide +kernel, rfl⟩
theorem nX2_addField_40 : Nx mX2_addField 40 (.aload_n 0) 1 41 := ⟨by decide +kernel, rfl⟩
theorem nX2_addField_41 : Nx mX2_addField 41 (.getfield 18) 3 44 := ⟨by decide +kernel, rfl⟩
theorem nX2_addField_44 : Nx mX2_addField 44 (.aload_n 0) 1 45 := ⟨by decide +kernel, rfl⟩
theorem nX2_addField_45 : Nx mX2_addField 45 (.getfield 30) 3 48 := ⟨by decide +kernel, rfl⟩
theorem nX2_addField_48 : Nx mX2_addField 48 (.aload_n 1) 1 49 := ⟨by decide +kernel, rfl⟩
theorem nX2_addField_49 : Nx mX2_addField 49 (.iload_n 2) 1 50 := ⟨by decide +kernel, rfl⟩
theorem nX2_addField_50 : Nx mX2_addField 50 (.iconst 3) 1 51 := ⟨by decide +kernel, rfl⟩
theorem nX2_addField_51 : Nx mX2_addField 51 (.iadd) 1 52 := ⟨by decide +kernel, rfl⟩
theorem nX2_addField_52 : Nx mX2_addField 52 (.invokevirtual 52) 3 55 := ⟨by decide +kernel, rfl⟩
theorem nX2_addField_55 : Nx mX2_addField 55 (.iastore) 1 56 := ⟨by decide +kernel, rfl⟩
theorem nX2_addField_56 : Nx mX2_addField 56 (.aload_n 0) 1 57 := ⟨by decide +kernel, rfl⟩
theorem nX2_addField_57 : Nx mX2_addField 57 (.dup) 1 58 := ⟨by decide +kernel, rfl⟩
theorem nX2_addField_58 : Nx mX2_addField 58 (.getfield 30) 3 61 := ⟨by decide +kernel, rfl⟩
theorem nX2_addField_61 : Nx mX2_addField 61 (.iconst 1) 1 62 := ⟨by decide +kernel, rfl⟩
theorem nX2_addField_62 : Nx mX2_addField 62 (.iadd) 1 63 := ⟨by decide +kernel, rfl⟩
theorem nX2_addField_63 : Nx mX2_addField 63 (.putfield 30) 3 66 := ⟨by decide +kernel, rfl⟩
theorem nX2_addField_66 : Nx mX2_addField 66 (.return_) 1 67 := ⟨by decide +kernel, rfl⟩
theorem nX2_addEater_0 : Nx mX2_addEater 0 (.aload_n 0) 1 1 := ⟨by decide +kernel, rfl⟩
theorem nX2_addEater_1 : Nx mX2_addEater 1 (.getfield 34) 3 4 := ⟨by decide +kernel, rfl⟩
theorem nX2_addEater_4 : Nx mX2_addEater 4 (.iconst 5) 1 5 := ⟨by decide +kernel, rfl⟩
theorem nX2_addEater_5 : Nx mX2_addEater 5 (.if_icmp .ge 61) 3 8 := ⟨by decide +kernel, rfl⟩
theorem nX2_addEater_8 : Nx mX2_addEater 8 (.aload_n 0) 1 9 := ⟨by decide +kernel, rfl⟩
theorem nX2_addEater_9 : Nx mX2_addEater 9 (.getfield 21) 3 12 := ⟨by decide +kernel, rfl⟩
theorem nX2_addEater_12 : Nx mX2_addEater 12 (.aload_n 0) 1 13 := ⟨by decide +kernel, rfl⟩
theorem nX2_addEater_13 : Nx mX2_addEater 13 (.getfield 34) 3 16 := ⟨by decide +kernel, rfl⟩
theorem nX2_addEater_16 : Nx mX2_addEater 16 (.aload_n 1) 1 17 := ⟨by decide +kernel, rfl⟩
theorem nX2_addEater_17 : Nx mX2_addEater 17 (.iload_n 2) 1 18 := ⟨by decide +kernel, rfl⟩
theorem nX2_addEater_18 : Nx mX2_addEater 18 (.iconst 1) 1 19 := ⟨by decide +kernel, rfl⟩
theorem nX2_addEater_19 : Nx mX2_addEater 19 (.iadd) 1 20 := ⟨by decide +kernel, rfl⟩
theorem nX2_addEater_20 : Nx mX2_addEater 20 (.invokevirtual 52) 3 23 := ⟨by decide +kernel, rfl⟩
theorem nX2_addEater_23 : Nx mX2_addEater 23 (.iastore) 1 24 := ⟨by decide +kernel, rfl⟩
theorem nX2_addEater_24 : Nx mX2_addEater 24 (.aload_n 0) 1 25 := ⟨by decide +kernel, rfl⟩
theorem nX2_addEater_25 : Nx mX2_addEater 25 (.getfield 24) 3 28 := ⟨by decide +kernel, rfl⟩
theorem nX2_addEater_28 : Nx mX2_addEater 28 (.aload_n 0) 1 29 := ⟨by decide +kernel, rfl⟩
theorem nX2_addEater_29 : Nx mX2_addEater 29 (.getfield 34) 3 32 := ⟨by decide +kernel, rfl⟩
theorem nX2_addEater_32 : Nx mX2_addEater 32 (.aload_n 1) 1 33 := ⟨by decide +kernel, rfl⟩
theorem nX2_addEater_33 : Nx mX2_addEater 33 (.iload_n 2) 1 34 := ⟨by decide +kernel, rfl⟩
theorem nX2_addEater_34 : Nx mX2_addEater 34 (.iconst 2) 1 35 := ⟨by decide +kernel, rfl⟩
theorem nX2_addEater_35 : Nx mX2_addEater 35 (.iadd) 1 36 := ⟨by decide +kernel, rfl⟩
theorem nX2_addEater_36 : Nx mX2_addEater 36 (.invokevirtual 52) 3 39 := ⟨by decide +kernel, rfl⟩
theorem nX2_addEater_39 : Nx mX2_addEater 39 (.iastore) 1 40 := ⟨by decide +kernel, rfl⟩
theorem nX2_addEater_40 : Nx mX2_addEater 40 (.aload_n 0) 1 41 := ⟨by decide +kernel, rfl⟩
theorem nX2_addEater_41 : Nx mX2_addEater 41 (.getfield 27) 3 44 := ⟨by decide +kernel, rfl⟩
theorem nX2_addEater_44 : Nx mX2_addEater 44 (.aload_n 0) 1 45 := ⟨by decide +kernel, rfl⟩
theorem nX2_addEater_45 : Nx mX2_addEater 45 (.getfield 34) 3 48 := ⟨by decide +kernel, rfl⟩
theorem nX2_addEater_48 : Nx mX2_addEater 48 (.aload_n 1) 1 49 := ⟨by decide +kernel, rfl⟩
theorem nX2_addEater_49 : Nx mX2_addEater 49 (.iload_n 2) 1 50 := ⟨by decide +kernel, rfl⟩
theorem nX2_addEater_50 : Nx mX2_addEater 50 (.iconst 3) 1 51 := ⟨by decide +kernel, rfl⟩
theorem nX2_addEater_51 : Nx mX2_addEater 51 (.iadd) 1 52 := ⟨by decide +kernel, rfl⟩
theorem nX2_addEater_52 : Nx mX2_addEater 52 (.invokevirtual 52) 3 55 := ⟨by decide +kernel, rfl⟩
theorem nX2_addEater_55 : Nx mX2_addEater 55 (.iastore) 1 56 := ⟨by decide +kernel, rfl⟩
theorem nX2_addEater_56 : Nx mX2_addEater 56 (.aload_n 0) 1 57 := ⟨by decide +kernel, rfl⟩
theorem nX2_addEater_57 : Nx mX2_addEater 57 (.dup) 1 58 := ⟨by decide +kernel, rfl⟩
theorem nX2_addEater_58 : Nx mX2_addEater 58 (.getfield 34) 3 61 := ⟨by decide +kernel, rfl⟩
theorem nX2_addEater_61 : Nx mX2_addEater 61 (.iconst 1) 1 62 := ⟨by decide +kernel, rfl⟩
theorem nX2_addEater_62 : Nx mX2_addEater 62 (.iadd) 1 63 := ⟨by decide +kernel, rfl⟩
theorem nX2_addEater_63 : Nx mX2_addEater 63 (.putfield 34) 3 66 := ⟨by decide +kernel, rfl⟩
theorem nX2_addEater_66 : Nx mX2_addEater 66 (.return_) 1 67 := ⟨by decide +kernel, rfl⟩
theorem nX2_hasField_0 : Nx mX2_hasField 0 (.iload_n 1) 1 1 := ⟨by decide +kernel, rfl⟩
theorem nX2_hasField_1 : Nx mX2_hasField 1 (.ifCond .lt 15) 3 4 := ⟨by decide +kernel, rfl⟩
theorem nX2_hasField_4 : Nx mX2_hasField 4 (.iload_n 1) 1 5 := ⟨by decide +kernel, rfl⟩
theorem nX2_hasField_5 : Nx mX2_hasField 5 (.aload_n 0) 1 6 := ⟨by decide +kernel, rfl⟩
theorem nX2_hasField_6 : Nx mX2_hasField 6 (.getfield 30) 3 9 := ⟨by decide +kernel, rfl⟩
theorem nX2_hasField_9 : Nx mX2_hasField 9 (.if_icmp .ge 7) 3 12 := ⟨by decide +kernel, rfl⟩
theorem nX2_hasField_12 : Nx mX2_hasField 12 (.iconst 1) 1 13 := ⟨by decide +kernel, rfl⟩
theorem nX2_hasField_13 : Nx mX2_hasField 13 (.goto 4) 3 16 := ⟨by decide +kernel, rfl⟩
theorem nX2_hasField_16 : Nx mX2_hasField 16 (.iconst 0) 1 17 := ⟨by decide +kernel, rfl⟩
theorem nX2_hasField_17 : Nx mX2_hasField 17 (.ireturn) 1 18 := ⟨by decide +kernel, rfl⟩
theorem nX2_hasEater_0 : Nx mX2_hasEater 0 (.iload_n 1) 1 1 := ⟨by decide +kernel, rfl⟩
theorem nX2_hasEater_1 : Nx mX2_hasEater 1 (.ifCond .lt 15) 3 4 := ⟨by decide +kernel, rfl⟩
theorem nX2_hasEater_4 : Nx mX2_hasEater 4 (.iload_n 1) 1 5 := ⟨by decide +kernel, rfl⟩
theorem nX2_hasEater_5 : Nx mX2_hasEater 5 (.aload_n 0) 1 6 := ⟨by decide +kernel, rfl⟩
theorem nX2_hasEater_6 : Nx mX2_hasEater 6 (.getfield 34) 3 9 := ⟨by decide +kernel, rfl⟩
theorem nX2_hasEater_9 : Nx mX2_hasEater 9 (.if_icmp .ge 7) 3 12 := ⟨by decide +kernel, rfl⟩
theorem nX2_hasEater_12 : Nx mX2_hasEater 12 (.iconst 1) 1 13 := ⟨by decide +kernel, rfl⟩
theorem nX2_hasEater_13 : Nx mX2_hasEater 13 (.goto 4) 3 16 := ⟨by decide +kernel, rfl⟩
theorem nX2_hasEater_16 : Nx mX2_hasEater 16 (.iconst 0) 1 17 := ⟨by decide +kernel, rfl⟩
theorem nX2_hasEater_17 : Nx mX2_hasEater 17 (.ireturn) 1 18 := ⟨by decide +kernel, rfl⟩
theorem nX2_allEaters_0 : Nx mX2_allEaters 0 (.iconst 1) 1 1 := ⟨by decide +kernel, rfl⟩
theorem nX2_allEaters_1 : Nx mX2_allEaters 1 (.aload_n 0) 1 2 := ⟨by decide +kernel, rfl⟩
theorem nX2_allEaters_2 : Nx mX2_allEaters 2 (.getfield 34) 3 5 := ⟨by decide +kernel, rfl⟩
theorem nX2_allEaters_5 : Nx mX2_allEaters 5 (.ishl) 1 6 := ⟨by decide +kernel, rfl⟩
theorem nX2_allEaters_6 : Nx mX2_allEaters 6 (.iconst 1) 1 7 := ⟨by decide +kernel, rfl⟩
theorem nX2_allEaters_7 : Nx mX2_allEaters 7 (.isub) 1 8 := ⟨by decide +kernel, rfl⟩
theorem nX2_allEaters_8 : Nx mX2_allEaters 8 (.ireturn) 1 9 := ⟨by decide +kernel, rfl⟩
theorem nX2_portionOf_0 : Nx mX2_portionOf 0 (.aload_n 0) 1 1 := ⟨by decide +kernel, rfl⟩
theorem nX2_portionOf_1 : Nx mX2_portionOf 1 (.getfield 27) 3 4 := ⟨by decide +kernel, rfl⟩
theorem nX2_portionOf_4 : Nx mX2_portionOf 4 (.iload_n 1) 1 5 := ⟨by decide +kernel, rfl⟩
theorem nX2_portionOf_5 : Nx mX2_portionOf 5 (.iaload) 1 6 := ⟨by decide +kernel, rfl⟩
theorem nX2_portionOf_6 : Nx mX2_portionOf 6 (.iconst 2) 1 7 := ⟨by decide +kernel, rfl⟩
theorem nX2_portionOf_7 : Nx mX2_portionOf 7 (.if_icmp .ne 7) 3 10 := ⟨by decide +kernel, rfl⟩
theorem nX2_portionOf_10 : Nx mX2_portionOf 10 (.iconst 2) 1 11 := ⟨by decide +kernel, rfl⟩
theorem nX2_portionOf_11 : Nx mX2_portionOf 11 (.goto 4) 3 14 := ⟨by decide +kernel, rfl⟩
theorem nX2_portionOf_14 : Nx mX2_portionOf 14 (.iconst 1) 1 15 := ⟨by decide +kernel, rfl⟩
theorem nX2_portionOf_15 : Nx mX2_portionOf 15 (.ireturn) 1 16 := ⟨by decide +kernel, rfl⟩
theorem nX3_init_0 : Nx mX3_init 0 (.aload_n 0) 1 1 := ⟨by decide +kernel, rfl⟩
theorem nX3_init_1 : Nx mX3_init 1 (.invokespecial 3) 3 4 := ⟨by decide +kernel, rfl⟩
theorem nX3_init_4 : Nx mX3_init 4 (.aload_n 0) 1 5 := ⟨by decide +kernel, rfl⟩
theorem nX3_init_5 : Nx mX3_init 5 (.bipush 48) 2 7 := ⟨by decide +kernel, rfl⟩
theorem nX3_init_7 : Nx mX3_init 7 (.newarray .int) 2 9 := ⟨by decide +kernel, rfl⟩
theorem nX3_init_9 : Nx mX3_init 9 (.putfield 9) 3 12 := ⟨by decide +kernel, rfl⟩
theorem nX3_init_12 : Nx mX3_init 12 (.aload_n 0) 1 13 := ⟨by decide +kernel, rfl⟩
theorem nX3_init_13 : Nx mX3_init 13 (.iconst 0) 1 14 := ⟨by decide +kernel, rfl⟩
theorem nX3_init_14 : Nx mX3_init 14 (.putfield 15) 3 17 := ⟨by decide +kernel, rfl⟩
theorem nX3_init_17 : Nx mX3_init 17 (.return_) 1 18 := ⟨by decide +kernel, rfl⟩
theorem nX3_append_0 : Nx mX3_append 0 (.aload_n 0) 1 1 := ⟨by decide +kernel, rfl⟩
theorem nX3_append_1 : Nx mX3_append 1 (.getfield 15) 3 4 := ⟨by decide +kernel, rfl⟩
theorem nX3_append_4 : Nx mX3_append 4 (.bipush 48) 2 6 := ⟨by decide +kernel, rfl⟩
theorem nX3_append_6 : Nx mX3_append 6 (.if_icmp .ge 23) 3 9 := ⟨by decide +kernel, rfl⟩
theorem nX3_append_9 : Nx mX3_append 9 (.aload_n 0) 1 10 := ⟨by decide +kernel, rfl⟩
theorem nX3_append_10 : Nx mX3_append 10 (.getfield 9) 3 13 := ⟨by decide +kernel, rfl⟩
theorem nX3_append_13 : Nx mX3_append 13 (.aload_n 0) 1 14 := ⟨by decide +kernel, rfl⟩
theorem nX3_append_14 : Nx mX3_append 14 (.getfield 15) 3 17 := ⟨by decide +kernel, rfl⟩
theorem nX3_append_17 : Nx mX3_append 17 (.iload_n 1) 1 18 := ⟨by decide +kernel, rfl⟩
theorem nX3_append_18 : Nx mX3_append 18 (.iastore) 1 19 := ⟨by decide +kernel, rfl⟩
theorem nX3_append_19 : Nx mX3_append 19 (.aload_n 0) 1 20 := ⟨by decide +kernel, rfl⟩
theorem nX3_append_20 : Nx mX3_append 20 (.dup) 1 21 := ⟨by decide +kernel, rfl⟩
theorem nX3_append_21 : Nx mX3_append 21 (.getfield 15) 3 24 := ⟨by decide +kernel, rfl⟩
theorem nX3_append_24 : Nx mX3_append 24 (.iconst 1) 1 25 := ⟨by decide +kernel, rfl⟩
theorem nX3_append_25 : Nx mX3_append 25 (.iadd) 1 26 := ⟨by decide +kernel, rfl⟩
theorem nX3_append_26 : Nx mX3_append 26 (.putfield 15) 3 29 := ⟨by decide +kernel, rfl⟩
theorem nX3_append_29 : Nx mX3_append 29 (.return_) 1 30 := ⟨by decide +kernel, rfl⟩
theorem nX3_firstFault_0 : Nx mX3_firstFault 0 (.aload_n 0) 1 1 := ⟨by decide +kernel, rfl⟩
theorem nX3_firstFault_1 : Nx mX3_firstFault 1 (.getfield 15) 3 4 := ⟨by decide +kernel, rfl⟩
theorem nX3_firstFault_4 : Nx mX3_firstFault 4 (.ifCond .eq 14) 3 7 := ⟨by decide +kernel, rfl⟩
theorem nX3_firstFault_7 : Nx mX3_firstFault 7 (.aload_n 0) 1 8 := ⟨by decide +kernel, rfl⟩
theorem nX3_firstFault_8 : Nx mX3_firstFault 8 (.getfield 9) 3 11 := ⟨by decide +kernel, rfl⟩
theorem nX3_firstFault_11 : Nx mX3_firstFault 11 (.iconst 0) 1 12 := ⟨by decide +kernel, rfl⟩
theorem nX3_firstFault_12 : Nx mX3_firstFault 12 (.iaload) 1 13 := ⟨by decide +kernel, rfl⟩
theorem nX3_firstFault_13 : Nx mX3_firstFault 13 (.bipush 70) 2 15 := ⟨by decide +kernel, rfl⟩
theorem nX3_firstFault_15 : Nx mX3_firstFault 15 (.if_icmp .eq 5) 3 18 := ⟨by decide +kernel, rfl⟩
theorem nX3_firstFault_18 : Nx mX3_firstFault 18 (.iconst 0) 1 19 := ⟨by decide +kernel, rfl⟩
theorem nX3_firstFault_19 : Nx mX3_firstFault 19 (.ireturn) 1 20 := ⟨by decide +kernel, rfl⟩
theorem nX3_firstFault_20 : Nx mX3_firstFault 20 (.iconst 0) 1 21 := ⟨by decide +kernel, rfl⟩
theorem nX3_firstFault_21 : Nx mX3_firstFault 21 (.istore_n 1) 1 22 := ⟨by decide +kernel, rfl⟩
theorem nX3_firstFault_22 : Nx mX3_firstFault 22 (.iconst 0) 1 23 := ⟨by decide +kernel, rfl⟩
theorem nX3_firstFault_23 : Nx mX3_firstFault 23 (.istore_n 2) 1 24 := ⟨by decide +kernel, rfl⟩
theorem nX3_firstFault_24 : Nx mX3_firstFault 24 (.iconst 1) 1 25 := ⟨by decide +kernel, rfl⟩
theorem nX3_firstFault_25 : Nx mX3_firstFault 25 (.istore_n 3) 1 26 := ⟨by decide +kernel, rfl⟩
theorem nX3_firstFault_26 : Nx mX3_firstFault 26 (.iload_n 3) 1 27 := ⟨by decide +kernel, rfl⟩
theorem nX3_firstFault_27 : Nx mX3_firstFault 27 (.aload_n 0) 1 28 := ⟨by decide +kernel, rfl⟩
theorem nX3_firstFault_28 : Nx mX3_firstFault 28 (.getfield 15) 3 31 := ⟨by decide +kernel, rfl⟩
theorem nX3_firstFault_31 : Nx mX3_firstFault 31 (.if_icmp .ge 106) 3 34 := ⟨by decide +kernel, rfl⟩
theorem nX3_firstFault_34 : Nx mX3_firstFault 34 (.aload_n 0) 1 35 := ⟨by decide +kernel, rfl⟩
theorem nX3_firstFault_35 : Nx mX3_firstFault 35 (.getfield 9) 3 38 := ⟨by decide +kernel, rfl⟩
theorem nX3_firstFault_38 : Nx mX3_firstFault 38 (.iload_n 3) 1 39 := ⟨by decide +kernel, rfl⟩
theorem nX3_firstFault_39 : Nx mX3_firstFault 39 (.iaload) 1 40 := ⟨by decide +kernel, rfl⟩
theorem nX3_firstFault_40 : Nx mX3_firstFault 40 (.bipush 71) 2 42 := ⟨by decide +kernel, rfl⟩
theorem nX3_firstFault_42 : Nx mX3_firstFault 42 (.if_icmp .ne 7) 3 45 := ⟨by decide +kernel, rfl⟩
theorem nX3_firstFault_45 : Nx mX3_firstFault 45 (.iconst 1) 1 46 := ⟨by decide +kernel, rfl⟩
theorem nX3_firstFault_46 : Nx mX3_firstFault 46 (.goto 4) 3 49 := ⟨by decide +kernel, rfl⟩
theorem nX3_firstFault_49 : Nx mX3_firstFault 49 (.iconst 0) 1 50 := ⟨by decide +kernel, rfl⟩
theorem nX3_firstFault_50 : Nx mX3_firstFault 50 (.istore 4) 2 52 := ⟨by decide +kernel, rfl⟩
theorem nX3_firstFault_52 : Nx mX3_firstFault 52 (.iload_n 1) 1 53 := ⟨by decide +kernel, rfl⟩
theorem nX3_firstFault_53 : Nx mX3_firstFault 53 (.iload 4) 2 55 := ⟨by decide +kernel, rfl⟩
theorem nX3_firstFault_55 : Nx mX3_firstFault 55 (.ifCond .eq 7) 3 58 := ⟨by decide +kernel, rfl⟩
theorem nX3_firstFault_58 : Nx mX3_firstFault 58 (.iconst 1) 1 59 := ⟨by decide +kernel, rfl⟩
theorem nX3_firstFault_59 : Nx mX3_firstFault 59 (.goto 4) 3 62 := ⟨by decide +kernel, rfl⟩
theorem nX3_firstFault_62 : Nx mX3_firstFault 62 (.iconst 0) 1 63 := ⟨by decide +kernel, rfl⟩
theorem nX3_firstFault_63 : Nx mX3_firstFault 63 (.iadd) 1 64 := ⟨by decide +kernel, rfl⟩
theorem nX3_firstFault_64 : Nx mX3_firstFault 64 (.istore_n 1) 1 65 := ⟨by decide +kernel, rfl⟩
theorem nX3_firstFault_65 : Nx mX3_firstFault 65 (.iload_n 2) 1 66 := ⟨by decide +kernel, rfl⟩
theorem nX3_firstFault_66 : Nx mX3_firstFault 66 (.aload_n 0) 1 67 := ⟨by decide +kernel, rfl⟩
theorem nX3_firstFault_67 : Nx mX3_firstFault 67 (.getfield 9) 3 70 := ⟨by decide +kernel, rfl⟩
theorem nX3_firstFault_70 : Nx mX3_firstFault 70 (.iload_n 3) 1 71 := ⟨by decide +kernel, rfl⟩
theorem nX3_firstFault_71 : Nx mX3_firstFault 71 (.iaload) 1 72 := ⟨by decide +kernel, rfl⟩
theorem nX3_firstFault_72 : Nx mX3_firstFault 72 (.bipush 69) 2 74 := ⟨by decide +kernel, rfl⟩
theorem nX3_firstFault_74 : Nx mX3_firstFault 74 (.if_icmp .ne 7) 3 77 := ⟨by decide +kernel, rfl⟩
theorem nX3_firstFault_77 : Nx mX3_firstFault 77 (.iconst 1) 1 78 := ⟨by decide +kernel, rfl⟩
theorem nX3_firstFault_78 : Nx mX3_firstFault 78 (.goto 4) 3 81 := ⟨by decide +kernel, rfl⟩
theorem nX3_firstFault_81 : Nx mX3_firstFault 81 (.iconst 0) 1 82 := ⟨by decide +kernel, rfl⟩
theorem nX3_firstFault_82 : Nx mX3_firstFault 82 (.iadd) 1 83 := ⟨by decide +kernel, rfl⟩
theorem nX3_firstFault_83 : Nx mX3_firstFault 83 (.istore_n 2) 1 84 := ⟨by decide +kernel, rfl⟩
theorem nX3_firstFault_84 : Nx mX3_firstFault 84 (.iload 4) 2 86 := ⟨by decide +kernel, rfl⟩
theorem nX3_firstFault_86 : Nx mX3_firstFault 86 (.ifCond .ne 14) 3 89 := ⟨by decide +kernel, rfl⟩
theorem nX3_firstFault_89 : Nx mX3_firstFault 89 (.aload_n 0) 1 90 := ⟨by decide +kernel, rfl⟩
theorem nX3_firstFault_90 : Nx mX3_firstFault 90 (.getfield 9) 3 93 := ⟨by decide +kernel, rfl⟩
theorem nX3_firstFault_93 : Nx mX3_firstFault 93 (.iload_n 3) 1 94 := ⟨by decide +kernel, rfl⟩
theorem nX3_firstFault_94 : Nx mX3_firstFault 94 (.iaload) 1 95 := ⟨by decide +kernel, rfl⟩
theorem nX3_firstFault_95 : Nx mX3_firstFault 95 (.bipush 69) 2 97 := ⟨by decide +kernel, rfl⟩
theorem nX3_firstFault_97 : Nx mX3_firstFault 97 (.if_icmp .ne 13) 3 100 := ⟨by decide +kernel, rfl⟩
theorem nX3_firstFault_100 : Nx mX3_firstFault 100 (.iload_n 1) 1 101 := ⟨by decide +kernel, rfl⟩
theorem nX3_firstFault_101 : Nx mX3_firstFault 101 (.iconst 4) 1 102 := ⟨by decide +kernel, rfl⟩
theorem nX3_firstFault_102 : Nx mX3_firstFault 102 (.if_icmp .gt 8) 3 105 := ⟨by decide +kernel, rfl⟩
theorem nX3_firstFault_105 : Nx mX3_firstFault 105 (.iload_n 2) 1 106 := ⟨by decide +kernel, rfl⟩
theorem nX3_firstFault_106 : Nx mX3_firstFault 106 (.iconst 5) 1 107 := ⟨by decide +kernel, rfl⟩
theorem nX3_firstFault_107 : Nx mX3_firstFault 107 (.if_icmp .le 5) 3 110 := ⟨by decide +kernel, rfl⟩
theorem nX3_firstFault_110 : Nx mX3_firstFault 110 (.iload_n 3) 1 111 := ⟨by decide +kernel, rfl⟩
theorem nX3_firstFault_111 : Nx mX3_firstFault 111 (.ireturn) 1 112 := ⟨by decide +kernel, rfl⟩
theorem nX3_firstFault_112 : Nx mX3_firstFault 112 (.aload_n 0) 1 113 := ⟨by decide +kernel, rfl⟩
theorem nX3_firstFault_113 : Nx mX3_firstFault 113 (.iload_n 3) 1 114 := ⟨by decide +kernel, rfl⟩
theorem nX3_firstFault_114 : Nx mX3_firstFault 114 (.iload 4) 2 116 := ⟨by decide +kernel, rfl⟩
theorem nX3_firstFault_116 : Nx mX3_firstFault 116 (.invokevirtual 19) 3 119 := ⟨by decide +kernel, rfl⟩
theorem nX3_firstFault_119 : Nx mX3_firstFault 119 (.istore 5) 2 121 := ⟨by decide +kernel, rfl⟩
theorem nX3_firstFault_121 : Nx mX3_firstFault 121 (.iload 5) 2 123 := ⟨by decide +kernel, rfl⟩
theorem nX3_firstFault_123 : Nx mX3_firstFault 123 (.bipush (-9)) 2 125 := ⟨by decide +kernel, rfl⟩
theorem nX3_firstFault_125 : Nx mX3_firstFault 125 (.if_icmp .eq 6) 3 128 := ⟨by decide +kernel, rfl⟩
theorem nX3_firstFault_128 : Nx mX3_firstFault 128 (.iload 5) 2 130 := ⟨by decide +kernel, rfl⟩
theorem nX3_firstFault_130 : Nx mX3_firstFault 130 (.ireturn) 1 131 := ⟨by decide +kernel, rfl⟩
theorem nX3_firstFault_131 : Nx mX3_firstFault 131 (.iinc 3 4) 3 134 := ⟨by decide +kernel, rfl⟩
theorem nX3_firstFault_134 : Nx mX3_firstFault 134 (.goto (-108)) 3 137 := ⟨by decide +kernel, rfl⟩
theorem nX3_firstFault_137 : Nx mX3_firstFault 137 (.bipush (-9)) 2 139 := ⟨by decide +kernel, rfl⟩
theorem nX3_firstFault_139 : Nx mX3_firstFault 139 (.ireturn) 1 140 := ⟨by decide +kernel, rfl⟩
theorem nX3_faultOfThing_0 : Nx mX3_faultOfThing 0 (.iconst 1) 1 1 := ⟨by decide +kernel, rfl⟩
theorem nX3_faultOfThing_1 : Nx mX3_faultOfThing 1 (.istore_n 3) 1 2 := ⟨by decide +kernel, rfl⟩
theorem nX3_faultOfThing_2 : Nx mX3_faultOfThing 2 (.iload_n 3) 1 3 := ⟨by decide +kernel, rfl⟩
theorem nX3_faultOfThing_3 : Nx mX3_faultOfThing 3 (.iconst 4) 1 4 := ⟨by decide +kernel, rfl⟩
theorem nX3_faultOfThing_4 : Nx mX3_faultOfThing 4 (.if_icmp .ge 91) 3 7 := ⟨by decide +kernel, rfl⟩
theorem nX3_faultOfThing_7 : Nx mX3_faultOfThing 7 (.iload_n 1) 1 8 := ⟨by decide +kernel, rfl⟩
theorem nX3_faultOfThing_8 : Nx mX3_faultOfThing 8 (.iload_n 3) 1 9 := ⟨by decide +kernel, rfl⟩
theorem nX3_faultOfThing_9 : Nx mX3_faultOfThing 9 (.iadd) 1 10 := ⟨by decide +kernel, rfl⟩
theorem nX3_faultOfThing_10 : Nx mX3_faultOfThing 10 (.istore 4) 2 12 := ⟨by decide +kernel, rfl⟩
theorem nX3_faultOfThing_12 : Nx mX3_faultOfThing 12 (.iload 4) 2 14 := ⟨by decide +kernel, rfl⟩
theorem nX3_faultOfThing_14 : Nx mX3_faultOfThing 14 (.aload_n 0) 1 15 := ⟨by decide +kernel, rfl⟩
theorem nX3_faultOfThing_15 : Nx mX3_faultOfThing 15 (.getfield 15) 3 18 := ⟨by decide +kernel, rfl⟩
theorem nX3_faultOfThing_18 : Nx mX3_faultOfThing 18 (.if_icmp .lt 8) 3 21 := ⟨by decide +kernel, rfl⟩
theorem nX3_faultOfThing_21 : Nx mX3_faultOfThing 21 (.aload_n 0) 1 22 := ⟨by decide +kernel, rfl⟩
theorem nX3_faultOfThing_22 : Nx mX3_faultOfThing 22 (.getfield 15) 3 25 := ⟨by decide +kernel, rfl⟩
theorem nX3_faultOfThing_25 : Nx mX3_faultOfThing 25 (.ireturn) 1 26 := ⟨by decide +kernel, rfl⟩
theorem nX3_faultOfThing_26 : Nx mX3_faultOfThing 26 (.iload_n 2) 1 27 := ⟨by decide +kernel, rfl⟩
theorem nX3_faultOfThing_27 : Nx mX3_faultOfThing 27 (.ifCond .eq 13) 3 30 := ⟨by decide +kernel, rfl⟩
theorem nX3_faultOfThing_30 : Nx mX3_faultOfThing 30 (.iload_n 3) 1 31 := ⟨by decide +kernel, rfl⟩
theorem nX3_faultOfThing_31 : Nx mX3_faultOfThing 31 (.iconst 1) 1 32 := ⟨by decide +kernel, rfl⟩
theorem nX3_faultOfThing_32 : Nx mX3_faultOfThing 32 (.if_icmp .le 8) 3 35 := ⟨by decide +kernel, rfl⟩
theorem nX3_faultOfThing_35 : Nx mX3_faultOfThing 35 (.bipush 49) 2 37 := ⟨by decide +kernel, rfl⟩
theorem nX3_faultOfThing_37 : Nx mX3_faultOfThing 37 (.goto 5) 3 40 := ⟨by decide +kernel, rfl⟩
theorem nX3_faultOfThing_40 : Nx mX3_faultOfThing 40 (.bipush 48) 2 42 := ⟨by decide +kernel, rfl⟩
theorem nX3_faultOfThing_42 : Nx mX3_faultOfThing 42 (.istore 5) 2 44 := ⟨by decide +kernel, rfl⟩
theorem nX3_faultOfThing_44 : Nx mX3_faultOfThing 44 (.iload_n 2) 1 45 := ⟨by decide +kernel, rfl⟩
theorem nX3_faultOfThing_45 : Nx mX3_faultOfThing 45 (.ifCond .ne 13) 3 48 := ⟨by decide +kernel, rfl⟩
theorem nX3_faultOfThing_48 : Nx mX3_faultOfThing 48 (.iload_n 3) 1 49 := ⟨by decide +kernel, rfl⟩
theorem nX3_faultOfThing_49 : Nx mX3_faultOfThing 49 (.iconst 3) 1 50 := ⟨by decide +kernel, rfl⟩
theorem nX3_faultOfThing_50 : Nx mX3_faultOfThing 50 (.if_icmp .ne 8) 3 53 := ⟨by decide +kernel, rfl⟩
theorem nX3_faultOfThing_53 : Nx mX3_faultOfThing 53 (.bipush 51) 2 55 := ⟨by decide +kernel, rfl⟩
theorem nX3_faultOfThing_55 : Nx mX3_faultOfThing 55 (.goto 5) 3 58 := ⟨by decide +kernel, rfl⟩
theorem nX3_faultOfThing_58 : Nx mX3_faultOfThing 58 (.bipush 57) 2 60 := ⟨by decide +kernel, rfl⟩
theorem nX3_faultOfThing_60 : Nx mX3_faultOfThing 60 (.istore 6) 2 62 := ⟨by decide +kernel, rfl⟩
theorem nX3_faultOfThing_62 : Nx mX3_faultOfThing 62 (.aload_n 0) 1 63 := ⟨by decide +kernel, rfl⟩
theorem nX3_faultOfThing_63 : Nx mX3_faultOfThing 63 (.getfield 9) 3 66 := ⟨by decide +kernel, rfl⟩
theorem nX3_faultOfThing_66 : Nx mX3_faultOfThing 66 (.iload 4) 2 68 := ⟨by decide +kernel, rfl⟩
theorem nX3_faultOfThing_68 : Nx mX3_faultOfThing 68 (.iaload) 1 69 := ⟨by decide +kernel, rfl⟩
theorem nX3_faultOfThing_69 : Nx mX3_faultOfThing 69 (.iload 5) 2 71 := ⟨by decide +kernel, rfl⟩
theorem nX3_faultOfThing_71 : Nx mX3_faultOfThing 71 (.if_icmp .lt 15) 3 74 := ⟨by decide +kernel, rfl⟩
theorem nX3_faultOfThing_74 : Nx mX3_faultOfThing 74 (.aload_n 0) 1 75 := ⟨by decide +kernel, rfl⟩
theorem nX3_faultOfThing_75 : Nx mX3_faultOfThing 75 (.getfield 9) 3 78 := ⟨by decide +kernel, rfl⟩
theorem nX3_faultOfThing_78 : Nx mX3_faultOfThing 78 (.iload 4) 2 80 := ⟨by decide +kernel, rfl⟩
theorem nX3_faultOfThing_80 : Nx mX3_faultOfThing 80 (.iaload) 1 81 := ⟨by decide +kernel, rfl⟩
theorem nX3_faultOfThing_81 : Nx mX3_faultOfThing 81 (.iload 6) 2 83 := ⟨by decide +kernel, rfl⟩
theorem nX3_faultOfThing_83 : Nx mX3_faultOfThing 83 (.if_icmp .le 6) 3 86 := ⟨by decide +kernel, rfl⟩
theorem nX3_faultOfThing_86 : Nx mX3_faultOfThing 86 (.iload 4) 2 88 := ⟨by decide +kernel, rfl⟩
theorem nX3_faultOfThing_88 : Nx mX3_faultOfThing 88 (.ireturn) 1 89 := ⟨by decide +kernel, rfl⟩
theorem nX3_faultOfThing_89 : Nx mX3_faultOfThing 89 (.iinc 3 1) 3 92 := ⟨by decide +kernel, rfl⟩
theorem nX3_faultOfThing_92 : Nx mX3_faultOfThing 92 (.goto (-90)) 3 95 := ⟨by decide +kernel, rfl⟩
theorem nX3_faultOfThing_95 : Nx mX3_faultOfThing 95 (.bipush (-9)) 2 97 := ⟨by decide +kernel, rfl⟩
theorem nX3_faultOfThing_97 : Nx mX3_faultOfThing 97 (.ireturn) 1 98 := ⟨by decide +kernel, rfl⟩
theorem nX3_figure_0 : Nx mX3_figure 0 (.iload_n 1) 1 1 := ⟨by decide +kernel, rfl⟩
theorem nX3_figure_1 : Nx mX3_figure 1 (.ifCond .lt 23) 3 4 := ⟨by decide +kernel, rfl⟩
theorem nX3_figure_4 : Nx mX3_figure 4 (.iload_n 1) 1 5 := ⟨by decide +kernel, rfl⟩
theorem nX3_figure_5 : Nx mX3_figure 5 (.aload_n 0) 1 6 := ⟨by decide +kernel, rfl⟩
theorem nX3_figure_6 : Nx mX3_figure 6 (.getfield 15) 3 9 := ⟨by decide +kernel, rfl⟩
theorem nX3_figure_9 : Nx mX3_figure 9 (.if_icmp .ge 15) 3 12 := ⟨by decide +kernel, rfl⟩
theorem nX3_figure_12 : Nx mX3_figure 12 (.aload_n 0) 1 13 := ⟨by decide +kernel, rfl⟩
theorem nX3_figure_13 : Nx mX3_figure 13 (.getfield 9) 3 16 := ⟨by decide +kernel, rfl⟩
theorem nX3_figure_16 : Nx mX3_figure 16 (.iload_n 1) 1 17 := ⟨by decide +kernel, rfl⟩
theorem nX3_figure_17 : Nx mX3_figure 17 (.iaload) 1 18 := ⟨by decide +kernel, rfl⟩
theorem nX3_figure_18 : Nx mX3_figure 18 (.bipush 48) 2 20 := ⟨by decide +kernel, rfl⟩
theorem nX3_figure_20 : Nx mX3_figure 20 (.isub) 1 21 := ⟨by decide +kernel, rfl⟩
theorem nX3_figure_21 : Nx mX3_figure 21 (.goto 4) 3 24 := ⟨by decide +kernel, rfl⟩
theorem nX3_figure_24 : Nx mX3_figure 24 (.iconst 0) 1 25 := ⟨by decide +kernel, rfl⟩
theorem nX3_figure_25 : Nx mX3_figure 25 (.ireturn) 1 26 := ⟨by decide +kernel, rfl⟩
theorem nX4_init_0 : Nx mX4_init 0 (.aload_n 0) 1 1 := ⟨by decide +kernel, rfl⟩
theorem nX4_init_1 : Nx mX4_init 1 (.invokespecial 3) 3 4 := ⟨by decide +kernel, rfl⟩
theorem nX4_init_4 : Nx mX4_init 4 (.aload_n 0) 1 5 := ⟨by decide +kernel, rfl⟩
theorem nX4_init_5 : Nx mX4_init 5 (.bipush 6) 2 7 := ⟨by decide +kernel, rfl⟩
theorem nX4_init_7 : Nx mX4_init 7 (.newarray .int) 2 9 := ⟨by decide +kernel, rfl⟩
theorem nX4_init_9 : Nx mX4_init 9 (.putfield 9) 3 12 := ⟨by decide +kernel, rfl⟩
theorem nX4_init_12 : Nx mX4_init 12 (.aload_n 0) 1 13 := ⟨by decide +kernel, rfl⟩
theorem nX4_init_13 : Nx mX4_init 13 (.bipush 6) 2 15 := ⟨by decide +kernel, rfl⟩
theorem nX4_init_15 : Nx mX4_init 15 (.newarray .boolean) 2 17 := ⟨by decide +kernel, rfl⟩
theorem nX4_init_17 : Nx mX4_init 17 (.putfield 15) 3 20 := ⟨by decide +kernel, rfl⟩
theorem nX4_init_20 : Nx mX4_init 20 (.aload_n 0) 1 21 := ⟨by decide +kernel, rfl⟩
theorem nX4_init_21 : Nx mX4_init 21 (.iconst 0) 1 22 := ⟨by decide +kernel, rfl⟩
theorem nX4_init_22 : Nx mX4_init 22 (.putfield 19) 3 25 := ⟨by decide +kernel, rfl⟩
theorem nX4_init_25 : Nx mX4_init 25 (.return_) 1 26 := ⟨by decide +kernel, rfl⟩
theorem nX4_add_0 : Nx mX4_add 0 (.aload_n 0) 1 1 := ⟨by decide +kernel, rfl⟩
theorem nX4_add_1 : Nx mX4_add 1 (.getfield 19) 3 4 := ⟨by decide +kernel, rfl⟩
theorem nX4_add_4 : Nx mX4_add 4 (.bipush 6) 2 6 := ⟨by decide +kernel, rfl⟩
theorem nX4_add_6 : Nx mX4_add 6 (.if_icmp .ge 33) 3 9 := ⟨by decide +kernel, rfl⟩
theorem nX4_add_9 : Nx mX4_add 9 (.aload_n 0) 1 10 := ⟨by decide +kernel, rfl⟩
theorem nX4_add_10 : Nx mX4_add 10 (.getfield 9) 3 13 := ⟨by decide +kernel, rfl⟩
theorem nX4_add_13 : Nx mX4_add 13 (.aload_n 0) 1 14 := ⟨by decide +kernel, rfl⟩
theorem nX4_add_14 : Nx mX4_add 14 (.getfield 19) 3 17 := ⟨by decide +kernel, rfl⟩
theorem nX4_add_17 : Nx mX4_add 17 (.iload_n 1) 1 18 := ⟨by decide +kernel, rfl⟩
theorem nX4_add_18 : Nx mX4_add 18 (.iastore) 1 19 := ⟨by decide +kernel, rfl⟩
theorem nX4_add_19 : Nx mX4_add 19 (.aload_n 0) 1 20 := ⟨by decide +kernel, rfl⟩
theorem nX4_add_20 : Nx mX4_add 20 (.getfield 15) 3 23 := ⟨by decide +kernel, rfl⟩
theorem nX4_add_23 : Nx mX4_add 23 (.aload_n 0) 1 24 := ⟨by decide +kernel, rfl⟩
theorem nX4_add_24 : Nx mX4_add 24 (.getfield 19) 3 27 := ⟨by decide +kernel, rfl⟩
theorem nX4_add_27 : Nx mX4_add 27 (.iload_n 2) 1 28 := ⟨by decide +kernel, rfl⟩
theorem nX4_add_28 : Nx mX4_add 28 (.bastore) 1 29 := ⟨by decide +kernel, rfl⟩
theorem nX4_add_29 : Nx mX4_add 29 (.aload_n 0) 1 30 := ⟨by decide +kernel, rfl⟩
theorem nX4_add_30 : Nx mX4_add 30 (.dup) 1 31 := ⟨by decide +kernel, rfl⟩
theorem nX4_add_31 : Nx mX4_add 31 (.getfield 19) 3 34 := ⟨by decide +kernel, rfl⟩
theorem nX4_add_34 : Nx mX4_add 34 (.iconst 1) 1 35 := ⟨by decide +kernel, rfl⟩
theorem nX4_add_35 : Nx mX4_add 35 (.iadd) 1 36 := ⟨by decide +kernel, rfl⟩
theorem nX4_add_36 : Nx mX4_add 36 (.putfield 19) 3 39 := ⟨by decide +kernel, rfl⟩
theorem nX4_add_39 : Nx mX4_add 39 (.return_) 1 40 := ⟨by decide +kernel, rfl⟩
theorem nX4_allowFor_0 : Nx mX4_allowFor 0 (.iconst 0) 1 1 := ⟨by decide +kernel, rfl⟩
theorem nX4_allowFor_1 : Nx mX4_allowFor 1 (.istore_n 3) 1 2 := ⟨by decide +kernel, rfl⟩
theorem nX4_allowFor_2 : Nx mX4_allowFor 2 (.iload_n 3) 1 3 := ⟨by decide +kernel, rfl⟩
theorem nX4_allowFor_3 : Nx mX4_allowFor 3 (.aload_n 0) 1 4 := ⟨by decide +kernel, rfl⟩
theorem nX4_allowFor_4 : Nx mX4_allowFor 4 (.getfield 19) 3 7 := ⟨by decide +kernel, rfl⟩
theorem nX4_allowFor_7 : Nx mX4_allowFor 7 (.if_icmp .ge 44) 3 10 := ⟨by decide +kernel, rfl⟩
theorem nX4_allowFor_10 : Nx mX4_allowFor 10 (.iload_n 1) 1 11 := ⟨by decide +kernel, rfl⟩
theorem nX4_allowFor_11 : Nx mX4_allowFor 11 (.aload_n 0) 1 12 := ⟨by decide +kernel, rfl⟩
theorem nX4_allowFor_12 : Nx mX4_allowFor 12 (.getfield 9) 3 15 := ⟨by decide +kernel, rfl⟩
theorem nX4_allowFor_15 : Nx mX4_allowFor 15 (.iload_n 3) 1 16 := ⟨by decide +kernel, rfl⟩
theorem nX4_allowFor_16 : Nx mX4_allowFor 16 (.iaload) 1 17 := ⟨by decide +kernel, rfl⟩
theorem nX4_allowFor_17 : Nx mX4_allowFor 17 (.isub) 1 18 := ⟨by decide +kernel, rfl⟩
theorem nX4_allowFor_18 : Nx mX4_allowFor 18 (.invokestatic 23) 3 21 := ⟨by decide +kernel, rfl⟩
theorem nX4_allowFor_21 : Nx mX4_allowFor 21 (.iload_n 2) 1 22 := ⟨by decide +kernel, rfl⟩
theorem nX4_allowFor_22 : Nx mX4_allowFor 22 (.if_icmp .gt 7) 3 25 := ⟨by decide +kernel, rfl⟩
theorem nX4_allowFor_25 : Nx mX4_allowFor 25 (.iconst 1) 1 26 := ⟨by decide +kernel, rfl⟩
theorem nX4_allowFor_26 : Nx mX4_allowFor 26 (.goto 4) 3 29 := ⟨by decide +kernel, rfl⟩
theorem nX4_allowFor_29 : Nx mX4_allowFor 29 (.iconst 0) 1 30 := ⟨by decide +kernel, rfl⟩
theorem nX4_allowFor_30 : Nx mX4_allowFor 30 (.istore 4) 2 32 := ⟨by decide +kernel, rfl⟩
theorem nX4_allowFor_32 : Nx mX4_allowFor 32 (.iload 4) 2 34 := ⟨by decide +kernel, rfl⟩
theorem nX4_allowFor_34 : Nx mX4_allowFor 34 (.aload_n 0) 1 35 := ⟨by decide +kernel, rfl⟩
theorem nX4_allowFor_35 : Nx mX4_allowFor 35 (.getfield 15) 3 38 := ⟨by decide +kernel, rfl⟩
theorem nX4_allowFor_38 : Nx mX4_allowFor 38 (.iload_n 3) 1 39 := ⟨by decide +kernel, rfl⟩
theorem nX4_allowFor_39 : Nx mX4_allowFor 39 (.baload) 1 40 := ⟨by decide +kernel, rfl⟩
theorem nX4_allowFor_40 : Nx mX4_allowFor 40 (.if_icmp .eq 5) 3 43 := ⟨by decide +kernel, rfl⟩
theorem nX4_allowFor_43 : Nx mX4_allowFor 43 (.iconst 0) 1 44 := ⟨by decide +kernel, rfl⟩
theorem nX4_allowFor_44 : Nx mX4_allowFor 44 (.ireturn) 1 45 := ⟨by decide +kernel, rfl⟩
theorem nX4_allowFor_45 : Nx mX4_allowFor 45 (.iinc 3 1) 3 48 := ⟨by decide +kernel, rfl⟩
theorem nX4_allowFor_48 : Nx mX4_allowFor 48 (.goto (-46)) 3 51 := ⟨by decide +kernel, rfl⟩
theorem nX4_allowFor_51 : Nx mX4_allowFor 51 (.iconst 1) 1 52 := ⟨by decide +kernel, rfl⟩
theorem nX4_allowFor_52 : Nx mX4_allowFor 52 (.ireturn) 1 53 := ⟨by decide +kernel, rfl⟩
theorem nJ6_bitCount_0f7a4_0 : Nx mJ6_bitCount_0f7a4 0 (.iload_n 0) 1 1 := ⟨by decide +kernel, rfl⟩
theorem nJ6_bitCount_0f7a4_1 : Nx mJ6_bitCount_0f7a4 1 (.iload_n 0) 1 2 := ⟨by decide +kernel, rfl⟩
theorem nJ6_bitCount_0f7a4_2 : Nx mJ6_bitCount_0f7a4 2 (.iconst 1) 1 3 := ⟨by decide +kernel, rfl⟩
theorem nJ6_bitCount_0f7a4_3 : Nx mJ6_bitCount_0f7a4 3 (.iushr) 1 4 := ⟨by decide +kernel, rfl⟩
theorem nJ6_bitCount_0f7a4_4 : Nx mJ6_bitCount_0f7a4 4 (.ldc_w 265) 3 7 := ⟨by decide +kernel, rfl⟩
theorem nJ6_bitCount_0f7a4_7 : Nx mJ6_bitCount_0f7a4 7 (.iand) 1 8 := ⟨by decide +kernel, rfl⟩
theorem nJ6_bitCount_0f7a4_8 : Nx mJ6_bitCount_0f7a4 8 (.isub) 1 9 := ⟨by decide +kernel, rfl⟩
theorem nJ6_bitCount_0f7a4_9 : Nx mJ6_bitCount_0f7a4 9 (.istore_n 0) 1 10 := ⟨by decide +kernel, rfl⟩
theorem nJ6_bitCount_0f7a4_10 : Nx mJ6_bitCount_0f7a4 10 (.iload_n 0) 1 11 := ⟨by decide +kernel, rfl⟩
theorem nJ6_bitCount_0f7a4_11 : Nx mJ6_bitCount_0f7a4 11 (.ldc_w 266) 3 14 := ⟨by decide +kernel, rfl⟩
theorem nJ6_bitCount_0f7a4_14 : Nx mJ6_bitCount_0f7a4 14 (.iand) 1 15 := ⟨by decide +kernel, rfl⟩
theorem nJ6_bitCount_0f7a4_15 : Nx mJ6_bitCount_0f7a4 15 (.iload_n 0) 1 16 := ⟨by decide +kernel, rfl⟩
theorem nJ6_bitCount_0f7a4_16 : Nx mJ6_bitCount_0f7a4 16 (.iconst 2) 1 17 := ⟨by decide +kernel, rfl⟩
theorem nJ6_bitCount_0f7a4_17 : Nx mJ6_bitCount_0f7a4 17 (.iushr) 1 18 := ⟨by decide +kernel, rfl⟩
theorem nJ6_bitCount_0f7a4_18 : Nx mJ6_bitCount_0f7a4 18 (.ldc_w 266) 3 21 := ⟨by decide +kernel, rfl⟩
theorem nJ6_bitCount_0f7a4_21 : Nx mJ6_bitCount_0f7a4 21 (.iand) 1 22 := ⟨by decide +kernel, rfl⟩
theorem nJ6_bitCount_0f7a4_22 : Nx mJ6_bitCount_0f7a4 22 (.iadd) 1 23 := ⟨by decide +kernel, rfl⟩
theorem nJ6_bitCount_0f7a4_23 : Nx mJ6_bitCount_0f7a4 23 (.istore_n 0) 1 24 := ⟨by decide +kernel, rfl⟩
theorem nJ6_bitCount_0f7a4_24 : Nx mJ6_bitCount_0f7a4 24 (.iload_n 0) 1 25 := ⟨by decide +kernel, rfl⟩
theorem nJ6_bitCount_0f7a4_25 : Nx mJ6_bitCount_0f7a4 25 (.iload_n 0) 1 26 := ⟨by decide +kernel, rfl⟩
theorem nJ6_bitCount_0f7a4_26 : Nx mJ6_bitCount_0f7a4 26 (.iconst 4) 1 27 := ⟨by decide +kernel, rfl⟩
theorem nJ6_bitCount_0f7a4_27 : Nx mJ6_bitCount_0f7a4 27 (.iushr) 1 28 := ⟨by decide +kernel, rfl⟩
theorem nJ6_bitCount_0f7a4_28 : Nx mJ6_bitCount_0f7a4 28 (.iadd) 1 29 := ⟨by decide +kernel, rfl⟩
theorem nJ6_bitCount_0f7a4_29 : Nx mJ6_bitCount_0f7a4 29 (.ldc_w 267) 3 32 := ⟨by decide +kernel, rfl⟩
theorem nJ6_bitCount_0f7a4_32 : Nx mJ6_bitCount_0f7a4 32 (.iand) 1 33 := ⟨by decide +kernel, rfl⟩
theorem nJ6_bitCount_0f7a4_33 : Nx mJ6_bitCount_0f7a4 33 (.istore_n 0) 1 34 := ⟨by decide +kernel, rfl⟩
theorem nJ6_bitCount_0f7a4_34 : Nx mJ6_bitCount_0f7a4 34 (.iload_n 0) 1 35 := ⟨by decide +kernel, rfl⟩
theorem nJ6_bitCount_0f7a4_35 : Nx mJ6_bitCount_0f7a4 35 (.iload_n 0) 1 36 := ⟨by decide +kernel, rfl⟩
theorem nJ6_bitCount_0f7a4_36 : Nx mJ6_bitCount_0f7a4 36 (.bipush 8) 2 38 := ⟨by decide +kernel, rfl⟩
theorem nJ6_bitCount_0f7a4_38 : Nx mJ6_bitCount_0f7a4 38 (.iushr) 1 39 := ⟨by decide +kernel, rfl⟩
theorem nJ6_bitCount_0f7a4_39 : Nx mJ6_bitCount_0f7a4 39 (.iadd) 1 40 := ⟨by decide +kernel, rfl⟩
theorem nJ6_bitCount_0f7a4_40 : Nx mJ6_bitCount_0f7a4 40 (.istore_n 0) 1 41 := ⟨by decide +kernel, rfl⟩
theorem nJ6_bitCount_0f7a4_41 : Nx mJ6_bitCount_0f7a4 41 (.iload_n 0) 1 42 := ⟨by decide +kernel, rfl⟩
theorem nJ6_bitCount_0f7a4_42 : Nx mJ6_bitCount_0f7a4 42 (.iload_n 0) 1 43 := ⟨by decide +kernel, rfl⟩
theorem nJ6_bitCount_0f7a4_43 : Nx mJ6_bitCount_0f7a4 43 (.bipush 16) 2 45 := ⟨by decide +kernel, rfl⟩
theorem nJ6_bitCount_0f7a4_45 : Nx mJ6_bitCount_0f7a4 45 (.iushr) 1 46 := ⟨by decide +kernel, rfl⟩
theorem nJ6_bitCount_0f7a4_46 : Nx mJ6_bitCount_0f7a4 46 (.iadd) 1 47 := ⟨by decide +kernel, rfl⟩
theorem nJ6_bitCount_0f7a4_47 : Nx mJ6_bitCount_0f7a4 47 (.istore_n 0) 1 48 := ⟨by decide +kernel, rfl⟩
theorem nJ6_bitCount_0f7a4_48 : Nx mJ6_bitCount_0f7a4 48 (.iload_n 0) 1 49 := ⟨by decide +kernel, rfl⟩
theorem nJ6_bitCount_0f7a4_49 : Nx mJ6_bitCount_0f7a4 49 (.bipush 63) 2 51 := ⟨by decide +kernel, rfl⟩
theorem nJ6_bitCount_0f7a4_51 : Nx mJ6_bitCount_0f7a4 51 (.iand) 1 52 := ⟨by decide +kernel, rfl⟩
theorem nJ6_bitCount_0f7a4_52 : Nx mJ6_bitCount_0f7a4 52 (.ireturn) 1 53 := ⟨by decide +kernel, rfl⟩
end
section
theorem nX5_init_0 : Nx mX5_init 0 (.aload_n 0) 1 1 := ⟨by decide +kernel, rfl⟩
theorem nX5_init_1 : Nx mX5_init 1 (.invokespecial 1) 3 4 := ⟨by decide +kernel, rfl⟩
theorem nX5_init_4 : Nx mX5_init 4 (.aload_n 0) 1 5 := ⟨by decide +kernel, rfl⟩
theorem nX5_init_5 : Nx mX5_init 5 (.new 7) 3 8 := ⟨by decide +kernel, rfl⟩
theorem nX5_init_8 : Nx mX5_init 8 (.dup) 1 9 := ⟨by decide +kernel, rfl⟩
theorem nX5_init_9 : Nx mX5_init 9 (.invokespecial 9) 3 12 := ⟨by decide +kernel, rfl⟩
theorem nX5_init_12 : Nx mX5_init 12 (.putfield 10) 3 15 := ⟨by decide +kernel, rfl⟩
theorem nX5_init_15 : Nx mX5_init 15 (.aload_n 0) 1 16 := ⟨by decide +kernel, rfl⟩
theorem nX5_init_16 : Nx mX5_init 16 (.new 16) 3 19 := ⟨by decide +kernel, rfl⟩
theorem nX5_init_19 : Nx mX5_init 19 (.dup) 1 20 := ⟨by decide +kernel, rfl⟩
theorem nX5_init_20 : Nx mX5_init 20 (.invokespecial 18) 3 23 := ⟨by decide +kernel, rfl⟩
theorem nX5_init_23 : Nx mX5_init 23 (.putfield 19) 3 26 := ⟨by decide +kernel, rfl⟩
theorem nX5_init_26 : Nx mX5_init 26 (.aload_n 0) 1 27 := ⟨by decide +kernel, rfl⟩
theorem nX5_init_27 : Nx mX5_init 27 (.new 23) 3 30 := ⟨by decide +kernel, rfl⟩
theorem nX5_init_30 : Nx mX5_init 30 (.dup) 1 31 := ⟨by decide +kernel, rfl⟩
theorem nX5_init_31 : Nx mX5_init 31 (.aload_n 0) 1 32 := ⟨by decide +kernel, rfl⟩
theorem nX5_init_32 : Nx mX5_init 32 (.getfield 19) 3 35 := ⟨by decide +kernel, rfl⟩
theorem nX5_init_35 : Nx mX5_init 35 (.invokespecial 25) 3 38 := ⟨by decide +kernel, rfl⟩
theorem nX5_init_38 : Nx mX5_init 38 (.putfield 28) 3 41 := ⟨by decide +kernel, rfl⟩
theorem nX5_init_41 : Nx mX5_init 41 (.aload_n 0) 1 42 := ⟨by decide +kernel, rfl⟩
theorem nX5_init_42 : Nx mX5_init 42 (.new 23) 3 45 := ⟨by decide +kernel, rfl⟩
theorem nX5_init_45 : Nx mX5_init 45 (.dup) 1 46 := ⟨by decide +kernel, rfl⟩
theorem nX5_init_46 : Nx mX5_init 46 (.aload_n 0) 1 47 := ⟨by decide +kernel, rfl⟩
theorem nX5_init_47 : Nx mX5_init 47 (.getfield 19) 3 50 := ⟨by decide +kernel, rfl⟩
theorem nX5_init_50 : Nx mX5_init 50 (.invokespecial 25) 3 53 := ⟨by decide +kernel, rfl⟩
theorem nX5_init_53 : Nx mX5_init 53 (.putfield 32) 3 56 := ⟨by decide +kernel, rfl⟩
theorem nX5_init_56 : Nx mX5_init 56 (.aload_n 0) 1 57 := ⟨by decide +kernel, rfl⟩
theorem nX5_init_57 : Nx mX5_init 57 (.new 35) 3 60 := ⟨by decide +kernel, rfl⟩
theorem nX5_init_60 : Nx mX5_init 60 (.dup) 1 61 := ⟨by decide +kernel, rfl⟩
theorem nX5_init_61 : Nx mX5_init 61 (.aload_n 0) 1 62 := ⟨by decide +kernel, rfl⟩
theorem nX5_init_62 : Nx mX5_init 62 (.getfield 19) 3 65 := ⟨by decide +kernel, rfl⟩
theorem nX5_init_65 : Nx mX5_init 65 (.invokespecial 37) 3 68 := ⟨by decide +kernel, rfl⟩
theorem nX5_init_68 : Nx mX5_init 68 (.putfield 38) 3 71 := ⟨by decide +kernel, rfl⟩
theorem nX5_init_71 : Nx mX5_init 71 (.aload_n 0) 1 72 := ⟨by decide +kernel, rfl⟩
theorem nX5_init_72 : Nx mX5_init 72 (.new 42) 3 75 := ⟨by decide +kernel, rfl⟩
theorem nX5_init_75 : Nx mX5_init 75 (.dup) 1 76 := ⟨by decide +kernel, rfl⟩
theorem nX5_init_76 : Nx mX5_init 76 (.invokespecial 44) 3 79 := ⟨by decide +kernel, rfl⟩
theorem nX5_init_79 : Nx mX5_init 79 (.putfield 45) 3 82 := ⟨by decide +kernel, rfl⟩
theorem nX5_init_82 : Nx mX5_init 82 (.aload_n 0) 1 83 := ⟨by decide +kernel, rfl⟩
theorem nX5_init_83 : Nx mX5_init 83 (.iconst 2) 1 84 := ⟨by decide +kernel, rfl⟩
theorem nX5_init_84 : Nx mX5_init 84 (.anewarray 23) 3 87 := ⟨by decide +kernel, rfl⟩
theorem nX5_init_87 : Nx mX5_init 87 (.putfield 49) 3 90 := ⟨by decide +kernel, rfl⟩
theorem nX5_init_90 : Nx mX5_init 90 (.iconst 0) 1 91 := ⟨by decide +kernel, rfl⟩
theorem nX5_init_91 : Nx mX5_init 91 (.istore_n 1) 1 92 := ⟨by decide +kernel, rfl⟩
theorem nX5_init_92 : Nx mX5_init 92 (.iload_n 1) 1 93 := ⟨by decide +kernel, rfl⟩
theorem nX5_init_93 : Nx mX5_init 93 (.iconst 2) 1 94 := ⟨by decide +kernel, rfl⟩
theorem nX5_init_94 : Nx mX5_init 94 (.if_icmp .ge 26) 3 97 := ⟨by decide +kernel, rfl⟩
theorem nX5_init_97 : Nx mX5_init 97 (.aload_n 0) 1 98 := ⟨by decide +kernel, rfl⟩
theorem nX5_init_98 : Nx mX5_init 98 (.getfield 49) 3 101 := ⟨by decide +kernel, rfl⟩
theorem nX5_init_101 : Nx mX5_init 101 (.iload_n 1) 1 102 := ⟨by decide +kernel, rfl⟩
theorem nX5_init_102 : Nx mX5_init 102 (.new 23) 3 105 := ⟨by decide +kernel, rfl⟩
theorem nX5_init_105 : Nx mX5_init 105 (.dup) 1 106 := ⟨by decide +kernel, rfl⟩
theorem nX5_init_106 : Nx mX5_init 106 (.aload_n 0) 1 107 := ⟨by decide +kernel, rfl⟩
theorem nX5_init_107 : Nx mX5_init 107 (.getfield 19) 3 110 := ⟨by decide +kernel, rfl⟩
theorem nX5_init_110 : Nx mX5_init 110 (.invokespecial 25) 3 113 := ⟨by decide +kernel, rfl⟩
theorem nX5_init_113 : Nx mX5_init 113 (.aastore) 1 114 := ⟨by decide +kernel, rfl⟩
theorem nX5_init_114 : Nx mX5_init 114 (.iinc 1 1) 3 117 := ⟨by decide +kernel, rfl⟩
theorem nX5_init_117 : Nx mX5_init 117 (.goto (-25)) 3 120 := ⟨by decide +kernel, rfl⟩
theorem nX5_init_120 : Nx mX5_init 120 (.aload_n 0) 1 121 := ⟨by decide +kernel, rfl⟩
theorem nX5_init_121 : Nx mX5_init 121 (.iconst 2) 1 122 := ⟨by decide +kernel, rfl⟩
theorem nX5_init_122 : Nx mX5_init 122 (.newarray .boolean) 2 124 := ⟨by decide +kernel, rfl⟩
theorem nX5_init_124 : Nx mX5_init 124 (.putfield 53) 3 127 := ⟨by decide +kernel, rfl⟩
theorem nX5_init_127 : Nx mX5_init 127 (.aload_n 0) 1 128 := ⟨by decide +kernel, rfl⟩
theorem nX5_init_128 : Nx mX5_init 128 (.bipush 8) 2 130 := ⟨by decide +kernel, rfl⟩
theorem nX5_init_130 : Nx mX5_init 130 (.newarray .int) 2 132 := ⟨by decide +kernel, rfl⟩
theorem nX5_init_132 : Nx mX5_init 132 (.putfield 57) 3 135 := ⟨by decide +kernel, rfl⟩
theorem nX5_init_135 : Nx mX5_init 135 (.aload_n 0) 1 136 := ⟨by decide +kernel, rfl⟩
theorem nX5_init_136 : Nx mX5_init 136 (.lconst 0) 1 137 := ⟨by decide +kernel, rfl⟩
theorem nX5_init_137 : Nx mX5_init 137 (.putfield 61) 3 140 := ⟨by decide +kernel, rfl⟩
theorem nX5_init_140 : Nx mX5_init 140 (.return_) 1 141 := ⟨by decide +kernel, rfl⟩
theorem nX5_write_0 : Nx mX5_write 0 (.iload_n 1) 1 1 := ⟨by decide +kernel, rfl⟩
theorem nX5_write_1 : Nx mX5_write 1 (.ifCond .lt 10) 3 4 := ⟨by decide +kernel, rfl⟩
theorem nX5_write_4 : Nx mX5_write 4 (.iload_n 1) 1 5 := ⟨by decide +kernel, rfl⟩
theorem nX5_write_5 : Nx mX5_write 5 (.sipush 255) 3 8 := ⟨by decide +kernel, rfl⟩
theorem nX5_write_8 : Nx mX5_write 8 (.if_icmp .le 6) 3 11 := ⟨by decide +kernel, rfl⟩
theorem nX5_write_11 : Nx mX5_write 11 (.bipush (-2)) 2 13 := ⟨by decide +kernel, rfl⟩
theorem nX5_write_13 : Nx mX5_write 13 (.ireturn) 1 14 := ⟨by decide +kernel, rfl⟩
theorem nX5_write_14 : Nx mX5_write 14 (.aload_n 0) 1 15 := ⟨by decide +kernel, rfl⟩
theorem nX5_write_15 : Nx mX5_write 15 (.getfield 10) 3 18 := ⟨by decide +kernel, rfl⟩
theorem nX5_write_18 : Nx mX5_write 18 (.getfield 65) 3 21 := ⟨by decide +kernel, rfl⟩
theorem nX5_write_21 : Nx mX5_write 21 (.bipush 48) 2 23 := ⟨by decide +kernel, rfl⟩
theorem nX5_write_23 : Nx mX5_write 23 (.if_icmp .lt 6) 3 26 := ⟨by decide +kernel, rfl⟩
theorem nX5_write_26 : Nx mX5_write 26 (.bipush (-4)) 2 28 := ⟨by decide +kernel, rfl⟩
theorem nX5_write_28 : Nx mX5_write 28 (.ireturn) 1 29 := ⟨by decide +kernel, rfl⟩
theorem nX5_write_29 : Nx mX5_write 29 (.aload_n 0) 1 30 := ⟨by decide +kernel, rfl⟩
theorem nX5_write_30 : Nx mX5_write 30 (.getfield 10) 3 33 := ⟨by decide +kernel, rfl⟩
theorem nX5_write_33 : Nx mX5_write 33 (.iload_n 1) 1 34 := ⟨by decide +kernel, rfl⟩
theorem nX5_write_34 : Nx mX5_write 34 (.invokevirtual 69) 3 37 := ⟨by decide +kernel, rfl⟩
theorem nX5_write_37 : Nx mX5_write 37 (.aload_n 0) 1 38 := ⟨by decide +kernel, rfl⟩
theorem nX5_write_38 : Nx mX5_write 38 (.getfield 10) 3 41 := ⟨by decide +kernel, rfl⟩
theorem nX5_write_41 : Nx mX5_write 41 (.getfield 65) 3 44 := ⟨by decide +kernel, rfl⟩
theorem nX5_write_44 : Nx mX5_write 44 (.ireturn) 1 45 := ⟨by decide +kernel, rfl⟩
theorem nX5_wipe_0 : Nx mX5_wipe 0 (.aload_n 0) 1 1 := ⟨by decide +kernel, rfl⟩
theorem nX5_wipe_1 : Nx mX5_wipe 1 (.getfield 10) 3 4 := ⟨by decide +kernel, rfl⟩
theorem nX5_wipe_4 : Nx mX5_wipe 4 (.getfield 65) 3 7 := ⟨by decide +kernel, rfl⟩
theorem nX5_wipe_7 : Nx mX5_wipe 7 (.istore_n 1) 1 8 := ⟨by decide +kernel, rfl⟩
theorem nX5_wipe_8 : Nx mX5_wipe 8 (.aload_n 0) 1 9 := ⟨by decide +kernel, rfl⟩
theorem nX5_wipe_9 : Nx mX5_wipe 9 (.getfield 10) 3 12 := ⟨by decide +kernel, rfl⟩
theorem nX5_wipe_12 : Nx mX5_wipe 12 (.iconst 0) 1 13 := ⟨by decide +kernel, rfl⟩
theorem nX5_wipe_13 : Nx mX5_wipe 13 (.putfield 65) 3 16 := ⟨by decide +kernel, rfl⟩
theorem nX5_wipe_16 : Nx mX5_wipe 16 (.iload_n 1) 1 17 := ⟨by decide +kernel, rfl⟩
theorem nX5_wipe_17 : Nx mX5_wipe 17 (.ireturn) 1 18 := ⟨by decide +kernel, rfl⟩
theorem nX5_fault_0 : Nx mX5_fault 0 (.aload_n 0) 1 1 := ⟨by decide +kernel, rfl⟩
theorem nX5_fault_1 : Nx mX5_fault 1 (.getfield 10) 3 4 := ⟨by decide +kernel, rfl⟩
theorem nX5_fault_4 : Nx mX5_fault 4 (.invokevirtual 73) 3 7 := ⟨by decide +kernel, rfl⟩
theorem nX5_fault_7 : Nx mX5_fault 7 (.ireturn) 1 8 := ⟨by decide +kernel, rfl⟩
theorem nX5_country_0 : Nx mX5_country 0 (.aload_n 0) 1 1 := ⟨by decide +kernel, rfl⟩
theorem nX5_country_1 : Nx mX5_country 1 (.getfield 10) 3 4 := ⟨by decide +kernel, rfl⟩
theorem nX5_country_4 : Nx mX5_country 4 (.invokevirtual 73) 3 7 := ⟨by decide +kernel, rfl⟩
theorem nX5_country_7 : Nx mX5_country 7 (.bipush (-9)) 2 9 := ⟨by decide +kernel, rfl⟩
theorem nX5_country_9 : Nx mX5_country 9 (.if_icmp .eq 6) 3 12 := ⟨by decide +kernel, rfl⟩
theorem nX5_country_12 : Nx mX5_country 12 (.bipush (-3)) 2 14 := ⟨by decide +kernel, rfl⟩
theorem nX5_country_14 : Nx mX5_country 14 (.ireturn) 1 15 := ⟨by decide +kernel, rfl⟩
theorem nX5_country_15 : Nx mX5_country 15 (.aload_n 0) 1 16 := ⟨by decide +kernel, rfl⟩
theorem nX5_country_16 : Nx mX5_country 16 (.getfield 19) 3 19 := ⟨by decide +kernel, rfl⟩
theorem nX5_country_19 : Nx mX5_country 19 (.aload_n 0) 1 20 := ⟨by decide +kernel, rfl⟩
theorem nX5_country_20 : Nx mX5_country 20 (.getfield 10) 3 23 := ⟨by decide +kernel, rfl⟩
theorem nX5_country_23 : Nx mX5_country 23 (.invokevirtual 77) 3 26 := ⟨by decide +kernel, rfl⟩
theorem nX5_country_26 : Nx mX5_country 26 (.aload_n 0) 1 27 := ⟨by decide +kernel, rfl⟩
theorem nX5_country_27 : Nx mX5_country 27 (.getfield 28) 3 30 := ⟨by decide +kernel, rfl⟩
theorem nX5_country_30 : Nx mX5_country 30 (.invokevirtual 81) 3 33 := ⟨by decide +kernel, rfl⟩
theorem nX5_country_33 : Nx mX5_country 33 (.aload_n 0) 1 34 := ⟨by decide +kernel, rfl⟩
theorem nX5_country_34 : Nx mX5_country 34 (.getfield 38) 3 37 := ⟨by decide +kernel, rfl⟩
theorem nX5_country_37 : Nx mX5_country 37 (.iconst 0) 1 38 := ⟨by decide +kernel, rfl⟩
theorem nX5_country_38 : Nx mX5_country 38 (.putfield 84) 3 41 := ⟨by decide +kernel, rfl⟩
theorem nX5_country_41 : Nx mX5_country 41 (.iconst 0) 1 42 := ⟨by decide +kernel, rfl⟩
theorem nX5_country_42 : Nx mX5_country 42 (.istore_n 1) 1 43 := ⟨by decide +kernel, rfl⟩
theorem nX5_country_43 : Nx mX5_country 43 (.iload_n 1) 1 44 := ⟨by decide +kernel, rfl⟩
theorem nX5_country_44 : Nx mX5_country 44 (.iconst 2) 1 45 := ⟨by decide +kernel, rfl⟩
theorem nX5_country_45 : Nx mX5_country 45 (.if_icmp .ge 16) 3 48 := ⟨by decide +kernel, rfl⟩
theorem nX5_country_48 : Nx mX5_country 48 (.aload_n 0) 1 49 := ⟨by decide +kernel, rfl⟩
theorem nX5_country_49 : Nx mX5_country 49 (.getfield 53) 3 52 := ⟨by decide +kernel, rfl⟩
theorem nX5_country_52 : Nx mX5_country 52 (.iload_n 1) 1 53 := ⟨by decide +kernel, rfl⟩
theorem nX5_country_53 : Nx mX5_country 53 (.iconst 0) 1 54 := ⟨by decide +kernel, rfl⟩
theorem nX5_country_54 : Nx mX5_country 54 (.bastore) 1 55 := ⟨by decide +kernel, rfl⟩
theorem nX5_country_55 : Nx mX5_country 55 (.iinc 1 1) 3 58 := ⟨by decide +kernel, rfl⟩
theorem nX5_country_58 : Nx mX5_country 58 (.goto (-15)) 3 61 := ⟨by decide +kernel, rfl⟩
theorem nX5_country_61 : Nx mX5_country 61 (.bipush 10) 2 63 := ⟨by decide +kernel, rfl⟩
theorem nX5_country_63 : Nx mX5_country 63 (.aload_n 0) 1 64 := ⟨by decide +kernel, rfl⟩
theorem nX5_country_64 : Nx mX5_country 64 (.getfield 19) 3 67 := ⟨by decide +kernel, rfl⟩
theorem nX5_country_67 : Nx mX5_country 67 (.getfield 87) 3 70 := ⟨by decide +kernel, rfl⟩
theorem nX5_country_70 : Nx mX5_country 70 (.imul) 1 71 := ⟨by decide +kernel, rfl⟩
theorem nX5_country_71 : Nx mX5_country 71 (.aload_n 0) 1 72 := ⟨by decide +kernel, rfl⟩
theorem nX5_country_72 : Nx mX5_country 72 (.getfield 19) 3 75 := ⟨by decide +kernel, rfl⟩
theorem nX5_country_75 : Nx mX5_country 75 (.getfield 90) 3 78 := ⟨by decide +kernel, rfl⟩
theorem nX5_country_78 : Nx mX5_country 78 (.iadd) 1 79 := ⟨by decide +kernel, rfl⟩
theorem nX5_country_79 : Nx mX5_country 79 (.ireturn) 1 80 := ⟨by decide +kernel, rfl⟩
theorem nX5_about_0 : Nx mX5_about 0 (.iload_n 1) 1 1 := ⟨by decide +kernel, rfl⟩
theorem nX5_about_1 : Nx mX5_about 1 (.tableswitch 151 0 10 #[59, 67, 75, 83, 91, 99, 107, 115, 127, 135, 143]) 59 60 := ⟨by decide +kernel, rfl⟩
theorem nX5_about_60 : Nx mX5_about 60 (.aload_n 0) 1 61 := ⟨by decide +kernel, rfl⟩
theorem nX5_about_61 : Nx mX5_about 61 (.getfield 19) 3 64 := ⟨by decide +kernel, rfl⟩
theorem nX5_about_64 : Nx mX5_about 64 (.getfield 87) 3 67 := ⟨by decide +kernel, rfl⟩
theorem nX5_about_67 : Nx mX5_about 67 (.ireturn) 1 68 := ⟨by decide +kernel, rfl⟩
theorem nX5_about_68 : Nx mX5_about 68 (.aload_n 0) 1 69 := ⟨by decide +kernel, rfl⟩
theorem nX5_about_69 : Nx mX5_about 69 (.getfield 19) 3 72 := ⟨by decide +kernel, rfl⟩
theorem nX5_about_72 : Nx mX5_about 72 (.getfield 90) 3 75 := ⟨by decide +kernel, rfl⟩
theorem nX5_about_75 : Nx mX5_about 75 (.ireturn) 1 76 := ⟨by decide +kernel, rfl⟩
theorem nX5_about_76 : Nx mX5_about 76 (.aload_n 0) 1 77 := ⟨by decide +kernel, rfl⟩
theorem nX5_about_77 : Nx mX5_about 77 (.getfield 28) 3 80 := ⟨by decide +kernel, rfl⟩
theorem nX5_about_80 : Nx mX5_about 80 (.getfield 93) 3 83 := ⟨by decide +kernel, rfl⟩
theorem nX5_about_83 : Nx mX5_about 83 (.ireturn) 1 84 := ⟨by decide +kernel, rfl⟩
theorem nX5_about_84 : Nx mX5_about 84 (.aload_n 0) 1 85 := ⟨by decide +kernel, rfl⟩
theorem nX5_about_85 : Nx mX5_about 85 (.getfield 28) 3 88 := ⟨by decide +kernel, rfl⟩
theorem nX5_about_88 : Nx mX5_about 88 (.invokevirtual 96) 3 91 := ⟨by decide +kernel, rfl⟩
theorem nX5_about_91 : Nx mX5_about 91 (.ireturn) 1 92 := ⟨by decide +kernel, rfl⟩
theorem nX5_about_92 : Nx mX5_about 92 (.aload_n 0) 1 93 := ⟨by decide +kernel, rfl⟩
theorem nX5_about_93 : Nx mX5_about 93 (.getfield 28) 3 96 := ⟨by decide +kernel, rfl⟩
theorem nX5_about_96 : Nx mX5_about 96 (.invokevirtual 99) 3 99 := ⟨by decide +kernel, rfl⟩
theorem nX5_about_99 : Nx mX5_about 99 (.ireturn) 1 100 := ⟨by decide +kernel, rfl⟩
theorem nX5_about_100 : Nx mX5_about 100 (.aload_n 0) 1 101 := ⟨by decide +kernel, rfl⟩
theorem nX5_about_101 : Nx mX5_about 101 (.getfield 28) 3 104 := ⟨by decide +kernel, rfl⟩
theorem nX5_about_104 : Nx mX5_about 104 (.invokevirtual 102) 3 107 := ⟨by decide +kernel, rfl⟩
theorem nX5_about_107 : Nx mX5_about 107 (.ireturn) 1 108 := ⟨by decide +kernel, rfl⟩
theorem nX5_about_108 : Nx mX5_about 108 (.aload_n 0) 1 109 := ⟨by decide +kernel, rfl⟩
theorem nX5_about_109 : Nx mX5_about 109 (.getfield 28) 3 112 := ⟨by decide +kernel, rfl⟩
theorem nX5_about_112 : Nx mX5_about 112 (.invokevirtual 105) 3 115 := ⟨by decide +kernel, rfl⟩
theorem nX5_about_115 : Nx mX5_about 115 (.ireturn) 1 116 := ⟨by decide +kernel, rfl⟩
theorem nX5_about_116 : Nx mX5_about 116 (.aload_n 0) 1 117 := ⟨by decide +kernel, rfl⟩
theorem nX5_about_117 : Nx mX5_about 117 (.aload_n 0) 1 118 := ⟨by decide +kernel, rfl⟩
theorem nX5_about_118 : Nx mX5_about 118 (.getfield 19) 3 121 := ⟨by decide +kernel, rfl⟩
theorem nX5_about_121 : Nx mX5_about 121 (.invokevirtual 108) 3 124 := ⟨by decide +kernel, rfl⟩
theorem nX5_about_124 : Nx mX5_about 124 (.invokevirtual 111) 3 127 := ⟨by decide +kernel, rfl⟩
theorem nX5_about_127 : Nx mX5_about 127 (.ireturn) 1 128 := ⟨by decide +kernel, rfl⟩
theorem nX5_about_128 : Nx mX5_about 128 (.aload_n 0) 1 129 := ⟨by decide +kernel, rfl⟩
theorem nX5_about_129 : Nx mX5_about 129 (.getfield 38) 3 132 := ⟨by decide +kernel, rfl⟩
theorem nX5_about_132 : Nx mX5_about 132 (.getfield 84) 3 135 := ⟨by decide +kernel, rfl⟩
theorem nX5_about_135 : Nx mX5_about 135 (.ireturn) 1 136 := ⟨by decide +kernel, rfl⟩
theorem nX5_about_136 : Nx mX5_about 136 (.aload_n 0) 1 137 := ⟨by decide +kernel, rfl⟩
theorem nX5_about_137 : Nx mX5_about 137 (.getfield 45) 3 140 := ⟨by decide +kernel, rfl⟩
theorem nX5_about_140 : Nx mX5_about 140 (.getfield 115) 3 143 := ⟨by decide +kernel, rfl⟩
theorem nX5_about_143 : Nx mX5_about 143 (.ireturn) 1 144 := ⟨by decide +kernel, rfl⟩
theorem nX5_about_144 : Nx mX5_about 144 (.aload_n 0) 1 145 := ⟨by decide +kernel, rfl⟩
theorem nX5_about_145 : Nx mX5_about 145 (.getfield 10) 3 148 := ⟨by decide +kernel, rfl⟩
theorem nX5_about_148 : Nx mX5_about 148 (.getfield 65) 3 151 := ⟨by decide +kernel, rfl⟩
theorem nX5_about_151 : Nx mX5_about 151 (.ireturn) 1 152 := ⟨by decide +kernel, rfl⟩
theorem nX5_about_152 : Nx mX5_about 152 (.bipush (-2)) 2 154 := ⟨by decide +kernel, rfl⟩
theorem nX5_about_154 : Nx mX5_about 154 (.ireturn) 1 155 := ⟨by decide +kernel, rfl⟩
theorem nX5_field_0 : Nx mX5_field 0 (.aload_n 0) 1 1 := ⟨by decide +kernel, rfl⟩
theorem nX5_field_1 : Nx mX5_field 1 (.getfield 19) 3 4 := ⟨by decide +kernel, rfl⟩
theorem nX5_field_4 : Nx mX5_field 4 (.iload_n 1) 1 5 := ⟨by decide +kernel, rfl⟩
theorem nX5_field_5 : Nx mX5_field 5 (.invokevirtual 116) 3 8 := ⟨by decide +kernel, rfl⟩
theorem nX5_field_8 : Nx mX5_field 8 (.ifCond .ne 5) 3 11 := ⟨by decide +kernel, rfl⟩
theorem nX5_field_11 : Nx mX5_field 11 (.iconst (-1)) 1 12 := ⟨by decide +kernel, rfl⟩
theorem nX5_field_12 : Nx mX5_field 12 (.ireturn) 1 13 := ⟨by decide +kernel, rfl⟩
theorem nX5_field_13 : Nx mX5_field 13 (.iload_n 2) 1 14 := ⟨by decide +kernel, rfl⟩
theorem nX5_field_14 : Nx mX5_field 14 (.tableswitch 97 0 5 #[38, 48, 58, 68, 78, 88]) 38 52 := ⟨by decide +kernel, rfl⟩
theorem nX5_field_52 : Nx mX5_field 52 (.aload_n 0) 1 53 := ⟨by decide +kernel, rfl⟩
theorem nX5_field_53 : Nx mX5_field 53 (.getfield 19) 3 56 := ⟨by decide +kernel, rfl⟩
theorem nX5_field_56 : Nx mX5_field 56 (.getfield 120) 3 59 := ⟨by decide +kernel, rfl⟩
theorem nX5_field_59 : Nx mX5_field 59 (.iload_n 1) 1 60 := ⟨by decide +kernel, rfl⟩
theorem nX5_field_60 : Nx mX5_field 60 (.iaload) 1 61 := ⟨by decide +kernel, rfl⟩
theorem nX5_field_61 : Nx mX5_field 61 (.ireturn) 1 62 := ⟨by decide +kernel, rfl⟩
theorem nX5_field_62 : Nx mX5_field 62 (.aload_n 0) 1 63 := ⟨by decide +kernel, rfl⟩
theorem nX5_field_63 : Nx mX5_field 63 (.getfield 19) 3 66 := ⟨by decide +kernel, rfl⟩
theorem nX5_field_66 : Nx mX5_field 66 (.getfield 123) 3 69 := ⟨by decide +kernel, rfl⟩
theorem nX5_field_69 : Nx mX5_field 69 (.iload_n 1) 1 70 := ⟨by decide +kernel, rfl⟩
theorem nX5_field_70 : Nx mX5_field 70 (.iaload) 1 71 := ⟨by decide +kernel, rfl⟩
theorem nX5_field_71 : Nx mX5_field 71 (.ireturn) 1 72 := ⟨by decide +kernel, rfl⟩
theorem nX5_field_72 : Nx mX5_field 72 (.aload_n 0) 1 73 := ⟨by decide +kernel, rfl⟩
theorem nX5_field_73 : Nx mX5_field 73 (.getfield 19) 3 76 := ⟨by decide +kernel, rfl⟩
theorem nX5_field_76 : Nx mX5_field 76 (.getfield 126) 3 79 := ⟨by decide +kernel, rfl⟩
theorem nX5_field_79 : Nx mX5_field 79 (.iload_n 1) 1 80 := ⟨by decide +kernel, rfl⟩
theorem nX5_field_80 : Nx mX5_field 80 (.iaload) 1 81 := ⟨by decide +kernel, rfl⟩
theorem nX5_field_81 : Nx mX5_field 81 (.ireturn) 1 82 := ⟨by decide +kernel, rfl⟩
theorem nX5_field_82 : Nx mX5_field 82 (.aload_n 0) 1 83 := ⟨by decide +kernel, rfl⟩
theorem nX5_field_83 : Nx mX5_field 83 (.getfield 28) 3 86 := ⟨by decide +kernel, rfl⟩
theorem nX5_field_86 : Nx mX5_field 86 (.getfield 129) 3 89 := ⟨by decide +kernel, rfl⟩
theorem nX5_field_89 : Nx mX5_field 89 (.iload_n 1) 1 90 := ⟨by decide +kernel, rfl⟩
theorem nX5_field_90 : Nx mX5_field 90 (.iaload) 1 91 := ⟨by decide +kernel, rfl⟩
theorem nX5_field_91 : Nx mX5_field 91 (.ireturn) 1 92 := ⟨by decide +kernel, rfl⟩
theorem nX5_field_92 : Nx mX5_field 92 (.aload_n 0) 1 93 := ⟨by decide +kernel, rfl⟩
theorem nX5_field_93 : Nx mX5_field 93 (.getfield 28) 3 96 := ⟨by decide +kernel, rfl⟩
theorem nX5_field_96 : Nx mX5_field 96 (.getfield 132) 3 99 := ⟨by decide +kernel, rfl⟩
theorem nX5_field_99 : Nx mX5_field 99 (.iload_n 1) 1 100 := ⟨by decide +kernel, rfl⟩
theorem nX5_field_100 : Nx mX5_field 100 (.iaload) 1 101 := ⟨by decide +kernel, rfl⟩
theorem nX5_field_101 : Nx mX5_field 101 (.ireturn) 1 102 := ⟨by decide +kernel, rfl⟩
theorem nX5_field_102 : Nx mX5_field 102 (.aload_n 0) 1 103 := ⟨by decide +kernel, rfl⟩
theorem nX5_field_103 : Nx mX5_field 103 (.getfield 28) 3 106 := ⟨by decide +kernel, rfl⟩
theorem nX5_field_106 : Nx mX5_field 106 (.iload_n 1) 1 107 := ⟨by decide +kernel, rfl⟩
theorem nX5_field_107 : Nx mX5_field 107 (.invokevirtual 135) 3 110 := ⟨by decide +kernel, rfl⟩
theorem nX5_field_110 : Nx mX5_field 110 (.ireturn) 1 111 := ⟨by decide +kernel, rfl⟩
theorem nX5_field_111 : Nx mX5_field 111 (.bipush (-2)) 2 113 := ⟨by decide +kernel, rfl⟩
theorem nX5_field_113 : Nx mX5_field 113 (.ireturn) 1 114 := ⟨by decide +kernel, rfl⟩
theorem nX5_eater_0 : Nx mX5_eater 0 (.aload_n 0) 1 1 := ⟨by decide +kernel, rfl⟩
theorem nX5_eater_1 : Nx mX5_eater 1 (.getfield 19) 3 4 := ⟨by decide +kernel, rfl⟩
theorem nX5_eater_4 : Nx mX5_eater 4 (.iload_n 1) 1 5 := ⟨by decide +kernel, rfl⟩
theorem nX5_eater_5 : Nx mX5_eater 5 (.invokevirtual 138) 3 8 := ⟨by decide +kernel, rfl⟩
theorem nX5_eater_8 : Nx mX5_eater 8 (.ifCond .ne 5) 3 11 := ⟨by decide +kernel, rfl⟩
theorem nX5_eater_11 : Nx mX5_eater 11 (.iconst (-1)) 1 12 := ⟨by decide +kernel, rfl⟩
theorem nX5_eater_12 : Nx mX5_eater 12 (.ireturn) 1 13 := ⟨by decide +kernel, rfl⟩
theorem nX5_eater_13 : Nx mX5_eater 13 (.iload_n 2) 1 14 := ⟨by decide +kernel, rfl⟩
theorem nX5_eater_14 : Nx mX5_eater 14 (.tableswitch 121 0 5 #[38, 48, 58, 68, 77, 99]) 38 52 := ⟨by decide +kernel, rfl⟩
theorem nX5_eater_52 : Nx mX5_eater 52 (.aload_n 0) 1 53 := ⟨by decide +kernel, rfl⟩
theorem nX5_eater_53 : Nx mX5_eater 53 (.getfield 19) 3 56 := ⟨by decide +kernel, rfl⟩
theorem nX5_eater_56 : Nx mX5_eater 56 (.getfield 141) 3 59 := ⟨by decide +kernel, rfl⟩
theorem nX5_eater_59 : Nx mX5_eater 59 (.iload_n 1) 1 60 := ⟨by decide +kernel, rfl⟩
theorem nX5_eater_60 : Nx mX5_eater 60 (.iaload) 1 61 := ⟨by decide +kernel, rfl⟩
theorem nX5_eater_61 : Nx mX5_eater 61 (.ireturn) 1 62 := ⟨by decide +kernel, rfl⟩
theorem nX5_eater_62 : Nx mX5_eater 62 (.aload_n 0) 1 63 := ⟨by decide +kernel, rfl⟩
theorem nX5_eater_63 : Nx mX5_eater 63 (.getfield 19) 3 66 := ⟨by decide +kernel, rfl⟩
theorem nX5_eater_66 : Nx mX5_eater 66 (.getfield 144) 3 69 := ⟨by decide +kernel, rfl⟩
theorem nX5_eater_69 : Nx mX5_eater 69 (.iload_n 1) 1 70 := ⟨by decide +kernel, rfl⟩
theorem nX5_eater_70 : Nx mX5_eater 70 (.iaload) 1 71 := ⟨by decide +kernel, rfl⟩
theorem nX5_eater_71 : Nx mX5_eater 71 (.ireturn) 1 72 := ⟨by decide +kernel, rfl⟩
theorem nX5_eater_72 : Nx mX5_eater 72 (.aload_n 0) 1 73 := ⟨by decide +kernel, rfl⟩
theorem nX5_eater_73 : Nx mX5_eater 73 (.getfield 19) 3 76 := ⟨by decide +kernel, rfl⟩
theorem nX5_eater_76 : Nx mX5_eater 76 (.getfield 147) 3 79 := ⟨by decide +kernel, rfl⟩
theorem nX5_eater_79 : Nx mX5_eater 79 (.iload_n 1) 1 80 := ⟨by decide +kernel, rfl⟩
theorem nX5_eater_80 : Nx mX5_eater 80 (.iaload) 1 81 := ⟨by decide +kernel, rfl⟩
theorem nX5_eater_81 : Nx mX5_eater 81 (.ireturn) 1 82 := ⟨by decide +kernel, rfl⟩
theorem nX5_eater_82 : Nx mX5_eater 82 (.aload_n 0) 1 83 := ⟨by decide +kernel, rfl⟩
theorem nX5_eater_83 : Nx mX5_eater 83 (.getfield 28) 3 86 := ⟨by decide +kernel, rfl⟩
theorem nX5_eater_86 : Nx mX5_eater 86 (.iload_n 1) 1 87 := ⟨by decide +kernel, rfl⟩
theorem nX5_eater_87 : Nx mX5_eater 87 (.invokevirtual 150) 3 90 := ⟨by decide +kernel, rfl⟩
theorem nX5_eater_90 : Nx mX5_eater 90 (.ireturn) 1 91 := ⟨by decide +kernel, rfl⟩
theorem nX5_eater_91 : Nx mX5_eater 91 (.aload_n 0) 1 92 := ⟨by decide +kernel, rfl⟩
theorem nX5_eater_92 : Nx mX5_eater 92 (.aload_n 0) 1 93 := ⟨by decide +kernel, rfl⟩
theorem nX5_eater_93 : Nx mX5_eater 93 (.getfield 19) 3 96 := ⟨by decide +kernel, rfl⟩
theorem nX5_eater_96 : Nx mX5_eater 96 (.invokevirtual 108) 3 99 := ⟨by decide +kernel, rfl⟩
theorem nX5_eater_99 : Nx mX5_eater 99 (.invokevirtual 111) 3 102 := ⟨by decide +kernel, rfl⟩
theorem nX5_eater_102 : Nx mX5_eater 102 (.pop) 1 103 := ⟨by decide +kernel, rfl⟩
theorem nX5_eater_103 : Nx mX5_eater 103 (.aload_n 0) 1 104 := ⟨by decide +kernel, rfl⟩
theorem nX5_eater_104 : Nx mX5_eater 104 (.getfield 32) 3 107 := ⟨by decide +kernel, rfl⟩
theorem nX5_eater_107 : Nx mX5_eater 107 (.getfield 153) 3 110 := ⟨by decide +kernel, rfl⟩
theorem nX5_eater_110 : Nx mX5_eater 110 (.iload_n 1) 1 111 := ⟨by decide +kernel, rfl⟩
theorem nX5_eater_111 : Nx mX5_eater 111 (.iaload) 1 112 := ⟨by decide +kernel, rfl⟩
theorem nX5_eater_112 : Nx mX5_eater 112 (.ireturn) 1 113 := ⟨by decide +kernel, rfl⟩
theorem nX5_eater_113 : Nx mX5_eater 113 (.aload_n 0) 1 114 := ⟨by decide +kernel, rfl⟩
theorem nX5_eater_114 : Nx mX5_eater 114 (.aload_n 0) 1 115 := ⟨by decide +kernel, rfl⟩
theorem nX5_eater_115 : Nx mX5_eater 115 (.getfield 19) 3 118 := ⟨by decide +kernel, rfl⟩
theorem nX5_eater_118 : Nx mX5_eater 118 (.invokevirtual 108) 3 121 := ⟨by decide +kernel, rfl⟩
theorem nX5_eater_121 : Nx mX5_eater 121 (.invokevirtual 111) 3 124 := ⟨by decide +kernel, rfl⟩
theorem nX5_eater_124 : Nx mX5_eater 124 (.pop) 1 125 := ⟨by decide +kernel, rfl⟩
theorem nX5_eater_125 : Nx mX5_eater 125 (.aload_n 0) 1 126 := ⟨by decide +kernel, rfl⟩
theorem nX5_eater_126 : Nx mX5_eater 126 (.getfield 32) 3 129 := ⟨by decide +kernel, rfl⟩
theorem nX5_eater_129 : Nx mX5_eater 129 (.getfield 156) 3 132 := ⟨by decide +kernel, rfl⟩
theorem nX5_eater_132 : Nx mX5_eater 132 (.iload_n 1) 1 133 := ⟨by decide +kernel, rfl⟩
theorem nX5_eater_133 : Nx mX5_eater 133 (.iaload) 1 134 := ⟨by decide +kernel, rfl⟩
theorem nX5_eater_134 : Nx mX5_eater 134 (.ireturn) 1 135 := ⟨by decide +kernel, rfl⟩
theorem nX5_eater_135 : Nx mX5_eater 135 (.bipush (-2)) 2 137 := ⟨by decide +kernel, rfl⟩
theorem nX5_eater_137 : Nx mX5_eater 137 (.ireturn) 1 138 := ⟨by decide +kernel, rfl⟩
theorem nX5_owes_0 : Nx mX5_owes 0 (.aload_n 0) 1 1 := ⟨by decide +kernel, rfl⟩
theorem nX5_owes_1 : Nx mX5_owes 1 (.getfield 19) 3 4 := ⟨by decide +kernel, rfl⟩
theorem nX5_owes_4 : Nx mX5_owes 4 (.iload_n 1) 1 5 := ⟨by decide +kernel, rfl⟩
theorem nX5_owes_5 : Nx mX5_owes 5 (.invokevirtual 138) 3 8 := ⟨by decide +kernel, rfl⟩
theorem nX5_owes_8 : Nx mX5_owes 8 (.ifCond .eq 14) 3 11 := ⟨by decide +kernel, rfl⟩
theorem nX5_owes_11 : Nx mX5_owes 11 (.aload_n 0) 1 12 := ⟨by decide +kernel, rfl⟩
theorem nX5_owes_12 : Nx mX5_owes 12 (.getfield 19) 3 15 := ⟨by decide +kernel, rfl⟩
theorem nX5_owes_15 : Nx mX5_owes 15 (.iload_n 2) 1 16 := ⟨by decide +kernel, rfl⟩
theorem nX5_owes_16 : Nx mX5_owes 16 (.invokevirtual 116) 3 19 := ⟨by decide +kernel, rfl⟩
theorem nX5_owes_19 : Nx mX5_owes 19 (.ifCond .ne 5) 3 22 := ⟨by decide +kernel, rfl⟩
theorem nX5_owes_22 : Nx mX5_owes 22 (.iconst (-1)) 1 23 := ⟨by decide +kernel, rfl⟩
theorem nX5_owes_23 : Nx mX5_owes 23 (.ireturn) 1 24 := ⟨by decide +kernel, rfl⟩
theorem nX5_owes_24 : Nx mX5_owes 24 (.aload_n 0) 1 25 := ⟨by decide +kernel, rfl⟩
theorem nX5_owes_25 : Nx mX5_owes 25 (.getfield 28) 3 28 := ⟨by decide +kernel, rfl⟩
theorem nX5_owes_28 : Nx mX5_owes 28 (.iload_n 1) 1 29 := ⟨by decide +kernel, rfl⟩
theorem nX5_owes_29 : Nx mX5_owes 29 (.iload_n 2) 1 30 := ⟨by decide +kernel, rfl⟩
theorem nX5_owes_30 : Nx mX5_owes 30 (.invokevirtual 159) 3 33 := ⟨by decide +kernel, rfl⟩
theorem nX5_owes_33 : Nx mX5_owes 33 (.ireturn) 1 34 := ⟨by decide +kernel, rfl⟩
theorem nX5_eat_0 : Nx mX5_eat 0 (.aload_n 0) 1 1 := ⟨by decide +kernel, rfl⟩
theorem nX5_eat_1 : Nx mX5_eat 1 (.getfield 19) 3 4 := ⟨by decide +kernel, rfl⟩
theorem nX5_eat_4 : Nx mX5_eat 4 (.iload_n 1) 1 5 := ⟨by decide +kernel, rfl⟩
theorem nX5_eat_5 : Nx mX5_eat 5 (.invokevirtual 138) 3 8 := ⟨by decide +kernel, rfl⟩
theorem nX5_eat_8 : Nx mX5_eat 8 (.ifCond .eq 14) 3 11 := ⟨by decide +kernel, rfl⟩
theorem nX5_eat_11 : Nx mX5_eat 11 (.aload_n 0) 1 12 := ⟨by decide +kernel, rfl⟩
theorem nX5_eat_12 : Nx mX5_eat 12 (.getfield 19) 3 15 := ⟨by decide +kernel, rfl⟩
theorem nX5_eat_15 : Nx mX5_eat 15 (.iload_n 2) 1 16 := ⟨by decide +kernel, rfl⟩
theorem nX5_eat_16 : Nx mX5_eat 16 (.invokevirtual 116) 3 19 := ⟨by decide +kernel, rfl⟩
theorem nX5_eat_19 : Nx mX5_eat 19 (.ifCond .ne 5) 3 22 := ⟨by decide +kernel, rfl⟩
theorem nX5_eat_22 : Nx mX5_eat 22 (.iconst (-1)) 1 23 := ⟨by decide +kernel, rfl⟩
theorem nX5_eat_23 : Nx mX5_eat 23 (.ireturn) 1 24 := ⟨by decide +kernel, rfl⟩
theorem nX5_eat_24 : Nx mX5_eat 24 (.aload_n 0) 1 25 := ⟨by decide +kernel, rfl⟩
theorem nX5_eat_25 : Nx mX5_eat 25 (.getfield 28) 3 28 := ⟨by decide +kernel, rfl⟩
theorem nX5_eat_28 : Nx mX5_eat 28 (.iload_n 1) 1 29 := ⟨by decide +kernel, rfl⟩
theorem nX5_eat_29 : Nx mX5_eat 29 (.iload_n 2) 1 30 := ⟨by decide +kernel, rfl⟩
theorem nX5_eat_30 : Nx mX5_eat 30 (.invokevirtual 163) 3 33 := ⟨by decide +kernel, rfl⟩
theorem nX5_eat_33 : Nx mX5_eat 33 (.ifCond .ne 6) 3 36 := ⟨by decide +kernel, rfl⟩
theorem nX5_eat_36 : Nx mX5_eat 36 (.bipush (-3)) 2 38 := ⟨by decide +kernel, rfl⟩
theorem nX5_eat_38 : Nx mX5_eat 38 (.ireturn) 1 39 := ⟨by decide +kernel, rfl⟩
theorem nX5_eat_39 : Nx mX5_eat 39 (.aload_n 0) 1 40 := ⟨by decide +kernel, rfl⟩
theorem nX5_eat_40 : Nx mX5_eat 40 (.getfield 38) 3 43 := ⟨by decide +kernel, rfl⟩
theorem nX5_eat_43 : Nx mX5_eat 43 (.aload_n 0) 1 44 := ⟨by decide +kernel, rfl⟩
theorem nX5_eat_44 : Nx mX5_eat 44 (.getfield 28) 3 47 := ⟨by decide +kernel, rfl⟩
theorem nX5_eat_47 : Nx mX5_eat 47 (.invokevirtual 167) 3 50 := ⟨by decide +kernel, rfl⟩
theorem nX5_eat_50 : Nx mX5_eat 50 (.aload_n 0) 1 51 := ⟨by decide +kernel, rfl⟩
theorem nX5_eat_51 : Nx mX5_eat 51 (.getfield 28) 3 54 := ⟨by decide +kernel, rfl⟩
theorem nX5_eat_54 : Nx mX5_eat 54 (.iload_n 1) 1 55 := ⟨by decide +kernel, rfl⟩
theorem nX5_eat_55 : Nx mX5_eat 55 (.iload_n 2) 1 56 := ⟨by decide +kernel, rfl⟩
theorem nX5_eat_56 : Nx mX5_eat 56 (.invokevirtual 171) 3 59 := ⟨by decide +kernel, rfl⟩
theorem nX5_eat_59 : Nx mX5_eat 59 (.aload_n 0) 1 60 := ⟨by decide +kernel, rfl⟩
theorem nX5_eat_60 : Nx mX5_eat 60 (.getfield 28) 3 63 := ⟨by decide +kernel, rfl⟩
theorem nX5_eat_63 : Nx mX5_eat 63 (.iload_n 1) 1 64 := ⟨by decide +kernel, rfl⟩
theorem nX5_eat_64 : Nx mX5_eat 64 (.iload_n 2) 1 65 := ⟨by decide +kernel, rfl⟩
theorem nX5_eat_65 : Nx mX5_eat 65 (.invokevirtual 159) 3 68 := ⟨by decide +kernel, rfl⟩
theorem nX5_eat_68 : Nx mX5_eat 68 (.ireturn) 1 69 := ⟨by decide +kernel, rfl⟩
theorem nX5_cake_0 : Nx mX5_cake 0 (.aload_n 0) 1 1 := ⟨by decide +kernel, rfl⟩
theorem nX5_cake_1 : Nx mX5_cake 1 (.getfield 19) 3 4 := ⟨by decide +kernel, rfl⟩
theorem nX5_cake_4 : Nx mX5_cake 4 (.iload_n 1) 1 5 := ⟨by decide +kernel, rfl⟩
theorem nX5_cake_5 : Nx mX5_cake 5 (.invokevirtual 138) 3 8 := ⟨by decide +kernel, rfl⟩
theorem nX5_cake_8 : Nx mX5_cake 8 (.ifCond .eq 25) 3 11 := ⟨by decide +kernel, rfl⟩
theorem nX5_cake_11 : Nx mX5_cake 11 (.aload_n 0) 1 12 := ⟨by decide +kernel, rfl⟩
theorem nX5_cake_12 : Nx mX5_cake 12 (.getfield 19) 3 15 := ⟨by decide +kernel, rfl⟩
theorem nX5_cake_15 : Nx mX5_cake 15 (.iload_n 2) 1 16 := ⟨by decide +kernel, rfl⟩
theorem nX5_cake_16 : Nx mX5_cake 16 (.invokevirtual 116) 3 19 := ⟨by decide +kernel, rfl⟩
theorem nX5_cake_19 : Nx mX5_cake 19 (.ifCond .eq 14) 3 22 := ⟨by decide +kernel, rfl⟩
theorem nX5_cake_22 : Nx mX5_cake 22 (.aload_n 0) 1 23 := ⟨by decide +kernel, rfl⟩
theorem nX5_cake_23 : Nx mX5_cake 23 (.getfield 19) 3 26 := ⟨by decide +kernel, rfl⟩
theorem nX5_cake_26 : Nx mX5_cake 26 (.iload_n 3) 1 27 := ⟨by decide +kernel, rfl⟩
theorem nX5_cake_27 : Nx mX5_cake 27 (.invokevirtual 116) 3 30 := ⟨by decide +kernel, rfl⟩
theorem nX5_cake_30 : Nx mX5_cake 30 (.ifCond .ne 5) 3 33 := ⟨by decide +kernel, rfl⟩
theorem nX5_cake_33 : Nx mX5_cake 33 (.iconst (-1)) 1 34 := ⟨by decide +kernel, rfl⟩
theorem nX5_cake_34 : Nx mX5_cake 34 (.ireturn) 1 35 := ⟨by decide +kernel, rfl⟩
theorem nX5_cake_35 : Nx mX5_cake 35 (.iload_n 2) 1 36 := ⟨by decide +kernel, rfl⟩
theorem nX5_cake_36 : Nx mX5_cake 36 (.iload_n 3) 1 37 := ⟨by decide +kernel, rfl⟩
theorem nX5_cake_37 : Nx mX5_cake 37 (.if_icmp .ne 6) 3 40 := ⟨by decide +kernel, rfl⟩
theorem nX5_cake_40 : Nx mX5_cake 40 (.bipush (-2)) 2 42 := ⟨by decide +kernel, rfl⟩
theorem nX5_cake_42 : Nx mX5_cake 42 (.ireturn) 1 43 := ⟨by decide +kernel, rfl⟩
theorem nX5_cake_43 : Nx mX5_cake 43 (.aload_n 0) 1 44 := ⟨by decide +kernel, rfl⟩
theorem nX5_cake_44 : Nx mX5_cake 44 (.getfield 28) 3 47 := ⟨by decide +kernel, rfl⟩
theorem nX5_cake_47 : Nx mX5_cake 47 (.iload_n 1) 1 48 := ⟨by decide +kernel, rfl⟩
theorem nX5_cake_48 : Nx mX5_cake 48 (.iload_n 2) 1 49 := ⟨by decide +kernel, rfl⟩
theorem nX5_cake_49 : Nx mX5_cake 49 (.invokevirtual 163) 3 52 := ⟨by decide +kernel, rfl⟩
theorem nX5_cake_52 : Nx mX5_cake 52 (.ifCond .eq 15) 3 55 := ⟨by decide +kernel, rfl⟩
theorem nX5_cake_55 : Nx mX5_cake 55 (.aload_n 0) 1 56 := ⟨by decide +kernel, rfl⟩
theorem nX5_cake_56 : Nx mX5_cake 56 (.getfield 28) 3 59 := ⟨by decide +kernel, rfl⟩
theorem nX5_cake_59 : Nx mX5_cake 59 (.iload_n 1) 1 60 := ⟨by decide +kernel, rfl⟩
theorem nX5_cake_60 : Nx mX5_cake 60 (.iload_n 3) 1 61 := ⟨by decide +kernel, rfl⟩
theorem nX5_cake_61 : Nx mX5_cake 61 (.invokevirtual 163) 3 64 := ⟨by decide +kernel, rfl⟩
theorem nX5_cake_64 : Nx mX5_cake 64 (.ifCond .ne 6) 3 67 := ⟨by decide +kernel, rfl⟩
theorem nX5_cake_67 : Nx mX5_cake 67 (.bipush (-3)) 2 69 := ⟨by decide +kernel, rfl⟩
theorem nX5_cake_69 : Nx mX5_cake 69 (.ireturn) 1 70 := ⟨by decide +kernel, rfl⟩
theorem nX5_cake_70 : Nx mX5_cake 70 (.aload_n 0) 1 71 := ⟨by decide +kernel, rfl⟩
theorem nX5_cake_71 : Nx mX5_cake 71 (.getfield 38) 3 74 := ⟨by decide +kernel, rfl⟩
theorem nX5_cake_74 : Nx mX5_cake 74 (.aload_n 0) 1 75 := ⟨by decide +kernel, rfl⟩
theorem nX5_cake_75 : Nx mX5_cake 75 (.getfield 28) 3 78 := ⟨by decide +kernel, rfl⟩
theorem nX5_cake_78 : Nx mX5_cake 78 (.invokevirtual 167) 3 81 := ⟨by decide +kernel, rfl⟩
theorem nX5_cake_81 : Nx mX5_cake 81 (.aload_n 0) 1 82 := ⟨by decide +kernel, rfl⟩
theorem nX5_cake_82 : Nx mX5_cake 82 (.getfield 28) 3 85 := ⟨by decide +kernel, rfl⟩
theorem nX5_cake_85 : Nx mX5_cake 85 (.iload_n 1) 1 86 := ⟨by decide +kernel, rfl⟩
theorem nX5_cake_86 : Nx mX5_cake 86 (.iload_n 2) 1 87 := ⟨by decide +kernel, rfl⟩
theorem nX5_cake_87 : Nx mX5_cake 87 (.invokevirtual 171) 3 90 := ⟨by decide +kernel, rfl⟩
theorem nX5_cake_90 : Nx mX5_cake 90 (.aload_n 0) 1 91 := ⟨by decide +kernel, rfl⟩
theorem nX5_cake_91 : Nx mX5_cake 91 (.getfield 28) 3 94 := ⟨by decide +kernel, rfl⟩
theorem nX5_cake_94 : Nx mX5_cake 94 (.iload_n 1) 1 95 := ⟨by decide +kernel, rfl⟩
theorem nX5_cake_95 : Nx mX5_cake 95 (.iload_n 3) 1 96 := ⟨by decide +kernel, rfl⟩
theorem nX5_cake_96 : Nx mX5_cake 96 (.invokevirtual 171) 3 99 := ⟨by decide +kernel, rfl⟩
theorem nX5_cake_99 : Nx mX5_cake 99 (.aload_n 0) 1 100 := ⟨by decide +kernel, rfl⟩
theorem nX5_cake_100 : Nx mX5_cake 100 (.getfield 28) 3 103 := ⟨by decide +kernel, rfl⟩
theorem nX5_cake_103 : Nx mX5_cake 103 (.iload_n 1) 1 104 := ⟨by decide +kernel, rfl⟩
theorem nX5_cake_104 : Nx mX5_cake 104 (.invokevirtual 150) 3 107 := ⟨by decide +kernel, rfl⟩
theorem nX5_cake_107 : Nx mX5_cake 107 (.ireturn) 1 108 := ⟨by decide +kernel, rfl⟩
theorem nX5_march_0 : Nx mX5_march 0 (.aload_n 0) 1 1 := ⟨by decide +kernel, rfl⟩
theorem nX5_march_1 : Nx mX5_march 1 (.getfield 38) 3 4 := ⟨by decide +kernel, rfl⟩
theorem nX5_march_4 : Nx mX5_march 4 (.aload_n 0) 1 5 := ⟨by decide +kernel, rfl⟩
theorem nX5_march_5 : Nx mX5_march 5 (.getfield 28) 3 8 := ⟨by decide +kernel, rfl⟩
theorem nX5_march_8 : Nx mX5_march 8 (.invokevirtual 167) 3 11 := ⟨by decide +kernel, rfl⟩
theorem nX5_march_11 : Nx mX5_march 11 (.aload_n 0) 1 12 := ⟨by decide +kernel, rfl⟩
theorem nX5_march_12 : Nx mX5_march 12 (.getfield 28) 3 15 := ⟨by decide +kernel, rfl⟩
theorem nX5_march_15 : Nx mX5_march 15 (.aload_n 0) 1 16 := ⟨by decide +kernel, rfl⟩
theorem nX5_march_16 : Nx mX5_march 16 (.getfield 19) 3 19 := ⟨by decide +kernel, rfl⟩
theorem nX5_march_19 : Nx mX5_march 19 (.invokevirtual 108) 3 22 := ⟨by decide +kernel, rfl⟩
theorem nX5_march_22 : Nx mX5_march 22 (.invokevirtual 175) 3 25 := ⟨by decide +kernel, rfl⟩
theorem nX5_march_25 : Nx mX5_march 25 (.aload_n 0) 1 26 := ⟨by decide +kernel, rfl⟩
theorem nX5_march_26 : Nx mX5_march 26 (.getfield 28) 3 29 := ⟨by decide +kernel, rfl⟩
theorem nX5_march_29 : Nx mX5_march 29 (.invokevirtual 105) 3 32 := ⟨by decide +kernel, rfl⟩
theorem nX5_march_32 : Nx mX5_march 32 (.ireturn) 1 33 := ⟨by decide +kernel, rfl⟩
theorem nX5_harvest_0 : Nx mX5_harvest 0 (.aload_n 0) 1 1 := ⟨by decide +kernel, rfl⟩
theorem nX5_harvest_1 : Nx mX5_harvest 1 (.getfield 38) 3 4 := ⟨by decide +kernel, rfl⟩
theorem nX5_harvest_4 : Nx mX5_harvest 4 (.aload_n 0) 1 5 := ⟨by decide +kernel, rfl⟩
theorem nX5_harvest_5 : Nx mX5_harvest 5 (.getfield 28) 3 8 := ⟨by decide +kernel, rfl⟩
theorem nX5_harvest_8 : Nx mX5_harvest 8 (.invokevirtual 167) 3 11 := ⟨by decide +kernel, rfl⟩
theorem nX5_harvest_11 : Nx mX5_harvest 11 (.aload_n 0) 1 12 := ⟨by decide +kernel, rfl⟩
theorem nX5_harvest_12 : Nx mX5_harvest 12 (.getfield 28) 3 15 := ⟨by decide +kernel, rfl⟩
theorem nX5_harvest_15 : Nx mX5_harvest 15 (.invokevirtual 178) 3 18 := ⟨by decide +kernel, rfl⟩
theorem nX5_harvest_18 : Nx mX5_harvest 18 (.aload_n 0) 1 19 := ⟨by decide +kernel, rfl⟩
theorem nX5_harvest_19 : Nx mX5_harvest 19 (.getfield 28) 3 22 := ⟨by decide +kernel, rfl⟩
theorem nX5_harvest_22 : Nx mX5_harvest 22 (.invokevirtual 96) 3 25 := ⟨by decide +kernel, rfl⟩
theorem nX5_harvest_25 : Nx mX5_harvest 25 (.ireturn) 1 26 := ⟨by decide +kernel, rfl⟩
theorem nX5_undo_0 : Nx mX5_undo 0 (.aload_n 0) 1 1 := ⟨by decide +kernel, rfl⟩
theorem nX5_undo_1 : Nx mX5_undo 1 (.getfield 38) 3 4 := ⟨by decide +kernel, rfl⟩
theorem nX5_undo_4 : Nx mX5_undo 4 (.getfield 84) 3 7 := ⟨by decide +kernel, rfl⟩
theorem nX5_undo_7 : Nx mX5_undo 7 (.ifCond .ne 6) 3 10 := ⟨by decide +kernel, rfl⟩
theorem nX5_undo_10 : Nx mX5_undo 10 (.bipush (-3)) 2 12 := ⟨by decide +kernel, rfl⟩
theorem nX5_undo_12 : Nx mX5_undo 12 (.ireturn) 1 13 := ⟨by decide +kernel, rfl⟩
theorem nX5_undo_13 : Nx mX5_undo 13 (.aload_n 0) 1 14 := ⟨by decide +kernel, rfl⟩
theorem nX5_undo_14 : Nx mX5_undo 14 (.getfield 38) 3 17 := ⟨by decide +kernel, rfl⟩
theorem nX5_undo_17 : Nx mX5_undo 17 (.aload_n 0) 1 18 := ⟨by decide +kernel, rfl⟩
theorem nX5_undo_18 : Nx mX5_undo 18 (.getfield 28) 3 21 := ⟨by decide +kernel, rfl⟩
theorem nX5_undo_21 : Nx mX5_undo 21 (.invokevirtual 181) 3 24 := ⟨by decide +kernel, rfl⟩
theorem nX5_undo_24 : Nx mX5_undo 24 (.aload_n 0) 1 25 := ⟨by decide +kernel, rfl⟩
theorem nX5_undo_25 : Nx mX5_undo 25 (.getfield 38) 3 28 := ⟨by decide +kernel, rfl⟩
theorem nX5_undo_28 : Nx mX5_undo 28 (.getfield 84) 3 31 := ⟨by decide +kernel, rfl⟩
theorem nX5_undo_31 : Nx mX5_undo 31 (.ireturn) 1 32 := ⟨by decide +kernel, rfl⟩
theorem nX5_ahead_0 : Nx mX5_ahead 0 (.aload_n 0) 1 1 := ⟨by decide +kernel, rfl⟩
theorem nX5_ahead_1 : Nx mX5_ahead 1 (.getfield 19) 3 4 := ⟨by decide +kernel, rfl⟩
theorem nX5_ahead_4 : Nx mX5_ahead 4 (.iload_n 1) 1 5 := ⟨by decide +kernel, rfl⟩
theorem nX5_ahead_5 : Nx mX5_ahead 5 (.invokevirtual 116) 3 8 := ⟨by decide +kernel, rfl⟩
theorem nX5_ahead_8 : Nx mX5_ahead 8 (.ifCond .ne 5) 3 11 := ⟨by decide +kernel, rfl⟩
theorem nX5_ahead_11 : Nx mX5_ahead 11 (.iconst (-1)) 1 12 := ⟨by decide +kernel, rfl⟩
theorem nX5_ahead_12 : Nx mX5_ahead 12 (.ireturn) 1 13 := ⟨by decide +kernel, rfl⟩
theorem nX5_ahead_13 : Nx mX5_ahead 13 (.iload_n 2) 1 14 := ⟨by decide +kernel, rfl⟩
theorem nX5_ahead_14 : Nx mX5_ahead 14 (.ifCond .lt 9) 3 17 := ⟨by decide +kernel, rfl⟩
theorem nX5_ahead_17 : Nx mX5_ahead 17 (.iload_n 2) 1 18 := ⟨by decide +kernel, rfl⟩
theorem nX5_ahead_18 : Nx mX5_ahead 18 (.bipush 9) 2 20 := ⟨by decide +kernel, rfl⟩
theorem nX5_ahead_20 : Nx mX5_ahead 20 (.if_icmp .le 6) 3 23 := ⟨by decide +kernel, rfl⟩
theorem nX5_ahead_23 : Nx mX5_ahead 23 (.bipush (-2)) 2 25 := ⟨by decide +kernel, rfl⟩
theorem nX5_ahead_25 : Nx mX5_ahead 25 (.ireturn) 1 26 := ⟨by decide +kernel, rfl⟩
theorem nX5_ahead_26 : Nx mX5_ahead 26 (.aload_n 0) 1 27 := ⟨by decide +kernel, rfl⟩
theorem nX5_ahead_27 : Nx mX5_ahead 27 (.getfield 32) 3 30 := ⟨by decide +kernel, rfl⟩
theorem nX5_ahead_30 : Nx mX5_ahead 30 (.aload_n 0) 1 31 := ⟨by decide +kernel, rfl⟩
theorem nX5_ahead_31 : Nx mX5_ahead 31 (.getfield 28) 3 34 := ⟨by decide +kernel, rfl⟩
theorem nX5_ahead_34 : Nx mX5_ahead 34 (.invokevirtual 184) 3 37 := ⟨by decide +kernel, rfl⟩
theorem nX5_ahead_37 : Nx mX5_ahead 37 (.iconst 0) 1 38 := ⟨by decide +kernel, rfl⟩
theorem nX5_ahead_38 : Nx mX5_ahead 38 (.istore_n 3) 1 39 := ⟨by decide +kernel, rfl⟩
theorem nX5_ahead_39 : Nx mX5_ahead 39 (.iload_n 3) 1 40 := ⟨by decide +kernel, rfl⟩
theorem nX5_ahead_40 : Nx mX5_ahead 40 (.iload_n 2) 1 41 := ⟨by decide +kernel, rfl⟩
theorem nX5_ahead_41 : Nx mX5_ahead 41 (.if_icmp .ge 30) 3 44 := ⟨by decide +kernel, rfl⟩
theorem nX5_ahead_44 : Nx mX5_ahead 44 (.aload_n 0) 1 45 := ⟨by decide +kernel, rfl⟩
theorem nX5_ahead_45 : Nx mX5_ahead 45 (.getfield 32) 3 48 := ⟨by decide +kernel, rfl⟩
theorem nX5_ahead_48 : Nx mX5_ahead 48 (.aload_n 0) 1 49 := ⟨by decide +kernel, rfl⟩
theorem nX5_ahead_49 : Nx mX5_ahead 49 (.getfield 19) 3 52 := ⟨by decide +kernel, rfl⟩
theorem nX5_ahead_52 : Nx mX5_ahead 52 (.invokevirtual 108) 3 55 := ⟨by decide +kernel, rfl⟩
theorem nX5_ahead_55 : Nx mX5_ahead 55 (.invokevirtual 175) 3 58 := ⟨by decide +kernel, rfl⟩
theorem nX5_ahead_58 : Nx mX5_ahead 58 (.aload_n 0) 1 59 := ⟨by decide +kernel, rfl⟩
theorem nX5_ahead_59 : Nx mX5_ahead 59 (.getfield 32) 3 62 := ⟨by decide +kernel, rfl⟩
theorem nX5_ahead_62 : Nx mX5_ahead 62 (.invokevirtual 178) 3 65 := ⟨by decide +kernel, rfl⟩
theorem nX5_ahead_65 : Nx mX5_ahead 65 (.iinc 3 1) 3 68 := ⟨by decide +kernel, rfl⟩
theorem nX5_ahead_68 : Nx mX5_ahead 68 (.goto (-29)) 3 71 := ⟨by decide +kernel, rfl⟩
theorem nX5_ahead_71 : Nx mX5_ahead 71 (.aload_n 0) 1 72 := ⟨by decide +kernel, rfl⟩
theorem nX5_ahead_72 : Nx mX5_ahead 72 (.getfield 32) 3 75 := ⟨by decide +kernel, rfl⟩
theorem nX5_ahead_75 : Nx mX5_ahead 75 (.getfield 129) 3 78 := ⟨by decide +kernel, rfl⟩
theorem nX5_ahead_78 : Nx mX5_ahead 78 (.iload_n 1) 1 79 := ⟨by decide +kernel, rfl⟩
theorem nX5_ahead_79 : Nx mX5_ahead 79 (.iaload) 1 80 := ⟨by decide +kernel, rfl⟩
theorem nX5_ahead_80 : Nx mX5_ahead 80 (.ireturn) 1 81 := ⟨by decide +kernel, rfl⟩
theorem nX5_wants_0 : Nx mX5_wants 0 (.aload_n 0) 1 1 := ⟨by decide +kernel, rfl⟩
theorem nX5_wants_1 : Nx mX5_wants 1 (.getfield 19) 3 4 := ⟨by decide +kernel, rfl⟩
theorem nX5_wants_4 : Nx mX5_wants 4 (.iload_n 1) 1 5 := ⟨by decide +kernel, rfl⟩
theorem nX5_wants_5 : Nx mX5_wants 5 (.invokevirtual 116) 3 8 := ⟨by decide +kernel, rfl⟩
theorem nX5_wants_8 : Nx mX5_wants 8 (.ifCond .ne 5) 3 11 := ⟨by decide +kernel, rfl⟩
theorem nX5_wants_11 : Nx mX5_wants 11 (.iconst (-1)) 1 12 := ⟨by decide +kernel, rfl⟩
theorem nX5_wants_12 : Nx mX5_wants 12 (.ireturn) 1 13 := ⟨by decide +kernel, rfl⟩
theorem nX5_wants_13 : Nx mX5_wants 13 (.bipush (-9)) 2 15 := ⟨by decide +kernel, rfl⟩
theorem nX5_wants_15 : Nx mX5_wants 15 (.istore_n 2) 1 16 := ⟨by decide +kernel, rfl⟩
theorem nX5_wants_16 : Nx mX5_wants 16 (.iconst 0) 1 17 := ⟨by decide +kernel, rfl⟩
theorem nX5_wants_17 : Nx mX5_wants 17 (.istore_n 3) 1 18 := ⟨by decide +kernel, rfl⟩
theorem nX5_wants_18 : Nx mX5_wants 18 (.iload_n 3) 1 19 := ⟨by decide +kernel, rfl⟩
theorem nX5_wants_19 : Nx mX5_wants 19 (.aload_n 0) 1 20 := ⟨by decide +kernel, rfl⟩
theorem nX5_wants_20 : Nx mX5_wants 20 (.getfield 19) 3 23 := ⟨by decide +kernel, rfl⟩
theorem nX5_wants_23 : Nx mX5_wants 23 (.invokevirtual 108) 3 26 := ⟨by decide +kernel, rfl⟩
theorem nX5_wants_26 : Nx mX5_wants 26 (.if_icmp .gt 49) 3 29 := ⟨by decide +kernel, rfl⟩
theorem nX5_wants_29 : Nx mX5_wants 29 (.iload_n 2) 1 30 := ⟨by decide +kernel, rfl⟩
theorem nX5_wants_30 : Nx mX5_wants 30 (.bipush (-9)) 2 32 := ⟨by decide +kernel, rfl⟩
theorem nX5_wants_32 : Nx mX5_wants 32 (.if_icmp .eq 14) 3 35 := ⟨by decide +kernel, rfl⟩
theorem nX5_wants_35 : Nx mX5_wants 35 (.iload_n 3) 1 36 := ⟨by decide +kernel, rfl⟩
theorem nX5_wants_36 : Nx mX5_wants 36 (.invokestatic 187) 3 39 := ⟨by decide +kernel, rfl⟩
theorem nX5_wants_39 : Nx mX5_wants 39 (.iload_n 2) 1 40 := ⟨by decide +kernel, rfl⟩
theorem nX5_wants_40 : Nx mX5_wants 40 (.invokestatic 187) 3 43 := ⟨by decide +kernel, rfl⟩
theorem nX5_wants_43 : Nx mX5_wants 43 (.if_icmp .ge 7) 3 46 := ⟨by decide +kernel, rfl⟩
theorem nX5_wants_46 : Nx mX5_wants 46 (.iconst 1) 1 47 := ⟨by decide +kernel, rfl⟩
theorem nX5_wants_47 : Nx mX5_wants 47 (.goto 4) 3 50 := ⟨by decide +kernel, rfl⟩
theorem nX5_wants_50 : Nx mX5_wants 50 (.iconst 0) 1 51 := ⟨by decide +kernel, rfl⟩
theorem nX5_wants_51 : Nx mX5_wants 51 (.istore 4) 2 53 := ⟨by decide +kernel, rfl⟩
theorem nX5_wants_53 : Nx mX5_wants 53 (.iload 4) 2 55 := ⟨by decide +kernel, rfl⟩
theorem nX5_wants_55 : Nx mX5_wants 55 (.ifCond .eq 14) 3 58 := ⟨by decide +kernel, rfl⟩
theorem nX5_wants_58 : Nx mX5_wants 58 (.aload_n 0) 1 59 := ⟨by decide +kernel, rfl⟩
theorem nX5_wants_59 : Nx mX5_wants 59 (.iload_n 3) 1 60 := ⟨by decide +kernel, rfl⟩
theorem nX5_wants_60 : Nx mX5_wants 60 (.iload_n 1) 1 61 := ⟨by decide +kernel, rfl⟩
theorem nX5_wants_61 : Nx mX5_wants 61 (.invokevirtual 192) 3 64 := ⟨by decide +kernel, rfl⟩
theorem nX5_wants_64 : Nx mX5_wants 64 (.ifCond .eq 5) 3 67 := ⟨by decide +kernel, rfl⟩
theorem nX5_wants_67 : Nx mX5_wants 67 (.iload_n 3) 1 68 := ⟨by decide +kernel, rfl⟩
theorem nX5_wants_68 : Nx mX5_wants 68 (.istore_n 2) 1 69 := ⟨by decide +kernel, rfl⟩
theorem nX5_wants_69 : Nx mX5_wants 69 (.iinc 3 1) 3 72 := ⟨by decide +kernel, rfl⟩
theorem nX5_wants_72 : Nx mX5_wants 72 (.goto (-54)) 3 75 := ⟨by decide +kernel, rfl⟩
theorem nX5_wants_75 : Nx mX5_wants 75 (.iload_n 2) 1 76 := ⟨by decide +kernel, rfl⟩
theorem nX5_wants_76 : Nx mX5_wants 76 (.ireturn) 1 77 := ⟨by decide +kernel, rfl⟩
theorem nX5_rid_0 : Nx mX5_rid 0 (.aload_n 0) 1 1 := ⟨by decide +kernel, rfl⟩
theorem nX5_rid_1 : Nx mX5_rid 1 (.getfield 19) 3 4 := ⟨by decide +kernel, rfl⟩
theorem nX5_rid_4 : Nx mX5_rid 4 (.iload_n 1) 1 5 := ⟨by decide +kernel, rfl⟩
theorem nX5_rid_5 : Nx mX5_rid 5 (.invokevirtual 138) 3 8 := ⟨by decide +kernel, rfl⟩
theorem nX5_rid_8 : Nx mX5_rid 8 (.ifCond .ne 5) 3 11 := ⟨by decide +kernel, rfl⟩
theorem nX5_rid_11 : Nx mX5_rid 11 (.iconst (-1)) 1 12 := ⟨by decide +kernel, rfl⟩
theorem nX5_rid_12 : Nx mX5_rid 12 (.ireturn) 1 13 := ⟨by decide +kernel, rfl⟩
theorem nX5_rid_13 : Nx mX5_rid 13 (.aload_n 0) 1 14 := ⟨by decide +kernel, rfl⟩
theorem nX5_rid_14 : Nx mX5_rid 14 (.getfield 19) 3 17 := ⟨by decide +kernel, rfl⟩
theorem nX5_rid_17 : Nx mX5_rid 17 (.getfield 147) 3 20 := ⟨by decide +kernel, rfl⟩
theorem nX5_rid_20 : Nx mX5_rid 20 (.iload_n 1) 1 21 := ⟨by decide +kernel, rfl⟩
theorem nX5_rid_21 : Nx mX5_rid 21 (.iaload) 1 22 := ⟨by decide +kernel, rfl⟩
theorem nX5_rid_22 : Nx mX5_rid 22 (.iconst 1) 1 23 := ⟨by decide +kernel, rfl⟩
theorem nX5_rid_23 : Nx mX5_rid 23 (.if_icmp .ne 5) 3 26 := ⟨by decide +kernel, rfl⟩
theorem nX5_rid_26 : Nx mX5_rid 26 (.iconst 0) 1 27 := ⟨by decide +kernel, rfl⟩
theorem nX5_rid_27 : Nx mX5_rid 27 (.ireturn) 1 28 := ⟨by decide +kernel, rfl⟩
theorem nX5_rid_28 : Nx mX5_rid 28 (.aload_n 0) 1 29 := ⟨by decide +kernel, rfl⟩
theorem nX5_rid_29 : Nx mX5_rid 29 (.getfield 32) 3 32 := ⟨by decide +kernel, rfl⟩
theorem nX5_rid_32 : Nx mX5_rid 32 (.aload_n 0) 1 33 := ⟨by decide +kernel, rfl⟩
theorem nX5_rid_33 : Nx mX5_rid 33 (.getfield 28) 3 36 := ⟨by decide +kernel, rfl⟩
theorem nX5_rid_36 : Nx mX5_rid 36 (.invokevirtual 184) 3 39 := ⟨by decide +kernel, rfl⟩
theorem nX5_rid_39 : Nx mX5_rid 39 (.aload_n 0) 1 40 := ⟨by decide +kernel, rfl⟩
theorem nX5_rid_40 : Nx mX5_rid 40 (.getfield 32) 3 43 := ⟨by decide +kernel, rfl⟩
theorem nX5_rid_43 : Nx mX5_rid 43 (.iload_n 1) 1 44 := ⟨by decide +kernel, rfl⟩
theorem nX5_rid_44 : Nx mX5_rid 44 (.bipush 99) 2 46 := ⟨by decide +kernel, rfl⟩
theorem nX5_rid_46 : Nx mX5_rid 46 (.invokevirtual 195) 3 49 := ⟨by decide +kernel, rfl⟩
theorem nX5_rid_49 : Nx mX5_rid 49 (.aload_n 0) 1 50 := ⟨by decide +kernel, rfl⟩
theorem nX5_rid_50 : Nx mX5_rid 50 (.getfield 32) 3 53 := ⟨by decide +kernel, rfl⟩
theorem nX5_rid_53 : Nx mX5_rid 53 (.getfield 156) 3 56 := ⟨by decide +kernel, rfl⟩
theorem nX5_rid_56 : Nx mX5_rid 56 (.iload_n 1) 1 57 := ⟨by decide +kernel, rfl⟩
theorem nX5_rid_57 : Nx mX5_rid 57 (.iaload) 1 58 := ⟨by decide +kernel, rfl⟩
theorem nX5_rid_58 : Nx mX5_rid 58 (.ireturn) 1 59 := ⟨by decide +kernel, rfl⟩
theorem nX5_judge_0 : Nx mX5_judge 0 (.iload_n 1) 1 1 := ⟨by decide +kernel, rfl⟩
theorem nX5_judge_1 : Nx mX5_judge 1 (.iconst 1) 1 2 := ⟨by decide +kernel, rfl⟩
theorem nX5_judge_2 : Nx mX5_judge 2 (.if_icmp .lt 24) 3 5 := ⟨by decide +kernel, rfl⟩
theorem nX5_judge_5 : Nx mX5_judge 5 (.iload_n 1) 1 6 := ⟨by decide +kernel, rfl⟩
theorem nX5_judge_6 : Nx mX5_judge 6 (.iconst 4) 1 7 := ⟨by decide +kernel, rfl⟩
theorem nX5_judge_7 : Nx mX5_judge 7 (.if_icmp .gt 19) 3 10 := ⟨by decide +kernel, rfl⟩
theorem nX5_judge_10 : Nx mX5_judge 10 (.lload_n 2) 1 11 := ⟨by decide +kernel, rfl⟩
theorem nX5_judge_11 : Nx mX5_judge 11 (.lconst 0) 1 12 := ⟨by decide +kernel, rfl⟩
theorem nX5_judge_12 : Nx mX5_judge 12 (.lcmp) 1 13 := ⟨by decide +kernel, rfl⟩
theorem nX5_judge_13 : Nx mX5_judge 13 (.ifCond .lt 13) 3 16 := ⟨by decide +kernel, rfl⟩
theorem nX5_judge_16 : Nx mX5_judge 16 (.lload_n 2) 1 17 := ⟨by decide +kernel, rfl⟩
theorem nX5_judge_17 : Nx mX5_judge 17 (.iload_n 1) 1 18 := ⟨by decide +kernel, rfl⟩
theorem nX5_judge_18 : Nx mX5_judge 18 (.invokestatic 198) 3 21 := ⟨by decide +kernel, rfl⟩
theorem nX5_judge_21 : Nx mX5_judge 21 (.lconst 0) 1 22 := ⟨by decide +kernel, rfl⟩
theorem nX5_judge_22 : Nx mX5_judge 22 (.lcmp) 1 23 := ⟨by decide +kernel, rfl⟩
theorem nX5_judge_23 : Nx mX5_judge 23 (.ifCond .eq 6) 3 26 := ⟨by decide +kernel, rfl⟩
theorem nX5_judge_26 : Nx mX5_judge 26 (.bipush (-2)) 2 28 := ⟨by decide +kernel, rfl⟩
theorem nX5_judge_28 : Nx mX5_judge 28 (.ireturn) 1 29 := ⟨by decide +kernel, rfl⟩
theorem nX5_judge_29 : Nx mX5_judge 29 (.aload_n 0) 1 30 := ⟨by decide +kernel, rfl⟩
theorem nX5_judge_30 : Nx mX5_judge 30 (.getfield 32) 3 33 := ⟨by decide +kernel, rfl⟩
theorem nX5_judge_33 : Nx mX5_judge 33 (.aload_n 0) 1 34 := ⟨by decide +kernel, rfl⟩
theorem nX5_judge_34 : Nx mX5_judge 34 (.getfield 28) 3 37 := ⟨by decide +kernel, rfl⟩
theorem nX5_judge_37 : Nx mX5_judge 37 (.invokevirtual 184) 3 40 := ⟨by decide +kernel, rfl⟩
theorem nX5_judge_40 : Nx mX5_judge 40 (.iconst 0) 1 41 := ⟨by decide +kernel, rfl⟩
theorem nX5_judge_41 : Nx mX5_judge 41 (.istore 4) 2 43 := ⟨by decide +kernel, rfl⟩
theorem nX5_judge_43 : Nx mX5_judge 43 (.iload 4) 2 45 := ⟨by decide +kernel, rfl⟩
theorem nX5_judge_45 : Nx mX5_judge 45 (.iload_n 1) 1 46 := ⟨by decide +kernel, rfl⟩
theorem nX5_judge_46 : Nx mX5_judge 46 (.if_icmp .ge 54) 3 49 := ⟨by decide +kernel, rfl⟩
theorem nX5_judge_49 : Nx mX5_judge 49 (.lload_n 2) 1 50 := ⟨by decide +kernel, rfl⟩
theorem nX5_judge_50 : Nx mX5_judge 50 (.iload_n 1) 1 51 := ⟨by decide +kernel, rfl⟩
theorem nX5_judge_51 : Nx mX5_judge 51 (.iconst 1) 1 52 := ⟨by decide +kernel, rfl⟩
theorem nX5_judge_52 : Nx mX5_judge 52 (.isub) 1 53 := ⟨by decide +kernel, rfl⟩
theorem nX5_judge_53 : Nx mX5_judge 53 (.iload 4) 2 55 := ⟨by decide +kernel, rfl⟩
theorem nX5_judge_55 : Nx mX5_judge 55 (.isub) 1 56 := ⟨by decide +kernel, rfl⟩
theorem nX5_judge_56 : Nx mX5_judge 56 (.invokestatic 198) 3 59 := ⟨by decide +kernel, rfl⟩
theorem nX5_judge_59 : Nx mX5_judge 59 (.ldc2_w 202) 3 62 := ⟨by decide +kernel, rfl⟩
theorem nX5_judge_62 : Nx mX5_judge 62 (.lrem) 1 63 := ⟨by decide +kernel, rfl⟩
theorem nX5_judge_63 : Nx mX5_judge 63 (.l2i) 1 64 := ⟨by decide +kernel, rfl⟩
theorem nX5_judge_64 : Nx mX5_judge 64 (.istore 5) 2 66 := ⟨by decide +kernel, rfl⟩
theorem nX5_judge_66 : Nx mX5_judge 66 (.aload_n 0) 1 67 := ⟨by decide +kernel, rfl⟩
theorem nX5_judge_67 : Nx mX5_judge 67 (.iload 5) 2 69 := ⟨by decide +kernel, rfl⟩
theorem nX5_judge_69 : Nx mX5_judge 69 (.bipush 100) 2 71 := ⟨by decide +kernel, rfl⟩
theorem nX5_judge_71 : Nx mX5_judge 71 (.idiv) 1 72 := ⟨by decide +kernel, rfl⟩
theorem nX5_judge_72 : Nx mX5_judge 72 (.iload 5) 2 74 := ⟨by decide +kernel, rfl⟩
theorem nX5_judge_74 : Nx mX5_judge 74 (.bipush 10) 2 76 := ⟨by decide +kernel, rfl⟩
theorem nX5_judge_76 : Nx mX5_judge 76 (.idiv) 1 77 := ⟨by decide +kernel, rfl⟩
theorem nX5_judge_77 : Nx mX5_judge 77 (.bipush 10) 2 79 := ⟨by decide +kernel, rfl⟩
theorem nX5_judge_79 : Nx mX5_judge 79 (.irem) 1 80 := ⟨by decide +kernel, rfl⟩
theorem nX5_judge_80 : Nx mX5_judge 80 (.iload 5) 2 82 := ⟨by decide +kernel, rfl⟩
theorem nX5_judge_82 : Nx mX5_judge 82 (.bipush 10) 2 84 := ⟨by decide +kernel, rfl⟩
theorem nX5_judge_84 : Nx mX5_judge 84 (.irem) 1 85 := ⟨by decide +kernel, rfl⟩
theorem nX5_judge_85 : Nx mX5_judge 85 (.invokevirtual 204) 3 88 := ⟨by decide +kernel, rfl⟩
theorem nX5_judge_88 : Nx mX5_judge 88 (.ifCond .ne 6) 3 91 := ⟨by decide +kernel, rfl⟩
theorem nX5_judge_91 : Nx mX5_judge 91 (.iload 4) 2 93 := ⟨by decide +kernel, rfl⟩
theorem nX5_judge_93 : Nx mX5_judge 93 (.ireturn) 1 94 := ⟨by decide +kernel, rfl⟩
theorem nX5_judge_94 : Nx mX5_judge 94 (.iinc 4 1) 3 97 := ⟨by decide +kernel, rfl⟩
theorem nX5_judge_97 : Nx mX5_judge 97 (.goto (-54)) 3 100 := ⟨by decide +kernel, rfl⟩
theorem nX5_judge_100 : Nx mX5_judge 100 (.bipush (-9)) 2 102 := ⟨by decide +kernel, rfl⟩
theorem nX5_judge_102 : Nx mX5_judge 102 (.ireturn) 1 103 := ⟨by decide +kernel, rfl⟩
theorem nX5_share_0 : Nx mX5_share 0 (.aload_n 0) 1 1 := ⟨by decide +kernel, rfl⟩
theorem nX5_share_1 : Nx mX5_share 1 (.getfield 19) 3 4 := ⟨by decide +kernel, rfl⟩
theorem nX5_share_4 : Nx mX5_share 4 (.iload_n 1) 1 5 := ⟨by decide +kernel, rfl⟩
theorem nX5_share_5 : Nx mX5_share 5 (.invokevirtual 138) 3 8 := ⟨by decide +kernel, rfl⟩
theorem nX5_share_8 : Nx mX5_share 8 (.ifCond .ne 5) 3 11 := ⟨by decide +kernel, rfl⟩
theorem nX5_share_11 : Nx mX5_share 11 (.iconst (-1)) 1 12 := ⟨by decide +kernel, rfl⟩
theorem nX5_share_12 : Nx mX5_share 12 (.ireturn) 1 13 := ⟨by decide +kernel, rfl⟩
theorem nX5_share_13 : Nx mX5_share 13 (.lconst 0) 1 14 := ⟨by decide +kernel, rfl⟩
theorem nX5_share_14 : Nx mX5_share 14 (.lstore_n 3) 1 15 := ⟨by decide +kernel, rfl⟩
theorem nX5_share_15 : Nx mX5_share 15 (.iconst 0) 1 16 := ⟨by decide +kernel, rfl⟩
theorem nX5_share_16 : Nx mX5_share 16 (.istore 5) 2 18 := ⟨by decide +kernel, rfl⟩
theorem nX5_share_18 : Nx mX5_share 18 (.iload 5) 2 20 := ⟨by decide +kernel, rfl⟩
theorem nX5_share_20 : Nx mX5_share 20 (.aload_n 0) 1 21 := ⟨by decide +kernel, rfl⟩
theorem nX5_share_21 : Nx mX5_share 21 (.getfield 19) 3 24 := ⟨by decide +kernel, rfl⟩
theorem nX5_share_24 : Nx mX5_share 24 (.invokevirtual 108) 3 27 := ⟨by decide +kernel, rfl⟩
theorem nX5_share_27 : Nx mX5_share 27 (.if_icmp .gt 78) 3 30 := ⟨by decide +kernel, rfl⟩
theorem nX5_share_30 : Nx mX5_share 30 (.iload 5) 2 32 := ⟨by decide +kernel, rfl⟩
theorem nX5_share_32 : Nx mX5_share 32 (.iload_n 1) 1 33 := ⟨by decide +kernel, rfl⟩
theorem nX5_share_33 : Nx mX5_share 33 (.ishr) 1 34 := ⟨by decide +kernel, rfl⟩
theorem nX5_share_34 : Nx mX5_share 34 (.iconst 1) 1 35 := ⟨by decide +kernel, rfl⟩
theorem nX5_share_35 : Nx mX5_share 35 (.iand) 1 36 := ⟨by decide +kernel, rfl⟩
theorem nX5_share_36 : Nx mX5_share 36 (.ifCond .ne 63) 3 39 := ⟨by decide +kernel, rfl⟩
theorem nX5_share_39 : Nx mX5_share 39 (.aload_n 0) 1 40 := ⟨by decide +kernel, rfl⟩
theorem nX5_share_40 : Nx mX5_share 40 (.iload 5) 2 42 := ⟨by decide +kernel, rfl⟩
theorem nX5_share_42 : Nx mX5_share 42 (.iconst 1) 1 43 := ⟨by decide +kernel, rfl⟩
theorem nX5_share_43 : Nx mX5_share 43 (.iload_n 1) 1 44 := ⟨by decide +kernel, rfl⟩
theorem nX5_share_44 : Nx mX5_share 44 (.ishl) 1 45 := ⟨by decide +kernel, rfl⟩
theorem nX5_share_45 : Nx mX5_share 45 (.ior) 1 46 := ⟨by decide +kernel, rfl⟩
theorem nX5_share_46 : Nx mX5_share 46 (.invokevirtual 111) 3 49 := ⟨by decide +kernel, rfl⟩
theorem nX5_share_49 : Nx mX5_share 49 (.invokestatic 187) 3 52 := ⟨by decide +kernel, rfl⟩
theorem nX5_share_52 : Nx mX5_share 52 (.aload_n 0) 1 53 := ⟨by decide +kernel, rfl⟩
theorem nX5_share_53 : Nx mX5_share 53 (.iload 5) 2 55 := ⟨by decide +kernel, rfl⟩
theorem nX5_share_55 : Nx mX5_share 55 (.invokevirtual 111) 3 58 := ⟨by decide +kernel, rfl⟩
theorem nX5_share_58 : Nx mX5_share 58 (.invokestatic 187) 3 61 := ⟨by decide +kernel, rfl⟩
theorem nX5_share_61 : Nx mX5_share 61 (.isub) 1 62 := ⟨by decide +kernel, rfl⟩
theorem nX5_share_62 : Nx mX5_share 62 (.istore 6) 2 64 := ⟨by decide +kernel, rfl⟩
theorem nX5_share_64 : Nx mX5_share 64 (.iload 5) 2 66 := ⟨by decide +kernel, rfl⟩
theorem nX5_share_66 : Nx mX5_share 66 (.invokestatic 187) 3 69 := ⟨by decide +kernel, rfl⟩
theorem nX5_share_69 : Nx mX5_share 69 (.istore 7) 2 71 := ⟨by decide +kernel, rfl⟩
theorem nX5_share_71 : Nx mX5_share 71 (.lload_n 3) 1 72 := ⟨by decide +kernel, rfl⟩
theorem nX5_share_72 : Nx mX5_share 72 (.iload 6) 2 74 := ⟨by decide +kernel, rfl⟩
theorem nX5_share_74 : Nx mX5_share 74 (.i2l) 1 75 := ⟨by decide +kernel, rfl⟩
theorem nX5_share_75 : Nx mX5_share 75 (.iload 7) 2 77 := ⟨by decide +kernel, rfl⟩
theorem nX5_share_77 : Nx mX5_share 77 (.invokestatic 208) 3 80 := ⟨by decide +kernel, rfl⟩
theorem nX5_share_80 : Nx mX5_share 80 (.lmul) 1 81 := ⟨by decide +kernel, rfl⟩
theorem nX5_share_81 : Nx mX5_share 81 (.aload_n 0) 1 82 := ⟨by decide +kernel, rfl⟩
theorem nX5_share_82 : Nx mX5_share 82 (.getfield 19) 3 85 := ⟨by decide +kernel, rfl⟩
theorem nX5_share_85 : Nx mX5_share 85 (.getfield 90) 3 88 := ⟨by decide +kernel, rfl⟩
theorem nX5_share_88 : Nx mX5_share 88 (.iconst 1) 1 89 := ⟨by decide +kernel, rfl⟩
theorem nX5_share_89 : Nx mX5_share 89 (.isub) 1 90 := ⟨by decide +kernel, rfl⟩
theorem nX5_share_90 : Nx mX5_share 90 (.iload 7) 2 92 := ⟨by decide +kernel, rfl⟩
theorem nX5_share_92 : Nx mX5_share 92 (.isub) 1 93 := ⟨by decide +kernel, rfl⟩
theorem nX5_share_93 : Nx mX5_share 93 (.invokestatic 208) 3 96 := ⟨by decide +kernel, rfl⟩
theorem nX5_share_96 : Nx mX5_share 96 (.lmul) 1 97 := ⟨by decide +kernel, rfl⟩
theorem nX5_share_97 : Nx mX5_share 97 (.ladd) 1 98 := ⟨by decide +kernel, rfl⟩
theorem nX5_share_98 : Nx mX5_share 98 (.lstore_n 3) 1 99 := ⟨by decide +kernel, rfl⟩
theorem nX5_share_99 : Nx mX5_share 99 (.iinc 5 1) 3 102 := ⟨by decide +kernel, rfl⟩
theorem nX5_share_102 : Nx mX5_share 102 (.goto (-84)) 3 105 := ⟨by decide +kernel, rfl⟩
theorem nX5_share_105 : Nx mX5_share 105 (.lload_n 3) 1 106 := ⟨by decide +kernel, rfl⟩
theorem nX5_share_106 : Nx mX5_share 106 (.aload_n 0) 1 107 := ⟨by decide +kernel, rfl⟩
theorem nX5_share_107 : Nx mX5_share 107 (.getfield 19) 3 110 := ⟨by decide +kernel, rfl⟩
theorem nX5_share_110 : Nx mX5_share 110 (.getfield 90) 3 113 := ⟨by decide +kernel, rfl⟩
theorem nX5_share_113 : Nx mX5_share 113 (.invokestatic 208) 3 116 := ⟨by decide +kernel, rfl⟩
theorem nX5_share_116 : Nx mX5_share 116 (.iload_n 2) 1 117 := ⟨by decide +kernel, rfl⟩
theorem nX5_share_117 : Nx mX5_share 117 (.invokestatic 212) 3 120 := ⟨by decide +kernel, rfl⟩
theorem nX5_share_120 : Nx mX5_share 120 (.ireturn) 1 121 := ⟨by decide +kernel, rfl⟩
theorem nX5_came_0 : Nx mX5_came 0 (.iload_n 1) 1 1 := ⟨by decide +kernel, rfl⟩
theorem nX5_came_1 : Nx mX5_came 1 (.ifCond .lt 18) 3 4 := ⟨by decide +kernel, rfl⟩
theorem nX5_came_4 : Nx mX5_came 4 (.iload_n 1) 1 5 := ⟨by decide +kernel, rfl⟩
theorem nX5_came_5 : Nx mX5_came 5 (.bipush 10) 2 7 := ⟨by decide +kernel, rfl⟩
theorem nX5_came_7 : Nx mX5_came 7 (.if_icmp .ge 12) 3 10 := ⟨by decide +kernel, rfl⟩
theorem nX5_came_10 : Nx mX5_came 10 (.iload_n 2) 1 11 := ⟨by decide +kernel, rfl⟩
theorem nX5_came_11 : Nx mX5_came 11 (.ifCond .lt 8) 3 14 := ⟨by decide +kernel, rfl⟩
theorem nX5_came_14 : Nx mX5_came 14 (.iload_n 2) 1 15 := ⟨by decide +kernel, rfl⟩
theorem nX5_came_15 : Nx mX5_came 15 (.iconst 1) 1 16 := ⟨by decide +kernel, rfl⟩
theorem nX5_came_16 : Nx mX5_came 16 (.if_icmp .le 6) 3 19 := ⟨by decide +kernel, rfl⟩
theorem nX5_came_19 : Nx mX5_came 19 (.bipush (-2)) 2 21 := ⟨by decide +kernel, rfl⟩
theorem nX5_came_21 : Nx mX5_came 21 (.ireturn) 1 22 := ⟨by decide +kernel, rfl⟩
theorem nX5_came_22 : Nx mX5_came 22 (.aload_n 0) 1 23 := ⟨by decide +kernel, rfl⟩
theorem nX5_came_23 : Nx mX5_came 23 (.getfield 45) 3 26 := ⟨by decide +kernel, rfl⟩
theorem nX5_came_26 : Nx mX5_came 26 (.getfield 115) 3 29 := ⟨by decide +kernel, rfl⟩
theorem nX5_came_29 : Nx mX5_came 29 (.bipush 6) 2 31 := ⟨by decide +kernel, rfl⟩
theorem nX5_came_31 : Nx mX5_came 31 (.if_icmp .lt 6) 3 34 := ⟨by decide +kernel, rfl⟩
theorem nX5_came_34 : Nx mX5_came 34 (.bipush (-4)) 2 36 := ⟨by decide +kernel, rfl⟩
theorem nX5_came_36 : Nx mX5_came 36 (.ireturn) 1 37 := ⟨by decide +kernel, rfl⟩
theorem nX5_came_37 : Nx mX5_came 37 (.aload_n 0) 1 38 := ⟨by decide +kernel, rfl⟩
theorem nX5_came_38 : Nx mX5_came 38 (.getfield 45) 3 41 := ⟨by decide +kernel, rfl⟩
theorem nX5_came_41 : Nx mX5_came 41 (.iload_n 1) 1 42 := ⟨by decide +kernel, rfl⟩
theorem nX5_came_42 : Nx mX5_came 42 (.iload_n 2) 1 43 := ⟨by decide +kernel, rfl⟩
theorem nX5_came_43 : Nx mX5_came 43 (.iconst 1) 1 44 := ⟨by decide +kernel, rfl⟩
theorem nX5_came_44 : Nx mX5_came 44 (.if_icmp .ne 7) 3 47 := ⟨by decide +kernel, rfl⟩
theorem nX5_came_47 : Nx mX5_came 47 (.iconst 1) 1 48 := ⟨by decide +kernel, rfl⟩
theorem nX5_came_48 : Nx mX5_came 48 (.goto 4) 3 51 := ⟨by decide +kernel, rfl⟩
theorem nX5_came_51 : Nx mX5_came 51 (.iconst 0) 1 52 := ⟨by decide +kernel, rfl⟩
theorem nX5_came_52 : Nx mX5_came 52 (.invokevirtual 216) 3 55 := ⟨by decide +kernel, rfl⟩
theorem nX5_came_55 : Nx mX5_came 55 (.aload_n 0) 1 56 := ⟨by decide +kernel, rfl⟩
theorem nX5_came_56 : Nx mX5_came 56 (.getfield 45) 3 59 := ⟨by decide +kernel, rfl⟩
theorem nX5_came_59 : Nx mX5_came 59 (.getfield 115) 3 62 := ⟨by decide +kernel, rfl⟩
theorem nX5_came_62 : Nx mX5_came 62 (.ireturn) 1 63 := ⟨by decide +kernel, rfl⟩
theorem nX5_forget_0 : Nx mX5_forget 0 (.aload_n 0) 1 1 := ⟨by decide +kernel, rfl⟩
theorem nX5_forget_1 : Nx mX5_forget 1 (.getfield 45) 3 4 := ⟨by decide +kernel, rfl⟩
theorem nX5_forget_4 : Nx mX5_forget 4 (.getfield 115) 3 7 := ⟨by decide +kernel, rfl⟩
theorem nX5_forget_7 : Nx mX5_forget 7 (.istore_n 1) 1 8 := ⟨by decide +kernel, rfl⟩
theorem nX5_forget_8 : Nx mX5_forget 8 (.aload_n 0) 1 9 := ⟨by decide +kernel, rfl⟩
theorem nX5_forget_9 : Nx mX5_forget 9 (.getfield 45) 3 12 := ⟨by decide +kernel, rfl⟩
theorem nX5_forget_12 : Nx mX5_forget 12 (.iconst 0) 1 13 := ⟨by decide +kernel, rfl⟩
theorem nX5_forget_13 : Nx mX5_forget 13 (.putfield 115) 3 16 := ⟨by decide +kernel, rfl⟩
theorem nX5_forget_16 : Nx mX5_forget 16 (.iload_n 1) 1 17 := ⟨by decide +kernel, rfl⟩
theorem nX5_forget_17 : Nx mX5_forget 17 (.ireturn) 1 18 := ⟨by decide +kernel, rfl⟩
theorem nX5_strangers_0 : Nx mX5_strangers 0 (.iload_n 1) 1 1 := ⟨by decide +kernel, rfl⟩
theorem nX5_strangers_1 : Nx mX5_strangers 1 (.ifCond .lt 8) 3 4 := ⟨by decide +kernel, rfl⟩
theorem nX5_strangers_4 : Nx mX5_strangers 4 (.iload_n 1) 1 5 := ⟨by decide +kernel, rfl⟩
theorem nX5_strangers_5 : Nx mX5_strangers 5 (.iconst 1) 1 6 := ⟨by decide +kernel, rfl⟩
theorem nX5_strangers_6 : Nx mX5_strangers 6 (.if_icmp .le 6) 3 9 := ⟨by decide +kernel, rfl⟩
theorem nX5_strangers_9 : Nx mX5_strangers 9 (.bipush (-2)) 2 11 := ⟨by decide +kernel, rfl⟩
theorem nX5_strangers_11 : Nx mX5_strangers 11 (.ireturn) 1 12 := ⟨by decide +kernel, rfl⟩
theorem nX5_strangers_12 : Nx mX5_strangers 12 (.iconst 0) 1 13 := ⟨by decide +kernel, rfl⟩
theorem nX5_strangers_13 : Nx mX5_strangers 13 (.istore_n 2) 1 14 := ⟨by decide +kernel, rfl⟩
theorem nX5_strangers_14 : Nx mX5_strangers 14 (.bipush (-9)) 2 16 := ⟨by decide +kernel, rfl⟩
theorem nX5_strangers_16 : Nx mX5_strangers 16 (.istore_n 3) 1 17 := ⟨by decide +kernel, rfl⟩
theorem nX5_strangers_17 : Nx mX5_strangers 17 (.iconst 0) 1 18 := ⟨by decide +kernel, rfl⟩
theorem nX5_strangers_18 : Nx mX5_strangers 18 (.istore 4) 2 20 := ⟨by decide +kernel, rfl⟩
theorem nX5_strangers_20 : Nx mX5_strangers 20 (.iload 4) 2 22 := ⟨by decide +kernel, rfl⟩
theorem nX5_strangers_22 : Nx mX5_strangers 22 (.bipush 100) 2 24 := ⟨by decide +kernel, rfl⟩
theorem nX5_strangers_24 : Nx mX5_strangers 24 (.if_icmp .ge 45) 3 27 := ⟨by decide +kernel, rfl⟩
theorem nX5_strangers_27 : Nx mX5_strangers 27 (.aload_n 0) 1 28 := ⟨by decide +kernel, rfl⟩
theorem nX5_strangers_28 : Nx mX5_strangers 28 (.getfield 45) 3 31 := ⟨by decide +kernel, rfl⟩
theorem nX5_strangers_31 : Nx mX5_strangers 31 (.iload 4) 2 33 := ⟨by decide +kernel, rfl⟩
theorem nX5_strangers_33 : Nx mX5_strangers 33 (.bipush 10) 2 35 := ⟨by decide +kernel, rfl⟩
theorem nX5_strangers_35 : Nx mX5_strangers 35 (.idiv) 1 36 := ⟨by decide +kernel, rfl⟩
theorem nX5_strangers_36 : Nx mX5_strangers 36 (.iload 4) 2 38 := ⟨by decide +kernel, rfl⟩
theorem nX5_strangers_38 : Nx mX5_strangers 38 (.bipush 10) 2 40 := ⟨by decide +kernel, rfl⟩
theorem nX5_strangers_40 : Nx mX5_strangers 40 (.irem) 1 41 := ⟨by decide +kernel, rfl⟩
theorem nX5_strangers_41 : Nx mX5_strangers 41 (.invokevirtual 220) 3 44 := ⟨by decide +kernel, rfl⟩
theorem nX5_strangers_44 : Nx mX5_strangers 44 (.ifCond .eq 19) 3 47 := ⟨by decide +kernel, rfl⟩
theorem nX5_strangers_47 : Nx mX5_strangers 47 (.iinc 2 1) 3 50 := ⟨by decide +kernel, rfl⟩
theorem nX5_strangers_50 : Nx mX5_strangers 50 (.iload_n 3) 1 51 := ⟨by decide +kernel, rfl⟩
theorem nX5_strangers_51 : Nx mX5_strangers 51 (.bipush (-9)) 2 53 := ⟨by decide +kernel, rfl⟩
theorem nX5_strangers_53 : Nx mX5_strangers 53 (.if_icmp .ne 8) 3 56 := ⟨by decide +kernel, rfl⟩
theorem nX5_strangers_56 : Nx mX5_strangers 56 (.iload 4) 2 58 := ⟨by decide +kernel, rfl⟩
theorem nX5_strangers_58 : Nx mX5_strangers 58 (.goto 4) 3 61 := ⟨by decide +kernel, rfl⟩
theorem nX5_strangers_61 : Nx mX5_strangers 61 (.iload_n 3) 1 62 := ⟨by decide +kernel, rfl⟩
theorem nX5_strangers_62 : Nx mX5_strangers 62 (.istore_n 3) 1 63 := ⟨by decide +kernel, rfl⟩
theorem nX5_strangers_63 : Nx mX5_strangers 63 (.iinc 4 1) 3 66 := ⟨by decide +kernel, rfl⟩
theorem nX5_strangers_66 : Nx mX5_strangers 66 (.goto (-46)) 3 69 := ⟨by decide +kernel, rfl⟩
theorem nX5_strangers_69 : Nx mX5_strangers 69 (.iload_n 1) 1 70 := ⟨by decide +kernel, rfl⟩
theorem nX5_strangers_70 : Nx mX5_strangers 70 (.ifCond .ne 7) 3 73 := ⟨by decide +kernel, rfl⟩
theorem nX5_strangers_73 : Nx mX5_strangers 73 (.iload_n 2) 1 74 := ⟨by decide +kernel, rfl⟩
theorem nX5_strangers_74 : Nx mX5_strangers 74 (.goto 4) 3 77 := ⟨by decide +kernel, rfl⟩
theorem nX5_strangers_77 : Nx mX5_strangers 77 (.iload_n 3) 1 78 := ⟨by decide +kernel, rfl⟩
theorem nX5_strangers_78 : Nx mX5_strangers 78 (.ireturn) 1 79 := ⟨by decide +kernel, rfl⟩
theorem nX5_rests_0 : Nx mX5_rests 0 (.aload_n 0) 1 1 := ⟨by decide +kernel, rfl⟩
theorem nX5_rests_1 : Nx mX5_rests 1 (.getfield 19) 3 4 := ⟨by decide +kernel, rfl⟩
theorem nX5_rests_4 : Nx mX5_rests 4 (.iload_n 1) 1 5 := ⟨by decide +kernel, rfl⟩
theorem nX5_rests_5 : Nx mX5_rests 5 (.invokevirtual 138) 3 8 := ⟨by decide +kernel, rfl⟩
theorem nX5_rests_8 : Nx mX5_rests 8 (.ifCond .eq 25) 3 11 := ⟨by decide +kernel, rfl⟩
theorem nX5_rests_11 : Nx mX5_rests 11 (.aload_n 0) 1 12 := ⟨by decide +kernel, rfl⟩
theorem nX5_rests_12 : Nx mX5_rests 12 (.getfield 19) 3 15 := ⟨by decide +kernel, rfl⟩
theorem nX5_rests_15 : Nx mX5_rests 15 (.iload_n 2) 1 16 := ⟨by decide +kernel, rfl⟩
theorem nX5_rests_16 : Nx mX5_rests 16 (.invokevirtual 138) 3 19 := ⟨by decide +kernel, rfl⟩
theorem nX5_rests_19 : Nx mX5_rests 19 (.ifCond .eq 14) 3 22 := ⟨by decide +kernel, rfl⟩
theorem nX5_rests_22 : Nx mX5_rests 22 (.aload_n 0) 1 23 := ⟨by decide +kernel, rfl⟩
theorem nX5_rests_23 : Nx mX5_rests 23 (.getfield 19) 3 26 := ⟨by decide +kernel, rfl⟩
theorem nX5_rests_26 : Nx mX5_rests 26 (.iload_n 3) 1 27 := ⟨by decide +kernel, rfl⟩
theorem nX5_rests_27 : Nx mX5_rests 27 (.invokevirtual 116) 3 30 := ⟨by decide +kernel, rfl⟩
theorem nX5_rests_30 : Nx mX5_rests 30 (.ifCond .ne 5) 3 33 := ⟨by decide +kernel, rfl⟩
theorem nX5_rests_33 : Nx mX5_rests 33 (.iconst (-1)) 1 34 := ⟨by decide +kernel, rfl⟩
theorem nX5_rests_34 : Nx mX5_rests 34 (.ireturn) 1 35 := ⟨by decide +kernel, rfl⟩
theorem nX5_rests_35 : Nx mX5_rests 35 (.iload_n 1) 1 36 := ⟨by decide +kernel, rfl⟩
theorem nX5_rests_36 : Nx mX5_rests 36 (.iload_n 2) 1 37 := ⟨by decide +kernel, rfl⟩
theorem nX5_rests_37 : Nx mX5_rests 37 (.if_icmp .eq 14) 3 40 := ⟨by decide +kernel, rfl⟩
theorem nX5_rests_40 : Nx mX5_rests 40 (.iload 4) 2 42 := ⟨by decide +kernel, rfl⟩
theorem nX5_rests_42 : Nx mX5_rests 42 (.ifCond .lt 9) 3 45 := ⟨by decide +kernel, rfl⟩
theorem nX5_rests_45 : Nx mX5_rests 45 (.iload 4) 2 47 := ⟨by decide +kernel, rfl⟩
theorem nX5_rests_47 : Nx mX5_rests 47 (.iconst 1) 1 48 := ⟨by decide +kernel, rfl⟩
theorem nX5_rests_48 : Nx mX5_rests 48 (.if_icmp .le 6) 3 51 := ⟨by decide +kernel, rfl⟩
theorem nX5_rests_51 : Nx mX5_rests 51 (.bipush (-2)) 2 53 := ⟨by decide +kernel, rfl⟩
theorem nX5_rests_53 : Nx mX5_rests 53 (.ireturn) 1 54 := ⟨by decide +kernel, rfl⟩
theorem nX5_rests_54 : Nx mX5_rests 54 (.iconst 0) 1 55 := ⟨by decide +kernel, rfl⟩
theorem nX5_rests_55 : Nx mX5_rests 55 (.istore 5) 2 57 := ⟨by decide +kernel, rfl⟩
theorem nX5_rests_57 : Nx mX5_rests 57 (.iload 5) 2 59 := ⟨by decide +kernel, rfl⟩
theorem nX5_rests_59 : Nx mX5_rests 59 (.iconst 4) 1 60 := ⟨by decide +kernel, rfl⟩
theorem nX5_rests_60 : Nx mX5_rests 60 (.if_icmp .ge 18) 3 63 := ⟨by decide +kernel, rfl⟩
theorem nX5_rests_63 : Nx mX5_rests 63 (.aload_n 0) 1 64 := ⟨by decide +kernel, rfl⟩
theorem nX5_rests_64 : Nx mX5_rests 64 (.iload 5) 2 66 := ⟨by decide +kernel, rfl⟩
theorem nX5_rests_66 : Nx mX5_rests 66 (.iload_n 1) 1 67 := ⟨by decide +kernel, rfl⟩
theorem nX5_rests_67 : Nx mX5_rests 67 (.iload_n 2) 1 68 := ⟨by decide +kernel, rfl⟩
theorem nX5_rests_68 : Nx mX5_rests 68 (.iload_n 3) 1 69 := ⟨by decide +kernel, rfl⟩
theorem nX5_rests_69 : Nx mX5_rests 69 (.invokevirtual 223) 3 72 := ⟨by decide +kernel, rfl⟩
theorem nX5_rests_72 : Nx mX5_rests 72 (.iinc 5 1) 3 75 := ⟨by decide +kernel, rfl⟩
theorem nX5_rests_75 : Nx mX5_rests 75 (.goto (-18)) 3 78 := ⟨by decide +kernel, rfl⟩
theorem nX5_rests_78 : Nx mX5_rests 78 (.iconst 0) 1 79 := ⟨by decide +kernel, rfl⟩
theorem nX5_rests_79 : Nx mX5_rests 79 (.istore 5) 2 81 := ⟨by decide +kernel, rfl⟩
theorem nX5_rests_81 : Nx mX5_rests 81 (.bipush (-9)) 2 83 := ⟨by decide +kernel, rfl⟩
theorem nX5_rests_83 : Nx mX5_rests 83 (.istore 6) 2 85 := ⟨by decide +kernel, rfl⟩
theorem nX5_rests_85 : Nx mX5_rests 85 (.iconst 0) 1 86 := ⟨by decide +kernel, rfl⟩
theorem nX5_rests_86 : Nx mX5_rests 86 (.istore 7) 2 88 := ⟨by decide +kernel, rfl⟩
theorem nX5_rests_88 : Nx mX5_rests 88 (.iload 7) 2 90 := ⟨by decide +kernel, rfl⟩
theorem nX5_rests_90 : Nx mX5_rests 90 (.iconst 4) 1 91 := ⟨by decide +kernel, rfl⟩
theorem nX5_rests_91 : Nx mX5_rests 91 (.if_icmp .ge 47) 3 94 := ⟨by decide +kernel, rfl⟩
theorem nX5_rests_94 : Nx mX5_rests 94 (.aload_n 0) 1 95 := ⟨by decide +kernel, rfl⟩
theorem nX5_rests_95 : Nx mX5_rests 95 (.iload 7) 2 97 := ⟨by decide +kernel, rfl⟩
theorem nX5_rests_97 : Nx mX5_rests 97 (.invokevirtual 227) 3 100 := ⟨by decide +kernel, rfl⟩
theorem nX5_rests_100 : Nx mX5_rests 100 (.ifCond .eq 32) 3 103 := ⟨by decide +kernel, rfl⟩
theorem nX5_rests_103 : Nx mX5_rests 103 (.iinc 5 1) 3 106 := ⟨by decide +kernel, rfl⟩
theorem nX5_rests_106 : Nx mX5_rests 106 (.iload 6) 2 108 := ⟨by decide +kernel, rfl⟩
theorem nX5_rests_108 : Nx mX5_rests 108 (.bipush (-9)) 2 110 := ⟨by decide +kernel, rfl⟩
theorem nX5_rests_110 : Nx mX5_rests 110 (.if_icmp .ne 18) 3 113 := ⟨by decide +kernel, rfl⟩
theorem nX5_rests_113 : Nx mX5_rests 113 (.bipush 10) 2 115 := ⟨by decide +kernel, rfl⟩
theorem nX5_rests_115 : Nx mX5_rests 115 (.iload 7) 2 117 := ⟨by decide +kernel, rfl⟩
theorem nX5_rests_117 : Nx mX5_rests 117 (.iconst 1) 1 118 := ⟨by decide +kernel, rfl⟩
theorem nX5_rests_118 : Nx mX5_rests 118 (.ishr) 1 119 := ⟨by decide +kernel, rfl⟩
theorem nX5_rests_119 : Nx mX5_rests 119 (.imul) 1 120 := ⟨by decide +kernel, rfl⟩
theorem nX5_rests_120 : Nx mX5_rests 120 (.iload 7) 2 122 := ⟨by decide +kernel, rfl⟩
theorem nX5_rests_122 : Nx mX5_rests 122 (.iconst 1) 1 123 := ⟨by decide +kernel, rfl⟩
theorem nX5_rests_123 : Nx mX5_rests 123 (.iand) 1 124 := ⟨by decide +kernel, rfl⟩
theorem nX5_rests_124 : Nx mX5_rests 124 (.iadd) 1 125 := ⟨by decide +kernel, rfl⟩
theorem nX5_rests_125 : Nx mX5_rests 125 (.goto 5) 3 128 := ⟨by decide +kernel, rfl⟩
theorem nX5_rests_128 : Nx mX5_rests 128 (.iload 6) 2 130 := ⟨by decide +kernel, rfl⟩
theorem nX5_rests_130 : Nx mX5_rests 130 (.istore 6) 2 132 := ⟨by decide +kernel, rfl⟩
theorem nX5_rests_132 : Nx mX5_rests 132 (.iinc 7 1) 3 135 := ⟨by decide +kernel, rfl⟩
theorem nX5_rests_135 : Nx mX5_rests 135 (.goto (-47)) 3 138 := ⟨by decide +kernel, rfl⟩
theorem nX5_rests_138 : Nx mX5_rests 138 (.iload 4) 2 140 := ⟨by decide +kernel, rfl⟩
theorem nX5_rests_140 : Nx mX5_rests 140 (.ifCond .ne 8) 3 143 := ⟨by decide +kernel, rfl⟩
theorem nX5_rests_143 : Nx mX5_rests 143 (.iload 5) 2 145 := ⟨by decide +kernel, rfl⟩
theorem nX5_rests_145 : Nx mX5_rests 145 (.goto 5) 3 148 := ⟨by decide +kernel, rfl⟩
theorem nX5_rests_148 : Nx mX5_rests 148 (.iload 6) 2 150 := ⟨by decide +kernel, rfl⟩
theorem nX5_rests_150 : Nx mX5_rests 150 (.ireturn) 1 151 := ⟨by decide +kernel, rfl⟩
theorem nX5_home_0 : Nx mX5_home 0 (.aload_n 0) 1 1 := ⟨by decide +kernel, rfl⟩
theorem nX5_home_1 : Nx mX5_home 1 (.getfield 19) 3 4 := ⟨by decide +kernel, rfl⟩
theorem nX5_home_4 : Nx mX5_home 4 (.iload_n 1) 1 5 := ⟨by decide +kernel, rfl⟩
theorem nX5_home_5 : Nx mX5_home 5 (.invokevirtual 116) 3 8 := ⟨by decide +kernel, rfl⟩
theorem nX5_home_8 : Nx mX5_home 8 (.ifCond .ne 5) 3 11 := ⟨by decide +kernel, rfl⟩
theorem nX5_home_11 : Nx mX5_home 11 (.iconst (-1)) 1 12 := ⟨by decide +kernel, rfl⟩
theorem nX5_home_12 : Nx mX5_home 12 (.ireturn) 1 13 := ⟨by decide +kernel, rfl⟩
theorem nX5_home_13 : Nx mX5_home 13 (.iload_n 2) 1 14 := ⟨by decide +kernel, rfl⟩
theorem nX5_home_14 : Nx mX5_home 14 (.ifCond .lt 9) 3 17 := ⟨by decide +kernel, rfl⟩
theorem nX5_home_17 : Nx mX5_home 17 (.iload_n 2) 1 18 := ⟨by decide +kernel, rfl⟩
theorem nX5_home_18 : Nx mX5_home 18 (.bipush 10) 2 20 := ⟨by decide +kernel, rfl⟩
theorem nX5_home_20 : Nx mX5_home 20 (.if_icmp .le 6) 3 23 := ⟨by decide +kernel, rfl⟩
theorem nX5_home_23 : Nx mX5_home 23 (.bipush (-2)) 2 25 := ⟨by decide +kernel, rfl⟩
theorem nX5_home_25 : Nx mX5_home 25 (.ireturn) 1 26 := ⟨by decide +kernel, rfl⟩
theorem nX5_home_26 : Nx mX5_home 26 (.lconst 0) 1 27 := ⟨by decide +kernel, rfl⟩
theorem nX5_home_27 : Nx mX5_home 27 (.lstore 4) 2 29 := ⟨by decide +kernel, rfl⟩
theorem nX5_home_29 : Nx mX5_home 29 (.iconst 0) 1 30 := ⟨by decide +kernel, rfl⟩
theorem nX5_home_30 : Nx mX5_home 30 (.istore 6) 2 32 := ⟨by decide +kernel, rfl⟩
theorem nX5_home_32 : Nx mX5_home 32 (.iload 6) 2 34 := ⟨by decide +kernel, rfl⟩
theorem nX5_home_34 : Nx mX5_home 34 (.aload_n 0) 1 35 := ⟨by decide +kernel, rfl⟩
theorem nX5_home_35 : Nx mX5_home 35 (.getfield 19) 3 38 := ⟨by decide +kernel, rfl⟩
theorem nX5_home_38 : Nx mX5_home 38 (.invokevirtual 108) 3 41 := ⟨by decide +kernel, rfl⟩
theorem nX5_home_41 : Nx mX5_home 41 (.if_icmp .gt 61) 3 44 := ⟨by decide +kernel, rfl⟩
theorem nX5_home_44 : Nx mX5_home 44 (.aload_n 0) 1 45 := ⟨by decide +kernel, rfl⟩
theorem nX5_home_45 : Nx mX5_home 45 (.iload 6) 2 47 := ⟨by decide +kernel, rfl⟩
theorem nX5_home_47 : Nx mX5_home 47 (.invokevirtual 111) 3 50 := ⟨by decide +kernel, rfl⟩
theorem nX5_home_50 : Nx mX5_home 50 (.iload_n 1) 1 51 := ⟨by decide +kernel, rfl⟩
theorem nX5_home_51 : Nx mX5_home 51 (.ishr) 1 52 := ⟨by decide +kernel, rfl⟩
theorem nX5_home_52 : Nx mX5_home 52 (.iconst 1) 1 53 := ⟨by decide +kernel, rfl⟩
theorem nX5_home_53 : Nx mX5_home 53 (.iand) 1 54 := ⟨by decide +kernel, rfl⟩
theorem nX5_home_54 : Nx mX5_home 54 (.iconst 1) 1 55 := ⟨by decide +kernel, rfl⟩
theorem nX5_home_55 : Nx mX5_home 55 (.if_icmp .ne 41) 3 58 := ⟨by decide +kernel, rfl⟩
theorem nX5_home_58 : Nx mX5_home 58 (.iload 6) 2 60 := ⟨by decide +kernel, rfl⟩
theorem nX5_home_60 : Nx mX5_home 60 (.invokestatic 187) 3 63 := ⟨by decide +kernel, rfl⟩
theorem nX5_home_63 : Nx mX5_home 63 (.istore 7) 2 65 := ⟨by decide +kernel, rfl⟩
theorem nX5_home_65 : Nx mX5_home 65 (.lload 4) 2 67 := ⟨by decide +kernel, rfl⟩
theorem nX5_home_67 : Nx mX5_home 67 (.bipush 10) 2 69 := ⟨by decide +kernel, rfl⟩
theorem nX5_home_69 : Nx mX5_home 69 (.iload_n 2) 1 70 := ⟨by decide +kernel, rfl⟩
theorem nX5_home_70 : Nx mX5_home 70 (.isub) 1 71 := ⟨by decide +kernel, rfl⟩
theorem nX5_home_71 : Nx mX5_home 71 (.i2l) 1 72 := ⟨by decide +kernel, rfl⟩
theorem nX5_home_72 : Nx mX5_home 72 (.iload 7) 2 74 := ⟨by decide +kernel, rfl⟩
theorem nX5_home_74 : Nx mX5_home 74 (.invokestatic 230) 3 77 := ⟨by decide +kernel, rfl⟩
theorem nX5_home_77 : Nx mX5_home 77 (.iload_n 2) 1 78 := ⟨by decide +kernel, rfl⟩
theorem nX5_home_78 : Nx mX5_home 78 (.i2l) 1 79 := ⟨by decide +kernel, rfl⟩
theorem nX5_home_79 : Nx mX5_home 79 (.aload_n 0) 1 80 := ⟨by decide +kernel, rfl⟩
theorem nX5_home_80 : Nx mX5_home 80 (.getfield 19) 3 83 := ⟨by decide +kernel, rfl⟩
theorem nX5_home_83 : Nx mX5_home 83 (.getfield 90) 3 86 := ⟨by decide +kernel, rfl⟩
theorem nX5_home_86 : Nx mX5_home 86 (.iload 7) 2 88 := ⟨by decide +kernel, rfl⟩
theorem nX5_home_88 : Nx mX5_home 88 (.isub) 1 89 := ⟨by decide +kernel, rfl⟩
theorem nX5_home_89 : Nx mX5_home 89 (.invokestatic 230) 3 92 := ⟨by decide +kernel, rfl⟩
theorem nX5_home_92 : Nx mX5_home 92 (.lmul) 1 93 := ⟨by decide +kernel, rfl⟩
theorem nX5_home_93 : Nx mX5_home 93 (.ladd) 1 94 := ⟨by decide +kernel, rfl⟩
theorem nX5_home_94 : Nx mX5_home 94 (.lstore 4) 2 96 := ⟨by decide +kernel, rfl⟩
theorem nX5_home_96 : Nx mX5_home 96 (.iinc 6 1) 3 99 := ⟨by decide +kernel, rfl⟩
theorem nX5_home_99 : Nx mX5_home 99 (.goto (-67)) 3 102 := ⟨by decide +kernel, rfl⟩
theorem nX5_home_102 : Nx mX5_home 102 (.lload 4) 2 104 := ⟨by decide +kernel, rfl⟩
theorem nX5_home_104 : Nx mX5_home 104 (.ldc2_w 233) 3 107 := ⟨by decide +kernel, rfl⟩
theorem nX5_home_107 : Nx mX5_home 107 (.aload_n 0) 1 108 := ⟨by decide +kernel, rfl⟩
theorem nX5_home_108 : Nx mX5_home 108 (.getfield 19) 3 111 := ⟨by decide +kernel, rfl⟩
theorem nX5_home_111 : Nx mX5_home 111 (.getfield 90) 3 114 := ⟨by decide +kernel, rfl⟩
theorem nX5_home_114 : Nx mX5_home 114 (.invokestatic 230) 3 117 := ⟨by decide +kernel, rfl⟩
theorem nX5_home_117 : Nx mX5_home 117 (.iload_n 3) 1 118 := ⟨by decide +kernel, rfl⟩
theorem nX5_home_118 : Nx mX5_home 118 (.invokestatic 212) 3 121 := ⟨by decide +kernel, rfl⟩
theorem nX5_home_121 : Nx mX5_home 121 (.ireturn) 1 122 := ⟨by decide +kernel, rfl⟩
theorem nX5_seed_0 : Nx mX5_seed 0 (.aload_n 0) 1 1 := ⟨by decide +kernel, rfl⟩
theorem nX5_seed_1 : Nx mX5_seed 1 (.getfield 61) 3 4 := ⟨by decide +kernel, rfl⟩
theorem nX5_seed_4 : Nx mX5_seed 4 (.lstore_n 3) 1 5 := ⟨by decide +kernel, rfl⟩
theorem nX5_seed_5 : Nx mX5_seed 5 (.aload_n 0) 1 6 := ⟨by decide +kernel, rfl⟩
theorem nX5_seed_6 : Nx mX5_seed 6 (.lload_n 1) 1 7 := ⟨by decide +kernel, rfl⟩
theorem nX5_seed_7 : Nx mX5_seed 7 (.putfield 61) 3 10 := ⟨by decide +kernel, rfl⟩
theorem nX5_seed_10 : Nx mX5_seed 10 (.lload_n 3) 1 11 := ⟨by decide +kernel, rfl⟩
theorem nX5_seed_11 : Nx mX5_seed 11 (.lreturn) 1 12 := ⟨by decide +kernel, rfl⟩
theorem nX5_years_0 : Nx mX5_years 0 (.iload_n 1) 1 1 := ⟨by decide +kernel, rfl⟩
theorem nX5_years_1 : Nx mX5_years 1 (.iconst 1) 1 2 := ⟨by decide +kernel, rfl⟩
theorem nX5_years_2 : Nx mX5_years 2 (.if_icmp .lt 9) 3 5 := ⟨by decide +kernel, rfl⟩
theorem nX5_years_5 : Nx mX5_years 5 (.iload_n 1) 1 6 := ⟨by decide +kernel, rfl⟩
theorem nX5_years_6 : Nx mX5_years 6 (.bipush 30) 2 8 := ⟨by decide +kernel, rfl⟩
theorem nX5_years_8 : Nx mX5_years 8 (.if_icmp .le 6) 3 11 := ⟨by decide +kernel, rfl⟩
theorem nX5_years_11 : Nx mX5_years 11 (.bipush (-2)) 2 13 := ⟨by decide +kernel, rfl⟩
theorem nX5_years_13 : Nx mX5_years 13 (.ireturn) 1 14 := ⟨by decide +kernel, rfl⟩
theorem nX5_years_14 : Nx mX5_years 14 (.aload_n 0) 1 15 := ⟨by decide +kernel, rfl⟩
theorem nX5_years_15 : Nx mX5_years 15 (.getfield 32) 3 18 := ⟨by decide +kernel, rfl⟩
theorem nX5_years_18 : Nx mX5_years 18 (.aload_n 0) 1 19 := ⟨by decide +kernel, rfl⟩
theorem nX5_years_19 : Nx mX5_years 19 (.getfield 28) 3 22 := ⟨by decide +kernel, rfl⟩
theorem nX5_years_22 : Nx mX5_years 22 (.invokevirtual 184) 3 25 := ⟨by decide +kernel, rfl⟩
theorem nX5_years_25 : Nx mX5_years 25 (.iconst 0) 1 26 := ⟨by decide +kernel, rfl⟩
theorem nX5_years_26 : Nx mX5_years 26 (.istore_n 2) 1 27 := ⟨by decide +kernel, rfl⟩
theorem nX5_years_27 : Nx mX5_years 27 (.iconst 0) 1 28 := ⟨by decide +kernel, rfl⟩
theorem nX5_years_28 : Nx mX5_years 28 (.istore_n 3) 1 29 := ⟨by decide +kernel, rfl⟩
theorem nX5_years_29 : Nx mX5_years 29 (.iload_n 3) 1 30 := ⟨by decide +kernel, rfl⟩
theorem nX5_years_30 : Nx mX5_years 30 (.iload_n 1) 1 31 := ⟨by decide +kernel, rfl⟩
theorem nX5_years_31 : Nx mX5_years 31 (.if_icmp .ge 51) 3 34 := ⟨by decide +kernel, rfl⟩
theorem nX5_years_34 : Nx mX5_years 34 (.aload_n 0) 1 35 := ⟨by decide +kernel, rfl⟩
theorem nX5_years_35 : Nx mX5_years 35 (.aload_n 0) 1 36 := ⟨by decide +kernel, rfl⟩
theorem nX5_years_36 : Nx mX5_years 36 (.getfield 61) 3 39 := ⟨by decide +kernel, rfl⟩
theorem nX5_years_39 : Nx mX5_years 39 (.ldc2_w 235) 3 42 := ⟨by decide +kernel, rfl⟩
theorem nX5_years_42 : Nx mX5_years 42 (.lmul) 1 43 := ⟨by decide +kernel, rfl⟩
theorem nX5_years_43 : Nx mX5_years 43 (.ldc2_w 237) 3 46 := ⟨by decide +kernel, rfl⟩
theorem nX5_years_46 : Nx mX5_years 46 (.ladd) 1 47 := ⟨by decide +kernel, rfl⟩
theorem nX5_years_47 : Nx mX5_years 47 (.putfield 61) 3 50 := ⟨by decide +kernel, rfl⟩
theorem nX5_years_50 : Nx mX5_years 50 (.aload_n 0) 1 51 := ⟨by decide +kernel, rfl⟩
theorem nX5_years_51 : Nx mX5_years 51 (.aload_n 0) 1 52 := ⟨by decide +kernel, rfl⟩
theorem nX5_years_52 : Nx mX5_years 52 (.getfield 61) 3 55 := ⟨by decide +kernel, rfl⟩
theorem nX5_years_55 : Nx mX5_years 55 (.bipush 33) 2 57 := ⟨by decide +kernel, rfl⟩
theorem nX5_years_57 : Nx mX5_years 57 (.lushr) 1 58 := ⟨by decide +kernel, rfl⟩
theorem nX5_years_58 : Nx mX5_years 58 (.ldc2_w 239) 3 61 := ⟨by decide +kernel, rfl⟩
theorem nX5_years_61 : Nx mX5_years 61 (.lrem) 1 62 := ⟨by decide +kernel, rfl⟩
theorem nX5_years_62 : Nx mX5_years 62 (.l2i) 1 63 := ⟨by decide +kernel, rfl⟩
theorem nX5_years_63 : Nx mX5_years 63 (.invokevirtual 241) 3 66 := ⟨by decide +kernel, rfl⟩
theorem nX5_years_66 : Nx mX5_years 66 (.iload_n 2) 1 67 := ⟨by decide +kernel, rfl⟩
theorem nX5_years_67 : Nx mX5_years 67 (.aload_n 0) 1 68 := ⟨by decide +kernel, rfl⟩
theorem nX5_years_68 : Nx mX5_years 68 (.getfield 32) 3 71 := ⟨by decide +kernel, rfl⟩
theorem nX5_years_71 : Nx mX5_years 71 (.invokevirtual 96) 3 74 := ⟨by decide +kernel, rfl⟩
theorem nX5_years_74 : Nx mX5_years 74 (.iadd) 1 75 := ⟨by decide +kernel, rfl⟩
theorem nX5_years_75 : Nx mX5_years 75 (.istore_n 2) 1 76 := ⟨by decide +kernel, rfl⟩
theorem nX5_years_76 : Nx mX5_years 76 (.iinc 3 1) 3 79 := ⟨by decide +kernel, rfl⟩
theorem nX5_years_79 : Nx mX5_years 79 (.goto (-50)) 3 82 := ⟨by decide +kernel, rfl⟩
theorem nX5_years_82 : Nx mX5_years 82 (.iload_n 2) 1 83 := ⟨by decide +kernel, rfl⟩
theorem nX5_years_83 : Nx mX5_years 83 (.ireturn) 1 84 := ⟨by decide +kernel, rfl⟩
theorem nX5_keep_0 : Nx mX5_keep 0 (.iload_n 1) 1 1 := ⟨by decide +kernel, rfl⟩
theorem nX5_keep_1 : Nx mX5_keep 1 (.ifCond .lt 8) 3 4 := ⟨by decide +kernel, rfl⟩
theorem nX5_keep_4 : Nx mX5_keep 4 (.iload_n 1) 1 5 := ⟨by decide +kernel, rfl⟩
theorem nX5_keep_5 : Nx mX5_keep 5 (.iconst 2) 1 6 := ⟨by decide +kernel, rfl⟩
theorem nX5_keep_6 : Nx mX5_keep 6 (.if_icmp .lt 5) 3 9 := ⟨by decide +kernel, rfl⟩
theorem nX5_keep_9 : Nx mX5_keep 9 (.iconst (-1)) 1 10 := ⟨by decide +kernel, rfl⟩
theorem nX5_keep_10 : Nx mX5_keep 10 (.ireturn) 1 11 := ⟨by decide +kernel, rfl⟩
theorem nX5_keep_11 : Nx mX5_keep 11 (.aload_n 0) 1 12 := ⟨by decide +kernel, rfl⟩
theorem nX5_keep_12 : Nx mX5_keep 12 (.getfield 49) 3 15 := ⟨by decide +kernel, rfl⟩
theorem nX5_keep_15 : Nx mX5_keep 15 (.iload_n 1) 1 16 := ⟨by decide +kernel, rfl⟩
theorem nX5_keep_16 : Nx mX5_keep 16 (.aaload) 1 17 := ⟨by decide +kernel, rfl⟩
theorem nX5_keep_17 : Nx mX5_keep 17 (.aload_n 0) 1 18 := ⟨by decide +kernel, rfl⟩
theorem nX5_keep_18 : Nx mX5_keep 18 (.getfield 28) 3 21 := ⟨by decide +kernel, rfl⟩
theorem nX5_keep_21 : Nx mX5_keep 21 (.invokevirtual 184) 3 24 := ⟨by decide +kernel, rfl⟩
theorem nX5_keep_24 : Nx mX5_keep 24 (.aload_n 0) 1 25 := ⟨by decide +kernel, rfl⟩
theorem nX5_keep_25 : Nx mX5_keep 25 (.getfield 53) 3 28 := ⟨by decide +kernel, rfl⟩
theorem nX5_keep_28 : Nx mX5_keep 28 (.iload_n 1) 1 29 := ⟨by decide +kernel, rfl⟩
theorem nX5_keep_29 : Nx mX5_keep 29 (.iconst 1) 1 30 := ⟨by decide +kernel, rfl⟩
theorem nX5_keep_30 : Nx mX5_keep 30 (.bastore) 1 31 := ⟨by decide +kernel, rfl⟩
theorem nX5_keep_31 : Nx mX5_keep 31 (.aload_n 0) 1 32 := ⟨by decide +kernel, rfl⟩
theorem nX5_keep_32 : Nx mX5_keep 32 (.getfield 28) 3 35 := ⟨by decide +kernel, rfl⟩
theorem nX5_keep_35 : Nx mX5_keep 35 (.getfield 93) 3 38 := ⟨by decide +kernel, rfl⟩
theorem nX5_keep_38 : Nx mX5_keep 38 (.ireturn) 1 39 := ⟨by decide +kernel, rfl⟩
theorem nX5_again_0 : Nx mX5_again 0 (.iload_n 1) 1 1 := ⟨by decide +kernel, rfl⟩
theorem nX5_again_1 : Nx mX5_again 1 (.ifCond .lt 8) 3 4 := ⟨by decide +kernel, rfl⟩
theorem nX5_again_4 : Nx mX5_again 4 (.iload_n 1) 1 5 := ⟨by decide +kernel, rfl⟩
theorem nX5_again_5 : Nx mX5_again 5 (.iconst 2) 1 6 := ⟨by decide +kernel, rfl⟩
theorem nX5_again_6 : Nx mX5_again 6 (.if_icmp .lt 5) 3 9 := ⟨by decide +kernel, rfl⟩
theorem nX5_again_9 : Nx mX5_again 9 (.iconst (-1)) 1 10 := ⟨by decide +kernel, rfl⟩
theorem nX5_again_10 : Nx mX5_again 10 (.ireturn) 1 11 := ⟨by decide +kernel, rfl⟩
theorem nX5_again_11 : Nx mX5_again 11 (.aload_n 0) 1 12 := ⟨by decide +kernel, rfl⟩
theorem nX5_again_12 : Nx mX5_again 12 (.getfield 53) 3 15 := ⟨by decide +kernel, rfl⟩
theorem nX5_again_15 : Nx mX5_again 15 (.iload_n 1) 1 16 := ⟨by decide +kernel, rfl⟩
theorem nX5_again_16 : Nx mX5_again 16 (.baload) 1 17 := ⟨by decide +kernel, rfl⟩
theorem nX5_again_17 : Nx mX5_again 17 (.ifCond .ne 6) 3 20 := ⟨by decide +kernel, rfl⟩
theorem nX5_again_20 : Nx mX5_again 20 (.bipush (-3)) 2 22 := ⟨by decide +kernel, rfl⟩
theorem nX5_again_22 : Nx mX5_again 22 (.ireturn) 1 23 := ⟨by decide +kernel, rfl⟩
theorem nX5_again_23 : Nx mX5_again 23 (.aload_n 0) 1 24 := ⟨by decide +kernel, rfl⟩
theorem nX5_again_24 : Nx mX5_again 24 (.getfield 28) 3 27 := ⟨by decide +kernel, rfl⟩
theorem nX5_again_27 : Nx mX5_again 27 (.aload_n 0) 1 28 := ⟨by decide +kernel, rfl⟩
theorem nX5_again_28 : Nx mX5_again 28 (.getfield 49) 3 31 := ⟨by decide +kernel, rfl⟩
theorem nX5_again_31 : Nx mX5_again 31 (.iload_n 1) 1 32 := ⟨by decide +kernel, rfl⟩
theorem nX5_again_32 : Nx mX5_again 32 (.aaload) 1 33 := ⟨by decide +kernel, rfl⟩
theorem nX5_again_33 : Nx mX5_again 33 (.invokevirtual 184) 3 36 := ⟨by decide +kernel, rfl⟩
theorem nX5_again_36 : Nx mX5_again 36 (.aload_n 0) 1 37 := ⟨by decide +kernel, rfl⟩
theorem nX5_again_37 : Nx mX5_again 37 (.getfield 38) 3 40 := ⟨by decide +kernel, rfl⟩
theorem nX5_again_40 : Nx mX5_again 40 (.iconst 0) 1 41 := ⟨by decide +kernel, rfl⟩
theorem nX5_again_41 : Nx mX5_again 41 (.putfield 84) 3 44 := ⟨by decide +kernel, rfl⟩
theorem nX5_again_44 : Nx mX5_again 44 (.aload_n 0) 1 45 := ⟨by decide +kernel, rfl⟩
theorem nX5_again_45 : Nx mX5_again 45 (.getfield 28) 3 48 := ⟨by decide +kernel, rfl⟩
theorem nX5_again_48 : Nx mX5_again 48 (.getfield 93) 3 51 := ⟨by decide +kernel, rfl⟩
theorem nX5_again_51 : Nx mX5_again 51 (.ireturn) 1 52 := ⟨by decide +kernel, rfl⟩
theorem nX5_sownIfCome_0 : Nx mX5_sownIfCome 0 (.aload_n 0) 1 1 := ⟨by decide +kernel, rfl⟩
theorem nX5_sownIfCome_1 : Nx mX5_sownIfCome 1 (.getfield 32) 3 4 := ⟨by decide +kernel, rfl⟩
theorem nX5_sownIfCome_4 : Nx mX5_sownIfCome 4 (.aload_n 0) 1 5 := ⟨by decide +kernel, rfl⟩
theorem nX5_sownIfCome_5 : Nx mX5_sownIfCome 5 (.getfield 28) 3 8 := ⟨by decide +kernel, rfl⟩
theorem nX5_sownIfCome_8 : Nx mX5_sownIfCome 8 (.invokevirtual 184) 3 11 := ⟨by decide +kernel, rfl⟩
theorem nX5_sownIfCome_11 : Nx mX5_sownIfCome 11 (.aload_n 0) 1 12 := ⟨by decide +kernel, rfl⟩
theorem nX5_sownIfCome_12 : Nx mX5_sownIfCome 12 (.getfield 32) 3 15 := ⟨by decide +kernel, rfl⟩
theorem nX5_sownIfCome_15 : Nx mX5_sownIfCome 15 (.iload_n 1) 1 16 := ⟨by decide +kernel, rfl⟩
theorem nX5_sownIfCome_16 : Nx mX5_sownIfCome 16 (.invokevirtual 175) 3 19 := ⟨by decide +kernel, rfl⟩
theorem nX5_sownIfCome_19 : Nx mX5_sownIfCome 19 (.aload_n 0) 1 20 := ⟨by decide +kernel, rfl⟩
theorem nX5_sownIfCome_20 : Nx mX5_sownIfCome 20 (.getfield 32) 3 23 := ⟨by decide +kernel, rfl⟩
theorem nX5_sownIfCome_23 : Nx mX5_sownIfCome 23 (.invokevirtual 105) 3 26 := ⟨by decide +kernel, rfl⟩
theorem nX5_sownIfCome_26 : Nx mX5_sownIfCome 26 (.ireturn) 1 27 := ⟨by decide +kernel, rfl⟩
theorem nX5_isSownIfFed_0 : Nx mX5_isSownIfFed 0 (.aload_n 0) 1 1 := ⟨by decide +kernel, rfl⟩
theorem nX5_isSownIfFed_1 : Nx mX5_isSownIfFed 1 (.getfield 32) 3 4 := ⟨by decide +kernel, rfl⟩
theorem nX5_isSownIfFed_4 : Nx mX5_isSownIfFed 4 (.aload_n 0) 1 5 := ⟨by decide +kernel, rfl⟩
theorem nX5_isSownIfFed_5 : Nx mX5_isSownIfFed 5 (.getfield 28) 3 8 := ⟨by decide +kernel, rfl⟩
theorem nX5_isSownIfFed_8 : Nx mX5_isSownIfFed 8 (.invokevirtual 184) 3 11 := ⟨by decide +kernel, rfl⟩
theorem nX5_isSownIfFed_11 : Nx mX5_isSownIfFed 11 (.iconst 0) 1 12 := ⟨by decide +kernel, rfl⟩
theorem nX5_isSownIfFed_12 : Nx mX5_isSownIfFed 12 (.istore_n 3) 1 13 := ⟨by decide +kernel, rfl⟩
theorem nX5_isSownIfFed_13 : Nx mX5_isSownIfFed 13 (.iload_n 3) 1 14 := ⟨by decide +kernel, rfl⟩
theorem nX5_isSownIfFed_14 : Nx mX5_isSownIfFed 14 (.aload_n 0) 1 15 := ⟨by decide +kernel, rfl⟩
theorem nX5_isSownIfFed_15 : Nx mX5_isSownIfFed 15 (.getfield 19) 3 18 := ⟨by decide +kernel, rfl⟩
theorem nX5_isSownIfFed_18 : Nx mX5_isSownIfFed 18 (.getfield 90) 3 21 := ⟨by decide +kernel, rfl⟩
theorem nX5_isSownIfFed_21 : Nx mX5_isSownIfFed 21 (.if_icmp .ge 29) 3 24 := ⟨by decide +kernel, rfl⟩
theorem nX5_isSownIfFed_24 : Nx mX5_isSownIfFed 24 (.iload_n 1) 1 25 := ⟨by decide +kernel, rfl⟩
theorem nX5_isSownIfFed_25 : Nx mX5_isSownIfFed 25 (.iload_n 3) 1 26 := ⟨by decide +kernel, rfl⟩
theorem nX5_isSownIfFed_26 : Nx mX5_isSownIfFed 26 (.ishr) 1 27 := ⟨by decide +kernel, rfl⟩
theorem nX5_isSownIfFed_27 : Nx mX5_isSownIfFed 27 (.iconst 1) 1 28 := ⟨by decide +kernel, rfl⟩
theorem nX5_isSownIfFed_28 : Nx mX5_isSownIfFed 28 (.iand) 1 29 := ⟨by decide +kernel, rfl⟩
theorem nX5_isSownIfFed_29 : Nx mX5_isSownIfFed 29 (.iconst 1) 1 30 := ⟨by decide +kernel, rfl⟩
theorem nX5_isSownIfFed_30 : Nx mX5_isSownIfFed 30 (.if_icmp .ne 14) 3 33 := ⟨by decide +kernel, rfl⟩
theorem nX5_isSownIfFed_33 : Nx mX5_isSownIfFed 33 (.aload_n 0) 1 34 := ⟨by decide +kernel, rfl⟩
theorem nX5_isSownIfFed_34 : Nx mX5_isSownIfFed 34 (.iload_n 3) 1 35 := ⟨by decide +kernel, rfl⟩
theorem nX5_isSownIfFed_35 : Nx mX5_isSownIfFed 35 (.iload_n 2) 1 36 := ⟨by decide +kernel, rfl⟩
theorem nX5_isSownIfFed_36 : Nx mX5_isSownIfFed 36 (.invokevirtual 244) 3 39 := ⟨by decide +kernel, rfl⟩
theorem nX5_isSownIfFed_39 : Nx mX5_isSownIfFed 39 (.ifCond .ne 5) 3 42 := ⟨by decide +kernel, rfl⟩
theorem nX5_isSownIfFed_42 : Nx mX5_isSownIfFed 42 (.iconst 0) 1 43 := ⟨by decide +kernel, rfl⟩
theorem nX5_isSownIfFed_43 : Nx mX5_isSownIfFed 43 (.ireturn) 1 44 := ⟨by decide +kernel, rfl⟩
theorem nX5_isSownIfFed_44 : Nx mX5_isSownIfFed 44 (.iinc 3 1) 3 47 := ⟨by decide +kernel, rfl⟩
theorem nX5_isSownIfFed_47 : Nx mX5_isSownIfFed 47 (.goto (-34)) 3 50 := ⟨by decide +kernel, rfl⟩
theorem nX5_isSownIfFed_50 : Nx mX5_isSownIfFed 50 (.aload_n 0) 1 51 := ⟨by decide +kernel, rfl⟩
theorem nX5_isSownIfFed_51 : Nx mX5_isSownIfFed 51 (.getfield 32) 3 54 := ⟨by decide +kernel, rfl⟩
theorem nX5_isSownIfFed_54 : Nx mX5_isSownIfFed 54 (.aload_n 0) 1 55 := ⟨by decide +kernel, rfl⟩
theorem nX5_isSownIfFed_55 : Nx mX5_isSownIfFed 55 (.getfield 19) 3 58 := ⟨by decide +kernel, rfl⟩
theorem nX5_isSownIfFed_58 : Nx mX5_isSownIfFed 58 (.invokevirtual 108) 3 61 := ⟨by decide +kernel, rfl⟩
theorem nX5_isSownIfFed_61 : Nx mX5_isSownIfFed 61 (.invokevirtual 175) 3 64 := ⟨by decide +kernel, rfl⟩
theorem nX5_isSownIfFed_64 : Nx mX5_isSownIfFed 64 (.aload_n 0) 1 65 := ⟨by decide +kernel, rfl⟩
theorem nX5_isSownIfFed_65 : Nx mX5_isSownIfFed 65 (.getfield 32) 3 68 := ⟨by decide +kernel, rfl⟩
theorem nX5_isSownIfFed_68 : Nx mX5_isSownIfFed 68 (.iload_n 2) 1 69 := ⟨by decide +kernel, rfl⟩
theorem nX5_isSownIfFed_69 : Nx mX5_isSownIfFed 69 (.invokevirtual 247) 3 72 := ⟨by decide +kernel, rfl⟩
theorem nX5_isSownIfFed_72 : Nx mX5_isSownIfFed 72 (.ireturn) 1 73 := ⟨by decide +kernel, rfl⟩
theorem nX5_tryToTake_0 : Nx mX5_tryToTake 0 (.aload_n 0) 1 1 := ⟨by decide +kernel, rfl⟩
theorem nX5_tryToTake_1 : Nx mX5_tryToTake 1 (.getfield 19) 3 4 := ⟨by decide +kernel, rfl⟩
theorem nX5_tryToTake_4 : Nx mX5_tryToTake 4 (.iload_n 1) 1 5 := ⟨by decide +kernel, rfl⟩
theorem nX5_tryToTake_5 : Nx mX5_tryToTake 5 (.invokevirtual 138) 3 8 := ⟨by decide +kernel, rfl⟩
theorem nX5_tryToTake_8 : Nx mX5_tryToTake 8 (.ifCond .eq 26) 3 11 := ⟨by decide +kernel, rfl⟩
theorem nX5_tryToTake_11 : Nx mX5_tryToTake 11 (.aload_n 0) 1 12 := ⟨by decide +kernel, rfl⟩
theorem nX5_tryToTake_12 : Nx mX5_tryToTake 12 (.getfield 19) 3 15 := ⟨by decide +kernel, rfl⟩
theorem nX5_tryToTake_15 : Nx mX5_tryToTake 15 (.iload_n 2) 1 16 := ⟨by decide +kernel, rfl⟩
theorem nX5_tryToTake_16 : Nx mX5_tryToTake 16 (.invokevirtual 116) 3 19 := ⟨by decide +kernel, rfl⟩
theorem nX5_tryToTake_19 : Nx mX5_tryToTake 19 (.ifCond .eq 15) 3 22 := ⟨by decide +kernel, rfl⟩
theorem nX5_tryToTake_22 : Nx mX5_tryToTake 22 (.aload_n 0) 1 23 := ⟨by decide +kernel, rfl⟩
theorem nX5_tryToTake_23 : Nx mX5_tryToTake 23 (.getfield 32) 3 26 := ⟨by decide +kernel, rfl⟩
theorem nX5_tryToTake_26 : Nx mX5_tryToTake 26 (.iload_n 1) 1 27 := ⟨by decide +kernel, rfl⟩
theorem nX5_tryToTake_27 : Nx mX5_tryToTake 27 (.iload_n 2) 1 28 := ⟨by decide +kernel, rfl⟩
theorem nX5_tryToTake_28 : Nx mX5_tryToTake 28 (.invokevirtual 163) 3 31 := ⟨by decide +kernel, rfl⟩
theorem nX5_tryToTake_31 : Nx mX5_tryToTake 31 (.ifCond .ne 5) 3 34 := ⟨by decide +kernel, rfl⟩
theorem nX5_tryToTake_34 : Nx mX5_tryToTake 34 (.iconst 0) 1 35 := ⟨by decide +kernel, rfl⟩
theorem nX5_tryToTake_35 : Nx mX5_tryToTake 35 (.ireturn) 1 36 := ⟨by decide +kernel, rfl⟩
theorem nX5_tryToTake_36 : Nx mX5_tryToTake 36 (.aload_n 0) 1 37 := ⟨by decide +kernel, rfl⟩
theorem nX5_tryToTake_37 : Nx mX5_tryToTake 37 (.getfield 32) 3 40 := ⟨by decide +kernel, rfl⟩
theorem nX5_tryToTake_40 : Nx mX5_tryToTake 40 (.iload_n 1) 1 41 := ⟨by decide +kernel, rfl⟩
theorem nX5_tryToTake_41 : Nx mX5_tryToTake 41 (.iload_n 2) 1 42 := ⟨by decide +kernel, rfl⟩
theorem nX5_tryToTake_42 : Nx mX5_tryToTake 42 (.invokevirtual 171) 3 45 := ⟨by decide +kernel, rfl⟩
theorem nX5_tryToTake_45 : Nx mX5_tryToTake 45 (.iconst 1) 1 46 := ⟨by decide +kernel, rfl⟩
theorem nX5_tryToTake_46 : Nx mX5_tryToTake 46 (.ireturn) 1 47 := ⟨by decide +kernel, rfl⟩
theorem nX5_isSo_0 : Nx mX5_isSo 0 (.iload_n 1) 1 1 := ⟨by decide +kernel, rfl⟩
theorem nX5_isSo_1 : Nx mX5_isSo 1 (.iconst 2) 1 2 := ⟨by decide +kernel, rfl⟩
theorem nX5_isSo_2 : Nx mX5_isSo 2 (.if_icmp .ge 13) 3 5 := ⟨by decide +kernel, rfl⟩
theorem nX5_isSo_5 : Nx mX5_isSo 5 (.iload_n 2) 1 6 := ⟨by decide +kernel, rfl⟩
theorem nX5_isSo_6 : Nx mX5_isSo 6 (.ifCond .ne 7) 3 9 := ⟨by decide +kernel, rfl⟩
theorem nX5_isSo_9 : Nx mX5_isSo 9 (.iload_n 3) 1 10 := ⟨by decide +kernel, rfl⟩
theorem nX5_isSo_10 : Nx mX5_isSo 10 (.ifCond .eq 5) 3 13 := ⟨by decide +kernel, rfl⟩
theorem nX5_isSo_13 : Nx mX5_isSo 13 (.iconst 0) 1 14 := ⟨by decide +kernel, rfl⟩
theorem nX5_isSo_14 : Nx mX5_isSo 14 (.ireturn) 1 15 := ⟨by decide +kernel, rfl⟩
theorem nX5_isSo_15 : Nx mX5_isSo 15 (.iload_n 1) 1 16 := ⟨by decide +kernel, rfl⟩
theorem nX5_isSo_16 : Nx mX5_isSo 16 (.tableswitch 174 0 5 #[40, 56, 65, 72, 104, 134]) 40 56 := ⟨by decide +kernel, rfl⟩
theorem nX5_isSo_56 : Nx mX5_isSo 56 (.aload_n 0) 1 57 := ⟨by decide +kernel, rfl⟩
theorem nX5_isSo_57 : Nx mX5_isSo 57 (.getfield 32) 3 60 := ⟨by decide +kernel, rfl⟩
theorem nX5_isSo_60 : Nx mX5_isSo 60 (.aload_n 0) 1 61 := ⟨by decide +kernel, rfl⟩
theorem nX5_isSo_61 : Nx mX5_isSo 61 (.getfield 19) 3 64 := ⟨by decide +kernel, rfl⟩
theorem nX5_isSo_64 : Nx mX5_isSo 64 (.invokevirtual 108) 3 67 := ⟨by decide +kernel, rfl⟩
theorem nX5_isSo_67 : Nx mX5_isSo 67 (.invokevirtual 175) 3 70 := ⟨by decide +kernel, rfl⟩
theorem nX5_isSo_70 : Nx mX5_isSo 70 (.iconst 1) 1 71 := ⟨by decide +kernel, rfl⟩
theorem nX5_isSo_71 : Nx mX5_isSo 71 (.ireturn) 1 72 := ⟨by decide +kernel, rfl⟩
theorem nX5_isSo_72 : Nx mX5_isSo 72 (.aload_n 0) 1 73 := ⟨by decide +kernel, rfl⟩
theorem nX5_isSo_73 : Nx mX5_isSo 73 (.getfield 32) 3 76 := ⟨by decide +kernel, rfl⟩
theorem nX5_isSo_76 : Nx mX5_isSo 76 (.invokevirtual 178) 3 79 := ⟨by decide +kernel, rfl⟩
theorem nX5_isSo_79 : Nx mX5_isSo 79 (.iconst 1) 1 80 := ⟨by decide +kernel, rfl⟩
theorem nX5_isSo_80 : Nx mX5_isSo 80 (.ireturn) 1 81 := ⟨by decide +kernel, rfl⟩
theorem nX5_isSo_81 : Nx mX5_isSo 81 (.aload_n 0) 1 82 := ⟨by decide +kernel, rfl⟩
theorem nX5_isSo_82 : Nx mX5_isSo 82 (.iload_n 2) 1 83 := ⟨by decide +kernel, rfl⟩
theorem nX5_isSo_83 : Nx mX5_isSo 83 (.iload_n 3) 1 84 := ⟨by decide +kernel, rfl⟩
theorem nX5_isSo_84 : Nx mX5_isSo 84 (.invokevirtual 244) 3 87 := ⟨by decide +kernel, rfl⟩
theorem nX5_isSo_87 : Nx mX5_isSo 87 (.ireturn) 1 88 := ⟨by decide +kernel, rfl⟩
theorem nX5_isSo_88 : Nx mX5_isSo 88 (.iload_n 2) 1 89 := ⟨by decide +kernel, rfl⟩
theorem nX5_isSo_89 : Nx mX5_isSo 89 (.ifCond .ne 29) 3 92 := ⟨by decide +kernel, rfl⟩
theorem nX5_isSo_92 : Nx mX5_isSo 92 (.aload_n 0) 1 93 := ⟨by decide +kernel, rfl⟩
theorem nX5_isSo_93 : Nx mX5_isSo 93 (.getfield 19) 3 96 := ⟨by decide +kernel, rfl⟩
theorem nX5_isSo_96 : Nx mX5_isSo 96 (.iload_n 3) 1 97 := ⟨by decide +kernel, rfl⟩
theorem nX5_isSo_97 : Nx mX5_isSo 97 (.invokevirtual 116) 3 100 := ⟨by decide +kernel, rfl⟩
theorem nX5_isSo_100 : Nx mX5_isSo 100 (.ifCond .eq 18) 3 103 := ⟨by decide +kernel, rfl⟩
theorem nX5_isSo_103 : Nx mX5_isSo 103 (.aload_n 0) 1 104 := ⟨by decide +kernel, rfl⟩
theorem nX5_isSo_104 : Nx mX5_isSo 104 (.getfield 32) 3 107 := ⟨by decide +kernel, rfl⟩
theorem nX5_isSo_107 : Nx mX5_isSo 107 (.iload_n 3) 1 108 := ⟨by decide +kernel, rfl⟩
theorem nX5_isSo_108 : Nx mX5_isSo 108 (.invokevirtual 247) 3 111 := ⟨by decide +kernel, rfl⟩
theorem nX5_isSo_111 : Nx mX5_isSo 111 (.ifCond .eq 7) 3 114 := ⟨by decide +kernel, rfl⟩
theorem nX5_isSo_114 : Nx mX5_isSo 114 (.iconst 1) 1 115 := ⟨by decide +kernel, rfl⟩
theorem nX5_isSo_115 : Nx mX5_isSo 115 (.goto 4) 3 118 := ⟨by decide +kernel, rfl⟩
theorem nX5_isSo_118 : Nx mX5_isSo 118 (.iconst 0) 1 119 := ⟨by decide +kernel, rfl⟩
theorem nX5_isSo_119 : Nx mX5_isSo 119 (.ireturn) 1 120 := ⟨by decide +kernel, rfl⟩
theorem nX5_isSo_120 : Nx mX5_isSo 120 (.aload_n 0) 1 121 := ⟨by decide +kernel, rfl⟩
theorem nX5_isSo_121 : Nx mX5_isSo 121 (.getfield 19) 3 124 := ⟨by decide +kernel, rfl⟩
theorem nX5_isSo_124 : Nx mX5_isSo 124 (.iload_n 2) 1 125 := ⟨by decide +kernel, rfl⟩
theorem nX5_isSo_125 : Nx mX5_isSo 125 (.invokevirtual 116) 3 128 := ⟨by decide +kernel, rfl⟩
theorem nX5_isSo_128 : Nx mX5_isSo 128 (.ifCond .eq 20) 3 131 := ⟨by decide +kernel, rfl⟩
theorem nX5_isSo_131 : Nx mX5_isSo 131 (.aload_n 0) 1 132 := ⟨by decide +kernel, rfl⟩
theorem nX5_isSo_132 : Nx mX5_isSo 132 (.getfield 32) 3 135 := ⟨by decide +kernel, rfl⟩
theorem nX5_isSo_135 : Nx mX5_isSo 135 (.getfield 129) 3 138 := ⟨by decide +kernel, rfl⟩
theorem nX5_isSo_138 : Nx mX5_isSo 138 (.iload_n 2) 1 139 := ⟨by decide +kernel, rfl⟩
theorem nX5_isSo_139 : Nx mX5_isSo 139 (.iaload) 1 140 := ⟨by decide +kernel, rfl⟩
theorem nX5_isSo_140 : Nx mX5_isSo 140 (.iload_n 3) 1 141 := ⟨by decide +kernel, rfl⟩
theorem nX5_isSo_141 : Nx mX5_isSo 141 (.if_icmp .lt 7) 3 144 := ⟨by decide +kernel, rfl⟩
theorem nX5_isSo_144 : Nx mX5_isSo 144 (.iconst 1) 1 145 := ⟨by decide +kernel, rfl⟩
theorem nX5_isSo_145 : Nx mX5_isSo 145 (.goto 4) 3 148 := ⟨by decide +kernel, rfl⟩
theorem nX5_isSo_148 : Nx mX5_isSo 148 (.iconst 0) 1 149 := ⟨by decide +kernel, rfl⟩
theorem nX5_isSo_149 : Nx mX5_isSo 149 (.ireturn) 1 150 := ⟨by decide +kernel, rfl⟩
theorem nX5_isSo_150 : Nx mX5_isSo 150 (.aload_n 0) 1 151 := ⟨by decide +kernel, rfl⟩
theorem nX5_isSo_151 : Nx mX5_isSo 151 (.getfield 19) 3 154 := ⟨by decide +kernel, rfl⟩
theorem nX5_isSo_154 : Nx mX5_isSo 154 (.iload_n 2) 1 155 := ⟨by decide +kernel, rfl⟩
theorem nX5_isSo_155 : Nx mX5_isSo 155 (.invokevirtual 138) 3 158 := ⟨by decide +kernel, rfl⟩
theorem nX5_isSo_158 : Nx mX5_isSo 158 (.ifCond .eq 30) 3 161 := ⟨by decide +kernel, rfl⟩
theorem nX5_isSo_161 : Nx mX5_isSo 161 (.aload_n 0) 1 162 := ⟨by decide +kernel, rfl⟩
theorem nX5_isSo_162 : Nx mX5_isSo 162 (.getfield 19) 3 165 := ⟨by decide +kernel, rfl⟩
theorem nX5_isSo_165 : Nx mX5_isSo 165 (.iload_n 3) 1 166 := ⟨by decide +kernel, rfl⟩
theorem nX5_isSo_166 : Nx mX5_isSo 166 (.invokevirtual 116) 3 169 := ⟨by decide +kernel, rfl⟩
theorem nX5_isSo_169 : Nx mX5_isSo 169 (.ifCond .eq 19) 3 172 := ⟨by decide +kernel, rfl⟩
theorem nX5_isSo_172 : Nx mX5_isSo 172 (.aload_n 0) 1 173 := ⟨by decide +kernel, rfl⟩
theorem nX5_isSo_173 : Nx mX5_isSo 173 (.getfield 32) 3 176 := ⟨by decide +kernel, rfl⟩
theorem nX5_isSo_176 : Nx mX5_isSo 176 (.iload_n 2) 1 177 := ⟨by decide +kernel, rfl⟩
theorem nX5_isSo_177 : Nx mX5_isSo 177 (.iload_n 3) 1 178 := ⟨by decide +kernel, rfl⟩
theorem nX5_isSo_178 : Nx mX5_isSo 178 (.invokevirtual 159) 3 181 := ⟨by decide +kernel, rfl⟩
theorem nX5_isSo_181 : Nx mX5_isSo 181 (.ifCond .le 7) 3 184 := ⟨by decide +kernel, rfl⟩
theorem nX5_isSo_184 : Nx mX5_isSo 184 (.iconst 1) 1 185 := ⟨by decide +kernel, rfl⟩
theorem nX5_isSo_185 : Nx mX5_isSo 185 (.goto 4) 3 188 := ⟨by decide +kernel, rfl⟩
theorem nX5_isSo_188 : Nx mX5_isSo 188 (.iconst 0) 1 189 := ⟨by decide +kernel, rfl⟩
theorem nX5_isSo_189 : Nx mX5_isSo 189 (.ireturn) 1 190 := ⟨by decide +kernel, rfl⟩
theorem nX5_isSo_190 : Nx mX5_isSo 190 (.iconst 0) 1 191 := ⟨by decide +kernel, rfl⟩
theorem nX5_isSo_191 : Nx mX5_isSo 191 (.ireturn) 1 192 := ⟨by decide +kernel, rfl⟩
theorem nX5_playPair_0 : Nx mX5_playPair 0 (.aload_n 0) 1 1 := ⟨by decide +kernel, rfl⟩
theorem nX5_playPair_1 : Nx mX5_playPair 1 (.getfield 32) 3 4 := ⟨by decide +kernel, rfl⟩
theorem nX5_playPair_4 : Nx mX5_playPair 4 (.aload_n 0) 1 5 := ⟨by decide +kernel, rfl⟩
theorem nX5_playPair_5 : Nx mX5_playPair 5 (.getfield 28) 3 8 := ⟨by decide +kernel, rfl⟩
theorem nX5_playPair_8 : Nx mX5_playPair 8 (.invokevirtual 184) 3 11 := ⟨by decide +kernel, rfl⟩
theorem nX5_playPair_11 : Nx mX5_playPair 11 (.iload_n 1) 1 12 := ⟨by decide +kernel, rfl⟩
theorem nX5_playPair_12 : Nx mX5_playPair 12 (.iconst 1) 1 13 := ⟨by decide +kernel, rfl⟩
theorem nX5_playPair_13 : Nx mX5_playPair 13 (.ishr) 1 14 := ⟨by decide +kernel, rfl⟩
theorem nX5_playPair_14 : Nx mX5_playPair 14 (.iconst 1) 1 15 := ⟨by decide +kernel, rfl⟩
theorem nX5_playPair_15 : Nx mX5_playPair 15 (.if_icmp .ne 17) 3 18 := ⟨by decide +kernel, rfl⟩
theorem nX5_playPair_18 : Nx mX5_playPair 18 (.aload_n 0) 1 19 := ⟨by decide +kernel, rfl⟩
theorem nX5_playPair_19 : Nx mX5_playPair 19 (.iload_n 2) 1 20 := ⟨by decide +kernel, rfl⟩
theorem nX5_playPair_20 : Nx mX5_playPair 20 (.iload 4) 2 22 := ⟨by decide +kernel, rfl⟩
theorem nX5_playPair_22 : Nx mX5_playPair 22 (.invokevirtual 244) 3 25 := ⟨by decide +kernel, rfl⟩
theorem nX5_playPair_25 : Nx mX5_playPair 25 (.ifCond .eq 7) 3 28 := ⟨by decide +kernel, rfl⟩
theorem nX5_playPair_28 : Nx mX5_playPair 28 (.iconst 1) 1 29 := ⟨by decide +kernel, rfl⟩
theorem nX5_playPair_29 : Nx mX5_playPair 29 (.goto 4) 3 32 := ⟨by decide +kernel, rfl⟩
theorem nX5_playPair_32 : Nx mX5_playPair 32 (.iconst 0) 1 33 := ⟨by decide +kernel, rfl⟩
theorem nX5_playPair_33 : Nx mX5_playPair 33 (.istore 5) 2 35 := ⟨by decide +kernel, rfl⟩
theorem nX5_playPair_35 : Nx mX5_playPair 35 (.iload_n 1) 1 36 := ⟨by decide +kernel, rfl⟩
theorem nX5_playPair_36 : Nx mX5_playPair 36 (.iconst 1) 1 37 := ⟨by decide +kernel, rfl⟩
theorem nX5_playPair_37 : Nx mX5_playPair 37 (.iand) 1 38 := ⟨by decide +kernel, rfl⟩
theorem nX5_playPair_38 : Nx mX5_playPair 38 (.iconst 1) 1 39 := ⟨by decide +kernel, rfl⟩
theorem nX5_playPair_39 : Nx mX5_playPair 39 (.if_icmp .ne 17) 3 42 := ⟨by decide +kernel, rfl⟩
theorem nX5_playPair_42 : Nx mX5_playPair 42 (.aload_n 0) 1 43 := ⟨by decide +kernel, rfl⟩
theorem nX5_playPair_43 : Nx mX5_playPair 43 (.iload_n 3) 1 44 := ⟨by decide +kernel, rfl⟩
theorem nX5_playPair_44 : Nx mX5_playPair 44 (.iload 4) 2 46 := ⟨by decide +kernel, rfl⟩
theorem nX5_playPair_46 : Nx mX5_playPair 46 (.invokevirtual 244) 3 49 := ⟨by decide +kernel, rfl⟩
theorem nX5_playPair_49 : Nx mX5_playPair 49 (.ifCond .eq 7) 3 52 := ⟨by decide +kernel, rfl⟩
theorem nX5_playPair_52 : Nx mX5_playPair 52 (.iconst 1) 1 53 := ⟨by decide +kernel, rfl⟩
theorem nX5_playPair_53 : Nx mX5_playPair 53 (.goto 4) 3 56 := ⟨by decide +kernel, rfl⟩
theorem nX5_playPair_56 : Nx mX5_playPair 56 (.iconst 0) 1 57 := ⟨by decide +kernel, rfl⟩
theorem nX5_playPair_57 : Nx mX5_playPair 57 (.istore 6) 2 59 := ⟨by decide +kernel, rfl⟩
theorem nX5_playPair_59 : Nx mX5_playPair 59 (.aload_n 0) 1 60 := ⟨by decide +kernel, rfl⟩
theorem nX5_playPair_60 : Nx mX5_playPair 60 (.getfield 32) 3 63 := ⟨by decide +kernel, rfl⟩
theorem nX5_playPair_63 : Nx mX5_playPair 63 (.aload_n 0) 1 64 := ⟨by decide +kernel, rfl⟩
theorem nX5_playPair_64 : Nx mX5_playPair 64 (.getfield 19) 3 67 := ⟨by decide +kernel, rfl⟩
theorem nX5_playPair_67 : Nx mX5_playPair 67 (.invokevirtual 108) 3 70 := ⟨by decide +kernel, rfl⟩
theorem nX5_playPair_70 : Nx mX5_playPair 70 (.invokevirtual 175) 3 73 := ⟨by decide +kernel, rfl⟩
theorem nX5_playPair_73 : Nx mX5_playPair 73 (.aload_n 0) 1 74 := ⟨by decide +kernel, rfl⟩
theorem nX5_playPair_74 : Nx mX5_playPair 74 (.getfield 32) 3 77 := ⟨by decide +kernel, rfl⟩
theorem nX5_playPair_77 : Nx mX5_playPair 77 (.iload 4) 2 79 := ⟨by decide +kernel, rfl⟩
theorem nX5_playPair_79 : Nx mX5_playPair 79 (.invokevirtual 247) 3 82 := ⟨by decide +kernel, rfl⟩
theorem nX5_playPair_82 : Nx mX5_playPair 82 (.ifCond .eq 7) 3 85 := ⟨by decide +kernel, rfl⟩
theorem nX5_playPair_85 : Nx mX5_playPair 85 (.iconst 3) 1 86 := ⟨by decide +kernel, rfl⟩
theorem nX5_playPair_86 : Nx mX5_playPair 86 (.goto 4) 3 89 := ⟨by decide +kernel, rfl⟩
theorem nX5_playPair_89 : Nx mX5_playPair 89 (.iconst 0) 1 90 := ⟨by decide +kernel, rfl⟩
theorem nX5_playPair_90 : Nx mX5_playPair 90 (.istore 7) 2 92 := ⟨by decide +kernel, rfl⟩
theorem nX5_playPair_92 : Nx mX5_playPair 92 (.aload_n 0) 1 93 := ⟨by decide +kernel, rfl⟩
theorem nX5_playPair_93 : Nx mX5_playPair 93 (.getfield 57) 3 96 := ⟨by decide +kernel, rfl⟩
theorem nX5_playPair_96 : Nx mX5_playPair 96 (.iconst 2) 1 97 := ⟨by decide +kernel, rfl⟩
theorem nX5_playPair_97 : Nx mX5_playPair 97 (.iload_n 1) 1 98 := ⟨by decide +kernel, rfl⟩
theorem nX5_playPair_98 : Nx mX5_playPair 98 (.imul) 1 99 := ⟨by decide +kernel, rfl⟩
theorem nX5_playPair_99 : Nx mX5_playPair 99 (.iload 7) 2 101 := ⟨by decide +kernel, rfl⟩
theorem nX5_playPair_101 : Nx mX5_playPair 101 (.iload 5) 2 103 := ⟨by decide +kernel, rfl⟩
theorem nX5_playPair_103 : Nx mX5_playPair 103 (.ifCond .eq 7) 3 106 := ⟨by decide +kernel, rfl⟩
theorem nX5_playPair_106 : Nx mX5_playPair 106 (.iconst 4) 1 107 := ⟨by decide +kernel, rfl⟩
theorem nX5_playPair_107 : Nx mX5_playPair 107 (.goto 4) 3 110 := ⟨by decide +kernel, rfl⟩
theorem nX5_playPair_110 : Nx mX5_playPair 110 (.iconst 0) 1 111 := ⟨by decide +kernel, rfl⟩
theorem nX5_playPair_111 : Nx mX5_playPair 111 (.iadd) 1 112 := ⟨by decide +kernel, rfl⟩
theorem nX5_playPair_112 : Nx mX5_playPair 112 (.aload_n 0) 1 113 := ⟨by decide +kernel, rfl⟩
theorem nX5_playPair_113 : Nx mX5_playPair 113 (.getfield 32) 3 116 := ⟨by decide +kernel, rfl⟩
theorem nX5_playPair_116 : Nx mX5_playPair 116 (.getfield 156) 3 119 := ⟨by decide +kernel, rfl⟩
theorem nX5_playPair_119 : Nx mX5_playPair 119 (.iload_n 2) 1 120 := ⟨by decide +kernel, rfl⟩
theorem nX5_playPair_120 : Nx mX5_playPair 120 (.iaload) 1 121 := ⟨by decide +kernel, rfl⟩
theorem nX5_playPair_121 : Nx mX5_playPair 121 (.isub) 1 122 := ⟨by decide +kernel, rfl⟩
theorem nX5_playPair_122 : Nx mX5_playPair 122 (.iastore) 1 123 := ⟨by decide +kernel, rfl⟩
theorem nX5_playPair_123 : Nx mX5_playPair 123 (.aload_n 0) 1 124 := ⟨by decide +kernel, rfl⟩
theorem nX5_playPair_124 : Nx mX5_playPair 124 (.getfield 57) 3 127 := ⟨by decide +kernel, rfl⟩
theorem nX5_playPair_127 : Nx mX5_playPair 127 (.iconst 2) 1 128 := ⟨by decide +kernel, rfl⟩
theorem nX5_playPair_128 : Nx mX5_playPair 128 (.iload_n 1) 1 129 := ⟨by decide +kernel, rfl⟩
theorem nX5_playPair_129 : Nx mX5_playPair 129 (.imul) 1 130 := ⟨by decide +kernel, rfl⟩
theorem nX5_playPair_130 : Nx mX5_playPair 130 (.iconst 1) 1 131 := ⟨by decide +kernel, rfl⟩
theorem nX5_playPair_131 : Nx mX5_playPair 131 (.iadd) 1 132 := ⟨by decide +kernel, rfl⟩
theorem nX5_playPair_132 : Nx mX5_playPair 132 (.iload 7) 2 134 := ⟨by decide +kernel, rfl⟩
theorem nX5_playPair_134 : Nx mX5_playPair 134 (.iload 6) 2 136 := ⟨by decide +kernel, rfl⟩
theorem nX5_playPair_136 : Nx mX5_playPair 136 (.ifCond .eq 7) 3 139 := ⟨by decide +kernel, rfl⟩
theorem nX5_playPair_139 : Nx mX5_playPair 139 (.iconst 4) 1 140 := ⟨by decide +kernel, rfl⟩
theorem nX5_playPair_140 : Nx mX5_playPair 140 (.goto 4) 3 143 := ⟨by decide +kernel, rfl⟩
theorem nX5_playPair_143 : Nx mX5_playPair 143 (.iconst 0) 1 144 := ⟨by decide +kernel, rfl⟩
theorem nX5_playPair_144 : Nx mX5_playPair 144 (.iadd) 1 145 := ⟨by decide +kernel, rfl⟩
theorem nX5_playPair_145 : Nx mX5_playPair 145 (.aload_n 0) 1 146 := ⟨by decide +kernel, rfl⟩
theorem nX5_playPair_146 : Nx mX5_playPair 146 (.getfield 32) 3 149 := ⟨by decide +kernel, rfl⟩
theorem nX5_playPair_149 : Nx mX5_playPair 149 (.getfield 156) 3 152 := ⟨by decide +kernel, rfl⟩
theorem nX5_playPair_152 : Nx mX5_playPair 152 (.iload_n 3) 1 153 := ⟨by decide +kernel, rfl⟩
theorem nX5_playPair_153 : Nx mX5_playPair 153 (.iaload) 1 154 := ⟨by decide +kernel, rfl⟩
theorem nX5_playPair_154 : Nx mX5_playPair 154 (.isub) 1 155 := ⟨by decide +kernel, rfl⟩
theorem nX5_playPair_155 : Nx mX5_playPair 155 (.iastore) 1 156 := ⟨by decide +kernel, rfl⟩
theorem nX5_playPair_156 : Nx mX5_playPair 156 (.return_) 1 157 := ⟨by decide +kernel, rfl⟩
theorem nX5_isAtRest_0 : Nx mX5_isAtRest 0 (.iload_n 1) 1 1 := ⟨by decide +kernel, rfl⟩
theorem nX5_isAtRest_1 : Nx mX5_isAtRest 1 (.iconst 2) 1 2 := ⟨by decide +kernel, rfl⟩
theorem nX5_isAtRest_2 : Nx mX5_isAtRest 2 (.ixor) 1 3 := ⟨by decide +kernel, rfl⟩
theorem nX5_isAtRest_3 : Nx mX5_isAtRest 3 (.istore_n 2) 1 4 := ⟨by decide +kernel, rfl⟩
theorem nX5_isAtRest_4 : Nx mX5_isAtRest 4 (.iload_n 1) 1 5 := ⟨by decide +kernel, rfl⟩
theorem nX5_isAtRest_5 : Nx mX5_isAtRest 5 (.iconst 1) 1 6 := ⟨by decide +kernel, rfl⟩
theorem nX5_isAtRest_6 : Nx mX5_isAtRest 6 (.ixor) 1 7 := ⟨by decide +kernel, rfl⟩
theorem nX5_isAtRest_7 : Nx mX5_isAtRest 7 (.istore_n 3) 1 8 := ⟨by decide +kernel, rfl⟩
theorem nX5_isAtRest_8 : Nx mX5_isAtRest 8 (.aload_n 0) 1 9 := ⟨by decide +kernel, rfl⟩
theorem nX5_isAtRest_9 : Nx mX5_isAtRest 9 (.getfield 57) 3 12 := ⟨by decide +kernel, rfl⟩
theorem nX5_isAtRest_12 : Nx mX5_isAtRest 12 (.iconst 2) 1 13 := ⟨by decide +kernel, rfl⟩
theorem nX5_isAtRest_13 : Nx mX5_isAtRest 13 (.iload_n 1) 1 14 := ⟨by decide +kernel, rfl⟩
theorem nX5_isAtRest_14 : Nx mX5_isAtRest 14 (.imul) 1 15 := ⟨by decide +kernel, rfl⟩
theorem nX5_isAtRest_15 : Nx mX5_isAtRest 15 (.iaload) 1 16 := ⟨by decide +kernel, rfl⟩
theorem nX5_isAtRest_16 : Nx mX5_isAtRest 16 (.aload_n 0) 1 17 := ⟨by decide +kernel, rfl⟩
theorem nX5_isAtRest_17 : Nx mX5_isAtRest 17 (.getfield 57) 3 20 := ⟨by decide +kernel, rfl⟩
theorem nX5_isAtRest_20 : Nx mX5_isAtRest 20 (.iconst 2) 1 21 := ⟨by decide +kernel, rfl⟩
theorem nX5_isAtRest_21 : Nx mX5_isAtRest 21 (.iload_n 2) 1 22 := ⟨by decide +kernel, rfl⟩
theorem nX5_isAtRest_22 : Nx mX5_isAtRest 22 (.imul) 1 23 := ⟨by decide +kernel, rfl⟩
theorem nX5_isAtRest_23 : Nx mX5_isAtRest 23 (.iaload) 1 24 := ⟨by decide +kernel, rfl⟩
theorem nX5_isAtRest_24 : Nx mX5_isAtRest 24 (.if_icmp .lt 30) 3 27 := ⟨by decide +kernel, rfl⟩
theorem nX5_isAtRest_27 : Nx mX5_isAtRest 27 (.aload_n 0) 1 28 := ⟨by decide +kernel, rfl⟩
theorem nX5_isAtRest_28 : Nx mX5_isAtRest 28 (.getfield 57) 3 31 := ⟨by decide +kernel, rfl⟩
theorem nX5_isAtRest_31 : Nx mX5_isAtRest 31 (.iconst 2) 1 32 := ⟨by decide +kernel, rfl⟩
theorem nX5_isAtRest_32 : Nx mX5_isAtRest 32 (.iload_n 1) 1 33 := ⟨by decide +kernel, rfl⟩
theorem nX5_isAtRest_33 : Nx mX5_isAtRest 33 (.imul) 1 34 := ⟨by decide +kernel, rfl⟩
theorem nX5_isAtRest_34 : Nx mX5_isAtRest 34 (.iconst 1) 1 35 := ⟨by decide +kernel, rfl⟩
theorem nX5_isAtRest_35 : Nx mX5_isAtRest 35 (.iadd) 1 36 := ⟨by decide +kernel, rfl⟩
theorem nX5_isAtRest_36 : Nx mX5_isAtRest 36 (.iaload) 1 37 := ⟨by decide +kernel, rfl⟩
theorem nX5_isAtRest_37 : Nx mX5_isAtRest 37 (.aload_n 0) 1 38 := ⟨by decide +kernel, rfl⟩
theorem nX5_isAtRest_38 : Nx mX5_isAtRest 38 (.getfield 57) 3 41 := ⟨by decide +kernel, rfl⟩
theorem nX5_isAtRest_41 : Nx mX5_isAtRest 41 (.iconst 2) 1 42 := ⟨by decide +kernel, rfl⟩
theorem nX5_isAtRest_42 : Nx mX5_isAtRest 42 (.iload_n 3) 1 43 := ⟨by decide +kernel, rfl⟩
theorem nX5_isAtRest_43 : Nx mX5_isAtRest 43 (.imul) 1 44 := ⟨by decide +kernel, rfl⟩
theorem nX5_isAtRest_44 : Nx mX5_isAtRest 44 (.iconst 1) 1 45 := ⟨by decide +kernel, rfl⟩
theorem nX5_isAtRest_45 : Nx mX5_isAtRest 45 (.iadd) 1 46 := ⟨by decide +kernel, rfl⟩
theorem nX5_isAtRest_46 : Nx mX5_isAtRest 46 (.iaload) 1 47 := ⟨by decide +kernel, rfl⟩
theorem nX5_isAtRest_47 : Nx mX5_isAtRest 47 (.if_icmp .lt 7) 3 50 := ⟨by decide +kernel, rfl⟩
theorem nX5_isAtRest_50 : Nx mX5_isAtRest 50 (.iconst 1) 1 51 := ⟨by decide +kernel, rfl⟩
theorem nX5_isAtRest_51 : Nx mX5_isAtRest 51 (.goto 4) 3 54 := ⟨by decide +kernel, rfl⟩
theorem nX5_isAtRest_54 : Nx mX5_isAtRest 54 (.iconst 0) 1 55 := ⟨by decide +kernel, rfl⟩
theorem nX5_isAtRest_55 : Nx mX5_isAtRest 55 (.ireturn) 1 56 := ⟨by decide +kernel, rfl⟩
theorem nX5_doByLot_0 : Nx mX5_doByLot 0 (.iload_n 1) 1 1 := ⟨by decide +kernel, rfl⟩
theorem nX5_doByLot_1 : Nx mX5_doByLot 1 (.bipush 20) 2 3 := ⟨by decide +kernel, rfl⟩
theorem nX5_doByLot_3 : Nx mX5_doByLot 3 (.if_icmp .ge 17) 3 6 := ⟨by decide +kernel, rfl⟩
theorem nX5_doByLot_6 : Nx mX5_doByLot 6 (.aload_n 0) 1 7 := ⟨by decide +kernel, rfl⟩
theorem nX5_doByLot_7 : Nx mX5_doByLot 7 (.iload_n 1) 1 8 := ⟨by decide +kernel, rfl⟩
theorem nX5_doByLot_8 : Nx mX5_doByLot 8 (.iconst 4) 1 9 := ⟨by decide +kernel, rfl⟩
theorem nX5_doByLot_9 : Nx mX5_doByLot 9 (.idiv) 1 10 := ⟨by decide +kernel, rfl⟩
theorem nX5_doByLot_10 : Nx mX5_doByLot 10 (.iload_n 1) 1 11 := ⟨by decide +kernel, rfl⟩
theorem nX5_doByLot_11 : Nx mX5_doByLot 11 (.iconst 4) 1 12 := ⟨by decide +kernel, rfl⟩
theorem nX5_doByLot_12 : Nx mX5_doByLot 12 (.irem) 1 13 := ⟨by decide +kernel, rfl⟩
theorem nX5_doByLot_13 : Nx mX5_doByLot 13 (.invokevirtual 244) 3 16 := ⟨by decide +kernel, rfl⟩
theorem nX5_doByLot_16 : Nx mX5_doByLot 16 (.pop) 1 17 := ⟨by decide +kernel, rfl⟩
theorem nX5_doByLot_17 : Nx mX5_doByLot 17 (.goto 33) 3 20 := ⟨by decide +kernel, rfl⟩
theorem nX5_doByLot_20 : Nx mX5_doByLot 20 (.iload_n 1) 1 21 := ⟨by decide +kernel, rfl⟩
theorem nX5_doByLot_21 : Nx mX5_doByLot 21 (.bipush 25) 2 23 := ⟨by decide +kernel, rfl⟩
theorem nX5_doByLot_23 : Nx mX5_doByLot 23 (.if_icmp .ge 20) 3 26 := ⟨by decide +kernel, rfl⟩
theorem nX5_doByLot_26 : Nx mX5_doByLot 26 (.aload_n 0) 1 27 := ⟨by decide +kernel, rfl⟩
theorem nX5_doByLot_27 : Nx mX5_doByLot 27 (.getfield 32) 3 30 := ⟨by decide +kernel, rfl⟩
theorem nX5_doByLot_30 : Nx mX5_doByLot 30 (.aload_n 0) 1 31 := ⟨by decide +kernel, rfl⟩
theorem nX5_doByLot_31 : Nx mX5_doByLot 31 (.getfield 19) 3 34 := ⟨by decide +kernel, rfl⟩
theorem nX5_doByLot_34 : Nx mX5_doByLot 34 (.invokevirtual 108) 3 37 := ⟨by decide +kernel, rfl⟩
theorem nX5_doByLot_37 : Nx mX5_doByLot 37 (.invokevirtual 175) 3 40 := ⟨by decide +kernel, rfl⟩
theorem nX5_doByLot_40 : Nx mX5_doByLot 40 (.goto 10) 3 43 := ⟨by decide +kernel, rfl⟩
theorem nX5_doByLot_43 : Nx mX5_doByLot 43 (.aload_n 0) 1 44 := ⟨by decide +kernel, rfl⟩
theorem nX5_doByLot_44 : Nx mX5_doByLot 44 (.getfield 32) 3 47 := ⟨by decide +kernel, rfl⟩
theorem nX5_doByLot_47 : Nx mX5_doByLot 47 (.invokevirtual 178) 3 50 := ⟨by decide +kernel, rfl⟩
theorem nX5_doByLot_50 : Nx mX5_doByLot 50 (.return_) 1 51 := ⟨by decide +kernel, rfl⟩
theorem nX5_withoutLast_0 : Nx mX5_withoutLast 0 (.lload_n 0) 1 1 := ⟨by decide +kernel, rfl⟩
theorem nX5_withoutLast_1 : Nx mX5_withoutLast 1 (.lstore_n 3) 1 2 := ⟨by decide +kernel, rfl⟩
theorem nX5_withoutLast_2 : Nx mX5_withoutLast 2 (.iconst 0) 1 3 := ⟨by decide +kernel, rfl⟩
theorem nX5_withoutLast_3 : Nx mX5_withoutLast 3 (.istore 5) 2 5 := ⟨by decide +kernel, rfl⟩
theorem nX5_withoutLast_5 : Nx mX5_withoutLast 5 (.iload 5) 2 7 := ⟨by decide +kernel, rfl⟩
theorem nX5_withoutLast_7 : Nx mX5_withoutLast 7 (.iload_n 2) 1 8 := ⟨by decide +kernel, rfl⟩
theorem nX5_withoutLast_8 : Nx mX5_withoutLast 8 (.if_icmp .ge 15) 3 11 := ⟨by decide +kernel, rfl⟩
theorem nX5_withoutLast_11 : Nx mX5_withoutLast 11 (.lload_n 3) 1 12 := ⟨by decide +kernel, rfl⟩
theorem nX5_withoutLast_12 : Nx mX5_withoutLast 12 (.ldc2_w 202) 3 15 := ⟨by decide +kernel, rfl⟩
theorem nX5_withoutLast_15 : Nx mX5_withoutLast 15 (.ldiv) 1 16 := ⟨by decide +kernel, rfl⟩
theorem nX5_withoutLast_16 : Nx mX5_withoutLast 16 (.lstore_n 3) 1 17 := ⟨by decide +kernel, rfl⟩
theorem nX5_withoutLast_17 : Nx mX5_withoutLast 17 (.iinc 5 1) 3 20 := ⟨by decide +kernel, rfl⟩
theorem nX5_withoutLast_20 : Nx mX5_withoutLast 20 (.goto (-15)) 3 23 := ⟨by decide +kernel, rfl⟩
theorem nX5_withoutLast_23 : Nx mX5_withoutLast 23 (.lload_n 3) 1 24 := ⟨by decide +kernel, rfl⟩
theorem nX5_withoutLast_24 : Nx mX5_withoutLast 24 (.lreturn) 1 25 := ⟨by decide +kernel, rfl⟩
theorem nX5_ordersOf_0 : Nx mX5_ordersOf 0 (.lconst 1) 1 1 := ⟨by decide +kernel, rfl⟩
theorem nX5_ordersOf_1 : Nx mX5_ordersOf 1 (.lstore_n 1) 1 2 := ⟨by decide +kernel, rfl⟩
theorem nX5_ordersOf_2 : Nx mX5_ordersOf 2 (.iconst 2) 1 3 := ⟨by decide +kernel, rfl⟩
theorem nX5_ordersOf_3 : Nx mX5_ordersOf 3 (.istore_n 3) 1 4 := ⟨by decide +kernel, rfl⟩
theorem nX5_ordersOf_4 : Nx mX5_ordersOf 4 (.iload_n 3) 1 5 := ⟨by decide +kernel, rfl⟩
theorem nX5_ordersOf_5 : Nx mX5_ordersOf 5 (.iload_n 0) 1 6 := ⟨by decide +kernel, rfl⟩
theorem nX5_ordersOf_6 : Nx mX5_ordersOf 6 (.if_icmp .gt 14) 3 9 := ⟨by decide +kernel, rfl⟩
theorem nX5_ordersOf_9 : Nx mX5_ordersOf 9 (.lload_n 1) 1 10 := ⟨by decide +kernel, rfl⟩
theorem nX5_ordersOf_10 : Nx mX5_ordersOf 10 (.iload_n 3) 1 11 := ⟨by decide +kernel, rfl⟩
theorem nX5_ordersOf_11 : Nx mX5_ordersOf 11 (.i2l) 1 12 := ⟨by decide +kernel, rfl⟩
theorem nX5_ordersOf_12 : Nx mX5_ordersOf 12 (.lmul) 1 13 := ⟨by decide +kernel, rfl⟩
theorem nX5_ordersOf_13 : Nx mX5_ordersOf 13 (.lstore_n 1) 1 14 := ⟨by decide +kernel, rfl⟩
theorem nX5_ordersOf_14 : Nx mX5_ordersOf 14 (.iinc 3 1) 3 17 := ⟨by decide +kernel, rfl⟩
theorem nX5_ordersOf_17 : Nx mX5_ordersOf 17 (.goto (-13)) 3 20 := ⟨by decide +kernel, rfl⟩
theorem nX5_ordersOf_20 : Nx mX5_ordersOf 20 (.lload_n 1) 1 21 := ⟨by decide +kernel, rfl⟩
theorem nX5_ordersOf_21 : Nx mX5_ordersOf 21 (.lreturn) 1 22 := ⟨by decide +kernel, rfl⟩
theorem nX5_power_0 : Nx mX5_power 0 (.lconst 1) 1 1 := ⟨by decide +kernel, rfl⟩
theorem nX5_power_1 : Nx mX5_power 1 (.lstore_n 3) 1 2 := ⟨by decide +kernel, rfl⟩
theorem nX5_power_2 : Nx mX5_power 2 (.iconst 0) 1 3 := ⟨by decide +kernel, rfl⟩
theorem nX5_power_3 : Nx mX5_power 3 (.istore 5) 2 5 := ⟨by decide +kernel, rfl⟩
theorem nX5_power_5 : Nx mX5_power 5 (.iload 5) 2 7 := ⟨by decide +kernel, rfl⟩
theorem nX5_power_7 : Nx mX5_power 7 (.iload_n 2) 1 8 := ⟨by decide +kernel, rfl⟩
theorem nX5_power_8 : Nx mX5_power 8 (.if_icmp .ge 13) 3 11 := ⟨by decide +kernel, rfl⟩
theorem nX5_power_11 : Nx mX5_power 11 (.lload_n 3) 1 12 := ⟨by decide +kernel, rfl⟩
theorem nX5_power_12 : Nx mX5_power 12 (.lload_n 0) 1 13 := ⟨by decide +kernel, rfl⟩
theorem nX5_power_13 : Nx mX5_power 13 (.lmul) 1 14 := ⟨by decide +kernel, rfl⟩
theorem nX5_power_14 : Nx mX5_power 14 (.lstore_n 3) 1 15 := ⟨by decide +kernel, rfl⟩
theorem nX5_power_15 : Nx mX5_power 15 (.iinc 5 1) 3 18 := ⟨by decide +kernel, rfl⟩
theorem nX5_power_18 : Nx mX5_power 18 (.goto (-13)) 3 21 := ⟨by decide +kernel, rfl⟩
theorem nX5_power_21 : Nx mX5_power 21 (.lload_n 3) 1 22 := ⟨by decide +kernel, rfl⟩
theorem nX5_power_22 : Nx mX5_power 22 (.lreturn) 1 23 := ⟨by decide +kernel, rfl⟩
theorem nX5_partOfFraction_0 : Nx mX5_partOfFraction 0 (.lload_n 0) 1 1 := ⟨by decide +kernel, rfl⟩
theorem nX5_partOfFraction_1 : Nx mX5_partOfFraction 1 (.lstore 5) 2 3 := ⟨by decide +kernel, rfl⟩
theorem nX5_partOfFraction_3 : Nx mX5_partOfFraction 3 (.lload_n 2) 1 4 := ⟨by decide +kernel, rfl⟩
theorem nX5_partOfFraction_4 : Nx mX5_partOfFraction 4 (.lstore 7) 2 6 := ⟨by decide +kernel, rfl⟩
theorem nX5_partOfFraction_6 : Nx mX5_partOfFraction 6 (.iconst 0) 1 7 := ⟨by decide +kernel, rfl⟩
theorem nX5_partOfFraction_7 : Nx mX5_partOfFraction 7 (.istore 9) 2 9 := ⟨by decide +kernel, rfl⟩
theorem nX5_partOfFraction_9 : Nx mX5_partOfFraction 9 (.iload 9) 2 11 := ⟨by decide +kernel, rfl⟩
theorem nX5_partOfFraction_11 : Nx mX5_partOfFraction 11 (.bipush 100) 2 13 := ⟨by decide +kernel, rfl⟩
theorem nX5_partOfFraction_13 : Nx mX5_partOfFraction 13 (.if_icmp .ge 31) 3 16 := ⟨by decide +kernel, rfl⟩
theorem nX5_partOfFraction_16 : Nx mX5_partOfFraction 16 (.lload 7) 2 18 := ⟨by decide +kernel, rfl⟩
theorem nX5_partOfFraction_18 : Nx mX5_partOfFraction 18 (.lconst 0) 1 19 := ⟨by decide +kernel, rfl⟩
theorem nX5_partOfFraction_19 : Nx mX5_partOfFraction 19 (.lcmp) 1 20 := ⟨by decide +kernel, rfl⟩
theorem nX5_partOfFraction_20 : Nx mX5_partOfFraction 20 (.ifCond .eq 24) 3 23 := ⟨by decide +kernel, rfl⟩
theorem nX5_partOfFraction_23 : Nx mX5_partOfFraction 23 (.lload 5) 2 25 := ⟨by decide +kernel, rfl⟩
theorem nX5_partOfFraction_25 : Nx mX5_partOfFraction 25 (.lload 7) 2 27 := ⟨by decide +kernel, rfl⟩
theorem nX5_partOfFraction_27 : Nx mX5_partOfFraction 27 (.lrem) 1 28 := ⟨by decide +kernel, rfl⟩
theorem nX5_partOfFraction_28 : Nx mX5_partOfFraction 28 (.lstore 10) 2 30 := ⟨by decide +kernel, rfl⟩
theorem nX5_partOfFraction_30 : Nx mX5_partOfFraction 30 (.lload 7) 2 32 := ⟨by decide +kernel, rfl⟩
theorem nX5_partOfFraction_32 : Nx mX5_partOfFraction 32 (.lstore 5) 2 34 := ⟨by decide +kernel, rfl⟩
theorem nX5_partOfFraction_34 : Nx mX5_partOfFraction 34 (.lload 10) 2 36 := ⟨by decide +kernel, rfl⟩
theorem nX5_partOfFraction_36 : Nx mX5_partOfFraction 36 (.lstore 7) 2 38 := ⟨by decide +kernel, rfl⟩
theorem nX5_partOfFraction_38 : Nx mX5_partOfFraction 38 (.iinc 9 1) 3 41 := ⟨by decide +kernel, rfl⟩
theorem nX5_partOfFraction_41 : Nx mX5_partOfFraction 41 (.goto (-32)) 3 44 := ⟨by decide +kernel, rfl⟩
theorem nX5_partOfFraction_44 : Nx mX5_partOfFraction 44 (.lload 5) 2 46 := ⟨by decide +kernel, rfl⟩
theorem nX5_partOfFraction_46 : Nx mX5_partOfFraction 46 (.lconst 0) 1 47 := ⟨by decide +kernel, rfl⟩
theorem nX5_partOfFraction_47 : Nx mX5_partOfFraction 47 (.lcmp) 1 48 := ⟨by decide +kernel, rfl⟩
theorem nX5_partOfFraction_48 : Nx mX5_partOfFraction 48 (.ifCond .ne 5) 3 51 := ⟨by decide +kernel, rfl⟩
theorem nX5_partOfFraction_51 : Nx mX5_partOfFraction 51 (.iconst 0) 1 52 := ⟨by decide +kernel, rfl⟩
theorem nX5_partOfFraction_52 : Nx mX5_partOfFraction 52 (.ireturn) 1 53 := ⟨by decide +kernel, rfl⟩
theorem nX5_partOfFraction_53 : Nx mX5_partOfFraction 53 (.iload 4) 2 55 := ⟨by decide +kernel, rfl⟩
theorem nX5_partOfFraction_55 : Nx mX5_partOfFraction 55 (.ifCond .eq 7) 3 58 := ⟨by decide +kernel, rfl⟩
theorem nX5_partOfFraction_58 : Nx mX5_partOfFraction 58 (.lload_n 0) 1 59 := ⟨by decide +kernel, rfl⟩
theorem nX5_partOfFraction_59 : Nx mX5_partOfFraction 59 (.goto 4) 3 62 := ⟨by decide +kernel, rfl⟩
theorem nX5_partOfFraction_62 : Nx mX5_partOfFraction 62 (.lload_n 2) 1 63 := ⟨by decide +kernel, rfl⟩
theorem nX5_partOfFraction_63 : Nx mX5_partOfFraction 63 (.lload 5) 2 65 := ⟨by decide +kernel, rfl⟩
theorem nX5_partOfFraction_65 : Nx mX5_partOfFraction 65 (.ldiv) 1 66 := ⟨by decide +kernel, rfl⟩
theorem nX5_partOfFraction_66 : Nx mX5_partOfFraction 66 (.l2i) 1 67 := ⟨by decide +kernel, rfl⟩
theorem nX5_partOfFraction_67 : Nx mX5_partOfFraction 67 (.ireturn) 1 68 := ⟨by decide +kernel, rfl⟩
end
section
theorem nX6_init_0 : Nx mX6_init 0 (.aload_n 0) 1 1 := ⟨by decide +kernel, rfl⟩
theorem nX6_init_1 : Nx mX6_init 1 (.invokespecial 1) 3 4 := ⟨by decide +kernel, rfl⟩
theorem nX6_init_4 : Nx mX6_init 4 (.aload_n 0) 1 5 := ⟨by decide +kernel, rfl⟩
theorem nX6_init_5 : Nx mX6_init 5 (.bipush 48) 2 7 := ⟨by decide +kernel, rfl⟩
theorem nX6_init_7 : Nx mX6_init 7 (.newarray .int) 2 9 := ⟨by decide +kernel, rfl⟩
theorem nX6_init_9 : Nx mX6_init 9 (.putfield 7) 3 12 := ⟨by decide +kernel, rfl⟩
theorem nX6_init_12 : Nx mX6_init 12 (.aload_n 0) 1 13 := ⟨by decide +kernel, rfl⟩
theorem nX6_init_13 : Nx mX6_init 13 (.iconst 4) 1 14 := ⟨by decide +kernel, rfl⟩
theorem nX6_init_14 : Nx mX6_init 14 (.newarray .int) 2 16 := ⟨by decide +kernel, rfl⟩
theorem nX6_init_16 : Nx mX6_init 16 (.putfield 13) 3 19 := ⟨by decide +kernel, rfl⟩
theorem nX6_init_19 : Nx mX6_init 19 (.aload_n 0) 1 20 := ⟨by decide +kernel, rfl⟩
theorem nX6_init_20 : Nx mX6_init 20 (.iconst 4) 1 21 := ⟨by decide +kernel, rfl⟩
theorem nX6_init_21 : Nx mX6_init 21 (.newarray .int) 2 23 := ⟨by decide +kernel, rfl⟩
theorem nX6_init_23 : Nx mX6_init 23 (.putfield 16) 3 26 := ⟨by decide +kernel, rfl⟩
theorem nX6_init_26 : Nx mX6_init 26 (.aload_n 0) 1 27 := ⟨by decide +kernel, rfl⟩
theorem nX6_init_27 : Nx mX6_init 27 (.iconst 4) 1 28 := ⟨by decide +kernel, rfl⟩
theorem nX6_init_28 : Nx mX6_init 28 (.newarray .int) 2 30 := ⟨by decide +kernel, rfl⟩
theorem nX6_init_30 : Nx mX6_init 30 (.putfield 19) 3 33 := ⟨by decide +kernel, rfl⟩
theorem nX6_init_33 : Nx mX6_init 33 (.aload_n 0) 1 34 := ⟨by decide +kernel, rfl⟩
theorem nX6_init_34 : Nx mX6_init 34 (.iconst 5) 1 35 := ⟨by decide +kernel, rfl⟩
theorem nX6_init_35 : Nx mX6_init 35 (.newarray .int) 2 37 := ⟨by decide +kernel, rfl⟩
theorem nX6_init_37 : Nx mX6_init 37 (.putfield 22) 3 40 := ⟨by decide +kernel, rfl⟩
theorem nX6_init_40 : Nx mX6_init 40 (.aload_n 0) 1 41 := ⟨by decide +kernel, rfl⟩
theorem nX6_init_41 : Nx mX6_init 41 (.iconst 5) 1 42 := ⟨by decide +kernel, rfl⟩
theorem nX6_init_42 : Nx mX6_init 42 (.newarray .int) 2 44 := ⟨by decide +kernel, rfl⟩
theorem nX6_init_44 : Nx mX6_init 44 (.putfield 25) 3 47 := ⟨by decide +kernel, rfl⟩
theorem nX6_init_47 : Nx mX6_init 47 (.aload_n 0) 1 48 := ⟨by decide +kernel, rfl⟩
theorem nX6_init_48 : Nx mX6_init 48 (.iconst 5) 1 49 := ⟨by decide +kernel, rfl⟩
theorem nX6_init_49 : Nx mX6_init 49 (.newarray .int) 2 51 := ⟨by decide +kernel, rfl⟩
theorem nX6_init_51 : Nx mX6_init 51 (.putfield 28) 3 54 := ⟨by decide +kernel, rfl⟩
theorem nX6_init_54 : Nx mX6_init 54 (.aload_n 0) 1 55 := ⟨by decide +kernel, rfl⟩
theorem nX6_init_55 : Nx mX6_init 55 (.bipush 12) 2 57 := ⟨by decide +kernel, rfl⟩
theorem nX6_init_57 : Nx mX6_init 57 (.newarray .int) 2 59 := ⟨by decide +kernel, rfl⟩
theorem nX6_init_59 : Nx mX6_init 59 (.putfield 31) 3 62 := ⟨by decide +kernel, rfl⟩
theorem nX6_init_62 : Nx mX6_init 62 (.aload_n 0) 1 63 := ⟨by decide +kernel, rfl⟩
theorem nX6_init_63 : Nx mX6_init 63 (.bipush 15) 2 65 := ⟨by decide +kernel, rfl⟩
theorem nX6_init_65 : Nx mX6_init 65 (.newarray .int) 2 67 := ⟨by decide +kernel, rfl⟩
theorem nX6_init_67 : Nx mX6_init 67 (.putfield 34) 3 70 := ⟨by decide +kernel, rfl⟩
theorem nX6_init_70 : Nx mX6_init 70 (.aload_n 0) 1 71 := ⟨by decide +kernel, rfl⟩
theorem nX6_init_71 : Nx mX6_init 71 (.bipush 29) 2 73 := ⟨by decide +kernel, rfl⟩
theorem nX6_init_73 : Nx mX6_init 73 (.newarray .int) 2 75 := ⟨by decide +kernel, rfl⟩
theorem nX6_init_75 : Nx mX6_init 75 (.putfield 37) 3 78 := ⟨by decide +kernel, rfl⟩
theorem nX6_init_78 : Nx mX6_init 78 (.aload_n 0) 1 79 := ⟨by decide +kernel, rfl⟩
theorem nX6_init_79 : Nx mX6_init 79 (.bipush 29) 2 81 := ⟨by decide +kernel, rfl⟩
theorem nX6_init_81 : Nx mX6_init 81 (.newarray .int) 2 83 := ⟨by decide +kernel, rfl⟩
theorem nX6_init_83 : Nx mX6_init 83 (.putfield 40) 3 86 := ⟨by decide +kernel, rfl⟩
theorem nX6_init_86 : Nx mX6_init 86 (.aload_n 0) 1 87 := ⟨by decide +kernel, rfl⟩
theorem nX6_init_87 : Nx mX6_init 87 (.sipush 406) 3 90 := ⟨by decide +kernel, rfl⟩
theorem nX6_init_90 : Nx mX6_init 90 (.newarray .int) 2 92 := ⟨by decide +kernel, rfl⟩
theorem nX6_init_92 : Nx mX6_init 92 (.putfield 43) 3 95 := ⟨by decide +kernel, rfl⟩
theorem nX6_init_95 : Nx mX6_init 95 (.aload_n 0) 1 96 := ⟨by decide +kernel, rfl⟩
theorem nX6_init_96 : Nx mX6_init 96 (.bipush 58) 2 98 := ⟨by decide +kernel, rfl⟩
theorem nX6_init_98 : Nx mX6_init 98 (.newarray .int) 2 100 := ⟨by decide +kernel, rfl⟩
theorem nX6_init_100 : Nx mX6_init 100 (.putfield 46) 3 103 := ⟨by decide +kernel, rfl⟩
theorem nX6_init_103 : Nx mX6_init 103 (.aload_n 0) 1 104 := ⟨by decide +kernel, rfl⟩
theorem nX6_init_104 : Nx mX6_init 104 (.iconst 2) 1 105 := ⟨by decide +kernel, rfl⟩
theorem nX6_init_105 : Nx mX6_init 105 (.newarray .boolean) 2 107 := ⟨by decide +kernel, rfl⟩
theorem nX6_init_107 : Nx mX6_init 107 (.putfield 49) 3 110 := ⟨by decide +kernel, rfl⟩
theorem nX6_init_110 : Nx mX6_init 110 (.aload_n 0) 1 111 := ⟨by decide +kernel, rfl⟩
theorem nX6_init_111 : Nx mX6_init 111 (.bipush 6) 2 113 := ⟨by decide +kernel, rfl⟩
theorem nX6_init_113 : Nx mX6_init 113 (.newarray .int) 2 115 := ⟨by decide +kernel, rfl⟩
theorem nX6_init_115 : Nx mX6_init 115 (.putfield 53) 3 118 := ⟨by decide +kernel, rfl⟩
theorem nX6_init_118 : Nx mX6_init 118 (.aload_n 0) 1 119 := ⟨by decide +kernel, rfl⟩
theorem nX6_init_119 : Nx mX6_init 119 (.bipush 6) 2 121 := ⟨by decide +kernel, rfl⟩
theorem nX6_init_121 : Nx mX6_init 121 (.newarray .int) 2 123 := ⟨by decide +kernel, rfl⟩
theorem nX6_init_123 : Nx mX6_init 123 (.putfield 56) 3 126 := ⟨by decide +kernel, rfl⟩
theorem nX6_init_126 : Nx mX6_init 126 (.aload_n 0) 1 127 := ⟨by decide +kernel, rfl⟩
theorem nX6_init_127 : Nx mX6_init 127 (.iconst 5) 1 128 := ⟨by decide +kernel, rfl⟩
theorem nX6_init_128 : Nx mX6_init 128 (.newarray .int) 2 130 := ⟨by decide +kernel, rfl⟩
theorem nX6_init_130 : Nx mX6_init 130 (.putfield 59) 3 133 := ⟨by decide +kernel, rfl⟩
theorem nX6_init_133 : Nx mX6_init 133 (.aload_n 0) 1 134 := ⟨by decide +kernel, rfl⟩
theorem nX6_init_134 : Nx mX6_init 134 (.bipush 8) 2 136 := ⟨by decide +kernel, rfl⟩
theorem nX6_init_136 : Nx mX6_init 136 (.newarray .int) 2 138 := ⟨by decide +kernel, rfl⟩
theorem nX6_init_138 : Nx mX6_init 138 (.putfield 62) 3 141 := ⟨by decide +kernel, rfl⟩
theorem nX6_init_141 : Nx mX6_init 141 (.aload_n 0) 1 142 := ⟨by decide +kernel, rfl⟩
theorem nX6_init_142 : Nx mX6_init 142 (.bipush 32) 2 144 := ⟨by decide +kernel, rfl⟩
theorem nX6_init_144 : Nx mX6_init 144 (.newarray .int) 2 146 := ⟨by decide +kernel, rfl⟩
theorem nX6_init_146 : Nx mX6_init 146 (.putfield 65) 3 149 := ⟨by decide +kernel, rfl⟩
theorem nX6_init_149 : Nx mX6_init 149 (.return_) 1 150 := ⟨by decide +kernel, rfl⟩
theorem nX6_in_0 : Nx mX6_in 0 (.lload_n 0) 1 1 := ⟨by decide +kernel, rfl⟩
theorem nX6_in_1 : Nx mX6_in 1 (.lload_n 2) 1 2 := ⟨by decide +kernel, rfl⟩
theorem nX6_in_2 : Nx mX6_in 2 (.lcmp) 1 3 := ⟨by decide +kernel, rfl⟩
theorem nX6_in_3 : Nx mX6_in 3 (.ifCond .lt 14) 3 6 := ⟨by decide +kernel, rfl⟩
theorem nX6_in_6 : Nx mX6_in 6 (.lload_n 0) 1 7 := ⟨by decide +kernel, rfl⟩
theorem nX6_in_7 : Nx mX6_in 7 (.lload 4) 2 9 := ⟨by decide +kernel, rfl⟩
theorem nX6_in_9 : Nx mX6_in 9 (.lcmp) 1 10 := ⟨by decide +kernel, rfl⟩
theorem nX6_in_10 : Nx mX6_in 10 (.ifCond .gt 7) 3 13 := ⟨by decide +kernel, rfl⟩
theorem nX6_in_13 : Nx mX6_in 13 (.iconst 1) 1 14 := ⟨by decide +kernel, rfl⟩
theorem nX6_in_14 : Nx mX6_in 14 (.goto 4) 3 17 := ⟨by decide +kernel, rfl⟩
theorem nX6_in_17 : Nx mX6_in 17 (.iconst 0) 1 18 := ⟨by decide +kernel, rfl⟩
theorem nX6_in_18 : Nx mX6_in 18 (.ireturn) 1 19 := ⟨by decide +kernel, rfl⟩
theorem nX6_has_0 : Nx mX6_has 0 (.iload_n 0) 1 1 := ⟨by decide +kernel, rfl⟩
theorem nX6_has_1 : Nx mX6_has 1 (.iload_n 1) 1 2 := ⟨by decide +kernel, rfl⟩
theorem nX6_has_2 : Nx mX6_has 2 (.ishr) 1 3 := ⟨by decide +kernel, rfl⟩
theorem nX6_has_3 : Nx mX6_has 3 (.iconst 1) 1 4 := ⟨by decide +kernel, rfl⟩
theorem nX6_has_4 : Nx mX6_has 4 (.iand) 1 5 := ⟨by decide +kernel, rfl⟩
theorem nX6_has_5 : Nx mX6_has 5 (.iconst 1) 1 6 := ⟨by decide +kernel, rfl⟩
theorem nX6_has_6 : Nx mX6_has 6 (.if_icmp .ne 7) 3 9 := ⟨by decide +kernel, rfl⟩
theorem nX6_has_9 : Nx mX6_has 9 (.iconst 1) 1 10 := ⟨by decide +kernel, rfl⟩
theorem nX6_has_10 : Nx mX6_has 10 (.goto 4) 3 13 := ⟨by decide +kernel, rfl⟩
theorem nX6_has_13 : Nx mX6_has 13 (.iconst 0) 1 14 := ⟨by decide +kernel, rfl⟩
theorem nX6_has_14 : Nx mX6_has 14 (.ireturn) 1 15 := ⟨by decide +kernel, rfl⟩
theorem nX6_many_0 : Nx mX6_many 0 (.iconst 0) 1 1 := ⟨by decide +kernel, rfl⟩
theorem nX6_many_1 : Nx mX6_many 1 (.istore_n 1) 1 2 := ⟨by decide +kernel, rfl⟩
theorem nX6_many_2 : Nx mX6_many 2 (.iconst 0) 1 3 := ⟨by decide +kernel, rfl⟩
theorem nX6_many_3 : Nx mX6_many 3 (.istore_n 2) 1 4 := ⟨by decide +kernel, rfl⟩
theorem nX6_many_4 : Nx mX6_many 4 (.iload_n 2) 1 5 := ⟨by decide +kernel, rfl⟩
theorem nX6_many_5 : Nx mX6_many 5 (.iconst 5) 1 6 := ⟨by decide +kernel, rfl⟩
theorem nX6_many_6 : Nx mX6_many 6 (.if_icmp .ge 17) 3 9 := ⟨by decide +kernel, rfl⟩
theorem nX6_many_9 : Nx mX6_many 9 (.iload_n 1) 1 10 := ⟨by decide +kernel, rfl⟩
theorem nX6_many_10 : Nx mX6_many 10 (.iload_n 0) 1 11 := ⟨by decide +kernel, rfl⟩
theorem nX6_many_11 : Nx mX6_many 11 (.iload_n 2) 1 12 := ⟨by decide +kernel, rfl⟩
theorem nX6_many_12 : Nx mX6_many 12 (.ishr) 1 13 := ⟨by decide +kernel, rfl⟩
theorem nX6_many_13 : Nx mX6_many 13 (.iconst 1) 1 14 := ⟨by decide +kernel, rfl⟩
theorem nX6_many_14 : Nx mX6_many 14 (.iand) 1 15 := ⟨by decide +kernel, rfl⟩
theorem nX6_many_15 : Nx mX6_many 15 (.iadd) 1 16 := ⟨by decide +kernel, rfl⟩
theorem nX6_many_16 : Nx mX6_many 16 (.istore_n 1) 1 17 := ⟨by decide +kernel, rfl⟩
theorem nX6_many_17 : Nx mX6_many 17 (.iinc 2 1) 3 20 := ⟨by decide +kernel, rfl⟩
theorem nX6_many_20 : Nx mX6_many 20 (.goto (-16)) 3 23 := ⟨by decide +kernel, rfl⟩
theorem nX6_many_23 : Nx mX6_many 23 (.iload_n 1) 1 24 := ⟨by decide +kernel, rfl⟩
theorem nX6_many_24 : Nx mX6_many 24 (.ireturn) 1 25 := ⟨by decide +kernel, rfl⟩
theorem nX6_power_0 : Nx mX6_power 0 (.iconst 1) 1 1 := ⟨by decide +kernel, rfl⟩
theorem nX6_power_1 : Nx mX6_power 1 (.istore_n 2) 1 2 := ⟨by decide +kernel, rfl⟩
theorem nX6_power_2 : Nx mX6_power 2 (.iconst 0) 1 3 := ⟨by decide +kernel, rfl⟩
theorem nX6_power_3 : Nx mX6_power 3 (.istore_n 3) 1 4 := ⟨by decide +kernel, rfl⟩
theorem nX6_power_4 : Nx mX6_power 4 (.iload_n 3) 1 5 := ⟨by decide +kernel, rfl⟩
theorem nX6_power_5 : Nx mX6_power 5 (.iload_n 1) 1 6 := ⟨by decide +kernel, rfl⟩
theorem nX6_power_6 : Nx mX6_power 6 (.if_icmp .ge 13) 3 9 := ⟨by decide +kernel, rfl⟩
theorem nX6_power_9 : Nx mX6_power 9 (.iload_n 2) 1 10 := ⟨by decide +kernel, rfl⟩
theorem nX6_power_10 : Nx mX6_power 10 (.iload_n 0) 1 11 := ⟨by decide +kernel, rfl⟩
theorem nX6_power_11 : Nx mX6_power 11 (.imul) 1 12 := ⟨by decide +kernel, rfl⟩
theorem nX6_power_12 : Nx mX6_power 12 (.istore_n 2) 1 13 := ⟨by decide +kernel, rfl⟩
theorem nX6_power_13 : Nx mX6_power 13 (.iinc 3 1) 3 16 := ⟨by decide +kernel, rfl⟩
theorem nX6_power_16 : Nx mX6_power 16 (.goto (-12)) 3 19 := ⟨by decide +kernel, rfl⟩
theorem nX6_power_19 : Nx mX6_power 19 (.iload_n 2) 1 20 := ⟨by decide +kernel, rfl⟩
theorem nX6_power_20 : Nx mX6_power 20 (.ireturn) 1 21 := ⟨by decide +kernel, rfl⟩
theorem nX6_capped_0 : Nx mX6_capped 0 (.iload_n 0) 1 1 := ⟨by decide +kernel, rfl⟩
theorem nX6_capped_1 : Nx mX6_capped 1 (.bipush 99) 2 3 := ⟨by decide +kernel, rfl⟩
theorem nX6_capped_3 : Nx mX6_capped 3 (.if_icmp .le 8) 3 6 := ⟨by decide +kernel, rfl⟩
theorem nX6_capped_6 : Nx mX6_capped 6 (.bipush 99) 2 8 := ⟨by decide +kernel, rfl⟩
theorem nX6_capped_8 : Nx mX6_capped 8 (.goto 4) 3 11 := ⟨by decide +kernel, rfl⟩
theorem nX6_capped_11 : Nx mX6_capped 11 (.iload_n 0) 1 12 := ⟨by decide +kernel, rfl⟩
theorem nX6_capped_12 : Nx mX6_capped 12 (.ireturn) 1 13 := ⟨by decide +kernel, rfl⟩
theorem nX6_apart_0 : Nx mX6_apart 0 (.iload_n 0) 1 1 := ⟨by decide +kernel, rfl⟩
theorem nX6_apart_1 : Nx mX6_apart 1 (.iload_n 1) 1 2 := ⟨by decide +kernel, rfl⟩
theorem nX6_apart_2 : Nx mX6_apart 2 (.if_icmp .ge 9) 3 5 := ⟨by decide +kernel, rfl⟩
theorem nX6_apart_5 : Nx mX6_apart 5 (.iload_n 1) 1 6 := ⟨by decide +kernel, rfl⟩
theorem nX6_apart_6 : Nx mX6_apart 6 (.iload_n 0) 1 7 := ⟨by decide +kernel, rfl⟩
theorem nX6_apart_7 : Nx mX6_apart 7 (.isub) 1 8 := ⟨by decide +kernel, rfl⟩
theorem nX6_apart_8 : Nx mX6_apart 8 (.goto 6) 3 11 := ⟨by decide +kernel, rfl⟩
theorem nX6_apart_11 : Nx mX6_apart 11 (.iload_n 0) 1 12 := ⟨by decide +kernel, rfl⟩
theorem nX6_apart_12 : Nx mX6_apart 12 (.iload_n 1) 1 13 := ⟨by decide +kernel, rfl⟩
theorem nX6_apart_13 : Nx mX6_apart 13 (.isub) 1 14 := ⟨by decide +kernel, rfl⟩
theorem nX6_apart_14 : Nx mX6_apart 14 (.ireturn) 1 15 := ⟨by decide +kernel, rfl⟩
theorem nX6_noField_0 : Nx mX6_noField 0 (.iload_n 1) 1 1 := ⟨by decide +kernel, rfl⟩
theorem nX6_noField_1 : Nx mX6_noField 1 (.i2l) 1 2 := ⟨by decide +kernel, rfl⟩
theorem nX6_noField_2 : Nx mX6_noField 2 (.lconst 0) 1 3 := ⟨by decide +kernel, rfl⟩
theorem nX6_noField_3 : Nx mX6_noField 3 (.aload_n 0) 1 4 := ⟨by decide +kernel, rfl⟩
theorem nX6_noField_4 : Nx mX6_noField 4 (.getfield 72) 3 7 := ⟨by decide +kernel, rfl⟩
theorem nX6_noField_7 : Nx mX6_noField 7 (.iconst 1) 1 8 := ⟨by decide +kernel, rfl⟩
theorem nX6_noField_8 : Nx mX6_noField 8 (.isub) 1 9 := ⟨by decide +kernel, rfl⟩
theorem nX6_noField_9 : Nx mX6_noField 9 (.i2l) 1 10 := ⟨by decide +kernel, rfl⟩
theorem nX6_noField_10 : Nx mX6_noField 10 (.invokestatic 75) 3 13 := ⟨by decide +kernel, rfl⟩
theorem nX6_noField_13 : Nx mX6_noField 13 (.ifCond .ne 7) 3 16 := ⟨by decide +kernel, rfl⟩
theorem nX6_noField_16 : Nx mX6_noField 16 (.iconst 1) 1 17 := ⟨by decide +kernel, rfl⟩
theorem nX6_noField_17 : Nx mX6_noField 17 (.goto 4) 3 20 := ⟨by decide +kernel, rfl⟩
theorem nX6_noField_20 : Nx mX6_noField 20 (.iconst 0) 1 21 := ⟨by decide +kernel, rfl⟩
theorem nX6_noField_21 : Nx mX6_noField 21 (.ireturn) 1 22 := ⟨by decide +kernel, rfl⟩
theorem nX6_noEater_0 : Nx mX6_noEater 0 (.iload_n 1) 1 1 := ⟨by decide +kernel, rfl⟩
theorem nX6_noEater_1 : Nx mX6_noEater 1 (.i2l) 1 2 := ⟨by decide +kernel, rfl⟩
theorem nX6_noEater_2 : Nx mX6_noEater 2 (.lconst 0) 1 3 := ⟨by decide +kernel, rfl⟩
theorem nX6_noEater_3 : Nx mX6_noEater 3 (.aload_n 0) 1 4 := ⟨by decide +kernel, rfl⟩
theorem nX6_noEater_4 : Nx mX6_noEater 4 (.getfield 79) 3 7 := ⟨by decide +kernel, rfl⟩
theorem nX6_noEater_7 : Nx mX6_noEater 7 (.iconst 1) 1 8 := ⟨by decide +kernel, rfl⟩
theorem nX6_noEater_8 : Nx mX6_noEater 8 (.isub) 1 9 := ⟨by decide +kernel, rfl⟩
theorem nX6_noEater_9 : Nx mX6_noEater 9 (.i2l) 1 10 := ⟨by decide +kernel, rfl⟩
theorem nX6_noEater_10 : Nx mX6_noEater 10 (.invokestatic 75) 3 13 := ⟨by decide +kernel, rfl⟩
theorem nX6_noEater_13 : Nx mX6_noEater 13 (.ifCond .ne 7) 3 16 := ⟨by decide +kernel, rfl⟩
theorem nX6_noEater_16 : Nx mX6_noEater 16 (.iconst 1) 1 17 := ⟨by decide +kernel, rfl⟩
theorem nX6_noEater_17 : Nx mX6_noEater 17 (.goto 4) 3 20 := ⟨by decide +kernel, rfl⟩
theorem nX6_noEater_20 : Nx mX6_noEater 20 (.iconst 0) 1 21 := ⟨by decide +kernel, rfl⟩
theorem nX6_noEater_21 : Nx mX6_noEater 21 (.ireturn) 1 22 := ⟨by decide +kernel, rfl⟩
theorem nX6_write_0 : Nx mX6_write 0 (.aload_n 0) 1 1 := ⟨by decide +kernel, rfl⟩
theorem nX6_write_1 : Nx mX6_write 1 (.iconst 0) 1 2 := ⟨by decide +kernel, rfl⟩
theorem nX6_write_2 : Nx mX6_write 2 (.putfield 68) 3 5 := ⟨by decide +kernel, rfl⟩
theorem nX6_write_5 : Nx mX6_write 5 (.iload_n 1) 1 6 := ⟨by decide +kernel, rfl⟩
theorem nX6_write_6 : Nx mX6_write 6 (.i2l) 1 7 := ⟨by decide +kernel, rfl⟩
theorem nX6_write_7 : Nx mX6_write 7 (.lconst 0) 1 8 := ⟨by decide +kernel, rfl⟩
theorem nX6_write_8 : Nx mX6_write 8 (.ldc2_w 82) 3 11 := ⟨by decide +kernel, rfl⟩
theorem nX6_write_11 : Nx mX6_write 11 (.invokestatic 75) 3 14 := ⟨by decide +kernel, rfl⟩
theorem nX6_write_14 : Nx mX6_write 14 (.ifCond .ne 6) 3 17 := ⟨by decide +kernel, rfl⟩
theorem nX6_write_17 : Nx mX6_write 17 (.bipush (-2)) 2 19 := ⟨by decide +kernel, rfl⟩
theorem nX6_write_19 : Nx mX6_write 19 (.ireturn) 1 20 := ⟨by decide +kernel, rfl⟩
theorem nX6_write_20 : Nx mX6_write 20 (.aload_n 0) 1 21 := ⟨by decide +kernel, rfl⟩
theorem nX6_write_21 : Nx mX6_write 21 (.getfield 84) 3 24 := ⟨by decide +kernel, rfl⟩
theorem nX6_write_24 : Nx mX6_write 24 (.bipush 48) 2 26 := ⟨by decide +kernel, rfl⟩
theorem nX6_write_26 : Nx mX6_write 26 (.if_icmp .ne 6) 3 29 := ⟨by decide +kernel, rfl⟩
theorem nX6_write_29 : Nx mX6_write 29 (.bipush (-4)) 2 31 := ⟨by decide +kernel, rfl⟩
theorem nX6_write_31 : Nx mX6_write 31 (.ireturn) 1 32 := ⟨by decide +kernel, rfl⟩
theorem nX6_write_32 : Nx mX6_write 32 (.aload_n 0) 1 33 := ⟨by decide +kernel, rfl⟩
theorem nX6_write_33 : Nx mX6_write 33 (.getfield 7) 3 36 := ⟨by decide +kernel, rfl⟩
theorem nX6_write_36 : Nx mX6_write 36 (.aload_n 0) 1 37 := ⟨by decide +kernel, rfl⟩
theorem nX6_write_37 : Nx mX6_write 37 (.getfield 84) 3 40 := ⟨by decide +kernel, rfl⟩
theorem nX6_write_40 : Nx mX6_write 40 (.iload_n 1) 1 41 := ⟨by decide +kernel, rfl⟩
theorem nX6_write_41 : Nx mX6_write 41 (.iastore) 1 42 := ⟨by decide +kernel, rfl⟩
theorem nX6_write_42 : Nx mX6_write 42 (.aload_n 0) 1 43 := ⟨by decide +kernel, rfl⟩
theorem nX6_write_43 : Nx mX6_write 43 (.dup) 1 44 := ⟨by decide +kernel, rfl⟩
theorem nX6_write_44 : Nx mX6_write 44 (.getfield 84) 3 47 := ⟨by decide +kernel, rfl⟩
theorem nX6_write_47 : Nx mX6_write 47 (.iconst 1) 1 48 := ⟨by decide +kernel, rfl⟩
theorem nX6_write_48 : Nx mX6_write 48 (.iadd) 1 49 := ⟨by decide +kernel, rfl⟩
theorem nX6_write_49 : Nx mX6_write 49 (.putfield 84) 3 52 := ⟨by decide +kernel, rfl⟩
theorem nX6_write_52 : Nx mX6_write 52 (.aload_n 0) 1 53 := ⟨by decide +kernel, rfl⟩
theorem nX6_write_53 : Nx mX6_write 53 (.getfield 84) 3 56 := ⟨by decide +kernel, rfl⟩
theorem nX6_write_56 : Nx mX6_write 56 (.ireturn) 1 57 := ⟨by decide +kernel, rfl⟩
theorem nX6_wipe_0 : Nx mX6_wipe 0 (.aload_n 0) 1 1 := ⟨by decide +kernel, rfl⟩
theorem nX6_wipe_1 : Nx mX6_wipe 1 (.iconst 0) 1 2 := ⟨by decide +kernel, rfl⟩
theorem nX6_wipe_2 : Nx mX6_wipe 2 (.putfield 68) 3 5 := ⟨by decide +kernel, rfl⟩
theorem nX6_wipe_5 : Nx mX6_wipe 5 (.aload_n 0) 1 6 := ⟨by decide +kernel, rfl⟩
theorem nX6_wipe_6 : Nx mX6_wipe 6 (.getfield 84) 3 9 := ⟨by decide +kernel, rfl⟩
theorem nX6_wipe_9 : Nx mX6_wipe 9 (.istore_n 1) 1 10 := ⟨by decide +kernel, rfl⟩
theorem nX6_wipe_10 : Nx mX6_wipe 10 (.aload_n 0) 1 11 := ⟨by decide +kernel, rfl⟩
theorem nX6_wipe_11 : Nx mX6_wipe 11 (.iconst 0) 1 12 := ⟨by decide +kernel, rfl⟩
theorem nX6_wipe_12 : Nx mX6_wipe 12 (.putfield 84) 3 15 := ⟨by decide +kernel, rfl⟩
theorem nX6_wipe_15 : Nx mX6_wipe 15 (.iload_n 1) 1 16 := ⟨by decide +kernel, rfl⟩
theorem nX6_wipe_16 : Nx mX6_wipe 16 (.ireturn) 1 17 := ⟨by decide +kernel, rfl⟩
theorem nX6_figure_0 : Nx mX6_figure 0 (.aload_n 0) 1 1 := ⟨by decide +kernel, rfl⟩
theorem nX6_figure_1 : Nx mX6_figure 1 (.getfield 87) 3 4 := ⟨by decide +kernel, rfl⟩
theorem nX6_figure_4 : Nx mX6_figure 4 (.aload_n 0) 1 5 := ⟨by decide +kernel, rfl⟩
theorem nX6_figure_5 : Nx mX6_figure 5 (.getfield 84) 3 8 := ⟨by decide +kernel, rfl⟩
theorem nX6_figure_8 : Nx mX6_figure 8 (.if_icmp .eq 26) 3 11 := ⟨by decide +kernel, rfl⟩
theorem nX6_figure_11 : Nx mX6_figure 11 (.aload_n 0) 1 12 := ⟨by decide +kernel, rfl⟩
theorem nX6_figure_12 : Nx mX6_figure 12 (.getfield 7) 3 15 := ⟨by decide +kernel, rfl⟩
theorem nX6_figure_15 : Nx mX6_figure 15 (.aload_n 0) 1 16 := ⟨by decide +kernel, rfl⟩
theorem nX6_figure_16 : Nx mX6_figure 16 (.getfield 87) 3 19 := ⟨by decide +kernel, rfl⟩
theorem nX6_figure_19 : Nx mX6_figure 19 (.iaload) 1 20 := ⟨by decide +kernel, rfl⟩
theorem nX6_figure_20 : Nx mX6_figure 20 (.bipush 48) 2 22 := ⟨by decide +kernel, rfl⟩
theorem nX6_figure_22 : Nx mX6_figure 22 (.isub) 1 23 := ⟨by decide +kernel, rfl⟩
theorem nX6_figure_23 : Nx mX6_figure 23 (.i2l) 1 24 := ⟨by decide +kernel, rfl⟩
theorem nX6_figure_24 : Nx mX6_figure 24 (.iload_n 1) 1 25 := ⟨by decide +kernel, rfl⟩
theorem nX6_figure_25 : Nx mX6_figure 25 (.i2l) 1 26 := ⟨by decide +kernel, rfl⟩
theorem nX6_figure_26 : Nx mX6_figure 26 (.iload_n 2) 1 27 := ⟨by decide +kernel, rfl⟩
theorem nX6_figure_27 : Nx mX6_figure 27 (.i2l) 1 28 := ⟨by decide +kernel, rfl⟩
theorem nX6_figure_28 : Nx mX6_figure 28 (.invokestatic 75) 3 31 := ⟨by decide +kernel, rfl⟩
theorem nX6_figure_31 : Nx mX6_figure 31 (.ifCond .ne 6) 3 34 := ⟨by decide +kernel, rfl⟩
theorem nX6_figure_34 : Nx mX6_figure 34 (.bipush (-9)) 2 36 := ⟨by decide +kernel, rfl⟩
theorem nX6_figure_36 : Nx mX6_figure 36 (.ireturn) 1 37 := ⟨by decide +kernel, rfl⟩
theorem nX6_figure_37 : Nx mX6_figure 37 (.aload_n 0) 1 38 := ⟨by decide +kernel, rfl⟩
theorem nX6_figure_38 : Nx mX6_figure 38 (.dup) 1 39 := ⟨by decide +kernel, rfl⟩
theorem nX6_figure_39 : Nx mX6_figure 39 (.getfield 87) 3 42 := ⟨by decide +kernel, rfl⟩
theorem nX6_figure_42 : Nx mX6_figure 42 (.iconst 1) 1 43 := ⟨by decide +kernel, rfl⟩
theorem nX6_figure_43 : Nx mX6_figure 43 (.iadd) 1 44 := ⟨by decide +kernel, rfl⟩
theorem nX6_figure_44 : Nx mX6_figure 44 (.putfield 87) 3 47 := ⟨by decide +kernel, rfl⟩
theorem nX6_figure_47 : Nx mX6_figure 47 (.aload_n 0) 1 48 := ⟨by decide +kernel, rfl⟩
theorem nX6_figure_48 : Nx mX6_figure 48 (.getfield 7) 3 51 := ⟨by decide +kernel, rfl⟩
theorem nX6_figure_51 : Nx mX6_figure 51 (.aload_n 0) 1 52 := ⟨by decide +kernel, rfl⟩
theorem nX6_figure_52 : Nx mX6_figure 52 (.getfield 87) 3 55 := ⟨by decide +kernel, rfl⟩
theorem nX6_figure_55 : Nx mX6_figure 55 (.iconst 1) 1 56 := ⟨by decide +kernel, rfl⟩
theorem nX6_figure_56 : Nx mX6_figure 56 (.isub) 1 57 := ⟨by decide +kernel, rfl⟩
theorem nX6_figure_57 : Nx mX6_figure 57 (.iaload) 1 58 := ⟨by decide +kernel, rfl⟩
theorem nX6_figure_58 : Nx mX6_figure 58 (.bipush 48) 2 60 := ⟨by decide +kernel, rfl⟩
theorem nX6_figure_60 : Nx mX6_figure 60 (.isub) 1 61 := ⟨by decide +kernel, rfl⟩
theorem nX6_figure_61 : Nx mX6_figure 61 (.ireturn) 1 62 := ⟨by decide +kernel, rfl⟩
theorem nX6_readOneField_0 : Nx mX6_readOneField 0 (.aload_n 0) 1 1 := ⟨by decide +kernel, rfl⟩
theorem nX6_readOneField_1 : Nx mX6_readOneField 1 (.iconst 0) 1 2 := ⟨by decide +kernel, rfl⟩
theorem nX6_readOneField_2 : Nx mX6_readOneField 2 (.bipush 9) 2 4 := ⟨by decide +kernel, rfl⟩
theorem nX6_readOneField_4 : Nx mX6_readOneField 4 (.invokevirtual 90) 3 7 := ⟨by decide +kernel, rfl⟩
theorem nX6_readOneField_7 : Nx mX6_readOneField 7 (.istore_n 1) 1 8 := ⟨by decide +kernel, rfl⟩
theorem nX6_readOneField_8 : Nx mX6_readOneField 8 (.iload_n 1) 1 9 := ⟨by decide +kernel, rfl⟩
theorem nX6_readOneField_9 : Nx mX6_readOneField 9 (.bipush (-9)) 2 11 := ⟨by decide +kernel, rfl⟩
theorem nX6_readOneField_11 : Nx mX6_readOneField 11 (.if_icmp .ne 8) 3 14 := ⟨by decide +kernel, rfl⟩
theorem nX6_readOneField_14 : Nx mX6_readOneField 14 (.bipush (-9)) 2 16 := ⟨by decide +kernel, rfl⟩
theorem nX6_readOneField_16 : Nx mX6_readOneField 16 (.goto 10) 3 19 := ⟨by decide +kernel, rfl⟩
theorem nX6_readOneField_19 : Nx mX6_readOneField 19 (.aload_n 0) 1 20 := ⟨by decide +kernel, rfl⟩
theorem nX6_readOneField_20 : Nx mX6_readOneField 20 (.iconst 1) 1 21 := ⟨by decide +kernel, rfl⟩
theorem nX6_readOneField_21 : Nx mX6_readOneField 21 (.bipush 9) 2 23 := ⟨by decide +kernel, rfl⟩
theorem nX6_readOneField_23 : Nx mX6_readOneField 23 (.invokevirtual 90) 3 26 := ⟨by decide +kernel, rfl⟩
theorem nX6_readOneField_26 : Nx mX6_readOneField 26 (.istore_n 2) 1 27 := ⟨by decide +kernel, rfl⟩
theorem nX6_readOneField_27 : Nx mX6_readOneField 27 (.iload_n 2) 1 28 := ⟨by decide +kernel, rfl⟩
theorem nX6_readOneField_28 : Nx mX6_readOneField 28 (.bipush (-9)) 2 30 := ⟨by decide +kernel, rfl⟩
theorem nX6_readOneField_30 : Nx mX6_readOneField 30 (.if_icmp .ne 8) 3 33 := ⟨by decide +kernel, rfl⟩
theorem nX6_readOneField_33 : Nx mX6_readOneField 33 (.bipush (-9)) 2 35 := ⟨by decide +kernel, rfl⟩
theorem nX6_readOneField_35 : Nx mX6_readOneField 35 (.goto 10) 3 38 := ⟨by decide +kernel, rfl⟩
theorem nX6_readOneField_38 : Nx mX6_readOneField 38 (.aload_n 0) 1 39 := ⟨by decide +kernel, rfl⟩
theorem nX6_readOneField_39 : Nx mX6_readOneField 39 (.iconst 1) 1 40 := ⟨by decide +kernel, rfl⟩
theorem nX6_readOneField_40 : Nx mX6_readOneField 40 (.bipush 9) 2 42 := ⟨by decide +kernel, rfl⟩
theorem nX6_readOneField_42 : Nx mX6_readOneField 42 (.invokevirtual 90) 3 45 := ⟨by decide +kernel, rfl⟩
theorem nX6_readOneField_45 : Nx mX6_readOneField 45 (.istore_n 3) 1 46 := ⟨by decide +kernel, rfl⟩
theorem nX6_readOneField_46 : Nx mX6_readOneField 46 (.iload_n 3) 1 47 := ⟨by decide +kernel, rfl⟩
theorem nX6_readOneField_47 : Nx mX6_readOneField 47 (.bipush (-9)) 2 49 := ⟨by decide +kernel, rfl⟩
theorem nX6_readOneField_49 : Nx mX6_readOneField 49 (.if_icmp .ne 5) 3 52 := ⟨by decide +kernel, rfl⟩
theorem nX6_readOneField_52 : Nx mX6_readOneField 52 (.iconst 0) 1 53 := ⟨by decide +kernel, rfl⟩
theorem nX6_readOneField_53 : Nx mX6_readOneField 53 (.ireturn) 1 54 := ⟨by decide +kernel, rfl⟩
theorem nX6_readOneField_54 : Nx mX6_readOneField 54 (.aload_n 0) 1 55 := ⟨by decide +kernel, rfl⟩
theorem nX6_readOneField_55 : Nx mX6_readOneField 55 (.getfield 31) 3 58 := ⟨by decide +kernel, rfl⟩
theorem nX6_readOneField_58 : Nx mX6_readOneField 58 (.iconst 3) 1 59 := ⟨by decide +kernel, rfl⟩
theorem nX6_readOneField_59 : Nx mX6_readOneField 59 (.aload_n 0) 1 60 := ⟨by decide +kernel, rfl⟩
theorem nX6_readOneField_60 : Nx mX6_readOneField 60 (.getfield 94) 3 63 := ⟨by decide +kernel, rfl⟩
theorem nX6_readOneField_63 : Nx mX6_readOneField 63 (.imul) 1 64 := ⟨by decide +kernel, rfl⟩
theorem nX6_readOneField_64 : Nx mX6_readOneField 64 (.iload_n 1) 1 65 := ⟨by decide +kernel, rfl⟩
theorem nX6_readOneField_65 : Nx mX6_readOneField 65 (.iastore) 1 66 := ⟨by decide +kernel, rfl⟩
theorem nX6_readOneField_66 : Nx mX6_readOneField 66 (.aload_n 0) 1 67 := ⟨by decide +kernel, rfl⟩
theorem nX6_readOneField_67 : Nx mX6_readOneField 67 (.getfield 31) 3 70 := ⟨by decide +kernel, rfl⟩
theorem nX6_readOneField_70 : Nx mX6_readOneField 70 (.iconst 3) 1 71 := ⟨by decide +kernel, rfl⟩
theorem nX6_readOneField_71 : Nx mX6_readOneField 71 (.aload_n 0) 1 72 := ⟨by decide +kernel, rfl⟩
theorem nX6_readOneField_72 : Nx mX6_readOneField 72 (.getfield 94) 3 75 := ⟨by decide +kernel, rfl⟩
theorem nX6_readOneField_75 : Nx mX6_readOneField 75 (.imul) 1 76 := ⟨by decide +kernel, rfl⟩
theorem nX6_readOneField_76 : Nx mX6_readOneField 76 (.iconst 1) 1 77 := ⟨by decide +kernel, rfl⟩
theorem nX6_readOneField_77 : Nx mX6_readOneField 77 (.iadd) 1 78 := ⟨by decide +kernel, rfl⟩
theorem nX6_readOneField_78 : Nx mX6_readOneField 78 (.iload_n 2) 1 79 := ⟨by decide +kernel, rfl⟩
theorem nX6_readOneField_79 : Nx mX6_readOneField 79 (.iastore) 1 80 := ⟨by decide +kernel, rfl⟩
theorem nX6_readOneField_80 : Nx mX6_readOneField 80 (.aload_n 0) 1 81 := ⟨by decide +kernel, rfl⟩
theorem nX6_readOneField_81 : Nx mX6_readOneField 81 (.getfield 31) 3 84 := ⟨by decide +kernel, rfl⟩
theorem nX6_readOneField_84 : Nx mX6_readOneField 84 (.iconst 3) 1 85 := ⟨by decide +kernel, rfl⟩
theorem nX6_readOneField_85 : Nx mX6_readOneField 85 (.aload_n 0) 1 86 := ⟨by decide +kernel, rfl⟩
theorem nX6_readOneField_86 : Nx mX6_readOneField 86 (.getfield 94) 3 89 := ⟨by decide +kernel, rfl⟩
theorem nX6_readOneField_89 : Nx mX6_readOneField 89 (.imul) 1 90 := ⟨by decide +kernel, rfl⟩
theorem nX6_readOneField_90 : Nx mX6_readOneField 90 (.iconst 2) 1 91 := ⟨by decide +kernel, rfl⟩
theorem nX6_readOneField_91 : Nx mX6_readOneField 91 (.iadd) 1 92 := ⟨by decide +kernel, rfl⟩
theorem nX6_readOneField_92 : Nx mX6_readOneField 92 (.iload_n 3) 1 93 := ⟨by decide +kernel, rfl⟩
theorem nX6_readOneField_93 : Nx mX6_readOneField 93 (.iastore) 1 94 := ⟨by decide +kernel, rfl⟩
theorem nX6_readOneField_94 : Nx mX6_readOneField 94 (.aload_n 0) 1 95 := ⟨by decide +kernel, rfl⟩
theorem nX6_readOneField_95 : Nx mX6_readOneField 95 (.dup) 1 96 := ⟨by decide +kernel, rfl⟩
theorem nX6_readOneField_96 : Nx mX6_readOneField 96 (.getfield 94) 3 99 := ⟨by decide +kernel, rfl⟩
theorem nX6_readOneField_99 : Nx mX6_readOneField 99 (.iconst 1) 1 100 := ⟨by decide +kernel, rfl⟩
theorem nX6_readOneField_100 : Nx mX6_readOneField 100 (.iadd) 1 101 := ⟨by decide +kernel, rfl⟩
theorem nX6_readOneField_101 : Nx mX6_readOneField 101 (.putfield 94) 3 104 := ⟨by decide +kernel, rfl⟩
theorem nX6_readOneField_104 : Nx mX6_readOneField 104 (.iconst 1) 1 105 := ⟨by decide +kernel, rfl⟩
theorem nX6_readOneField_105 : Nx mX6_readOneField 105 (.ireturn) 1 106 := ⟨by decide +kernel, rfl⟩
theorem nX6_readOneEater_0 : Nx mX6_readOneEater 0 (.aload_n 0) 1 1 := ⟨by decide +kernel, rfl⟩
theorem nX6_readOneEater_1 : Nx mX6_readOneEater 1 (.iconst 0) 1 2 := ⟨by decide +kernel, rfl⟩
theorem nX6_readOneEater_2 : Nx mX6_readOneEater 2 (.bipush 9) 2 4 := ⟨by decide +kernel, rfl⟩
theorem nX6_readOneEater_4 : Nx mX6_readOneEater 4 (.invokevirtual 90) 3 7 := ⟨by decide +kernel, rfl⟩
theorem nX6_readOneEater_7 : Nx mX6_readOneEater 7 (.istore_n 1) 1 8 := ⟨by decide +kernel, rfl⟩
theorem nX6_readOneEater_8 : Nx mX6_readOneEater 8 (.iload_n 1) 1 9 := ⟨by decide +kernel, rfl⟩
theorem nX6_readOneEater_9 : Nx mX6_readOneEater 9 (.bipush (-9)) 2 11 := ⟨by decide +kernel, rfl⟩
theorem nX6_readOneEater_11 : Nx mX6_readOneEater 11 (.if_icmp .ne 8) 3 14 := ⟨by decide +kernel, rfl⟩
theorem nX6_readOneEater_14 : Nx mX6_readOneEater 14 (.bipush (-9)) 2 16 := ⟨by decide +kernel, rfl⟩
theorem nX6_readOneEater_16 : Nx mX6_readOneEater 16 (.goto 10) 3 19 := ⟨by decide +kernel, rfl⟩
theorem nX6_readOneEater_19 : Nx mX6_readOneEater 19 (.aload_n 0) 1 20 := ⟨by decide +kernel, rfl⟩
theorem nX6_readOneEater_20 : Nx mX6_readOneEater 20 (.iconst 0) 1 21 := ⟨by decide +kernel, rfl⟩
theorem nX6_readOneEater_21 : Nx mX6_readOneEater 21 (.bipush 9) 2 23 := ⟨by decide +kernel, rfl⟩
theorem nX6_readOneEater_23 : Nx mX6_readOneEater 23 (.invokevirtual 90) 3 26 := ⟨by decide +kernel, rfl⟩
theorem nX6_readOneEater_26 : Nx mX6_readOneEater 26 (.istore_n 2) 1 27 := ⟨by decide +kernel, rfl⟩
theorem nX6_readOneEater_27 : Nx mX6_readOneEater 27 (.iload_n 2) 1 28 := ⟨by decide +kernel, rfl⟩
theorem nX6_readOneEater_28 : Nx mX6_readOneEater 28 (.bipush (-9)) 2 30 := ⟨by decide +kernel, rfl⟩
theorem nX6_readOneEater_30 : Nx mX6_readOneEater 30 (.if_icmp .ne 8) 3 33 := ⟨by decide +kernel, rfl⟩
theorem nX6_readOneEater_33 : Nx mX6_readOneEater 33 (.bipush (-9)) 2 35 := ⟨by decide +kernel, rfl⟩
theorem nX6_readOneEater_35 : Nx mX6_readOneEater 35 (.goto 9) 3 38 := ⟨by decide +kernel, rfl⟩
theorem nX6_readOneEater_38 : Nx mX6_readOneEater 38 (.aload_n 0) 1 39 := ⟨by decide +kernel, rfl⟩
theorem nX6_readOneEater_39 : Nx mX6_readOneEater 39 (.iconst 0) 1 40 := ⟨by decide +kernel, rfl⟩
theorem nX6_readOneEater_40 : Nx mX6_readOneEater 40 (.iconst 3) 1 41 := ⟨by decide +kernel, rfl⟩
theorem nX6_readOneEater_41 : Nx mX6_readOneEater 41 (.invokevirtual 90) 3 44 := ⟨by decide +kernel, rfl⟩
theorem nX6_readOneEater_44 : Nx mX6_readOneEater 44 (.istore_n 3) 1 45 := ⟨by decide +kernel, rfl⟩
theorem nX6_readOneEater_45 : Nx mX6_readOneEater 45 (.iload_n 3) 1 46 := ⟨by decide +kernel, rfl⟩
theorem nX6_readOneEater_46 : Nx mX6_readOneEater 46 (.bipush (-9)) 2 48 := ⟨by decide +kernel, rfl⟩
theorem nX6_readOneEater_48 : Nx mX6_readOneEater 48 (.if_icmp .ne 5) 3 51 := ⟨by decide +kernel, rfl⟩
theorem nX6_readOneEater_51 : Nx mX6_readOneEater 51 (.iconst 0) 1 52 := ⟨by decide +kernel, rfl⟩
theorem nX6_readOneEater_52 : Nx mX6_readOneEater 52 (.ireturn) 1 53 := ⟨by decide +kernel, rfl⟩
theorem nX6_readOneEater_53 : Nx mX6_readOneEater 53 (.aload_n 0) 1 54 := ⟨by decide +kernel, rfl⟩
theorem nX6_readOneEater_54 : Nx mX6_readOneEater 54 (.getfield 34) 3 57 := ⟨by decide +kernel, rfl⟩
theorem nX6_readOneEater_57 : Nx mX6_readOneEater 57 (.iconst 3) 1 58 := ⟨by decide +kernel, rfl⟩
theorem nX6_readOneEater_58 : Nx mX6_readOneEater 58 (.aload_n 0) 1 59 := ⟨by decide +kernel, rfl⟩
theorem nX6_readOneEater_59 : Nx mX6_readOneEater 59 (.getfield 97) 3 62 := ⟨by decide +kernel, rfl⟩
theorem nX6_readOneEater_62 : Nx mX6_readOneEater 62 (.imul) 1 63 := ⟨by decide +kernel, rfl⟩
theorem nX6_readOneEater_63 : Nx mX6_readOneEater 63 (.iload_n 1) 1 64 := ⟨by decide +kernel, rfl⟩
theorem nX6_readOneEater_64 : Nx mX6_readOneEater 64 (.iastore) 1 65 := ⟨by decide +kernel, rfl⟩
theorem nX6_readOneEater_65 : Nx mX6_readOneEater 65 (.aload_n 0) 1 66 := ⟨by decide +kernel, rfl⟩
theorem nX6_readOneEater_66 : Nx mX6_readOneEater 66 (.getfield 34) 3 69 := ⟨by decide +kernel, rfl⟩
theorem nX6_readOneEater_69 : Nx mX6_readOneEater 69 (.iconst 3) 1 70 := ⟨by decide +kernel, rfl⟩
theorem nX6_readOneEater_70 : Nx mX6_readOneEater 70 (.aload_n 0) 1 71 := ⟨by decide +kernel, rfl⟩
theorem nX6_readOneEater_71 : Nx mX6_readOneEater 71 (.getfield 97) 3 74 := ⟨by decide +kernel, rfl⟩
theorem nX6_readOneEater_74 : Nx mX6_readOneEater 74 (.imul) 1 75 := ⟨by decide +kernel, rfl⟩
theorem nX6_readOneEater_75 : Nx mX6_readOneEater 75 (.iconst 1) 1 76 := ⟨by decide +kernel, rfl⟩
theorem nX6_readOneEater_76 : Nx mX6_readOneEater 76 (.iadd) 1 77 := ⟨by decide +kernel, rfl⟩
theorem nX6_readOneEater_77 : Nx mX6_readOneEater 77 (.iload_n 2) 1 78 := ⟨by decide +kernel, rfl⟩
theorem nX6_readOneEater_78 : Nx mX6_readOneEater 78 (.iastore) 1 79 := ⟨by decide +kernel, rfl⟩
theorem nX6_readOneEater_79 : Nx mX6_readOneEater 79 (.aload_n 0) 1 80 := ⟨by decide +kernel, rfl⟩
theorem nX6_readOneEater_80 : Nx mX6_readOneEater 80 (.getfield 34) 3 83 := ⟨by decide +kernel, rfl⟩
theorem nX6_readOneEater_83 : Nx mX6_readOneEater 83 (.iconst 3) 1 84 := ⟨by decide +kernel, rfl⟩
theorem nX6_readOneEater_84 : Nx mX6_readOneEater 84 (.aload_n 0) 1 85 := ⟨by decide +kernel, rfl⟩
theorem nX6_readOneEater_85 : Nx mX6_readOneEater 85 (.getfield 97) 3 88 := ⟨by decide +kernel, rfl⟩
theorem nX6_readOneEater_88 : Nx mX6_readOneEater 88 (.imul) 1 89 := ⟨by decide +kernel, rfl⟩
theorem nX6_readOneEater_89 : Nx mX6_readOneEater 89 (.iconst 2) 1 90 := ⟨by decide +kernel, rfl⟩
theorem nX6_readOneEater_90 : Nx mX6_readOneEater 90 (.iadd) 1 91 := ⟨by decide +kernel, rfl⟩
theorem nX6_readOneEater_91 : Nx mX6_readOneEater 91 (.iload_n 3) 1 92 := ⟨by decide +kernel, rfl⟩
theorem nX6_readOneEater_92 : Nx mX6_readOneEater 92 (.iastore) 1 93 := ⟨by decide +kernel, rfl⟩
theorem nX6_readOneEater_93 : Nx mX6_readOneEater 93 (.aload_n 0) 1 94 := ⟨by decide +kernel, rfl⟩
theorem nX6_readOneEater_94 : Nx mX6_readOneEater 94 (.dup) 1 95 := ⟨by decide +kernel, rfl⟩
theorem nX6_readOneEater_95 : Nx mX6_readOneEater 95 (.getfield 97) 3 98 := ⟨by decide +kernel, rfl⟩
theorem nX6_readOneEater_98 : Nx mX6_readOneEater 98 (.iconst 1) 1 99 := ⟨by decide +kernel, rfl⟩
theorem nX6_readOneEater_99 : Nx mX6_readOneEater 99 (.iadd) 1 100 := ⟨by decide +kernel, rfl⟩
theorem nX6_readOneEater_100 : Nx mX6_readOneEater 100 (.putfield 97) 3 103 := ⟨by decide +kernel, rfl⟩
theorem nX6_readOneEater_103 : Nx mX6_readOneEater 103 (.iconst 1) 1 104 := ⟨by decide +kernel, rfl⟩
theorem nX6_readOneEater_104 : Nx mX6_readOneEater 104 (.ireturn) 1 105 := ⟨by decide +kernel, rfl⟩
theorem nX6_readThing_0 : Nx mX6_readThing 0 (.aload_n 0) 1 1 := ⟨by decide +kernel, rfl⟩
theorem nX6_readThing_1 : Nx mX6_readThing 1 (.getfield 7) 3 4 := ⟨by decide +kernel, rfl⟩
theorem nX6_readThing_4 : Nx mX6_readThing 4 (.aload_n 0) 1 5 := ⟨by decide +kernel, rfl⟩
theorem nX6_readThing_5 : Nx mX6_readThing 5 (.getfield 87) 3 8 := ⟨by decide +kernel, rfl⟩
theorem nX6_readThing_8 : Nx mX6_readThing 8 (.iaload) 1 9 := ⟨by decide +kernel, rfl⟩
theorem nX6_readThing_9 : Nx mX6_readThing 9 (.istore_n 1) 1 10 := ⟨by decide +kernel, rfl⟩
theorem nX6_readThing_10 : Nx mX6_readThing 10 (.aload_n 0) 1 11 := ⟨by decide +kernel, rfl⟩
theorem nX6_readThing_11 : Nx mX6_readThing 11 (.dup) 1 12 := ⟨by decide +kernel, rfl⟩
theorem nX6_readThing_12 : Nx mX6_readThing 12 (.getfield 87) 3 15 := ⟨by decide +kernel, rfl⟩
theorem nX6_readThing_15 : Nx mX6_readThing 15 (.iconst 1) 1 16 := ⟨by decide +kernel, rfl⟩
theorem nX6_readThing_16 : Nx mX6_readThing 16 (.iadd) 1 17 := ⟨by decide +kernel, rfl⟩
theorem nX6_readThing_17 : Nx mX6_readThing 17 (.putfield 87) 3 20 := ⟨by decide +kernel, rfl⟩
theorem nX6_readThing_20 : Nx mX6_readThing 20 (.iload_n 1) 1 21 := ⟨by decide +kernel, rfl⟩
theorem nX6_readThing_21 : Nx mX6_readThing 21 (.bipush 71) 2 23 := ⟨by decide +kernel, rfl⟩
theorem nX6_readThing_23 : Nx mX6_readThing 23 (.if_icmp .ne 16) 3 26 := ⟨by decide +kernel, rfl⟩
theorem nX6_readThing_26 : Nx mX6_readThing 26 (.aload_n 0) 1 27 := ⟨by decide +kernel, rfl⟩
theorem nX6_readThing_27 : Nx mX6_readThing 27 (.getfield 94) 3 30 := ⟨by decide +kernel, rfl⟩
theorem nX6_readThing_30 : Nx mX6_readThing 30 (.iconst 4) 1 31 := ⟨by decide +kernel, rfl⟩
theorem nX6_readThing_31 : Nx mX6_readThing 31 (.if_icmp .ge 8) 3 34 := ⟨by decide +kernel, rfl⟩
theorem nX6_readThing_34 : Nx mX6_readThing 34 (.aload_n 0) 1 35 := ⟨by decide +kernel, rfl⟩
theorem nX6_readThing_35 : Nx mX6_readThing 35 (.invokevirtual 100) 3 38 := ⟨by decide +kernel, rfl⟩
theorem nX6_readThing_38 : Nx mX6_readThing 38 (.ireturn) 1 39 := ⟨by decide +kernel, rfl⟩
theorem nX6_readThing_39 : Nx mX6_readThing 39 (.iload_n 1) 1 40 := ⟨by decide +kernel, rfl⟩
theorem nX6_readThing_40 : Nx mX6_readThing 40 (.bipush 69) 2 42 := ⟨by decide +kernel, rfl⟩
theorem nX6_readThing_42 : Nx mX6_readThing 42 (.if_icmp .ne 16) 3 45 := ⟨by decide +kernel, rfl⟩
theorem nX6_readThing_45 : Nx mX6_readThing 45 (.aload_n 0) 1 46 := ⟨by decide +kernel, rfl⟩
theorem nX6_readThing_46 : Nx mX6_readThing 46 (.getfield 97) 3 49 := ⟨by decide +kernel, rfl⟩
theorem nX6_readThing_49 : Nx mX6_readThing 49 (.iconst 5) 1 50 := ⟨by decide +kernel, rfl⟩
theorem nX6_readThing_50 : Nx mX6_readThing 50 (.if_icmp .ge 8) 3 53 := ⟨by decide +kernel, rfl⟩
theorem nX6_readThing_53 : Nx mX6_readThing 53 (.aload_n 0) 1 54 := ⟨by decide +kernel, rfl⟩
theorem nX6_readThing_54 : Nx mX6_readThing 54 (.invokevirtual 104) 3 57 := ⟨by decide +kernel, rfl⟩
theorem nX6_readThing_57 : Nx mX6_readThing 57 (.ireturn) 1 58 := ⟨by decide +kernel, rfl⟩
theorem nX6_readThing_58 : Nx mX6_readThing 58 (.aload_n 0) 1 59 := ⟨by decide +kernel, rfl⟩
theorem nX6_readThing_59 : Nx mX6_readThing 59 (.dup) 1 60 := ⟨by decide +kernel, rfl⟩
theorem nX6_readThing_60 : Nx mX6_readThing 60 (.getfield 87) 3 63 := ⟨by decide +kernel, rfl⟩
theorem nX6_readThing_63 : Nx mX6_readThing 63 (.iconst 1) 1 64 := ⟨by decide +kernel, rfl⟩
theorem nX6_readThing_64 : Nx mX6_readThing 64 (.isub) 1 65 := ⟨by decide +kernel, rfl⟩
theorem nX6_readThing_65 : Nx mX6_readThing 65 (.putfield 87) 3 68 := ⟨by decide +kernel, rfl⟩
theorem nX6_readThing_68 : Nx mX6_readThing 68 (.iconst 0) 1 69 := ⟨by decide +kernel, rfl⟩
theorem nX6_readThing_69 : Nx mX6_readThing 69 (.ireturn) 1 70 := ⟨by decide +kernel, rfl⟩
theorem nX6_readCountry_0 : Nx mX6_readCountry 0 (.aload_n 0) 1 1 := ⟨by decide +kernel, rfl⟩
theorem nX6_readCountry_1 : Nx mX6_readCountry 1 (.iconst 0) 1 2 := ⟨by decide +kernel, rfl⟩
theorem nX6_readCountry_2 : Nx mX6_readCountry 2 (.putfield 87) 3 5 := ⟨by decide +kernel, rfl⟩
theorem nX6_readCountry_5 : Nx mX6_readCountry 5 (.aload_n 0) 1 6 := ⟨by decide +kernel, rfl⟩
theorem nX6_readCountry_6 : Nx mX6_readCountry 6 (.iconst 0) 1 7 := ⟨by decide +kernel, rfl⟩
theorem nX6_readCountry_7 : Nx mX6_readCountry 7 (.putfield 94) 3 10 := ⟨by decide +kernel, rfl⟩
theorem nX6_readCountry_10 : Nx mX6_readCountry 10 (.aload_n 0) 1 11 := ⟨by decide +kernel, rfl⟩
theorem nX6_readCountry_11 : Nx mX6_readCountry 11 (.iconst 0) 1 12 := ⟨by decide +kernel, rfl⟩
theorem nX6_readCountry_12 : Nx mX6_readCountry 12 (.putfield 97) 3 15 := ⟨by decide +kernel, rfl⟩
theorem nX6_readCountry_15 : Nx mX6_readCountry 15 (.aload_n 0) 1 16 := ⟨by decide +kernel, rfl⟩
theorem nX6_readCountry_16 : Nx mX6_readCountry 16 (.getfield 84) 3 19 := ⟨by decide +kernel, rfl⟩
theorem nX6_readCountry_19 : Nx mX6_readCountry 19 (.ifCond .eq 14) 3 22 := ⟨by decide +kernel, rfl⟩
theorem nX6_readCountry_22 : Nx mX6_readCountry 22 (.aload_n 0) 1 23 := ⟨by decide +kernel, rfl⟩
theorem nX6_readCountry_23 : Nx mX6_readCountry 23 (.getfield 7) 3 26 := ⟨by decide +kernel, rfl⟩
theorem nX6_readCountry_26 : Nx mX6_readCountry 26 (.iconst 0) 1 27 := ⟨by decide +kernel, rfl⟩
theorem nX6_readCountry_27 : Nx mX6_readCountry 27 (.iaload) 1 28 := ⟨by decide +kernel, rfl⟩
theorem nX6_readCountry_28 : Nx mX6_readCountry 28 (.bipush 70) 2 30 := ⟨by decide +kernel, rfl⟩
theorem nX6_readCountry_30 : Nx mX6_readCountry 30 (.if_icmp .eq 5) 3 33 := ⟨by decide +kernel, rfl⟩
theorem nX6_readCountry_33 : Nx mX6_readCountry 33 (.iconst 0) 1 34 := ⟨by decide +kernel, rfl⟩
theorem nX6_readCountry_34 : Nx mX6_readCountry 34 (.ireturn) 1 35 := ⟨by decide +kernel, rfl⟩
theorem nX6_readCountry_35 : Nx mX6_readCountry 35 (.aload_n 0) 1 36 := ⟨by decide +kernel, rfl⟩
theorem nX6_readCountry_36 : Nx mX6_readCountry 36 (.iconst 1) 1 37 := ⟨by decide +kernel, rfl⟩
theorem nX6_readCountry_37 : Nx mX6_readCountry 37 (.putfield 87) 3 40 := ⟨by decide +kernel, rfl⟩
theorem nX6_readCountry_40 : Nx mX6_readCountry 40 (.aload_n 0) 1 41 := ⟨by decide +kernel, rfl⟩
theorem nX6_readCountry_41 : Nx mX6_readCountry 41 (.getfield 87) 3 44 := ⟨by decide +kernel, rfl⟩
theorem nX6_readCountry_44 : Nx mX6_readCountry 44 (.aload_n 0) 1 45 := ⟨by decide +kernel, rfl⟩
theorem nX6_readCountry_45 : Nx mX6_readCountry 45 (.getfield 84) 3 48 := ⟨by decide +kernel, rfl⟩
theorem nX6_readCountry_48 : Nx mX6_readCountry 48 (.if_icmp .ge 15) 3 51 := ⟨by decide +kernel, rfl⟩
theorem nX6_readCountry_51 : Nx mX6_readCountry 51 (.aload_n 0) 1 52 := ⟨by decide +kernel, rfl⟩
theorem nX6_readCountry_52 : Nx mX6_readCountry 52 (.invokevirtual 107) 3 55 := ⟨by decide +kernel, rfl⟩
theorem nX6_readCountry_55 : Nx mX6_readCountry 55 (.ifCond .ne (-15)) 3 58 := ⟨by decide +kernel, rfl⟩
theorem nX6_readCountry_58 : Nx mX6_readCountry 58 (.aload_n 0) 1 59 := ⟨by decide +kernel, rfl⟩
theorem nX6_readCountry_59 : Nx mX6_readCountry 59 (.getfield 87) 3 62 := ⟨by decide +kernel, rfl⟩
theorem nX6_readCountry_62 : Nx mX6_readCountry 62 (.ireturn) 1 63 := ⟨by decide +kernel, rfl⟩
theorem nX6_readCountry_63 : Nx mX6_readCountry 63 (.bipush (-9)) 2 65 := ⟨by decide +kernel, rfl⟩
theorem nX6_readCountry_65 : Nx mX6_readCountry 65 (.ireturn) 1 66 := ⟨by decide +kernel, rfl⟩
theorem nX6_fault_0 : Nx mX6_fault 0 (.aload_n 0) 1 1 := ⟨by decide +kernel, rfl⟩
theorem nX6_fault_1 : Nx mX6_fault 1 (.iconst 0) 1 2 := ⟨by decide +kernel, rfl⟩
theorem nX6_fault_2 : Nx mX6_fault 2 (.putfield 68) 3 5 := ⟨by decide +kernel, rfl⟩
theorem nX6_fault_5 : Nx mX6_fault 5 (.aload_n 0) 1 6 := ⟨by decide +kernel, rfl⟩
theorem nX6_fault_6 : Nx mX6_fault 6 (.invokevirtual 110) 3 9 := ⟨by decide +kernel, rfl⟩
theorem nX6_fault_9 : Nx mX6_fault 9 (.ireturn) 1 10 := ⟨by decide +kernel, rfl⟩
theorem nX6_country_0 : Nx mX6_country 0 (.aload_n 0) 1 1 := ⟨by decide +kernel, rfl⟩
theorem nX6_country_1 : Nx mX6_country 1 (.iconst 0) 1 2 := ⟨by decide +kernel, rfl⟩
theorem nX6_country_2 : Nx mX6_country 2 (.putfield 68) 3 5 := ⟨by decide +kernel, rfl⟩
theorem nX6_country_5 : Nx mX6_country 5 (.aload_n 0) 1 6 := ⟨by decide +kernel, rfl⟩
theorem nX6_country_6 : Nx mX6_country 6 (.invokevirtual 110) 3 9 := ⟨by decide +kernel, rfl⟩
theorem nX6_country_9 : Nx mX6_country 9 (.bipush (-9)) 2 11 := ⟨by decide +kernel, rfl⟩
theorem nX6_country_11 : Nx mX6_country 11 (.if_icmp .eq 6) 3 14 := ⟨by decide +kernel, rfl⟩
theorem nX6_country_14 : Nx mX6_country 14 (.bipush (-3)) 2 16 := ⟨by decide +kernel, rfl⟩
theorem nX6_country_16 : Nx mX6_country 16 (.ireturn) 1 17 := ⟨by decide +kernel, rfl⟩
theorem nX6_country_17 : Nx mX6_country 17 (.aload_n 0) 1 18 := ⟨by decide +kernel, rfl⟩
theorem nX6_country_18 : Nx mX6_country 18 (.aload_n 0) 1 19 := ⟨by decide +kernel, rfl⟩
theorem nX6_country_19 : Nx mX6_country 19 (.getfield 94) 3 22 := ⟨by decide +kernel, rfl⟩
theorem nX6_country_22 : Nx mX6_country 22 (.putfield 72) 3 25 := ⟨by decide +kernel, rfl⟩
theorem nX6_country_25 : Nx mX6_country 25 (.aload_n 0) 1 26 := ⟨by decide +kernel, rfl⟩
theorem nX6_country_26 : Nx mX6_country 26 (.aload_n 0) 1 27 := ⟨by decide +kernel, rfl⟩
theorem nX6_country_27 : Nx mX6_country 27 (.getfield 97) 3 30 := ⟨by decide +kernel, rfl⟩
theorem nX6_country_30 : Nx mX6_country 30 (.putfield 79) 3 33 := ⟨by decide +kernel, rfl⟩
theorem nX6_country_33 : Nx mX6_country 33 (.iconst 0) 1 34 := ⟨by decide +kernel, rfl⟩
theorem nX6_country_34 : Nx mX6_country 34 (.istore_n 1) 1 35 := ⟨by decide +kernel, rfl⟩
theorem nX6_country_35 : Nx mX6_country 35 (.iload_n 1) 1 36 := ⟨by decide +kernel, rfl⟩
theorem nX6_country_36 : Nx mX6_country 36 (.bipush 29) 2 38 := ⟨by decide +kernel, rfl⟩
theorem nX6_country_38 : Nx mX6_country 38 (.if_icmp .ge 16) 3 41 := ⟨by decide +kernel, rfl⟩
theorem nX6_country_41 : Nx mX6_country 41 (.aload_n 0) 1 42 := ⟨by decide +kernel, rfl⟩
theorem nX6_country_42 : Nx mX6_country 42 (.getfield 37) 3 45 := ⟨by decide +kernel, rfl⟩
theorem nX6_country_45 : Nx mX6_country 45 (.iload_n 1) 1 46 := ⟨by decide +kernel, rfl⟩
theorem nX6_country_46 : Nx mX6_country 46 (.iconst 0) 1 47 := ⟨by decide +kernel, rfl⟩
theorem nX6_country_47 : Nx mX6_country 47 (.iastore) 1 48 := ⟨by decide +kernel, rfl⟩
theorem nX6_country_48 : Nx mX6_country 48 (.iinc 1 1) 3 51 := ⟨by decide +kernel, rfl⟩
theorem nX6_country_51 : Nx mX6_country 51 (.goto (-16)) 3 54 := ⟨by decide +kernel, rfl⟩
theorem nX6_country_54 : Nx mX6_country 54 (.iconst 0) 1 55 := ⟨by decide +kernel, rfl⟩
theorem nX6_country_55 : Nx mX6_country 55 (.istore_n 1) 1 56 := ⟨by decide +kernel, rfl⟩
theorem nX6_country_56 : Nx mX6_country 56 (.iload_n 1) 1 57 := ⟨by decide +kernel, rfl⟩
theorem nX6_country_57 : Nx mX6_country 57 (.aload_n 0) 1 58 := ⟨by decide +kernel, rfl⟩
theorem nX6_country_58 : Nx mX6_country 58 (.getfield 72) 3 61 := ⟨by decide +kernel, rfl⟩
theorem nX6_country_61 : Nx mX6_country 61 (.if_icmp .ge 67) 3 64 := ⟨by decide +kernel, rfl⟩
theorem nX6_country_64 : Nx mX6_country 64 (.aload_n 0) 1 65 := ⟨by decide +kernel, rfl⟩
theorem nX6_country_65 : Nx mX6_country 65 (.getfield 13) 3 68 := ⟨by decide +kernel, rfl⟩
theorem nX6_country_68 : Nx mX6_country 68 (.iload_n 1) 1 69 := ⟨by decide +kernel, rfl⟩
theorem nX6_country_69 : Nx mX6_country 69 (.aload_n 0) 1 70 := ⟨by decide +kernel, rfl⟩
theorem nX6_country_70 : Nx mX6_country 70 (.getfield 31) 3 73 := ⟨by decide +kernel, rfl⟩
theorem nX6_country_73 : Nx mX6_country 73 (.iconst 3) 1 74 := ⟨by decide +kernel, rfl⟩
theorem nX6_country_74 : Nx mX6_country 74 (.iload_n 1) 1 75 := ⟨by decide +kernel, rfl⟩
theorem nX6_country_75 : Nx mX6_country 75 (.imul) 1 76 := ⟨by decide +kernel, rfl⟩
theorem nX6_country_76 : Nx mX6_country 76 (.iaload) 1 77 := ⟨by decide +kernel, rfl⟩
theorem nX6_country_77 : Nx mX6_country 77 (.iastore) 1 78 := ⟨by decide +kernel, rfl⟩
theorem nX6_country_78 : Nx mX6_country 78 (.aload_n 0) 1 79 := ⟨by decide +kernel, rfl⟩
theorem nX6_country_79 : Nx mX6_country 79 (.getfield 16) 3 82 := ⟨by decide +kernel, rfl⟩
theorem nX6_country_82 : Nx mX6_country 82 (.iload_n 1) 1 83 := ⟨by decide +kernel, rfl⟩
theorem nX6_country_83 : Nx mX6_country 83 (.aload_n 0) 1 84 := ⟨by decide +kernel, rfl⟩
theorem nX6_country_84 : Nx mX6_country 84 (.getfield 31) 3 87 := ⟨by decide +kernel, rfl⟩
theorem nX6_country_87 : Nx mX6_country 87 (.iconst 3) 1 88 := ⟨by decide +kernel, rfl⟩
theorem nX6_country_88 : Nx mX6_country 88 (.iload_n 1) 1 89 := ⟨by decide +kernel, rfl⟩
theorem nX6_country_89 : Nx mX6_country 89 (.imul) 1 90 := ⟨by decide +kernel, rfl⟩
theorem nX6_country_90 : Nx mX6_country 90 (.iconst 1) 1 91 := ⟨by decide +kernel, rfl⟩
theorem nX6_country_91 : Nx mX6_country 91 (.iadd) 1 92 := ⟨by decide +kernel, rfl⟩
theorem nX6_country_92 : Nx mX6_country 92 (.iaload) 1 93 := ⟨by decide +kernel, rfl⟩
theorem nX6_country_93 : Nx mX6_country 93 (.iastore) 1 94 := ⟨by decide +kernel, rfl⟩
theorem nX6_country_94 : Nx mX6_country 94 (.aload_n 0) 1 95 := ⟨by decide +kernel, rfl⟩
theorem nX6_country_95 : Nx mX6_country 95 (.getfield 19) 3 98 := ⟨by decide +kernel, rfl⟩
theorem nX6_country_98 : Nx mX6_country 98 (.iload_n 1) 1 99 := ⟨by decide +kernel, rfl⟩
theorem nX6_country_99 : Nx mX6_country 99 (.aload_n 0) 1 100 := ⟨by decide +kernel, rfl⟩
theorem nX6_country_100 : Nx mX6_country 100 (.getfield 31) 3 103 := ⟨by decide +kernel, rfl⟩
theorem nX6_country_103 : Nx mX6_country 103 (.iconst 3) 1 104 := ⟨by decide +kernel, rfl⟩
theorem nX6_country_104 : Nx mX6_country 104 (.iload_n 1) 1 105 := ⟨by decide +kernel, rfl⟩
theorem nX6_country_105 : Nx mX6_country 105 (.imul) 1 106 := ⟨by decide +kernel, rfl⟩
theorem nX6_country_106 : Nx mX6_country 106 (.iconst 2) 1 107 := ⟨by decide +kernel, rfl⟩
theorem nX6_country_107 : Nx mX6_country 107 (.iadd) 1 108 := ⟨by decide +kernel, rfl⟩
theorem nX6_country_108 : Nx mX6_country 108 (.iaload) 1 109 := ⟨by decide +kernel, rfl⟩
theorem nX6_country_109 : Nx mX6_country 109 (.iastore) 1 110 := ⟨by decide +kernel, rfl⟩
theorem nX6_country_110 : Nx mX6_country 110 (.aload_n 0) 1 111 := ⟨by decide +kernel, rfl⟩
theorem nX6_country_111 : Nx mX6_country 111 (.getfield 37) 3 114 := ⟨by decide +kernel, rfl⟩
theorem nX6_country_114 : Nx mX6_country 114 (.iload_n 1) 1 115 := ⟨by decide +kernel, rfl⟩
theorem nX6_country_115 : Nx mX6_country 115 (.aload_n 0) 1 116 := ⟨by decide +kernel, rfl⟩
theorem nX6_country_116 : Nx mX6_country 116 (.getfield 16) 3 119 := ⟨by decide +kernel, rfl⟩
theorem nX6_country_119 : Nx mX6_country 119 (.iload_n 1) 1 120 := ⟨by decide +kernel, rfl⟩
theorem nX6_country_120 : Nx mX6_country 120 (.iaload) 1 121 := ⟨by decide +kernel, rfl⟩
theorem nX6_country_121 : Nx mX6_country 121 (.iastore) 1 122 := ⟨by decide +kernel, rfl⟩
theorem nX6_country_122 : Nx mX6_country 122 (.iinc 1 1) 3 125 := ⟨by decide +kernel, rfl⟩
theorem nX6_country_125 : Nx mX6_country 125 (.goto (-69)) 3 128 := ⟨by decide +kernel, rfl⟩
theorem nX6_country_128 : Nx mX6_country 128 (.iconst 0) 1 129 := ⟨by decide +kernel, rfl⟩
theorem nX6_country_129 : Nx mX6_country 129 (.istore_n 1) 1 130 := ⟨by decide +kernel, rfl⟩
theorem nX6_country_130 : Nx mX6_country 130 (.iload_n 1) 1 131 := ⟨by decide +kernel, rfl⟩
theorem nX6_country_131 : Nx mX6_country 131 (.aload_n 0) 1 132 := ⟨by decide +kernel, rfl⟩
theorem nX6_country_132 : Nx mX6_country 132 (.getfield 79) 3 135 := ⟨by decide +kernel, rfl⟩
theorem nX6_country_135 : Nx mX6_country 135 (.if_icmp .ge 55) 3 138 := ⟨by decide +kernel, rfl⟩
theorem nX6_country_138 : Nx mX6_country 138 (.aload_n 0) 1 139 := ⟨by decide +kernel, rfl⟩
theorem nX6_country_139 : Nx mX6_country 139 (.getfield 22) 3 142 := ⟨by decide +kernel, rfl⟩
theorem nX6_country_142 : Nx mX6_country 142 (.iload_n 1) 1 143 := ⟨by decide +kernel, rfl⟩
theorem nX6_country_143 : Nx mX6_country 143 (.aload_n 0) 1 144 := ⟨by decide +kernel, rfl⟩
theorem nX6_country_144 : Nx mX6_country 144 (.getfield 34) 3 147 := ⟨by decide +kernel, rfl⟩
theorem nX6_country_147 : Nx mX6_country 147 (.iconst 3) 1 148 := ⟨by decide +kernel, rfl⟩
theorem nX6_country_148 : Nx mX6_country 148 (.iload_n 1) 1 149 := ⟨by decide +kernel, rfl⟩
theorem nX6_country_149 : Nx mX6_country 149 (.imul) 1 150 := ⟨by decide +kernel, rfl⟩
theorem nX6_country_150 : Nx mX6_country 150 (.iaload) 1 151 := ⟨by decide +kernel, rfl⟩
theorem nX6_country_151 : Nx mX6_country 151 (.iastore) 1 152 := ⟨by decide +kernel, rfl⟩
theorem nX6_country_152 : Nx mX6_country 152 (.aload_n 0) 1 153 := ⟨by decide +kernel, rfl⟩
theorem nX6_country_153 : Nx mX6_country 153 (.getfield 25) 3 156 := ⟨by decide +kernel, rfl⟩
theorem nX6_country_156 : Nx mX6_country 156 (.iload_n 1) 1 157 := ⟨by decide +kernel, rfl⟩
theorem nX6_country_157 : Nx mX6_country 157 (.aload_n 0) 1 158 := ⟨by decide +kernel, rfl⟩
theorem nX6_country_158 : Nx mX6_country 158 (.getfield 34) 3 161 := ⟨by decide +kernel, rfl⟩
theorem nX6_country_161 : Nx mX6_country 161 (.iconst 3) 1 162 := ⟨by decide +kernel, rfl⟩
theorem nX6_country_162 : Nx mX6_country 162 (.iload_n 1) 1 163 := ⟨by decide +kernel, rfl⟩
theorem nX6_country_163 : Nx mX6_country 163 (.imul) 1 164 := ⟨by decide +kernel, rfl⟩
theorem nX6_country_164 : Nx mX6_country 164 (.iconst 1) 1 165 := ⟨by decide +kernel, rfl⟩
theorem nX6_country_165 : Nx mX6_country 165 (.iadd) 1 166 := ⟨by decide +kernel, rfl⟩
theorem nX6_country_166 : Nx mX6_country 166 (.iaload) 1 167 := ⟨by decide +kernel, rfl⟩
theorem nX6_country_167 : Nx mX6_country 167 (.iastore) 1 168 := ⟨by decide +kernel, rfl⟩
theorem nX6_country_168 : Nx mX6_country 168 (.aload_n 0) 1 169 := ⟨by decide +kernel, rfl⟩
theorem nX6_country_169 : Nx mX6_country 169 (.getfield 28) 3 172 := ⟨by decide +kernel, rfl⟩
theorem nX6_country_172 : Nx mX6_country 172 (.iload_n 1) 1 173 := ⟨by decide +kernel, rfl⟩
theorem nX6_country_173 : Nx mX6_country 173 (.aload_n 0) 1 174 := ⟨by decide +kernel, rfl⟩
theorem nX6_country_174 : Nx mX6_country 174 (.getfield 34) 3 177 := ⟨by decide +kernel, rfl⟩
theorem nX6_country_177 : Nx mX6_country 177 (.iconst 3) 1 178 := ⟨by decide +kernel, rfl⟩
theorem nX6_country_178 : Nx mX6_country 178 (.iload_n 1) 1 179 := ⟨by decide +kernel, rfl⟩
theorem nX6_country_179 : Nx mX6_country 179 (.imul) 1 180 := ⟨by decide +kernel, rfl⟩
theorem nX6_country_180 : Nx mX6_country 180 (.iconst 2) 1 181 := ⟨by decide +kernel, rfl⟩
theorem nX6_country_181 : Nx mX6_country 181 (.iadd) 1 182 := ⟨by decide +kernel, rfl⟩
theorem nX6_country_182 : Nx mX6_country 182 (.iaload) 1 183 := ⟨by decide +kernel, rfl⟩
theorem nX6_country_183 : Nx mX6_country 183 (.iastore) 1 184 := ⟨by decide +kernel, rfl⟩
theorem nX6_country_184 : Nx mX6_country 184 (.iinc 1 1) 3 187 := ⟨by decide +kernel, rfl⟩
theorem nX6_country_187 : Nx mX6_country 187 (.goto (-57)) 3 190 := ⟨by decide +kernel, rfl⟩
theorem nX6_country_190 : Nx mX6_country 190 (.aload_n 0) 1 191 := ⟨by decide +kernel, rfl⟩
theorem nX6_country_191 : Nx mX6_country 191 (.iconst 0) 1 192 := ⟨by decide +kernel, rfl⟩
theorem nX6_country_192 : Nx mX6_country 192 (.putfield 114) 3 195 := ⟨by decide +kernel, rfl⟩
theorem nX6_country_195 : Nx mX6_country 195 (.aload_n 0) 1 196 := ⟨by decide +kernel, rfl⟩
theorem nX6_country_196 : Nx mX6_country 196 (.getfield 49) 3 199 := ⟨by decide +kernel, rfl⟩
theorem nX6_country_199 : Nx mX6_country 199 (.iconst 0) 1 200 := ⟨by decide +kernel, rfl⟩
theorem nX6_country_200 : Nx mX6_country 200 (.iconst 0) 1 201 := ⟨by decide +kernel, rfl⟩
theorem nX6_country_201 : Nx mX6_country 201 (.bastore) 1 202 := ⟨by decide +kernel, rfl⟩
theorem nX6_country_202 : Nx mX6_country 202 (.aload_n 0) 1 203 := ⟨by decide +kernel, rfl⟩
theorem nX6_country_203 : Nx mX6_country 203 (.getfield 49) 3 206 := ⟨by decide +kernel, rfl⟩
theorem nX6_country_206 : Nx mX6_country 206 (.iconst 1) 1 207 := ⟨by decide +kernel, rfl⟩
theorem nX6_country_207 : Nx mX6_country 207 (.iconst 0) 1 208 := ⟨by decide +kernel, rfl⟩
theorem nX6_country_208 : Nx mX6_country 208 (.bastore) 1 209 := ⟨by decide +kernel, rfl⟩
theorem nX6_country_209 : Nx mX6_country 209 (.bipush 10) 2 211 := ⟨by decide +kernel, rfl⟩
theorem nX6_country_211 : Nx mX6_country 211 (.aload_n 0) 1 212 := ⟨by decide +kernel, rfl⟩
theorem nX6_country_212 : Nx mX6_country 212 (.getfield 72) 3 215 := ⟨by decide +kernel, rfl⟩
theorem nX6_country_215 : Nx mX6_country 215 (.imul) 1 216 := ⟨by decide +kernel, rfl⟩
theorem nX6_country_216 : Nx mX6_country 216 (.aload_n 0) 1 217 := ⟨by decide +kernel, rfl⟩
theorem nX6_country_217 : Nx mX6_country 217 (.getfield 79) 3 220 := ⟨by decide +kernel, rfl⟩
theorem nX6_country_220 : Nx mX6_country 220 (.iadd) 1 221 := ⟨by decide +kernel, rfl⟩
theorem nX6_country_221 : Nx mX6_country 221 (.ireturn) 1 222 := ⟨by decide +kernel, rfl⟩
theorem nX6_owed_0 : Nx mX6_owed 0 (.aload_n 0) 1 1 := ⟨by decide +kernel, rfl⟩
theorem nX6_owed_1 : Nx mX6_owed 1 (.bipush 8) 2 3 := ⟨by decide +kernel, rfl⟩
theorem nX6_owed_3 : Nx mX6_owed 3 (.iconst 4) 1 4 := ⟨by decide +kernel, rfl⟩
theorem nX6_owed_4 : Nx mX6_owed 4 (.iload_n 1) 1 5 := ⟨by decide +kernel, rfl⟩
theorem nX6_owed_5 : Nx mX6_owed 5 (.imul) 1 6 := ⟨by decide +kernel, rfl⟩
theorem nX6_owed_6 : Nx mX6_owed 6 (.iadd) 1 7 := ⟨by decide +kernel, rfl⟩
theorem nX6_owed_7 : Nx mX6_owed 7 (.iload_n 2) 1 8 := ⟨by decide +kernel, rfl⟩
theorem nX6_owed_8 : Nx mX6_owed 8 (.iadd) 1 9 := ⟨by decide +kernel, rfl⟩
theorem nX6_owed_9 : Nx mX6_owed 9 (.iaload) 1 10 := ⟨by decide +kernel, rfl⟩
theorem nX6_owed_10 : Nx mX6_owed 10 (.ireturn) 1 11 := ⟨by decide +kernel, rfl⟩
theorem nX6_owesAll_0 : Nx mX6_owesAll 0 (.aload_n 0) 1 1 := ⟨by decide +kernel, rfl⟩
theorem nX6_owesAll_1 : Nx mX6_owesAll 1 (.iload_n 1) 1 2 := ⟨by decide +kernel, rfl⟩
theorem nX6_owesAll_2 : Nx mX6_owesAll 2 (.iconst 0) 1 3 := ⟨by decide +kernel, rfl⟩
theorem nX6_owesAll_3 : Nx mX6_owesAll 3 (.invokestatic 117) 3 6 := ⟨by decide +kernel, rfl⟩
theorem nX6_owesAll_6 : Nx mX6_owesAll 6 (.aload_n 0) 1 7 := ⟨by decide +kernel, rfl⟩
theorem nX6_owesAll_7 : Nx mX6_owesAll 7 (.iload_n 1) 1 8 := ⟨by decide +kernel, rfl⟩
theorem nX6_owesAll_8 : Nx mX6_owesAll 8 (.iconst 1) 1 9 := ⟨by decide +kernel, rfl⟩
theorem nX6_owesAll_9 : Nx mX6_owesAll 9 (.invokestatic 117) 3 12 := ⟨by decide +kernel, rfl⟩
theorem nX6_owesAll_12 : Nx mX6_owesAll 12 (.iadd) 1 13 := ⟨by decide +kernel, rfl⟩
theorem nX6_owesAll_13 : Nx mX6_owesAll 13 (.aload_n 0) 1 14 := ⟨by decide +kernel, rfl⟩
theorem nX6_owesAll_14 : Nx mX6_owesAll 14 (.iload_n 1) 1 15 := ⟨by decide +kernel, rfl⟩
theorem nX6_owesAll_15 : Nx mX6_owesAll 15 (.iconst 2) 1 16 := ⟨by decide +kernel, rfl⟩
theorem nX6_owesAll_16 : Nx mX6_owesAll 16 (.invokestatic 117) 3 19 := ⟨by decide +kernel, rfl⟩
theorem nX6_owesAll_19 : Nx mX6_owesAll 19 (.iadd) 1 20 := ⟨by decide +kernel, rfl⟩
theorem nX6_owesAll_20 : Nx mX6_owesAll 20 (.aload_n 0) 1 21 := ⟨by decide +kernel, rfl⟩
theorem nX6_owesAll_21 : Nx mX6_owesAll 21 (.iload_n 1) 1 22 := ⟨by decide +kernel, rfl⟩
theorem nX6_owesAll_22 : Nx mX6_owesAll 22 (.iconst 3) 1 23 := ⟨by decide +kernel, rfl⟩
theorem nX6_owesAll_23 : Nx mX6_owesAll 23 (.invokestatic 117) 3 26 := ⟨by decide +kernel, rfl⟩
theorem nX6_owesAll_26 : Nx mX6_owesAll 26 (.iadd) 1 27 := ⟨by decide +kernel, rfl⟩
theorem nX6_owesAll_27 : Nx mX6_owesAll 27 (.ireturn) 1 28 := ⟨by decide +kernel, rfl⟩
theorem nX6_nearest_0 : Nx mX6_nearest 0 (.bipush (-9)) 2 2 := ⟨by decide +kernel, rfl⟩
theorem nX6_nearest_2 : Nx mX6_nearest 2 (.istore 4) 2 4 := ⟨by decide +kernel, rfl⟩
theorem nX6_nearest_4 : Nx mX6_nearest 4 (.aload_n 0) 1 5 := ⟨by decide +kernel, rfl⟩
theorem nX6_nearest_5 : Nx mX6_nearest 5 (.getfield 72) 3 8 := ⟨by decide +kernel, rfl⟩
theorem nX6_nearest_8 : Nx mX6_nearest 8 (.iconst 1) 1 9 := ⟨by decide +kernel, rfl⟩
theorem nX6_nearest_9 : Nx mX6_nearest 9 (.isub) 1 10 := ⟨by decide +kernel, rfl⟩
theorem nX6_nearest_10 : Nx mX6_nearest 10 (.istore 5) 2 12 := ⟨by decide +kernel, rfl⟩
theorem nX6_nearest_12 : Nx mX6_nearest 12 (.iload 5) 2 14 := ⟨by decide +kernel, rfl⟩
theorem nX6_nearest_14 : Nx mX6_nearest 14 (.ifCond .lt 72) 3 17 := ⟨by decide +kernel, rfl⟩
theorem nX6_nearest_17 : Nx mX6_nearest 17 (.aload_n 1) 1 18 := ⟨by decide +kernel, rfl⟩
theorem nX6_nearest_18 : Nx mX6_nearest 18 (.iload_n 2) 1 19 := ⟨by decide +kernel, rfl⟩
theorem nX6_nearest_19 : Nx mX6_nearest 19 (.iload 5) 2 21 := ⟨by decide +kernel, rfl⟩
theorem nX6_nearest_21 : Nx mX6_nearest 21 (.invokestatic 117) 3 24 := ⟨by decide +kernel, rfl⟩
theorem nX6_nearest_24 : Nx mX6_nearest 24 (.ifCond .le 7) 3 27 := ⟨by decide +kernel, rfl⟩
theorem nX6_nearest_27 : Nx mX6_nearest 27 (.iconst 1) 1 28 := ⟨by decide +kernel, rfl⟩
theorem nX6_nearest_28 : Nx mX6_nearest 28 (.goto 4) 3 31 := ⟨by decide +kernel, rfl⟩
theorem nX6_nearest_31 : Nx mX6_nearest 31 (.iconst 0) 1 32 := ⟨by decide +kernel, rfl⟩
theorem nX6_nearest_32 : Nx mX6_nearest 32 (.istore 6) 2 34 := ⟨by decide +kernel, rfl⟩
theorem nX6_nearest_34 : Nx mX6_nearest 34 (.iload 6) 2 36 := ⟨by decide +kernel, rfl⟩
theorem nX6_nearest_36 : Nx mX6_nearest 36 (.ifCond .eq 40) 3 39 := ⟨by decide +kernel, rfl⟩
theorem nX6_nearest_39 : Nx mX6_nearest 39 (.iload 4) 2 41 := ⟨by decide +kernel, rfl⟩
theorem nX6_nearest_41 : Nx mX6_nearest 41 (.bipush (-9)) 2 43 := ⟨by decide +kernel, rfl⟩
theorem nX6_nearest_43 : Nx mX6_nearest 43 (.if_icmp .eq 28) 3 46 := ⟨by decide +kernel, rfl⟩
theorem nX6_nearest_46 : Nx mX6_nearest 46 (.iload_n 3) 1 47 := ⟨by decide +kernel, rfl⟩
theorem nX6_nearest_47 : Nx mX6_nearest 47 (.aload_n 0) 1 48 := ⟨by decide +kernel, rfl⟩
theorem nX6_nearest_48 : Nx mX6_nearest 48 (.getfield 13) 3 51 := ⟨by decide +kernel, rfl⟩
theorem nX6_nearest_51 : Nx mX6_nearest 51 (.iload 5) 2 53 := ⟨by decide +kernel, rfl⟩
theorem nX6_nearest_53 : Nx mX6_nearest 53 (.iaload) 1 54 := ⟨by decide +kernel, rfl⟩
theorem nX6_nearest_54 : Nx mX6_nearest 54 (.invokestatic 121) 3 57 := ⟨by decide +kernel, rfl⟩
theorem nX6_nearest_57 : Nx mX6_nearest 57 (.iload_n 3) 1 58 := ⟨by decide +kernel, rfl⟩
theorem nX6_nearest_58 : Nx mX6_nearest 58 (.aload_n 0) 1 59 := ⟨by decide +kernel, rfl⟩
theorem nX6_nearest_59 : Nx mX6_nearest 59 (.getfield 13) 3 62 := ⟨by decide +kernel, rfl⟩
theorem nX6_nearest_62 : Nx mX6_nearest 62 (.iload 4) 2 64 := ⟨by decide +kernel, rfl⟩
theorem nX6_nearest_64 : Nx mX6_nearest 64 (.iaload) 1 65 := ⟨by decide +kernel, rfl⟩
theorem nX6_nearest_65 : Nx mX6_nearest 65 (.invokestatic 121) 3 68 := ⟨by decide +kernel, rfl⟩
theorem nX6_nearest_68 : Nx mX6_nearest 68 (.if_icmp .gt 8) 3 71 := ⟨by decide +kernel, rfl⟩
theorem nX6_nearest_71 : Nx mX6_nearest 71 (.iload 5) 2 73 := ⟨by decide +kernel, rfl⟩
theorem nX6_nearest_73 : Nx mX6_nearest 73 (.goto 5) 3 76 := ⟨by decide +kernel, rfl⟩
theorem nX6_nearest_76 : Nx mX6_nearest 76 (.iload 4) 2 78 := ⟨by decide +kernel, rfl⟩
theorem nX6_nearest_78 : Nx mX6_nearest 78 (.istore 4) 2 80 := ⟨by decide +kernel, rfl⟩
theorem nX6_nearest_80 : Nx mX6_nearest 80 (.iinc 5 (-1)) 3 83 := ⟨by decide +kernel, rfl⟩
theorem nX6_nearest_83 : Nx mX6_nearest 83 (.goto (-71)) 3 86 := ⟨by decide +kernel, rfl⟩
theorem nX6_nearest_86 : Nx mX6_nearest 86 (.iload 4) 2 88 := ⟨by decide +kernel, rfl⟩
theorem nX6_nearest_88 : Nx mX6_nearest 88 (.ireturn) 1 89 := ⟨by decide +kernel, rfl⟩
theorem nX6_goes_0 : Nx mX6_goes 0 (.aload_n 0) 1 1 := ⟨by decide +kernel, rfl⟩
theorem nX6_goes_1 : Nx mX6_goes 1 (.getfield 22) 3 4 := ⟨by decide +kernel, rfl⟩
theorem nX6_goes_4 : Nx mX6_goes 4 (.iload_n 2) 1 5 := ⟨by decide +kernel, rfl⟩
theorem nX6_goes_5 : Nx mX6_goes 5 (.iaload) 1 6 := ⟨by decide +kernel, rfl⟩
theorem nX6_goes_6 : Nx mX6_goes 6 (.istore 4) 2 8 := ⟨by decide +kernel, rfl⟩
theorem nX6_goes_8 : Nx mX6_goes 8 (.iload_n 3) 1 9 := ⟨by decide +kernel, rfl⟩
theorem nX6_goes_9 : Nx mX6_goes 9 (.istore 5) 2 11 := ⟨by decide +kernel, rfl⟩
theorem nX6_goes_11 : Nx mX6_goes 11 (.iconst 0) 1 12 := ⟨by decide +kernel, rfl⟩
theorem nX6_goes_12 : Nx mX6_goes 12 (.istore 6) 2 14 := ⟨by decide +kernel, rfl⟩
theorem nX6_goes_14 : Nx mX6_goes 14 (.aload_n 0) 1 15 := ⟨by decide +kernel, rfl⟩
theorem nX6_goes_15 : Nx mX6_goes 15 (.iconst 0) 1 16 := ⟨by decide +kernel, rfl⟩
theorem nX6_goes_16 : Nx mX6_goes 16 (.putfield 124) 3 19 := ⟨by decide +kernel, rfl⟩
theorem nX6_goes_19 : Nx mX6_goes 19 (.aload_n 0) 1 20 := ⟨by decide +kernel, rfl⟩
theorem nX6_goes_20 : Nx mX6_goes 20 (.aload_n 1) 1 21 := ⟨by decide +kernel, rfl⟩
theorem nX6_goes_21 : Nx mX6_goes 21 (.iload_n 2) 1 22 := ⟨by decide +kernel, rfl⟩
theorem nX6_goes_22 : Nx mX6_goes 22 (.iload 4) 2 24 := ⟨by decide +kernel, rfl⟩
theorem nX6_goes_24 : Nx mX6_goes 24 (.invokevirtual 127) 3 27 := ⟨by decide +kernel, rfl⟩
theorem nX6_goes_27 : Nx mX6_goes 27 (.istore 7) 2 29 := ⟨by decide +kernel, rfl⟩
theorem nX6_goes_29 : Nx mX6_goes 29 (.iload 7) 2 31 := ⟨by decide +kernel, rfl⟩
theorem nX6_goes_31 : Nx mX6_goes 31 (.bipush (-9)) 2 33 := ⟨by decide +kernel, rfl⟩
theorem nX6_goes_33 : Nx mX6_goes 33 (.if_icmp .eq 128) 3 36 := ⟨by decide +kernel, rfl⟩
theorem nX6_goes_36 : Nx mX6_goes 36 (.aload_n 0) 1 37 := ⟨by decide +kernel, rfl⟩
theorem nX6_goes_37 : Nx mX6_goes 37 (.getfield 28) 3 40 := ⟨by decide +kernel, rfl⟩
theorem nX6_goes_40 : Nx mX6_goes 40 (.iload_n 2) 1 41 := ⟨by decide +kernel, rfl⟩
theorem nX6_goes_41 : Nx mX6_goes 41 (.iaload) 1 42 := ⟨by decide +kernel, rfl⟩
theorem nX6_goes_42 : Nx mX6_goes 42 (.iconst 1) 1 43 := ⟨by decide +kernel, rfl⟩
theorem nX6_goes_43 : Nx mX6_goes 43 (.if_icmp .eq 20) 3 46 := ⟨by decide +kernel, rfl⟩
theorem nX6_goes_46 : Nx mX6_goes 46 (.iload 4) 2 48 := ⟨by decide +kernel, rfl⟩
theorem nX6_goes_48 : Nx mX6_goes 48 (.aload_n 0) 1 49 := ⟨by decide +kernel, rfl⟩
theorem nX6_goes_49 : Nx mX6_goes 49 (.getfield 13) 3 52 := ⟨by decide +kernel, rfl⟩
theorem nX6_goes_52 : Nx mX6_goes 52 (.iload 7) 2 54 := ⟨by decide +kernel, rfl⟩
theorem nX6_goes_54 : Nx mX6_goes 54 (.iaload) 1 55 := ⟨by decide +kernel, rfl⟩
theorem nX6_goes_55 : Nx mX6_goes 55 (.invokestatic 121) 3 58 := ⟨by decide +kernel, rfl⟩
theorem nX6_goes_58 : Nx mX6_goes 58 (.iload 5) 2 60 := ⟨by decide +kernel, rfl⟩
theorem nX6_goes_60 : Nx mX6_goes 60 (.if_icmp .gt 101) 3 63 := ⟨by decide +kernel, rfl⟩
theorem nX6_goes_63 : Nx mX6_goes 63 (.iload 4) 2 65 := ⟨by decide +kernel, rfl⟩
theorem nX6_goes_65 : Nx mX6_goes 65 (.aload_n 0) 1 66 := ⟨by decide +kernel, rfl⟩
theorem nX6_goes_66 : Nx mX6_goes 66 (.getfield 13) 3 69 := ⟨by decide +kernel, rfl⟩
theorem nX6_goes_69 : Nx mX6_goes 69 (.iload 7) 2 71 := ⟨by decide +kernel, rfl⟩
theorem nX6_goes_71 : Nx mX6_goes 71 (.iaload) 1 72 := ⟨by decide +kernel, rfl⟩
theorem nX6_goes_72 : Nx mX6_goes 72 (.invokestatic 121) 3 75 := ⟨by decide +kernel, rfl⟩
theorem nX6_goes_75 : Nx mX6_goes 75 (.istore 8) 2 77 := ⟨by decide +kernel, rfl⟩
theorem nX6_goes_77 : Nx mX6_goes 77 (.aload_n 0) 1 78 := ⟨by decide +kernel, rfl⟩
theorem nX6_goes_78 : Nx mX6_goes 78 (.dup) 1 79 := ⟨by decide +kernel, rfl⟩
theorem nX6_goes_79 : Nx mX6_goes 79 (.getfield 124) 3 82 := ⟨by decide +kernel, rfl⟩
theorem nX6_goes_82 : Nx mX6_goes 82 (.iload 8) 2 84 := ⟨by decide +kernel, rfl⟩
theorem nX6_goes_84 : Nx mX6_goes 84 (.iadd) 1 85 := ⟨by decide +kernel, rfl⟩
theorem nX6_goes_85 : Nx mX6_goes 85 (.putfield 124) 3 88 := ⟨by decide +kernel, rfl⟩
theorem nX6_goes_88 : Nx mX6_goes 88 (.iload 5) 2 90 := ⟨by decide +kernel, rfl⟩
theorem nX6_goes_90 : Nx mX6_goes 90 (.iload 8) 2 92 := ⟨by decide +kernel, rfl⟩
theorem nX6_goes_92 : Nx mX6_goes 92 (.isub) 1 93 := ⟨by decide +kernel, rfl⟩
theorem nX6_goes_93 : Nx mX6_goes 93 (.istore 5) 2 95 := ⟨by decide +kernel, rfl⟩
theorem nX6_goes_95 : Nx mX6_goes 95 (.aload_n 0) 1 96 := ⟨by decide +kernel, rfl⟩
theorem nX6_goes_96 : Nx mX6_goes 96 (.getfield 13) 3 99 := ⟨by decide +kernel, rfl⟩
theorem nX6_goes_99 : Nx mX6_goes 99 (.iload 7) 2 101 := ⟨by decide +kernel, rfl⟩
theorem nX6_goes_101 : Nx mX6_goes 101 (.iaload) 1 102 := ⟨by decide +kernel, rfl⟩
theorem nX6_goes_102 : Nx mX6_goes 102 (.istore 4) 2 104 := ⟨by decide +kernel, rfl⟩
theorem nX6_goes_104 : Nx mX6_goes 104 (.aload_n 1) 1 105 := ⟨by decide +kernel, rfl⟩
theorem nX6_goes_105 : Nx mX6_goes 105 (.iconst 4) 1 106 := ⟨by decide +kernel, rfl⟩
theorem nX6_goes_106 : Nx mX6_goes 106 (.iload 7) 2 108 := ⟨by decide +kernel, rfl⟩
theorem nX6_goes_108 : Nx mX6_goes 108 (.iadd) 1 109 := ⟨by decide +kernel, rfl⟩
theorem nX6_goes_109 : Nx mX6_goes 109 (.aload_n 1) 1 110 := ⟨by decide +kernel, rfl⟩
theorem nX6_goes_110 : Nx mX6_goes 110 (.iconst 4) 1 111 := ⟨by decide +kernel, rfl⟩
theorem nX6_goes_111 : Nx mX6_goes 111 (.iload 7) 2 113 := ⟨by decide +kernel, rfl⟩
theorem nX6_goes_113 : Nx mX6_goes 113 (.iadd) 1 114 := ⟨by decide +kernel, rfl⟩
theorem nX6_goes_114 : Nx mX6_goes 114 (.iaload) 1 115 := ⟨by decide +kernel, rfl⟩
theorem nX6_goes_115 : Nx mX6_goes 115 (.aload_n 1) 1 116 := ⟨by decide +kernel, rfl⟩
theorem nX6_goes_116 : Nx mX6_goes 116 (.iload_n 2) 1 117 := ⟨by decide +kernel, rfl⟩
theorem nX6_goes_117 : Nx mX6_goes 117 (.iload 7) 2 119 := ⟨by decide +kernel, rfl⟩
theorem nX6_goes_119 : Nx mX6_goes 119 (.invokestatic 117) 3 122 := ⟨by decide +kernel, rfl⟩
theorem nX6_goes_122 : Nx mX6_goes 122 (.iadd) 1 123 := ⟨by decide +kernel, rfl⟩
theorem nX6_goes_123 : Nx mX6_goes 123 (.invokestatic 130) 3 126 := ⟨by decide +kernel, rfl⟩
theorem nX6_goes_126 : Nx mX6_goes 126 (.iastore) 1 127 := ⟨by decide +kernel, rfl⟩
theorem nX6_goes_127 : Nx mX6_goes 127 (.aload_n 1) 1 128 := ⟨by decide +kernel, rfl⟩
theorem nX6_goes_128 : Nx mX6_goes 128 (.bipush 8) 2 130 := ⟨by decide +kernel, rfl⟩
theorem nX6_goes_130 : Nx mX6_goes 130 (.iconst 4) 1 131 := ⟨by decide +kernel, rfl⟩
theorem nX6_goes_131 : Nx mX6_goes 131 (.iload_n 2) 1 132 := ⟨by decide +kernel, rfl⟩
theorem nX6_goes_132 : Nx mX6_goes 132 (.imul) 1 133 := ⟨by decide +kernel, rfl⟩
theorem nX6_goes_133 : Nx mX6_goes 133 (.iadd) 1 134 := ⟨by decide +kernel, rfl⟩
theorem nX6_goes_134 : Nx mX6_goes 134 (.iload 7) 2 136 := ⟨by decide +kernel, rfl⟩
theorem nX6_goes_136 : Nx mX6_goes 136 (.iadd) 1 137 := ⟨by decide +kernel, rfl⟩
theorem nX6_goes_137 : Nx mX6_goes 137 (.iconst 0) 1 138 := ⟨by decide +kernel, rfl⟩
theorem nX6_goes_138 : Nx mX6_goes 138 (.iastore) 1 139 := ⟨by decide +kernel, rfl⟩
theorem nX6_goes_139 : Nx mX6_goes 139 (.iload 6) 2 141 := ⟨by decide +kernel, rfl⟩
theorem nX6_goes_141 : Nx mX6_goes 141 (.iconst 1) 1 142 := ⟨by decide +kernel, rfl⟩
theorem nX6_goes_142 : Nx mX6_goes 142 (.iload 7) 2 144 := ⟨by decide +kernel, rfl⟩
theorem nX6_goes_144 : Nx mX6_goes 144 (.ishl) 1 145 := ⟨by decide +kernel, rfl⟩
theorem nX6_goes_145 : Nx mX6_goes 145 (.ior) 1 146 := ⟨by decide +kernel, rfl⟩
theorem nX6_goes_146 : Nx mX6_goes 146 (.istore 6) 2 148 := ⟨by decide +kernel, rfl⟩
theorem nX6_goes_148 : Nx mX6_goes 148 (.aload_n 0) 1 149 := ⟨by decide +kernel, rfl⟩
theorem nX6_goes_149 : Nx mX6_goes 149 (.aload_n 1) 1 150 := ⟨by decide +kernel, rfl⟩
theorem nX6_goes_150 : Nx mX6_goes 150 (.iload_n 2) 1 151 := ⟨by decide +kernel, rfl⟩
theorem nX6_goes_151 : Nx mX6_goes 151 (.iload 4) 2 153 := ⟨by decide +kernel, rfl⟩
theorem nX6_goes_153 : Nx mX6_goes 153 (.invokevirtual 127) 3 156 := ⟨by decide +kernel, rfl⟩
theorem nX6_goes_156 : Nx mX6_goes 156 (.istore 7) 2 158 := ⟨by decide +kernel, rfl⟩
theorem nX6_goes_158 : Nx mX6_goes 158 (.goto (-129)) 3 161 := ⟨by decide +kernel, rfl⟩
theorem nX6_goes_161 : Nx mX6_goes 161 (.iload 6) 2 163 := ⟨by decide +kernel, rfl⟩
theorem nX6_goes_163 : Nx mX6_goes 163 (.ireturn) 1 164 := ⟨by decide +kernel, rfl⟩
theorem nX6_sown_0 : Nx mX6_sown 0 (.iconst 0) 1 1 := ⟨by decide +kernel, rfl⟩
theorem nX6_sown_1 : Nx mX6_sown 1 (.istore_n 2) 1 2 := ⟨by decide +kernel, rfl⟩
theorem nX6_sown_2 : Nx mX6_sown 2 (.iconst 0) 1 3 := ⟨by decide +kernel, rfl⟩
theorem nX6_sown_3 : Nx mX6_sown 3 (.istore_n 3) 1 4 := ⟨by decide +kernel, rfl⟩
theorem nX6_sown_4 : Nx mX6_sown 4 (.iload_n 3) 1 5 := ⟨by decide +kernel, rfl⟩
theorem nX6_sown_5 : Nx mX6_sown 5 (.aload_n 0) 1 6 := ⟨by decide +kernel, rfl⟩
theorem nX6_sown_6 : Nx mX6_sown 6 (.getfield 72) 3 9 := ⟨by decide +kernel, rfl⟩
theorem nX6_sown_9 : Nx mX6_sown 9 (.if_icmp .ge 33) 3 12 := ⟨by decide +kernel, rfl⟩
theorem nX6_sown_12 : Nx mX6_sown 12 (.iload_n 2) 1 13 := ⟨by decide +kernel, rfl⟩
theorem nX6_sown_13 : Nx mX6_sown 13 (.aload_n 1) 1 14 := ⟨by decide +kernel, rfl⟩
theorem nX6_sown_14 : Nx mX6_sown 14 (.iconst 4) 1 15 := ⟨by decide +kernel, rfl⟩
theorem nX6_sown_15 : Nx mX6_sown 15 (.iload_n 3) 1 16 := ⟨by decide +kernel, rfl⟩
theorem nX6_sown_16 : Nx mX6_sown 16 (.iadd) 1 17 := ⟨by decide +kernel, rfl⟩
theorem nX6_sown_17 : Nx mX6_sown 17 (.iaload) 1 18 := ⟨by decide +kernel, rfl⟩
theorem nX6_sown_18 : Nx mX6_sown 18 (.aload_n 0) 1 19 := ⟨by decide +kernel, rfl⟩
theorem nX6_sown_19 : Nx mX6_sown 19 (.getfield 19) 3 22 := ⟨by decide +kernel, rfl⟩
theorem nX6_sown_22 : Nx mX6_sown 22 (.iload_n 3) 1 23 := ⟨by decide +kernel, rfl⟩
theorem nX6_sown_23 : Nx mX6_sown 23 (.iaload) 1 24 := ⟨by decide +kernel, rfl⟩
theorem nX6_sown_24 : Nx mX6_sown 24 (.if_icmp .lt 9) 3 27 := ⟨by decide +kernel, rfl⟩
theorem nX6_sown_27 : Nx mX6_sown 27 (.iconst 1) 1 28 := ⟨by decide +kernel, rfl⟩
theorem nX6_sown_28 : Nx mX6_sown 28 (.iload_n 3) 1 29 := ⟨by decide +kernel, rfl⟩
theorem nX6_sown_29 : Nx mX6_sown 29 (.ishl) 1 30 := ⟨by decide +kernel, rfl⟩
theorem nX6_sown_30 : Nx mX6_sown 30 (.goto 4) 3 33 := ⟨by decide +kernel, rfl⟩
theorem nX6_sown_33 : Nx mX6_sown 33 (.iconst 0) 1 34 := ⟨by decide +kernel, rfl⟩
theorem nX6_sown_34 : Nx mX6_sown 34 (.ior) 1 35 := ⟨by decide +kernel, rfl⟩
theorem nX6_sown_35 : Nx mX6_sown 35 (.istore_n 2) 1 36 := ⟨by decide +kernel, rfl⟩
theorem nX6_sown_36 : Nx mX6_sown 36 (.iinc 3 1) 3 39 := ⟨by decide +kernel, rfl⟩
theorem nX6_sown_39 : Nx mX6_sown 39 (.goto (-35)) 3 42 := ⟨by decide +kernel, rfl⟩
theorem nX6_sown_42 : Nx mX6_sown 42 (.iload_n 2) 1 43 := ⟨by decide +kernel, rfl⟩
theorem nX6_sown_43 : Nx mX6_sown 43 (.ireturn) 1 44 := ⟨by decide +kernel, rfl⟩
theorem nX6_goMarch_0 : Nx mX6_goMarch 0 (.iconst 0) 1 1 := ⟨by decide +kernel, rfl⟩
theorem nX6_goMarch_1 : Nx mX6_goMarch 1 (.istore_n 3) 1 2 := ⟨by decide +kernel, rfl⟩
theorem nX6_goMarch_2 : Nx mX6_goMarch 2 (.iload_n 3) 1 3 := ⟨by decide +kernel, rfl⟩
theorem nX6_goMarch_3 : Nx mX6_goMarch 3 (.aload_n 0) 1 4 := ⟨by decide +kernel, rfl⟩
theorem nX6_goMarch_4 : Nx mX6_goMarch 4 (.getfield 79) 3 7 := ⟨by decide +kernel, rfl⟩
theorem nX6_goMarch_7 : Nx mX6_goMarch 7 (.if_icmp .ge 47) 3 10 := ⟨by decide +kernel, rfl⟩
theorem nX6_goMarch_10 : Nx mX6_goMarch 10 (.aload_n 0) 1 11 := ⟨by decide +kernel, rfl⟩
theorem nX6_goMarch_11 : Nx mX6_goMarch 11 (.getfield 59) 3 14 := ⟨by decide +kernel, rfl⟩
theorem nX6_goMarch_14 : Nx mX6_goMarch 14 (.iload_n 3) 1 15 := ⟨by decide +kernel, rfl⟩
theorem nX6_goMarch_15 : Nx mX6_goMarch 15 (.iconst 0) 1 16 := ⟨by decide +kernel, rfl⟩
theorem nX6_goMarch_16 : Nx mX6_goMarch 16 (.iastore) 1 17 := ⟨by decide +kernel, rfl⟩
theorem nX6_goMarch_17 : Nx mX6_goMarch 17 (.iload_n 2) 1 18 := ⟨by decide +kernel, rfl⟩
theorem nX6_goMarch_18 : Nx mX6_goMarch 18 (.iload_n 3) 1 19 := ⟨by decide +kernel, rfl⟩
theorem nX6_goMarch_19 : Nx mX6_goMarch 19 (.invokestatic 134) 3 22 := ⟨by decide +kernel, rfl⟩
theorem nX6_goMarch_22 : Nx mX6_goMarch 22 (.ifCond .eq 26) 3 25 := ⟨by decide +kernel, rfl⟩
theorem nX6_goMarch_25 : Nx mX6_goMarch 25 (.aload_n 0) 1 26 := ⟨by decide +kernel, rfl⟩
theorem nX6_goMarch_26 : Nx mX6_goMarch 26 (.aload_n 1) 1 27 := ⟨by decide +kernel, rfl⟩
theorem nX6_goMarch_27 : Nx mX6_goMarch 27 (.iload_n 3) 1 28 := ⟨by decide +kernel, rfl⟩
theorem nX6_goMarch_28 : Nx mX6_goMarch 28 (.aload_n 0) 1 29 := ⟨by decide +kernel, rfl⟩
theorem nX6_goMarch_29 : Nx mX6_goMarch 29 (.getfield 25) 3 32 := ⟨by decide +kernel, rfl⟩
theorem nX6_goMarch_32 : Nx mX6_goMarch 32 (.iload_n 3) 1 33 := ⟨by decide +kernel, rfl⟩
theorem nX6_goMarch_33 : Nx mX6_goMarch 33 (.iaload) 1 34 := ⟨by decide +kernel, rfl⟩
theorem nX6_goMarch_34 : Nx mX6_goMarch 34 (.invokevirtual 138) 3 37 := ⟨by decide +kernel, rfl⟩
theorem nX6_goMarch_37 : Nx mX6_goMarch 37 (.pop) 1 38 := ⟨by decide +kernel, rfl⟩
theorem nX6_goMarch_38 : Nx mX6_goMarch 38 (.aload_n 0) 1 39 := ⟨by decide +kernel, rfl⟩
theorem nX6_goMarch_39 : Nx mX6_goMarch 39 (.getfield 59) 3 42 := ⟨by decide +kernel, rfl⟩
theorem nX6_goMarch_42 : Nx mX6_goMarch 42 (.iload_n 3) 1 43 := ⟨by decide +kernel, rfl⟩
theorem nX6_goMarch_43 : Nx mX6_goMarch 43 (.aload_n 0) 1 44 := ⟨by decide +kernel, rfl⟩
theorem nX6_goMarch_44 : Nx mX6_goMarch 44 (.getfield 124) 3 47 := ⟨by decide +kernel, rfl⟩
theorem nX6_goMarch_47 : Nx mX6_goMarch 47 (.iastore) 1 48 := ⟨by decide +kernel, rfl⟩
theorem nX6_goMarch_48 : Nx mX6_goMarch 48 (.iinc 3 1) 3 51 := ⟨by decide +kernel, rfl⟩
theorem nX6_goMarch_51 : Nx mX6_goMarch 51 (.goto (-49)) 3 54 := ⟨by decide +kernel, rfl⟩
theorem nX6_goMarch_54 : Nx mX6_goMarch 54 (.aload_n 0) 1 55 := ⟨by decide +kernel, rfl⟩
theorem nX6_goMarch_55 : Nx mX6_goMarch 55 (.aload_n 1) 1 56 := ⟨by decide +kernel, rfl⟩
theorem nX6_goMarch_56 : Nx mX6_goMarch 56 (.invokevirtual 141) 3 59 := ⟨by decide +kernel, rfl⟩
theorem nX6_goMarch_59 : Nx mX6_goMarch 59 (.ireturn) 1 60 := ⟨by decide +kernel, rfl⟩
theorem nX6_loaves_0 : Nx mX6_loaves 0 (.aload_n 0) 1 1 := ⟨by decide +kernel, rfl⟩
theorem nX6_loaves_1 : Nx mX6_loaves 1 (.iconst 0) 1 2 := ⟨by decide +kernel, rfl⟩
theorem nX6_loaves_2 : Nx mX6_loaves 2 (.iaload) 1 3 := ⟨by decide +kernel, rfl⟩
theorem nX6_loaves_3 : Nx mX6_loaves 3 (.aload_n 0) 1 4 := ⟨by decide +kernel, rfl⟩
theorem nX6_loaves_4 : Nx mX6_loaves 4 (.iconst 1) 1 5 := ⟨by decide +kernel, rfl⟩
theorem nX6_loaves_5 : Nx mX6_loaves 5 (.iaload) 1 6 := ⟨by decide +kernel, rfl⟩
theorem nX6_loaves_6 : Nx mX6_loaves 6 (.iadd) 1 7 := ⟨by decide +kernel, rfl⟩
theorem nX6_loaves_7 : Nx mX6_loaves 7 (.aload_n 0) 1 8 := ⟨by decide +kernel, rfl⟩
theorem nX6_loaves_8 : Nx mX6_loaves 8 (.iconst 2) 1 9 := ⟨by decide +kernel, rfl⟩
theorem nX6_loaves_9 : Nx mX6_loaves 9 (.iaload) 1 10 := ⟨by decide +kernel, rfl⟩
theorem nX6_loaves_10 : Nx mX6_loaves 10 (.iadd) 1 11 := ⟨by decide +kernel, rfl⟩
theorem nX6_loaves_11 : Nx mX6_loaves 11 (.aload_n 0) 1 12 := ⟨by decide +kernel, rfl⟩
theorem nX6_loaves_12 : Nx mX6_loaves 12 (.iconst 3) 1 13 := ⟨by decide +kernel, rfl⟩
theorem nX6_loaves_13 : Nx mX6_loaves 13 (.iaload) 1 14 := ⟨by decide +kernel, rfl⟩
theorem nX6_loaves_14 : Nx mX6_loaves 14 (.iadd) 1 15 := ⟨by decide +kernel, rfl⟩
theorem nX6_loaves_15 : Nx mX6_loaves 15 (.ireturn) 1 16 := ⟨by decide +kernel, rfl⟩
theorem nX6_goHarvest_0 : Nx mX6_goHarvest 0 (.aload_n 0) 1 1 := ⟨by decide +kernel, rfl⟩
theorem nX6_goHarvest_1 : Nx mX6_goHarvest 1 (.aload_n 1) 1 2 := ⟨by decide +kernel, rfl⟩
theorem nX6_goHarvest_2 : Nx mX6_goHarvest 2 (.invokevirtual 141) 3 5 := ⟨by decide +kernel, rfl⟩
theorem nX6_goHarvest_5 : Nx mX6_goHarvest 5 (.istore_n 2) 1 6 := ⟨by decide +kernel, rfl⟩
theorem nX6_goHarvest_6 : Nx mX6_goHarvest 6 (.iconst 0) 1 7 := ⟨by decide +kernel, rfl⟩
theorem nX6_goHarvest_7 : Nx mX6_goHarvest 7 (.istore_n 3) 1 8 := ⟨by decide +kernel, rfl⟩
theorem nX6_goHarvest_8 : Nx mX6_goHarvest 8 (.iload_n 3) 1 9 := ⟨by decide +kernel, rfl⟩
theorem nX6_goHarvest_9 : Nx mX6_goHarvest 9 (.aload_n 0) 1 10 := ⟨by decide +kernel, rfl⟩
theorem nX6_goHarvest_10 : Nx mX6_goHarvest 10 (.getfield 72) 3 13 := ⟨by decide +kernel, rfl⟩
theorem nX6_goHarvest_13 : Nx mX6_goHarvest 13 (.if_icmp .ge 45) 3 16 := ⟨by decide +kernel, rfl⟩
theorem nX6_goHarvest_16 : Nx mX6_goHarvest 16 (.aload_n 1) 1 17 := ⟨by decide +kernel, rfl⟩
theorem nX6_goHarvest_17 : Nx mX6_goHarvest 17 (.iload_n 3) 1 18 := ⟨by decide +kernel, rfl⟩
theorem nX6_goHarvest_18 : Nx mX6_goHarvest 18 (.iload_n 2) 1 19 := ⟨by decide +kernel, rfl⟩
theorem nX6_goHarvest_19 : Nx mX6_goHarvest 19 (.iload_n 3) 1 20 := ⟨by decide +kernel, rfl⟩
theorem nX6_goHarvest_20 : Nx mX6_goHarvest 20 (.invokestatic 134) 3 23 := ⟨by decide +kernel, rfl⟩
theorem nX6_goHarvest_23 : Nx mX6_goHarvest 23 (.ifCond .eq 19) 3 26 := ⟨by decide +kernel, rfl⟩
theorem nX6_goHarvest_26 : Nx mX6_goHarvest 26 (.aload_n 1) 1 27 := ⟨by decide +kernel, rfl⟩
theorem nX6_goHarvest_27 : Nx mX6_goHarvest 27 (.iload_n 3) 1 28 := ⟨by decide +kernel, rfl⟩
theorem nX6_goHarvest_28 : Nx mX6_goHarvest 28 (.iaload) 1 29 := ⟨by decide +kernel, rfl⟩
theorem nX6_goHarvest_29 : Nx mX6_goHarvest 29 (.aload_n 0) 1 30 := ⟨by decide +kernel, rfl⟩
theorem nX6_goHarvest_30 : Nx mX6_goHarvest 30 (.getfield 16) 3 33 := ⟨by decide +kernel, rfl⟩
theorem nX6_goHarvest_33 : Nx mX6_goHarvest 33 (.iload_n 3) 1 34 := ⟨by decide +kernel, rfl⟩
theorem nX6_goHarvest_34 : Nx mX6_goHarvest 34 (.iaload) 1 35 := ⟨by decide +kernel, rfl⟩
theorem nX6_goHarvest_35 : Nx mX6_goHarvest 35 (.iadd) 1 36 := ⟨by decide +kernel, rfl⟩
theorem nX6_goHarvest_36 : Nx mX6_goHarvest 36 (.invokestatic 130) 3 39 := ⟨by decide +kernel, rfl⟩
theorem nX6_goHarvest_39 : Nx mX6_goHarvest 39 (.goto 6) 3 42 := ⟨by decide +kernel, rfl⟩
theorem nX6_goHarvest_42 : Nx mX6_goHarvest 42 (.aload_n 1) 1 43 := ⟨by decide +kernel, rfl⟩
theorem nX6_goHarvest_43 : Nx mX6_goHarvest 43 (.iload_n 3) 1 44 := ⟨by decide +kernel, rfl⟩
theorem nX6_goHarvest_44 : Nx mX6_goHarvest 44 (.iaload) 1 45 := ⟨by decide +kernel, rfl⟩
theorem nX6_goHarvest_45 : Nx mX6_goHarvest 45 (.iastore) 1 46 := ⟨by decide +kernel, rfl⟩
theorem nX6_goHarvest_46 : Nx mX6_goHarvest 46 (.aload_n 1) 1 47 := ⟨by decide +kernel, rfl⟩
theorem nX6_goHarvest_47 : Nx mX6_goHarvest 47 (.iconst 4) 1 48 := ⟨by decide +kernel, rfl⟩
theorem nX6_goHarvest_48 : Nx mX6_goHarvest 48 (.iload_n 3) 1 49 := ⟨by decide +kernel, rfl⟩
theorem nX6_goHarvest_49 : Nx mX6_goHarvest 49 (.iadd) 1 50 := ⟨by decide +kernel, rfl⟩
theorem nX6_goHarvest_50 : Nx mX6_goHarvest 50 (.iconst 0) 1 51 := ⟨by decide +kernel, rfl⟩
theorem nX6_goHarvest_51 : Nx mX6_goHarvest 51 (.iastore) 1 52 := ⟨by decide +kernel, rfl⟩
theorem nX6_goHarvest_52 : Nx mX6_goHarvest 52 (.iinc 3 1) 3 55 := ⟨by decide +kernel, rfl⟩
theorem nX6_goHarvest_55 : Nx mX6_goHarvest 55 (.goto (-47)) 3 58 := ⟨by decide +kernel, rfl⟩
theorem nX6_goHarvest_58 : Nx mX6_goHarvest 58 (.aload_n 1) 1 59 := ⟨by decide +kernel, rfl⟩
theorem nX6_goHarvest_59 : Nx mX6_goHarvest 59 (.bipush 28) 2 61 := ⟨by decide +kernel, rfl⟩
theorem nX6_goHarvest_61 : Nx mX6_goHarvest 61 (.dup2) 1 62 := ⟨by decide +kernel, rfl⟩
theorem nX6_goHarvest_62 : Nx mX6_goHarvest 62 (.iaload) 1 63 := ⟨by decide +kernel, rfl⟩
theorem nX6_goHarvest_63 : Nx mX6_goHarvest 63 (.iconst 1) 1 64 := ⟨by decide +kernel, rfl⟩
theorem nX6_goHarvest_64 : Nx mX6_goHarvest 64 (.iadd) 1 65 := ⟨by decide +kernel, rfl⟩
theorem nX6_goHarvest_65 : Nx mX6_goHarvest 65 (.iastore) 1 66 := ⟨by decide +kernel, rfl⟩
theorem nX6_goHarvest_66 : Nx mX6_goHarvest 66 (.aload_n 1) 1 67 := ⟨by decide +kernel, rfl⟩
theorem nX6_goHarvest_67 : Nx mX6_goHarvest 67 (.invokestatic 145) 3 70 := ⟨by decide +kernel, rfl⟩
theorem nX6_goHarvest_70 : Nx mX6_goHarvest 70 (.ireturn) 1 71 := ⟨by decide +kernel, rfl⟩
theorem nX6_begin_0 : Nx mX6_begin 0 (.iconst 0) 1 1 := ⟨by decide +kernel, rfl⟩
theorem nX6_begin_1 : Nx mX6_begin 1 (.istore_n 1) 1 2 := ⟨by decide +kernel, rfl⟩
theorem nX6_begin_2 : Nx mX6_begin 2 (.iload_n 1) 1 3 := ⟨by decide +kernel, rfl⟩
theorem nX6_begin_3 : Nx mX6_begin 3 (.bipush 29) 2 5 := ⟨by decide +kernel, rfl⟩
theorem nX6_begin_5 : Nx mX6_begin 5 (.if_icmp .ge 21) 3 8 := ⟨by decide +kernel, rfl⟩
theorem nX6_begin_8 : Nx mX6_begin 8 (.aload_n 0) 1 9 := ⟨by decide +kernel, rfl⟩
theorem nX6_begin_9 : Nx mX6_begin 9 (.getfield 40) 3 12 := ⟨by decide +kernel, rfl⟩
theorem nX6_begin_12 : Nx mX6_begin 12 (.iload_n 1) 1 13 := ⟨by decide +kernel, rfl⟩
theorem nX6_begin_13 : Nx mX6_begin 13 (.aload_n 0) 1 14 := ⟨by decide +kernel, rfl⟩
theorem nX6_begin_14 : Nx mX6_begin 14 (.getfield 37) 3 17 := ⟨by decide +kernel, rfl⟩
theorem nX6_begin_17 : Nx mX6_begin 17 (.iload_n 1) 1 18 := ⟨by decide +kernel, rfl⟩
theorem nX6_begin_18 : Nx mX6_begin 18 (.iaload) 1 19 := ⟨by decide +kernel, rfl⟩
theorem nX6_begin_19 : Nx mX6_begin 19 (.iastore) 1 20 := ⟨by decide +kernel, rfl⟩
theorem nX6_begin_20 : Nx mX6_begin 20 (.iinc 1 1) 3 23 := ⟨by decide +kernel, rfl⟩
theorem nX6_begin_23 : Nx mX6_begin 23 (.goto (-21)) 3 26 := ⟨by decide +kernel, rfl⟩
theorem nX6_begin_26 : Nx mX6_begin 26 (.return_) 1 27 := ⟨by decide +kernel, rfl⟩
theorem nX6_owedTogether_0 : Nx mX6_owedTogether 0 (.iconst 0) 1 1 := ⟨by decide +kernel, rfl⟩
theorem nX6_owedTogether_1 : Nx mX6_owedTogether 1 (.istore_n 1) 1 2 := ⟨by decide +kernel, rfl⟩
theorem nX6_owedTogether_2 : Nx mX6_owedTogether 2 (.iconst 0) 1 3 := ⟨by decide +kernel, rfl⟩
theorem nX6_owedTogether_3 : Nx mX6_owedTogether 3 (.istore_n 2) 1 4 := ⟨by decide +kernel, rfl⟩
theorem nX6_owedTogether_4 : Nx mX6_owedTogether 4 (.iload_n 2) 1 5 := ⟨by decide +kernel, rfl⟩
theorem nX6_owedTogether_5 : Nx mX6_owedTogether 5 (.aload_n 0) 1 6 := ⟨by decide +kernel, rfl⟩
theorem nX6_owedTogether_6 : Nx mX6_owedTogether 6 (.getfield 79) 3 9 := ⟨by decide +kernel, rfl⟩
theorem nX6_owedTogether_9 : Nx mX6_owedTogether 9 (.if_icmp .ge 20) 3 12 := ⟨by decide +kernel, rfl⟩
theorem nX6_owedTogether_12 : Nx mX6_owedTogether 12 (.iload_n 1) 1 13 := ⟨by decide +kernel, rfl⟩
theorem nX6_owedTogether_13 : Nx mX6_owedTogether 13 (.aload_n 0) 1 14 := ⟨by decide +kernel, rfl⟩
theorem nX6_owedTogether_14 : Nx mX6_owedTogether 14 (.getfield 37) 3 17 := ⟨by decide +kernel, rfl⟩
theorem nX6_owedTogether_17 : Nx mX6_owedTogether 17 (.iload_n 2) 1 18 := ⟨by decide +kernel, rfl⟩
theorem nX6_owedTogether_18 : Nx mX6_owedTogether 18 (.invokestatic 148) 3 21 := ⟨by decide +kernel, rfl⟩
theorem nX6_owedTogether_21 : Nx mX6_owedTogether 21 (.iadd) 1 22 := ⟨by decide +kernel, rfl⟩
theorem nX6_owedTogether_22 : Nx mX6_owedTogether 22 (.istore_n 1) 1 23 := ⟨by decide +kernel, rfl⟩
theorem nX6_owedTogether_23 : Nx mX6_owedTogether 23 (.iinc 2 1) 3 26 := ⟨by decide +kernel, rfl⟩
theorem nX6_owedTogether_26 : Nx mX6_owedTogether 26 (.goto (-22)) 3 29 := ⟨by decide +kernel, rfl⟩
theorem nX6_owedTogether_29 : Nx mX6_owedTogether 29 (.iload_n 1) 1 30 := ⟨by decide +kernel, rfl⟩
theorem nX6_owedTogether_30 : Nx mX6_owedTogether 30 (.ireturn) 1 31 := ⟨by decide +kernel, rfl⟩
theorem nX6_marched_0 : Nx mX6_marched 0 (.aload_n 0) 1 1 := ⟨by decide +kernel, rfl⟩
theorem nX6_marched_1 : Nx mX6_marched 1 (.invokevirtual 152) 3 4 := ⟨by decide +kernel, rfl⟩
theorem nX6_marched_4 : Nx mX6_marched 4 (.aload_n 0) 1 5 := ⟨by decide +kernel, rfl⟩
theorem nX6_marched_5 : Nx mX6_marched 5 (.aload_n 0) 1 6 := ⟨by decide +kernel, rfl⟩
theorem nX6_marched_6 : Nx mX6_marched 6 (.getfield 40) 3 9 := ⟨by decide +kernel, rfl⟩
theorem nX6_marched_9 : Nx mX6_marched 9 (.iload_n 1) 1 10 := ⟨by decide +kernel, rfl⟩
theorem nX6_marched_10 : Nx mX6_marched 10 (.invokevirtual 155) 3 13 := ⟨by decide +kernel, rfl⟩
theorem nX6_marched_13 : Nx mX6_marched 13 (.ireturn) 1 14 := ⟨by decide +kernel, rfl⟩
theorem nX6_about_0 : Nx mX6_about 0 (.aload_n 0) 1 1 := ⟨by decide +kernel, rfl⟩
theorem nX6_about_1 : Nx mX6_about 1 (.iconst 0) 1 2 := ⟨by decide +kernel, rfl⟩
theorem nX6_about_2 : Nx mX6_about 2 (.putfield 68) 3 5 := ⟨by decide +kernel, rfl⟩
theorem nX6_about_5 : Nx mX6_about 5 (.iload_n 1) 1 6 := ⟨by decide +kernel, rfl⟩
theorem nX6_about_6 : Nx mX6_about 6 (.tableswitch 150 0 10 #[58, 63, 68, 76, 84, 114, 119, 128, 135, 140, 145]) 58 64 := ⟨by decide +kernel, rfl⟩
theorem nX6_about_64 : Nx mX6_about 64 (.aload_n 0) 1 65 := ⟨by decide +kernel, rfl⟩
theorem nX6_about_65 : Nx mX6_about 65 (.getfield 72) 3 68 := ⟨by decide +kernel, rfl⟩
theorem nX6_about_68 : Nx mX6_about 68 (.ireturn) 1 69 := ⟨by decide +kernel, rfl⟩
theorem nX6_about_69 : Nx mX6_about 69 (.aload_n 0) 1 70 := ⟨by decide +kernel, rfl⟩
theorem nX6_about_70 : Nx mX6_about 70 (.getfield 79) 3 73 := ⟨by decide +kernel, rfl⟩
theorem nX6_about_73 : Nx mX6_about 73 (.ireturn) 1 74 := ⟨by decide +kernel, rfl⟩
theorem nX6_about_74 : Nx mX6_about 74 (.aload_n 0) 1 75 := ⟨by decide +kernel, rfl⟩
theorem nX6_about_75 : Nx mX6_about 75 (.getfield 37) 3 78 := ⟨by decide +kernel, rfl⟩
theorem nX6_about_78 : Nx mX6_about 78 (.bipush 28) 2 80 := ⟨by decide +kernel, rfl⟩
theorem nX6_about_80 : Nx mX6_about 80 (.iaload) 1 81 := ⟨by decide +kernel, rfl⟩
theorem nX6_about_81 : Nx mX6_about 81 (.ireturn) 1 82 := ⟨by decide +kernel, rfl⟩
theorem nX6_about_82 : Nx mX6_about 82 (.aload_n 0) 1 83 := ⟨by decide +kernel, rfl⟩
theorem nX6_about_83 : Nx mX6_about 83 (.getfield 37) 3 86 := ⟨by decide +kernel, rfl⟩
theorem nX6_about_86 : Nx mX6_about 86 (.invokestatic 145) 3 89 := ⟨by decide +kernel, rfl⟩
theorem nX6_about_89 : Nx mX6_about 89 (.ireturn) 1 90 := ⟨by decide +kernel, rfl⟩
theorem nX6_about_90 : Nx mX6_about 90 (.aload_n 0) 1 91 := ⟨by decide +kernel, rfl⟩
theorem nX6_about_91 : Nx mX6_about 91 (.getfield 37) 3 94 := ⟨by decide +kernel, rfl⟩
theorem nX6_about_94 : Nx mX6_about 94 (.iconst 4) 1 95 := ⟨by decide +kernel, rfl⟩
theorem nX6_about_95 : Nx mX6_about 95 (.iaload) 1 96 := ⟨by decide +kernel, rfl⟩
theorem nX6_about_96 : Nx mX6_about 96 (.aload_n 0) 1 97 := ⟨by decide +kernel, rfl⟩
theorem nX6_about_97 : Nx mX6_about 97 (.getfield 37) 3 100 := ⟨by decide +kernel, rfl⟩
theorem nX6_about_100 : Nx mX6_about 100 (.iconst 5) 1 101 := ⟨by decide +kernel, rfl⟩
theorem nX6_about_101 : Nx mX6_about 101 (.iaload) 1 102 := ⟨by decide +kernel, rfl⟩
theorem nX6_about_102 : Nx mX6_about 102 (.iadd) 1 103 := ⟨by decide +kernel, rfl⟩
theorem nX6_about_103 : Nx mX6_about 103 (.aload_n 0) 1 104 := ⟨by decide +kernel, rfl⟩
theorem nX6_about_104 : Nx mX6_about 104 (.getfield 37) 3 107 := ⟨by decide +kernel, rfl⟩
theorem nX6_about_107 : Nx mX6_about 107 (.bipush 6) 2 109 := ⟨by decide +kernel, rfl⟩
theorem nX6_about_109 : Nx mX6_about 109 (.iaload) 1 110 := ⟨by decide +kernel, rfl⟩
theorem nX6_about_110 : Nx mX6_about 110 (.iadd) 1 111 := ⟨by decide +kernel, rfl⟩
theorem nX6_about_111 : Nx mX6_about 111 (.aload_n 0) 1 112 := ⟨by decide +kernel, rfl⟩
theorem nX6_about_112 : Nx mX6_about 112 (.getfield 37) 3 115 := ⟨by decide +kernel, rfl⟩
theorem nX6_about_115 : Nx mX6_about 115 (.bipush 7) 2 117 := ⟨by decide +kernel, rfl⟩
theorem nX6_about_117 : Nx mX6_about 117 (.iaload) 1 118 := ⟨by decide +kernel, rfl⟩
theorem nX6_about_118 : Nx mX6_about 118 (.iadd) 1 119 := ⟨by decide +kernel, rfl⟩
theorem nX6_about_119 : Nx mX6_about 119 (.ireturn) 1 120 := ⟨by decide +kernel, rfl⟩
theorem nX6_about_120 : Nx mX6_about 120 (.aload_n 0) 1 121 := ⟨by decide +kernel, rfl⟩
theorem nX6_about_121 : Nx mX6_about 121 (.invokevirtual 158) 3 124 := ⟨by decide +kernel, rfl⟩
theorem nX6_about_124 : Nx mX6_about 124 (.ireturn) 1 125 := ⟨by decide +kernel, rfl⟩
theorem nX6_about_125 : Nx mX6_about 125 (.aload_n 0) 1 126 := ⟨by decide +kernel, rfl⟩
theorem nX6_about_126 : Nx mX6_about 126 (.aload_n 0) 1 127 := ⟨by decide +kernel, rfl⟩
theorem nX6_about_127 : Nx mX6_about 127 (.getfield 37) 3 130 := ⟨by decide +kernel, rfl⟩
theorem nX6_about_130 : Nx mX6_about 130 (.invokevirtual 141) 3 133 := ⟨by decide +kernel, rfl⟩
theorem nX6_about_133 : Nx mX6_about 133 (.ireturn) 1 134 := ⟨by decide +kernel, rfl⟩
theorem nX6_about_134 : Nx mX6_about 134 (.aload_n 0) 1 135 := ⟨by decide +kernel, rfl⟩
theorem nX6_about_135 : Nx mX6_about 135 (.bipush 31) 2 137 := ⟨by decide +kernel, rfl⟩
theorem nX6_about_137 : Nx mX6_about 137 (.invokevirtual 161) 3 140 := ⟨by decide +kernel, rfl⟩
theorem nX6_about_140 : Nx mX6_about 140 (.ireturn) 1 141 := ⟨by decide +kernel, rfl⟩
theorem nX6_about_141 : Nx mX6_about 141 (.aload_n 0) 1 142 := ⟨by decide +kernel, rfl⟩
theorem nX6_about_142 : Nx mX6_about 142 (.getfield 114) 3 145 := ⟨by decide +kernel, rfl⟩
theorem nX6_about_145 : Nx mX6_about 145 (.ireturn) 1 146 := ⟨by decide +kernel, rfl⟩
theorem nX6_about_146 : Nx mX6_about 146 (.aload_n 0) 1 147 := ⟨by decide +kernel, rfl⟩
theorem nX6_about_147 : Nx mX6_about 147 (.getfield 164) 3 150 := ⟨by decide +kernel, rfl⟩
theorem nX6_about_150 : Nx mX6_about 150 (.ireturn) 1 151 := ⟨by decide +kernel, rfl⟩
theorem nX6_about_151 : Nx mX6_about 151 (.aload_n 0) 1 152 := ⟨by decide +kernel, rfl⟩
theorem nX6_about_152 : Nx mX6_about 152 (.getfield 84) 3 155 := ⟨by decide +kernel, rfl⟩
theorem nX6_about_155 : Nx mX6_about 155 (.ireturn) 1 156 := ⟨by decide +kernel, rfl⟩
theorem nX6_about_156 : Nx mX6_about 156 (.bipush (-2)) 2 158 := ⟨by decide +kernel, rfl⟩
theorem nX6_about_158 : Nx mX6_about 158 (.ireturn) 1 159 := ⟨by decide +kernel, rfl⟩
theorem nX6_owing_0 : Nx mX6_owing 0 (.iconst 0) 1 1 := ⟨by decide +kernel, rfl⟩
theorem nX6_owing_1 : Nx mX6_owing 1 (.istore_n 2) 1 2 := ⟨by decide +kernel, rfl⟩
theorem nX6_owing_2 : Nx mX6_owing 2 (.iconst 0) 1 3 := ⟨by decide +kernel, rfl⟩
theorem nX6_owing_3 : Nx mX6_owing 3 (.istore_n 3) 1 4 := ⟨by decide +kernel, rfl⟩
theorem nX6_owing_4 : Nx mX6_owing 4 (.iload_n 3) 1 5 := ⟨by decide +kernel, rfl⟩
theorem nX6_owing_5 : Nx mX6_owing 5 (.aload_n 0) 1 6 := ⟨by decide +kernel, rfl⟩
theorem nX6_owing_6 : Nx mX6_owing 6 (.getfield 79) 3 9 := ⟨by decide +kernel, rfl⟩
theorem nX6_owing_9 : Nx mX6_owing 9 (.if_icmp .ge 31) 3 12 := ⟨by decide +kernel, rfl⟩
theorem nX6_owing_12 : Nx mX6_owing 12 (.iload_n 2) 1 13 := ⟨by decide +kernel, rfl⟩
theorem nX6_owing_13 : Nx mX6_owing 13 (.aload_n 0) 1 14 := ⟨by decide +kernel, rfl⟩
theorem nX6_owing_14 : Nx mX6_owing 14 (.getfield 37) 3 17 := ⟨by decide +kernel, rfl⟩
theorem nX6_owing_17 : Nx mX6_owing 17 (.iload_n 3) 1 18 := ⟨by decide +kernel, rfl⟩
theorem nX6_owing_18 : Nx mX6_owing 18 (.iload_n 1) 1 19 := ⟨by decide +kernel, rfl⟩
theorem nX6_owing_19 : Nx mX6_owing 19 (.invokestatic 117) 3 22 := ⟨by decide +kernel, rfl⟩
theorem nX6_owing_22 : Nx mX6_owing 22 (.ifCond .le 9) 3 25 := ⟨by decide +kernel, rfl⟩
theorem nX6_owing_25 : Nx mX6_owing 25 (.iconst 1) 1 26 := ⟨by decide +kernel, rfl⟩
theorem nX6_owing_26 : Nx mX6_owing 26 (.iload_n 3) 1 27 := ⟨by decide +kernel, rfl⟩
theorem nX6_owing_27 : Nx mX6_owing 27 (.ishl) 1 28 := ⟨by decide +kernel, rfl⟩
theorem nX6_owing_28 : Nx mX6_owing 28 (.goto 4) 3 31 := ⟨by decide +kernel, rfl⟩
theorem nX6_owing_31 : Nx mX6_owing 31 (.iconst 0) 1 32 := ⟨by decide +kernel, rfl⟩
theorem nX6_owing_32 : Nx mX6_owing 32 (.ior) 1 33 := ⟨by decide +kernel, rfl⟩
theorem nX6_owing_33 : Nx mX6_owing 33 (.istore_n 2) 1 34 := ⟨by decide +kernel, rfl⟩
theorem nX6_owing_34 : Nx mX6_owing 34 (.iinc 3 1) 3 37 := ⟨by decide +kernel, rfl⟩
theorem nX6_owing_37 : Nx mX6_owing 37 (.goto (-33)) 3 40 := ⟨by decide +kernel, rfl⟩
theorem nX6_owing_40 : Nx mX6_owing 40 (.iload_n 2) 1 41 := ⟨by decide +kernel, rfl⟩
theorem nX6_owing_41 : Nx mX6_owing 41 (.ireturn) 1 42 := ⟨by decide +kernel, rfl⟩
theorem nX6_field_0 : Nx mX6_field 0 (.aload_n 0) 1 1 := ⟨by decide +kernel, rfl⟩
theorem nX6_field_1 : Nx mX6_field 1 (.iconst 0) 1 2 := ⟨by decide +kernel, rfl⟩
theorem nX6_field_2 : Nx mX6_field 2 (.putfield 68) 3 5 := ⟨by decide +kernel, rfl⟩
theorem nX6_field_5 : Nx mX6_field 5 (.aload_n 0) 1 6 := ⟨by decide +kernel, rfl⟩
theorem nX6_field_6 : Nx mX6_field 6 (.iload_n 1) 1 7 := ⟨by decide +kernel, rfl⟩
theorem nX6_field_7 : Nx mX6_field 7 (.invokevirtual 167) 3 10 := ⟨by decide +kernel, rfl⟩
theorem nX6_field_10 : Nx mX6_field 10 (.ifCond .eq 5) 3 13 := ⟨by decide +kernel, rfl⟩
theorem nX6_field_13 : Nx mX6_field 13 (.iconst (-1)) 1 14 := ⟨by decide +kernel, rfl⟩
theorem nX6_field_14 : Nx mX6_field 14 (.ireturn) 1 15 := ⟨by decide +kernel, rfl⟩
theorem nX6_field_15 : Nx mX6_field 15 (.iload_n 2) 1 16 := ⟨by decide +kernel, rfl⟩
theorem nX6_field_16 : Nx mX6_field 16 (.tableswitch 83 0 5 #[40, 47, 54, 61, 68, 77]) 40 56 := ⟨by decide +kernel, rfl⟩
theorem nX6_field_56 : Nx mX6_field 56 (.aload_n 0) 1 57 := ⟨by decide +kernel, rfl⟩
theorem nX6_field_57 : Nx mX6_field 57 (.getfield 13) 3 60 := ⟨by decide +kernel, rfl⟩
theorem nX6_field_60 : Nx mX6_field 60 (.iload_n 1) 1 61 := ⟨by decide +kernel, rfl⟩
theorem nX6_field_61 : Nx mX6_field 61 (.iaload) 1 62 := ⟨by decide +kernel, rfl⟩
theorem nX6_field_62 : Nx mX6_field 62 (.ireturn) 1 63 := ⟨by decide +kernel, rfl⟩
theorem nX6_field_63 : Nx mX6_field 63 (.aload_n 0) 1 64 := ⟨by decide +kernel, rfl⟩
theorem nX6_field_64 : Nx mX6_field 64 (.getfield 16) 3 67 := ⟨by decide +kernel, rfl⟩
theorem nX6_field_67 : Nx mX6_field 67 (.iload_n 1) 1 68 := ⟨by decide +kernel, rfl⟩
theorem nX6_field_68 : Nx mX6_field 68 (.iaload) 1 69 := ⟨by decide +kernel, rfl⟩
theorem nX6_field_69 : Nx mX6_field 69 (.ireturn) 1 70 := ⟨by decide +kernel, rfl⟩
theorem nX6_field_70 : Nx mX6_field 70 (.aload_n 0) 1 71 := ⟨by decide +kernel, rfl⟩
theorem nX6_field_71 : Nx mX6_field 71 (.getfield 19) 3 74 := ⟨by decide +kernel, rfl⟩
theorem nX6_field_74 : Nx mX6_field 74 (.iload_n 1) 1 75 := ⟨by decide +kernel, rfl⟩
theorem nX6_field_75 : Nx mX6_field 75 (.iaload) 1 76 := ⟨by decide +kernel, rfl⟩
theorem nX6_field_76 : Nx mX6_field 76 (.ireturn) 1 77 := ⟨by decide +kernel, rfl⟩
theorem nX6_field_77 : Nx mX6_field 77 (.aload_n 0) 1 78 := ⟨by decide +kernel, rfl⟩
theorem nX6_field_78 : Nx mX6_field 78 (.getfield 37) 3 81 := ⟨by decide +kernel, rfl⟩
theorem nX6_field_81 : Nx mX6_field 81 (.iload_n 1) 1 82 := ⟨by decide +kernel, rfl⟩
theorem nX6_field_82 : Nx mX6_field 82 (.iaload) 1 83 := ⟨by decide +kernel, rfl⟩
theorem nX6_field_83 : Nx mX6_field 83 (.ireturn) 1 84 := ⟨by decide +kernel, rfl⟩
theorem nX6_field_84 : Nx mX6_field 84 (.aload_n 0) 1 85 := ⟨by decide +kernel, rfl⟩
theorem nX6_field_85 : Nx mX6_field 85 (.getfield 37) 3 88 := ⟨by decide +kernel, rfl⟩
theorem nX6_field_88 : Nx mX6_field 88 (.iconst 4) 1 89 := ⟨by decide +kernel, rfl⟩
theorem nX6_field_89 : Nx mX6_field 89 (.iload_n 1) 1 90 := ⟨by decide +kernel, rfl⟩
theorem nX6_field_90 : Nx mX6_field 90 (.iadd) 1 91 := ⟨by decide +kernel, rfl⟩
theorem nX6_field_91 : Nx mX6_field 91 (.iaload) 1 92 := ⟨by decide +kernel, rfl⟩
theorem nX6_field_92 : Nx mX6_field 92 (.ireturn) 1 93 := ⟨by decide +kernel, rfl⟩
theorem nX6_field_93 : Nx mX6_field 93 (.aload_n 0) 1 94 := ⟨by decide +kernel, rfl⟩
theorem nX6_field_94 : Nx mX6_field 94 (.iload_n 1) 1 95 := ⟨by decide +kernel, rfl⟩
theorem nX6_field_95 : Nx mX6_field 95 (.invokevirtual 171) 3 98 := ⟨by decide +kernel, rfl⟩
theorem nX6_field_98 : Nx mX6_field 98 (.ireturn) 1 99 := ⟨by decide +kernel, rfl⟩
theorem nX6_field_99 : Nx mX6_field 99 (.bipush (-2)) 2 101 := ⟨by decide +kernel, rfl⟩
theorem nX6_field_101 : Nx mX6_field 101 (.ireturn) 1 102 := ⟨by decide +kernel, rfl⟩
theorem nX6_eater_0 : Nx mX6_eater 0 (.aload_n 0) 1 1 := ⟨by decide +kernel, rfl⟩
theorem nX6_eater_1 : Nx mX6_eater 1 (.iconst 0) 1 2 := ⟨by decide +kernel, rfl⟩
theorem nX6_eater_2 : Nx mX6_eater 2 (.putfield 68) 3 5 := ⟨by decide +kernel, rfl⟩
theorem nX6_eater_5 : Nx mX6_eater 5 (.aload_n 0) 1 6 := ⟨by decide +kernel, rfl⟩
theorem nX6_eater_6 : Nx mX6_eater 6 (.iload_n 1) 1 7 := ⟨by decide +kernel, rfl⟩
theorem nX6_eater_7 : Nx mX6_eater 7 (.invokevirtual 174) 3 10 := ⟨by decide +kernel, rfl⟩
theorem nX6_eater_10 : Nx mX6_eater 10 (.ifCond .eq 5) 3 13 := ⟨by decide +kernel, rfl⟩
theorem nX6_eater_13 : Nx mX6_eater 13 (.iconst (-1)) 1 14 := ⟨by decide +kernel, rfl⟩
theorem nX6_eater_14 : Nx mX6_eater 14 (.ireturn) 1 15 := ⟨by decide +kernel, rfl⟩
theorem nX6_eater_15 : Nx mX6_eater 15 (.iload_n 2) 1 16 := ⟨by decide +kernel, rfl⟩
theorem nX6_eater_16 : Nx mX6_eater 16 (.iconst 4) 1 17 := ⟨by decide +kernel, rfl⟩
theorem nX6_eater_17 : Nx mX6_eater 17 (.if_icmp .eq 8) 3 20 := ⟨by decide +kernel, rfl⟩
theorem nX6_eater_20 : Nx mX6_eater 20 (.iload_n 2) 1 21 := ⟨by decide +kernel, rfl⟩
theorem nX6_eater_21 : Nx mX6_eater 21 (.iconst 5) 1 22 := ⟨by decide +kernel, rfl⟩
theorem nX6_eater_22 : Nx mX6_eater 22 (.if_icmp .ne 37) 3 25 := ⟨by decide +kernel, rfl⟩
theorem nX6_eater_25 : Nx mX6_eater 25 (.aload_n 0) 1 26 := ⟨by decide +kernel, rfl⟩
theorem nX6_eater_26 : Nx mX6_eater 26 (.invokevirtual 152) 3 29 := ⟨by decide +kernel, rfl⟩
theorem nX6_eater_29 : Nx mX6_eater 29 (.aload_n 0) 1 30 := ⟨by decide +kernel, rfl⟩
theorem nX6_eater_30 : Nx mX6_eater 30 (.aload_n 0) 1 31 := ⟨by decide +kernel, rfl⟩
theorem nX6_eater_31 : Nx mX6_eater 31 (.getfield 40) 3 34 := ⟨by decide +kernel, rfl⟩
theorem nX6_eater_34 : Nx mX6_eater 34 (.iload_n 1) 1 35 := ⟨by decide +kernel, rfl⟩
theorem nX6_eater_35 : Nx mX6_eater 35 (.aload_n 0) 1 36 := ⟨by decide +kernel, rfl⟩
theorem nX6_eater_36 : Nx mX6_eater 36 (.getfield 25) 3 39 := ⟨by decide +kernel, rfl⟩
theorem nX6_eater_39 : Nx mX6_eater 39 (.iload_n 1) 1 40 := ⟨by decide +kernel, rfl⟩
theorem nX6_eater_40 : Nx mX6_eater 40 (.iaload) 1 41 := ⟨by decide +kernel, rfl⟩
theorem nX6_eater_41 : Nx mX6_eater 41 (.invokevirtual 138) 3 44 := ⟨by decide +kernel, rfl⟩
theorem nX6_eater_44 : Nx mX6_eater 44 (.istore_n 3) 1 45 := ⟨by decide +kernel, rfl⟩
theorem nX6_eater_45 : Nx mX6_eater 45 (.iload_n 2) 1 46 := ⟨by decide +kernel, rfl⟩
theorem nX6_eater_46 : Nx mX6_eater 46 (.iconst 4) 1 47 := ⟨by decide +kernel, rfl⟩
theorem nX6_eater_47 : Nx mX6_eater 47 (.if_icmp .ne 7) 3 50 := ⟨by decide +kernel, rfl⟩
theorem nX6_eater_50 : Nx mX6_eater 50 (.iload_n 3) 1 51 := ⟨by decide +kernel, rfl⟩
theorem nX6_eater_51 : Nx mX6_eater 51 (.goto 7) 3 54 := ⟨by decide +kernel, rfl⟩
theorem nX6_eater_54 : Nx mX6_eater 54 (.aload_n 0) 1 55 := ⟨by decide +kernel, rfl⟩
theorem nX6_eater_55 : Nx mX6_eater 55 (.getfield 124) 3 58 := ⟨by decide +kernel, rfl⟩
theorem nX6_eater_58 : Nx mX6_eater 58 (.ireturn) 1 59 := ⟨by decide +kernel, rfl⟩
theorem nX6_eater_59 : Nx mX6_eater 59 (.iload_n 2) 1 60 := ⟨by decide +kernel, rfl⟩
theorem nX6_eater_60 : Nx mX6_eater 60 (.tableswitch 62 0 3 #[32, 39, 46, 53]) 32 92 := ⟨by decide +kernel, rfl⟩
theorem nX6_eater_92 : Nx mX6_eater 92 (.aload_n 0) 1 93 := ⟨by decide +kernel, rfl⟩
theorem nX6_eater_93 : Nx mX6_eater 93 (.getfield 22) 3 96 := ⟨by decide +kernel, rfl⟩
theorem nX6_eater_96 : Nx mX6_eater 96 (.iload_n 1) 1 97 := ⟨by decide +kernel, rfl⟩
theorem nX6_eater_97 : Nx mX6_eater 97 (.iaload) 1 98 := ⟨by decide +kernel, rfl⟩
theorem nX6_eater_98 : Nx mX6_eater 98 (.ireturn) 1 99 := ⟨by decide +kernel, rfl⟩
theorem nX6_eater_99 : Nx mX6_eater 99 (.aload_n 0) 1 100 := ⟨by decide +kernel, rfl⟩
theorem nX6_eater_100 : Nx mX6_eater 100 (.getfield 25) 3 103 := ⟨by decide +kernel, rfl⟩
theorem nX6_eater_103 : Nx mX6_eater 103 (.iload_n 1) 1 104 := ⟨by decide +kernel, rfl⟩
theorem nX6_eater_104 : Nx mX6_eater 104 (.iaload) 1 105 := ⟨by decide +kernel, rfl⟩
theorem nX6_eater_105 : Nx mX6_eater 105 (.ireturn) 1 106 := ⟨by decide +kernel, rfl⟩
theorem nX6_eater_106 : Nx mX6_eater 106 (.aload_n 0) 1 107 := ⟨by decide +kernel, rfl⟩
theorem nX6_eater_107 : Nx mX6_eater 107 (.getfield 28) 3 110 := ⟨by decide +kernel, rfl⟩
theorem nX6_eater_110 : Nx mX6_eater 110 (.iload_n 1) 1 111 := ⟨by decide +kernel, rfl⟩
theorem nX6_eater_111 : Nx mX6_eater 111 (.iaload) 1 112 := ⟨by decide +kernel, rfl⟩
theorem nX6_eater_112 : Nx mX6_eater 112 (.ireturn) 1 113 := ⟨by decide +kernel, rfl⟩
theorem nX6_eater_113 : Nx mX6_eater 113 (.aload_n 0) 1 114 := ⟨by decide +kernel, rfl⟩
theorem nX6_eater_114 : Nx mX6_eater 114 (.getfield 37) 3 117 := ⟨by decide +kernel, rfl⟩
theorem nX6_eater_117 : Nx mX6_eater 117 (.iload_n 1) 1 118 := ⟨by decide +kernel, rfl⟩
theorem nX6_eater_118 : Nx mX6_eater 118 (.invokestatic 148) 3 121 := ⟨by decide +kernel, rfl⟩
theorem nX6_eater_121 : Nx mX6_eater 121 (.ireturn) 1 122 := ⟨by decide +kernel, rfl⟩
theorem nX6_eater_122 : Nx mX6_eater 122 (.bipush (-2)) 2 124 := ⟨by decide +kernel, rfl⟩
theorem nX6_eater_124 : Nx mX6_eater 124 (.ireturn) 1 125 := ⟨by decide +kernel, rfl⟩
theorem nX6_owes_0 : Nx mX6_owes 0 (.aload_n 0) 1 1 := ⟨by decide +kernel, rfl⟩
theorem nX6_owes_1 : Nx mX6_owes 1 (.iconst 0) 1 2 := ⟨by decide +kernel, rfl⟩
theorem nX6_owes_2 : Nx mX6_owes 2 (.putfield 68) 3 5 := ⟨by decide +kernel, rfl⟩
theorem nX6_owes_5 : Nx mX6_owes 5 (.aload_n 0) 1 6 := ⟨by decide +kernel, rfl⟩
theorem nX6_owes_6 : Nx mX6_owes 6 (.iload_n 1) 1 7 := ⟨by decide +kernel, rfl⟩
theorem nX6_owes_7 : Nx mX6_owes 7 (.invokevirtual 174) 3 10 := ⟨by decide +kernel, rfl⟩
theorem nX6_owes_10 : Nx mX6_owes 10 (.ifCond .ne 11) 3 13 := ⟨by decide +kernel, rfl⟩
theorem nX6_owes_13 : Nx mX6_owes 13 (.aload_n 0) 1 14 := ⟨by decide +kernel, rfl⟩
theorem nX6_owes_14 : Nx mX6_owes 14 (.iload_n 2) 1 15 := ⟨by decide +kernel, rfl⟩
theorem nX6_owes_15 : Nx mX6_owes 15 (.invokevirtual 167) 3 18 := ⟨by decide +kernel, rfl⟩
theorem nX6_owes_18 : Nx mX6_owes 18 (.ifCond .eq 7) 3 21 := ⟨by decide +kernel, rfl⟩
theorem nX6_owes_21 : Nx mX6_owes 21 (.iconst (-1)) 1 22 := ⟨by decide +kernel, rfl⟩
theorem nX6_owes_22 : Nx mX6_owes 22 (.goto 12) 3 25 := ⟨by decide +kernel, rfl⟩
theorem nX6_owes_25 : Nx mX6_owes 25 (.aload_n 0) 1 26 := ⟨by decide +kernel, rfl⟩
theorem nX6_owes_26 : Nx mX6_owes 26 (.getfield 37) 3 29 := ⟨by decide +kernel, rfl⟩
theorem nX6_owes_29 : Nx mX6_owes 29 (.iload_n 1) 1 30 := ⟨by decide +kernel, rfl⟩
theorem nX6_owes_30 : Nx mX6_owes 30 (.iload_n 2) 1 31 := ⟨by decide +kernel, rfl⟩
theorem nX6_owes_31 : Nx mX6_owes 31 (.invokestatic 117) 3 34 := ⟨by decide +kernel, rfl⟩
theorem nX6_owes_34 : Nx mX6_owes 34 (.ireturn) 1 35 := ⟨by decide +kernel, rfl⟩
theorem nX6_note_0 : Nx mX6_note 0 (.aload_n 0) 1 1 := ⟨by decide +kernel, rfl⟩
theorem nX6_note_1 : Nx mX6_note 1 (.getfield 114) 3 4 := ⟨by decide +kernel, rfl⟩
theorem nX6_note_4 : Nx mX6_note 4 (.bipush 14) 2 6 := ⟨by decide +kernel, rfl⟩
theorem nX6_note_6 : Nx mX6_note 6 (.if_icmp .ne 43) 3 9 := ⟨by decide +kernel, rfl⟩
theorem nX6_note_9 : Nx mX6_note 9 (.iconst 0) 1 10 := ⟨by decide +kernel, rfl⟩
theorem nX6_note_10 : Nx mX6_note 10 (.istore_n 1) 1 11 := ⟨by decide +kernel, rfl⟩
theorem nX6_note_11 : Nx mX6_note 11 (.iload_n 1) 1 12 := ⟨by decide +kernel, rfl⟩
theorem nX6_note_12 : Nx mX6_note 12 (.sipush 377) 3 15 := ⟨by decide +kernel, rfl⟩
theorem nX6_note_15 : Nx mX6_note 15 (.if_icmp .ge 24) 3 18 := ⟨by decide +kernel, rfl⟩
theorem nX6_note_18 : Nx mX6_note 18 (.aload_n 0) 1 19 := ⟨by decide +kernel, rfl⟩
theorem nX6_note_19 : Nx mX6_note 19 (.getfield 43) 3 22 := ⟨by decide +kernel, rfl⟩
theorem nX6_note_22 : Nx mX6_note 22 (.iload_n 1) 1 23 := ⟨by decide +kernel, rfl⟩
theorem nX6_note_23 : Nx mX6_note 23 (.aload_n 0) 1 24 := ⟨by decide +kernel, rfl⟩
theorem nX6_note_24 : Nx mX6_note 24 (.getfield 43) 3 27 := ⟨by decide +kernel, rfl⟩
theorem nX6_note_27 : Nx mX6_note 27 (.iload_n 1) 1 28 := ⟨by decide +kernel, rfl⟩
theorem nX6_note_28 : Nx mX6_note 28 (.bipush 29) 2 30 := ⟨by decide +kernel, rfl⟩
theorem nX6_note_30 : Nx mX6_note 30 (.iadd) 1 31 := ⟨by decide +kernel, rfl⟩
theorem nX6_note_31 : Nx mX6_note 31 (.iaload) 1 32 := ⟨by decide +kernel, rfl⟩
theorem nX6_note_32 : Nx mX6_note 32 (.iastore) 1 33 := ⟨by decide +kernel, rfl⟩
theorem nX6_note_33 : Nx mX6_note 33 (.iinc 1 1) 3 36 := ⟨by decide +kernel, rfl⟩
theorem nX6_note_36 : Nx mX6_note 36 (.goto (-25)) 3 39 := ⟨by decide +kernel, rfl⟩
theorem nX6_note_39 : Nx mX6_note 39 (.aload_n 0) 1 40 := ⟨by decide +kernel, rfl⟩
theorem nX6_note_40 : Nx mX6_note 40 (.dup) 1 41 := ⟨by decide +kernel, rfl⟩
theorem nX6_note_41 : Nx mX6_note 41 (.getfield 114) 3 44 := ⟨by decide +kernel, rfl⟩
theorem nX6_note_44 : Nx mX6_note 44 (.iconst 1) 1 45 := ⟨by decide +kernel, rfl⟩
theorem nX6_note_45 : Nx mX6_note 45 (.isub) 1 46 := ⟨by decide +kernel, rfl⟩
theorem nX6_note_46 : Nx mX6_note 46 (.putfield 114) 3 49 := ⟨by decide +kernel, rfl⟩
theorem nX6_note_49 : Nx mX6_note 49 (.iconst 0) 1 50 := ⟨by decide +kernel, rfl⟩
theorem nX6_note_50 : Nx mX6_note 50 (.istore_n 1) 1 51 := ⟨by decide +kernel, rfl⟩
theorem nX6_note_51 : Nx mX6_note 51 (.iload_n 1) 1 52 := ⟨by decide +kernel, rfl⟩
theorem nX6_note_52 : Nx mX6_note 52 (.bipush 29) 2 54 := ⟨by decide +kernel, rfl⟩
theorem nX6_note_54 : Nx mX6_note 54 (.if_icmp .ge 29) 3 57 := ⟨by decide +kernel, rfl⟩
theorem nX6_note_57 : Nx mX6_note 57 (.aload_n 0) 1 58 := ⟨by decide +kernel, rfl⟩
theorem nX6_note_58 : Nx mX6_note 58 (.getfield 43) 3 61 := ⟨by decide +kernel, rfl⟩
theorem nX6_note_61 : Nx mX6_note 61 (.bipush 29) 2 63 := ⟨by decide +kernel, rfl⟩
theorem nX6_note_63 : Nx mX6_note 63 (.aload_n 0) 1 64 := ⟨by decide +kernel, rfl⟩
theorem nX6_note_64 : Nx mX6_note 64 (.getfield 114) 3 67 := ⟨by decide +kernel, rfl⟩
theorem nX6_note_67 : Nx mX6_note 67 (.imul) 1 68 := ⟨by decide +kernel, rfl⟩
theorem nX6_note_68 : Nx mX6_note 68 (.iload_n 1) 1 69 := ⟨by decide +kernel, rfl⟩
theorem nX6_note_69 : Nx mX6_note 69 (.iadd) 1 70 := ⟨by decide +kernel, rfl⟩
theorem nX6_note_70 : Nx mX6_note 70 (.aload_n 0) 1 71 := ⟨by decide +kernel, rfl⟩
theorem nX6_note_71 : Nx mX6_note 71 (.getfield 37) 3 74 := ⟨by decide +kernel, rfl⟩
theorem nX6_note_74 : Nx mX6_note 74 (.iload_n 1) 1 75 := ⟨by decide +kernel, rfl⟩
theorem nX6_note_75 : Nx mX6_note 75 (.iaload) 1 76 := ⟨by decide +kernel, rfl⟩
theorem nX6_note_76 : Nx mX6_note 76 (.iastore) 1 77 := ⟨by decide +kernel, rfl⟩
theorem nX6_note_77 : Nx mX6_note 77 (.iinc 1 1) 3 80 := ⟨by decide +kernel, rfl⟩
theorem nX6_note_80 : Nx mX6_note 80 (.goto (-29)) 3 83 := ⟨by decide +kernel, rfl⟩
theorem nX6_note_83 : Nx mX6_note 83 (.aload_n 0) 1 84 := ⟨by decide +kernel, rfl⟩
theorem nX6_note_84 : Nx mX6_note 84 (.dup) 1 85 := ⟨by decide +kernel, rfl⟩
theorem nX6_note_85 : Nx mX6_note 85 (.getfield 114) 3 88 := ⟨by decide +kernel, rfl⟩
theorem nX6_note_88 : Nx mX6_note 88 (.iconst 1) 1 89 := ⟨by decide +kernel, rfl⟩
theorem nX6_note_89 : Nx mX6_note 89 (.iadd) 1 90 := ⟨by decide +kernel, rfl⟩
theorem nX6_note_90 : Nx mX6_note 90 (.putfield 114) 3 93 := ⟨by decide +kernel, rfl⟩
theorem nX6_note_93 : Nx mX6_note 93 (.return_) 1 94 := ⟨by decide +kernel, rfl⟩
theorem nX6_bite_0 : Nx mX6_bite 0 (.aload_n 0) 1 1 := ⟨by decide +kernel, rfl⟩
theorem nX6_bite_1 : Nx mX6_bite 1 (.getfield 28) 3 4 := ⟨by decide +kernel, rfl⟩
theorem nX6_bite_4 : Nx mX6_bite 4 (.iload_n 1) 1 5 := ⟨by decide +kernel, rfl⟩
theorem nX6_bite_5 : Nx mX6_bite 5 (.iaload) 1 6 := ⟨by decide +kernel, rfl⟩
theorem nX6_bite_6 : Nx mX6_bite 6 (.iconst 2) 1 7 := ⟨by decide +kernel, rfl⟩
theorem nX6_bite_7 : Nx mX6_bite 7 (.if_icmp .ne 7) 3 10 := ⟨by decide +kernel, rfl⟩
theorem nX6_bite_10 : Nx mX6_bite 10 (.iconst 2) 1 11 := ⟨by decide +kernel, rfl⟩
theorem nX6_bite_11 : Nx mX6_bite 11 (.goto 4) 3 14 := ⟨by decide +kernel, rfl⟩
theorem nX6_bite_14 : Nx mX6_bite 14 (.iconst 1) 1 15 := ⟨by decide +kernel, rfl⟩
theorem nX6_bite_15 : Nx mX6_bite 15 (.ireturn) 1 16 := ⟨by decide +kernel, rfl⟩
theorem nX6_canEat_0 : Nx mX6_canEat 0 (.aload_n 1) 1 1 := ⟨by decide +kernel, rfl⟩
theorem nX6_canEat_1 : Nx mX6_canEat 1 (.iload_n 3) 1 2 := ⟨by decide +kernel, rfl⟩
theorem nX6_canEat_2 : Nx mX6_canEat 2 (.iaload) 1 3 := ⟨by decide +kernel, rfl⟩
theorem nX6_canEat_3 : Nx mX6_canEat 3 (.aload_n 0) 1 4 := ⟨by decide +kernel, rfl⟩
theorem nX6_canEat_4 : Nx mX6_canEat 4 (.iload_n 2) 1 5 := ⟨by decide +kernel, rfl⟩
theorem nX6_canEat_5 : Nx mX6_canEat 5 (.invokevirtual 177) 3 8 := ⟨by decide +kernel, rfl⟩
theorem nX6_canEat_8 : Nx mX6_canEat 8 (.if_icmp .lt 25) 3 11 := ⟨by decide +kernel, rfl⟩
theorem nX6_canEat_11 : Nx mX6_canEat 11 (.aload_n 0) 1 12 := ⟨by decide +kernel, rfl⟩
theorem nX6_canEat_12 : Nx mX6_canEat 12 (.getfield 28) 3 15 := ⟨by decide +kernel, rfl⟩
theorem nX6_canEat_15 : Nx mX6_canEat 15 (.iload_n 2) 1 16 := ⟨by decide +kernel, rfl⟩
theorem nX6_canEat_16 : Nx mX6_canEat 16 (.iaload) 1 17 := ⟨by decide +kernel, rfl⟩
theorem nX6_canEat_17 : Nx mX6_canEat 17 (.iconst 3) 1 18 := ⟨by decide +kernel, rfl⟩
theorem nX6_canEat_18 : Nx mX6_canEat 18 (.if_icmp .ne 11) 3 21 := ⟨by decide +kernel, rfl⟩
theorem nX6_canEat_21 : Nx mX6_canEat 21 (.aload_n 1) 1 22 := ⟨by decide +kernel, rfl⟩
theorem nX6_canEat_22 : Nx mX6_canEat 22 (.iload_n 2) 1 23 := ⟨by decide +kernel, rfl⟩
theorem nX6_canEat_23 : Nx mX6_canEat 23 (.invokestatic 148) 3 26 := ⟨by decide +kernel, rfl⟩
theorem nX6_canEat_26 : Nx mX6_canEat 26 (.ifCond .ne 7) 3 29 := ⟨by decide +kernel, rfl⟩
theorem nX6_canEat_29 : Nx mX6_canEat 29 (.iconst 1) 1 30 := ⟨by decide +kernel, rfl⟩
theorem nX6_canEat_30 : Nx mX6_canEat 30 (.goto 4) 3 33 := ⟨by decide +kernel, rfl⟩
theorem nX6_canEat_33 : Nx mX6_canEat 33 (.iconst 0) 1 34 := ⟨by decide +kernel, rfl⟩
theorem nX6_canEat_34 : Nx mX6_canEat 34 (.ireturn) 1 35 := ⟨by decide +kernel, rfl⟩
theorem nX6_goEat_0 : Nx mX6_goEat 0 (.aload_n 1) 1 1 := ⟨by decide +kernel, rfl⟩
theorem nX6_goEat_1 : Nx mX6_goEat 1 (.iload_n 3) 1 2 := ⟨by decide +kernel, rfl⟩
theorem nX6_goEat_2 : Nx mX6_goEat 2 (.dup2) 1 3 := ⟨by decide +kernel, rfl⟩
theorem nX6_goEat_3 : Nx mX6_goEat 3 (.iaload) 1 4 := ⟨by decide +kernel, rfl⟩
theorem nX6_goEat_4 : Nx mX6_goEat 4 (.aload_n 0) 1 5 := ⟨by decide +kernel, rfl⟩
theorem nX6_goEat_5 : Nx mX6_goEat 5 (.iload_n 2) 1 6 := ⟨by decide +kernel, rfl⟩
theorem nX6_goEat_6 : Nx mX6_goEat 6 (.invokevirtual 177) 3 9 := ⟨by decide +kernel, rfl⟩
theorem nX6_goEat_9 : Nx mX6_goEat 9 (.isub) 1 10 := ⟨by decide +kernel, rfl⟩
theorem nX6_goEat_10 : Nx mX6_goEat 10 (.iastore) 1 11 := ⟨by decide +kernel, rfl⟩
theorem nX6_goEat_11 : Nx mX6_goEat 11 (.aload_n 1) 1 12 := ⟨by decide +kernel, rfl⟩
theorem nX6_goEat_12 : Nx mX6_goEat 12 (.bipush 8) 2 14 := ⟨by decide +kernel, rfl⟩
theorem nX6_goEat_14 : Nx mX6_goEat 14 (.iconst 4) 1 15 := ⟨by decide +kernel, rfl⟩
theorem nX6_goEat_15 : Nx mX6_goEat 15 (.iload_n 2) 1 16 := ⟨by decide +kernel, rfl⟩
theorem nX6_goEat_16 : Nx mX6_goEat 16 (.imul) 1 17 := ⟨by decide +kernel, rfl⟩
theorem nX6_goEat_17 : Nx mX6_goEat 17 (.iadd) 1 18 := ⟨by decide +kernel, rfl⟩
theorem nX6_goEat_18 : Nx mX6_goEat 18 (.iload_n 3) 1 19 := ⟨by decide +kernel, rfl⟩
theorem nX6_goEat_19 : Nx mX6_goEat 19 (.iadd) 1 20 := ⟨by decide +kernel, rfl⟩
theorem nX6_goEat_20 : Nx mX6_goEat 20 (.aload_n 1) 1 21 := ⟨by decide +kernel, rfl⟩
theorem nX6_goEat_21 : Nx mX6_goEat 21 (.iload_n 2) 1 22 := ⟨by decide +kernel, rfl⟩
theorem nX6_goEat_22 : Nx mX6_goEat 22 (.iload_n 3) 1 23 := ⟨by decide +kernel, rfl⟩
theorem nX6_goEat_23 : Nx mX6_goEat 23 (.invokestatic 117) 3 26 := ⟨by decide +kernel, rfl⟩
theorem nX6_goEat_26 : Nx mX6_goEat 26 (.aload_n 0) 1 27 := ⟨by decide +kernel, rfl⟩
theorem nX6_goEat_27 : Nx mX6_goEat 27 (.iload_n 2) 1 28 := ⟨by decide +kernel, rfl⟩
theorem nX6_goEat_28 : Nx mX6_goEat 28 (.invokevirtual 177) 3 31 := ⟨by decide +kernel, rfl⟩
theorem nX6_goEat_31 : Nx mX6_goEat 31 (.iadd) 1 32 := ⟨by decide +kernel, rfl⟩
theorem nX6_goEat_32 : Nx mX6_goEat 32 (.invokestatic 130) 3 35 := ⟨by decide +kernel, rfl⟩
theorem nX6_goEat_35 : Nx mX6_goEat 35 (.iastore) 1 36 := ⟨by decide +kernel, rfl⟩
theorem nX6_goEat_36 : Nx mX6_goEat 36 (.return_) 1 37 := ⟨by decide +kernel, rfl⟩
theorem nX6_eat_0 : Nx mX6_eat 0 (.aload_n 0) 1 1 := ⟨by decide +kernel, rfl⟩
theorem nX6_eat_1 : Nx mX6_eat 1 (.iconst 0) 1 2 := ⟨by decide +kernel, rfl⟩
theorem nX6_eat_2 : Nx mX6_eat 2 (.putfield 68) 3 5 := ⟨by decide +kernel, rfl⟩
theorem nX6_eat_5 : Nx mX6_eat 5 (.aload_n 0) 1 6 := ⟨by decide +kernel, rfl⟩
theorem nX6_eat_6 : Nx mX6_eat 6 (.iload_n 1) 1 7 := ⟨by decide +kernel, rfl⟩
theorem nX6_eat_7 : Nx mX6_eat 7 (.invokevirtual 174) 3 10 := ⟨by decide +kernel, rfl⟩
theorem nX6_eat_10 : Nx mX6_eat 10 (.ifCond .ne 11) 3 13 := ⟨by decide +kernel, rfl⟩
theorem nX6_eat_13 : Nx mX6_eat 13 (.aload_n 0) 1 14 := ⟨by decide +kernel, rfl⟩
theorem nX6_eat_14 : Nx mX6_eat 14 (.iload_n 2) 1 15 := ⟨by decide +kernel, rfl⟩
theorem nX6_eat_15 : Nx mX6_eat 15 (.invokevirtual 167) 3 18 := ⟨by decide +kernel, rfl⟩
theorem nX6_eat_18 : Nx mX6_eat 18 (.ifCond .eq 5) 3 21 := ⟨by decide +kernel, rfl⟩
theorem nX6_eat_21 : Nx mX6_eat 21 (.iconst (-1)) 1 22 := ⟨by decide +kernel, rfl⟩
theorem nX6_eat_22 : Nx mX6_eat 22 (.ireturn) 1 23 := ⟨by decide +kernel, rfl⟩
theorem nX6_eat_23 : Nx mX6_eat 23 (.aload_n 0) 1 24 := ⟨by decide +kernel, rfl⟩
theorem nX6_eat_24 : Nx mX6_eat 24 (.aload_n 0) 1 25 := ⟨by decide +kernel, rfl⟩
theorem nX6_eat_25 : Nx mX6_eat 25 (.getfield 37) 3 28 := ⟨by decide +kernel, rfl⟩
theorem nX6_eat_28 : Nx mX6_eat 28 (.iload_n 1) 1 29 := ⟨by decide +kernel, rfl⟩
theorem nX6_eat_29 : Nx mX6_eat 29 (.iload_n 2) 1 30 := ⟨by decide +kernel, rfl⟩
theorem nX6_eat_30 : Nx mX6_eat 30 (.invokevirtual 180) 3 33 := ⟨by decide +kernel, rfl⟩
theorem nX6_eat_33 : Nx mX6_eat 33 (.ifCond .ne 6) 3 36 := ⟨by decide +kernel, rfl⟩
theorem nX6_eat_36 : Nx mX6_eat 36 (.bipush (-3)) 2 38 := ⟨by decide +kernel, rfl⟩
theorem nX6_eat_38 : Nx mX6_eat 38 (.ireturn) 1 39 := ⟨by decide +kernel, rfl⟩
theorem nX6_eat_39 : Nx mX6_eat 39 (.aload_n 0) 1 40 := ⟨by decide +kernel, rfl⟩
theorem nX6_eat_40 : Nx mX6_eat 40 (.invokevirtual 184) 3 43 := ⟨by decide +kernel, rfl⟩
theorem nX6_eat_43 : Nx mX6_eat 43 (.aload_n 0) 1 44 := ⟨by decide +kernel, rfl⟩
theorem nX6_eat_44 : Nx mX6_eat 44 (.aload_n 0) 1 45 := ⟨by decide +kernel, rfl⟩
theorem nX6_eat_45 : Nx mX6_eat 45 (.getfield 37) 3 48 := ⟨by decide +kernel, rfl⟩
theorem nX6_eat_48 : Nx mX6_eat 48 (.iload_n 1) 1 49 := ⟨by decide +kernel, rfl⟩
theorem nX6_eat_49 : Nx mX6_eat 49 (.iload_n 2) 1 50 := ⟨by decide +kernel, rfl⟩
theorem nX6_eat_50 : Nx mX6_eat 50 (.invokevirtual 187) 3 53 := ⟨by decide +kernel, rfl⟩
theorem nX6_eat_53 : Nx mX6_eat 53 (.aload_n 0) 1 54 := ⟨by decide +kernel, rfl⟩
theorem nX6_eat_54 : Nx mX6_eat 54 (.getfield 37) 3 57 := ⟨by decide +kernel, rfl⟩
theorem nX6_eat_57 : Nx mX6_eat 57 (.iload_n 1) 1 58 := ⟨by decide +kernel, rfl⟩
theorem nX6_eat_58 : Nx mX6_eat 58 (.iload_n 2) 1 59 := ⟨by decide +kernel, rfl⟩
theorem nX6_eat_59 : Nx mX6_eat 59 (.invokestatic 117) 3 62 := ⟨by decide +kernel, rfl⟩
theorem nX6_eat_62 : Nx mX6_eat 62 (.ireturn) 1 63 := ⟨by decide +kernel, rfl⟩
theorem nX6_cake_0 : Nx mX6_cake 0 (.aload_n 0) 1 1 := ⟨by decide +kernel, rfl⟩
theorem nX6_cake_1 : Nx mX6_cake 1 (.iconst 0) 1 2 := ⟨by decide +kernel, rfl⟩
theorem nX6_cake_2 : Nx mX6_cake 2 (.putfield 68) 3 5 := ⟨by decide +kernel, rfl⟩
theorem nX6_cake_5 : Nx mX6_cake 5 (.aload_n 0) 1 6 := ⟨by decide +kernel, rfl⟩
theorem nX6_cake_6 : Nx mX6_cake 6 (.iload_n 1) 1 7 := ⟨by decide +kernel, rfl⟩
theorem nX6_cake_7 : Nx mX6_cake 7 (.invokevirtual 174) 3 10 := ⟨by decide +kernel, rfl⟩
theorem nX6_cake_10 : Nx mX6_cake 10 (.ifCond .ne 19) 3 13 := ⟨by decide +kernel, rfl⟩
theorem nX6_cake_13 : Nx mX6_cake 13 (.aload_n 0) 1 14 := ⟨by decide +kernel, rfl⟩
theorem nX6_cake_14 : Nx mX6_cake 14 (.iload_n 2) 1 15 := ⟨by decide +kernel, rfl⟩
theorem nX6_cake_15 : Nx mX6_cake 15 (.invokevirtual 167) 3 18 := ⟨by decide +kernel, rfl⟩
theorem nX6_cake_18 : Nx mX6_cake 18 (.ifCond .ne 11) 3 21 := ⟨by decide +kernel, rfl⟩
theorem nX6_cake_21 : Nx mX6_cake 21 (.aload_n 0) 1 22 := ⟨by decide +kernel, rfl⟩
theorem nX6_cake_22 : Nx mX6_cake 22 (.iload_n 3) 1 23 := ⟨by decide +kernel, rfl⟩
theorem nX6_cake_23 : Nx mX6_cake 23 (.invokevirtual 167) 3 26 := ⟨by decide +kernel, rfl⟩
theorem nX6_cake_26 : Nx mX6_cake 26 (.ifCond .eq 5) 3 29 := ⟨by decide +kernel, rfl⟩
theorem nX6_cake_29 : Nx mX6_cake 29 (.iconst (-1)) 1 30 := ⟨by decide +kernel, rfl⟩
theorem nX6_cake_30 : Nx mX6_cake 30 (.ireturn) 1 31 := ⟨by decide +kernel, rfl⟩
theorem nX6_cake_31 : Nx mX6_cake 31 (.iload_n 2) 1 32 := ⟨by decide +kernel, rfl⟩
theorem nX6_cake_32 : Nx mX6_cake 32 (.iload_n 3) 1 33 := ⟨by decide +kernel, rfl⟩
theorem nX6_cake_33 : Nx mX6_cake 33 (.if_icmp .ne 6) 3 36 := ⟨by decide +kernel, rfl⟩
theorem nX6_cake_36 : Nx mX6_cake 36 (.bipush (-2)) 2 38 := ⟨by decide +kernel, rfl⟩
theorem nX6_cake_38 : Nx mX6_cake 38 (.ireturn) 1 39 := ⟨by decide +kernel, rfl⟩
theorem nX6_cake_39 : Nx mX6_cake 39 (.aload_n 0) 1 40 := ⟨by decide +kernel, rfl⟩
theorem nX6_cake_40 : Nx mX6_cake 40 (.aload_n 0) 1 41 := ⟨by decide +kernel, rfl⟩
theorem nX6_cake_41 : Nx mX6_cake 41 (.getfield 37) 3 44 := ⟨by decide +kernel, rfl⟩
theorem nX6_cake_44 : Nx mX6_cake 44 (.iload_n 1) 1 45 := ⟨by decide +kernel, rfl⟩
theorem nX6_cake_45 : Nx mX6_cake 45 (.iload_n 2) 1 46 := ⟨by decide +kernel, rfl⟩
theorem nX6_cake_46 : Nx mX6_cake 46 (.invokevirtual 180) 3 49 := ⟨by decide +kernel, rfl⟩
theorem nX6_cake_49 : Nx mX6_cake 49 (.ifCond .eq 16) 3 52 := ⟨by decide +kernel, rfl⟩
theorem nX6_cake_52 : Nx mX6_cake 52 (.aload_n 0) 1 53 := ⟨by decide +kernel, rfl⟩
theorem nX6_cake_53 : Nx mX6_cake 53 (.aload_n 0) 1 54 := ⟨by decide +kernel, rfl⟩
theorem nX6_cake_54 : Nx mX6_cake 54 (.getfield 37) 3 57 := ⟨by decide +kernel, rfl⟩
theorem nX6_cake_57 : Nx mX6_cake 57 (.iload_n 1) 1 58 := ⟨by decide +kernel, rfl⟩
theorem nX6_cake_58 : Nx mX6_cake 58 (.iload_n 3) 1 59 := ⟨by decide +kernel, rfl⟩
theorem nX6_cake_59 : Nx mX6_cake 59 (.invokevirtual 180) 3 62 := ⟨by decide +kernel, rfl⟩
theorem nX6_cake_62 : Nx mX6_cake 62 (.ifCond .ne 6) 3 65 := ⟨by decide +kernel, rfl⟩
theorem nX6_cake_65 : Nx mX6_cake 65 (.bipush (-3)) 2 67 := ⟨by decide +kernel, rfl⟩
theorem nX6_cake_67 : Nx mX6_cake 67 (.ireturn) 1 68 := ⟨by decide +kernel, rfl⟩
theorem nX6_cake_68 : Nx mX6_cake 68 (.aload_n 0) 1 69 := ⟨by decide +kernel, rfl⟩
theorem nX6_cake_69 : Nx mX6_cake 69 (.invokevirtual 184) 3 72 := ⟨by decide +kernel, rfl⟩
theorem nX6_cake_72 : Nx mX6_cake 72 (.aload_n 0) 1 73 := ⟨by decide +kernel, rfl⟩
theorem nX6_cake_73 : Nx mX6_cake 73 (.aload_n 0) 1 74 := ⟨by decide +kernel, rfl⟩
theorem nX6_cake_74 : Nx mX6_cake 74 (.getfield 37) 3 77 := ⟨by decide +kernel, rfl⟩
theorem nX6_cake_77 : Nx mX6_cake 77 (.iload_n 1) 1 78 := ⟨by decide +kernel, rfl⟩
theorem nX6_cake_78 : Nx mX6_cake 78 (.iload_n 2) 1 79 := ⟨by decide +kernel, rfl⟩
theorem nX6_cake_79 : Nx mX6_cake 79 (.invokevirtual 187) 3 82 := ⟨by decide +kernel, rfl⟩
theorem nX6_cake_82 : Nx mX6_cake 82 (.aload_n 0) 1 83 := ⟨by decide +kernel, rfl⟩
theorem nX6_cake_83 : Nx mX6_cake 83 (.aload_n 0) 1 84 := ⟨by decide +kernel, rfl⟩
theorem nX6_cake_84 : Nx mX6_cake 84 (.getfield 37) 3 87 := ⟨by decide +kernel, rfl⟩
theorem nX6_cake_87 : Nx mX6_cake 87 (.iload_n 1) 1 88 := ⟨by decide +kernel, rfl⟩
theorem nX6_cake_88 : Nx mX6_cake 88 (.iload_n 3) 1 89 := ⟨by decide +kernel, rfl⟩
theorem nX6_cake_89 : Nx mX6_cake 89 (.invokevirtual 187) 3 92 := ⟨by decide +kernel, rfl⟩
theorem nX6_cake_92 : Nx mX6_cake 92 (.aload_n 0) 1 93 := ⟨by decide +kernel, rfl⟩
theorem nX6_cake_93 : Nx mX6_cake 93 (.getfield 37) 3 96 := ⟨by decide +kernel, rfl⟩
theorem nX6_cake_96 : Nx mX6_cake 96 (.iload_n 1) 1 97 := ⟨by decide +kernel, rfl⟩
theorem nX6_cake_97 : Nx mX6_cake 97 (.invokestatic 148) 3 100 := ⟨by decide +kernel, rfl⟩
theorem nX6_cake_100 : Nx mX6_cake 100 (.ireturn) 1 101 := ⟨by decide +kernel, rfl⟩
theorem nX6_march_0 : Nx mX6_march 0 (.aload_n 0) 1 1 := ⟨by decide +kernel, rfl⟩
theorem nX6_march_1 : Nx mX6_march 1 (.iconst 0) 1 2 := ⟨by decide +kernel, rfl⟩
theorem nX6_march_2 : Nx mX6_march 2 (.putfield 68) 3 5 := ⟨by decide +kernel, rfl⟩
theorem nX6_march_5 : Nx mX6_march 5 (.aload_n 0) 1 6 := ⟨by decide +kernel, rfl⟩
theorem nX6_march_6 : Nx mX6_march 6 (.invokevirtual 184) 3 9 := ⟨by decide +kernel, rfl⟩
theorem nX6_march_9 : Nx mX6_march 9 (.aload_n 0) 1 10 := ⟨by decide +kernel, rfl⟩
theorem nX6_march_10 : Nx mX6_march 10 (.aload_n 0) 1 11 := ⟨by decide +kernel, rfl⟩
theorem nX6_march_11 : Nx mX6_march 11 (.getfield 37) 3 14 := ⟨by decide +kernel, rfl⟩
theorem nX6_march_14 : Nx mX6_march 14 (.bipush 31) 2 16 := ⟨by decide +kernel, rfl⟩
theorem nX6_march_16 : Nx mX6_march 16 (.invokevirtual 155) 3 19 := ⟨by decide +kernel, rfl⟩
theorem nX6_march_19 : Nx mX6_march 19 (.ireturn) 1 20 := ⟨by decide +kernel, rfl⟩
theorem nX6_harvest_0 : Nx mX6_harvest 0 (.aload_n 0) 1 1 := ⟨by decide +kernel, rfl⟩
theorem nX6_harvest_1 : Nx mX6_harvest 1 (.iconst 0) 1 2 := ⟨by decide +kernel, rfl⟩
theorem nX6_harvest_2 : Nx mX6_harvest 2 (.putfield 68) 3 5 := ⟨by decide +kernel, rfl⟩
theorem nX6_harvest_5 : Nx mX6_harvest 5 (.aload_n 0) 1 6 := ⟨by decide +kernel, rfl⟩
theorem nX6_harvest_6 : Nx mX6_harvest 6 (.invokevirtual 184) 3 9 := ⟨by decide +kernel, rfl⟩
theorem nX6_harvest_9 : Nx mX6_harvest 9 (.aload_n 0) 1 10 := ⟨by decide +kernel, rfl⟩
theorem nX6_harvest_10 : Nx mX6_harvest 10 (.aload_n 0) 1 11 := ⟨by decide +kernel, rfl⟩
theorem nX6_harvest_11 : Nx mX6_harvest 11 (.getfield 37) 3 14 := ⟨by decide +kernel, rfl⟩
theorem nX6_harvest_14 : Nx mX6_harvest 14 (.invokevirtual 191) 3 17 := ⟨by decide +kernel, rfl⟩
theorem nX6_harvest_17 : Nx mX6_harvest 17 (.ireturn) 1 18 := ⟨by decide +kernel, rfl⟩
theorem nX6_undo_0 : Nx mX6_undo 0 (.aload_n 0) 1 1 := ⟨by decide +kernel, rfl⟩
theorem nX6_undo_1 : Nx mX6_undo 1 (.iconst 0) 1 2 := ⟨by decide +kernel, rfl⟩
theorem nX6_undo_2 : Nx mX6_undo 2 (.putfield 68) 3 5 := ⟨by decide +kernel, rfl⟩
theorem nX6_undo_5 : Nx mX6_undo 5 (.aload_n 0) 1 6 := ⟨by decide +kernel, rfl⟩
theorem nX6_undo_6 : Nx mX6_undo 6 (.getfield 114) 3 9 := ⟨by decide +kernel, rfl⟩
theorem nX6_undo_9 : Nx mX6_undo 9 (.ifCond .ne 6) 3 12 := ⟨by decide +kernel, rfl⟩
theorem nX6_undo_12 : Nx mX6_undo 12 (.bipush (-3)) 2 14 := ⟨by decide +kernel, rfl⟩
theorem nX6_undo_14 : Nx mX6_undo 14 (.ireturn) 1 15 := ⟨by decide +kernel, rfl⟩
theorem nX6_undo_15 : Nx mX6_undo 15 (.aload_n 0) 1 16 := ⟨by decide +kernel, rfl⟩
theorem nX6_undo_16 : Nx mX6_undo 16 (.dup) 1 17 := ⟨by decide +kernel, rfl⟩
theorem nX6_undo_17 : Nx mX6_undo 17 (.getfield 114) 3 20 := ⟨by decide +kernel, rfl⟩
theorem nX6_undo_20 : Nx mX6_undo 20 (.iconst 1) 1 21 := ⟨by decide +kernel, rfl⟩
theorem nX6_undo_21 : Nx mX6_undo 21 (.isub) 1 22 := ⟨by decide +kernel, rfl⟩
theorem nX6_undo_22 : Nx mX6_undo 22 (.putfield 114) 3 25 := ⟨by decide +kernel, rfl⟩
theorem nX6_undo_25 : Nx mX6_undo 25 (.iconst 0) 1 26 := ⟨by decide +kernel, rfl⟩
theorem nX6_undo_26 : Nx mX6_undo 26 (.istore_n 1) 1 27 := ⟨by decide +kernel, rfl⟩
theorem nX6_undo_27 : Nx mX6_undo 27 (.iload_n 1) 1 28 := ⟨by decide +kernel, rfl⟩
theorem nX6_undo_28 : Nx mX6_undo 28 (.bipush 29) 2 30 := ⟨by decide +kernel, rfl⟩
theorem nX6_undo_30 : Nx mX6_undo 30 (.if_icmp .ge 29) 3 33 := ⟨by decide +kernel, rfl⟩
theorem nX6_undo_33 : Nx mX6_undo 33 (.aload_n 0) 1 34 := ⟨by decide +kernel, rfl⟩
theorem nX6_undo_34 : Nx mX6_undo 34 (.getfield 37) 3 37 := ⟨by decide +kernel, rfl⟩
theorem nX6_undo_37 : Nx mX6_undo 37 (.iload_n 1) 1 38 := ⟨by decide +kernel, rfl⟩
theorem nX6_undo_38 : Nx mX6_undo 38 (.aload_n 0) 1 39 := ⟨by decide +kernel, rfl⟩
theorem nX6_undo_39 : Nx mX6_undo 39 (.getfield 43) 3 42 := ⟨by decide +kernel, rfl⟩
theorem nX6_undo_42 : Nx mX6_undo 42 (.bipush 29) 2 44 := ⟨by decide +kernel, rfl⟩
theorem nX6_undo_44 : Nx mX6_undo 44 (.aload_n 0) 1 45 := ⟨by decide +kernel, rfl⟩
theorem nX6_undo_45 : Nx mX6_undo 45 (.getfield 114) 3 48 := ⟨by decide +kernel, rfl⟩
theorem nX6_undo_48 : Nx mX6_undo 48 (.imul) 1 49 := ⟨by decide +kernel, rfl⟩
theorem nX6_undo_49 : Nx mX6_undo 49 (.iload_n 1) 1 50 := ⟨by decide +kernel, rfl⟩
theorem nX6_undo_50 : Nx mX6_undo 50 (.iadd) 1 51 := ⟨by decide +kernel, rfl⟩
theorem nX6_undo_51 : Nx mX6_undo 51 (.iaload) 1 52 := ⟨by decide +kernel, rfl⟩
theorem nX6_undo_52 : Nx mX6_undo 52 (.iastore) 1 53 := ⟨by decide +kernel, rfl⟩
theorem nX6_undo_53 : Nx mX6_undo 53 (.iinc 1 1) 3 56 := ⟨by decide +kernel, rfl⟩
theorem nX6_undo_56 : Nx mX6_undo 56 (.goto (-29)) 3 59 := ⟨by decide +kernel, rfl⟩
theorem nX6_undo_59 : Nx mX6_undo 59 (.aload_n 0) 1 60 := ⟨by decide +kernel, rfl⟩
theorem nX6_undo_60 : Nx mX6_undo 60 (.getfield 114) 3 63 := ⟨by decide +kernel, rfl⟩
theorem nX6_undo_63 : Nx mX6_undo 63 (.ireturn) 1 64 := ⟨by decide +kernel, rfl⟩
theorem nX6_ahead_0 : Nx mX6_ahead 0 (.aload_n 0) 1 1 := ⟨by decide +kernel, rfl⟩
theorem nX6_ahead_1 : Nx mX6_ahead 1 (.iconst 0) 1 2 := ⟨by decide +kernel, rfl⟩
theorem nX6_ahead_2 : Nx mX6_ahead 2 (.putfield 68) 3 5 := ⟨by decide +kernel, rfl⟩
theorem nX6_ahead_5 : Nx mX6_ahead 5 (.aload_n 0) 1 6 := ⟨by decide +kernel, rfl⟩
theorem nX6_ahead_6 : Nx mX6_ahead 6 (.iload_n 1) 1 7 := ⟨by decide +kernel, rfl⟩
theorem nX6_ahead_7 : Nx mX6_ahead 7 (.invokevirtual 167) 3 10 := ⟨by decide +kernel, rfl⟩
theorem nX6_ahead_10 : Nx mX6_ahead 10 (.ifCond .eq 5) 3 13 := ⟨by decide +kernel, rfl⟩
theorem nX6_ahead_13 : Nx mX6_ahead 13 (.iconst (-1)) 1 14 := ⟨by decide +kernel, rfl⟩
theorem nX6_ahead_14 : Nx mX6_ahead 14 (.ireturn) 1 15 := ⟨by decide +kernel, rfl⟩
theorem nX6_ahead_15 : Nx mX6_ahead 15 (.iload_n 2) 1 16 := ⟨by decide +kernel, rfl⟩
theorem nX6_ahead_16 : Nx mX6_ahead 16 (.i2l) 1 17 := ⟨by decide +kernel, rfl⟩
theorem nX6_ahead_17 : Nx mX6_ahead 17 (.lconst 0) 1 18 := ⟨by decide +kernel, rfl⟩
theorem nX6_ahead_18 : Nx mX6_ahead 18 (.ldc2_w 194) 3 21 := ⟨by decide +kernel, rfl⟩
theorem nX6_ahead_21 : Nx mX6_ahead 21 (.invokestatic 75) 3 24 := ⟨by decide +kernel, rfl⟩
theorem nX6_ahead_24 : Nx mX6_ahead 24 (.ifCond .ne 6) 3 27 := ⟨by decide +kernel, rfl⟩
theorem nX6_ahead_27 : Nx mX6_ahead 27 (.bipush (-2)) 2 29 := ⟨by decide +kernel, rfl⟩
theorem nX6_ahead_29 : Nx mX6_ahead 29 (.ireturn) 1 30 := ⟨by decide +kernel, rfl⟩
theorem nX6_ahead_30 : Nx mX6_ahead 30 (.aload_n 0) 1 31 := ⟨by decide +kernel, rfl⟩
theorem nX6_ahead_31 : Nx mX6_ahead 31 (.invokevirtual 152) 3 34 := ⟨by decide +kernel, rfl⟩
theorem nX6_ahead_34 : Nx mX6_ahead 34 (.iconst 0) 1 35 := ⟨by decide +kernel, rfl⟩
theorem nX6_ahead_35 : Nx mX6_ahead 35 (.istore_n 3) 1 36 := ⟨by decide +kernel, rfl⟩
theorem nX6_ahead_36 : Nx mX6_ahead 36 (.iload_n 3) 1 37 := ⟨by decide +kernel, rfl⟩
theorem nX6_ahead_37 : Nx mX6_ahead 37 (.iload_n 2) 1 38 := ⟨by decide +kernel, rfl⟩
theorem nX6_ahead_38 : Nx mX6_ahead 38 (.if_icmp .ge 29) 3 41 := ⟨by decide +kernel, rfl⟩
theorem nX6_ahead_41 : Nx mX6_ahead 41 (.aload_n 0) 1 42 := ⟨by decide +kernel, rfl⟩
theorem nX6_ahead_42 : Nx mX6_ahead 42 (.aload_n 0) 1 43 := ⟨by decide +kernel, rfl⟩
theorem nX6_ahead_43 : Nx mX6_ahead 43 (.getfield 40) 3 46 := ⟨by decide +kernel, rfl⟩
theorem nX6_ahead_46 : Nx mX6_ahead 46 (.bipush 31) 2 48 := ⟨by decide +kernel, rfl⟩
theorem nX6_ahead_48 : Nx mX6_ahead 48 (.invokevirtual 155) 3 51 := ⟨by decide +kernel, rfl⟩
theorem nX6_ahead_51 : Nx mX6_ahead 51 (.pop) 1 52 := ⟨by decide +kernel, rfl⟩
theorem nX6_ahead_52 : Nx mX6_ahead 52 (.aload_n 0) 1 53 := ⟨by decide +kernel, rfl⟩
theorem nX6_ahead_53 : Nx mX6_ahead 53 (.aload_n 0) 1 54 := ⟨by decide +kernel, rfl⟩
theorem nX6_ahead_54 : Nx mX6_ahead 54 (.getfield 40) 3 57 := ⟨by decide +kernel, rfl⟩
theorem nX6_ahead_57 : Nx mX6_ahead 57 (.invokevirtual 191) 3 60 := ⟨by decide +kernel, rfl⟩
theorem nX6_ahead_60 : Nx mX6_ahead 60 (.pop) 1 61 := ⟨by decide +kernel, rfl⟩
theorem nX6_ahead_61 : Nx mX6_ahead 61 (.iinc 3 1) 3 64 := ⟨by decide +kernel, rfl⟩
theorem nX6_ahead_64 : Nx mX6_ahead 64 (.goto (-28)) 3 67 := ⟨by decide +kernel, rfl⟩
theorem nX6_ahead_67 : Nx mX6_ahead 67 (.aload_n 0) 1 68 := ⟨by decide +kernel, rfl⟩
theorem nX6_ahead_68 : Nx mX6_ahead 68 (.getfield 40) 3 71 := ⟨by decide +kernel, rfl⟩
theorem nX6_ahead_71 : Nx mX6_ahead 71 (.iload_n 1) 1 72 := ⟨by decide +kernel, rfl⟩
theorem nX6_ahead_72 : Nx mX6_ahead 72 (.iaload) 1 73 := ⟨by decide +kernel, rfl⟩
theorem nX6_ahead_73 : Nx mX6_ahead 73 (.ireturn) 1 74 := ⟨by decide +kernel, rfl⟩
theorem nX6_isSownBy_0 : Nx mX6_isSownBy 0 (.aload_n 0) 1 1 := ⟨by decide +kernel, rfl⟩
theorem nX6_isSownBy_1 : Nx mX6_isSownBy 1 (.invokevirtual 152) 3 4 := ⟨by decide +kernel, rfl⟩
theorem nX6_isSownBy_4 : Nx mX6_isSownBy 4 (.iconst 0) 1 5 := ⟨by decide +kernel, rfl⟩
theorem nX6_isSownBy_5 : Nx mX6_isSownBy 5 (.istore_n 3) 1 6 := ⟨by decide +kernel, rfl⟩
theorem nX6_isSownBy_6 : Nx mX6_isSownBy 6 (.iload_n 3) 1 7 := ⟨by decide +kernel, rfl⟩
theorem nX6_isSownBy_7 : Nx mX6_isSownBy 7 (.aload_n 0) 1 8 := ⟨by decide +kernel, rfl⟩
theorem nX6_isSownBy_8 : Nx mX6_isSownBy 8 (.getfield 79) 3 11 := ⟨by decide +kernel, rfl⟩
theorem nX6_isSownBy_11 : Nx mX6_isSownBy 11 (.if_icmp .ge 42) 3 14 := ⟨by decide +kernel, rfl⟩
theorem nX6_isSownBy_14 : Nx mX6_isSownBy 14 (.iload_n 1) 1 15 := ⟨by decide +kernel, rfl⟩
theorem nX6_isSownBy_15 : Nx mX6_isSownBy 15 (.iload_n 3) 1 16 := ⟨by decide +kernel, rfl⟩
theorem nX6_isSownBy_16 : Nx mX6_isSownBy 16 (.invokestatic 134) 3 19 := ⟨by decide +kernel, rfl⟩
theorem nX6_isSownBy_19 : Nx mX6_isSownBy 19 (.ifCond .eq 28) 3 22 := ⟨by decide +kernel, rfl⟩
theorem nX6_isSownBy_22 : Nx mX6_isSownBy 22 (.aload_n 0) 1 23 := ⟨by decide +kernel, rfl⟩
theorem nX6_isSownBy_23 : Nx mX6_isSownBy 23 (.aload_n 0) 1 24 := ⟨by decide +kernel, rfl⟩
theorem nX6_isSownBy_24 : Nx mX6_isSownBy 24 (.getfield 40) 3 27 := ⟨by decide +kernel, rfl⟩
theorem nX6_isSownBy_27 : Nx mX6_isSownBy 27 (.iload_n 3) 1 28 := ⟨by decide +kernel, rfl⟩
theorem nX6_isSownBy_28 : Nx mX6_isSownBy 28 (.iload_n 2) 1 29 := ⟨by decide +kernel, rfl⟩
theorem nX6_isSownBy_29 : Nx mX6_isSownBy 29 (.invokevirtual 180) 3 32 := ⟨by decide +kernel, rfl⟩
theorem nX6_isSownBy_32 : Nx mX6_isSownBy 32 (.ifCond .ne 5) 3 35 := ⟨by decide +kernel, rfl⟩
theorem nX6_isSownBy_35 : Nx mX6_isSownBy 35 (.iconst 0) 1 36 := ⟨by decide +kernel, rfl⟩
theorem nX6_isSownBy_36 : Nx mX6_isSownBy 36 (.ireturn) 1 37 := ⟨by decide +kernel, rfl⟩
theorem nX6_isSownBy_37 : Nx mX6_isSownBy 37 (.aload_n 0) 1 38 := ⟨by decide +kernel, rfl⟩
theorem nX6_isSownBy_38 : Nx mX6_isSownBy 38 (.aload_n 0) 1 39 := ⟨by decide +kernel, rfl⟩
theorem nX6_isSownBy_39 : Nx mX6_isSownBy 39 (.getfield 40) 3 42 := ⟨by decide +kernel, rfl⟩
theorem nX6_isSownBy_42 : Nx mX6_isSownBy 42 (.iload_n 3) 1 43 := ⟨by decide +kernel, rfl⟩
theorem nX6_isSownBy_43 : Nx mX6_isSownBy 43 (.iload_n 2) 1 44 := ⟨by decide +kernel, rfl⟩
theorem nX6_isSownBy_44 : Nx mX6_isSownBy 44 (.invokevirtual 187) 3 47 := ⟨by decide +kernel, rfl⟩
theorem nX6_isSownBy_47 : Nx mX6_isSownBy 47 (.iinc 3 1) 3 50 := ⟨by decide +kernel, rfl⟩
theorem nX6_isSownBy_50 : Nx mX6_isSownBy 50 (.goto (-44)) 3 53 := ⟨by decide +kernel, rfl⟩
theorem nX6_isSownBy_53 : Nx mX6_isSownBy 53 (.aload_n 0) 1 54 := ⟨by decide +kernel, rfl⟩
theorem nX6_isSownBy_54 : Nx mX6_isSownBy 54 (.aload_n 0) 1 55 := ⟨by decide +kernel, rfl⟩
theorem nX6_isSownBy_55 : Nx mX6_isSownBy 55 (.getfield 40) 3 58 := ⟨by decide +kernel, rfl⟩
theorem nX6_isSownBy_58 : Nx mX6_isSownBy 58 (.bipush 31) 2 60 := ⟨by decide +kernel, rfl⟩
theorem nX6_isSownBy_60 : Nx mX6_isSownBy 60 (.invokevirtual 155) 3 63 := ⟨by decide +kernel, rfl⟩
theorem nX6_isSownBy_63 : Nx mX6_isSownBy 63 (.iload_n 2) 1 64 := ⟨by decide +kernel, rfl⟩
theorem nX6_isSownBy_64 : Nx mX6_isSownBy 64 (.invokestatic 134) 3 67 := ⟨by decide +kernel, rfl⟩
theorem nX6_isSownBy_67 : Nx mX6_isSownBy 67 (.ireturn) 1 68 := ⟨by decide +kernel, rfl⟩
theorem nX6_wants_0 : Nx mX6_wants 0 (.aload_n 0) 1 1 := ⟨by decide +kernel, rfl⟩
theorem nX6_wants_1 : Nx mX6_wants 1 (.iconst 0) 1 2 := ⟨by decide +kernel, rfl⟩
theorem nX6_wants_2 : Nx mX6_wants 2 (.putfield 68) 3 5 := ⟨by decide +kernel, rfl⟩
theorem nX6_wants_5 : Nx mX6_wants 5 (.aload_n 0) 1 6 := ⟨by decide +kernel, rfl⟩
theorem nX6_wants_6 : Nx mX6_wants 6 (.iload_n 1) 1 7 := ⟨by decide +kernel, rfl⟩
theorem nX6_wants_7 : Nx mX6_wants 7 (.invokevirtual 167) 3 10 := ⟨by decide +kernel, rfl⟩
theorem nX6_wants_10 : Nx mX6_wants 10 (.ifCond .eq 5) 3 13 := ⟨by decide +kernel, rfl⟩
theorem nX6_wants_13 : Nx mX6_wants 13 (.iconst (-1)) 1 14 := ⟨by decide +kernel, rfl⟩
theorem nX6_wants_14 : Nx mX6_wants 14 (.ireturn) 1 15 := ⟨by decide +kernel, rfl⟩
theorem nX6_wants_15 : Nx mX6_wants 15 (.bipush (-9)) 2 17 := ⟨by decide +kernel, rfl⟩
theorem nX6_wants_17 : Nx mX6_wants 17 (.istore_n 2) 1 18 := ⟨by decide +kernel, rfl⟩
theorem nX6_wants_18 : Nx mX6_wants 18 (.iconst 0) 1 19 := ⟨by decide +kernel, rfl⟩
theorem nX6_wants_19 : Nx mX6_wants 19 (.istore_n 3) 1 20 := ⟨by decide +kernel, rfl⟩
theorem nX6_wants_20 : Nx mX6_wants 20 (.iload_n 3) 1 21 := ⟨by decide +kernel, rfl⟩
theorem nX6_wants_21 : Nx mX6_wants 21 (.iconst 1) 1 22 := ⟨by decide +kernel, rfl⟩
theorem nX6_wants_22 : Nx mX6_wants 22 (.aload_n 0) 1 23 := ⟨by decide +kernel, rfl⟩
theorem nX6_wants_23 : Nx mX6_wants 23 (.getfield 79) 3 26 := ⟨by decide +kernel, rfl⟩
theorem nX6_wants_26 : Nx mX6_wants 26 (.ishl) 1 27 := ⟨by decide +kernel, rfl⟩
theorem nX6_wants_27 : Nx mX6_wants 27 (.if_icmp .ge 53) 3 30 := ⟨by decide +kernel, rfl⟩
theorem nX6_wants_30 : Nx mX6_wants 30 (.iload_n 2) 1 31 := ⟨by decide +kernel, rfl⟩
theorem nX6_wants_31 : Nx mX6_wants 31 (.bipush (-9)) 2 33 := ⟨by decide +kernel, rfl⟩
theorem nX6_wants_33 : Nx mX6_wants 33 (.if_icmp .eq 14) 3 36 := ⟨by decide +kernel, rfl⟩
theorem nX6_wants_36 : Nx mX6_wants 36 (.iload_n 3) 1 37 := ⟨by decide +kernel, rfl⟩
theorem nX6_wants_37 : Nx mX6_wants 37 (.invokestatic 196) 3 40 := ⟨by decide +kernel, rfl⟩
theorem nX6_wants_40 : Nx mX6_wants 40 (.iload_n 2) 1 41 := ⟨by decide +kernel, rfl⟩
theorem nX6_wants_41 : Nx mX6_wants 41 (.invokestatic 196) 3 44 := ⟨by decide +kernel, rfl⟩
theorem nX6_wants_44 : Nx mX6_wants 44 (.if_icmp .ge 7) 3 47 := ⟨by decide +kernel, rfl⟩
theorem nX6_wants_47 : Nx mX6_wants 47 (.iconst 1) 1 48 := ⟨by decide +kernel, rfl⟩
theorem nX6_wants_48 : Nx mX6_wants 48 (.goto 4) 3 51 := ⟨by decide +kernel, rfl⟩
theorem nX6_wants_51 : Nx mX6_wants 51 (.iconst 0) 1 52 := ⟨by decide +kernel, rfl⟩
theorem nX6_wants_52 : Nx mX6_wants 52 (.istore 4) 2 54 := ⟨by decide +kernel, rfl⟩
theorem nX6_wants_54 : Nx mX6_wants 54 (.iload 4) 2 56 := ⟨by decide +kernel, rfl⟩
theorem nX6_wants_56 : Nx mX6_wants 56 (.ifCond .eq 16) 3 59 := ⟨by decide +kernel, rfl⟩
theorem nX6_wants_59 : Nx mX6_wants 59 (.aload_n 0) 1 60 := ⟨by decide +kernel, rfl⟩
theorem nX6_wants_60 : Nx mX6_wants 60 (.iload_n 3) 1 61 := ⟨by decide +kernel, rfl⟩
theorem nX6_wants_61 : Nx mX6_wants 61 (.iload_n 1) 1 62 := ⟨by decide +kernel, rfl⟩
theorem nX6_wants_62 : Nx mX6_wants 62 (.invokevirtual 199) 3 65 := ⟨by decide +kernel, rfl⟩
theorem nX6_wants_65 : Nx mX6_wants 65 (.ifCond .eq 7) 3 68 := ⟨by decide +kernel, rfl⟩
theorem nX6_wants_68 : Nx mX6_wants 68 (.iload_n 3) 1 69 := ⟨by decide +kernel, rfl⟩
theorem nX6_wants_69 : Nx mX6_wants 69 (.goto 4) 3 72 := ⟨by decide +kernel, rfl⟩
theorem nX6_wants_72 : Nx mX6_wants 72 (.iload_n 2) 1 73 := ⟨by decide +kernel, rfl⟩
theorem nX6_wants_73 : Nx mX6_wants 73 (.istore_n 2) 1 74 := ⟨by decide +kernel, rfl⟩
theorem nX6_wants_74 : Nx mX6_wants 74 (.iinc 3 1) 3 77 := ⟨by decide +kernel, rfl⟩
theorem nX6_wants_77 : Nx mX6_wants 77 (.goto (-57)) 3 80 := ⟨by decide +kernel, rfl⟩
theorem nX6_wants_80 : Nx mX6_wants 80 (.iload_n 2) 1 81 := ⟨by decide +kernel, rfl⟩
theorem nX6_wants_81 : Nx mX6_wants 81 (.ireturn) 1 82 := ⟨by decide +kernel, rfl⟩
theorem nX6_rid_0 : Nx mX6_rid 0 (.aload_n 0) 1 1 := ⟨by decide +kernel, rfl⟩
theorem nX6_rid_1 : Nx mX6_rid 1 (.iconst 0) 1 2 := ⟨by decide +kernel, rfl⟩
theorem nX6_rid_2 : Nx mX6_rid 2 (.putfield 68) 3 5 := ⟨by decide +kernel, rfl⟩
theorem nX6_rid_5 : Nx mX6_rid 5 (.aload_n 0) 1 6 := ⟨by decide +kernel, rfl⟩
theorem nX6_rid_6 : Nx mX6_rid 6 (.iload_n 1) 1 7 := ⟨by decide +kernel, rfl⟩
theorem nX6_rid_7 : Nx mX6_rid 7 (.invokevirtual 174) 3 10 := ⟨by decide +kernel, rfl⟩
theorem nX6_rid_10 : Nx mX6_rid 10 (.ifCond .eq 5) 3 13 := ⟨by decide +kernel, rfl⟩
theorem nX6_rid_13 : Nx mX6_rid 13 (.iconst (-1)) 1 14 := ⟨by decide +kernel, rfl⟩
theorem nX6_rid_14 : Nx mX6_rid 14 (.ireturn) 1 15 := ⟨by decide +kernel, rfl⟩
theorem nX6_rid_15 : Nx mX6_rid 15 (.aload_n 0) 1 16 := ⟨by decide +kernel, rfl⟩
theorem nX6_rid_16 : Nx mX6_rid 16 (.getfield 28) 3 19 := ⟨by decide +kernel, rfl⟩
theorem nX6_rid_19 : Nx mX6_rid 19 (.iload_n 1) 1 20 := ⟨by decide +kernel, rfl⟩
theorem nX6_rid_20 : Nx mX6_rid 20 (.iaload) 1 21 := ⟨by decide +kernel, rfl⟩
theorem nX6_rid_21 : Nx mX6_rid 21 (.iconst 1) 1 22 := ⟨by decide +kernel, rfl⟩
theorem nX6_rid_22 : Nx mX6_rid 22 (.if_icmp .ne 5) 3 25 := ⟨by decide +kernel, rfl⟩
theorem nX6_rid_25 : Nx mX6_rid 25 (.iconst 0) 1 26 := ⟨by decide +kernel, rfl⟩
theorem nX6_rid_26 : Nx mX6_rid 26 (.ireturn) 1 27 := ⟨by decide +kernel, rfl⟩
theorem nX6_rid_27 : Nx mX6_rid 27 (.aload_n 0) 1 28 := ⟨by decide +kernel, rfl⟩
theorem nX6_rid_28 : Nx mX6_rid 28 (.invokevirtual 152) 3 31 := ⟨by decide +kernel, rfl⟩
theorem nX6_rid_31 : Nx mX6_rid 31 (.aload_n 0) 1 32 := ⟨by decide +kernel, rfl⟩
theorem nX6_rid_32 : Nx mX6_rid 32 (.aload_n 0) 1 33 := ⟨by decide +kernel, rfl⟩
theorem nX6_rid_33 : Nx mX6_rid 33 (.getfield 40) 3 36 := ⟨by decide +kernel, rfl⟩
theorem nX6_rid_36 : Nx mX6_rid 36 (.iload_n 1) 1 37 := ⟨by decide +kernel, rfl⟩
theorem nX6_rid_37 : Nx mX6_rid 37 (.sipush 1000) 3 40 := ⟨by decide +kernel, rfl⟩
theorem nX6_rid_40 : Nx mX6_rid 40 (.invokevirtual 138) 3 43 := ⟨by decide +kernel, rfl⟩
theorem nX6_rid_43 : Nx mX6_rid 43 (.pop) 1 44 := ⟨by decide +kernel, rfl⟩
theorem nX6_rid_44 : Nx mX6_rid 44 (.aload_n 0) 1 45 := ⟨by decide +kernel, rfl⟩
theorem nX6_rid_45 : Nx mX6_rid 45 (.getfield 124) 3 48 := ⟨by decide +kernel, rfl⟩
theorem nX6_rid_48 : Nx mX6_rid 48 (.ireturn) 1 49 := ⟨by decide +kernel, rfl⟩
theorem nX6_longPower_0 : Nx mX6_longPower 0 (.lconst 1) 1 1 := ⟨by decide +kernel, rfl⟩
theorem nX6_longPower_1 : Nx mX6_longPower 1 (.lstore_n 3) 1 2 := ⟨by decide +kernel, rfl⟩
theorem nX6_longPower_2 : Nx mX6_longPower 2 (.iconst 0) 1 3 := ⟨by decide +kernel, rfl⟩
theorem nX6_longPower_3 : Nx mX6_longPower 3 (.istore 5) 2 5 := ⟨by decide +kernel, rfl⟩
theorem nX6_longPower_5 : Nx mX6_longPower 5 (.iload 5) 2 7 := ⟨by decide +kernel, rfl⟩
theorem nX6_longPower_7 : Nx mX6_longPower 7 (.iload_n 2) 1 8 := ⟨by decide +kernel, rfl⟩
theorem nX6_longPower_8 : Nx mX6_longPower 8 (.if_icmp .ge 13) 3 11 := ⟨by decide +kernel, rfl⟩
theorem nX6_longPower_11 : Nx mX6_longPower 11 (.lload_n 3) 1 12 := ⟨by decide +kernel, rfl⟩
theorem nX6_longPower_12 : Nx mX6_longPower 12 (.lload_n 0) 1 13 := ⟨by decide +kernel, rfl⟩
theorem nX6_longPower_13 : Nx mX6_longPower 13 (.lmul) 1 14 := ⟨by decide +kernel, rfl⟩
theorem nX6_longPower_14 : Nx mX6_longPower 14 (.lstore_n 3) 1 15 := ⟨by decide +kernel, rfl⟩
theorem nX6_longPower_15 : Nx mX6_longPower 15 (.iinc 5 1) 3 18 := ⟨by decide +kernel, rfl⟩
theorem nX6_longPower_18 : Nx mX6_longPower 18 (.goto (-13)) 3 21 := ⟨by decide +kernel, rfl⟩
theorem nX6_longPower_21 : Nx mX6_longPower 21 (.lload_n 3) 1 22 := ⟨by decide +kernel, rfl⟩
theorem nX6_longPower_22 : Nx mX6_longPower 22 (.lreturn) 1 23 := ⟨by decide +kernel, rfl⟩
theorem nX6_eats_0 : Nx mX6_eats 0 (.aload_n 0) 1 1 := ⟨by decide +kernel, rfl⟩
theorem nX6_eats_1 : Nx mX6_eats 1 (.iload_n 1) 1 2 := ⟨by decide +kernel, rfl⟩
theorem nX6_eats_2 : Nx mX6_eats 2 (.invokevirtual 174) 3 5 := ⟨by decide +kernel, rfl⟩
theorem nX6_eats_5 : Nx mX6_eats 5 (.ifCond .ne 28) 3 8 := ⟨by decide +kernel, rfl⟩
theorem nX6_eats_8 : Nx mX6_eats 8 (.aload_n 0) 1 9 := ⟨by decide +kernel, rfl⟩
theorem nX6_eats_9 : Nx mX6_eats 9 (.iload_n 2) 1 10 := ⟨by decide +kernel, rfl⟩
theorem nX6_eats_10 : Nx mX6_eats 10 (.invokevirtual 167) 3 13 := ⟨by decide +kernel, rfl⟩
theorem nX6_eats_13 : Nx mX6_eats 13 (.ifCond .ne 20) 3 16 := ⟨by decide +kernel, rfl⟩
theorem nX6_eats_16 : Nx mX6_eats 16 (.aload_n 0) 1 17 := ⟨by decide +kernel, rfl⟩
theorem nX6_eats_17 : Nx mX6_eats 17 (.aload_n 0) 1 18 := ⟨by decide +kernel, rfl⟩
theorem nX6_eats_18 : Nx mX6_eats 18 (.getfield 40) 3 21 := ⟨by decide +kernel, rfl⟩
theorem nX6_eats_21 : Nx mX6_eats 21 (.iload_n 1) 1 22 := ⟨by decide +kernel, rfl⟩
theorem nX6_eats_22 : Nx mX6_eats 22 (.iload_n 2) 1 23 := ⟨by decide +kernel, rfl⟩
theorem nX6_eats_23 : Nx mX6_eats 23 (.invokevirtual 180) 3 26 := ⟨by decide +kernel, rfl⟩
theorem nX6_eats_26 : Nx mX6_eats 26 (.ifCond .eq 7) 3 29 := ⟨by decide +kernel, rfl⟩
theorem nX6_eats_29 : Nx mX6_eats 29 (.iconst 1) 1 30 := ⟨by decide +kernel, rfl⟩
theorem nX6_eats_30 : Nx mX6_eats 30 (.goto 4) 3 33 := ⟨by decide +kernel, rfl⟩
theorem nX6_eats_33 : Nx mX6_eats 33 (.iconst 0) 1 34 := ⟨by decide +kernel, rfl⟩
theorem nX6_eats_34 : Nx mX6_eats 34 (.istore_n 3) 1 35 := ⟨by decide +kernel, rfl⟩
theorem nX6_eats_35 : Nx mX6_eats 35 (.iload_n 3) 1 36 := ⟨by decide +kernel, rfl⟩
theorem nX6_eats_36 : Nx mX6_eats 36 (.ifCond .eq 13) 3 39 := ⟨by decide +kernel, rfl⟩
theorem nX6_eats_39 : Nx mX6_eats 39 (.aload_n 0) 1 40 := ⟨by decide +kernel, rfl⟩
theorem nX6_eats_40 : Nx mX6_eats 40 (.aload_n 0) 1 41 := ⟨by decide +kernel, rfl⟩
theorem nX6_eats_41 : Nx mX6_eats 41 (.getfield 40) 3 44 := ⟨by decide +kernel, rfl⟩
theorem nX6_eats_44 : Nx mX6_eats 44 (.iload_n 1) 1 45 := ⟨by decide +kernel, rfl⟩
theorem nX6_eats_45 : Nx mX6_eats 45 (.iload_n 2) 1 46 := ⟨by decide +kernel, rfl⟩
theorem nX6_eats_46 : Nx mX6_eats 46 (.invokevirtual 187) 3 49 := ⟨by decide +kernel, rfl⟩
theorem nX6_eats_49 : Nx mX6_eats 49 (.iload_n 3) 1 50 := ⟨by decide +kernel, rfl⟩
theorem nX6_eats_50 : Nx mX6_eats 50 (.ireturn) 1 51 := ⟨by decide +kernel, rfl⟩
theorem nX6_does_0 : Nx mX6_does 0 (.iload_n 1) 1 1 := ⟨by decide +kernel, rfl⟩
theorem nX6_does_1 : Nx mX6_does 1 (.bipush 100) 2 3 := ⟨by decide +kernel, rfl⟩
theorem nX6_does_3 : Nx mX6_does 3 (.idiv) 1 4 := ⟨by decide +kernel, rfl⟩
theorem nX6_does_4 : Nx mX6_does 4 (.istore_n 2) 1 5 := ⟨by decide +kernel, rfl⟩
theorem nX6_does_5 : Nx mX6_does 5 (.iload_n 1) 1 6 := ⟨by decide +kernel, rfl⟩
theorem nX6_does_6 : Nx mX6_does 6 (.bipush 10) 2 8 := ⟨by decide +kernel, rfl⟩
theorem nX6_does_8 : Nx mX6_does 8 (.idiv) 1 9 := ⟨by decide +kernel, rfl⟩
theorem nX6_does_9 : Nx mX6_does 9 (.bipush 10) 2 11 := ⟨by decide +kernel, rfl⟩
theorem nX6_does_11 : Nx mX6_does 11 (.irem) 1 12 := ⟨by decide +kernel, rfl⟩
theorem nX6_does_12 : Nx mX6_does 12 (.istore_n 3) 1 13 := ⟨by decide +kernel, rfl⟩
theorem nX6_does_13 : Nx mX6_does 13 (.iload_n 1) 1 14 := ⟨by decide +kernel, rfl⟩
theorem nX6_does_14 : Nx mX6_does 14 (.bipush 10) 2 16 := ⟨by decide +kernel, rfl⟩
theorem nX6_does_16 : Nx mX6_does 16 (.irem) 1 17 := ⟨by decide +kernel, rfl⟩
theorem nX6_does_17 : Nx mX6_does 17 (.istore 4) 2 19 := ⟨by decide +kernel, rfl⟩
theorem nX6_does_19 : Nx mX6_does 19 (.iload_n 1) 1 20 := ⟨by decide +kernel, rfl⟩
theorem nX6_does_20 : Nx mX6_does 20 (.ifCond .ne 16) 3 23 := ⟨by decide +kernel, rfl⟩
theorem nX6_does_23 : Nx mX6_does 23 (.aload_n 0) 1 24 := ⟨by decide +kernel, rfl⟩
theorem nX6_does_24 : Nx mX6_does 24 (.aload_n 0) 1 25 := ⟨by decide +kernel, rfl⟩
theorem nX6_does_25 : Nx mX6_does 25 (.getfield 40) 3 28 := ⟨by decide +kernel, rfl⟩
theorem nX6_does_28 : Nx mX6_does 28 (.bipush 31) 2 30 := ⟨by decide +kernel, rfl⟩
theorem nX6_does_30 : Nx mX6_does 30 (.invokevirtual 155) 3 33 := ⟨by decide +kernel, rfl⟩
theorem nX6_does_33 : Nx mX6_does 33 (.pop) 1 34 := ⟨by decide +kernel, rfl⟩
theorem nX6_does_34 : Nx mX6_does 34 (.iconst 1) 1 35 := ⟨by decide +kernel, rfl⟩
theorem nX6_does_35 : Nx mX6_does 35 (.ireturn) 1 36 := ⟨by decide +kernel, rfl⟩
theorem nX6_does_36 : Nx mX6_does 36 (.iload_n 1) 1 37 := ⟨by decide +kernel, rfl⟩
theorem nX6_does_37 : Nx mX6_does 37 (.bipush 100) 2 39 := ⟨by decide +kernel, rfl⟩
theorem nX6_does_39 : Nx mX6_does 39 (.if_icmp .ne 14) 3 42 := ⟨by decide +kernel, rfl⟩
theorem nX6_does_42 : Nx mX6_does 42 (.aload_n 0) 1 43 := ⟨by decide +kernel, rfl⟩
theorem nX6_does_43 : Nx mX6_does 43 (.aload_n 0) 1 44 := ⟨by decide +kernel, rfl⟩
theorem nX6_does_44 : Nx mX6_does 44 (.getfield 40) 3 47 := ⟨by decide +kernel, rfl⟩
theorem nX6_does_47 : Nx mX6_does 47 (.invokevirtual 191) 3 50 := ⟨by decide +kernel, rfl⟩
theorem nX6_does_50 : Nx mX6_does 50 (.pop) 1 51 := ⟨by decide +kernel, rfl⟩
theorem nX6_does_51 : Nx mX6_does 51 (.iconst 1) 1 52 := ⟨by decide +kernel, rfl⟩
theorem nX6_does_52 : Nx mX6_does 52 (.ireturn) 1 53 := ⟨by decide +kernel, rfl⟩
theorem nX6_does_53 : Nx mX6_does 53 (.iload_n 2) 1 54 := ⟨by decide +kernel, rfl⟩
theorem nX6_does_54 : Nx mX6_does 54 (.tableswitch 94 2 4 #[26, 34, 69]) 26 80 := ⟨by decide +kernel, rfl⟩
theorem nX6_does_80 : Nx mX6_does 80 (.aload_n 0) 1 81 := ⟨by decide +kernel, rfl⟩
theorem nX6_does_81 : Nx mX6_does 81 (.iload_n 3) 1 82 := ⟨by decide +kernel, rfl⟩
theorem nX6_does_82 : Nx mX6_does 82 (.iload 4) 2 84 := ⟨by decide +kernel, rfl⟩
theorem nX6_does_84 : Nx mX6_does 84 (.invokevirtual 202) 3 87 := ⟨by decide +kernel, rfl⟩
theorem nX6_does_87 : Nx mX6_does 87 (.ireturn) 1 88 := ⟨by decide +kernel, rfl⟩
theorem nX6_does_88 : Nx mX6_does 88 (.iload_n 3) 1 89 := ⟨by decide +kernel, rfl⟩
theorem nX6_does_89 : Nx mX6_does 89 (.ifCond .ne 32) 3 92 := ⟨by decide +kernel, rfl⟩
theorem nX6_does_92 : Nx mX6_does 92 (.aload_n 0) 1 93 := ⟨by decide +kernel, rfl⟩
theorem nX6_does_93 : Nx mX6_does 93 (.iload 4) 2 95 := ⟨by decide +kernel, rfl⟩
theorem nX6_does_95 : Nx mX6_does 95 (.invokevirtual 167) 3 98 := ⟨by decide +kernel, rfl⟩
theorem nX6_does_98 : Nx mX6_does 98 (.ifCond .ne 23) 3 101 := ⟨by decide +kernel, rfl⟩
theorem nX6_does_101 : Nx mX6_does 101 (.aload_n 0) 1 102 := ⟨by decide +kernel, rfl⟩
theorem nX6_does_102 : Nx mX6_does 102 (.aload_n 0) 1 103 := ⟨by decide +kernel, rfl⟩
theorem nX6_does_103 : Nx mX6_does 103 (.getfield 40) 3 106 := ⟨by decide +kernel, rfl⟩
theorem nX6_does_106 : Nx mX6_does 106 (.invokevirtual 141) 3 109 := ⟨by decide +kernel, rfl⟩
theorem nX6_does_109 : Nx mX6_does 109 (.iload 4) 2 111 := ⟨by decide +kernel, rfl⟩
theorem nX6_does_111 : Nx mX6_does 111 (.invokestatic 134) 3 114 := ⟨by decide +kernel, rfl⟩
theorem nX6_does_114 : Nx mX6_does 114 (.ifCond .eq 7) 3 117 := ⟨by decide +kernel, rfl⟩
theorem nX6_does_117 : Nx mX6_does 117 (.iconst 1) 1 118 := ⟨by decide +kernel, rfl⟩
theorem nX6_does_118 : Nx mX6_does 118 (.goto 4) 3 121 := ⟨by decide +kernel, rfl⟩
theorem nX6_does_121 : Nx mX6_does 121 (.iconst 0) 1 122 := ⟨by decide +kernel, rfl⟩
theorem nX6_does_122 : Nx mX6_does 122 (.ireturn) 1 123 := ⟨by decide +kernel, rfl⟩
theorem nX6_does_123 : Nx mX6_does 123 (.aload_n 0) 1 124 := ⟨by decide +kernel, rfl⟩
theorem nX6_does_124 : Nx mX6_does 124 (.iload_n 3) 1 125 := ⟨by decide +kernel, rfl⟩
theorem nX6_does_125 : Nx mX6_does 125 (.invokevirtual 167) 3 128 := ⟨by decide +kernel, rfl⟩
theorem nX6_does_128 : Nx mX6_does 128 (.ifCond .ne 18) 3 131 := ⟨by decide +kernel, rfl⟩
theorem nX6_does_131 : Nx mX6_does 131 (.aload_n 0) 1 132 := ⟨by decide +kernel, rfl⟩
theorem nX6_does_132 : Nx mX6_does 132 (.getfield 40) 3 135 := ⟨by decide +kernel, rfl⟩
theorem nX6_does_135 : Nx mX6_does 135 (.iload_n 3) 1 136 := ⟨by decide +kernel, rfl⟩
theorem nX6_does_136 : Nx mX6_does 136 (.iaload) 1 137 := ⟨by decide +kernel, rfl⟩
theorem nX6_does_137 : Nx mX6_does 137 (.iload 4) 2 139 := ⟨by decide +kernel, rfl⟩
theorem nX6_does_139 : Nx mX6_does 139 (.if_icmp .lt 7) 3 142 := ⟨by decide +kernel, rfl⟩
theorem nX6_does_142 : Nx mX6_does 142 (.iconst 1) 1 143 := ⟨by decide +kernel, rfl⟩
theorem nX6_does_143 : Nx mX6_does 143 (.goto 4) 3 146 := ⟨by decide +kernel, rfl⟩
theorem nX6_does_146 : Nx mX6_does 146 (.iconst 0) 1 147 := ⟨by decide +kernel, rfl⟩
theorem nX6_does_147 : Nx mX6_does 147 (.ireturn) 1 148 := ⟨by decide +kernel, rfl⟩
theorem nX6_does_148 : Nx mX6_does 148 (.iload_n 2) 1 149 := ⟨by decide +kernel, rfl⟩
theorem nX6_does_149 : Nx mX6_does 149 (.iconst 5) 1 150 := ⟨by decide +kernel, rfl⟩
theorem nX6_does_150 : Nx mX6_does 150 (.if_icmp .ne 37) 3 153 := ⟨by decide +kernel, rfl⟩
theorem nX6_does_153 : Nx mX6_does 153 (.aload_n 0) 1 154 := ⟨by decide +kernel, rfl⟩
theorem nX6_does_154 : Nx mX6_does 154 (.iload_n 3) 1 155 := ⟨by decide +kernel, rfl⟩
theorem nX6_does_155 : Nx mX6_does 155 (.invokevirtual 174) 3 158 := ⟨by decide +kernel, rfl⟩
theorem nX6_does_158 : Nx mX6_does 158 (.ifCond .ne 29) 3 161 := ⟨by decide +kernel, rfl⟩
theorem nX6_does_161 : Nx mX6_does 161 (.aload_n 0) 1 162 := ⟨by decide +kernel, rfl⟩
theorem nX6_does_162 : Nx mX6_does 162 (.iload 4) 2 164 := ⟨by decide +kernel, rfl⟩
theorem nX6_does_164 : Nx mX6_does 164 (.invokevirtual 167) 3 167 := ⟨by decide +kernel, rfl⟩
theorem nX6_does_167 : Nx mX6_does 167 (.ifCond .ne 20) 3 170 := ⟨by decide +kernel, rfl⟩
theorem nX6_does_170 : Nx mX6_does 170 (.aload_n 0) 1 171 := ⟨by decide +kernel, rfl⟩
theorem nX6_does_171 : Nx mX6_does 171 (.getfield 40) 3 174 := ⟨by decide +kernel, rfl⟩
theorem nX6_does_174 : Nx mX6_does 174 (.iload_n 3) 1 175 := ⟨by decide +kernel, rfl⟩
theorem nX6_does_175 : Nx mX6_does 175 (.iload 4) 2 177 := ⟨by decide +kernel, rfl⟩
theorem nX6_does_177 : Nx mX6_does 177 (.invokestatic 117) 3 180 := ⟨by decide +kernel, rfl⟩
theorem nX6_does_180 : Nx mX6_does 180 (.ifCond .le 7) 3 183 := ⟨by decide +kernel, rfl⟩
theorem nX6_does_183 : Nx mX6_does 183 (.iconst 1) 1 184 := ⟨by decide +kernel, rfl⟩
theorem nX6_does_184 : Nx mX6_does 184 (.goto 4) 3 187 := ⟨by decide +kernel, rfl⟩
theorem nX6_does_187 : Nx mX6_does 187 (.iconst 0) 1 188 := ⟨by decide +kernel, rfl⟩
theorem nX6_does_188 : Nx mX6_does 188 (.ireturn) 1 189 := ⟨by decide +kernel, rfl⟩
theorem nX6_judge_0 : Nx mX6_judge 0 (.aload_n 0) 1 1 := ⟨by decide +kernel, rfl⟩
theorem nX6_judge_1 : Nx mX6_judge 1 (.iconst 0) 1 2 := ⟨by decide +kernel, rfl⟩
theorem nX6_judge_2 : Nx mX6_judge 2 (.putfield 68) 3 5 := ⟨by decide +kernel, rfl⟩
theorem nX6_judge_5 : Nx mX6_judge 5 (.iload_n 1) 1 6 := ⟨by decide +kernel, rfl⟩
theorem nX6_judge_6 : Nx mX6_judge 6 (.i2l) 1 7 := ⟨by decide +kernel, rfl⟩
theorem nX6_judge_7 : Nx mX6_judge 7 (.lconst 1) 1 8 := ⟨by decide +kernel, rfl⟩
theorem nX6_judge_8 : Nx mX6_judge 8 (.ldc2_w 205) 3 11 := ⟨by decide +kernel, rfl⟩
theorem nX6_judge_11 : Nx mX6_judge 11 (.invokestatic 75) 3 14 := ⟨by decide +kernel, rfl⟩
theorem nX6_judge_14 : Nx mX6_judge 14 (.ifCond .eq 20) 3 17 := ⟨by decide +kernel, rfl⟩
theorem nX6_judge_17 : Nx mX6_judge 17 (.lload_n 2) 1 18 := ⟨by decide +kernel, rfl⟩
theorem nX6_judge_18 : Nx mX6_judge 18 (.lconst 0) 1 19 := ⟨by decide +kernel, rfl⟩
theorem nX6_judge_19 : Nx mX6_judge 19 (.ldc2_w 207) 3 22 := ⟨by decide +kernel, rfl⟩
theorem nX6_judge_22 : Nx mX6_judge 22 (.iload_n 1) 1 23 := ⟨by decide +kernel, rfl⟩
theorem nX6_judge_23 : Nx mX6_judge 23 (.invokestatic 209) 3 26 := ⟨by decide +kernel, rfl⟩
theorem nX6_judge_26 : Nx mX6_judge 26 (.lconst 1) 1 27 := ⟨by decide +kernel, rfl⟩
theorem nX6_judge_27 : Nx mX6_judge 27 (.lsub) 1 28 := ⟨by decide +kernel, rfl⟩
theorem nX6_judge_28 : Nx mX6_judge 28 (.invokestatic 75) 3 31 := ⟨by decide +kernel, rfl⟩
theorem nX6_judge_31 : Nx mX6_judge 31 (.ifCond .ne 6) 3 34 := ⟨by decide +kernel, rfl⟩
theorem nX6_judge_34 : Nx mX6_judge 34 (.bipush (-2)) 2 36 := ⟨by decide +kernel, rfl⟩
theorem nX6_judge_36 : Nx mX6_judge 36 (.ireturn) 1 37 := ⟨by decide +kernel, rfl⟩
theorem nX6_judge_37 : Nx mX6_judge 37 (.aload_n 0) 1 38 := ⟨by decide +kernel, rfl⟩
theorem nX6_judge_38 : Nx mX6_judge 38 (.invokevirtual 152) 3 41 := ⟨by decide +kernel, rfl⟩
theorem nX6_judge_41 : Nx mX6_judge 41 (.iconst 0) 1 42 := ⟨by decide +kernel, rfl⟩
theorem nX6_judge_42 : Nx mX6_judge 42 (.istore 4) 2 44 := ⟨by decide +kernel, rfl⟩
theorem nX6_judge_44 : Nx mX6_judge 44 (.iload 4) 2 46 := ⟨by decide +kernel, rfl⟩
theorem nX6_judge_46 : Nx mX6_judge 46 (.iload_n 1) 1 47 := ⟨by decide +kernel, rfl⟩
theorem nX6_judge_47 : Nx mX6_judge 47 (.if_icmp .ge 38) 3 50 := ⟨by decide +kernel, rfl⟩
theorem nX6_judge_50 : Nx mX6_judge 50 (.aload_n 0) 1 51 := ⟨by decide +kernel, rfl⟩
theorem nX6_judge_51 : Nx mX6_judge 51 (.lload_n 2) 1 52 := ⟨by decide +kernel, rfl⟩
theorem nX6_judge_52 : Nx mX6_judge 52 (.ldc2_w 207) 3 55 := ⟨by decide +kernel, rfl⟩
theorem nX6_judge_55 : Nx mX6_judge 55 (.iload_n 1) 1 56 := ⟨by decide +kernel, rfl⟩
theorem nX6_judge_56 : Nx mX6_judge 56 (.iconst 1) 1 57 := ⟨by decide +kernel, rfl⟩
theorem nX6_judge_57 : Nx mX6_judge 57 (.isub) 1 58 := ⟨by decide +kernel, rfl⟩
theorem nX6_judge_58 : Nx mX6_judge 58 (.iload 4) 2 60 := ⟨by decide +kernel, rfl⟩
theorem nX6_judge_60 : Nx mX6_judge 60 (.isub) 1 61 := ⟨by decide +kernel, rfl⟩
theorem nX6_judge_61 : Nx mX6_judge 61 (.invokestatic 209) 3 64 := ⟨by decide +kernel, rfl⟩
theorem nX6_judge_64 : Nx mX6_judge 64 (.ldiv) 1 65 := ⟨by decide +kernel, rfl⟩
theorem nX6_judge_65 : Nx mX6_judge 65 (.ldc2_w 207) 3 68 := ⟨by decide +kernel, rfl⟩
theorem nX6_judge_68 : Nx mX6_judge 68 (.lrem) 1 69 := ⟨by decide +kernel, rfl⟩
theorem nX6_judge_69 : Nx mX6_judge 69 (.l2i) 1 70 := ⟨by decide +kernel, rfl⟩
theorem nX6_judge_70 : Nx mX6_judge 70 (.invokevirtual 213) 3 73 := ⟨by decide +kernel, rfl⟩
theorem nX6_judge_73 : Nx mX6_judge 73 (.ifCond .ne 6) 3 76 := ⟨by decide +kernel, rfl⟩
theorem nX6_judge_76 : Nx mX6_judge 76 (.iload 4) 2 78 := ⟨by decide +kernel, rfl⟩
theorem nX6_judge_78 : Nx mX6_judge 78 (.ireturn) 1 79 := ⟨by decide +kernel, rfl⟩
theorem nX6_judge_79 : Nx mX6_judge 79 (.iinc 4 1) 3 82 := ⟨by decide +kernel, rfl⟩
theorem nX6_judge_82 : Nx mX6_judge 82 (.goto (-38)) 3 85 := ⟨by decide +kernel, rfl⟩
theorem nX6_judge_85 : Nx mX6_judge 85 (.bipush (-9)) 2 87 := ⟨by decide +kernel, rfl⟩
theorem nX6_judge_87 : Nx mX6_judge 87 (.ireturn) 1 88 := ⟨by decide +kernel, rfl⟩
theorem nX6_ways_0 : Nx mX6_ways 0 (.iconst 1) 1 1 := ⟨by decide +kernel, rfl⟩
theorem nX6_ways_1 : Nx mX6_ways 1 (.istore_n 1) 1 2 := ⟨by decide +kernel, rfl⟩
theorem nX6_ways_2 : Nx mX6_ways 2 (.iconst 2) 1 3 := ⟨by decide +kernel, rfl⟩
theorem nX6_ways_3 : Nx mX6_ways 3 (.istore_n 2) 1 4 := ⟨by decide +kernel, rfl⟩
theorem nX6_ways_4 : Nx mX6_ways 4 (.iload_n 2) 1 5 := ⟨by decide +kernel, rfl⟩
theorem nX6_ways_5 : Nx mX6_ways 5 (.iload_n 0) 1 6 := ⟨by decide +kernel, rfl⟩
theorem nX6_ways_6 : Nx mX6_ways 6 (.if_icmp .gt 13) 3 9 := ⟨by decide +kernel, rfl⟩
theorem nX6_ways_9 : Nx mX6_ways 9 (.iload_n 1) 1 10 := ⟨by decide +kernel, rfl⟩
theorem nX6_ways_10 : Nx mX6_ways 10 (.iload_n 2) 1 11 := ⟨by decide +kernel, rfl⟩
theorem nX6_ways_11 : Nx mX6_ways 11 (.imul) 1 12 := ⟨by decide +kernel, rfl⟩
theorem nX6_ways_12 : Nx mX6_ways 12 (.istore_n 1) 1 13 := ⟨by decide +kernel, rfl⟩
theorem nX6_ways_13 : Nx mX6_ways 13 (.iinc 2 1) 3 16 := ⟨by decide +kernel, rfl⟩
theorem nX6_ways_16 : Nx mX6_ways 16 (.goto (-12)) 3 19 := ⟨by decide +kernel, rfl⟩
theorem nX6_ways_19 : Nx mX6_ways 19 (.iload_n 1) 1 20 := ⟨by decide +kernel, rfl⟩
theorem nX6_ways_20 : Nx mX6_ways 20 (.ireturn) 1 21 := ⟨by decide +kernel, rfl⟩
theorem nX6_divisor_0 : Nx mX6_divisor 0 (.iload_n 0) 1 1 := ⟨by decide +kernel, rfl⟩
theorem nX6_divisor_1 : Nx mX6_divisor 1 (.ifCond .ge 8) 3 4 := ⟨by decide +kernel, rfl⟩
theorem nX6_divisor_4 : Nx mX6_divisor 4 (.iload_n 0) 1 5 := ⟨by decide +kernel, rfl⟩
theorem nX6_divisor_5 : Nx mX6_divisor 5 (.ineg) 1 6 := ⟨by decide +kernel, rfl⟩
theorem nX6_divisor_6 : Nx mX6_divisor 6 (.goto 4) 3 9 := ⟨by decide +kernel, rfl⟩
theorem nX6_divisor_9 : Nx mX6_divisor 9 (.iload_n 0) 1 10 := ⟨by decide +kernel, rfl⟩
theorem nX6_divisor_10 : Nx mX6_divisor 10 (.istore_n 2) 1 11 := ⟨by decide +kernel, rfl⟩
theorem nX6_divisor_11 : Nx mX6_divisor 11 (.iload_n 1) 1 12 := ⟨by decide +kernel, rfl⟩
theorem nX6_divisor_12 : Nx mX6_divisor 12 (.istore_n 3) 1 13 := ⟨by decide +kernel, rfl⟩
theorem nX6_divisor_13 : Nx mX6_divisor 13 (.iload_n 3) 1 14 := ⟨by decide +kernel, rfl⟩
theorem nX6_divisor_14 : Nx mX6_divisor 14 (.ifCond .eq 16) 3 17 := ⟨by decide +kernel, rfl⟩
theorem nX6_divisor_17 : Nx mX6_divisor 17 (.iload_n 2) 1 18 := ⟨by decide +kernel, rfl⟩
theorem nX6_divisor_18 : Nx mX6_divisor 18 (.iload_n 3) 1 19 := ⟨by decide +kernel, rfl⟩
theorem nX6_divisor_19 : Nx mX6_divisor 19 (.irem) 1 20 := ⟨by decide +kernel, rfl⟩
theorem nX6_divisor_20 : Nx mX6_divisor 20 (.istore 4) 2 22 := ⟨by decide +kernel, rfl⟩
theorem nX6_divisor_22 : Nx mX6_divisor 22 (.iload_n 3) 1 23 := ⟨by decide +kernel, rfl⟩
theorem nX6_divisor_23 : Nx mX6_divisor 23 (.istore_n 2) 1 24 := ⟨by decide +kernel, rfl⟩
theorem nX6_divisor_24 : Nx mX6_divisor 24 (.iload 4) 2 26 := ⟨by decide +kernel, rfl⟩
theorem nX6_divisor_26 : Nx mX6_divisor 26 (.istore_n 3) 1 27 := ⟨by decide +kernel, rfl⟩
theorem nX6_divisor_27 : Nx mX6_divisor 27 (.goto (-14)) 3 30 := ⟨by decide +kernel, rfl⟩
theorem nX6_divisor_30 : Nx mX6_divisor 30 (.iload_n 2) 1 31 := ⟨by decide +kernel, rfl⟩
theorem nX6_divisor_31 : Nx mX6_divisor 31 (.ireturn) 1 32 := ⟨by decide +kernel, rfl⟩
theorem nX6_fraction_0 : Nx mX6_fraction 0 (.iload_n 0) 1 1 := ⟨by decide +kernel, rfl⟩
theorem nX6_fraction_1 : Nx mX6_fraction 1 (.iload_n 1) 1 2 := ⟨by decide +kernel, rfl⟩
theorem nX6_fraction_2 : Nx mX6_fraction 2 (.invokestatic 216) 3 5 := ⟨by decide +kernel, rfl⟩
theorem nX6_fraction_5 : Nx mX6_fraction 5 (.istore_n 3) 1 6 := ⟨by decide +kernel, rfl⟩
theorem nX6_fraction_6 : Nx mX6_fraction 6 (.iload_n 2) 1 7 := ⟨by decide +kernel, rfl⟩
theorem nX6_fraction_7 : Nx mX6_fraction 7 (.ifCond .eq 9) 3 10 := ⟨by decide +kernel, rfl⟩
theorem nX6_fraction_10 : Nx mX6_fraction 10 (.iload_n 0) 1 11 := ⟨by decide +kernel, rfl⟩
theorem nX6_fraction_11 : Nx mX6_fraction 11 (.iload_n 3) 1 12 := ⟨by decide +kernel, rfl⟩
theorem nX6_fraction_12 : Nx mX6_fraction 12 (.idiv) 1 13 := ⟨by decide +kernel, rfl⟩
theorem nX6_fraction_13 : Nx mX6_fraction 13 (.goto 6) 3 16 := ⟨by decide +kernel, rfl⟩
theorem nX6_fraction_16 : Nx mX6_fraction 16 (.iload_n 1) 1 17 := ⟨by decide +kernel, rfl⟩
theorem nX6_fraction_17 : Nx mX6_fraction 17 (.iload_n 3) 1 18 := ⟨by decide +kernel, rfl⟩
theorem nX6_fraction_18 : Nx mX6_fraction 18 (.idiv) 1 19 := ⟨by decide +kernel, rfl⟩
theorem nX6_fraction_19 : Nx mX6_fraction 19 (.ireturn) 1 20 := ⟨by decide +kernel, rfl⟩
theorem nX6_share_0 : Nx mX6_share 0 (.aload_n 0) 1 1 := ⟨by decide +kernel, rfl⟩
theorem nX6_share_1 : Nx mX6_share 1 (.iconst 0) 1 2 := ⟨by decide +kernel, rfl⟩
theorem nX6_share_2 : Nx mX6_share 2 (.putfield 68) 3 5 := ⟨by decide +kernel, rfl⟩
theorem nX6_share_5 : Nx mX6_share 5 (.aload_n 0) 1 6 := ⟨by decide +kernel, rfl⟩
theorem nX6_share_6 : Nx mX6_share 6 (.iload_n 1) 1 7 := ⟨by decide +kernel, rfl⟩
theorem nX6_share_7 : Nx mX6_share 7 (.invokevirtual 174) 3 10 := ⟨by decide +kernel, rfl⟩
theorem nX6_share_10 : Nx mX6_share 10 (.ifCond .eq 5) 3 13 := ⟨by decide +kernel, rfl⟩
theorem nX6_share_13 : Nx mX6_share 13 (.iconst (-1)) 1 14 := ⟨by decide +kernel, rfl⟩
theorem nX6_share_14 : Nx mX6_share 14 (.ireturn) 1 15 := ⟨by decide +kernel, rfl⟩
theorem nX6_share_15 : Nx mX6_share 15 (.iconst 0) 1 16 := ⟨by decide +kernel, rfl⟩
theorem nX6_share_16 : Nx mX6_share 16 (.istore_n 3) 1 17 := ⟨by decide +kernel, rfl⟩
theorem nX6_share_17 : Nx mX6_share 17 (.iload_n 3) 1 18 := ⟨by decide +kernel, rfl⟩
theorem nX6_share_18 : Nx mX6_share 18 (.iconst 1) 1 19 := ⟨by decide +kernel, rfl⟩
theorem nX6_share_19 : Nx mX6_share 19 (.aload_n 0) 1 20 := ⟨by decide +kernel, rfl⟩
theorem nX6_share_20 : Nx mX6_share 20 (.getfield 79) 3 23 := ⟨by decide +kernel, rfl⟩
theorem nX6_share_23 : Nx mX6_share 23 (.ishl) 1 24 := ⟨by decide +kernel, rfl⟩
theorem nX6_share_24 : Nx mX6_share 24 (.if_icmp .ge 23) 3 27 := ⟨by decide +kernel, rfl⟩
theorem nX6_share_27 : Nx mX6_share 27 (.aload_n 0) 1 28 := ⟨by decide +kernel, rfl⟩
theorem nX6_share_28 : Nx mX6_share 28 (.getfield 65) 3 31 := ⟨by decide +kernel, rfl⟩
theorem nX6_share_31 : Nx mX6_share 31 (.iload_n 3) 1 32 := ⟨by decide +kernel, rfl⟩
theorem nX6_share_32 : Nx mX6_share 32 (.aload_n 0) 1 33 := ⟨by decide +kernel, rfl⟩
theorem nX6_share_33 : Nx mX6_share 33 (.iload_n 3) 1 34 := ⟨by decide +kernel, rfl⟩
theorem nX6_share_34 : Nx mX6_share 34 (.invokevirtual 161) 3 37 := ⟨by decide +kernel, rfl⟩
theorem nX6_share_37 : Nx mX6_share 37 (.invokestatic 196) 3 40 := ⟨by decide +kernel, rfl⟩
theorem nX6_share_40 : Nx mX6_share 40 (.iastore) 1 41 := ⟨by decide +kernel, rfl⟩
theorem nX6_share_41 : Nx mX6_share 41 (.iinc 3 1) 3 44 := ⟨by decide +kernel, rfl⟩
theorem nX6_share_44 : Nx mX6_share 44 (.goto (-27)) 3 47 := ⟨by decide +kernel, rfl⟩
theorem nX6_share_47 : Nx mX6_share 47 (.iconst 0) 1 48 := ⟨by decide +kernel, rfl⟩
theorem nX6_share_48 : Nx mX6_share 48 (.istore_n 3) 1 49 := ⟨by decide +kernel, rfl⟩
theorem nX6_share_49 : Nx mX6_share 49 (.iconst 0) 1 50 := ⟨by decide +kernel, rfl⟩
theorem nX6_share_50 : Nx mX6_share 50 (.istore 4) 2 52 := ⟨by decide +kernel, rfl⟩
theorem nX6_share_52 : Nx mX6_share 52 (.iload 4) 2 54 := ⟨by decide +kernel, rfl⟩
theorem nX6_share_54 : Nx mX6_share 54 (.iconst 1) 1 55 := ⟨by decide +kernel, rfl⟩
theorem nX6_share_55 : Nx mX6_share 55 (.aload_n 0) 1 56 := ⟨by decide +kernel, rfl⟩
theorem nX6_share_56 : Nx mX6_share 56 (.getfield 79) 3 59 := ⟨by decide +kernel, rfl⟩
theorem nX6_share_59 : Nx mX6_share 59 (.ishl) 1 60 := ⟨by decide +kernel, rfl⟩
theorem nX6_share_60 : Nx mX6_share 60 (.if_icmp .ge 66) 3 63 := ⟨by decide +kernel, rfl⟩
theorem nX6_share_63 : Nx mX6_share 63 (.iload 4) 2 65 := ⟨by decide +kernel, rfl⟩
theorem nX6_share_65 : Nx mX6_share 65 (.iload_n 1) 1 66 := ⟨by decide +kernel, rfl⟩
theorem nX6_share_66 : Nx mX6_share 66 (.invokestatic 134) 3 69 := ⟨by decide +kernel, rfl⟩
theorem nX6_share_69 : Nx mX6_share 69 (.ifCond .ne 51) 3 72 := ⟨by decide +kernel, rfl⟩
theorem nX6_share_72 : Nx mX6_share 72 (.iload 4) 2 74 := ⟨by decide +kernel, rfl⟩
theorem nX6_share_74 : Nx mX6_share 74 (.invokestatic 196) 3 77 := ⟨by decide +kernel, rfl⟩
theorem nX6_share_77 : Nx mX6_share 77 (.istore 5) 2 79 := ⟨by decide +kernel, rfl⟩
theorem nX6_share_79 : Nx mX6_share 79 (.iload_n 3) 1 80 := ⟨by decide +kernel, rfl⟩
theorem nX6_share_80 : Nx mX6_share 80 (.iload 5) 2 82 := ⟨by decide +kernel, rfl⟩
theorem nX6_share_82 : Nx mX6_share 82 (.invokestatic 219) 3 85 := ⟨by decide +kernel, rfl⟩
theorem nX6_share_85 : Nx mX6_share 85 (.aload_n 0) 1 86 := ⟨by decide +kernel, rfl⟩
theorem nX6_share_86 : Nx mX6_share 86 (.getfield 79) 3 89 := ⟨by decide +kernel, rfl⟩
theorem nX6_share_89 : Nx mX6_share 89 (.iconst 1) 1 90 := ⟨by decide +kernel, rfl⟩
theorem nX6_share_90 : Nx mX6_share 90 (.isub) 1 91 := ⟨by decide +kernel, rfl⟩
theorem nX6_share_91 : Nx mX6_share 91 (.iload 5) 2 93 := ⟨by decide +kernel, rfl⟩
theorem nX6_share_93 : Nx mX6_share 93 (.isub) 1 94 := ⟨by decide +kernel, rfl⟩
theorem nX6_share_94 : Nx mX6_share 94 (.invokestatic 219) 3 97 := ⟨by decide +kernel, rfl⟩
theorem nX6_share_97 : Nx mX6_share 97 (.imul) 1 98 := ⟨by decide +kernel, rfl⟩
theorem nX6_share_98 : Nx mX6_share 98 (.aload_n 0) 1 99 := ⟨by decide +kernel, rfl⟩
theorem nX6_share_99 : Nx mX6_share 99 (.getfield 65) 3 102 := ⟨by decide +kernel, rfl⟩
theorem nX6_share_102 : Nx mX6_share 102 (.iload 4) 2 104 := ⟨by decide +kernel, rfl⟩
theorem nX6_share_104 : Nx mX6_share 104 (.iconst 1) 1 105 := ⟨by decide +kernel, rfl⟩
theorem nX6_share_105 : Nx mX6_share 105 (.iload_n 1) 1 106 := ⟨by decide +kernel, rfl⟩
theorem nX6_share_106 : Nx mX6_share 106 (.ishl) 1 107 := ⟨by decide +kernel, rfl⟩
theorem nX6_share_107 : Nx mX6_share 107 (.ior) 1 108 := ⟨by decide +kernel, rfl⟩
theorem nX6_share_108 : Nx mX6_share 108 (.iaload) 1 109 := ⟨by decide +kernel, rfl⟩
theorem nX6_share_109 : Nx mX6_share 109 (.aload_n 0) 1 110 := ⟨by decide +kernel, rfl⟩
theorem nX6_share_110 : Nx mX6_share 110 (.getfield 65) 3 113 := ⟨by decide +kernel, rfl⟩
theorem nX6_share_113 : Nx mX6_share 113 (.iload 4) 2 115 := ⟨by decide +kernel, rfl⟩
theorem nX6_share_115 : Nx mX6_share 115 (.iaload) 1 116 := ⟨by decide +kernel, rfl⟩
theorem nX6_share_116 : Nx mX6_share 116 (.isub) 1 117 := ⟨by decide +kernel, rfl⟩
theorem nX6_share_117 : Nx mX6_share 117 (.imul) 1 118 := ⟨by decide +kernel, rfl⟩
theorem nX6_share_118 : Nx mX6_share 118 (.iadd) 1 119 := ⟨by decide +kernel, rfl⟩
theorem nX6_share_119 : Nx mX6_share 119 (.istore_n 3) 1 120 := ⟨by decide +kernel, rfl⟩
theorem nX6_share_120 : Nx mX6_share 120 (.iinc 4 1) 3 123 := ⟨by decide +kernel, rfl⟩
theorem nX6_share_123 : Nx mX6_share 123 (.goto (-71)) 3 126 := ⟨by decide +kernel, rfl⟩
theorem nX6_share_126 : Nx mX6_share 126 (.iload_n 3) 1 127 := ⟨by decide +kernel, rfl⟩
theorem nX6_share_127 : Nx mX6_share 127 (.aload_n 0) 1 128 := ⟨by decide +kernel, rfl⟩
theorem nX6_share_128 : Nx mX6_share 128 (.getfield 79) 3 131 := ⟨by decide +kernel, rfl⟩
theorem nX6_share_131 : Nx mX6_share 131 (.invokestatic 219) 3 134 := ⟨by decide +kernel, rfl⟩
theorem nX6_share_134 : Nx mX6_share 134 (.iload_n 2) 1 135 := ⟨by decide +kernel, rfl⟩
theorem nX6_share_135 : Nx mX6_share 135 (.invokestatic 222) 3 138 := ⟨by decide +kernel, rfl⟩
theorem nX6_share_138 : Nx mX6_share 138 (.ireturn) 1 139 := ⟨by decide +kernel, rfl⟩
theorem nX6_came_0 : Nx mX6_came 0 (.aload_n 0) 1 1 := ⟨by decide +kernel, rfl⟩
theorem nX6_came_1 : Nx mX6_came 1 (.iconst 0) 1 2 := ⟨by decide +kernel, rfl⟩
theorem nX6_came_2 : Nx mX6_came 2 (.putfield 68) 3 5 := ⟨by decide +kernel, rfl⟩
theorem nX6_came_5 : Nx mX6_came 5 (.iload_n 1) 1 6 := ⟨by decide +kernel, rfl⟩
theorem nX6_came_6 : Nx mX6_came 6 (.i2l) 1 7 := ⟨by decide +kernel, rfl⟩
theorem nX6_came_7 : Nx mX6_came 7 (.lconst 0) 1 8 := ⟨by decide +kernel, rfl⟩
theorem nX6_came_8 : Nx mX6_came 8 (.ldc2_w 194) 3 11 := ⟨by decide +kernel, rfl⟩
theorem nX6_came_11 : Nx mX6_came 11 (.invokestatic 75) 3 14 := ⟨by decide +kernel, rfl⟩
theorem nX6_came_14 : Nx mX6_came 14 (.ifCond .eq 13) 3 17 := ⟨by decide +kernel, rfl⟩
theorem nX6_came_17 : Nx mX6_came 17 (.iload_n 2) 1 18 := ⟨by decide +kernel, rfl⟩
theorem nX6_came_18 : Nx mX6_came 18 (.i2l) 1 19 := ⟨by decide +kernel, rfl⟩
theorem nX6_came_19 : Nx mX6_came 19 (.lconst 0) 1 20 := ⟨by decide +kernel, rfl⟩
theorem nX6_came_20 : Nx mX6_came 20 (.lconst 1) 1 21 := ⟨by decide +kernel, rfl⟩
theorem nX6_came_21 : Nx mX6_came 21 (.invokestatic 75) 3 24 := ⟨by decide +kernel, rfl⟩
theorem nX6_came_24 : Nx mX6_came 24 (.ifCond .ne 6) 3 27 := ⟨by decide +kernel, rfl⟩
theorem nX6_came_27 : Nx mX6_came 27 (.bipush (-2)) 2 29 := ⟨by decide +kernel, rfl⟩
theorem nX6_came_29 : Nx mX6_came 29 (.ireturn) 1 30 := ⟨by decide +kernel, rfl⟩
theorem nX6_came_30 : Nx mX6_came 30 (.aload_n 0) 1 31 := ⟨by decide +kernel, rfl⟩
theorem nX6_came_31 : Nx mX6_came 31 (.getfield 164) 3 34 := ⟨by decide +kernel, rfl⟩
theorem nX6_came_34 : Nx mX6_came 34 (.bipush 6) 2 36 := ⟨by decide +kernel, rfl⟩
theorem nX6_came_36 : Nx mX6_came 36 (.if_icmp .ne 6) 3 39 := ⟨by decide +kernel, rfl⟩
theorem nX6_came_39 : Nx mX6_came 39 (.bipush (-4)) 2 41 := ⟨by decide +kernel, rfl⟩
theorem nX6_came_41 : Nx mX6_came 41 (.ireturn) 1 42 := ⟨by decide +kernel, rfl⟩
theorem nX6_came_42 : Nx mX6_came 42 (.aload_n 0) 1 43 := ⟨by decide +kernel, rfl⟩
theorem nX6_came_43 : Nx mX6_came 43 (.getfield 53) 3 46 := ⟨by decide +kernel, rfl⟩
theorem nX6_came_46 : Nx mX6_came 46 (.aload_n 0) 1 47 := ⟨by decide +kernel, rfl⟩
theorem nX6_came_47 : Nx mX6_came 47 (.getfield 164) 3 50 := ⟨by decide +kernel, rfl⟩
theorem nX6_came_50 : Nx mX6_came 50 (.iload_n 1) 1 51 := ⟨by decide +kernel, rfl⟩
theorem nX6_came_51 : Nx mX6_came 51 (.iastore) 1 52 := ⟨by decide +kernel, rfl⟩
theorem nX6_came_52 : Nx mX6_came 52 (.aload_n 0) 1 53 := ⟨by decide +kernel, rfl⟩
theorem nX6_came_53 : Nx mX6_came 53 (.getfield 56) 3 56 := ⟨by decide +kernel, rfl⟩
theorem nX6_came_56 : Nx mX6_came 56 (.aload_n 0) 1 57 := ⟨by decide +kernel, rfl⟩
theorem nX6_came_57 : Nx mX6_came 57 (.getfield 164) 3 60 := ⟨by decide +kernel, rfl⟩
theorem nX6_came_60 : Nx mX6_came 60 (.iload_n 2) 1 61 := ⟨by decide +kernel, rfl⟩
theorem nX6_came_61 : Nx mX6_came 61 (.iastore) 1 62 := ⟨by decide +kernel, rfl⟩
theorem nX6_came_62 : Nx mX6_came 62 (.aload_n 0) 1 63 := ⟨by decide +kernel, rfl⟩
theorem nX6_came_63 : Nx mX6_came 63 (.dup) 1 64 := ⟨by decide +kernel, rfl⟩
theorem nX6_came_64 : Nx mX6_came 64 (.getfield 164) 3 67 := ⟨by decide +kernel, rfl⟩
theorem nX6_came_67 : Nx mX6_came 67 (.iconst 1) 1 68 := ⟨by decide +kernel, rfl⟩
theorem nX6_came_68 : Nx mX6_came 68 (.iadd) 1 69 := ⟨by decide +kernel, rfl⟩
theorem nX6_came_69 : Nx mX6_came 69 (.putfield 164) 3 72 := ⟨by decide +kernel, rfl⟩
theorem nX6_came_72 : Nx mX6_came 72 (.aload_n 0) 1 73 := ⟨by decide +kernel, rfl⟩
theorem nX6_came_73 : Nx mX6_came 73 (.getfield 164) 3 76 := ⟨by decide +kernel, rfl⟩
theorem nX6_came_76 : Nx mX6_came 76 (.ireturn) 1 77 := ⟨by decide +kernel, rfl⟩
theorem nX6_forget_0 : Nx mX6_forget 0 (.aload_n 0) 1 1 := ⟨by decide +kernel, rfl⟩
theorem nX6_forget_1 : Nx mX6_forget 1 (.iconst 0) 1 2 := ⟨by decide +kernel, rfl⟩
theorem nX6_forget_2 : Nx mX6_forget 2 (.putfield 68) 3 5 := ⟨by decide +kernel, rfl⟩
theorem nX6_forget_5 : Nx mX6_forget 5 (.aload_n 0) 1 6 := ⟨by decide +kernel, rfl⟩
theorem nX6_forget_6 : Nx mX6_forget 6 (.getfield 164) 3 9 := ⟨by decide +kernel, rfl⟩
theorem nX6_forget_9 : Nx mX6_forget 9 (.istore_n 1) 1 10 := ⟨by decide +kernel, rfl⟩
theorem nX6_forget_10 : Nx mX6_forget 10 (.aload_n 0) 1 11 := ⟨by decide +kernel, rfl⟩
theorem nX6_forget_11 : Nx mX6_forget 11 (.iconst 0) 1 12 := ⟨by decide +kernel, rfl⟩
theorem nX6_forget_12 : Nx mX6_forget 12 (.putfield 164) 3 15 := ⟨by decide +kernel, rfl⟩
theorem nX6_forget_15 : Nx mX6_forget 15 (.iload_n 1) 1 16 := ⟨by decide +kernel, rfl⟩
theorem nX6_forget_16 : Nx mX6_forget 16 (.ireturn) 1 17 := ⟨by decide +kernel, rfl⟩
theorem nX6_strangers_0 : Nx mX6_strangers 0 (.aload_n 0) 1 1 := ⟨by decide +kernel, rfl⟩
theorem nX6_strangers_1 : Nx mX6_strangers 1 (.iconst 0) 1 2 := ⟨by decide +kernel, rfl⟩
theorem nX6_strangers_2 : Nx mX6_strangers 2 (.putfield 68) 3 5 := ⟨by decide +kernel, rfl⟩
theorem nX6_strangers_5 : Nx mX6_strangers 5 (.iload_n 1) 1 6 := ⟨by decide +kernel, rfl⟩
theorem nX6_strangers_6 : Nx mX6_strangers 6 (.i2l) 1 7 := ⟨by decide +kernel, rfl⟩
theorem nX6_strangers_7 : Nx mX6_strangers 7 (.lconst 0) 1 8 := ⟨by decide +kernel, rfl⟩
theorem nX6_strangers_8 : Nx mX6_strangers 8 (.lconst 1) 1 9 := ⟨by decide +kernel, rfl⟩
theorem nX6_strangers_9 : Nx mX6_strangers 9 (.invokestatic 75) 3 12 := ⟨by decide +kernel, rfl⟩
theorem nX6_strangers_12 : Nx mX6_strangers 12 (.ifCond .ne 6) 3 15 := ⟨by decide +kernel, rfl⟩
theorem nX6_strangers_15 : Nx mX6_strangers 15 (.bipush (-2)) 2 17 := ⟨by decide +kernel, rfl⟩
theorem nX6_strangers_17 : Nx mX6_strangers 17 (.ireturn) 1 18 := ⟨by decide +kernel, rfl⟩
theorem nX6_strangers_18 : Nx mX6_strangers 18 (.aload_n 0) 1 19 := ⟨by decide +kernel, rfl⟩
theorem nX6_strangers_19 : Nx mX6_strangers 19 (.iconst 0) 1 20 := ⟨by decide +kernel, rfl⟩
theorem nX6_strangers_20 : Nx mX6_strangers 20 (.putfield 226) 3 23 := ⟨by decide +kernel, rfl⟩
theorem nX6_strangers_23 : Nx mX6_strangers 23 (.aload_n 0) 1 24 := ⟨by decide +kernel, rfl⟩
theorem nX6_strangers_24 : Nx mX6_strangers 24 (.bipush (-9)) 2 26 := ⟨by decide +kernel, rfl⟩
theorem nX6_strangers_26 : Nx mX6_strangers 26 (.putfield 229) 3 29 := ⟨by decide +kernel, rfl⟩
theorem nX6_strangers_29 : Nx mX6_strangers 29 (.iconst 0) 1 30 := ⟨by decide +kernel, rfl⟩
theorem nX6_strangers_30 : Nx mX6_strangers 30 (.istore_n 2) 1 31 := ⟨by decide +kernel, rfl⟩
theorem nX6_strangers_31 : Nx mX6_strangers 31 (.iload_n 2) 1 32 := ⟨by decide +kernel, rfl⟩
theorem nX6_strangers_32 : Nx mX6_strangers 32 (.bipush 100) 2 34 := ⟨by decide +kernel, rfl⟩
theorem nX6_strangers_34 : Nx mX6_strangers 34 (.if_icmp .ge 125) 3 37 := ⟨by decide +kernel, rfl⟩
theorem nX6_strangers_37 : Nx mX6_strangers 37 (.iconst 1) 1 38 := ⟨by decide +kernel, rfl⟩
theorem nX6_strangers_38 : Nx mX6_strangers 38 (.istore_n 3) 1 39 := ⟨by decide +kernel, rfl⟩
theorem nX6_strangers_39 : Nx mX6_strangers 39 (.iconst 0) 1 40 := ⟨by decide +kernel, rfl⟩
theorem nX6_strangers_40 : Nx mX6_strangers 40 (.istore 4) 2 42 := ⟨by decide +kernel, rfl⟩
theorem nX6_strangers_42 : Nx mX6_strangers 42 (.iload 4) 2 44 := ⟨by decide +kernel, rfl⟩
theorem nX6_strangers_44 : Nx mX6_strangers 44 (.aload_n 0) 1 45 := ⟨by decide +kernel, rfl⟩
theorem nX6_strangers_45 : Nx mX6_strangers 45 (.getfield 164) 3 48 := ⟨by decide +kernel, rfl⟩
theorem nX6_strangers_48 : Nx mX6_strangers 48 (.if_icmp .ge 64) 3 51 := ⟨by decide +kernel, rfl⟩
theorem nX6_strangers_51 : Nx mX6_strangers 51 (.iload_n 3) 1 52 := ⟨by decide +kernel, rfl⟩
theorem nX6_strangers_52 : Nx mX6_strangers 52 (.ifCond .eq 52) 3 55 := ⟨by decide +kernel, rfl⟩
theorem nX6_strangers_55 : Nx mX6_strangers 55 (.iload_n 2) 1 56 := ⟨by decide +kernel, rfl⟩
theorem nX6_strangers_56 : Nx mX6_strangers 56 (.bipush 10) 2 58 := ⟨by decide +kernel, rfl⟩
theorem nX6_strangers_58 : Nx mX6_strangers 58 (.idiv) 1 59 := ⟨by decide +kernel, rfl⟩
theorem nX6_strangers_59 : Nx mX6_strangers 59 (.aload_n 0) 1 60 := ⟨by decide +kernel, rfl⟩
theorem nX6_strangers_60 : Nx mX6_strangers 60 (.getfield 53) 3 63 := ⟨by decide +kernel, rfl⟩
theorem nX6_strangers_63 : Nx mX6_strangers 63 (.iload 4) 2 65 := ⟨by decide +kernel, rfl⟩
theorem nX6_strangers_65 : Nx mX6_strangers 65 (.iaload) 1 66 := ⟨by decide +kernel, rfl⟩
theorem nX6_strangers_66 : Nx mX6_strangers 66 (.invokestatic 121) 3 69 := ⟨by decide +kernel, rfl⟩
theorem nX6_strangers_69 : Nx mX6_strangers 69 (.iload_n 2) 1 70 := ⟨by decide +kernel, rfl⟩
theorem nX6_strangers_70 : Nx mX6_strangers 70 (.bipush 10) 2 72 := ⟨by decide +kernel, rfl⟩
theorem nX6_strangers_72 : Nx mX6_strangers 72 (.irem) 1 73 := ⟨by decide +kernel, rfl⟩
theorem nX6_strangers_73 : Nx mX6_strangers 73 (.if_icmp .gt 7) 3 76 := ⟨by decide +kernel, rfl⟩
theorem nX6_strangers_76 : Nx mX6_strangers 76 (.iconst 1) 1 77 := ⟨by decide +kernel, rfl⟩
theorem nX6_strangers_77 : Nx mX6_strangers 77 (.goto 4) 3 80 := ⟨by decide +kernel, rfl⟩
theorem nX6_strangers_80 : Nx mX6_strangers 80 (.iconst 0) 1 81 := ⟨by decide +kernel, rfl⟩
theorem nX6_strangers_81 : Nx mX6_strangers 81 (.aload_n 0) 1 82 := ⟨by decide +kernel, rfl⟩
theorem nX6_strangers_82 : Nx mX6_strangers 82 (.getfield 56) 3 85 := ⟨by decide +kernel, rfl⟩
theorem nX6_strangers_85 : Nx mX6_strangers 85 (.iload 4) 2 87 := ⟨by decide +kernel, rfl⟩
theorem nX6_strangers_87 : Nx mX6_strangers 87 (.iaload) 1 88 := ⟨by decide +kernel, rfl⟩
theorem nX6_strangers_88 : Nx mX6_strangers 88 (.iconst 1) 1 89 := ⟨by decide +kernel, rfl⟩
theorem nX6_strangers_89 : Nx mX6_strangers 89 (.if_icmp .ne 7) 3 92 := ⟨by decide +kernel, rfl⟩
theorem nX6_strangers_92 : Nx mX6_strangers 92 (.iconst 1) 1 93 := ⟨by decide +kernel, rfl⟩
theorem nX6_strangers_93 : Nx mX6_strangers 93 (.goto 4) 3 96 := ⟨by decide +kernel, rfl⟩
theorem nX6_strangers_96 : Nx mX6_strangers 96 (.iconst 0) 1 97 := ⟨by decide +kernel, rfl⟩
theorem nX6_strangers_97 : Nx mX6_strangers 97 (.if_icmp .ne 7) 3 100 := ⟨by decide +kernel, rfl⟩
theorem nX6_strangers_100 : Nx mX6_strangers 100 (.iconst 1) 1 101 := ⟨by decide +kernel, rfl⟩
theorem nX6_strangers_101 : Nx mX6_strangers 101 (.goto 4) 3 104 := ⟨by decide +kernel, rfl⟩
theorem nX6_strangers_104 : Nx mX6_strangers 104 (.iconst 0) 1 105 := ⟨by decide +kernel, rfl⟩
theorem nX6_strangers_105 : Nx mX6_strangers 105 (.istore_n 3) 1 106 := ⟨by decide +kernel, rfl⟩
theorem nX6_strangers_106 : Nx mX6_strangers 106 (.iinc 4 1) 3 109 := ⟨by decide +kernel, rfl⟩
theorem nX6_strangers_109 : Nx mX6_strangers 109 (.goto (-67)) 3 112 := ⟨by decide +kernel, rfl⟩
theorem nX6_strangers_112 : Nx mX6_strangers 112 (.aload_n 0) 1 113 := ⟨by decide +kernel, rfl⟩
theorem nX6_strangers_113 : Nx mX6_strangers 113 (.iload_n 3) 1 114 := ⟨by decide +kernel, rfl⟩
theorem nX6_strangers_114 : Nx mX6_strangers 114 (.ifCond .eq 14) 3 117 := ⟨by decide +kernel, rfl⟩
theorem nX6_strangers_117 : Nx mX6_strangers 117 (.aload_n 0) 1 118 := ⟨by decide +kernel, rfl⟩
theorem nX6_strangers_118 : Nx mX6_strangers 118 (.getfield 226) 3 121 := ⟨by decide +kernel, rfl⟩
theorem nX6_strangers_121 : Nx mX6_strangers 121 (.ifCond .ne 7) 3 124 := ⟨by decide +kernel, rfl⟩
theorem nX6_strangers_124 : Nx mX6_strangers 124 (.iload_n 2) 1 125 := ⟨by decide +kernel, rfl⟩
theorem nX6_strangers_125 : Nx mX6_strangers 125 (.goto 7) 3 128 := ⟨by decide +kernel, rfl⟩
theorem nX6_strangers_128 : Nx mX6_strangers 128 (.aload_n 0) 1 129 := ⟨by decide +kernel, rfl⟩
theorem nX6_strangers_129 : Nx mX6_strangers 129 (.getfield 229) 3 132 := ⟨by decide +kernel, rfl⟩
theorem nX6_strangers_132 : Nx mX6_strangers 132 (.putfield 229) 3 135 := ⟨by decide +kernel, rfl⟩
theorem nX6_strangers_135 : Nx mX6_strangers 135 (.aload_n 0) 1 136 := ⟨by decide +kernel, rfl⟩
theorem nX6_strangers_136 : Nx mX6_strangers 136 (.dup) 1 137 := ⟨by decide +kernel, rfl⟩
theorem nX6_strangers_137 : Nx mX6_strangers 137 (.getfield 226) 3 140 := ⟨by decide +kernel, rfl⟩
theorem nX6_strangers_140 : Nx mX6_strangers 140 (.iload_n 3) 1 141 := ⟨by decide +kernel, rfl⟩
theorem nX6_strangers_141 : Nx mX6_strangers 141 (.ifCond .eq 7) 3 144 := ⟨by decide +kernel, rfl⟩
theorem nX6_strangers_144 : Nx mX6_strangers 144 (.iconst 1) 1 145 := ⟨by decide +kernel, rfl⟩
theorem nX6_strangers_145 : Nx mX6_strangers 145 (.goto 4) 3 148 := ⟨by decide +kernel, rfl⟩
theorem nX6_strangers_148 : Nx mX6_strangers 148 (.iconst 0) 1 149 := ⟨by decide +kernel, rfl⟩
theorem nX6_strangers_149 : Nx mX6_strangers 149 (.iadd) 1 150 := ⟨by decide +kernel, rfl⟩
theorem nX6_strangers_150 : Nx mX6_strangers 150 (.putfield 226) 3 153 := ⟨by decide +kernel, rfl⟩
theorem nX6_strangers_153 : Nx mX6_strangers 153 (.iinc 2 1) 3 156 := ⟨by decide +kernel, rfl⟩
theorem nX6_strangers_156 : Nx mX6_strangers 156 (.goto (-125)) 3 159 := ⟨by decide +kernel, rfl⟩
theorem nX6_strangers_159 : Nx mX6_strangers 159 (.iload_n 1) 1 160 := ⟨by decide +kernel, rfl⟩
theorem nX6_strangers_160 : Nx mX6_strangers 160 (.ifCond .ne 10) 3 163 := ⟨by decide +kernel, rfl⟩
theorem nX6_strangers_163 : Nx mX6_strangers 163 (.aload_n 0) 1 164 := ⟨by decide +kernel, rfl⟩
theorem nX6_strangers_164 : Nx mX6_strangers 164 (.getfield 226) 3 167 := ⟨by decide +kernel, rfl⟩
theorem nX6_strangers_167 : Nx mX6_strangers 167 (.goto 7) 3 170 := ⟨by decide +kernel, rfl⟩
theorem nX6_strangers_170 : Nx mX6_strangers 170 (.aload_n 0) 1 171 := ⟨by decide +kernel, rfl⟩
theorem nX6_strangers_171 : Nx mX6_strangers 171 (.getfield 229) 3 174 := ⟨by decide +kernel, rfl⟩
theorem nX6_strangers_174 : Nx mX6_strangers 174 (.ireturn) 1 175 := ⟨by decide +kernel, rfl⟩
theorem nX6_rests_0 : Nx mX6_rests 0 (.aload_n 0) 1 1 := ⟨by decide +kernel, rfl⟩
theorem nX6_rests_1 : Nx mX6_rests 1 (.iconst 0) 1 2 := ⟨by decide +kernel, rfl⟩
theorem nX6_rests_2 : Nx mX6_rests 2 (.putfield 68) 3 5 := ⟨by decide +kernel, rfl⟩
theorem nX6_rests_5 : Nx mX6_rests 5 (.aload_n 0) 1 6 := ⟨by decide +kernel, rfl⟩
theorem nX6_rests_6 : Nx mX6_rests 6 (.iload_n 1) 1 7 := ⟨by decide +kernel, rfl⟩
theorem nX6_rests_7 : Nx mX6_rests 7 (.invokevirtual 174) 3 10 := ⟨by decide +kernel, rfl⟩
theorem nX6_rests_10 : Nx mX6_rests 10 (.ifCond .ne 19) 3 13 := ⟨by decide +kernel, rfl⟩
theorem nX6_rests_13 : Nx mX6_rests 13 (.aload_n 0) 1 14 := ⟨by decide +kernel, rfl⟩
theorem nX6_rests_14 : Nx mX6_rests 14 (.iload_n 2) 1 15 := ⟨by decide +kernel, rfl⟩
theorem nX6_rests_15 : Nx mX6_rests 15 (.invokevirtual 174) 3 18 := ⟨by decide +kernel, rfl⟩
theorem nX6_rests_18 : Nx mX6_rests 18 (.ifCond .ne 11) 3 21 := ⟨by decide +kernel, rfl⟩
theorem nX6_rests_21 : Nx mX6_rests 21 (.aload_n 0) 1 22 := ⟨by decide +kernel, rfl⟩
theorem nX6_rests_22 : Nx mX6_rests 22 (.iload_n 3) 1 23 := ⟨by decide +kernel, rfl⟩
theorem nX6_rests_23 : Nx mX6_rests 23 (.invokevirtual 167) 3 26 := ⟨by decide +kernel, rfl⟩
theorem nX6_rests_26 : Nx mX6_rests 26 (.ifCond .eq 5) 3 29 := ⟨by decide +kernel, rfl⟩
theorem nX6_rests_29 : Nx mX6_rests 29 (.iconst (-1)) 1 30 := ⟨by decide +kernel, rfl⟩
theorem nX6_rests_30 : Nx mX6_rests 30 (.ireturn) 1 31 := ⟨by decide +kernel, rfl⟩
theorem nX6_rests_31 : Nx mX6_rests 31 (.iload_n 1) 1 32 := ⟨by decide +kernel, rfl⟩
theorem nX6_rests_32 : Nx mX6_rests 32 (.iload_n 2) 1 33 := ⟨by decide +kernel, rfl⟩
theorem nX6_rests_33 : Nx mX6_rests 33 (.if_icmp .eq 14) 3 36 := ⟨by decide +kernel, rfl⟩
theorem nX6_rests_36 : Nx mX6_rests 36 (.iload 4) 2 38 := ⟨by decide +kernel, rfl⟩
theorem nX6_rests_38 : Nx mX6_rests 38 (.i2l) 1 39 := ⟨by decide +kernel, rfl⟩
theorem nX6_rests_39 : Nx mX6_rests 39 (.lconst 0) 1 40 := ⟨by decide +kernel, rfl⟩
theorem nX6_rests_40 : Nx mX6_rests 40 (.lconst 1) 1 41 := ⟨by decide +kernel, rfl⟩
theorem nX6_rests_41 : Nx mX6_rests 41 (.invokestatic 75) 3 44 := ⟨by decide +kernel, rfl⟩
theorem nX6_rests_44 : Nx mX6_rests 44 (.ifCond .ne 6) 3 47 := ⟨by decide +kernel, rfl⟩
theorem nX6_rests_47 : Nx mX6_rests 47 (.bipush (-2)) 2 49 := ⟨by decide +kernel, rfl⟩
theorem nX6_rests_49 : Nx mX6_rests 49 (.ireturn) 1 50 := ⟨by decide +kernel, rfl⟩
theorem nX6_rests_50 : Nx mX6_rests 50 (.iconst 0) 1 51 := ⟨by decide +kernel, rfl⟩
theorem nX6_rests_51 : Nx mX6_rests 51 (.istore 5) 2 53 := ⟨by decide +kernel, rfl⟩
theorem nX6_rests_53 : Nx mX6_rests 53 (.iload 5) 2 55 := ⟨by decide +kernel, rfl⟩
theorem nX6_rests_55 : Nx mX6_rests 55 (.iconst 4) 1 56 := ⟨by decide +kernel, rfl⟩
theorem nX6_rests_56 : Nx mX6_rests 56 (.if_icmp .ge 143) 3 59 := ⟨by decide +kernel, rfl⟩
theorem nX6_rests_59 : Nx mX6_rests 59 (.aload_n 0) 1 60 := ⟨by decide +kernel, rfl⟩
theorem nX6_rests_60 : Nx mX6_rests 60 (.invokevirtual 152) 3 63 := ⟨by decide +kernel, rfl⟩
theorem nX6_rests_63 : Nx mX6_rests 63 (.iload 5) 2 65 := ⟨by decide +kernel, rfl⟩
theorem nX6_rests_65 : Nx mX6_rests 65 (.iconst 1) 1 66 := ⟨by decide +kernel, rfl⟩
theorem nX6_rests_66 : Nx mX6_rests 66 (.if_icmp .le 16) 3 69 := ⟨by decide +kernel, rfl⟩
theorem nX6_rests_69 : Nx mX6_rests 69 (.aload_n 0) 1 70 := ⟨by decide +kernel, rfl⟩
theorem nX6_rests_70 : Nx mX6_rests 70 (.iload_n 1) 1 71 := ⟨by decide +kernel, rfl⟩
theorem nX6_rests_71 : Nx mX6_rests 71 (.iload_n 3) 1 72 := ⟨by decide +kernel, rfl⟩
theorem nX6_rests_72 : Nx mX6_rests 72 (.invokevirtual 202) 3 75 := ⟨by decide +kernel, rfl⟩
theorem nX6_rests_75 : Nx mX6_rests 75 (.ifCond .eq 7) 3 78 := ⟨by decide +kernel, rfl⟩
theorem nX6_rests_78 : Nx mX6_rests 78 (.iconst 1) 1 79 := ⟨by decide +kernel, rfl⟩
theorem nX6_rests_79 : Nx mX6_rests 79 (.goto 4) 3 82 := ⟨by decide +kernel, rfl⟩
theorem nX6_rests_82 : Nx mX6_rests 82 (.iconst 0) 1 83 := ⟨by decide +kernel, rfl⟩
theorem nX6_rests_83 : Nx mX6_rests 83 (.istore 6) 2 85 := ⟨by decide +kernel, rfl⟩
theorem nX6_rests_85 : Nx mX6_rests 85 (.iload 5) 2 87 := ⟨by decide +kernel, rfl⟩
theorem nX6_rests_87 : Nx mX6_rests 87 (.iconst 2) 1 88 := ⟨by decide +kernel, rfl⟩
theorem nX6_rests_88 : Nx mX6_rests 88 (.irem) 1 89 := ⟨by decide +kernel, rfl⟩
theorem nX6_rests_89 : Nx mX6_rests 89 (.iconst 1) 1 90 := ⟨by decide +kernel, rfl⟩
theorem nX6_rests_90 : Nx mX6_rests 90 (.if_icmp .ne 16) 3 93 := ⟨by decide +kernel, rfl⟩
theorem nX6_rests_93 : Nx mX6_rests 93 (.aload_n 0) 1 94 := ⟨by decide +kernel, rfl⟩
theorem nX6_rests_94 : Nx mX6_rests 94 (.iload_n 2) 1 95 := ⟨by decide +kernel, rfl⟩
theorem nX6_rests_95 : Nx mX6_rests 95 (.iload_n 3) 1 96 := ⟨by decide +kernel, rfl⟩
theorem nX6_rests_96 : Nx mX6_rests 96 (.invokevirtual 202) 3 99 := ⟨by decide +kernel, rfl⟩
theorem nX6_rests_99 : Nx mX6_rests 99 (.ifCond .eq 7) 3 102 := ⟨by decide +kernel, rfl⟩
theorem nX6_rests_102 : Nx mX6_rests 102 (.iconst 1) 1 103 := ⟨by decide +kernel, rfl⟩
theorem nX6_rests_103 : Nx mX6_rests 103 (.goto 4) 3 106 := ⟨by decide +kernel, rfl⟩
theorem nX6_rests_106 : Nx mX6_rests 106 (.iconst 0) 1 107 := ⟨by decide +kernel, rfl⟩
theorem nX6_rests_107 : Nx mX6_rests 107 (.istore 7) 2 109 := ⟨by decide +kernel, rfl⟩
theorem nX6_rests_109 : Nx mX6_rests 109 (.aload_n 0) 1 110 := ⟨by decide +kernel, rfl⟩
theorem nX6_rests_110 : Nx mX6_rests 110 (.aload_n 0) 1 111 := ⟨by decide +kernel, rfl⟩
theorem nX6_rests_111 : Nx mX6_rests 111 (.getfield 40) 3 114 := ⟨by decide +kernel, rfl⟩
theorem nX6_rests_114 : Nx mX6_rests 114 (.bipush 31) 2 116 := ⟨by decide +kernel, rfl⟩
theorem nX6_rests_116 : Nx mX6_rests 116 (.invokevirtual 155) 3 119 := ⟨by decide +kernel, rfl⟩
theorem nX6_rests_119 : Nx mX6_rests 119 (.iload_n 3) 1 120 := ⟨by decide +kernel, rfl⟩
theorem nX6_rests_120 : Nx mX6_rests 120 (.invokestatic 134) 3 123 := ⟨by decide +kernel, rfl⟩
theorem nX6_rests_123 : Nx mX6_rests 123 (.ifCond .eq 7) 3 126 := ⟨by decide +kernel, rfl⟩
theorem nX6_rests_126 : Nx mX6_rests 126 (.iconst 3) 1 127 := ⟨by decide +kernel, rfl⟩
theorem nX6_rests_127 : Nx mX6_rests 127 (.goto 4) 3 130 := ⟨by decide +kernel, rfl⟩
theorem nX6_rests_130 : Nx mX6_rests 130 (.iconst 0) 1 131 := ⟨by decide +kernel, rfl⟩
theorem nX6_rests_131 : Nx mX6_rests 131 (.istore 8) 2 133 := ⟨by decide +kernel, rfl⟩
theorem nX6_rests_133 : Nx mX6_rests 133 (.aload_n 0) 1 134 := ⟨by decide +kernel, rfl⟩
theorem nX6_rests_134 : Nx mX6_rests 134 (.getfield 62) 3 137 := ⟨by decide +kernel, rfl⟩
theorem nX6_rests_137 : Nx mX6_rests 137 (.iconst 2) 1 138 := ⟨by decide +kernel, rfl⟩
theorem nX6_rests_138 : Nx mX6_rests 138 (.iload 5) 2 140 := ⟨by decide +kernel, rfl⟩
theorem nX6_rests_140 : Nx mX6_rests 140 (.imul) 1 141 := ⟨by decide +kernel, rfl⟩
theorem nX6_rests_141 : Nx mX6_rests 141 (.iload 8) 2 143 := ⟨by decide +kernel, rfl⟩
theorem nX6_rests_143 : Nx mX6_rests 143 (.aload_n 0) 1 144 := ⟨by decide +kernel, rfl⟩
theorem nX6_rests_144 : Nx mX6_rests 144 (.getfield 59) 3 147 := ⟨by decide +kernel, rfl⟩
theorem nX6_rests_147 : Nx mX6_rests 147 (.iload_n 1) 1 148 := ⟨by decide +kernel, rfl⟩
theorem nX6_rests_148 : Nx mX6_rests 148 (.iaload) 1 149 := ⟨by decide +kernel, rfl⟩
theorem nX6_rests_149 : Nx mX6_rests 149 (.isub) 1 150 := ⟨by decide +kernel, rfl⟩
theorem nX6_rests_150 : Nx mX6_rests 150 (.iload 6) 2 152 := ⟨by decide +kernel, rfl⟩
theorem nX6_rests_152 : Nx mX6_rests 152 (.ifCond .eq 7) 3 155 := ⟨by decide +kernel, rfl⟩
theorem nX6_rests_155 : Nx mX6_rests 155 (.iconst 4) 1 156 := ⟨by decide +kernel, rfl⟩
theorem nX6_rests_156 : Nx mX6_rests 156 (.goto 4) 3 159 := ⟨by decide +kernel, rfl⟩
theorem nX6_rests_159 : Nx mX6_rests 159 (.iconst 0) 1 160 := ⟨by decide +kernel, rfl⟩
theorem nX6_rests_160 : Nx mX6_rests 160 (.iadd) 1 161 := ⟨by decide +kernel, rfl⟩
theorem nX6_rests_161 : Nx mX6_rests 161 (.iastore) 1 162 := ⟨by decide +kernel, rfl⟩
theorem nX6_rests_162 : Nx mX6_rests 162 (.aload_n 0) 1 163 := ⟨by decide +kernel, rfl⟩
theorem nX6_rests_163 : Nx mX6_rests 163 (.getfield 62) 3 166 := ⟨by decide +kernel, rfl⟩
theorem nX6_rests_166 : Nx mX6_rests 166 (.iconst 2) 1 167 := ⟨by decide +kernel, rfl⟩
theorem nX6_rests_167 : Nx mX6_rests 167 (.iload 5) 2 169 := ⟨by decide +kernel, rfl⟩
theorem nX6_rests_169 : Nx mX6_rests 169 (.imul) 1 170 := ⟨by decide +kernel, rfl⟩
theorem nX6_rests_170 : Nx mX6_rests 170 (.iconst 1) 1 171 := ⟨by decide +kernel, rfl⟩
theorem nX6_rests_171 : Nx mX6_rests 171 (.iadd) 1 172 := ⟨by decide +kernel, rfl⟩
theorem nX6_rests_172 : Nx mX6_rests 172 (.iload 8) 2 174 := ⟨by decide +kernel, rfl⟩
theorem nX6_rests_174 : Nx mX6_rests 174 (.aload_n 0) 1 175 := ⟨by decide +kernel, rfl⟩
theorem nX6_rests_175 : Nx mX6_rests 175 (.getfield 59) 3 178 := ⟨by decide +kernel, rfl⟩
theorem nX6_rests_178 : Nx mX6_rests 178 (.iload_n 2) 1 179 := ⟨by decide +kernel, rfl⟩
theorem nX6_rests_179 : Nx mX6_rests 179 (.iaload) 1 180 := ⟨by decide +kernel, rfl⟩
theorem nX6_rests_180 : Nx mX6_rests 180 (.isub) 1 181 := ⟨by decide +kernel, rfl⟩
theorem nX6_rests_181 : Nx mX6_rests 181 (.iload 7) 2 183 := ⟨by decide +kernel, rfl⟩
theorem nX6_rests_183 : Nx mX6_rests 183 (.ifCond .eq 7) 3 186 := ⟨by decide +kernel, rfl⟩
theorem nX6_rests_186 : Nx mX6_rests 186 (.iconst 4) 1 187 := ⟨by decide +kernel, rfl⟩
theorem nX6_rests_187 : Nx mX6_rests 187 (.goto 4) 3 190 := ⟨by decide +kernel, rfl⟩
theorem nX6_rests_190 : Nx mX6_rests 190 (.iconst 0) 1 191 := ⟨by decide +kernel, rfl⟩
theorem nX6_rests_191 : Nx mX6_rests 191 (.iadd) 1 192 := ⟨by decide +kernel, rfl⟩
theorem nX6_rests_192 : Nx mX6_rests 192 (.iastore) 1 193 := ⟨by decide +kernel, rfl⟩
theorem nX6_rests_193 : Nx mX6_rests 193 (.iinc 5 1) 3 196 := ⟨by decide +kernel, rfl⟩
theorem nX6_rests_196 : Nx mX6_rests 196 (.goto (-143)) 3 199 := ⟨by decide +kernel, rfl⟩
theorem nX6_rests_199 : Nx mX6_rests 199 (.aload_n 0) 1 200 := ⟨by decide +kernel, rfl⟩
theorem nX6_rests_200 : Nx mX6_rests 200 (.iconst 0) 1 201 := ⟨by decide +kernel, rfl⟩
theorem nX6_rests_201 : Nx mX6_rests 201 (.putfield 232) 3 204 := ⟨by decide +kernel, rfl⟩
theorem nX6_rests_204 : Nx mX6_rests 204 (.aload_n 0) 1 205 := ⟨by decide +kernel, rfl⟩
theorem nX6_rests_205 : Nx mX6_rests 205 (.bipush (-9)) 2 207 := ⟨by decide +kernel, rfl⟩
theorem nX6_rests_207 : Nx mX6_rests 207 (.putfield 235) 3 210 := ⟨by decide +kernel, rfl⟩
theorem nX6_rests_210 : Nx mX6_rests 210 (.iconst 0) 1 211 := ⟨by decide +kernel, rfl⟩
theorem nX6_rests_211 : Nx mX6_rests 211 (.istore 5) 2 213 := ⟨by decide +kernel, rfl⟩
theorem nX6_rests_213 : Nx mX6_rests 213 (.iload 5) 2 215 := ⟨by decide +kernel, rfl⟩
theorem nX6_rests_215 : Nx mX6_rests 215 (.iconst 4) 1 216 := ⟨by decide +kernel, rfl⟩
theorem nX6_rests_216 : Nx mX6_rests 216 (.if_icmp .ge 120) 3 219 := ⟨by decide +kernel, rfl⟩
theorem nX6_rests_219 : Nx mX6_rests 219 (.aload_n 0) 1 220 := ⟨by decide +kernel, rfl⟩
theorem nX6_rests_220 : Nx mX6_rests 220 (.getfield 62) 3 223 := ⟨by decide +kernel, rfl⟩
theorem nX6_rests_223 : Nx mX6_rests 223 (.iconst 2) 1 224 := ⟨by decide +kernel, rfl⟩
theorem nX6_rests_224 : Nx mX6_rests 224 (.iload 5) 2 226 := ⟨by decide +kernel, rfl⟩
theorem nX6_rests_226 : Nx mX6_rests 226 (.iconst 2) 1 227 := ⟨by decide +kernel, rfl⟩
theorem nX6_rests_227 : Nx mX6_rests 227 (.ixor) 1 228 := ⟨by decide +kernel, rfl⟩
theorem nX6_rests_228 : Nx mX6_rests 228 (.imul) 1 229 := ⟨by decide +kernel, rfl⟩
theorem nX6_rests_229 : Nx mX6_rests 229 (.iaload) 1 230 := ⟨by decide +kernel, rfl⟩
theorem nX6_rests_230 : Nx mX6_rests 230 (.aload_n 0) 1 231 := ⟨by decide +kernel, rfl⟩
theorem nX6_rests_231 : Nx mX6_rests 231 (.getfield 62) 3 234 := ⟨by decide +kernel, rfl⟩
theorem nX6_rests_234 : Nx mX6_rests 234 (.iconst 2) 1 235 := ⟨by decide +kernel, rfl⟩
theorem nX6_rests_235 : Nx mX6_rests 235 (.iload 5) 2 237 := ⟨by decide +kernel, rfl⟩
theorem nX6_rests_237 : Nx mX6_rests 237 (.imul) 1 238 := ⟨by decide +kernel, rfl⟩
theorem nX6_rests_238 : Nx mX6_rests 238 (.iaload) 1 239 := ⟨by decide +kernel, rfl⟩
theorem nX6_rests_239 : Nx mX6_rests 239 (.if_icmp .gt 34) 3 242 := ⟨by decide +kernel, rfl⟩
theorem nX6_rests_242 : Nx mX6_rests 242 (.aload_n 0) 1 243 := ⟨by decide +kernel, rfl⟩
theorem nX6_rests_243 : Nx mX6_rests 243 (.getfield 62) 3 246 := ⟨by decide +kernel, rfl⟩
theorem nX6_rests_246 : Nx mX6_rests 246 (.iconst 2) 1 247 := ⟨by decide +kernel, rfl⟩
theorem nX6_rests_247 : Nx mX6_rests 247 (.iload 5) 2 249 := ⟨by decide +kernel, rfl⟩
theorem nX6_rests_249 : Nx mX6_rests 249 (.iconst 1) 1 250 := ⟨by decide +kernel, rfl⟩
theorem nX6_rests_250 : Nx mX6_rests 250 (.ixor) 1 251 := ⟨by decide +kernel, rfl⟩
theorem nX6_rests_251 : Nx mX6_rests 251 (.imul) 1 252 := ⟨by decide +kernel, rfl⟩
theorem nX6_rests_252 : Nx mX6_rests 252 (.iconst 1) 1 253 := ⟨by decide +kernel, rfl⟩
theorem nX6_rests_253 : Nx mX6_rests 253 (.iadd) 1 254 := ⟨by decide +kernel, rfl⟩
theorem nX6_rests_254 : Nx mX6_rests 254 (.iaload) 1 255 := ⟨by decide +kernel, rfl⟩
theorem nX6_rests_255 : Nx mX6_rests 255 (.aload_n 0) 1 256 := ⟨by decide +kernel, rfl⟩
theorem nX6_rests_256 : Nx mX6_rests 256 (.getfield 62) 3 259 := ⟨by decide +kernel, rfl⟩
theorem nX6_rests_259 : Nx mX6_rests 259 (.iconst 2) 1 260 := ⟨by decide +kernel, rfl⟩
theorem nX6_rests_260 : Nx mX6_rests 260 (.iload 5) 2 262 := ⟨by decide +kernel, rfl⟩
theorem nX6_rests_262 : Nx mX6_rests 262 (.imul) 1 263 := ⟨by decide +kernel, rfl⟩
theorem nX6_rests_263 : Nx mX6_rests 263 (.iconst 1) 1 264 := ⟨by decide +kernel, rfl⟩
theorem nX6_rests_264 : Nx mX6_rests 264 (.iadd) 1 265 := ⟨by decide +kernel, rfl⟩
theorem nX6_rests_265 : Nx mX6_rests 265 (.iaload) 1 266 := ⟨by decide +kernel, rfl⟩
theorem nX6_rests_266 : Nx mX6_rests 266 (.if_icmp .gt 7) 3 269 := ⟨by decide +kernel, rfl⟩
theorem nX6_rests_269 : Nx mX6_rests 269 (.iconst 1) 1 270 := ⟨by decide +kernel, rfl⟩
theorem nX6_rests_270 : Nx mX6_rests 270 (.goto 4) 3 273 := ⟨by decide +kernel, rfl⟩
theorem nX6_rests_273 : Nx mX6_rests 273 (.iconst 0) 1 274 := ⟨by decide +kernel, rfl⟩
theorem nX6_rests_274 : Nx mX6_rests 274 (.istore 6) 2 276 := ⟨by decide +kernel, rfl⟩
theorem nX6_rests_276 : Nx mX6_rests 276 (.aload_n 0) 1 277 := ⟨by decide +kernel, rfl⟩
theorem nX6_rests_277 : Nx mX6_rests 277 (.iload 6) 2 279 := ⟨by decide +kernel, rfl⟩
theorem nX6_rests_279 : Nx mX6_rests 279 (.ifCond .eq 25) 3 282 := ⟨by decide +kernel, rfl⟩
theorem nX6_rests_282 : Nx mX6_rests 282 (.aload_n 0) 1 283 := ⟨by decide +kernel, rfl⟩
theorem nX6_rests_283 : Nx mX6_rests 283 (.getfield 232) 3 286 := ⟨by decide +kernel, rfl⟩
theorem nX6_rests_286 : Nx mX6_rests 286 (.ifCond .ne 18) 3 289 := ⟨by decide +kernel, rfl⟩
theorem nX6_rests_289 : Nx mX6_rests 289 (.bipush 10) 2 291 := ⟨by decide +kernel, rfl⟩
theorem nX6_rests_291 : Nx mX6_rests 291 (.iload 5) 2 293 := ⟨by decide +kernel, rfl⟩
theorem nX6_rests_293 : Nx mX6_rests 293 (.iconst 2) 1 294 := ⟨by decide +kernel, rfl⟩
theorem nX6_rests_294 : Nx mX6_rests 294 (.idiv) 1 295 := ⟨by decide +kernel, rfl⟩
theorem nX6_rests_295 : Nx mX6_rests 295 (.imul) 1 296 := ⟨by decide +kernel, rfl⟩
theorem nX6_rests_296 : Nx mX6_rests 296 (.iload 5) 2 298 := ⟨by decide +kernel, rfl⟩
theorem nX6_rests_298 : Nx mX6_rests 298 (.iconst 2) 1 299 := ⟨by decide +kernel, rfl⟩
theorem nX6_rests_299 : Nx mX6_rests 299 (.irem) 1 300 := ⟨by decide +kernel, rfl⟩
theorem nX6_rests_300 : Nx mX6_rests 300 (.iadd) 1 301 := ⟨by decide +kernel, rfl⟩
theorem nX6_rests_301 : Nx mX6_rests 301 (.goto 7) 3 304 := ⟨by decide +kernel, rfl⟩
theorem nX6_rests_304 : Nx mX6_rests 304 (.aload_n 0) 1 305 := ⟨by decide +kernel, rfl⟩
theorem nX6_rests_305 : Nx mX6_rests 305 (.getfield 235) 3 308 := ⟨by decide +kernel, rfl⟩
theorem nX6_rests_308 : Nx mX6_rests 308 (.putfield 235) 3 311 := ⟨by decide +kernel, rfl⟩
theorem nX6_rests_311 : Nx mX6_rests 311 (.aload_n 0) 1 312 := ⟨by decide +kernel, rfl⟩
theorem nX6_rests_312 : Nx mX6_rests 312 (.dup) 1 313 := ⟨by decide +kernel, rfl⟩
theorem nX6_rests_313 : Nx mX6_rests 313 (.getfield 232) 3 316 := ⟨by decide +kernel, rfl⟩
theorem nX6_rests_316 : Nx mX6_rests 316 (.iload 6) 2 318 := ⟨by decide +kernel, rfl⟩
theorem nX6_rests_318 : Nx mX6_rests 318 (.ifCond .eq 7) 3 321 := ⟨by decide +kernel, rfl⟩
theorem nX6_rests_321 : Nx mX6_rests 321 (.iconst 1) 1 322 := ⟨by decide +kernel, rfl⟩
theorem nX6_rests_322 : Nx mX6_rests 322 (.goto 4) 3 325 := ⟨by decide +kernel, rfl⟩
theorem nX6_rests_325 : Nx mX6_rests 325 (.iconst 0) 1 326 := ⟨by decide +kernel, rfl⟩
theorem nX6_rests_326 : Nx mX6_rests 326 (.iadd) 1 327 := ⟨by decide +kernel, rfl⟩
theorem nX6_rests_327 : Nx mX6_rests 327 (.putfield 232) 3 330 := ⟨by decide +kernel, rfl⟩
theorem nX6_rests_330 : Nx mX6_rests 330 (.iinc 5 1) 3 333 := ⟨by decide +kernel, rfl⟩
theorem nX6_rests_333 : Nx mX6_rests 333 (.goto (-120)) 3 336 := ⟨by decide +kernel, rfl⟩
theorem nX6_rests_336 : Nx mX6_rests 336 (.iload 4) 2 338 := ⟨by decide +kernel, rfl⟩
theorem nX6_rests_338 : Nx mX6_rests 338 (.ifCond .ne 10) 3 341 := ⟨by decide +kernel, rfl⟩
theorem nX6_rests_341 : Nx mX6_rests 341 (.aload_n 0) 1 342 := ⟨by decide +kernel, rfl⟩
theorem nX6_rests_342 : Nx mX6_rests 342 (.getfield 232) 3 345 := ⟨by decide +kernel, rfl⟩
theorem nX6_rests_345 : Nx mX6_rests 345 (.goto 7) 3 348 := ⟨by decide +kernel, rfl⟩
theorem nX6_rests_348 : Nx mX6_rests 348 (.aload_n 0) 1 349 := ⟨by decide +kernel, rfl⟩
theorem nX6_rests_349 : Nx mX6_rests 349 (.getfield 235) 3 352 := ⟨by decide +kernel, rfl⟩
theorem nX6_rests_352 : Nx mX6_rests 352 (.ireturn) 1 353 := ⟨by decide +kernel, rfl⟩
theorem nX6_home_0 : Nx mX6_home 0 (.aload_n 0) 1 1 := ⟨by decide +kernel, rfl⟩
theorem nX6_home_1 : Nx mX6_home 1 (.iconst 0) 1 2 := ⟨by decide +kernel, rfl⟩
theorem nX6_home_2 : Nx mX6_home 2 (.putfield 68) 3 5 := ⟨by decide +kernel, rfl⟩
theorem nX6_home_5 : Nx mX6_home 5 (.aload_n 0) 1 6 := ⟨by decide +kernel, rfl⟩
theorem nX6_home_6 : Nx mX6_home 6 (.iload_n 1) 1 7 := ⟨by decide +kernel, rfl⟩
theorem nX6_home_7 : Nx mX6_home 7 (.invokevirtual 167) 3 10 := ⟨by decide +kernel, rfl⟩
theorem nX6_home_10 : Nx mX6_home 10 (.ifCond .eq 5) 3 13 := ⟨by decide +kernel, rfl⟩
theorem nX6_home_13 : Nx mX6_home 13 (.iconst (-1)) 1 14 := ⟨by decide +kernel, rfl⟩
theorem nX6_home_14 : Nx mX6_home 14 (.ireturn) 1 15 := ⟨by decide +kernel, rfl⟩
theorem nX6_home_15 : Nx mX6_home 15 (.iload_n 2) 1 16 := ⟨by decide +kernel, rfl⟩
theorem nX6_home_16 : Nx mX6_home 16 (.i2l) 1 17 := ⟨by decide +kernel, rfl⟩
theorem nX6_home_17 : Nx mX6_home 17 (.lconst 0) 1 18 := ⟨by decide +kernel, rfl⟩
theorem nX6_home_18 : Nx mX6_home 18 (.ldc2_w 238) 3 21 := ⟨by decide +kernel, rfl⟩
theorem nX6_home_21 : Nx mX6_home 21 (.invokestatic 75) 3 24 := ⟨by decide +kernel, rfl⟩
theorem nX6_home_24 : Nx mX6_home 24 (.ifCond .ne 6) 3 27 := ⟨by decide +kernel, rfl⟩
theorem nX6_home_27 : Nx mX6_home 27 (.bipush (-2)) 2 29 := ⟨by decide +kernel, rfl⟩
theorem nX6_home_29 : Nx mX6_home 29 (.ireturn) 1 30 := ⟨by decide +kernel, rfl⟩
theorem nX6_home_30 : Nx mX6_home 30 (.iconst 0) 1 31 := ⟨by decide +kernel, rfl⟩
theorem nX6_home_31 : Nx mX6_home 31 (.istore 4) 2 33 := ⟨by decide +kernel, rfl⟩
theorem nX6_home_33 : Nx mX6_home 33 (.iconst 0) 1 34 := ⟨by decide +kernel, rfl⟩
theorem nX6_home_34 : Nx mX6_home 34 (.istore 5) 2 36 := ⟨by decide +kernel, rfl⟩
theorem nX6_home_36 : Nx mX6_home 36 (.iload 5) 2 38 := ⟨by decide +kernel, rfl⟩
theorem nX6_home_38 : Nx mX6_home 38 (.iconst 1) 1 39 := ⟨by decide +kernel, rfl⟩
theorem nX6_home_39 : Nx mX6_home 39 (.aload_n 0) 1 40 := ⟨by decide +kernel, rfl⟩
theorem nX6_home_40 : Nx mX6_home 40 (.getfield 79) 3 43 := ⟨by decide +kernel, rfl⟩
theorem nX6_home_43 : Nx mX6_home 43 (.ishl) 1 44 := ⟨by decide +kernel, rfl⟩
theorem nX6_home_44 : Nx mX6_home 44 (.if_icmp .ge 64) 3 47 := ⟨by decide +kernel, rfl⟩
theorem nX6_home_47 : Nx mX6_home 47 (.iload 5) 2 49 := ⟨by decide +kernel, rfl⟩
theorem nX6_home_49 : Nx mX6_home 49 (.invokestatic 196) 3 52 := ⟨by decide +kernel, rfl⟩
theorem nX6_home_52 : Nx mX6_home 52 (.istore 6) 2 54 := ⟨by decide +kernel, rfl⟩
theorem nX6_home_54 : Nx mX6_home 54 (.iload 4) 2 56 := ⟨by decide +kernel, rfl⟩
theorem nX6_home_56 : Nx mX6_home 56 (.aload_n 0) 1 57 := ⟨by decide +kernel, rfl⟩
theorem nX6_home_57 : Nx mX6_home 57 (.bipush 31) 2 59 := ⟨by decide +kernel, rfl⟩
theorem nX6_home_59 : Nx mX6_home 59 (.iload 5) 2 61 := ⟨by decide +kernel, rfl⟩
theorem nX6_home_61 : Nx mX6_home 61 (.iconst (-1)) 1 62 := ⟨by decide +kernel, rfl⟩
theorem nX6_home_62 : Nx mX6_home 62 (.ixor) 1 63 := ⟨by decide +kernel, rfl⟩
theorem nX6_home_63 : Nx mX6_home 63 (.iand) 1 64 := ⟨by decide +kernel, rfl⟩
theorem nX6_home_64 : Nx mX6_home 64 (.invokevirtual 161) 3 67 := ⟨by decide +kernel, rfl⟩
theorem nX6_home_67 : Nx mX6_home 67 (.iload_n 1) 1 68 := ⟨by decide +kernel, rfl⟩
theorem nX6_home_68 : Nx mX6_home 68 (.invokestatic 134) 3 71 := ⟨by decide +kernel, rfl⟩
theorem nX6_home_71 : Nx mX6_home 71 (.ifCond .eq 27) 3 74 := ⟨by decide +kernel, rfl⟩
theorem nX6_home_74 : Nx mX6_home 74 (.iload_n 2) 1 75 := ⟨by decide +kernel, rfl⟩
theorem nX6_home_75 : Nx mX6_home 75 (.iload 6) 2 77 := ⟨by decide +kernel, rfl⟩
theorem nX6_home_77 : Nx mX6_home 77 (.invokestatic 240) 3 80 := ⟨by decide +kernel, rfl⟩
theorem nX6_home_80 : Nx mX6_home 80 (.bipush 10) 2 82 := ⟨by decide +kernel, rfl⟩
theorem nX6_home_82 : Nx mX6_home 82 (.iload_n 2) 1 83 := ⟨by decide +kernel, rfl⟩
theorem nX6_home_83 : Nx mX6_home 83 (.isub) 1 84 := ⟨by decide +kernel, rfl⟩
theorem nX6_home_84 : Nx mX6_home 84 (.aload_n 0) 1 85 := ⟨by decide +kernel, rfl⟩
theorem nX6_home_85 : Nx mX6_home 85 (.getfield 79) 3 88 := ⟨by decide +kernel, rfl⟩
theorem nX6_home_88 : Nx mX6_home 88 (.iload 6) 2 90 := ⟨by decide +kernel, rfl⟩
theorem nX6_home_90 : Nx mX6_home 90 (.isub) 1 91 := ⟨by decide +kernel, rfl⟩
theorem nX6_home_91 : Nx mX6_home 91 (.invokestatic 240) 3 94 := ⟨by decide +kernel, rfl⟩
theorem nX6_home_94 : Nx mX6_home 94 (.imul) 1 95 := ⟨by decide +kernel, rfl⟩
theorem nX6_home_95 : Nx mX6_home 95 (.goto 4) 3 98 := ⟨by decide +kernel, rfl⟩
theorem nX6_home_98 : Nx mX6_home 98 (.iconst 0) 1 99 := ⟨by decide +kernel, rfl⟩
theorem nX6_home_99 : Nx mX6_home 99 (.iadd) 1 100 := ⟨by decide +kernel, rfl⟩
theorem nX6_home_100 : Nx mX6_home 100 (.istore 4) 2 102 := ⟨by decide +kernel, rfl⟩
theorem nX6_home_102 : Nx mX6_home 102 (.iinc 5 1) 3 105 := ⟨by decide +kernel, rfl⟩
theorem nX6_home_105 : Nx mX6_home 105 (.goto (-69)) 3 108 := ⟨by decide +kernel, rfl⟩
theorem nX6_home_108 : Nx mX6_home 108 (.iload 4) 2 110 := ⟨by decide +kernel, rfl⟩
theorem nX6_home_110 : Nx mX6_home 110 (.bipush 10) 2 112 := ⟨by decide +kernel, rfl⟩
theorem nX6_home_112 : Nx mX6_home 112 (.aload_n 0) 1 113 := ⟨by decide +kernel, rfl⟩
theorem nX6_home_113 : Nx mX6_home 113 (.getfield 79) 3 116 := ⟨by decide +kernel, rfl⟩
theorem nX6_home_116 : Nx mX6_home 116 (.invokestatic 240) 3 119 := ⟨by decide +kernel, rfl⟩
theorem nX6_home_119 : Nx mX6_home 119 (.iload_n 3) 1 120 := ⟨by decide +kernel, rfl⟩
theorem nX6_home_120 : Nx mX6_home 120 (.invokestatic 222) 3 123 := ⟨by decide +kernel, rfl⟩
theorem nX6_home_123 : Nx mX6_home 123 (.ireturn) 1 124 := ⟨by decide +kernel, rfl⟩
theorem nX6_seed_0 : Nx mX6_seed 0 (.aload_n 0) 1 1 := ⟨by decide +kernel, rfl⟩
theorem nX6_seed_1 : Nx mX6_seed 1 (.iconst 0) 1 2 := ⟨by decide +kernel, rfl⟩
theorem nX6_seed_2 : Nx mX6_seed 2 (.putfield 68) 3 5 := ⟨by decide +kernel, rfl⟩
theorem nX6_seed_5 : Nx mX6_seed 5 (.aload_n 0) 1 6 := ⟨by decide +kernel, rfl⟩
theorem nX6_seed_6 : Nx mX6_seed 6 (.getfield 243) 3 9 := ⟨by decide +kernel, rfl⟩
theorem nX6_seed_9 : Nx mX6_seed 9 (.lstore_n 3) 1 10 := ⟨by decide +kernel, rfl⟩
theorem nX6_seed_10 : Nx mX6_seed 10 (.aload_n 0) 1 11 := ⟨by decide +kernel, rfl⟩
theorem nX6_seed_11 : Nx mX6_seed 11 (.lload_n 1) 1 12 := ⟨by decide +kernel, rfl⟩
theorem nX6_seed_12 : Nx mX6_seed 12 (.putfield 243) 3 15 := ⟨by decide +kernel, rfl⟩
theorem nX6_seed_15 : Nx mX6_seed 15 (.lload_n 3) 1 16 := ⟨by decide +kernel, rfl⟩
theorem nX6_seed_16 : Nx mX6_seed 16 (.lreturn) 1 17 := ⟨by decide +kernel, rfl⟩
theorem nX6_years_0 : Nx mX6_years 0 (.aload_n 0) 1 1 := ⟨by decide +kernel, rfl⟩
theorem nX6_years_1 : Nx mX6_years 1 (.iconst 0) 1 2 := ⟨by decide +kernel, rfl⟩
theorem nX6_years_2 : Nx mX6_years 2 (.putfield 68) 3 5 := ⟨by decide +kernel, rfl⟩
theorem nX6_years_5 : Nx mX6_years 5 (.iload_n 1) 1 6 := ⟨by decide +kernel, rfl⟩
theorem nX6_years_6 : Nx mX6_years 6 (.i2l) 1 7 := ⟨by decide +kernel, rfl⟩
theorem nX6_years_7 : Nx mX6_years 7 (.lconst 1) 1 8 := ⟨by decide +kernel, rfl⟩
theorem nX6_years_8 : Nx mX6_years 8 (.ldc2_w 247) 3 11 := ⟨by decide +kernel, rfl⟩
theorem nX6_years_11 : Nx mX6_years 11 (.invokestatic 75) 3 14 := ⟨by decide +kernel, rfl⟩
theorem nX6_years_14 : Nx mX6_years 14 (.ifCond .ne 6) 3 17 := ⟨by decide +kernel, rfl⟩
theorem nX6_years_17 : Nx mX6_years 17 (.bipush (-2)) 2 19 := ⟨by decide +kernel, rfl⟩
theorem nX6_years_19 : Nx mX6_years 19 (.ireturn) 1 20 := ⟨by decide +kernel, rfl⟩
theorem nX6_years_20 : Nx mX6_years 20 (.aload_n 0) 1 21 := ⟨by decide +kernel, rfl⟩
theorem nX6_years_21 : Nx mX6_years 21 (.invokevirtual 152) 3 24 := ⟨by decide +kernel, rfl⟩
theorem nX6_years_24 : Nx mX6_years 24 (.iconst 0) 1 25 := ⟨by decide +kernel, rfl⟩
theorem nX6_years_25 : Nx mX6_years 25 (.istore_n 2) 1 26 := ⟨by decide +kernel, rfl⟩
theorem nX6_years_26 : Nx mX6_years 26 (.iconst 0) 1 27 := ⟨by decide +kernel, rfl⟩
theorem nX6_years_27 : Nx mX6_years 27 (.istore_n 3) 1 28 := ⟨by decide +kernel, rfl⟩
theorem nX6_years_28 : Nx mX6_years 28 (.iload_n 3) 1 29 := ⟨by decide +kernel, rfl⟩
theorem nX6_years_29 : Nx mX6_years 29 (.iload_n 1) 1 30 := ⟨by decide +kernel, rfl⟩
theorem nX6_years_30 : Nx mX6_years 30 (.if_icmp .ge 93) 3 33 := ⟨by decide +kernel, rfl⟩
theorem nX6_years_33 : Nx mX6_years 33 (.aload_n 0) 1 34 := ⟨by decide +kernel, rfl⟩
theorem nX6_years_34 : Nx mX6_years 34 (.aload_n 0) 1 35 := ⟨by decide +kernel, rfl⟩
theorem nX6_years_35 : Nx mX6_years 35 (.getfield 243) 3 38 := ⟨by decide +kernel, rfl⟩
theorem nX6_years_38 : Nx mX6_years 38 (.ldc2_w 249) 3 41 := ⟨by decide +kernel, rfl⟩
theorem nX6_years_41 : Nx mX6_years 41 (.lmul) 1 42 := ⟨by decide +kernel, rfl⟩
theorem nX6_years_42 : Nx mX6_years 42 (.ldc2_w 251) 3 45 := ⟨by decide +kernel, rfl⟩
theorem nX6_years_45 : Nx mX6_years 45 (.ladd) 1 46 := ⟨by decide +kernel, rfl⟩
theorem nX6_years_46 : Nx mX6_years 46 (.putfield 243) 3 49 := ⟨by decide +kernel, rfl⟩
theorem nX6_years_49 : Nx mX6_years 49 (.aload_n 0) 1 50 := ⟨by decide +kernel, rfl⟩
theorem nX6_years_50 : Nx mX6_years 50 (.getfield 243) 3 53 := ⟨by decide +kernel, rfl⟩
theorem nX6_years_53 : Nx mX6_years 53 (.bipush 33) 2 55 := ⟨by decide +kernel, rfl⟩
theorem nX6_years_55 : Nx mX6_years 55 (.lushr) 1 56 := ⟨by decide +kernel, rfl⟩
theorem nX6_years_56 : Nx mX6_years 56 (.ldc2_w 253) 3 59 := ⟨by decide +kernel, rfl⟩
theorem nX6_years_59 : Nx mX6_years 59 (.lrem) 1 60 := ⟨by decide +kernel, rfl⟩
theorem nX6_years_60 : Nx mX6_years 60 (.l2i) 1 61 := ⟨by decide +kernel, rfl⟩
theorem nX6_years_61 : Nx mX6_years 61 (.istore 4) 2 63 := ⟨by decide +kernel, rfl⟩
theorem nX6_years_63 : Nx mX6_years 63 (.aload_n 0) 1 64 := ⟨by decide +kernel, rfl⟩
theorem nX6_years_64 : Nx mX6_years 64 (.iload 4) 2 66 := ⟨by decide +kernel, rfl⟩
theorem nX6_years_66 : Nx mX6_years 66 (.bipush 20) 2 68 := ⟨by decide +kernel, rfl⟩
theorem nX6_years_68 : Nx mX6_years 68 (.if_icmp .ge 22) 3 71 := ⟨by decide +kernel, rfl⟩
theorem nX6_years_71 : Nx mX6_years 71 (.sipush 200) 3 74 := ⟨by decide +kernel, rfl⟩
theorem nX6_years_74 : Nx mX6_years 74 (.bipush 10) 2 76 := ⟨by decide +kernel, rfl⟩
theorem nX6_years_76 : Nx mX6_years 76 (.iload 4) 2 78 := ⟨by decide +kernel, rfl⟩
theorem nX6_years_78 : Nx mX6_years 78 (.iconst 4) 1 79 := ⟨by decide +kernel, rfl⟩
theorem nX6_years_79 : Nx mX6_years 79 (.idiv) 1 80 := ⟨by decide +kernel, rfl⟩
theorem nX6_years_80 : Nx mX6_years 80 (.imul) 1 81 := ⟨by decide +kernel, rfl⟩
theorem nX6_years_81 : Nx mX6_years 81 (.iadd) 1 82 := ⟨by decide +kernel, rfl⟩
theorem nX6_years_82 : Nx mX6_years 82 (.iload 4) 2 84 := ⟨by decide +kernel, rfl⟩
theorem nX6_years_84 : Nx mX6_years 84 (.iconst 4) 1 85 := ⟨by decide +kernel, rfl⟩
theorem nX6_years_85 : Nx mX6_years 85 (.irem) 1 86 := ⟨by decide +kernel, rfl⟩
theorem nX6_years_86 : Nx mX6_years 86 (.iadd) 1 87 := ⟨by decide +kernel, rfl⟩
theorem nX6_years_87 : Nx mX6_years 87 (.goto 16) 3 90 := ⟨by decide +kernel, rfl⟩
theorem nX6_years_90 : Nx mX6_years 90 (.iload 4) 2 92 := ⟨by decide +kernel, rfl⟩
theorem nX6_years_92 : Nx mX6_years 92 (.bipush 25) 2 94 := ⟨by decide +kernel, rfl⟩
theorem nX6_years_94 : Nx mX6_years 94 (.if_icmp .ge 7) 3 97 := ⟨by decide +kernel, rfl⟩
theorem nX6_years_97 : Nx mX6_years 97 (.iconst 0) 1 98 := ⟨by decide +kernel, rfl⟩
theorem nX6_years_98 : Nx mX6_years 98 (.goto 5) 3 101 := ⟨by decide +kernel, rfl⟩
theorem nX6_years_101 : Nx mX6_years 101 (.bipush 100) 2 103 := ⟨by decide +kernel, rfl⟩
theorem nX6_years_103 : Nx mX6_years 103 (.invokevirtual 213) 3 106 := ⟨by decide +kernel, rfl⟩
theorem nX6_years_106 : Nx mX6_years 106 (.pop) 1 107 := ⟨by decide +kernel, rfl⟩
theorem nX6_years_107 : Nx mX6_years 107 (.iload_n 2) 1 108 := ⟨by decide +kernel, rfl⟩
theorem nX6_years_108 : Nx mX6_years 108 (.aload_n 0) 1 109 := ⟨by decide +kernel, rfl⟩
theorem nX6_years_109 : Nx mX6_years 109 (.getfield 40) 3 112 := ⟨by decide +kernel, rfl⟩
theorem nX6_years_112 : Nx mX6_years 112 (.invokestatic 145) 3 115 := ⟨by decide +kernel, rfl⟩
theorem nX6_years_115 : Nx mX6_years 115 (.iadd) 1 116 := ⟨by decide +kernel, rfl⟩
theorem nX6_years_116 : Nx mX6_years 116 (.istore_n 2) 1 117 := ⟨by decide +kernel, rfl⟩
theorem nX6_years_117 : Nx mX6_years 117 (.iinc 3 1) 3 120 := ⟨by decide +kernel, rfl⟩
theorem nX6_years_120 : Nx mX6_years 120 (.goto (-92)) 3 123 := ⟨by decide +kernel, rfl⟩
theorem nX6_years_123 : Nx mX6_years 123 (.iload_n 2) 1 124 := ⟨by decide +kernel, rfl⟩
theorem nX6_years_124 : Nx mX6_years 124 (.ireturn) 1 125 := ⟨by decide +kernel, rfl⟩
theorem nX6_keep_0 : Nx mX6_keep 0 (.aload_n 0) 1 1 := ⟨by decide +kernel, rfl⟩
theorem nX6_keep_1 : Nx mX6_keep 1 (.iconst 0) 1 2 := ⟨by decide +kernel, rfl⟩
theorem nX6_keep_2 : Nx mX6_keep 2 (.putfield 68) 3 5 := ⟨by decide +kernel, rfl⟩
theorem nX6_keep_5 : Nx mX6_keep 5 (.iload_n 1) 1 6 := ⟨by decide +kernel, rfl⟩
theorem nX6_keep_6 : Nx mX6_keep 6 (.i2l) 1 7 := ⟨by decide +kernel, rfl⟩
theorem nX6_keep_7 : Nx mX6_keep 7 (.lconst 0) 1 8 := ⟨by decide +kernel, rfl⟩
theorem nX6_keep_8 : Nx mX6_keep 8 (.lconst 1) 1 9 := ⟨by decide +kernel, rfl⟩
theorem nX6_keep_9 : Nx mX6_keep 9 (.invokestatic 75) 3 12 := ⟨by decide +kernel, rfl⟩
theorem nX6_keep_12 : Nx mX6_keep 12 (.ifCond .ne 5) 3 15 := ⟨by decide +kernel, rfl⟩
theorem nX6_keep_15 : Nx mX6_keep 15 (.iconst (-1)) 1 16 := ⟨by decide +kernel, rfl⟩
theorem nX6_keep_16 : Nx mX6_keep 16 (.ireturn) 1 17 := ⟨by decide +kernel, rfl⟩
theorem nX6_keep_17 : Nx mX6_keep 17 (.aload_n 0) 1 18 := ⟨by decide +kernel, rfl⟩
theorem nX6_keep_18 : Nx mX6_keep 18 (.getfield 49) 3 21 := ⟨by decide +kernel, rfl⟩
theorem nX6_keep_21 : Nx mX6_keep 21 (.iload_n 1) 1 22 := ⟨by decide +kernel, rfl⟩
theorem nX6_keep_22 : Nx mX6_keep 22 (.iconst 1) 1 23 := ⟨by decide +kernel, rfl⟩
theorem nX6_keep_23 : Nx mX6_keep 23 (.bastore) 1 24 := ⟨by decide +kernel, rfl⟩
theorem nX6_keep_24 : Nx mX6_keep 24 (.iconst 0) 1 25 := ⟨by decide +kernel, rfl⟩
theorem nX6_keep_25 : Nx mX6_keep 25 (.istore_n 2) 1 26 := ⟨by decide +kernel, rfl⟩
theorem nX6_keep_26 : Nx mX6_keep 26 (.iload_n 2) 1 27 := ⟨by decide +kernel, rfl⟩
theorem nX6_keep_27 : Nx mX6_keep 27 (.bipush 29) 2 29 := ⟨by decide +kernel, rfl⟩
theorem nX6_keep_29 : Nx mX6_keep 29 (.if_icmp .ge 26) 3 32 := ⟨by decide +kernel, rfl⟩
theorem nX6_keep_32 : Nx mX6_keep 32 (.aload_n 0) 1 33 := ⟨by decide +kernel, rfl⟩
theorem nX6_keep_33 : Nx mX6_keep 33 (.getfield 46) 3 36 := ⟨by decide +kernel, rfl⟩
theorem nX6_keep_36 : Nx mX6_keep 36 (.bipush 29) 2 38 := ⟨by decide +kernel, rfl⟩
theorem nX6_keep_38 : Nx mX6_keep 38 (.iload_n 1) 1 39 := ⟨by decide +kernel, rfl⟩
theorem nX6_keep_39 : Nx mX6_keep 39 (.imul) 1 40 := ⟨by decide +kernel, rfl⟩
theorem nX6_keep_40 : Nx mX6_keep 40 (.iload_n 2) 1 41 := ⟨by decide +kernel, rfl⟩
theorem nX6_keep_41 : Nx mX6_keep 41 (.iadd) 1 42 := ⟨by decide +kernel, rfl⟩
theorem nX6_keep_42 : Nx mX6_keep 42 (.aload_n 0) 1 43 := ⟨by decide +kernel, rfl⟩
theorem nX6_keep_43 : Nx mX6_keep 43 (.getfield 37) 3 46 := ⟨by decide +kernel, rfl⟩
theorem nX6_keep_46 : Nx mX6_keep 46 (.iload_n 2) 1 47 := ⟨by decide +kernel, rfl⟩
theorem nX6_keep_47 : Nx mX6_keep 47 (.iaload) 1 48 := ⟨by decide +kernel, rfl⟩
theorem nX6_keep_48 : Nx mX6_keep 48 (.iastore) 1 49 := ⟨by decide +kernel, rfl⟩
theorem nX6_keep_49 : Nx mX6_keep 49 (.iinc 2 1) 3 52 := ⟨by decide +kernel, rfl⟩
theorem nX6_keep_52 : Nx mX6_keep 52 (.goto (-26)) 3 55 := ⟨by decide +kernel, rfl⟩
theorem nX6_keep_55 : Nx mX6_keep 55 (.aload_n 0) 1 56 := ⟨by decide +kernel, rfl⟩
theorem nX6_keep_56 : Nx mX6_keep 56 (.getfield 37) 3 59 := ⟨by decide +kernel, rfl⟩
theorem nX6_keep_59 : Nx mX6_keep 59 (.bipush 28) 2 61 := ⟨by decide +kernel, rfl⟩
theorem nX6_keep_61 : Nx mX6_keep 61 (.iaload) 1 62 := ⟨by decide +kernel, rfl⟩
theorem nX6_keep_62 : Nx mX6_keep 62 (.ireturn) 1 63 := ⟨by decide +kernel, rfl⟩
theorem nX6_again_0 : Nx mX6_again 0 (.aload_n 0) 1 1 := ⟨by decide +kernel, rfl⟩
theorem nX6_again_1 : Nx mX6_again 1 (.iconst 0) 1 2 := ⟨by decide +kernel, rfl⟩
theorem nX6_again_2 : Nx mX6_again 2 (.putfield 68) 3 5 := ⟨by decide +kernel, rfl⟩
theorem nX6_again_5 : Nx mX6_again 5 (.iload_n 1) 1 6 := ⟨by decide +kernel, rfl⟩
theorem nX6_again_6 : Nx mX6_again 6 (.i2l) 1 7 := ⟨by decide +kernel, rfl⟩
theorem nX6_again_7 : Nx mX6_again 7 (.lconst 0) 1 8 := ⟨by decide +kernel, rfl⟩
theorem nX6_again_8 : Nx mX6_again 8 (.lconst 1) 1 9 := ⟨by decide +kernel, rfl⟩
theorem nX6_again_9 : Nx mX6_again 9 (.invokestatic 75) 3 12 := ⟨by decide +kernel, rfl⟩
theorem nX6_again_12 : Nx mX6_again 12 (.ifCond .ne 5) 3 15 := ⟨by decide +kernel, rfl⟩
theorem nX6_again_15 : Nx mX6_again 15 (.iconst (-1)) 1 16 := ⟨by decide +kernel, rfl⟩
theorem nX6_again_16 : Nx mX6_again 16 (.ireturn) 1 17 := ⟨by decide +kernel, rfl⟩
theorem nX6_again_17 : Nx mX6_again 17 (.aload_n 0) 1 18 := ⟨by decide +kernel, rfl⟩
theorem nX6_again_18 : Nx mX6_again 18 (.getfield 49) 3 21 := ⟨by decide +kernel, rfl⟩
theorem nX6_again_21 : Nx mX6_again 21 (.iload_n 1) 1 22 := ⟨by decide +kernel, rfl⟩
theorem nX6_again_22 : Nx mX6_again 22 (.baload) 1 23 := ⟨by decide +kernel, rfl⟩
theorem nX6_again_23 : Nx mX6_again 23 (.ifCond .ne 6) 3 26 := ⟨by decide +kernel, rfl⟩
theorem nX6_again_26 : Nx mX6_again 26 (.bipush (-3)) 2 28 := ⟨by decide +kernel, rfl⟩
theorem nX6_again_28 : Nx mX6_again 28 (.ireturn) 1 29 := ⟨by decide +kernel, rfl⟩
theorem nX6_again_29 : Nx mX6_again 29 (.iconst 0) 1 30 := ⟨by decide +kernel, rfl⟩
theorem nX6_again_30 : Nx mX6_again 30 (.istore_n 2) 1 31 := ⟨by decide +kernel, rfl⟩
theorem nX6_again_31 : Nx mX6_again 31 (.iload_n 2) 1 32 := ⟨by decide +kernel, rfl⟩
theorem nX6_again_32 : Nx mX6_again 32 (.bipush 29) 2 34 := ⟨by decide +kernel, rfl⟩
theorem nX6_again_34 : Nx mX6_again 34 (.if_icmp .ge 26) 3 37 := ⟨by decide +kernel, rfl⟩
theorem nX6_again_37 : Nx mX6_again 37 (.aload_n 0) 1 38 := ⟨by decide +kernel, rfl⟩
theorem nX6_again_38 : Nx mX6_again 38 (.getfield 37) 3 41 := ⟨by decide +kernel, rfl⟩
theorem nX6_again_41 : Nx mX6_again 41 (.iload_n 2) 1 42 := ⟨by decide +kernel, rfl⟩
theorem nX6_again_42 : Nx mX6_again 42 (.aload_n 0) 1 43 := ⟨by decide +kernel, rfl⟩
theorem nX6_again_43 : Nx mX6_again 43 (.getfield 46) 3 46 := ⟨by decide +kernel, rfl⟩
theorem nX6_again_46 : Nx mX6_again 46 (.bipush 29) 2 48 := ⟨by decide +kernel, rfl⟩
theorem nX6_again_48 : Nx mX6_again 48 (.iload_n 1) 1 49 := ⟨by decide +kernel, rfl⟩
theorem nX6_again_49 : Nx mX6_again 49 (.imul) 1 50 := ⟨by decide +kernel, rfl⟩
theorem nX6_again_50 : Nx mX6_again 50 (.iload_n 2) 1 51 := ⟨by decide +kernel, rfl⟩
theorem nX6_again_51 : Nx mX6_again 51 (.iadd) 1 52 := ⟨by decide +kernel, rfl⟩
theorem nX6_again_52 : Nx mX6_again 52 (.iaload) 1 53 := ⟨by decide +kernel, rfl⟩
theorem nX6_again_53 : Nx mX6_again 53 (.iastore) 1 54 := ⟨by decide +kernel, rfl⟩
theorem nX6_again_54 : Nx mX6_again 54 (.iinc 2 1) 3 57 := ⟨by decide +kernel, rfl⟩
theorem nX6_again_57 : Nx mX6_again 57 (.goto (-26)) 3 60 := ⟨by decide +kernel, rfl⟩
theorem nX6_again_60 : Nx mX6_again 60 (.aload_n 0) 1 61 := ⟨by decide +kernel, rfl⟩
theorem nX6_again_61 : Nx mX6_again 61 (.iconst 0) 1 62 := ⟨by decide +kernel, rfl⟩
theorem nX6_again_62 : Nx mX6_again 62 (.putfield 114) 3 65 := ⟨by decide +kernel, rfl⟩
theorem nX6_again_65 : Nx mX6_again 65 (.aload_n 0) 1 66 := ⟨by decide +kernel, rfl⟩
theorem nX6_again_66 : Nx mX6_again 66 (.getfield 37) 3 69 := ⟨by decide +kernel, rfl⟩
theorem nX6_again_69 : Nx mX6_again 69 (.bipush 28) 2 71 := ⟨by decide +kernel, rfl⟩
theorem nX6_again_71 : Nx mX6_again 71 (.iaload) 1 72 := ⟨by decide +kernel, rfl⟩
theorem nX6_again_72 : Nx mX6_again 72 (.ireturn) 1 73 := ⟨by decide +kernel, rfl⟩
end
section
abbrev mL_law : MS := (code, 4, RL, ret)
theorem nL_law_0 : Nx mL_law 0 (.new 7) 3 3 := ⟨by decide +kernel, rfl⟩
theorem nL_law_3 : Nx mL_law 3 (.dup) 1 4 := ⟨by decide +kernel, rfl⟩
theorem nL_law_4 : Nx mL_law 4 (.invokespecial 9) 3 7 := ⟨by decide +kernel, rfl⟩
theorem nL_law_7 : Nx mL_law 7 (.astore_n 1) 1 8 := ⟨by decide +kernel, rfl⟩
theorem nL_law_8 : Nx mL_law 8 (.new 10) 3 11 := ⟨by decide +kernel, rfl⟩
theorem nL_law_11 : Nx mL_law 11 (.dup) 1 12 := ⟨by decide +kernel, rfl⟩
theorem nL_law_12 : Nx mL_law 12 (.invokespecial 12) 3 15 := ⟨by decide +kernel, rfl⟩
theorem nL_law_15 : Nx mL_law 15 (.astore_n 2) 1 16 := ⟨by decide +kernel, rfl⟩
theorem nL_law_16 : Nx mL_law 16 (.iconst 0) 1 17 := ⟨by decide +kernel, rfl⟩
theorem nL_law_17 : Nx mL_law 17 (.istore_n 3) 1 18 := ⟨by decide +kernel, rfl⟩
theorem nL_law_18 : Nx mL_law 18 (.iload_n 3) 1 19 := ⟨by decide +kernel, rfl⟩
theorem nL_law_19 : Nx mL_law 19 (.aload_n 0) 1 20 := ⟨by decide +kernel, rfl⟩
theorem nL_law_20 : Nx mL_law 20 (.arraylength) 1 21 := ⟨by decide +kernel, rfl⟩
theorem nL_law_21 : Nx mL_law 21 (.iconst 5) 1 22 := ⟨by decide +kernel, rfl⟩
theorem nL_law_22 : Nx mL_law 22 (.isub) 1 23 := ⟨by decide +kernel, rfl⟩
theorem nL_law_23 : Nx mL_law 23 (.if_icmp .gt 933) 3 26 := ⟨by decide +kernel, rfl⟩
theorem nL_law_26 : Nx mL_law 26 (.aload_n 0) 1 27 := ⟨by decide +kernel, rfl⟩
theorem nL_law_27 : Nx mL_law 27 (.iload_n 3) 1 28 := ⟨by decide +kernel, rfl⟩
theorem nL_law_28 : Nx mL_law 28 (.iaload) 1 29 := ⟨by decide +kernel, rfl⟩
theorem nL_law_29 : Nx mL_law 29 (.bipush 31) 2 31 := ⟨by decide +kernel, rfl⟩
theorem nL_law_31 : Nx mL_law 31 (.iand) 1 32 := ⟨by decide +kernel, rfl⟩
theorem nL_law_32 : Nx mL_law 32 (.tableswitch 918 0 26 #[124, 147, 160, 173, 186, 209, 242, 275, 308, 341, 384, 397, 410, 423, 456, 479, 502, 565, 614, 647, 660, 683, 736, 795, 849, 872, 895]) 124 156 := ⟨by decide +kernel, rfl⟩
theorem nL_law_156 : Nx mL_law 156 (.aload_n 1) 1 157 := ⟨by decide +kernel, rfl⟩
theorem nL_law_157 : Nx mL_law 157 (.aload_n 0) 1 158 := ⟨by decide +kernel, rfl⟩
theorem nL_law_158 : Nx mL_law 158 (.iload_n 3) 1 159 := ⟨by decide +kernel, rfl⟩
theorem nL_law_159 : Nx mL_law 159 (.iconst 1) 1 160 := ⟨by decide +kernel, rfl⟩
theorem nL_law_160 : Nx mL_law 160 (.iadd) 1 161 := ⟨by decide +kernel, rfl⟩
theorem nL_law_161 : Nx mL_law 161 (.iaload) 1 162 := ⟨by decide +kernel, rfl⟩
theorem nL_law_162 : Nx mL_law 162 (.invokevirtual 13) 3 165 := ⟨by decide +kernel, rfl⟩
theorem nL_law_165 : Nx mL_law 165 (.aload_n 2) 1 166 := ⟨by decide +kernel, rfl⟩
theorem nL_law_166 : Nx mL_law 166 (.aload_n 0) 1 167 := ⟨by decide +kernel, rfl⟩
theorem nL_law_167 : Nx mL_law 167 (.iload_n 3) 1 168 := ⟨by decide +kernel, rfl⟩
theorem nL_law_168 : Nx mL_law 168 (.iconst 1) 1 169 := ⟨by decide +kernel, rfl⟩
theorem nL_law_169 : Nx mL_law 169 (.iadd) 1 170 := ⟨by decide +kernel, rfl⟩
theorem nL_law_170 : Nx mL_law 170 (.iaload) 1 171 := ⟨by decide +kernel, rfl⟩
theorem nL_law_171 : Nx mL_law 171 (.invokevirtual 17) 3 174 := ⟨by decide +kernel, rfl⟩
theorem nL_law_174 : Nx mL_law 174 (.if_icmp .eq 776) 3 177 := ⟨by decide +kernel, rfl⟩
theorem nL_law_177 : Nx mL_law 177 (.iconst 0) 1 178 := ⟨by decide +kernel, rfl⟩
theorem nL_law_178 : Nx mL_law 178 (.ireturn) 1 179 := ⟨by decide +kernel, rfl⟩
theorem nL_law_179 : Nx mL_law 179 (.aload_n 1) 1 180 := ⟨by decide +kernel, rfl⟩
theorem nL_law_180 : Nx mL_law 180 (.invokevirtual 18) 3 183 := ⟨by decide +kernel, rfl⟩
theorem nL_law_183 : Nx mL_law 183 (.aload_n 2) 1 184 := ⟨by decide +kernel, rfl⟩
theorem nL_law_184 : Nx mL_law 184 (.invokevirtual 22) 3 187 := ⟨by decide +kernel, rfl⟩
theorem nL_law_187 : Nx mL_law 187 (.if_icmp .eq 763) 3 190 := ⟨by decide +kernel, rfl⟩
theorem nL_law_190 : Nx mL_law 190 (.iconst 0) 1 191 := ⟨by decide +kernel, rfl⟩
theorem nL_law_191 : Nx mL_law 191 (.ireturn) 1 192 := ⟨by decide +kernel, rfl⟩
theorem nL_law_192 : Nx mL_law 192 (.aload_n 1) 1 193 := ⟨by decide +kernel, rfl⟩
theorem nL_law_193 : Nx mL_law 193 (.invokevirtual 23) 3 196 := ⟨by decide +kernel, rfl⟩
theorem nL_law_196 : Nx mL_law 196 (.aload_n 2) 1 197 := ⟨by decide +kernel, rfl⟩
theorem nL_law_197 : Nx mL_law 197 (.invokevirtual 26) 3 200 := ⟨by decide +kernel, rfl⟩
theorem nL_law_200 : Nx mL_law 200 (.if_icmp .eq 750) 3 203 := ⟨by decide +kernel, rfl⟩
theorem nL_law_203 : Nx mL_law 203 (.iconst 0) 1 204 := ⟨by decide +kernel, rfl⟩
theorem nL_law_204 : Nx mL_law 204 (.ireturn) 1 205 := ⟨by decide +kernel, rfl⟩
theorem nL_law_205 : Nx mL_law 205 (.aload_n 1) 1 206 := ⟨by decide +kernel, rfl⟩
theorem nL_law_206 : Nx mL_law 206 (.invokevirtual 27) 3 209 := ⟨by decide +kernel, rfl⟩
theorem nL_law_209 : Nx mL_law 209 (.aload_n 2) 1 210 := ⟨by decide +kernel, rfl⟩
theorem nL_law_210 : Nx mL_law 210 (.invokevirtual 30) 3 213 := ⟨by decide +kernel, rfl⟩
theorem nL_law_213 : Nx mL_law 213 (.if_icmp .eq 737) 3 216 := ⟨by decide +kernel, rfl⟩
theorem nL_law_216 : Nx mL_law 216 (.iconst 0) 1 217 := ⟨by decide +kernel, rfl⟩
theorem nL_law_217 : Nx mL_law 217 (.ireturn) 1 218 := ⟨by decide +kernel, rfl⟩
theorem nL_law_218 : Nx mL_law 218 (.aload_n 1) 1 219 := ⟨by decide +kernel, rfl⟩
theorem nL_law_219 : Nx mL_law 219 (.aload_n 0) 1 220 := ⟨by decide +kernel, rfl⟩
theorem nL_law_220 : Nx mL_law 220 (.iload_n 3) 1 221 := ⟨by decide +kernel, rfl⟩
theorem nL_law_221 : Nx mL_law 221 (.iconst 1) 1 222 := ⟨by decide +kernel, rfl⟩
theorem nL_law_222 : Nx mL_law 222 (.iadd) 1 223 := ⟨by decide +kernel, rfl⟩
theorem nL_law_223 : Nx mL_law 223 (.iaload) 1 224 := ⟨by decide +kernel, rfl⟩
theorem nL_law_224 : Nx mL_law 224 (.invokevirtual 31) 3 227 := ⟨by decide +kernel, rfl⟩
theorem nL_law_227 : Nx mL_law 227 (.aload_n 2) 1 228 := ⟨by decide +kernel, rfl⟩
theorem nL_law_228 : Nx mL_law 228 (.aload_n 0) 1 229 := ⟨by decide +kernel, rfl⟩
theorem nL_law_229 : Nx mL_law 229 (.iload_n 3) 1 230 := ⟨by decide +kernel, rfl⟩
theorem nL_law_230 : Nx mL_law 230 (.iconst 1) 1 231 := ⟨by decide +kernel, rfl⟩
theorem nL_law_231 : Nx mL_law 231 (.iadd) 1 232 := ⟨by decide +kernel, rfl⟩
theorem nL_law_232 : Nx mL_law 232 (.iaload) 1 233 := ⟨by decide +kernel, rfl⟩
theorem nL_law_233 : Nx mL_law 233 (.invokevirtual 34) 3 236 := ⟨by decide +kernel, rfl⟩
theorem nL_law_236 : Nx mL_law 236 (.if_icmp .eq 714) 3 239 := ⟨by decide +kernel, rfl⟩
theorem nL_law_239 : Nx mL_law 239 (.iconst 0) 1 240 := ⟨by decide +kernel, rfl⟩
theorem nL_law_240 : Nx mL_law 240 (.ireturn) 1 241 := ⟨by decide +kernel, rfl⟩
theorem nL_law_241 : Nx mL_law 241 (.aload_n 1) 1 242 := ⟨by decide +kernel, rfl⟩
theorem nL_law_242 : Nx mL_law 242 (.aload_n 0) 1 243 := ⟨by decide +kernel, rfl⟩
theorem nL_law_243 : Nx mL_law 243 (.iload_n 3) 1 244 := ⟨by decide +kernel, rfl⟩
theorem nL_law_244 : Nx mL_law 244 (.iconst 1) 1 245 := ⟨by decide +kernel, rfl⟩
theorem nL_law_245 : Nx mL_law 245 (.iadd) 1 246 := ⟨by decide +kernel, rfl⟩
theorem nL_law_246 : Nx mL_law 246 (.iaload) 1 247 := ⟨by decide +kernel, rfl⟩
theorem nL_law_247 : Nx mL_law 247 (.aload_n 0) 1 248 := ⟨by decide +kernel, rfl⟩
theorem nL_law_248 : Nx mL_law 248 (.iload_n 3) 1 249 := ⟨by decide +kernel, rfl⟩
theorem nL_law_249 : Nx mL_law 249 (.iconst 2) 1 250 := ⟨by decide +kernel, rfl⟩
theorem nL_law_250 : Nx mL_law 250 (.iadd) 1 251 := ⟨by decide +kernel, rfl⟩
theorem nL_law_251 : Nx mL_law 251 (.iaload) 1 252 := ⟨by decide +kernel, rfl⟩
theorem nL_law_252 : Nx mL_law 252 (.invokevirtual 35) 3 255 := ⟨by decide +kernel, rfl⟩
theorem nL_law_255 : Nx mL_law 255 (.aload_n 2) 1 256 := ⟨by decide +kernel, rfl⟩
theorem nL_law_256 : Nx mL_law 256 (.aload_n 0) 1 257 := ⟨by decide +kernel, rfl⟩
theorem nL_law_257 : Nx mL_law 257 (.iload_n 3) 1 258 := ⟨by decide +kernel, rfl⟩
theorem nL_law_258 : Nx mL_law 258 (.iconst 1) 1 259 := ⟨by decide +kernel, rfl⟩
theorem nL_law_259 : Nx mL_law 259 (.iadd) 1 260 := ⟨by decide +kernel, rfl⟩
theorem nL_law_260 : Nx mL_law 260 (.iaload) 1 261 := ⟨by decide +kernel, rfl⟩
theorem nL_law_261 : Nx mL_law 261 (.aload_n 0) 1 262 := ⟨by decide +kernel, rfl⟩
theorem nL_law_262 : Nx mL_law 262 (.iload_n 3) 1 263 := ⟨by decide +kernel, rfl⟩
theorem nL_law_263 : Nx mL_law 263 (.iconst 2) 1 264 := ⟨by decide +kernel, rfl⟩
theorem nL_law_264 : Nx mL_law 264 (.iadd) 1 265 := ⟨by decide +kernel, rfl⟩
theorem nL_law_265 : Nx mL_law 265 (.iaload) 1 266 := ⟨by decide +kernel, rfl⟩
theorem nL_law_266 : Nx mL_law 266 (.invokevirtual 39) 3 269 := ⟨by decide +kernel, rfl⟩
theorem nL_law_269 : Nx mL_law 269 (.if_icmp .eq 681) 3 272 := ⟨by decide +kernel, rfl⟩
theorem nL_law_272 : Nx mL_law 272 (.iconst 0) 1 273 := ⟨by decide +kernel, rfl⟩
theorem nL_law_273 : Nx mL_law 273 (.ireturn) 1 274 := ⟨by decide +kernel, rfl⟩
theorem nL_law_274 : Nx mL_law 274 (.aload_n 1) 1 275 := ⟨by decide +kernel, rfl⟩
theorem nL_law_275 : Nx mL_law 275 (.aload_n 0) 1 276 := ⟨by decide +kernel, rfl⟩
theorem nL_law_276 : Nx mL_law 276 (.iload_n 3) 1 277 := ⟨by decide +kernel, rfl⟩
theorem nL_law_277 : Nx mL_law 277 (.iconst 1) 1 278 := ⟨by decide +kernel, rfl⟩
theorem nL_law_278 : Nx mL_law 278 (.iadd) 1 279 := ⟨by decide +kernel, rfl⟩
theorem nL_law_279 : Nx mL_law 279 (.iaload) 1 280 := ⟨by decide +kernel, rfl⟩
theorem nL_law_280 : Nx mL_law 280 (.aload_n 0) 1 281 := ⟨by decide +kernel, rfl⟩
theorem nL_law_281 : Nx mL_law 281 (.iload_n 3) 1 282 := ⟨by decide +kernel, rfl⟩
theorem nL_law_282 : Nx mL_law 282 (.iconst 2) 1 283 := ⟨by decide +kernel, rfl⟩
theorem nL_law_283 : Nx mL_law 283 (.iadd) 1 284 := ⟨by decide +kernel, rfl⟩
theorem nL_law_284 : Nx mL_law 284 (.iaload) 1 285 := ⟨by decide +kernel, rfl⟩
theorem nL_law_285 : Nx mL_law 285 (.invokevirtual 40) 3 288 := ⟨by decide +kernel, rfl⟩
theorem nL_law_288 : Nx mL_law 288 (.aload_n 2) 1 289 := ⟨by decide +kernel, rfl⟩
theorem nL_law_289 : Nx mL_law 289 (.aload_n 0) 1 290 := ⟨by decide +kernel, rfl⟩
theorem nL_law_290 : Nx mL_law 290 (.iload_n 3) 1 291 := ⟨by decide +kernel, rfl⟩
theorem nL_law_291 : Nx mL_law 291 (.iconst 1) 1 292 := ⟨by decide +kernel, rfl⟩
theorem nL_law_292 : Nx mL_law 292 (.iadd) 1 293 := ⟨by decide +kernel, rfl⟩
theorem nL_law_293 : Nx mL_law 293 (.iaload) 1 294 := ⟨by decide +kernel, rfl⟩
theorem nL_law_294 : Nx mL_law 294 (.aload_n 0) 1 295 := ⟨by decide +kernel, rfl⟩
theorem nL_law_295 : Nx mL_law 295 (.iload_n 3) 1 296 := ⟨by decide +kernel, rfl⟩
theorem nL_law_296 : Nx mL_law 296 (.iconst 2) 1 297 := ⟨by decide +kernel, rfl⟩
theorem nL_law_297 : Nx mL_law 297 (.iadd) 1 298 := ⟨by decide +kernel, rfl⟩
theorem nL_law_298 : Nx mL_law 298 (.iaload) 1 299 := ⟨by decide +kernel, rfl⟩
theorem nL_law_299 : Nx mL_law 299 (.invokevirtual 43) 3 302 := ⟨by decide +kernel, rfl⟩
theorem nL_law_302 : Nx mL_law 302 (.if_icmp .eq 648) 3 305 := ⟨by decide +kernel, rfl⟩
theorem nL_law_305 : Nx mL_law 305 (.iconst 0) 1 306 := ⟨by decide +kernel, rfl⟩
theorem nL_law_306 : Nx mL_law 306 (.ireturn) 1 307 := ⟨by decide +kernel, rfl⟩
theorem nL_law_307 : Nx mL_law 307 (.aload_n 1) 1 308 := ⟨by decide +kernel, rfl⟩
theorem nL_law_308 : Nx mL_law 308 (.aload_n 0) 1 309 := ⟨by decide +kernel, rfl⟩
theorem nL_law_309 : Nx mL_law 309 (.iload_n 3) 1 310 := ⟨by decide +kernel, rfl⟩
theorem nL_law_310 : Nx mL_law 310 (.iconst 1) 1 311 := ⟨by decide +kernel, rfl⟩
theorem nL_law_311 : Nx mL_law 311 (.iadd) 1 312 := ⟨by decide +kernel, rfl⟩
theorem nL_law_312 : Nx mL_law 312 (.iaload) 1 313 := ⟨by decide +kernel, rfl⟩
theorem nL_law_313 : Nx mL_law 313 (.aload_n 0) 1 314 := ⟨by decide +kernel, rfl⟩
theorem nL_law_314 : Nx mL_law 314 (.iload_n 3) 1 315 := ⟨by decide +kernel, rfl⟩
theorem nL_law_315 : Nx mL_law 315 (.iconst 2) 1 316 := ⟨by decide +kernel, rfl⟩
theorem nL_law_316 : Nx mL_law 316 (.iadd) 1 317 := ⟨by decide +kernel, rfl⟩
theorem nL_law_317 : Nx mL_law 317 (.iaload) 1 318 := ⟨by decide +kernel, rfl⟩
theorem nL_law_318 : Nx mL_law 318 (.invokevirtual 44) 3 321 := ⟨by decide +kernel, rfl⟩
theorem nL_law_321 : Nx mL_law 321 (.aload_n 2) 1 322 := ⟨by decide +kernel, rfl⟩
theorem nL_law_322 : Nx mL_law 322 (.aload_n 0) 1 323 := ⟨by decide +kernel, rfl⟩
theorem nL_law_323 : Nx mL_law 323 (.iload_n 3) 1 324 := ⟨by decide +kernel, rfl⟩
theorem nL_law_324 : Nx mL_law 324 (.iconst 1) 1 325 := ⟨by decide +kernel, rfl⟩
theorem nL_law_325 : Nx mL_law 325 (.iadd) 1 326 := ⟨by decide +kernel, rfl⟩
theorem nL_law_326 : Nx mL_law 326 (.iaload) 1 327 := ⟨by decide +kernel, rfl⟩
theorem nL_law_327 : Nx mL_law 327 (.aload_n 0) 1 328 := ⟨by decide +kernel, rfl⟩
theorem nL_law_328 : Nx mL_law 328 (.iload_n 3) 1 329 := ⟨by decide +kernel, rfl⟩
theorem nL_law_329 : Nx mL_law 329 (.iconst 2) 1 330 := ⟨by decide +kernel, rfl⟩
theorem nL_law_330 : Nx mL_law 330 (.iadd) 1 331 := ⟨by decide +kernel, rfl⟩
theorem nL_law_331 : Nx mL_law 331 (.iaload) 1 332 := ⟨by decide +kernel, rfl⟩
theorem nL_law_332 : Nx mL_law 332 (.invokevirtual 47) 3 335 := ⟨by decide +kernel, rfl⟩
theorem nL_law_335 : Nx mL_law 335 (.if_icmp .eq 615) 3 338 := ⟨by decide +kernel, rfl⟩
theorem nL_law_338 : Nx mL_law 338 (.iconst 0) 1 339 := ⟨by decide +kernel, rfl⟩
theorem nL_law_339 : Nx mL_law 339 (.ireturn) 1 340 := ⟨by decide +kernel, rfl⟩
theorem nL_law_340 : Nx mL_law 340 (.aload_n 1) 1 341 := ⟨by decide +kernel, rfl⟩
theorem nL_law_341 : Nx mL_law 341 (.aload_n 0) 1 342 := ⟨by decide +kernel, rfl⟩
theorem nL_law_342 : Nx mL_law 342 (.iload_n 3) 1 343 := ⟨by decide +kernel, rfl⟩
theorem nL_law_343 : Nx mL_law 343 (.iconst 1) 1 344 := ⟨by decide +kernel, rfl⟩
theorem nL_law_344 : Nx mL_law 344 (.iadd) 1 345 := ⟨by decide +kernel, rfl⟩
theorem nL_law_345 : Nx mL_law 345 (.iaload) 1 346 := ⟨by decide +kernel, rfl⟩
theorem nL_law_346 : Nx mL_law 346 (.aload_n 0) 1 347 := ⟨by decide +kernel, rfl⟩
theorem nL_law_347 : Nx mL_law 347 (.iload_n 3) 1 348 := ⟨by decide +kernel, rfl⟩
theorem nL_law_348 : Nx mL_law 348 (.iconst 2) 1 349 := ⟨by decide +kernel, rfl⟩
theorem nL_law_349 : Nx mL_law 349 (.iadd) 1 350 := ⟨by decide +kernel, rfl⟩
theorem nL_law_350 : Nx mL_law 350 (.iaload) 1 351 := ⟨by decide +kernel, rfl⟩
theorem nL_law_351 : Nx mL_law 351 (.invokevirtual 48) 3 354 := ⟨by decide +kernel, rfl⟩
theorem nL_law_354 : Nx mL_law 354 (.aload_n 2) 1 355 := ⟨by decide +kernel, rfl⟩
theorem nL_law_355 : Nx mL_law 355 (.aload_n 0) 1 356 := ⟨by decide +kernel, rfl⟩
theorem nL_law_356 : Nx mL_law 356 (.iload_n 3) 1 357 := ⟨by decide +kernel, rfl⟩
theorem nL_law_357 : Nx mL_law 357 (.iconst 1) 1 358 := ⟨by decide +kernel, rfl⟩
theorem nL_law_358 : Nx mL_law 358 (.iadd) 1 359 := ⟨by decide +kernel, rfl⟩
theorem nL_law_359 : Nx mL_law 359 (.iaload) 1 360 := ⟨by decide +kernel, rfl⟩
theorem nL_law_360 : Nx mL_law 360 (.aload_n 0) 1 361 := ⟨by decide +kernel, rfl⟩
theorem nL_law_361 : Nx mL_law 361 (.iload_n 3) 1 362 := ⟨by decide +kernel, rfl⟩
theorem nL_law_362 : Nx mL_law 362 (.iconst 2) 1 363 := ⟨by decide +kernel, rfl⟩
theorem nL_law_363 : Nx mL_law 363 (.iadd) 1 364 := ⟨by decide +kernel, rfl⟩
theorem nL_law_364 : Nx mL_law 364 (.iaload) 1 365 := ⟨by decide +kernel, rfl⟩
theorem nL_law_365 : Nx mL_law 365 (.invokevirtual 51) 3 368 := ⟨by decide +kernel, rfl⟩
theorem nL_law_368 : Nx mL_law 368 (.if_icmp .eq 582) 3 371 := ⟨by decide +kernel, rfl⟩
theorem nL_law_371 : Nx mL_law 371 (.iconst 0) 1 372 := ⟨by decide +kernel, rfl⟩
theorem nL_law_372 : Nx mL_law 372 (.ireturn) 1 373 := ⟨by decide +kernel, rfl⟩
theorem nL_law_373 : Nx mL_law 373 (.aload_n 1) 1 374 := ⟨by decide +kernel, rfl⟩
theorem nL_law_374 : Nx mL_law 374 (.aload_n 0) 1 375 := ⟨by decide +kernel, rfl⟩
theorem nL_law_375 : Nx mL_law 375 (.iload_n 3) 1 376 := ⟨by decide +kernel, rfl⟩
theorem nL_law_376 : Nx mL_law 376 (.iconst 1) 1 377 := ⟨by decide +kernel, rfl⟩
theorem nL_law_377 : Nx mL_law 377 (.iadd) 1 378 := ⟨by decide +kernel, rfl⟩
theorem nL_law_378 : Nx mL_law 378 (.iaload) 1 379 := ⟨by decide +kernel, rfl⟩
theorem nL_law_379 : Nx mL_law 379 (.aload_n 0) 1 380 := ⟨by decide +kernel, rfl⟩
theorem nL_law_380 : Nx mL_law 380 (.iload_n 3) 1 381 := ⟨by decide +kernel, rfl⟩
theorem nL_law_381 : Nx mL_law 381 (.iconst 2) 1 382 := ⟨by decide +kernel, rfl⟩
theorem nL_law_382 : Nx mL_law 382 (.iadd) 1 383 := ⟨by decide +kernel, rfl⟩
theorem nL_law_383 : Nx mL_law 383 (.iaload) 1 384 := ⟨by decide +kernel, rfl⟩
theorem nL_law_384 : Nx mL_law 384 (.aload_n 0) 1 385 := ⟨by decide +kernel, rfl⟩
theorem nL_law_385 : Nx mL_law 385 (.iload_n 3) 1 386 := ⟨by decide +kernel, rfl⟩
theorem nL_law_386 : Nx mL_law 386 (.iconst 3) 1 387 := ⟨by decide +kernel, rfl⟩
theorem nL_law_387 : Nx mL_law 387 (.iadd) 1 388 := ⟨by decide +kernel, rfl⟩
theorem nL_law_388 : Nx mL_law 388 (.iaload) 1 389 := ⟨by decide +kernel, rfl⟩
theorem nL_law_389 : Nx mL_law 389 (.invokevirtual 52) 3 392 := ⟨by decide +kernel, rfl⟩
theorem nL_law_392 : Nx mL_law 392 (.aload_n 2) 1 393 := ⟨by decide +kernel, rfl⟩
theorem nL_law_393 : Nx mL_law 393 (.aload_n 0) 1 394 := ⟨by decide +kernel, rfl⟩
theorem nL_law_394 : Nx mL_law 394 (.iload_n 3) 1 395 := ⟨by decide +kernel, rfl⟩
theorem nL_law_395 : Nx mL_law 395 (.iconst 1) 1 396 := ⟨by decide +kernel, rfl⟩
theorem nL_law_396 : Nx mL_law 396 (.iadd) 1 397 := ⟨by decide +kernel, rfl⟩
theorem nL_law_397 : Nx mL_law 397 (.iaload) 1 398 := ⟨by decide +kernel, rfl⟩
theorem nL_law_398 : Nx mL_law 398 (.aload_n 0) 1 399 := ⟨by decide +kernel, rfl⟩
theorem nL_law_399 : Nx mL_law 399 (.iload_n 3) 1 400 := ⟨by decide +kernel, rfl⟩
theorem nL_law_400 : Nx mL_law 400 (.iconst 2) 1 401 := ⟨by decide +kernel, rfl⟩
theorem nL_law_401 : Nx mL_law 401 (.iadd) 1 402 := ⟨by decide +kernel, rfl⟩
theorem nL_law_402 : Nx mL_law 402 (.iaload) 1 403 := ⟨by decide +kernel, rfl⟩
theorem nL_law_403 : Nx mL_law 403 (.aload_n 0) 1 404 := ⟨by decide +kernel, rfl⟩
theorem nL_law_404 : Nx mL_law 404 (.iload_n 3) 1 405 := ⟨by decide +kernel, rfl⟩
theorem nL_law_405 : Nx mL_law 405 (.iconst 3) 1 406 := ⟨by decide +kernel, rfl⟩
theorem nL_law_406 : Nx mL_law 406 (.iadd) 1 407 := ⟨by decide +kernel, rfl⟩
theorem nL_law_407 : Nx mL_law 407 (.iaload) 1 408 := ⟨by decide +kernel, rfl⟩
theorem nL_law_408 : Nx mL_law 408 (.invokevirtual 56) 3 411 := ⟨by decide +kernel, rfl⟩
theorem nL_law_411 : Nx mL_law 411 (.if_icmp .eq 539) 3 414 := ⟨by decide +kernel, rfl⟩
theorem nL_law_414 : Nx mL_law 414 (.iconst 0) 1 415 := ⟨by decide +kernel, rfl⟩
theorem nL_law_415 : Nx mL_law 415 (.ireturn) 1 416 := ⟨by decide +kernel, rfl⟩
theorem nL_law_416 : Nx mL_law 416 (.aload_n 1) 1 417 := ⟨by decide +kernel, rfl⟩
theorem nL_law_417 : Nx mL_law 417 (.invokevirtual 57) 3 420 := ⟨by decide +kernel, rfl⟩
theorem nL_law_420 : Nx mL_law 420 (.aload_n 2) 1 421 := ⟨by decide +kernel, rfl⟩
theorem nL_law_421 : Nx mL_law 421 (.invokevirtual 60) 3 424 := ⟨by decide +kernel, rfl⟩
theorem nL_law_424 : Nx mL_law 424 (.if_icmp .eq 526) 3 427 := ⟨by decide +kernel, rfl⟩
theorem nL_law_427 : Nx mL_law 427 (.iconst 0) 1 428 := ⟨by decide +kernel, rfl⟩
theorem nL_law_428 : Nx mL_law 428 (.ireturn) 1 429 := ⟨by decide +kernel, rfl⟩
theorem nL_law_429 : Nx mL_law 429 (.aload_n 1) 1 430 := ⟨by decide +kernel, rfl⟩
theorem nL_law_430 : Nx mL_law 430 (.invokevirtual 61) 3 433 := ⟨by decide +kernel, rfl⟩
theorem nL_law_433 : Nx mL_law 433 (.aload_n 2) 1 434 := ⟨by decide +kernel, rfl⟩
theorem nL_law_434 : Nx mL_law 434 (.invokevirtual 64) 3 437 := ⟨by decide +kernel, rfl⟩
theorem nL_law_437 : Nx mL_law 437 (.if_icmp .eq 513) 3 440 := ⟨by decide +kernel, rfl⟩
theorem nL_law_440 : Nx mL_law 440 (.iconst 0) 1 441 := ⟨by decide +kernel, rfl⟩
theorem nL_law_441 : Nx mL_law 441 (.ireturn) 1 442 := ⟨by decide +kernel, rfl⟩
theorem nL_law_442 : Nx mL_law 442 (.aload_n 1) 1 443 := ⟨by decide +kernel, rfl⟩
theorem nL_law_443 : Nx mL_law 443 (.invokevirtual 65) 3 446 := ⟨by decide +kernel, rfl⟩
theorem nL_law_446 : Nx mL_law 446 (.aload_n 2) 1 447 := ⟨by decide +kernel, rfl⟩
theorem nL_law_447 : Nx mL_law 447 (.invokevirtual 68) 3 450 := ⟨by decide +kernel, rfl⟩
theorem nL_law_450 : Nx mL_law 450 (.if_icmp .eq 500) 3 453 := ⟨by decide +kernel, rfl⟩
theorem nL_law_453 : Nx mL_law 453 (.iconst 0) 1 454 := ⟨by decide +kernel, rfl⟩
theorem nL_law_454 : Nx mL_law 454 (.ireturn) 1 455 := ⟨by decide +kernel, rfl⟩
theorem nL_law_455 : Nx mL_law 455 (.aload_n 1) 1 456 := ⟨by decide +kernel, rfl⟩
theorem nL_law_456 : Nx mL_law 456 (.aload_n 0) 1 457 := ⟨by decide +kernel, rfl⟩
theorem nL_law_457 : Nx mL_law 457 (.iload_n 3) 1 458 := ⟨by decide +kernel, rfl⟩
theorem nL_law_458 : Nx mL_law 458 (.iconst 1) 1 459 := ⟨by decide +kernel, rfl⟩
theorem nL_law_459 : Nx mL_law 459 (.iadd) 1 460 := ⟨by decide +kernel, rfl⟩
theorem nL_law_460 : Nx mL_law 460 (.iaload) 1 461 := ⟨by decide +kernel, rfl⟩
theorem nL_law_461 : Nx mL_law 461 (.aload_n 0) 1 462 := ⟨by decide +kernel, rfl⟩
theorem nL_law_462 : Nx mL_law 462 (.iload_n 3) 1 463 := ⟨by decide +kernel, rfl⟩
theorem nL_law_463 : Nx mL_law 463 (.iconst 2) 1 464 := ⟨by decide +kernel, rfl⟩
theorem nL_law_464 : Nx mL_law 464 (.iadd) 1 465 := ⟨by decide +kernel, rfl⟩
theorem nL_law_465 : Nx mL_law 465 (.iaload) 1 466 := ⟨by decide +kernel, rfl⟩
theorem nL_law_466 : Nx mL_law 466 (.invokevirtual 69) 3 469 := ⟨by decide +kernel, rfl⟩
theorem nL_law_469 : Nx mL_law 469 (.aload_n 2) 1 470 := ⟨by decide +kernel, rfl⟩
theorem nL_law_470 : Nx mL_law 470 (.aload_n 0) 1 471 := ⟨by decide +kernel, rfl⟩
theorem nL_law_471 : Nx mL_law 471 (.iload_n 3) 1 472 := ⟨by decide +kernel, rfl⟩
theorem nL_law_472 : Nx mL_law 472 (.iconst 1) 1 473 := ⟨by decide +kernel, rfl⟩
theorem nL_law_473 : Nx mL_law 473 (.iadd) 1 474 := ⟨by decide +kernel, rfl⟩
theorem nL_law_474 : Nx mL_law 474 (.iaload) 1 475 := ⟨by decide +kernel, rfl⟩
theorem nL_law_475 : Nx mL_law 475 (.aload_n 0) 1 476 := ⟨by decide +kernel, rfl⟩
theorem nL_law_476 : Nx mL_law 476 (.iload_n 3) 1 477 := ⟨by decide +kernel, rfl⟩
theorem nL_law_477 : Nx mL_law 477 (.iconst 2) 1 478 := ⟨by decide +kernel, rfl⟩
theorem nL_law_478 : Nx mL_law 478 (.iadd) 1 479 := ⟨by decide +kernel, rfl⟩
theorem nL_law_479 : Nx mL_law 479 (.iaload) 1 480 := ⟨by decide +kernel, rfl⟩
theorem nL_law_480 : Nx mL_law 480 (.invokevirtual 72) 3 483 := ⟨by decide +kernel, rfl⟩
theorem nL_law_483 : Nx mL_law 483 (.if_icmp .eq 467) 3 486 := ⟨by decide +kernel, rfl⟩
theorem nL_law_486 : Nx mL_law 486 (.iconst 0) 1 487 := ⟨by decide +kernel, rfl⟩
theorem nL_law_487 : Nx mL_law 487 (.ireturn) 1 488 := ⟨by decide +kernel, rfl⟩
theorem nL_law_488 : Nx mL_law 488 (.aload_n 1) 1 489 := ⟨by decide +kernel, rfl⟩
theorem nL_law_489 : Nx mL_law 489 (.aload_n 0) 1 490 := ⟨by decide +kernel, rfl⟩
theorem nL_law_490 : Nx mL_law 490 (.iload_n 3) 1 491 := ⟨by decide +kernel, rfl⟩
theorem nL_law_491 : Nx mL_law 491 (.iconst 1) 1 492 := ⟨by decide +kernel, rfl⟩
theorem nL_law_492 : Nx mL_law 492 (.iadd) 1 493 := ⟨by decide +kernel, rfl⟩
theorem nL_law_493 : Nx mL_law 493 (.iaload) 1 494 := ⟨by decide +kernel, rfl⟩
theorem nL_law_494 : Nx mL_law 494 (.invokevirtual 73) 3 497 := ⟨by decide +kernel, rfl⟩
theorem nL_law_497 : Nx mL_law 497 (.aload_n 2) 1 498 := ⟨by decide +kernel, rfl⟩
theorem nL_law_498 : Nx mL_law 498 (.aload_n 0) 1 499 := ⟨by decide +kernel, rfl⟩
theorem nL_law_499 : Nx mL_law 499 (.iload_n 3) 1 500 := ⟨by decide +kernel, rfl⟩
theorem nL_law_500 : Nx mL_law 500 (.iconst 1) 1 501 := ⟨by decide +kernel, rfl⟩
theorem nL_law_501 : Nx mL_law 501 (.iadd) 1 502 := ⟨by decide +kernel, rfl⟩
theorem nL_law_502 : Nx mL_law 502 (.iaload) 1 503 := ⟨by decide +kernel, rfl⟩
theorem nL_law_503 : Nx mL_law 503 (.invokevirtual 76) 3 506 := ⟨by decide +kernel, rfl⟩
theorem nL_law_506 : Nx mL_law 506 (.if_icmp .eq 444) 3 509 := ⟨by decide +kernel, rfl⟩
theorem nL_law_509 : Nx mL_law 509 (.iconst 0) 1 510 := ⟨by decide +kernel, rfl⟩
theorem nL_law_510 : Nx mL_law 510 (.ireturn) 1 511 := ⟨by decide +kernel, rfl⟩
theorem nL_law_511 : Nx mL_law 511 (.aload_n 1) 1 512 := ⟨by decide +kernel, rfl⟩
theorem nL_law_512 : Nx mL_law 512 (.aload_n 0) 1 513 := ⟨by decide +kernel, rfl⟩
theorem nL_law_513 : Nx mL_law 513 (.iload_n 3) 1 514 := ⟨by decide +kernel, rfl⟩
theorem nL_law_514 : Nx mL_law 514 (.iconst 1) 1 515 := ⟨by decide +kernel, rfl⟩
theorem nL_law_515 : Nx mL_law 515 (.iadd) 1 516 := ⟨by decide +kernel, rfl⟩
theorem nL_law_516 : Nx mL_law 516 (.iaload) 1 517 := ⟨by decide +kernel, rfl⟩
theorem nL_law_517 : Nx mL_law 517 (.invokevirtual 77) 3 520 := ⟨by decide +kernel, rfl⟩
theorem nL_law_520 : Nx mL_law 520 (.aload_n 2) 1 521 := ⟨by decide +kernel, rfl⟩
theorem nL_law_521 : Nx mL_law 521 (.aload_n 0) 1 522 := ⟨by decide +kernel, rfl⟩
theorem nL_law_522 : Nx mL_law 522 (.iload_n 3) 1 523 := ⟨by decide +kernel, rfl⟩
theorem nL_law_523 : Nx mL_law 523 (.iconst 1) 1 524 := ⟨by decide +kernel, rfl⟩
theorem nL_law_524 : Nx mL_law 524 (.iadd) 1 525 := ⟨by decide +kernel, rfl⟩
theorem nL_law_525 : Nx mL_law 525 (.iaload) 1 526 := ⟨by decide +kernel, rfl⟩
theorem nL_law_526 : Nx mL_law 526 (.invokevirtual 80) 3 529 := ⟨by decide +kernel, rfl⟩
theorem nL_law_529 : Nx mL_law 529 (.if_icmp .eq 421) 3 532 := ⟨by decide +kernel, rfl⟩
theorem nL_law_532 : Nx mL_law 532 (.iconst 0) 1 533 := ⟨by decide +kernel, rfl⟩
theorem nL_law_533 : Nx mL_law 533 (.ireturn) 1 534 := ⟨by decide +kernel, rfl⟩
theorem nL_law_534 : Nx mL_law 534 (.aload_n 1) 1 535 := ⟨by decide +kernel, rfl⟩
theorem nL_law_535 : Nx mL_law 535 (.aload_n 0) 1 536 := ⟨by decide +kernel, rfl⟩
theorem nL_law_536 : Nx mL_law 536 (.iload_n 3) 1 537 := ⟨by decide +kernel, rfl⟩
theorem nL_law_537 : Nx mL_law 537 (.iconst 1) 1 538 := ⟨by decide +kernel, rfl⟩
theorem nL_law_538 : Nx mL_law 538 (.iadd) 1 539 := ⟨by decide +kernel, rfl⟩
theorem nL_law_539 : Nx mL_law 539 (.iaload) 1 540 := ⟨by decide +kernel, rfl⟩
theorem nL_law_540 : Nx mL_law 540 (.aload_n 0) 1 541 := ⟨by decide +kernel, rfl⟩
theorem nL_law_541 : Nx mL_law 541 (.iload_n 3) 1 542 := ⟨by decide +kernel, rfl⟩
theorem nL_law_542 : Nx mL_law 542 (.iconst 2) 1 543 := ⟨by decide +kernel, rfl⟩
theorem nL_law_543 : Nx mL_law 543 (.iadd) 1 544 := ⟨by decide +kernel, rfl⟩
theorem nL_law_544 : Nx mL_law 544 (.iaload) 1 545 := ⟨by decide +kernel, rfl⟩
theorem nL_law_545 : Nx mL_law 545 (.i2l) 1 546 := ⟨by decide +kernel, rfl⟩
theorem nL_law_546 : Nx mL_law 546 (.bipush 32) 2 548 := ⟨by decide +kernel, rfl⟩
theorem nL_law_548 : Nx mL_law 548 (.lshl) 1 549 := ⟨by decide +kernel, rfl⟩
theorem nL_law_549 : Nx mL_law 549 (.aload_n 0) 1 550 := ⟨by decide +kernel, rfl⟩
theorem nL_law_550 : Nx mL_law 550 (.iload_n 3) 1 551 := ⟨by decide +kernel, rfl⟩
theorem nL_law_551 : Nx mL_law 551 (.iconst 3) 1 552 := ⟨by decide +kernel, rfl⟩
theorem nL_law_552 : Nx mL_law 552 (.iadd) 1 553 := ⟨by decide +kernel, rfl⟩
theorem nL_law_553 : Nx mL_law 553 (.iaload) 1 554 := ⟨by decide +kernel, rfl⟩
theorem nL_law_554 : Nx mL_law 554 (.i2l) 1 555 := ⟨by decide +kernel, rfl⟩
theorem nL_law_555 : Nx mL_law 555 (.ldc2_w 81) 3 558 := ⟨by decide +kernel, rfl⟩
theorem nL_law_558 : Nx mL_law 558 (.land) 1 559 := ⟨by decide +kernel, rfl⟩
theorem nL_law_559 : Nx mL_law 559 (.lor) 1 560 := ⟨by decide +kernel, rfl⟩
theorem nL_law_560 : Nx mL_law 560 (.invokevirtual 83) 3 563 := ⟨by decide +kernel, rfl⟩
theorem nL_law_563 : Nx mL_law 563 (.aload_n 2) 1 564 := ⟨by decide +kernel, rfl⟩
theorem nL_law_564 : Nx mL_law 564 (.aload_n 0) 1 565 := ⟨by decide +kernel, rfl⟩
theorem nL_law_565 : Nx mL_law 565 (.iload_n 3) 1 566 := ⟨by decide +kernel, rfl⟩
theorem nL_law_566 : Nx mL_law 566 (.iconst 1) 1 567 := ⟨by decide +kernel, rfl⟩
theorem nL_law_567 : Nx mL_law 567 (.iadd) 1 568 := ⟨by decide +kernel, rfl⟩
theorem nL_law_568 : Nx mL_law 568 (.iaload) 1 569 := ⟨by decide +kernel, rfl⟩
theorem nL_law_569 : Nx mL_law 569 (.aload_n 0) 1 570 := ⟨by decide +kernel, rfl⟩
theorem nL_law_570 : Nx mL_law 570 (.iload_n 3) 1 571 := ⟨by decide +kernel, rfl⟩
theorem nL_law_571 : Nx mL_law 571 (.iconst 2) 1 572 := ⟨by decide +kernel, rfl⟩
theorem nL_law_572 : Nx mL_law 572 (.iadd) 1 573 := ⟨by decide +kernel, rfl⟩
theorem nL_law_573 : Nx mL_law 573 (.iaload) 1 574 := ⟨by decide +kernel, rfl⟩
theorem nL_law_574 : Nx mL_law 574 (.i2l) 1 575 := ⟨by decide +kernel, rfl⟩
theorem nL_law_575 : Nx mL_law 575 (.bipush 32) 2 577 := ⟨by decide +kernel, rfl⟩
theorem nL_law_577 : Nx mL_law 577 (.lshl) 1 578 := ⟨by decide +kernel, rfl⟩
theorem nL_law_578 : Nx mL_law 578 (.aload_n 0) 1 579 := ⟨by decide +kernel, rfl⟩
theorem nL_law_579 : Nx mL_law 579 (.iload_n 3) 1 580 := ⟨by decide +kernel, rfl⟩
theorem nL_law_580 : Nx mL_law 580 (.iconst 3) 1 581 := ⟨by decide +kernel, rfl⟩
theorem nL_law_581 : Nx mL_law 581 (.iadd) 1 582 := ⟨by decide +kernel, rfl⟩
theorem nL_law_582 : Nx mL_law 582 (.iaload) 1 583 := ⟨by decide +kernel, rfl⟩
theorem nL_law_583 : Nx mL_law 583 (.i2l) 1 584 := ⟨by decide +kernel, rfl⟩
theorem nL_law_584 : Nx mL_law 584 (.ldc2_w 81) 3 587 := ⟨by decide +kernel, rfl⟩
theorem nL_law_587 : Nx mL_law 587 (.land) 1 588 := ⟨by decide +kernel, rfl⟩
theorem nL_law_588 : Nx mL_law 588 (.lor) 1 589 := ⟨by decide +kernel, rfl⟩
theorem nL_law_589 : Nx mL_law 589 (.invokevirtual 87) 3 592 := ⟨by decide +kernel, rfl⟩
theorem nL_law_592 : Nx mL_law 592 (.if_icmp .eq 358) 3 595 := ⟨by decide +kernel, rfl⟩
theorem nL_law_595 : Nx mL_law 595 (.iconst 0) 1 596 := ⟨by decide +kernel, rfl⟩
theorem nL_law_596 : Nx mL_law 596 (.ireturn) 1 597 := ⟨by decide +kernel, rfl⟩
theorem nL_law_597 : Nx mL_law 597 (.aload_n 1) 1 598 := ⟨by decide +kernel, rfl⟩
theorem nL_law_598 : Nx mL_law 598 (.aload_n 0) 1 599 := ⟨by decide +kernel, rfl⟩
theorem nL_law_599 : Nx mL_law 599 (.iload_n 3) 1 600 := ⟨by decide +kernel, rfl⟩
theorem nL_law_600 : Nx mL_law 600 (.iconst 1) 1 601 := ⟨by decide +kernel, rfl⟩
theorem nL_law_601 : Nx mL_law 601 (.iadd) 1 602 := ⟨by decide +kernel, rfl⟩
theorem nL_law_602 : Nx mL_law 602 (.iaload) 1 603 := ⟨by decide +kernel, rfl⟩
theorem nL_law_603 : Nx mL_law 603 (.aload_n 0) 1 604 := ⟨by decide +kernel, rfl⟩
theorem nL_law_604 : Nx mL_law 604 (.iload_n 3) 1 605 := ⟨by decide +kernel, rfl⟩
theorem nL_law_605 : Nx mL_law 605 (.iconst 2) 1 606 := ⟨by decide +kernel, rfl⟩
theorem nL_law_606 : Nx mL_law 606 (.iadd) 1 607 := ⟨by decide +kernel, rfl⟩
theorem nL_law_607 : Nx mL_law 607 (.iaload) 1 608 := ⟨by decide +kernel, rfl⟩
theorem nL_law_608 : Nx mL_law 608 (.ifCond .eq 7) 3 611 := ⟨by decide +kernel, rfl⟩
theorem nL_law_611 : Nx mL_law 611 (.iconst 1) 1 612 := ⟨by decide +kernel, rfl⟩
theorem nL_law_612 : Nx mL_law 612 (.goto 4) 3 615 := ⟨by decide +kernel, rfl⟩
theorem nL_law_615 : Nx mL_law 615 (.iconst 0) 1 616 := ⟨by decide +kernel, rfl⟩
theorem nL_law_616 : Nx mL_law 616 (.invokevirtual 88) 3 619 := ⟨by decide +kernel, rfl⟩
theorem nL_law_619 : Nx mL_law 619 (.aload_n 2) 1 620 := ⟨by decide +kernel, rfl⟩
theorem nL_law_620 : Nx mL_law 620 (.aload_n 0) 1 621 := ⟨by decide +kernel, rfl⟩
theorem nL_law_621 : Nx mL_law 621 (.iload_n 3) 1 622 := ⟨by decide +kernel, rfl⟩
theorem nL_law_622 : Nx mL_law 622 (.iconst 1) 1 623 := ⟨by decide +kernel, rfl⟩
theorem nL_law_623 : Nx mL_law 623 (.iadd) 1 624 := ⟨by decide +kernel, rfl⟩
theorem nL_law_624 : Nx mL_law 624 (.iaload) 1 625 := ⟨by decide +kernel, rfl⟩
theorem nL_law_625 : Nx mL_law 625 (.aload_n 0) 1 626 := ⟨by decide +kernel, rfl⟩
theorem nL_law_626 : Nx mL_law 626 (.iload_n 3) 1 627 := ⟨by decide +kernel, rfl⟩
theorem nL_law_627 : Nx mL_law 627 (.iconst 2) 1 628 := ⟨by decide +kernel, rfl⟩
theorem nL_law_628 : Nx mL_law 628 (.iadd) 1 629 := ⟨by decide +kernel, rfl⟩
theorem nL_law_629 : Nx mL_law 629 (.iaload) 1 630 := ⟨by decide +kernel, rfl⟩
theorem nL_law_630 : Nx mL_law 630 (.ifCond .eq 7) 3 633 := ⟨by decide +kernel, rfl⟩
theorem nL_law_633 : Nx mL_law 633 (.iconst 1) 1 634 := ⟨by decide +kernel, rfl⟩
theorem nL_law_634 : Nx mL_law 634 (.goto 4) 3 637 := ⟨by decide +kernel, rfl⟩
theorem nL_law_637 : Nx mL_law 637 (.iconst 0) 1 638 := ⟨by decide +kernel, rfl⟩
theorem nL_law_638 : Nx mL_law 638 (.invokevirtual 92) 3 641 := ⟨by decide +kernel, rfl⟩
theorem nL_law_641 : Nx mL_law 641 (.if_icmp .eq 309) 3 644 := ⟨by decide +kernel, rfl⟩
theorem nL_law_644 : Nx mL_law 644 (.iconst 0) 1 645 := ⟨by decide +kernel, rfl⟩
theorem nL_law_645 : Nx mL_law 645 (.ireturn) 1 646 := ⟨by decide +kernel, rfl⟩
theorem nL_law_646 : Nx mL_law 646 (.aload_n 1) 1 647 := ⟨by decide +kernel, rfl⟩
theorem nL_law_647 : Nx mL_law 647 (.aload_n 0) 1 648 := ⟨by decide +kernel, rfl⟩
theorem nL_law_648 : Nx mL_law 648 (.iload_n 3) 1 649 := ⟨by decide +kernel, rfl⟩
theorem nL_law_649 : Nx mL_law 649 (.iconst 1) 1 650 := ⟨by decide +kernel, rfl⟩
theorem nL_law_650 : Nx mL_law 650 (.iadd) 1 651 := ⟨by decide +kernel, rfl⟩
theorem nL_law_651 : Nx mL_law 651 (.iaload) 1 652 := ⟨by decide +kernel, rfl⟩
theorem nL_law_652 : Nx mL_law 652 (.aload_n 0) 1 653 := ⟨by decide +kernel, rfl⟩
theorem nL_law_653 : Nx mL_law 653 (.iload_n 3) 1 654 := ⟨by decide +kernel, rfl⟩
theorem nL_law_654 : Nx mL_law 654 (.iconst 2) 1 655 := ⟨by decide +kernel, rfl⟩
theorem nL_law_655 : Nx mL_law 655 (.iadd) 1 656 := ⟨by decide +kernel, rfl⟩
theorem nL_law_656 : Nx mL_law 656 (.iaload) 1 657 := ⟨by decide +kernel, rfl⟩
theorem nL_law_657 : Nx mL_law 657 (.invokevirtual 93) 3 660 := ⟨by decide +kernel, rfl⟩
theorem nL_law_660 : Nx mL_law 660 (.aload_n 2) 1 661 := ⟨by decide +kernel, rfl⟩
theorem nL_law_661 : Nx mL_law 661 (.aload_n 0) 1 662 := ⟨by decide +kernel, rfl⟩
theorem nL_law_662 : Nx mL_law 662 (.iload_n 3) 1 663 := ⟨by decide +kernel, rfl⟩
theorem nL_law_663 : Nx mL_law 663 (.iconst 1) 1 664 := ⟨by decide +kernel, rfl⟩
theorem nL_law_664 : Nx mL_law 664 (.iadd) 1 665 := ⟨by decide +kernel, rfl⟩
theorem nL_law_665 : Nx mL_law 665 (.iaload) 1 666 := ⟨by decide +kernel, rfl⟩
theorem nL_law_666 : Nx mL_law 666 (.aload_n 0) 1 667 := ⟨by decide +kernel, rfl⟩
theorem nL_law_667 : Nx mL_law 667 (.iload_n 3) 1 668 := ⟨by decide +kernel, rfl⟩
theorem nL_law_668 : Nx mL_law 668 (.iconst 2) 1 669 := ⟨by decide +kernel, rfl⟩
theorem nL_law_669 : Nx mL_law 669 (.iadd) 1 670 := ⟨by decide +kernel, rfl⟩
theorem nL_law_670 : Nx mL_law 670 (.iaload) 1 671 := ⟨by decide +kernel, rfl⟩
theorem nL_law_671 : Nx mL_law 671 (.invokevirtual 96) 3 674 := ⟨by decide +kernel, rfl⟩
theorem nL_law_674 : Nx mL_law 674 (.if_icmp .eq 276) 3 677 := ⟨by decide +kernel, rfl⟩
theorem nL_law_677 : Nx mL_law 677 (.iconst 0) 1 678 := ⟨by decide +kernel, rfl⟩
theorem nL_law_678 : Nx mL_law 678 (.ireturn) 1 679 := ⟨by decide +kernel, rfl⟩
theorem nL_law_679 : Nx mL_law 679 (.aload_n 1) 1 680 := ⟨by decide +kernel, rfl⟩
theorem nL_law_680 : Nx mL_law 680 (.invokevirtual 97) 3 683 := ⟨by decide +kernel, rfl⟩
theorem nL_law_683 : Nx mL_law 683 (.aload_n 2) 1 684 := ⟨by decide +kernel, rfl⟩
theorem nL_law_684 : Nx mL_law 684 (.invokevirtual 100) 3 687 := ⟨by decide +kernel, rfl⟩
theorem nL_law_687 : Nx mL_law 687 (.if_icmp .eq 263) 3 690 := ⟨by decide +kernel, rfl⟩
theorem nL_law_690 : Nx mL_law 690 (.iconst 0) 1 691 := ⟨by decide +kernel, rfl⟩
theorem nL_law_691 : Nx mL_law 691 (.ireturn) 1 692 := ⟨by decide +kernel, rfl⟩
theorem nL_law_692 : Nx mL_law 692 (.aload_n 1) 1 693 := ⟨by decide +kernel, rfl⟩
theorem nL_law_693 : Nx mL_law 693 (.aload_n 0) 1 694 := ⟨by decide +kernel, rfl⟩
theorem nL_law_694 : Nx mL_law 694 (.iload_n 3) 1 695 := ⟨by decide +kernel, rfl⟩
theorem nL_law_695 : Nx mL_law 695 (.iconst 1) 1 696 := ⟨by decide +kernel, rfl⟩
theorem nL_law_696 : Nx mL_law 696 (.iadd) 1 697 := ⟨by decide +kernel, rfl⟩
theorem nL_law_697 : Nx mL_law 697 (.iaload) 1 698 := ⟨by decide +kernel, rfl⟩
theorem nL_law_698 : Nx mL_law 698 (.invokevirtual 101) 3 701 := ⟨by decide +kernel, rfl⟩
theorem nL_law_701 : Nx mL_law 701 (.aload_n 2) 1 702 := ⟨by decide +kernel, rfl⟩
theorem nL_law_702 : Nx mL_law 702 (.aload_n 0) 1 703 := ⟨by decide +kernel, rfl⟩
theorem nL_law_703 : Nx mL_law 703 (.iload_n 3) 1 704 := ⟨by decide +kernel, rfl⟩
theorem nL_law_704 : Nx mL_law 704 (.iconst 1) 1 705 := ⟨by decide +kernel, rfl⟩
theorem nL_law_705 : Nx mL_law 705 (.iadd) 1 706 := ⟨by decide +kernel, rfl⟩
theorem nL_law_706 : Nx mL_law 706 (.iaload) 1 707 := ⟨by decide +kernel, rfl⟩
theorem nL_law_707 : Nx mL_law 707 (.invokevirtual 104) 3 710 := ⟨by decide +kernel, rfl⟩
theorem nL_law_710 : Nx mL_law 710 (.if_icmp .eq 240) 3 713 := ⟨by decide +kernel, rfl⟩
theorem nL_law_713 : Nx mL_law 713 (.iconst 0) 1 714 := ⟨by decide +kernel, rfl⟩
theorem nL_law_714 : Nx mL_law 714 (.ireturn) 1 715 := ⟨by decide +kernel, rfl⟩
theorem nL_law_715 : Nx mL_law 715 (.aload_n 1) 1 716 := ⟨by decide +kernel, rfl⟩
theorem nL_law_716 : Nx mL_law 716 (.aload_n 0) 1 717 := ⟨by decide +kernel, rfl⟩
theorem nL_law_717 : Nx mL_law 717 (.iload_n 3) 1 718 := ⟨by decide +kernel, rfl⟩
theorem nL_law_718 : Nx mL_law 718 (.iconst 1) 1 719 := ⟨by decide +kernel, rfl⟩
theorem nL_law_719 : Nx mL_law 719 (.iadd) 1 720 := ⟨by decide +kernel, rfl⟩
theorem nL_law_720 : Nx mL_law 720 (.iaload) 1 721 := ⟨by decide +kernel, rfl⟩
theorem nL_law_721 : Nx mL_law 721 (.aload_n 0) 1 722 := ⟨by decide +kernel, rfl⟩
theorem nL_law_722 : Nx mL_law 722 (.iload_n 3) 1 723 := ⟨by decide +kernel, rfl⟩
theorem nL_law_723 : Nx mL_law 723 (.iconst 2) 1 724 := ⟨by decide +kernel, rfl⟩
theorem nL_law_724 : Nx mL_law 724 (.iadd) 1 725 := ⟨by decide +kernel, rfl⟩
theorem nL_law_725 : Nx mL_law 725 (.iaload) 1 726 := ⟨by decide +kernel, rfl⟩
theorem nL_law_726 : Nx mL_law 726 (.aload_n 0) 1 727 := ⟨by decide +kernel, rfl⟩
theorem nL_law_727 : Nx mL_law 727 (.iload_n 3) 1 728 := ⟨by decide +kernel, rfl⟩
theorem nL_law_728 : Nx mL_law 728 (.iconst 3) 1 729 := ⟨by decide +kernel, rfl⟩
theorem nL_law_729 : Nx mL_law 729 (.iadd) 1 730 := ⟨by decide +kernel, rfl⟩
theorem nL_law_730 : Nx mL_law 730 (.iaload) 1 731 := ⟨by decide +kernel, rfl⟩
theorem nL_law_731 : Nx mL_law 731 (.aload_n 0) 1 732 := ⟨by decide +kernel, rfl⟩
theorem nL_law_732 : Nx mL_law 732 (.iload_n 3) 1 733 := ⟨by decide +kernel, rfl⟩
theorem nL_law_733 : Nx mL_law 733 (.iconst 4) 1 734 := ⟨by decide +kernel, rfl⟩
theorem nL_law_734 : Nx mL_law 734 (.iadd) 1 735 := ⟨by decide +kernel, rfl⟩
theorem nL_law_735 : Nx mL_law 735 (.iaload) 1 736 := ⟨by decide +kernel, rfl⟩
theorem nL_law_736 : Nx mL_law 736 (.invokevirtual 105) 3 739 := ⟨by decide +kernel, rfl⟩
theorem nL_law_739 : Nx mL_law 739 (.aload_n 2) 1 740 := ⟨by decide +kernel, rfl⟩
theorem nL_law_740 : Nx mL_law 740 (.aload_n 0) 1 741 := ⟨by decide +kernel, rfl⟩
theorem nL_law_741 : Nx mL_law 741 (.iload_n 3) 1 742 := ⟨by decide +kernel, rfl⟩
theorem nL_law_742 : Nx mL_law 742 (.iconst 1) 1 743 := ⟨by decide +kernel, rfl⟩
theorem nL_law_743 : Nx mL_law 743 (.iadd) 1 744 := ⟨by decide +kernel, rfl⟩
theorem nL_law_744 : Nx mL_law 744 (.iaload) 1 745 := ⟨by decide +kernel, rfl⟩
theorem nL_law_745 : Nx mL_law 745 (.aload_n 0) 1 746 := ⟨by decide +kernel, rfl⟩
theorem nL_law_746 : Nx mL_law 746 (.iload_n 3) 1 747 := ⟨by decide +kernel, rfl⟩
theorem nL_law_747 : Nx mL_law 747 (.iconst 2) 1 748 := ⟨by decide +kernel, rfl⟩
theorem nL_law_748 : Nx mL_law 748 (.iadd) 1 749 := ⟨by decide +kernel, rfl⟩
theorem nL_law_749 : Nx mL_law 749 (.iaload) 1 750 := ⟨by decide +kernel, rfl⟩
theorem nL_law_750 : Nx mL_law 750 (.aload_n 0) 1 751 := ⟨by decide +kernel, rfl⟩
theorem nL_law_751 : Nx mL_law 751 (.iload_n 3) 1 752 := ⟨by decide +kernel, rfl⟩
theorem nL_law_752 : Nx mL_law 752 (.iconst 3) 1 753 := ⟨by decide +kernel, rfl⟩
theorem nL_law_753 : Nx mL_law 753 (.iadd) 1 754 := ⟨by decide +kernel, rfl⟩
theorem nL_law_754 : Nx mL_law 754 (.iaload) 1 755 := ⟨by decide +kernel, rfl⟩
theorem nL_law_755 : Nx mL_law 755 (.aload_n 0) 1 756 := ⟨by decide +kernel, rfl⟩
theorem nL_law_756 : Nx mL_law 756 (.iload_n 3) 1 757 := ⟨by decide +kernel, rfl⟩
theorem nL_law_757 : Nx mL_law 757 (.iconst 4) 1 758 := ⟨by decide +kernel, rfl⟩
theorem nL_law_758 : Nx mL_law 758 (.iadd) 1 759 := ⟨by decide +kernel, rfl⟩
theorem nL_law_759 : Nx mL_law 759 (.iaload) 1 760 := ⟨by decide +kernel, rfl⟩
theorem nL_law_760 : Nx mL_law 760 (.invokevirtual 109) 3 763 := ⟨by decide +kernel, rfl⟩
theorem nL_law_763 : Nx mL_law 763 (.if_icmp .eq 187) 3 766 := ⟨by decide +kernel, rfl⟩
theorem nL_law_766 : Nx mL_law 766 (.iconst 0) 1 767 := ⟨by decide +kernel, rfl⟩
theorem nL_law_767 : Nx mL_law 767 (.ireturn) 1 768 := ⟨by decide +kernel, rfl⟩
theorem nL_law_768 : Nx mL_law 768 (.aload_n 1) 1 769 := ⟨by decide +kernel, rfl⟩
theorem nL_law_769 : Nx mL_law 769 (.aload_n 0) 1 770 := ⟨by decide +kernel, rfl⟩
theorem nL_law_770 : Nx mL_law 770 (.iload_n 3) 1 771 := ⟨by decide +kernel, rfl⟩
theorem nL_law_771 : Nx mL_law 771 (.iconst 1) 1 772 := ⟨by decide +kernel, rfl⟩
theorem nL_law_772 : Nx mL_law 772 (.iadd) 1 773 := ⟨by decide +kernel, rfl⟩
theorem nL_law_773 : Nx mL_law 773 (.iaload) 1 774 := ⟨by decide +kernel, rfl⟩
theorem nL_law_774 : Nx mL_law 774 (.aload_n 0) 1 775 := ⟨by decide +kernel, rfl⟩
theorem nL_law_775 : Nx mL_law 775 (.iload_n 3) 1 776 := ⟨by decide +kernel, rfl⟩
theorem nL_law_776 : Nx mL_law 776 (.iconst 2) 1 777 := ⟨by decide +kernel, rfl⟩
theorem nL_law_777 : Nx mL_law 777 (.iadd) 1 778 := ⟨by decide +kernel, rfl⟩
theorem nL_law_778 : Nx mL_law 778 (.iaload) 1 779 := ⟨by decide +kernel, rfl⟩
theorem nL_law_779 : Nx mL_law 779 (.aload_n 0) 1 780 := ⟨by decide +kernel, rfl⟩
theorem nL_law_780 : Nx mL_law 780 (.iload_n 3) 1 781 := ⟨by decide +kernel, rfl⟩
theorem nL_law_781 : Nx mL_law 781 (.iconst 3) 1 782 := ⟨by decide +kernel, rfl⟩
theorem nL_law_782 : Nx mL_law 782 (.iadd) 1 783 := ⟨by decide +kernel, rfl⟩
theorem nL_law_783 : Nx mL_law 783 (.iaload) 1 784 := ⟨by decide +kernel, rfl⟩
theorem nL_law_784 : Nx mL_law 784 (.ifCond .eq 7) 3 787 := ⟨by decide +kernel, rfl⟩
theorem nL_law_787 : Nx mL_law 787 (.iconst 1) 1 788 := ⟨by decide +kernel, rfl⟩
theorem nL_law_788 : Nx mL_law 788 (.goto 4) 3 791 := ⟨by decide +kernel, rfl⟩
theorem nL_law_791 : Nx mL_law 791 (.iconst 0) 1 792 := ⟨by decide +kernel, rfl⟩
theorem nL_law_792 : Nx mL_law 792 (.invokevirtual 110) 3 795 := ⟨by decide +kernel, rfl⟩
theorem nL_law_795 : Nx mL_law 795 (.aload_n 2) 1 796 := ⟨by decide +kernel, rfl⟩
theorem nL_law_796 : Nx mL_law 796 (.aload_n 0) 1 797 := ⟨by decide +kernel, rfl⟩
theorem nL_law_797 : Nx mL_law 797 (.iload_n 3) 1 798 := ⟨by decide +kernel, rfl⟩
theorem nL_law_798 : Nx mL_law 798 (.iconst 1) 1 799 := ⟨by decide +kernel, rfl⟩
theorem nL_law_799 : Nx mL_law 799 (.iadd) 1 800 := ⟨by decide +kernel, rfl⟩
theorem nL_law_800 : Nx mL_law 800 (.iaload) 1 801 := ⟨by decide +kernel, rfl⟩
theorem nL_law_801 : Nx mL_law 801 (.aload_n 0) 1 802 := ⟨by decide +kernel, rfl⟩
theorem nL_law_802 : Nx mL_law 802 (.iload_n 3) 1 803 := ⟨by decide +kernel, rfl⟩
theorem nL_law_803 : Nx mL_law 803 (.iconst 2) 1 804 := ⟨by decide +kernel, rfl⟩
theorem nL_law_804 : Nx mL_law 804 (.iadd) 1 805 := ⟨by decide +kernel, rfl⟩
theorem nL_law_805 : Nx mL_law 805 (.iaload) 1 806 := ⟨by decide +kernel, rfl⟩
theorem nL_law_806 : Nx mL_law 806 (.aload_n 0) 1 807 := ⟨by decide +kernel, rfl⟩
theorem nL_law_807 : Nx mL_law 807 (.iload_n 3) 1 808 := ⟨by decide +kernel, rfl⟩
theorem nL_law_808 : Nx mL_law 808 (.iconst 3) 1 809 := ⟨by decide +kernel, rfl⟩
theorem nL_law_809 : Nx mL_law 809 (.iadd) 1 810 := ⟨by decide +kernel, rfl⟩
theorem nL_law_810 : Nx mL_law 810 (.iaload) 1 811 := ⟨by decide +kernel, rfl⟩
theorem nL_law_811 : Nx mL_law 811 (.ifCond .eq 7) 3 814 := ⟨by decide +kernel, rfl⟩
theorem nL_law_814 : Nx mL_law 814 (.iconst 1) 1 815 := ⟨by decide +kernel, rfl⟩
theorem nL_law_815 : Nx mL_law 815 (.goto 4) 3 818 := ⟨by decide +kernel, rfl⟩
theorem nL_law_818 : Nx mL_law 818 (.iconst 0) 1 819 := ⟨by decide +kernel, rfl⟩
theorem nL_law_819 : Nx mL_law 819 (.invokevirtual 114) 3 822 := ⟨by decide +kernel, rfl⟩
theorem nL_law_822 : Nx mL_law 822 (.if_icmp .eq 128) 3 825 := ⟨by decide +kernel, rfl⟩
theorem nL_law_825 : Nx mL_law 825 (.iconst 0) 1 826 := ⟨by decide +kernel, rfl⟩
theorem nL_law_826 : Nx mL_law 826 (.ireturn) 1 827 := ⟨by decide +kernel, rfl⟩
theorem nL_law_827 : Nx mL_law 827 (.aload_n 1) 1 828 := ⟨by decide +kernel, rfl⟩
theorem nL_law_828 : Nx mL_law 828 (.aload_n 0) 1 829 := ⟨by decide +kernel, rfl⟩
theorem nL_law_829 : Nx mL_law 829 (.iload_n 3) 1 830 := ⟨by decide +kernel, rfl⟩
theorem nL_law_830 : Nx mL_law 830 (.iconst 1) 1 831 := ⟨by decide +kernel, rfl⟩
theorem nL_law_831 : Nx mL_law 831 (.iadd) 1 832 := ⟨by decide +kernel, rfl⟩
theorem nL_law_832 : Nx mL_law 832 (.iaload) 1 833 := ⟨by decide +kernel, rfl⟩
theorem nL_law_833 : Nx mL_law 833 (.i2l) 1 834 := ⟨by decide +kernel, rfl⟩
theorem nL_law_834 : Nx mL_law 834 (.bipush 32) 2 836 := ⟨by decide +kernel, rfl⟩
theorem nL_law_836 : Nx mL_law 836 (.lshl) 1 837 := ⟨by decide +kernel, rfl⟩
theorem nL_law_837 : Nx mL_law 837 (.aload_n 0) 1 838 := ⟨by decide +kernel, rfl⟩
theorem nL_law_838 : Nx mL_law 838 (.iload_n 3) 1 839 := ⟨by decide +kernel, rfl⟩
theorem nL_law_839 : Nx mL_law 839 (.iconst 2) 1 840 := ⟨by decide +kernel, rfl⟩
theorem nL_law_840 : Nx mL_law 840 (.iadd) 1 841 := ⟨by decide +kernel, rfl⟩
theorem nL_law_841 : Nx mL_law 841 (.iaload) 1 842 := ⟨by decide +kernel, rfl⟩
theorem nL_law_842 : Nx mL_law 842 (.i2l) 1 843 := ⟨by decide +kernel, rfl⟩
theorem nL_law_843 : Nx mL_law 843 (.ldc2_w 81) 3 846 := ⟨by decide +kernel, rfl⟩
theorem nL_law_846 : Nx mL_law 846 (.land) 1 847 := ⟨by decide +kernel, rfl⟩
theorem nL_law_847 : Nx mL_law 847 (.lor) 1 848 := ⟨by decide +kernel, rfl⟩
theorem nL_law_848 : Nx mL_law 848 (.invokevirtual 115) 3 851 := ⟨by decide +kernel, rfl⟩
theorem nL_law_851 : Nx mL_law 851 (.aload_n 2) 1 852 := ⟨by decide +kernel, rfl⟩
theorem nL_law_852 : Nx mL_law 852 (.aload_n 0) 1 853 := ⟨by decide +kernel, rfl⟩
theorem nL_law_853 : Nx mL_law 853 (.iload_n 3) 1 854 := ⟨by decide +kernel, rfl⟩
theorem nL_law_854 : Nx mL_law 854 (.iconst 1) 1 855 := ⟨by decide +kernel, rfl⟩
theorem nL_law_855 : Nx mL_law 855 (.iadd) 1 856 := ⟨by decide +kernel, rfl⟩
theorem nL_law_856 : Nx mL_law 856 (.iaload) 1 857 := ⟨by decide +kernel, rfl⟩
theorem nL_law_857 : Nx mL_law 857 (.i2l) 1 858 := ⟨by decide +kernel, rfl⟩
theorem nL_law_858 : Nx mL_law 858 (.bipush 32) 2 860 := ⟨by decide +kernel, rfl⟩
theorem nL_law_860 : Nx mL_law 860 (.lshl) 1 861 := ⟨by decide +kernel, rfl⟩
theorem nL_law_861 : Nx mL_law 861 (.aload_n 0) 1 862 := ⟨by decide +kernel, rfl⟩
theorem nL_law_862 : Nx mL_law 862 (.iload_n 3) 1 863 := ⟨by decide +kernel, rfl⟩
theorem nL_law_863 : Nx mL_law 863 (.iconst 2) 1 864 := ⟨by decide +kernel, rfl⟩
theorem nL_law_864 : Nx mL_law 864 (.iadd) 1 865 := ⟨by decide +kernel, rfl⟩
theorem nL_law_865 : Nx mL_law 865 (.iaload) 1 866 := ⟨by decide +kernel, rfl⟩
theorem nL_law_866 : Nx mL_law 866 (.i2l) 1 867 := ⟨by decide +kernel, rfl⟩
theorem nL_law_867 : Nx mL_law 867 (.ldc2_w 81) 3 870 := ⟨by decide +kernel, rfl⟩
theorem nL_law_870 : Nx mL_law 870 (.land) 1 871 := ⟨by decide +kernel, rfl⟩
theorem nL_law_871 : Nx mL_law 871 (.lor) 1 872 := ⟨by decide +kernel, rfl⟩
theorem nL_law_872 : Nx mL_law 872 (.invokevirtual 119) 3 875 := ⟨by decide +kernel, rfl⟩
theorem nL_law_875 : Nx mL_law 875 (.lcmp) 1 876 := ⟨by decide +kernel, rfl⟩
theorem nL_law_876 : Nx mL_law 876 (.ifCond .eq 74) 3 879 := ⟨by decide +kernel, rfl⟩
theorem nL_law_879 : Nx mL_law 879 (.iconst 0) 1 880 := ⟨by decide +kernel, rfl⟩
theorem nL_law_880 : Nx mL_law 880 (.ireturn) 1 881 := ⟨by decide +kernel, rfl⟩
theorem nL_law_881 : Nx mL_law 881 (.aload_n 1) 1 882 := ⟨by decide +kernel, rfl⟩
theorem nL_law_882 : Nx mL_law 882 (.aload_n 0) 1 883 := ⟨by decide +kernel, rfl⟩
theorem nL_law_883 : Nx mL_law 883 (.iload_n 3) 1 884 := ⟨by decide +kernel, rfl⟩
theorem nL_law_884 : Nx mL_law 884 (.iconst 1) 1 885 := ⟨by decide +kernel, rfl⟩
theorem nL_law_885 : Nx mL_law 885 (.iadd) 1 886 := ⟨by decide +kernel, rfl⟩
theorem nL_law_886 : Nx mL_law 886 (.iaload) 1 887 := ⟨by decide +kernel, rfl⟩
theorem nL_law_887 : Nx mL_law 887 (.invokevirtual 120) 3 890 := ⟨by decide +kernel, rfl⟩
theorem nL_law_890 : Nx mL_law 890 (.aload_n 2) 1 891 := ⟨by decide +kernel, rfl⟩
theorem nL_law_891 : Nx mL_law 891 (.aload_n 0) 1 892 := ⟨by decide +kernel, rfl⟩
theorem nL_law_892 : Nx mL_law 892 (.iload_n 3) 1 893 := ⟨by decide +kernel, rfl⟩
theorem nL_law_893 : Nx mL_law 893 (.iconst 1) 1 894 := ⟨by decide +kernel, rfl⟩
theorem nL_law_894 : Nx mL_law 894 (.iadd) 1 895 := ⟨by decide +kernel, rfl⟩
theorem nL_law_895 : Nx mL_law 895 (.iaload) 1 896 := ⟨by decide +kernel, rfl⟩
theorem nL_law_896 : Nx mL_law 896 (.invokevirtual 123) 3 899 := ⟨by decide +kernel, rfl⟩
theorem nL_law_899 : Nx mL_law 899 (.if_icmp .eq 51) 3 902 := ⟨by decide +kernel, rfl⟩
theorem nL_law_902 : Nx mL_law 902 (.iconst 0) 1 903 := ⟨by decide +kernel, rfl⟩
theorem nL_law_903 : Nx mL_law 903 (.ireturn) 1 904 := ⟨by decide +kernel, rfl⟩
theorem nL_law_904 : Nx mL_law 904 (.aload_n 1) 1 905 := ⟨by decide +kernel, rfl⟩
theorem nL_law_905 : Nx mL_law 905 (.aload_n 0) 1 906 := ⟨by decide +kernel, rfl⟩
theorem nL_law_906 : Nx mL_law 906 (.iload_n 3) 1 907 := ⟨by decide +kernel, rfl⟩
theorem nL_law_907 : Nx mL_law 907 (.iconst 1) 1 908 := ⟨by decide +kernel, rfl⟩
theorem nL_law_908 : Nx mL_law 908 (.iadd) 1 909 := ⟨by decide +kernel, rfl⟩
theorem nL_law_909 : Nx mL_law 909 (.iaload) 1 910 := ⟨by decide +kernel, rfl⟩
theorem nL_law_910 : Nx mL_law 910 (.invokevirtual 124) 3 913 := ⟨by decide +kernel, rfl⟩
theorem nL_law_913 : Nx mL_law 913 (.aload_n 2) 1 914 := ⟨by decide +kernel, rfl⟩
theorem nL_law_914 : Nx mL_law 914 (.aload_n 0) 1 915 := ⟨by decide +kernel, rfl⟩
theorem nL_law_915 : Nx mL_law 915 (.iload_n 3) 1 916 := ⟨by decide +kernel, rfl⟩
theorem nL_law_916 : Nx mL_law 916 (.iconst 1) 1 917 := ⟨by decide +kernel, rfl⟩
theorem nL_law_917 : Nx mL_law 917 (.iadd) 1 918 := ⟨by decide +kernel, rfl⟩
theorem nL_law_918 : Nx mL_law 918 (.iaload) 1 919 := ⟨by decide +kernel, rfl⟩
theorem nL_law_919 : Nx mL_law 919 (.invokevirtual 127) 3 922 := ⟨by decide +kernel, rfl⟩
theorem nL_law_922 : Nx mL_law 922 (.if_icmp .eq 28) 3 925 := ⟨by decide +kernel, rfl⟩
theorem nL_law_925 : Nx mL_law 925 (.iconst 0) 1 926 := ⟨by decide +kernel, rfl⟩
theorem nL_law_926 : Nx mL_law 926 (.ireturn) 1 927 := ⟨by decide +kernel, rfl⟩
theorem nL_law_927 : Nx mL_law 927 (.aload_n 1) 1 928 := ⟨by decide +kernel, rfl⟩
theorem nL_law_928 : Nx mL_law 928 (.aload_n 0) 1 929 := ⟨by decide +kernel, rfl⟩
theorem nL_law_929 : Nx mL_law 929 (.iload_n 3) 1 930 := ⟨by decide +kernel, rfl⟩
theorem nL_law_930 : Nx mL_law 930 (.iconst 1) 1 931 := ⟨by decide +kernel, rfl⟩
theorem nL_law_931 : Nx mL_law 931 (.iadd) 1 932 := ⟨by decide +kernel, rfl⟩
theorem nL_law_932 : Nx mL_law 932 (.iaload) 1 933 := ⟨by decide +kernel, rfl⟩
theorem nL_law_933 : Nx mL_law 933 (.invokevirtual 128) 3 936 := ⟨by decide +kernel, rfl⟩
theorem nL_law_936 : Nx mL_law 936 (.aload_n 2) 1 937 := ⟨by decide +kernel, rfl⟩
theorem nL_law_937 : Nx mL_law 937 (.aload_n 0) 1 938 := ⟨by decide +kernel, rfl⟩
theorem nL_law_938 : Nx mL_law 938 (.iload_n 3) 1 939 := ⟨by decide +kernel, rfl⟩
theorem nL_law_939 : Nx mL_law 939 (.iconst 1) 1 940 := ⟨by decide +kernel, rfl⟩
theorem nL_law_940 : Nx mL_law 940 (.iadd) 1 941 := ⟨by decide +kernel, rfl⟩
theorem nL_law_941 : Nx mL_law 941 (.iaload) 1 942 := ⟨by decide +kernel, rfl⟩
theorem nL_law_942 : Nx mL_law 942 (.invokevirtual 131) 3 945 := ⟨by decide +kernel, rfl⟩
theorem nL_law_945 : Nx mL_law 945 (.if_icmp .eq 5) 3 948 := ⟨by decide +kernel, rfl⟩
theorem nL_law_948 : Nx mL_law 948 (.iconst 0) 1 949 := ⟨by decide +kernel, rfl⟩
theorem nL_law_949 : Nx mL_law 949 (.ireturn) 1 950 := ⟨by decide +kernel, rfl⟩
theorem nL_law_950 : Nx mL_law 950 (.iinc 3 5) 3 953 := ⟨by decide +kernel, rfl⟩
theorem nL_law_953 : Nx mL_law 953 (.goto (-935)) 3 956 := ⟨by decide +kernel, rfl⟩
theorem nL_law_956 : Nx mL_law 956 (.iconst 1) 1 957 := ⟨by decide +kernel, rfl⟩
theorem nL_law_957 : Nx mL_law 957 (.ireturn) 1 958 := ⟨by decide +kernel, rfl⟩
end
section
/-! the worlds: blocks of cells; rules for the fields of each class -/
def wT (g : Gx) (a : Nat → Nat) (n : Nat) (F : Nat → Int32) : va_W := [(a 0, .inr (3, [.ref (a 1), .int (nI n)])), (a 1, .inl (g.2.1, 48, .inl F))]
def wL (g : Gx) (a : Nat → Nat) (nf : Nat) (ne : Nat) (pl : Nat → Int32) (yl : Nat → Int32) (nd : Nat → Int32) (hm : Nat → Int32) (wk : Nat → Int32) (kd : Nat → Int32) : va_W := [(a 0, .inr (2, [.ref (a 1), .ref (a 2), .ref (a 3), .ref (a 4), .ref (a 5), .ref (a 6), .int (nI nf), .int (nI ne)])), (a 1, .inl (g.2.1, 4, .inl pl)), (a 2, .inl (g.2.1, 4, .inl yl)), (a 3, .inl (g.2.1, 4, .inl nd)), (a 4, .inl (g.2.1, 5, .inl hm)), (a 5, .inl (g.2.1, 5, .inl wk)), (a 6, .inl (g.2.1, 5, .inl kd))]
def wC (g : Gx) (a : Nat → Nat) (la : Nat → Nat) (lo : Nat → Int32) (sk : Nat → Int32) (db : Nat → Int32) (yr : Int32) (vi : Nat → Int32) (wy : Nat → Int32) : va_W := [(a 0, .inr (1, [.ref (la 0), .ref (a 1), .ref (a 2), .ref (a 3), .int yr, .ref (a 4), .ref (a 5)])), (a 1, .inl (g.2.1, 4, .inl lo)), (a 2, .inl (g.2.1, 4, .inl sk)), (a 3, .inl (g.2.1, 20, .inl db)), (a 4, .inl (g.2.1, 5, .inl vi)), (a 5, .inl (g.2.1, 5, .inl wy))]
def wD (g : Gx) (a : Nat → Nat) (cp : Nat → Int32) (ci : Nat → Int32) (n : Nat) : va_W := [(a 0, .inr (4, [.ref (a 1), .ref (a 2), .int (nI n)])), (a 1, .inl (g.2.1, 6, .inl cp)), (a 2, .inl (g.2.2.1, 6, .inl ci))]
def wA (g : Gx) (a : Nat → Nat) (r : Nat → Option Nat) (fi : Nat) (co : Nat) : va_W := [(a 0, .inr (0, [.ref (a 1), .int (nI fi), .int (nI co)])), (a 1, .inl (g.2.2.2, 14, .inr (.inr (.inr (.inr r)))))]
def wX (g : Gx) (a : Nat → Nat) (ta : Nat → Nat) (la : Nat → Nat) (na : Nat → Nat) (ra : Nat → Nat) (aa : Nat → Nat) (da : Nat → Nat) (sd : Int64) : va_W := [(a 0, .inr (5, [.ref (ta 0), .ref (la 0), .ref (na 0), .ref (ra 0), .ref (aa 0), .ref (da 0), .ref (a 1), .ref (a 2), .ref (a 3), .long sd]))]
def wI (g : Gx) (a : Nat) (n : Nat) (f : Nat → Int32) : va_W := [(a, .inl (g.2.1, n, .inl f))]
def wZ (g : Gx) (a : Nat) (n : Nat) (f : Nat → Int32) : va_W := [(a, .inl (g.2.2.1, n, .inl f))]
def wR (g : Gx) (a : Nat) (n : Nat) (f : Nat → Option Nat) : va_W := [(a, .inl (g.2.2.2, n, .inr (.inr (.inr (.inr f)))))]
def wO (g : Gx) (a : Nat → Nat) (th : Int32) (ts : Nat) (pl : Nat) (nf : Nat) (ne : Nat) (rf : Nat) (re : Nat) (ac : Nat) (cm : Nat) (sd : Int64) (wf : Int32) (sm : Int32) (sf : Int32) (rm : Int32) (rs : Int32) : va_W := [(a 0, .inr (6, [.int th, .ref (a 1), .int (nI ts), .int (nI pl), .int (nI nf), .ref (a 2), .ref (a 3), .ref (a 4), .int (nI ne), .ref (a 5), .ref (a 6), .ref (a 7), .int (nI rf), .ref (a 8), .int (nI re), .ref (a 9), .ref (a 10), .ref (a 11), .ref (a 12), .int (nI ac), .ref (a 13), .ref (a 14), .int (nI cm), .ref (a 15), .ref (a 16), .long sd, .int wf, .ref (a 17), .int sm, .int sf, .int rm, .int rs, .ref (a 18), .ref (a 19)]))]
def wML (g : Gx) (a : Nat → Nat) (pl : Nat → Int32) (yl : Nat → Int32) (nd : Nat → Int32) (hm : Nat → Int32) (wk : Nat → Int32) (kd : Nat → Int32) : va_W := [(a 2, .inl (g.2.1, 4, .inl pl)), (a 3, .inl (g.2.1, 4, .inl yl)), (a 4, .inl (g.2.1, 4, .inl nd)), (a 5, .inl (g.2.1, 5, .inl hm)), (a 6, .inl (g.2.1, 5, .inl wk)), (a 7, .inl (g.2.1, 5, .inl kd))]
theorem nx_and (a b : Nat) : nI a &&& nI b = nI (a &&& b) := Int32.toBitVec_inj.mp (by
  show BitVec.ofNat 32 a &&& BitVec.ofNat 32 b = BitVec.ofNat 32 (a &&& b)
  rw [BitVec.ofNat_and])
theorem nx_or (a b : Nat) : nI a ||| nI b = nI (a ||| b) := Int32.toBitVec_inj.mp (by
  show BitVec.ofNat 32 a ||| BitVec.ofNat 32 b = BitVec.ofNat 32 (a ||| b)
  rw [BitVec.ofNat_or])
theorem nx_xor (a b : Nat) : nI a ^^^ nI b = nI (a ^^^ b) := Int32.toBitVec_inj.mp (by
  show BitVec.ofNat 32 a ^^^ BitVec.ofNat 32 b = BitVec.ofNat 32 (a ^^^ b)
  rw [BitVec.ofNat_xor])
theorem nI_sh31 : ∀ b, b < 32 → ((nI b &&& 31).toBitVec.smod 32).toNat = b := by decide +kernel
theorem nI_shl1 {b : Nat} (hb : b < 31) : nI 1 <<< (nI b &&& 31) = nI (2 ^ b) := by
  have h := pk_shlN (n := 1) (nI b &&& 31) b (nI_sh31 b (by omega)) (by
    rw [Nat.one_mul]
    exact Nat.pow_lt_pow_right (by omega) (by omega))
  rw [Nat.one_mul] at h
  exact h
theorem nI_shr {a b : Nat} (ha : a < 2 ^ 31) (hb : b < 32) : nI a >>> (nI b &&& 31) = nI (a / 2 ^ b) := pk_shrN ha (nI b &&& 31) b (nI_sh31 b hb)
theorem nI_dec (a : Nat) (h : 0 < a) : nI a + Int32.ofInt (-1) = nI (a - 1) := sb_m1 h
section VW
variable {g : Gx} {E : MV} {M : MS} {A : Nat → Prop} {Q : State → Prop} {kc ks : Nat} {ws ws' : va_W} {pc pc' : Nat} {lv lv' : List (Nat × Value)} {st : List Value}
theorem V_pick {lv2 : List (Nat × Value)} (ks2 : List Nat) (h : lv_pick lv ks2 = lv2) (k : V g E M A Q kc ks ws pc lv2 st) : V g E M A Q kc ks ws pc lv st := fun B ls H locs hl hP hD hS => k B ls H locs (lv_sub hl ks2 h) hP hD hS
theorem V_topb {b : Bool} {x : Int32} (h : x = bI b) (k : V g E M A Q kc ks ws pc lv (.int (bI b) :: st)) : V g E M A Q kc ks ws pc lv (.int x :: st) := by rw [h]; exact k
theorem V_joinN {b : Bool} {x y : Nat} {pj : Nat} {f : Nat} {st' : List Value} (k : (b = true → V g E M A Q kc ks ws pj lv (.int (nI x) :: st)) → (b = false → V g E M A Q kc ks ws pj lv (.int (nI y) :: st)) → V g E M A Q kc ks ws f lv st') (hJ : V g E M A Q kc ks ws pj lv (.int (nI (if b = true then x else y)) :: st)) : V g E M A Q kc ks ws f lv st' :=
  k (fun h => by rw [if_pos h] at hJ; exact hJ) (fun h => by rw [if_neg (by rw [h]; decide)] at hJ; exact hJ)
theorem V_get0 {index a : Nat} {fs : List Value} {v : Value} (q0 k : Nat) (hk : k < 3) (hf : Cond.fieldLink M.2.2.1 index (TX0 k).1 (TX0 k).2.1 (TX0 k).2.2.1 ∈ wds) (hd : Nx M pc (.getfield index) 3 pc') (he : ws[q0]? = some (a, .inr (0, fs))) (hv : fs[k]? = some v) (kk : V g E M A Q kc ks ws pc' lv (v :: st)) : V g E M A Q kc ks ws pc lv (.ref a :: st) := V_get (C := RX0) (T := TX0) (N := 3) q0 k iX0 rfl hk hf hd he hv kk
theorem V_put0 {index a : Nat} {fs : List Value} {v : Value} {ty : FieldType} (q0 k : Nat) (hk : k < 3) (hf : Cond.fieldLink M.2.2.1 index (TX0 k).1 (TX0 k).2.1 (TX0 k).2.2.1 ∈ wds) (hfin : (TX0 k).2.2.2 = false) (hty1 : tyX0 k = ty) (hn : narrow ty v = v) (hfit : fits ty v = true) (hd : Nx M pc (.putfield index) 3 pc') (he : ws[q0]? = some (a, .inr (0, fs))) (hl0 : k < fs.length) (hw : ws.set q0 (a, .inr (0, fs.set k v)) = ws') (kk : V g E M A Q kc ks ws' pc' lv st) : V g E M A Q kc ks ws pc lv (v :: .ref a :: st) := V_put (C := RX0) (T := TX0) (N := 3) q0 k iX0 tyX0 tyX0_ok nmX0 rfl hk hf hfin hty1 hn hfit hd he hl0 hw kk
theorem V_get1 {index a : Nat} {fs : List Value} {v : Value} (q0 k : Nat) (hk : k < 7) (hf : Cond.fieldLink M.2.2.1 index (TX1 k).1 (TX1 k).2.1 (TX1 k).2.2.1 ∈ wds) (hd : Nx M pc (.getfield index) 3 pc') (he : ws[q0]? = some (a, .inr (1, fs))) (hv : fs[k]? = some v) (kk : V g E M A Q kc ks ws pc' lv (v :: st)) : V g E M A Q kc ks ws pc lv (.ref a :: st) := V_get (C := RX1) (T := TX1) (N := 7) q0 k iX1 rfl hk hf hd he hv kk
theorem V_put1 {index a : Nat} {fs : List Value} {v : Value} {ty : FieldType} (q0 k : Nat) (hk : k < 7) (hf : Cond.fieldLink M.2.2.1 index (TX1 k).1 (TX1 k).2.1 (TX1 k).2.2.1 ∈ wds) (hfin : (TX1 k).2.2.2 = false) (hty1 : tyX1 k = ty) (hn : narrow ty v = v) (hfit : fits ty v = true) (hd : Nx M pc (.putfield index) 3 pc') (he : ws[q0]? = some (a, .inr (1, fs))) (hl0 : k < fs.length) (hw : ws.set q0 (a, .inr (1, fs.set k v)) = ws') (kk : V g E M A Q kc ks ws' pc' lv st) : V g E M A Q kc ks ws pc lv (v :: .ref a :: st) := V_put (C := RX1) (T := TX1) (N := 7) q0 k iX1 tyX1 tyX1_ok nmX1 rfl hk hf hfin hty1 hn hfit hd he hl0 hw kk
theorem V_get2 {index a : Nat} {fs : List Value} {v : Value} (q0 k : Nat) (hk : k < 8) (hf : Cond.fieldLink M.2.2.1 index (TX2 k).1 (TX2 k).2.1 (TX2 k).2.2.1 ∈ wds) (hd : Nx M pc (.getfield index) 3 pc') (he : ws[q0]? = some (a, .inr (2, fs))) (hv : fs[k]? = some v) (kk : V g E M A Q kc ks ws pc' lv (v :: st)) : V g E M A Q kc ks ws pc lv (.ref a :: st) := V_get (C := RX2) (T := TX2) (N := 8) q0 k iX2 rfl hk hf hd he hv kk
theorem V_put2 {index a : Nat} {fs : List Value} {v : Value} {ty : FieldType} (q0 k : Nat) (hk : k < 8) (hf : Cond.fieldLink M.2.2.1 index (TX2 k).1 (TX2 k).2.1 (TX2 k).2.2.1 ∈ wds) (hfin : (TX2 k).2.2.2 = false) (hty1 : tyX2 k = ty) (hn : narrow ty v = v) (hfit : fits ty v = true) (hd : Nx M pc (.putfield index) 3 pc') (he : ws[q0]? = some (a, .inr (2, fs))) (hl0 : k < fs.length) (hw : ws.set q0 (a, .inr (2, fs.set k v)) = ws') (kk : V g E M A Q kc ks ws' pc' lv st) : V g E M A Q kc ks ws pc lv (v :: .ref a :: st) := V_put (C := RX2) (T := TX2) (N := 8) q0 k iX2 tyX2 tyX2_ok nmX2 rfl hk hf hfin hty1 hn hfit hd he hl0 hw kk
theorem V_get3 {index a : Nat} {fs : List Value} {v : Value} (q0 k : Nat) (hk : k < 2) (hf : Cond.fieldLink M.2.2.1 index (TX3 k).1 (TX3 k).2.1 (TX3 k).2.2.1 ∈ wds) (hd : Nx M pc (.getfield index) 3 pc') (he : ws[q0]? = some (a, .inr (3, fs))) (hv : fs[k]? = some v) (kk : V g E M A Q kc ks ws pc' lv (v :: st)) : V g E M A Q kc ks ws pc lv (.ref a :: st) := V_get (C := RX3) (T := TX3) (N := 2) q0 k iX3 rfl hk hf hd he hv kk
theorem V_put3 {index a : Nat} {fs : List Value} {v : Value} {ty : FieldType} (q0 k : Nat) (hk : k < 2) (hf : Cond.fieldLink M.2.2.1 index (TX3 k).1 (TX3 k).2.1 (TX3 k).2.2.1 ∈ wds) (hfin : (TX3 k).2.2.2 = false) (hty1 : tyX3 k = ty) (hn : narrow ty v = v) (hfit : fits ty v = true) (hd : Nx M pc (.putfield index) 3 pc') (he : ws[q0]? = some (a, .inr (3, fs))) (hl0 : k < fs.length) (hw : ws.set q0 (a, .inr (3, fs.set k v)) = ws') (kk : V g E M A Q kc ks ws' pc' lv st) : V g E M A Q kc ks ws pc lv (v :: .ref a :: st) := V_put (C := RX3) (T := TX3) (N := 2) q0 k iX3 tyX3 tyX3_ok nmX3 rfl hk hf hfin hty1 hn hfit hd he hl0 hw kk
theorem V_get4 {index a : Nat} {fs : List Value} {v : Value} (q0 k : Nat) (hk : k < 3) (hf : Cond.fieldLink M.2.2.1 index (TX4 k).1 (TX4 k).2.1 (TX4 k).2.2.1 ∈ wds) (hd : Nx M pc (.getfield index) 3 pc') (he : ws[q0]? = some (a, .inr (4, fs))) (hv : fs[k]? = some v) (kk : V g E M A Q kc ks ws pc' lv (v :: st)) : V g E M A Q kc ks ws pc lv (.ref a :: st) := V_get (C := RX4) (T := TX4) (N := 3) q0 k iX4 rfl hk hf hd he hv kk
theorem V_put4 {index a : Nat} {fs : List Value} {v : Value} {ty : FieldType} (q0 k : Nat) (hk : k < 3) (hf : Cond.fieldLink M.2.2.1 index (TX4 k).1 (TX4 k).2.1 (TX4 k).2.2.1 ∈ wds) (hfin : (TX4 k).2.2.2 = false) (hty1 : tyX4 k = ty) (hn : narrow ty v = v) (hfit : fits ty v = true) (hd : Nx M pc (.putfield index) 3 pc') (he : ws[q0]? = some (a, .inr (4, fs))) (hl0 : k < fs.length) (hw : ws.set q0 (a, .inr (4, fs.set k v)) = ws') (kk : V g E M A Q kc ks ws' pc' lv st) : V g E M A Q kc ks ws pc lv (v :: .ref a :: st) := V_put (C := RX4) (T := TX4) (N := 3) q0 k iX4 tyX4 tyX4_ok nmX4 rfl hk hf hfin hty1 hn hfit hd he hl0 hw kk
theorem V_get5 {index a : Nat} {fs : List Value} {v : Value} (q0 k : Nat) (hk : k < 10) (hf : Cond.fieldLink M.2.2.1 index (TX5 k).1 (TX5 k).2.1 (TX5 k).2.2.1 ∈ wds) (hd : Nx M pc (.getfield index) 3 pc') (he : ws[q0]? = some (a, .inr (5, fs))) (hv : fs[k]? = some v) (kk : V g E M A Q kc ks ws pc' lv (v :: st)) : V g E M A Q kc ks ws pc lv (.ref a :: st) := V_get (C := RX5) (T := TX5) (N := 10) q0 k iX5 rfl hk hf hd he hv kk
theorem V_put5 {index a : Nat} {fs : List Value} {v : Value} {ty : FieldType} (q0 k : Nat) (hk : k < 10) (hf : Cond.fieldLink M.2.2.1 index (TX5 k).1 (TX5 k).2.1 (TX5 k).2.2.1 ∈ wds) (hfin : (TX5 k).2.2.2 = false) (hty1 : tyX5 k = ty) (hn : narrow ty v = v) (hfit : fits ty v = true) (hd : Nx M pc (.putfield index) 3 pc') (he : ws[q0]? = some (a, .inr (5, fs))) (hl0 : k < fs.length) (hw : ws.set q0 (a, .inr (5, fs.set k v)) = ws') (kk : V g E M A Q kc ks ws' pc' lv st) : V g E M A Q kc ks ws pc lv (v :: .ref a :: st) := V_put (C := RX5) (T := TX5) (N := 10) q0 k iX5 tyX5 tyX5_ok nmX5 rfl hk hf hfin hty1 hn hfit hd he hl0 hw kk
theorem V_get6 {index a : Nat} {fs : List Value} {v : Value} (q0 k : Nat) (hk : k < 34) (hf : Cond.fieldLink M.2.2.1 index (TX6 k).1 (TX6 k).2.1 (TX6 k).2.2.1 ∈ wds) (hd : Nx M pc (.getfield index) 3 pc') (he : ws[q0]? = some (a, .inr (6, fs))) (hv : fs[k]? = some v) (kk : V g E M A Q kc ks ws pc' lv (v :: st)) : V g E M A Q kc ks ws pc lv (.ref a :: st) := V_get (C := RX6) (T := TX6) (N := 34) q0 k iX6 rfl hk hf hd he hv kk
theorem V_put6 {index a : Nat} {fs : List Value} {v : Value} {ty : FieldType} (q0 k : Nat) (hk : k < 34) (hf : Cond.fieldLink M.2.2.1 index (TX6 k).1 (TX6 k).2.1 (TX6 k).2.2.1 ∈ wds) (hfin : (TX6 k).2.2.2 = false) (hty1 : tyX6 k = ty) (hn : narrow ty v = v) (hfit : fits ty v = true) (hd : Nx M pc (.putfield index) 3 pc') (he : ws[q0]? = some (a, .inr (6, fs))) (hl0 : k < fs.length) (hw : ws.set q0 (a, .inr (6, fs.set k v)) = ws') (kk : V g E M A Q kc ks ws' pc' lv st) : V g E M A Q kc ks ws pc lv (v :: .ref a :: st) := V_put (C := RX6) (T := TX6) (N := 34) q0 k iX6 tyX6 tyX6_ok nmX6 rfl hk hf hfin hty1 hn hfit hd he hl0 hw kk
end VW
end
section
/-! the class's methods as plain functions of numbers -/
section VRet
variable {g : Gx} {E : MV} {M : MS} {A : Nat → Prop} {Q : State → Prop} {ws : va_W} {pc pc' : Nat} {lv : List (Nat × Value)} {w : va_W} {sz : Nat} {Po : Option Value → va_W → Prop} {l : Launch} {rm : Room}
theorem R_i {v : Int32} (hM : M.2.2.2 = some .int) (X : Ev E l rm A w sz) (hQ : Q = Qm g E w sz Po A) (hd : Nx M pc .ireturn 1 pc') (ha : ws.map Prod.fst = w.map Prod.fst) (hp : Po (some (.int v)) ws) : V g E M A Q 0 0 ws pc lv [.int v] := V_iret hM hd hp ha X hQ
theorem R_z {b : Bool} (hM : M.2.2.2 = some .boolean) (X : Ev E l rm A w sz) (hQ : Q = Qm g E w sz Po A) (hd : Nx M pc .ireturn 1 pc') (ha : ws.map Prod.fst = w.map Prod.fst) (hp : Po (some (.int (bI b))) ws) : V g E M A Q 0 0 ws pc lv [.int (bI b)] := V_zret hM hd hp ha X hQ
theorem R_l {v : Int64} (hM : M.2.2.2 = some .long) (X : Ev E l rm A w sz) (hQ : Q = Qm g E w sz Po A) (hd : Nx M pc .lreturn 1 pc') (ha : ws.map Prod.fst = w.map Prod.fst) (hp : Po (some (.long v)) ws) : V g E M A Q 0 0 ws pc lv [.long v] := V_lret hM hd hp ha X hQ
theorem R_v (hM : M.2.2.2 = none) (X : Ev E l rm A w sz) (hQ : Q = Qm g E w sz Po A) (hd : Nx M pc .return_ 1 pc') (ha : ws.map Prod.fst = w.map Prod.fst) (hp : Po none ws) : V g E M A Q 0 0 ws pc lv [] := V_vret hM hd hp ha X hQ
end VRet
theorem V_ldcw {g : Gx} {E : MV} {M : MS} {A : Nat → Prop} {Q : State → Prop} {kc ks : Nat} {ws : va_W} {pc pc' : Nat} {lv : List (Nat × Value)} {st : List Value} {index : Nat} {v : Int32} (hc : Cond.constant M.2.2.1 index v ∈ wds) (hd : Nx M pc (.ldc_w index) 3 pc') (kk : V g E M A Q kc ks ws pc' lv (.int v :: st)) : V g E M A Q kc ks ws pc lv st := by
  obtain ⟨hd, rfl⟩ := hd
  intro B ls H locs hl hP hD hS
  exact lv_ldcw B.1 B.2.1 B.2.2.2.1 (B.2.2.2.2.1 _ hc) hd (kk B ls H locs hl hP hD hS)
theorem nx_and1 (a : Nat) : nI a &&& nI 1 = nI (a % 2) := by rw [nx_and, Nat.and_one_is_mod]
def sumI (f : Nat → Int32) : Nat → Int32
  | 0 => nI 0
  | n + 1 => sumI f n + f n
def bitsN (f : Nat → Bool) : Nat → Nat
  | 0 => 0
  | n + 1 => bitsN f n ||| (if f n = true then 2 ^ n else 0)
theorem bitsN_lt (f : Nat → Bool) : ∀ n, bitsN f n < 2 ^ n
  | 0 => Nat.one_pos
  | n + 1 => by
    have h := bitsN_lt f n
    have h2 : 2 ^ n < 2 ^ (n + 1) := Nat.pow_lt_pow_right (by omega) (by omega)
    refine Nat.or_lt_two_pow (Nat.lt_trans h h2) ?_
    split
    · exact h2
    · exact Nat.pos_of_neZero _
/-- of an array, the first n places written -/
def fillI (f h : Nat → Int32) : Nat → Nat → Int32
  | 0 => h
  | n + 1 => upd (fillI f h n) n (f n)
theorem fillI_lt (f h : Nat → Int32) : ∀ n j, j < n → fillI f h n j = f j
  | n + 1, j, hj => by
    show (if j = n then f n else fillI f h n j) = f j
    by_cases e : j = n
    · rw [if_pos e, e]
    · rw [if_neg e]; exact fillI_lt f h n j (by omega)
theorem fillI_ge (f h : Nat → Int32) : ∀ n j, n ≤ j → fillI f h n j = h j
  | 0, _, _ => rfl
  | n + 1, j, hj => by
    show (if j = n then f n else fillI f h n j) = h j
    rw [if_neg (by omega)]; exact fillI_ge f h n j (by omega)
def hasN (n : Nat) (x : Int32) : Bool := !decide (x < 0) && !decide (nI n ≤ x)
def capI (v : Int32) : Int32 := if v < nI 99 then v else nI 99
def absI (x : Int32) : Int32 := if 0 ≤ x then x else 0 - x
/-- none is -9 -/
def oI : Option Nat → Int32
  | none => -9
  | some n => nI n
/-- an eater's debts together, over the first n fields -/
def debtS (db : Nat → Int32) (e n : Nat) : Int32 := sumI (fun f => db (e * 4 + f)) n
def isSw (nd sk : Nat → Int32) (f : Nat) : Bool := !decide (sk f < nd f)
def porN (kd : Nat → Int32) (e : Nat) : Nat := if decide (kd e = nI 2) = true then 2 else 1
def canT (kd lo db : Nat → Int32) (nf e f : Nat) : Bool := !decide (lo f < nI (porN kd e)) && !(decide (kd e = nI 3) && !decide (debtS db e nf ≤ 0))
/-- the nearest owed field below n, and its way -/
def nrO (pl db : Nat → Int32) (e : Nat) (a : Int32) : Nat → Option Nat × Int32
  | 0 => (none, nI 10)
  | n + 1 => if ¬ db (e * 4 + n) ≤ 0 ∧ ¬ (nrO pl db e a n).2 ≤ absI (pl n - a) then (some n, absI (pl n - a)) else nrO pl db e a n
theorem oI_ne {f n : Nat} (h : f < n) (hn : n ≤ 4) : ¬ oI (some f) = -9 := by
  have h4 : f < 4 := by omega
  have : ∀ f, f < 4 → ¬ nI f = -9 := by decide
  exact this f h4
theorem nrO_lt (pl db : Nat → Int32) (e : Nat) (a : Int32) : ∀ n f, (nrO pl db e a n).1 = some f → f < n
  | 0, f, h => by cases h
  | n + 1, f, h => by
    unfold nrO at h
    split at h
    · cases h; omega
    · have := nrO_lt pl db e a n f h; omega
/-- seed, debts, and one's own visits and way -/
abbrev G4 : Type := (Nat → Int32) × (Nat → Int32) × Int32 × Int32
/-- seed, debts, visits, ways -/
abbrev S4 : Type := (Nat → Int32) × (Nat → Int32) × (Nat → Int32) × (Nat → Int32)
theorem upd_upd (f : Nat → Int32) (k : Nat) (x y : Int32) : upd (upd f k x) k y = upd f k y := by
  funext j
  unfold upd
  split
  · rfl
  · rfl
def stepS (pl : Nat → Int32) (e f : Nat) (a : Int32) (s : G4) : G4 := (upd s.1 f (capI (s.1 f + s.2.1 (e * 4 + f))), upd s.2.1 (e * 4 + f) (nI 0), s.2.2.1 ||| nI (2 ^ f), s.2.2.2 + absI (pl f - a))
def goS (pl kd : Nat → Int32) (nf e : Nat) (wk : Int32) : Nat → Int32 → G4 → G4
  | 0, _, s => s
  | k + 1, a, s => match (nrO pl s.2.1 e a nf).1 with
    | none => s
    | some f => if ¬ kd e = nI 1 ∧ ¬ s.2.2.2 + absI (pl f - a) ≤ wk then s else goS pl kd nf e wk k (pl f) (stepS pl e f a s)
theorem goS_none {pl kd : Nat → Int32} {nf e : Nat} {wk : Int32} {i : Nat} (hi : i < 4) {a : Int32} {s : G4} (h : (nrO pl s.2.1 e a nf).1 = none) : goS pl kd nf e wk (4 - i) a s = s := by
  rw [show 4 - i = (3 - i) + 1 by omega]
  unfold goS
  rw [h]
theorem goS_stop {pl kd : Nat → Int32} {nf e : Nat} {wk : Int32} {i : Nat} (hi : i < 4) {a : Int32} {s : G4} {f : Nat} (h : (nrO pl s.2.1 e a nf).1 = some f) (hc : ¬ kd e = nI 1 ∧ ¬ s.2.2.2 + absI (pl f - a) ≤ wk) : goS pl kd nf e wk (4 - i) a s = s := by
  rw [show 4 - i = (3 - i) + 1 by omega]
  unfold goS
  rw [h]
  exact if_pos hc
theorem goS_go {pl kd : Nat → Int32} {nf e : Nat} {wk : Int32} {i : Nat} (hi : i < 4) {a : Int32} {s : G4} {f : Nat} (h : (nrO pl s.2.1 e a nf).1 = some f) (hc : ¬ (¬ kd e = nI 1 ∧ ¬ s.2.2.2 + absI (pl f - a) ≤ wk)) : goS pl kd nf e wk (4 - i) a s = goS pl kd nf e wk (4 - (i + 1)) (pl f) (stepS pl e f a s) := by
  rw [show 4 - i = (4 - (i + 1)) + 1 by omega]
  conv => lhs; unfold goS
  rw [h]
  exact if_neg hc
def sendS (pl hm kd : Nat → Int32) (nf e : Nat) (wk : Int32) (sk db : Nat → Int32) : G4 := goS pl kd nf e wk 4 (hm e) (sk, db, nI 0, nI 0)
/-- one's going put into the rows -/
def putS (e : Nat) (r : G4) (s : S4) : S4 := (r.1, r.2.1, upd s.2.2.1 e r.2.2.1, upd s.2.2.2 e r.2.2.2)
def marS (pl hm wk kd : Nat → Int32) (nf x : Nat) (s : S4) : Nat → S4
  | 0 => s
  | n + 1 => if x / 2 ^ n % 2 = 1 then putS n (sendS pl hm kd nf n (wk n) (marS pl hm wk kd nf x s n).1 (marS pl hm wk kd nf x s n).2.1) (marS pl hm wk kd nf x s n) else marS pl hm wk kd nf x s n
def reapS (yl nd lo sk : Nat → Int32) : Nat → (Nat → Int32) × (Nat → Int32)
  | 0 => (lo, sk)
  | n + 1 => (if isSw nd (reapS yl nd lo sk n).2 n = true then upd (reapS yl nd lo sk n).1 n (capI ((reapS yl nd lo sk n).1 n + yl n)) else (reapS yl nd lo sk n).1, upd (reapS yl nd lo sk n).2 n (nI 0))
end
section
set_option maxHeartbeats 4000000 in
set_option maxRecDepth 100000 in
theorem c_X2_hasField (g : Gx) (l : Launch) (l_a : Nat → Nat) (l_nf : Nat) (l_ne : Nat) (l_pl : Nat → Int32) (l_yl : Nat → Int32) (l_nd : Nat → Int32) (l_hm : Nat → Int32) (l_wk : Nat → Int32) (l_kd : Nat → Int32)  (x : Int32) (hnf : l_nf ≤ 4) : Cd g l yX2_hasField mX2_hasField ({ frames := 0, cells := 0, slots := 0, locals := 0 } : Room) [.ref (l_a 0), .int x] (wL g l_a l_nf l_ne l_pl l_yl l_nd l_hm l_wk l_kd) (some (.int (bI (hasN l_nf x)))) (wL g l_a l_nf l_ne l_pl l_yl l_nd l_hm l_wk l_kd) := by
  refine Ct.of (lv := [(0, .ref (l_a 0)), (1, .int x)]) ⟨by decide +kernel, rfl, Nat.le_of_ble_eq_true rfl⟩ rfl (fun E A sz Q X hQ => ?_)
  refine V_iload_n nX2_hasField_0 rfl ?_
  refine V_joinb (b := (!decide (x < 0) && !decide ((nI l_nf) ≤ x))) (pj := 17) (st := []) (fun J1 J2 => ?_) ?_
  · skip
    refine V_if_lt (tgt := 16) nX2_hasField_1 rfl (fun h1 => ?_) (fun h1 => ?_)
    · skip
      refine V_iconst (v := (nI 0)) nX2_hasField_16 rfl ?_
      exact J2 (by simp [h1])
    · skip
      refine V_iload_n nX2_hasField_4 rfl ?_
      refine V_aload_n nX2_hasField_5 rfl ?_
      refine V_get2 0 6 (by decide) f_RX2_30 nX2_hasField_6 rfl rfl ?_
      refine V_icmp_ge (tgt := 16) nX2_hasField_9 rfl (fun h9 => ?_) (fun h9 => ?_)
      · skip
        refine V_iconst (v := (nI 0)) nX2_hasField_16 rfl ?_
        exact J2 (by simp [h1, h9])
      · skip
        refine V_iconst (v := (nI 1)) nX2_hasField_12 rfl ?_
        refine V_goto (tgt := 17) nX2_hasField_13 rfl ?_
        exact J1 (by simp [h1, h9])
  exact R_z rfl X hQ nX2_hasField_17 rfl (⟨rfl, rfl⟩)

set_option maxHeartbeats 4000000 in
set_option maxRecDepth 100000 in
theorem c_X2_hasEater (g : Gx) (l : Launch) (l_a : Nat → Nat) (l_nf : Nat) (l_ne : Nat) (l_pl : Nat → Int32) (l_yl : Nat → Int32) (l_nd : Nat → Int32) (l_hm : Nat → Int32) (l_wk : Nat → Int32) (l_kd : Nat → Int32)  (x : Int32) (hne : l_ne ≤ 5) : Cd g l yX2_hasEater mX2_hasEater ({ frames := 0, cells := 0, slots := 0, locals := 0 } : Room) [.ref (l_a 0), .int x] (wL g l_a l_nf l_ne l_pl l_yl l_nd l_hm l_wk l_kd) (some (.int (bI (hasN l_ne x)))) (wL g l_a l_nf l_ne l_pl l_yl l_nd l_hm l_wk l_kd) := by
  refine Ct.of (lv := [(0, .ref (l_a 0)), (1, .int x)]) ⟨by decide +kernel, rfl, Nat.le_of_ble_eq_true rfl⟩ rfl (fun E A sz Q X hQ => ?_)
  refine V_iload_n nX2_hasEater_0 rfl ?_
  refine V_joinb (b := (!decide (x < 0) && !decide ((nI l_ne) ≤ x))) (pj := 17) (st := []) (fun J1 J2 => ?_) ?_
  · skip
    refine V_if_lt (tgt := 16) nX2_hasEater_1 rfl (fun h1 => ?_) (fun h1 => ?_)
    · skip
      refine V_iconst (v := (nI 0)) nX2_hasEater_16 rfl ?_
      exact J2 (by simp [h1])
    · skip
      refine V_iload_n nX2_hasEater_4 rfl ?_
      refine V_aload_n nX2_hasEater_5 rfl ?_
      refine V_get2 0 7 (by decide) f_RX2_34 nX2_hasEater_6 rfl rfl ?_
      refine V_icmp_ge (tgt := 16) nX2_hasEater_9 rfl (fun h9 => ?_) (fun h9 => ?_)
      · skip
        refine V_iconst (v := (nI 0)) nX2_hasEater_16 rfl ?_
        exact J2 (by simp [h1, h9])
      · skip
        refine V_iconst (v := (nI 1)) nX2_hasEater_12 rfl ?_
        refine V_goto (tgt := 17) nX2_hasEater_13 rfl ?_
        exact J1 (by simp [h1, h9])
  exact R_z rfl X hQ nX2_hasEater_17 rfl (⟨rfl, rfl⟩)

set_option maxHeartbeats 4000000 in
set_option maxRecDepth 100000 in
theorem c_X2_allEaters (g : Gx) (l : Launch) (l_a : Nat → Nat) (l_nf : Nat) (l_ne : Nat) (l_pl : Nat → Int32) (l_yl : Nat → Int32) (l_nd : Nat → Int32) (l_hm : Nat → Int32) (l_wk : Nat → Int32) (l_kd : Nat → Int32)   (hne : l_ne ≤ 5) : Cd g l yX2_allEaters mX2_allEaters ({ frames := 0, cells := 0, slots := 0, locals := 0 } : Room) [.ref (l_a 0)] (wL g l_a l_nf l_ne l_pl l_yl l_nd l_hm l_wk l_kd) (some (.int (nI (2 ^ l_ne - 1)))) (wL g l_a l_nf l_ne l_pl l_yl l_nd l_hm l_wk l_kd) := by
  refine Ct.of (lv := [(0, .ref (l_a 0))]) ⟨by decide +kernel, rfl, Nat.le_of_ble_eq_true rfl⟩ rfl (fun E A sz Q X hQ => ?_)
  refine V_iconst (v := (nI 1)) nX2_allEaters_0 rfl ?_
  refine V_aload_n nX2_allEaters_1 rfl ?_
  refine V_get2 0 7 (by decide) f_RX2_34 nX2_allEaters_2 rfl rfl ?_
  refine V_ishl (v := nI (2 ^ l_ne)) nX2_allEaters_5 (nI_shl1 (by omega)) ?_
  refine V_iconst (v := (nI 1)) nX2_allEaters_6 rfl ?_
  refine V_isub (v := nI ((2 ^ l_ne) - 1)) nX2_allEaters_7 (pk_sub (Nat.one_le_two_pow)) ?_
  exact R_i rfl X hQ nX2_allEaters_8 rfl (⟨rfl, rfl⟩)

set_option maxHeartbeats 4000000 in
set_option maxRecDepth 100000 in
theorem c_X2_portionOf (g : Gx) (l : Launch) (l_a : Nat → Nat) (l_nf : Nat) (l_ne : Nat) (l_pl : Nat → Int32) (l_yl : Nat → Int32) (l_nd : Nat → Int32) (l_hm : Nat → Int32) (l_wk : Nat → Int32) (l_kd : Nat → Int32)  (e : Nat) (he : e < 5) : Cd g l yX2_portionOf mX2_portionOf ({ frames := 0, cells := 0, slots := 0, locals := 0 } : Room) [.ref (l_a 0), .int (nI e)] (wL g l_a l_nf l_ne l_pl l_yl l_nd l_hm l_wk l_kd) (some (.int (nI (porN l_kd e)))) (wL g l_a l_nf l_ne l_pl l_yl l_nd l_hm l_wk l_kd) := by
  refine Ct.of (lv := [(0, .ref (l_a 0)), (1, .int (nI e))]) ⟨by decide +kernel, rfl, Nat.le_of_ble_eq_true rfl⟩ rfl (fun E A sz Q X hQ => ?_)
  refine V_aload_n nX2_portionOf_0 rfl ?_
  refine V_get2 0 5 (by decide) f_RX2_27 nX2_portionOf_1 rfl rfl ?_
  refine V_iload_n nX2_portionOf_4 rfl ?_
  refine V_iald 6 nX2_portionOf_5 rfl (by omega) (by decide) rfl ?_
  refine V_iconst (v := (nI 2)) nX2_portionOf_6 rfl ?_
  refine V_joinN (b := decide ((l_kd e) = (nI 2))) (x := 2) (y := 1) (pj := 15) (st := []) (fun J1 J2 => ?_) ?_
  · skip
    refine V_icmp_ne (tgt := 14) nX2_portionOf_7 rfl (fun h7 => ?_) (fun h7 => ?_)
    · skip
      refine V_iconst (v := (nI 1)) nX2_portionOf_14 rfl ?_
      exact J2 (by simp [h7])
    · skip
      refine V_iconst (v := (nI 2)) nX2_portionOf_10 rfl ?_
      refine V_goto (tgt := 15) nX2_portionOf_11 rfl ?_
      exact J1 (by simp [h7])
  exact R_i rfl X hQ nX2_portionOf_15 rfl (⟨rfl, rfl⟩)

set_option maxHeartbeats 4000000 in
set_option maxRecDepth 100000 in
theorem c_X1_debt (g : Gx) (l : Launch) (c_a : Nat → Nat) (c_la : Nat → Nat) (c_lo : Nat → Int32) (c_sk : Nat → Int32) (c_db : Nat → Int32) (c_yr : Int32) (c_vi : Nat → Int32) (c_wy : Nat → Int32)  (e : Nat) (f : Nat) (he : e < 5) (hf : f < 4) : Cd g l yX1_debt mX1_debt ({ frames := 0, cells := 0, slots := 0, locals := 0 } : Room) [.ref (c_a 0), .int (nI e), .int (nI f)] (wC g c_a c_la c_lo c_sk c_db c_yr c_vi c_wy) (some (.int (c_db (e * 4 + f)))) (wC g c_a c_la c_lo c_sk c_db c_yr c_vi c_wy) := by
  refine Ct.of (lv := [(0, .ref (c_a 0)), (1, .int (nI e)), (2, .int (nI f))]) ⟨by decide +kernel, rfl, Nat.le_of_ble_eq_true rfl⟩ rfl (fun E A sz Q X hQ => ?_)
  refine V_aload_n nX1_debt_0 rfl ?_
  refine V_get1 0 3 (by decide) f_RX1_22 nX1_debt_1 rfl rfl ?_
  refine V_iload_n nX1_debt_4 rfl ?_
  refine V_iconst (v := (nI 4)) nX1_debt_5 rfl ?_
  refine V_imul (v := nI (e * 4)) nX1_debt_6 (pk_mul e 4) ?_
  refine V_iload_n nX1_debt_7 rfl ?_
  refine V_iadd (v := nI ((e * 4) + f)) nX1_debt_8 (nI_add (e * 4) f) ?_
  refine V_iald 3 nX1_debt_9 rfl (by omega) (by decide) rfl ?_
  exact R_i rfl X hQ nX1_debt_10 rfl (⟨rfl, rfl⟩)

set_option maxHeartbeats 4000000 in
set_option maxRecDepth 100000 in
theorem c_X1_debtsOf (g : Gx) (l : Launch) (c_a : Nat → Nat) (c_lo : Nat → Int32) (c_sk : Nat → Int32) (c_db : Nat → Int32) (c_yr : Int32) (c_vi : Nat → Int32) (c_wy : Nat → Int32) (l_a : Nat → Nat) (l_nf : Nat) (l_ne : Nat) (l_pl : Nat → Int32) (l_yl : Nat → Int32) (l_nd : Nat → Int32) (l_hm : Nat → Int32) (l_wk : Nat → Int32) (l_kd : Nat → Int32)  (e : Nat) (hnf : l_nf ≤ 4) (he : e < 5) : Cd g l yX1_debtsOf mX1_debtsOf ({ frames := 1, cells := 0, slots := 0, locals := 22 } : Room) [.ref (c_a 0), .int (nI e)] ((wC g c_a l_a c_lo c_sk c_db c_yr c_vi c_wy) ++ (wL g l_a l_nf l_ne l_pl l_yl l_nd l_hm l_wk l_kd)) (some (.int (debtS c_db e l_nf))) ((wC g c_a l_a c_lo c_sk c_db c_yr c_vi c_wy) ++ (wL g l_a l_nf l_ne l_pl l_yl l_nd l_hm l_wk l_kd)) := by
  refine Ct.of (lv := [(0, .ref (c_a 0)), (1, .int (nI e))]) ⟨by decide +kernel, rfl, Nat.le_of_ble_eq_true rfl⟩ rfl (fun E A sz Q X hQ => ?_)
  refine V_iconst (v := (nI 0)) nX1_debtsOf_0 rfl ?_
  refine V_istore_n (lv' := [(0, .ref (c_a 0)), (1, .int (nI e)), (2, .int (nI 0))]) nX1_debtsOf_1 (by decide) rfl ?_
  refine V_iconst (v := (nI 0)) nX1_debtsOf_2 rfl ?_
  refine V_istore_n (lv' := [(0, .ref (c_a 0)), (1, .int (nI e)), (2, .int (nI 0)), (3, .int (nI 0))]) nX1_debtsOf_3 (by decide) rfl ?_
  have L4 : ∀ (n : Nat) (i : Nat), l_nf - i < n → i ≤ l_nf → V g E mX1_debtsOf A Q 0 0 ((wC g c_a l_a c_lo c_sk c_db c_yr c_vi c_wy) ++ (wL g l_a l_nf l_ne l_pl l_yl l_nd l_hm l_wk l_kd)) 4 [(0, .ref (c_a 0)), (1, .int (nI e)), (2, .int (debtS c_db e i)), (3, .int (nI i))] [] := by
    intro n
    induction n with
    | zero => intro i hm; exact absurd hm (Nat.not_lt_zero _)
    | succ n ih =>
      intro i hm hi
      refine V_iload_n nX1_debtsOf_4 rfl ?_
      refine V_aload_n nX1_debtsOf_5 rfl ?_
      refine V_get1 0 0 (by decide) f_RX1_9 nX1_debtsOf_6 rfl rfl ?_
      refine V_get2 6 6 (by decide) f_RX1_35 nX1_debtsOf_9 rfl rfl ?_
      refine V_icmp_ge_N (tgt := 30) nX1_debtsOf_12 rfl (by omega) (by omega) (fun h12 => ?_) (fun h12 => ?_)
      · skip
        have hx_i : l_nf = i := by omega
        subst hx_i
        refine V_iload_n nX1_debtsOf_30 rfl ?_
        exact R_i rfl X hQ nX1_debtsOf_31 rfl (⟨rfl, rfl⟩)
      · skip
        refine V_iload_n nX1_debtsOf_15 rfl ?_
        refine V_aload_n nX1_debtsOf_16 rfl ?_
        refine V_iload_n nX1_debtsOf_17 rfl ?_
        refine V_iload_n nX1_debtsOf_18 rfl ?_
        refine V_cVi (C := (RX1, TX1, 7)) (ci := 1) (ws' := (wC g c_a l_a c_lo c_sk c_db c_yr c_vi c_wy) ++ (wL g l_a l_nf l_ne l_pl l_yl l_nd l_hm l_wk l_kd)) [0, 1, 2, 3, 4, 5] 2 X (c_X1_debt g l c_a l_a c_lo c_sk c_db c_yr c_vi c_wy  e i (by omega) (by omega)) k_RX1_49 hy_X1_debt (by decide) rfl (by decide) 0 rfl rfl nX1_debtsOf_19 rfl rfl (Nat.le_of_ble_eq_true rfl) rfl ?_
        refine V_iadd (v := (debtS c_db e i) + (c_db (e * 4 + i))) nX1_debtsOf_22 rfl ?_
        refine V_istore_n (lv' := [(0, .ref (c_a 0)), (1, .int (nI e)), (2, .int ((debtS c_db e i) + (c_db (e * 4 + i)))), (3, .int (nI i))]) nX1_debtsOf_23 (by decide) rfl ?_
        refine V_iinc (v := nI (i + 1)) (lv' := [(0, .ref (c_a 0)), (1, .int (nI e)), (2, .int ((debtS c_db e i) + (c_db (e * 4 + i)))), (3, .int (nI (i + 1)))]) nX1_debtsOf_24 rfl (nI_add i 1) (by decide) rfl ?_
        refine V_goto (tgt := 4) nX1_debtsOf_27 rfl ?_
        exact ih (i + 1) (by omega) (by omega)
  exact L4 _ 0 (Nat.lt_succ_self _) (by omega)

set_option maxHeartbeats 4000000 in
set_option maxRecDepth 100000 in
theorem c_X1_allDebts (g : Gx) (l : Launch) (c_a : Nat → Nat) (c_lo : Nat → Int32) (c_sk : Nat → Int32) (c_db : Nat → Int32) (c_yr : Int32) (c_vi : Nat → Int32) (c_wy : Nat → Int32) (l_a : Nat → Nat) (l_nf : Nat) (l_ne : Nat) (l_pl : Nat → Int32) (l_yl : Nat → Int32) (l_nd : Nat → Int32) (l_hm : Nat → Int32) (l_wk : Nat → Int32) (l_kd : Nat → Int32)   (hnf : l_nf ≤ 4) (hne : l_ne ≤ 5) : Cd g l yX1_allDebts mX1_allDebts ({ frames := 2, cells := 0, slots := 0, locals := 45 } : Room) [.ref (c_a 0)] ((wC g c_a l_a c_lo c_sk c_db c_yr c_vi c_wy) ++ (wL g l_a l_nf l_ne l_pl l_yl l_nd l_hm l_wk l_kd)) (some (.int (sumI (fun e => debtS c_db e l_nf) l_ne))) ((wC g c_a l_a c_lo c_sk c_db c_yr c_vi c_wy) ++ (wL g l_a l_nf l_ne l_pl l_yl l_nd l_hm l_wk l_kd)) := by
  refine Ct.of (lv := [(0, .ref (c_a 0))]) ⟨by decide +kernel, rfl, Nat.le_of_ble_eq_true rfl⟩ rfl (fun E A sz Q X hQ => ?_)
  refine V_iconst (v := (nI 0)) nX1_allDebts_0 rfl ?_
  refine V_istore_n (lv' := [(0, .ref (c_a 0)), (1, .int (nI 0))]) nX1_allDebts_1 (by decide) rfl ?_
  refine V_iconst (v := (nI 0)) nX1_allDebts_2 rfl ?_
  refine V_istore_n (lv' := [(0, .ref (c_a 0)), (1, .int (nI 0)), (2, .int (nI 0))]) nX1_allDebts_3 (by decide) rfl ?_
  have L4 : ∀ (n : Nat) (i : Nat), l_ne - i < n → i ≤ l_ne → V g E mX1_allDebts A Q 0 0 ((wC g c_a l_a c_lo c_sk c_db c_yr c_vi c_wy) ++ (wL g l_a l_nf l_ne l_pl l_yl l_nd l_hm l_wk l_kd)) 4 [(0, .ref (c_a 0)), (1, .int (sumI (fun e => debtS c_db e l_nf) i)), (2, .int (nI i))] [] := by
    intro n
    induction n with
    | zero => intro i hm; exact absurd hm (Nat.not_lt_zero _)
    | succ n ih =>
      intro i hm hi
      refine V_iload_n nX1_allDebts_4 rfl ?_
      refine V_aload_n nX1_allDebts_5 rfl ?_
      refine V_get1 0 0 (by decide) f_RX1_9 nX1_allDebts_6 rfl rfl ?_
      refine V_get2 6 7 (by decide) f_RX1_53 nX1_allDebts_9 rfl rfl ?_
      refine V_icmp_ge_N (tgt := 29) nX1_allDebts_12 rfl (by omega) (by omega) (fun h12 => ?_) (fun h12 => ?_)
      · skip
        have hx_i : l_ne = i := by omega
        subst hx_i
        refine V_iload_n nX1_allDebts_29 rfl ?_
        exact R_i rfl X hQ nX1_allDebts_30 rfl (⟨rfl, rfl⟩)
      · skip
        refine V_iload_n nX1_allDebts_15 rfl ?_
        refine V_aload_n nX1_allDebts_16 rfl ?_
        refine V_iload_n nX1_allDebts_17 rfl ?_
        refine V_cVi (C := (RX1, TX1, 7)) (ci := 1) (ws' := (wC g c_a l_a c_lo c_sk c_db c_yr c_vi c_wy) ++ (wL g l_a l_nf l_ne l_pl l_yl l_nd l_hm l_wk l_kd)) [0, 1, 2, 3, 4, 5, 6, 7, 8, 9, 10, 11, 12] 1 X (c_X1_debtsOf g l c_a c_lo c_sk c_db c_yr c_vi c_wy l_a l_nf l_ne l_pl l_yl l_nd l_hm l_wk l_kd  i (by omega) (by omega)) k_RX1_56 hy_X1_debtsOf (by decide) rfl (by decide) 0 rfl rfl nX1_allDebts_18 rfl rfl (Nat.le_of_ble_eq_true rfl) rfl ?_
        refine V_iadd (v := (sumI (fun e => debtS c_db e l_nf) i) + (debtS c_db i l_nf)) nX1_allDebts_21 rfl ?_
        refine V_istore_n (lv' := [(0, .ref (c_a 0)), (1, .int ((sumI (fun e => debtS c_db e l_nf) i) + (debtS c_db i l_nf))), (2, .int (nI i))]) nX1_allDebts_22 (by decide) rfl ?_
        refine V_iinc (v := nI (i + 1)) (lv' := [(0, .ref (c_a 0)), (1, .int ((sumI (fun e => debtS c_db e l_nf) i) + (debtS c_db i l_nf))), (2, .int (nI (i + 1)))]) nX1_allDebts_23 rfl (nI_add i 1) (by decide) rfl ?_
        refine V_goto (tgt := 4) nX1_allDebts_26 rfl ?_
        exact ih (i + 1) (by omega) (by omega)
  exact L4 _ 0 (Nat.lt_succ_self _) (by omega)

set_option maxHeartbeats 4000000 in
set_option maxRecDepth 100000 in
theorem c_X1_debtorsOf (g : Gx) (l : Launch) (c_a : Nat → Nat) (c_lo : Nat → Int32) (c_sk : Nat → Int32) (c_db : Nat → Int32) (c_yr : Int32) (c_vi : Nat → Int32) (c_wy : Nat → Int32) (l_a : Nat → Nat) (l_nf : Nat) (l_ne : Nat) (l_pl : Nat → Int32) (l_yl : Nat → Int32) (l_nd : Nat → Int32) (l_hm : Nat → Int32) (l_wk : Nat → Int32) (l_kd : Nat → Int32)  (f : Nat) (hne : l_ne ≤ 5) (hf : f < 4) : Cd g l yX1_debtorsOf mX1_debtorsOf ({ frames := 1, cells := 0, slots := 0, locals := 22 } : Room) [.ref (c_a 0), .int (nI f)] ((wC g c_a l_a c_lo c_sk c_db c_yr c_vi c_wy) ++ (wL g l_a l_nf l_ne l_pl l_yl l_nd l_hm l_wk l_kd)) (some (.int (nI (bitsN (fun e => !decide (c_db (e * 4 + f) ≤ 0)) l_ne)))) ((wC g c_a l_a c_lo c_sk c_db c_yr c_vi c_wy) ++ (wL g l_a l_nf l_ne l_pl l_yl l_nd l_hm l_wk l_kd)) := by
  refine Ct.of (lv := [(0, .ref (c_a 0)), (1, .int (nI f))]) ⟨by decide +kernel, rfl, Nat.le_of_ble_eq_true rfl⟩ rfl (fun E A sz Q X hQ => ?_)
  refine V_iconst (v := (nI 0)) nX1_debtorsOf_0 rfl ?_
  refine V_istore_n (lv' := [(0, .ref (c_a 0)), (1, .int (nI f)), (2, .int (nI 0))]) nX1_debtorsOf_1 (by decide) rfl ?_
  refine V_iconst (v := (nI 0)) nX1_debtorsOf_2 rfl ?_
  refine V_istore_n (lv' := [(0, .ref (c_a 0)), (1, .int (nI f)), (2, .int (nI 0)), (3, .int (nI 0))]) nX1_debtorsOf_3 (by decide) rfl ?_
  have L4 : ∀ (n : Nat) (i : Nat), l_ne - i < n → i ≤ l_ne → V g E mX1_debtorsOf A Q 0 0 ((wC g c_a l_a c_lo c_sk c_db c_yr c_vi c_wy) ++ (wL g l_a l_nf l_ne l_pl l_yl l_nd l_hm l_wk l_kd)) 4 [(0, .ref (c_a 0)), (1, .int (nI f)), (2, .int (nI (bitsN (fun e => !decide (c_db (e * 4 + f) ≤ 0)) i))), (3, .int (nI i))] [] := by
    intro n
    induction n with
    | zero => intro i hm; exact absurd hm (Nat.not_lt_zero _)
    | succ n ih =>
      intro i hm hi
      refine V_iload_n nX1_debtorsOf_4 rfl ?_
      refine V_aload_n nX1_debtorsOf_5 rfl ?_
      refine V_get1 0 0 (by decide) f_RX1_9 nX1_debtorsOf_6 rfl rfl ?_
      refine V_get2 6 7 (by decide) f_RX1_53 nX1_debtorsOf_9 rfl rfl ?_
      refine V_icmp_ge_N (tgt := 40) nX1_debtorsOf_12 rfl (by omega) (by omega) (fun h12 => ?_) (fun h12 => ?_)
      · skip
        have hx_i : l_ne = i := by omega
        subst hx_i
        refine V_iload_n nX1_debtorsOf_40 rfl ?_
        exact R_i rfl X hQ nX1_debtorsOf_41 rfl (⟨rfl, rfl⟩)
      · skip
        refine V_iload_n nX1_debtorsOf_15 rfl ?_
        refine V_aload_n nX1_debtorsOf_16 rfl ?_
        refine V_iload_n nX1_debtorsOf_17 rfl ?_
        refine V_iload_n nX1_debtorsOf_18 rfl ?_
        refine V_cVi (C := (RX1, TX1, 7)) (ci := 1) (ws' := (wC g c_a l_a c_lo c_sk c_db c_yr c_vi c_wy) ++ (wL g l_a l_nf l_ne l_pl l_yl l_nd l_hm l_wk l_kd)) [0, 1, 2, 3, 4, 5] 2 X (c_X1_debt g l c_a l_a c_lo c_sk c_db c_yr c_vi c_wy  i f (by omega) (by omega)) k_RX1_49 hy_X1_debt (by decide) rfl (by decide) 0 rfl rfl nX1_debtorsOf_19 rfl rfl (Nat.le_of_ble_eq_true rfl) rfl ?_
        refine V_joinN (b := !decide ((c_db (i * 4 + f)) ≤ 0)) (x := (2 ^ i)) (y := 0) (pj := 32) (st := [.int (nI (bitsN (fun e => !decide (c_db (e * 4 + f) ≤ 0)) i))]) (fun J1 J2 => ?_) ?_
        · skip
          refine V_if_le (tgt := 31) nX1_debtorsOf_22 rfl (fun h22 => ?_) (fun h22 => ?_)
          · skip
            refine V_iconst (v := (nI 0)) nX1_debtorsOf_31 rfl ?_
            exact J2 (by simp [h22])
          · skip
            refine V_iconst (v := (nI 1)) nX1_debtorsOf_25 rfl ?_
            refine V_iload_n nX1_debtorsOf_26 rfl ?_
            refine V_ishl (v := nI (2 ^ i)) nX1_debtorsOf_27 (nI_shl1 (by omega)) ?_
            refine V_goto (tgt := 32) nX1_debtorsOf_28 rfl ?_
            exact J1 (by simp [h22])
        refine V_ior (v := nI ((bitsN (fun e => !decide (c_db (e * 4 + f) ≤ 0)) i) ||| (if (!decide ((c_db (i * 4 + f)) ≤ 0)) = true then 2 ^ i else 0))) nX1_debtorsOf_32 (nx_or (bitsN (fun e => !decide (c_db (e * 4 + f) ≤ 0)) i) (if (!decide ((c_db (i * 4 + f)) ≤ 0)) = true then 2 ^ i else 0)) ?_
        refine V_istore_n (lv' := [(0, .ref (c_a 0)), (1, .int (nI f)), (2, .int (nI ((bitsN (fun e => !decide (c_db (e * 4 + f) ≤ 0)) i) ||| (if (!decide ((c_db (i * 4 + f)) ≤ 0)) = true then 2 ^ i else 0)))), (3, .int (nI i))]) nX1_debtorsOf_33 (by decide) rfl ?_
        refine V_iinc (v := nI (i + 1)) (lv' := [(0, .ref (c_a 0)), (1, .int (nI f)), (2, .int (nI ((bitsN (fun e => !decide (c_db (e * 4 + f) ≤ 0)) i) ||| (if (!decide ((c_db (i * 4 + f)) ≤ 0)) = true then 2 ^ i else 0)))), (3, .int (nI (i + 1)))]) nX1_debtorsOf_34 rfl (nI_add i 1) (by decide) rfl ?_
        refine V_goto (tgt := 4) nX1_debtorsOf_37 rfl ?_
        exact ih (i + 1) (by omega) (by omega)
  exact L4 _ 0 (Nat.lt_succ_self _) (by omega)

set_option maxHeartbeats 4000000 in
set_option maxRecDepth 100000 in
theorem c_X1_allLoaves (g : Gx) (l : Launch) (c_a : Nat → Nat) (c_lo : Nat → Int32) (c_sk : Nat → Int32) (c_db : Nat → Int32) (c_yr : Int32) (c_vi : Nat → Int32) (c_wy : Nat → Int32) (l_a : Nat → Nat) (l_nf : Nat) (l_ne : Nat) (l_pl : Nat → Int32) (l_yl : Nat → Int32) (l_nd : Nat → Int32) (l_hm : Nat → Int32) (l_wk : Nat → Int32) (l_kd : Nat → Int32)   (hnf : l_nf ≤ 4) : Cd g l yX1_allLoaves mX1_allLoaves ({ frames := 0, cells := 0, slots := 0, locals := 0 } : Room) [.ref (c_a 0)] ((wC g c_a l_a c_lo c_sk c_db c_yr c_vi c_wy) ++ (wL g l_a l_nf l_ne l_pl l_yl l_nd l_hm l_wk l_kd)) (some (.int (sumI c_lo l_nf))) ((wC g c_a l_a c_lo c_sk c_db c_yr c_vi c_wy) ++ (wL g l_a l_nf l_ne l_pl l_yl l_nd l_hm l_wk l_kd)) := by
  refine Ct.of (lv := [(0, .ref (c_a 0))]) ⟨by decide +kernel, rfl, Nat.le_of_ble_eq_true rfl⟩ rfl (fun E A sz Q X hQ => ?_)
  refine V_iconst (v := (nI 0)) nX1_allLoaves_0 rfl ?_
  refine V_istore_n (lv' := [(0, .ref (c_a 0)), (1, .int (nI 0))]) nX1_allLoaves_1 (by decide) rfl ?_
  refine V_iconst (v := (nI 0)) nX1_allLoaves_2 rfl ?_
  refine V_istore_n (lv' := [(0, .ref (c_a 0)), (1, .int (nI 0)), (2, .int (nI 0))]) nX1_allLoaves_3 (by decide) rfl ?_
  have L4 : ∀ (n : Nat) (i : Nat), l_nf - i < n → i ≤ l_nf → V g E mX1_allLoaves A Q 0 0 ((wC g c_a l_a c_lo c_sk c_db c_yr c_vi c_wy) ++ (wL g l_a l_nf l_ne l_pl l_yl l_nd l_hm l_wk l_kd)) 4 [(0, .ref (c_a 0)), (1, .int (sumI c_lo i)), (2, .int (nI i))] [] := by
    intro n
    induction n with
    | zero => intro i hm; exact absurd hm (Nat.not_lt_zero _)
    | succ n ih =>
      intro i hm hi
      refine V_iload_n nX1_allLoaves_4 rfl ?_
      refine V_aload_n nX1_allLoaves_5 rfl ?_
      refine V_get1 0 0 (by decide) f_RX1_9 nX1_allLoaves_6 rfl rfl ?_
      refine V_get2 6 6 (by decide) f_RX1_35 nX1_allLoaves_9 rfl rfl ?_
      refine V_icmp_ge_N (tgt := 30) nX1_allLoaves_12 rfl (by omega) (by omega) (fun h12 => ?_) (fun h12 => ?_)
      · skip
        have hx_i : l_nf = i := by omega
        subst hx_i
        refine V_iload_n nX1_allLoaves_30 rfl ?_
        exact R_i rfl X hQ nX1_allLoaves_31 rfl (⟨rfl, rfl⟩)
      · skip
        refine V_iload_n nX1_allLoaves_15 rfl ?_
        refine V_aload_n nX1_allLoaves_16 rfl ?_
        refine V_get1 0 1 (by decide) f_RX1_15 nX1_allLoaves_17 rfl rfl ?_
        refine V_iload_n nX1_allLoaves_20 rfl ?_
        refine V_iald 1 nX1_allLoaves_21 rfl (by omega) (by decide) rfl ?_
        refine V_iadd (v := (sumI c_lo i) + (c_lo i)) nX1_allLoaves_22 rfl ?_
        refine V_istore_n (lv' := [(0, .ref (c_a 0)), (1, .int ((sumI c_lo i) + (c_lo i))), (2, .int (nI i))]) nX1_allLoaves_23 (by decide) rfl ?_
        refine V_iinc (v := nI (i + 1)) (lv' := [(0, .ref (c_a 0)), (1, .int ((sumI c_lo i) + (c_lo i))), (2, .int (nI (i + 1)))]) nX1_allLoaves_24 rfl (nI_add i 1) (by decide) rfl ?_
        refine V_goto (tgt := 4) nX1_allLoaves_27 rfl ?_
        exact ih (i + 1) (by omega) (by omega)
  exact L4 _ 0 (Nat.lt_succ_self _) (by omega)

set_option maxHeartbeats 4000000 in
set_option maxRecDepth 100000 in
theorem c_X1_allSeed (g : Gx) (l : Launch) (c_a : Nat → Nat) (c_lo : Nat → Int32) (c_sk : Nat → Int32) (c_db : Nat → Int32) (c_yr : Int32) (c_vi : Nat → Int32) (c_wy : Nat → Int32) (l_a : Nat → Nat) (l_nf : Nat) (l_ne : Nat) (l_pl : Nat → Int32) (l_yl : Nat → Int32) (l_nd : Nat → Int32) (l_hm : Nat → Int32) (l_wk : Nat → Int32) (l_kd : Nat → Int32)   (hnf : l_nf ≤ 4) : Cd g l yX1_allSeed mX1_allSeed ({ frames := 0, cells := 0, slots := 0, locals := 0 } : Room) [.ref (c_a 0)] ((wC g c_a l_a c_lo c_sk c_db c_yr c_vi c_wy) ++ (wL g l_a l_nf l_ne l_pl l_yl l_nd l_hm l_wk l_kd)) (some (.int (sumI c_sk l_nf))) ((wC g c_a l_a c_lo c_sk c_db c_yr c_vi c_wy) ++ (wL g l_a l_nf l_ne l_pl l_yl l_nd l_hm l_wk l_kd)) := by
  refine Ct.of (lv := [(0, .ref (c_a 0))]) ⟨by decide +kernel, rfl, Nat.le_of_ble_eq_true rfl⟩ rfl (fun E A sz Q X hQ => ?_)
  refine V_iconst (v := (nI 0)) nX1_allSeed_0 rfl ?_
  refine V_istore_n (lv' := [(0, .ref (c_a 0)), (1, .int (nI 0))]) nX1_allSeed_1 (by decide) rfl ?_
  refine V_iconst (v := (nI 0)) nX1_allSeed_2 rfl ?_
  refine V_istore_n (lv' := [(0, .ref (c_a 0)), (1, .int (nI 0)), (2, .int (nI 0))]) nX1_allSeed_3 (by decide) rfl ?_
  have L4 : ∀ (n : Nat) (i : Nat), l_nf - i < n → i ≤ l_nf → V g E mX1_allSeed A Q 0 0 ((wC g c_a l_a c_lo c_sk c_db c_yr c_vi c_wy) ++ (wL g l_a l_nf l_ne l_pl l_yl l_nd l_hm l_wk l_kd)) 4 [(0, .ref (c_a 0)), (1, .int (sumI c_sk i)), (2, .int (nI i))] [] := by
    intro n
    induction n with
    | zero => intro i hm; exact absurd hm (Nat.not_lt_zero _)
    | succ n ih =>
      intro i hm hi
      refine V_iload_n nX1_allSeed_4 rfl ?_
      refine V_aload_n nX1_allSeed_5 rfl ?_
      refine V_get1 0 0 (by decide) f_RX1_9 nX1_allSeed_6 rfl rfl ?_
      refine V_get2 6 6 (by decide) f_RX1_35 nX1_allSeed_9 rfl rfl ?_
      refine V_icmp_ge_N (tgt := 30) nX1_allSeed_12 rfl (by omega) (by omega) (fun h12 => ?_) (fun h12 => ?_)
      · skip
        have hx_i : l_nf = i := by omega
        subst hx_i
        refine V_iload_n nX1_allSeed_30 rfl ?_
        exact R_i rfl X hQ nX1_allSeed_31 rfl (⟨rfl, rfl⟩)
      · skip
        refine V_iload_n nX1_allSeed_15 rfl ?_
        refine V_aload_n nX1_allSeed_16 rfl ?_
        refine V_get1 0 2 (by decide) f_RX1_19 nX1_allSeed_17 rfl rfl ?_
        refine V_iload_n nX1_allSeed_20 rfl ?_
        refine V_iald 2 nX1_allSeed_21 rfl (by omega) (by decide) rfl ?_
        refine V_iadd (v := (sumI c_sk i) + (c_sk i)) nX1_allSeed_22 rfl ?_
        refine V_istore_n (lv' := [(0, .ref (c_a 0)), (1, .int ((sumI c_sk i) + (c_sk i))), (2, .int (nI i))]) nX1_allSeed_23 (by decide) rfl ?_
        refine V_iinc (v := nI (i + 1)) (lv' := [(0, .ref (c_a 0)), (1, .int ((sumI c_sk i) + (c_sk i))), (2, .int (nI (i + 1)))]) nX1_allSeed_24 rfl (nI_add i 1) (by decide) rfl ?_
        refine V_goto (tgt := 4) nX1_allSeed_27 rfl ?_
        exact ih (i + 1) (by omega) (by omega)
  exact L4 _ 0 (Nat.lt_succ_self _) (by omega)

set_option maxHeartbeats 4000000 in
set_option maxRecDepth 100000 in
theorem c_X1_isSown (g : Gx) (l : Launch) (c_a : Nat → Nat) (c_lo : Nat → Int32) (c_sk : Nat → Int32) (c_db : Nat → Int32) (c_yr : Int32) (c_vi : Nat → Int32) (c_wy : Nat → Int32) (l_a : Nat → Nat) (l_nf : Nat) (l_ne : Nat) (l_pl : Nat → Int32) (l_yl : Nat → Int32) (l_nd : Nat → Int32) (l_hm : Nat → Int32) (l_wk : Nat → Int32) (l_kd : Nat → Int32)  (f : Nat) (hf : f < 4) : Cd g l yX1_isSown mX1_isSown ({ frames := 0, cells := 0, slots := 0, locals := 0 } : Room) [.ref (c_a 0), .int (nI f)] ((wC g c_a l_a c_lo c_sk c_db c_yr c_vi c_wy) ++ (wL g l_a l_nf l_ne l_pl l_yl l_nd l_hm l_wk l_kd)) (some (.int (bI (isSw l_nd c_sk f)))) ((wC g c_a l_a c_lo c_sk c_db c_yr c_vi c_wy) ++ (wL g l_a l_nf l_ne l_pl l_yl l_nd l_hm l_wk l_kd)) := by
  refine Ct.of (lv := [(0, .ref (c_a 0)), (1, .int (nI f))]) ⟨by decide +kernel, rfl, Nat.le_of_ble_eq_true rfl⟩ rfl (fun E A sz Q X hQ => ?_)
  refine V_aload_n nX1_isSown_0 rfl ?_
  refine V_get1 0 2 (by decide) f_RX1_19 nX1_isSown_1 rfl rfl ?_
  refine V_iload_n nX1_isSown_4 rfl ?_
  refine V_iald 2 nX1_isSown_5 rfl (by omega) (by decide) rfl ?_
  refine V_aload_n nX1_isSown_6 rfl ?_
  refine V_get1 0 0 (by decide) f_RX1_9 nX1_isSown_7 rfl rfl ?_
  refine V_get2 6 2 (by decide) f_RX1_60 nX1_isSown_10 rfl rfl ?_
  refine V_iload_n nX1_isSown_13 rfl ?_
  refine V_iald 9 nX1_isSown_14 rfl (by omega) (by decide) rfl ?_
  refine V_joinb (b := !decide ((c_sk f) < (l_nd f))) (pj := 23) (st := []) (fun J1 J2 => ?_) ?_
  · skip
    refine V_icmp_lt (tgt := 22) nX1_isSown_15 rfl (fun h15 => ?_) (fun h15 => ?_)
    · skip
      refine V_iconst (v := (nI 0)) nX1_isSown_22 rfl ?_
      exact J2 (by simp [h15])
    · skip
      refine V_iconst (v := (nI 1)) nX1_isSown_18 rfl ?_
      refine V_goto (tgt := 23) nX1_isSown_19 rfl ?_
      exact J1 (by simp [h15])
  exact R_z rfl X hQ nX1_isSown_23 rfl (⟨rfl, rfl⟩)

set_option maxHeartbeats 4000000 in
set_option maxRecDepth 100000 in
theorem c_X1_sownFields (g : Gx) (l : Launch) (c_a : Nat → Nat) (c_lo : Nat → Int32) (c_sk : Nat → Int32) (c_db : Nat → Int32) (c_yr : Int32) (c_vi : Nat → Int32) (c_wy : Nat → Int32) (l_a : Nat → Nat) (l_nf : Nat) (l_ne : Nat) (l_pl : Nat → Int32) (l_yl : Nat → Int32) (l_nd : Nat → Int32) (l_hm : Nat → Int32) (l_wk : Nat → Int32) (l_kd : Nat → Int32)   (hnf : l_nf ≤ 4) : Cd g l yX1_sownFields mX1_sownFields ({ frames := 1, cells := 0, slots := 0, locals := 21 } : Room) [.ref (c_a 0)] ((wC g c_a l_a c_lo c_sk c_db c_yr c_vi c_wy) ++ (wL g l_a l_nf l_ne l_pl l_yl l_nd l_hm l_wk l_kd)) (some (.int (nI (bitsN (isSw l_nd c_sk) l_nf)))) ((wC g c_a l_a c_lo c_sk c_db c_yr c_vi c_wy) ++ (wL g l_a l_nf l_ne l_pl l_yl l_nd l_hm l_wk l_kd)) := by
  refine Ct.of (lv := [(0, .ref (c_a 0))]) ⟨by decide +kernel, rfl, Nat.le_of_ble_eq_true rfl⟩ rfl (fun E A sz Q X hQ => ?_)
  refine V_iconst (v := (nI 0)) nX1_sownFields_0 rfl ?_
  refine V_istore_n (lv' := [(0, .ref (c_a 0)), (1, .int (nI 0))]) nX1_sownFields_1 (by decide) rfl ?_
  refine V_iconst (v := (nI 0)) nX1_sownFields_2 rfl ?_
  refine V_istore_n (lv' := [(0, .ref (c_a 0)), (1, .int (nI 0)), (2, .int (nI 0))]) nX1_sownFields_3 (by decide) rfl ?_
  have L4 : ∀ (n : Nat) (i : Nat), l_nf - i < n → i ≤ l_nf → V g E mX1_sownFields A Q 0 0 ((wC g c_a l_a c_lo c_sk c_db c_yr c_vi c_wy) ++ (wL g l_a l_nf l_ne l_pl l_yl l_nd l_hm l_wk l_kd)) 4 [(0, .ref (c_a 0)), (1, .int (nI (bitsN (isSw l_nd c_sk) i))), (2, .int (nI i))] [] := by
    intro n
    induction n with
    | zero => intro i hm; exact absurd hm (Nat.not_lt_zero _)
    | succ n ih =>
      intro i hm hi
      refine V_iload_n nX1_sownFields_4 rfl ?_
      refine V_aload_n nX1_sownFields_5 rfl ?_
      refine V_get1 0 0 (by decide) f_RX1_9 nX1_sownFields_6 rfl rfl ?_
      refine V_get2 6 6 (by decide) f_RX1_35 nX1_sownFields_9 rfl rfl ?_
      refine V_icmp_ge_N (tgt := 39) nX1_sownFields_12 rfl (by omega) (by omega) (fun h12 => ?_) (fun h12 => ?_)
      · skip
        have hx_i : l_nf = i := by omega
        subst hx_i
        refine V_iload_n nX1_sownFields_39 rfl ?_
        exact R_i rfl X hQ nX1_sownFields_40 rfl (⟨rfl, rfl⟩)
      · skip
        refine V_iload_n nX1_sownFields_15 rfl ?_
        refine V_aload_n nX1_sownFields_16 rfl ?_
        refine V_iload_n nX1_sownFields_17 rfl ?_
        refine V_cVi (C := (RX1, TX1, 7)) (ci := 1) (ws' := (wC g c_a l_a c_lo c_sk c_db c_yr c_vi c_wy) ++ (wL g l_a l_nf l_ne l_pl l_yl l_nd l_hm l_wk l_kd)) [0, 1, 2, 3, 4, 5, 6, 7, 8, 9, 10, 11, 12] 1 X (c_X1_isSown g l c_a c_lo c_sk c_db c_yr c_vi c_wy l_a l_nf l_ne l_pl l_yl l_nd l_hm l_wk l_kd  i (by omega)) k_RX1_63 hy_X1_isSown (by decide) rfl (by decide) 0 rfl rfl nX1_sownFields_18 rfl rfl (Nat.le_of_ble_eq_true rfl) rfl ?_
        refine V_joinN (b := (isSw l_nd c_sk i)) (x := (2 ^ i)) (y := 0) (pj := 31) (st := [.int (nI (bitsN (isSw l_nd c_sk) i))]) (fun J1 J2 => ?_) ?_
        · skip
          refine V_if_eq_b (tgt := 30) nX1_sownFields_21 rfl (fun h21 => ?_) (fun h21 => ?_)
          · skip
            refine V_iconst (v := (nI 0)) nX1_sownFields_30 rfl ?_
            exact J2 (by simp [h21])
          · skip
            refine V_iconst (v := (nI 1)) nX1_sownFields_24 rfl ?_
            refine V_iload_n nX1_sownFields_25 rfl ?_
            refine V_ishl (v := nI (2 ^ i)) nX1_sownFields_26 (nI_shl1 (by omega)) ?_
            refine V_goto (tgt := 31) nX1_sownFields_27 rfl ?_
            exact J1 (by simp [h21])
        refine V_ior (v := nI ((bitsN (isSw l_nd c_sk) i) ||| (if (isSw l_nd c_sk i) = true then 2 ^ i else 0))) nX1_sownFields_31 (nx_or (bitsN (isSw l_nd c_sk) i) (if (isSw l_nd c_sk i) = true then 2 ^ i else 0)) ?_
        refine V_istore_n (lv' := [(0, .ref (c_a 0)), (1, .int (nI ((bitsN (isSw l_nd c_sk) i) ||| (if (isSw l_nd c_sk i) = true then 2 ^ i else 0)))), (2, .int (nI i))]) nX1_sownFields_32 (by decide) rfl ?_
        refine V_iinc (v := nI (i + 1)) (lv' := [(0, .ref (c_a 0)), (1, .int (nI ((bitsN (isSw l_nd c_sk) i) ||| (if (isSw l_nd c_sk i) = true then 2 ^ i else 0)))), (2, .int (nI (i + 1)))]) nX1_sownFields_33 rfl (nI_add i 1) (by decide) rfl ?_
        refine V_goto (tgt := 4) nX1_sownFields_36 rfl ?_
        exact ih (i + 1) (by omega) (by omega)
  exact L4 _ 0 (Nat.lt_succ_self _) (by omega)

set_option maxHeartbeats 4000000 in
set_option maxRecDepth 100000 in
theorem c_X1_canTake (g : Gx) (l : Launch) (c_a : Nat → Nat) (c_lo : Nat → Int32) (c_sk : Nat → Int32) (c_db : Nat → Int32) (c_yr : Int32) (c_vi : Nat → Int32) (c_wy : Nat → Int32) (l_a : Nat → Nat) (l_nf : Nat) (l_ne : Nat) (l_pl : Nat → Int32) (l_yl : Nat → Int32) (l_nd : Nat → Int32) (l_hm : Nat → Int32) (l_wk : Nat → Int32) (l_kd : Nat → Int32)  (e : Nat) (f : Nat) (hnf : l_nf ≤ 4) (he : e < 5) (hf : f < 4) : Cd g l yX1_canTake mX1_canTake ({ frames := 2, cells := 0, slots := 0, locals := 45 } : Room) [.ref (c_a 0), .int (nI e), .int (nI f)] ((wC g c_a l_a c_lo c_sk c_db c_yr c_vi c_wy) ++ (wL g l_a l_nf l_ne l_pl l_yl l_nd l_hm l_wk l_kd)) (some (.int (bI (canT l_kd c_lo c_db l_nf e f)))) ((wC g c_a l_a c_lo c_sk c_db c_yr c_vi c_wy) ++ (wL g l_a l_nf l_ne l_pl l_yl l_nd l_hm l_wk l_kd)) := by
  refine Ct.of (lv := [(0, .ref (c_a 0)), (1, .int (nI e)), (2, .int (nI f))]) ⟨by decide +kernel, rfl, Nat.le_of_ble_eq_true rfl⟩ rfl (fun E A sz Q X hQ => ?_)
  refine V_aload_n nX1_canTake_0 rfl ?_
  refine V_get1 0 0 (by decide) f_RX1_9 nX1_canTake_1 rfl rfl ?_
  refine V_get2 6 5 (by decide) f_RX1_67 nX1_canTake_4 rfl rfl ?_
  refine V_iload_n nX1_canTake_7 rfl ?_
  refine V_iald 12 nX1_canTake_8 rfl (by omega) (by decide) rfl ?_
  refine V_iconst (v := (nI 3)) nX1_canTake_9 rfl ?_
  refine V_joinb (b := (decide ((l_kd e) = (nI 3)) && !decide ((debtS c_db e l_nf) ≤ 0))) (pj := 26) (st := []) (fun J1 J2 => ?_) ?_
  · skip
    refine V_icmp_ne (tgt := 25) nX1_canTake_10 rfl (fun h10 => ?_) (fun h10 => ?_)
    · skip
      refine V_iconst (v := (nI 0)) nX1_canTake_25 rfl ?_
      exact J2 (by simp [h10])
    · skip
      refine V_aload_n nX1_canTake_13 rfl ?_
      refine V_iload_n nX1_canTake_14 rfl ?_
      refine V_cVi (C := (RX1, TX1, 7)) (ci := 1) (ws' := (wC g c_a l_a c_lo c_sk c_db c_yr c_vi c_wy) ++ (wL g l_a l_nf l_ne l_pl l_yl l_nd l_hm l_wk l_kd)) [0, 1, 2, 3, 4, 5, 6, 7, 8, 9, 10, 11, 12] 1 X (c_X1_debtsOf g l c_a c_lo c_sk c_db c_yr c_vi c_wy l_a l_nf l_ne l_pl l_yl l_nd l_hm l_wk l_kd  e (by omega) (by omega)) k_RX1_56 hy_X1_debtsOf (by decide) rfl (by decide) 0 rfl rfl nX1_canTake_15 rfl rfl (Nat.le_of_ble_eq_true rfl) rfl ?_
      refine V_if_le (tgt := 25) nX1_canTake_18 rfl (fun h18 => ?_) (fun h18 => ?_)
      · skip
        refine V_iconst (v := (nI 0)) nX1_canTake_25 rfl ?_
        exact J2 (by simp [h10, h18])
      · skip
        refine V_iconst (v := (nI 1)) nX1_canTake_21 rfl ?_
        refine V_goto (tgt := 26) nX1_canTake_22 rfl ?_
        exact J1 (by simp [h10, h18])
  refine V_istore_n (lv' := [(0, .ref (c_a 0)), (1, .int (nI e)), (2, .int (nI f)), (3, .int (bI (decide ((l_kd e) = (nI 3)) && !decide ((debtS c_db e l_nf) ≤ 0))))]) nX1_canTake_26 (by decide) rfl ?_
  refine V_aload_n nX1_canTake_27 rfl ?_
  refine V_get1 0 1 (by decide) f_RX1_15 nX1_canTake_28 rfl rfl ?_
  refine V_iload_n nX1_canTake_31 rfl ?_
  refine V_iald 1 nX1_canTake_32 rfl (by omega) (by decide) rfl ?_
  refine V_aload_n nX1_canTake_33 rfl ?_
  refine V_get1 0 0 (by decide) f_RX1_9 nX1_canTake_34 rfl rfl ?_
  refine V_iload_n nX1_canTake_37 rfl ?_
  refine V_cVi (C := (RX2, TX2, 8)) (ci := 2) (ws' := (wC g c_a l_a c_lo c_sk c_db c_yr c_vi c_wy) ++ (wL g l_a l_nf l_ne l_pl l_yl l_nd l_hm l_wk l_kd)) [6, 7, 8, 9, 10, 11, 12] 1 X (c_X2_portionOf g l l_a l_nf l_ne l_pl l_yl l_nd l_hm l_wk l_kd  e (by omega)) k_RX1_70 hy_X2_portionOf (by decide) rfl (by decide) 0 rfl rfl nX1_canTake_38 rfl rfl (Nat.le_of_ble_eq_true rfl) rfl ?_
  refine V_joinb (b := (!decide ((c_lo f) < (nI (porN l_kd e))) && !(decide ((l_kd e) = (nI 3)) && !decide ((debtS c_db e l_nf) ≤ 0)))) (pj := 53) (st := []) (fun J1 J2 => ?_) ?_
  · skip
    refine V_icmp_lt (tgt := 52) nX1_canTake_41 rfl (fun h41 => ?_) (fun h41 => ?_)
    · skip
      refine V_iconst (v := (nI 0)) nX1_canTake_52 rfl ?_
      exact J2 (by simp [h41])
    · skip
      refine V_iload_n nX1_canTake_44 rfl ?_
      refine V_if_ne_b (tgt := 52) nX1_canTake_45 rfl (fun h45 => ?_) (fun h45 => ?_)
      · skip
        refine V_iconst (v := (nI 0)) nX1_canTake_52 rfl ?_
        exact J2 (by simp [h41, h45])
      · skip
        refine V_iconst (v := (nI 1)) nX1_canTake_48 rfl ?_
        refine V_goto (tgt := 53) nX1_canTake_49 rfl ?_
        exact J1 (by simp [h41, h45])
  exact R_z rfl X hQ nX1_canTake_53 rfl (⟨rfl, rfl⟩)

set_option maxHeartbeats 4000000 in
set_option maxRecDepth 100000 in
theorem c_X1_takeLoaves (g : Gx) (l : Launch) (c_a : Nat → Nat) (c_lo : Nat → Int32) (c_sk : Nat → Int32) (c_db : Nat → Int32) (c_yr : Int32) (c_vi : Nat → Int32) (c_wy : Nat → Int32) (l_a : Nat → Nat) (l_nf : Nat) (l_ne : Nat) (l_pl : Nat → Int32) (l_yl : Nat → Int32) (l_nd : Nat → Int32) (l_hm : Nat → Int32) (l_wk : Nat → Int32) (l_kd : Nat → Int32)  (e : Nat) (f : Nat) (he : e < 5) (hf : f < 4) : Cd g l yX1_takeLoaves mX1_takeLoaves ({ frames := 1, cells := 0, slots := 0, locals := 24 } : Room) [.ref (c_a 0), .int (nI e), .int (nI f)] ((wC g c_a l_a c_lo c_sk c_db c_yr c_vi c_wy) ++ (wL g l_a l_nf l_ne l_pl l_yl l_nd l_hm l_wk l_kd)) none ((wC g c_a l_a (upd c_lo f (c_lo f - nI (porN l_kd e))) c_sk (upd c_db (e * 4 + f) (capI (c_db (e * 4 + f) + nI (porN l_kd e)))) c_yr c_vi c_wy) ++ (wL g l_a l_nf l_ne l_pl l_yl l_nd l_hm l_wk l_kd)) := by
  refine Ct.of (lv := [(0, .ref (c_a 0)), (1, .int (nI e)), (2, .int (nI f))]) ⟨by decide +kernel, rfl, Nat.le_of_ble_eq_true rfl⟩ rfl (fun E A sz Q X hQ => ?_)
  refine V_aload_n nX1_takeLoaves_0 rfl ?_
  refine V_get1 0 0 (by decide) f_RX1_9 nX1_takeLoaves_1 rfl rfl ?_
  refine V_iload_n nX1_takeLoaves_4 rfl ?_
  refine V_cVi (C := (RX2, TX2, 8)) (ci := 2) (ws' := (wC g c_a l_a c_lo c_sk c_db c_yr c_vi c_wy) ++ (wL g l_a l_nf l_ne l_pl l_yl l_nd l_hm l_wk l_kd)) [6, 7, 8, 9, 10, 11, 12] 1 X (c_X2_portionOf g l l_a l_nf l_ne l_pl l_yl l_nd l_hm l_wk l_kd  e (by omega)) k_RX1_70 hy_X2_portionOf (by decide) rfl (by decide) 0 rfl rfl nX1_takeLoaves_5 rfl rfl (Nat.le_of_ble_eq_true rfl) rfl ?_
  refine V_istore_n (lv' := [(0, .ref (c_a 0)), (1, .int (nI e)), (2, .int (nI f)), (3, .int (nI (porN l_kd e)))]) nX1_takeLoaves_8 (by decide) rfl ?_
  refine V_aload_n nX1_takeLoaves_9 rfl ?_
  refine V_get1 0 1 (by decide) f_RX1_15 nX1_takeLoaves_10 rfl rfl ?_
  refine V_iload_n nX1_takeLoaves_13 rfl ?_
  refine V_dup2 nX1_takeLoaves_14 rfl rfl ?_
  refine V_iald 1 nX1_takeLoaves_15 rfl (by omega) (by decide) rfl ?_
  refine V_iload_n nX1_takeLoaves_16 rfl ?_
  refine V_isub (v := (c_lo f) - (nI (porN l_kd e))) nX1_takeLoaves_17 rfl ?_
  refine V_iast (ws' := (wC g c_a l_a (upd c_lo f ((c_lo f) - (nI (porN l_kd e)))) c_sk c_db c_yr c_vi c_wy) ++ (wL g l_a l_nf l_ne l_pl l_yl l_nd l_hm l_wk l_kd)) 1 nX1_takeLoaves_18 rfl (by omega) (by decide) rfl ?_
  refine V_aload_n nX1_takeLoaves_19 rfl ?_
  refine V_get1 0 3 (by decide) f_RX1_22 nX1_takeLoaves_20 rfl rfl ?_
  refine V_iload_n nX1_takeLoaves_23 rfl ?_
  refine V_iconst (v := (nI 4)) nX1_takeLoaves_24 rfl ?_
  refine V_imul (v := nI (e * 4)) nX1_takeLoaves_25 (pk_mul e 4) ?_
  refine V_iload_n nX1_takeLoaves_26 rfl ?_
  refine V_iadd (v := nI ((e * 4) + f)) nX1_takeLoaves_27 (nI_add (e * 4) f) ?_
  refine V_bipush (v := (nI 99)) nX1_takeLoaves_28 (by decide) ?_
  refine V_aload_n nX1_takeLoaves_30 rfl ?_
  refine V_iload_n nX1_takeLoaves_31 rfl ?_
  refine V_iload_n nX1_takeLoaves_32 rfl ?_
  refine V_cVi (C := (RX1, TX1, 7)) (ci := 1) (ws' := (wC g c_a l_a (upd c_lo f ((c_lo f) - (nI (porN l_kd e)))) c_sk c_db c_yr c_vi c_wy) ++ (wL g l_a l_nf l_ne l_pl l_yl l_nd l_hm l_wk l_kd)) [0, 1, 2, 3, 4, 5] 2 X (c_X1_debt g l c_a l_a (upd c_lo f ((c_lo f) - (nI (porN l_kd e)))) c_sk c_db c_yr c_vi c_wy  e f (by omega) (by omega)) k_RX1_49 hy_X1_debt (by decide) rfl (by decide) 0 rfl rfl nX1_takeLoaves_33 rfl rfl (Nat.le_of_ble_eq_true rfl) rfl ?_
  refine V_iload_n nX1_takeLoaves_36 rfl ?_
  refine V_iadd (v := (c_db (e * 4 + f)) + (nI (porN l_kd e))) nX1_takeLoaves_37 rfl ?_
  refine V_mmin (v := capI ((c_db (e * 4 + f)) + (nI (porN l_kd e)))) X k_RX1_73 ⟨Nat.le_of_ble_eq_true rfl, Nat.le_of_ble_eq_true rfl, Nat.le_of_ble_eq_true rfl, Nat.le_of_ble_eq_true rfl⟩ nX1_takeLoaves_38 (rfl) ?_
  refine V_iast (ws' := (wC g c_a l_a (upd c_lo f ((c_lo f) - (nI (porN l_kd e)))) c_sk (upd c_db ((e * 4) + f) (capI ((c_db (e * 4 + f)) + (nI (porN l_kd e))))) c_yr c_vi c_wy) ++ (wL g l_a l_nf l_ne l_pl l_yl l_nd l_hm l_wk l_kd)) 3 nX1_takeLoaves_41 rfl (by omega) (by decide) rfl ?_
  exact R_v rfl X hQ nX1_takeLoaves_42 rfl (⟨rfl, rfl⟩)

set_option maxHeartbeats 4000000 in
set_option maxRecDepth 100000 in
theorem c_X1_nearestOwed (g : Gx) (l : Launch) (c_a : Nat → Nat) (c_lo : Nat → Int32) (c_sk : Nat → Int32) (c_db : Nat → Int32) (c_yr : Int32) (c_vi : Nat → Int32) (c_wy : Nat → Int32) (l_a : Nat → Nat) (l_nf : Nat) (l_ne : Nat) (l_pl : Nat → Int32) (l_yl : Nat → Int32) (l_nd : Nat → Int32) (l_hm : Nat → Int32) (l_wk : Nat → Int32) (l_kd : Nat → Int32)  (e : Nat) (a : Int32) (hnf : l_nf ≤ 4) (he : e < 5) : Cd g l yX1_nearestOwed mX1_nearestOwed ({ frames := 1, cells := 0, slots := 0, locals := 24 } : Room) [.ref (c_a 0), .int (nI e), .int a] ((wC g c_a l_a c_lo c_sk c_db c_yr c_vi c_wy) ++ (wL g l_a l_nf l_ne l_pl l_yl l_nd l_hm l_wk l_kd)) (some (.int (oI (nrO l_pl c_db e a l_nf).1))) ((wC g c_a l_a c_lo c_sk c_db c_yr c_vi c_wy) ++ (wL g l_a l_nf l_ne l_pl l_yl l_nd l_hm l_wk l_kd)) := by
  refine Ct.of (lv := [(0, .ref (c_a 0)), (1, .int (nI e)), (2, .int a)]) ⟨by decide +kernel, rfl, Nat.le_of_ble_eq_true rfl⟩ rfl (fun E A sz Q X hQ => ?_)
  refine V_bipush (v := (-9)) nX1_nearestOwed_0 (by decide) ?_
  refine V_istore_n (lv' := [(0, .ref (c_a 0)), (1, .int (nI e)), (2, .int a), (3, .int (-9))]) nX1_nearestOwed_2 (by decide) rfl ?_
  refine V_bipush (v := (nI 10)) nX1_nearestOwed_3 (by decide) ?_
  refine V_istore (lv' := [(0, .ref (c_a 0)), (1, .int (nI e)), (2, .int a), (3, .int (-9)), (4, .int (nI 10))]) nX1_nearestOwed_5 (by decide) rfl ?_
  refine V_iconst (v := (nI 0)) nX1_nearestOwed_7 rfl ?_
  refine V_istore (lv' := [(0, .ref (c_a 0)), (1, .int (nI e)), (2, .int a), (3, .int (-9)), (4, .int (nI 10)), (5, .int (nI 0))]) nX1_nearestOwed_8 (by decide) rfl ?_
  have L10 : ∀ (n : Nat) (i : Nat), l_nf - i < n → i ≤ l_nf → V g E mX1_nearestOwed A Q 0 0 ((wC g c_a l_a c_lo c_sk c_db c_yr c_vi c_wy) ++ (wL g l_a l_nf l_ne l_pl l_yl l_nd l_hm l_wk l_kd)) 10 [(0, .ref (c_a 0)), (1, .int (nI e)), (2, .int a), (3, .int (oI (nrO l_pl c_db e a i).1)), (4, .int ((nrO l_pl c_db e a i).2)), (5, .int (nI i))] [] := by
    intro n
    induction n with
    | zero => intro i hm; exact absurd hm (Nat.not_lt_zero _)
    | succ n ih =>
      intro i hm hi
      refine V_iload nX1_nearestOwed_10 rfl ?_
      refine V_aload_n nX1_nearestOwed_12 rfl ?_
      refine V_get1 0 0 (by decide) f_RX1_9 nX1_nearestOwed_13 rfl rfl ?_
      refine V_get2 6 6 (by decide) f_RX1_35 nX1_nearestOwed_16 rfl rfl ?_
      refine V_icmp_ge_N (tgt := 69) nX1_nearestOwed_19 rfl (by omega) (by omega) (fun h19 => ?_) (fun h19 => ?_)
      · skip
        have hx_i : l_nf = i := by omega
        subst hx_i
        refine V_iload_n nX1_nearestOwed_69 rfl ?_
        exact R_i rfl X hQ nX1_nearestOwed_70 rfl (⟨rfl, rfl⟩)
      · skip
        refine V_aload_n nX1_nearestOwed_22 rfl ?_
        refine V_get1 0 0 (by decide) f_RX1_9 nX1_nearestOwed_23 rfl rfl ?_
        refine V_get2 6 0 (by decide) f_RX1_91 nX1_nearestOwed_26 rfl rfl ?_
        refine V_iload nX1_nearestOwed_29 rfl ?_
        refine V_iald 7 nX1_nearestOwed_31 rfl (by omega) (by decide) rfl ?_
        refine V_iload_n nX1_nearestOwed_32 rfl ?_
        refine V_isub (v := (l_pl i) - a) nX1_nearestOwed_33 rfl ?_
        refine V_mabs (v := absI ((l_pl i) - a)) X k_RX1_94 ⟨Nat.le_of_ble_eq_true rfl, Nat.le_of_ble_eq_true rfl, Nat.le_of_ble_eq_true rfl, Nat.le_of_ble_eq_true rfl⟩ nX1_nearestOwed_34 (rfl) ?_
        refine V_istore (lv' := [(0, .ref (c_a 0)), (1, .int (nI e)), (2, .int a), (3, .int (oI (nrO l_pl c_db e a i).1)), (4, .int ((nrO l_pl c_db e a i).2)), (5, .int (nI i)), (6, .int (absI ((l_pl i) - a)))]) nX1_nearestOwed_37 (by decide) rfl ?_
        refine V_aload_n nX1_nearestOwed_39 rfl ?_
        refine V_iload_n nX1_nearestOwed_40 rfl ?_
        refine V_iload nX1_nearestOwed_41 rfl ?_
        refine V_cVi (C := (RX1, TX1, 7)) (ci := 1) (ws' := (wC g c_a l_a c_lo c_sk c_db c_yr c_vi c_wy) ++ (wL g l_a l_nf l_ne l_pl l_yl l_nd l_hm l_wk l_kd)) [0, 1, 2, 3, 4, 5] 2 X (c_X1_debt g l c_a l_a c_lo c_sk c_db c_yr c_vi c_wy  e i (by omega) (by omega)) k_RX1_49 hy_X1_debt (by decide) rfl (by decide) 0 rfl rfl nX1_nearestOwed_43 rfl rfl (Nat.le_of_ble_eq_true rfl) rfl ?_
        refine V_if_le (tgt := 63) nX1_nearestOwed_46 rfl (fun h46 => ?_) (fun h46 => ?_)
        · skip
          refine V_iinc (v := nI (i + 1)) (lv' := [(0, .ref (c_a 0)), (1, .int (nI e)), (2, .int a), (3, .int (oI (nrO l_pl c_db e a i).1)), (4, .int ((nrO l_pl c_db e a i).2)), (5, .int (nI (i + 1))), (6, .int (absI ((l_pl i) - a)))]) nX1_nearestOwed_63 rfl (nI_add i 1) (by decide) rfl ?_
          refine V_goto (tgt := 10) nX1_nearestOwed_66 rfl ?_
          refine V_pick (lv2 := [(0, .ref (c_a 0)), (1, .int (nI e)), (2, .int a), (3, .int (oI (nrO l_pl c_db e a i).1)), (4, .int ((nrO l_pl c_db e a i).2)), (5, .int (nI (i + 1)))]) [0, 1, 2, 3, 4, 5] rfl ?_
          have q := ih (i + 1) (by omega) (by omega)
          rw [show nrO l_pl c_db e a (i + 1) = _ from if_neg (fun q => q.1 h46)] at q
          exact q
        · skip
          refine V_iload nX1_nearestOwed_49 rfl ?_
          refine V_iload nX1_nearestOwed_51 rfl ?_
          refine V_icmp_ge (tgt := 63) nX1_nearestOwed_53 rfl (fun h53 => ?_) (fun h53 => ?_)
          · skip
            refine V_iinc (v := nI (i + 1)) (lv' := [(0, .ref (c_a 0)), (1, .int (nI e)), (2, .int a), (3, .int (oI (nrO l_pl c_db e a i).1)), (4, .int ((nrO l_pl c_db e a i).2)), (5, .int (nI (i + 1))), (6, .int (absI ((l_pl i) - a)))]) nX1_nearestOwed_63 rfl (nI_add i 1) (by decide) rfl ?_
            refine V_goto (tgt := 10) nX1_nearestOwed_66 rfl ?_
            refine V_pick (lv2 := [(0, .ref (c_a 0)), (1, .int (nI e)), (2, .int a), (3, .int (oI (nrO l_pl c_db e a i).1)), (4, .int ((nrO l_pl c_db e a i).2)), (5, .int (nI (i + 1)))]) [0, 1, 2, 3, 4, 5] rfl ?_
            have q := ih (i + 1) (by omega) (by omega)
            rw [show nrO l_pl c_db e a (i + 1) = _ from if_neg (fun q => q.2 h53)] at q
            exact q
          · skip
            refine V_iload nX1_nearestOwed_56 rfl ?_
            refine V_istore_n (lv' := [(0, .ref (c_a 0)), (1, .int (nI e)), (2, .int a), (3, .int (nI i)), (4, .int ((nrO l_pl c_db e a i).2)), (5, .int (nI i)), (6, .int (absI ((l_pl i) - a)))]) nX1_nearestOwed_58 (by decide) rfl ?_
            refine V_iload nX1_nearestOwed_59 rfl ?_
            refine V_istore (lv' := [(0, .ref (c_a 0)), (1, .int (nI e)), (2, .int a), (3, .int (nI i)), (4, .int (absI ((l_pl i) - a))), (5, .int (nI i)), (6, .int (absI ((l_pl i) - a)))]) nX1_nearestOwed_61 (by decide) rfl ?_
            refine V_iinc (v := nI (i + 1)) (lv' := [(0, .ref (c_a 0)), (1, .int (nI e)), (2, .int a), (3, .int (nI i)), (4, .int (absI ((l_pl i) - a))), (5, .int (nI (i + 1))), (6, .int (absI ((l_pl i) - a)))]) nX1_nearestOwed_63 rfl (nI_add i 1) (by decide) rfl ?_
            refine V_goto (tgt := 10) nX1_nearestOwed_66 rfl ?_
            refine V_pick (lv2 := [(0, .ref (c_a 0)), (1, .int (nI e)), (2, .int a), (3, .int (nI i)), (4, .int (absI ((l_pl i) - a))), (5, .int (nI (i + 1)))]) [0, 1, 2, 3, 4, 5] rfl ?_
            have q := ih (i + 1) (by omega) (by omega)
            rw [show nrO l_pl c_db e a (i + 1) = _ from if_pos ⟨h46, h53⟩] at q
            exact q
  exact L10 _ 0 (Nat.lt_succ_self _) (by omega)

set_option maxHeartbeats 4000000 in
set_option maxRecDepth 100000 in
theorem c_X1_bringSeed (g : Gx) (l : Launch) (c_a : Nat → Nat) (c_la : Nat → Nat) (c_lo : Nat → Int32) (c_sk : Nat → Int32) (c_db : Nat → Int32) (c_yr : Int32) (c_vi : Nat → Int32) (c_wy : Nat → Int32)  (e : Nat) (f : Nat) (he : e < 5) (hf : f < 4) : Cd g l yX1_bringSeed mX1_bringSeed ({ frames := 1, cells := 0, slots := 0, locals := 24 } : Room) [.ref (c_a 0), .int (nI e), .int (nI f)] (wC g c_a c_la c_lo c_sk c_db c_yr c_vi c_wy) none (wC g c_a c_la c_lo (upd c_sk f (capI (c_sk f + c_db (e * 4 + f)))) (upd c_db (e * 4 + f) (nI 0)) c_yr c_vi c_wy) := by
  refine Ct.of (lv := [(0, .ref (c_a 0)), (1, .int (nI e)), (2, .int (nI f))]) ⟨by decide +kernel, rfl, Nat.le_of_ble_eq_true rfl⟩ rfl (fun E A sz Q X hQ => ?_)
  refine V_aload_n nX1_bringSeed_0 rfl ?_
  refine V_get1 0 2 (by decide) f_RX1_19 nX1_bringSeed_1 rfl rfl ?_
  refine V_iload_n nX1_bringSeed_4 rfl ?_
  refine V_bipush (v := (nI 99)) nX1_bringSeed_5 (by decide) ?_
  refine V_aload_n nX1_bringSeed_7 rfl ?_
  refine V_get1 0 2 (by decide) f_RX1_19 nX1_bringSeed_8 rfl rfl ?_
  refine V_iload_n nX1_bringSeed_11 rfl ?_
  refine V_iald 2 nX1_bringSeed_12 rfl (by omega) (by decide) rfl ?_
  refine V_aload_n nX1_bringSeed_13 rfl ?_
  refine V_iload_n nX1_bringSeed_14 rfl ?_
  refine V_iload_n nX1_bringSeed_15 rfl ?_
  refine V_cVi (C := (RX1, TX1, 7)) (ci := 1) (ws' := wC g c_a c_la c_lo c_sk c_db c_yr c_vi c_wy) [0, 1, 2, 3, 4, 5] 2 X (c_X1_debt g l c_a c_la c_lo c_sk c_db c_yr c_vi c_wy  e f (by omega) (by omega)) k_RX1_49 hy_X1_debt (by decide) rfl (by decide) 0 rfl rfl nX1_bringSeed_16 rfl rfl (Nat.le_of_ble_eq_true rfl) rfl ?_
  refine V_iadd (v := (c_sk f) + (c_db (e * 4 + f))) nX1_bringSeed_19 rfl ?_
  refine V_mmin (v := capI ((c_sk f) + (c_db (e * 4 + f)))) X k_RX1_73 ⟨Nat.le_of_ble_eq_true rfl, Nat.le_of_ble_eq_true rfl, Nat.le_of_ble_eq_true rfl, Nat.le_of_ble_eq_true rfl⟩ nX1_bringSeed_20 (rfl) ?_
  refine V_iast (ws' := wC g c_a c_la c_lo (upd c_sk f (capI ((c_sk f) + (c_db (e * 4 + f))))) c_db c_yr c_vi c_wy) 2 nX1_bringSeed_23 rfl (by omega) (by decide) rfl ?_
  refine V_aload_n nX1_bringSeed_24 rfl ?_
  refine V_get1 0 3 (by decide) f_RX1_22 nX1_bringSeed_25 rfl rfl ?_
  refine V_iload_n nX1_bringSeed_28 rfl ?_
  refine V_iconst (v := (nI 4)) nX1_bringSeed_29 rfl ?_
  refine V_imul (v := nI (e * 4)) nX1_bringSeed_30 (pk_mul e 4) ?_
  refine V_iload_n nX1_bringSeed_31 rfl ?_
  refine V_iadd (v := nI ((e * 4) + f)) nX1_bringSeed_32 (nI_add (e * 4) f) ?_
  refine V_iconst (v := (nI 0)) nX1_bringSeed_33 rfl ?_
  refine V_iast (ws' := wC g c_a c_la c_lo (upd c_sk f (capI ((c_sk f) + (c_db (e * 4 + f))))) (upd c_db ((e * 4) + f) (nI 0)) c_yr c_vi c_wy) 3 nX1_bringSeed_34 rfl (by omega) (by decide) rfl ?_
  exact R_v rfl X hQ nX1_bringSeed_35 rfl (⟨rfl, rfl⟩)

set_option maxHeartbeats 4000000 in
set_option maxRecDepth 100000 in
theorem c_X1_sendOut (g : Gx) (l : Launch) (c_a : Nat → Nat) (c_lo : Nat → Int32) (c_sk : Nat → Int32) (c_db : Nat → Int32) (c_yr : Int32) (c_vi : Nat → Int32) (c_wy : Nat → Int32) (l_a : Nat → Nat) (l_nf : Nat) (l_ne : Nat) (l_pl : Nat → Int32) (l_yl : Nat → Int32) (l_nd : Nat → Int32) (l_hm : Nat → Int32) (l_wk : Nat → Int32) (l_kd : Nat → Int32)  (e : Nat) (wk : Int32) (hnf : l_nf ≤ 4) (he : e < 5) : Cd g l yX1_sendOut mX1_sendOut ({ frames := 2, cells := 0, slots := 0, locals := 50 } : Room) [.ref (c_a 0), .int (nI e), .int wk] ((wC g c_a l_a c_lo c_sk c_db c_yr c_vi c_wy) ++ (wL g l_a l_nf l_ne l_pl l_yl l_nd l_hm l_wk l_kd)) none ((wC g c_a l_a c_lo ((sendS l_pl l_hm l_kd l_nf e wk c_sk c_db).1) ((sendS l_pl l_hm l_kd l_nf e wk c_sk c_db).2.1) c_yr (upd c_vi e (sendS l_pl l_hm l_kd l_nf e wk c_sk c_db).2.2.1) (upd c_wy e (sendS l_pl l_hm l_kd l_nf e wk c_sk c_db).2.2.2)) ++ (wL g l_a l_nf l_ne l_pl l_yl l_nd l_hm l_wk l_kd)) := by
  refine Ct.of (lv := [(0, .ref (c_a 0)), (1, .int (nI e)), (2, .int wk)]) ⟨by decide +kernel, rfl, Nat.le_of_ble_eq_true rfl⟩ rfl (fun E A sz Q X hQ => ?_)
  refine V_aload_n nX1_sendOut_0 rfl ?_
  refine V_get1 0 5 (by decide) f_RX1_29 nX1_sendOut_1 rfl rfl ?_
  refine V_iload_n nX1_sendOut_4 rfl ?_
  refine V_iconst (v := (nI 0)) nX1_sendOut_5 rfl ?_
  refine V_iast (ws' := (wC g c_a l_a c_lo c_sk c_db c_yr (upd c_vi e (nI 0)) c_wy) ++ (wL g l_a l_nf l_ne l_pl l_yl l_nd l_hm l_wk l_kd)) 4 nX1_sendOut_6 rfl (by omega) (by decide) rfl ?_
  refine V_aload_n nX1_sendOut_7 rfl ?_
  refine V_get1 0 6 (by decide) f_RX1_32 nX1_sendOut_8 rfl rfl ?_
  refine V_iload_n nX1_sendOut_11 rfl ?_
  refine V_iconst (v := (nI 0)) nX1_sendOut_12 rfl ?_
  refine V_iast (ws' := (wC g c_a l_a c_lo c_sk c_db c_yr (upd c_vi e (nI 0)) (upd c_wy e (nI 0))) ++ (wL g l_a l_nf l_ne l_pl l_yl l_nd l_hm l_wk l_kd)) 5 nX1_sendOut_13 rfl (by omega) (by decide) rfl ?_
  refine V_aload_n nX1_sendOut_14 rfl ?_
  refine V_get1 0 0 (by decide) f_RX1_9 nX1_sendOut_15 rfl rfl ?_
  refine V_get2 6 3 (by decide) f_RX1_85 nX1_sendOut_18 rfl rfl ?_
  refine V_iload_n nX1_sendOut_21 rfl ?_
  refine V_iald 10 nX1_sendOut_22 rfl (by omega) (by decide) rfl ?_
  refine V_istore_n (lv' := [(0, .ref (c_a 0)), (1, .int (nI e)), (2, .int wk), (3, .int (l_hm e))]) nX1_sendOut_23 (by decide) rfl ?_
  refine V_iconst (v := (nI 0)) nX1_sendOut_24 rfl ?_
  refine V_istore (lv' := [(0, .ref (c_a 0)), (1, .int (nI e)), (2, .int wk), (3, .int (l_hm e)), (4, .int (nI 0))]) nX1_sendOut_25 (by decide) rfl ?_
  have L27 : ∀ (n : Nat) (i : Nat) (a : Int32) (s : G4), 4 - i < n → i ≤ 4 → (goS l_pl l_kd l_nf e wk (4 - i) a s) = (sendS l_pl l_hm l_kd l_nf e wk c_sk c_db) → V g E mX1_sendOut A Q 0 0 ((wC g c_a l_a c_lo s.1 s.2.1 c_yr (upd c_vi e s.2.2.1) (upd c_wy e s.2.2.2)) ++ (wL g l_a l_nf l_ne l_pl l_yl l_nd l_hm l_wk l_kd)) 27 [(0, .ref (c_a 0)), (1, .int (nI e)), (2, .int wk), (3, .int a), (4, .int (nI i))] [] := by
    intro n
    induction n with
    | zero => intro i a s hm; exact absurd hm (Nat.not_lt_zero _)
    | succ n ih =>
      intro i a s hm hi hs
      refine V_iload nX1_sendOut_27 rfl ?_
      refine V_iconst (v := (nI 4)) nX1_sendOut_29 rfl ?_
      refine V_icmp_ge_N (tgt := 141) nX1_sendOut_30 rfl (by omega) (by omega) (fun h30 => ?_) (fun h30 => ?_)
      · skip
        have hz : i = 4 := by omega
        subst hz
        have hs : s = _ := hs
        exact R_v rfl X hQ nX1_sendOut_141 rfl (⟨rfl, by rw [← hs]⟩)
      · skip
        have hi4 : i < 4 := h30
        refine V_aload_n nX1_sendOut_33 rfl ?_
        refine V_iload_n nX1_sendOut_34 rfl ?_
        refine V_iload_n nX1_sendOut_35 rfl ?_
        refine V_cVi (C := (RX1, TX1, 7)) (ci := 1) (ws' := (wC g c_a l_a c_lo s.1 s.2.1 c_yr (upd c_vi e s.2.2.1) (upd c_wy e s.2.2.2)) ++ (wL g l_a l_nf l_ne l_pl l_yl l_nd l_hm l_wk l_kd)) [0, 1, 2, 3, 4, 5, 6, 7, 8, 9, 10, 11, 12] 2 X (c_X1_nearestOwed g l c_a c_lo s.1 s.2.1 c_yr (upd c_vi e s.2.2.1) (upd c_wy e s.2.2.2) l_a l_nf l_ne l_pl l_yl l_nd l_hm l_wk l_kd  e a (by omega) (by omega)) k_RX1_88 hy_X1_nearestOwed (by decide) rfl (by decide) 0 rfl rfl nX1_sendOut_36 rfl rfl (Nat.le_of_ble_eq_true rfl) rfl ?_
        refine V_istore (lv' := [(0, .ref (c_a 0)), (1, .int (nI e)), (2, .int wk), (3, .int a), (4, .int (nI i)), (5, .int (oI (nrO l_pl s.2.1 e a l_nf).1))]) nX1_sendOut_39 (by decide) rfl ?_
        refine V_iload nX1_sendOut_41 rfl ?_
        refine V_bipush (v := (-9)) nX1_sendOut_43 (by decide) ?_
        refine V_icmp_ne (tgt := 49) nX1_sendOut_45 rfl (fun h45 => ?_) (fun h45 => ?_)
        · skip
          obtain ⟨f, hf⟩ : ∃ f, (nrO l_pl s.2.1 e a l_nf).1 = some f := by
            cases hq : (nrO l_pl s.2.1 e a l_nf).1 with
            | none => rw [hq] at h45; exact absurd rfl h45
            | some f => exact ⟨f, rfl⟩
          have hf4 : f < l_nf := nrO_lt _ _ _ _ _ _ hf
          rw [hf]
          refine V_aload_n nX1_sendOut_49 rfl ?_
          refine V_get1 0 0 (by decide) f_RX1_9 nX1_sendOut_50 rfl rfl ?_
          refine V_get2 6 0 (by decide) f_RX1_91 nX1_sendOut_53 rfl rfl ?_
          refine V_iload nX1_sendOut_56 rfl ?_
          refine V_iald 7 nX1_sendOut_58 rfl (by omega) (by decide) rfl ?_
          refine V_iload_n nX1_sendOut_59 rfl ?_
          refine V_isub (v := (l_pl f) - a) nX1_sendOut_60 rfl ?_
          refine V_mabs (v := absI ((l_pl f) - a)) X k_RX1_94 ⟨Nat.le_of_ble_eq_true rfl, Nat.le_of_ble_eq_true rfl, Nat.le_of_ble_eq_true rfl, Nat.le_of_ble_eq_true rfl⟩ nX1_sendOut_61 (rfl) ?_
          refine V_istore (lv' := [(0, .ref (c_a 0)), (1, .int (nI e)), (2, .int wk), (3, .int a), (4, .int (nI i)), (5, .int (nI f)), (6, .int (absI ((l_pl f) - a)))]) nX1_sendOut_64 (by decide) rfl ?_
          refine V_aload_n nX1_sendOut_66 rfl ?_
          refine V_get1 0 0 (by decide) f_RX1_9 nX1_sendOut_67 rfl rfl ?_
          refine V_get2 6 5 (by decide) f_RX1_67 nX1_sendOut_70 rfl rfl ?_
          refine V_iload_n nX1_sendOut_73 rfl ?_
          refine V_iald 12 nX1_sendOut_74 rfl (by omega) (by decide) rfl ?_
          refine V_iconst (v := (nI 1)) nX1_sendOut_75 rfl ?_
          refine V_icmp_eq (tgt := 93) nX1_sendOut_76 rfl (fun h76 => ?_) (fun h76 => ?_)
          · skip
            refine V_aload_n nX1_sendOut_93 rfl ?_
            refine V_iload_n nX1_sendOut_94 rfl ?_
            refine V_iload nX1_sendOut_95 rfl ?_
            refine V_cVv (C := (RX1, TX1, 7)) (ci := 1) (ws' := (wC g c_a l_a c_lo (upd s.1 f (capI (s.1 f + s.2.1 (e * 4 + f)))) (upd s.2.1 (e * 4 + f) (nI 0)) c_yr (upd c_vi e s.2.2.1) (upd c_wy e s.2.2.2)) ++ (wL g l_a l_nf l_ne l_pl l_yl l_nd l_hm l_wk l_kd)) [0, 1, 2, 3, 4, 5] 2 X (c_X1_bringSeed g l c_a l_a c_lo s.1 s.2.1 c_yr (upd c_vi e s.2.2.1) (upd c_wy e s.2.2.2)  e f (by omega) (by omega)) k_RX1_97 hy_X1_bringSeed (by decide) rfl (by decide) 0 rfl rfl nX1_sendOut_97 rfl rfl (Nat.le_of_ble_eq_true rfl) rfl ?_
            refine V_aload_n nX1_sendOut_100 rfl ?_
            refine V_get1 0 5 (by decide) f_RX1_29 nX1_sendOut_101 rfl rfl ?_
            refine V_iload_n nX1_sendOut_104 rfl ?_
            refine V_dup2 nX1_sendOut_105 rfl rfl ?_
            refine V_iald (v := s.2.2.1) 4 nX1_sendOut_106 rfl (by omega) (by decide) (pk_us) ?_
            refine V_iconst (v := (nI 1)) nX1_sendOut_107 rfl ?_
            refine V_iload nX1_sendOut_108 rfl ?_
            refine V_ishl (v := nI (2 ^ f)) nX1_sendOut_110 (nI_shl1 (by omega)) ?_
            refine V_ior (v := s.2.2.1 ||| (nI (2 ^ f))) nX1_sendOut_111 rfl ?_
            refine V_iast (ws' := (wC g c_a l_a c_lo (upd s.1 f (capI (s.1 f + s.2.1 (e * 4 + f)))) (upd s.2.1 (e * 4 + f) (nI 0)) c_yr (upd (upd c_vi e s.2.2.1) e (s.2.2.1 ||| (nI (2 ^ f)))) (upd c_wy e s.2.2.2)) ++ (wL g l_a l_nf l_ne l_pl l_yl l_nd l_hm l_wk l_kd)) 4 nX1_sendOut_112 rfl (by omega) (by decide) rfl ?_
            refine V_ws (ws' := (wC g c_a l_a c_lo (upd s.1 f (capI (s.1 f + s.2.1 (e * 4 + f)))) (upd s.2.1 (e * 4 + f) (nI 0)) c_yr (upd c_vi e (s.2.2.1 ||| nI (2 ^ f))) (upd c_wy e s.2.2.2)) ++ (wL g l_a l_nf l_ne l_pl l_yl l_nd l_hm l_wk l_kd)) (by rw [upd_upd]) ?_
            refine V_aload_n nX1_sendOut_113 rfl ?_
            refine V_get1 0 6 (by decide) f_RX1_32 nX1_sendOut_114 rfl rfl ?_
            refine V_iload_n nX1_sendOut_117 rfl ?_
            refine V_dup2 nX1_sendOut_118 rfl rfl ?_
            refine V_iald (v := s.2.2.2) 5 nX1_sendOut_119 rfl (by omega) (by decide) (pk_us) ?_
            refine V_iload nX1_sendOut_120 rfl ?_
            refine V_iadd (v := s.2.2.2 + (absI ((l_pl f) - a))) nX1_sendOut_122 rfl ?_
            refine V_iast (ws' := (wC g c_a l_a c_lo (upd s.1 f (capI (s.1 f + s.2.1 (e * 4 + f)))) (upd s.2.1 (e * 4 + f) (nI 0)) c_yr (upd c_vi e (s.2.2.1 ||| nI (2 ^ f))) (upd (upd c_wy e s.2.2.2) e (s.2.2.2 + (absI ((l_pl f) - a))))) ++ (wL g l_a l_nf l_ne l_pl l_yl l_nd l_hm l_wk l_kd)) 5 nX1_sendOut_123 rfl (by omega) (by decide) rfl ?_
            refine V_ws (ws' := (wC g c_a l_a c_lo (upd s.1 f (capI (s.1 f + s.2.1 (e * 4 + f)))) (upd s.2.1 (e * 4 + f) (nI 0)) c_yr (upd c_vi e (s.2.2.1 ||| nI (2 ^ f))) (upd c_wy e (s.2.2.2 + absI (l_pl f - a)))) ++ (wL g l_a l_nf l_ne l_pl l_yl l_nd l_hm l_wk l_kd)) (by rw [upd_upd]) ?_
            refine V_aload_n nX1_sendOut_124 rfl ?_
            refine V_get1 0 0 (by decide) f_RX1_9 nX1_sendOut_125 rfl rfl ?_
            refine V_get2 6 0 (by decide) f_RX1_91 nX1_sendOut_128 rfl rfl ?_
            refine V_iload nX1_sendOut_131 rfl ?_
            refine V_iald 7 nX1_sendOut_133 rfl (by omega) (by decide) rfl ?_
            refine V_istore_n (lv' := [(0, .ref (c_a 0)), (1, .int (nI e)), (2, .int wk), (3, .int (l_pl f)), (4, .int (nI i)), (5, .int (nI f)), (6, .int (absI ((l_pl f) - a)))]) nX1_sendOut_134 (by decide) rfl ?_
            refine V_iinc (v := nI (i + 1)) (lv' := [(0, .ref (c_a 0)), (1, .int (nI e)), (2, .int wk), (3, .int (l_pl f)), (4, .int (nI (i + 1))), (5, .int (nI f)), (6, .int (absI ((l_pl f) - a)))]) nX1_sendOut_135 rfl (nI_add i 1) (by decide) rfl ?_
            refine V_goto (tgt := 27) nX1_sendOut_138 rfl ?_
            refine V_pick (lv2 := [(0, .ref (c_a 0)), (1, .int (nI e)), (2, .int wk), (3, .int (l_pl f)), (4, .int (nI (i + 1)))]) [0, 1, 2, 3, 4] rfl ?_
            exact ih (i + 1) (l_pl f) (stepS l_pl e f a s) (by omega) (by omega) (by rw [← hs]; exact (goS_go hi4 hf (fun q => q.1 h76)).symm)
          · skip
            refine V_aload_n nX1_sendOut_79 rfl ?_
            refine V_get1 0 6 (by decide) f_RX1_32 nX1_sendOut_80 rfl rfl ?_
            refine V_iload_n nX1_sendOut_83 rfl ?_
            refine V_iald (v := s.2.2.2) 5 nX1_sendOut_84 rfl (by omega) (by decide) (pk_us) ?_
            refine V_iload nX1_sendOut_85 rfl ?_
            refine V_iadd (v := s.2.2.2 + (absI ((l_pl f) - a))) nX1_sendOut_87 rfl ?_
            refine V_iload_n nX1_sendOut_88 rfl ?_
            refine V_icmp_le (tgt := 93) nX1_sendOut_89 rfl (fun h89 => ?_) (fun h89 => ?_)
            · skip
              refine V_aload_n nX1_sendOut_93 rfl ?_
              refine V_iload_n nX1_sendOut_94 rfl ?_
              refine V_iload nX1_sendOut_95 rfl ?_
              refine V_cVv (C := (RX1, TX1, 7)) (ci := 1) (ws' := (wC g c_a l_a c_lo (upd s.1 f (capI (s.1 f + s.2.1 (e * 4 + f)))) (upd s.2.1 (e * 4 + f) (nI 0)) c_yr (upd c_vi e s.2.2.1) (upd c_wy e s.2.2.2)) ++ (wL g l_a l_nf l_ne l_pl l_yl l_nd l_hm l_wk l_kd)) [0, 1, 2, 3, 4, 5] 2 X (c_X1_bringSeed g l c_a l_a c_lo s.1 s.2.1 c_yr (upd c_vi e s.2.2.1) (upd c_wy e s.2.2.2)  e f (by omega) (by omega)) k_RX1_97 hy_X1_bringSeed (by decide) rfl (by decide) 0 rfl rfl nX1_sendOut_97 rfl rfl (Nat.le_of_ble_eq_true rfl) rfl ?_
              refine V_aload_n nX1_sendOut_100 rfl ?_
              refine V_get1 0 5 (by decide) f_RX1_29 nX1_sendOut_101 rfl rfl ?_
              refine V_iload_n nX1_sendOut_104 rfl ?_
              refine V_dup2 nX1_sendOut_105 rfl rfl ?_
              refine V_iald (v := s.2.2.1) 4 nX1_sendOut_106 rfl (by omega) (by decide) (pk_us) ?_
              refine V_iconst (v := (nI 1)) nX1_sendOut_107 rfl ?_
              refine V_iload nX1_sendOut_108 rfl ?_
              refine V_ishl (v := nI (2 ^ f)) nX1_sendOut_110 (nI_shl1 (by omega)) ?_
              refine V_ior (v := s.2.2.1 ||| (nI (2 ^ f))) nX1_sendOut_111 rfl ?_
              refine V_iast (ws' := (wC g c_a l_a c_lo (upd s.1 f (capI (s.1 f + s.2.1 (e * 4 + f)))) (upd s.2.1 (e * 4 + f) (nI 0)) c_yr (upd (upd c_vi e s.2.2.1) e (s.2.2.1 ||| (nI (2 ^ f)))) (upd c_wy e s.2.2.2)) ++ (wL g l_a l_nf l_ne l_pl l_yl l_nd l_hm l_wk l_kd)) 4 nX1_sendOut_112 rfl (by omega) (by decide) rfl ?_
              refine V_ws (ws' := (wC g c_a l_a c_lo (upd s.1 f (capI (s.1 f + s.2.1 (e * 4 + f)))) (upd s.2.1 (e * 4 + f) (nI 0)) c_yr (upd c_vi e (s.2.2.1 ||| nI (2 ^ f))) (upd c_wy e s.2.2.2)) ++ (wL g l_a l_nf l_ne l_pl l_yl l_nd l_hm l_wk l_kd)) (by rw [upd_upd]) ?_
              refine V_aload_n nX1_sendOut_113 rfl ?_
              refine V_get1 0 6 (by decide) f_RX1_32 nX1_sendOut_114 rfl rfl ?_
              refine V_iload_n nX1_sendOut_117 rfl ?_
              refine V_dup2 nX1_sendOut_118 rfl rfl ?_
              refine V_iald (v := s.2.2.2) 5 nX1_sendOut_119 rfl (by omega) (by decide) (pk_us) ?_
              refine V_iload nX1_sendOut_120 rfl ?_
              refine V_iadd (v := s.2.2.2 + (absI ((l_pl f) - a))) nX1_sendOut_122 rfl ?_
              refine V_iast (ws' := (wC g c_a l_a c_lo (upd s.1 f (capI (s.1 f + s.2.1 (e * 4 + f)))) (upd s.2.1 (e * 4 + f) (nI 0)) c_yr (upd c_vi e (s.2.2.1 ||| nI (2 ^ f))) (upd (upd c_wy e s.2.2.2) e (s.2.2.2 + (absI ((l_pl f) - a))))) ++ (wL g l_a l_nf l_ne l_pl l_yl l_nd l_hm l_wk l_kd)) 5 nX1_sendOut_123 rfl (by omega) (by decide) rfl ?_
              refine V_ws (ws' := (wC g c_a l_a c_lo (upd s.1 f (capI (s.1 f + s.2.1 (e * 4 + f)))) (upd s.2.1 (e * 4 + f) (nI 0)) c_yr (upd c_vi e (s.2.2.1 ||| nI (2 ^ f))) (upd c_wy e (s.2.2.2 + absI (l_pl f - a)))) ++ (wL g l_a l_nf l_ne l_pl l_yl l_nd l_hm l_wk l_kd)) (by rw [upd_upd]) ?_
              refine V_aload_n nX1_sendOut_124 rfl ?_
              refine V_get1 0 0 (by decide) f_RX1_9 nX1_sendOut_125 rfl rfl ?_
              refine V_get2 6 0 (by decide) f_RX1_91 nX1_sendOut_128 rfl rfl ?_
              refine V_iload nX1_sendOut_131 rfl ?_
              refine V_iald 7 nX1_sendOut_133 rfl (by omega) (by decide) rfl ?_
              refine V_istore_n (lv' := [(0, .ref (c_a 0)), (1, .int (nI e)), (2, .int wk), (3, .int (l_pl f)), (4, .int (nI i)), (5, .int (nI f)), (6, .int (absI ((l_pl f) - a)))]) nX1_sendOut_134 (by decide) rfl ?_
              refine V_iinc (v := nI (i + 1)) (lv' := [(0, .ref (c_a 0)), (1, .int (nI e)), (2, .int wk), (3, .int (l_pl f)), (4, .int (nI (i + 1))), (5, .int (nI f)), (6, .int (absI ((l_pl f) - a)))]) nX1_sendOut_135 rfl (nI_add i 1) (by decide) rfl ?_
              refine V_goto (tgt := 27) nX1_sendOut_138 rfl ?_
              refine V_pick (lv2 := [(0, .ref (c_a 0)), (1, .int (nI e)), (2, .int wk), (3, .int (l_pl f)), (4, .int (nI (i + 1)))]) [0, 1, 2, 3, 4] rfl ?_
              exact ih (i + 1) (l_pl f) (stepS l_pl e f a s) (by omega) (by omega) (by rw [← hs]; exact (goS_go hi4 hf (fun q => q.2 h89)).symm)
            · skip
              exact R_v rfl X hQ nX1_sendOut_92 rfl (⟨rfl, by rw [← hs, goS_stop hi4 hf ⟨h76, h89⟩]⟩)
        · skip
          have hz : (nrO l_pl s.2.1 e a l_nf).1 = none := by
            cases hq : (nrO l_pl s.2.1 e a l_nf).1 with
            | none => rfl
            | some f => rw [hq] at h45; exact absurd h45 (oI_ne (nrO_lt _ _ _ _ _ _ hq) hnf)
          exact R_v rfl X hQ nX1_sendOut_48 rfl (⟨rfl, by rw [← hs, goS_none hi4 hz]⟩)
  exact L27 _ 0 (l_hm e) (c_sk, c_db, nI 0, nI 0) (Nat.lt_succ_self _) (by omega) (rfl)

set_option maxHeartbeats 4000000 in
set_option maxRecDepth 100000 in
theorem c_X1_callOut (g : Gx) (l : Launch) (c_a : Nat → Nat) (c_lo : Nat → Int32) (c_sk : Nat → Int32) (c_db : Nat → Int32) (c_yr : Int32) (c_vi : Nat → Int32) (c_wy : Nat → Int32) (l_a : Nat → Nat) (l_nf : Nat) (l_ne : Nat) (l_pl : Nat → Int32) (l_yl : Nat → Int32) (l_nd : Nat → Int32) (l_hm : Nat → Int32) (l_wk : Nat → Int32) (l_kd : Nat → Int32)  (x : Nat) (hnf : l_nf ≤ 4) (hne : l_ne ≤ 5) (hx : x < 2 ^ 31) : Cd g l yX1_callOut mX1_callOut ({ frames := 3, cells := 0, slots := 0, locals := 76 } : Room) [.ref (c_a 0), .int (nI x)] ((wC g c_a l_a c_lo c_sk c_db c_yr c_vi c_wy) ++ (wL g l_a l_nf l_ne l_pl l_yl l_nd l_hm l_wk l_kd)) none ((wC g c_a l_a c_lo ((marS l_pl l_hm l_wk l_kd l_nf x (c_sk, c_db, c_vi, c_wy) l_ne).1) ((marS l_pl l_hm l_wk l_kd l_nf x (c_sk, c_db, c_vi, c_wy) l_ne).2.1) c_yr ((marS l_pl l_hm l_wk l_kd l_nf x (c_sk, c_db, c_vi, c_wy) l_ne).2.2.1) ((marS l_pl l_hm l_wk l_kd l_nf x (c_sk, c_db, c_vi, c_wy) l_ne).2.2.2)) ++ (wL g l_a l_nf l_ne l_pl l_yl l_nd l_hm l_wk l_kd)) := by
  refine Ct.of (lv := [(0, .ref (c_a 0)), (1, .int (nI x))]) ⟨by decide +kernel, rfl, Nat.le_of_ble_eq_true rfl⟩ rfl (fun E A sz Q X hQ => ?_)
  refine V_iconst (v := (nI 0)) nX1_callOut_0 rfl ?_
  refine V_istore_n (lv' := [(0, .ref (c_a 0)), (1, .int (nI x)), (2, .int (nI 0))]) nX1_callOut_1 (by decide) rfl ?_
  have L2 : ∀ (n : Nat) (i : Nat), l_ne - i < n → i ≤ l_ne → V g E mX1_callOut A Q 0 0 ((wC g c_a l_a c_lo ((marS l_pl l_hm l_wk l_kd l_nf x (c_sk, c_db, c_vi, c_wy) i).1) ((marS l_pl l_hm l_wk l_kd l_nf x (c_sk, c_db, c_vi, c_wy) i).2.1) c_yr ((marS l_pl l_hm l_wk l_kd l_nf x (c_sk, c_db, c_vi, c_wy) i).2.2.1) ((marS l_pl l_hm l_wk l_kd l_nf x (c_sk, c_db, c_vi, c_wy) i).2.2.2)) ++ (wL g l_a l_nf l_ne l_pl l_yl l_nd l_hm l_wk l_kd)) 2 [(0, .ref (c_a 0)), (1, .int (nI x)), (2, .int (nI i))] [] := by
    intro n
    induction n with
    | zero => intro i hm; exact absurd hm (Nat.not_lt_zero _)
    | succ n ih =>
      intro i hm hi
      refine V_iload_n nX1_callOut_2 rfl ?_
      refine V_aload_n nX1_callOut_3 rfl ?_
      refine V_get1 0 0 (by decide) f_RX1_9 nX1_callOut_4 rfl rfl ?_
      refine V_get2 6 7 (by decide) f_RX1_53 nX1_callOut_7 rfl rfl ?_
      refine V_icmp_ge_N (tgt := 42) nX1_callOut_10 rfl (by omega) (by omega) (fun h10 => ?_) (fun h10 => ?_)
      · skip
        have hx_i : l_ne = i := by omega
        subst hx_i
        exact R_v rfl X hQ nX1_callOut_42 rfl (⟨rfl, rfl⟩)
      · skip
        refine V_iload_n nX1_callOut_13 rfl ?_
        refine V_iload_n nX1_callOut_14 rfl ?_
        refine V_ishr (v := nI (x / 2 ^ i)) nX1_callOut_15 (nI_shr (by omega) (by omega)) ?_
        refine V_iconst (v := (nI 1)) nX1_callOut_16 rfl ?_
        refine V_iand (v := nI ((x / 2 ^ i) % 2)) nX1_callOut_17 (nx_and1 (x / 2 ^ i)) ?_
        refine V_iconst (v := (nI 1)) nX1_callOut_18 rfl ?_
        refine V_icmp_ne_N (tgt := 36) nX1_callOut_19 rfl (by omega) (by omega) (fun h19 => ?_) (fun h19 => ?_)
        · skip
          refine V_iinc (v := nI (i + 1)) (lv' := [(0, .ref (c_a 0)), (1, .int (nI x)), (2, .int (nI (i + 1)))]) nX1_callOut_36 rfl (nI_add i 1) (by decide) rfl ?_
          refine V_goto (tgt := 2) nX1_callOut_39 rfl ?_
          have q := ih (i + 1) (by omega) (by omega)
          rw [show marS l_pl l_hm l_wk l_kd l_nf x (c_sk, c_db, c_vi, c_wy) (i + 1) = _ from if_neg h19] at q
          exact q
        · skip
          refine V_aload_n nX1_callOut_22 rfl ?_
          refine V_iload_n nX1_callOut_23 rfl ?_
          refine V_aload_n nX1_callOut_24 rfl ?_
          refine V_get1 0 0 (by decide) f_RX1_9 nX1_callOut_25 rfl rfl ?_
          refine V_get2 6 4 (by decide) f_RX1_78 nX1_callOut_28 rfl rfl ?_
          refine V_iload_n nX1_callOut_31 rfl ?_
          refine V_iald 11 nX1_callOut_32 rfl (by omega) (by decide) rfl ?_
          refine V_cVv (C := (RX1, TX1, 7)) (ci := 1) (ws' := (wC g c_a l_a c_lo ((sendS l_pl l_hm l_kd l_nf i (l_wk i) ((marS l_pl l_hm l_wk l_kd l_nf x (c_sk, c_db, c_vi, c_wy) i).1) ((marS l_pl l_hm l_wk l_kd l_nf x (c_sk, c_db, c_vi, c_wy) i).2.1)).1) ((sendS l_pl l_hm l_kd l_nf i (l_wk i) ((marS l_pl l_hm l_wk l_kd l_nf x (c_sk, c_db, c_vi, c_wy) i).1) ((marS l_pl l_hm l_wk l_kd l_nf x (c_sk, c_db, c_vi, c_wy) i).2.1)).2.1) c_yr (upd ((marS l_pl l_hm l_wk l_kd l_nf x (c_sk, c_db, c_vi, c_wy) i).2.2.1) i (sendS l_pl l_hm l_kd l_nf i (l_wk i) ((marS l_pl l_hm l_wk l_kd l_nf x (c_sk, c_db, c_vi, c_wy) i).1) ((marS l_pl l_hm l_wk l_kd l_nf x (c_sk, c_db, c_vi, c_wy) i).2.1)).2.2.1) (upd ((marS l_pl l_hm l_wk l_kd l_nf x (c_sk, c_db, c_vi, c_wy) i).2.2.2) i (sendS l_pl l_hm l_kd l_nf i (l_wk i) ((marS l_pl l_hm l_wk l_kd l_nf x (c_sk, c_db, c_vi, c_wy) i).1) ((marS l_pl l_hm l_wk l_kd l_nf x (c_sk, c_db, c_vi, c_wy) i).2.1)).2.2.2)) ++ (wL g l_a l_nf l_ne l_pl l_yl l_nd l_hm l_wk l_kd)) [0, 1, 2, 3, 4, 5, 6, 7, 8, 9, 10, 11, 12] 2 X (c_X1_sendOut g l c_a c_lo ((marS l_pl l_hm l_wk l_kd l_nf x (c_sk, c_db, c_vi, c_wy) i).1) ((marS l_pl l_hm l_wk l_kd l_nf x (c_sk, c_db, c_vi, c_wy) i).2.1) c_yr ((marS l_pl l_hm l_wk l_kd l_nf x (c_sk, c_db, c_vi, c_wy) i).2.2.1) ((marS l_pl l_hm l_wk l_kd l_nf x (c_sk, c_db, c_vi, c_wy) i).2.2.2) l_a l_nf l_ne l_pl l_yl l_nd l_hm l_wk l_kd  i (l_wk i) (by omega) (by omega)) k_RX1_81 hy_X1_sendOut (by decide) rfl (by decide) 0 rfl rfl nX1_callOut_33 rfl rfl (Nat.le_of_ble_eq_true rfl) rfl ?_
          refine V_iinc (v := nI (i + 1)) (lv' := [(0, .ref (c_a 0)), (1, .int (nI x)), (2, .int (nI (i + 1)))]) nX1_callOut_36 rfl (nI_add i 1) (by decide) rfl ?_
          refine V_goto (tgt := 2) nX1_callOut_39 rfl ?_
          have q := ih (i + 1) (by omega) (by omega)
          rw [show marS l_pl l_hm l_wk l_kd l_nf x (c_sk, c_db, c_vi, c_wy) (i + 1) = _ from if_pos h19] at q
          exact q
  exact L2 _ 0 (Nat.lt_succ_self _) (by omega)

set_option maxHeartbeats 4000000 in
set_option maxRecDepth 100000 in
theorem c_X1_reap (g : Gx) (l : Launch) (c_a : Nat → Nat) (c_lo : Nat → Int32) (c_sk : Nat → Int32) (c_db : Nat → Int32) (c_yr : Int32) (c_vi : Nat → Int32) (c_wy : Nat → Int32) (l_a : Nat → Nat) (l_nf : Nat) (l_ne : Nat) (l_pl : Nat → Int32) (l_yl : Nat → Int32) (l_nd : Nat → Int32) (l_hm : Nat → Int32) (l_wk : Nat → Int32) (l_kd : Nat → Int32)   (hnf : l_nf ≤ 4) : Cd g l yX1_reap mX1_reap ({ frames := 1, cells := 0, slots := 0, locals := 24 } : Room) [.ref (c_a 0)] ((wC g c_a l_a c_lo c_sk c_db c_yr c_vi c_wy) ++ (wL g l_a l_nf l_ne l_pl l_yl l_nd l_hm l_wk l_kd)) none ((wC g c_a l_a ((reapS l_yl l_nd c_lo c_sk l_nf).1) ((reapS l_yl l_nd c_lo c_sk l_nf).2) c_db (c_yr + nI 1) c_vi c_wy) ++ (wL g l_a l_nf l_ne l_pl l_yl l_nd l_hm l_wk l_kd)) := by
  refine Ct.of (lv := [(0, .ref (c_a 0))]) ⟨by decide +kernel, rfl, Nat.le_of_ble_eq_true rfl⟩ rfl (fun E A sz Q X hQ => ?_)
  refine V_iconst (v := (nI 0)) nX1_reap_0 rfl ?_
  refine V_istore_n (lv' := [(0, .ref (c_a 0)), (1, .int (nI 0))]) nX1_reap_1 (by decide) rfl ?_
  have L2 : ∀ (n : Nat) (i : Nat), l_nf - i < n → i ≤ l_nf → V g E mX1_reap A Q 0 0 ((wC g c_a l_a ((reapS l_yl l_nd c_lo c_sk i).1) ((reapS l_yl l_nd c_lo c_sk i).2) c_db c_yr c_vi c_wy) ++ (wL g l_a l_nf l_ne l_pl l_yl l_nd l_hm l_wk l_kd)) 2 [(0, .ref (c_a 0)), (1, .int (nI i))] [] := by
    intro n
    induction n with
    | zero => intro i hm; exact absurd hm (Nat.not_lt_zero _)
    | succ n ih =>
      intro i hm hi
      refine V_iload_n nX1_reap_2 rfl ?_
      refine V_aload_n nX1_reap_3 rfl ?_
      refine V_get1 0 0 (by decide) f_RX1_9 nX1_reap_4 rfl rfl ?_
      refine V_get2 6 6 (by decide) f_RX1_35 nX1_reap_7 rfl rfl ?_
      refine V_icmp_ge_N (tgt := 61) nX1_reap_10 rfl (by omega) (by omega) (fun h10 => ?_) (fun h10 => ?_)
      · skip
        have hx_i : l_nf = i := by omega
        subst hx_i
        refine V_aload_n nX1_reap_61 rfl ?_
        refine V_dup nX1_reap_62 rfl ?_
        refine V_get1 0 4 (by decide) f_RX1_25 nX1_reap_63 rfl rfl ?_
        refine V_iconst (v := (nI 1)) nX1_reap_66 rfl ?_
        refine V_iadd (v := c_yr + (nI 1)) nX1_reap_67 rfl ?_
        refine V_put1 (ws' := (wC g c_a l_a ((reapS l_yl l_nd c_lo c_sk l_nf).1) ((reapS l_yl l_nd c_lo c_sk l_nf).2) c_db (c_yr + (nI 1)) c_vi c_wy) ++ (wL g l_a l_nf l_ne l_pl l_yl l_nd l_hm l_wk l_kd)) 0 4 (by decide) f_RX1_25 rfl rfl rfl rfl nX1_reap_68 rfl (Nat.le_of_ble_eq_true rfl) rfl ?_
        exact R_v rfl X hQ nX1_reap_71 rfl (⟨rfl, rfl⟩)
      · skip
        refine V_aload_n nX1_reap_13 rfl ?_
        refine V_iload_n nX1_reap_14 rfl ?_
        refine V_cVi (C := (RX1, TX1, 7)) (ci := 1) (ws' := (wC g c_a l_a ((reapS l_yl l_nd c_lo c_sk i).1) ((reapS l_yl l_nd c_lo c_sk i).2) c_db c_yr c_vi c_wy) ++ (wL g l_a l_nf l_ne l_pl l_yl l_nd l_hm l_wk l_kd)) [0, 1, 2, 3, 4, 5, 6, 7, 8, 9, 10, 11, 12] 1 X (c_X1_isSown g l c_a ((reapS l_yl l_nd c_lo c_sk i).1) ((reapS l_yl l_nd c_lo c_sk i).2) c_db c_yr c_vi c_wy l_a l_nf l_ne l_pl l_yl l_nd l_hm l_wk l_kd  i (by omega)) k_RX1_63 hy_X1_isSown (by decide) rfl (by decide) 0 rfl rfl nX1_reap_15 rfl rfl (Nat.le_of_ble_eq_true rfl) rfl ?_
        refine V_if_eq_b (tgt := 48) nX1_reap_18 rfl (fun h18 => ?_) (fun h18 => ?_)
        · skip
          refine V_aload_n nX1_reap_48 rfl ?_
          refine V_get1 0 2 (by decide) f_RX1_19 nX1_reap_49 rfl rfl ?_
          refine V_iload_n nX1_reap_52 rfl ?_
          refine V_iconst (v := (nI 0)) nX1_reap_53 rfl ?_
          refine V_iast (ws' := (wC g c_a l_a ((reapS l_yl l_nd c_lo c_sk i).1) (upd ((reapS l_yl l_nd c_lo c_sk i).2) i (nI 0)) c_db c_yr c_vi c_wy) ++ (wL g l_a l_nf l_ne l_pl l_yl l_nd l_hm l_wk l_kd)) 2 nX1_reap_54 rfl (by omega) (by decide) rfl ?_
          refine V_iinc (v := nI (i + 1)) (lv' := [(0, .ref (c_a 0)), (1, .int (nI (i + 1)))]) nX1_reap_55 rfl (nI_add i 1) (by decide) rfl ?_
          refine V_goto (tgt := 2) nX1_reap_58 rfl ?_
          have q := ih (i + 1) (by omega) (by omega)
          rw [show (reapS l_yl l_nd c_lo c_sk (i + 1)).1 = _ from if_neg (by rw [h18]; decide)] at q
          exact q
        · skip
          refine V_aload_n nX1_reap_21 rfl ?_
          refine V_get1 0 1 (by decide) f_RX1_15 nX1_reap_22 rfl rfl ?_
          refine V_iload_n nX1_reap_25 rfl ?_
          refine V_bipush (v := (nI 99)) nX1_reap_26 (by decide) ?_
          refine V_aload_n nX1_reap_28 rfl ?_
          refine V_get1 0 1 (by decide) f_RX1_15 nX1_reap_29 rfl rfl ?_
          refine V_iload_n nX1_reap_32 rfl ?_
          refine V_iald 1 nX1_reap_33 rfl (by omega) (by decide) rfl ?_
          refine V_aload_n nX1_reap_34 rfl ?_
          refine V_get1 0 0 (by decide) f_RX1_9 nX1_reap_35 rfl rfl ?_
          refine V_get2 6 1 (by decide) f_RX1_40 nX1_reap_38 rfl rfl ?_
          refine V_iload_n nX1_reap_41 rfl ?_
          refine V_iald 8 nX1_reap_42 rfl (by omega) (by decide) rfl ?_
          refine V_iadd (v := (((reapS l_yl l_nd c_lo c_sk i).1) i) + (l_yl i)) nX1_reap_43 rfl ?_
          refine V_mmin (v := capI ((((reapS l_yl l_nd c_lo c_sk i).1) i) + (l_yl i))) X k_RX1_73 ⟨Nat.le_of_ble_eq_true rfl, Nat.le_of_ble_eq_true rfl, Nat.le_of_ble_eq_true rfl, Nat.le_of_ble_eq_true rfl⟩ nX1_reap_44 (rfl) ?_
          refine V_iast (ws' := (wC g c_a l_a (upd ((reapS l_yl l_nd c_lo c_sk i).1) i (capI ((((reapS l_yl l_nd c_lo c_sk i).1) i) + (l_yl i)))) ((reapS l_yl l_nd c_lo c_sk i).2) c_db c_yr c_vi c_wy) ++ (wL g l_a l_nf l_ne l_pl l_yl l_nd l_hm l_wk l_kd)) 1 nX1_reap_47 rfl (by omega) (by decide) rfl ?_
          refine V_aload_n nX1_reap_48 rfl ?_
          refine V_get1 0 2 (by decide) f_RX1_19 nX1_reap_49 rfl rfl ?_
          refine V_iload_n nX1_reap_52 rfl ?_
          refine V_iconst (v := (nI 0)) nX1_reap_53 rfl ?_
          refine V_iast (ws' := (wC g c_a l_a (upd ((reapS l_yl l_nd c_lo c_sk i).1) i (capI ((((reapS l_yl l_nd c_lo c_sk i).1) i) + (l_yl i)))) (upd ((reapS l_yl l_nd c_lo c_sk i).2) i (nI 0)) c_db c_yr c_vi c_wy) ++ (wL g l_a l_nf l_ne l_pl l_yl l_nd l_hm l_wk l_kd)) 2 nX1_reap_54 rfl (by omega) (by decide) rfl ?_
          refine V_iinc (v := nI (i + 1)) (lv' := [(0, .ref (c_a 0)), (1, .int (nI (i + 1)))]) nX1_reap_55 rfl (nI_add i 1) (by decide) rfl ?_
          refine V_goto (tgt := 2) nX1_reap_58 rfl ?_
          have q := ih (i + 1) (by omega) (by omega)
          rw [show (reapS l_yl l_nd c_lo c_sk (i + 1)).1 = _ from if_pos h18] at q
          exact q
  exact L2 _ 0 (Nat.lt_succ_self _) (by omega)

set_option maxHeartbeats 4000000 in
set_option maxRecDepth 100000 in
theorem c_X1_beginAnew (g : Gx) (l : Launch) (c_a : Nat → Nat) (c_lo : Nat → Int32) (c_sk : Nat → Int32) (c_db : Nat → Int32) (c_yr : Int32) (c_vi : Nat → Int32) (c_wy : Nat → Int32) (l_a : Nat → Nat) (l_nf : Nat) (l_ne : Nat) (l_pl : Nat → Int32) (l_yl : Nat → Int32) (l_nd : Nat → Int32) (l_hm : Nat → Int32) (l_wk : Nat → Int32) (l_kd : Nat → Int32)   (hnf : l_nf ≤ 4) : Cd g l yX1_beginAnew mX1_beginAnew ({ frames := 0, cells := 0, slots := 0, locals := 0 } : Room) [.ref (c_a 0)] ((wC g c_a l_a c_lo c_sk c_db c_yr c_vi c_wy) ++ (wL g l_a l_nf l_ne l_pl l_yl l_nd l_hm l_wk l_kd)) none ((wC g c_a l_a (fun j => if (decide (j < l_nf)) = true then l_yl j else nI 0) (fun _ => nI 0) (fun _ => nI 0) (nI 0) c_vi c_wy) ++ (wL g l_a l_nf l_ne l_pl l_yl l_nd l_hm l_wk l_kd)) := by
  refine Ct.of (lv := [(0, .ref (c_a 0))]) ⟨by decide +kernel, rfl, Nat.le_of_ble_eq_true rfl⟩ rfl (fun E A sz Q X hQ => ?_)
  refine V_iconst (v := (nI 0)) nX1_beginAnew_0 rfl ?_
  refine V_istore_n (lv' := [(0, .ref (c_a 0)), (1, .int (nI 0))]) nX1_beginAnew_1 (by decide) rfl ?_
  have L2 : ∀ (n : Nat) (i : Nat), 4 - i < n → i ≤ 4 → V g E mX1_beginAnew A Q 0 0 ((wC g c_a l_a (fillI (fun j => if (decide (j < l_nf)) = true then l_yl j else nI 0) c_lo i) (fillI (fun _ => nI 0) c_sk i) c_db c_yr c_vi c_wy) ++ (wL g l_a l_nf l_ne l_pl l_yl l_nd l_hm l_wk l_kd)) 2 [(0, .ref (c_a 0)), (1, .int (nI i))] [] := by
    intro n
    induction n with
    | zero => intro i hm; exact absurd hm (Nat.not_lt_zero _)
    | succ n ih =>
      intro i hm hi
      refine V_iload_n nX1_beginAnew_2 rfl ?_
      refine V_iconst (v := (nI 4)) nX1_beginAnew_3 rfl ?_
      refine V_icmp_ge_N (tgt := 50) nX1_beginAnew_4 rfl (by omega) (by omega) (fun h4 => ?_) (fun h4 => ?_)
      · skip
        have hx_i : 4 = i := by omega
        subst hx_i
        refine V_iconst (v := (nI 0)) nX1_beginAnew_50 rfl ?_
        refine V_istore_n (lv' := [(0, .ref (c_a 0)), (1, .int (nI 0))]) nX1_beginAnew_51 (by decide) rfl ?_
        have L52 : ∀ (n : Nat) (i : Nat), 20 - i < n → i ≤ 20 → V g E mX1_beginAnew A Q 0 0 ((wC g c_a l_a (fillI (fun j => if (decide (j < l_nf)) = true then l_yl j else nI 0) c_lo 4) (fillI (fun _ => nI 0) c_sk 4) (fillI (fun _ => nI 0) c_db i) c_yr c_vi c_wy) ++ (wL g l_a l_nf l_ne l_pl l_yl l_nd l_hm l_wk l_kd)) 52 [(0, .ref (c_a 0)), (1, .int (nI i))] [] := by
          intro n
          induction n with
          | zero => intro i hm; exact absurd hm (Nat.not_lt_zero _)
          | succ n ih =>
            intro i hm hi
            refine V_iload_n nX1_beginAnew_52 rfl ?_
            refine V_bipush (v := (nI 20)) nX1_beginAnew_53 (by decide) ?_
            refine V_icmp_ge_N (tgt := 71) nX1_beginAnew_55 rfl (by omega) (by omega) (fun h55 => ?_) (fun h55 => ?_)
            · skip
              have hx_i : 20 = i := by omega
              subst hx_i
              refine V_aload_n nX1_beginAnew_71 rfl ?_
              refine V_iconst (v := (nI 0)) nX1_beginAnew_72 rfl ?_
              refine V_put1 (ws' := (wC g c_a l_a (fillI (fun j => if (decide (j < l_nf)) = true then l_yl j else nI 0) c_lo 4) (fillI (fun _ => nI 0) c_sk 4) (fillI (fun _ => nI 0) c_db 20) (nI 0) c_vi c_wy) ++ (wL g l_a l_nf l_ne l_pl l_yl l_nd l_hm l_wk l_kd)) 0 4 (by decide) f_RX1_25 rfl rfl rfl rfl nX1_beginAnew_73 rfl (Nat.le_of_ble_eq_true rfl) rfl ?_
              refine V_arr (f' := (fun j => if (decide (j < l_nf)) = true then l_yl j else nI 0)) (ws' := (wC g c_a l_a (fun j => if (decide (j < l_nf)) = true then l_yl j else nI 0) (fillI (fun _ => nI 0) c_sk 4) (fillI (fun _ => nI 0) c_db 20) (nI 0) c_vi c_wy) ++ (wL g l_a l_nf l_ne l_pl l_yl l_nd l_hm l_wk l_kd)) 1 rfl (fun j hj => fillI_lt _ _ _ j hj) rfl ?_
              refine V_arr (f' := (fun _ => nI 0)) (ws' := (wC g c_a l_a (fun j => if (decide (j < l_nf)) = true then l_yl j else nI 0) (fun _ => nI 0) (fillI (fun _ => nI 0) c_db 20) (nI 0) c_vi c_wy) ++ (wL g l_a l_nf l_ne l_pl l_yl l_nd l_hm l_wk l_kd)) 2 rfl (fun j hj => fillI_lt _ _ _ j hj) rfl ?_
              refine V_arr (f' := (fun _ => nI 0)) (ws' := (wC g c_a l_a (fun j => if (decide (j < l_nf)) = true then l_yl j else nI 0) (fun _ => nI 0) (fun _ => nI 0) (nI 0) c_vi c_wy) ++ (wL g l_a l_nf l_ne l_pl l_yl l_nd l_hm l_wk l_kd)) 3 rfl (fun j hj => fillI_lt _ _ _ j hj) rfl ?_
              exact R_v rfl X hQ nX1_beginAnew_76 rfl (⟨rfl, rfl⟩)
            · skip
              refine V_aload_n nX1_beginAnew_58 rfl ?_
              refine V_get1 0 3 (by decide) f_RX1_22 nX1_beginAnew_59 rfl rfl ?_
              refine V_iload_n nX1_beginAnew_62 rfl ?_
              refine V_iconst (v := (nI 0)) nX1_beginAnew_63 rfl ?_
              refine V_iast (ws' := (wC g c_a l_a (fillI (fun j => if (decide (j < l_nf)) = true then l_yl j else nI 0) c_lo 4) (fillI (fun _ => nI 0) c_sk 4) (upd (fillI (fun _ => nI 0) c_db i) i (nI 0)) c_yr c_vi c_wy) ++ (wL g l_a l_nf l_ne l_pl l_yl l_nd l_hm l_wk l_kd)) 3 nX1_beginAnew_64 rfl (by omega) (by decide) rfl ?_
              refine V_iinc (v := nI (i + 1)) (lv' := [(0, .ref (c_a 0)), (1, .int (nI (i + 1)))]) nX1_beginAnew_65 rfl (nI_add i 1) (by decide) rfl ?_
              refine V_goto (tgt := 52) nX1_beginAnew_68 rfl ?_
              exact ih (i + 1) (by omega) (by omega)
        exact L52 _ 0 (Nat.lt_succ_self _) (by omega)
      · skip
        refine V_aload_n nX1_beginAnew_7 rfl ?_
        refine V_get1 0 1 (by decide) f_RX1_15 nX1_beginAnew_8 rfl rfl ?_
        refine V_iload_n nX1_beginAnew_11 rfl ?_
        refine V_iload_n nX1_beginAnew_12 rfl ?_
        refine V_aload_n nX1_beginAnew_13 rfl ?_
        refine V_get1 0 0 (by decide) f_RX1_9 nX1_beginAnew_14 rfl rfl ?_
        refine V_get2 6 6 (by decide) f_RX1_35 nX1_beginAnew_17 rfl rfl ?_
        refine V_join (b := decide (i < l_nf)) (x := (l_yl i)) (y := (nI 0)) (pj := 36) (st := [.int (nI i), .ref (c_a 1)]) (fun J1 J2 => ?_) ?_
        · skip
          refine V_icmp_ge_N (tgt := 35) nX1_beginAnew_20 rfl (by omega) (by omega) (fun h20 => ?_) (fun h20 => ?_)
          · skip
            refine V_iconst (v := (nI 0)) nX1_beginAnew_35 rfl ?_
            exact J2 (by simp [h20])
          · skip
            refine V_aload_n nX1_beginAnew_23 rfl ?_
            refine V_get1 0 0 (by decide) f_RX1_9 nX1_beginAnew_24 rfl rfl ?_
            refine V_get2 6 1 (by decide) f_RX1_40 nX1_beginAnew_27 rfl rfl ?_
            refine V_iload_n nX1_beginAnew_30 rfl ?_
            refine V_iald 8 nX1_beginAnew_31 rfl (by omega) (by decide) rfl ?_
            refine V_goto (tgt := 36) nX1_beginAnew_32 rfl ?_
            exact J1 (by simp [h20])
        refine V_iast (ws' := (wC g c_a l_a (upd (fillI (fun j => if (decide (j < l_nf)) = true then l_yl j else nI 0) c_lo i) i (if (decide (i < l_nf)) = true then l_yl i else nI 0)) (fillI (fun _ => nI 0) c_sk i) c_db c_yr c_vi c_wy) ++ (wL g l_a l_nf l_ne l_pl l_yl l_nd l_hm l_wk l_kd)) 1 nX1_beginAnew_36 rfl (by omega) (by decide) rfl ?_
        refine V_aload_n nX1_beginAnew_37 rfl ?_
        refine V_get1 0 2 (by decide) f_RX1_19 nX1_beginAnew_38 rfl rfl ?_
        refine V_iload_n nX1_beginAnew_41 rfl ?_
        refine V_iconst (v := (nI 0)) nX1_beginAnew_42 rfl ?_
        refine V_iast (ws' := (wC g c_a l_a (upd (fillI (fun j => if (decide (j < l_nf)) = true then l_yl j else nI 0) c_lo i) i (if (decide (i < l_nf)) = true then l_yl i else nI 0)) (upd (fillI (fun _ => nI 0) c_sk i) i (nI 0)) c_db c_yr c_vi c_wy) ++ (wL g l_a l_nf l_ne l_pl l_yl l_nd l_hm l_wk l_kd)) 2 nX1_beginAnew_43 rfl (by omega) (by decide) rfl ?_
        refine V_iinc (v := nI (i + 1)) (lv' := [(0, .ref (c_a 0)), (1, .int (nI (i + 1)))]) nX1_beginAnew_44 rfl (nI_add i 1) (by decide) rfl ?_
        refine V_goto (tgt := 2) nX1_beginAnew_47 rfl ?_
        exact ih (i + 1) (by omega) (by omega)
  exact L2 _ 0 (Nat.lt_succ_self _) (by omega)

set_option maxHeartbeats 4000000 in
set_option maxRecDepth 100000 in
theorem c_X1_copyFrom (g : Gx) (l : Launch) (c_a : Nat → Nat) (c_la : Nat → Nat) (c_lo : Nat → Int32) (c_sk : Nat → Int32) (c_db : Nat → Int32) (c_yr : Int32) (c_vi : Nat → Int32) (c_wy : Nat → Int32) (d_a : Nat → Nat) (d_la : Nat → Nat) (d_lo : Nat → Int32) (d_sk : Nat → Int32) (d_db : Nat → Int32) (d_yr : Int32) (d_vi : Nat → Int32) (d_wy : Nat → Int32)    : Cd g l yX1_copyFrom mX1_copyFrom ({ frames := 1, cells := 0, slots := 0, locals := 26 } : Room) [.ref (c_a 0), .ref (d_a 0)] ((wC g c_a c_la c_lo c_sk c_db c_yr c_vi c_wy) ++ (wC g d_a d_la d_lo d_sk d_db d_yr d_vi d_wy)) none ((wC g c_a c_la d_lo d_sk d_db d_yr c_vi c_wy) ++ (wC g d_a d_la d_lo d_sk d_db d_yr d_vi d_wy)) := by
  refine Ct.of (lv := [(0, .ref (c_a 0)), (1, .ref (d_a 0))]) ⟨by decide +kernel, rfl, Nat.le_of_ble_eq_true rfl⟩ rfl (fun E A sz Q X hQ => ?_)
  refine V_aload_n nX1_copyFrom_0 rfl ?_
  refine V_get1 6 1 (by decide) f_RX1_15 nX1_copyFrom_1 rfl rfl ?_
  refine V_iconst (v := (nI 0)) nX1_copyFrom_4 rfl ?_
  refine V_aload_n nX1_copyFrom_5 rfl ?_
  refine V_get1 0 1 (by decide) f_RX1_15 nX1_copyFrom_6 rfl rfl ?_
  refine V_iconst (v := (nI 0)) nX1_copyFrom_9 rfl ?_
  refine V_iconst (v := (nI 4)) nX1_copyFrom_10 rfl ?_
  refine V_copy (ws' := (wC g c_a c_la d_lo c_sk c_db c_yr c_vi c_wy) ++ (wC g d_a d_la d_lo d_sk d_db d_yr d_vi d_wy)) 7 1 X k_RX1_43 ⟨Nat.le_of_ble_eq_true rfl, Nat.le_of_ble_eq_true rfl⟩ nX1_copyFrom_11 rfl rfl (by decide) rfl ?_
  refine V_aload_n nX1_copyFrom_14 rfl ?_
  refine V_get1 6 2 (by decide) f_RX1_19 nX1_copyFrom_15 rfl rfl ?_
  refine V_iconst (v := (nI 0)) nX1_copyFrom_18 rfl ?_
  refine V_aload_n nX1_copyFrom_19 rfl ?_
  refine V_get1 0 2 (by decide) f_RX1_19 nX1_copyFrom_20 rfl rfl ?_
  refine V_iconst (v := (nI 0)) nX1_copyFrom_23 rfl ?_
  refine V_iconst (v := (nI 4)) nX1_copyFrom_24 rfl ?_
  refine V_copy (ws' := (wC g c_a c_la d_lo d_sk c_db c_yr c_vi c_wy) ++ (wC g d_a d_la d_lo d_sk d_db d_yr d_vi d_wy)) 8 2 X k_RX1_43 ⟨Nat.le_of_ble_eq_true rfl, Nat.le_of_ble_eq_true rfl⟩ nX1_copyFrom_25 rfl rfl (by decide) rfl ?_
  refine V_aload_n nX1_copyFrom_28 rfl ?_
  refine V_get1 6 3 (by decide) f_RX1_22 nX1_copyFrom_29 rfl rfl ?_
  refine V_iconst (v := (nI 0)) nX1_copyFrom_32 rfl ?_
  refine V_aload_n nX1_copyFrom_33 rfl ?_
  refine V_get1 0 3 (by decide) f_RX1_22 nX1_copyFrom_34 rfl rfl ?_
  refine V_iconst (v := (nI 0)) nX1_copyFrom_37 rfl ?_
  refine V_bipush (v := (nI 20)) nX1_copyFrom_38 (by decide) ?_
  refine V_copy (ws' := (wC g c_a c_la d_lo d_sk d_db c_yr c_vi c_wy) ++ (wC g d_a d_la d_lo d_sk d_db d_yr d_vi d_wy)) 9 3 X k_RX1_43 ⟨Nat.le_of_ble_eq_true rfl, Nat.le_of_ble_eq_true rfl⟩ nX1_copyFrom_40 rfl rfl (by decide) rfl ?_
  refine V_aload_n nX1_copyFrom_43 rfl ?_
  refine V_aload_n nX1_copyFrom_44 rfl ?_
  refine V_get1 6 4 (by decide) f_RX1_25 nX1_copyFrom_45 rfl rfl ?_
  refine V_put1 (ws' := (wC g c_a c_la d_lo d_sk d_db d_yr c_vi c_wy) ++ (wC g d_a d_la d_lo d_sk d_db d_yr d_vi d_wy)) 0 4 (by decide) f_RX1_25 rfl rfl rfl rfl nX1_copyFrom_48 rfl (Nat.le_of_ble_eq_true rfl) rfl ?_
  exact R_v rfl X hQ nX1_copyFrom_51 rfl (⟨rfl, rfl⟩)
end
section
/-! the text and the land that it tells -/
section VN2
variable {g : Gx} {E : MV} {M : MS} {A : Nat → Prop} {Q : State → Prop} {kc ks : Nat} {ws ws' : va_W} {pc pc' : Nat} {lv : List (Nat × Value)} {st : List Value}
theorem V_if_le_N {a : Nat} {off : Int} {tgt : Nat} (hd : Nx M pc (.ifCond .le off) 3 pc') (ht : (pc : Int) + off = (tgt : Int)) (ha : a < 2 ^ 31) (kt : a = 0 → V g E M A Q kc ks ws tgt lv st) (kf : 0 < a → V g E M A Q kc ks ws pc' lv st) : V g E M A Q kc ks ws pc lv (.int (nI a) :: st) := by
  refine V_if_le hd ht (fun h => kt ?_) (fun h => kf ?_)
  · rw [← nI_0, nI_leI ha (by decide)] at h; omega
  · rw [← nI_0, nI_leI ha (by decide)] at h; omega
theorem V_if_gt_N {a : Nat} {off : Int} {tgt : Nat} (hd : Nx M pc (.ifCond .gt off) 3 pc') (ht : (pc : Int) + off = (tgt : Int)) (ha : a < 2 ^ 31) (kt : 0 < a → V g E M A Q kc ks ws tgt lv st) (kf : a = 0 → V g E M A Q kc ks ws pc' lv st) : V g E M A Q kc ks ws pc lv (.int (nI a) :: st) := by
  refine V_if_gt hd ht (fun h => kt ?_) (fun h => kf ?_)
  · rw [← nI_0, nI_ltI (by decide) ha] at h; omega
  · rw [← nI_0, nI_ltI (by decide) ha] at h; omega
theorem V_if_lt_N {a : Nat} {off : Int} {tgt : Nat} (hd : Nx M pc (.ifCond .lt off) 3 pc') (ht : (pc : Int) + off = (tgt : Int)) (ha : a < 2 ^ 31) (kt : False → V g E M A Q kc ks ws tgt lv st) (kf : True → V g E M A Q kc ks ws pc' lv st) : V g E M A Q kc ks ws pc lv (.int (nI a) :: st) :=
  V_if_lt hd ht (fun h => kt (nI_pos ha h)) (fun _ => kf trivial)
theorem V_if_ge_N {a : Nat} {off : Int} {tgt : Nat} (hd : Nx M pc (.ifCond .ge off) 3 pc') (ht : (pc : Int) + off = (tgt : Int)) (ha : a < 2 ^ 31) (kt : True → V g E M A Q kc ks ws tgt lv st) (kf : False → V g E M A Q kc ks ws pc' lv st) : V g E M A Q kc ks ws pc lv (.int (nI a) :: st) :=
  V_if_ge hd ht (fun _ => kt trivial) (fun h => kf (h (nI_pos' ha)))
end VN2
theorem nI_addb (a : Nat) (b : Bool) : nI a + bI b = nI (a + (if b = true then 1 else 0)) := by
  cases b
  · exact nI_add a 0
  · exact nI_add a 1
theorem ite1 (b : Bool) : (if b = true then 1 else 0) ≤ 1 := by cases b <;> decide
def figT (F : Nat → Int32) (n p : Nat) : Int32 := if p < n then F p - nI 48 else nI 0
/-- a thing's fault: from byte i of it on -/
def thF (F : Nat → Int32) (n s : Nat) (b : Bool) : Nat → Nat → Option Nat
  | 0, _ => none
  | k + 1, i => if s + i < n then (if F (s + i) < nI (if (b && decide (1 < i)) = true then 49 else 48) ∨ ¬ F (s + i) ≤ nI (if (!b && decide (i = 3)) = true then 51 else 57) then some (s + i) else thF F n s b k (i + 1)) else some n
def ffC (F : Nat → Int32) (n : Nat) : Nat → Nat → Nat → Nat → Option Nat
  | 0, _, _, _ => none
  | k + 1, i, a, b => if i < n then (if (F i = nI 71 ∨ F i = nI 69) ∧ a + (if decide (F i = nI 71) = true then 1 else 0) ≤ 4 ∧ b + (if decide (F i = nI 69) = true then 1 else 0) ≤ 5 then
      (match thF F n i (decide (F i = nI 71)) 3 1 with
       | some q => some q
       | none => ffC F n k (i + 4) (a + (if decide (F i = nI 71) = true then 1 else 0)) (b + (if decide (F i = nI 69) = true then 1 else 0))) else some i) else none
def faultT (F : Nat → Int32) (n : Nat) : Option Nat := if ¬ n = 0 ∧ F 0 = nI 70 then ffC F n 12 1 0 0 else some 0
theorem oI_ne9 {k : Nat} (h : k < 1000) : ¬ oI (some k) = -9 := by
  have e : (nI k).toInt = k := nI_toInt (by omega)
  intro q
  have q : nI k = -9 := q
  rw [q] at e
  have e2 : ((-9 : Int32)).toInt = -9 := by decide
  omega
theorem oI_none {o : Option Nat} (hb : ∀ k, o = some k → k < 1000) : oI o = -9 ↔ o = none := by
  cases o with
  | none => exact ⟨fun _ => rfl, fun _ => rfl⟩
  | some k => exact ⟨fun h => absurd h (oI_ne9 (hb k rfl)), fun h => by cases h⟩
theorem thF_lt (F : Nat → Int32) {n s : Nat} (hs : s ≤ 100) (hn : n ≤ 48) (b : Bool) : ∀ k i q, k + i ≤ 4 → thF F n s b k i = some q → q < 1000
  | 0, i, q, _, h => by cases h
  | k + 1, i, q, hk, h => by
    unfold thF at h
    by_cases h1 : s + i < n
    · rw [if_pos h1] at h
      by_cases h2 : F (s + i) < nI (if (b && decide (1 < i)) = true then 49 else 48) ∨ ¬ F (s + i) ≤ nI (if (!b && decide (i = 3)) = true then 51 else 57)
      · rw [if_pos h2] at h
        have := Option.some.inj h
        omega
      · rw [if_neg h2] at h
        exact thF_lt F hs hn b k (i + 1) q (by omega) h
    · rw [if_neg h1] at h
      have := Option.some.inj h
      omega
theorem thF_end {F : Nat → Int32} {n s : Nat} {b : Bool} {i : Nat} (hi : i < 4) (h : n ≤ s + i) : thF F n s b (4 - i) i = some n := by
  rw [show 4 - i = (3 - i) + 1 by omega]
  exact if_neg (by omega)
theorem thF_bad {F : Nat → Int32} {n s : Nat} {b : Bool} {i : Nat} (hi : i < 4) (h : s + i < n) (hc : F (s + i) < nI (if (b && decide (1 < i)) = true then 49 else 48) ∨ ¬ F (s + i) ≤ nI (if (!b && decide (i = 3)) = true then 51 else 57)) : thF F n s b (4 - i) i = some (s + i) := by
  rw [show 4 - i = (3 - i) + 1 by omega]
  unfold thF
  rw [if_pos h, if_pos hc]
theorem thF_go {F : Nat → Int32} {n s : Nat} {b : Bool} {i : Nat} (hi : i < 4) (h : s + i < n) (hc : ¬ (F (s + i) < nI (if (b && decide (1 < i)) = true then 49 else 48) ∨ ¬ F (s + i) ≤ nI (if (!b && decide (i = 3)) = true then 51 else 57))) : thF F n s b (4 - i) i = thF F n s b (4 - (i + 1)) (i + 1) := by
  rw [show 4 - i = (4 - (i + 1)) + 1 by omega]
  conv => lhs; unfold thF
  rw [if_pos h, if_neg hc]
theorem ffC_end {F : Nat → Int32} {n k i a b : Nat} (h : n ≤ i) : ffC F n k i a b = none := by
  cases k with
  | zero => rfl
  | succ k => exact if_neg (by omega)
theorem ffC_bad {F : Nat → Int32} {n k i a b : Nat} (hk : n ≤ i + 4 * k) (h : i < n) (hc : ¬ ((F i = nI 71 ∨ F i = nI 69) ∧ a + (if decide (F i = nI 71) = true then 1 else 0) ≤ 4 ∧ b + (if decide (F i = nI 69) = true then 1 else 0) ≤ 5)) : ffC F n k i a b = some i := by
  cases k with
  | zero => omega
  | succ k => unfold ffC; rw [if_pos h, if_neg hc]
theorem ffC_th {F : Nat → Int32} {n k i a b : Nat} (hk : n ≤ i + 4 * k) (h : i < n) (hc : (F i = nI 71 ∨ F i = nI 69) ∧ a + (if decide (F i = nI 71) = true then 1 else 0) ≤ 4 ∧ b + (if decide (F i = nI 69) = true then 1 else 0) ≤ 5) {q : Nat} (ht : thF F n i (decide (F i = nI 71)) 3 1 = some q) : ffC F n k i a b = some q := by
  cases k with
  | zero => omega
  | succ k => unfold ffC; rw [if_pos h, if_pos hc, ht]
theorem ffC_go {F : Nat → Int32} {n k i a b : Nat} (hk : n ≤ i + 4 * k) (h : i < n) (hc : (F i = nI 71 ∨ F i = nI 69) ∧ a + (if decide (F i = nI 71) = true then 1 else 0) ≤ 4 ∧ b + (if decide (F i = nI 69) = true then 1 else 0) ≤ 5) (ht : thF F n i (decide (F i = nI 71)) 3 1 = none) : ffC F n k i a b = ffC F n (k - 1) (i + 4) (a + (if decide (F i = nI 71) = true then 1 else 0)) (b + (if decide (F i = nI 69) = true then 1 else 0)) := by
  cases k with
  | zero => omega
  | succ k => conv => { lhs; unfold ffC }; rw [if_pos h, if_pos hc, ht]; rfl
/-- a land: fields, eaters, places, yields, needs, homes, walks, kinds -/
abbrev L8 : Type := Nat × Nat × (Nat → Int32) × (Nat → Int32) × (Nat → Int32) × (Nat → Int32) × (Nat → Int32) × (Nat → Int32)
def addF (F : Nat → Int32) (n i : Nat) (s : L8) : L8 := if s.1 < 4 then (s.1 + 1, s.2.1, upd s.2.2.1 s.1 (figT F n (i + 1)), upd s.2.2.2.1 s.1 (figT F n (i + 2)), upd s.2.2.2.2.1 s.1 (figT F n (i + 3)), s.2.2.2.2.2) else s
def addE (F : Nat → Int32) (n i : Nat) (s : L8) : L8 := if s.2.1 < 5 then (s.1, s.2.1 + 1, s.2.2.1, s.2.2.2.1, s.2.2.2.2.1, upd s.2.2.2.2.2.1 s.2.1 (figT F n (i + 1)), upd s.2.2.2.2.2.2.1 s.2.1 (figT F n (i + 2)), upd s.2.2.2.2.2.2.2 s.2.1 (figT F n (i + 3))) else s
def addT (F : Nat → Int32) (n i : Nat) (s : L8) : L8 := if F i = nI 71 then addF F n i s else addE F n i s
def rdS (F : Nat → Int32) (n : Nat) : Nat → Nat → L8 → L8
  | 0, _, s => s
  | k + 1, i, s => if i < n then rdS F n k (i + 4) (addT F n i s) else s
theorem rdS_end {F : Nat → Int32} {n k i : Nat} {s : L8} (h : n ≤ i) : rdS F n k i s = s := by
  cases k with
  | zero => rfl
  | succ k => exact if_neg (by omega)
theorem rdS_go {F : Nat → Int32} {n k i : Nat} {s : L8} (hk : n ≤ i + 4 * k) (h : i < n) : rdS F n k i s = rdS F n (k - 1) (i + 4) (addT F n i s) := by
  cases k with
  | zero => omega
  | succ k => exact if_pos h
theorem addF_le {F : Nat → Int32} {n i : Nat} {s : L8} (h : s.1 ≤ 4 ∧ s.2.1 ≤ 5) : (addF F n i s).1 ≤ 4 ∧ (addF F n i s).2.1 ≤ 5 := by
  unfold addF
  split
  · exact ⟨by show s.1 + 1 ≤ 4; omega, h.2⟩
  · exact h
theorem addE_le {F : Nat → Int32} {n i : Nat} {s : L8} (h : s.1 ≤ 4 ∧ s.2.1 ≤ 5) : (addE F n i s).1 ≤ 4 ∧ (addE F n i s).2.1 ≤ 5 := by
  unfold addE
  split
  · exact ⟨h.1, by show s.2.1 + 1 ≤ 5; omega⟩
  · exact h
def allowS (cp ci : Nat → Int32) (d w : Int32) : Nat → Nat → Bool
  | 0, _ => true
  | k + 1, i => if bI (!decide (w < absI (d - cp i))) = ci i then allowS cp ci d w k (i + 1) else false
theorem allowS_no {cp ci : Nat → Int32} {d w : Int32} {n i : Nat} (h : i < n) (hc : ¬ bI (!decide (w < absI (d - cp i))) = ci i) : allowS cp ci d w (n - i) i = false := by
  rw [show n - i = (n - (i + 1)) + 1 by omega]
  exact if_neg hc
theorem allowS_go {cp ci : Nat → Int32} {d w : Int32} {n i : Nat} (h : i < n) (hc : bI (!decide (w < absI (d - cp i))) = ci i) : allowS cp ci d w (n - i) i = allowS cp ci d w (n - (i + 1)) (i + 1) := by
  rw [show n - i = (n - (i + 1)) + 1 by omega]
  exact if_pos hc
theorem ffault_t {F : Nat → Int32} {n : Nat} (h : ¬ n = 0) (h2 : F 0 = nI 70) : faultT F n = ffC F n 12 1 0 0 := if_pos ⟨h, h2⟩
end
section
set_option maxHeartbeats 4000000 in
set_option maxRecDepth 100000 in
theorem c_X3_append (g : Gx) (l : Launch) (t_a : Nat → Nat) (t_n : Nat) (t_F : Nat → Int32)  (x : Int32) (hn : t_n < 48) : Cd g l yX3_append mX3_append ({ frames := 0, cells := 0, slots := 0, locals := 0 } : Room) [.ref (t_a 0), .int x] (wT g t_a t_n t_F) none (wT g t_a (t_n + 1) (upd t_F t_n x)) := by
  refine Ct.of (lv := [(0, .ref (t_a 0)), (1, .int x)]) ⟨by decide +kernel, rfl, Nat.le_of_ble_eq_true rfl⟩ rfl (fun E A sz Q X hQ => ?_)
  refine V_aload_n nX3_append_0 rfl ?_
  refine V_get3 0 1 (by decide) f_RX3_15 nX3_append_1 rfl rfl ?_
  refine V_bipush (v := (nI 48)) nX3_append_4 (by decide) ?_
  refine V_icmp_ge_N (tgt := 29) nX3_append_6 rfl (by omega) (by omega) (fun h6 => ?_) (fun h6 => ?_)
  · skip
    exact absurd h6 (by omega)
  · skip
    refine V_aload_n nX3_append_9 rfl ?_
    refine V_get3 0 0 (by decide) f_RX3_9 nX3_append_10 rfl rfl ?_
    refine V_aload_n nX3_append_13 rfl ?_
    refine V_get3 0 1 (by decide) f_RX3_15 nX3_append_14 rfl rfl ?_
    refine V_iload_n nX3_append_17 rfl ?_
    refine V_iast (ws' := wT g t_a t_n (upd t_F t_n x)) 1 nX3_append_18 rfl (by omega) (by decide) rfl ?_
    refine V_aload_n nX3_append_19 rfl ?_
    refine V_dup nX3_append_20 rfl ?_
    refine V_get3 0 1 (by decide) f_RX3_15 nX3_append_21 rfl rfl ?_
    refine V_iconst (v := (nI 1)) nX3_append_24 rfl ?_
    refine V_iadd (v := nI (t_n + 1)) nX3_append_25 (nI_add t_n 1) ?_
    refine V_put3 (ws' := wT g t_a (t_n + 1) (upd t_F t_n x)) 0 1 (by decide) f_RX3_15 rfl rfl rfl rfl nX3_append_26 rfl (Nat.le_of_ble_eq_true rfl) rfl ?_
    exact R_v rfl X hQ nX3_append_29 rfl (⟨rfl, rfl⟩)

set_option maxHeartbeats 4000000 in
set_option maxRecDepth 100000 in
theorem c_X3_figure (g : Gx) (l : Launch) (t_a : Nat → Nat) (t_n : Nat) (t_F : Nat → Int32)  (q : Nat) (hn : t_n ≤ 48) (hq : q < 2 ^ 31) : Cd g l yX3_figure mX3_figure ({ frames := 0, cells := 0, slots := 0, locals := 0 } : Room) [.ref (t_a 0), .int (nI q)] (wT g t_a t_n t_F) (some (.int (figT t_F t_n q))) (wT g t_a t_n t_F) := by
  refine Ct.of (lv := [(0, .ref (t_a 0)), (1, .int (nI q))]) ⟨by decide +kernel, rfl, Nat.le_of_ble_eq_true rfl⟩ rfl (fun E A sz Q X hQ => ?_)
  refine V_iload_n nX3_figure_0 rfl ?_
  refine V_join (b := (decide (True) && decide (q < t_n))) (x := ((t_F q) - (nI 48))) (y := (nI 0)) (pj := 25) (st := []) (fun J1 J2 => ?_) ?_
  · skip
    refine V_if_lt_N (tgt := 24) nX3_figure_1 rfl (by omega) (fun h1 => ?_) (fun h1 => ?_)
    · skip
      exact h1.elim
    · skip
      refine V_iload_n nX3_figure_4 rfl ?_
      refine V_aload_n nX3_figure_5 rfl ?_
      refine V_get3 0 1 (by decide) f_RX3_15 nX3_figure_6 rfl rfl ?_
      refine V_icmp_ge_N (tgt := 24) nX3_figure_9 rfl (by omega) (by omega) (fun h9 => ?_) (fun h9 => ?_)
      · skip
        refine V_iconst (v := (nI 0)) nX3_figure_24 rfl ?_
        exact J2 (by simp [h1, h9])
      · skip
        refine V_aload_n nX3_figure_12 rfl ?_
        refine V_get3 0 0 (by decide) f_RX3_9 nX3_figure_13 rfl rfl ?_
        refine V_iload_n nX3_figure_16 rfl ?_
        refine V_iald 1 nX3_figure_17 rfl (by omega) (by decide) rfl ?_
        refine V_bipush (v := (nI 48)) nX3_figure_18 (by decide) ?_
        refine V_isub (v := (t_F q) - (nI 48)) nX3_figure_20 rfl ?_
        refine V_goto (tgt := 25) nX3_figure_21 rfl ?_
        exact J1 (by simp [h1, h9])
  exact R_i rfl X hQ nX3_figure_25 rfl (⟨by simp [figT], rfl⟩)

set_option maxHeartbeats 4000000 in
set_option maxRecDepth 100000 in
theorem c_X3_faultOfThing (g : Gx) (l : Launch) (t_a : Nat → Nat) (t_n : Nat) (t_F : Nat → Int32)  (s : Nat) (b : Bool) (hn : t_n ≤ 48) (hs : s ≤ 100) : Cd g l yX3_faultOfThing mX3_faultOfThing ({ frames := 0, cells := 0, slots := 0, locals := 0 } : Room) [.ref (t_a 0), .int (nI s), .int (bI b)] (wT g t_a t_n t_F) (some (.int (oI (thF t_F t_n s b 3 1)))) (wT g t_a t_n t_F) := by
  refine Ct.of (lv := [(0, .ref (t_a 0)), (1, .int (nI s)), (2, .int (bI b))]) ⟨by decide +kernel, rfl, Nat.le_of_ble_eq_true rfl⟩ rfl (fun E A sz Q X hQ => ?_)
  refine V_iconst (v := (nI 1)) nX3_faultOfThing_0 rfl ?_
  refine V_istore_n (lv' := [(0, .ref (t_a 0)), (1, .int (nI s)), (2, .int (bI b)), (3, .int (nI 1))]) nX3_faultOfThing_1 (by decide) rfl ?_
  have L2 : ∀ (n : Nat) (i : Nat), 4 - i < n → i ≤ 4 → 1 ≤ i → thF t_F t_n s b (4 - i) i = thF t_F t_n s b 3 1 → V g E mX3_faultOfThing A Q 0 0 (wT g t_a t_n t_F) 2 [(0, .ref (t_a 0)), (1, .int (nI s)), (2, .int (bI b)), (3, .int (nI i))] [] := by
    intro n
    induction n with
    | zero => intro i hm; exact absurd hm (Nat.not_lt_zero _)
    | succ n ih =>
      intro i hm hi hi1 hr
      refine V_iload_n nX3_faultOfThing_2 rfl ?_
      refine V_iconst (v := (nI 4)) nX3_faultOfThing_3 rfl ?_
      refine V_icmp_ge_N (tgt := 95) nX3_faultOfThing_4 rfl (by omega) (by omega) (fun h4 => ?_) (fun h4 => ?_)
      · skip
        have hz : i = 4 := by omega
        subst hz
        refine V_bipush (v := (-9)) nX3_faultOfThing_95 (by decide) ?_
        exact R_i rfl X hQ nX3_faultOfThing_97 rfl (⟨by rw [← hr]; rfl, rfl⟩)
      · skip
        refine V_iload_n nX3_faultOfThing_7 rfl ?_
        refine V_iload_n nX3_faultOfThing_8 rfl ?_
        refine V_iadd (v := nI (s + i)) nX3_faultOfThing_9 (nI_add s i) ?_
        refine V_istore (lv' := [(0, .ref (t_a 0)), (1, .int (nI s)), (2, .int (bI b)), (3, .int (nI i)), (4, .int (nI (s + i)))]) nX3_faultOfThing_10 (by decide) rfl ?_
        refine V_iload nX3_faultOfThing_12 rfl ?_
        refine V_aload_n nX3_faultOfThing_14 rfl ?_
        refine V_get3 0 1 (by decide) f_RX3_15 nX3_faultOfThing_15 rfl rfl ?_
        refine V_icmp_lt_N (tgt := 26) nX3_faultOfThing_18 rfl (by omega) (by omega) (fun h18 => ?_) (fun h18 => ?_)
        · skip
          refine V_iload_n nX3_faultOfThing_26 rfl ?_
          refine V_joinN (b := (b && decide (1 < i))) (x := 49) (y := 48) (pj := 42) (st := []) (fun J1 J2 => ?_) ?_
          · skip
            refine V_if_eq_b (tgt := 40) nX3_faultOfThing_27 rfl (fun h27 => ?_) (fun h27 => ?_)
            · skip
              refine V_bipush (v := (nI 48)) nX3_faultOfThing_40 (by decide) ?_
              exact J2 (by simp [h27])
            · skip
              refine V_iload_n nX3_faultOfThing_30 rfl ?_
              refine V_iconst (v := (nI 1)) nX3_faultOfThing_31 rfl ?_
              refine V_icmp_le_N (tgt := 40) nX3_faultOfThing_32 rfl (by omega) (by omega) (fun h32 => ?_) (fun h32 => ?_)
              · skip
                refine V_bipush (v := (nI 48)) nX3_faultOfThing_40 (by decide) ?_
                exact J2 (by simp [h27, h32])
              · skip
                refine V_bipush (v := (nI 49)) nX3_faultOfThing_35 (by decide) ?_
                refine V_goto (tgt := 42) nX3_faultOfThing_37 rfl ?_
                exact J1 (by simp [h27, h32])
          refine V_istore (lv' := [(0, .ref (t_a 0)), (1, .int (nI s)), (2, .int (bI b)), (3, .int (nI i)), (4, .int (nI (s + i))), (5, .int (nI (if (b && decide (1 < i)) = true then 49 else 48)))]) nX3_faultOfThing_42 (by decide) rfl ?_
          refine V_iload_n nX3_faultOfThing_44 rfl ?_
          refine V_joinN (b := (!b && decide (i = 3))) (x := 51) (y := 57) (pj := 60) (st := []) (fun J1 J2 => ?_) ?_
          · skip
            refine V_if_ne_b (tgt := 58) nX3_faultOfThing_45 rfl (fun h45 => ?_) (fun h45 => ?_)
            · skip
              refine V_bipush (v := (nI 57)) nX3_faultOfThing_58 (by decide) ?_
              exact J2 (by simp [h45])
            · skip
              refine V_iload_n nX3_faultOfThing_48 rfl ?_
              refine V_iconst (v := (nI 3)) nX3_faultOfThing_49 rfl ?_
              refine V_icmp_ne_N (tgt := 58) nX3_faultOfThing_50 rfl (by omega) (by omega) (fun h50 => ?_) (fun h50 => ?_)
              · skip
                refine V_bipush (v := (nI 57)) nX3_faultOfThing_58 (by decide) ?_
                exact J2 (by simp [h45, h50])
              · skip
                refine V_bipush (v := (nI 51)) nX3_faultOfThing_53 (by decide) ?_
                refine V_goto (tgt := 60) nX3_faultOfThing_55 rfl ?_
                exact J1 (by simp [h45, h50])
          refine V_istore (lv' := [(0, .ref (t_a 0)), (1, .int (nI s)), (2, .int (bI b)), (3, .int (nI i)), (4, .int (nI (s + i))), (5, .int (nI (if (b && decide (1 < i)) = true then 49 else 48))), (6, .int (nI (if (!b && decide (i = 3)) = true then 51 else 57)))]) nX3_faultOfThing_60 (by decide) rfl ?_
          refine V_aload_n nX3_faultOfThing_62 rfl ?_
          refine V_get3 0 0 (by decide) f_RX3_9 nX3_faultOfThing_63 rfl rfl ?_
          refine V_iload nX3_faultOfThing_66 rfl ?_
          refine V_iald 1 nX3_faultOfThing_68 rfl (by omega) (by decide) rfl ?_
          refine V_iload nX3_faultOfThing_69 rfl ?_
          refine V_icmp_lt (tgt := 86) nX3_faultOfThing_71 rfl (fun h71 => ?_) (fun h71 => ?_)
          · skip
            refine V_iload nX3_faultOfThing_86 rfl ?_
            exact R_i rfl X hQ nX3_faultOfThing_88 rfl (⟨by rw [← hr, thF_bad h4 h18 (Or.inl h71)]; rfl, rfl⟩)
          · skip
            refine V_aload_n nX3_faultOfThing_74 rfl ?_
            refine V_get3 0 0 (by decide) f_RX3_9 nX3_faultOfThing_75 rfl rfl ?_
            refine V_iload nX3_faultOfThing_78 rfl ?_
            refine V_iald 1 nX3_faultOfThing_80 rfl (by omega) (by decide) rfl ?_
            refine V_iload nX3_faultOfThing_81 rfl ?_
            refine V_icmp_le (tgt := 89) nX3_faultOfThing_83 rfl (fun h83 => ?_) (fun h83 => ?_)
            · skip
              refine V_iinc (v := nI (i + 1)) (lv' := [(0, .ref (t_a 0)), (1, .int (nI s)), (2, .int (bI b)), (3, .int (nI (i + 1))), (4, .int (nI (s + i))), (5, .int (nI (if (b && decide (1 < i)) = true then 49 else 48))), (6, .int (nI (if (!b && decide (i = 3)) = true then 51 else 57)))]) nX3_faultOfThing_89 rfl (nI_add i 1) (by decide) rfl ?_
              refine V_goto (tgt := 2) nX3_faultOfThing_92 rfl ?_
              refine V_pick (lv2 := [(0, .ref (t_a 0)), (1, .int (nI s)), (2, .int (bI b)), (3, .int (nI (i + 1)))]) [0, 1, 2, 3] rfl ?_
              exact ih (i + 1) (by omega) (by omega) (by omega) (by rw [← hr]; exact (thF_go h4 h18 (fun q => q.elim h71 (fun q => q h83))).symm)
            · skip
              refine V_iload nX3_faultOfThing_86 rfl ?_
              exact R_i rfl X hQ nX3_faultOfThing_88 rfl (⟨by rw [← hr, thF_bad h4 h18 (Or.inr h83)]; rfl, rfl⟩)
        · skip
          refine V_aload_n nX3_faultOfThing_21 rfl ?_
          refine V_get3 0 1 (by decide) f_RX3_15 nX3_faultOfThing_22 rfl rfl ?_
          exact R_i rfl X hQ nX3_faultOfThing_25 rfl (⟨by rw [← hr, thF_end h4 h18]; rfl, rfl⟩)
  exact L2 _ 1 (Nat.lt_succ_self _) (by omega) (by omega) (rfl)

set_option maxHeartbeats 4000000 in
set_option maxRecDepth 100000 in
theorem c_X3_firstFault (g : Gx) (l : Launch) (t_a : Nat → Nat) (t_n : Nat) (t_F : Nat → Int32)   (hn : t_n ≤ 48) : Cd g l yX3_firstFault mX3_firstFault ({ frames := 1, cells := 0, slots := 0, locals := 26 } : Room) [.ref (t_a 0)] (wT g t_a t_n t_F) (some (.int (oI (faultT t_F t_n)))) (wT g t_a t_n t_F) := by
  refine Ct.of (lv := [(0, .ref (t_a 0))]) ⟨by decide +kernel, rfl, Nat.le_of_ble_eq_true rfl⟩ rfl (fun E A sz Q X hQ => ?_)
  refine V_aload_n nX3_firstFault_0 rfl ?_
  refine V_get3 0 1 (by decide) f_RX3_15 nX3_firstFault_1 rfl rfl ?_
  refine V_if_eq_N (tgt := 18) nX3_firstFault_4 rfl (by omega) (fun h4 => ?_) (fun h4 => ?_)
  · skip
    refine V_iconst (v := (nI 0)) nX3_firstFault_18 rfl ?_
    exact R_i rfl X hQ nX3_firstFault_19 rfl (⟨by rw [show faultT t_F t_n = _ from if_neg (by simp_all)]; rfl, rfl⟩)
  · skip
    refine V_aload_n nX3_firstFault_7 rfl ?_
    refine V_get3 0 0 (by decide) f_RX3_9 nX3_firstFault_8 rfl rfl ?_
    refine V_iconst (v := (nI 0)) nX3_firstFault_11 rfl ?_
    refine V_iald 1 nX3_firstFault_12 rfl (by omega) (by decide) rfl ?_
    refine V_bipush (v := (nI 70)) nX3_firstFault_13 (by decide) ?_
    refine V_icmp_eq (tgt := 20) nX3_firstFault_15 rfl (fun h15 => ?_) (fun h15 => ?_)
    · skip
      refine V_iconst (v := (nI 0)) nX3_firstFault_20 rfl ?_
      refine V_istore_n (lv' := [(0, .ref (t_a 0)), (1, .int (nI 0))]) nX3_firstFault_21 (by decide) rfl ?_
      refine V_iconst (v := (nI 0)) nX3_firstFault_22 rfl ?_
      refine V_istore_n (lv' := [(0, .ref (t_a 0)), (1, .int (nI 0)), (2, .int (nI 0))]) nX3_firstFault_23 (by decide) rfl ?_
      refine V_iconst (v := (nI 1)) nX3_firstFault_24 rfl ?_
      refine V_istore_n (lv' := [(0, .ref (t_a 0)), (1, .int (nI 0)), (2, .int (nI 0)), (3, .int (nI 1))]) nX3_firstFault_25 (by decide) rfl ?_
      have L26 : ∀ (n : Nat) (i : Nat) (a : Nat) (b : Nat) (k : Nat), 60 - i < n → i ≤ 60 → a ≤ 4 → b ≤ 5 → t_n ≤ i + 4 * k → ffC t_F t_n k i a b = ffC t_F t_n 12 1 0 0 → V g E mX3_firstFault A Q 0 0 (wT g t_a t_n t_F) 26 [(0, .ref (t_a 0)), (1, .int (nI a)), (2, .int (nI b)), (3, .int (nI i))] [] := by
        intro n
        induction n with
        | zero => intro i a b k hm; exact absurd hm (Nat.not_lt_zero _)
        | succ n ih =>
          intro i a b k hm hi ha hb hk hr
          have hG := ite1 (decide (t_F i = nI 71))
          have hE := ite1 (decide (t_F i = nI 69))
          refine V_iload_n nX3_firstFault_26 rfl ?_
          refine V_aload_n nX3_firstFault_27 rfl ?_
          refine V_get3 0 1 (by decide) f_RX3_15 nX3_firstFault_28 rfl rfl ?_
          refine V_icmp_ge_N (tgt := 137) nX3_firstFault_31 rfl (by omega) (by omega) (fun h31 => ?_) (fun h31 => ?_)
          · skip
            refine V_bipush (v := (-9)) nX3_firstFault_137 (by decide) ?_
            exact R_i rfl X hQ nX3_firstFault_139 rfl (⟨by rw [ffault_t h4 h15, ← hr, ffC_end h31]; rfl, rfl⟩)
          · skip
            refine V_aload_n nX3_firstFault_34 rfl ?_
            refine V_get3 0 0 (by decide) f_RX3_9 nX3_firstFault_35 rfl rfl ?_
            refine V_iload_n nX3_firstFault_38 rfl ?_
            refine V_iald 1 nX3_firstFault_39 rfl (by omega) (by decide) rfl ?_
            refine V_bipush (v := (nI 71)) nX3_firstFault_40 (by decide) ?_
            refine V_joinb (b := decide ((t_F i) = (nI 71))) (pj := 50) (st := []) (fun J1 J2 => ?_) ?_
            · skip
              refine V_icmp_ne (tgt := 49) nX3_firstFault_42 rfl (fun h42 => ?_) (fun h42 => ?_)
              · skip
                refine V_iconst (v := (nI 0)) nX3_firstFault_49 rfl ?_
                exact J2 (by simp [h42])
              · skip
                refine V_iconst (v := (nI 1)) nX3_firstFault_45 rfl ?_
                refine V_goto (tgt := 50) nX3_firstFault_46 rfl ?_
                exact J1 (by simp [h42])
            refine V_istore (lv' := [(0, .ref (t_a 0)), (1, .int (nI a)), (2, .int (nI b)), (3, .int (nI i)), (4, .int (bI (decide ((t_F i) = (nI 71)))))]) nX3_firstFault_50 (by decide) rfl ?_
            refine V_iload_n nX3_firstFault_52 rfl ?_
            refine V_iload nX3_firstFault_53 rfl ?_
            refine V_joinb (b := (decide ((t_F i) = (nI 71)))) (pj := 63) (st := [.int (nI a)]) (fun J1 J2 => ?_) ?_
            · skip
              refine V_if_eq_b (tgt := 62) nX3_firstFault_55 rfl (fun h55 => ?_) (fun h55 => ?_)
              · skip
                refine V_iconst (v := (nI 0)) nX3_firstFault_62 rfl ?_
                exact J2 (by simp [h55])
              · skip
                refine V_iconst (v := (nI 1)) nX3_firstFault_58 rfl ?_
                refine V_goto (tgt := 63) nX3_firstFault_59 rfl ?_
                exact J1 (by simp [h55])
            refine V_iadd (v := nI (a + (if (decide ((t_F i) = (nI 71))) = true then 1 else 0))) nX3_firstFault_63 (nI_addb a (decide ((t_F i) = (nI 71)))) ?_
            refine V_istore_n (lv' := [(0, .ref (t_a 0)), (1, .int (nI (a + (if (decide ((t_F i) = (nI 71))) = true then 1 else 0)))), (2, .int (nI b)), (3, .int (nI i)), (4, .int (bI (decide ((t_F i) = (nI 71)))))]) nX3_firstFault_64 (by decide) rfl ?_
            refine V_iload_n nX3_firstFault_65 rfl ?_
            refine V_aload_n nX3_firstFault_66 rfl ?_
            refine V_get3 0 0 (by decide) f_RX3_9 nX3_firstFault_67 rfl rfl ?_
            refine V_iload_n nX3_firstFault_70 rfl ?_
            refine V_iald 1 nX3_firstFault_71 rfl (by omega) (by decide) rfl ?_
            refine V_bipush (v := (nI 69)) nX3_firstFault_72 (by decide) ?_
            refine V_joinb (b := decide ((t_F i) = (nI 69))) (pj := 82) (st := [.int (nI b)]) (fun J1 J2 => ?_) ?_
            · skip
              refine V_icmp_ne (tgt := 81) nX3_firstFault_74 rfl (fun h74 => ?_) (fun h74 => ?_)
              · skip
                refine V_iconst (v := (nI 0)) nX3_firstFault_81 rfl ?_
                exact J2 (by simp [h74])
              · skip
                refine V_iconst (v := (nI 1)) nX3_firstFault_77 rfl ?_
                refine V_goto (tgt := 82) nX3_firstFault_78 rfl ?_
                exact J1 (by simp [h74])
            refine V_iadd (v := nI (b + (if (decide ((t_F i) = (nI 69))) = true then 1 else 0))) nX3_firstFault_82 (nI_addb b (decide ((t_F i) = (nI 69)))) ?_
            refine V_istore_n (lv' := [(0, .ref (t_a 0)), (1, .int (nI (a + (if (decide ((t_F i) = (nI 71))) = true then 1 else 0)))), (2, .int (nI (b + (if (decide ((t_F i) = (nI 69))) = true then 1 else 0)))), (3, .int (nI i)), (4, .int (bI (decide ((t_F i) = (nI 71)))))]) nX3_firstFault_83 (by decide) rfl ?_
            refine V_iload nX3_firstFault_84 rfl ?_
            refine V_if_ne_b (tgt := 100) nX3_firstFault_86 rfl (fun h86 => ?_) (fun h86 => ?_)
            · skip
              refine V_iload_n nX3_firstFault_100 rfl ?_
              refine V_iconst (v := (nI 4)) nX3_firstFault_101 rfl ?_
              refine V_icmp_gt_N (tgt := 110) nX3_firstFault_102 rfl (by omega) (by omega) (fun h102 => ?_) (fun h102 => ?_)
              · skip
                refine V_iload_n nX3_firstFault_110 rfl ?_
                exact R_i rfl X hQ nX3_firstFault_111 rfl (⟨by rw [ffault_t h4 h15, ← hr, ffC_bad hk h31 (by intro q; first | (have := q.2; omega) | exact q.1.elim (of_decide_eq_false h86) h97)]; rfl, rfl⟩)
              · skip
                refine V_iload_n nX3_firstFault_105 rfl ?_
                refine V_iconst (v := (nI 5)) nX3_firstFault_106 rfl ?_
                refine V_icmp_le_N (tgt := 112) nX3_firstFault_107 rfl (by omega) (by omega) (fun h107 => ?_) (fun h107 => ?_)
                · skip
                  refine V_aload_n nX3_firstFault_112 rfl ?_
                  refine V_iload_n nX3_firstFault_113 rfl ?_
                  refine V_iload nX3_firstFault_114 rfl ?_
                  refine V_cVi (C := (RX3, TX3, 2)) (ci := 3) (ws' := wT g t_a t_n t_F) [0, 1] 2 X (c_X3_faultOfThing g l t_a t_n t_F  i (decide ((t_F i) = (nI 71))) (by omega) (by omega)) k_RX3_19 hy_X3_faultOfThing (by decide) rfl (by decide) 0 rfl rfl nX3_firstFault_116 rfl rfl (Nat.le_of_ble_eq_true rfl) rfl ?_
                  refine V_istore (lv' := [(0, .ref (t_a 0)), (1, .int (nI (a + (if (decide ((t_F i) = (nI 71))) = true then 1 else 0)))), (2, .int (nI (b + (if (decide ((t_F i) = (nI 69))) = true then 1 else 0)))), (3, .int (nI i)), (4, .int (bI (decide ((t_F i) = (nI 71))))), (5, .int (oI (thF t_F t_n i (decide ((t_F i) = (nI 71))) 3 1)))]) nX3_firstFault_119 (by decide) rfl ?_
                  refine V_iload nX3_firstFault_121 rfl ?_
                  refine V_bipush (v := (-9)) nX3_firstFault_123 (by decide) ?_
                  refine V_icmp_eq (tgt := 131) nX3_firstFault_125 rfl (fun h125 => ?_) (fun h125 => ?_)
                  · skip
                    have ht : thF t_F t_n i (decide (t_F i = nI 71)) 3 1 = none := (oI_none (fun q hq => thF_lt t_F (by omega) hn _ 3 1 q (by omega) hq)).mp h125
                    refine V_iinc (v := nI (i + 4)) (lv' := [(0, .ref (t_a 0)), (1, .int (nI (a + (if (decide ((t_F i) = (nI 71))) = true then 1 else 0)))), (2, .int (nI (b + (if (decide ((t_F i) = (nI 69))) = true then 1 else 0)))), (3, .int (nI (i + 4))), (4, .int (bI (decide ((t_F i) = (nI 71))))), (5, .int (oI (thF t_F t_n i (decide ((t_F i) = (nI 71))) 3 1)))]) nX3_firstFault_131 rfl (nI_add i 4) (by decide) rfl ?_
                    refine V_goto (tgt := 26) nX3_firstFault_134 rfl ?_
                    refine V_pick (lv2 := [(0, .ref (t_a 0)), (1, .int (nI (a + (if (decide ((t_F i) = (nI 71))) = true then 1 else 0)))), (2, .int (nI (b + (if (decide ((t_F i) = (nI 69))) = true then 1 else 0)))), (3, .int (nI (i + 4)))]) [0, 1, 2, 3] rfl ?_
                    exact ih (i + 4) (a + (if decide (t_F i = nI 71) = true then 1 else 0)) (b + (if decide (t_F i = nI 69) = true then 1 else 0)) (k - 1) (by omega) (by omega) (by omega) (by omega) (by omega) (by rw [← hr]; exact (ffC_go hk h31 (by refine ⟨?_, h102, h107⟩; first | exact Or.inr h97 | exact Or.inl (of_decide_eq_true h86)) ht).symm)
                  · skip
                    obtain ⟨q, ht⟩ : ∃ q, thF t_F t_n i (decide (t_F i = nI 71)) 3 1 = some q := by
                      cases hq : thF t_F t_n i (decide (t_F i = nI 71)) 3 1 with
                      | none => rw [hq] at h125; exact absurd rfl h125
                      | some q => exact ⟨q, rfl⟩
                    refine V_iload nX3_firstFault_128 rfl ?_
                    exact R_i rfl X hQ nX3_firstFault_130 rfl (⟨by rw [ffault_t h4 h15, ← hr, ffC_th hk h31 (by refine ⟨?_, h102, h107⟩; first | exact Or.inr h97 | exact Or.inl (of_decide_eq_true h86)) ht, ht], rfl⟩)
                · skip
                  refine V_iload_n nX3_firstFault_110 rfl ?_
                  exact R_i rfl X hQ nX3_firstFault_111 rfl (⟨by rw [ffault_t h4 h15, ← hr, ffC_bad hk h31 (by intro q; first | (have := q.2; omega) | exact q.1.elim (of_decide_eq_false h86) h97)]; rfl, rfl⟩)
            · skip
              refine V_aload_n nX3_firstFault_89 rfl ?_
              refine V_get3 0 0 (by decide) f_RX3_9 nX3_firstFault_90 rfl rfl ?_
              refine V_iload_n nX3_firstFault_93 rfl ?_
              refine V_iald 1 nX3_firstFault_94 rfl (by omega) (by decide) rfl ?_
              refine V_bipush (v := (nI 69)) nX3_firstFault_95 (by decide) ?_
              refine V_icmp_ne (tgt := 110) nX3_firstFault_97 rfl (fun h97 => ?_) (fun h97 => ?_)
              · skip
                refine V_iload_n nX3_firstFault_110 rfl ?_
                exact R_i rfl X hQ nX3_firstFault_111 rfl (⟨by rw [ffault_t h4 h15, ← hr, ffC_bad hk h31 (by intro q; first | (have := q.2; omega) | exact q.1.elim (of_decide_eq_false h86) h97)]; rfl, rfl⟩)
              · skip
                refine V_iload_n nX3_firstFault_100 rfl ?_
                refine V_iconst (v := (nI 4)) nX3_firstFault_101 rfl ?_
                refine V_icmp_gt_N (tgt := 110) nX3_firstFault_102 rfl (by omega) (by omega) (fun h102 => ?_) (fun h102 => ?_)
                · skip
                  refine V_iload_n nX3_firstFault_110 rfl ?_
                  exact R_i rfl X hQ nX3_firstFault_111 rfl (⟨by rw [ffault_t h4 h15, ← hr, ffC_bad hk h31 (by intro q; first | (have := q.2; omega) | exact q.1.elim (of_decide_eq_false h86) h97)]; rfl, rfl⟩)
                · skip
                  refine V_iload_n nX3_firstFault_105 rfl ?_
                  refine V_iconst (v := (nI 5)) nX3_firstFault_106 rfl ?_
                  refine V_icmp_le_N (tgt := 112) nX3_firstFault_107 rfl (by omega) (by omega) (fun h107 => ?_) (fun h107 => ?_)
                  · skip
                    refine V_aload_n nX3_firstFault_112 rfl ?_
                    refine V_iload_n nX3_firstFault_113 rfl ?_
                    refine V_iload nX3_firstFault_114 rfl ?_
                    refine V_cVi (C := (RX3, TX3, 2)) (ci := 3) (ws' := wT g t_a t_n t_F) [0, 1] 2 X (c_X3_faultOfThing g l t_a t_n t_F  i (decide ((t_F i) = (nI 71))) (by omega) (by omega)) k_RX3_19 hy_X3_faultOfThing (by decide) rfl (by decide) 0 rfl rfl nX3_firstFault_116 rfl rfl (Nat.le_of_ble_eq_true rfl) rfl ?_
                    refine V_istore (lv' := [(0, .ref (t_a 0)), (1, .int (nI (a + (if (decide ((t_F i) = (nI 71))) = true then 1 else 0)))), (2, .int (nI (b + (if (decide ((t_F i) = (nI 69))) = true then 1 else 0)))), (3, .int (nI i)), (4, .int (bI (decide ((t_F i) = (nI 71))))), (5, .int (oI (thF t_F t_n i (decide ((t_F i) = (nI 71))) 3 1)))]) nX3_firstFault_119 (by decide) rfl ?_
                    refine V_iload nX3_firstFault_121 rfl ?_
                    refine V_bipush (v := (-9)) nX3_firstFault_123 (by decide) ?_
                    refine V_icmp_eq (tgt := 131) nX3_firstFault_125 rfl (fun h125 => ?_) (fun h125 => ?_)
                    · skip
                      have ht : thF t_F t_n i (decide (t_F i = nI 71)) 3 1 = none := (oI_none (fun q hq => thF_lt t_F (by omega) hn _ 3 1 q (by omega) hq)).mp h125
                      refine V_iinc (v := nI (i + 4)) (lv' := [(0, .ref (t_a 0)), (1, .int (nI (a + (if (decide ((t_F i) = (nI 71))) = true then 1 else 0)))), (2, .int (nI (b + (if (decide ((t_F i) = (nI 69))) = true then 1 else 0)))), (3, .int (nI (i + 4))), (4, .int (bI (decide ((t_F i) = (nI 71))))), (5, .int (oI (thF t_F t_n i (decide ((t_F i) = (nI 71))) 3 1)))]) nX3_firstFault_131 rfl (nI_add i 4) (by decide) rfl ?_
                      refine V_goto (tgt := 26) nX3_firstFault_134 rfl ?_
                      refine V_pick (lv2 := [(0, .ref (t_a 0)), (1, .int (nI (a + (if (decide ((t_F i) = (nI 71))) = true then 1 else 0)))), (2, .int (nI (b + (if (decide ((t_F i) = (nI 69))) = true then 1 else 0)))), (3, .int (nI (i + 4)))]) [0, 1, 2, 3] rfl ?_
                      exact ih (i + 4) (a + (if decide (t_F i = nI 71) = true then 1 else 0)) (b + (if decide (t_F i = nI 69) = true then 1 else 0)) (k - 1) (by omega) (by omega) (by omega) (by omega) (by omega) (by rw [← hr]; exact (ffC_go hk h31 (by refine ⟨?_, h102, h107⟩; first | exact Or.inr h97 | exact Or.inl (of_decide_eq_true h86)) ht).symm)
                    · skip
                      obtain ⟨q, ht⟩ : ∃ q, thF t_F t_n i (decide (t_F i = nI 71)) 3 1 = some q := by
                        cases hq : thF t_F t_n i (decide (t_F i = nI 71)) 3 1 with
                        | none => rw [hq] at h125; exact absurd rfl h125
                        | some q => exact ⟨q, rfl⟩
                      refine V_iload nX3_firstFault_128 rfl ?_
                      exact R_i rfl X hQ nX3_firstFault_130 rfl (⟨by rw [ffault_t h4 h15, ← hr, ffC_th hk h31 (by refine ⟨?_, h102, h107⟩; first | exact Or.inr h97 | exact Or.inl (of_decide_eq_true h86)) ht, ht], rfl⟩)
                  · skip
                    refine V_iload_n nX3_firstFault_110 rfl ?_
                    exact R_i rfl X hQ nX3_firstFault_111 rfl (⟨by rw [ffault_t h4 h15, ← hr, ffC_bad hk h31 (by intro q; first | (have := q.2; omega) | exact q.1.elim (of_decide_eq_false h86) h97)]; rfl, rfl⟩)
      exact L26 _ 1 0 0 12 (Nat.lt_succ_self _) (by omega) (by omega) (by omega) (by omega) (rfl)
    · skip
      refine V_iconst (v := (nI 0)) nX3_firstFault_18 rfl ?_
      exact R_i rfl X hQ nX3_firstFault_19 rfl (⟨by rw [show faultT t_F t_n = _ from if_neg (by simp_all)]; rfl, rfl⟩)

set_option maxHeartbeats 4000000 in
set_option maxRecDepth 100000 in
theorem c_X2_addField (g : Gx) (l : Launch) (l_a : Nat → Nat) (l_nf : Nat) (l_ne : Nat) (l_pl : Nat → Int32) (l_yl : Nat → Int32) (l_nd : Nat → Int32) (l_hm : Nat → Int32) (l_wk : Nat → Int32) (l_kd : Nat → Int32) (t_a : Nat → Nat) (t_n : Nat) (t_F : Nat → Int32)  (i : Nat) (hnf : l_nf ≤ 4) (hne : l_ne ≤ 5) (hn : t_n ≤ 48) (hi : i ≤ 100) : Cd g l yX2_addField mX2_addField ({ frames := 1, cells := 0, slots := 0, locals := 21 } : Room) [.ref (l_a 0), .ref (t_a 0), .int (nI i)] ((wL g l_a l_nf l_ne l_pl l_yl l_nd l_hm l_wk l_kd) ++ (wT g t_a t_n t_F)) none ((wL g l_a ((addF t_F t_n i (l_nf, l_ne, l_pl, l_yl, l_nd, l_hm, l_wk, l_kd)).1) ((addF t_F t_n i (l_nf, l_ne, l_pl, l_yl, l_nd, l_hm, l_wk, l_kd)).2.1) ((addF t_F t_n i (l_nf, l_ne, l_pl, l_yl, l_nd, l_hm, l_wk, l_kd)).2.2.1) ((addF t_F t_n i (l_nf, l_ne, l_pl, l_yl, l_nd, l_hm, l_wk, l_kd)).2.2.2.1) ((addF t_F t_n i (l_nf, l_ne, l_pl, l_yl, l_nd, l_hm, l_wk, l_kd)).2.2.2.2.1) ((addF t_F t_n i (l_nf, l_ne, l_pl, l_yl, l_nd, l_hm, l_wk, l_kd)).2.2.2.2.2.1) ((addF t_F t_n i (l_nf, l_ne, l_pl, l_yl, l_nd, l_hm, l_wk, l_kd)).2.2.2.2.2.2.1) ((addF t_F t_n i (l_nf, l_ne, l_pl, l_yl, l_nd, l_hm, l_wk, l_kd)).2.2.2.2.2.2.2)) ++ (wT g t_a t_n t_F)) := by
  refine Ct.of (lv := [(0, .ref (l_a 0)), (1, .ref (t_a 0)), (2, .int (nI i))]) ⟨by decide +kernel, rfl, Nat.le_of_ble_eq_true rfl⟩ rfl (fun E A sz Q X hQ => ?_)
  refine V_aload_n nX2_addField_0 rfl ?_
  refine V_get2 0 6 (by decide) f_RX2_30 nX2_addField_1 rfl rfl ?_
  refine V_iconst (v := (nI 4)) nX2_addField_4 rfl ?_
  refine V_icmp_ge_N (tgt := 66) nX2_addField_5 rfl (by omega) (by omega) (fun h5 => ?_) (fun h5 => ?_)
  · skip
    exact R_v rfl X hQ nX2_addField_66 rfl (⟨rfl, by rw [show addF t_F t_n i (l_nf, l_ne, l_pl, l_yl, l_nd, l_hm, l_wk, l_kd) = _ from if_neg (Nat.not_lt.mpr h5)]⟩)
  · skip
    refine V_aload_n nX2_addField_8 rfl ?_
    refine V_get2 0 0 (by decide) f_RX2_9 nX2_addField_9 rfl rfl ?_
    refine V_aload_n nX2_addField_12 rfl ?_
    refine V_get2 0 6 (by decide) f_RX2_30 nX2_addField_13 rfl rfl ?_
    refine V_aload_n nX2_addField_16 rfl ?_
    refine V_iload_n nX2_addField_17 rfl ?_
    refine V_iconst (v := (nI 1)) nX2_addField_18 rfl ?_
    refine V_iadd (v := nI (i + 1)) nX2_addField_19 (nI_add i 1) ?_
    refine V_cVi (C := (RX3, TX3, 2)) (ci := 3) (ws' := (wL g l_a l_nf l_ne l_pl l_yl l_nd l_hm l_wk l_kd) ++ (wT g t_a t_n t_F)) [7, 8] 1 X (c_X3_figure g l t_a t_n t_F  (i + 1) (by omega) (by omega)) k_RX2_52 hy_X3_figure (by decide) rfl (by decide) 0 rfl rfl nX2_addField_20 rfl rfl (Nat.le_of_ble_eq_true rfl) rfl ?_
    refine V_iast (ws' := (wL g l_a l_nf l_ne (upd l_pl l_nf (figT t_F t_n (i + 1))) l_yl l_nd l_hm l_wk l_kd) ++ (wT g t_a t_n t_F)) 1 nX2_addField_23 rfl (by omega) (by decide) rfl ?_
    refine V_aload_n nX2_addField_24 rfl ?_
    refine V_get2 0 1 (by decide) f_RX2_15 nX2_addField_25 rfl rfl ?_
    refine V_aload_n nX2_addField_28 rfl ?_
    refine V_get2 0 6 (by decide) f_RX2_30 nX2_addField_29 rfl rfl ?_
    refine V_aload_n nX2_addField_32 rfl ?_
    refine V_iload_n nX2_addField_33 rfl ?_
    refine V_iconst (v := (nI 2)) nX2_addField_34 rfl ?_
    refine V_iadd (v := nI (i + 2)) nX2_addField_35 (nI_add i 2) ?_
    refine V_cVi (C := (RX3, TX3, 2)) (ci := 3) (ws' := (wL g l_a l_nf l_ne (upd l_pl l_nf (figT t_F t_n (i + 1))) l_yl l_nd l_hm l_wk l_kd) ++ (wT g t_a t_n t_F)) [7, 8] 1 X (c_X3_figure g l t_a t_n t_F  (i + 2) (by omega) (by omega)) k_RX2_52 hy_X3_figure (by decide) rfl (by decide) 0 rfl rfl nX2_addField_36 rfl rfl (Nat.le_of_ble_eq_true rfl) rfl ?_
    refine V_iast (ws' := (wL g l_a l_nf l_ne (upd l_pl l_nf (figT t_F t_n (i + 1))) (upd l_yl l_nf (figT t_F t_n (i + 2))) l_nd l_hm l_wk l_kd) ++ (wT g t_a t_n t_F)) 2 nX2_addField_39 rfl (by omega) (by decide) rfl ?_
    refine V_aload_n nX2_addField_40 rfl ?_
    refine V_get2 0 2 (by decide) f_RX2_18 nX2_addField_41 rfl rfl ?_
    refine V_aload_n nX2_addField_44 rfl ?_
    refine V_get2 0 6 (by decide) f_RX2_30 nX2_addField_45 rfl rfl ?_
    refine V_aload_n nX2_addField_48 rfl ?_
    refine V_iload_n nX2_addField_49 rfl ?_
    refine V_iconst (v := (nI 3)) nX2_addField_50 rfl ?_
    refine V_iadd (v := nI (i + 3)) nX2_addField_51 (nI_add i 3) ?_
    refine V_cVi (C := (RX3, TX3, 2)) (ci := 3) (ws' := (wL g l_a l_nf l_ne (upd l_pl l_nf (figT t_F t_n (i + 1))) (upd l_yl l_nf (figT t_F t_n (i + 2))) l_nd l_hm l_wk l_kd) ++ (wT g t_a t_n t_F)) [7, 8] 1 X (c_X3_figure g l t_a t_n t_F  (i + 3) (by omega) (by omega)) k_RX2_52 hy_X3_figure (by decide) rfl (by decide) 0 rfl rfl nX2_addField_52 rfl rfl (Nat.le_of_ble_eq_true rfl) rfl ?_
    refine V_iast (ws' := (wL g l_a l_nf l_ne (upd l_pl l_nf (figT t_F t_n (i + 1))) (upd l_yl l_nf (figT t_F t_n (i + 2))) (upd l_nd l_nf (figT t_F t_n (i + 3))) l_hm l_wk l_kd) ++ (wT g t_a t_n t_F)) 3 nX2_addField_55 rfl (by omega) (by decide) rfl ?_
    refine V_aload_n nX2_addField_56 rfl ?_
    refine V_dup nX2_addField_57 rfl ?_
    refine V_get2 0 6 (by decide) f_RX2_30 nX2_addField_58 rfl rfl ?_
    refine V_iconst (v := (nI 1)) nX2_addField_61 rfl ?_
    refine V_iadd (v := nI (l_nf + 1)) nX2_addField_62 (nI_add l_nf 1) ?_
    refine V_put2 (ws' := (wL g l_a (l_nf + 1) l_ne (upd l_pl l_nf (figT t_F t_n (i + 1))) (upd l_yl l_nf (figT t_F t_n (i + 2))) (upd l_nd l_nf (figT t_F t_n (i + 3))) l_hm l_wk l_kd) ++ (wT g t_a t_n t_F)) 0 6 (by decide) f_RX2_30 rfl rfl rfl rfl nX2_addField_63 rfl (Nat.le_of_ble_eq_true rfl) rfl ?_
    exact R_v rfl X hQ nX2_addField_66 rfl (⟨rfl, by rw [show addF t_F t_n i (l_nf, l_ne, l_pl, l_yl, l_nd, l_hm, l_wk, l_kd) = _ from if_pos h5]⟩)

set_option maxHeartbeats 4000000 in
set_option maxRecDepth 100000 in
theorem c_X2_addEater (g : Gx) (l : Launch) (l_a : Nat → Nat) (l_nf : Nat) (l_ne : Nat) (l_pl : Nat → Int32) (l_yl : Nat → Int32) (l_nd : Nat → Int32) (l_hm : Nat → Int32) (l_wk : Nat → Int32) (l_kd : Nat → Int32) (t_a : Nat → Nat) (t_n : Nat) (t_F : Nat → Int32)  (i : Nat) (hnf : l_nf ≤ 4) (hne : l_ne ≤ 5) (hn : t_n ≤ 48) (hi : i ≤ 100) : Cd g l yX2_addEater mX2_addEater ({ frames := 1, cells := 0, slots := 0, locals := 21 } : Room) [.ref (l_a 0), .ref (t_a 0), .int (nI i)] ((wL g l_a l_nf l_ne l_pl l_yl l_nd l_hm l_wk l_kd) ++ (wT g t_a t_n t_F)) none ((wL g l_a ((addE t_F t_n i (l_nf, l_ne, l_pl, l_yl, l_nd, l_hm, l_wk, l_kd)).1) ((addE t_F t_n i (l_nf, l_ne, l_pl, l_yl, l_nd, l_hm, l_wk, l_kd)).2.1) ((addE t_F t_n i (l_nf, l_ne, l_pl, l_yl, l_nd, l_hm, l_wk, l_kd)).2.2.1) ((addE t_F t_n i (l_nf, l_ne, l_pl, l_yl, l_nd, l_hm, l_wk, l_kd)).2.2.2.1) ((addE t_F t_n i (l_nf, l_ne, l_pl, l_yl, l_nd, l_hm, l_wk, l_kd)).2.2.2.2.1) ((addE t_F t_n i (l_nf, l_ne, l_pl, l_yl, l_nd, l_hm, l_wk, l_kd)).2.2.2.2.2.1) ((addE t_F t_n i (l_nf, l_ne, l_pl, l_yl, l_nd, l_hm, l_wk, l_kd)).2.2.2.2.2.2.1) ((addE t_F t_n i (l_nf, l_ne, l_pl, l_yl, l_nd, l_hm, l_wk, l_kd)).2.2.2.2.2.2.2)) ++ (wT g t_a t_n t_F)) := by
  refine Ct.of (lv := [(0, .ref (l_a 0)), (1, .ref (t_a 0)), (2, .int (nI i))]) ⟨by decide +kernel, rfl, Nat.le_of_ble_eq_true rfl⟩ rfl (fun E A sz Q X hQ => ?_)
  refine V_aload_n nX2_addEater_0 rfl ?_
  refine V_get2 0 7 (by decide) f_RX2_34 nX2_addEater_1 rfl rfl ?_
  refine V_iconst (v := (nI 5)) nX2_addEater_4 rfl ?_
  refine V_icmp_ge_N (tgt := 66) nX2_addEater_5 rfl (by omega) (by omega) (fun h5 => ?_) (fun h5 => ?_)
  · skip
    exact R_v rfl X hQ nX2_addEater_66 rfl (⟨rfl, by rw [show addE t_F t_n i (l_nf, l_ne, l_pl, l_yl, l_nd, l_hm, l_wk, l_kd) = _ from if_neg (Nat.not_lt.mpr h5)]⟩)
  · skip
    refine V_aload_n nX2_addEater_8 rfl ?_
    refine V_get2 0 3 (by decide) f_RX2_21 nX2_addEater_9 rfl rfl ?_
    refine V_aload_n nX2_addEater_12 rfl ?_
    refine V_get2 0 7 (by decide) f_RX2_34 nX2_addEater_13 rfl rfl ?_
    refine V_aload_n nX2_addEater_16 rfl ?_
    refine V_iload_n nX2_addEater_17 rfl ?_
    refine V_iconst (v := (nI 1)) nX2_addEater_18 rfl ?_
    refine V_iadd (v := nI (i + 1)) nX2_addEater_19 (nI_add i 1) ?_
    refine V_cVi (C := (RX3, TX3, 2)) (ci := 3) (ws' := (wL g l_a l_nf l_ne l_pl l_yl l_nd l_hm l_wk l_kd) ++ (wT g t_a t_n t_F)) [7, 8] 1 X (c_X3_figure g l t_a t_n t_F  (i + 1) (by omega) (by omega)) k_RX2_52 hy_X3_figure (by decide) rfl (by decide) 0 rfl rfl nX2_addEater_20 rfl rfl (Nat.le_of_ble_eq_true rfl) rfl ?_
    refine V_iast (ws' := (wL g l_a l_nf l_ne l_pl l_yl l_nd (upd l_hm l_ne (figT t_F t_n (i + 1))) l_wk l_kd) ++ (wT g t_a t_n t_F)) 4 nX2_addEater_23 rfl (by omega) (by decide) rfl ?_
    refine V_aload_n nX2_addEater_24 rfl ?_
    refine V_get2 0 4 (by decide) f_RX2_24 nX2_addEater_25 rfl rfl ?_
    refine V_aload_n nX2_addEater_28 rfl ?_
    refine V_get2 0 7 (by decide) f_RX2_34 nX2_addEater_29 rfl rfl ?_
    refine V_aload_n nX2_addEater_32 rfl ?_
    refine V_iload_n nX2_addEater_33 rfl ?_
    refine V_iconst (v := (nI 2)) nX2_addEater_34 rfl ?_
    refine V_iadd (v := nI (i + 2)) nX2_addEater_35 (nI_add i 2) ?_
    refine V_cVi (C := (RX3, TX3, 2)) (ci := 3) (ws' := (wL g l_a l_nf l_ne l_pl l_yl l_nd (upd l_hm l_ne (figT t_F t_n (i + 1))) l_wk l_kd) ++ (wT g t_a t_n t_F)) [7, 8] 1 X (c_X3_figure g l t_a t_n t_F  (i + 2) (by omega) (by omega)) k_RX2_52 hy_X3_figure (by decide) rfl (by decide) 0 rfl rfl nX2_addEater_36 rfl rfl (Nat.le_of_ble_eq_true rfl) rfl ?_
    refine V_iast (ws' := (wL g l_a l_nf l_ne l_pl l_yl l_nd (upd l_hm l_ne (figT t_F t_n (i + 1))) (upd l_wk l_ne (figT t_F t_n (i + 2))) l_kd) ++ (wT g t_a t_n t_F)) 5 nX2_addEater_39 rfl (by omega) (by decide) rfl ?_
    refine V_aload_n nX2_addEater_40 rfl ?_
    refine V_get2 0 5 (by decide) f_RX2_27 nX2_addEater_41 rfl rfl ?_
    refine V_aload_n nX2_addEater_44 rfl ?_
    refine V_get2 0 7 (by decide) f_RX2_34 nX2_addEater_45 rfl rfl ?_
    refine V_aload_n nX2_addEater_48 rfl ?_
    refine V_iload_n nX2_addEater_49 rfl ?_
    refine V_iconst (v := (nI 3)) nX2_addEater_50 rfl ?_
    refine V_iadd (v := nI (i + 3)) nX2_addEater_51 (nI_add i 3) ?_
    refine V_cVi (C := (RX3, TX3, 2)) (ci := 3) (ws' := (wL g l_a l_nf l_ne l_pl l_yl l_nd (upd l_hm l_ne (figT t_F t_n (i + 1))) (upd l_wk l_ne (figT t_F t_n (i + 2))) l_kd) ++ (wT g t_a t_n t_F)) [7, 8] 1 X (c_X3_figure g l t_a t_n t_F  (i + 3) (by omega) (by omega)) k_RX2_52 hy_X3_figure (by decide) rfl (by decide) 0 rfl rfl nX2_addEater_52 rfl rfl (Nat.le_of_ble_eq_true rfl) rfl ?_
    refine V_iast (ws' := (wL g l_a l_nf l_ne l_pl l_yl l_nd (upd l_hm l_ne (figT t_F t_n (i + 1))) (upd l_wk l_ne (figT t_F t_n (i + 2))) (upd l_kd l_ne (figT t_F t_n (i + 3)))) ++ (wT g t_a t_n t_F)) 6 nX2_addEater_55 rfl (by omega) (by decide) rfl ?_
    refine V_aload_n nX2_addEater_56 rfl ?_
    refine V_dup nX2_addEater_57 rfl ?_
    refine V_get2 0 7 (by decide) f_RX2_34 nX2_addEater_58 rfl rfl ?_
    refine V_iconst (v := (nI 1)) nX2_addEater_61 rfl ?_
    refine V_iadd (v := nI (l_ne + 1)) nX2_addEater_62 (nI_add l_ne 1) ?_
    refine V_put2 (ws' := (wL g l_a l_nf (l_ne + 1) l_pl l_yl l_nd (upd l_hm l_ne (figT t_F t_n (i + 1))) (upd l_wk l_ne (figT t_F t_n (i + 2))) (upd l_kd l_ne (figT t_F t_n (i + 3)))) ++ (wT g t_a t_n t_F)) 0 7 (by decide) f_RX2_34 rfl rfl rfl rfl nX2_addEater_63 rfl (Nat.le_of_ble_eq_true rfl) rfl ?_
    exact R_v rfl X hQ nX2_addEater_66 rfl (⟨rfl, by rw [show addE t_F t_n i (l_nf, l_ne, l_pl, l_yl, l_nd, l_hm, l_wk, l_kd) = _ from if_pos h5]⟩)

set_option maxHeartbeats 4000000 in
set_option maxRecDepth 100000 in
theorem c_X2_readFrom (g : Gx) (l : Launch) (l_a : Nat → Nat) (l_nf : Nat) (l_ne : Nat) (l_pl : Nat → Int32) (l_yl : Nat → Int32) (l_nd : Nat → Int32) (l_hm : Nat → Int32) (l_wk : Nat → Int32) (l_kd : Nat → Int32) (t_a : Nat → Nat) (t_n : Nat) (t_F : Nat → Int32)   (hn : t_n ≤ 48) : Cd g l yX2_readFrom mX2_readFrom ({ frames := 2, cells := 0, slots := 0, locals := 43 } : Room) [.ref (l_a 0), .ref (t_a 0)] ((wL g l_a l_nf l_ne l_pl l_yl l_nd l_hm l_wk l_kd) ++ (wT g t_a t_n t_F)) none ((wL g l_a ((rdS t_F t_n 12 1 (0, 0, l_pl, l_yl, l_nd, l_hm, l_wk, l_kd)).1) ((rdS t_F t_n 12 1 (0, 0, l_pl, l_yl, l_nd, l_hm, l_wk, l_kd)).2.1) ((rdS t_F t_n 12 1 (0, 0, l_pl, l_yl, l_nd, l_hm, l_wk, l_kd)).2.2.1) ((rdS t_F t_n 12 1 (0, 0, l_pl, l_yl, l_nd, l_hm, l_wk, l_kd)).2.2.2.1) ((rdS t_F t_n 12 1 (0, 0, l_pl, l_yl, l_nd, l_hm, l_wk, l_kd)).2.2.2.2.1) ((rdS t_F t_n 12 1 (0, 0, l_pl, l_yl, l_nd, l_hm, l_wk, l_kd)).2.2.2.2.2.1) ((rdS t_F t_n 12 1 (0, 0, l_pl, l_yl, l_nd, l_hm, l_wk, l_kd)).2.2.2.2.2.2.1) ((rdS t_F t_n 12 1 (0, 0, l_pl, l_yl, l_nd, l_hm, l_wk, l_kd)).2.2.2.2.2.2.2)) ++ (wT g t_a t_n t_F)) := by
  refine Ct.of (lv := [(0, .ref (l_a 0)), (1, .ref (t_a 0))]) ⟨by decide +kernel, rfl, Nat.le_of_ble_eq_true rfl⟩ rfl (fun E A sz Q X hQ => ?_)
  refine V_aload_n nX2_readFrom_0 rfl ?_
  refine V_iconst (v := (nI 0)) nX2_readFrom_1 rfl ?_
  refine V_put2 (ws' := (wL g l_a 0 l_ne l_pl l_yl l_nd l_hm l_wk l_kd) ++ (wT g t_a t_n t_F)) 0 6 (by decide) f_RX2_30 rfl rfl rfl rfl nX2_readFrom_2 rfl (Nat.le_of_ble_eq_true rfl) rfl ?_
  refine V_aload_n nX2_readFrom_5 rfl ?_
  refine V_iconst (v := (nI 0)) nX2_readFrom_6 rfl ?_
  refine V_put2 (ws' := (wL g l_a 0 0 l_pl l_yl l_nd l_hm l_wk l_kd) ++ (wT g t_a t_n t_F)) 0 7 (by decide) f_RX2_34 rfl rfl rfl rfl nX2_readFrom_7 rfl (Nat.le_of_ble_eq_true rfl) rfl ?_
  refine V_iconst (v := (nI 1)) nX2_readFrom_10 rfl ?_
  refine V_istore_n (lv' := [(0, .ref (l_a 0)), (1, .ref (t_a 0)), (2, .int (nI 1))]) nX2_readFrom_11 (by decide) rfl ?_
  have L12 : ∀ (n : Nat) (i : Nat) (s : L8) (k : Nat), 60 - i < n → i ≤ 60 → s.1 ≤ 4 ∧ s.2.1 ≤ 5 → t_n ≤ i + 4 * k → rdS t_F t_n k i s = rdS t_F t_n 12 1 (0, 0, l_pl, l_yl, l_nd, l_hm, l_wk, l_kd) → V g E mX2_readFrom A Q 0 0 ((wL g l_a s.1 s.2.1 s.2.2.1 s.2.2.2.1 s.2.2.2.2.1 s.2.2.2.2.2.1 s.2.2.2.2.2.2.1 s.2.2.2.2.2.2.2) ++ (wT g t_a t_n t_F)) 12 [(0, .ref (l_a 0)), (1, .ref (t_a 0)), (2, .int (nI i))] [] := by
    intro n
    induction n with
    | zero => intro i s k hm; exact absurd hm (Nat.not_lt_zero _)
    | succ n ih =>
      intro i s k hm hi hle hk hr
      refine V_iload_n nX2_readFrom_12 rfl ?_
      refine V_aload_n nX2_readFrom_13 rfl ?_
      refine V_get3 7 1 (by decide) f_RX2_37 nX2_readFrom_14 rfl rfl ?_
      refine V_icmp_ge_N (tgt := 52) nX2_readFrom_17 rfl (by omega) (by omega) (fun h17 => ?_) (fun h17 => ?_)
      · skip
        exact R_v rfl X hQ nX2_readFrom_52 rfl (⟨rfl, by rw [← hr, rdS_end h17]⟩)
      · skip
        refine V_aload_n nX2_readFrom_20 rfl ?_
        refine V_get3 7 0 (by decide) f_RX2_42 nX2_readFrom_21 rfl rfl ?_
        refine V_iload_n nX2_readFrom_24 rfl ?_
        refine V_iald 8 nX2_readFrom_25 rfl (by omega) (by decide) rfl ?_
        refine V_bipush (v := (nI 71)) nX2_readFrom_26 (by decide) ?_
        refine V_icmp_ne (tgt := 40) nX2_readFrom_28 rfl (fun h28 => ?_) (fun h28 => ?_)
        · skip
          refine V_aload_n nX2_readFrom_40 rfl ?_
          refine V_aload_n nX2_readFrom_41 rfl ?_
          refine V_iload_n nX2_readFrom_42 rfl ?_
          refine V_cVv (C := (RX2, TX2, 8)) (ci := 2) (ws' := (wL g l_a ((addE t_F t_n i (s.1, s.2.1, s.2.2.1, s.2.2.2.1, s.2.2.2.2.1, s.2.2.2.2.2.1, s.2.2.2.2.2.2.1, s.2.2.2.2.2.2.2)).1) ((addE t_F t_n i (s.1, s.2.1, s.2.2.1, s.2.2.2.1, s.2.2.2.2.1, s.2.2.2.2.2.1, s.2.2.2.2.2.2.1, s.2.2.2.2.2.2.2)).2.1) ((addE t_F t_n i (s.1, s.2.1, s.2.2.1, s.2.2.2.1, s.2.2.2.2.1, s.2.2.2.2.2.1, s.2.2.2.2.2.2.1, s.2.2.2.2.2.2.2)).2.2.1) ((addE t_F t_n i (s.1, s.2.1, s.2.2.1, s.2.2.2.1, s.2.2.2.2.1, s.2.2.2.2.2.1, s.2.2.2.2.2.2.1, s.2.2.2.2.2.2.2)).2.2.2.1) ((addE t_F t_n i (s.1, s.2.1, s.2.2.1, s.2.2.2.1, s.2.2.2.2.1, s.2.2.2.2.2.1, s.2.2.2.2.2.2.1, s.2.2.2.2.2.2.2)).2.2.2.2.1) ((addE t_F t_n i (s.1, s.2.1, s.2.2.1, s.2.2.2.1, s.2.2.2.2.1, s.2.2.2.2.2.1, s.2.2.2.2.2.2.1, s.2.2.2.2.2.2.2)).2.2.2.2.2.1) ((addE t_F t_n i (s.1, s.2.1, s.2.2.1, s.2.2.2.1, s.2.2.2.2.1, s.2.2.2.2.2.1, s.2.2.2.2.2.2.1, s.2.2.2.2.2.2.2)).2.2.2.2.2.2.1) ((addE t_F t_n i (s.1, s.2.1, s.2.2.1, s.2.2.2.1, s.2.2.2.2.1, s.2.2.2.2.2.1, s.2.2.2.2.2.2.1, s.2.2.2.2.2.2.2)).2.2.2.2.2.2.2)) ++ (wT g t_a t_n t_F)) [0, 1, 2, 3, 4, 5, 6, 7, 8] 2 X (c_X2_addEater g l l_a s.1 s.2.1 s.2.2.1 s.2.2.2.1 s.2.2.2.2.1 s.2.2.2.2.2.1 s.2.2.2.2.2.2.1 s.2.2.2.2.2.2.2 t_a t_n t_F  i (hle.1) (hle.2) (by omega) (by omega)) k_RX2_49 hy_X2_addEater (by decide) rfl (by decide) 0 rfl rfl nX2_readFrom_43 rfl rfl (Nat.le_of_ble_eq_true rfl) rfl ?_
          refine V_iinc (v := nI (i + 4)) (lv' := [(0, .ref (l_a 0)), (1, .ref (t_a 0)), (2, .int (nI (i + 4)))]) nX2_readFrom_46 rfl (nI_add i 4) (by decide) rfl ?_
          refine V_goto (tgt := 12) nX2_readFrom_49 rfl ?_
          exact ih (i + 4) (addE t_F t_n i s) (k - 1) (by omega) (by omega) (addE_le hle) (by omega) (by rw [← hr, rdS_go hk h17, show addT t_F t_n i s = _ from if_neg h28])
        · skip
          refine V_aload_n nX2_readFrom_31 rfl ?_
          refine V_aload_n nX2_readFrom_32 rfl ?_
          refine V_iload_n nX2_readFrom_33 rfl ?_
          refine V_cVv (C := (RX2, TX2, 8)) (ci := 2) (ws' := (wL g l_a ((addF t_F t_n i (s.1, s.2.1, s.2.2.1, s.2.2.2.1, s.2.2.2.2.1, s.2.2.2.2.2.1, s.2.2.2.2.2.2.1, s.2.2.2.2.2.2.2)).1) ((addF t_F t_n i (s.1, s.2.1, s.2.2.1, s.2.2.2.1, s.2.2.2.2.1, s.2.2.2.2.2.1, s.2.2.2.2.2.2.1, s.2.2.2.2.2.2.2)).2.1) ((addF t_F t_n i (s.1, s.2.1, s.2.2.1, s.2.2.2.1, s.2.2.2.2.1, s.2.2.2.2.2.1, s.2.2.2.2.2.2.1, s.2.2.2.2.2.2.2)).2.2.1) ((addF t_F t_n i (s.1, s.2.1, s.2.2.1, s.2.2.2.1, s.2.2.2.2.1, s.2.2.2.2.2.1, s.2.2.2.2.2.2.1, s.2.2.2.2.2.2.2)).2.2.2.1) ((addF t_F t_n i (s.1, s.2.1, s.2.2.1, s.2.2.2.1, s.2.2.2.2.1, s.2.2.2.2.2.1, s.2.2.2.2.2.2.1, s.2.2.2.2.2.2.2)).2.2.2.2.1) ((addF t_F t_n i (s.1, s.2.1, s.2.2.1, s.2.2.2.1, s.2.2.2.2.1, s.2.2.2.2.2.1, s.2.2.2.2.2.2.1, s.2.2.2.2.2.2.2)).2.2.2.2.2.1) ((addF t_F t_n i (s.1, s.2.1, s.2.2.1, s.2.2.2.1, s.2.2.2.2.1, s.2.2.2.2.2.1, s.2.2.2.2.2.2.1, s.2.2.2.2.2.2.2)).2.2.2.2.2.2.1) ((addF t_F t_n i (s.1, s.2.1, s.2.2.1, s.2.2.2.1, s.2.2.2.2.1, s.2.2.2.2.2.1, s.2.2.2.2.2.2.1, s.2.2.2.2.2.2.2)).2.2.2.2.2.2.2)) ++ (wT g t_a t_n t_F)) [0, 1, 2, 3, 4, 5, 6, 7, 8] 2 X (c_X2_addField g l l_a s.1 s.2.1 s.2.2.1 s.2.2.2.1 s.2.2.2.2.1 s.2.2.2.2.2.1 s.2.2.2.2.2.2.1 s.2.2.2.2.2.2.2 t_a t_n t_F  i (hle.1) (hle.2) (by omega) (by omega)) k_RX2_45 hy_X2_addField (by decide) rfl (by decide) 0 rfl rfl nX2_readFrom_34 rfl rfl (Nat.le_of_ble_eq_true rfl) rfl ?_
          refine V_goto (tgt := 46) nX2_readFrom_37 rfl ?_
          refine V_iinc (v := nI (i + 4)) (lv' := [(0, .ref (l_a 0)), (1, .ref (t_a 0)), (2, .int (nI (i + 4)))]) nX2_readFrom_46 rfl (nI_add i 4) (by decide) rfl ?_
          refine V_goto (tgt := 12) nX2_readFrom_49 rfl ?_
          exact ih (i + 4) (addF t_F t_n i s) (k - 1) (by omega) (by omega) (addF_le hle) (by omega) (by rw [← hr, rdS_go hk h17, show addT t_F t_n i s = _ from if_pos h28])
  exact L12 _ 1 (0, 0, l_pl, l_yl, l_nd, l_hm, l_wk, l_kd) 12 (Nat.lt_succ_self _) (by omega) (⟨Nat.zero_le _, Nat.zero_le _⟩) (by omega) (rfl)

set_option maxHeartbeats 4000000 in
set_option maxRecDepth 100000 in
theorem c_X4_add (g : Gx) (l : Launch) (d_a : Nat → Nat) (d_cp : Nat → Int32) (d_ci : Nat → Int32) (d_n : Nat)  (q : Int32) (b : Bool) (hn : d_n < 6) : Cd g l yX4_add mX4_add ({ frames := 0, cells := 0, slots := 0, locals := 0 } : Room) [.ref (d_a 0), .int q, .int (bI b)] (wD g d_a d_cp d_ci d_n) none (wD g d_a (upd d_cp d_n q) (upd d_ci d_n (bI b)) (d_n + 1)) := by
  refine Ct.of (lv := [(0, .ref (d_a 0)), (1, .int q), (2, .int (bI b))]) ⟨by decide +kernel, rfl, Nat.le_of_ble_eq_true rfl⟩ rfl (fun E A sz Q X hQ => ?_)
  refine V_aload_n nX4_add_0 rfl ?_
  refine V_get4 0 2 (by decide) f_RX4_19 nX4_add_1 rfl rfl ?_
  refine V_bipush (v := (nI 6)) nX4_add_4 (by decide) ?_
  refine V_icmp_ge_N (tgt := 39) nX4_add_6 rfl (by omega) (by omega) (fun h6 => ?_) (fun h6 => ?_)
  · skip
    exact absurd h6 (by omega)
  · skip
    refine V_aload_n nX4_add_9 rfl ?_
    refine V_get4 0 0 (by decide) f_RX4_9 nX4_add_10 rfl rfl ?_
    refine V_aload_n nX4_add_13 rfl ?_
    refine V_get4 0 2 (by decide) f_RX4_19 nX4_add_14 rfl rfl ?_
    refine V_iload_n nX4_add_17 rfl ?_
    refine V_iast (ws' := wD g d_a (upd d_cp d_n q) d_ci d_n) 1 nX4_add_18 rfl (by omega) (by decide) rfl ?_
    refine V_aload_n nX4_add_19 rfl ?_
    refine V_get4 0 1 (by decide) f_RX4_15 nX4_add_20 rfl rfl ?_
    refine V_aload_n nX4_add_23 rfl ?_
    refine V_get4 0 2 (by decide) f_RX4_19 nX4_add_24 rfl rfl ?_
    refine V_iload_n nX4_add_27 rfl ?_
    refine V_zast (ws' := wD g d_a (upd d_cp d_n q) (upd d_ci d_n (bI b)) d_n) 2 nX4_add_28 rfl (by omega) (by decide) rfl ?_
    refine V_aload_n nX4_add_29 rfl ?_
    refine V_dup nX4_add_30 rfl ?_
    refine V_get4 0 2 (by decide) f_RX4_19 nX4_add_31 rfl rfl ?_
    refine V_iconst (v := (nI 1)) nX4_add_34 rfl ?_
    refine V_iadd (v := nI (d_n + 1)) nX4_add_35 (nI_add d_n 1) ?_
    refine V_put4 (ws' := wD g d_a (upd d_cp d_n q) (upd d_ci d_n (bI b)) (d_n + 1)) 0 2 (by decide) f_RX4_19 rfl rfl rfl rfl nX4_add_36 rfl (Nat.le_of_ble_eq_true rfl) rfl ?_
    exact R_v rfl X hQ nX4_add_39 rfl (⟨rfl, rfl⟩)

set_option maxHeartbeats 4000000 in
set_option maxRecDepth 100000 in
theorem c_X4_allowFor (g : Gx) (l : Launch) (d_a : Nat → Nat) (d_cp : Nat → Int32) (d_ci : Nat → Int32) (d_n : Nat)  (x : Int32) (y : Int32) (hn : d_n ≤ 6) : Cd g l yX4_allowFor mX4_allowFor ({ frames := 1, cells := 0, slots := 0, locals := 24 } : Room) [.ref (d_a 0), .int x, .int y] (wD g d_a d_cp d_ci d_n) (some (.int (bI (allowS d_cp d_ci x y d_n 0)))) (wD g d_a d_cp d_ci d_n) := by
  refine Ct.of (lv := [(0, .ref (d_a 0)), (1, .int x), (2, .int y)]) ⟨by decide +kernel, rfl, Nat.le_of_ble_eq_true rfl⟩ rfl (fun E A sz Q X hQ => ?_)
  refine V_iconst (v := (nI 0)) nX4_allowFor_0 rfl ?_
  refine V_istore_n (lv' := [(0, .ref (d_a 0)), (1, .int x), (2, .int y), (3, .int (nI 0))]) nX4_allowFor_1 (by decide) rfl ?_
  have L2 : ∀ (n : Nat) (i : Nat), d_n - i < n → i ≤ d_n → allowS d_cp d_ci x y (d_n - i) i = allowS d_cp d_ci x y d_n 0 → V g E mX4_allowFor A Q 0 0 (wD g d_a d_cp d_ci d_n) 2 [(0, .ref (d_a 0)), (1, .int x), (2, .int y), (3, .int (nI i))] [] := by
    intro n
    induction n with
    | zero => intro i hm; exact absurd hm (Nat.not_lt_zero _)
    | succ n ih =>
      intro i hm hi hr
      refine V_iload_n nX4_allowFor_2 rfl ?_
      refine V_aload_n nX4_allowFor_3 rfl ?_
      refine V_get4 0 2 (by decide) f_RX4_19 nX4_allowFor_4 rfl rfl ?_
      refine V_icmp_ge_N (tgt := 51) nX4_allowFor_7 rfl (by omega) (by omega) (fun h7 => ?_) (fun h7 => ?_)
      · skip
        refine V_iconst (v := (nI 1)) nX4_allowFor_51 rfl ?_
        refine V_top (y := bI true) rfl ?_
        exact R_z rfl X hQ nX4_allowFor_52 rfl (⟨by rw [← hr, show d_n - i = 0 by omega]; rfl, rfl⟩)
      · skip
        refine V_iload_n nX4_allowFor_10 rfl ?_
        refine V_aload_n nX4_allowFor_11 rfl ?_
        refine V_get4 0 0 (by decide) f_RX4_9 nX4_allowFor_12 rfl rfl ?_
        refine V_iload_n nX4_allowFor_15 rfl ?_
        refine V_iald 1 nX4_allowFor_16 rfl (by omega) (by decide) rfl ?_
        refine V_isub (v := x - (d_cp i)) nX4_allowFor_17 rfl ?_
        refine V_mabs (v := absI (x - (d_cp i))) X k_RX4_23 ⟨Nat.le_of_ble_eq_true rfl, Nat.le_of_ble_eq_true rfl, Nat.le_of_ble_eq_true rfl, Nat.le_of_ble_eq_true rfl⟩ nX4_allowFor_18 (rfl) ?_
        refine V_iload_n nX4_allowFor_21 rfl ?_
        refine V_joinb (b := !decide (y < (absI (x - (d_cp i))))) (pj := 30) (st := []) (fun J1 J2 => ?_) ?_
        · skip
          refine V_icmp_gt (tgt := 29) nX4_allowFor_22 rfl (fun h22 => ?_) (fun h22 => ?_)
          · skip
            refine V_iconst (v := (nI 0)) nX4_allowFor_29 rfl ?_
            exact J2 (by simp [h22])
          · skip
            refine V_iconst (v := (nI 1)) nX4_allowFor_25 rfl ?_
            refine V_goto (tgt := 30) nX4_allowFor_26 rfl ?_
            exact J1 (by simp [h22])
        refine V_istore (lv' := [(0, .ref (d_a 0)), (1, .int x), (2, .int y), (3, .int (nI i)), (4, .int (bI (!decide (y < (absI (x - (d_cp i)))))))]) nX4_allowFor_30 (by decide) rfl ?_
        refine V_iload nX4_allowFor_32 rfl ?_
        refine V_aload_n nX4_allowFor_34 rfl ?_
        refine V_get4 0 1 (by decide) f_RX4_15 nX4_allowFor_35 rfl rfl ?_
        refine V_iload_n nX4_allowFor_38 rfl ?_
        refine V_zald 2 nX4_allowFor_39 rfl (by omega) (by decide) rfl ?_
        refine V_icmp_eq (tgt := 45) nX4_allowFor_40 rfl (fun h40 => ?_) (fun h40 => ?_)
        · skip
          refine V_iinc (v := nI (i + 1)) (lv' := [(0, .ref (d_a 0)), (1, .int x), (2, .int y), (3, .int (nI (i + 1))), (4, .int (bI (!decide (y < (absI (x - (d_cp i)))))))]) nX4_allowFor_45 rfl (nI_add i 1) (by decide) rfl ?_
          refine V_goto (tgt := 2) nX4_allowFor_48 rfl ?_
          refine V_pick (lv2 := [(0, .ref (d_a 0)), (1, .int x), (2, .int y), (3, .int (nI (i + 1)))]) [0, 1, 2, 3] rfl ?_
          exact ih (i + 1) (by omega) (by omega) (by rw [← hr]; exact (allowS_go h7 h40).symm)
        · skip
          refine V_iconst (v := (nI 0)) nX4_allowFor_43 rfl ?_
          refine V_top (y := bI false) rfl ?_
          exact R_z rfl X hQ nX4_allowFor_44 rfl (⟨by rw [← hr, allowS_no h7 h40], rfl⟩)
  exact L2 _ 0 (Nat.lt_succ_self _) (by omega) (rfl)
end
section
/-! pools of commons, and worlds in another order -/
abbrev Cm : Type := (Nat → Int32) × (Nat → Int32) × (Nat → Int32) × Int32 × (Nat → Int32) × (Nat → Int32)
def wCm (g : Gx) (a la : Nat → Nat) (c : Cm) : va_W := wC g a la c.1 c.2.1 c.2.2.1 c.2.2.2.1 c.2.2.2.2.1 c.2.2.2.2.2
def wP (g : Gx) (r : Nat → Nat → Nat) (la : Nat → Nat) (c : Nat → Cm) : Nat → va_W
  | 0 => []
  | n + 1 => wP g r la c n ++ wCm g (r n) la (c n)
theorem va_up_id {α : Type} (f : Nat → α) (k : Nat) : va_up f k (f k) = f := by
  funext j
  by_cases h : j = k
  · subst h; exact va_up_self _ _ _
  · exact va_up_ne _ _ h
theorem wP_below (g : Gx) (r : Nat → Nat → Nat) (la : Nat → Nat) (c : Nat → Cm) (k : Nat) (x : Cm) : ∀ n, n ≤ k → wP g r la (va_up c k x) n = wP g r la c n
  | 0, _ => rfl
  | n + 1, h => by
    show wP g r la (va_up c k x) n ++ wCm g (r n) la (va_up c k x n) = wP g r la c n ++ wCm g (r n) la (c n)
    rw [wP_below g r la c k x n (by omega), va_up_ne _ _ (by omega)]
theorem wP_split (g : Gx) (r : Nat → Nat → Nat) (la : Nat → Nat) (c : Nat → Cm) (k : Nat) : ∀ n, k < n → ∃ bk : va_W, ∀ x : Cm, wP g r la (va_up c k x) n = wP g r la c k ++ (wCm g (r k) la x ++ bk)
  | 0, h => absurd h (Nat.not_lt_zero _)
  | n + 1, h => by
    by_cases e : k = n
    · subst e
      refine ⟨[], fun x => ?_⟩
      show wP g r la (va_up c k x) k ++ wCm g (r k) la (va_up c k x k) = _
      rw [wP_below g r la c k x k (Nat.le_refl _), va_up_self, List.append_nil]
    · obtain ⟨bk, hb⟩ := wP_split g r la c k n (by omega)
      refine ⟨bk ++ wCm g (r n) la (c n), fun x => ?_⟩
      show wP g r la (va_up c k x) n ++ wCm g (r n) la (va_up c k x n) = _
      rw [hb x, va_up_ne _ _ (by omega), List.append_assoc, List.append_assoc]
theorem wP_out {g : Gx} {r : Nat → Nat → Nat} {la : Nat → Nat} {c : Nat → Cm} {k n : Nat} {bk : va_W} (h : ∀ x : Cm, wP g r la (va_up c k x) n = wP g r la c k ++ (wCm g (r k) la x ++ bk)) : wP g r la c n = wP g r la c k ++ (wCm g (r k) la (c k) ++ bk) := by
  have := h (c k)
  rw [va_up_id] at this
  exact this
theorem va_D_iff {A : Nat → Prop} {ws : va_W} : va_D A ws ↔ (ws.map Prod.fst).Nodup ∧ ∀ q ∈ ws, A q.1 := by
  constructor
  · intro h
    refine ⟨?_, fun q hq => ?_⟩
    · rw [List.nodup_iff_pairwise_ne, List.pairwise_iff_getElem]
      intro i j hi hj hij e
      rw [List.getElem_map, List.getElem_map] at e
      rw [List.length_map] at hi hj
      have := h.1 i j ws[i] ws[j] (List.getElem?_eq_getElem hi) (List.getElem?_eq_getElem hj) e
      omega
    · obtain ⟨i, hi⟩ := List.getElem?_of_mem hq
      exact h.2 i q hi
  · intro h
    refine ⟨fun i j p q hp hq e => ?_, fun k q hk => h.2 q (List.mem_of_getElem? hk)⟩
    have h1 := h.1
    rw [List.nodup_iff_pairwise_ne, List.pairwise_iff_getElem] at h1
    obtain ⟨hi, ei⟩ := List.getElem?_eq_some_iff.mp hp
    obtain ⟨hj, ej⟩ := List.getElem?_eq_some_iff.mp hq
    by_cases h2 : i < j
    · refine absurd ?_ (h1 i j (by rw [List.length_map]; exact hi) (by rw [List.length_map]; exact hj) h2)
      rw [List.getElem_map, List.getElem_map, ei, ej]
      exact e
    · by_cases h3 : j < i
      · refine absurd ?_ (h1 j i (by rw [List.length_map]; exact hj) (by rw [List.length_map]; exact hi) h3)
        rw [List.getElem_map, List.getElem_map, ei, ej]
        exact e.symm
      · omega
theorem va_P_iff {D : va_G} {cl : List vw_C} {ws : va_W} {H : Heap} : va_P D cl ws H ↔ ∀ q ∈ ws, va_at D cl q H := by
  constructor
  · intro h q hq
    obtain ⟨i, hi⟩ := List.getElem?_of_mem hq
    exact h i q hi
  · intro h k q hk
    exact h q (List.mem_of_getElem? hk)
theorem blk_perm (Ls : List va_W) (ps : List Nat) (hp : (List.range Ls.length).isPerm ps = true) : Ls.flatten.Perm ((ps.map (fun i => Ls.getD i [])).flatten) := by
  have h := (List.isPerm_iff.mp hp).map (fun i => Ls.getD i [])
  have e : (List.range Ls.length).map (fun i => Ls.getD i []) = Ls := by
    apply List.ext_getElem
    · simp
    · intro i h1 h2
      simp [List.getD_eq_getElem?_getD, h2]
  rw [e] at h
  exact h.flatten
section VP
variable {g : Gx} {E : MV} {M : MS} {A : Nat → Prop} {Q : State → Prop} {kc ks : Nat} {ws ws' : va_W} {pc pc' : Nat} {lv : List (Nat × Value)} {st : List Value}
theorem V_perm (h : ws.Perm ws') (k : V g E M A Q kc ks ws' pc lv st) : V g E M A Q kc ks ws pc lv st := by
  intro B ls H locs hl hP hD hS
  refine k B ls H locs hl (va_P_iff.mpr fun q hq => va_P_iff.mp hP q (h.mem_iff.mpr hq)) ?_ hS
  rw [va_D_iff] at hD ⊢
  exact ⟨(h.map Prod.fst).nodup hD.1, fun q hq => hD.2 q (h.mem_iff.mpr hq)⟩
theorem V_blk (Ls : List va_W) (ps : List Nat) (hp : (List.range Ls.length).isPerm ps = true) (h1 : ws = Ls.flatten) (h2 : (ps.map (fun i => Ls.getD i [])).flatten = ws') (k : V g E M A Q kc ks ws' pc lv st) : V g E M A Q kc ks ws pc lv st := by
  subst h1
  subst h2
  exact V_perm (blk_perm Ls ps hp) k
end VP
theorem range_at (w wr : va_W) : (List.range w.length).map (fun i => (w ++ wr)[i]?) = w.map some := by
  apply List.ext_getElem?
  intro k
  by_cases h : k < w.length
  · simp [List.getElem?_range h, List.getElem?_append_left h, h]
  · simp [List.getElem?_eq_none, Nat.not_lt.mp h]
theorem va_nd_iff : ∀ {l : List Nat}, l.Nodup → va_nd l = true
  | [], _ => rfl
  | a :: l, h => by
    rw [List.nodup_cons] at h
    simp only [va_nd, Bool.and_eq_true, decide_eq_true_eq]
    exact ⟨h.1, va_nd_iff h.2⟩
theorem range_nd (n : Nat) : va_nd (List.range n) = true := va_nd_iff List.nodup_range
theorem wput_range' (wr : va_W) : ∀ (w' w pre : va_W), w'.length = w.length → wput (pre ++ (w ++ wr)) (List.range' pre.length w.length) w' = pre ++ (w' ++ wr)
  | [], [], pre, _ => rfl
  | [], _ :: _, _, h => by cases h
  | _ :: _, [], _, h => by cases h
  | c :: w', d :: w, pre, h => by
    show wput ((pre ++ (d :: w ++ wr)).set pre.length c) (List.range' (pre.length + 1) w.length) w' = _
    have e : (pre ++ (d :: w ++ wr)).set pre.length c = (pre ++ [c]) ++ (w ++ wr) := by
      rw [List.set_append_right _ _ (Nat.le_refl _), Nat.sub_self]
      simp
    rw [e]
    have := wput_range' wr w' w (pre ++ [c]) (Nat.succ.inj h)
    rw [List.length_append] at this
    rw [show [c].length = 1 from rfl] at this
    rw [this]
    simp
theorem wput_range (w w' wr : va_W) (h : w'.length = w.length) : wput (w ++ wr) (List.range w.length) w' = w' ++ wr := by
  have := wput_range' wr w' w [] h
  rw [List.range_eq_range']
  exact this
def rmF (fi co : Nat) : Nat := if co = 14 then (fi + 1) % 14 else fi
def rmC (co : Nat) : Nat := if co = 14 then 13 else co
theorem wP_fst (g : Gx) (r : Nat → Nat → Nat) (la : Nat → Nat) (c c' : Nat → Cm) : ∀ n, (wP g r la c n).map Prod.fst = (wP g r la c' n).map Prod.fst
  | 0 => rfl
  | n + 1 => by
    show (wP g r la c n ++ wCm g (r n) la (c n)).map Prod.fst = (wP g r la c' n ++ wCm g (r n) la (c' n)).map Prod.fst
    rw [List.map_append, List.map_append, wP_fst g r la c c' n]
    rfl
theorem wP_len (g : Gx) (r : Nat → Nat → Nat) (la : Nat → Nat) (c : Nat → Cm) : ∀ n, (wP g r la c n).length = 6 * n
  | 0 => rfl
  | n + 1 => by
    show (wP g r la c n ++ wCm g (r n) la (c n)).length = _
    rw [List.length_append, wP_len g r la c n]
    rfl
theorem adr_app {a a' b b' : va_W} (h1 : a.map Prod.fst = a'.map Prod.fst) (h2 : b.map Prod.fst = b'.map Prod.fst) : (a ++ b).map Prod.fst = (a' ++ b').map Prod.fst := by rw [List.map_append, List.map_append, h1, h2]
theorem len_app {a a' b b' : va_W} (h1 : a.length = a'.length) (h2 : b.length = b'.length) : (a ++ b).length = (a' ++ b').length := by rw [List.length_append, List.length_append, h1, h2]
theorem wP_len2 (g : Gx) (r : Nat → Nat → Nat) (la : Nat → Nat) (c c' : Nat → Cm) (n : Nat) : (wP g r la c n).length = (wP g r la c' n).length := by rw [wP_len, wP_len]
end
section
set_option maxHeartbeats 4000000 in
set_option maxRecDepth 100000 in
theorem c_X0_remember (g : Gx) (l : Launch) (q_a : Nat → Nat) (q_fi : Nat) (q_co : Nat) (n_a : Nat → Nat) (n_la : Nat → Nat) (n_lo : Nat → Int32) (n_sk : Nat → Int32) (n_db : Nat → Int32) (n_yr : Int32) (n_vi : Nat → Int32) (n_wy : Nat → Int32) (p_c : Nat → Cm) (p_n : Nat) (rg : Nat → Nat → Nat)  (hfi : q_fi < 14) (hco : q_co ≤ 14) (hpn : p_n = 14) : Cd g l yX0_remember mX0_remember ({ frames := 2, cells := 0, slots := 0, locals := 47 } : Room) [.ref (q_a 0), .ref (n_a 0)] ((wA g q_a (fun j => some (rg j 0)) q_fi q_co) ++ (wC g n_a n_la n_lo n_sk n_db n_yr n_vi n_wy) ++ (wP g rg n_la p_c p_n)) none ((wA g q_a (fun j => some (rg j 0)) (rmF q_fi q_co) (rmC q_co + 1)) ++ (wC g n_a n_la n_lo n_sk n_db n_yr n_vi n_wy) ++ (wP g rg n_la (va_up p_c ((rmF q_fi q_co + rmC q_co) % 14) (n_lo, n_sk, n_db, n_yr, (p_c ((rmF q_fi q_co + rmC q_co) % 14)).2.2.2.2.1, (p_c ((rmF q_fi q_co + rmC q_co) % 14)).2.2.2.2.2)) p_n)) := by
  refine Ct.of (lv := [(0, .ref (q_a 0)), (1, .ref (n_a 0))]) ⟨by decide +kernel, rfl, Nat.le_of_ble_eq_true rfl⟩ rfl (fun E A sz Q X hQ => ?_)
  refine V_aload_n nX0_remember_0 rfl ?_
  refine V_get0 0 2 (by decide) f_RX0_24 nX0_remember_1 rfl rfl ?_
  refine V_bipush (v := (nI 14)) nX0_remember_4 (by decide) ?_
  refine V_icmp_ne_N (tgt := 32) nX0_remember_6 rfl (by omega) (by omega) (fun h6 => ?_) (fun h6 => ?_)
  · skip
    refine V_aload_n nX0_remember_32 rfl ?_
    refine V_get0 0 0 (by decide) f_RX0_11 nX0_remember_33 rfl rfl ?_
    refine V_aload_n nX0_remember_36 rfl ?_
    refine V_get0 0 1 (by decide) f_RX0_20 nX0_remember_37 rfl rfl ?_
    refine V_aload_n nX0_remember_40 rfl ?_
    refine V_get0 0 2 (by decide) f_RX0_24 nX0_remember_41 rfl rfl ?_
    refine V_iadd (v := nI (q_fi + q_co)) nX0_remember_44 (nI_add q_fi q_co) ?_
    refine V_bipush (v := (nI 14)) nX0_remember_45 (by decide) ?_
    refine V_irem (v := nI ((q_fi + q_co) % 14)) nX0_remember_47 (nI_ne0 (by omega) (by omega)) (pk_rem (by omega) (by omega) (by omega)) ?_
    refine V_aald (b := rg ((q_fi + q_co) % 14) 0) 1 nX0_remember_48 rfl (by omega) (by decide) (rfl) ?_
    refine V_aload_n nX0_remember_49 rfl ?_
    obtain ⟨bk, hbk⟩ := wP_split g rg n_la p_c ((q_fi + q_co) % 14) p_n (by omega)
    refine V_ws (ws' := (wA g q_a (fun j => some (rg j 0)) q_fi q_co) ++ (wC g n_a n_la n_lo n_sk n_db n_yr n_vi n_wy) ++ (wP g rg n_la p_c ((q_fi + q_co) % 14)) ++ (wC g (rg ((q_fi + q_co) % 14)) n_la ((p_c ((q_fi + q_co) % 14)).1) ((p_c ((q_fi + q_co) % 14)).2.1) ((p_c ((q_fi + q_co) % 14)).2.2.1) ((p_c ((q_fi + q_co) % 14)).2.2.2.1) ((p_c ((q_fi + q_co) % 14)).2.2.2.2.1) ((p_c ((q_fi + q_co) % 14)).2.2.2.2.2)) ++ (bk)) (by rw [wP_out hbk]; simp only [List.append_assoc]; try rfl) ?_
    refine V_blk (ws' := (wC g (rg ((q_fi + q_co) % 14)) n_la ((p_c ((q_fi + q_co) % 14)).1) ((p_c ((q_fi + q_co) % 14)).2.1) ((p_c ((q_fi + q_co) % 14)).2.2.1) ((p_c ((q_fi + q_co) % 14)).2.2.2.1) ((p_c ((q_fi + q_co) % 14)).2.2.2.2.1) ((p_c ((q_fi + q_co) % 14)).2.2.2.2.2)) ++ (wA g q_a (fun j => some (rg j 0)) q_fi q_co) ++ (wC g n_a n_la n_lo n_sk n_db n_yr n_vi n_wy) ++ (wP g rg n_la p_c ((q_fi + q_co) % 14)) ++ (bk)) [wA g q_a (fun j => some (rg j 0)) q_fi q_co, wC g n_a n_la n_lo n_sk n_db n_yr n_vi n_wy, wP g rg n_la p_c ((q_fi + q_co) % 14), wC g (rg ((q_fi + q_co) % 14)) n_la ((p_c ((q_fi + q_co) % 14)).1) ((p_c ((q_fi + q_co) % 14)).2.1) ((p_c ((q_fi + q_co) % 14)).2.2.1) ((p_c ((q_fi + q_co) % 14)).2.2.2.1) ((p_c ((q_fi + q_co) % 14)).2.2.2.2.1) ((p_c ((q_fi + q_co) % 14)).2.2.2.2.2), bk] [3, 0, 1, 2, 4] rfl (by simp only [List.flatten_cons, List.flatten_nil, List.append_nil, List.append_assoc]) (by show List.flatten [wC g (rg ((q_fi + q_co) % 14)) n_la ((p_c ((q_fi + q_co) % 14)).1) ((p_c ((q_fi + q_co) % 14)).2.1) ((p_c ((q_fi + q_co) % 14)).2.2.1) ((p_c ((q_fi + q_co) % 14)).2.2.2.1) ((p_c ((q_fi + q_co) % 14)).2.2.2.2.1) ((p_c ((q_fi + q_co) % 14)).2.2.2.2.2), wA g q_a (fun j => some (rg j 0)) q_fi q_co, wC g n_a n_la n_lo n_sk n_db n_yr n_vi n_wy, wP g rg n_la p_c ((q_fi + q_co) % 14), bk] = _; simp only [List.flatten_cons, List.flatten_nil, List.append_nil, List.append_assoc]) ?_
    refine V_cVv (C := (RX1, TX1, 7)) (ci := 1) (ws' := (wC g (rg ((q_fi + q_co) % 14)) n_la n_lo n_sk n_db n_yr ((p_c ((q_fi + q_co) % 14)).2.2.2.2.1) ((p_c ((q_fi + q_co) % 14)).2.2.2.2.2)) ++ (wA g q_a (fun j => some (rg j 0)) q_fi q_co) ++ (wC g n_a n_la n_lo n_sk n_db n_yr n_vi n_wy) ++ (wP g rg n_la p_c ((q_fi + q_co) % 14)) ++ (bk)) [0, 1, 2, 3, 4, 5, 8, 9, 10, 11, 12, 13] 1 X (c_X1_copyFrom g l (rg ((q_fi + q_co) % 14)) n_la ((p_c ((q_fi + q_co) % 14)).1) ((p_c ((q_fi + q_co) % 14)).2.1) ((p_c ((q_fi + q_co) % 14)).2.2.1) ((p_c ((q_fi + q_co) % 14)).2.2.2.1) ((p_c ((q_fi + q_co) % 14)).2.2.2.2.1) ((p_c ((q_fi + q_co) % 14)).2.2.2.2.2) n_a n_la n_lo n_sk n_db n_yr n_vi n_wy   ) k_RX0_27 hy_X1_copyFrom (by decide) rfl (by decide) 0 rfl rfl nX0_remember_50 rfl rfl (Nat.le_of_ble_eq_true rfl) rfl ?_
    refine V_blk (ws' := (wA g q_a (fun j => some (rg j 0)) q_fi q_co) ++ (wC g n_a n_la n_lo n_sk n_db n_yr n_vi n_wy) ++ (wP g rg n_la p_c ((q_fi + q_co) % 14)) ++ (wC g (rg ((q_fi + q_co) % 14)) n_la n_lo n_sk n_db n_yr ((p_c ((q_fi + q_co) % 14)).2.2.2.2.1) ((p_c ((q_fi + q_co) % 14)).2.2.2.2.2)) ++ (bk)) [wC g (rg ((q_fi + q_co) % 14)) n_la n_lo n_sk n_db n_yr ((p_c ((q_fi + q_co) % 14)).2.2.2.2.1) ((p_c ((q_fi + q_co) % 14)).2.2.2.2.2), wA g q_a (fun j => some (rg j 0)) q_fi q_co, wC g n_a n_la n_lo n_sk n_db n_yr n_vi n_wy, wP g rg n_la p_c ((q_fi + q_co) % 14), bk] [1, 2, 3, 0, 4] rfl (by simp only [List.flatten_cons, List.flatten_nil, List.append_nil, List.append_assoc]) (by show List.flatten [wA g q_a (fun j => some (rg j 0)) q_fi q_co, wC g n_a n_la n_lo n_sk n_db n_yr n_vi n_wy, wP g rg n_la p_c ((q_fi + q_co) % 14), wC g (rg ((q_fi + q_co) % 14)) n_la n_lo n_sk n_db n_yr ((p_c ((q_fi + q_co) % 14)).2.2.2.2.1) ((p_c ((q_fi + q_co) % 14)).2.2.2.2.2), bk] = _; simp only [List.flatten_cons, List.flatten_nil, List.append_nil, List.append_assoc]) ?_
    refine V_ws (ws' := (wA g q_a (fun j => some (rg j 0)) q_fi q_co) ++ (wC g n_a n_la n_lo n_sk n_db n_yr n_vi n_wy) ++ (wP g rg n_la (va_up p_c ((q_fi + q_co) % 14) (n_lo, n_sk, n_db, n_yr, (p_c ((q_fi + q_co) % 14)).2.2.2.2.1, (p_c ((q_fi + q_co) % 14)).2.2.2.2.2)) p_n)) (by rw [hbk (n_lo, n_sk, n_db, n_yr, (p_c ((q_fi + q_co) % 14)).2.2.2.2.1, (p_c ((q_fi + q_co) % 14)).2.2.2.2.2)]; simp only [List.append_assoc]; try rfl) ?_
    refine V_aload_n nX0_remember_53 rfl ?_
    refine V_dup nX0_remember_54 rfl ?_
    refine V_get0 0 2 (by decide) f_RX0_24 nX0_remember_55 rfl rfl ?_
    refine V_iconst (v := (nI 1)) nX0_remember_58 rfl ?_
    refine V_iadd (v := nI (q_co + 1)) nX0_remember_59 (nI_add q_co 1) ?_
    refine V_put0 (ws' := (wA g q_a (fun j => some (rg j 0)) q_fi (q_co + 1)) ++ (wC g n_a n_la n_lo n_sk n_db n_yr n_vi n_wy) ++ (wP g rg n_la (va_up p_c ((q_fi + q_co) % 14) (n_lo, n_sk, n_db, n_yr, (p_c ((q_fi + q_co) % 14)).2.2.2.2.1, (p_c ((q_fi + q_co) % 14)).2.2.2.2.2)) p_n)) 0 2 (by decide) f_RX0_24 rfl rfl rfl rfl nX0_remember_60 rfl (Nat.le_of_ble_eq_true rfl) rfl ?_
    exact R_v rfl X hQ nX0_remember_63 (adr_app (adr_app rfl rfl) (wP_fst _ _ _ _ _ _)) (⟨rfl, by rw [show rmF q_fi q_co = _ from if_neg h6, show rmC q_co = _ from if_neg h6]⟩)
  · skip
    refine V_aload_n nX0_remember_9 rfl ?_
    refine V_aload_n nX0_remember_10 rfl ?_
    refine V_get0 0 1 (by decide) f_RX0_20 nX0_remember_11 rfl rfl ?_
    refine V_iconst (v := (nI 1)) nX0_remember_14 rfl ?_
    refine V_iadd (v := nI (q_fi + 1)) nX0_remember_15 (nI_add q_fi 1) ?_
    refine V_bipush (v := (nI 14)) nX0_remember_16 (by decide) ?_
    refine V_irem (v := nI ((q_fi + 1) % 14)) nX0_remember_18 (nI_ne0 (by omega) (by omega)) (pk_rem (by omega) (by omega) (by omega)) ?_
    refine V_put0 (ws' := (wA g q_a (fun j => some (rg j 0)) ((q_fi + 1) % 14) q_co) ++ (wC g n_a n_la n_lo n_sk n_db n_yr n_vi n_wy) ++ (wP g rg n_la p_c p_n)) 0 1 (by decide) f_RX0_20 rfl rfl rfl rfl nX0_remember_19 rfl (Nat.le_of_ble_eq_true rfl) rfl ?_
    refine V_aload_n nX0_remember_22 rfl ?_
    refine V_dup nX0_remember_23 rfl ?_
    refine V_get0 0 2 (by decide) f_RX0_24 nX0_remember_24 rfl rfl ?_
    refine V_iconst (v := (nI 1)) nX0_remember_27 rfl ?_
    refine V_isub (v := nI (q_co - 1)) nX0_remember_28 (pk_sub (by omega)) ?_
    refine V_put0 (ws' := (wA g q_a (fun j => some (rg j 0)) ((q_fi + 1) % 14) (q_co - 1)) ++ (wC g n_a n_la n_lo n_sk n_db n_yr n_vi n_wy) ++ (wP g rg n_la p_c p_n)) 0 2 (by decide) f_RX0_24 rfl rfl rfl rfl nX0_remember_29 rfl (Nat.le_of_ble_eq_true rfl) rfl ?_
    refine V_aload_n nX0_remember_32 rfl ?_
    refine V_get0 0 0 (by decide) f_RX0_11 nX0_remember_33 rfl rfl ?_
    refine V_aload_n nX0_remember_36 rfl ?_
    refine V_get0 0 1 (by decide) f_RX0_20 nX0_remember_37 rfl rfl ?_
    refine V_aload_n nX0_remember_40 rfl ?_
    refine V_get0 0 2 (by decide) f_RX0_24 nX0_remember_41 rfl rfl ?_
    refine V_iadd (v := nI (((q_fi + 1) % 14) + (q_co - 1))) nX0_remember_44 (nI_add ((q_fi + 1) % 14) (q_co - 1)) ?_
    refine V_bipush (v := (nI 14)) nX0_remember_45 (by decide) ?_
    refine V_irem (v := nI ((((q_fi + 1) % 14) + (q_co - 1)) % 14)) nX0_remember_47 (nI_ne0 (by omega) (by omega)) (pk_rem (by omega) (by omega) (by omega)) ?_
    refine V_aald (b := rg ((((q_fi + 1) % 14) + (q_co - 1)) % 14) 0) 1 nX0_remember_48 rfl (by omega) (by decide) (rfl) ?_
    refine V_aload_n nX0_remember_49 rfl ?_
    obtain ⟨bk, hbk⟩ := wP_split g rg n_la p_c ((((q_fi + 1) % 14) + (q_co - 1)) % 14) p_n (by omega)
    refine V_ws (ws' := (wA g q_a (fun j => some (rg j 0)) ((q_fi + 1) % 14) (q_co - 1)) ++ (wC g n_a n_la n_lo n_sk n_db n_yr n_vi n_wy) ++ (wP g rg n_la p_c ((((q_fi + 1) % 14) + (q_co - 1)) % 14)) ++ (wC g (rg ((((q_fi + 1) % 14) + (q_co - 1)) % 14)) n_la ((p_c ((((q_fi + 1) % 14) + (q_co - 1)) % 14)).1) ((p_c ((((q_fi + 1) % 14) + (q_co - 1)) % 14)).2.1) ((p_c ((((q_fi + 1) % 14) + (q_co - 1)) % 14)).2.2.1) ((p_c ((((q_fi + 1) % 14) + (q_co - 1)) % 14)).2.2.2.1) ((p_c ((((q_fi + 1) % 14) + (q_co - 1)) % 14)).2.2.2.2.1) ((p_c ((((q_fi + 1) % 14) + (q_co - 1)) % 14)).2.2.2.2.2)) ++ (bk)) (by rw [wP_out hbk]; simp only [List.append_assoc]; try rfl) ?_
    refine V_blk (ws' := (wC g (rg ((((q_fi + 1) % 14) + (q_co - 1)) % 14)) n_la ((p_c ((((q_fi + 1) % 14) + (q_co - 1)) % 14)).1) ((p_c ((((q_fi + 1) % 14) + (q_co - 1)) % 14)).2.1) ((p_c ((((q_fi + 1) % 14) + (q_co - 1)) % 14)).2.2.1) ((p_c ((((q_fi + 1) % 14) + (q_co - 1)) % 14)).2.2.2.1) ((p_c ((((q_fi + 1) % 14) + (q_co - 1)) % 14)).2.2.2.2.1) ((p_c ((((q_fi + 1) % 14) + (q_co - 1)) % 14)).2.2.2.2.2)) ++ (wA g q_a (fun j => some (rg j 0)) ((q_fi + 1) % 14) (q_co - 1)) ++ (wC g n_a n_la n_lo n_sk n_db n_yr n_vi n_wy) ++ (wP g rg n_la p_c ((((q_fi + 1) % 14) + (q_co - 1)) % 14)) ++ (bk)) [wA g q_a (fun j => some (rg j 0)) ((q_fi + 1) % 14) (q_co - 1), wC g n_a n_la n_lo n_sk n_db n_yr n_vi n_wy, wP g rg n_la p_c ((((q_fi + 1) % 14) + (q_co - 1)) % 14), wC g (rg ((((q_fi + 1) % 14) + (q_co - 1)) % 14)) n_la ((p_c ((((q_fi + 1) % 14) + (q_co - 1)) % 14)).1) ((p_c ((((q_fi + 1) % 14) + (q_co - 1)) % 14)).2.1) ((p_c ((((q_fi + 1) % 14) + (q_co - 1)) % 14)).2.2.1) ((p_c ((((q_fi + 1) % 14) + (q_co - 1)) % 14)).2.2.2.1) ((p_c ((((q_fi + 1) % 14) + (q_co - 1)) % 14)).2.2.2.2.1) ((p_c ((((q_fi + 1) % 14) + (q_co - 1)) % 14)).2.2.2.2.2), bk] [3, 0, 1, 2, 4] rfl (by simp only [List.flatten_cons, List.flatten_nil, List.append_nil, List.append_assoc]) (by show List.flatten [wC g (rg ((((q_fi + 1) % 14) + (q_co - 1)) % 14)) n_la ((p_c ((((q_fi + 1) % 14) + (q_co - 1)) % 14)).1) ((p_c ((((q_fi + 1) % 14) + (q_co - 1)) % 14)).2.1) ((p_c ((((q_fi + 1) % 14) + (q_co - 1)) % 14)).2.2.1) ((p_c ((((q_fi + 1) % 14) + (q_co - 1)) % 14)).2.2.2.1) ((p_c ((((q_fi + 1) % 14) + (q_co - 1)) % 14)).2.2.2.2.1) ((p_c ((((q_fi + 1) % 14) + (q_co - 1)) % 14)).2.2.2.2.2), wA g q_a (fun j => some (rg j 0)) ((q_fi + 1) % 14) (q_co - 1), wC g n_a n_la n_lo n_sk n_db n_yr n_vi n_wy, wP g rg n_la p_c ((((q_fi + 1) % 14) + (q_co - 1)) % 14), bk] = _; simp only [List.flatten_cons, List.flatten_nil, List.append_nil, List.append_assoc]) ?_
    refine V_cVv (C := (RX1, TX1, 7)) (ci := 1) (ws' := (wC g (rg ((((q_fi + 1) % 14) + (q_co - 1)) % 14)) n_la n_lo n_sk n_db n_yr ((p_c ((((q_fi + 1) % 14) + (q_co - 1)) % 14)).2.2.2.2.1) ((p_c ((((q_fi + 1) % 14) + (q_co - 1)) % 14)).2.2.2.2.2)) ++ (wA g q_a (fun j => some (rg j 0)) ((q_fi + 1) % 14) (q_co - 1)) ++ (wC g n_a n_la n_lo n_sk n_db n_yr n_vi n_wy) ++ (wP g rg n_la p_c ((((q_fi + 1) % 14) + (q_co - 1)) % 14)) ++ (bk)) [0, 1, 2, 3, 4, 5, 8, 9, 10, 11, 12, 13] 1 X (c_X1_copyFrom g l (rg ((((q_fi + 1) % 14) + (q_co - 1)) % 14)) n_la ((p_c ((((q_fi + 1) % 14) + (q_co - 1)) % 14)).1) ((p_c ((((q_fi + 1) % 14) + (q_co - 1)) % 14)).2.1) ((p_c ((((q_fi + 1) % 14) + (q_co - 1)) % 14)).2.2.1) ((p_c ((((q_fi + 1) % 14) + (q_co - 1)) % 14)).2.2.2.1) ((p_c ((((q_fi + 1) % 14) + (q_co - 1)) % 14)).2.2.2.2.1) ((p_c ((((q_fi + 1) % 14) + (q_co - 1)) % 14)).2.2.2.2.2) n_a n_la n_lo n_sk n_db n_yr n_vi n_wy   ) k_RX0_27 hy_X1_copyFrom (by decide) rfl (by decide) 0 rfl rfl nX0_remember_50 rfl rfl (Nat.le_of_ble_eq_true rfl) rfl ?_
    refine V_blk (ws' := (wA g q_a (fun j => some (rg j 0)) ((q_fi + 1) % 14) (q_co - 1)) ++ (wC g n_a n_la n_lo n_sk n_db n_yr n_vi n_wy) ++ (wP g rg n_la p_c ((((q_fi + 1) % 14) + (q_co - 1)) % 14)) ++ (wC g (rg ((((q_fi + 1) % 14) + (q_co - 1)) % 14)) n_la n_lo n_sk n_db n_yr ((p_c ((((q_fi + 1) % 14) + (q_co - 1)) % 14)).2.2.2.2.1) ((p_c ((((q_fi + 1) % 14) + (q_co - 1)) % 14)).2.2.2.2.2)) ++ (bk)) [wC g (rg ((((q_fi + 1) % 14) + (q_co - 1)) % 14)) n_la n_lo n_sk n_db n_yr ((p_c ((((q_fi + 1) % 14) + (q_co - 1)) % 14)).2.2.2.2.1) ((p_c ((((q_fi + 1) % 14) + (q_co - 1)) % 14)).2.2.2.2.2), wA g q_a (fun j => some (rg j 0)) ((q_fi + 1) % 14) (q_co - 1), wC g n_a n_la n_lo n_sk n_db n_yr n_vi n_wy, wP g rg n_la p_c ((((q_fi + 1) % 14) + (q_co - 1)) % 14), bk] [1, 2, 3, 0, 4] rfl (by simp only [List.flatten_cons, List.flatten_nil, List.append_nil, List.append_assoc]) (by show List.flatten [wA g q_a (fun j => some (rg j 0)) ((q_fi + 1) % 14) (q_co - 1), wC g n_a n_la n_lo n_sk n_db n_yr n_vi n_wy, wP g rg n_la p_c ((((q_fi + 1) % 14) + (q_co - 1)) % 14), wC g (rg ((((q_fi + 1) % 14) + (q_co - 1)) % 14)) n_la n_lo n_sk n_db n_yr ((p_c ((((q_fi + 1) % 14) + (q_co - 1)) % 14)).2.2.2.2.1) ((p_c ((((q_fi + 1) % 14) + (q_co - 1)) % 14)).2.2.2.2.2), bk] = _; simp only [List.flatten_cons, List.flatten_nil, List.append_nil, List.append_assoc]) ?_
    refine V_ws (ws' := (wA g q_a (fun j => some (rg j 0)) ((q_fi + 1) % 14) (q_co - 1)) ++ (wC g n_a n_la n_lo n_sk n_db n_yr n_vi n_wy) ++ (wP g rg n_la (va_up p_c ((((q_fi + 1) % 14) + (q_co - 1)) % 14) (n_lo, n_sk, n_db, n_yr, (p_c ((((q_fi + 1) % 14) + (q_co - 1)) % 14)).2.2.2.2.1, (p_c ((((q_fi + 1) % 14) + (q_co - 1)) % 14)).2.2.2.2.2)) p_n)) (by rw [hbk (n_lo, n_sk, n_db, n_yr, (p_c ((((q_fi + 1) % 14) + (q_co - 1)) % 14)).2.2.2.2.1, (p_c ((((q_fi + 1) % 14) + (q_co - 1)) % 14)).2.2.2.2.2)]; simp only [List.append_assoc]; try rfl) ?_
    refine V_aload_n nX0_remember_53 rfl ?_
    refine V_dup nX0_remember_54 rfl ?_
    refine V_get0 0 2 (by decide) f_RX0_24 nX0_remember_55 rfl rfl ?_
    refine V_iconst (v := (nI 1)) nX0_remember_58 rfl ?_
    refine V_iadd (v := nI ((q_co - 1) + 1)) nX0_remember_59 (nI_add (q_co - 1) 1) ?_
    refine V_put0 (ws' := (wA g q_a (fun j => some (rg j 0)) ((q_fi + 1) % 14) ((q_co - 1) + 1)) ++ (wC g n_a n_la n_lo n_sk n_db n_yr n_vi n_wy) ++ (wP g rg n_la (va_up p_c ((((q_fi + 1) % 14) + (q_co - 1)) % 14) (n_lo, n_sk, n_db, n_yr, (p_c ((((q_fi + 1) % 14) + (q_co - 1)) % 14)).2.2.2.2.1, (p_c ((((q_fi + 1) % 14) + (q_co - 1)) % 14)).2.2.2.2.2)) p_n)) 0 2 (by decide) f_RX0_24 rfl rfl rfl rfl nX0_remember_60 rfl (Nat.le_of_ble_eq_true rfl) rfl ?_
    exact R_v rfl X hQ nX0_remember_63 (adr_app (adr_app rfl rfl) (wP_fst _ _ _ _ _ _)) (⟨rfl, by subst h6; rfl⟩)

set_option maxHeartbeats 4000000 in
set_option maxRecDepth 100000 in
theorem c_X0_takeBackInto (g : Gx) (l : Launch) (q_a : Nat → Nat) (q_fi : Nat) (q_co : Nat) (n_a : Nat → Nat) (n_la : Nat → Nat) (n_lo : Nat → Int32) (n_sk : Nat → Int32) (n_db : Nat → Int32) (n_yr : Int32) (n_vi : Nat → Int32) (n_wy : Nat → Int32) (p_c : Nat → Cm) (p_n : Nat) (rg : Nat → Nat → Nat)  (hfi : q_fi < 14) (hco : q_co ≤ 14) (hpn : p_n = 14) (hc0 : 0 < q_co) : Cd g l yX0_takeBackInto mX0_takeBackInto ({ frames := 2, cells := 0, slots := 0, locals := 47 } : Room) [.ref (q_a 0), .ref (n_a 0)] ((wA g q_a (fun j => some (rg j 0)) q_fi q_co) ++ (wC g n_a n_la n_lo n_sk n_db n_yr n_vi n_wy) ++ (wP g rg n_la p_c p_n)) none ((wA g q_a (fun j => some (rg j 0)) q_fi (q_co - 1)) ++ (wC g n_a n_la ((p_c ((q_fi + (q_co - 1)) % 14)).1) ((p_c ((q_fi + (q_co - 1)) % 14)).2.1) ((p_c ((q_fi + (q_co - 1)) % 14)).2.2.1) ((p_c ((q_fi + (q_co - 1)) % 14)).2.2.2.1) n_vi n_wy) ++ (wP g rg n_la p_c p_n)) := by
  refine Ct.of (lv := [(0, .ref (q_a 0)), (1, .ref (n_a 0))]) ⟨by decide +kernel, rfl, Nat.le_of_ble_eq_true rfl⟩ rfl (fun E A sz Q X hQ => ?_)
  refine V_aload_n nX0_takeBackInto_0 rfl ?_
  refine V_get0 0 2 (by decide) f_RX0_24 nX0_takeBackInto_1 rfl rfl ?_
  refine V_if_le_N (tgt := 38) nX0_takeBackInto_4 rfl (by omega) (fun h4 => ?_) (fun h4 => ?_)
  · skip
    exact absurd h4 (by omega)
  · skip
    refine V_aload_n nX0_takeBackInto_7 rfl ?_
    refine V_dup nX0_takeBackInto_8 rfl ?_
    refine V_get0 0 2 (by decide) f_RX0_24 nX0_takeBackInto_9 rfl rfl ?_
    refine V_iconst (v := (nI 1)) nX0_takeBackInto_12 rfl ?_
    refine V_isub (v := nI (q_co - 1)) nX0_takeBackInto_13 (pk_sub (by omega)) ?_
    refine V_put0 (ws' := (wA g q_a (fun j => some (rg j 0)) q_fi (q_co - 1)) ++ (wC g n_a n_la n_lo n_sk n_db n_yr n_vi n_wy) ++ (wP g rg n_la p_c p_n)) 0 2 (by decide) f_RX0_24 rfl rfl rfl rfl nX0_takeBackInto_14 rfl (Nat.le_of_ble_eq_true rfl) rfl ?_
    refine V_aload_n nX0_takeBackInto_17 rfl ?_
    refine V_aload_n nX0_takeBackInto_18 rfl ?_
    refine V_get0 0 0 (by decide) f_RX0_11 nX0_takeBackInto_19 rfl rfl ?_
    refine V_aload_n nX0_takeBackInto_22 rfl ?_
    refine V_get0 0 1 (by decide) f_RX0_20 nX0_takeBackInto_23 rfl rfl ?_
    refine V_aload_n nX0_takeBackInto_26 rfl ?_
    refine V_get0 0 2 (by decide) f_RX0_24 nX0_takeBackInto_27 rfl rfl ?_
    refine V_iadd (v := nI (q_fi + (q_co - 1))) nX0_takeBackInto_30 (nI_add q_fi (q_co - 1)) ?_
    refine V_bipush (v := (nI 14)) nX0_takeBackInto_31 (by decide) ?_
    refine V_irem (v := nI ((q_fi + (q_co - 1)) % 14)) nX0_takeBackInto_33 (nI_ne0 (by omega) (by omega)) (pk_rem (by omega) (by omega) (by omega)) ?_
    refine V_aald (b := rg ((q_fi + (q_co - 1)) % 14) 0) 1 nX0_takeBackInto_34 rfl (by omega) (by decide) (rfl) ?_
    obtain ⟨bk, hbk⟩ := wP_split g rg n_la p_c ((q_fi + (q_co - 1)) % 14) p_n (by omega)
    refine V_ws (ws' := (wA g q_a (fun j => some (rg j 0)) q_fi (q_co - 1)) ++ (wC g n_a n_la n_lo n_sk n_db n_yr n_vi n_wy) ++ (wP g rg n_la p_c ((q_fi + (q_co - 1)) % 14)) ++ (wC g (rg ((q_fi + (q_co - 1)) % 14)) n_la ((p_c ((q_fi + (q_co - 1)) % 14)).1) ((p_c ((q_fi + (q_co - 1)) % 14)).2.1) ((p_c ((q_fi + (q_co - 1)) % 14)).2.2.1) ((p_c ((q_fi + (q_co - 1)) % 14)).2.2.2.1) ((p_c ((q_fi + (q_co - 1)) % 14)).2.2.2.2.1) ((p_c ((q_fi + (q_co - 1)) % 14)).2.2.2.2.2)) ++ (bk)) (by rw [wP_out hbk]; simp only [List.append_assoc]; try rfl) ?_
    refine V_blk (ws' := (wC g (rg ((q_fi + (q_co - 1)) % 14)) n_la ((p_c ((q_fi + (q_co - 1)) % 14)).1) ((p_c ((q_fi + (q_co - 1)) % 14)).2.1) ((p_c ((q_fi + (q_co - 1)) % 14)).2.2.1) ((p_c ((q_fi + (q_co - 1)) % 14)).2.2.2.1) ((p_c ((q_fi + (q_co - 1)) % 14)).2.2.2.2.1) ((p_c ((q_fi + (q_co - 1)) % 14)).2.2.2.2.2)) ++ (wA g q_a (fun j => some (rg j 0)) q_fi (q_co - 1)) ++ (wC g n_a n_la n_lo n_sk n_db n_yr n_vi n_wy) ++ (wP g rg n_la p_c ((q_fi + (q_co - 1)) % 14)) ++ (bk)) [wA g q_a (fun j => some (rg j 0)) q_fi (q_co - 1), wC g n_a n_la n_lo n_sk n_db n_yr n_vi n_wy, wP g rg n_la p_c ((q_fi + (q_co - 1)) % 14), wC g (rg ((q_fi + (q_co - 1)) % 14)) n_la ((p_c ((q_fi + (q_co - 1)) % 14)).1) ((p_c ((q_fi + (q_co - 1)) % 14)).2.1) ((p_c ((q_fi + (q_co - 1)) % 14)).2.2.1) ((p_c ((q_fi + (q_co - 1)) % 14)).2.2.2.1) ((p_c ((q_fi + (q_co - 1)) % 14)).2.2.2.2.1) ((p_c ((q_fi + (q_co - 1)) % 14)).2.2.2.2.2), bk] [3, 0, 1, 2, 4] rfl (by simp only [List.flatten_cons, List.flatten_nil, List.append_nil, List.append_assoc]) (by show List.flatten [wC g (rg ((q_fi + (q_co - 1)) % 14)) n_la ((p_c ((q_fi + (q_co - 1)) % 14)).1) ((p_c ((q_fi + (q_co - 1)) % 14)).2.1) ((p_c ((q_fi + (q_co - 1)) % 14)).2.2.1) ((p_c ((q_fi + (q_co - 1)) % 14)).2.2.2.1) ((p_c ((q_fi + (q_co - 1)) % 14)).2.2.2.2.1) ((p_c ((q_fi + (q_co - 1)) % 14)).2.2.2.2.2), wA g q_a (fun j => some (rg j 0)) q_fi (q_co - 1), wC g n_a n_la n_lo n_sk n_db n_yr n_vi n_wy, wP g rg n_la p_c ((q_fi + (q_co - 1)) % 14), bk] = _; simp only [List.flatten_cons, List.flatten_nil, List.append_nil, List.append_assoc]) ?_
    refine V_cVv (C := (RX1, TX1, 7)) (ci := 1) (ws' := (wC g (rg ((q_fi + (q_co - 1)) % 14)) n_la ((p_c ((q_fi + (q_co - 1)) % 14)).1) ((p_c ((q_fi + (q_co - 1)) % 14)).2.1) ((p_c ((q_fi + (q_co - 1)) % 14)).2.2.1) ((p_c ((q_fi + (q_co - 1)) % 14)).2.2.2.1) ((p_c ((q_fi + (q_co - 1)) % 14)).2.2.2.2.1) ((p_c ((q_fi + (q_co - 1)) % 14)).2.2.2.2.2)) ++ (wA g q_a (fun j => some (rg j 0)) q_fi (q_co - 1)) ++ (wC g n_a n_la ((p_c ((q_fi + (q_co - 1)) % 14)).1) ((p_c ((q_fi + (q_co - 1)) % 14)).2.1) ((p_c ((q_fi + (q_co - 1)) % 14)).2.2.1) ((p_c ((q_fi + (q_co - 1)) % 14)).2.2.2.1) n_vi n_wy) ++ (wP g rg n_la p_c ((q_fi + (q_co - 1)) % 14)) ++ (bk)) [8, 9, 10, 11, 12, 13, 0, 1, 2, 3, 4, 5] 1 X (c_X1_copyFrom g l n_a n_la n_lo n_sk n_db n_yr n_vi n_wy (rg ((q_fi + (q_co - 1)) % 14)) n_la ((p_c ((q_fi + (q_co - 1)) % 14)).1) ((p_c ((q_fi + (q_co - 1)) % 14)).2.1) ((p_c ((q_fi + (q_co - 1)) % 14)).2.2.1) ((p_c ((q_fi + (q_co - 1)) % 14)).2.2.2.1) ((p_c ((q_fi + (q_co - 1)) % 14)).2.2.2.2.1) ((p_c ((q_fi + (q_co - 1)) % 14)).2.2.2.2.2)   ) k_RX0_27 hy_X1_copyFrom (by decide) rfl (by decide) 0 rfl rfl nX0_takeBackInto_35 rfl rfl (Nat.le_of_ble_eq_true rfl) rfl ?_
    refine V_blk (ws' := (wA g q_a (fun j => some (rg j 0)) q_fi (q_co - 1)) ++ (wC g n_a n_la ((p_c ((q_fi + (q_co - 1)) % 14)).1) ((p_c ((q_fi + (q_co - 1)) % 14)).2.1) ((p_c ((q_fi + (q_co - 1)) % 14)).2.2.1) ((p_c ((q_fi + (q_co - 1)) % 14)).2.2.2.1) n_vi n_wy) ++ (wP g rg n_la p_c ((q_fi + (q_co - 1)) % 14)) ++ (wC g (rg ((q_fi + (q_co - 1)) % 14)) n_la ((p_c ((q_fi + (q_co - 1)) % 14)).1) ((p_c ((q_fi + (q_co - 1)) % 14)).2.1) ((p_c ((q_fi + (q_co - 1)) % 14)).2.2.1) ((p_c ((q_fi + (q_co - 1)) % 14)).2.2.2.1) ((p_c ((q_fi + (q_co - 1)) % 14)).2.2.2.2.1) ((p_c ((q_fi + (q_co - 1)) % 14)).2.2.2.2.2)) ++ (bk)) [wC g (rg ((q_fi + (q_co - 1)) % 14)) n_la ((p_c ((q_fi + (q_co - 1)) % 14)).1) ((p_c ((q_fi + (q_co - 1)) % 14)).2.1) ((p_c ((q_fi + (q_co - 1)) % 14)).2.2.1) ((p_c ((q_fi + (q_co - 1)) % 14)).2.2.2.1) ((p_c ((q_fi + (q_co - 1)) % 14)).2.2.2.2.1) ((p_c ((q_fi + (q_co - 1)) % 14)).2.2.2.2.2), wA g q_a (fun j => some (rg j 0)) q_fi (q_co - 1), wC g n_a n_la ((p_c ((q_fi + (q_co - 1)) % 14)).1) ((p_c ((q_fi + (q_co - 1)) % 14)).2.1) ((p_c ((q_fi + (q_co - 1)) % 14)).2.2.1) ((p_c ((q_fi + (q_co - 1)) % 14)).2.2.2.1) n_vi n_wy, wP g rg n_la p_c ((q_fi + (q_co - 1)) % 14), bk] [1, 2, 3, 0, 4] rfl (by simp only [List.flatten_cons, List.flatten_nil, List.append_nil, List.append_assoc]) (by show List.flatten [wA g q_a (fun j => some (rg j 0)) q_fi (q_co - 1), wC g n_a n_la ((p_c ((q_fi + (q_co - 1)) % 14)).1) ((p_c ((q_fi + (q_co - 1)) % 14)).2.1) ((p_c ((q_fi + (q_co - 1)) % 14)).2.2.1) ((p_c ((q_fi + (q_co - 1)) % 14)).2.2.2.1) n_vi n_wy, wP g rg n_la p_c ((q_fi + (q_co - 1)) % 14), wC g (rg ((q_fi + (q_co - 1)) % 14)) n_la ((p_c ((q_fi + (q_co - 1)) % 14)).1) ((p_c ((q_fi + (q_co - 1)) % 14)).2.1) ((p_c ((q_fi + (q_co - 1)) % 14)).2.2.1) ((p_c ((q_fi + (q_co - 1)) % 14)).2.2.2.1) ((p_c ((q_fi + (q_co - 1)) % 14)).2.2.2.2.1) ((p_c ((q_fi + (q_co - 1)) % 14)).2.2.2.2.2), bk] = _; simp only [List.flatten_cons, List.flatten_nil, List.append_nil, List.append_assoc]) ?_
    refine V_ws (ws' := (wA g q_a (fun j => some (rg j 0)) q_fi (q_co - 1)) ++ (wC g n_a n_la ((p_c ((q_fi + (q_co - 1)) % 14)).1) ((p_c ((q_fi + (q_co - 1)) % 14)).2.1) ((p_c ((q_fi + (q_co - 1)) % 14)).2.2.1) ((p_c ((q_fi + (q_co - 1)) % 14)).2.2.2.1) n_vi n_wy) ++ (wP g rg n_la (va_up p_c ((q_fi + (q_co - 1)) % 14) ((p_c ((q_fi + (q_co - 1)) % 14)).1, (p_c ((q_fi + (q_co - 1)) % 14)).2.1, (p_c ((q_fi + (q_co - 1)) % 14)).2.2.1, (p_c ((q_fi + (q_co - 1)) % 14)).2.2.2.1, (p_c ((q_fi + (q_co - 1)) % 14)).2.2.2.2.1, (p_c ((q_fi + (q_co - 1)) % 14)).2.2.2.2.2)) p_n)) (by rw [hbk ((p_c ((q_fi + (q_co - 1)) % 14)).1, (p_c ((q_fi + (q_co - 1)) % 14)).2.1, (p_c ((q_fi + (q_co - 1)) % 14)).2.2.1, (p_c ((q_fi + (q_co - 1)) % 14)).2.2.2.1, (p_c ((q_fi + (q_co - 1)) % 14)).2.2.2.2.1, (p_c ((q_fi + (q_co - 1)) % 14)).2.2.2.2.2)]; simp only [List.append_assoc]; try rfl) ?_
    refine V_ws (ws' := (wA g q_a (fun j => some (rg j 0)) q_fi (q_co - 1)) ++ (wC g n_a n_la ((p_c ((q_fi + (q_co - 1)) % 14)).1) ((p_c ((q_fi + (q_co - 1)) % 14)).2.1) ((p_c ((q_fi + (q_co - 1)) % 14)).2.2.1) ((p_c ((q_fi + (q_co - 1)) % 14)).2.2.2.1) n_vi n_wy) ++ (wP g rg n_la p_c p_n)) (by rw [va_up_id p_c]) ?_
    exact R_v rfl X hQ nX0_takeBackInto_38 (adr_app (adr_app rfl rfl) (wP_fst _ _ _ _ _ _)) (⟨rfl, rfl⟩)
end
