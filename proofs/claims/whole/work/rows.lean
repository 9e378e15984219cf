section
-- ===== PART A: goes FIRST, ahead of the names: the tables' words, and 'selects' of the private methods out of them =====
/-- a private method of a class that the tables say can be made, by its rows of tables_1 -/
def lw_okq (q : MethodName × Nat) : Prop := (q.1.cls ≠ "java/lang/invoke/MethodHandle" ∧ q.1.cls ≠ "java/lang/invoke/VarHandle") ∧ Cond.instantiable q.1.cls q.2 ∈ tables_1 ∧ Cond.privateMethod q.1 ∈ tables_1 ∧ Cond.instanceMethod q.1 ∈ tables_1
theorem lw_p0 : lw_okq (⟨"FallWith$Acts", "lets", "(II)Z"⟩, 8) := ⟨⟨by decide +kernel, by decide +kernel⟩, List.mem_of_getElem? (i := 18) (by decide +kernel), List.mem_of_getElem? (i := 210) (by decide +kernel), List.mem_of_getElem? (i := 211) (by decide +kernel)⟩
theorem lw_p1 : lw_okq (⟨"FallWith$Acts", "isInTime", "(II)Z"⟩, 8) := ⟨⟨by decide +kernel, by decide +kernel⟩, List.mem_of_getElem? (i := 18) (by decide +kernel), List.mem_of_getElem? (i := 214) (by decide +kernel), List.mem_of_getElem? (i := 215) (by decide +kernel)⟩
theorem lw_p2 : lw_okq (⟨"FallWith$Acts", "isHealed", "(II)Z"⟩, 8) := ⟨⟨by decide +kernel, by decide +kernel⟩, List.mem_of_getElem? (i := 18) (by decide +kernel), List.mem_of_getElem? (i := 222) (by decide +kernel), List.mem_of_getElem? (i := 223) (by decide +kernel)⟩
theorem lw_p3 : lw_okq (⟨"FallWith", "soundOn", "(I)I"⟩, 5) := ⟨⟨by decide +kernel, by decide +kernel⟩, List.mem_of_getElem? (i := 10) (by decide +kernel), List.mem_of_getElem? (i := 234) (by decide +kernel), List.mem_of_getElem? (i := 235) (by decide +kernel)⟩
theorem lw_p4 : lw_okq (⟨"FallWith", "exempt", "()I"⟩, 5) := ⟨⟨by decide +kernel, by decide +kernel⟩, List.mem_of_getElem? (i := 10) (by decide +kernel), List.mem_of_getElem? (i := 251) (by decide +kernel), List.mem_of_getElem? (i := 252) (by decide +kernel)⟩
theorem lw_p5 : lw_okq (⟨"FallWith$Acts", "isHeldUp", "(II)Z"⟩, 8) := ⟨⟨by decide +kernel, by decide +kernel⟩, List.mem_of_getElem? (i := 18) (by decide +kernel), List.mem_of_getElem? (i := 273) (by decide +kernel), List.mem_of_getElem? (i := 274) (by decide +kernel)⟩
theorem lw_p6 : lw_okq (⟨"FallWith$Acts", "heldUpOf", "(II)I"⟩, 8) := ⟨⟨by decide +kernel, by decide +kernel⟩, List.mem_of_getElem? (i := 18) (by decide +kernel), List.mem_of_getElem? (i := 281) (by decide +kernel), List.mem_of_getElem? (i := 282) (by decide +kernel)⟩
theorem lw_p7 : lw_okq (⟨"FallWith$Acts", "everyOne", "()I"⟩, 8) := ⟨⟨by decide +kernel, by decide +kernel⟩, List.mem_of_getElem? (i := 18) (by decide +kernel), List.mem_of_getElem? (i := 300) (by decide +kernel), List.mem_of_getElem? (i := 301) (by decide +kernel)⟩
theorem lw_p8 : lw_okq (⟨"FallWith", "fallen", "(II)I"⟩, 5) := ⟨⟨by decide +kernel, by decide +kernel⟩, List.mem_of_getElem? (i := 10) (by decide +kernel), List.mem_of_getElem? (i := 314) (by decide +kernel), List.mem_of_getElem? (i := 315) (by decide +kernel)⟩
theorem lw_p9 : lw_okq (⟨"FallWith", "stepCount", "(II)I"⟩, 5) := ⟨⟨by decide +kernel, by decide +kernel⟩, List.mem_of_getElem? (i := 10) (by decide +kernel), List.mem_of_getElem? (i := 321) (by decide +kernel), List.mem_of_getElem? (i := 322) (by decide +kernel)⟩
theorem lw_p10 : lw_okq (⟨"FallWith", "stepAt", "(III)I"⟩, 5) := ⟨⟨by decide +kernel, by decide +kernel⟩, List.mem_of_getElem? (i := 10) (by decide +kernel), List.mem_of_getElem? (i := 325) (by decide +kernel), List.mem_of_getElem? (i := 326) (by decide +kernel)⟩
theorem lw_p11 : lw_okq (⟨"FallWith", "wiseWho", "(III)I"⟩, 5) := ⟨⟨by decide +kernel, by decide +kernel⟩, List.mem_of_getElem? (i := 10) (by decide +kernel), List.mem_of_getElem? (i := 345) (by decide +kernel), List.mem_of_getElem? (i := 346) (by decide +kernel)⟩
theorem lw_p12 : lw_okq (⟨"FallWith", "firstWiseAct", "(II)I"⟩, 5) := ⟨⟨by decide +kernel, by decide +kernel⟩, List.mem_of_getElem? (i := 10) (by decide +kernel), List.mem_of_getElem? (i := 353) (by decide +kernel), List.mem_of_getElem? (i := 354) (by decide +kernel)⟩
theorem lw_p13 : lw_okq (⟨"FallWith", "fewestHealed", "(II)I"⟩, 5) := ⟨⟨by decide +kernel, by decide +kernel⟩, List.mem_of_getElem? (i := 10) (by decide +kernel), List.mem_of_getElem? (i := 365) (by decide +kernel), List.mem_of_getElem? (i := 366) (by decide +kernel)⟩
theorem lw_p14 : lw_okq (⟨"FallWith", "indispensable", "(IIII)I"⟩, 5) := ⟨⟨by decide +kernel, by decide +kernel⟩, List.mem_of_getElem? (i := 10) (by decide +kernel), List.mem_of_getElem? (i := 373) (by decide +kernel), List.mem_of_getElem? (i := 374) (by decide +kernel)⟩
theorem lw_p15 : lw_okq (⟨"FallWith", "allStand", "(III)Z"⟩, 5) := ⟨⟨by decide +kernel, by decide +kernel⟩, List.mem_of_getElem? (i := 10) (by decide +kernel), List.mem_of_getElem? (i := 377) (by decide +kernel), List.mem_of_getElem? (i := 378) (by decide +kernel)⟩
def lw_privs_1 : List (MethodName × Nat) := [(⟨"FallWith$Acts", "lets", "(II)Z"⟩, 8), (⟨"FallWith$Acts", "isInTime", "(II)Z"⟩, 8), (⟨"FallWith$Acts", "isHealed", "(II)Z"⟩, 8), (⟨"FallWith", "soundOn", "(I)I"⟩, 5), (⟨"FallWith", "exempt", "()I"⟩, 5), (⟨"FallWith$Acts", "isHeldUp", "(II)Z"⟩, 8), (⟨"FallWith$Acts", "heldUpOf", "(II)I"⟩, 8), (⟨"FallWith$Acts", "everyOne", "()I"⟩, 8), (⟨"FallWith", "fallen", "(II)I"⟩, 5), (⟨"FallWith", "stepCount", "(II)I"⟩, 5), (⟨"FallWith", "stepAt", "(III)I"⟩, 5), (⟨"FallWith", "wiseWho", "(III)I"⟩, 5), (⟨"FallWith", "firstWiseAct", "(II)I"⟩, 5), (⟨"FallWith", "fewestHealed", "(II)I"⟩, 5), (⟨"FallWith", "indispensable", "(IIII)I"⟩, 5), (⟨"FallWith", "allStand", "(III)Z"⟩, 5)]
theorem lw_r1 : ∀ q ∈ lw_privs_1, lw_okq q := List.forall_mem_cons.mpr ⟨lw_p0, List.forall_mem_cons.mpr ⟨lw_p1, List.forall_mem_cons.mpr ⟨lw_p2, List.forall_mem_cons.mpr ⟨lw_p3, List.forall_mem_cons.mpr ⟨lw_p4, List.forall_mem_cons.mpr ⟨lw_p5, List.forall_mem_cons.mpr ⟨lw_p6, List.forall_mem_cons.mpr ⟨lw_p7, List.forall_mem_cons.mpr ⟨lw_p8, List.forall_mem_cons.mpr ⟨lw_p9, List.forall_mem_cons.mpr ⟨lw_p10, List.forall_mem_cons.mpr ⟨lw_p11, List.forall_mem_cons.mpr ⟨lw_p12, List.forall_mem_cons.mpr ⟨lw_p13, List.forall_mem_cons.mpr ⟨lw_p14, List.forall_mem_cons.mpr ⟨lw_p15, fun _ h => absurd h List.not_mem_nil⟩⟩⟩⟩⟩⟩⟩⟩⟩⟩⟩⟩⟩⟩⟩⟩
theorem lw_p16 : lw_okq (⟨"FallWith", "withstands", "(III)Z"⟩, 5) := ⟨⟨by decide +kernel, by decide +kernel⟩, List.mem_of_getElem? (i := 10) (by decide +kernel), List.mem_of_getElem? (i := 404) (by decide +kernel), List.mem_of_getElem? (i := 405) (by decide +kernel)⟩
theorem lw_p17 : lw_okq (⟨"FallWithModel", "isAct", "(I)Z"⟩, 21) := ⟨⟨by decide +kernel, by decide +kernel⟩, List.mem_of_getElem? (i := 416) (by decide +kernel), List.mem_of_getElem? (i := 505) (by decide +kernel), List.mem_of_getElem? (i := 506) (by decide +kernel)⟩
theorem lw_p18 : lw_okq (⟨"FallWithModel", "wouldCount", "(III)Z"⟩, 21) := ⟨⟨by decide +kernel, by decide +kernel⟩, List.mem_of_getElem? (i := 416) (by decide +kernel), List.mem_of_getElem? (i := 549) (by decide +kernel), List.mem_of_getElem? (i := 550) (by decide +kernel)⟩
theorem lw_p19 : lw_okq (⟨"FallWithModel", "isHealed", "(II)Z"⟩, 21) := ⟨⟨by decide +kernel, by decide +kernel⟩, List.mem_of_getElem? (i := 416) (by decide +kernel), List.mem_of_getElem? (i := 553) (by decide +kernel), List.mem_of_getElem? (i := 554) (by decide +kernel)⟩
theorem lw_p20 : lw_okq (⟨"FallWithModel", "soundOf", "(I)I"⟩, 21) := ⟨⟨by decide +kernel, by decide +kernel⟩, List.mem_of_getElem? (i := 416) (by decide +kernel), List.mem_of_getElem? (i := 566) (by decide +kernel), List.mem_of_getElem? (i := 567) (by decide +kernel)⟩
theorem lw_p21 : lw_okq (⟨"FallWithModel", "isSound", "(II)Z"⟩, 21) := ⟨⟨by decide +kernel, by decide +kernel⟩, List.mem_of_getElem? (i := 416) (by decide +kernel), List.mem_of_getElem? (i := 570) (by decide +kernel), List.mem_of_getElem? (i := 571) (by decide +kernel)⟩
theorem lw_p22 : lw_okq (⟨"FallWithModel", "isAsked", "(II)Z"⟩, 21) := ⟨⟨by decide +kernel, by decide +kernel⟩, List.mem_of_getElem? (i := 416) (by decide +kernel), List.mem_of_getElem? (i := 574) (by decide +kernel), List.mem_of_getElem? (i := 575) (by decide +kernel)⟩
theorem lw_p23 : lw_okq (⟨"FallWithModel", "mostOf", "(I)I"⟩, 21) := ⟨⟨by decide +kernel, by decide +kernel⟩, List.mem_of_getElem? (i := 416) (by decide +kernel), List.mem_of_getElem? (i := 578) (by decide +kernel), List.mem_of_getElem? (i := 579) (by decide +kernel)⟩
theorem lw_p24 : lw_okq (⟨"FallWithModel", "loose", "(I)I"⟩, 21) := ⟨⟨by decide +kernel, by decide +kernel⟩, List.mem_of_getElem? (i := 416) (by decide +kernel), List.mem_of_getElem? (i := 582) (by decide +kernel), List.mem_of_getElem? (i := 583) (by decide +kernel)⟩
theorem lw_p25 : lw_okq (⟨"FallWithModel", "isHeld", "(II)Z"⟩, 21) := ⟨⟨by decide +kernel, by decide +kernel⟩, List.mem_of_getElem? (i := 416) (by decide +kernel), List.mem_of_getElem? (i := 586) (by decide +kernel), List.mem_of_getElem? (i := 587) (by decide +kernel)⟩
theorem lw_p26 : lw_okq (⟨"FallWithModel", "leastOf", "(I)I"⟩, 21) := ⟨⟨by decide +kernel, by decide +kernel⟩, List.mem_of_getElem? (i := 416) (by decide +kernel), List.mem_of_getElem? (i := 590) (by decide +kernel), List.mem_of_getElem? (i := 591) (by decide +kernel)⟩
theorem lw_p27 : lw_okq (⟨"FallWithModel", "standing", "(I)I"⟩, 21) := ⟨⟨by decide +kernel, by decide +kernel⟩, List.mem_of_getElem? (i := 416) (by decide +kernel), List.mem_of_getElem? (i := 598) (by decide +kernel), List.mem_of_getElem? (i := 599) (by decide +kernel)⟩
theorem lw_p28 : lw_okq (⟨"FallWithModel", "namedBy", "(I)I"⟩, 21) := ⟨⟨by decide +kernel, by decide +kernel⟩, List.mem_of_getElem? (i := 416) (by decide +kernel), List.mem_of_getElem? (i := 606) (by decide +kernel), List.mem_of_getElem? (i := 607) (by decide +kernel)⟩
theorem lw_p29 : lw_okq (⟨"FallWithModel", "fallOf", "(II)I"⟩, 21) := ⟨⟨by decide +kernel, by decide +kernel⟩, List.mem_of_getElem? (i := 416) (by decide +kernel), List.mem_of_getElem? (i := 614) (by decide +kernel), List.mem_of_getElem? (i := 615) (by decide +kernel)⟩
theorem lw_p30 : lw_okq (⟨"FallWithModel", "backOf", "(III)I"⟩, 21) := ⟨⟨by decide +kernel, by decide +kernel⟩, List.mem_of_getElem? (i := 416) (by decide +kernel), List.mem_of_getElem? (i := 624) (by decide +kernel), List.mem_of_getElem? (i := 625) (by decide +kernel)⟩
theorem lw_p31 : lw_okq (⟨"FallWithModel", "wiseOf", "(II)I"⟩, 21) := ⟨⟨by decide +kernel, by decide +kernel⟩, List.mem_of_getElem? (i := 416) (by decide +kernel), List.mem_of_getElem? (i := 633) (by decide +kernel), List.mem_of_getElem? (i := 634) (by decide +kernel)⟩
def lw_privs_2 : List (MethodName × Nat) := [(⟨"FallWith", "withstands", "(III)Z"⟩, 5), (⟨"FallWithModel", "isAct", "(I)Z"⟩, 21), (⟨"FallWithModel", "wouldCount", "(III)Z"⟩, 21), (⟨"FallWithModel", "isHealed", "(II)Z"⟩, 21), (⟨"FallWithModel", "soundOf", "(I)I"⟩, 21), (⟨"FallWithModel", "isSound", "(II)Z"⟩, 21), (⟨"FallWithModel", "isAsked", "(II)Z"⟩, 21), (⟨"FallWithModel", "mostOf", "(I)I"⟩, 21), (⟨"FallWithModel", "loose", "(I)I"⟩, 21), (⟨"FallWithModel", "isHeld", "(II)Z"⟩, 21), (⟨"FallWithModel", "leastOf", "(I)I"⟩, 21), (⟨"FallWithModel", "standing", "(I)I"⟩, 21), (⟨"FallWithModel", "namedBy", "(I)I"⟩, 21), (⟨"FallWithModel", "fallOf", "(II)I"⟩, 21), (⟨"FallWithModel", "backOf", "(III)I"⟩, 21), (⟨"FallWithModel", "wiseOf", "(II)I"⟩, 21)]
theorem lw_r2 : ∀ q ∈ lw_privs_2, lw_okq q := List.forall_mem_cons.mpr ⟨lw_p16, List.forall_mem_cons.mpr ⟨lw_p17, List.forall_mem_cons.mpr ⟨lw_p18, List.forall_mem_cons.mpr ⟨lw_p19, List.forall_mem_cons.mpr ⟨lw_p20, List.forall_mem_cons.mpr ⟨lw_p21, List.forall_mem_cons.mpr ⟨lw_p22, List.forall_mem_cons.mpr ⟨lw_p23, List.forall_mem_cons.mpr ⟨lw_p24, List.forall_mem_cons.mpr ⟨lw_p25, List.forall_mem_cons.mpr ⟨lw_p26, List.forall_mem_cons.mpr ⟨lw_p27, List.forall_mem_cons.mpr ⟨lw_p28, List.forall_mem_cons.mpr ⟨lw_p29, List.forall_mem_cons.mpr ⟨lw_p30, List.forall_mem_cons.mpr ⟨lw_p31, fun _ h => absurd h List.not_mem_nil⟩⟩⟩⟩⟩⟩⟩⟩⟩⟩⟩⟩⟩⟩⟩⟩
theorem lw_p32 : lw_okq (⟨"FallWithModel", "isSet", "(I)Z"⟩, 21) := ⟨⟨by decide +kernel, by decide +kernel⟩, List.mem_of_getElem? (i := 416) (by decide +kernel), List.mem_of_getElem? (i := 645) (by decide +kernel), List.mem_of_getElem? (i := 646) (by decide +kernel)⟩
theorem lw_p33 : lw_okq (⟨"FallWithModel", "isSafeOn", "(II)Z"⟩, 21) := ⟨⟨by decide +kernel, by decide +kernel⟩, List.mem_of_getElem? (i := 416) (by decide +kernel), List.mem_of_getElem? (i := 664) (by decide +kernel), List.mem_of_getElem? (i := 665) (by decide +kernel)⟩
def lw_privs_3 : List (MethodName × Nat) := [(⟨"FallWithModel", "isSet", "(I)Z"⟩, 21), (⟨"FallWithModel", "isSafeOn", "(II)Z"⟩, 21)]
theorem lw_r3 : ∀ q ∈ lw_privs_3, lw_okq q := List.forall_mem_cons.mpr ⟨lw_p32, List.forall_mem_cons.mpr ⟨lw_p33, fun _ h => absurd h List.not_mem_nil⟩⟩
def lw_privs : List (MethodName × Nat) := lw_privs_1 ++ (lw_privs_2 ++ (lw_privs_3))
def lw_tbl : List Cond := k2_sels lw_privs ++ tables_1
theorem lw_privs_ok : ∀ q ∈ lw_privs, lw_okq q := by
  show ∀ q ∈ lw_privs_1 ++ (lw_privs_2 ++ (lw_privs_3)), lw_okq q
  exact List.forall_mem_append.mpr ⟨lw_r1, List.forall_mem_append.mpr ⟨lw_r2, lw_r3⟩⟩
-- ===== end of PART A; then your names; then what follows =====
end
section
def RX0 : String := "FallWith$Acts"
def TX0 : u_T := fun k => match k with
  | 0 => ("FallWith$Acts", "day", "[I", true)
  | 1 => ("FallWith$Acts", "giver", "[I", true)
  | 2 => ("FallWith$Acts", "taker", "[I", true)
  | 3 => ("FallWith$Acts", "worth", "[I", true)
  | 4 => ("FallWith$Acts", "settings", "[[I", true)
  | 5 => ("FallWith$Acts", "allCount", "[I", true)
  | 6 => ("FallWith$Acts", "alls", "[[I", true)
  | _ => ("FallWith$Acts", "count", "I", false)
def tyX0 : Nat → FieldType := fun k => match k with
  | 0 => .array .int
  | 1 => .array .int
  | 2 => .array .int
  | 3 => .array .int
  | 4 => .array (.array .int)
  | 5 => .array .int
  | 6 => .array (.array .int)
  | _ => .int
abbrev wsX00 : List Cond := u_ws RX0 TX0 8
theorem nmX0 : ∀ a, a < 8 → ∀ b, b < 8 → a ≠ b → (TX0 a).2.1 ≠ (TX0 b).2.1 := by decide +kernel
theorem tyX0_ok : ∀ k, k < 8 → parseFieldDescriptor (TX0 k).2.2.1 = some (tyX0 k) := by decide +kernel
abbrev cX0_init : ByteArray := prog_2_method_1_code
def yX0_init : MethodName := ⟨RX0, "<init>", "()V"⟩
abbrev cX0_add : ByteArray := prog_2_method_2_code
def yX0_add : MethodName := ⟨RX0, "add", "(IIII)I"⟩
abbrev cX0_has : ByteArray := prog_2_method_3_code
def yX0_has : MethodName := ⟨RX0, "has", "(I)Z"⟩
abbrev cX0_hasAll : ByteArray := prog_2_method_4_code
def yX0_hasAll : MethodName := ⟨RX0, "hasAll", "(I)Z"⟩
abbrev cX0_everyOne : ByteArray := prog_2_method_5_code
def yX0_everyOne : MethodName := ⟨RX0, "everyOne", "()I"⟩
abbrev cX0_takeText : ByteArray := prog_2_method_6_code
def yX0_takeText : MethodName := ⟨RX0, "takeText", "(ILFallWith$Pad;)V"⟩
abbrev cX0_named : ByteArray := prog_2_method_7_code
def yX0_named : MethodName := ⟨RX0, "named", "(I)I"⟩
abbrev cX0_namedByAny : ByteArray := prog_2_method_8_code
def yX0_namedByAny : MethodName := ⟨RX0, "namedByAny", "(I)I"⟩
abbrev cX0_goodOnes : ByteArray := prog_2_method_9_code
def yX0_goodOnes : MethodName := ⟨RX0, "goodOnes", "()I"⟩
abbrev cX0_isDone : ByteArray := prog_2_method_10_code
def yX0_isDone : MethodName := ⟨RX0, "isDone", "(II)Z"⟩
abbrev cX0_doneBy : ByteArray := prog_2_method_11_code
def yX0_doneBy : MethodName := ⟨RX0, "doneBy", "(I)I"⟩
abbrev cX0_isHealed : ByteArray := prog_2_method_12_code
def yX0_isHealed : MethodName := ⟨RX0, "isHealed", "(II)Z"⟩
abbrev cX0_isNought : ByteArray := prog_2_method_13_code
def yX0_isNought : MethodName := ⟨RX0, "isNought", "(II)Z"⟩
abbrev cX0_unhurtOn : ByteArray := prog_2_method_14_code
def yX0_unhurtOn : MethodName := ⟨RX0, "unhurtOn", "(I)I"⟩
abbrev cX0_wouldCount : ByteArray := prog_2_method_15_code
def yX0_wouldCount : MethodName := ⟨RX0, "wouldCount", "(III)Z"⟩
abbrev cX0_lets : ByteArray := prog_2_method_16_code
def yX0_lets : MethodName := ⟨RX0, "lets", "(II)Z"⟩
abbrev cX0_isInTime : ByteArray := prog_2_method_17_code
def yX0_isInTime : MethodName := ⟨RX0, "isInTime", "(II)Z"⟩
abbrev cX0_askableOn : ByteArray := prog_2_method_18_code
def yX0_askableOn : MethodName := ⟨RX0, "askableOn", "(I)I"⟩
abbrev cX0_isHeldUp : ByteArray := prog_2_method_19_code
def yX0_isHeldUp : MethodName := ⟨RX0, "isHeldUp", "(II)Z"⟩
abbrev cX0_unheld : ByteArray := prog_2_method_20_code
def yX0_unheld : MethodName := ⟨RX0, "unheld", "(II)I"⟩
abbrev cX0_most : ByteArray := prog_2_method_21_code
def yX0_most : MethodName := ⟨RX0, "most", "(II)I"⟩
abbrev cX0_least : ByteArray := prog_2_method_22_code
def yX0_least : MethodName := ⟨RX0, "least", "(II)I"⟩
abbrev cX0_heldUpOf : ByteArray := prog_2_method_23_code
def yX0_heldUpOf : MethodName := ⟨RX0, "heldUpOf", "(II)I"⟩
abbrev cX0_gain : ByteArray := prog_2_method_24_code
def yX0_gain : MethodName := ⟨RX0, "gain", "(IIII)I"⟩
def RX1 : String := "FallWith$Askings"
def TX1 : u_T := fun k => match k with
  | 0 => ("FallWith$Askings", "act", "[I", true)
  | 1 => ("FallWith$Askings", "who", "[I", true)
  | 2 => ("FallWith$Askings", "day", "[I", true)
  | _ => ("FallWith$Askings", "count", "I", false)
def tyX1 : Nat → FieldType := fun k => match k with
  | 0 => .array .int
  | 1 => .array .int
  | 2 => .array .int
  | _ => .int
abbrev wsX10 : List Cond := u_ws RX1 TX1 4
theorem nmX1 : ∀ a, a < 4 → ∀ b, b < 4 → a ≠ b → (TX1 a).2.1 ≠ (TX1 b).2.1 := by decide +kernel
theorem tyX1_ok : ∀ k, k < 4 → parseFieldDescriptor (TX1 k).2.2.1 = some (tyX1 k) := by decide +kernel
abbrev cX1_init : ByteArray := prog_3_method_1_code
def yX1_init : MethodName := ⟨RX1, "<init>", "()V"⟩
abbrev cX1_add : ByteArray := prog_3_method_2_code
def yX1_add : MethodName := ⟨RX1, "add", "(III)I"⟩
abbrev cX1_isCounted : ByteArray := prog_3_method_3_code
def yX1_isCounted : MethodName := ⟨RX1, "isCounted", "(ILFallWith$Acts;)Z"⟩
abbrev cX1_struckBy : ByteArray := prog_3_method_4_code
def yX1_struckBy : MethodName := ⟨RX1, "struckBy", "(ILFallWith$Acts;)I"⟩
def RX2 : String := "FallWith$Pad"
def TX2 : u_T := fun k => match k with
  | 0 => ("FallWith$Pad", "signs", "[I", true)
  | _ => ("FallWith$Pad", "count", "I", false)
def tyX2 : Nat → FieldType := fun k => match k with
  | 0 => .array .int
  | _ => .int
abbrev wsX20 : List Cond := u_ws RX2 TX2 2
theorem nmX2 : ∀ a, a < 2 → ∀ b, b < 2 → a ≠ b → (TX2 a).2.1 ≠ (TX2 b).2.1 := by decide +kernel
theorem tyX2_ok : ∀ k, k < 2 → parseFieldDescriptor (TX2 k).2.2.1 = some (tyX2 k) := by decide +kernel
abbrev cX2_init : ByteArray := prog_4_method_1_code
def yX2_init : MethodName := ⟨RX2, "<init>", "()V"⟩
abbrev cX2_add : ByteArray := prog_4_method_2_code
def yX2_add : MethodName := ⟨RX2, "add", "(I)I"⟩
abbrev cX2_clear : ByteArray := prog_4_method_3_code
def yX2_clear : MethodName := ⟨RX2, "clear", "()I"⟩
abbrev cX2_faultPlace : ByteArray := prog_4_method_4_code
def yX2_faultPlace : MethodName := ⟨RX2, "faultPlace", "()I"⟩
abbrev cX2_isForLetter : ByteArray := prog_4_method_5_code
def yX2_isForLetter : MethodName := ⟨RX2, "isForLetter", "(I)Z"⟩
abbrev cX2_canStand : ByteArray := prog_4_method_6_code
def yX2_canStand : MethodName := ⟨RX2, "canStand", "(II)Z"⟩
def RX3 : String := "FallWith"
def TX3 : u_T := fun k => match k with
  | 0 => ("FallWith", "acts", "LFallWith$Acts;", true)
  | 1 => ("FallWith", "askings", "LFallWith$Askings;", true)
  | 2 => ("FallWith", "pad", "LFallWith$Pad;", true)
  | 3 => ("FallWith", "lawNow", "I", false)
  | _ => ("FallWith", "rateNow", "I", false)
def tyX3 : Nat → FieldType := fun k => match k with
  | 0 => .object "FallWith$Acts"
  | 1 => .object "FallWith$Askings"
  | 2 => .object "FallWith$Pad"
  | 3 => .int
  | _ => .int
abbrev wsX30 : List Cond := u_ws RX3 TX3 5
theorem nmX3 : ∀ a, a < 5 → ∀ b, b < 5 → a ≠ b → (TX3 a).2.1 ≠ (TX3 b).2.1 := by decide +kernel
theorem tyX3_ok : ∀ k, k < 5 → parseFieldDescriptor (TX3 k).2.2.1 = some (tyX3 k) := by decide +kernel
abbrev cX3_init : ByteArray := prog_1_method_1_code
def yX3_init : MethodName := ⟨RX3, "<init>", "()V"⟩
abbrev cX3_act : ByteArray := prog_1_method_2_code
def yX3_act : MethodName := ⟨RX3, "act", "(IIII)I"⟩
abbrev cX3_set : ByteArray := prog_1_method_3_code
def yX3_set : MethodName := ⟨RX3, "set", "(III)I"⟩
abbrev cX3_law : ByteArray := prog_1_method_4_code
def yX3_law : MethodName := ⟨RX3, "law", "(II)I"⟩
abbrev cX3_say : ByteArray := prog_1_method_5_code
def yX3_say : MethodName := ⟨RX3, "say", "(I)I"⟩
abbrev cX3_wipe : ByteArray := prog_1_method_6_code
def yX3_wipe : MethodName := ⟨RX3, "wipe", "()I"⟩
abbrev cX3_fault : ByteArray := prog_1_method_7_code
def yX3_fault : MethodName := ⟨RX3, "fault", "()I"⟩
abbrev cX3_leans : ByteArray := prog_1_method_8_code
def yX3_leans : MethodName := ⟨RX3, "leans", "(I)I"⟩
abbrev cX3_free : ByteArray := prog_1_method_9_code
def yX3_free : MethodName := ⟨RX3, "free", "(I)I"⟩
abbrev cX3_ask : ByteArray := prog_1_method_10_code
def yX3_ask : MethodName := ⟨RX3, "ask", "(III)I"⟩
abbrev cX3_counts : ByteArray := prog_1_method_11_code
def yX3_counts : MethodName := ⟨RX3, "counts", "(I)I"⟩
abbrev cX3_drop : ByteArray := prog_1_method_12_code
def yX3_drop : MethodName := ⟨RX3, "drop", "()I"⟩
abbrev cX3_all : ByteArray := prog_1_method_13_code
def yX3_all : MethodName := ⟨RX3, "all", "(II)I"⟩
abbrev cX3_why : ByteArray := prog_1_method_14_code
def yX3_why : MethodName := ⟨RX3, "why", "(II)I"⟩
abbrev cX3_under : ByteArray := prog_1_method_15_code
def yX3_under : MethodName := ⟨RX3, "under", "(I)I"⟩
abbrev cX3_fall : ByteArray := prog_1_method_16_code
def yX3_fall : MethodName := ⟨RX3, "fall", "(IIII)I"⟩
abbrev cX3_back : ByteArray := prog_1_method_17_code
def yX3_back : MethodName := ⟨RX3, "back", "(IIII)I"⟩
abbrev cX3_wise : ByteArray := prog_1_method_18_code
def yX3_wise : MethodName := ⟨RX3, "wise", "(II)I"⟩
abbrev cX3_rest : ByteArray := prog_1_method_19_code
def yX3_rest : MethodName := ⟨RX3, "rest", "(II)I"⟩
abbrev cX3_heal : ByteArray := prog_1_method_20_code
def yX3_heal : MethodName := ⟨RX3, "heal", "(III)I"⟩
abbrev cX3_pillar : ByteArray := prog_1_method_21_code
def yX3_pillar : MethodName := ⟨RX3, "pillar", "(II)I"⟩
abbrev cX3_hangs : ByteArray := prog_1_method_22_code
def yX3_hangs : MethodName := ⟨RX3, "hangs", "(III)I"⟩
abbrev cX3_safe : ByteArray := prog_1_method_23_code
def yX3_safe : MethodName := ⟨RX3, "safe", "(I)I"⟩
abbrev cX3_beside : ByteArray := prog_1_method_24_code
def yX3_beside : MethodName := ⟨RX3, "beside", "(I)I"⟩
abbrev cX3_told : ByteArray := prog_1_method_25_code
def yX3_told : MethodName := ⟨RX3, "told", "(I)I"⟩
abbrev cX3_within : ByteArray := prog_1_method_26_code
def yX3_within : MethodName := ⟨RX3, "within", "(III)Z"⟩
abbrev cX3_isDay : ByteArray := prog_1_method_27_code
def yX3_isDay : MethodName := ⟨RX3, "isDay", "(I)Z"⟩
abbrev cX3_isWho : ByteArray := prog_1_method_28_code
def yX3_isWho : MethodName := ⟨RX3, "isWho", "(I)Z"⟩
abbrev cX3_contains : ByteArray := prog_1_method_29_code
def yX3_contains : MethodName := ⟨RX3, "contains", "(II)Z"⟩
abbrev cX3_without : ByteArray := prog_1_method_30_code
def yX3_without : MethodName := ⟨RX3, "without", "(II)I"⟩
abbrev cX3_soundOn : ByteArray := prog_1_method_31_code
def yX3_soundOn : MethodName := ⟨RX3, "soundOn", "(I)I"⟩
abbrev cX3_exempt : ByteArray := prog_1_method_32_code
def yX3_exempt : MethodName := ⟨RX3, "exempt", "()I"⟩
abbrev cX3_exemptBy : ByteArray := prog_1_method_33_code
def yX3_exemptBy : MethodName := ⟨RX3, "exemptBy", "(II)I"⟩
abbrev cX3_fallen : ByteArray := prog_1_method_34_code
def yX3_fallen : MethodName := ⟨RX3, "fallen", "(II)I"⟩
abbrev cX3_stepCount : ByteArray := prog_1_method_35_code
def yX3_stepCount : MethodName := ⟨RX3, "stepCount", "(II)I"⟩
abbrev cX3_stepAt : ByteArray := prog_1_method_36_code
def yX3_stepAt : MethodName := ⟨RX3, "stepAt", "(III)I"⟩
abbrev cX3_wiseWho : ByteArray := prog_1_method_37_code
def yX3_wiseWho : MethodName := ⟨RX3, "wiseWho", "(III)I"⟩
abbrev cX3_firstWiseAct : ByteArray := prog_1_method_38_code
def yX3_firstWiseAct : MethodName := ⟨RX3, "firstWiseAct", "(II)I"⟩
abbrev cX3_fewestHealed : ByteArray := prog_1_method_39_code
def yX3_fewestHealed : MethodName := ⟨RX3, "fewestHealed", "(II)I"⟩
abbrev cX3_allStand : ByteArray := prog_1_method_40_code
def yX3_allStand : MethodName := ⟨RX3, "allStand", "(III)Z"⟩
abbrev cX3_indispensable : ByteArray := prog_1_method_41_code
def yX3_indispensable : MethodName := ⟨RX3, "indispensable", "(IIII)I"⟩
abbrev cX3_withstands : ByteArray := prog_1_method_42_code
def yX3_withstands : MethodName := ⟨RX3, "withstands", "(III)Z"⟩
def RX4 : String := "FallWithModel"
def TX4 : u_T := fun k => match k with
  | 0 => ("FallWithModel", "dayOf", "[I", true)
  | 1 => ("FallWithModel", "giver", "[I", true)
  | 2 => ("FallWithModel", "taker", "[I", true)
  | 3 => ("FallWithModel", "worth", "[I", true)
  | 4 => ("FallWithModel", "flaw", "[I", true)
  | 5 => ("FallWithModel", "years", "[I", true)
  | 6 => ("FallWithModel", "healed", "[I", true)
  | 7 => ("FallWithModel", "goodOnes", "I", false)
  | 8 => ("FallWithModel", "acts", "I", false)
  | 9 => ("FallWithModel", "alls", "[I", true)
  | 10 => ("FallWithModel", "allMany", "[I", true)
  | 11 => ("FallWithModel", "lawIs", "I", false)
  | 12 => ("FallWithModel", "rateIs", "I", false)
  | 13 => ("FallWithModel", "signs", "[I", true)
  | 14 => ("FallWithModel", "signMany", "I", false)
  | 15 => ("FallWithModel", "askAct", "[I", true)
  | 16 => ("FallWithModel", "askWho", "[I", true)
  | 17 => ("FallWithModel", "askDay", "[I", true)
  | 18 => ("FallWithModel", "askings", "I", false)
  | 19 => ("FallWithModel", "healedToo", "I", false)
  | _ => ("FallWithModel", "askedToo", "I", false)
def tyX4 : Nat → FieldType := fun k => match k with
  | 0 => .array .int
  | 1 => .array .int
  | 2 => .array .int
  | 3 => .array .int
  | 4 => .array .int
  | 5 => .array .int
  | 6 => .array .int
  | 7 => .int
  | 8 => .int
  | 9 => .array .int
  | 10 => .array .int
  | 11 => .int
  | 12 => .int
  | 13 => .array .int
  | 14 => .int
  | 15 => .array .int
  | 16 => .array .int
  | 17 => .array .int
  | 18 => .int
  | 19 => .int
  | _ => .int
abbrev wsX40 : List Cond := u_ws RX4 TX4 21
theorem nmX4 : ∀ a, a < 21 → ∀ b, b < 21 → a ≠ b → (TX4 a).2.1 ≠ (TX4 b).2.1 := by decide +kernel
theorem tyX4_ok : ∀ k, k < 21 → parseFieldDescriptor (TX4 k).2.2.1 = some (tyX4 k) := by decide +kernel
abbrev cX4_init : ByteArray := prog_6_method_1_code
def yX4_init : MethodName := ⟨RX4, "<init>", "()V"⟩
abbrev cX4_in : ByteArray := prog_6_method_3_code
def yX4_in : MethodName := ⟨RX4, "in", "(JJJ)Z"⟩
abbrev cX4_ones : ByteArray := prog_6_method_4_code
def yX4_ones : MethodName := ⟨RX4, "ones", "(I)I"⟩
abbrev cX4_isDay : ByteArray := prog_6_method_5_code
def yX4_isDay : MethodName := ⟨RX4, "isDay", "(I)Z"⟩
abbrev cX4_isWho : ByteArray := prog_6_method_6_code
def yX4_isWho : MethodName := ⟨RX4, "isWho", "(I)Z"⟩
abbrev cX4_isAct : ByteArray := prog_6_method_7_code
def yX4_isAct : MethodName := ⟨RX4, "isAct", "(I)Z"⟩
abbrev cX4_act : ByteArray := prog_6_method_8_code
def yX4_act : MethodName := ⟨RX4, "act", "(IIII)I"⟩
abbrev cX4_set : ByteArray := prog_6_method_9_code
def yX4_set : MethodName := ⟨RX4, "set", "(III)I"⟩
abbrev cX4_law : ByteArray := prog_6_method_10_code
def yX4_law : MethodName := ⟨RX4, "law", "(II)I"⟩
abbrev cX4_say : ByteArray := prog_6_method_11_code
def yX4_say : MethodName := ⟨RX4, "say", "(I)I"⟩
abbrev cX4_wipe : ByteArray := prog_6_method_12_code
def yX4_wipe : MethodName := ⟨RX4, "wipe", "()I"⟩
abbrev cX4_fault : ByteArray := prog_6_method_13_code
def yX4_fault : MethodName := ⟨RX4, "fault", "()I"⟩
abbrev cX4_leans : ByteArray := prog_6_method_14_code
def yX4_leans : MethodName := ⟨RX4, "leans", "(I)I"⟩
abbrev cX4_free : ByteArray := prog_6_method_15_code
def yX4_free : MethodName := ⟨RX4, "free", "(I)I"⟩
abbrev cX4_isHeld : ByteArray := prog_6_method_16_code
def yX4_isHeld : MethodName := ⟨RX4, "isHeld", "(II)Z"⟩
abbrev cX4_ask : ByteArray := prog_6_method_17_code
def yX4_ask : MethodName := ⟨RX4, "ask", "(III)I"⟩
abbrev cX4_isHealed : ByteArray := prog_6_method_18_code
def yX4_isHealed : MethodName := ⟨RX4, "isHealed", "(II)Z"⟩
abbrev cX4_wouldCount : ByteArray := prog_6_method_19_code
def yX4_wouldCount : MethodName := ⟨RX4, "wouldCount", "(III)Z"⟩
abbrev cX4_counts : ByteArray := prog_6_method_20_code
def yX4_counts : MethodName := ⟨RX4, "counts", "(I)I"⟩
abbrev cX4_drop : ByteArray := prog_6_method_21_code
def yX4_drop : MethodName := ⟨RX4, "drop", "()I"⟩
abbrev cX4_isAsked : ByteArray := prog_6_method_22_code
def yX4_isAsked : MethodName := ⟨RX4, "isAsked", "(II)Z"⟩
abbrev cX4_isSound : ByteArray := prog_6_method_23_code
def yX4_isSound : MethodName := ⟨RX4, "isSound", "(II)Z"⟩
abbrev cX4_soundOf : ByteArray := prog_6_method_24_code
def yX4_soundOf : MethodName := ⟨RX4, "soundOf", "(I)I"⟩
abbrev cX4_loose : ByteArray := prog_6_method_25_code
def yX4_loose : MethodName := ⟨RX4, "loose", "(I)I"⟩
abbrev cX4_mostOf : ByteArray := prog_6_method_26_code
def yX4_mostOf : MethodName := ⟨RX4, "mostOf", "(I)I"⟩
abbrev cX4_leastOf : ByteArray := prog_6_method_27_code
def yX4_leastOf : MethodName := ⟨RX4, "leastOf", "(I)I"⟩
abbrev cX4_standing : ByteArray := prog_6_method_28_code
def yX4_standing : MethodName := ⟨RX4, "standing", "(I)I"⟩
abbrev cX4_all : ByteArray := prog_6_method_29_code
def yX4_all : MethodName := ⟨RX4, "all", "(II)I"⟩
abbrev cX4_why : ByteArray := prog_6_method_30_code
def yX4_why : MethodName := ⟨RX4, "why", "(II)I"⟩
abbrev cX4_namedBy : ByteArray := prog_6_method_31_code
def yX4_namedBy : MethodName := ⟨RX4, "namedBy", "(I)I"⟩
abbrev cX4_under : ByteArray := prog_6_method_32_code
def yX4_under : MethodName := ⟨RX4, "under", "(I)I"⟩
abbrev cX4_fallOf : ByteArray := prog_6_method_33_code
def yX4_fallOf : MethodName := ⟨RX4, "fallOf", "(II)I"⟩
abbrev cX4_fall : ByteArray := prog_6_method_34_code
def yX4_fall : MethodName := ⟨RX4, "fall", "(IIII)I"⟩
abbrev cX4_backOf : ByteArray := prog_6_method_35_code
def yX4_backOf : MethodName := ⟨RX4, "backOf", "(III)I"⟩
abbrev cX4_back : ByteArray := prog_6_method_36_code
def yX4_back : MethodName := ⟨RX4, "back", "(IIII)I"⟩
abbrev cX4_wiseOf : ByteArray := prog_6_method_37_code
def yX4_wiseOf : MethodName := ⟨RX4, "wiseOf", "(II)I"⟩
abbrev cX4_wise : ByteArray := prog_6_method_38_code
def yX4_wise : MethodName := ⟨RX4, "wise", "(II)I"⟩
abbrev cX4_rest : ByteArray := prog_6_method_39_code
def yX4_rest : MethodName := ⟨RX4, "rest", "(II)I"⟩
abbrev cX4_isSet : ByteArray := prog_6_method_40_code
def yX4_isSet : MethodName := ⟨RX4, "isSet", "(I)Z"⟩
abbrev cX4_heal : ByteArray := prog_6_method_41_code
def yX4_heal : MethodName := ⟨RX4, "heal", "(III)I"⟩
abbrev cX4_pillar : ByteArray := prog_6_method_42_code
def yX4_pillar : MethodName := ⟨RX4, "pillar", "(II)I"⟩
abbrev cX4_hangs : ByteArray := prog_6_method_43_code
def yX4_hangs : MethodName := ⟨RX4, "hangs", "(III)I"⟩
abbrev cX4_isSafeOn : ByteArray := prog_6_method_44_code
def yX4_isSafeOn : MethodName := ⟨RX4, "isSafeOn", "(II)Z"⟩
abbrev cX4_safe : ByteArray := prog_6_method_45_code
def yX4_safe : MethodName := ⟨RX4, "safe", "(I)I"⟩
abbrev cX4_beside : ByteArray := prog_6_method_46_code
def yX4_beside : MethodName := ⟨RX4, "beside", "(I)I"⟩
abbrev cX4_told : ByteArray := prog_6_method_47_code
def yX4_told : MethodName := ⟨RX4, "told", "(I)I"⟩
def RJ6 : String := "java/lang/Integer"
abbrev cJ6_bitCount_0f7a4 : ByteArray := prog_7_method_49_code
def yJ6_bitCount_0f7a4 : MethodName := ⟨RJ6, "bitCount", "(I)I"⟩
def RJ9 : String := "java/lang/Math"
abbrev cJ9_min_7cf53 : ByteArray := prog_8_method_69_code
def yJ9_min_7cf53 : MethodName := ⟨RJ9, "min", "(II)I"⟩
def RJ7 : String := "java/util/Arrays"
abbrev cJ7_fill_53178 : ByteArray := prog_9_method_103_code
def yJ7_fill_53178 : MethodName := ⟨RJ7, "fill", "([II)V"⟩
def RL : String := "FallWithLaw"
abbrev cL_law : ByteArray := code
def yL_law : MethodName := ⟨RL, "law", "([I)Z"⟩
abbrev vwCl : List vw_C := [(RX0, TX0, 8), (RX1, TX1, 4), (RX2, TX2, 2), (RX3, TX3, 5), (RX4, TX4, 21)]
end
section
theorem dX0_init_0 : decode cX0_init 0 = .ok (.aload_n 0, 1) := by decide +kernel
theorem dX0_init_1 : decode cX0_init 1 = .ok (.invokespecial 3, 3) := by decide +kernel
theorem dX0_init_4 : decode cX0_init 4 = .ok (.aload_n 0, 1) := by decide +kernel
theorem dX0_init_5 : decode cX0_init 5 = .ok (.bipush 12, 2) := by decide +kernel
theorem dX0_init_7 : decode cX0_init 7 = .ok (.newarray .int, 2) := by decide +kernel
theorem dX0_init_9 : decode cX0_init 9 = .ok (.putfield 9, 3) := by decide +kernel
theorem dX0_init_12 : decode cX0_init 12 = .ok (.aload_n 0, 1) := by decide +kernel
theorem dX0_init_13 : decode cX0_init 13 = .ok (.bipush 12, 2) := by decide +kernel
theorem dX0_init_15 : decode cX0_init 15 = .ok (.newarray .int, 2) := by decide +kernel
theorem dX0_init_17 : decode cX0_init 17 = .ok (.putfield 15, 3) := by decide +kernel
theorem dX0_init_20 : decode cX0_init 20 = .ok (.aload_n 0, 1) := by decide +kernel
theorem dX0_init_21 : decode cX0_init 21 = .ok (.bipush 12, 2) := by decide +kernel
theorem dX0_init_23 : decode cX0_init 23 = .ok (.newarray .int, 2) := by decide +kernel
theorem dX0_init_25 : decode cX0_init 25 = .ok (.putfield 18, 3) := by decide +kernel
theorem dX0_init_28 : decode cX0_init 28 = .ok (.aload_n 0, 1) := by decide +kernel
theorem dX0_init_29 : decode cX0_init 29 = .ok (.bipush 12, 2) := by decide +kernel
theorem dX0_init_31 : decode cX0_init 31 = .ok (.newarray .int, 2) := by decide +kernel
theorem dX0_init_33 : decode cX0_init 33 = .ok (.putfield 21, 3) := by decide +kernel
theorem dX0_init_36 : decode cX0_init 36 = .ok (.aload_n 0, 1) := by decide +kernel
theorem dX0_init_37 : decode cX0_init 37 = .ok (.iconst 4, 1) := by decide +kernel
theorem dX0_init_38 : decode cX0_init 38 = .ok (.bipush 12, 2) := by decide +kernel
theorem dX0_init_40 : decode cX0_init 40 = .ok (.multianewarray 24 2, 4) := by decide +kernel
theorem dX0_init_44 : decode cX0_init 44 = .ok (.putfield 26, 3) := by decide +kernel
theorem dX0_init_47 : decode cX0_init 47 = .ok (.aload_n 0, 1) := by decide +kernel
theorem dX0_init_48 : decode cX0_init 48 = .ok (.bipush 12, 2) := by decide +kernel
theorem dX0_init_50 : decode cX0_init 50 = .ok (.newarray .int, 2) := by decide +kernel
theorem dX0_init_52 : decode cX0_init 52 = .ok (.putfield 29, 3) := by decide +kernel
theorem dX0_init_55 : decode cX0_init 55 = .ok (.aload_n 0, 1) := by decide +kernel
theorem dX0_init_56 : decode cX0_init 56 = .ok (.bipush 12, 2) := by decide +kernel
theorem dX0_init_58 : decode cX0_init 58 = .ok (.bipush 20, 2) := by decide +kernel
theorem dX0_init_60 : decode cX0_init 60 = .ok (.multianewarray 24 2, 4) := by decide +kernel
theorem dX0_init_64 : decode cX0_init 64 = .ok (.putfield 32, 3) := by decide +kernel
theorem dX0_init_67 : decode cX0_init 67 = .ok (.aload_n 0, 1) := by decide +kernel
theorem dX0_init_68 : decode cX0_init 68 = .ok (.getfield 26, 3) := by decide +kernel
theorem dX0_init_71 : decode cX0_init 71 = .ok (.iconst 1, 1) := by decide +kernel
theorem dX0_init_72 : decode cX0_init 72 = .ok (.aaload, 1) := by decide +kernel
theorem dX0_init_73 : decode cX0_init 73 = .ok (.bipush 99, 2) := by decide +kernel
theorem dX0_init_75 : decode cX0_init 75 = .ok (.invokestatic 35, 3) := by decide +kernel
theorem dX0_init_78 : decode cX0_init 78 = .ok (.aload_n 0, 1) := by decide +kernel
theorem dX0_init_79 : decode cX0_init 79 = .ok (.getfield 26, 3) := by decide +kernel
theorem dX0_init_82 : decode cX0_init 82 = .ok (.iconst 2, 1) := by decide +kernel
theorem dX0_init_83 : decode cX0_init 83 = .ok (.aaload, 1) := by decide +kernel
theorem dX0_init_84 : decode cX0_init 84 = .ok (.iconst (-1), 1) := by decide +kernel
theorem dX0_init_85 : decode cX0_init 85 = .ok (.invokestatic 35, 3) := by decide +kernel
theorem dX0_init_88 : decode cX0_init 88 = .ok (.return_, 1) := by decide +kernel
theorem dX0_add_0 : decode cX0_add 0 = .ok (.aload_n 0, 1) := by decide +kernel
theorem dX0_add_1 : decode cX0_add 1 = .ok (.getfield 9, 3) := by decide +kernel
theorem dX0_add_4 : decode cX0_add 4 = .ok (.aload_n 0, 1) := by decide +kernel
theorem dX0_add_5 : decode cX0_add 5 = .ok (.getfield 41, 3) := by decide +kernel
theorem dX0_add_8 : decode cX0_add 8 = .ok (.iload_n 1, 1) := by decide +kernel
theorem dX0_add_9 : decode cX0_add 9 = .ok (.iastore, 1) := by decide +kernel
theorem dX0_add_10 : decode cX0_add 10 = .ok (.aload_n 0, 1) := by decide +kernel
theorem dX0_add_11 : decode cX0_add 11 = .ok (.getfield 15, 3) := by decide +kernel
theorem dX0_add_14 : decode cX0_add 14 = .ok (.aload_n 0, 1) := by decide +kernel
theorem dX0_add_15 : decode cX0_add 15 = .ok (.getfield 41, 3) := by decide +kernel
theorem dX0_add_18 : decode cX0_add 18 = .ok (.iload_n 2, 1) := by decide +kernel
theorem dX0_add_19 : decode cX0_add 19 = .ok (.iastore, 1) := by decide +kernel
theorem dX0_add_20 : decode cX0_add 20 = .ok (.aload_n 0, 1) := by decide +kernel
theorem dX0_add_21 : decode cX0_add 21 = .ok (.getfield 18, 3) := by decide +kernel
theorem dX0_add_24 : decode cX0_add 24 = .ok (.aload_n 0, 1) := by decide +kernel
theorem dX0_add_25 : decode cX0_add 25 = .ok (.getfield 41, 3) := by decide +kernel
theorem dX0_add_28 : decode cX0_add 28 = .ok (.iload_n 3, 1) := by decide +kernel
theorem dX0_add_29 : decode cX0_add 29 = .ok (.iastore, 1) := by decide +kernel
theorem dX0_add_30 : decode cX0_add 30 = .ok (.aload_n 0, 1) := by decide +kernel
theorem dX0_add_31 : decode cX0_add 31 = .ok (.getfield 21, 3) := by decide +kernel
theorem dX0_add_34 : decode cX0_add 34 = .ok (.aload_n 0, 1) := by decide +kernel
theorem dX0_add_35 : decode cX0_add 35 = .ok (.getfield 41, 3) := by decide +kernel
theorem dX0_add_38 : decode cX0_add 38 = .ok (.iload 4, 2) := by decide +kernel
theorem dX0_add_40 : decode cX0_add 40 = .ok (.iastore, 1) := by decide +kernel
theorem dX0_add_41 : decode cX0_add 41 = .ok (.aload_n 0, 1) := by decide +kernel
theorem dX0_add_42 : decode cX0_add 42 = .ok (.dup, 1) := by decide +kernel
theorem dX0_add_43 : decode cX0_add 43 = .ok (.getfield 41, 3) := by decide +kernel
theorem dX0_add_46 : decode cX0_add 46 = .ok (.iconst 1, 1) := by decide +kernel
theorem dX0_add_47 : decode cX0_add 47 = .ok (.iadd, 1) := by decide +kernel
theorem dX0_add_48 : decode cX0_add 48 = .ok (.putfield 41, 3) := by decide +kernel
theorem dX0_add_51 : decode cX0_add 51 = .ok (.aload_n 0, 1) := by decide +kernel
theorem dX0_add_52 : decode cX0_add 52 = .ok (.getfield 41, 3) := by decide +kernel
theorem dX0_add_55 : decode cX0_add 55 = .ok (.iconst 1, 1) := by decide +kernel
theorem dX0_add_56 : decode cX0_add 56 = .ok (.isub, 1) := by decide +kernel
theorem dX0_add_57 : decode cX0_add 57 = .ok (.ireturn, 1) := by decide +kernel
theorem dX0_has_0 : decode cX0_has 0 = .ok (.iload_n 1, 1) := by decide +kernel
theorem dX0_has_1 : decode cX0_has 1 = .ok (.ifCond .lt 15, 3) := by decide +kernel
theorem dX0_has_4 : decode cX0_has 4 = .ok (.iload_n 1, 1) := by decide +kernel
theorem dX0_has_5 : decode cX0_has 5 = .ok (.aload_n 0, 1) := by decide +kernel
theorem dX0_has_6 : decode cX0_has 6 = .ok (.getfield 41, 3) := by decide +kernel
theorem dX0_has_9 : decode cX0_has 9 = .ok (.if_icmp .ge 7, 3) := by decide +kernel
theorem dX0_has_12 : decode cX0_has 12 = .ok (.iconst 1, 1) := by decide +kernel
theorem dX0_has_13 : decode cX0_has 13 = .ok (.goto 4, 3) := by decide +kernel
theorem dX0_has_16 : decode cX0_has 16 = .ok (.iconst 0, 1) := by decide +kernel
theorem dX0_has_17 : decode cX0_has 17 = .ok (.ireturn, 1) := by decide +kernel
theorem dX0_hasAll_0 : decode cX0_hasAll 0 = .ok (.iload_n 1, 1) := by decide +kernel
theorem dX0_hasAll_1 : decode cX0_hasAll 1 = .ok (.aload_n 0, 1) := by decide +kernel
theorem dX0_hasAll_2 : decode cX0_hasAll 2 = .ok (.invokevirtual 45, 3) := by decide +kernel
theorem dX0_hasAll_5 : decode cX0_hasAll 5 = .ok (.iconst (-1), 1) := by decide +kernel
theorem dX0_hasAll_6 : decode cX0_hasAll 6 = .ok (.ixor, 1) := by decide +kernel
theorem dX0_hasAll_7 : decode cX0_hasAll 7 = .ok (.iand, 1) := by decide +kernel
theorem dX0_hasAll_8 : decode cX0_hasAll 8 = .ok (.ifCond .ne 7, 3) := by decide +kernel
theorem dX0_hasAll_11 : decode cX0_hasAll 11 = .ok (.iconst 1, 1) := by decide +kernel
theorem dX0_hasAll_12 : decode cX0_hasAll 12 = .ok (.goto 4, 3) := by decide +kernel
theorem dX0_hasAll_15 : decode cX0_hasAll 15 = .ok (.iconst 0, 1) := by decide +kernel
theorem dX0_hasAll_16 : decode cX0_hasAll 16 = .ok (.ireturn, 1) := by decide +kernel
theorem dX0_everyOne_0 : decode cX0_everyOne 0 = .ok (.iconst 1, 1) := by decide +kernel
theorem dX0_everyOne_1 : decode cX0_everyOne 1 = .ok (.aload_n 0, 1) := by decide +kernel
theorem dX0_everyOne_2 : decode cX0_everyOne 2 = .ok (.getfield 41, 3) := by decide +kernel
theorem dX0_everyOne_5 : decode cX0_everyOne 5 = .ok (.ishl, 1) := by decide +kernel
theorem dX0_everyOne_6 : decode cX0_everyOne 6 = .ok (.iconst 1, 1) := by decide +kernel
theorem dX0_everyOne_7 : decode cX0_everyOne 7 = .ok (.isub, 1) := by decide +kernel
theorem dX0_everyOne_8 : decode cX0_everyOne 8 = .ok (.ireturn, 1) := by decide +kernel
theorem dX0_takeText_0 : decode cX0_takeText 0 = .ok (.aload_n 0, 1) := by decide +kernel
theorem dX0_takeText_1 : decode cX0_takeText 1 = .ok (.getfield 32, 3) := by decide +kernel
theorem dX0_takeText_4 : decode cX0_takeText 4 = .ok (.iload_n 1, 1) := by decide +kernel
theorem dX0_takeText_5 : decode cX0_takeText 5 = .ok (.aaload, 1) := by decide +kernel
theorem dX0_takeText_6 : decode cX0_takeText 6 = .ok (.astore_n 3, 1) := by decide +kernel
theorem dX0_takeText_7 : decode cX0_takeText 7 = .ok (.iconst 0, 1) := by decide +kernel
theorem dX0_takeText_8 : decode cX0_takeText 8 = .ok (.istore 4, 2) := by decide +kernel
theorem dX0_takeText_10 : decode cX0_takeText 10 = .ok (.aload_n 3, 1) := by decide +kernel
theorem dX0_takeText_11 : decode cX0_takeText 11 = .ok (.iload 4, 2) := by decide +kernel
theorem dX0_takeText_13 : decode cX0_takeText 13 = .ok (.iconst 0, 1) := by decide +kernel
theorem dX0_takeText_14 : decode cX0_takeText 14 = .ok (.iastore, 1) := by decide +kernel
theorem dX0_takeText_15 : decode cX0_takeText 15 = .ok (.iconst 0, 1) := by decide +kernel
theorem dX0_takeText_16 : decode cX0_takeText 16 = .ok (.istore 5, 2) := by decide +kernel
theorem dX0_takeText_18 : decode cX0_takeText 18 = .ok (.iload 5, 2) := by decide +kernel
theorem dX0_takeText_20 : decode cX0_takeText 20 = .ok (.aload_n 2, 1) := by decide +kernel
theorem dX0_takeText_21 : decode cX0_takeText 21 = .ok (.getfield 49, 3) := by decide +kernel
theorem dX0_takeText_24 : decode cX0_takeText 24 = .ok (.if_icmp .ge 65, 3) := by decide +kernel
theorem dX0_takeText_27 : decode cX0_takeText 27 = .ok (.aload_n 2, 1) := by decide +kernel
theorem dX0_takeText_28 : decode cX0_takeText 28 = .ok (.getfield 52, 3) := by decide +kernel
theorem dX0_takeText_31 : decode cX0_takeText 31 = .ok (.iload 5, 2) := by decide +kernel
theorem dX0_takeText_33 : decode cX0_takeText 33 = .ok (.iaload, 1) := by decide +kernel
theorem dX0_takeText_34 : decode cX0_takeText 34 = .ok (.istore 6, 2) := by decide +kernel
theorem dX0_takeText_36 : decode cX0_takeText 36 = .ok (.iload 6, 2) := by decide +kernel
theorem dX0_takeText_38 : decode cX0_takeText 38 = .ok (.bipush 124, 2) := by decide +kernel
theorem dX0_takeText_40 : decode cX0_takeText 40 = .ok (.if_icmp .ne 22, 3) := by decide +kernel
theorem dX0_takeText_43 : decode cX0_takeText 43 = .ok (.iload 4, 2) := by decide +kernel
theorem dX0_takeText_45 : decode cX0_takeText 45 = .ok (.iconst 1, 1) := by decide +kernel
theorem dX0_takeText_46 : decode cX0_takeText 46 = .ok (.iadd, 1) := by decide +kernel
theorem dX0_takeText_47 : decode cX0_takeText 47 = .ok (.bipush 19, 2) := by decide +kernel
theorem dX0_takeText_49 : decode cX0_takeText 49 = .ok (.invokestatic 55, 3) := by decide +kernel
theorem dX0_takeText_52 : decode cX0_takeText 52 = .ok (.istore 4, 2) := by decide +kernel
theorem dX0_takeText_54 : decode cX0_takeText 54 = .ok (.aload_n 3, 1) := by decide +kernel
theorem dX0_takeText_55 : decode cX0_takeText 55 = .ok (.iload 4, 2) := by decide +kernel
theorem dX0_takeText_57 : decode cX0_takeText 57 = .ok (.iconst 0, 1) := by decide +kernel
theorem dX0_takeText_58 : decode cX0_takeText 58 = .ok (.iastore, 1) := by decide +kernel
theorem dX0_takeText_59 : decode cX0_takeText 59 = .ok (.goto 24, 3) := by decide +kernel
theorem dX0_takeText_62 : decode cX0_takeText 62 = .ok (.iload 6, 2) := by decide +kernel
theorem dX0_takeText_64 : decode cX0_takeText 64 = .ok (.bipush 43, 2) := by decide +kernel
theorem dX0_takeText_66 : decode cX0_takeText 66 = .ok (.if_icmp .eq 17, 3) := by decide +kernel
theorem dX0_takeText_69 : decode cX0_takeText 69 = .ok (.aload_n 3, 1) := by decide +kernel
theorem dX0_takeText_70 : decode cX0_takeText 70 = .ok (.iload 4, 2) := by decide +kernel
theorem dX0_takeText_72 : decode cX0_takeText 72 = .ok (.dup2, 1) := by decide +kernel
theorem dX0_takeText_73 : decode cX0_takeText 73 = .ok (.iaload, 1) := by decide +kernel
theorem dX0_takeText_74 : decode cX0_takeText 74 = .ok (.iconst 1, 1) := by decide +kernel
theorem dX0_takeText_75 : decode cX0_takeText 75 = .ok (.iload 6, 2) := by decide +kernel
theorem dX0_takeText_77 : decode cX0_takeText 77 = .ok (.bipush 97, 2) := by decide +kernel
theorem dX0_takeText_79 : decode cX0_takeText 79 = .ok (.isub, 1) := by decide +kernel
theorem dX0_takeText_80 : decode cX0_takeText 80 = .ok (.ishl, 1) := by decide +kernel
theorem dX0_takeText_81 : decode cX0_takeText 81 = .ok (.ior, 1) := by decide +kernel
theorem dX0_takeText_82 : decode cX0_takeText 82 = .ok (.iastore, 1) := by decide +kernel
theorem dX0_takeText_83 : decode cX0_takeText 83 = .ok (.iinc 5 1, 3) := by decide +kernel
theorem dX0_takeText_86 : decode cX0_takeText 86 = .ok (.goto (-68), 3) := by decide +kernel
theorem dX0_takeText_89 : decode cX0_takeText 89 = .ok (.aload_n 0, 1) := by decide +kernel
theorem dX0_takeText_90 : decode cX0_takeText 90 = .ok (.getfield 29, 3) := by decide +kernel
theorem dX0_takeText_93 : decode cX0_takeText 93 = .ok (.iload_n 1, 1) := by decide +kernel
theorem dX0_takeText_94 : decode cX0_takeText 94 = .ok (.iload 4, 2) := by decide +kernel
theorem dX0_takeText_96 : decode cX0_takeText 96 = .ok (.iconst 1, 1) := by decide +kernel
theorem dX0_takeText_97 : decode cX0_takeText 97 = .ok (.iadd, 1) := by decide +kernel
theorem dX0_takeText_98 : decode cX0_takeText 98 = .ok (.iastore, 1) := by decide +kernel
theorem dX0_takeText_99 : decode cX0_takeText 99 = .ok (.return_, 1) := by decide +kernel
theorem dX0_named_0 : decode cX0_named 0 = .ok (.iconst 0, 1) := by decide +kernel
theorem dX0_named_1 : decode cX0_named 1 = .ok (.istore_n 2, 1) := by decide +kernel
theorem dX0_named_2 : decode cX0_named 2 = .ok (.iconst 0, 1) := by decide +kernel
theorem dX0_named_3 : decode cX0_named 3 = .ok (.istore_n 3, 1) := by decide +kernel
theorem dX0_named_4 : decode cX0_named 4 = .ok (.iload_n 3, 1) := by decide +kernel
theorem dX0_named_5 : decode cX0_named 5 = .ok (.aload_n 0, 1) := by decide +kernel
theorem dX0_named_6 : decode cX0_named 6 = .ok (.getfield 29, 3) := by decide +kernel
theorem dX0_named_9 : decode cX0_named 9 = .ok (.iload_n 1, 1) := by decide +kernel
theorem dX0_named_10 : decode cX0_named 10 = .ok (.iaload, 1) := by decide +kernel
theorem dX0_named_11 : decode cX0_named 11 = .ok (.if_icmp .ge 20, 3) := by decide +kernel
theorem dX0_named_14 : decode cX0_named 14 = .ok (.iload_n 2, 1) := by decide +kernel
theorem dX0_named_15 : decode cX0_named 15 = .ok (.aload_n 0, 1) := by decide +kernel
theorem dX0_named_16 : decode cX0_named 16 = .ok (.getfield 32, 3) := by decide +kernel
theorem dX0_named_19 : decode cX0_named 19 = .ok (.iload_n 1, 1) := by decide +kernel
theorem dX0_named_20 : decode cX0_named 20 = .ok (.aaload, 1) := by decide +kernel
theorem dX0_named_21 : decode cX0_named 21 = .ok (.iload_n 3, 1) := by decide +kernel
theorem dX0_named_22 : decode cX0_named 22 = .ok (.iaload, 1) := by decide +kernel
theorem dX0_named_23 : decode cX0_named 23 = .ok (.ior, 1) := by decide +kernel
theorem dX0_named_24 : decode cX0_named 24 = .ok (.istore_n 2, 1) := by decide +kernel
theorem dX0_named_25 : decode cX0_named 25 = .ok (.iinc 3 1, 3) := by decide +kernel
theorem dX0_named_28 : decode cX0_named 28 = .ok (.goto (-24), 3) := by decide +kernel
theorem dX0_named_31 : decode cX0_named 31 = .ok (.iload_n 2, 1) := by decide +kernel
theorem dX0_named_32 : decode cX0_named 32 = .ok (.aload_n 0, 1) := by decide +kernel
theorem dX0_named_33 : decode cX0_named 33 = .ok (.invokevirtual 45, 3) := by decide +kernel
theorem dX0_named_36 : decode cX0_named 36 = .ok (.iand, 1) := by decide +kernel
theorem dX0_named_37 : decode cX0_named 37 = .ok (.ireturn, 1) := by decide +kernel
theorem dX0_namedByAny_0 : decode cX0_namedByAny 0 = .ok (.iconst 0, 1) := by decide +kernel
theorem dX0_namedByAny_1 : decode cX0_namedByAny 1 = .ok (.istore_n 2, 1) := by decide +kernel
theorem dX0_namedByAny_2 : decode cX0_namedByAny 2 = .ok (.iconst 0, 1) := by decide +kernel
theorem dX0_namedByAny_3 : decode cX0_namedByAny 3 = .ok (.istore_n 3, 1) := by decide +kernel
theorem dX0_namedByAny_4 : decode cX0_namedByAny 4 = .ok (.iload_n 3, 1) := by decide +kernel
theorem dX0_namedByAny_5 : decode cX0_namedByAny 5 = .ok (.aload_n 0, 1) := by decide +kernel
theorem dX0_namedByAny_6 : decode cX0_namedByAny 6 = .ok (.getfield 41, 3) := by decide +kernel
theorem dX0_namedByAny_9 : decode cX0_namedByAny 9 = .ok (.if_icmp .ge 25, 3) := by decide +kernel
theorem dX0_namedByAny_12 : decode cX0_namedByAny 12 = .ok (.iload_n 1, 1) := by decide +kernel
theorem dX0_namedByAny_13 : decode cX0_namedByAny 13 = .ok (.iload_n 3, 1) := by decide +kernel
theorem dX0_namedByAny_14 : decode cX0_namedByAny 14 = .ok (.invokestatic 61, 3) := by decide +kernel
theorem dX0_namedByAny_17 : decode cX0_namedByAny 17 = .ok (.ifCond .eq 11, 3) := by decide +kernel
theorem dX0_namedByAny_20 : decode cX0_namedByAny 20 = .ok (.iload_n 2, 1) := by decide +kernel
theorem dX0_namedByAny_21 : decode cX0_namedByAny 21 = .ok (.aload_n 0, 1) := by decide +kernel
theorem dX0_namedByAny_22 : decode cX0_namedByAny 22 = .ok (.iload_n 3, 1) := by decide +kernel
theorem dX0_namedByAny_23 : decode cX0_namedByAny 23 = .ok (.invokevirtual 65, 3) := by decide +kernel
theorem dX0_namedByAny_26 : decode cX0_namedByAny 26 = .ok (.ior, 1) := by decide +kernel
theorem dX0_namedByAny_27 : decode cX0_namedByAny 27 = .ok (.istore_n 2, 1) := by decide +kernel
theorem dX0_namedByAny_28 : decode cX0_namedByAny 28 = .ok (.iinc 3 1, 3) := by decide +kernel
theorem dX0_namedByAny_31 : decode cX0_namedByAny 31 = .ok (.goto (-27), 3) := by decide +kernel
theorem dX0_namedByAny_34 : decode cX0_namedByAny 34 = .ok (.iload_n 2, 1) := by decide +kernel
theorem dX0_namedByAny_35 : decode cX0_namedByAny 35 = .ok (.ireturn, 1) := by decide +kernel
theorem dX0_goodOnes_0 : decode cX0_goodOnes 0 = .ok (.iconst 0, 1) := by decide +kernel
theorem dX0_goodOnes_1 : decode cX0_goodOnes 1 = .ok (.istore_n 1, 1) := by decide +kernel
theorem dX0_goodOnes_2 : decode cX0_goodOnes 2 = .ok (.iconst 0, 1) := by decide +kernel
theorem dX0_goodOnes_3 : decode cX0_goodOnes 3 = .ok (.istore_n 2, 1) := by decide +kernel
theorem dX0_goodOnes_4 : decode cX0_goodOnes 4 = .ok (.iload_n 2, 1) := by decide +kernel
theorem dX0_goodOnes_5 : decode cX0_goodOnes 5 = .ok (.aload_n 0, 1) := by decide +kernel
theorem dX0_goodOnes_6 : decode cX0_goodOnes 6 = .ok (.getfield 41, 3) := by decide +kernel
theorem dX0_goodOnes_9 : decode cX0_goodOnes 9 = .ok (.if_icmp .ge 22, 3) := by decide +kernel
theorem dX0_goodOnes_12 : decode cX0_goodOnes 12 = .ok (.iload_n 1, 1) := by decide +kernel
theorem dX0_goodOnes_13 : decode cX0_goodOnes 13 = .ok (.aload_n 0, 1) := by decide +kernel
theorem dX0_goodOnes_14 : decode cX0_goodOnes 14 = .ok (.getfield 26, 3) := by decide +kernel
theorem dX0_goodOnes_17 : decode cX0_goodOnes 17 = .ok (.iconst 3, 1) := by decide +kernel
theorem dX0_goodOnes_18 : decode cX0_goodOnes 18 = .ok (.aaload, 1) := by decide +kernel
theorem dX0_goodOnes_19 : decode cX0_goodOnes 19 = .ok (.iload_n 2, 1) := by decide +kernel
theorem dX0_goodOnes_20 : decode cX0_goodOnes 20 = .ok (.iaload, 1) := by decide +kernel
theorem dX0_goodOnes_21 : decode cX0_goodOnes 21 = .ok (.iload_n 2, 1) := by decide +kernel
theorem dX0_goodOnes_22 : decode cX0_goodOnes 22 = .ok (.ishl, 1) := by decide +kernel
theorem dX0_goodOnes_23 : decode cX0_goodOnes 23 = .ok (.ior, 1) := by decide +kernel
theorem dX0_goodOnes_24 : decode cX0_goodOnes 24 = .ok (.istore_n 1, 1) := by decide +kernel
theorem dX0_goodOnes_25 : decode cX0_goodOnes 25 = .ok (.iinc 2 1, 3) := by decide +kernel
theorem dX0_goodOnes_28 : decode cX0_goodOnes 28 = .ok (.goto (-24), 3) := by decide +kernel
theorem dX0_goodOnes_31 : decode cX0_goodOnes 31 = .ok (.iload_n 1, 1) := by decide +kernel
theorem dX0_goodOnes_32 : decode cX0_goodOnes 32 = .ok (.ireturn, 1) := by decide +kernel
theorem dX0_isDone_0 : decode cX0_isDone 0 = .ok (.aload_n 0, 1) := by decide +kernel
theorem dX0_isDone_1 : decode cX0_isDone 1 = .ok (.getfield 9, 3) := by decide +kernel
theorem dX0_isDone_4 : decode cX0_isDone 4 = .ok (.iload_n 1, 1) := by decide +kernel
theorem dX0_isDone_5 : decode cX0_isDone 5 = .ok (.iaload, 1) := by decide +kernel
theorem dX0_isDone_6 : decode cX0_isDone 6 = .ok (.iload_n 2, 1) := by decide +kernel
theorem dX0_isDone_7 : decode cX0_isDone 7 = .ok (.if_icmp .gt 7, 3) := by decide +kernel
theorem dX0_isDone_10 : decode cX0_isDone 10 = .ok (.iconst 1, 1) := by decide +kernel
theorem dX0_isDone_11 : decode cX0_isDone 11 = .ok (.goto 4, 3) := by decide +kernel
theorem dX0_isDone_14 : decode cX0_isDone 14 = .ok (.iconst 0, 1) := by decide +kernel
theorem dX0_isDone_15 : decode cX0_isDone 15 = .ok (.ireturn, 1) := by decide +kernel
theorem dX0_doneBy_0 : decode cX0_doneBy 0 = .ok (.iconst 0, 1) := by decide +kernel
theorem dX0_doneBy_1 : decode cX0_doneBy 1 = .ok (.istore_n 2, 1) := by decide +kernel
theorem dX0_doneBy_2 : decode cX0_doneBy 2 = .ok (.iconst 0, 1) := by decide +kernel
theorem dX0_doneBy_3 : decode cX0_doneBy 3 = .ok (.istore_n 3, 1) := by decide +kernel
theorem dX0_doneBy_4 : decode cX0_doneBy 4 = .ok (.iload_n 3, 1) := by decide +kernel
theorem dX0_doneBy_5 : decode cX0_doneBy 5 = .ok (.aload_n 0, 1) := by decide +kernel
theorem dX0_doneBy_6 : decode cX0_doneBy 6 = .ok (.getfield 41, 3) := by decide +kernel
theorem dX0_doneBy_9 : decode cX0_doneBy 9 = .ok (.if_icmp .ge 24, 3) := by decide +kernel
theorem dX0_doneBy_12 : decode cX0_doneBy 12 = .ok (.aload_n 0, 1) := by decide +kernel
theorem dX0_doneBy_13 : decode cX0_doneBy 13 = .ok (.iload_n 3, 1) := by decide +kernel
theorem dX0_doneBy_14 : decode cX0_doneBy 14 = .ok (.iload_n 1, 1) := by decide +kernel
theorem dX0_doneBy_15 : decode cX0_doneBy 15 = .ok (.invokevirtual 69, 3) := by decide +kernel
theorem dX0_doneBy_18 : decode cX0_doneBy 18 = .ok (.ifCond .eq 9, 3) := by decide +kernel
theorem dX0_doneBy_21 : decode cX0_doneBy 21 = .ok (.iload_n 2, 1) := by decide +kernel
theorem dX0_doneBy_22 : decode cX0_doneBy 22 = .ok (.iconst 1, 1) := by decide +kernel
theorem dX0_doneBy_23 : decode cX0_doneBy 23 = .ok (.iload_n 3, 1) := by decide +kernel
theorem dX0_doneBy_24 : decode cX0_doneBy 24 = .ok (.ishl, 1) := by decide +kernel
theorem dX0_doneBy_25 : decode cX0_doneBy 25 = .ok (.ior, 1) := by decide +kernel
theorem dX0_doneBy_26 : decode cX0_doneBy 26 = .ok (.istore_n 2, 1) := by decide +kernel
theorem dX0_doneBy_27 : decode cX0_doneBy 27 = .ok (.iinc 3 1, 3) := by decide +kernel
theorem dX0_doneBy_30 : decode cX0_doneBy 30 = .ok (.goto (-26), 3) := by decide +kernel
theorem dX0_doneBy_33 : decode cX0_doneBy 33 = .ok (.iload_n 2, 1) := by decide +kernel
theorem dX0_doneBy_34 : decode cX0_doneBy 34 = .ok (.ireturn, 1) := by decide +kernel
theorem dX0_isHealed_0 : decode cX0_isHealed 0 = .ok (.aload_n 0, 1) := by decide +kernel
theorem dX0_isHealed_1 : decode cX0_isHealed 1 = .ok (.getfield 26, 3) := by decide +kernel
theorem dX0_isHealed_4 : decode cX0_isHealed 4 = .ok (.iconst 2, 1) := by decide +kernel
theorem dX0_isHealed_5 : decode cX0_isHealed 5 = .ok (.aaload, 1) := by decide +kernel
theorem dX0_isHealed_6 : decode cX0_isHealed 6 = .ok (.iload_n 1, 1) := by decide +kernel
theorem dX0_isHealed_7 : decode cX0_isHealed 7 = .ok (.iaload, 1) := by decide +kernel
theorem dX0_isHealed_8 : decode cX0_isHealed 8 = .ok (.istore_n 3, 1) := by decide +kernel
theorem dX0_isHealed_9 : decode cX0_isHealed 9 = .ok (.iload_n 3, 1) := by decide +kernel
theorem dX0_isHealed_10 : decode cX0_isHealed 10 = .ok (.iconst (-1), 1) := by decide +kernel
theorem dX0_isHealed_11 : decode cX0_isHealed 11 = .ok (.if_icmp .eq 12, 3) := by decide +kernel
theorem dX0_isHealed_14 : decode cX0_isHealed 14 = .ok (.iload_n 3, 1) := by decide +kernel
theorem dX0_isHealed_15 : decode cX0_isHealed 15 = .ok (.iload_n 2, 1) := by decide +kernel
theorem dX0_isHealed_16 : decode cX0_isHealed 16 = .ok (.if_icmp .gt 7, 3) := by decide +kernel
theorem dX0_isHealed_19 : decode cX0_isHealed 19 = .ok (.iconst 1, 1) := by decide +kernel
theorem dX0_isHealed_20 : decode cX0_isHealed 20 = .ok (.goto 4, 3) := by decide +kernel
theorem dX0_isHealed_23 : decode cX0_isHealed 23 = .ok (.iconst 0, 1) := by decide +kernel
theorem dX0_isHealed_24 : decode cX0_isHealed 24 = .ok (.ireturn, 1) := by decide +kernel
theorem dX0_isNought_0 : decode cX0_isNought 0 = .ok (.aload_n 0, 1) := by decide +kernel
theorem dX0_isNought_1 : decode cX0_isNought 1 = .ok (.getfield 26, 3) := by decide +kernel
theorem dX0_isNought_4 : decode cX0_isNought 4 = .ok (.iconst 0, 1) := by decide +kernel
theorem dX0_isNought_5 : decode cX0_isNought 5 = .ok (.aaload, 1) := by decide +kernel
theorem dX0_isNought_6 : decode cX0_isNought 6 = .ok (.iload_n 1, 1) := by decide +kernel
theorem dX0_isNought_7 : decode cX0_isNought 7 = .ok (.iaload, 1) := by decide +kernel
theorem dX0_isNought_8 : decode cX0_isNought 8 = .ok (.iconst 1, 1) := by decide +kernel
theorem dX0_isNought_9 : decode cX0_isNought 9 = .ok (.if_icmp .ne 16, 3) := by decide +kernel
theorem dX0_isNought_12 : decode cX0_isNought 12 = .ok (.aload_n 0, 1) := by decide +kernel
theorem dX0_isNought_13 : decode cX0_isNought 13 = .ok (.iload_n 1, 1) := by decide +kernel
theorem dX0_isNought_14 : decode cX0_isNought 14 = .ok (.iload_n 2, 1) := by decide +kernel
theorem dX0_isNought_15 : decode cX0_isNought 15 = .ok (.invokevirtual 72, 3) := by decide +kernel
theorem dX0_isNought_18 : decode cX0_isNought 18 = .ok (.ifCond .ne 7, 3) := by decide +kernel
theorem dX0_isNought_21 : decode cX0_isNought 21 = .ok (.iconst 1, 1) := by decide +kernel
theorem dX0_isNought_22 : decode cX0_isNought 22 = .ok (.goto 4, 3) := by decide +kernel
theorem dX0_isNought_25 : decode cX0_isNought 25 = .ok (.iconst 0, 1) := by decide +kernel
theorem dX0_isNought_26 : decode cX0_isNought 26 = .ok (.ireturn, 1) := by decide +kernel
theorem dX0_unhurtOn_0 : decode cX0_unhurtOn 0 = .ok (.iconst 0, 1) := by decide +kernel
theorem dX0_unhurtOn_1 : decode cX0_unhurtOn 1 = .ok (.istore_n 2, 1) := by decide +kernel
theorem dX0_unhurtOn_2 : decode cX0_unhurtOn 2 = .ok (.iconst 0, 1) := by decide +kernel
theorem dX0_unhurtOn_3 : decode cX0_unhurtOn 3 = .ok (.istore_n 3, 1) := by decide +kernel
theorem dX0_unhurtOn_4 : decode cX0_unhurtOn 4 = .ok (.iload_n 3, 1) := by decide +kernel
theorem dX0_unhurtOn_5 : decode cX0_unhurtOn 5 = .ok (.aload_n 0, 1) := by decide +kernel
theorem dX0_unhurtOn_6 : decode cX0_unhurtOn 6 = .ok (.getfield 41, 3) := by decide +kernel
theorem dX0_unhurtOn_9 : decode cX0_unhurtOn 9 = .ok (.if_icmp .ge 33, 3) := by decide +kernel
theorem dX0_unhurtOn_12 : decode cX0_unhurtOn 12 = .ok (.aload_n 0, 1) := by decide +kernel
theorem dX0_unhurtOn_13 : decode cX0_unhurtOn 13 = .ok (.iload_n 3, 1) := by decide +kernel
theorem dX0_unhurtOn_14 : decode cX0_unhurtOn 14 = .ok (.iload_n 1, 1) := by decide +kernel
theorem dX0_unhurtOn_15 : decode cX0_unhurtOn 15 = .ok (.invokevirtual 69, 3) := by decide +kernel
theorem dX0_unhurtOn_18 : decode cX0_unhurtOn 18 = .ok (.ifCond .eq 18, 3) := by decide +kernel
theorem dX0_unhurtOn_21 : decode cX0_unhurtOn 21 = .ok (.aload_n 0, 1) := by decide +kernel
theorem dX0_unhurtOn_22 : decode cX0_unhurtOn 22 = .ok (.iload_n 3, 1) := by decide +kernel
theorem dX0_unhurtOn_23 : decode cX0_unhurtOn 23 = .ok (.iload_n 1, 1) := by decide +kernel
theorem dX0_unhurtOn_24 : decode cX0_unhurtOn 24 = .ok (.invokevirtual 75, 3) := by decide +kernel
theorem dX0_unhurtOn_27 : decode cX0_unhurtOn 27 = .ok (.ifCond .ne 9, 3) := by decide +kernel
theorem dX0_unhurtOn_30 : decode cX0_unhurtOn 30 = .ok (.iload_n 2, 1) := by decide +kernel
theorem dX0_unhurtOn_31 : decode cX0_unhurtOn 31 = .ok (.iconst 1, 1) := by decide +kernel
theorem dX0_unhurtOn_32 : decode cX0_unhurtOn 32 = .ok (.iload_n 3, 1) := by decide +kernel
theorem dX0_unhurtOn_33 : decode cX0_unhurtOn 33 = .ok (.ishl, 1) := by decide +kernel
theorem dX0_unhurtOn_34 : decode cX0_unhurtOn 34 = .ok (.ior, 1) := by decide +kernel
theorem dX0_unhurtOn_35 : decode cX0_unhurtOn 35 = .ok (.istore_n 2, 1) := by decide +kernel
theorem dX0_unhurtOn_36 : decode cX0_unhurtOn 36 = .ok (.iinc 3 1, 3) := by decide +kernel
theorem dX0_unhurtOn_39 : decode cX0_unhurtOn 39 = .ok (.goto (-35), 3) := by decide +kernel
theorem dX0_unhurtOn_42 : decode cX0_unhurtOn 42 = .ok (.iload_n 2, 1) := by decide +kernel
theorem dX0_unhurtOn_43 : decode cX0_unhurtOn 43 = .ok (.ireturn, 1) := by decide +kernel
theorem dX0_wouldCount_0 : decode cX0_wouldCount 0 = .ok (.aload_n 0, 1) := by decide +kernel
theorem dX0_wouldCount_1 : decode cX0_wouldCount 1 = .ok (.iload_n 1, 1) := by decide +kernel
theorem dX0_wouldCount_2 : decode cX0_wouldCount 2 = .ok (.iload_n 2, 1) := by decide +kernel
theorem dX0_wouldCount_3 : decode cX0_wouldCount 3 = .ok (.invokevirtual 78, 3) := by decide +kernel
theorem dX0_wouldCount_6 : decode cX0_wouldCount 6 = .ok (.ifCond .eq 16, 3) := by decide +kernel
theorem dX0_wouldCount_9 : decode cX0_wouldCount 9 = .ok (.aload_n 0, 1) := by decide +kernel
theorem dX0_wouldCount_10 : decode cX0_wouldCount 10 = .ok (.iload_n 1, 1) := by decide +kernel
theorem dX0_wouldCount_11 : decode cX0_wouldCount 11 = .ok (.iload_n 3, 1) := by decide +kernel
theorem dX0_wouldCount_12 : decode cX0_wouldCount 12 = .ok (.invokevirtual 81, 3) := by decide +kernel
theorem dX0_wouldCount_15 : decode cX0_wouldCount 15 = .ok (.ifCond .eq 7, 3) := by decide +kernel
theorem dX0_wouldCount_18 : decode cX0_wouldCount 18 = .ok (.iconst 1, 1) := by decide +kernel
theorem dX0_wouldCount_19 : decode cX0_wouldCount 19 = .ok (.goto 4, 3) := by decide +kernel
theorem dX0_wouldCount_22 : decode cX0_wouldCount 22 = .ok (.iconst 0, 1) := by decide +kernel
theorem dX0_wouldCount_23 : decode cX0_wouldCount 23 = .ok (.ireturn, 1) := by decide +kernel
theorem dX0_lets_0 : decode cX0_lets 0 = .ok (.aload_n 0, 1) := by decide +kernel
theorem dX0_lets_1 : decode cX0_lets 1 = .ok (.getfield 26, 3) := by decide +kernel
theorem dX0_lets_4 : decode cX0_lets 4 = .ok (.iconst 0, 1) := by decide +kernel
theorem dX0_lets_5 : decode cX0_lets 5 = .ok (.aaload, 1) := by decide +kernel
theorem dX0_lets_6 : decode cX0_lets 6 = .ok (.iload_n 1, 1) := by decide +kernel
theorem dX0_lets_7 : decode cX0_lets 7 = .ok (.iaload, 1) := by decide +kernel
theorem dX0_lets_8 : decode cX0_lets 8 = .ok (.istore_n 3, 1) := by decide +kernel
theorem dX0_lets_9 : decode cX0_lets 9 = .ok (.iload_n 3, 1) := by decide +kernel
theorem dX0_lets_10 : decode cX0_lets 10 = .ok (.iconst 4, 1) := by decide +kernel
theorem dX0_lets_11 : decode cX0_lets 11 = .ok (.if_icmp .eq 33, 3) := by decide +kernel
theorem dX0_lets_14 : decode cX0_lets 14 = .ok (.iload_n 3, 1) := by decide +kernel
theorem dX0_lets_15 : decode cX0_lets 15 = .ok (.iconst 2, 1) := by decide +kernel
theorem dX0_lets_16 : decode cX0_lets 16 = .ok (.if_icmp .ne 13, 3) := by decide +kernel
theorem dX0_lets_19 : decode cX0_lets 19 = .ok (.iload_n 2, 1) := by decide +kernel
theorem dX0_lets_20 : decode cX0_lets 20 = .ok (.aload_n 0, 1) := by decide +kernel
theorem dX0_lets_21 : decode cX0_lets 21 = .ok (.getfield 15, 3) := by decide +kernel
theorem dX0_lets_24 : decode cX0_lets 24 = .ok (.iload_n 1, 1) := by decide +kernel
theorem dX0_lets_25 : decode cX0_lets 25 = .ok (.iaload, 1) := by decide +kernel
theorem dX0_lets_26 : decode cX0_lets 26 = .ok (.if_icmp .eq 18, 3) := by decide +kernel
theorem dX0_lets_29 : decode cX0_lets 29 = .ok (.iload_n 3, 1) := by decide +kernel
theorem dX0_lets_30 : decode cX0_lets 30 = .ok (.iconst 3, 1) := by decide +kernel
theorem dX0_lets_31 : decode cX0_lets 31 = .ok (.if_icmp .ne 17, 3) := by decide +kernel
theorem dX0_lets_34 : decode cX0_lets 34 = .ok (.iload_n 2, 1) := by decide +kernel
theorem dX0_lets_35 : decode cX0_lets 35 = .ok (.aload_n 0, 1) := by decide +kernel
theorem dX0_lets_36 : decode cX0_lets 36 = .ok (.getfield 18, 3) := by decide +kernel
theorem dX0_lets_39 : decode cX0_lets 39 = .ok (.iload_n 1, 1) := by decide +kernel
theorem dX0_lets_40 : decode cX0_lets 40 = .ok (.iaload, 1) := by decide +kernel
theorem dX0_lets_41 : decode cX0_lets 41 = .ok (.if_icmp .ne 7, 3) := by decide +kernel
theorem dX0_lets_44 : decode cX0_lets 44 = .ok (.iconst 1, 1) := by decide +kernel
theorem dX0_lets_45 : decode cX0_lets 45 = .ok (.goto 4, 3) := by decide +kernel
theorem dX0_lets_48 : decode cX0_lets 48 = .ok (.iconst 0, 1) := by decide +kernel
theorem dX0_lets_49 : decode cX0_lets 49 = .ok (.ireturn, 1) := by decide +kernel
theorem dX0_isInTime_0 : decode cX0_isInTime 0 = .ok (.aload_n 0, 1) := by decide +kernel
theorem dX0_isInTime_1 : decode cX0_isInTime 1 = .ok (.iload_n 1, 1) := by decide +kernel
theorem dX0_isInTime_2 : decode cX0_isInTime 2 = .ok (.iload_n 2, 1) := by decide +kernel
theorem dX0_isInTime_3 : decode cX0_isInTime 3 = .ok (.invokevirtual 69, 3) := by decide +kernel
theorem dX0_isInTime_6 : decode cX0_isInTime 6 = .ok (.ifCond .eq 35, 3) := by decide +kernel
theorem dX0_isInTime_9 : decode cX0_isInTime 9 = .ok (.iload_n 2, 1) := by decide +kernel
theorem dX0_isInTime_10 : decode cX0_isInTime 10 = .ok (.aload_n 0, 1) := by decide +kernel
theorem dX0_isInTime_11 : decode cX0_isInTime 11 = .ok (.getfield 9, 3) := by decide +kernel
theorem dX0_isInTime_14 : decode cX0_isInTime 14 = .ok (.iload_n 1, 1) := by decide +kernel
theorem dX0_isInTime_15 : decode cX0_isInTime 15 = .ok (.iaload, 1) := by decide +kernel
theorem dX0_isInTime_16 : decode cX0_isInTime 16 = .ok (.isub, 1) := by decide +kernel
theorem dX0_isInTime_17 : decode cX0_isInTime 17 = .ok (.aload_n 0, 1) := by decide +kernel
theorem dX0_isInTime_18 : decode cX0_isInTime 18 = .ok (.getfield 26, 3) := by decide +kernel
theorem dX0_isInTime_21 : decode cX0_isInTime 21 = .ok (.iconst 1, 1) := by decide +kernel
theorem dX0_isInTime_22 : decode cX0_isInTime 22 = .ok (.aaload, 1) := by decide +kernel
theorem dX0_isInTime_23 : decode cX0_isInTime 23 = .ok (.iload_n 1, 1) := by decide +kernel
theorem dX0_isInTime_24 : decode cX0_isInTime 24 = .ok (.iaload, 1) := by decide +kernel
theorem dX0_isInTime_25 : decode cX0_isInTime 25 = .ok (.if_icmp .gt 16, 3) := by decide +kernel
theorem dX0_isInTime_28 : decode cX0_isInTime 28 = .ok (.aload_n 0, 1) := by decide +kernel
theorem dX0_isInTime_29 : decode cX0_isInTime 29 = .ok (.iload_n 1, 1) := by decide +kernel
theorem dX0_isInTime_30 : decode cX0_isInTime 30 = .ok (.iload_n 2, 1) := by decide +kernel
theorem dX0_isInTime_31 : decode cX0_isInTime 31 = .ok (.invokevirtual 72, 3) := by decide +kernel
theorem dX0_isInTime_34 : decode cX0_isInTime 34 = .ok (.ifCond .ne 7, 3) := by decide +kernel
theorem dX0_isInTime_37 : decode cX0_isInTime 37 = .ok (.iconst 1, 1) := by decide +kernel
theorem dX0_isInTime_38 : decode cX0_isInTime 38 = .ok (.goto 4, 3) := by decide +kernel
theorem dX0_isInTime_41 : decode cX0_isInTime 41 = .ok (.iconst 0, 1) := by decide +kernel
theorem dX0_isInTime_42 : decode cX0_isInTime 42 = .ok (.ireturn, 1) := by decide +kernel
theorem dX0_askableOn_0 : decode cX0_askableOn 0 = .ok (.iconst 0, 1) := by decide +kernel
theorem dX0_askableOn_1 : decode cX0_askableOn 1 = .ok (.istore_n 2, 1) := by decide +kernel
theorem dX0_askableOn_2 : decode cX0_askableOn 2 = .ok (.iconst 0, 1) := by decide +kernel
theorem dX0_askableOn_3 : decode cX0_askableOn 3 = .ok (.istore_n 3, 1) := by decide +kernel
theorem dX0_askableOn_4 : decode cX0_askableOn 4 = .ok (.iload_n 3, 1) := by decide +kernel
theorem dX0_askableOn_5 : decode cX0_askableOn 5 = .ok (.aload_n 0, 1) := by decide +kernel
theorem dX0_askableOn_6 : decode cX0_askableOn 6 = .ok (.getfield 41, 3) := by decide +kernel
theorem dX0_askableOn_9 : decode cX0_askableOn 9 = .ok (.if_icmp .ge 45, 3) := by decide +kernel
theorem dX0_askableOn_12 : decode cX0_askableOn 12 = .ok (.aload_n 0, 1) := by decide +kernel
theorem dX0_askableOn_13 : decode cX0_askableOn 13 = .ok (.iload_n 3, 1) := by decide +kernel
theorem dX0_askableOn_14 : decode cX0_askableOn 14 = .ok (.aload_n 0, 1) := by decide +kernel
theorem dX0_askableOn_15 : decode cX0_askableOn 15 = .ok (.getfield 15, 3) := by decide +kernel
theorem dX0_askableOn_18 : decode cX0_askableOn 18 = .ok (.iload_n 3, 1) := by decide +kernel
theorem dX0_askableOn_19 : decode cX0_askableOn 19 = .ok (.iaload, 1) := by decide +kernel
theorem dX0_askableOn_20 : decode cX0_askableOn 20 = .ok (.iload_n 1, 1) := by decide +kernel
theorem dX0_askableOn_21 : decode cX0_askableOn 21 = .ok (.invokevirtual 84, 3) := by decide +kernel
theorem dX0_askableOn_24 : decode cX0_askableOn 24 = .ok (.ifCond .ne 18, 3) := by decide +kernel
theorem dX0_askableOn_27 : decode cX0_askableOn 27 = .ok (.aload_n 0, 1) := by decide +kernel
theorem dX0_askableOn_28 : decode cX0_askableOn 28 = .ok (.iload_n 3, 1) := by decide +kernel
theorem dX0_askableOn_29 : decode cX0_askableOn 29 = .ok (.aload_n 0, 1) := by decide +kernel
theorem dX0_askableOn_30 : decode cX0_askableOn 30 = .ok (.getfield 18, 3) := by decide +kernel
theorem dX0_askableOn_33 : decode cX0_askableOn 33 = .ok (.iload_n 3, 1) := by decide +kernel
theorem dX0_askableOn_34 : decode cX0_askableOn 34 = .ok (.iaload, 1) := by decide +kernel
theorem dX0_askableOn_35 : decode cX0_askableOn 35 = .ok (.iload_n 1, 1) := by decide +kernel
theorem dX0_askableOn_36 : decode cX0_askableOn 36 = .ok (.invokevirtual 84, 3) := by decide +kernel
theorem dX0_askableOn_39 : decode cX0_askableOn 39 = .ok (.ifCond .eq 9, 3) := by decide +kernel
theorem dX0_askableOn_42 : decode cX0_askableOn 42 = .ok (.iload_n 2, 1) := by decide +kernel
theorem dX0_askableOn_43 : decode cX0_askableOn 43 = .ok (.iconst 1, 1) := by decide +kernel
theorem dX0_askableOn_44 : decode cX0_askableOn 44 = .ok (.iload_n 3, 1) := by decide +kernel
theorem dX0_askableOn_45 : decode cX0_askableOn 45 = .ok (.ishl, 1) := by decide +kernel
theorem dX0_askableOn_46 : decode cX0_askableOn 46 = .ok (.ior, 1) := by decide +kernel
theorem dX0_askableOn_47 : decode cX0_askableOn 47 = .ok (.istore_n 2, 1) := by decide +kernel
theorem dX0_askableOn_48 : decode cX0_askableOn 48 = .ok (.iinc 3 1, 3) := by decide +kernel
theorem dX0_askableOn_51 : decode cX0_askableOn 51 = .ok (.goto (-47), 3) := by decide +kernel
theorem dX0_askableOn_54 : decode cX0_askableOn 54 = .ok (.iload_n 2, 1) := by decide +kernel
theorem dX0_askableOn_55 : decode cX0_askableOn 55 = .ok (.ireturn, 1) := by decide +kernel
theorem dX0_isHeldUp_0 : decode cX0_isHeldUp 0 = .ok (.aload_n 0, 1) := by decide +kernel
theorem dX0_isHeldUp_1 : decode cX0_isHeldUp 1 = .ok (.getfield 29, 3) := by decide +kernel
theorem dX0_isHeldUp_4 : decode cX0_isHeldUp 4 = .ok (.iload_n 1, 1) := by decide +kernel
theorem dX0_isHeldUp_5 : decode cX0_isHeldUp 5 = .ok (.iaload, 1) := by decide +kernel
theorem dX0_isHeldUp_6 : decode cX0_isHeldUp 6 = .ok (.istore_n 3, 1) := by decide +kernel
theorem dX0_isHeldUp_7 : decode cX0_isHeldUp 7 = .ok (.iconst 0, 1) := by decide +kernel
theorem dX0_isHeldUp_8 : decode cX0_isHeldUp 8 = .ok (.istore 4, 2) := by decide +kernel
theorem dX0_isHeldUp_10 : decode cX0_isHeldUp 10 = .ok (.iload 4, 2) := by decide +kernel
theorem dX0_isHeldUp_12 : decode cX0_isHeldUp 12 = .ok (.iload_n 3, 1) := by decide +kernel
theorem dX0_isHeldUp_13 : decode cX0_isHeldUp 13 = .ok (.if_icmp .ge 27, 3) := by decide +kernel
theorem dX0_isHeldUp_16 : decode cX0_isHeldUp 16 = .ok (.aload_n 0, 1) := by decide +kernel
theorem dX0_isHeldUp_17 : decode cX0_isHeldUp 17 = .ok (.getfield 32, 3) := by decide +kernel
theorem dX0_isHeldUp_20 : decode cX0_isHeldUp 20 = .ok (.iload_n 1, 1) := by decide +kernel
theorem dX0_isHeldUp_21 : decode cX0_isHeldUp 21 = .ok (.aaload, 1) := by decide +kernel
theorem dX0_isHeldUp_22 : decode cX0_isHeldUp 22 = .ok (.iload 4, 2) := by decide +kernel
theorem dX0_isHeldUp_24 : decode cX0_isHeldUp 24 = .ok (.iaload, 1) := by decide +kernel
theorem dX0_isHeldUp_25 : decode cX0_isHeldUp 25 = .ok (.iload_n 2, 1) := by decide +kernel
theorem dX0_isHeldUp_26 : decode cX0_isHeldUp 26 = .ok (.iconst (-1), 1) := by decide +kernel
theorem dX0_isHeldUp_27 : decode cX0_isHeldUp 27 = .ok (.ixor, 1) := by decide +kernel
theorem dX0_isHeldUp_28 : decode cX0_isHeldUp 28 = .ok (.iand, 1) := by decide +kernel
theorem dX0_isHeldUp_29 : decode cX0_isHeldUp 29 = .ok (.ifCond .ne 5, 3) := by decide +kernel
theorem dX0_isHeldUp_32 : decode cX0_isHeldUp 32 = .ok (.iconst 1, 1) := by decide +kernel
theorem dX0_isHeldUp_33 : decode cX0_isHeldUp 33 = .ok (.ireturn, 1) := by decide +kernel
theorem dX0_isHeldUp_34 : decode cX0_isHeldUp 34 = .ok (.iinc 4 1, 3) := by decide +kernel
theorem dX0_isHeldUp_37 : decode cX0_isHeldUp 37 = .ok (.goto (-27), 3) := by decide +kernel
theorem dX0_isHeldUp_40 : decode cX0_isHeldUp 40 = .ok (.iload_n 3, 1) := by decide +kernel
theorem dX0_isHeldUp_41 : decode cX0_isHeldUp 41 = .ok (.ifCond .ne 7, 3) := by decide +kernel
theorem dX0_isHeldUp_44 : decode cX0_isHeldUp 44 = .ok (.iconst 1, 1) := by decide +kernel
theorem dX0_isHeldUp_45 : decode cX0_isHeldUp 45 = .ok (.goto 4, 3) := by decide +kernel
theorem dX0_isHeldUp_48 : decode cX0_isHeldUp 48 = .ok (.iconst 0, 1) := by decide +kernel
theorem dX0_isHeldUp_49 : decode cX0_isHeldUp 49 = .ok (.ireturn, 1) := by decide +kernel
theorem dX0_unheld_0 : decode cX0_unheld 0 = .ok (.iload_n 1, 1) := by decide +kernel
theorem dX0_unheld_1 : decode cX0_unheld 1 = .ok (.iload_n 2, 1) := by decide +kernel
theorem dX0_unheld_2 : decode cX0_unheld 2 = .ok (.iconst (-1), 1) := by decide +kernel
theorem dX0_unheld_3 : decode cX0_unheld 3 = .ok (.ixor, 1) := by decide +kernel
theorem dX0_unheld_4 : decode cX0_unheld 4 = .ok (.iand, 1) := by decide +kernel
theorem dX0_unheld_5 : decode cX0_unheld 5 = .ok (.istore_n 3, 1) := by decide +kernel
theorem dX0_unheld_6 : decode cX0_unheld 6 = .ok (.iconst 0, 1) := by decide +kernel
theorem dX0_unheld_7 : decode cX0_unheld 7 = .ok (.istore 4, 2) := by decide +kernel
theorem dX0_unheld_9 : decode cX0_unheld 9 = .ok (.iconst 0, 1) := by decide +kernel
theorem dX0_unheld_10 : decode cX0_unheld 10 = .ok (.istore 5, 2) := by decide +kernel
theorem dX0_unheld_12 : decode cX0_unheld 12 = .ok (.iload 5, 2) := by decide +kernel
theorem dX0_unheld_14 : decode cX0_unheld 14 = .ok (.aload_n 0, 1) := by decide +kernel
theorem dX0_unheld_15 : decode cX0_unheld 15 = .ok (.getfield 41, 3) := by decide +kernel
theorem dX0_unheld_18 : decode cX0_unheld 18 = .ok (.if_icmp .ge 37, 3) := by decide +kernel
theorem dX0_unheld_21 : decode cX0_unheld 21 = .ok (.iload_n 3, 1) := by decide +kernel
theorem dX0_unheld_22 : decode cX0_unheld 22 = .ok (.iload 5, 2) := by decide +kernel
theorem dX0_unheld_24 : decode cX0_unheld 24 = .ok (.invokestatic 61, 3) := by decide +kernel
theorem dX0_unheld_27 : decode cX0_unheld 27 = .ok (.ifCond .eq 22, 3) := by decide +kernel
theorem dX0_unheld_30 : decode cX0_unheld 30 = .ok (.aload_n 0, 1) := by decide +kernel
theorem dX0_unheld_31 : decode cX0_unheld 31 = .ok (.iload 5, 2) := by decide +kernel
theorem dX0_unheld_33 : decode cX0_unheld 33 = .ok (.iload_n 1, 1) := by decide +kernel
theorem dX0_unheld_34 : decode cX0_unheld 34 = .ok (.invokevirtual 88, 3) := by decide +kernel
theorem dX0_unheld_37 : decode cX0_unheld 37 = .ok (.ifCond .ne 12, 3) := by decide +kernel
theorem dX0_unheld_40 : decode cX0_unheld 40 = .ok (.iload 4, 2) := by decide +kernel
theorem dX0_unheld_42 : decode cX0_unheld 42 = .ok (.iconst 1, 1) := by decide +kernel
theorem dX0_unheld_43 : decode cX0_unheld 43 = .ok (.iload 5, 2) := by decide +kernel
theorem dX0_unheld_45 : decode cX0_unheld 45 = .ok (.ishl, 1) := by decide +kernel
theorem dX0_unheld_46 : decode cX0_unheld 46 = .ok (.ior, 1) := by decide +kernel
theorem dX0_unheld_47 : decode cX0_unheld 47 = .ok (.istore 4, 2) := by decide +kernel
theorem dX0_unheld_49 : decode cX0_unheld 49 = .ok (.iinc 5 1, 3) := by decide +kernel
theorem dX0_unheld_52 : decode cX0_unheld 52 = .ok (.goto (-40), 3) := by decide +kernel
theorem dX0_unheld_55 : decode cX0_unheld 55 = .ok (.iload 4, 2) := by decide +kernel
theorem dX0_unheld_57 : decode cX0_unheld 57 = .ok (.ireturn, 1) := by decide +kernel
theorem dX0_most_0 : decode cX0_most 0 = .ok (.iload_n 1, 1) := by decide +kernel
theorem dX0_most_1 : decode cX0_most 1 = .ok (.istore_n 3, 1) := by decide +kernel
theorem dX0_most_2 : decode cX0_most 2 = .ok (.iconst 0, 1) := by decide +kernel
theorem dX0_most_3 : decode cX0_most 3 = .ok (.istore 4, 2) := by decide +kernel
theorem dX0_most_5 : decode cX0_most 5 = .ok (.iload 4, 2) := by decide +kernel
theorem dX0_most_7 : decode cX0_most 7 = .ok (.bipush 12, 2) := by decide +kernel
theorem dX0_most_9 : decode cX0_most 9 = .ok (.if_icmp .ge 32, 3) := by decide +kernel
theorem dX0_most_12 : decode cX0_most 12 = .ok (.aload_n 0, 1) := by decide +kernel
theorem dX0_most_13 : decode cX0_most 13 = .ok (.iload_n 3, 1) := by decide +kernel
theorem dX0_most_14 : decode cX0_most 14 = .ok (.iload_n 2, 1) := by decide +kernel
theorem dX0_most_15 : decode cX0_most 15 = .ok (.invokevirtual 91, 3) := by decide +kernel
theorem dX0_most_18 : decode cX0_most 18 = .ok (.istore 5, 2) := by decide +kernel
theorem dX0_most_20 : decode cX0_most 20 = .ok (.iload 5, 2) := by decide +kernel
theorem dX0_most_22 : decode cX0_most 22 = .ok (.ifCond .ne 6, 3) := by decide +kernel
theorem dX0_most_25 : decode cX0_most 25 = .ok (.goto 16, 3) := by decide +kernel
theorem dX0_most_28 : decode cX0_most 28 = .ok (.iload_n 3, 1) := by decide +kernel
theorem dX0_most_29 : decode cX0_most 29 = .ok (.iload 5, 2) := by decide +kernel
theorem dX0_most_31 : decode cX0_most 31 = .ok (.iconst (-1), 1) := by decide +kernel
theorem dX0_most_32 : decode cX0_most 32 = .ok (.ixor, 1) := by decide +kernel
theorem dX0_most_33 : decode cX0_most 33 = .ok (.iand, 1) := by decide +kernel
theorem dX0_most_34 : decode cX0_most 34 = .ok (.istore_n 3, 1) := by decide +kernel
theorem dX0_most_35 : decode cX0_most 35 = .ok (.iinc 4 1, 3) := by decide +kernel
theorem dX0_most_38 : decode cX0_most 38 = .ok (.goto (-33), 3) := by decide +kernel
theorem dX0_most_41 : decode cX0_most 41 = .ok (.iload_n 3, 1) := by decide +kernel
theorem dX0_most_42 : decode cX0_most 42 = .ok (.ireturn, 1) := by decide +kernel
theorem dX0_least_0 : decode cX0_least 0 = .ok (.iload_n 1, 1) := by decide +kernel
theorem dX0_least_1 : decode cX0_least 1 = .ok (.iload_n 2, 1) := by decide +kernel
theorem dX0_least_2 : decode cX0_least 2 = .ok (.iand, 1) := by decide +kernel
theorem dX0_least_3 : decode cX0_least 3 = .ok (.istore_n 3, 1) := by decide +kernel
theorem dX0_least_4 : decode cX0_least 4 = .ok (.iconst 0, 1) := by decide +kernel
theorem dX0_least_5 : decode cX0_least 5 = .ok (.istore 4, 2) := by decide +kernel
theorem dX0_least_7 : decode cX0_least 7 = .ok (.iload 4, 2) := by decide +kernel
theorem dX0_least_9 : decode cX0_least 9 = .ok (.bipush 12, 2) := by decide +kernel
theorem dX0_least_11 : decode cX0_least 11 = .ok (.if_icmp .ge 31, 3) := by decide +kernel
theorem dX0_least_14 : decode cX0_least 14 = .ok (.iload_n 3, 1) := by decide +kernel
theorem dX0_least_15 : decode cX0_least 15 = .ok (.aload_n 0, 1) := by decide +kernel
theorem dX0_least_16 : decode cX0_least 16 = .ok (.iload_n 1, 1) := by decide +kernel
theorem dX0_least_17 : decode cX0_least 17 = .ok (.iload_n 3, 1) := by decide +kernel
theorem dX0_least_18 : decode cX0_least 18 = .ok (.invokevirtual 94, 3) := by decide +kernel
theorem dX0_least_21 : decode cX0_least 21 = .ok (.ior, 1) := by decide +kernel
theorem dX0_least_22 : decode cX0_least 22 = .ok (.istore 5, 2) := by decide +kernel
theorem dX0_least_24 : decode cX0_least 24 = .ok (.iload 5, 2) := by decide +kernel
theorem dX0_least_26 : decode cX0_least 26 = .ok (.iload_n 3, 1) := by decide +kernel
theorem dX0_least_27 : decode cX0_least 27 = .ok (.if_icmp .ne 6, 3) := by decide +kernel
theorem dX0_least_30 : decode cX0_least 30 = .ok (.goto 12, 3) := by decide +kernel
theorem dX0_least_33 : decode cX0_least 33 = .ok (.iload 5, 2) := by decide +kernel
theorem dX0_least_35 : decode cX0_least 35 = .ok (.istore_n 3, 1) := by decide +kernel
theorem dX0_least_36 : decode cX0_least 36 = .ok (.iinc 4 1, 3) := by decide +kernel
theorem dX0_least_39 : decode cX0_least 39 = .ok (.goto (-32), 3) := by decide +kernel
theorem dX0_least_42 : decode cX0_least 42 = .ok (.iload_n 3, 1) := by decide +kernel
theorem dX0_least_43 : decode cX0_least 43 = .ok (.ireturn, 1) := by decide +kernel
theorem dX0_heldUpOf_0 : decode cX0_heldUpOf 0 = .ok (.iconst 0, 1) := by decide +kernel
theorem dX0_heldUpOf_1 : decode cX0_heldUpOf 1 = .ok (.istore_n 3, 1) := by decide +kernel
theorem dX0_heldUpOf_2 : decode cX0_heldUpOf 2 = .ok (.iconst 0, 1) := by decide +kernel
theorem dX0_heldUpOf_3 : decode cX0_heldUpOf 3 = .ok (.istore 4, 2) := by decide +kernel
theorem dX0_heldUpOf_5 : decode cX0_heldUpOf 5 = .ok (.iload 4, 2) := by decide +kernel
theorem dX0_heldUpOf_7 : decode cX0_heldUpOf 7 = .ok (.aload_n 0, 1) := by decide +kernel
theorem dX0_heldUpOf_8 : decode cX0_heldUpOf 8 = .ok (.getfield 41, 3) := by decide +kernel
theorem dX0_heldUpOf_11 : decode cX0_heldUpOf 11 = .ok (.if_icmp .ge 35, 3) := by decide +kernel
theorem dX0_heldUpOf_14 : decode cX0_heldUpOf 14 = .ok (.iload_n 1, 1) := by decide +kernel
theorem dX0_heldUpOf_15 : decode cX0_heldUpOf 15 = .ok (.iload 4, 2) := by decide +kernel
theorem dX0_heldUpOf_17 : decode cX0_heldUpOf 17 = .ok (.invokestatic 61, 3) := by decide +kernel
theorem dX0_heldUpOf_20 : decode cX0_heldUpOf 20 = .ok (.ifCond .eq 20, 3) := by decide +kernel
theorem dX0_heldUpOf_23 : decode cX0_heldUpOf 23 = .ok (.aload_n 0, 1) := by decide +kernel
theorem dX0_heldUpOf_24 : decode cX0_heldUpOf 24 = .ok (.iload 4, 2) := by decide +kernel
theorem dX0_heldUpOf_26 : decode cX0_heldUpOf 26 = .ok (.iload_n 2, 1) := by decide +kernel
theorem dX0_heldUpOf_27 : decode cX0_heldUpOf 27 = .ok (.invokevirtual 88, 3) := by decide +kernel
theorem dX0_heldUpOf_30 : decode cX0_heldUpOf 30 = .ok (.ifCond .eq 10, 3) := by decide +kernel
theorem dX0_heldUpOf_33 : decode cX0_heldUpOf 33 = .ok (.iload_n 3, 1) := by decide +kernel
theorem dX0_heldUpOf_34 : decode cX0_heldUpOf 34 = .ok (.iconst 1, 1) := by decide +kernel
theorem dX0_heldUpOf_35 : decode cX0_heldUpOf 35 = .ok (.iload 4, 2) := by decide +kernel
theorem dX0_heldUpOf_37 : decode cX0_heldUpOf 37 = .ok (.ishl, 1) := by decide +kernel
theorem dX0_heldUpOf_38 : decode cX0_heldUpOf 38 = .ok (.ior, 1) := by decide +kernel
theorem dX0_heldUpOf_39 : decode cX0_heldUpOf 39 = .ok (.istore_n 3, 1) := by decide +kernel
theorem dX0_heldUpOf_40 : decode cX0_heldUpOf 40 = .ok (.iinc 4 1, 3) := by decide +kernel
theorem dX0_heldUpOf_43 : decode cX0_heldUpOf 43 = .ok (.goto (-38), 3) := by decide +kernel
theorem dX0_heldUpOf_46 : decode cX0_heldUpOf 46 = .ok (.iload_n 3, 1) := by decide +kernel
theorem dX0_heldUpOf_47 : decode cX0_heldUpOf 47 = .ok (.ireturn, 1) := by decide +kernel
theorem dX0_gain_0 : decode cX0_gain 0 = .ok (.iconst 0, 1) := by decide +kernel
theorem dX0_gain_1 : decode cX0_gain 1 = .ok (.istore 5, 2) := by decide +kernel
theorem dX0_gain_3 : decode cX0_gain 3 = .ok (.iconst 0, 1) := by decide +kernel
theorem dX0_gain_4 : decode cX0_gain 4 = .ok (.istore 6, 2) := by decide +kernel
theorem dX0_gain_6 : decode cX0_gain 6 = .ok (.iload 6, 2) := by decide +kernel
theorem dX0_gain_8 : decode cX0_gain 8 = .ok (.aload_n 0, 1) := by decide +kernel
theorem dX0_gain_9 : decode cX0_gain 9 = .ok (.getfield 41, 3) := by decide +kernel
theorem dX0_gain_12 : decode cX0_gain 12 = .ok (.if_icmp .ge 90, 3) := by decide +kernel
theorem dX0_gain_15 : decode cX0_gain 15 = .ok (.iload_n 1, 1) := by decide +kernel
theorem dX0_gain_16 : decode cX0_gain 16 = .ok (.iload 6, 2) := by decide +kernel
theorem dX0_gain_18 : decode cX0_gain 18 = .ok (.invokestatic 61, 3) := by decide +kernel
theorem dX0_gain_21 : decode cX0_gain 21 = .ok (.ifCond .eq 75, 3) := by decide +kernel
theorem dX0_gain_24 : decode cX0_gain 24 = .ok (.aload_n 0, 1) := by decide +kernel
theorem dX0_gain_25 : decode cX0_gain 25 = .ok (.getfield 21, 3) := by decide +kernel
theorem dX0_gain_28 : decode cX0_gain 28 = .ok (.iload 6, 2) := by decide +kernel
theorem dX0_gain_30 : decode cX0_gain 30 = .ok (.iaload, 1) := by decide +kernel
theorem dX0_gain_31 : decode cX0_gain 31 = .ok (.aload_n 0, 1) := by decide +kernel
theorem dX0_gain_32 : decode cX0_gain 32 = .ok (.getfield 21, 3) := by decide +kernel
theorem dX0_gain_35 : decode cX0_gain 35 = .ok (.iload 6, 2) := by decide +kernel
theorem dX0_gain_37 : decode cX0_gain 37 = .ok (.iaload, 1) := by decide +kernel
theorem dX0_gain_38 : decode cX0_gain 38 = .ok (.iload 4, 2) := by decide +kernel
theorem dX0_gain_40 : decode cX0_gain 40 = .ok (.imul, 1) := by decide +kernel
theorem dX0_gain_41 : decode cX0_gain 41 = .ok (.iload_n 2, 1) := by decide +kernel
theorem dX0_gain_42 : decode cX0_gain 42 = .ok (.aload_n 0, 1) := by decide +kernel
theorem dX0_gain_43 : decode cX0_gain 43 = .ok (.getfield 9, 3) := by decide +kernel
theorem dX0_gain_46 : decode cX0_gain 46 = .ok (.iload 6, 2) := by decide +kernel
theorem dX0_gain_48 : decode cX0_gain 48 = .ok (.iaload, 1) := by decide +kernel
theorem dX0_gain_49 : decode cX0_gain 49 = .ok (.isub, 1) := by decide +kernel
theorem dX0_gain_50 : decode cX0_gain 50 = .ok (.imul, 1) := by decide +kernel
theorem dX0_gain_51 : decode cX0_gain 51 = .ok (.bipush 100, 2) := by decide +kernel
theorem dX0_gain_53 : decode cX0_gain 53 = .ok (.idiv, 1) := by decide +kernel
theorem dX0_gain_54 : decode cX0_gain 54 = .ok (.iadd, 1) := by decide +kernel
theorem dX0_gain_55 : decode cX0_gain 55 = .ok (.istore 7, 2) := by decide +kernel
theorem dX0_gain_57 : decode cX0_gain 57 = .ok (.aload_n 0, 1) := by decide +kernel
theorem dX0_gain_58 : decode cX0_gain 58 = .ok (.getfield 15, 3) := by decide +kernel
theorem dX0_gain_61 : decode cX0_gain 61 = .ok (.iload 6, 2) := by decide +kernel
theorem dX0_gain_63 : decode cX0_gain 63 = .ok (.iaload, 1) := by decide +kernel
theorem dX0_gain_64 : decode cX0_gain 64 = .ok (.iload_n 3, 1) := by decide +kernel
theorem dX0_gain_65 : decode cX0_gain 65 = .ok (.if_icmp .ne 13, 3) := by decide +kernel
theorem dX0_gain_68 : decode cX0_gain 68 = .ok (.iload 5, 2) := by decide +kernel
theorem dX0_gain_70 : decode cX0_gain 70 = .ok (.iload 7, 2) := by decide +kernel
theorem dX0_gain_72 : decode cX0_gain 72 = .ok (.iadd, 1) := by decide +kernel
theorem dX0_gain_73 : decode cX0_gain 73 = .ok (.istore 5, 2) := by decide +kernel
theorem dX0_gain_75 : decode cX0_gain 75 = .ok (.goto 21, 3) := by decide +kernel
theorem dX0_gain_78 : decode cX0_gain 78 = .ok (.aload_n 0, 1) := by decide +kernel
theorem dX0_gain_79 : decode cX0_gain 79 = .ok (.getfield 18, 3) := by decide +kernel
theorem dX0_gain_82 : decode cX0_gain 82 = .ok (.iload 6, 2) := by decide +kernel
theorem dX0_gain_84 : decode cX0_gain 84 = .ok (.iaload, 1) := by decide +kernel
theorem dX0_gain_85 : decode cX0_gain 85 = .ok (.iload_n 3, 1) := by decide +kernel
theorem dX0_gain_86 : decode cX0_gain 86 = .ok (.if_icmp .ne 10, 3) := by decide +kernel
theorem dX0_gain_89 : decode cX0_gain 89 = .ok (.iload 5, 2) := by decide +kernel
theorem dX0_gain_91 : decode cX0_gain 91 = .ok (.iload 7, 2) := by decide +kernel
theorem dX0_gain_93 : decode cX0_gain 93 = .ok (.isub, 1) := by decide +kernel
theorem dX0_gain_94 : decode cX0_gain 94 = .ok (.istore 5, 2) := by decide +kernel
theorem dX0_gain_96 : decode cX0_gain 96 = .ok (.iinc 6 1, 3) := by decide +kernel
theorem dX0_gain_99 : decode cX0_gain 99 = .ok (.goto (-93), 3) := by decide +kernel
theorem dX0_gain_102 : decode cX0_gain 102 = .ok (.iload 5, 2) := by decide +kernel
theorem dX0_gain_104 : decode cX0_gain 104 = .ok (.ireturn, 1) := by decide +kernel
theorem dX1_init_0 : decode cX1_init 0 = .ok (.aload_n 0, 1) := by decide +kernel
theorem dX1_init_1 : decode cX1_init 1 = .ok (.invokespecial 3, 3) := by decide +kernel
theorem dX1_init_4 : decode cX1_init 4 = .ok (.aload_n 0, 1) := by decide +kernel
theorem dX1_init_5 : decode cX1_init 5 = .ok (.bipush 12, 2) := by decide +kernel
theorem dX1_init_7 : decode cX1_init 7 = .ok (.newarray .int, 2) := by decide +kernel
theorem dX1_init_9 : decode cX1_init 9 = .ok (.putfield 9, 3) := by decide +kernel
theorem dX1_init_12 : decode cX1_init 12 = .ok (.aload_n 0, 1) := by decide +kernel
theorem dX1_init_13 : decode cX1_init 13 = .ok (.bipush 12, 2) := by decide +kernel
theorem dX1_init_15 : decode cX1_init 15 = .ok (.newarray .int, 2) := by decide +kernel
theorem dX1_init_17 : decode cX1_init 17 = .ok (.putfield 15, 3) := by decide +kernel
theorem dX1_init_20 : decode cX1_init 20 = .ok (.aload_n 0, 1) := by decide +kernel
theorem dX1_init_21 : decode cX1_init 21 = .ok (.bipush 12, 2) := by decide +kernel
theorem dX1_init_23 : decode cX1_init 23 = .ok (.newarray .int, 2) := by decide +kernel
theorem dX1_init_25 : decode cX1_init 25 = .ok (.putfield 18, 3) := by decide +kernel
theorem dX1_init_28 : decode cX1_init 28 = .ok (.return_, 1) := by decide +kernel
theorem dX1_add_0 : decode cX1_add 0 = .ok (.aload_n 0, 1) := by decide +kernel
theorem dX1_add_1 : decode cX1_add 1 = .ok (.getfield 9, 3) := by decide +kernel
theorem dX1_add_4 : decode cX1_add 4 = .ok (.aload_n 0, 1) := by decide +kernel
theorem dX1_add_5 : decode cX1_add 5 = .ok (.getfield 21, 3) := by decide +kernel
theorem dX1_add_8 : decode cX1_add 8 = .ok (.iload_n 1, 1) := by decide +kernel
theorem dX1_add_9 : decode cX1_add 9 = .ok (.iastore, 1) := by decide +kernel
theorem dX1_add_10 : decode cX1_add 10 = .ok (.aload_n 0, 1) := by decide +kernel
theorem dX1_add_11 : decode cX1_add 11 = .ok (.getfield 15, 3) := by decide +kernel
theorem dX1_add_14 : decode cX1_add 14 = .ok (.aload_n 0, 1) := by decide +kernel
theorem dX1_add_15 : decode cX1_add 15 = .ok (.getfield 21, 3) := by decide +kernel
theorem dX1_add_18 : decode cX1_add 18 = .ok (.iload_n 2, 1) := by decide +kernel
theorem dX1_add_19 : decode cX1_add 19 = .ok (.iastore, 1) := by decide +kernel
theorem dX1_add_20 : decode cX1_add 20 = .ok (.aload_n 0, 1) := by decide +kernel
theorem dX1_add_21 : decode cX1_add 21 = .ok (.getfield 18, 3) := by decide +kernel
theorem dX1_add_24 : decode cX1_add 24 = .ok (.aload_n 0, 1) := by decide +kernel
theorem dX1_add_25 : decode cX1_add 25 = .ok (.getfield 21, 3) := by decide +kernel
theorem dX1_add_28 : decode cX1_add 28 = .ok (.iload_n 3, 1) := by decide +kernel
theorem dX1_add_29 : decode cX1_add 29 = .ok (.iastore, 1) := by decide +kernel
theorem dX1_add_30 : decode cX1_add 30 = .ok (.aload_n 0, 1) := by decide +kernel
theorem dX1_add_31 : decode cX1_add 31 = .ok (.dup, 1) := by decide +kernel
theorem dX1_add_32 : decode cX1_add 32 = .ok (.getfield 21, 3) := by decide +kernel
theorem dX1_add_35 : decode cX1_add 35 = .ok (.iconst 1, 1) := by decide +kernel
theorem dX1_add_36 : decode cX1_add 36 = .ok (.iadd, 1) := by decide +kernel
theorem dX1_add_37 : decode cX1_add 37 = .ok (.putfield 21, 3) := by decide +kernel
theorem dX1_add_40 : decode cX1_add 40 = .ok (.aload_n 0, 1) := by decide +kernel
theorem dX1_add_41 : decode cX1_add 41 = .ok (.getfield 21, 3) := by decide +kernel
theorem dX1_add_44 : decode cX1_add 44 = .ok (.iconst 1, 1) := by decide +kernel
theorem dX1_add_45 : decode cX1_add 45 = .ok (.isub, 1) := by decide +kernel
theorem dX1_add_46 : decode cX1_add 46 = .ok (.ireturn, 1) := by decide +kernel
theorem dX1_isCounted_0 : decode cX1_isCounted 0 = .ok (.aload_n 2, 1) := by decide +kernel
theorem dX1_isCounted_1 : decode cX1_isCounted 1 = .ok (.aload_n 0, 1) := by decide +kernel
theorem dX1_isCounted_2 : decode cX1_isCounted 2 = .ok (.getfield 9, 3) := by decide +kernel
theorem dX1_isCounted_5 : decode cX1_isCounted 5 = .ok (.iload_n 1, 1) := by decide +kernel
theorem dX1_isCounted_6 : decode cX1_isCounted 6 = .ok (.iaload, 1) := by decide +kernel
theorem dX1_isCounted_7 : decode cX1_isCounted 7 = .ok (.aload_n 0, 1) := by decide +kernel
theorem dX1_isCounted_8 : decode cX1_isCounted 8 = .ok (.getfield 15, 3) := by decide +kernel
theorem dX1_isCounted_11 : decode cX1_isCounted 11 = .ok (.iload_n 1, 1) := by decide +kernel
theorem dX1_isCounted_12 : decode cX1_isCounted 12 = .ok (.iaload, 1) := by decide +kernel
theorem dX1_isCounted_13 : decode cX1_isCounted 13 = .ok (.aload_n 0, 1) := by decide +kernel
theorem dX1_isCounted_14 : decode cX1_isCounted 14 = .ok (.getfield 18, 3) := by decide +kernel
theorem dX1_isCounted_17 : decode cX1_isCounted 17 = .ok (.iload_n 1, 1) := by decide +kernel
theorem dX1_isCounted_18 : decode cX1_isCounted 18 = .ok (.iaload, 1) := by decide +kernel
theorem dX1_isCounted_19 : decode cX1_isCounted 19 = .ok (.invokevirtual 25, 3) := by decide +kernel
theorem dX1_isCounted_22 : decode cX1_isCounted 22 = .ok (.ireturn, 1) := by decide +kernel
theorem dX1_struckBy_0 : decode cX1_struckBy 0 = .ok (.iconst 0, 1) := by decide +kernel
theorem dX1_struckBy_1 : decode cX1_struckBy 1 = .ok (.istore_n 3, 1) := by decide +kernel
theorem dX1_struckBy_2 : decode cX1_struckBy 2 = .ok (.iconst 0, 1) := by decide +kernel
theorem dX1_struckBy_3 : decode cX1_struckBy 3 = .ok (.istore 4, 2) := by decide +kernel
theorem dX1_struckBy_5 : decode cX1_struckBy 5 = .ok (.iload 4, 2) := by decide +kernel
theorem dX1_struckBy_7 : decode cX1_struckBy 7 = .ok (.aload_n 0, 1) := by decide +kernel
theorem dX1_struckBy_8 : decode cX1_struckBy 8 = .ok (.getfield 21, 3) := by decide +kernel
theorem dX1_struckBy_11 : decode cX1_struckBy 11 = .ok (.if_icmp .ge 42, 3) := by decide +kernel
theorem dX1_struckBy_14 : decode cX1_struckBy 14 = .ok (.aload_n 0, 1) := by decide +kernel
theorem dX1_struckBy_15 : decode cX1_struckBy 15 = .ok (.getfield 18, 3) := by decide +kernel
theorem dX1_struckBy_18 : decode cX1_struckBy 18 = .ok (.iload 4, 2) := by decide +kernel
theorem dX1_struckBy_20 : decode cX1_struckBy 20 = .ok (.iaload, 1) := by decide +kernel
theorem dX1_struckBy_21 : decode cX1_struckBy 21 = .ok (.iload_n 1, 1) := by decide +kernel
theorem dX1_struckBy_22 : decode cX1_struckBy 22 = .ok (.if_icmp .gt 25, 3) := by decide +kernel
theorem dX1_struckBy_25 : decode cX1_struckBy 25 = .ok (.aload_n 0, 1) := by decide +kernel
theorem dX1_struckBy_26 : decode cX1_struckBy 26 = .ok (.iload 4, 2) := by decide +kernel
theorem dX1_struckBy_28 : decode cX1_struckBy 28 = .ok (.aload_n 2, 1) := by decide +kernel
theorem dX1_struckBy_29 : decode cX1_struckBy 29 = .ok (.invokevirtual 31, 3) := by decide +kernel
theorem dX1_struckBy_32 : decode cX1_struckBy 32 = .ok (.ifCond .eq 15, 3) := by decide +kernel
theorem dX1_struckBy_35 : decode cX1_struckBy 35 = .ok (.iload_n 3, 1) := by decide +kernel
theorem dX1_struckBy_36 : decode cX1_struckBy 36 = .ok (.iconst 1, 1) := by decide +kernel
theorem dX1_struckBy_37 : decode cX1_struckBy 37 = .ok (.aload_n 0, 1) := by decide +kernel
theorem dX1_struckBy_38 : decode cX1_struckBy 38 = .ok (.getfield 9, 3) := by decide +kernel
theorem dX1_struckBy_41 : decode cX1_struckBy 41 = .ok (.iload 4, 2) := by decide +kernel
theorem dX1_struckBy_43 : decode cX1_struckBy 43 = .ok (.iaload, 1) := by decide +kernel
theorem dX1_struckBy_44 : decode cX1_struckBy 44 = .ok (.ishl, 1) := by decide +kernel
theorem dX1_struckBy_45 : decode cX1_struckBy 45 = .ok (.ior, 1) := by decide +kernel
theorem dX1_struckBy_46 : decode cX1_struckBy 46 = .ok (.istore_n 3, 1) := by decide +kernel
theorem dX1_struckBy_47 : decode cX1_struckBy 47 = .ok (.iinc 4 1, 3) := by decide +kernel
theorem dX1_struckBy_50 : decode cX1_struckBy 50 = .ok (.goto (-45), 3) := by decide +kernel
theorem dX1_struckBy_53 : decode cX1_struckBy 53 = .ok (.iload_n 3, 1) := by decide +kernel
theorem dX1_struckBy_54 : decode cX1_struckBy 54 = .ok (.ireturn, 1) := by decide +kernel
theorem dX2_init_0 : decode cX2_init 0 = .ok (.aload_n 0, 1) := by decide +kernel
theorem dX2_init_1 : decode cX2_init 1 = .ok (.invokespecial 3, 3) := by decide +kernel
theorem dX2_init_4 : decode cX2_init 4 = .ok (.aload_n 0, 1) := by decide +kernel
theorem dX2_init_5 : decode cX2_init 5 = .ok (.bipush 40, 2) := by decide +kernel
theorem dX2_init_7 : decode cX2_init 7 = .ok (.newarray .int, 2) := by decide +kernel
theorem dX2_init_9 : decode cX2_init 9 = .ok (.putfield 9, 3) := by decide +kernel
theorem dX2_init_12 : decode cX2_init 12 = .ok (.return_, 1) := by decide +kernel
theorem dX2_add_0 : decode cX2_add 0 = .ok (.aload_n 0, 1) := by decide +kernel
theorem dX2_add_1 : decode cX2_add 1 = .ok (.getfield 9, 3) := by decide +kernel
theorem dX2_add_4 : decode cX2_add 4 = .ok (.aload_n 0, 1) := by decide +kernel
theorem dX2_add_5 : decode cX2_add 5 = .ok (.getfield 15, 3) := by decide +kernel
theorem dX2_add_8 : decode cX2_add 8 = .ok (.iload_n 1, 1) := by decide +kernel
theorem dX2_add_9 : decode cX2_add 9 = .ok (.iastore, 1) := by decide +kernel
theorem dX2_add_10 : decode cX2_add 10 = .ok (.aload_n 0, 1) := by decide +kernel
theorem dX2_add_11 : decode cX2_add 11 = .ok (.dup, 1) := by decide +kernel
theorem dX2_add_12 : decode cX2_add 12 = .ok (.getfield 15, 3) := by decide +kernel
theorem dX2_add_15 : decode cX2_add 15 = .ok (.iconst 1, 1) := by decide +kernel
theorem dX2_add_16 : decode cX2_add 16 = .ok (.iadd, 1) := by decide +kernel
theorem dX2_add_17 : decode cX2_add 17 = .ok (.putfield 15, 3) := by decide +kernel
theorem dX2_add_20 : decode cX2_add 20 = .ok (.aload_n 0, 1) := by decide +kernel
theorem dX2_add_21 : decode cX2_add 21 = .ok (.getfield 15, 3) := by decide +kernel
theorem dX2_add_24 : decode cX2_add 24 = .ok (.ireturn, 1) := by decide +kernel
theorem dX2_clear_0 : decode cX2_clear 0 = .ok (.aload_n 0, 1) := by decide +kernel
theorem dX2_clear_1 : decode cX2_clear 1 = .ok (.getfield 15, 3) := by decide +kernel
theorem dX2_clear_4 : decode cX2_clear 4 = .ok (.istore_n 1, 1) := by decide +kernel
theorem dX2_clear_5 : decode cX2_clear 5 = .ok (.aload_n 0, 1) := by decide +kernel
theorem dX2_clear_6 : decode cX2_clear 6 = .ok (.iconst 0, 1) := by decide +kernel
theorem dX2_clear_7 : decode cX2_clear 7 = .ok (.putfield 15, 3) := by decide +kernel
theorem dX2_clear_10 : decode cX2_clear 10 = .ok (.iload_n 1, 1) := by decide +kernel
theorem dX2_clear_11 : decode cX2_clear 11 = .ok (.ireturn, 1) := by decide +kernel
theorem dX2_faultPlace_0 : decode cX2_faultPlace 0 = .ok (.iconst 0, 1) := by decide +kernel
theorem dX2_faultPlace_1 : decode cX2_faultPlace 1 = .ok (.istore_n 1, 1) := by decide +kernel
theorem dX2_faultPlace_2 : decode cX2_faultPlace 2 = .ok (.iload_n 1, 1) := by decide +kernel
theorem dX2_faultPlace_3 : decode cX2_faultPlace 3 = .ok (.aload_n 0, 1) := by decide +kernel
theorem dX2_faultPlace_4 : decode cX2_faultPlace 4 = .ok (.getfield 15, 3) := by decide +kernel
theorem dX2_faultPlace_7 : decode cX2_faultPlace 7 = .ok (.if_icmp .ge 24, 3) := by decide +kernel
theorem dX2_faultPlace_10 : decode cX2_faultPlace 10 = .ok (.aload_n 0, 1) := by decide +kernel
theorem dX2_faultPlace_11 : decode cX2_faultPlace 11 = .ok (.getfield 9, 3) := by decide +kernel
theorem dX2_faultPlace_14 : decode cX2_faultPlace 14 = .ok (.iload_n 1, 1) := by decide +kernel
theorem dX2_faultPlace_15 : decode cX2_faultPlace 15 = .ok (.iaload, 1) := by decide +kernel
theorem dX2_faultPlace_16 : decode cX2_faultPlace 16 = .ok (.iload_n 1, 1) := by decide +kernel
theorem dX2_faultPlace_17 : decode cX2_faultPlace 17 = .ok (.invokestatic 19, 3) := by decide +kernel
theorem dX2_faultPlace_20 : decode cX2_faultPlace 20 = .ok (.ifCond .ne 5, 3) := by decide +kernel
theorem dX2_faultPlace_23 : decode cX2_faultPlace 23 = .ok (.iload_n 1, 1) := by decide +kernel
theorem dX2_faultPlace_24 : decode cX2_faultPlace 24 = .ok (.ireturn, 1) := by decide +kernel
theorem dX2_faultPlace_25 : decode cX2_faultPlace 25 = .ok (.iinc 1 1, 3) := by decide +kernel
theorem dX2_faultPlace_28 : decode cX2_faultPlace 28 = .ok (.goto (-26), 3) := by decide +kernel
theorem dX2_faultPlace_31 : decode cX2_faultPlace 31 = .ok (.aload_n 0, 1) := by decide +kernel
theorem dX2_faultPlace_32 : decode cX2_faultPlace 32 = .ok (.getfield 15, 3) := by decide +kernel
theorem dX2_faultPlace_35 : decode cX2_faultPlace 35 = .ok (.invokestatic 23, 3) := by decide +kernel
theorem dX2_faultPlace_38 : decode cX2_faultPlace 38 = .ok (.ifCond .eq 10, 3) := by decide +kernel
theorem dX2_faultPlace_41 : decode cX2_faultPlace 41 = .ok (.aload_n 0, 1) := by decide +kernel
theorem dX2_faultPlace_42 : decode cX2_faultPlace 42 = .ok (.getfield 15, 3) := by decide +kernel
theorem dX2_faultPlace_45 : decode cX2_faultPlace 45 = .ok (.goto 5, 3) := by decide +kernel
theorem dX2_faultPlace_48 : decode cX2_faultPlace 48 = .ok (.bipush (-6), 2) := by decide +kernel
theorem dX2_faultPlace_50 : decode cX2_faultPlace 50 = .ok (.ireturn, 1) := by decide +kernel
theorem dX2_isForLetter_0 : decode cX2_isForLetter 0 = .ok (.iload_n 0, 1) := by decide +kernel
theorem dX2_isForLetter_1 : decode cX2_isForLetter 1 = .ok (.iconst 2, 1) := by decide +kernel
theorem dX2_isForLetter_2 : decode cX2_isForLetter 2 = .ok (.irem, 1) := by decide +kernel
theorem dX2_isForLetter_3 : decode cX2_isForLetter 3 = .ok (.ifCond .ne 7, 3) := by decide +kernel
theorem dX2_isForLetter_6 : decode cX2_isForLetter 6 = .ok (.iconst 1, 1) := by decide +kernel
theorem dX2_isForLetter_7 : decode cX2_isForLetter 7 = .ok (.goto 4, 3) := by decide +kernel
theorem dX2_isForLetter_10 : decode cX2_isForLetter 10 = .ok (.iconst 0, 1) := by decide +kernel
theorem dX2_isForLetter_11 : decode cX2_isForLetter 11 = .ok (.ireturn, 1) := by decide +kernel
theorem dX2_canStand_0 : decode cX2_canStand 0 = .ok (.iload_n 1, 1) := by decide +kernel
theorem dX2_canStand_1 : decode cX2_canStand 1 = .ok (.invokestatic 23, 3) := by decide +kernel
theorem dX2_canStand_4 : decode cX2_canStand 4 = .ok (.ifCond .eq 12, 3) := by decide +kernel
theorem dX2_canStand_7 : decode cX2_canStand 7 = .ok (.iload_n 0, 1) := by decide +kernel
theorem dX2_canStand_8 : decode cX2_canStand 8 = .ok (.bipush 97, 2) := by decide +kernel
theorem dX2_canStand_10 : decode cX2_canStand 10 = .ok (.bipush 108, 2) := by decide +kernel
theorem dX2_canStand_12 : decode cX2_canStand 12 = .ok (.invokestatic 27, 3) := by decide +kernel
theorem dX2_canStand_15 : decode cX2_canStand 15 = .ok (.ireturn, 1) := by decide +kernel
theorem dX2_canStand_16 : decode cX2_canStand 16 = .ok (.iload_n 0, 1) := by decide +kernel
theorem dX2_canStand_17 : decode cX2_canStand 17 = .ok (.bipush 43, 2) := by decide +kernel
theorem dX2_canStand_19 : decode cX2_canStand 19 = .ok (.if_icmp .eq 9, 3) := by decide +kernel
theorem dX2_canStand_22 : decode cX2_canStand 22 = .ok (.iload_n 0, 1) := by decide +kernel
theorem dX2_canStand_23 : decode cX2_canStand 23 = .ok (.bipush 124, 2) := by decide +kernel
theorem dX2_canStand_25 : decode cX2_canStand 25 = .ok (.if_icmp .ne 7, 3) := by decide +kernel
theorem dX2_canStand_28 : decode cX2_canStand 28 = .ok (.iconst 1, 1) := by decide +kernel
theorem dX2_canStand_29 : decode cX2_canStand 29 = .ok (.goto 4, 3) := by decide +kernel
theorem dX2_canStand_32 : decode cX2_canStand 32 = .ok (.iconst 0, 1) := by decide +kernel
theorem dX2_canStand_33 : decode cX2_canStand 33 = .ok (.ireturn, 1) := by decide +kernel
theorem dJ6_bitCount_0f7a4_0 : decode cJ6_bitCount_0f7a4 0 = .ok (.iload_n 0, 1) := by decide +kernel
theorem dJ6_bitCount_0f7a4_1 : decode cJ6_bitCount_0f7a4 1 = .ok (.iload_n 0, 1) := by decide +kernel
theorem dJ6_bitCount_0f7a4_2 : decode cJ6_bitCount_0f7a4 2 = .ok (.iconst 1, 1) := by decide +kernel
theorem dJ6_bitCount_0f7a4_3 : decode cJ6_bitCount_0f7a4 3 = .ok (.iushr, 1) := by decide +kernel
theorem dJ6_bitCount_0f7a4_4 : decode cJ6_bitCount_0f7a4 4 = .ok (.ldc_w 265, 3) := by decide +kernel
theorem dJ6_bitCount_0f7a4_7 : decode cJ6_bitCount_0f7a4 7 = .ok (.iand, 1) := by decide +kernel
theorem dJ6_bitCount_0f7a4_8 : decode cJ6_bitCount_0f7a4 8 = .ok (.isub, 1) := by decide +kernel
theorem dJ6_bitCount_0f7a4_9 : decode cJ6_bitCount_0f7a4 9 = .ok (.istore_n 0, 1) := by decide +kernel
theorem dJ6_bitCount_0f7a4_10 : decode cJ6_bitCount_0f7a4 10 = .ok (.iload_n 0, 1) := by decide +kernel
theorem dJ6_bitCount_0f7a4_11 : decode cJ6_bitCount_0f7a4 11 = .ok (.ldc_w 266, 3) := by decide +kernel
theorem dJ6_bitCount_0f7a4_14 : decode cJ6_bitCount_0f7a4 14 = .ok (.iand, 1) := by decide +kernel
theorem dJ6_bitCount_0f7a4_15 : decode cJ6_bitCount_0f7a4 15 = .ok (.iload_n 0, 1) := by decide +kernel
theorem dJ6_bitCount_0f7a4_16 : decode cJ6_bitCount_0f7a4 16 = .ok (.iconst 2, 1) := by decide +kernel
theorem dJ6_bitCount_0f7a4_17 : decode cJ6_bitCount_0f7a4 17 = .ok (.iushr, 1) := by decide +kernel
theorem dJ6_bitCount_0f7a4_18 : decode cJ6_bitCount_0f7a4 18 = .ok (.ldc_w 266, 3) := by decide +kernel
theorem dJ6_bitCount_0f7a4_21 : decode cJ6_bitCount_0f7a4 21 = .ok (.iand, 1) := by decide +kernel
theorem dJ6_bitCount_0f7a4_22 : decode cJ6_bitCount_0f7a4 22 = .ok (.iadd, 1) := by decide +kernel
theorem dJ6_bitCount_0f7a4_23 : decode cJ6_bitCount_0f7a4 23 = .ok (.istore_n 0, 1) := by decide +kernel
theorem dJ6_bitCount_0f7a4_24 : decode cJ6_bitCount_0f7a4 24 = .ok (.iload_n 0, 1) := by decide +kernel
theorem dJ6_bitCount_0f7a4_25 : decode cJ6_bitCount_0f7a4 25 = .ok (.iload_n 0, 1) := by decide +kernel
theorem dJ6_bitCount_0f7a4_26 : decode cJ6_bitCount_0f7a4 26 = .ok (.iconst 4, 1) := by decide +kernel
theorem dJ6_bitCount_0f7a4_27 : decode cJ6_bitCount_0f7a4 27 = .ok (.iushr, 1) := by decide +kernel
theorem dJ6_bitCount_0f7a4_28 : decode cJ6_bitCount_0f7a4 28 = .ok (.iadd, 1) := by decide +kernel
theorem dJ6_bitCount_0f7a4_29 : decode cJ6_bitCount_0f7a4 29 = .ok (.ldc_w 267, 3) := by decide +kernel
theorem dJ6_bitCount_0f7a4_32 : decode cJ6_bitCount_0f7a4 32 = .ok (.iand, 1) := by decide +kernel
theorem dJ6_bitCount_0f7a4_33 : decode cJ6_bitCount_0f7a4 33 = .ok (.istore_n 0, 1) := by decide +kernel
theorem dJ6_bitCount_0f7a4_34 : decode cJ6_bitCount_0f7a4 34 = .ok (.iload_n 0, 1) := by decide +kernel
theorem dJ6_bitCount_0f7a4_35 : decode cJ6_bitCount_0f7a4 35 = .ok (.iload_n 0, 1) := by decide +kernel
theorem dJ6_bitCount_0f7a4_36 : decode cJ6_bitCount_0f7a4 36 = .ok (.bipush 8, 2) := by decide +kernel
theorem dJ6_bitCount_0f7a4_38 : decode cJ6_bitCount_0f7a4 38 = .ok (.iushr, 1) := by decide +kernel
theorem dJ6_bitCount_0f7a4_39 : decode cJ6_bitCount_0f7a4 39 = .ok (.iadd, 1) := by decide +kernel
theorem dJ6_bitCount_0f7a4_40 : decode cJ6_bitCount_0f7a4 40 = .ok (.istore_n 0, 1) := by decide +kernel
theorem dJ6_bitCount_0f7a4_41 : decode cJ6_bitCount_0f7a4 41 = .ok (.iload_n 0, 1) := by decide +kernel
theorem dJ6_bitCount_0f7a4_42 : decode cJ6_bitCount_0f7a4 42 = .ok (.iload_n 0, 1) := by decide +kernel
theorem dJ6_bitCount_0f7a4_43 : decode cJ6_bitCount_0f7a4 43 = .ok (.bipush 16, 2) := by decide +kernel
theorem dJ6_bitCount_0f7a4_45 : decode cJ6_bitCount_0f7a4 45 = .ok (.iushr, 1) := by decide +kernel
theorem dJ6_bitCount_0f7a4_46 : decode cJ6_bitCount_0f7a4 46 = .ok (.iadd, 1) := by decide +kernel
theorem dJ6_bitCount_0f7a4_47 : decode cJ6_bitCount_0f7a4 47 = .ok (.istore_n 0, 1) := by decide +kernel
theorem dJ6_bitCount_0f7a4_48 : decode cJ6_bitCount_0f7a4 48 = .ok (.iload_n 0, 1) := by decide +kernel
theorem dJ6_bitCount_0f7a4_49 : decode cJ6_bitCount_0f7a4 49 = .ok (.bipush 63, 2) := by decide +kernel
theorem dJ6_bitCount_0f7a4_51 : decode cJ6_bitCount_0f7a4 51 = .ok (.iand, 1) := by decide +kernel
theorem dJ6_bitCount_0f7a4_52 : decode cJ6_bitCount_0f7a4 52 = .ok (.ireturn, 1) := by decide +kernel
theorem dJ7_fill_53178_0 : decode cJ7_fill_53178 0 = .ok (.iconst 0, 1) := by decide +kernel
theorem dJ7_fill_53178_1 : decode cJ7_fill_53178 1 = .ok (.istore_n 2, 1) := by decide +kernel
theorem dJ7_fill_53178_2 : decode cJ7_fill_53178 2 = .ok (.aload_n 0, 1) := by decide +kernel
theorem dJ7_fill_53178_3 : decode cJ7_fill_53178 3 = .ok (.arraylength, 1) := by decide +kernel
theorem dJ7_fill_53178_4 : decode cJ7_fill_53178 4 = .ok (.istore_n 3, 1) := by decide +kernel
theorem dJ7_fill_53178_5 : decode cJ7_fill_53178 5 = .ok (.iload_n 2, 1) := by decide +kernel
theorem dJ7_fill_53178_6 : decode cJ7_fill_53178 6 = .ok (.iload_n 3, 1) := by decide +kernel
theorem dJ7_fill_53178_7 : decode cJ7_fill_53178 7 = .ok (.if_icmp .ge 13, 3) := by decide +kernel
theorem dJ7_fill_53178_10 : decode cJ7_fill_53178 10 = .ok (.aload_n 0, 1) := by decide +kernel
theorem dJ7_fill_53178_11 : decode cJ7_fill_53178 11 = .ok (.iload_n 2, 1) := by decide +kernel
theorem dJ7_fill_53178_12 : decode cJ7_fill_53178 12 = .ok (.iload_n 1, 1) := by decide +kernel
theorem dJ7_fill_53178_13 : decode cJ7_fill_53178 13 = .ok (.iastore, 1) := by decide +kernel
theorem dJ7_fill_53178_14 : decode cJ7_fill_53178 14 = .ok (.iinc 2 1, 3) := by decide +kernel
theorem dJ7_fill_53178_17 : decode cJ7_fill_53178 17 = .ok (.goto (-12), 3) := by decide +kernel
theorem dJ7_fill_53178_20 : decode cJ7_fill_53178 20 = .ok (.return_, 1) := by decide +kernel
theorem dJ9_min_7cf53_0 : decode cJ9_min_7cf53 0 = .ok (.iload_n 0, 1) := by decide +kernel
theorem dJ9_min_7cf53_1 : decode cJ9_min_7cf53 1 = .ok (.iload_n 1, 1) := by decide +kernel
theorem dJ9_min_7cf53_2 : decode cJ9_min_7cf53 2 = .ok (.if_icmp .gt 7, 3) := by decide +kernel
theorem dJ9_min_7cf53_5 : decode cJ9_min_7cf53 5 = .ok (.iload_n 0, 1) := by decide +kernel
theorem dJ9_min_7cf53_6 : decode cJ9_min_7cf53 6 = .ok (.goto 4, 3) := by decide +kernel
theorem dJ9_min_7cf53_9 : decode cJ9_min_7cf53 9 = .ok (.iload_n 1, 1) := by decide +kernel
theorem dJ9_min_7cf53_10 : decode cJ9_min_7cf53 10 = .ok (.ireturn, 1) := by decide +kernel
end
section
theorem dX3_init_0 : decode cX3_init 0 = .ok (.aload_n 0, 1) := by decide +kernel
theorem dX3_init_1 : decode cX3_init 1 = .ok (.invokespecial 1, 3) := by decide +kernel
theorem dX3_init_4 : decode cX3_init 4 = .ok (.aload_n 0, 1) := by decide +kernel
theorem dX3_init_5 : decode cX3_init 5 = .ok (.new 7, 3) := by decide +kernel
theorem dX3_init_8 : decode cX3_init 8 = .ok (.dup, 1) := by decide +kernel
theorem dX3_init_9 : decode cX3_init 9 = .ok (.invokespecial 9, 3) := by decide +kernel
theorem dX3_init_12 : decode cX3_init 12 = .ok (.putfield 10, 3) := by decide +kernel
theorem dX3_init_15 : decode cX3_init 15 = .ok (.aload_n 0, 1) := by decide +kernel
theorem dX3_init_16 : decode cX3_init 16 = .ok (.new 16, 3) := by decide +kernel
theorem dX3_init_19 : decode cX3_init 19 = .ok (.dup, 1) := by decide +kernel
theorem dX3_init_20 : decode cX3_init 20 = .ok (.invokespecial 18, 3) := by decide +kernel
theorem dX3_init_23 : decode cX3_init 23 = .ok (.putfield 19, 3) := by decide +kernel
theorem dX3_init_26 : decode cX3_init 26 = .ok (.aload_n 0, 1) := by decide +kernel
theorem dX3_init_27 : decode cX3_init 27 = .ok (.new 23, 3) := by decide +kernel
theorem dX3_init_30 : decode cX3_init 30 = .ok (.dup, 1) := by decide +kernel
theorem dX3_init_31 : decode cX3_init 31 = .ok (.invokespecial 25, 3) := by decide +kernel
theorem dX3_init_34 : decode cX3_init 34 = .ok (.putfield 26, 3) := by decide +kernel
theorem dX3_init_37 : decode cX3_init 37 = .ok (.aload_n 0, 1) := by decide +kernel
theorem dX3_init_38 : decode cX3_init 38 = .ok (.iconst 0, 1) := by decide +kernel
theorem dX3_init_39 : decode cX3_init 39 = .ok (.putfield 30, 3) := by decide +kernel
theorem dX3_init_42 : decode cX3_init 42 = .ok (.aload_n 0, 1) := by decide +kernel
theorem dX3_init_43 : decode cX3_init 43 = .ok (.iconst 1, 1) := by decide +kernel
theorem dX3_init_44 : decode cX3_init 44 = .ok (.putfield 34, 3) := by decide +kernel
theorem dX3_init_47 : decode cX3_init 47 = .ok (.return_, 1) := by decide +kernel
theorem dX3_act_0 : decode cX3_act 0 = .ok (.iload_n 2, 1) := by decide +kernel
theorem dX3_act_1 : decode cX3_act 1 = .ok (.invokestatic 37, 3) := by decide +kernel
theorem dX3_act_4 : decode cX3_act 4 = .ok (.ifCond .eq 15, 3) := by decide +kernel
theorem dX3_act_7 : decode cX3_act 7 = .ok (.iload_n 3, 1) := by decide +kernel
theorem dX3_act_8 : decode cX3_act 8 = .ok (.invokestatic 37, 3) := by decide +kernel
theorem dX3_act_11 : decode cX3_act 11 = .ok (.ifCond .eq 8, 3) := by decide +kernel
theorem dX3_act_14 : decode cX3_act 14 = .ok (.iload_n 2, 1) := by decide +kernel
theorem dX3_act_15 : decode cX3_act 15 = .ok (.iload_n 3, 1) := by decide +kernel
theorem dX3_act_16 : decode cX3_act 16 = .ok (.if_icmp .ne 5, 3) := by decide +kernel
theorem dX3_act_19 : decode cX3_act 19 = .ok (.iconst (-1), 1) := by decide +kernel
theorem dX3_act_20 : decode cX3_act 20 = .ok (.ireturn, 1) := by decide +kernel
theorem dX3_act_21 : decode cX3_act 21 = .ok (.iload_n 1, 1) := by decide +kernel
theorem dX3_act_22 : decode cX3_act 22 = .ok (.invokestatic 41, 3) := by decide +kernel
theorem dX3_act_25 : decode cX3_act 25 = .ok (.ifCond .eq 14, 3) := by decide +kernel
theorem dX3_act_28 : decode cX3_act 28 = .ok (.iload 4, 2) := by decide +kernel
theorem dX3_act_30 : decode cX3_act 30 = .ok (.iconst 0, 1) := by decide +kernel
theorem dX3_act_31 : decode cX3_act 31 = .ok (.bipush 99, 2) := by decide +kernel
theorem dX3_act_33 : decode cX3_act 33 = .ok (.invokestatic 44, 3) := by decide +kernel
theorem dX3_act_36 : decode cX3_act 36 = .ok (.ifCond .ne 6, 3) := by decide +kernel
theorem dX3_act_39 : decode cX3_act 39 = .ok (.bipush (-2), 2) := by decide +kernel
theorem dX3_act_41 : decode cX3_act 41 = .ok (.ireturn, 1) := by decide +kernel
theorem dX3_act_42 : decode cX3_act 42 = .ok (.aload_n 0, 1) := by decide +kernel
theorem dX3_act_43 : decode cX3_act 43 = .ok (.getfield 10, 3) := by decide +kernel
theorem dX3_act_46 : decode cX3_act 46 = .ok (.getfield 48, 3) := by decide +kernel
theorem dX3_act_49 : decode cX3_act 49 = .ok (.bipush 12, 2) := by decide +kernel
theorem dX3_act_51 : decode cX3_act 51 = .ok (.if_icmp .lt 6, 3) := by decide +kernel
theorem dX3_act_54 : decode cX3_act 54 = .ok (.bipush (-4), 2) := by decide +kernel
theorem dX3_act_56 : decode cX3_act 56 = .ok (.ireturn, 1) := by decide +kernel
theorem dX3_act_57 : decode cX3_act 57 = .ok (.aload_n 0, 1) := by decide +kernel
theorem dX3_act_58 : decode cX3_act 58 = .ok (.getfield 10, 3) := by decide +kernel
theorem dX3_act_61 : decode cX3_act 61 = .ok (.iload_n 1, 1) := by decide +kernel
theorem dX3_act_62 : decode cX3_act 62 = .ok (.iload_n 2, 1) := by decide +kernel
theorem dX3_act_63 : decode cX3_act 63 = .ok (.iload_n 3, 1) := by decide +kernel
theorem dX3_act_64 : decode cX3_act 64 = .ok (.iload 4, 2) := by decide +kernel
theorem dX3_act_66 : decode cX3_act 66 = .ok (.invokevirtual 51, 3) := by decide +kernel
theorem dX3_act_69 : decode cX3_act 69 = .ok (.ireturn, 1) := by decide +kernel
theorem dX3_set_0 : decode cX3_set 0 = .ok (.aload_n 0, 1) := by decide +kernel
theorem dX3_set_1 : decode cX3_set 1 = .ok (.getfield 10, 3) := by decide +kernel
theorem dX3_set_4 : decode cX3_set 4 = .ok (.iload_n 1, 1) := by decide +kernel
theorem dX3_set_5 : decode cX3_set 5 = .ok (.invokevirtual 55, 3) := by decide +kernel
theorem dX3_set_8 : decode cX3_set 8 = .ok (.ifCond .ne 5, 3) := by decide +kernel
theorem dX3_set_11 : decode cX3_set 11 = .ok (.iconst (-1), 1) := by decide +kernel
theorem dX3_set_12 : decode cX3_set 12 = .ok (.ireturn, 1) := by decide +kernel
theorem dX3_set_13 : decode cX3_set 13 = .ok (.iload_n 2, 1) := by decide +kernel
theorem dX3_set_14 : decode cX3_set 14 = .ok (.iconst 0, 1) := by decide +kernel
theorem dX3_set_15 : decode cX3_set 15 = .ok (.iconst 3, 1) := by decide +kernel
theorem dX3_set_16 : decode cX3_set 16 = .ok (.invokestatic 44, 3) := by decide +kernel
theorem dX3_set_19 : decode cX3_set 19 = .ok (.ifCond .eq 20, 3) := by decide +kernel
theorem dX3_set_22 : decode cX3_set 22 = .ok (.iload_n 3, 1) := by decide +kernel
theorem dX3_set_23 : decode cX3_set 23 = .ok (.getstatic 58, 3) := by decide +kernel
theorem dX3_set_26 : decode cX3_set 26 = .ok (.iload_n 2, 1) := by decide +kernel
theorem dX3_set_27 : decode cX3_set 27 = .ok (.iaload, 1) := by decide +kernel
theorem dX3_set_28 : decode cX3_set 28 = .ok (.getstatic 62, 3) := by decide +kernel
theorem dX3_set_31 : decode cX3_set 31 = .ok (.iload_n 2, 1) := by decide +kernel
theorem dX3_set_32 : decode cX3_set 32 = .ok (.iaload, 1) := by decide +kernel
theorem dX3_set_33 : decode cX3_set 33 = .ok (.invokestatic 44, 3) := by decide +kernel
theorem dX3_set_36 : decode cX3_set 36 = .ok (.ifCond .ne 6, 3) := by decide +kernel
theorem dX3_set_39 : decode cX3_set 39 = .ok (.bipush (-2), 2) := by decide +kernel
theorem dX3_set_41 : decode cX3_set 41 = .ok (.ireturn, 1) := by decide +kernel
theorem dX3_set_42 : decode cX3_set 42 = .ok (.aload_n 0, 1) := by decide +kernel
theorem dX3_set_43 : decode cX3_set 43 = .ok (.getfield 10, 3) := by decide +kernel
theorem dX3_set_46 : decode cX3_set 46 = .ok (.getfield 65, 3) := by decide +kernel
theorem dX3_set_49 : decode cX3_set 49 = .ok (.iload_n 2, 1) := by decide +kernel
theorem dX3_set_50 : decode cX3_set 50 = .ok (.aaload, 1) := by decide +kernel
theorem dX3_set_51 : decode cX3_set 51 = .ok (.iload_n 1, 1) := by decide +kernel
theorem dX3_set_52 : decode cX3_set 52 = .ok (.iaload, 1) := by decide +kernel
theorem dX3_set_53 : decode cX3_set 53 = .ok (.istore 4, 2) := by decide +kernel
theorem dX3_set_55 : decode cX3_set 55 = .ok (.aload_n 0, 1) := by decide +kernel
theorem dX3_set_56 : decode cX3_set 56 = .ok (.getfield 10, 3) := by decide +kernel
theorem dX3_set_59 : decode cX3_set 59 = .ok (.getfield 65, 3) := by decide +kernel
theorem dX3_set_62 : decode cX3_set 62 = .ok (.iload_n 2, 1) := by decide +kernel
theorem dX3_set_63 : decode cX3_set 63 = .ok (.aaload, 1) := by decide +kernel
theorem dX3_set_64 : decode cX3_set 64 = .ok (.iload_n 1, 1) := by decide +kernel
theorem dX3_set_65 : decode cX3_set 65 = .ok (.iload_n 3, 1) := by decide +kernel
theorem dX3_set_66 : decode cX3_set 66 = .ok (.iastore, 1) := by decide +kernel
theorem dX3_set_67 : decode cX3_set 67 = .ok (.iload_n 2, 1) := by decide +kernel
theorem dX3_set_68 : decode cX3_set 68 = .ok (.iconst 2, 1) := by decide +kernel
theorem dX3_set_69 : decode cX3_set 69 = .ok (.if_icmp .ne 14, 3) := by decide +kernel
theorem dX3_set_72 : decode cX3_set 72 = .ok (.iload 4, 2) := by decide +kernel
theorem dX3_set_74 : decode cX3_set 74 = .ok (.iconst (-1), 1) := by decide +kernel
theorem dX3_set_75 : decode cX3_set 75 = .ok (.if_icmp .ne 8, 3) := by decide +kernel
theorem dX3_set_78 : decode cX3_set 78 = .ok (.bipush (-6), 2) := by decide +kernel
theorem dX3_set_80 : decode cX3_set 80 = .ok (.goto 5, 3) := by decide +kernel
theorem dX3_set_83 : decode cX3_set 83 = .ok (.iload 4, 2) := by decide +kernel
theorem dX3_set_85 : decode cX3_set 85 = .ok (.ireturn, 1) := by decide +kernel
theorem dX3_law_0 : decode cX3_law 0 = .ok (.iload_n 1, 1) := by decide +kernel
theorem dX3_law_1 : decode cX3_law 1 = .ok (.ifCond .ne 24, 3) := by decide +kernel
theorem dX3_law_4 : decode cX3_law 4 = .ok (.iload_n 2, 1) := by decide +kernel
theorem dX3_law_5 : decode cX3_law 5 = .ok (.iconst 0, 1) := by decide +kernel
theorem dX3_law_6 : decode cX3_law 6 = .ok (.iconst 1, 1) := by decide +kernel
theorem dX3_law_7 : decode cX3_law 7 = .ok (.invokestatic 44, 3) := by decide +kernel
theorem dX3_law_10 : decode cX3_law 10 = .ok (.ifCond .eq 15, 3) := by decide +kernel
theorem dX3_law_13 : decode cX3_law 13 = .ok (.aload_n 0, 1) := by decide +kernel
theorem dX3_law_14 : decode cX3_law 14 = .ok (.getfield 30, 3) := by decide +kernel
theorem dX3_law_17 : decode cX3_law 17 = .ok (.istore_n 3, 1) := by decide +kernel
theorem dX3_law_18 : decode cX3_law 18 = .ok (.aload_n 0, 1) := by decide +kernel
theorem dX3_law_19 : decode cX3_law 19 = .ok (.iload_n 2, 1) := by decide +kernel
theorem dX3_law_20 : decode cX3_law 20 = .ok (.putfield 30, 3) := by decide +kernel
theorem dX3_law_23 : decode cX3_law 23 = .ok (.iload_n 3, 1) := by decide +kernel
theorem dX3_law_24 : decode cX3_law 24 = .ok (.ireturn, 1) := by decide +kernel
theorem dX3_law_25 : decode cX3_law 25 = .ok (.iload_n 1, 1) := by decide +kernel
theorem dX3_law_26 : decode cX3_law 26 = .ok (.iconst 1, 1) := by decide +kernel
theorem dX3_law_27 : decode cX3_law 27 = .ok (.if_icmp .ne 25, 3) := by decide +kernel
theorem dX3_law_30 : decode cX3_law 30 = .ok (.iload_n 2, 1) := by decide +kernel
theorem dX3_law_31 : decode cX3_law 31 = .ok (.iconst 0, 1) := by decide +kernel
theorem dX3_law_32 : decode cX3_law 32 = .ok (.bipush 9, 2) := by decide +kernel
theorem dX3_law_34 : decode cX3_law 34 = .ok (.invokestatic 44, 3) := by decide +kernel
theorem dX3_law_37 : decode cX3_law 37 = .ok (.ifCond .eq 15, 3) := by decide +kernel
theorem dX3_law_40 : decode cX3_law 40 = .ok (.aload_n 0, 1) := by decide +kernel
theorem dX3_law_41 : decode cX3_law 41 = .ok (.getfield 34, 3) := by decide +kernel
theorem dX3_law_44 : decode cX3_law 44 = .ok (.istore_n 3, 1) := by decide +kernel
theorem dX3_law_45 : decode cX3_law 45 = .ok (.aload_n 0, 1) := by decide +kernel
theorem dX3_law_46 : decode cX3_law 46 = .ok (.iload_n 2, 1) := by decide +kernel
theorem dX3_law_47 : decode cX3_law 47 = .ok (.putfield 34, 3) := by decide +kernel
theorem dX3_law_50 : decode cX3_law 50 = .ok (.iload_n 3, 1) := by decide +kernel
theorem dX3_law_51 : decode cX3_law 51 = .ok (.ireturn, 1) := by decide +kernel
theorem dX3_law_52 : decode cX3_law 52 = .ok (.bipush (-2), 2) := by decide +kernel
theorem dX3_law_54 : decode cX3_law 54 = .ok (.ireturn, 1) := by decide +kernel
theorem dX3_say_0 : decode cX3_say 0 = .ok (.iload_n 1, 1) := by decide +kernel
theorem dX3_say_1 : decode cX3_say 1 = .ok (.bipush 33, 2) := by decide +kernel
theorem dX3_say_3 : decode cX3_say 3 = .ok (.bipush 126, 2) := by decide +kernel
theorem dX3_say_5 : decode cX3_say 5 = .ok (.invokestatic 44, 3) := by decide +kernel
theorem dX3_say_8 : decode cX3_say 8 = .ok (.ifCond .ne 6, 3) := by decide +kernel
theorem dX3_say_11 : decode cX3_say 11 = .ok (.bipush (-2), 2) := by decide +kernel
theorem dX3_say_13 : decode cX3_say 13 = .ok (.ireturn, 1) := by decide +kernel
theorem dX3_say_14 : decode cX3_say 14 = .ok (.aload_n 0, 1) := by decide +kernel
theorem dX3_say_15 : decode cX3_say 15 = .ok (.getfield 26, 3) := by decide +kernel
theorem dX3_say_18 : decode cX3_say 18 = .ok (.getfield 69, 3) := by decide +kernel
theorem dX3_say_21 : decode cX3_say 21 = .ok (.bipush 40, 2) := by decide +kernel
theorem dX3_say_23 : decode cX3_say 23 = .ok (.if_icmp .lt 6, 3) := by decide +kernel
theorem dX3_say_26 : decode cX3_say 26 = .ok (.bipush (-4), 2) := by decide +kernel
theorem dX3_say_28 : decode cX3_say 28 = .ok (.ireturn, 1) := by decide +kernel
theorem dX3_say_29 : decode cX3_say 29 = .ok (.aload_n 0, 1) := by decide +kernel
theorem dX3_say_30 : decode cX3_say 30 = .ok (.getfield 26, 3) := by decide +kernel
theorem dX3_say_33 : decode cX3_say 33 = .ok (.iload_n 1, 1) := by decide +kernel
theorem dX3_say_34 : decode cX3_say 34 = .ok (.invokevirtual 70, 3) := by decide +kernel
theorem dX3_say_37 : decode cX3_say 37 = .ok (.ireturn, 1) := by decide +kernel
theorem dX3_wipe_0 : decode cX3_wipe 0 = .ok (.aload_n 0, 1) := by decide +kernel
theorem dX3_wipe_1 : decode cX3_wipe 1 = .ok (.getfield 26, 3) := by decide +kernel
theorem dX3_wipe_4 : decode cX3_wipe 4 = .ok (.invokevirtual 73, 3) := by decide +kernel
theorem dX3_wipe_7 : decode cX3_wipe 7 = .ok (.ireturn, 1) := by decide +kernel
theorem dX3_fault_0 : decode cX3_fault 0 = .ok (.aload_n 0, 1) := by decide +kernel
theorem dX3_fault_1 : decode cX3_fault 1 = .ok (.getfield 26, 3) := by decide +kernel
theorem dX3_fault_4 : decode cX3_fault 4 = .ok (.invokevirtual 77, 3) := by decide +kernel
theorem dX3_fault_7 : decode cX3_fault 7 = .ok (.ireturn, 1) := by decide +kernel
theorem dX3_leans_0 : decode cX3_leans 0 = .ok (.aload_n 0, 1) := by decide +kernel
theorem dX3_leans_1 : decode cX3_leans 1 = .ok (.getfield 10, 3) := by decide +kernel
theorem dX3_leans_4 : decode cX3_leans 4 = .ok (.iload_n 1, 1) := by decide +kernel
theorem dX3_leans_5 : decode cX3_leans 5 = .ok (.invokevirtual 55, 3) := by decide +kernel
theorem dX3_leans_8 : decode cX3_leans 8 = .ok (.ifCond .ne 5, 3) := by decide +kernel
theorem dX3_leans_11 : decode cX3_leans 11 = .ok (.iconst (-1), 1) := by decide +kernel
theorem dX3_leans_12 : decode cX3_leans 12 = .ok (.ireturn, 1) := by decide +kernel
theorem dX3_leans_13 : decode cX3_leans 13 = .ok (.aload_n 0, 1) := by decide +kernel
theorem dX3_leans_14 : decode cX3_leans 14 = .ok (.getfield 26, 3) := by decide +kernel
theorem dX3_leans_17 : decode cX3_leans 17 = .ok (.invokevirtual 77, 3) := by decide +kernel
theorem dX3_leans_20 : decode cX3_leans 20 = .ok (.bipush (-6), 2) := by decide +kernel
theorem dX3_leans_22 : decode cX3_leans 22 = .ok (.if_icmp .eq 6, 3) := by decide +kernel
theorem dX3_leans_25 : decode cX3_leans 25 = .ok (.bipush (-5), 2) := by decide +kernel
theorem dX3_leans_27 : decode cX3_leans 27 = .ok (.ireturn, 1) := by decide +kernel
theorem dX3_leans_28 : decode cX3_leans 28 = .ok (.aload_n 0, 1) := by decide +kernel
theorem dX3_leans_29 : decode cX3_leans 29 = .ok (.getfield 10, 3) := by decide +kernel
theorem dX3_leans_32 : decode cX3_leans 32 = .ok (.iload_n 1, 1) := by decide +kernel
theorem dX3_leans_33 : decode cX3_leans 33 = .ok (.aload_n 0, 1) := by decide +kernel
theorem dX3_leans_34 : decode cX3_leans 34 = .ok (.getfield 26, 3) := by decide +kernel
theorem dX3_leans_37 : decode cX3_leans 37 = .ok (.invokevirtual 80, 3) := by decide +kernel
theorem dX3_leans_40 : decode cX3_leans 40 = .ok (.aload_n 0, 1) := by decide +kernel
theorem dX3_leans_41 : decode cX3_leans 41 = .ok (.getfield 26, 3) := by decide +kernel
theorem dX3_leans_44 : decode cX3_leans 44 = .ok (.invokevirtual 73, 3) := by decide +kernel
theorem dX3_leans_47 : decode cX3_leans 47 = .ok (.pop, 1) := by decide +kernel
theorem dX3_leans_48 : decode cX3_leans 48 = .ok (.aload_n 0, 1) := by decide +kernel
theorem dX3_leans_49 : decode cX3_leans 49 = .ok (.getfield 10, 3) := by decide +kernel
theorem dX3_leans_52 : decode cX3_leans 52 = .ok (.getfield 84, 3) := by decide +kernel
theorem dX3_leans_55 : decode cX3_leans 55 = .ok (.iload_n 1, 1) := by decide +kernel
theorem dX3_leans_56 : decode cX3_leans 56 = .ok (.iaload, 1) := by decide +kernel
theorem dX3_leans_57 : decode cX3_leans 57 = .ok (.ireturn, 1) := by decide +kernel
theorem dX3_free_0 : decode cX3_free 0 = .ok (.aload_n 0, 1) := by decide +kernel
theorem dX3_free_1 : decode cX3_free 1 = .ok (.getfield 10, 3) := by decide +kernel
theorem dX3_free_4 : decode cX3_free 4 = .ok (.iload_n 1, 1) := by decide +kernel
theorem dX3_free_5 : decode cX3_free 5 = .ok (.invokevirtual 55, 3) := by decide +kernel
theorem dX3_free_8 : decode cX3_free 8 = .ok (.ifCond .ne 5, 3) := by decide +kernel
theorem dX3_free_11 : decode cX3_free 11 = .ok (.iconst (-1), 1) := by decide +kernel
theorem dX3_free_12 : decode cX3_free 12 = .ok (.ireturn, 1) := by decide +kernel
theorem dX3_free_13 : decode cX3_free 13 = .ok (.aload_n 0, 1) := by decide +kernel
theorem dX3_free_14 : decode cX3_free 14 = .ok (.getfield 10, 3) := by decide +kernel
theorem dX3_free_17 : decode cX3_free 17 = .ok (.getfield 84, 3) := by decide +kernel
theorem dX3_free_20 : decode cX3_free 20 = .ok (.iload_n 1, 1) := by decide +kernel
theorem dX3_free_21 : decode cX3_free 21 = .ok (.iaload, 1) := by decide +kernel
theorem dX3_free_22 : decode cX3_free 22 = .ok (.istore_n 2, 1) := by decide +kernel
theorem dX3_free_23 : decode cX3_free 23 = .ok (.aload_n 0, 1) := by decide +kernel
theorem dX3_free_24 : decode cX3_free 24 = .ok (.getfield 10, 3) := by decide +kernel
theorem dX3_free_27 : decode cX3_free 27 = .ok (.getfield 84, 3) := by decide +kernel
theorem dX3_free_30 : decode cX3_free 30 = .ok (.iload_n 1, 1) := by decide +kernel
theorem dX3_free_31 : decode cX3_free 31 = .ok (.iconst 0, 1) := by decide +kernel
theorem dX3_free_32 : decode cX3_free 32 = .ok (.iastore, 1) := by decide +kernel
theorem dX3_free_33 : decode cX3_free 33 = .ok (.iload_n 2, 1) := by decide +kernel
theorem dX3_free_34 : decode cX3_free 34 = .ok (.ireturn, 1) := by decide +kernel
theorem dX3_ask_0 : decode cX3_ask 0 = .ok (.aload_n 0, 1) := by decide +kernel
theorem dX3_ask_1 : decode cX3_ask 1 = .ok (.getfield 10, 3) := by decide +kernel
theorem dX3_ask_4 : decode cX3_ask 4 = .ok (.iload_n 1, 1) := by decide +kernel
theorem dX3_ask_5 : decode cX3_ask 5 = .ok (.invokevirtual 55, 3) := by decide +kernel
theorem dX3_ask_8 : decode cX3_ask 8 = .ok (.ifCond .eq 10, 3) := by decide +kernel
theorem dX3_ask_11 : decode cX3_ask 11 = .ok (.iload_n 2, 1) := by decide +kernel
theorem dX3_ask_12 : decode cX3_ask 12 = .ok (.invokestatic 37, 3) := by decide +kernel
theorem dX3_ask_15 : decode cX3_ask 15 = .ok (.ifCond .ne 5, 3) := by decide +kernel
theorem dX3_ask_18 : decode cX3_ask 18 = .ok (.iconst (-1), 1) := by decide +kernel
theorem dX3_ask_19 : decode cX3_ask 19 = .ok (.ireturn, 1) := by decide +kernel
theorem dX3_ask_20 : decode cX3_ask 20 = .ok (.iload_n 3, 1) := by decide +kernel
theorem dX3_ask_21 : decode cX3_ask 21 = .ok (.invokestatic 41, 3) := by decide +kernel
theorem dX3_ask_24 : decode cX3_ask 24 = .ok (.ifCond .ne 6, 3) := by decide +kernel
theorem dX3_ask_27 : decode cX3_ask 27 = .ok (.bipush (-2), 2) := by decide +kernel
theorem dX3_ask_29 : decode cX3_ask 29 = .ok (.ireturn, 1) := by decide +kernel
theorem dX3_ask_30 : decode cX3_ask 30 = .ok (.aload_n 0, 1) := by decide +kernel
theorem dX3_ask_31 : decode cX3_ask 31 = .ok (.getfield 19, 3) := by decide +kernel
theorem dX3_ask_34 : decode cX3_ask 34 = .ok (.getfield 87, 3) := by decide +kernel
theorem dX3_ask_37 : decode cX3_ask 37 = .ok (.bipush 12, 2) := by decide +kernel
theorem dX3_ask_39 : decode cX3_ask 39 = .ok (.if_icmp .lt 6, 3) := by decide +kernel
theorem dX3_ask_42 : decode cX3_ask 42 = .ok (.bipush (-4), 2) := by decide +kernel
theorem dX3_ask_44 : decode cX3_ask 44 = .ok (.ireturn, 1) := by decide +kernel
theorem dX3_ask_45 : decode cX3_ask 45 = .ok (.aload_n 0, 1) := by decide +kernel
theorem dX3_ask_46 : decode cX3_ask 46 = .ok (.getfield 19, 3) := by decide +kernel
theorem dX3_ask_49 : decode cX3_ask 49 = .ok (.iload_n 1, 1) := by decide +kernel
theorem dX3_ask_50 : decode cX3_ask 50 = .ok (.iload_n 2, 1) := by decide +kernel
theorem dX3_ask_51 : decode cX3_ask 51 = .ok (.iload_n 3, 1) := by decide +kernel
theorem dX3_ask_52 : decode cX3_ask 52 = .ok (.invokevirtual 88, 3) := by decide +kernel
theorem dX3_ask_55 : decode cX3_ask 55 = .ok (.ireturn, 1) := by decide +kernel
theorem dX3_counts_0 : decode cX3_counts 0 = .ok (.iload_n 1, 1) := by decide +kernel
theorem dX3_counts_1 : decode cX3_counts 1 = .ok (.ifCond .lt 14, 3) := by decide +kernel
theorem dX3_counts_4 : decode cX3_counts 4 = .ok (.iload_n 1, 1) := by decide +kernel
theorem dX3_counts_5 : decode cX3_counts 5 = .ok (.aload_n 0, 1) := by decide +kernel
theorem dX3_counts_6 : decode cX3_counts 6 = .ok (.getfield 19, 3) := by decide +kernel
theorem dX3_counts_9 : decode cX3_counts 9 = .ok (.getfield 87, 3) := by decide +kernel
theorem dX3_counts_12 : decode cX3_counts 12 = .ok (.if_icmp .lt 5, 3) := by decide +kernel
theorem dX3_counts_15 : decode cX3_counts 15 = .ok (.iconst (-1), 1) := by decide +kernel
theorem dX3_counts_16 : decode cX3_counts 16 = .ok (.ireturn, 1) := by decide +kernel
theorem dX3_counts_17 : decode cX3_counts 17 = .ok (.aload_n 0, 1) := by decide +kernel
theorem dX3_counts_18 : decode cX3_counts 18 = .ok (.getfield 19, 3) := by decide +kernel
theorem dX3_counts_21 : decode cX3_counts 21 = .ok (.iload_n 1, 1) := by decide +kernel
theorem dX3_counts_22 : decode cX3_counts 22 = .ok (.aload_n 0, 1) := by decide +kernel
theorem dX3_counts_23 : decode cX3_counts 23 = .ok (.getfield 10, 3) := by decide +kernel
theorem dX3_counts_26 : decode cX3_counts 26 = .ok (.invokevirtual 91, 3) := by decide +kernel
theorem dX3_counts_29 : decode cX3_counts 29 = .ok (.ifCond .eq 7, 3) := by decide +kernel
theorem dX3_counts_32 : decode cX3_counts 32 = .ok (.iconst 1, 1) := by decide +kernel
theorem dX3_counts_33 : decode cX3_counts 33 = .ok (.goto 4, 3) := by decide +kernel
theorem dX3_counts_36 : decode cX3_counts 36 = .ok (.iconst 0, 1) := by decide +kernel
theorem dX3_counts_37 : decode cX3_counts 37 = .ok (.ireturn, 1) := by decide +kernel
theorem dX3_drop_0 : decode cX3_drop 0 = .ok (.aload_n 0, 1) := by decide +kernel
theorem dX3_drop_1 : decode cX3_drop 1 = .ok (.getfield 19, 3) := by decide +kernel
theorem dX3_drop_4 : decode cX3_drop 4 = .ok (.getfield 87, 3) := by decide +kernel
theorem dX3_drop_7 : decode cX3_drop 7 = .ok (.ifCond .ne 6, 3) := by decide +kernel
theorem dX3_drop_10 : decode cX3_drop 10 = .ok (.bipush (-5), 2) := by decide +kernel
theorem dX3_drop_12 : decode cX3_drop 12 = .ok (.ireturn, 1) := by decide +kernel
theorem dX3_drop_13 : decode cX3_drop 13 = .ok (.aload_n 0, 1) := by decide +kernel
theorem dX3_drop_14 : decode cX3_drop 14 = .ok (.getfield 19, 3) := by decide +kernel
theorem dX3_drop_17 : decode cX3_drop 17 = .ok (.dup, 1) := by decide +kernel
theorem dX3_drop_18 : decode cX3_drop 18 = .ok (.getfield 87, 3) := by decide +kernel
theorem dX3_drop_21 : decode cX3_drop 21 = .ok (.iconst 1, 1) := by decide +kernel
theorem dX3_drop_22 : decode cX3_drop 22 = .ok (.isub, 1) := by decide +kernel
theorem dX3_drop_23 : decode cX3_drop 23 = .ok (.putfield 87, 3) := by decide +kernel
theorem dX3_drop_26 : decode cX3_drop 26 = .ok (.aload_n 0, 1) := by decide +kernel
theorem dX3_drop_27 : decode cX3_drop 27 = .ok (.getfield 19, 3) := by decide +kernel
theorem dX3_drop_30 : decode cX3_drop 30 = .ok (.getfield 87, 3) := by decide +kernel
theorem dX3_drop_33 : decode cX3_drop 33 = .ok (.ireturn, 1) := by decide +kernel
theorem dX3_all_0 : decode cX3_all 0 = .ok (.iload_n 1, 1) := by decide +kernel
theorem dX3_all_1 : decode cX3_all 1 = .ok (.invokestatic 41, 3) := by decide +kernel
theorem dX3_all_4 : decode cX3_all 4 = .ok (.ifCond .eq 12, 3) := by decide +kernel
theorem dX3_all_7 : decode cX3_all 7 = .ok (.iload_n 2, 1) := by decide +kernel
theorem dX3_all_8 : decode cX3_all 8 = .ok (.iconst 0, 1) := by decide +kernel
theorem dX3_all_9 : decode cX3_all 9 = .ok (.iconst 2, 1) := by decide +kernel
theorem dX3_all_10 : decode cX3_all 10 = .ok (.invokestatic 44, 3) := by decide +kernel
theorem dX3_all_13 : decode cX3_all 13 = .ok (.ifCond .ne 6, 3) := by decide +kernel
theorem dX3_all_16 : decode cX3_all 16 = .ok (.bipush (-2), 2) := by decide +kernel
theorem dX3_all_18 : decode cX3_all 18 = .ok (.ireturn, 1) := by decide +kernel
theorem dX3_all_19 : decode cX3_all 19 = .ok (.aload_n 0, 1) := by decide +kernel
theorem dX3_all_20 : decode cX3_all 20 = .ok (.iload_n 1, 1) := by decide +kernel
theorem dX3_all_21 : decode cX3_all 21 = .ok (.invokevirtual 95, 3) := by decide +kernel
theorem dX3_all_24 : decode cX3_all 24 = .ok (.istore_n 3, 1) := by decide +kernel
theorem dX3_all_25 : decode cX3_all 25 = .ok (.iload_n 2, 1) := by decide +kernel
theorem dX3_all_26 : decode cX3_all 26 = .ok (.ifCond .ne 5, 3) := by decide +kernel
theorem dX3_all_29 : decode cX3_all 29 = .ok (.iload_n 3, 1) := by decide +kernel
theorem dX3_all_30 : decode cX3_all 30 = .ok (.ireturn, 1) := by decide +kernel
theorem dX3_all_31 : decode cX3_all 31 = .ok (.iload_n 2, 1) := by decide +kernel
theorem dX3_all_32 : decode cX3_all 32 = .ok (.iconst 1, 1) := by decide +kernel
theorem dX3_all_33 : decode cX3_all 33 = .ok (.if_icmp .ne 18, 3) := by decide +kernel
theorem dX3_all_36 : decode cX3_all 36 = .ok (.aload_n 0, 1) := by decide +kernel
theorem dX3_all_37 : decode cX3_all 37 = .ok (.getfield 10, 3) := by decide +kernel
theorem dX3_all_40 : decode cX3_all 40 = .ok (.iload_n 3, 1) := by decide +kernel
theorem dX3_all_41 : decode cX3_all 41 = .ok (.aload_n 0, 1) := by decide +kernel
theorem dX3_all_42 : decode cX3_all 42 = .ok (.invokevirtual 98, 3) := by decide +kernel
theorem dX3_all_45 : decode cX3_all 45 = .ok (.invokevirtual 101, 3) := by decide +kernel
theorem dX3_all_48 : decode cX3_all 48 = .ok (.goto 15, 3) := by decide +kernel
theorem dX3_all_51 : decode cX3_all 51 = .ok (.aload_n 0, 1) := by decide +kernel
theorem dX3_all_52 : decode cX3_all 52 = .ok (.getfield 10, 3) := by decide +kernel
theorem dX3_all_55 : decode cX3_all 55 = .ok (.iload_n 3, 1) := by decide +kernel
theorem dX3_all_56 : decode cX3_all 56 = .ok (.aload_n 0, 1) := by decide +kernel
theorem dX3_all_57 : decode cX3_all 57 = .ok (.invokevirtual 98, 3) := by decide +kernel
theorem dX3_all_60 : decode cX3_all 60 = .ok (.invokevirtual 105, 3) := by decide +kernel
theorem dX3_all_63 : decode cX3_all 63 = .ok (.ireturn, 1) := by decide +kernel
theorem dX3_why_0 : decode cX3_why 0 = .ok (.aload_n 0, 1) := by decide +kernel
theorem dX3_why_1 : decode cX3_why 1 = .ok (.getfield 10, 3) := by decide +kernel
theorem dX3_why_4 : decode cX3_why 4 = .ok (.iload_n 1, 1) := by decide +kernel
theorem dX3_why_5 : decode cX3_why 5 = .ok (.invokevirtual 55, 3) := by decide +kernel
theorem dX3_why_8 : decode cX3_why 8 = .ok (.ifCond .ne 5, 3) := by decide +kernel
theorem dX3_why_11 : decode cX3_why 11 = .ok (.iconst (-1), 1) := by decide +kernel
theorem dX3_why_12 : decode cX3_why 12 = .ok (.ireturn, 1) := by decide +kernel
theorem dX3_why_13 : decode cX3_why 13 = .ok (.iload_n 2, 1) := by decide +kernel
theorem dX3_why_14 : decode cX3_why 14 = .ok (.invokestatic 41, 3) := by decide +kernel
theorem dX3_why_17 : decode cX3_why 17 = .ok (.ifCond .ne 6, 3) := by decide +kernel
theorem dX3_why_20 : decode cX3_why 20 = .ok (.bipush (-2), 2) := by decide +kernel
theorem dX3_why_22 : decode cX3_why 22 = .ok (.ireturn, 1) := by decide +kernel
theorem dX3_why_23 : decode cX3_why 23 = .ok (.aload_n 0, 1) := by decide +kernel
theorem dX3_why_24 : decode cX3_why 24 = .ok (.getfield 10, 3) := by decide +kernel
theorem dX3_why_27 : decode cX3_why 27 = .ok (.iload_n 1, 1) := by decide +kernel
theorem dX3_why_28 : decode cX3_why 28 = .ok (.iload_n 2, 1) := by decide +kernel
theorem dX3_why_29 : decode cX3_why 29 = .ok (.invokevirtual 108, 3) := by decide +kernel
theorem dX3_why_32 : decode cX3_why 32 = .ok (.ifCond .ne 5, 3) := by decide +kernel
theorem dX3_why_35 : decode cX3_why 35 = .ok (.iconst 1, 1) := by decide +kernel
theorem dX3_why_36 : decode cX3_why 36 = .ok (.ireturn, 1) := by decide +kernel
theorem dX3_why_37 : decode cX3_why 37 = .ok (.aload_n 0, 1) := by decide +kernel
theorem dX3_why_38 : decode cX3_why 38 = .ok (.getfield 10, 3) := by decide +kernel
theorem dX3_why_41 : decode cX3_why 41 = .ok (.iload_n 1, 1) := by decide +kernel
theorem dX3_why_42 : decode cX3_why 42 = .ok (.iload_n 2, 1) := by decide +kernel
theorem dX3_why_43 : decode cX3_why 43 = .ok (.invokevirtual 112, 3) := by decide +kernel
theorem dX3_why_46 : decode cX3_why 46 = .ok (.ifCond .eq 5, 3) := by decide +kernel
theorem dX3_why_49 : decode cX3_why 49 = .ok (.iconst 2, 1) := by decide +kernel
theorem dX3_why_50 : decode cX3_why 50 = .ok (.ireturn, 1) := by decide +kernel
theorem dX3_why_51 : decode cX3_why 51 = .ok (.aload_n 0, 1) := by decide +kernel
theorem dX3_why_52 : decode cX3_why 52 = .ok (.iload_n 2, 1) := by decide +kernel
theorem dX3_why_53 : decode cX3_why 53 = .ok (.invokevirtual 95, 3) := by decide +kernel
theorem dX3_why_56 : decode cX3_why 56 = .ok (.istore_n 3, 1) := by decide +kernel
theorem dX3_why_57 : decode cX3_why 57 = .ok (.iload_n 3, 1) := by decide +kernel
theorem dX3_why_58 : decode cX3_why 58 = .ok (.iload_n 1, 1) := by decide +kernel
theorem dX3_why_59 : decode cX3_why 59 = .ok (.invokestatic 115, 3) := by decide +kernel
theorem dX3_why_62 : decode cX3_why 62 = .ok (.ifCond .ne 5, 3) := by decide +kernel
theorem dX3_why_65 : decode cX3_why 65 = .ok (.iconst 3, 1) := by decide +kernel
theorem dX3_why_66 : decode cX3_why 66 = .ok (.ireturn, 1) := by decide +kernel
theorem dX3_why_67 : decode cX3_why 67 = .ok (.aload_n 0, 1) := by decide +kernel
theorem dX3_why_68 : decode cX3_why 68 = .ok (.getfield 10, 3) := by decide +kernel
theorem dX3_why_71 : decode cX3_why 71 = .ok (.iload_n 3, 1) := by decide +kernel
theorem dX3_why_72 : decode cX3_why 72 = .ok (.aload_n 0, 1) := by decide +kernel
theorem dX3_why_73 : decode cX3_why 73 = .ok (.invokevirtual 98, 3) := by decide +kernel
theorem dX3_why_76 : decode cX3_why 76 = .ok (.invokevirtual 101, 3) := by decide +kernel
theorem dX3_why_79 : decode cX3_why 79 = .ok (.iload_n 1, 1) := by decide +kernel
theorem dX3_why_80 : decode cX3_why 80 = .ok (.invokestatic 115, 3) := by decide +kernel
theorem dX3_why_83 : decode cX3_why 83 = .ok (.ifCond .eq 7, 3) := by decide +kernel
theorem dX3_why_86 : decode cX3_why 86 = .ok (.iconst 0, 1) := by decide +kernel
theorem dX3_why_87 : decode cX3_why 87 = .ok (.goto 4, 3) := by decide +kernel
theorem dX3_why_90 : decode cX3_why 90 = .ok (.iconst 4, 1) := by decide +kernel
theorem dX3_why_91 : decode cX3_why 91 = .ok (.ireturn, 1) := by decide +kernel
theorem dX3_under_0 : decode cX3_under 0 = .ok (.aload_n 0, 1) := by decide +kernel
theorem dX3_under_1 : decode cX3_under 1 = .ok (.getfield 10, 3) := by decide +kernel
theorem dX3_under_4 : decode cX3_under 4 = .ok (.iload_n 1, 1) := by decide +kernel
theorem dX3_under_5 : decode cX3_under 5 = .ok (.invokevirtual 55, 3) := by decide +kernel
theorem dX3_under_8 : decode cX3_under 8 = .ok (.ifCond .ne 5, 3) := by decide +kernel
theorem dX3_under_11 : decode cX3_under 11 = .ok (.iconst (-1), 1) := by decide +kernel
theorem dX3_under_12 : decode cX3_under 12 = .ok (.ireturn, 1) := by decide +kernel
theorem dX3_under_13 : decode cX3_under 13 = .ok (.aload_n 0, 1) := by decide +kernel
theorem dX3_under_14 : decode cX3_under 14 = .ok (.getfield 10, 3) := by decide +kernel
theorem dX3_under_17 : decode cX3_under 17 = .ok (.iload_n 1, 1) := by decide +kernel
theorem dX3_under_18 : decode cX3_under 18 = .ok (.invokevirtual 118, 3) := by decide +kernel
theorem dX3_under_21 : decode cX3_under 21 = .ok (.istore_n 2, 1) := by decide +kernel
theorem dX3_under_22 : decode cX3_under 22 = .ok (.iconst 0, 1) := by decide +kernel
theorem dX3_under_23 : decode cX3_under 23 = .ok (.istore_n 3, 1) := by decide +kernel
theorem dX3_under_24 : decode cX3_under 24 = .ok (.iload_n 3, 1) := by decide +kernel
theorem dX3_under_25 : decode cX3_under 25 = .ok (.bipush 12, 2) := by decide +kernel
theorem dX3_under_27 : decode cX3_under 27 = .ok (.if_icmp .ge 33, 3) := by decide +kernel
theorem dX3_under_30 : decode cX3_under 30 = .ok (.iload_n 2, 1) := by decide +kernel
theorem dX3_under_31 : decode cX3_under 31 = .ok (.aload_n 0, 1) := by decide +kernel
theorem dX3_under_32 : decode cX3_under 32 = .ok (.getfield 10, 3) := by decide +kernel
theorem dX3_under_35 : decode cX3_under 35 = .ok (.iload_n 2, 1) := by decide +kernel
theorem dX3_under_36 : decode cX3_under 36 = .ok (.invokevirtual 121, 3) := by decide +kernel
theorem dX3_under_39 : decode cX3_under 39 = .ok (.ior, 1) := by decide +kernel
theorem dX3_under_40 : decode cX3_under 40 = .ok (.istore 4, 2) := by decide +kernel
theorem dX3_under_42 : decode cX3_under 42 = .ok (.iload 4, 2) := by decide +kernel
theorem dX3_under_44 : decode cX3_under 44 = .ok (.iload_n 2, 1) := by decide +kernel
theorem dX3_under_45 : decode cX3_under 45 = .ok (.if_icmp .ne 6, 3) := by decide +kernel
theorem dX3_under_48 : decode cX3_under 48 = .ok (.goto 12, 3) := by decide +kernel
theorem dX3_under_51 : decode cX3_under 51 = .ok (.iload 4, 2) := by decide +kernel
theorem dX3_under_53 : decode cX3_under 53 = .ok (.istore_n 2, 1) := by decide +kernel
theorem dX3_under_54 : decode cX3_under 54 = .ok (.iinc 3 1, 3) := by decide +kernel
theorem dX3_under_57 : decode cX3_under 57 = .ok (.goto (-33), 3) := by decide +kernel
theorem dX3_under_60 : decode cX3_under 60 = .ok (.iload_n 2, 1) := by decide +kernel
theorem dX3_under_61 : decode cX3_under 61 = .ok (.ireturn, 1) := by decide +kernel
theorem dX3_fall_0 : decode cX3_fall 0 = .ok (.aload_n 0, 1) := by decide +kernel
theorem dX3_fall_1 : decode cX3_fall 1 = .ok (.getfield 10, 3) := by decide +kernel
theorem dX3_fall_4 : decode cX3_fall 4 = .ok (.iload_n 1, 1) := by decide +kernel
theorem dX3_fall_5 : decode cX3_fall 5 = .ok (.invokevirtual 55, 3) := by decide +kernel
theorem dX3_fall_8 : decode cX3_fall 8 = .ok (.ifCond .eq 10, 3) := by decide +kernel
theorem dX3_fall_11 : decode cX3_fall 11 = .ok (.iload_n 2, 1) := by decide +kernel
theorem dX3_fall_12 : decode cX3_fall 12 = .ok (.invokestatic 37, 3) := by decide +kernel
theorem dX3_fall_15 : decode cX3_fall 15 = .ok (.ifCond .ne 5, 3) := by decide +kernel
theorem dX3_fall_18 : decode cX3_fall 18 = .ok (.iconst (-1), 1) := by decide +kernel
theorem dX3_fall_19 : decode cX3_fall 19 = .ok (.ireturn, 1) := by decide +kernel
theorem dX3_fall_20 : decode cX3_fall 20 = .ok (.iload_n 3, 1) := by decide +kernel
theorem dX3_fall_21 : decode cX3_fall 21 = .ok (.invokestatic 41, 3) := by decide +kernel
theorem dX3_fall_24 : decode cX3_fall 24 = .ok (.ifCond .ne 6, 3) := by decide +kernel
theorem dX3_fall_27 : decode cX3_fall 27 = .ok (.bipush (-2), 2) := by decide +kernel
theorem dX3_fall_29 : decode cX3_fall 29 = .ok (.ireturn, 1) := by decide +kernel
theorem dX3_fall_30 : decode cX3_fall 30 = .ok (.aload_n 0, 1) := by decide +kernel
theorem dX3_fall_31 : decode cX3_fall 31 = .ok (.getfield 10, 3) := by decide +kernel
theorem dX3_fall_34 : decode cX3_fall 34 = .ok (.iload_n 1, 1) := by decide +kernel
theorem dX3_fall_35 : decode cX3_fall 35 = .ok (.iload_n 2, 1) := by decide +kernel
theorem dX3_fall_36 : decode cX3_fall 36 = .ok (.iload_n 3, 1) := by decide +kernel
theorem dX3_fall_37 : decode cX3_fall 37 = .ok (.invokevirtual 124, 3) := by decide +kernel
theorem dX3_fall_40 : decode cX3_fall 40 = .ok (.ifCond .ne 6, 3) := by decide +kernel
theorem dX3_fall_43 : decode cX3_fall 43 = .ok (.bipush (-5), 2) := by decide +kernel
theorem dX3_fall_45 : decode cX3_fall 45 = .ok (.ireturn, 1) := by decide +kernel
theorem dX3_fall_46 : decode cX3_fall 46 = .ok (.aload_n 0, 1) := by decide +kernel
theorem dX3_fall_47 : decode cX3_fall 47 = .ok (.iload_n 3, 1) := by decide +kernel
theorem dX3_fall_48 : decode cX3_fall 48 = .ok (.invokevirtual 95, 3) := by decide +kernel
theorem dX3_fall_51 : decode cX3_fall 51 = .ok (.istore 5, 2) := by decide +kernel
theorem dX3_fall_53 : decode cX3_fall 53 = .ok (.iload 4, 2) := by decide +kernel
theorem dX3_fall_55 : decode cX3_fall 55 = .ok (.bipush (-2), 2) := by decide +kernel
theorem dX3_fall_57 : decode cX3_fall 57 = .ok (.if_icmp .ne 11, 3) := by decide +kernel
theorem dX3_fall_60 : decode cX3_fall 60 = .ok (.aload_n 0, 1) := by decide +kernel
theorem dX3_fall_61 : decode cX3_fall 61 = .ok (.iload_n 1, 1) := by decide +kernel
theorem dX3_fall_62 : decode cX3_fall 62 = .ok (.iload 5, 2) := by decide +kernel
theorem dX3_fall_64 : decode cX3_fall 64 = .ok (.invokevirtual 127, 3) := by decide +kernel
theorem dX3_fall_67 : decode cX3_fall 67 = .ok (.ireturn, 1) := by decide +kernel
theorem dX3_fall_68 : decode cX3_fall 68 = .ok (.iload 4, 2) := by decide +kernel
theorem dX3_fall_70 : decode cX3_fall 70 = .ok (.iconst (-1), 1) := by decide +kernel
theorem dX3_fall_71 : decode cX3_fall 71 = .ok (.if_icmp .ne 13, 3) := by decide +kernel
theorem dX3_fall_74 : decode cX3_fall 74 = .ok (.aload_n 0, 1) := by decide +kernel
theorem dX3_fall_75 : decode cX3_fall 75 = .ok (.iload_n 1, 1) := by decide +kernel
theorem dX3_fall_76 : decode cX3_fall 76 = .ok (.iload 5, 2) := by decide +kernel
theorem dX3_fall_78 : decode cX3_fall 78 = .ok (.invokevirtual 130, 3) := by decide +kernel
theorem dX3_fall_81 : decode cX3_fall 81 = .ok (.goto 12, 3) := by decide +kernel
theorem dX3_fall_84 : decode cX3_fall 84 = .ok (.aload_n 0, 1) := by decide +kernel
theorem dX3_fall_85 : decode cX3_fall 85 = .ok (.iload_n 1, 1) := by decide +kernel
theorem dX3_fall_86 : decode cX3_fall 86 = .ok (.iload 5, 2) := by decide +kernel
theorem dX3_fall_88 : decode cX3_fall 88 = .ok (.iload 4, 2) := by decide +kernel
theorem dX3_fall_90 : decode cX3_fall 90 = .ok (.invokevirtual 133, 3) := by decide +kernel
theorem dX3_fall_93 : decode cX3_fall 93 = .ok (.ireturn, 1) := by decide +kernel
theorem dX3_back_0 : decode cX3_back 0 = .ok (.aload_n 0, 1) := by decide +kernel
theorem dX3_back_1 : decode cX3_back 1 = .ok (.getfield 10, 3) := by decide +kernel
theorem dX3_back_4 : decode cX3_back 4 = .ok (.iload_n 1, 1) := by decide +kernel
theorem dX3_back_5 : decode cX3_back 5 = .ok (.invokevirtual 55, 3) := by decide +kernel
theorem dX3_back_8 : decode cX3_back 8 = .ok (.ifCond .eq 18, 3) := by decide +kernel
theorem dX3_back_11 : decode cX3_back 11 = .ok (.iload_n 2, 1) := by decide +kernel
theorem dX3_back_12 : decode cX3_back 12 = .ok (.invokestatic 37, 3) := by decide +kernel
theorem dX3_back_15 : decode cX3_back 15 = .ok (.ifCond .eq 11, 3) := by decide +kernel
theorem dX3_back_18 : decode cX3_back 18 = .ok (.iload 4, 2) := by decide +kernel
theorem dX3_back_20 : decode cX3_back 20 = .ok (.invokestatic 37, 3) := by decide +kernel
theorem dX3_back_23 : decode cX3_back 23 = .ok (.ifCond .ne 6, 3) := by decide +kernel
theorem dX3_back_26 : decode cX3_back 26 = .ok (.ldc 136, 2) := by decide +kernel
theorem dX3_back_28 : decode cX3_back 28 = .ok (.ireturn, 1) := by decide +kernel
theorem dX3_back_29 : decode cX3_back 29 = .ok (.iload_n 3, 1) := by decide +kernel
theorem dX3_back_30 : decode cX3_back 30 = .ok (.invokestatic 41, 3) := by decide +kernel
theorem dX3_back_33 : decode cX3_back 33 = .ok (.ifCond .ne 6, 3) := by decide +kernel
theorem dX3_back_36 : decode cX3_back 36 = .ok (.ldc 137, 2) := by decide +kernel
theorem dX3_back_38 : decode cX3_back 38 = .ok (.ireturn, 1) := by decide +kernel
theorem dX3_back_39 : decode cX3_back 39 = .ok (.aload_n 0, 1) := by decide +kernel
theorem dX3_back_40 : decode cX3_back 40 = .ok (.getfield 10, 3) := by decide +kernel
theorem dX3_back_43 : decode cX3_back 43 = .ok (.iload_n 1, 1) := by decide +kernel
theorem dX3_back_44 : decode cX3_back 44 = .ok (.iload_n 2, 1) := by decide +kernel
theorem dX3_back_45 : decode cX3_back 45 = .ok (.iload_n 3, 1) := by decide +kernel
theorem dX3_back_46 : decode cX3_back 46 = .ok (.invokevirtual 124, 3) := by decide +kernel
theorem dX3_back_49 : decode cX3_back 49 = .ok (.ifCond .ne 6, 3) := by decide +kernel
theorem dX3_back_52 : decode cX3_back 52 = .ok (.ldc 138, 2) := by decide +kernel
theorem dX3_back_54 : decode cX3_back 54 = .ok (.ireturn, 1) := by decide +kernel
theorem dX3_back_55 : decode cX3_back 55 = .ok (.aload_n 0, 1) := by decide +kernel
theorem dX3_back_56 : decode cX3_back 56 = .ok (.getfield 10, 3) := by decide +kernel
theorem dX3_back_59 : decode cX3_back 59 = .ok (.aload_n 0, 1) := by decide +kernel
theorem dX3_back_60 : decode cX3_back 60 = .ok (.iload_n 1, 1) := by decide +kernel
theorem dX3_back_61 : decode cX3_back 61 = .ok (.aload_n 0, 1) := by decide +kernel
theorem dX3_back_62 : decode cX3_back 62 = .ok (.iload_n 3, 1) := by decide +kernel
theorem dX3_back_63 : decode cX3_back 63 = .ok (.invokevirtual 95, 3) := by decide +kernel
theorem dX3_back_66 : decode cX3_back 66 = .ok (.invokevirtual 127, 3) := by decide +kernel
theorem dX3_back_69 : decode cX3_back 69 = .ok (.iload_n 3, 1) := by decide +kernel
theorem dX3_back_70 : decode cX3_back 70 = .ok (.iload 4, 2) := by decide +kernel
theorem dX3_back_72 : decode cX3_back 72 = .ok (.aload_n 0, 1) := by decide +kernel
theorem dX3_back_73 : decode cX3_back 73 = .ok (.getfield 34, 3) := by decide +kernel
theorem dX3_back_76 : decode cX3_back 76 = .ok (.invokevirtual 139, 3) := by decide +kernel
theorem dX3_back_79 : decode cX3_back 79 = .ok (.ireturn, 1) := by decide +kernel
theorem dX3_wise_0 : decode cX3_wise 0 = .ok (.aload_n 0, 1) := by decide +kernel
theorem dX3_wise_1 : decode cX3_wise 1 = .ok (.getfield 10, 3) := by decide +kernel
theorem dX3_wise_4 : decode cX3_wise 4 = .ok (.iload_n 1, 1) := by decide +kernel
theorem dX3_wise_5 : decode cX3_wise 5 = .ok (.invokevirtual 55, 3) := by decide +kernel
theorem dX3_wise_8 : decode cX3_wise 8 = .ok (.ifCond .ne 5, 3) := by decide +kernel
theorem dX3_wise_11 : decode cX3_wise 11 = .ok (.iconst (-1), 1) := by decide +kernel
theorem dX3_wise_12 : decode cX3_wise 12 = .ok (.ireturn, 1) := by decide +kernel
theorem dX3_wise_13 : decode cX3_wise 13 = .ok (.iload_n 2, 1) := by decide +kernel
theorem dX3_wise_14 : decode cX3_wise 14 = .ok (.invokestatic 41, 3) := by decide +kernel
theorem dX3_wise_17 : decode cX3_wise 17 = .ok (.ifCond .ne 6, 3) := by decide +kernel
theorem dX3_wise_20 : decode cX3_wise 20 = .ok (.bipush (-2), 2) := by decide +kernel
theorem dX3_wise_22 : decode cX3_wise 22 = .ok (.ireturn, 1) := by decide +kernel
theorem dX3_wise_23 : decode cX3_wise 23 = .ok (.aload_n 0, 1) := by decide +kernel
theorem dX3_wise_24 : decode cX3_wise 24 = .ok (.iload_n 1, 1) := by decide +kernel
theorem dX3_wise_25 : decode cX3_wise 25 = .ok (.iload_n 2, 1) := by decide +kernel
theorem dX3_wise_26 : decode cX3_wise 26 = .ok (.aload_n 0, 1) := by decide +kernel
theorem dX3_wise_27 : decode cX3_wise 27 = .ok (.iload_n 2, 1) := by decide +kernel
theorem dX3_wise_28 : decode cX3_wise 28 = .ok (.invokevirtual 95, 3) := by decide +kernel
theorem dX3_wise_31 : decode cX3_wise 31 = .ok (.invokevirtual 142, 3) := by decide +kernel
theorem dX3_wise_34 : decode cX3_wise 34 = .ok (.ireturn, 1) := by decide +kernel
theorem dX3_rest_0 : decode cX3_rest 0 = .ok (.iload_n 1, 1) := by decide +kernel
theorem dX3_rest_1 : decode cX3_rest 1 = .ok (.invokestatic 41, 3) := by decide +kernel
theorem dX3_rest_4 : decode cX3_rest 4 = .ok (.ifCond .eq 12, 3) := by decide +kernel
theorem dX3_rest_7 : decode cX3_rest 7 = .ok (.iload_n 2, 1) := by decide +kernel
theorem dX3_rest_8 : decode cX3_rest 8 = .ok (.iconst 0, 1) := by decide +kernel
theorem dX3_rest_9 : decode cX3_rest 9 = .ok (.iconst 1, 1) := by decide +kernel
theorem dX3_rest_10 : decode cX3_rest 10 = .ok (.invokestatic 44, 3) := by decide +kernel
theorem dX3_rest_13 : decode cX3_rest 13 = .ok (.ifCond .ne 6, 3) := by decide +kernel
theorem dX3_rest_16 : decode cX3_rest 16 = .ok (.bipush (-2), 2) := by decide +kernel
theorem dX3_rest_18 : decode cX3_rest 18 = .ok (.ireturn, 1) := by decide +kernel
theorem dX3_rest_19 : decode cX3_rest 19 = .ok (.aload_n 0, 1) := by decide +kernel
theorem dX3_rest_20 : decode cX3_rest 20 = .ok (.iload_n 1, 1) := by decide +kernel
theorem dX3_rest_21 : decode cX3_rest 21 = .ok (.invokevirtual 95, 3) := by decide +kernel
theorem dX3_rest_24 : decode cX3_rest 24 = .ok (.istore_n 3, 1) := by decide +kernel
theorem dX3_rest_25 : decode cX3_rest 25 = .ok (.iconst 0, 1) := by decide +kernel
theorem dX3_rest_26 : decode cX3_rest 26 = .ok (.istore 4, 2) := by decide +kernel
theorem dX3_rest_28 : decode cX3_rest 28 = .ok (.iload 4, 2) := by decide +kernel
theorem dX3_rest_30 : decode cX3_rest 30 = .ok (.bipush 12, 2) := by decide +kernel
theorem dX3_rest_32 : decode cX3_rest 32 = .ok (.if_icmp .ge 34, 3) := by decide +kernel
theorem dX3_rest_35 : decode cX3_rest 35 = .ok (.aload_n 0, 1) := by decide +kernel
theorem dX3_rest_36 : decode cX3_rest 36 = .ok (.iload_n 1, 1) := by decide +kernel
theorem dX3_rest_37 : decode cX3_rest 37 = .ok (.iload_n 3, 1) := by decide +kernel
theorem dX3_rest_38 : decode cX3_rest 38 = .ok (.invokevirtual 145, 3) := by decide +kernel
theorem dX3_rest_41 : decode cX3_rest 41 = .ok (.istore 5, 2) := by decide +kernel
theorem dX3_rest_43 : decode cX3_rest 43 = .ok (.iload 5, 2) := by decide +kernel
theorem dX3_rest_45 : decode cX3_rest 45 = .ok (.bipush (-6), 2) := by decide +kernel
theorem dX3_rest_47 : decode cX3_rest 47 = .ok (.if_icmp .ne 6, 3) := by decide +kernel
theorem dX3_rest_50 : decode cX3_rest 50 = .ok (.goto 16, 3) := by decide +kernel
theorem dX3_rest_53 : decode cX3_rest 53 = .ok (.iload_n 3, 1) := by decide +kernel
theorem dX3_rest_54 : decode cX3_rest 54 = .ok (.iload 5, 2) := by decide +kernel
theorem dX3_rest_56 : decode cX3_rest 56 = .ok (.invokestatic 148, 3) := by decide +kernel
theorem dX3_rest_59 : decode cX3_rest 59 = .ok (.istore_n 3, 1) := by decide +kernel
theorem dX3_rest_60 : decode cX3_rest 60 = .ok (.iinc 4 1, 3) := by decide +kernel
theorem dX3_rest_63 : decode cX3_rest 63 = .ok (.goto (-35), 3) := by decide +kernel
theorem dX3_rest_66 : decode cX3_rest 66 = .ok (.iload_n 2, 1) := by decide +kernel
theorem dX3_rest_67 : decode cX3_rest 67 = .ok (.ifCond .ne 8, 3) := by decide +kernel
theorem dX3_rest_70 : decode cX3_rest 70 = .ok (.iload 4, 2) := by decide +kernel
theorem dX3_rest_72 : decode cX3_rest 72 = .ok (.goto 15, 3) := by decide +kernel
theorem dX3_rest_75 : decode cX3_rest 75 = .ok (.aload_n 0, 1) := by decide +kernel
theorem dX3_rest_76 : decode cX3_rest 76 = .ok (.getfield 10, 3) := by decide +kernel
theorem dX3_rest_79 : decode cX3_rest 79 = .ok (.iload_n 3, 1) := by decide +kernel
theorem dX3_rest_80 : decode cX3_rest 80 = .ok (.aload_n 0, 1) := by decide +kernel
theorem dX3_rest_81 : decode cX3_rest 81 = .ok (.invokevirtual 98, 3) := by decide +kernel
theorem dX3_rest_84 : decode cX3_rest 84 = .ok (.invokevirtual 101, 3) := by decide +kernel
theorem dX3_rest_87 : decode cX3_rest 87 = .ok (.ireturn, 1) := by decide +kernel
theorem dX3_heal_0 : decode cX3_heal 0 = .ok (.aload_n 0, 1) := by decide +kernel
theorem dX3_heal_1 : decode cX3_heal 1 = .ok (.getfield 10, 3) := by decide +kernel
theorem dX3_heal_4 : decode cX3_heal 4 = .ok (.iload_n 1, 1) := by decide +kernel
theorem dX3_heal_5 : decode cX3_heal 5 = .ok (.invokevirtual 151, 3) := by decide +kernel
theorem dX3_heal_8 : decode cX3_heal 8 = .ok (.ifCond .eq 19, 3) := by decide +kernel
theorem dX3_heal_11 : decode cX3_heal 11 = .ok (.iload_n 2, 1) := by decide +kernel
theorem dX3_heal_12 : decode cX3_heal 12 = .ok (.invokestatic 41, 3) := by decide +kernel
theorem dX3_heal_15 : decode cX3_heal 15 = .ok (.ifCond .eq 12, 3) := by decide +kernel
theorem dX3_heal_18 : decode cX3_heal 18 = .ok (.iload_n 3, 1) := by decide +kernel
theorem dX3_heal_19 : decode cX3_heal 19 = .ok (.iconst 0, 1) := by decide +kernel
theorem dX3_heal_20 : decode cX3_heal 20 = .ok (.iconst 1, 1) := by decide +kernel
theorem dX3_heal_21 : decode cX3_heal 21 = .ok (.invokestatic 44, 3) := by decide +kernel
theorem dX3_heal_24 : decode cX3_heal 24 = .ok (.ifCond .ne 6, 3) := by decide +kernel
theorem dX3_heal_27 : decode cX3_heal 27 = .ok (.bipush (-2), 2) := by decide +kernel
theorem dX3_heal_29 : decode cX3_heal 29 = .ok (.ireturn, 1) := by decide +kernel
theorem dX3_heal_30 : decode cX3_heal 30 = .ok (.aload_n 0, 1) := by decide +kernel
theorem dX3_heal_31 : decode cX3_heal 31 = .ok (.iload_n 1, 1) := by decide +kernel
theorem dX3_heal_32 : decode cX3_heal 32 = .ok (.iload_n 2, 1) := by decide +kernel
theorem dX3_heal_33 : decode cX3_heal 33 = .ok (.invokevirtual 154, 3) := by decide +kernel
theorem dX3_heal_36 : decode cX3_heal 36 = .ok (.istore 4, 2) := by decide +kernel
theorem dX3_heal_38 : decode cX3_heal 38 = .ok (.iload 4, 2) := by decide +kernel
theorem dX3_heal_40 : decode cX3_heal 40 = .ok (.bipush (-6), 2) := by decide +kernel
theorem dX3_heal_42 : decode cX3_heal 42 = .ok (.if_icmp .ne 6, 3) := by decide +kernel
theorem dX3_heal_45 : decode cX3_heal 45 = .ok (.bipush (-5), 2) := by decide +kernel
theorem dX3_heal_47 : decode cX3_heal 47 = .ok (.ireturn, 1) := by decide +kernel
theorem dX3_heal_48 : decode cX3_heal 48 = .ok (.iload_n 3, 1) := by decide +kernel
theorem dX3_heal_49 : decode cX3_heal 49 = .ok (.ifCond .ne 8, 3) := by decide +kernel
theorem dX3_heal_52 : decode cX3_heal 52 = .ok (.iload 4, 2) := by decide +kernel
theorem dX3_heal_54 : decode cX3_heal 54 = .ok (.goto 8, 3) := by decide +kernel
theorem dX3_heal_57 : decode cX3_heal 57 = .ok (.iload 4, 2) := by decide +kernel
theorem dX3_heal_59 : decode cX3_heal 59 = .ok (.invokestatic 157, 3) := by decide +kernel
theorem dX3_heal_62 : decode cX3_heal 62 = .ok (.ireturn, 1) := by decide +kernel
theorem dX3_pillar_0 : decode cX3_pillar 0 = .ok (.iload_n 1, 1) := by decide +kernel
theorem dX3_pillar_1 : decode cX3_pillar 1 = .ok (.invokestatic 41, 3) := by decide +kernel
theorem dX3_pillar_4 : decode cX3_pillar 4 = .ok (.ifCond .eq 12, 3) := by decide +kernel
theorem dX3_pillar_7 : decode cX3_pillar 7 = .ok (.iload_n 2, 1) := by decide +kernel
theorem dX3_pillar_8 : decode cX3_pillar 8 = .ok (.iconst 0, 1) := by decide +kernel
theorem dX3_pillar_9 : decode cX3_pillar 9 = .ok (.iconst 1, 1) := by decide +kernel
theorem dX3_pillar_10 : decode cX3_pillar 10 = .ok (.invokestatic 44, 3) := by decide +kernel
theorem dX3_pillar_13 : decode cX3_pillar 13 = .ok (.ifCond .ne 6, 3) := by decide +kernel
theorem dX3_pillar_16 : decode cX3_pillar 16 = .ok (.bipush (-2), 2) := by decide +kernel
theorem dX3_pillar_18 : decode cX3_pillar 18 = .ok (.ireturn, 1) := by decide +kernel
theorem dX3_pillar_19 : decode cX3_pillar 19 = .ok (.aload_n 0, 1) := by decide +kernel
theorem dX3_pillar_20 : decode cX3_pillar 20 = .ok (.iload_n 1, 1) := by decide +kernel
theorem dX3_pillar_21 : decode cX3_pillar 21 = .ok (.invokevirtual 95, 3) := by decide +kernel
theorem dX3_pillar_24 : decode cX3_pillar 24 = .ok (.istore_n 3, 1) := by decide +kernel
theorem dX3_pillar_25 : decode cX3_pillar 25 = .ok (.aload_n 0, 1) := by decide +kernel
theorem dX3_pillar_26 : decode cX3_pillar 26 = .ok (.getfield 10, 3) := by decide +kernel
theorem dX3_pillar_29 : decode cX3_pillar 29 = .ok (.iload_n 3, 1) := by decide +kernel
theorem dX3_pillar_30 : decode cX3_pillar 30 = .ok (.aload_n 0, 1) := by decide +kernel
theorem dX3_pillar_31 : decode cX3_pillar 31 = .ok (.invokevirtual 98, 3) := by decide +kernel
theorem dX3_pillar_34 : decode cX3_pillar 34 = .ok (.invokevirtual 101, 3) := by decide +kernel
theorem dX3_pillar_37 : decode cX3_pillar 37 = .ok (.istore 4, 2) := by decide +kernel
theorem dX3_pillar_39 : decode cX3_pillar 39 = .ok (.bipush (-6), 2) := by decide +kernel
theorem dX3_pillar_41 : decode cX3_pillar 41 = .ok (.istore 5, 2) := by decide +kernel
theorem dX3_pillar_43 : decode cX3_pillar 43 = .ok (.iconst 0, 1) := by decide +kernel
theorem dX3_pillar_44 : decode cX3_pillar 44 = .ok (.istore 6, 2) := by decide +kernel
theorem dX3_pillar_46 : decode cX3_pillar 46 = .ok (.iconst 0, 1) := by decide +kernel
theorem dX3_pillar_47 : decode cX3_pillar 47 = .ok (.istore 7, 2) := by decide +kernel
theorem dX3_pillar_49 : decode cX3_pillar 49 = .ok (.iload 7, 2) := by decide +kernel
theorem dX3_pillar_51 : decode cX3_pillar 51 = .ok (.aload_n 0, 1) := by decide +kernel
theorem dX3_pillar_52 : decode cX3_pillar 52 = .ok (.getfield 10, 3) := by decide +kernel
theorem dX3_pillar_55 : decode cX3_pillar 55 = .ok (.getfield 48, 3) := by decide +kernel
theorem dX3_pillar_58 : decode cX3_pillar 58 = .ok (.if_icmp .ge 55, 3) := by decide +kernel
theorem dX3_pillar_61 : decode cX3_pillar 61 = .ok (.iload 4, 2) := by decide +kernel
theorem dX3_pillar_63 : decode cX3_pillar 63 = .ok (.iload 7, 2) := by decide +kernel
theorem dX3_pillar_65 : decode cX3_pillar 65 = .ok (.invokestatic 115, 3) := by decide +kernel
theorem dX3_pillar_68 : decode cX3_pillar 68 = .ok (.ifCond .eq 39, 3) := by decide +kernel
theorem dX3_pillar_71 : decode cX3_pillar 71 = .ok (.aload_n 0, 1) := by decide +kernel
theorem dX3_pillar_72 : decode cX3_pillar 72 = .ok (.iload 7, 2) := by decide +kernel
theorem dX3_pillar_74 : decode cX3_pillar 74 = .ok (.iload_n 3, 1) := by decide +kernel
theorem dX3_pillar_75 : decode cX3_pillar 75 = .ok (.invokevirtual 127, 3) := by decide +kernel
theorem dX3_pillar_78 : decode cX3_pillar 78 = .ok (.invokestatic 157, 3) := by decide +kernel
theorem dX3_pillar_81 : decode cX3_pillar 81 = .ok (.iconst 1, 1) := by decide +kernel
theorem dX3_pillar_82 : decode cX3_pillar 82 = .ok (.isub, 1) := by decide +kernel
theorem dX3_pillar_83 : decode cX3_pillar 83 = .ok (.istore 8, 2) := by decide +kernel
theorem dX3_pillar_85 : decode cX3_pillar 85 = .ok (.iload 5, 2) := by decide +kernel
theorem dX3_pillar_87 : decode cX3_pillar 87 = .ok (.bipush (-6), 2) := by decide +kernel
theorem dX3_pillar_89 : decode cX3_pillar 89 = .ok (.if_icmp .eq 10, 3) := by decide +kernel
theorem dX3_pillar_92 : decode cX3_pillar 92 = .ok (.iload 8, 2) := by decide +kernel
theorem dX3_pillar_94 : decode cX3_pillar 94 = .ok (.iload 6, 2) := by decide +kernel
theorem dX3_pillar_96 : decode cX3_pillar 96 = .ok (.if_icmp .le 11, 3) := by decide +kernel
theorem dX3_pillar_99 : decode cX3_pillar 99 = .ok (.iload 7, 2) := by decide +kernel
theorem dX3_pillar_101 : decode cX3_pillar 101 = .ok (.istore 5, 2) := by decide +kernel
theorem dX3_pillar_103 : decode cX3_pillar 103 = .ok (.iload 8, 2) := by decide +kernel
theorem dX3_pillar_105 : decode cX3_pillar 105 = .ok (.istore 6, 2) := by decide +kernel
theorem dX3_pillar_107 : decode cX3_pillar 107 = .ok (.iinc 7 1, 3) := by decide +kernel
theorem dX3_pillar_110 : decode cX3_pillar 110 = .ok (.goto (-61), 3) := by decide +kernel
theorem dX3_pillar_113 : decode cX3_pillar 113 = .ok (.iload_n 2, 1) := by decide +kernel
theorem dX3_pillar_114 : decode cX3_pillar 114 = .ok (.ifCond .ne 8, 3) := by decide +kernel
theorem dX3_pillar_117 : decode cX3_pillar 117 = .ok (.iload 5, 2) := by decide +kernel
theorem dX3_pillar_119 : decode cX3_pillar 119 = .ok (.goto 5, 3) := by decide +kernel
theorem dX3_pillar_122 : decode cX3_pillar 122 = .ok (.iload 6, 2) := by decide +kernel
theorem dX3_pillar_124 : decode cX3_pillar 124 = .ok (.ireturn, 1) := by decide +kernel
theorem dX3_hangs_0 : decode cX3_hangs 0 = .ok (.aload_n 0, 1) := by decide +kernel
theorem dX3_hangs_1 : decode cX3_hangs 1 = .ok (.getfield 10, 3) := by decide +kernel
theorem dX3_hangs_4 : decode cX3_hangs 4 = .ok (.iload_n 1, 1) := by decide +kernel
theorem dX3_hangs_5 : decode cX3_hangs 5 = .ok (.invokevirtual 55, 3) := by decide +kernel
theorem dX3_hangs_8 : decode cX3_hangs 8 = .ok (.ifCond .ne 5, 3) := by decide +kernel
theorem dX3_hangs_11 : decode cX3_hangs 11 = .ok (.iconst (-1), 1) := by decide +kernel
theorem dX3_hangs_12 : decode cX3_hangs 12 = .ok (.ireturn, 1) := by decide +kernel
theorem dX3_hangs_13 : decode cX3_hangs 13 = .ok (.iload_n 2, 1) := by decide +kernel
theorem dX3_hangs_14 : decode cX3_hangs 14 = .ok (.invokestatic 41, 3) := by decide +kernel
theorem dX3_hangs_17 : decode cX3_hangs 17 = .ok (.ifCond .eq 14, 3) := by decide +kernel
theorem dX3_hangs_20 : decode cX3_hangs 20 = .ok (.aload_n 0, 1) := by decide +kernel
theorem dX3_hangs_21 : decode cX3_hangs 21 = .ok (.getfield 10, 3) := by decide +kernel
theorem dX3_hangs_24 : decode cX3_hangs 24 = .ok (.iload_n 3, 1) := by decide +kernel
theorem dX3_hangs_25 : decode cX3_hangs 25 = .ok (.invokevirtual 151, 3) := by decide +kernel
theorem dX3_hangs_28 : decode cX3_hangs 28 = .ok (.ifCond .ne 6, 3) := by decide +kernel
theorem dX3_hangs_31 : decode cX3_hangs 31 = .ok (.bipush (-2), 2) := by decide +kernel
theorem dX3_hangs_33 : decode cX3_hangs 33 = .ok (.ireturn, 1) := by decide +kernel
theorem dX3_hangs_34 : decode cX3_hangs 34 = .ok (.aload_n 0, 1) := by decide +kernel
theorem dX3_hangs_35 : decode cX3_hangs 35 = .ok (.iload_n 2, 1) := by decide +kernel
theorem dX3_hangs_36 : decode cX3_hangs 36 = .ok (.invokevirtual 95, 3) := by decide +kernel
theorem dX3_hangs_39 : decode cX3_hangs 39 = .ok (.istore 4, 2) := by decide +kernel
theorem dX3_hangs_41 : decode cX3_hangs 41 = .ok (.aload_n 0, 1) := by decide +kernel
theorem dX3_hangs_42 : decode cX3_hangs 42 = .ok (.getfield 10, 3) := by decide +kernel
theorem dX3_hangs_45 : decode cX3_hangs 45 = .ok (.invokevirtual 162, 3) := by decide +kernel
theorem dX3_hangs_48 : decode cX3_hangs 48 = .ok (.istore 5, 2) := by decide +kernel
theorem dX3_hangs_50 : decode cX3_hangs 50 = .ok (.aload_n 0, 1) := by decide +kernel
theorem dX3_hangs_51 : decode cX3_hangs 51 = .ok (.getfield 10, 3) := by decide +kernel
theorem dX3_hangs_54 : decode cX3_hangs 54 = .ok (.iload 4, 2) := by decide +kernel
theorem dX3_hangs_56 : decode cX3_hangs 56 = .ok (.aload_n 0, 1) := by decide +kernel
theorem dX3_hangs_57 : decode cX3_hangs 57 = .ok (.getfield 30, 3) := by decide +kernel
theorem dX3_hangs_60 : decode cX3_hangs 60 = .ok (.iload 5, 2) := by decide +kernel
theorem dX3_hangs_62 : decode cX3_hangs 62 = .ok (.iload_n 3, 1) := by decide +kernel
theorem dX3_hangs_63 : decode cX3_hangs 63 = .ok (.iconst (-1), 1) := by decide +kernel
theorem dX3_hangs_64 : decode cX3_hangs 64 = .ok (.ixor, 1) := by decide +kernel
theorem dX3_hangs_65 : decode cX3_hangs 65 = .ok (.iand, 1) := by decide +kernel
theorem dX3_hangs_66 : decode cX3_hangs 66 = .ok (.invokestatic 165, 3) := by decide +kernel
theorem dX3_hangs_69 : decode cX3_hangs 69 = .ok (.invokevirtual 101, 3) := by decide +kernel
theorem dX3_hangs_72 : decode cX3_hangs 72 = .ok (.iload_n 1, 1) := by decide +kernel
theorem dX3_hangs_73 : decode cX3_hangs 73 = .ok (.invokestatic 115, 3) := by decide +kernel
theorem dX3_hangs_76 : decode cX3_hangs 76 = .ok (.ifCond .eq 5, 3) := by decide +kernel
theorem dX3_hangs_79 : decode cX3_hangs 79 = .ok (.iconst 2, 1) := by decide +kernel
theorem dX3_hangs_80 : decode cX3_hangs 80 = .ok (.ireturn, 1) := by decide +kernel
theorem dX3_hangs_81 : decode cX3_hangs 81 = .ok (.aload_n 0, 1) := by decide +kernel
theorem dX3_hangs_82 : decode cX3_hangs 82 = .ok (.getfield 10, 3) := by decide +kernel
theorem dX3_hangs_85 : decode cX3_hangs 85 = .ok (.iload 4, 2) := by decide +kernel
theorem dX3_hangs_87 : decode cX3_hangs 87 = .ok (.aload_n 0, 1) := by decide +kernel
theorem dX3_hangs_88 : decode cX3_hangs 88 = .ok (.getfield 30, 3) := by decide +kernel
theorem dX3_hangs_91 : decode cX3_hangs 91 = .ok (.iload 5, 2) := by decide +kernel
theorem dX3_hangs_93 : decode cX3_hangs 93 = .ok (.iload_n 3, 1) := by decide +kernel
theorem dX3_hangs_94 : decode cX3_hangs 94 = .ok (.ior, 1) := by decide +kernel
theorem dX3_hangs_95 : decode cX3_hangs 95 = .ok (.invokestatic 165, 3) := by decide +kernel
theorem dX3_hangs_98 : decode cX3_hangs 98 = .ok (.invokevirtual 101, 3) := by decide +kernel
theorem dX3_hangs_101 : decode cX3_hangs 101 = .ok (.iload_n 1, 1) := by decide +kernel
theorem dX3_hangs_102 : decode cX3_hangs 102 = .ok (.invokestatic 115, 3) := by decide +kernel
theorem dX3_hangs_105 : decode cX3_hangs 105 = .ok (.ifCond .eq 7, 3) := by decide +kernel
theorem dX3_hangs_108 : decode cX3_hangs 108 = .ok (.iconst 1, 1) := by decide +kernel
theorem dX3_hangs_109 : decode cX3_hangs 109 = .ok (.goto 4, 3) := by decide +kernel
theorem dX3_hangs_112 : decode cX3_hangs 112 = .ok (.iconst 0, 1) := by decide +kernel
theorem dX3_hangs_113 : decode cX3_hangs 113 = .ok (.ireturn, 1) := by decide +kernel
theorem dX3_safe_0 : decode cX3_safe 0 = .ok (.aload_n 0, 1) := by decide +kernel
theorem dX3_safe_1 : decode cX3_safe 1 = .ok (.getfield 10, 3) := by decide +kernel
theorem dX3_safe_4 : decode cX3_safe 4 = .ok (.iload_n 1, 1) := by decide +kernel
theorem dX3_safe_5 : decode cX3_safe 5 = .ok (.invokevirtual 55, 3) := by decide +kernel
theorem dX3_safe_8 : decode cX3_safe 8 = .ok (.ifCond .ne 5, 3) := by decide +kernel
theorem dX3_safe_11 : decode cX3_safe 11 = .ok (.iconst (-1), 1) := by decide +kernel
theorem dX3_safe_12 : decode cX3_safe 12 = .ok (.ireturn, 1) := by decide +kernel
theorem dX3_safe_13 : decode cX3_safe 13 = .ok (.bipush (-6), 2) := by decide +kernel
theorem dX3_safe_15 : decode cX3_safe 15 = .ok (.istore_n 2, 1) := by decide +kernel
theorem dX3_safe_16 : decode cX3_safe 16 = .ok (.iconst 0, 1) := by decide +kernel
theorem dX3_safe_17 : decode cX3_safe 17 = .ok (.istore_n 3, 1) := by decide +kernel
theorem dX3_safe_18 : decode cX3_safe 18 = .ok (.iconst 0, 1) := by decide +kernel
theorem dX3_safe_19 : decode cX3_safe 19 = .ok (.istore 4, 2) := by decide +kernel
theorem dX3_safe_21 : decode cX3_safe 21 = .ok (.bipush 99, 2) := by decide +kernel
theorem dX3_safe_23 : decode cX3_safe 23 = .ok (.istore 5, 2) := by decide +kernel
theorem dX3_safe_25 : decode cX3_safe 25 = .ok (.iload 5, 2) := by decide +kernel
theorem dX3_safe_27 : decode cX3_safe 27 = .ok (.aload_n 0, 1) := by decide +kernel
theorem dX3_safe_28 : decode cX3_safe 28 = .ok (.getfield 10, 3) := by decide +kernel
theorem dX3_safe_31 : decode cX3_safe 31 = .ok (.getfield 168, 3) := by decide +kernel
theorem dX3_safe_34 : decode cX3_safe 34 = .ok (.iload_n 1, 1) := by decide +kernel
theorem dX3_safe_35 : decode cX3_safe 35 = .ok (.iaload, 1) := by decide +kernel
theorem dX3_safe_36 : decode cX3_safe 36 = .ok (.if_icmp .lt 84, 3) := by decide +kernel
theorem dX3_safe_39 : decode cX3_safe 39 = .ok (.aload_n 0, 1) := by decide +kernel
theorem dX3_safe_40 : decode cX3_safe 40 = .ok (.iload 5, 2) := by decide +kernel
theorem dX3_safe_42 : decode cX3_safe 42 = .ok (.invokevirtual 95, 3) := by decide +kernel
theorem dX3_safe_45 : decode cX3_safe 45 = .ok (.istore 6, 2) := by decide +kernel
theorem dX3_safe_47 : decode cX3_safe 47 = .ok (.aload_n 0, 1) := by decide +kernel
theorem dX3_safe_48 : decode cX3_safe 48 = .ok (.getfield 10, 3) := by decide +kernel
theorem dX3_safe_51 : decode cX3_safe 51 = .ok (.iload 5, 2) := by decide +kernel
theorem dX3_safe_53 : decode cX3_safe 53 = .ok (.invokevirtual 171, 3) := by decide +kernel
theorem dX3_safe_56 : decode cX3_safe 56 = .ok (.istore 7, 2) := by decide +kernel
theorem dX3_safe_58 : decode cX3_safe 58 = .ok (.iload_n 2, 1) := by decide +kernel
theorem dX3_safe_59 : decode cX3_safe 59 = .ok (.bipush (-6), 2) := by decide +kernel
theorem dX3_safe_61 : decode cX3_safe 61 = .ok (.if_icmp .eq 20, 3) := by decide +kernel
theorem dX3_safe_64 : decode cX3_safe 64 = .ok (.iload 6, 2) := by decide +kernel
theorem dX3_safe_66 : decode cX3_safe 66 = .ok (.iload_n 3, 1) := by decide +kernel
theorem dX3_safe_67 : decode cX3_safe 67 = .ok (.if_icmp .ne 14, 3) := by decide +kernel
theorem dX3_safe_70 : decode cX3_safe 70 = .ok (.iload 7, 2) := by decide +kernel
theorem dX3_safe_72 : decode cX3_safe 72 = .ok (.iload 4, 2) := by decide +kernel
theorem dX3_safe_74 : decode cX3_safe 74 = .ok (.if_icmp .ne 7, 3) := by decide +kernel
theorem dX3_safe_77 : decode cX3_safe 77 = .ok (.iconst 1, 1) := by decide +kernel
theorem dX3_safe_78 : decode cX3_safe 78 = .ok (.goto 4, 3) := by decide +kernel
theorem dX3_safe_81 : decode cX3_safe 81 = .ok (.iconst 0, 1) := by decide +kernel
theorem dX3_safe_82 : decode cX3_safe 82 = .ok (.istore 8, 2) := by decide +kernel
theorem dX3_safe_84 : decode cX3_safe 84 = .ok (.iload 8, 2) := by decide +kernel
theorem dX3_safe_86 : decode cX3_safe 86 = .ok (.ifCond .ne 18, 3) := by decide +kernel
theorem dX3_safe_89 : decode cX3_safe 89 = .ok (.aload_n 0, 1) := by decide +kernel
theorem dX3_safe_90 : decode cX3_safe 90 = .ok (.iload_n 1, 1) := by decide +kernel
theorem dX3_safe_91 : decode cX3_safe 91 = .ok (.iload 6, 2) := by decide +kernel
theorem dX3_safe_93 : decode cX3_safe 93 = .ok (.iload 7, 2) := by decide +kernel
theorem dX3_safe_95 : decode cX3_safe 95 = .ok (.invokevirtual 174, 3) := by decide +kernel
theorem dX3_safe_98 : decode cX3_safe 98 = .ok (.ifCond .ne 6, 3) := by decide +kernel
theorem dX3_safe_101 : decode cX3_safe 101 = .ok (.goto 19, 3) := by decide +kernel
theorem dX3_safe_104 : decode cX3_safe 104 = .ok (.iload 5, 2) := by decide +kernel
theorem dX3_safe_106 : decode cX3_safe 106 = .ok (.istore_n 2, 1) := by decide +kernel
theorem dX3_safe_107 : decode cX3_safe 107 = .ok (.iload 6, 2) := by decide +kernel
theorem dX3_safe_109 : decode cX3_safe 109 = .ok (.istore_n 3, 1) := by decide +kernel
theorem dX3_safe_110 : decode cX3_safe 110 = .ok (.iload 7, 2) := by decide +kernel
theorem dX3_safe_112 : decode cX3_safe 112 = .ok (.istore 4, 2) := by decide +kernel
theorem dX3_safe_114 : decode cX3_safe 114 = .ok (.iinc 5 (-1), 3) := by decide +kernel
theorem dX3_safe_117 : decode cX3_safe 117 = .ok (.goto (-92), 3) := by decide +kernel
theorem dX3_safe_120 : decode cX3_safe 120 = .ok (.iload_n 2, 1) := by decide +kernel
theorem dX3_safe_121 : decode cX3_safe 121 = .ok (.ireturn, 1) := by decide +kernel
theorem dX3_beside_0 : decode cX3_beside 0 = .ok (.iload_n 1, 1) := by decide +kernel
theorem dX3_beside_1 : decode cX3_beside 1 = .ok (.invokestatic 41, 3) := by decide +kernel
theorem dX3_beside_4 : decode cX3_beside 4 = .ok (.ifCond .ne 6, 3) := by decide +kernel
theorem dX3_beside_7 : decode cX3_beside 7 = .ok (.bipush (-2), 2) := by decide +kernel
theorem dX3_beside_9 : decode cX3_beside 9 = .ok (.ireturn, 1) := by decide +kernel
theorem dX3_beside_10 : decode cX3_beside 10 = .ok (.aload_n 0, 1) := by decide +kernel
theorem dX3_beside_11 : decode cX3_beside 11 = .ok (.iload_n 1, 1) := by decide +kernel
theorem dX3_beside_12 : decode cX3_beside 12 = .ok (.invokevirtual 95, 3) := by decide +kernel
theorem dX3_beside_15 : decode cX3_beside 15 = .ok (.istore_n 2, 1) := by decide +kernel
theorem dX3_beside_16 : decode cX3_beside 16 = .ok (.aload_n 0, 1) := by decide +kernel
theorem dX3_beside_17 : decode cX3_beside 17 = .ok (.getfield 10, 3) := by decide +kernel
theorem dX3_beside_20 : decode cX3_beside 20 = .ok (.invokevirtual 162, 3) := by decide +kernel
theorem dX3_beside_23 : decode cX3_beside 23 = .ok (.istore_n 3, 1) := by decide +kernel
theorem dX3_beside_24 : decode cX3_beside 24 = .ok (.aload_n 0, 1) := by decide +kernel
theorem dX3_beside_25 : decode cX3_beside 25 = .ok (.getfield 10, 3) := by decide +kernel
theorem dX3_beside_28 : decode cX3_beside 28 = .ok (.iload_n 2, 1) := by decide +kernel
theorem dX3_beside_29 : decode cX3_beside 29 = .ok (.iconst 0, 1) := by decide +kernel
theorem dX3_beside_30 : decode cX3_beside 30 = .ok (.iload_n 3, 1) := by decide +kernel
theorem dX3_beside_31 : decode cX3_beside 31 = .ok (.invokestatic 165, 3) := by decide +kernel
theorem dX3_beside_34 : decode cX3_beside 34 = .ok (.invokevirtual 101, 3) := by decide +kernel
theorem dX3_beside_37 : decode cX3_beside 37 = .ok (.aload_n 0, 1) := by decide +kernel
theorem dX3_beside_38 : decode cX3_beside 38 = .ok (.getfield 10, 3) := by decide +kernel
theorem dX3_beside_41 : decode cX3_beside 41 = .ok (.iload_n 2, 1) := by decide +kernel
theorem dX3_beside_42 : decode cX3_beside 42 = .ok (.iconst 1, 1) := by decide +kernel
theorem dX3_beside_43 : decode cX3_beside 43 = .ok (.iload_n 3, 1) := by decide +kernel
theorem dX3_beside_44 : decode cX3_beside 44 = .ok (.invokestatic 165, 3) := by decide +kernel
theorem dX3_beside_47 : decode cX3_beside 47 = .ok (.invokevirtual 101, 3) := by decide +kernel
theorem dX3_beside_50 : decode cX3_beside 50 = .ok (.ixor, 1) := by decide +kernel
theorem dX3_beside_51 : decode cX3_beside 51 = .ok (.ireturn, 1) := by decide +kernel
theorem dX3_told_0 : decode cX3_told 0 = .ok (.iload_n 1, 1) := by decide +kernel
theorem dX3_told_1 : decode cX3_told 1 = .ok (.bipush 10, 2) := by decide +kernel
theorem dX3_told_3 : decode cX3_told 3 = .ok (.bipush 21, 2) := by decide +kernel
theorem dX3_told_5 : decode cX3_told 5 = .ok (.invokestatic 44, 3) := by decide +kernel
theorem dX3_told_8 : decode cX3_told 8 = .ok (.ifCond .eq 16, 3) := by decide +kernel
theorem dX3_told_11 : decode cX3_told 11 = .ok (.aload_n 0, 1) := by decide +kernel
theorem dX3_told_12 : decode cX3_told 12 = .ok (.getfield 10, 3) := by decide +kernel
theorem dX3_told_15 : decode cX3_told 15 = .ok (.getfield 84, 3) := by decide +kernel
theorem dX3_told_18 : decode cX3_told 18 = .ok (.iload_n 1, 1) := by decide +kernel
theorem dX3_told_19 : decode cX3_told 19 = .ok (.bipush 10, 2) := by decide +kernel
theorem dX3_told_21 : decode cX3_told 21 = .ok (.isub, 1) := by decide +kernel
theorem dX3_told_22 : decode cX3_told 22 = .ok (.iaload, 1) := by decide +kernel
theorem dX3_told_23 : decode cX3_told 23 = .ok (.ireturn, 1) := by decide +kernel
theorem dX3_told_24 : decode cX3_told 24 = .ok (.iload_n 1, 1) := by decide +kernel
theorem dX3_told_25 : decode cX3_told 25 = .ok (.tableswitch 69 0 4 #[35, 43, 51, 59, 64], 35) := by decide +kernel
theorem dX3_told_60 : decode cX3_told 60 = .ok (.aload_n 0, 1) := by decide +kernel
theorem dX3_told_61 : decode cX3_told 61 = .ok (.getfield 10, 3) := by decide +kernel
theorem dX3_told_64 : decode cX3_told 64 = .ok (.getfield 48, 3) := by decide +kernel
theorem dX3_told_67 : decode cX3_told 67 = .ok (.ireturn, 1) := by decide +kernel
theorem dX3_told_68 : decode cX3_told 68 = .ok (.aload_n 0, 1) := by decide +kernel
theorem dX3_told_69 : decode cX3_told 69 = .ok (.getfield 19, 3) := by decide +kernel
theorem dX3_told_72 : decode cX3_told 72 = .ok (.getfield 87, 3) := by decide +kernel
theorem dX3_told_75 : decode cX3_told 75 = .ok (.ireturn, 1) := by decide +kernel
theorem dX3_told_76 : decode cX3_told 76 = .ok (.aload_n 0, 1) := by decide +kernel
theorem dX3_told_77 : decode cX3_told 77 = .ok (.getfield 26, 3) := by decide +kernel
theorem dX3_told_80 : decode cX3_told 80 = .ok (.getfield 69, 3) := by decide +kernel
theorem dX3_told_83 : decode cX3_told 83 = .ok (.ireturn, 1) := by decide +kernel
theorem dX3_told_84 : decode cX3_told 84 = .ok (.aload_n 0, 1) := by decide +kernel
theorem dX3_told_85 : decode cX3_told 85 = .ok (.getfield 30, 3) := by decide +kernel
theorem dX3_told_88 : decode cX3_told 88 = .ok (.ireturn, 1) := by decide +kernel
theorem dX3_told_89 : decode cX3_told 89 = .ok (.aload_n 0, 1) := by decide +kernel
theorem dX3_told_90 : decode cX3_told 90 = .ok (.getfield 34, 3) := by decide +kernel
theorem dX3_told_93 : decode cX3_told 93 = .ok (.ireturn, 1) := by decide +kernel
theorem dX3_told_94 : decode cX3_told 94 = .ok (.bipush (-2), 2) := by decide +kernel
theorem dX3_told_96 : decode cX3_told 96 = .ok (.ireturn, 1) := by decide +kernel
theorem dX3_within_0 : decode cX3_within 0 = .ok (.iload_n 0, 1) := by decide +kernel
theorem dX3_within_1 : decode cX3_within 1 = .ok (.iload_n 1, 1) := by decide +kernel
theorem dX3_within_2 : decode cX3_within 2 = .ok (.if_icmp .lt 12, 3) := by decide +kernel
theorem dX3_within_5 : decode cX3_within 5 = .ok (.iload_n 0, 1) := by decide +kernel
theorem dX3_within_6 : decode cX3_within 6 = .ok (.iload_n 2, 1) := by decide +kernel
theorem dX3_within_7 : decode cX3_within 7 = .ok (.if_icmp .gt 7, 3) := by decide +kernel
theorem dX3_within_10 : decode cX3_within 10 = .ok (.iconst 1, 1) := by decide +kernel
theorem dX3_within_11 : decode cX3_within 11 = .ok (.goto 4, 3) := by decide +kernel
theorem dX3_within_14 : decode cX3_within 14 = .ok (.iconst 0, 1) := by decide +kernel
theorem dX3_within_15 : decode cX3_within 15 = .ok (.ireturn, 1) := by decide +kernel
theorem dX3_isDay_0 : decode cX3_isDay 0 = .ok (.iload_n 0, 1) := by decide +kernel
theorem dX3_isDay_1 : decode cX3_isDay 1 = .ok (.iconst 0, 1) := by decide +kernel
theorem dX3_isDay_2 : decode cX3_isDay 2 = .ok (.bipush 99, 2) := by decide +kernel
theorem dX3_isDay_4 : decode cX3_isDay 4 = .ok (.invokestatic 44, 3) := by decide +kernel
theorem dX3_isDay_7 : decode cX3_isDay 7 = .ok (.ireturn, 1) := by decide +kernel
theorem dX3_isWho_0 : decode cX3_isWho 0 = .ok (.iload_n 0, 1) := by decide +kernel
theorem dX3_isWho_1 : decode cX3_isWho 1 = .ok (.iconst 0, 1) := by decide +kernel
theorem dX3_isWho_2 : decode cX3_isWho 2 = .ok (.iconst 3, 1) := by decide +kernel
theorem dX3_isWho_3 : decode cX3_isWho 3 = .ok (.invokestatic 44, 3) := by decide +kernel
theorem dX3_isWho_6 : decode cX3_isWho 6 = .ok (.ireturn, 1) := by decide +kernel
theorem dX3_contains_0 : decode cX3_contains 0 = .ok (.iload_n 0, 1) := by decide +kernel
theorem dX3_contains_1 : decode cX3_contains 1 = .ok (.iload_n 1, 1) := by decide +kernel
theorem dX3_contains_2 : decode cX3_contains 2 = .ok (.ishr, 1) := by decide +kernel
theorem dX3_contains_3 : decode cX3_contains 3 = .ok (.iconst 1, 1) := by decide +kernel
theorem dX3_contains_4 : decode cX3_contains 4 = .ok (.iand, 1) := by decide +kernel
theorem dX3_contains_5 : decode cX3_contains 5 = .ok (.iconst 1, 1) := by decide +kernel
theorem dX3_contains_6 : decode cX3_contains 6 = .ok (.if_icmp .ne 7, 3) := by decide +kernel
theorem dX3_contains_9 : decode cX3_contains 9 = .ok (.iconst 1, 1) := by decide +kernel
theorem dX3_contains_10 : decode cX3_contains 10 = .ok (.goto 4, 3) := by decide +kernel
theorem dX3_contains_13 : decode cX3_contains 13 = .ok (.iconst 0, 1) := by decide +kernel
theorem dX3_contains_14 : decode cX3_contains 14 = .ok (.ireturn, 1) := by decide +kernel
theorem dX3_without_0 : decode cX3_without 0 = .ok (.iload_n 0, 1) := by decide +kernel
theorem dX3_without_1 : decode cX3_without 1 = .ok (.iconst 1, 1) := by decide +kernel
theorem dX3_without_2 : decode cX3_without 2 = .ok (.iload_n 1, 1) := by decide +kernel
theorem dX3_without_3 : decode cX3_without 3 = .ok (.ishl, 1) := by decide +kernel
theorem dX3_without_4 : decode cX3_without 4 = .ok (.iconst (-1), 1) := by decide +kernel
theorem dX3_without_5 : decode cX3_without 5 = .ok (.ixor, 1) := by decide +kernel
theorem dX3_without_6 : decode cX3_without 6 = .ok (.iand, 1) := by decide +kernel
theorem dX3_without_7 : decode cX3_without 7 = .ok (.ireturn, 1) := by decide +kernel
theorem dX3_soundOn_0 : decode cX3_soundOn 0 = .ok (.aload_n 0, 1) := by decide +kernel
theorem dX3_soundOn_1 : decode cX3_soundOn 1 = .ok (.getfield 10, 3) := by decide +kernel
theorem dX3_soundOn_4 : decode cX3_soundOn 4 = .ok (.iload_n 1, 1) := by decide +kernel
theorem dX3_soundOn_5 : decode cX3_soundOn 5 = .ok (.invokevirtual 177, 3) := by decide +kernel
theorem dX3_soundOn_8 : decode cX3_soundOn 8 = .ok (.aload_n 0, 1) := by decide +kernel
theorem dX3_soundOn_9 : decode cX3_soundOn 9 = .ok (.getfield 19, 3) := by decide +kernel
theorem dX3_soundOn_12 : decode cX3_soundOn 12 = .ok (.iload_n 1, 1) := by decide +kernel
theorem dX3_soundOn_13 : decode cX3_soundOn 13 = .ok (.aload_n 0, 1) := by decide +kernel
theorem dX3_soundOn_14 : decode cX3_soundOn 14 = .ok (.getfield 10, 3) := by decide +kernel
theorem dX3_soundOn_17 : decode cX3_soundOn 17 = .ok (.invokevirtual 180, 3) := by decide +kernel
theorem dX3_soundOn_20 : decode cX3_soundOn 20 = .ok (.iconst (-1), 1) := by decide +kernel
theorem dX3_soundOn_21 : decode cX3_soundOn 21 = .ok (.ixor, 1) := by decide +kernel
theorem dX3_soundOn_22 : decode cX3_soundOn 22 = .ok (.iand, 1) := by decide +kernel
theorem dX3_soundOn_23 : decode cX3_soundOn 23 = .ok (.ireturn, 1) := by decide +kernel
theorem dX3_exempt_0 : decode cX3_exempt 0 = .ok (.aload_n 0, 1) := by decide +kernel
theorem dX3_exempt_1 : decode cX3_exempt 1 = .ok (.getfield 30, 3) := by decide +kernel
theorem dX3_exempt_4 : decode cX3_exempt 4 = .ok (.aload_n 0, 1) := by decide +kernel
theorem dX3_exempt_5 : decode cX3_exempt 5 = .ok (.getfield 10, 3) := by decide +kernel
theorem dX3_exempt_8 : decode cX3_exempt 8 = .ok (.invokevirtual 162, 3) := by decide +kernel
theorem dX3_exempt_11 : decode cX3_exempt 11 = .ok (.invokestatic 165, 3) := by decide +kernel
theorem dX3_exempt_14 : decode cX3_exempt 14 = .ok (.ireturn, 1) := by decide +kernel
theorem dX3_exemptBy_0 : decode cX3_exemptBy 0 = .ok (.iload_n 0, 1) := by decide +kernel
theorem dX3_exemptBy_1 : decode cX3_exemptBy 1 = .ok (.iconst 1, 1) := by decide +kernel
theorem dX3_exemptBy_2 : decode cX3_exemptBy 2 = .ok (.if_icmp .ne 7, 3) := by decide +kernel
theorem dX3_exemptBy_5 : decode cX3_exemptBy 5 = .ok (.iload_n 1, 1) := by decide +kernel
theorem dX3_exemptBy_6 : decode cX3_exemptBy 6 = .ok (.goto 4, 3) := by decide +kernel
theorem dX3_exemptBy_9 : decode cX3_exemptBy 9 = .ok (.iconst 0, 1) := by decide +kernel
theorem dX3_exemptBy_10 : decode cX3_exemptBy 10 = .ok (.ireturn, 1) := by decide +kernel
theorem dX3_fallen_0 : decode cX3_fallen 0 = .ok (.aload_n 0, 1) := by decide +kernel
theorem dX3_fallen_1 : decode cX3_fallen 1 = .ok (.invokevirtual 98, 3) := by decide +kernel
theorem dX3_fallen_4 : decode cX3_fallen 4 = .ok (.istore_n 3, 1) := by decide +kernel
theorem dX3_fallen_5 : decode cX3_fallen 5 = .ok (.aload_n 0, 1) := by decide +kernel
theorem dX3_fallen_6 : decode cX3_fallen 6 = .ok (.getfield 10, 3) := by decide +kernel
theorem dX3_fallen_9 : decode cX3_fallen 9 = .ok (.iload_n 2, 1) := by decide +kernel
theorem dX3_fallen_10 : decode cX3_fallen 10 = .ok (.iload_n 3, 1) := by decide +kernel
theorem dX3_fallen_11 : decode cX3_fallen 11 = .ok (.invokevirtual 101, 3) := by decide +kernel
theorem dX3_fallen_14 : decode cX3_fallen 14 = .ok (.istore 4, 2) := by decide +kernel
theorem dX3_fallen_16 : decode cX3_fallen 16 = .ok (.iload 4, 2) := by decide +kernel
theorem dX3_fallen_18 : decode cX3_fallen 18 = .ok (.iload_n 1, 1) := by decide +kernel
theorem dX3_fallen_19 : decode cX3_fallen 19 = .ok (.invokestatic 115, 3) := by decide +kernel
theorem dX3_fallen_22 : decode cX3_fallen 22 = .ok (.ifCond .ne 5, 3) := by decide +kernel
theorem dX3_fallen_25 : decode cX3_fallen 25 = .ok (.iconst 0, 1) := by decide +kernel
theorem dX3_fallen_26 : decode cX3_fallen 26 = .ok (.ireturn, 1) := by decide +kernel
theorem dX3_fallen_27 : decode cX3_fallen 27 = .ok (.iload 4, 2) := by decide +kernel
theorem dX3_fallen_29 : decode cX3_fallen 29 = .ok (.aload_n 0, 1) := by decide +kernel
theorem dX3_fallen_30 : decode cX3_fallen 30 = .ok (.getfield 10, 3) := by decide +kernel
theorem dX3_fallen_33 : decode cX3_fallen 33 = .ok (.iload 4, 2) := by decide +kernel
theorem dX3_fallen_35 : decode cX3_fallen 35 = .ok (.iload_n 1, 1) := by decide +kernel
theorem dX3_fallen_36 : decode cX3_fallen 36 = .ok (.invokestatic 148, 3) := by decide +kernel
theorem dX3_fallen_39 : decode cX3_fallen 39 = .ok (.iload_n 3, 1) := by decide +kernel
theorem dX3_fallen_40 : decode cX3_fallen 40 = .ok (.invokevirtual 101, 3) := by decide +kernel
theorem dX3_fallen_43 : decode cX3_fallen 43 = .ok (.iconst (-1), 1) := by decide +kernel
theorem dX3_fallen_44 : decode cX3_fallen 44 = .ok (.ixor, 1) := by decide +kernel
theorem dX3_fallen_45 : decode cX3_fallen 45 = .ok (.iand, 1) := by decide +kernel
theorem dX3_fallen_46 : decode cX3_fallen 46 = .ok (.ireturn, 1) := by decide +kernel
theorem dX3_stepCount_0 : decode cX3_stepCount 0 = .ok (.iconst 0, 1) := by decide +kernel
theorem dX3_stepCount_1 : decode cX3_stepCount 1 = .ok (.istore_n 3, 1) := by decide +kernel
theorem dX3_stepCount_2 : decode cX3_stepCount 2 = .ok (.iload_n 3, 1) := by decide +kernel
theorem dX3_stepCount_3 : decode cX3_stepCount 3 = .ok (.bipush 12, 2) := by decide +kernel
theorem dX3_stepCount_5 : decode cX3_stepCount 5 = .ok (.if_icmp .ge 21, 3) := by decide +kernel
theorem dX3_stepCount_8 : decode cX3_stepCount 8 = .ok (.aload_n 0, 1) := by decide +kernel
theorem dX3_stepCount_9 : decode cX3_stepCount 9 = .ok (.iload_n 1, 1) := by decide +kernel
theorem dX3_stepCount_10 : decode cX3_stepCount 10 = .ok (.iload_n 2, 1) := by decide +kernel
theorem dX3_stepCount_11 : decode cX3_stepCount 11 = .ok (.iload_n 3, 1) := by decide +kernel
theorem dX3_stepCount_12 : decode cX3_stepCount 12 = .ok (.invokevirtual 133, 3) := by decide +kernel
theorem dX3_stepCount_15 : decode cX3_stepCount 15 = .ok (.bipush (-6), 2) := by decide +kernel
theorem dX3_stepCount_17 : decode cX3_stepCount 17 = .ok (.if_icmp .eq 9, 3) := by decide +kernel
theorem dX3_stepCount_20 : decode cX3_stepCount 20 = .ok (.iinc 3 1, 3) := by decide +kernel
theorem dX3_stepCount_23 : decode cX3_stepCount 23 = .ok (.goto (-21), 3) := by decide +kernel
theorem dX3_stepCount_26 : decode cX3_stepCount 26 = .ok (.iload_n 3, 1) := by decide +kernel
theorem dX3_stepCount_27 : decode cX3_stepCount 27 = .ok (.ireturn, 1) := by decide +kernel
theorem dX3_stepAt_0 : decode cX3_stepAt 0 = .ok (.aload_n 0, 1) := by decide +kernel
theorem dX3_stepAt_1 : decode cX3_stepAt 1 = .ok (.invokevirtual 98, 3) := by decide +kernel
theorem dX3_stepAt_4 : decode cX3_stepAt 4 = .ok (.istore 4, 2) := by decide +kernel
theorem dX3_stepAt_6 : decode cX3_stepAt 6 = .ok (.aload_n 0, 1) := by decide +kernel
theorem dX3_stepAt_7 : decode cX3_stepAt 7 = .ok (.getfield 10, 3) := by decide +kernel
theorem dX3_stepAt_10 : decode cX3_stepAt 10 = .ok (.iload_n 2, 1) := by decide +kernel
theorem dX3_stepAt_11 : decode cX3_stepAt 11 = .ok (.iload 4, 2) := by decide +kernel
theorem dX3_stepAt_13 : decode cX3_stepAt 13 = .ok (.invokevirtual 101, 3) := by decide +kernel
theorem dX3_stepAt_16 : decode cX3_stepAt 16 = .ok (.istore 5, 2) := by decide +kernel
theorem dX3_stepAt_18 : decode cX3_stepAt 18 = .ok (.iload 5, 2) := by decide +kernel
theorem dX3_stepAt_20 : decode cX3_stepAt 20 = .ok (.iload_n 1, 1) := by decide +kernel
theorem dX3_stepAt_21 : decode cX3_stepAt 21 = .ok (.invokestatic 115, 3) := by decide +kernel
theorem dX3_stepAt_24 : decode cX3_stepAt 24 = .ok (.ifCond .eq 13, 3) := by decide +kernel
theorem dX3_stepAt_27 : decode cX3_stepAt 27 = .ok (.iload_n 3, 1) := by decide +kernel
theorem dX3_stepAt_28 : decode cX3_stepAt 28 = .ok (.iconst 0, 1) := by decide +kernel
theorem dX3_stepAt_29 : decode cX3_stepAt 29 = .ok (.bipush 11, 2) := by decide +kernel
theorem dX3_stepAt_31 : decode cX3_stepAt 31 = .ok (.invokestatic 44, 3) := by decide +kernel
theorem dX3_stepAt_34 : decode cX3_stepAt 34 = .ok (.ifCond .ne 6, 3) := by decide +kernel
theorem dX3_stepAt_37 : decode cX3_stepAt 37 = .ok (.bipush (-6), 2) := by decide +kernel
theorem dX3_stepAt_39 : decode cX3_stepAt 39 = .ok (.ireturn, 1) := by decide +kernel
theorem dX3_stepAt_40 : decode cX3_stepAt 40 = .ok (.iconst 1, 1) := by decide +kernel
theorem dX3_stepAt_41 : decode cX3_stepAt 41 = .ok (.iload_n 1, 1) := by decide +kernel
theorem dX3_stepAt_42 : decode cX3_stepAt 42 = .ok (.ishl, 1) := by decide +kernel
theorem dX3_stepAt_43 : decode cX3_stepAt 43 = .ok (.istore 6, 2) := by decide +kernel
theorem dX3_stepAt_45 : decode cX3_stepAt 45 = .ok (.iconst 0, 1) := by decide +kernel
theorem dX3_stepAt_46 : decode cX3_stepAt 46 = .ok (.istore 7, 2) := by decide +kernel
theorem dX3_stepAt_48 : decode cX3_stepAt 48 = .ok (.iload 7, 2) := by decide +kernel
theorem dX3_stepAt_50 : decode cX3_stepAt 50 = .ok (.iload_n 3, 1) := by decide +kernel
theorem dX3_stepAt_51 : decode cX3_stepAt 51 = .ok (.if_icmp .ge 31, 3) := by decide +kernel
theorem dX3_stepAt_54 : decode cX3_stepAt 54 = .ok (.iload 5, 2) := by decide +kernel
theorem dX3_stepAt_56 : decode cX3_stepAt 56 = .ok (.iload 6, 2) := by decide +kernel
theorem dX3_stepAt_58 : decode cX3_stepAt 58 = .ok (.iconst (-1), 1) := by decide +kernel
theorem dX3_stepAt_59 : decode cX3_stepAt 59 = .ok (.ixor, 1) := by decide +kernel
theorem dX3_stepAt_60 : decode cX3_stepAt 60 = .ok (.iand, 1) := by decide +kernel
theorem dX3_stepAt_61 : decode cX3_stepAt 61 = .ok (.istore 5, 2) := by decide +kernel
theorem dX3_stepAt_63 : decode cX3_stepAt 63 = .ok (.aload_n 0, 1) := by decide +kernel
theorem dX3_stepAt_64 : decode cX3_stepAt 64 = .ok (.getfield 10, 3) := by decide +kernel
theorem dX3_stepAt_67 : decode cX3_stepAt 67 = .ok (.iload 5, 2) := by decide +kernel
theorem dX3_stepAt_69 : decode cX3_stepAt 69 = .ok (.iload 4, 2) := by decide +kernel
theorem dX3_stepAt_71 : decode cX3_stepAt 71 = .ok (.invokevirtual 184, 3) := by decide +kernel
theorem dX3_stepAt_74 : decode cX3_stepAt 74 = .ok (.istore 6, 2) := by decide +kernel
theorem dX3_stepAt_76 : decode cX3_stepAt 76 = .ok (.iinc 7 1, 3) := by decide +kernel
theorem dX3_stepAt_79 : decode cX3_stepAt 79 = .ok (.goto (-31), 3) := by decide +kernel
theorem dX3_stepAt_82 : decode cX3_stepAt 82 = .ok (.iload 6, 2) := by decide +kernel
theorem dX3_stepAt_84 : decode cX3_stepAt 84 = .ok (.ifCond .ne 8, 3) := by decide +kernel
theorem dX3_stepAt_87 : decode cX3_stepAt 87 = .ok (.bipush (-6), 2) := by decide +kernel
theorem dX3_stepAt_89 : decode cX3_stepAt 89 = .ok (.goto 5, 3) := by decide +kernel
theorem dX3_stepAt_92 : decode cX3_stepAt 92 = .ok (.iload 6, 2) := by decide +kernel
theorem dX3_stepAt_94 : decode cX3_stepAt 94 = .ok (.ireturn, 1) := by decide +kernel
theorem dX3_wiseWho_0 : decode cX3_wiseWho 0 = .ok (.aload_n 0, 1) := by decide +kernel
theorem dX3_wiseWho_1 : decode cX3_wiseWho 1 = .ok (.iload_n 1, 1) := by decide +kernel
theorem dX3_wiseWho_2 : decode cX3_wiseWho 2 = .ok (.iload_n 3, 1) := by decide +kernel
theorem dX3_wiseWho_3 : decode cX3_wiseWho 3 = .ok (.invokevirtual 127, 3) := by decide +kernel
theorem dX3_wiseWho_6 : decode cX3_wiseWho 6 = .ok (.istore 4, 2) := by decide +kernel
theorem dX3_wiseWho_8 : decode cX3_wiseWho 8 = .ok (.iconst 0, 1) := by decide +kernel
theorem dX3_wiseWho_9 : decode cX3_wiseWho 9 = .ok (.istore 5, 2) := by decide +kernel
theorem dX3_wiseWho_11 : decode cX3_wiseWho 11 = .ok (.iload 5, 2) := by decide +kernel
theorem dX3_wiseWho_13 : decode cX3_wiseWho 13 = .ok (.iconst 4, 1) := by decide +kernel
theorem dX3_wiseWho_14 : decode cX3_wiseWho 14 = .ok (.if_icmp .ge 45, 3) := by decide +kernel
theorem dX3_wiseWho_17 : decode cX3_wiseWho 17 = .ok (.aload_n 0, 1) := by decide +kernel
theorem dX3_wiseWho_18 : decode cX3_wiseWho 18 = .ok (.getfield 10, 3) := by decide +kernel
theorem dX3_wiseWho_21 : decode cX3_wiseWho 21 = .ok (.iload_n 1, 1) := by decide +kernel
theorem dX3_wiseWho_22 : decode cX3_wiseWho 22 = .ok (.iload 5, 2) := by decide +kernel
theorem dX3_wiseWho_24 : decode cX3_wiseWho 24 = .ok (.iload_n 2, 1) := by decide +kernel
theorem dX3_wiseWho_25 : decode cX3_wiseWho 25 = .ok (.invokevirtual 124, 3) := by decide +kernel
theorem dX3_wiseWho_28 : decode cX3_wiseWho 28 = .ok (.ifCond .eq 25, 3) := by decide +kernel
theorem dX3_wiseWho_31 : decode cX3_wiseWho 31 = .ok (.aload_n 0, 1) := by decide +kernel
theorem dX3_wiseWho_32 : decode cX3_wiseWho 32 = .ok (.getfield 10, 3) := by decide +kernel
theorem dX3_wiseWho_35 : decode cX3_wiseWho 35 = .ok (.iload 4, 2) := by decide +kernel
theorem dX3_wiseWho_37 : decode cX3_wiseWho 37 = .ok (.iload_n 2, 1) := by decide +kernel
theorem dX3_wiseWho_38 : decode cX3_wiseWho 38 = .ok (.iload 5, 2) := by decide +kernel
theorem dX3_wiseWho_40 : decode cX3_wiseWho 40 = .ok (.aload_n 0, 1) := by decide +kernel
theorem dX3_wiseWho_41 : decode cX3_wiseWho 41 = .ok (.getfield 34, 3) := by decide +kernel
theorem dX3_wiseWho_44 : decode cX3_wiseWho 44 = .ok (.invokevirtual 139, 3) := by decide +kernel
theorem dX3_wiseWho_47 : decode cX3_wiseWho 47 = .ok (.ifCond .le 6, 3) := by decide +kernel
theorem dX3_wiseWho_50 : decode cX3_wiseWho 50 = .ok (.iload 5, 2) := by decide +kernel
theorem dX3_wiseWho_52 : decode cX3_wiseWho 52 = .ok (.ireturn, 1) := by decide +kernel
theorem dX3_wiseWho_53 : decode cX3_wiseWho 53 = .ok (.iinc 5 1, 3) := by decide +kernel
theorem dX3_wiseWho_56 : decode cX3_wiseWho 56 = .ok (.goto (-45), 3) := by decide +kernel
theorem dX3_wiseWho_59 : decode cX3_wiseWho 59 = .ok (.bipush (-6), 2) := by decide +kernel
theorem dX3_wiseWho_61 : decode cX3_wiseWho 61 = .ok (.ireturn, 1) := by decide +kernel
theorem dX3_firstWiseAct_0 : decode cX3_firstWiseAct 0 = .ok (.iconst 0, 1) := by decide +kernel
theorem dX3_firstWiseAct_1 : decode cX3_firstWiseAct 1 = .ok (.istore_n 3, 1) := by decide +kernel
theorem dX3_firstWiseAct_2 : decode cX3_firstWiseAct 2 = .ok (.iload_n 3, 1) := by decide +kernel
theorem dX3_firstWiseAct_3 : decode cX3_firstWiseAct 3 = .ok (.aload_n 0, 1) := by decide +kernel
theorem dX3_firstWiseAct_4 : decode cX3_firstWiseAct 4 = .ok (.getfield 10, 3) := by decide +kernel
theorem dX3_firstWiseAct_7 : decode cX3_firstWiseAct 7 = .ok (.getfield 48, 3) := by decide +kernel
theorem dX3_firstWiseAct_10 : decode cX3_firstWiseAct 10 = .ok (.if_icmp .ge 23, 3) := by decide +kernel
theorem dX3_firstWiseAct_13 : decode cX3_firstWiseAct 13 = .ok (.aload_n 0, 1) := by decide +kernel
theorem dX3_firstWiseAct_14 : decode cX3_firstWiseAct 14 = .ok (.iload_n 3, 1) := by decide +kernel
theorem dX3_firstWiseAct_15 : decode cX3_firstWiseAct 15 = .ok (.iload_n 1, 1) := by decide +kernel
theorem dX3_firstWiseAct_16 : decode cX3_firstWiseAct 16 = .ok (.iload_n 2, 1) := by decide +kernel
theorem dX3_firstWiseAct_17 : decode cX3_firstWiseAct 17 = .ok (.invokevirtual 142, 3) := by decide +kernel
theorem dX3_firstWiseAct_20 : decode cX3_firstWiseAct 20 = .ok (.bipush (-6), 2) := by decide +kernel
theorem dX3_firstWiseAct_22 : decode cX3_firstWiseAct 22 = .ok (.if_icmp .eq 5, 3) := by decide +kernel
theorem dX3_firstWiseAct_25 : decode cX3_firstWiseAct 25 = .ok (.iload_n 3, 1) := by decide +kernel
theorem dX3_firstWiseAct_26 : decode cX3_firstWiseAct 26 = .ok (.ireturn, 1) := by decide +kernel
theorem dX3_firstWiseAct_27 : decode cX3_firstWiseAct 27 = .ok (.iinc 3 1, 3) := by decide +kernel
theorem dX3_firstWiseAct_30 : decode cX3_firstWiseAct 30 = .ok (.goto (-28), 3) := by decide +kernel
theorem dX3_firstWiseAct_33 : decode cX3_firstWiseAct 33 = .ok (.bipush (-6), 2) := by decide +kernel
theorem dX3_firstWiseAct_35 : decode cX3_firstWiseAct 35 = .ok (.ireturn, 1) := by decide +kernel
theorem dX3_fewestHealed_0 : decode cX3_fewestHealed 0 = .ok (.aload_n 0, 1) := by decide +kernel
theorem dX3_fewestHealed_1 : decode cX3_fewestHealed 1 = .ok (.iload_n 2, 1) := by decide +kernel
theorem dX3_fewestHealed_2 : decode cX3_fewestHealed 2 = .ok (.invokevirtual 95, 3) := by decide +kernel
theorem dX3_fewestHealed_5 : decode cX3_fewestHealed 5 = .ok (.istore_n 3, 1) := by decide +kernel
theorem dX3_fewestHealed_6 : decode cX3_fewestHealed 6 = .ok (.aload_n 0, 1) := by decide +kernel
theorem dX3_fewestHealed_7 : decode cX3_fewestHealed 7 = .ok (.invokevirtual 98, 3) := by decide +kernel
theorem dX3_fewestHealed_10 : decode cX3_fewestHealed 10 = .ok (.istore 4, 2) := by decide +kernel
theorem dX3_fewestHealed_12 : decode cX3_fewestHealed 12 = .ok (.aload_n 0, 1) := by decide +kernel
theorem dX3_fewestHealed_13 : decode cX3_fewestHealed 13 = .ok (.getfield 10, 3) := by decide +kernel
theorem dX3_fewestHealed_16 : decode cX3_fewestHealed 16 = .ok (.iload_n 2, 1) := by decide +kernel
theorem dX3_fewestHealed_17 : decode cX3_fewestHealed 17 = .ok (.invokevirtual 187, 3) := by decide +kernel
theorem dX3_fewestHealed_20 : decode cX3_fewestHealed 20 = .ok (.iload_n 3, 1) := by decide +kernel
theorem dX3_fewestHealed_21 : decode cX3_fewestHealed 21 = .ok (.iconst (-1), 1) := by decide +kernel
theorem dX3_fewestHealed_22 : decode cX3_fewestHealed 22 = .ok (.ixor, 1) := by decide +kernel
theorem dX3_fewestHealed_23 : decode cX3_fewestHealed 23 = .ok (.iand, 1) := by decide +kernel
theorem dX3_fewestHealed_24 : decode cX3_fewestHealed 24 = .ok (.istore 5, 2) := by decide +kernel
theorem dX3_fewestHealed_26 : decode cX3_fewestHealed 26 = .ok (.aload_n 0, 1) := by decide +kernel
theorem dX3_fewestHealed_27 : decode cX3_fewestHealed 27 = .ok (.getfield 10, 3) := by decide +kernel
theorem dX3_fewestHealed_30 : decode cX3_fewestHealed 30 = .ok (.iload_n 3, 1) := by decide +kernel
theorem dX3_fewestHealed_31 : decode cX3_fewestHealed 31 = .ok (.iload 5, 2) := by decide +kernel
theorem dX3_fewestHealed_33 : decode cX3_fewestHealed 33 = .ok (.ior, 1) := by decide +kernel
theorem dX3_fewestHealed_34 : decode cX3_fewestHealed 34 = .ok (.iload 4, 2) := by decide +kernel
theorem dX3_fewestHealed_36 : decode cX3_fewestHealed 36 = .ok (.invokevirtual 101, 3) := by decide +kernel
theorem dX3_fewestHealed_39 : decode cX3_fewestHealed 39 = .ok (.istore 6, 2) := by decide +kernel
theorem dX3_fewestHealed_41 : decode cX3_fewestHealed 41 = .ok (.iload_n 1, 1) := by decide +kernel
theorem dX3_fewestHealed_42 : decode cX3_fewestHealed 42 = .ok (.iload 6, 2) := by decide +kernel
theorem dX3_fewestHealed_44 : decode cX3_fewestHealed 44 = .ok (.iconst (-1), 1) := by decide +kernel
theorem dX3_fewestHealed_45 : decode cX3_fewestHealed 45 = .ok (.ixor, 1) := by decide +kernel
theorem dX3_fewestHealed_46 : decode cX3_fewestHealed 46 = .ok (.iand, 1) := by decide +kernel
theorem dX3_fewestHealed_47 : decode cX3_fewestHealed 47 = .ok (.ifCond .eq 6, 3) := by decide +kernel
theorem dX3_fewestHealed_50 : decode cX3_fewestHealed 50 = .ok (.bipush (-6), 2) := by decide +kernel
theorem dX3_fewestHealed_52 : decode cX3_fewestHealed 52 = .ok (.ireturn, 1) := by decide +kernel
theorem dX3_fewestHealed_53 : decode cX3_fewestHealed 53 = .ok (.iload 5, 2) := by decide +kernel
theorem dX3_fewestHealed_55 : decode cX3_fewestHealed 55 = .ok (.iload 6, 2) := by decide +kernel
theorem dX3_fewestHealed_57 : decode cX3_fewestHealed 57 = .ok (.iand, 1) := by decide +kernel
theorem dX3_fewestHealed_58 : decode cX3_fewestHealed 58 = .ok (.istore 7, 2) := by decide +kernel
theorem dX3_fewestHealed_60 : decode cX3_fewestHealed 60 = .ok (.aload_n 0, 1) := by decide +kernel
theorem dX3_fewestHealed_61 : decode cX3_fewestHealed 61 = .ok (.iload_n 1, 1) := by decide +kernel
theorem dX3_fewestHealed_62 : decode cX3_fewestHealed 62 = .ok (.iload 6, 2) := by decide +kernel
theorem dX3_fewestHealed_64 : decode cX3_fewestHealed 64 = .ok (.iload 7, 2) := by decide +kernel
theorem dX3_fewestHealed_66 : decode cX3_fewestHealed 66 = .ok (.iload 4, 2) := by decide +kernel
theorem dX3_fewestHealed_68 : decode cX3_fewestHealed 68 = .ok (.invokevirtual 190, 3) := by decide +kernel
theorem dX3_fewestHealed_71 : decode cX3_fewestHealed 71 = .ok (.istore 8, 2) := by decide +kernel
theorem dX3_fewestHealed_73 : decode cX3_fewestHealed 73 = .ok (.iload 7, 2) := by decide +kernel
theorem dX3_fewestHealed_75 : decode cX3_fewestHealed 75 = .ok (.iload 8, 2) := by decide +kernel
theorem dX3_fewestHealed_77 : decode cX3_fewestHealed 77 = .ok (.iconst (-1), 1) := by decide +kernel
theorem dX3_fewestHealed_78 : decode cX3_fewestHealed 78 = .ok (.ixor, 1) := by decide +kernel
theorem dX3_fewestHealed_79 : decode cX3_fewestHealed 79 = .ok (.iand, 1) := by decide +kernel
theorem dX3_fewestHealed_80 : decode cX3_fewestHealed 80 = .ok (.istore 9, 2) := by decide +kernel
theorem dX3_fewestHealed_82 : decode cX3_fewestHealed 82 = .ok (.iconst 0, 1) := by decide +kernel
theorem dX3_fewestHealed_83 : decode cX3_fewestHealed 83 = .ok (.istore 10, 2) := by decide +kernel
theorem dX3_fewestHealed_85 : decode cX3_fewestHealed 85 = .ok (.iconst 0, 1) := by decide +kernel
theorem dX3_fewestHealed_86 : decode cX3_fewestHealed 86 = .ok (.istore 11, 2) := by decide +kernel
theorem dX3_fewestHealed_88 : decode cX3_fewestHealed 88 = .ok (.iload 11, 2) := by decide +kernel
theorem dX3_fewestHealed_90 : decode cX3_fewestHealed 90 = .ok (.sipush 4096, 3) := by decide +kernel
theorem dX3_fewestHealed_93 : decode cX3_fewestHealed 93 = .ok (.if_icmp .ge 72, 3) := by decide +kernel
theorem dX3_fewestHealed_96 : decode cX3_fewestHealed 96 = .ok (.iload 7, 2) := by decide +kernel
theorem dX3_fewestHealed_98 : decode cX3_fewestHealed 98 = .ok (.iload 8, 2) := by decide +kernel
theorem dX3_fewestHealed_100 : decode cX3_fewestHealed 100 = .ok (.if_icmp .eq 65, 3) := by decide +kernel
theorem dX3_fewestHealed_103 : decode cX3_fewestHealed 103 = .ok (.iload 8, 2) := by decide +kernel
theorem dX3_fewestHealed_105 : decode cX3_fewestHealed 105 = .ok (.iload 10, 2) := by decide +kernel
theorem dX3_fewestHealed_107 : decode cX3_fewestHealed 107 = .ok (.ior, 1) := by decide +kernel
theorem dX3_fewestHealed_108 : decode cX3_fewestHealed 108 = .ok (.istore 12, 2) := by decide +kernel
theorem dX3_fewestHealed_110 : decode cX3_fewestHealed 110 = .ok (.iload 12, 2) := by decide +kernel
theorem dX3_fewestHealed_112 : decode cX3_fewestHealed 112 = .ok (.invokestatic 157, 3) := by decide +kernel
theorem dX3_fewestHealed_115 : decode cX3_fewestHealed 115 = .ok (.iload 7, 2) := by decide +kernel
theorem dX3_fewestHealed_117 : decode cX3_fewestHealed 117 = .ok (.invokestatic 157, 3) := by decide +kernel
theorem dX3_fewestHealed_120 : decode cX3_fewestHealed 120 = .ok (.if_icmp .ge 21, 3) := by decide +kernel
theorem dX3_fewestHealed_123 : decode cX3_fewestHealed 123 = .ok (.aload_n 0, 1) := by decide +kernel
theorem dX3_fewestHealed_124 : decode cX3_fewestHealed 124 = .ok (.iload_n 1, 1) := by decide +kernel
theorem dX3_fewestHealed_125 : decode cX3_fewestHealed 125 = .ok (.iload_n 3, 1) := by decide +kernel
theorem dX3_fewestHealed_126 : decode cX3_fewestHealed 126 = .ok (.iload 12, 2) := by decide +kernel
theorem dX3_fewestHealed_128 : decode cX3_fewestHealed 128 = .ok (.ior, 1) := by decide +kernel
theorem dX3_fewestHealed_129 : decode cX3_fewestHealed 129 = .ok (.iload 4, 2) := by decide +kernel
theorem dX3_fewestHealed_131 : decode cX3_fewestHealed 131 = .ok (.invokevirtual 193, 3) := by decide +kernel
theorem dX3_fewestHealed_134 : decode cX3_fewestHealed 134 = .ok (.ifCond .eq 7, 3) := by decide +kernel
theorem dX3_fewestHealed_137 : decode cX3_fewestHealed 137 = .ok (.iload 12, 2) := by decide +kernel
theorem dX3_fewestHealed_139 : decode cX3_fewestHealed 139 = .ok (.istore 7, 2) := by decide +kernel
theorem dX3_fewestHealed_141 : decode cX3_fewestHealed 141 = .ok (.iload 10, 2) := by decide +kernel
theorem dX3_fewestHealed_143 : decode cX3_fewestHealed 143 = .ok (.iload 9, 2) := by decide +kernel
theorem dX3_fewestHealed_145 : decode cX3_fewestHealed 145 = .ok (.isub, 1) := by decide +kernel
theorem dX3_fewestHealed_146 : decode cX3_fewestHealed 146 = .ok (.iload 9, 2) := by decide +kernel
theorem dX3_fewestHealed_148 : decode cX3_fewestHealed 148 = .ok (.iand, 1) := by decide +kernel
theorem dX3_fewestHealed_149 : decode cX3_fewestHealed 149 = .ok (.istore 10, 2) := by decide +kernel
theorem dX3_fewestHealed_151 : decode cX3_fewestHealed 151 = .ok (.iload 10, 2) := by decide +kernel
theorem dX3_fewestHealed_153 : decode cX3_fewestHealed 153 = .ok (.ifCond .ne 6, 3) := by decide +kernel
theorem dX3_fewestHealed_156 : decode cX3_fewestHealed 156 = .ok (.goto 9, 3) := by decide +kernel
theorem dX3_fewestHealed_159 : decode cX3_fewestHealed 159 = .ok (.iinc 11 1, 3) := by decide +kernel
theorem dX3_fewestHealed_162 : decode cX3_fewestHealed 162 = .ok (.goto (-74), 3) := by decide +kernel
theorem dX3_fewestHealed_165 : decode cX3_fewestHealed 165 = .ok (.iload 7, 2) := by decide +kernel
theorem dX3_fewestHealed_167 : decode cX3_fewestHealed 167 = .ok (.ireturn, 1) := by decide +kernel
theorem dX3_allStand_0 : decode cX3_allStand 0 = .ok (.iload_n 1, 1) := by decide +kernel
theorem dX3_allStand_1 : decode cX3_allStand 1 = .ok (.aload_n 0, 1) := by decide +kernel
theorem dX3_allStand_2 : decode cX3_allStand 2 = .ok (.getfield 10, 3) := by decide +kernel
theorem dX3_allStand_5 : decode cX3_allStand 5 = .ok (.iload_n 2, 1) := by decide +kernel
theorem dX3_allStand_6 : decode cX3_allStand 6 = .ok (.iload_n 3, 1) := by decide +kernel
theorem dX3_allStand_7 : decode cX3_allStand 7 = .ok (.invokevirtual 101, 3) := by decide +kernel
theorem dX3_allStand_10 : decode cX3_allStand 10 = .ok (.iconst (-1), 1) := by decide +kernel
theorem dX3_allStand_11 : decode cX3_allStand 11 = .ok (.ixor, 1) := by decide +kernel
theorem dX3_allStand_12 : decode cX3_allStand 12 = .ok (.iand, 1) := by decide +kernel
theorem dX3_allStand_13 : decode cX3_allStand 13 = .ok (.ifCond .ne 7, 3) := by decide +kernel
theorem dX3_allStand_16 : decode cX3_allStand 16 = .ok (.iconst 1, 1) := by decide +kernel
theorem dX3_allStand_17 : decode cX3_allStand 17 = .ok (.goto 4, 3) := by decide +kernel
theorem dX3_allStand_20 : decode cX3_allStand 20 = .ok (.iconst 0, 1) := by decide +kernel
theorem dX3_allStand_21 : decode cX3_allStand 21 = .ok (.ireturn, 1) := by decide +kernel
theorem dX3_indispensable_0 : decode cX3_indispensable 0 = .ok (.iconst 0, 1) := by decide +kernel
theorem dX3_indispensable_1 : decode cX3_indispensable 1 = .ok (.istore 5, 2) := by decide +kernel
theorem dX3_indispensable_3 : decode cX3_indispensable 3 = .ok (.iconst 0, 1) := by decide +kernel
theorem dX3_indispensable_4 : decode cX3_indispensable 4 = .ok (.istore 6, 2) := by decide +kernel
theorem dX3_indispensable_6 : decode cX3_indispensable 6 = .ok (.iload 6, 2) := by decide +kernel
theorem dX3_indispensable_8 : decode cX3_indispensable 8 = .ok (.aload_n 0, 1) := by decide +kernel
theorem dX3_indispensable_9 : decode cX3_indispensable 9 = .ok (.getfield 10, 3) := by decide +kernel
theorem dX3_indispensable_12 : decode cX3_indispensable 12 = .ok (.getfield 48, 3) := by decide +kernel
theorem dX3_indispensable_15 : decode cX3_indispensable 15 = .ok (.if_icmp .ge 43, 3) := by decide +kernel
theorem dX3_indispensable_18 : decode cX3_indispensable 18 = .ok (.iload_n 3, 1) := by decide +kernel
theorem dX3_indispensable_19 : decode cX3_indispensable 19 = .ok (.iload 6, 2) := by decide +kernel
theorem dX3_indispensable_21 : decode cX3_indispensable 21 = .ok (.invokestatic 115, 3) := by decide +kernel
theorem dX3_indispensable_24 : decode cX3_indispensable 24 = .ok (.ifCond .eq 28, 3) := by decide +kernel
theorem dX3_indispensable_27 : decode cX3_indispensable 27 = .ok (.aload_n 0, 1) := by decide +kernel
theorem dX3_indispensable_28 : decode cX3_indispensable 28 = .ok (.iload_n 1, 1) := by decide +kernel
theorem dX3_indispensable_29 : decode cX3_indispensable 29 = .ok (.iload_n 2, 1) := by decide +kernel
theorem dX3_indispensable_30 : decode cX3_indispensable 30 = .ok (.iload 6, 2) := by decide +kernel
theorem dX3_indispensable_32 : decode cX3_indispensable 32 = .ok (.invokestatic 148, 3) := by decide +kernel
theorem dX3_indispensable_35 : decode cX3_indispensable 35 = .ok (.iload 4, 2) := by decide +kernel
theorem dX3_indispensable_37 : decode cX3_indispensable 37 = .ok (.invokevirtual 193, 3) := by decide +kernel
theorem dX3_indispensable_40 : decode cX3_indispensable 40 = .ok (.ifCond .ne 12, 3) := by decide +kernel
theorem dX3_indispensable_43 : decode cX3_indispensable 43 = .ok (.iload 5, 2) := by decide +kernel
theorem dX3_indispensable_45 : decode cX3_indispensable 45 = .ok (.iconst 1, 1) := by decide +kernel
theorem dX3_indispensable_46 : decode cX3_indispensable 46 = .ok (.iload 6, 2) := by decide +kernel
theorem dX3_indispensable_48 : decode cX3_indispensable 48 = .ok (.ishl, 1) := by decide +kernel
theorem dX3_indispensable_49 : decode cX3_indispensable 49 = .ok (.ior, 1) := by decide +kernel
theorem dX3_indispensable_50 : decode cX3_indispensable 50 = .ok (.istore 5, 2) := by decide +kernel
theorem dX3_indispensable_52 : decode cX3_indispensable 52 = .ok (.iinc 6 1, 3) := by decide +kernel
theorem dX3_indispensable_55 : decode cX3_indispensable 55 = .ok (.goto (-49), 3) := by decide +kernel
theorem dX3_indispensable_58 : decode cX3_indispensable 58 = .ok (.iload 5, 2) := by decide +kernel
theorem dX3_indispensable_60 : decode cX3_indispensable 60 = .ok (.ireturn, 1) := by decide +kernel
theorem dX3_withstands_0 : decode cX3_withstands 0 = .ok (.aload_n 0, 1) := by decide +kernel
theorem dX3_withstands_1 : decode cX3_withstands 1 = .ok (.invokevirtual 98, 3) := by decide +kernel
theorem dX3_withstands_4 : decode cX3_withstands 4 = .ok (.istore 4, 2) := by decide +kernel
theorem dX3_withstands_6 : decode cX3_withstands 6 = .ok (.aload_n 0, 1) := by decide +kernel
theorem dX3_withstands_7 : decode cX3_withstands 7 = .ok (.getfield 10, 3) := by decide +kernel
theorem dX3_withstands_10 : decode cX3_withstands 10 = .ok (.iload_n 2, 1) := by decide +kernel
theorem dX3_withstands_11 : decode cX3_withstands 11 = .ok (.iload 4, 2) := by decide +kernel
theorem dX3_withstands_13 : decode cX3_withstands 13 = .ok (.invokevirtual 101, 3) := by decide +kernel
theorem dX3_withstands_16 : decode cX3_withstands 16 = .ok (.istore 5, 2) := by decide +kernel
theorem dX3_withstands_18 : decode cX3_withstands 18 = .ok (.iload 5, 2) := by decide +kernel
theorem dX3_withstands_20 : decode cX3_withstands 20 = .ok (.iload_n 1, 1) := by decide +kernel
theorem dX3_withstands_21 : decode cX3_withstands 21 = .ok (.invokestatic 115, 3) := by decide +kernel
theorem dX3_withstands_24 : decode cX3_withstands 24 = .ok (.ifCond .ne 5, 3) := by decide +kernel
theorem dX3_withstands_27 : decode cX3_withstands 27 = .ok (.iconst 0, 1) := by decide +kernel
theorem dX3_withstands_28 : decode cX3_withstands 28 = .ok (.ireturn, 1) := by decide +kernel
theorem dX3_withstands_29 : decode cX3_withstands 29 = .ok (.iconst 0, 1) := by decide +kernel
theorem dX3_withstands_30 : decode cX3_withstands 30 = .ok (.istore 6, 2) := by decide +kernel
theorem dX3_withstands_32 : decode cX3_withstands 32 = .ok (.iload 6, 2) := by decide +kernel
theorem dX3_withstands_34 : decode cX3_withstands 34 = .ok (.aload_n 0, 1) := by decide +kernel
theorem dX3_withstands_35 : decode cX3_withstands 35 = .ok (.getfield 10, 3) := by decide +kernel
theorem dX3_withstands_38 : decode cX3_withstands 38 = .ok (.getfield 48, 3) := by decide +kernel
theorem dX3_withstands_41 : decode cX3_withstands 41 = .ok (.if_icmp .ge 46, 3) := by decide +kernel
theorem dX3_withstands_44 : decode cX3_withstands 44 = .ok (.iload_n 3, 1) := by decide +kernel
theorem dX3_withstands_45 : decode cX3_withstands 45 = .ok (.iload 5, 2) := by decide +kernel
theorem dX3_withstands_47 : decode cX3_withstands 47 = .ok (.iand, 1) := by decide +kernel
theorem dX3_withstands_48 : decode cX3_withstands 48 = .ok (.iload 6, 2) := by decide +kernel
theorem dX3_withstands_50 : decode cX3_withstands 50 = .ok (.invokestatic 115, 3) := by decide +kernel
theorem dX3_withstands_53 : decode cX3_withstands 53 = .ok (.ifCond .eq 28, 3) := by decide +kernel
theorem dX3_withstands_56 : decode cX3_withstands 56 = .ok (.aload_n 0, 1) := by decide +kernel
theorem dX3_withstands_57 : decode cX3_withstands 57 = .ok (.getfield 10, 3) := by decide +kernel
theorem dX3_withstands_60 : decode cX3_withstands 60 = .ok (.iload 5, 2) := by decide +kernel
theorem dX3_withstands_62 : decode cX3_withstands 62 = .ok (.iload 6, 2) := by decide +kernel
theorem dX3_withstands_64 : decode cX3_withstands 64 = .ok (.invokestatic 148, 3) := by decide +kernel
theorem dX3_withstands_67 : decode cX3_withstands 67 = .ok (.iload 4, 2) := by decide +kernel
theorem dX3_withstands_69 : decode cX3_withstands 69 = .ok (.invokevirtual 101, 3) := by decide +kernel
theorem dX3_withstands_72 : decode cX3_withstands 72 = .ok (.iload_n 1, 1) := by decide +kernel
theorem dX3_withstands_73 : decode cX3_withstands 73 = .ok (.invokestatic 115, 3) := by decide +kernel
theorem dX3_withstands_76 : decode cX3_withstands 76 = .ok (.ifCond .ne 5, 3) := by decide +kernel
theorem dX3_withstands_79 : decode cX3_withstands 79 = .ok (.iconst 0, 1) := by decide +kernel
theorem dX3_withstands_80 : decode cX3_withstands 80 = .ok (.ireturn, 1) := by decide +kernel
theorem dX3_withstands_81 : decode cX3_withstands 81 = .ok (.iinc 6 1, 3) := by decide +kernel
theorem dX3_withstands_84 : decode cX3_withstands 84 = .ok (.goto (-52), 3) := by decide +kernel
theorem dX3_withstands_87 : decode cX3_withstands 87 = .ok (.iconst 1, 1) := by decide +kernel
theorem dX3_withstands_88 : decode cX3_withstands 88 = .ok (.ireturn, 1) := by decide +kernel
end
section
theorem dX4_init_0 : decode cX4_init 0 = .ok (.aload_n 0, 1) := by decide +kernel
theorem dX4_init_1 : decode cX4_init 1 = .ok (.invokespecial 1, 3) := by decide +kernel
theorem dX4_init_4 : decode cX4_init 4 = .ok (.aload_n 0, 1) := by decide +kernel
theorem dX4_init_5 : decode cX4_init 5 = .ok (.bipush 12, 2) := by decide +kernel
theorem dX4_init_7 : decode cX4_init 7 = .ok (.newarray .int, 2) := by decide +kernel
theorem dX4_init_9 : decode cX4_init 9 = .ok (.putfield 7, 3) := by decide +kernel
theorem dX4_init_12 : decode cX4_init 12 = .ok (.aload_n 0, 1) := by decide +kernel
theorem dX4_init_13 : decode cX4_init 13 = .ok (.bipush 12, 2) := by decide +kernel
theorem dX4_init_15 : decode cX4_init 15 = .ok (.newarray .int, 2) := by decide +kernel
theorem dX4_init_17 : decode cX4_init 17 = .ok (.putfield 13, 3) := by decide +kernel
theorem dX4_init_20 : decode cX4_init 20 = .ok (.aload_n 0, 1) := by decide +kernel
theorem dX4_init_21 : decode cX4_init 21 = .ok (.bipush 12, 2) := by decide +kernel
theorem dX4_init_23 : decode cX4_init 23 = .ok (.newarray .int, 2) := by decide +kernel
theorem dX4_init_25 : decode cX4_init 25 = .ok (.putfield 16, 3) := by decide +kernel
theorem dX4_init_28 : decode cX4_init 28 = .ok (.aload_n 0, 1) := by decide +kernel
theorem dX4_init_29 : decode cX4_init 29 = .ok (.bipush 12, 2) := by decide +kernel
theorem dX4_init_31 : decode cX4_init 31 = .ok (.newarray .int, 2) := by decide +kernel
theorem dX4_init_33 : decode cX4_init 33 = .ok (.putfield 19, 3) := by decide +kernel
theorem dX4_init_36 : decode cX4_init 36 = .ok (.aload_n 0, 1) := by decide +kernel
theorem dX4_init_37 : decode cX4_init 37 = .ok (.bipush 12, 2) := by decide +kernel
theorem dX4_init_39 : decode cX4_init 39 = .ok (.newarray .int, 2) := by decide +kernel
theorem dX4_init_41 : decode cX4_init 41 = .ok (.putfield 22, 3) := by decide +kernel
theorem dX4_init_44 : decode cX4_init 44 = .ok (.aload_n 0, 1) := by decide +kernel
theorem dX4_init_45 : decode cX4_init 45 = .ok (.bipush 12, 2) := by decide +kernel
theorem dX4_init_47 : decode cX4_init 47 = .ok (.newarray .int, 2) := by decide +kernel
theorem dX4_init_49 : decode cX4_init 49 = .ok (.putfield 25, 3) := by decide +kernel
theorem dX4_init_52 : decode cX4_init 52 = .ok (.aload_n 0, 1) := by decide +kernel
theorem dX4_init_53 : decode cX4_init 53 = .ok (.bipush 12, 2) := by decide +kernel
theorem dX4_init_55 : decode cX4_init 55 = .ok (.newarray .int, 2) := by decide +kernel
theorem dX4_init_57 : decode cX4_init 57 = .ok (.putfield 28, 3) := by decide +kernel
theorem dX4_init_60 : decode cX4_init 60 = .ok (.aload_n 0, 1) := by decide +kernel
theorem dX4_init_61 : decode cX4_init 61 = .ok (.sipush 240, 3) := by decide +kernel
theorem dX4_init_64 : decode cX4_init 64 = .ok (.newarray .int, 2) := by decide +kernel
theorem dX4_init_66 : decode cX4_init 66 = .ok (.putfield 31, 3) := by decide +kernel
theorem dX4_init_69 : decode cX4_init 69 = .ok (.aload_n 0, 1) := by decide +kernel
theorem dX4_init_70 : decode cX4_init 70 = .ok (.bipush 12, 2) := by decide +kernel
theorem dX4_init_72 : decode cX4_init 72 = .ok (.newarray .int, 2) := by decide +kernel
theorem dX4_init_74 : decode cX4_init 74 = .ok (.putfield 34, 3) := by decide +kernel
theorem dX4_init_77 : decode cX4_init 77 = .ok (.aload_n 0, 1) := by decide +kernel
theorem dX4_init_78 : decode cX4_init 78 = .ok (.bipush 40, 2) := by decide +kernel
theorem dX4_init_80 : decode cX4_init 80 = .ok (.newarray .int, 2) := by decide +kernel
theorem dX4_init_82 : decode cX4_init 82 = .ok (.putfield 37, 3) := by decide +kernel
theorem dX4_init_85 : decode cX4_init 85 = .ok (.aload_n 0, 1) := by decide +kernel
theorem dX4_init_86 : decode cX4_init 86 = .ok (.bipush 12, 2) := by decide +kernel
theorem dX4_init_88 : decode cX4_init 88 = .ok (.newarray .int, 2) := by decide +kernel
theorem dX4_init_90 : decode cX4_init 90 = .ok (.putfield 40, 3) := by decide +kernel
theorem dX4_init_93 : decode cX4_init 93 = .ok (.aload_n 0, 1) := by decide +kernel
theorem dX4_init_94 : decode cX4_init 94 = .ok (.bipush 12, 2) := by decide +kernel
theorem dX4_init_96 : decode cX4_init 96 = .ok (.newarray .int, 2) := by decide +kernel
theorem dX4_init_98 : decode cX4_init 98 = .ok (.putfield 43, 3) := by decide +kernel
theorem dX4_init_101 : decode cX4_init 101 = .ok (.aload_n 0, 1) := by decide +kernel
theorem dX4_init_102 : decode cX4_init 102 = .ok (.bipush 12, 2) := by decide +kernel
theorem dX4_init_104 : decode cX4_init 104 = .ok (.newarray .int, 2) := by decide +kernel
theorem dX4_init_106 : decode cX4_init 106 = .ok (.putfield 46, 3) := by decide +kernel
theorem dX4_init_109 : decode cX4_init 109 = .ok (.aload_n 0, 1) := by decide +kernel
theorem dX4_init_110 : decode cX4_init 110 = .ok (.iconst 1, 1) := by decide +kernel
theorem dX4_init_111 : decode cX4_init 111 = .ok (.putfield 49, 3) := by decide +kernel
theorem dX4_init_114 : decode cX4_init 114 = .ok (.return_, 1) := by decide +kernel
theorem dX4_in_0 : decode cX4_in 0 = .ok (.lload_n 0, 1) := by decide +kernel
theorem dX4_in_1 : decode cX4_in 1 = .ok (.lload_n 2, 1) := by decide +kernel
theorem dX4_in_2 : decode cX4_in 2 = .ok (.lcmp, 1) := by decide +kernel
theorem dX4_in_3 : decode cX4_in 3 = .ok (.ifCond .lt 14, 3) := by decide +kernel
theorem dX4_in_6 : decode cX4_in 6 = .ok (.lload_n 0, 1) := by decide +kernel
theorem dX4_in_7 : decode cX4_in 7 = .ok (.lload 4, 2) := by decide +kernel
theorem dX4_in_9 : decode cX4_in 9 = .ok (.lcmp, 1) := by decide +kernel
theorem dX4_in_10 : decode cX4_in 10 = .ok (.ifCond .gt 7, 3) := by decide +kernel
theorem dX4_in_13 : decode cX4_in 13 = .ok (.iconst 1, 1) := by decide +kernel
theorem dX4_in_14 : decode cX4_in 14 = .ok (.goto 4, 3) := by decide +kernel
theorem dX4_in_17 : decode cX4_in 17 = .ok (.iconst 0, 1) := by decide +kernel
theorem dX4_in_18 : decode cX4_in 18 = .ok (.ireturn, 1) := by decide +kernel
theorem dX4_ones_0 : decode cX4_ones 0 = .ok (.iconst 0, 1) := by decide +kernel
theorem dX4_ones_1 : decode cX4_ones 1 = .ok (.istore_n 1, 1) := by decide +kernel
theorem dX4_ones_2 : decode cX4_ones 2 = .ok (.iconst 0, 1) := by decide +kernel
theorem dX4_ones_3 : decode cX4_ones 3 = .ok (.istore_n 2, 1) := by decide +kernel
theorem dX4_ones_4 : decode cX4_ones 4 = .ok (.iload_n 2, 1) := by decide +kernel
theorem dX4_ones_5 : decode cX4_ones 5 = .ok (.bipush 12, 2) := by decide +kernel
theorem dX4_ones_7 : decode cX4_ones 7 = .ok (.if_icmp .ge 17, 3) := by decide +kernel
theorem dX4_ones_10 : decode cX4_ones 10 = .ok (.iload_n 1, 1) := by decide +kernel
theorem dX4_ones_11 : decode cX4_ones 11 = .ok (.iload_n 0, 1) := by decide +kernel
theorem dX4_ones_12 : decode cX4_ones 12 = .ok (.iload_n 2, 1) := by decide +kernel
theorem dX4_ones_13 : decode cX4_ones 13 = .ok (.ishr, 1) := by decide +kernel
theorem dX4_ones_14 : decode cX4_ones 14 = .ok (.iconst 1, 1) := by decide +kernel
theorem dX4_ones_15 : decode cX4_ones 15 = .ok (.iand, 1) := by decide +kernel
theorem dX4_ones_16 : decode cX4_ones 16 = .ok (.iadd, 1) := by decide +kernel
theorem dX4_ones_17 : decode cX4_ones 17 = .ok (.istore_n 1, 1) := by decide +kernel
theorem dX4_ones_18 : decode cX4_ones 18 = .ok (.iinc 2 1, 3) := by decide +kernel
theorem dX4_ones_21 : decode cX4_ones 21 = .ok (.goto (-17), 3) := by decide +kernel
theorem dX4_ones_24 : decode cX4_ones 24 = .ok (.iload_n 1, 1) := by decide +kernel
theorem dX4_ones_25 : decode cX4_ones 25 = .ok (.ireturn, 1) := by decide +kernel
theorem dX4_isDay_0 : decode cX4_isDay 0 = .ok (.iload_n 0, 1) := by decide +kernel
theorem dX4_isDay_1 : decode cX4_isDay 1 = .ok (.i2l, 1) := by decide +kernel
theorem dX4_isDay_2 : decode cX4_isDay 2 = .ok (.lconst 0, 1) := by decide +kernel
theorem dX4_isDay_3 : decode cX4_isDay 3 = .ok (.ldc2_w 53, 3) := by decide +kernel
theorem dX4_isDay_6 : decode cX4_isDay 6 = .ok (.invokestatic 55, 3) := by decide +kernel
theorem dX4_isDay_9 : decode cX4_isDay 9 = .ok (.ireturn, 1) := by decide +kernel
theorem dX4_isWho_0 : decode cX4_isWho 0 = .ok (.iload_n 0, 1) := by decide +kernel
theorem dX4_isWho_1 : decode cX4_isWho 1 = .ok (.i2l, 1) := by decide +kernel
theorem dX4_isWho_2 : decode cX4_isWho 2 = .ok (.lconst 0, 1) := by decide +kernel
theorem dX4_isWho_3 : decode cX4_isWho 3 = .ok (.ldc2_w 59, 3) := by decide +kernel
theorem dX4_isWho_6 : decode cX4_isWho 6 = .ok (.invokestatic 55, 3) := by decide +kernel
theorem dX4_isWho_9 : decode cX4_isWho 9 = .ok (.ireturn, 1) := by decide +kernel
theorem dX4_isAct_0 : decode cX4_isAct 0 = .ok (.iload_n 1, 1) := by decide +kernel
theorem dX4_isAct_1 : decode cX4_isAct 1 = .ok (.i2l, 1) := by decide +kernel
theorem dX4_isAct_2 : decode cX4_isAct 2 = .ok (.lconst 0, 1) := by decide +kernel
theorem dX4_isAct_3 : decode cX4_isAct 3 = .ok (.aload_n 0, 1) := by decide +kernel
theorem dX4_isAct_4 : decode cX4_isAct 4 = .ok (.getfield 61, 3) := by decide +kernel
theorem dX4_isAct_7 : decode cX4_isAct 7 = .ok (.iconst 1, 1) := by decide +kernel
theorem dX4_isAct_8 : decode cX4_isAct 8 = .ok (.isub, 1) := by decide +kernel
theorem dX4_isAct_9 : decode cX4_isAct 9 = .ok (.i2l, 1) := by decide +kernel
theorem dX4_isAct_10 : decode cX4_isAct 10 = .ok (.invokestatic 55, 3) := by decide +kernel
theorem dX4_isAct_13 : decode cX4_isAct 13 = .ok (.ireturn, 1) := by decide +kernel
theorem dX4_act_0 : decode cX4_act 0 = .ok (.iload_n 2, 1) := by decide +kernel
theorem dX4_act_1 : decode cX4_act 1 = .ok (.invokestatic 64, 3) := by decide +kernel
theorem dX4_act_4 : decode cX4_act 4 = .ok (.ifCond .eq 15, 3) := by decide +kernel
theorem dX4_act_7 : decode cX4_act 7 = .ok (.iload_n 3, 1) := by decide +kernel
theorem dX4_act_8 : decode cX4_act 8 = .ok (.invokestatic 64, 3) := by decide +kernel
theorem dX4_act_11 : decode cX4_act 11 = .ok (.ifCond .eq 8, 3) := by decide +kernel
theorem dX4_act_14 : decode cX4_act 14 = .ok (.iload_n 2, 1) := by decide +kernel
theorem dX4_act_15 : decode cX4_act 15 = .ok (.iload_n 3, 1) := by decide +kernel
theorem dX4_act_16 : decode cX4_act 16 = .ok (.if_icmp .ne 5, 3) := by decide +kernel
theorem dX4_act_19 : decode cX4_act 19 = .ok (.iconst (-1), 1) := by decide +kernel
theorem dX4_act_20 : decode cX4_act 20 = .ok (.ireturn, 1) := by decide +kernel
theorem dX4_act_21 : decode cX4_act 21 = .ok (.iload_n 1, 1) := by decide +kernel
theorem dX4_act_22 : decode cX4_act 22 = .ok (.invokestatic 68, 3) := by decide +kernel
theorem dX4_act_25 : decode cX4_act 25 = .ok (.ifCond .eq 16, 3) := by decide +kernel
theorem dX4_act_28 : decode cX4_act 28 = .ok (.iload 4, 2) := by decide +kernel
theorem dX4_act_30 : decode cX4_act 30 = .ok (.i2l, 1) := by decide +kernel
theorem dX4_act_31 : decode cX4_act 31 = .ok (.lconst 0, 1) := by decide +kernel
theorem dX4_act_32 : decode cX4_act 32 = .ok (.ldc2_w 53, 3) := by decide +kernel
theorem dX4_act_35 : decode cX4_act 35 = .ok (.invokestatic 55, 3) := by decide +kernel
theorem dX4_act_38 : decode cX4_act 38 = .ok (.ifCond .ne 6, 3) := by decide +kernel
theorem dX4_act_41 : decode cX4_act 41 = .ok (.bipush (-2), 2) := by decide +kernel
theorem dX4_act_43 : decode cX4_act 43 = .ok (.ireturn, 1) := by decide +kernel
theorem dX4_act_44 : decode cX4_act 44 = .ok (.aload_n 0, 1) := by decide +kernel
theorem dX4_act_45 : decode cX4_act 45 = .ok (.getfield 61, 3) := by decide +kernel
theorem dX4_act_48 : decode cX4_act 48 = .ok (.bipush 12, 2) := by decide +kernel
theorem dX4_act_50 : decode cX4_act 50 = .ok (.if_icmp .ne 6, 3) := by decide +kernel
theorem dX4_act_53 : decode cX4_act 53 = .ok (.bipush (-4), 2) := by decide +kernel
theorem dX4_act_55 : decode cX4_act 55 = .ok (.ireturn, 1) := by decide +kernel
theorem dX4_act_56 : decode cX4_act 56 = .ok (.aload_n 0, 1) := by decide +kernel
theorem dX4_act_57 : decode cX4_act 57 = .ok (.getfield 7, 3) := by decide +kernel
theorem dX4_act_60 : decode cX4_act 60 = .ok (.aload_n 0, 1) := by decide +kernel
theorem dX4_act_61 : decode cX4_act 61 = .ok (.getfield 61, 3) := by decide +kernel
theorem dX4_act_64 : decode cX4_act 64 = .ok (.iload_n 1, 1) := by decide +kernel
theorem dX4_act_65 : decode cX4_act 65 = .ok (.iastore, 1) := by decide +kernel
theorem dX4_act_66 : decode cX4_act 66 = .ok (.aload_n 0, 1) := by decide +kernel
theorem dX4_act_67 : decode cX4_act 67 = .ok (.getfield 13, 3) := by decide +kernel
theorem dX4_act_70 : decode cX4_act 70 = .ok (.aload_n 0, 1) := by decide +kernel
theorem dX4_act_71 : decode cX4_act 71 = .ok (.getfield 61, 3) := by decide +kernel
theorem dX4_act_74 : decode cX4_act 74 = .ok (.iload_n 2, 1) := by decide +kernel
theorem dX4_act_75 : decode cX4_act 75 = .ok (.iastore, 1) := by decide +kernel
theorem dX4_act_76 : decode cX4_act 76 = .ok (.aload_n 0, 1) := by decide +kernel
theorem dX4_act_77 : decode cX4_act 77 = .ok (.getfield 16, 3) := by decide +kernel
theorem dX4_act_80 : decode cX4_act 80 = .ok (.aload_n 0, 1) := by decide +kernel
theorem dX4_act_81 : decode cX4_act 81 = .ok (.getfield 61, 3) := by decide +kernel
theorem dX4_act_84 : decode cX4_act 84 = .ok (.iload_n 3, 1) := by decide +kernel
theorem dX4_act_85 : decode cX4_act 85 = .ok (.iastore, 1) := by decide +kernel
theorem dX4_act_86 : decode cX4_act 86 = .ok (.aload_n 0, 1) := by decide +kernel
theorem dX4_act_87 : decode cX4_act 87 = .ok (.getfield 19, 3) := by decide +kernel
theorem dX4_act_90 : decode cX4_act 90 = .ok (.aload_n 0, 1) := by decide +kernel
theorem dX4_act_91 : decode cX4_act 91 = .ok (.getfield 61, 3) := by decide +kernel
theorem dX4_act_94 : decode cX4_act 94 = .ok (.iload 4, 2) := by decide +kernel
theorem dX4_act_96 : decode cX4_act 96 = .ok (.iastore, 1) := by decide +kernel
theorem dX4_act_97 : decode cX4_act 97 = .ok (.aload_n 0, 1) := by decide +kernel
theorem dX4_act_98 : decode cX4_act 98 = .ok (.getfield 25, 3) := by decide +kernel
theorem dX4_act_101 : decode cX4_act 101 = .ok (.aload_n 0, 1) := by decide +kernel
theorem dX4_act_102 : decode cX4_act 102 = .ok (.getfield 61, 3) := by decide +kernel
theorem dX4_act_105 : decode cX4_act 105 = .ok (.bipush 99, 2) := by decide +kernel
theorem dX4_act_107 : decode cX4_act 107 = .ok (.iastore, 1) := by decide +kernel
theorem dX4_act_108 : decode cX4_act 108 = .ok (.aload_n 0, 1) := by decide +kernel
theorem dX4_act_109 : decode cX4_act 109 = .ok (.getfield 28, 3) := by decide +kernel
theorem dX4_act_112 : decode cX4_act 112 = .ok (.aload_n 0, 1) := by decide +kernel
theorem dX4_act_113 : decode cX4_act 113 = .ok (.getfield 61, 3) := by decide +kernel
theorem dX4_act_116 : decode cX4_act 116 = .ok (.bipush (-6), 2) := by decide +kernel
theorem dX4_act_118 : decode cX4_act 118 = .ok (.iastore, 1) := by decide +kernel
theorem dX4_act_119 : decode cX4_act 119 = .ok (.aload_n 0, 1) := by decide +kernel
theorem dX4_act_120 : decode cX4_act 120 = .ok (.dup, 1) := by decide +kernel
theorem dX4_act_121 : decode cX4_act 121 = .ok (.getfield 61, 3) := by decide +kernel
theorem dX4_act_124 : decode cX4_act 124 = .ok (.iconst 1, 1) := by decide +kernel
theorem dX4_act_125 : decode cX4_act 125 = .ok (.iadd, 1) := by decide +kernel
theorem dX4_act_126 : decode cX4_act 126 = .ok (.putfield 61, 3) := by decide +kernel
theorem dX4_act_129 : decode cX4_act 129 = .ok (.aload_n 0, 1) := by decide +kernel
theorem dX4_act_130 : decode cX4_act 130 = .ok (.getfield 61, 3) := by decide +kernel
theorem dX4_act_133 : decode cX4_act 133 = .ok (.iconst 1, 1) := by decide +kernel
theorem dX4_act_134 : decode cX4_act 134 = .ok (.isub, 1) := by decide +kernel
theorem dX4_act_135 : decode cX4_act 135 = .ok (.ireturn, 1) := by decide +kernel
theorem dX4_set_0 : decode cX4_set 0 = .ok (.aload_n 0, 1) := by decide +kernel
theorem dX4_set_1 : decode cX4_set 1 = .ok (.iload_n 1, 1) := by decide +kernel
theorem dX4_set_2 : decode cX4_set 2 = .ok (.invokevirtual 71, 3) := by decide +kernel
theorem dX4_set_5 : decode cX4_set 5 = .ok (.ifCond .ne 5, 3) := by decide +kernel
theorem dX4_set_8 : decode cX4_set 8 = .ok (.iconst (-1), 1) := by decide +kernel
theorem dX4_set_9 : decode cX4_set 9 = .ok (.ireturn, 1) := by decide +kernel
theorem dX4_set_10 : decode cX4_set 10 = .ok (.iload_n 2, 1) := by decide +kernel
theorem dX4_set_11 : decode cX4_set 11 = .ok (.i2l, 1) := by decide +kernel
theorem dX4_set_12 : decode cX4_set 12 = .ok (.lconst 0, 1) := by decide +kernel
theorem dX4_set_13 : decode cX4_set 13 = .ok (.ldc2_w 59, 3) := by decide +kernel
theorem dX4_set_16 : decode cX4_set 16 = .ok (.invokestatic 55, 3) := by decide +kernel
theorem dX4_set_19 : decode cX4_set 19 = .ok (.ifCond .eq 45, 3) := by decide +kernel
theorem dX4_set_22 : decode cX4_set 22 = .ok (.iload_n 3, 1) := by decide +kernel
theorem dX4_set_23 : decode cX4_set 23 = .ok (.i2l, 1) := by decide +kernel
theorem dX4_set_24 : decode cX4_set 24 = .ok (.iload_n 2, 1) := by decide +kernel
theorem dX4_set_25 : decode cX4_set 25 = .ok (.iconst 2, 1) := by decide +kernel
theorem dX4_set_26 : decode cX4_set 26 = .ok (.if_icmp .ne 9, 3) := by decide +kernel
theorem dX4_set_29 : decode cX4_set 29 = .ok (.ldc2_w 74, 3) := by decide +kernel
theorem dX4_set_32 : decode cX4_set 32 = .ok (.goto 4, 3) := by decide +kernel
theorem dX4_set_35 : decode cX4_set 35 = .ok (.lconst 0, 1) := by decide +kernel
theorem dX4_set_36 : decode cX4_set 36 = .ok (.iload_n 2, 1) := by decide +kernel
theorem dX4_set_37 : decode cX4_set 37 = .ok (.ifCond .ne 9, 3) := by decide +kernel
theorem dX4_set_40 : decode cX4_set 40 = .ok (.ldc2_w 76, 3) := by decide +kernel
theorem dX4_set_43 : decode cX4_set 43 = .ok (.goto 15, 3) := by decide +kernel
theorem dX4_set_46 : decode cX4_set 46 = .ok (.iload_n 2, 1) := by decide +kernel
theorem dX4_set_47 : decode cX4_set 47 = .ok (.iconst 3, 1) := by decide +kernel
theorem dX4_set_48 : decode cX4_set 48 = .ok (.if_icmp .ne 7, 3) := by decide +kernel
theorem dX4_set_51 : decode cX4_set 51 = .ok (.lconst 1, 1) := by decide +kernel
theorem dX4_set_52 : decode cX4_set 52 = .ok (.goto 6, 3) := by decide +kernel
theorem dX4_set_55 : decode cX4_set 55 = .ok (.ldc2_w 53, 3) := by decide +kernel
theorem dX4_set_58 : decode cX4_set 58 = .ok (.invokestatic 55, 3) := by decide +kernel
theorem dX4_set_61 : decode cX4_set 61 = .ok (.ifCond .ne 6, 3) := by decide +kernel
theorem dX4_set_64 : decode cX4_set 64 = .ok (.bipush (-2), 2) := by decide +kernel
theorem dX4_set_66 : decode cX4_set 66 = .ok (.ireturn, 1) := by decide +kernel
theorem dX4_set_67 : decode cX4_set 67 = .ok (.iload_n 2, 1) := by decide +kernel
theorem dX4_set_68 : decode cX4_set 68 = .ok (.ifCond .ne 12, 3) := by decide +kernel
theorem dX4_set_71 : decode cX4_set 71 = .ok (.aload_n 0, 1) := by decide +kernel
theorem dX4_set_72 : decode cX4_set 72 = .ok (.getfield 22, 3) := by decide +kernel
theorem dX4_set_75 : decode cX4_set 75 = .ok (.iload_n 1, 1) := by decide +kernel
theorem dX4_set_76 : decode cX4_set 76 = .ok (.iaload, 1) := by decide +kernel
theorem dX4_set_77 : decode cX4_set 77 = .ok (.goto 39, 3) := by decide +kernel
theorem dX4_set_80 : decode cX4_set 80 = .ok (.iload_n 2, 1) := by decide +kernel
theorem dX4_set_81 : decode cX4_set 81 = .ok (.iconst 1, 1) := by decide +kernel
theorem dX4_set_82 : decode cX4_set 82 = .ok (.if_icmp .ne 12, 3) := by decide +kernel
theorem dX4_set_85 : decode cX4_set 85 = .ok (.aload_n 0, 1) := by decide +kernel
theorem dX4_set_86 : decode cX4_set 86 = .ok (.getfield 25, 3) := by decide +kernel
theorem dX4_set_89 : decode cX4_set 89 = .ok (.iload_n 1, 1) := by decide +kernel
theorem dX4_set_90 : decode cX4_set 90 = .ok (.iaload, 1) := by decide +kernel
theorem dX4_set_91 : decode cX4_set 91 = .ok (.goto 25, 3) := by decide +kernel
theorem dX4_set_94 : decode cX4_set 94 = .ok (.iload_n 2, 1) := by decide +kernel
theorem dX4_set_95 : decode cX4_set 95 = .ok (.iconst 2, 1) := by decide +kernel
theorem dX4_set_96 : decode cX4_set 96 = .ok (.if_icmp .ne 12, 3) := by decide +kernel
theorem dX4_set_99 : decode cX4_set 99 = .ok (.aload_n 0, 1) := by decide +kernel
theorem dX4_set_100 : decode cX4_set 100 = .ok (.getfield 28, 3) := by decide +kernel
theorem dX4_set_103 : decode cX4_set 103 = .ok (.iload_n 1, 1) := by decide +kernel
theorem dX4_set_104 : decode cX4_set 104 = .ok (.iaload, 1) := by decide +kernel
theorem dX4_set_105 : decode cX4_set 105 = .ok (.goto 11, 3) := by decide +kernel
theorem dX4_set_108 : decode cX4_set 108 = .ok (.aload_n 0, 1) := by decide +kernel
theorem dX4_set_109 : decode cX4_set 109 = .ok (.getfield 78, 3) := by decide +kernel
theorem dX4_set_112 : decode cX4_set 112 = .ok (.iload_n 1, 1) := by decide +kernel
theorem dX4_set_113 : decode cX4_set 113 = .ok (.ishr, 1) := by decide +kernel
theorem dX4_set_114 : decode cX4_set 114 = .ok (.iconst 1, 1) := by decide +kernel
theorem dX4_set_115 : decode cX4_set 115 = .ok (.iand, 1) := by decide +kernel
theorem dX4_set_116 : decode cX4_set 116 = .ok (.istore 4, 2) := by decide +kernel
theorem dX4_set_118 : decode cX4_set 118 = .ok (.iload_n 2, 1) := by decide +kernel
theorem dX4_set_119 : decode cX4_set 119 = .ok (.ifCond .ne 13, 3) := by decide +kernel
theorem dX4_set_122 : decode cX4_set 122 = .ok (.aload_n 0, 1) := by decide +kernel
theorem dX4_set_123 : decode cX4_set 123 = .ok (.getfield 22, 3) := by decide +kernel
theorem dX4_set_126 : decode cX4_set 126 = .ok (.iload_n 1, 1) := by decide +kernel
theorem dX4_set_127 : decode cX4_set 127 = .ok (.iload_n 3, 1) := by decide +kernel
theorem dX4_set_128 : decode cX4_set 128 = .ok (.iastore, 1) := by decide +kernel
theorem dX4_set_129 : decode cX4_set 129 = .ok (.goto 72, 3) := by decide +kernel
theorem dX4_set_132 : decode cX4_set 132 = .ok (.iload_n 2, 1) := by decide +kernel
theorem dX4_set_133 : decode cX4_set 133 = .ok (.iconst 1, 1) := by decide +kernel
theorem dX4_set_134 : decode cX4_set 134 = .ok (.if_icmp .ne 13, 3) := by decide +kernel
theorem dX4_set_137 : decode cX4_set 137 = .ok (.aload_n 0, 1) := by decide +kernel
theorem dX4_set_138 : decode cX4_set 138 = .ok (.getfield 25, 3) := by decide +kernel
theorem dX4_set_141 : decode cX4_set 141 = .ok (.iload_n 1, 1) := by decide +kernel
theorem dX4_set_142 : decode cX4_set 142 = .ok (.iload_n 3, 1) := by decide +kernel
theorem dX4_set_143 : decode cX4_set 143 = .ok (.iastore, 1) := by decide +kernel
theorem dX4_set_144 : decode cX4_set 144 = .ok (.goto 57, 3) := by decide +kernel
theorem dX4_set_147 : decode cX4_set 147 = .ok (.iload_n 2, 1) := by decide +kernel
theorem dX4_set_148 : decode cX4_set 148 = .ok (.iconst 2, 1) := by decide +kernel
theorem dX4_set_149 : decode cX4_set 149 = .ok (.if_icmp .ne 22, 3) := by decide +kernel
theorem dX4_set_152 : decode cX4_set 152 = .ok (.aload_n 0, 1) := by decide +kernel
theorem dX4_set_153 : decode cX4_set 153 = .ok (.getfield 28, 3) := by decide +kernel
theorem dX4_set_156 : decode cX4_set 156 = .ok (.iload_n 1, 1) := by decide +kernel
theorem dX4_set_157 : decode cX4_set 157 = .ok (.iload_n 3, 1) := by decide +kernel
theorem dX4_set_158 : decode cX4_set 158 = .ok (.ifCond .ge 8, 3) := by decide +kernel
theorem dX4_set_161 : decode cX4_set 161 = .ok (.bipush (-6), 2) := by decide +kernel
theorem dX4_set_163 : decode cX4_set 163 = .ok (.goto 4, 3) := by decide +kernel
theorem dX4_set_166 : decode cX4_set 166 = .ok (.iload_n 3, 1) := by decide +kernel
theorem dX4_set_167 : decode cX4_set 167 = .ok (.iastore, 1) := by decide +kernel
theorem dX4_set_168 : decode cX4_set 168 = .ok (.goto 33, 3) := by decide +kernel
theorem dX4_set_171 : decode cX4_set 171 = .ok (.aload_n 0, 1) := by decide +kernel
theorem dX4_set_172 : decode cX4_set 172 = .ok (.iload_n 3, 1) := by decide +kernel
theorem dX4_set_173 : decode cX4_set 173 = .ok (.iconst 1, 1) := by decide +kernel
theorem dX4_set_174 : decode cX4_set 174 = .ok (.if_icmp .ne 14, 3) := by decide +kernel
theorem dX4_set_177 : decode cX4_set 177 = .ok (.aload_n 0, 1) := by decide +kernel
theorem dX4_set_178 : decode cX4_set 178 = .ok (.getfield 78, 3) := by decide +kernel
theorem dX4_set_181 : decode cX4_set 181 = .ok (.iconst 1, 1) := by decide +kernel
theorem dX4_set_182 : decode cX4_set 182 = .ok (.iload_n 1, 1) := by decide +kernel
theorem dX4_set_183 : decode cX4_set 183 = .ok (.ishl, 1) := by decide +kernel
theorem dX4_set_184 : decode cX4_set 184 = .ok (.ior, 1) := by decide +kernel
theorem dX4_set_185 : decode cX4_set 185 = .ok (.goto 13, 3) := by decide +kernel
theorem dX4_set_188 : decode cX4_set 188 = .ok (.aload_n 0, 1) := by decide +kernel
theorem dX4_set_189 : decode cX4_set 189 = .ok (.getfield 78, 3) := by decide +kernel
theorem dX4_set_192 : decode cX4_set 192 = .ok (.iconst 1, 1) := by decide +kernel
theorem dX4_set_193 : decode cX4_set 193 = .ok (.iload_n 1, 1) := by decide +kernel
theorem dX4_set_194 : decode cX4_set 194 = .ok (.ishl, 1) := by decide +kernel
theorem dX4_set_195 : decode cX4_set 195 = .ok (.iconst (-1), 1) := by decide +kernel
theorem dX4_set_196 : decode cX4_set 196 = .ok (.ixor, 1) := by decide +kernel
theorem dX4_set_197 : decode cX4_set 197 = .ok (.iand, 1) := by decide +kernel
theorem dX4_set_198 : decode cX4_set 198 = .ok (.putfield 78, 3) := by decide +kernel
theorem dX4_set_201 : decode cX4_set 201 = .ok (.iload 4, 2) := by decide +kernel
theorem dX4_set_203 : decode cX4_set 203 = .ok (.ireturn, 1) := by decide +kernel
theorem dX4_law_0 : decode cX4_law 0 = .ok (.iload_n 1, 1) := by decide +kernel
theorem dX4_law_1 : decode cX4_law 1 = .ok (.i2l, 1) := by decide +kernel
theorem dX4_law_2 : decode cX4_law 2 = .ok (.lconst 0, 1) := by decide +kernel
theorem dX4_law_3 : decode cX4_law 3 = .ok (.lconst 1, 1) := by decide +kernel
theorem dX4_law_4 : decode cX4_law 4 = .ok (.invokestatic 55, 3) := by decide +kernel
theorem dX4_law_7 : decode cX4_law 7 = .ok (.ifCond .eq 23, 3) := by decide +kernel
theorem dX4_law_10 : decode cX4_law 10 = .ok (.iload_n 2, 1) := by decide +kernel
theorem dX4_law_11 : decode cX4_law 11 = .ok (.i2l, 1) := by decide +kernel
theorem dX4_law_12 : decode cX4_law 12 = .ok (.lconst 0, 1) := by decide +kernel
theorem dX4_law_13 : decode cX4_law 13 = .ok (.iload_n 1, 1) := by decide +kernel
theorem dX4_law_14 : decode cX4_law 14 = .ok (.ifCond .ne 7, 3) := by decide +kernel
theorem dX4_law_17 : decode cX4_law 17 = .ok (.lconst 1, 1) := by decide +kernel
theorem dX4_law_18 : decode cX4_law 18 = .ok (.goto 6, 3) := by decide +kernel
theorem dX4_law_21 : decode cX4_law 21 = .ok (.ldc2_w 81, 3) := by decide +kernel
theorem dX4_law_24 : decode cX4_law 24 = .ok (.invokestatic 55, 3) := by decide +kernel
theorem dX4_law_27 : decode cX4_law 27 = .ok (.ifCond .ne 6, 3) := by decide +kernel
theorem dX4_law_30 : decode cX4_law 30 = .ok (.bipush (-2), 2) := by decide +kernel
theorem dX4_law_32 : decode cX4_law 32 = .ok (.ireturn, 1) := by decide +kernel
theorem dX4_law_33 : decode cX4_law 33 = .ok (.iload_n 1, 1) := by decide +kernel
theorem dX4_law_34 : decode cX4_law 34 = .ok (.ifCond .ne 10, 3) := by decide +kernel
theorem dX4_law_37 : decode cX4_law 37 = .ok (.aload_n 0, 1) := by decide +kernel
theorem dX4_law_38 : decode cX4_law 38 = .ok (.getfield 83, 3) := by decide +kernel
theorem dX4_law_41 : decode cX4_law 41 = .ok (.goto 7, 3) := by decide +kernel
theorem dX4_law_44 : decode cX4_law 44 = .ok (.aload_n 0, 1) := by decide +kernel
theorem dX4_law_45 : decode cX4_law 45 = .ok (.getfield 49, 3) := by decide +kernel
theorem dX4_law_48 : decode cX4_law 48 = .ok (.istore_n 3, 1) := by decide +kernel
theorem dX4_law_49 : decode cX4_law 49 = .ok (.iload_n 1, 1) := by decide +kernel
theorem dX4_law_50 : decode cX4_law 50 = .ok (.ifCond .ne 11, 3) := by decide +kernel
theorem dX4_law_53 : decode cX4_law 53 = .ok (.aload_n 0, 1) := by decide +kernel
theorem dX4_law_54 : decode cX4_law 54 = .ok (.iload_n 2, 1) := by decide +kernel
theorem dX4_law_55 : decode cX4_law 55 = .ok (.putfield 83, 3) := by decide +kernel
theorem dX4_law_58 : decode cX4_law 58 = .ok (.goto 8, 3) := by decide +kernel
theorem dX4_law_61 : decode cX4_law 61 = .ok (.aload_n 0, 1) := by decide +kernel
theorem dX4_law_62 : decode cX4_law 62 = .ok (.iload_n 2, 1) := by decide +kernel
theorem dX4_law_63 : decode cX4_law 63 = .ok (.putfield 49, 3) := by decide +kernel
theorem dX4_law_66 : decode cX4_law 66 = .ok (.iload_n 3, 1) := by decide +kernel
theorem dX4_law_67 : decode cX4_law 67 = .ok (.ireturn, 1) := by decide +kernel
theorem dX4_say_0 : decode cX4_say 0 = .ok (.iload_n 1, 1) := by decide +kernel
theorem dX4_say_1 : decode cX4_say 1 = .ok (.i2l, 1) := by decide +kernel
theorem dX4_say_2 : decode cX4_say 2 = .ok (.ldc2_w 86, 3) := by decide +kernel
theorem dX4_say_5 : decode cX4_say 5 = .ok (.ldc2_w 88, 3) := by decide +kernel
theorem dX4_say_8 : decode cX4_say 8 = .ok (.invokestatic 55, 3) := by decide +kernel
theorem dX4_say_11 : decode cX4_say 11 = .ok (.ifCond .ne 6, 3) := by decide +kernel
theorem dX4_say_14 : decode cX4_say 14 = .ok (.bipush (-2), 2) := by decide +kernel
theorem dX4_say_16 : decode cX4_say 16 = .ok (.ireturn, 1) := by decide +kernel
theorem dX4_say_17 : decode cX4_say 17 = .ok (.aload_n 0, 1) := by decide +kernel
theorem dX4_say_18 : decode cX4_say 18 = .ok (.getfield 90, 3) := by decide +kernel
theorem dX4_say_21 : decode cX4_say 21 = .ok (.bipush 40, 2) := by decide +kernel
theorem dX4_say_23 : decode cX4_say 23 = .ok (.if_icmp .ne 6, 3) := by decide +kernel
theorem dX4_say_26 : decode cX4_say 26 = .ok (.bipush (-4), 2) := by decide +kernel
theorem dX4_say_28 : decode cX4_say 28 = .ok (.ireturn, 1) := by decide +kernel
theorem dX4_say_29 : decode cX4_say 29 = .ok (.aload_n 0, 1) := by decide +kernel
theorem dX4_say_30 : decode cX4_say 30 = .ok (.getfield 37, 3) := by decide +kernel
theorem dX4_say_33 : decode cX4_say 33 = .ok (.aload_n 0, 1) := by decide +kernel
theorem dX4_say_34 : decode cX4_say 34 = .ok (.getfield 90, 3) := by decide +kernel
theorem dX4_say_37 : decode cX4_say 37 = .ok (.iload_n 1, 1) := by decide +kernel
theorem dX4_say_38 : decode cX4_say 38 = .ok (.iastore, 1) := by decide +kernel
theorem dX4_say_39 : decode cX4_say 39 = .ok (.aload_n 0, 1) := by decide +kernel
theorem dX4_say_40 : decode cX4_say 40 = .ok (.dup, 1) := by decide +kernel
theorem dX4_say_41 : decode cX4_say 41 = .ok (.getfield 90, 3) := by decide +kernel
theorem dX4_say_44 : decode cX4_say 44 = .ok (.iconst 1, 1) := by decide +kernel
theorem dX4_say_45 : decode cX4_say 45 = .ok (.iadd, 1) := by decide +kernel
theorem dX4_say_46 : decode cX4_say 46 = .ok (.putfield 90, 3) := by decide +kernel
theorem dX4_say_49 : decode cX4_say 49 = .ok (.aload_n 0, 1) := by decide +kernel
theorem dX4_say_50 : decode cX4_say 50 = .ok (.getfield 90, 3) := by decide +kernel
theorem dX4_say_53 : decode cX4_say 53 = .ok (.ireturn, 1) := by decide +kernel
theorem dX4_wipe_0 : decode cX4_wipe 0 = .ok (.aload_n 0, 1) := by decide +kernel
theorem dX4_wipe_1 : decode cX4_wipe 1 = .ok (.getfield 90, 3) := by decide +kernel
theorem dX4_wipe_4 : decode cX4_wipe 4 = .ok (.istore_n 1, 1) := by decide +kernel
theorem dX4_wipe_5 : decode cX4_wipe 5 = .ok (.aload_n 0, 1) := by decide +kernel
theorem dX4_wipe_6 : decode cX4_wipe 6 = .ok (.iconst 0, 1) := by decide +kernel
theorem dX4_wipe_7 : decode cX4_wipe 7 = .ok (.putfield 90, 3) := by decide +kernel
theorem dX4_wipe_10 : decode cX4_wipe 10 = .ok (.iload_n 1, 1) := by decide +kernel
theorem dX4_wipe_11 : decode cX4_wipe 11 = .ok (.ireturn, 1) := by decide +kernel
theorem dX4_fault_0 : decode cX4_fault 0 = .ok (.iconst 0, 1) := by decide +kernel
theorem dX4_fault_1 : decode cX4_fault 1 = .ok (.istore_n 1, 1) := by decide +kernel
theorem dX4_fault_2 : decode cX4_fault 2 = .ok (.iload_n 1, 1) := by decide +kernel
theorem dX4_fault_3 : decode cX4_fault 3 = .ok (.aload_n 0, 1) := by decide +kernel
theorem dX4_fault_4 : decode cX4_fault 4 = .ok (.getfield 90, 3) := by decide +kernel
theorem dX4_fault_7 : decode cX4_fault 7 = .ok (.if_icmp .ge 60, 3) := by decide +kernel
theorem dX4_fault_10 : decode cX4_fault 10 = .ok (.aload_n 0, 1) := by decide +kernel
theorem dX4_fault_11 : decode cX4_fault 11 = .ok (.getfield 37, 3) := by decide +kernel
theorem dX4_fault_14 : decode cX4_fault 14 = .ok (.iload_n 1, 1) := by decide +kernel
theorem dX4_fault_15 : decode cX4_fault 15 = .ok (.iaload, 1) := by decide +kernel
theorem dX4_fault_16 : decode cX4_fault 16 = .ok (.istore_n 2, 1) := by decide +kernel
theorem dX4_fault_17 : decode cX4_fault 17 = .ok (.iload_n 1, 1) := by decide +kernel
theorem dX4_fault_18 : decode cX4_fault 18 = .ok (.iconst 2, 1) := by decide +kernel
theorem dX4_fault_19 : decode cX4_fault 19 = .ok (.irem, 1) := by decide +kernel
theorem dX4_fault_20 : decode cX4_fault 20 = .ok (.ifCond .ne 17, 3) := by decide +kernel
theorem dX4_fault_23 : decode cX4_fault 23 = .ok (.iload_n 2, 1) := by decide +kernel
theorem dX4_fault_24 : decode cX4_fault 24 = .ok (.i2l, 1) := by decide +kernel
theorem dX4_fault_25 : decode cX4_fault 25 = .ok (.ldc2_w 93, 3) := by decide +kernel
theorem dX4_fault_28 : decode cX4_fault 28 = .ok (.ldc2_w 95, 3) := by decide +kernel
theorem dX4_fault_31 : decode cX4_fault 31 = .ok (.invokestatic 55, 3) := by decide +kernel
theorem dX4_fault_34 : decode cX4_fault 34 = .ok (.goto 20, 3) := by decide +kernel
theorem dX4_fault_37 : decode cX4_fault 37 = .ok (.iload_n 2, 1) := by decide +kernel
theorem dX4_fault_38 : decode cX4_fault 38 = .ok (.bipush 43, 2) := by decide +kernel
theorem dX4_fault_40 : decode cX4_fault 40 = .ok (.if_icmp .eq 9, 3) := by decide +kernel
theorem dX4_fault_43 : decode cX4_fault 43 = .ok (.iload_n 2, 1) := by decide +kernel
theorem dX4_fault_44 : decode cX4_fault 44 = .ok (.bipush 124, 2) := by decide +kernel
theorem dX4_fault_46 : decode cX4_fault 46 = .ok (.if_icmp .ne 7, 3) := by decide +kernel
theorem dX4_fault_49 : decode cX4_fault 49 = .ok (.iconst 1, 1) := by decide +kernel
theorem dX4_fault_50 : decode cX4_fault 50 = .ok (.goto 4, 3) := by decide +kernel
theorem dX4_fault_53 : decode cX4_fault 53 = .ok (.iconst 0, 1) := by decide +kernel
theorem dX4_fault_54 : decode cX4_fault 54 = .ok (.istore_n 3, 1) := by decide +kernel
theorem dX4_fault_55 : decode cX4_fault 55 = .ok (.iload_n 3, 1) := by decide +kernel
theorem dX4_fault_56 : decode cX4_fault 56 = .ok (.ifCond .ne 5, 3) := by decide +kernel
theorem dX4_fault_59 : decode cX4_fault 59 = .ok (.iload_n 1, 1) := by decide +kernel
theorem dX4_fault_60 : decode cX4_fault 60 = .ok (.ireturn, 1) := by decide +kernel
theorem dX4_fault_61 : decode cX4_fault 61 = .ok (.iinc 1 1, 3) := by decide +kernel
theorem dX4_fault_64 : decode cX4_fault 64 = .ok (.goto (-62), 3) := by decide +kernel
theorem dX4_fault_67 : decode cX4_fault 67 = .ok (.aload_n 0, 1) := by decide +kernel
theorem dX4_fault_68 : decode cX4_fault 68 = .ok (.getfield 90, 3) := by decide +kernel
theorem dX4_fault_71 : decode cX4_fault 71 = .ok (.iconst 2, 1) := by decide +kernel
theorem dX4_fault_72 : decode cX4_fault 72 = .ok (.irem, 1) := by decide +kernel
theorem dX4_fault_73 : decode cX4_fault 73 = .ok (.iconst 1, 1) := by decide +kernel
theorem dX4_fault_74 : decode cX4_fault 74 = .ok (.if_icmp .ne 8, 3) := by decide +kernel
theorem dX4_fault_77 : decode cX4_fault 77 = .ok (.bipush (-6), 2) := by decide +kernel
theorem dX4_fault_79 : decode cX4_fault 79 = .ok (.goto 7, 3) := by decide +kernel
theorem dX4_fault_82 : decode cX4_fault 82 = .ok (.aload_n 0, 1) := by decide +kernel
theorem dX4_fault_83 : decode cX4_fault 83 = .ok (.getfield 90, 3) := by decide +kernel
theorem dX4_fault_86 : decode cX4_fault 86 = .ok (.ireturn, 1) := by decide +kernel
theorem dX4_leans_0 : decode cX4_leans 0 = .ok (.aload_n 0, 1) := by decide +kernel
theorem dX4_leans_1 : decode cX4_leans 1 = .ok (.iload_n 1, 1) := by decide +kernel
theorem dX4_leans_2 : decode cX4_leans 2 = .ok (.invokevirtual 71, 3) := by decide +kernel
theorem dX4_leans_5 : decode cX4_leans 5 = .ok (.ifCond .ne 5, 3) := by decide +kernel
theorem dX4_leans_8 : decode cX4_leans 8 = .ok (.iconst (-1), 1) := by decide +kernel
theorem dX4_leans_9 : decode cX4_leans 9 = .ok (.ireturn, 1) := by decide +kernel
theorem dX4_leans_10 : decode cX4_leans 10 = .ok (.aload_n 0, 1) := by decide +kernel
theorem dX4_leans_11 : decode cX4_leans 11 = .ok (.invokevirtual 97, 3) := by decide +kernel
theorem dX4_leans_14 : decode cX4_leans 14 = .ok (.ifCond .lt 6, 3) := by decide +kernel
theorem dX4_leans_17 : decode cX4_leans 17 = .ok (.bipush (-5), 2) := by decide +kernel
theorem dX4_leans_19 : decode cX4_leans 19 = .ok (.ireturn, 1) := by decide +kernel
theorem dX4_leans_20 : decode cX4_leans 20 = .ok (.aload_n 0, 1) := by decide +kernel
theorem dX4_leans_21 : decode cX4_leans 21 = .ok (.getfield 34, 3) := by decide +kernel
theorem dX4_leans_24 : decode cX4_leans 24 = .ok (.iload_n 1, 1) := by decide +kernel
theorem dX4_leans_25 : decode cX4_leans 25 = .ok (.iconst 0, 1) := by decide +kernel
theorem dX4_leans_26 : decode cX4_leans 26 = .ok (.iastore, 1) := by decide +kernel
theorem dX4_leans_27 : decode cX4_leans 27 = .ok (.iconst 0, 1) := by decide +kernel
theorem dX4_leans_28 : decode cX4_leans 28 = .ok (.istore_n 2, 1) := by decide +kernel
theorem dX4_leans_29 : decode cX4_leans 29 = .ok (.iconst 0, 1) := by decide +kernel
theorem dX4_leans_30 : decode cX4_leans 30 = .ok (.istore_n 3, 1) := by decide +kernel
theorem dX4_leans_31 : decode cX4_leans 31 = .ok (.iload_n 3, 1) := by decide +kernel
theorem dX4_leans_32 : decode cX4_leans 32 = .ok (.aload_n 0, 1) := by decide +kernel
theorem dX4_leans_33 : decode cX4_leans 33 = .ok (.getfield 90, 3) := by decide +kernel
theorem dX4_leans_36 : decode cX4_leans 36 = .ok (.if_icmp .ge 92, 3) := by decide +kernel
theorem dX4_leans_39 : decode cX4_leans 39 = .ok (.aload_n 0, 1) := by decide +kernel
theorem dX4_leans_40 : decode cX4_leans 40 = .ok (.getfield 37, 3) := by decide +kernel
theorem dX4_leans_43 : decode cX4_leans 43 = .ok (.iload_n 3, 1) := by decide +kernel
theorem dX4_leans_44 : decode cX4_leans 44 = .ok (.iaload, 1) := by decide +kernel
theorem dX4_leans_45 : decode cX4_leans 45 = .ok (.istore 4, 2) := by decide +kernel
theorem dX4_leans_47 : decode cX4_leans 47 = .ok (.iload_n 2, 1) := by decide +kernel
theorem dX4_leans_48 : decode cX4_leans 48 = .ok (.iload 4, 2) := by decide +kernel
theorem dX4_leans_50 : decode cX4_leans 50 = .ok (.i2l, 1) := by decide +kernel
theorem dX4_leans_51 : decode cX4_leans 51 = .ok (.ldc2_w 93, 3) := by decide +kernel
theorem dX4_leans_54 : decode cX4_leans 54 = .ok (.ldc2_w 95, 3) := by decide +kernel
theorem dX4_leans_57 : decode cX4_leans 57 = .ok (.invokestatic 55, 3) := by decide +kernel
theorem dX4_leans_60 : decode cX4_leans 60 = .ok (.ifCond .eq 13, 3) := by decide +kernel
theorem dX4_leans_63 : decode cX4_leans 63 = .ok (.iconst 1, 1) := by decide +kernel
theorem dX4_leans_64 : decode cX4_leans 64 = .ok (.iload 4, 2) := by decide +kernel
theorem dX4_leans_66 : decode cX4_leans 66 = .ok (.bipush 97, 2) := by decide +kernel
theorem dX4_leans_68 : decode cX4_leans 68 = .ok (.isub, 1) := by decide +kernel
theorem dX4_leans_69 : decode cX4_leans 69 = .ok (.ishl, 1) := by decide +kernel
theorem dX4_leans_70 : decode cX4_leans 70 = .ok (.goto 4, 3) := by decide +kernel
theorem dX4_leans_73 : decode cX4_leans 73 = .ok (.iconst 0, 1) := by decide +kernel
theorem dX4_leans_74 : decode cX4_leans 74 = .ok (.ior, 1) := by decide +kernel
theorem dX4_leans_75 : decode cX4_leans 75 = .ok (.istore_n 2, 1) := by decide +kernel
theorem dX4_leans_76 : decode cX4_leans 76 = .ok (.iload 4, 2) := by decide +kernel
theorem dX4_leans_78 : decode cX4_leans 78 = .ok (.bipush 124, 2) := by decide +kernel
theorem dX4_leans_80 : decode cX4_leans 80 = .ok (.if_icmp .eq 13, 3) := by decide +kernel
theorem dX4_leans_83 : decode cX4_leans 83 = .ok (.iload_n 3, 1) := by decide +kernel
theorem dX4_leans_84 : decode cX4_leans 84 = .ok (.aload_n 0, 1) := by decide +kernel
theorem dX4_leans_85 : decode cX4_leans 85 = .ok (.getfield 90, 3) := by decide +kernel
theorem dX4_leans_88 : decode cX4_leans 88 = .ok (.iconst 1, 1) := by decide +kernel
theorem dX4_leans_89 : decode cX4_leans 89 = .ok (.isub, 1) := by decide +kernel
theorem dX4_leans_90 : decode cX4_leans 90 = .ok (.if_icmp .ne 32, 3) := by decide +kernel
theorem dX4_leans_93 : decode cX4_leans 93 = .ok (.aload_n 0, 1) := by decide +kernel
theorem dX4_leans_94 : decode cX4_leans 94 = .ok (.getfield 31, 3) := by decide +kernel
theorem dX4_leans_97 : decode cX4_leans 97 = .ok (.bipush 20, 2) := by decide +kernel
theorem dX4_leans_99 : decode cX4_leans 99 = .ok (.iload_n 1, 1) := by decide +kernel
theorem dX4_leans_100 : decode cX4_leans 100 = .ok (.imul, 1) := by decide +kernel
theorem dX4_leans_101 : decode cX4_leans 101 = .ok (.aload_n 0, 1) := by decide +kernel
theorem dX4_leans_102 : decode cX4_leans 102 = .ok (.getfield 34, 3) := by decide +kernel
theorem dX4_leans_105 : decode cX4_leans 105 = .ok (.iload_n 1, 1) := by decide +kernel
theorem dX4_leans_106 : decode cX4_leans 106 = .ok (.iaload, 1) := by decide +kernel
theorem dX4_leans_107 : decode cX4_leans 107 = .ok (.iadd, 1) := by decide +kernel
theorem dX4_leans_108 : decode cX4_leans 108 = .ok (.iload_n 2, 1) := by decide +kernel
theorem dX4_leans_109 : decode cX4_leans 109 = .ok (.iastore, 1) := by decide +kernel
theorem dX4_leans_110 : decode cX4_leans 110 = .ok (.aload_n 0, 1) := by decide +kernel
theorem dX4_leans_111 : decode cX4_leans 111 = .ok (.getfield 34, 3) := by decide +kernel
theorem dX4_leans_114 : decode cX4_leans 114 = .ok (.iload_n 1, 1) := by decide +kernel
theorem dX4_leans_115 : decode cX4_leans 115 = .ok (.dup2, 1) := by decide +kernel
theorem dX4_leans_116 : decode cX4_leans 116 = .ok (.iaload, 1) := by decide +kernel
theorem dX4_leans_117 : decode cX4_leans 117 = .ok (.iconst 1, 1) := by decide +kernel
theorem dX4_leans_118 : decode cX4_leans 118 = .ok (.iadd, 1) := by decide +kernel
theorem dX4_leans_119 : decode cX4_leans 119 = .ok (.iastore, 1) := by decide +kernel
theorem dX4_leans_120 : decode cX4_leans 120 = .ok (.iconst 0, 1) := by decide +kernel
theorem dX4_leans_121 : decode cX4_leans 121 = .ok (.istore_n 2, 1) := by decide +kernel
theorem dX4_leans_122 : decode cX4_leans 122 = .ok (.iinc 3 1, 3) := by decide +kernel
theorem dX4_leans_125 : decode cX4_leans 125 = .ok (.goto (-94), 3) := by decide +kernel
theorem dX4_leans_128 : decode cX4_leans 128 = .ok (.aload_n 0, 1) := by decide +kernel
theorem dX4_leans_129 : decode cX4_leans 129 = .ok (.iconst 0, 1) := by decide +kernel
theorem dX4_leans_130 : decode cX4_leans 130 = .ok (.putfield 90, 3) := by decide +kernel
theorem dX4_leans_133 : decode cX4_leans 133 = .ok (.aload_n 0, 1) := by decide +kernel
theorem dX4_leans_134 : decode cX4_leans 134 = .ok (.getfield 34, 3) := by decide +kernel
theorem dX4_leans_137 : decode cX4_leans 137 = .ok (.iload_n 1, 1) := by decide +kernel
theorem dX4_leans_138 : decode cX4_leans 138 = .ok (.iaload, 1) := by decide +kernel
theorem dX4_leans_139 : decode cX4_leans 139 = .ok (.ireturn, 1) := by decide +kernel
theorem dX4_free_0 : decode cX4_free 0 = .ok (.aload_n 0, 1) := by decide +kernel
theorem dX4_free_1 : decode cX4_free 1 = .ok (.iload_n 1, 1) := by decide +kernel
theorem dX4_free_2 : decode cX4_free 2 = .ok (.invokevirtual 71, 3) := by decide +kernel
theorem dX4_free_5 : decode cX4_free 5 = .ok (.ifCond .ne 5, 3) := by decide +kernel
theorem dX4_free_8 : decode cX4_free 8 = .ok (.iconst (-1), 1) := by decide +kernel
theorem dX4_free_9 : decode cX4_free 9 = .ok (.ireturn, 1) := by decide +kernel
theorem dX4_free_10 : decode cX4_free 10 = .ok (.aload_n 0, 1) := by decide +kernel
theorem dX4_free_11 : decode cX4_free 11 = .ok (.getfield 34, 3) := by decide +kernel
theorem dX4_free_14 : decode cX4_free 14 = .ok (.iload_n 1, 1) := by decide +kernel
theorem dX4_free_15 : decode cX4_free 15 = .ok (.iaload, 1) := by decide +kernel
theorem dX4_free_16 : decode cX4_free 16 = .ok (.istore_n 2, 1) := by decide +kernel
theorem dX4_free_17 : decode cX4_free 17 = .ok (.aload_n 0, 1) := by decide +kernel
theorem dX4_free_18 : decode cX4_free 18 = .ok (.getfield 34, 3) := by decide +kernel
theorem dX4_free_21 : decode cX4_free 21 = .ok (.iload_n 1, 1) := by decide +kernel
theorem dX4_free_22 : decode cX4_free 22 = .ok (.iconst 0, 1) := by decide +kernel
theorem dX4_free_23 : decode cX4_free 23 = .ok (.iastore, 1) := by decide +kernel
theorem dX4_free_24 : decode cX4_free 24 = .ok (.iload_n 2, 1) := by decide +kernel
theorem dX4_free_25 : decode cX4_free 25 = .ok (.ireturn, 1) := by decide +kernel
theorem dX4_isHeld_0 : decode cX4_isHeld 0 = .ok (.aload_n 0, 1) := by decide +kernel
theorem dX4_isHeld_1 : decode cX4_isHeld 1 = .ok (.getfield 34, 3) := by decide +kernel
theorem dX4_isHeld_4 : decode cX4_isHeld 4 = .ok (.iload_n 1, 1) := by decide +kernel
theorem dX4_isHeld_5 : decode cX4_isHeld 5 = .ok (.iaload, 1) := by decide +kernel
theorem dX4_isHeld_6 : decode cX4_isHeld 6 = .ok (.ifCond .eq 23, 3) := by decide +kernel
theorem dX4_isHeld_9 : decode cX4_isHeld 9 = .ok (.aload_n 0, 1) := by decide +kernel
theorem dX4_isHeld_10 : decode cX4_isHeld 10 = .ok (.getfield 83, 3) := by decide +kernel
theorem dX4_isHeld_13 : decode cX4_isHeld 13 = .ok (.iconst 1, 1) := by decide +kernel
theorem dX4_isHeld_14 : decode cX4_isHeld 14 = .ok (.if_icmp .ne 19, 3) := by decide +kernel
theorem dX4_isHeld_17 : decode cX4_isHeld 17 = .ok (.aload_n 0, 1) := by decide +kernel
theorem dX4_isHeld_18 : decode cX4_isHeld 18 = .ok (.getfield 78, 3) := by decide +kernel
theorem dX4_isHeld_21 : decode cX4_isHeld 21 = .ok (.iload_n 1, 1) := by decide +kernel
theorem dX4_isHeld_22 : decode cX4_isHeld 22 = .ok (.ishr, 1) := by decide +kernel
theorem dX4_isHeld_23 : decode cX4_isHeld 23 = .ok (.iconst 1, 1) := by decide +kernel
theorem dX4_isHeld_24 : decode cX4_isHeld 24 = .ok (.iand, 1) := by decide +kernel
theorem dX4_isHeld_25 : decode cX4_isHeld 25 = .ok (.iconst 1, 1) := by decide +kernel
theorem dX4_isHeld_26 : decode cX4_isHeld 26 = .ok (.if_icmp .ne 7, 3) := by decide +kernel
theorem dX4_isHeld_29 : decode cX4_isHeld 29 = .ok (.iconst 1, 1) := by decide +kernel
theorem dX4_isHeld_30 : decode cX4_isHeld 30 = .ok (.goto 4, 3) := by decide +kernel
theorem dX4_isHeld_33 : decode cX4_isHeld 33 = .ok (.iconst 0, 1) := by decide +kernel
theorem dX4_isHeld_34 : decode cX4_isHeld 34 = .ok (.istore_n 3, 1) := by decide +kernel
theorem dX4_isHeld_35 : decode cX4_isHeld 35 = .ok (.iconst 0, 1) := by decide +kernel
theorem dX4_isHeld_36 : decode cX4_isHeld 36 = .ok (.istore 4, 2) := by decide +kernel
theorem dX4_isHeld_38 : decode cX4_isHeld 38 = .ok (.iload 4, 2) := by decide +kernel
theorem dX4_isHeld_40 : decode cX4_isHeld 40 = .ok (.aload_n 0, 1) := by decide +kernel
theorem dX4_isHeld_41 : decode cX4_isHeld 41 = .ok (.getfield 34, 3) := by decide +kernel
theorem dX4_isHeld_44 : decode cX4_isHeld 44 = .ok (.iload_n 1, 1) := by decide +kernel
theorem dX4_isHeld_45 : decode cX4_isHeld 45 = .ok (.iaload, 1) := by decide +kernel
theorem dX4_isHeld_46 : decode cX4_isHeld 46 = .ok (.if_icmp .ge 38, 3) := by decide +kernel
theorem dX4_isHeld_49 : decode cX4_isHeld 49 = .ok (.iload_n 3, 1) := by decide +kernel
theorem dX4_isHeld_50 : decode cX4_isHeld 50 = .ok (.ifCond .ne 22, 3) := by decide +kernel
theorem dX4_isHeld_53 : decode cX4_isHeld 53 = .ok (.aload_n 0, 1) := by decide +kernel
theorem dX4_isHeld_54 : decode cX4_isHeld 54 = .ok (.getfield 31, 3) := by decide +kernel
theorem dX4_isHeld_57 : decode cX4_isHeld 57 = .ok (.bipush 20, 2) := by decide +kernel
theorem dX4_isHeld_59 : decode cX4_isHeld 59 = .ok (.iload_n 1, 1) := by decide +kernel
theorem dX4_isHeld_60 : decode cX4_isHeld 60 = .ok (.imul, 1) := by decide +kernel
theorem dX4_isHeld_61 : decode cX4_isHeld 61 = .ok (.iload 4, 2) := by decide +kernel
theorem dX4_isHeld_63 : decode cX4_isHeld 63 = .ok (.iadd, 1) := by decide +kernel
theorem dX4_isHeld_64 : decode cX4_isHeld 64 = .ok (.iaload, 1) := by decide +kernel
theorem dX4_isHeld_65 : decode cX4_isHeld 65 = .ok (.iload_n 2, 1) := by decide +kernel
theorem dX4_isHeld_66 : decode cX4_isHeld 66 = .ok (.iconst (-1), 1) := by decide +kernel
theorem dX4_isHeld_67 : decode cX4_isHeld 67 = .ok (.ixor, 1) := by decide +kernel
theorem dX4_isHeld_68 : decode cX4_isHeld 68 = .ok (.iand, 1) := by decide +kernel
theorem dX4_isHeld_69 : decode cX4_isHeld 69 = .ok (.ifCond .ne 7, 3) := by decide +kernel
theorem dX4_isHeld_72 : decode cX4_isHeld 72 = .ok (.iconst 1, 1) := by decide +kernel
theorem dX4_isHeld_73 : decode cX4_isHeld 73 = .ok (.goto 4, 3) := by decide +kernel
theorem dX4_isHeld_76 : decode cX4_isHeld 76 = .ok (.iconst 0, 1) := by decide +kernel
theorem dX4_isHeld_77 : decode cX4_isHeld 77 = .ok (.istore_n 3, 1) := by decide +kernel
theorem dX4_isHeld_78 : decode cX4_isHeld 78 = .ok (.iinc 4 1, 3) := by decide +kernel
theorem dX4_isHeld_81 : decode cX4_isHeld 81 = .ok (.goto (-43), 3) := by decide +kernel
theorem dX4_isHeld_84 : decode cX4_isHeld 84 = .ok (.iload_n 3, 1) := by decide +kernel
theorem dX4_isHeld_85 : decode cX4_isHeld 85 = .ok (.ireturn, 1) := by decide +kernel
theorem dX4_ask_0 : decode cX4_ask 0 = .ok (.aload_n 0, 1) := by decide +kernel
theorem dX4_ask_1 : decode cX4_ask 1 = .ok (.iload_n 1, 1) := by decide +kernel
theorem dX4_ask_2 : decode cX4_ask 2 = .ok (.invokevirtual 71, 3) := by decide +kernel
theorem dX4_ask_5 : decode cX4_ask 5 = .ok (.ifCond .eq 10, 3) := by decide +kernel
theorem dX4_ask_8 : decode cX4_ask 8 = .ok (.iload_n 2, 1) := by decide +kernel
theorem dX4_ask_9 : decode cX4_ask 9 = .ok (.invokestatic 64, 3) := by decide +kernel
theorem dX4_ask_12 : decode cX4_ask 12 = .ok (.ifCond .ne 5, 3) := by decide +kernel
theorem dX4_ask_15 : decode cX4_ask 15 = .ok (.iconst (-1), 1) := by decide +kernel
theorem dX4_ask_16 : decode cX4_ask 16 = .ok (.ireturn, 1) := by decide +kernel
theorem dX4_ask_17 : decode cX4_ask 17 = .ok (.iload_n 3, 1) := by decide +kernel
theorem dX4_ask_18 : decode cX4_ask 18 = .ok (.invokestatic 68, 3) := by decide +kernel
theorem dX4_ask_21 : decode cX4_ask 21 = .ok (.ifCond .ne 6, 3) := by decide +kernel
theorem dX4_ask_24 : decode cX4_ask 24 = .ok (.bipush (-2), 2) := by decide +kernel
theorem dX4_ask_26 : decode cX4_ask 26 = .ok (.ireturn, 1) := by decide +kernel
theorem dX4_ask_27 : decode cX4_ask 27 = .ok (.aload_n 0, 1) := by decide +kernel
theorem dX4_ask_28 : decode cX4_ask 28 = .ok (.getfield 101, 3) := by decide +kernel
theorem dX4_ask_31 : decode cX4_ask 31 = .ok (.bipush 12, 2) := by decide +kernel
theorem dX4_ask_33 : decode cX4_ask 33 = .ok (.if_icmp .ne 6, 3) := by decide +kernel
theorem dX4_ask_36 : decode cX4_ask 36 = .ok (.bipush (-4), 2) := by decide +kernel
theorem dX4_ask_38 : decode cX4_ask 38 = .ok (.ireturn, 1) := by decide +kernel
theorem dX4_ask_39 : decode cX4_ask 39 = .ok (.aload_n 0, 1) := by decide +kernel
theorem dX4_ask_40 : decode cX4_ask 40 = .ok (.getfield 40, 3) := by decide +kernel
theorem dX4_ask_43 : decode cX4_ask 43 = .ok (.aload_n 0, 1) := by decide +kernel
theorem dX4_ask_44 : decode cX4_ask 44 = .ok (.getfield 101, 3) := by decide +kernel
theorem dX4_ask_47 : decode cX4_ask 47 = .ok (.iload_n 1, 1) := by decide +kernel
theorem dX4_ask_48 : decode cX4_ask 48 = .ok (.iastore, 1) := by decide +kernel
theorem dX4_ask_49 : decode cX4_ask 49 = .ok (.aload_n 0, 1) := by decide +kernel
theorem dX4_ask_50 : decode cX4_ask 50 = .ok (.getfield 43, 3) := by decide +kernel
theorem dX4_ask_53 : decode cX4_ask 53 = .ok (.aload_n 0, 1) := by decide +kernel
theorem dX4_ask_54 : decode cX4_ask 54 = .ok (.getfield 101, 3) := by decide +kernel
theorem dX4_ask_57 : decode cX4_ask 57 = .ok (.iload_n 2, 1) := by decide +kernel
theorem dX4_ask_58 : decode cX4_ask 58 = .ok (.iastore, 1) := by decide +kernel
theorem dX4_ask_59 : decode cX4_ask 59 = .ok (.aload_n 0, 1) := by decide +kernel
theorem dX4_ask_60 : decode cX4_ask 60 = .ok (.getfield 46, 3) := by decide +kernel
theorem dX4_ask_63 : decode cX4_ask 63 = .ok (.aload_n 0, 1) := by decide +kernel
theorem dX4_ask_64 : decode cX4_ask 64 = .ok (.getfield 101, 3) := by decide +kernel
theorem dX4_ask_67 : decode cX4_ask 67 = .ok (.iload_n 3, 1) := by decide +kernel
theorem dX4_ask_68 : decode cX4_ask 68 = .ok (.iastore, 1) := by decide +kernel
theorem dX4_ask_69 : decode cX4_ask 69 = .ok (.aload_n 0, 1) := by decide +kernel
theorem dX4_ask_70 : decode cX4_ask 70 = .ok (.dup, 1) := by decide +kernel
theorem dX4_ask_71 : decode cX4_ask 71 = .ok (.getfield 101, 3) := by decide +kernel
theorem dX4_ask_74 : decode cX4_ask 74 = .ok (.iconst 1, 1) := by decide +kernel
theorem dX4_ask_75 : decode cX4_ask 75 = .ok (.iadd, 1) := by decide +kernel
theorem dX4_ask_76 : decode cX4_ask 76 = .ok (.putfield 101, 3) := by decide +kernel
theorem dX4_ask_79 : decode cX4_ask 79 = .ok (.aload_n 0, 1) := by decide +kernel
theorem dX4_ask_80 : decode cX4_ask 80 = .ok (.getfield 101, 3) := by decide +kernel
theorem dX4_ask_83 : decode cX4_ask 83 = .ok (.iconst 1, 1) := by decide +kernel
theorem dX4_ask_84 : decode cX4_ask 84 = .ok (.isub, 1) := by decide +kernel
theorem dX4_ask_85 : decode cX4_ask 85 = .ok (.ireturn, 1) := by decide +kernel
theorem dX4_isHealed_0 : decode cX4_isHealed 0 = .ok (.aload_n 0, 1) := by decide +kernel
theorem dX4_isHealed_1 : decode cX4_isHealed 1 = .ok (.getfield 104, 3) := by decide +kernel
theorem dX4_isHealed_4 : decode cX4_isHealed 4 = .ok (.iload_n 1, 1) := by decide +kernel
theorem dX4_isHealed_5 : decode cX4_isHealed 5 = .ok (.ishr, 1) := by decide +kernel
theorem dX4_isHealed_6 : decode cX4_isHealed 6 = .ok (.iconst 1, 1) := by decide +kernel
theorem dX4_isHealed_7 : decode cX4_isHealed 7 = .ok (.iand, 1) := by decide +kernel
theorem dX4_isHealed_8 : decode cX4_isHealed 8 = .ok (.iconst 1, 1) := by decide +kernel
theorem dX4_isHealed_9 : decode cX4_isHealed 9 = .ok (.if_icmp .eq 22, 3) := by decide +kernel
theorem dX4_isHealed_12 : decode cX4_isHealed 12 = .ok (.aload_n 0, 1) := by decide +kernel
theorem dX4_isHealed_13 : decode cX4_isHealed 13 = .ok (.getfield 28, 3) := by decide +kernel
theorem dX4_isHealed_16 : decode cX4_isHealed 16 = .ok (.iload_n 1, 1) := by decide +kernel
theorem dX4_isHealed_17 : decode cX4_isHealed 17 = .ok (.iaload, 1) := by decide +kernel
theorem dX4_isHealed_18 : decode cX4_isHealed 18 = .ok (.ifCond .lt 17, 3) := by decide +kernel
theorem dX4_isHealed_21 : decode cX4_isHealed 21 = .ok (.aload_n 0, 1) := by decide +kernel
theorem dX4_isHealed_22 : decode cX4_isHealed 22 = .ok (.getfield 28, 3) := by decide +kernel
theorem dX4_isHealed_25 : decode cX4_isHealed 25 = .ok (.iload_n 1, 1) := by decide +kernel
theorem dX4_isHealed_26 : decode cX4_isHealed 26 = .ok (.iaload, 1) := by decide +kernel
theorem dX4_isHealed_27 : decode cX4_isHealed 27 = .ok (.iload_n 2, 1) := by decide +kernel
theorem dX4_isHealed_28 : decode cX4_isHealed 28 = .ok (.if_icmp .gt 7, 3) := by decide +kernel
theorem dX4_isHealed_31 : decode cX4_isHealed 31 = .ok (.iconst 1, 1) := by decide +kernel
theorem dX4_isHealed_32 : decode cX4_isHealed 32 = .ok (.goto 4, 3) := by decide +kernel
theorem dX4_isHealed_35 : decode cX4_isHealed 35 = .ok (.iconst 0, 1) := by decide +kernel
theorem dX4_isHealed_36 : decode cX4_isHealed 36 = .ok (.ireturn, 1) := by decide +kernel
theorem dX4_wouldCount_0 : decode cX4_wouldCount 0 = .ok (.aload_n 0, 1) := by decide +kernel
theorem dX4_wouldCount_1 : decode cX4_wouldCount 1 = .ok (.getfield 22, 3) := by decide +kernel
theorem dX4_wouldCount_4 : decode cX4_wouldCount 4 = .ok (.iload_n 1, 1) := by decide +kernel
theorem dX4_wouldCount_5 : decode cX4_wouldCount 5 = .ok (.iaload, 1) := by decide +kernel
theorem dX4_wouldCount_6 : decode cX4_wouldCount 6 = .ok (.istore 4, 2) := by decide +kernel
theorem dX4_wouldCount_8 : decode cX4_wouldCount 8 = .ok (.iload 4, 2) := by decide +kernel
theorem dX4_wouldCount_10 : decode cX4_wouldCount 10 = .ok (.iconst 4, 1) := by decide +kernel
theorem dX4_wouldCount_11 : decode cX4_wouldCount 11 = .ok (.if_icmp .eq 35, 3) := by decide +kernel
theorem dX4_wouldCount_14 : decode cX4_wouldCount 14 = .ok (.iload 4, 2) := by decide +kernel
theorem dX4_wouldCount_16 : decode cX4_wouldCount 16 = .ok (.iconst 2, 1) := by decide +kernel
theorem dX4_wouldCount_17 : decode cX4_wouldCount 17 = .ok (.if_icmp .ne 13, 3) := by decide +kernel
theorem dX4_wouldCount_20 : decode cX4_wouldCount 20 = .ok (.aload_n 0, 1) := by decide +kernel
theorem dX4_wouldCount_21 : decode cX4_wouldCount 21 = .ok (.getfield 13, 3) := by decide +kernel
theorem dX4_wouldCount_24 : decode cX4_wouldCount 24 = .ok (.iload_n 1, 1) := by decide +kernel
theorem dX4_wouldCount_25 : decode cX4_wouldCount 25 = .ok (.iaload, 1) := by decide +kernel
theorem dX4_wouldCount_26 : decode cX4_wouldCount 26 = .ok (.iload_n 2, 1) := by decide +kernel
theorem dX4_wouldCount_27 : decode cX4_wouldCount 27 = .ok (.if_icmp .eq 19, 3) := by decide +kernel
theorem dX4_wouldCount_30 : decode cX4_wouldCount 30 = .ok (.iload 4, 2) := by decide +kernel
theorem dX4_wouldCount_32 : decode cX4_wouldCount 32 = .ok (.iconst 3, 1) := by decide +kernel
theorem dX4_wouldCount_33 : decode cX4_wouldCount 33 = .ok (.if_icmp .ne 17, 3) := by decide +kernel
theorem dX4_wouldCount_36 : decode cX4_wouldCount 36 = .ok (.aload_n 0, 1) := by decide +kernel
theorem dX4_wouldCount_37 : decode cX4_wouldCount 37 = .ok (.getfield 16, 3) := by decide +kernel
theorem dX4_wouldCount_40 : decode cX4_wouldCount 40 = .ok (.iload_n 1, 1) := by decide +kernel
theorem dX4_wouldCount_41 : decode cX4_wouldCount 41 = .ok (.iaload, 1) := by decide +kernel
theorem dX4_wouldCount_42 : decode cX4_wouldCount 42 = .ok (.iload_n 2, 1) := by decide +kernel
theorem dX4_wouldCount_43 : decode cX4_wouldCount 43 = .ok (.if_icmp .ne 7, 3) := by decide +kernel
theorem dX4_wouldCount_46 : decode cX4_wouldCount 46 = .ok (.iconst 1, 1) := by decide +kernel
theorem dX4_wouldCount_47 : decode cX4_wouldCount 47 = .ok (.goto 4, 3) := by decide +kernel
theorem dX4_wouldCount_50 : decode cX4_wouldCount 50 = .ok (.iconst 0, 1) := by decide +kernel
theorem dX4_wouldCount_51 : decode cX4_wouldCount 51 = .ok (.istore 5, 2) := by decide +kernel
theorem dX4_wouldCount_53 : decode cX4_wouldCount 53 = .ok (.iload 5, 2) := by decide +kernel
theorem dX4_wouldCount_55 : decode cX4_wouldCount 55 = .ok (.ifCond .eq 45, 3) := by decide +kernel
theorem dX4_wouldCount_58 : decode cX4_wouldCount 58 = .ok (.iload_n 3, 1) := by decide +kernel
theorem dX4_wouldCount_59 : decode cX4_wouldCount 59 = .ok (.i2l, 1) := by decide +kernel
theorem dX4_wouldCount_60 : decode cX4_wouldCount 60 = .ok (.aload_n 0, 1) := by decide +kernel
theorem dX4_wouldCount_61 : decode cX4_wouldCount 61 = .ok (.getfield 7, 3) := by decide +kernel
theorem dX4_wouldCount_64 : decode cX4_wouldCount 64 = .ok (.iload_n 1, 1) := by decide +kernel
theorem dX4_wouldCount_65 : decode cX4_wouldCount 65 = .ok (.iaload, 1) := by decide +kernel
theorem dX4_wouldCount_66 : decode cX4_wouldCount 66 = .ok (.i2l, 1) := by decide +kernel
theorem dX4_wouldCount_67 : decode cX4_wouldCount 67 = .ok (.aload_n 0, 1) := by decide +kernel
theorem dX4_wouldCount_68 : decode cX4_wouldCount 68 = .ok (.getfield 7, 3) := by decide +kernel
theorem dX4_wouldCount_71 : decode cX4_wouldCount 71 = .ok (.iload_n 1, 1) := by decide +kernel
theorem dX4_wouldCount_72 : decode cX4_wouldCount 72 = .ok (.iaload, 1) := by decide +kernel
theorem dX4_wouldCount_73 : decode cX4_wouldCount 73 = .ok (.aload_n 0, 1) := by decide +kernel
theorem dX4_wouldCount_74 : decode cX4_wouldCount 74 = .ok (.getfield 25, 3) := by decide +kernel
theorem dX4_wouldCount_77 : decode cX4_wouldCount 77 = .ok (.iload_n 1, 1) := by decide +kernel
theorem dX4_wouldCount_78 : decode cX4_wouldCount 78 = .ok (.iaload, 1) := by decide +kernel
theorem dX4_wouldCount_79 : decode cX4_wouldCount 79 = .ok (.iadd, 1) := by decide +kernel
theorem dX4_wouldCount_80 : decode cX4_wouldCount 80 = .ok (.i2l, 1) := by decide +kernel
theorem dX4_wouldCount_81 : decode cX4_wouldCount 81 = .ok (.invokestatic 55, 3) := by decide +kernel
theorem dX4_wouldCount_84 : decode cX4_wouldCount 84 = .ok (.ifCond .eq 16, 3) := by decide +kernel
theorem dX4_wouldCount_87 : decode cX4_wouldCount 87 = .ok (.aload_n 0, 1) := by decide +kernel
theorem dX4_wouldCount_88 : decode cX4_wouldCount 88 = .ok (.iload_n 1, 1) := by decide +kernel
theorem dX4_wouldCount_89 : decode cX4_wouldCount 89 = .ok (.iload_n 3, 1) := by decide +kernel
theorem dX4_wouldCount_90 : decode cX4_wouldCount 90 = .ok (.invokevirtual 107, 3) := by decide +kernel
theorem dX4_wouldCount_93 : decode cX4_wouldCount 93 = .ok (.ifCond .ne 7, 3) := by decide +kernel
theorem dX4_wouldCount_96 : decode cX4_wouldCount 96 = .ok (.iconst 1, 1) := by decide +kernel
theorem dX4_wouldCount_97 : decode cX4_wouldCount 97 = .ok (.goto 4, 3) := by decide +kernel
theorem dX4_wouldCount_100 : decode cX4_wouldCount 100 = .ok (.iconst 0, 1) := by decide +kernel
theorem dX4_wouldCount_101 : decode cX4_wouldCount 101 = .ok (.ireturn, 1) := by decide +kernel
theorem dX4_counts_0 : decode cX4_counts 0 = .ok (.iload_n 1, 1) := by decide +kernel
theorem dX4_counts_1 : decode cX4_counts 1 = .ok (.i2l, 1) := by decide +kernel
theorem dX4_counts_2 : decode cX4_counts 2 = .ok (.lconst 0, 1) := by decide +kernel
theorem dX4_counts_3 : decode cX4_counts 3 = .ok (.aload_n 0, 1) := by decide +kernel
theorem dX4_counts_4 : decode cX4_counts 4 = .ok (.getfield 101, 3) := by decide +kernel
theorem dX4_counts_7 : decode cX4_counts 7 = .ok (.iconst 1, 1) := by decide +kernel
theorem dX4_counts_8 : decode cX4_counts 8 = .ok (.isub, 1) := by decide +kernel
theorem dX4_counts_9 : decode cX4_counts 9 = .ok (.i2l, 1) := by decide +kernel
theorem dX4_counts_10 : decode cX4_counts 10 = .ok (.invokestatic 55, 3) := by decide +kernel
theorem dX4_counts_13 : decode cX4_counts 13 = .ok (.ifCond .ne 5, 3) := by decide +kernel
theorem dX4_counts_16 : decode cX4_counts 16 = .ok (.iconst (-1), 1) := by decide +kernel
theorem dX4_counts_17 : decode cX4_counts 17 = .ok (.ireturn, 1) := by decide +kernel
theorem dX4_counts_18 : decode cX4_counts 18 = .ok (.aload_n 0, 1) := by decide +kernel
theorem dX4_counts_19 : decode cX4_counts 19 = .ok (.aload_n 0, 1) := by decide +kernel
theorem dX4_counts_20 : decode cX4_counts 20 = .ok (.getfield 40, 3) := by decide +kernel
theorem dX4_counts_23 : decode cX4_counts 23 = .ok (.iload_n 1, 1) := by decide +kernel
theorem dX4_counts_24 : decode cX4_counts 24 = .ok (.iaload, 1) := by decide +kernel
theorem dX4_counts_25 : decode cX4_counts 25 = .ok (.aload_n 0, 1) := by decide +kernel
theorem dX4_counts_26 : decode cX4_counts 26 = .ok (.getfield 43, 3) := by decide +kernel
theorem dX4_counts_29 : decode cX4_counts 29 = .ok (.iload_n 1, 1) := by decide +kernel
theorem dX4_counts_30 : decode cX4_counts 30 = .ok (.iaload, 1) := by decide +kernel
theorem dX4_counts_31 : decode cX4_counts 31 = .ok (.aload_n 0, 1) := by decide +kernel
theorem dX4_counts_32 : decode cX4_counts 32 = .ok (.getfield 46, 3) := by decide +kernel
theorem dX4_counts_35 : decode cX4_counts 35 = .ok (.iload_n 1, 1) := by decide +kernel
theorem dX4_counts_36 : decode cX4_counts 36 = .ok (.iaload, 1) := by decide +kernel
theorem dX4_counts_37 : decode cX4_counts 37 = .ok (.invokevirtual 111, 3) := by decide +kernel
theorem dX4_counts_40 : decode cX4_counts 40 = .ok (.ifCond .eq 7, 3) := by decide +kernel
theorem dX4_counts_43 : decode cX4_counts 43 = .ok (.iconst 1, 1) := by decide +kernel
theorem dX4_counts_44 : decode cX4_counts 44 = .ok (.goto 4, 3) := by decide +kernel
theorem dX4_counts_47 : decode cX4_counts 47 = .ok (.iconst 0, 1) := by decide +kernel
theorem dX4_counts_48 : decode cX4_counts 48 = .ok (.ireturn, 1) := by decide +kernel
theorem dX4_drop_0 : decode cX4_drop 0 = .ok (.aload_n 0, 1) := by decide +kernel
theorem dX4_drop_1 : decode cX4_drop 1 = .ok (.getfield 101, 3) := by decide +kernel
theorem dX4_drop_4 : decode cX4_drop 4 = .ok (.ifCond .ne 6, 3) := by decide +kernel
theorem dX4_drop_7 : decode cX4_drop 7 = .ok (.bipush (-5), 2) := by decide +kernel
theorem dX4_drop_9 : decode cX4_drop 9 = .ok (.ireturn, 1) := by decide +kernel
theorem dX4_drop_10 : decode cX4_drop 10 = .ok (.aload_n 0, 1) := by decide +kernel
theorem dX4_drop_11 : decode cX4_drop 11 = .ok (.dup, 1) := by decide +kernel
theorem dX4_drop_12 : decode cX4_drop 12 = .ok (.getfield 101, 3) := by decide +kernel
theorem dX4_drop_15 : decode cX4_drop 15 = .ok (.iconst 1, 1) := by decide +kernel
theorem dX4_drop_16 : decode cX4_drop 16 = .ok (.isub, 1) := by decide +kernel
theorem dX4_drop_17 : decode cX4_drop 17 = .ok (.putfield 101, 3) := by decide +kernel
theorem dX4_drop_20 : decode cX4_drop 20 = .ok (.aload_n 0, 1) := by decide +kernel
theorem dX4_drop_21 : decode cX4_drop 21 = .ok (.getfield 101, 3) := by decide +kernel
theorem dX4_drop_24 : decode cX4_drop 24 = .ok (.ireturn, 1) := by decide +kernel
theorem dX4_isAsked_0 : decode cX4_isAsked 0 = .ok (.aload_n 0, 1) := by decide +kernel
theorem dX4_isAsked_1 : decode cX4_isAsked 1 = .ok (.getfield 115, 3) := by decide +kernel
theorem dX4_isAsked_4 : decode cX4_isAsked 4 = .ok (.iload_n 1, 1) := by decide +kernel
theorem dX4_isAsked_5 : decode cX4_isAsked 5 = .ok (.ishr, 1) := by decide +kernel
theorem dX4_isAsked_6 : decode cX4_isAsked 6 = .ok (.iconst 1, 1) := by decide +kernel
theorem dX4_isAsked_7 : decode cX4_isAsked 7 = .ok (.iand, 1) := by decide +kernel
theorem dX4_isAsked_8 : decode cX4_isAsked 8 = .ok (.iconst 1, 1) := by decide +kernel
theorem dX4_isAsked_9 : decode cX4_isAsked 9 = .ok (.if_icmp .ne 7, 3) := by decide +kernel
theorem dX4_isAsked_12 : decode cX4_isAsked 12 = .ok (.iconst 1, 1) := by decide +kernel
theorem dX4_isAsked_13 : decode cX4_isAsked 13 = .ok (.goto 4, 3) := by decide +kernel
theorem dX4_isAsked_16 : decode cX4_isAsked 16 = .ok (.iconst 0, 1) := by decide +kernel
theorem dX4_isAsked_17 : decode cX4_isAsked 17 = .ok (.istore_n 3, 1) := by decide +kernel
theorem dX4_isAsked_18 : decode cX4_isAsked 18 = .ok (.iconst 0, 1) := by decide +kernel
theorem dX4_isAsked_19 : decode cX4_isAsked 19 = .ok (.istore 4, 2) := by decide +kernel
theorem dX4_isAsked_21 : decode cX4_isAsked 21 = .ok (.iload 4, 2) := by decide +kernel
theorem dX4_isAsked_23 : decode cX4_isAsked 23 = .ok (.aload_n 0, 1) := by decide +kernel
theorem dX4_isAsked_24 : decode cX4_isAsked 24 = .ok (.getfield 101, 3) := by decide +kernel
theorem dX4_isAsked_27 : decode cX4_isAsked 27 = .ok (.if_icmp .ge 63, 3) := by decide +kernel
theorem dX4_isAsked_30 : decode cX4_isAsked 30 = .ok (.iload_n 3, 1) := by decide +kernel
theorem dX4_isAsked_31 : decode cX4_isAsked 31 = .ok (.ifCond .ne 47, 3) := by decide +kernel
theorem dX4_isAsked_34 : decode cX4_isAsked 34 = .ok (.aload_n 0, 1) := by decide +kernel
theorem dX4_isAsked_35 : decode cX4_isAsked 35 = .ok (.getfield 40, 3) := by decide +kernel
theorem dX4_isAsked_38 : decode cX4_isAsked 38 = .ok (.iload 4, 2) := by decide +kernel
theorem dX4_isAsked_40 : decode cX4_isAsked 40 = .ok (.iaload, 1) := by decide +kernel
theorem dX4_isAsked_41 : decode cX4_isAsked 41 = .ok (.iload_n 1, 1) := by decide +kernel
theorem dX4_isAsked_42 : decode cX4_isAsked 42 = .ok (.if_icmp .ne 40, 3) := by decide +kernel
theorem dX4_isAsked_45 : decode cX4_isAsked 45 = .ok (.aload_n 0, 1) := by decide +kernel
theorem dX4_isAsked_46 : decode cX4_isAsked 46 = .ok (.getfield 46, 3) := by decide +kernel
theorem dX4_isAsked_49 : decode cX4_isAsked 49 = .ok (.iload 4, 2) := by decide +kernel
theorem dX4_isAsked_51 : decode cX4_isAsked 51 = .ok (.iaload, 1) := by decide +kernel
theorem dX4_isAsked_52 : decode cX4_isAsked 52 = .ok (.iload_n 2, 1) := by decide +kernel
theorem dX4_isAsked_53 : decode cX4_isAsked 53 = .ok (.if_icmp .gt 29, 3) := by decide +kernel
theorem dX4_isAsked_56 : decode cX4_isAsked 56 = .ok (.aload_n 0, 1) := by decide +kernel
theorem dX4_isAsked_57 : decode cX4_isAsked 57 = .ok (.iload_n 1, 1) := by decide +kernel
theorem dX4_isAsked_58 : decode cX4_isAsked 58 = .ok (.aload_n 0, 1) := by decide +kernel
theorem dX4_isAsked_59 : decode cX4_isAsked 59 = .ok (.getfield 43, 3) := by decide +kernel
theorem dX4_isAsked_62 : decode cX4_isAsked 62 = .ok (.iload 4, 2) := by decide +kernel
theorem dX4_isAsked_64 : decode cX4_isAsked 64 = .ok (.iaload, 1) := by decide +kernel
theorem dX4_isAsked_65 : decode cX4_isAsked 65 = .ok (.aload_n 0, 1) := by decide +kernel
theorem dX4_isAsked_66 : decode cX4_isAsked 66 = .ok (.getfield 46, 3) := by decide +kernel
theorem dX4_isAsked_69 : decode cX4_isAsked 69 = .ok (.iload 4, 2) := by decide +kernel
theorem dX4_isAsked_71 : decode cX4_isAsked 71 = .ok (.iaload, 1) := by decide +kernel
theorem dX4_isAsked_72 : decode cX4_isAsked 72 = .ok (.invokevirtual 111, 3) := by decide +kernel
theorem dX4_isAsked_75 : decode cX4_isAsked 75 = .ok (.ifCond .eq 7, 3) := by decide +kernel
theorem dX4_isAsked_78 : decode cX4_isAsked 78 = .ok (.iconst 1, 1) := by decide +kernel
theorem dX4_isAsked_79 : decode cX4_isAsked 79 = .ok (.goto 4, 3) := by decide +kernel
theorem dX4_isAsked_82 : decode cX4_isAsked 82 = .ok (.iconst 0, 1) := by decide +kernel
theorem dX4_isAsked_83 : decode cX4_isAsked 83 = .ok (.istore_n 3, 1) := by decide +kernel
theorem dX4_isAsked_84 : decode cX4_isAsked 84 = .ok (.iinc 4 1, 3) := by decide +kernel
theorem dX4_isAsked_87 : decode cX4_isAsked 87 = .ok (.goto (-66), 3) := by decide +kernel
theorem dX4_isAsked_90 : decode cX4_isAsked 90 = .ok (.iload_n 3, 1) := by decide +kernel
theorem dX4_isAsked_91 : decode cX4_isAsked 91 = .ok (.ireturn, 1) := by decide +kernel
theorem dX4_isSound_0 : decode cX4_isSound 0 = .ok (.aload_n 0, 1) := by decide +kernel
theorem dX4_isSound_1 : decode cX4_isSound 1 = .ok (.getfield 7, 3) := by decide +kernel
theorem dX4_isSound_4 : decode cX4_isSound 4 = .ok (.iload_n 1, 1) := by decide +kernel
theorem dX4_isSound_5 : decode cX4_isSound 5 = .ok (.iaload, 1) := by decide +kernel
theorem dX4_isSound_6 : decode cX4_isSound 6 = .ok (.iload_n 2, 1) := by decide +kernel
theorem dX4_isSound_7 : decode cX4_isSound 7 = .ok (.if_icmp .gt 35, 3) := by decide +kernel
theorem dX4_isSound_10 : decode cX4_isSound 10 = .ok (.aload_n 0, 1) := by decide +kernel
theorem dX4_isSound_11 : decode cX4_isSound 11 = .ok (.getfield 22, 3) := by decide +kernel
theorem dX4_isSound_14 : decode cX4_isSound 14 = .ok (.iload_n 1, 1) := by decide +kernel
theorem dX4_isSound_15 : decode cX4_isSound 15 = .ok (.iaload, 1) := by decide +kernel
theorem dX4_isSound_16 : decode cX4_isSound 16 = .ok (.iconst 1, 1) := by decide +kernel
theorem dX4_isSound_17 : decode cX4_isSound 17 = .ok (.if_icmp .ne 12, 3) := by decide +kernel
theorem dX4_isSound_20 : decode cX4_isSound 20 = .ok (.aload_n 0, 1) := by decide +kernel
theorem dX4_isSound_21 : decode cX4_isSound 21 = .ok (.iload_n 1, 1) := by decide +kernel
theorem dX4_isSound_22 : decode cX4_isSound 22 = .ok (.iload_n 2, 1) := by decide +kernel
theorem dX4_isSound_23 : decode cX4_isSound 23 = .ok (.invokevirtual 107, 3) := by decide +kernel
theorem dX4_isSound_26 : decode cX4_isSound 26 = .ok (.ifCond .eq 16, 3) := by decide +kernel
theorem dX4_isSound_29 : decode cX4_isSound 29 = .ok (.aload_n 0, 1) := by decide +kernel
theorem dX4_isSound_30 : decode cX4_isSound 30 = .ok (.iload_n 1, 1) := by decide +kernel
theorem dX4_isSound_31 : decode cX4_isSound 31 = .ok (.iload_n 2, 1) := by decide +kernel
theorem dX4_isSound_32 : decode cX4_isSound 32 = .ok (.invokevirtual 118, 3) := by decide +kernel
theorem dX4_isSound_35 : decode cX4_isSound 35 = .ok (.ifCond .ne 7, 3) := by decide +kernel
theorem dX4_isSound_38 : decode cX4_isSound 38 = .ok (.iconst 1, 1) := by decide +kernel
theorem dX4_isSound_39 : decode cX4_isSound 39 = .ok (.goto 4, 3) := by decide +kernel
theorem dX4_isSound_42 : decode cX4_isSound 42 = .ok (.iconst 0, 1) := by decide +kernel
theorem dX4_isSound_43 : decode cX4_isSound 43 = .ok (.ireturn, 1) := by decide +kernel
theorem dX4_soundOf_0 : decode cX4_soundOf 0 = .ok (.iconst 0, 1) := by decide +kernel
theorem dX4_soundOf_1 : decode cX4_soundOf 1 = .ok (.istore_n 2, 1) := by decide +kernel
theorem dX4_soundOf_2 : decode cX4_soundOf 2 = .ok (.iconst 0, 1) := by decide +kernel
theorem dX4_soundOf_3 : decode cX4_soundOf 3 = .ok (.istore_n 3, 1) := by decide +kernel
theorem dX4_soundOf_4 : decode cX4_soundOf 4 = .ok (.iload_n 3, 1) := by decide +kernel
theorem dX4_soundOf_5 : decode cX4_soundOf 5 = .ok (.aload_n 0, 1) := by decide +kernel
theorem dX4_soundOf_6 : decode cX4_soundOf 6 = .ok (.getfield 61, 3) := by decide +kernel
theorem dX4_soundOf_9 : decode cX4_soundOf 9 = .ok (.if_icmp .ge 28, 3) := by decide +kernel
theorem dX4_soundOf_12 : decode cX4_soundOf 12 = .ok (.iload_n 2, 1) := by decide +kernel
theorem dX4_soundOf_13 : decode cX4_soundOf 13 = .ok (.aload_n 0, 1) := by decide +kernel
theorem dX4_soundOf_14 : decode cX4_soundOf 14 = .ok (.iload_n 3, 1) := by decide +kernel
theorem dX4_soundOf_15 : decode cX4_soundOf 15 = .ok (.iload_n 1, 1) := by decide +kernel
theorem dX4_soundOf_16 : decode cX4_soundOf 16 = .ok (.invokevirtual 121, 3) := by decide +kernel
theorem dX4_soundOf_19 : decode cX4_soundOf 19 = .ok (.ifCond .eq 9, 3) := by decide +kernel
theorem dX4_soundOf_22 : decode cX4_soundOf 22 = .ok (.iconst 1, 1) := by decide +kernel
theorem dX4_soundOf_23 : decode cX4_soundOf 23 = .ok (.iload_n 3, 1) := by decide +kernel
theorem dX4_soundOf_24 : decode cX4_soundOf 24 = .ok (.ishl, 1) := by decide +kernel
theorem dX4_soundOf_25 : decode cX4_soundOf 25 = .ok (.goto 4, 3) := by decide +kernel
theorem dX4_soundOf_28 : decode cX4_soundOf 28 = .ok (.iconst 0, 1) := by decide +kernel
theorem dX4_soundOf_29 : decode cX4_soundOf 29 = .ok (.ior, 1) := by decide +kernel
theorem dX4_soundOf_30 : decode cX4_soundOf 30 = .ok (.istore_n 2, 1) := by decide +kernel
theorem dX4_soundOf_31 : decode cX4_soundOf 31 = .ok (.iinc 3 1, 3) := by decide +kernel
theorem dX4_soundOf_34 : decode cX4_soundOf 34 = .ok (.goto (-30), 3) := by decide +kernel
theorem dX4_soundOf_37 : decode cX4_soundOf 37 = .ok (.iload_n 2, 1) := by decide +kernel
theorem dX4_soundOf_38 : decode cX4_soundOf 38 = .ok (.ireturn, 1) := by decide +kernel
theorem dX4_loose_0 : decode cX4_loose 0 = .ok (.iconst 0, 1) := by decide +kernel
theorem dX4_loose_1 : decode cX4_loose 1 = .ok (.istore_n 2, 1) := by decide +kernel
theorem dX4_loose_2 : decode cX4_loose 2 = .ok (.iconst 0, 1) := by decide +kernel
theorem dX4_loose_3 : decode cX4_loose 3 = .ok (.istore_n 3, 1) := by decide +kernel
theorem dX4_loose_4 : decode cX4_loose 4 = .ok (.iload_n 3, 1) := by decide +kernel
theorem dX4_loose_5 : decode cX4_loose 5 = .ok (.aload_n 0, 1) := by decide +kernel
theorem dX4_loose_6 : decode cX4_loose 6 = .ok (.getfield 61, 3) := by decide +kernel
theorem dX4_loose_9 : decode cX4_loose 9 = .ok (.if_icmp .ge 37, 3) := by decide +kernel
theorem dX4_loose_12 : decode cX4_loose 12 = .ok (.iload_n 2, 1) := by decide +kernel
theorem dX4_loose_13 : decode cX4_loose 13 = .ok (.iload_n 1, 1) := by decide +kernel
theorem dX4_loose_14 : decode cX4_loose 14 = .ok (.iload_n 3, 1) := by decide +kernel
theorem dX4_loose_15 : decode cX4_loose 15 = .ok (.ishr, 1) := by decide +kernel
theorem dX4_loose_16 : decode cX4_loose 16 = .ok (.iconst 1, 1) := by decide +kernel
theorem dX4_loose_17 : decode cX4_loose 17 = .ok (.iand, 1) := by decide +kernel
theorem dX4_loose_18 : decode cX4_loose 18 = .ok (.iconst 1, 1) := by decide +kernel
theorem dX4_loose_19 : decode cX4_loose 19 = .ok (.if_icmp .ne 18, 3) := by decide +kernel
theorem dX4_loose_22 : decode cX4_loose 22 = .ok (.aload_n 0, 1) := by decide +kernel
theorem dX4_loose_23 : decode cX4_loose 23 = .ok (.iload_n 3, 1) := by decide +kernel
theorem dX4_loose_24 : decode cX4_loose 24 = .ok (.iload_n 1, 1) := by decide +kernel
theorem dX4_loose_25 : decode cX4_loose 25 = .ok (.invokevirtual 124, 3) := by decide +kernel
theorem dX4_loose_28 : decode cX4_loose 28 = .ok (.ifCond .ne 9, 3) := by decide +kernel
theorem dX4_loose_31 : decode cX4_loose 31 = .ok (.iconst 1, 1) := by decide +kernel
theorem dX4_loose_32 : decode cX4_loose 32 = .ok (.iload_n 3, 1) := by decide +kernel
theorem dX4_loose_33 : decode cX4_loose 33 = .ok (.ishl, 1) := by decide +kernel
theorem dX4_loose_34 : decode cX4_loose 34 = .ok (.goto 4, 3) := by decide +kernel
theorem dX4_loose_37 : decode cX4_loose 37 = .ok (.iconst 0, 1) := by decide +kernel
theorem dX4_loose_38 : decode cX4_loose 38 = .ok (.ior, 1) := by decide +kernel
theorem dX4_loose_39 : decode cX4_loose 39 = .ok (.istore_n 2, 1) := by decide +kernel
theorem dX4_loose_40 : decode cX4_loose 40 = .ok (.iinc 3 1, 3) := by decide +kernel
theorem dX4_loose_43 : decode cX4_loose 43 = .ok (.goto (-39), 3) := by decide +kernel
theorem dX4_loose_46 : decode cX4_loose 46 = .ok (.iload_n 2, 1) := by decide +kernel
theorem dX4_loose_47 : decode cX4_loose 47 = .ok (.ireturn, 1) := by decide +kernel
theorem dX4_mostOf_0 : decode cX4_mostOf 0 = .ok (.iload_n 1, 1) := by decide +kernel
theorem dX4_mostOf_1 : decode cX4_mostOf 1 = .ok (.istore_n 2, 1) := by decide +kernel
theorem dX4_mostOf_2 : decode cX4_mostOf 2 = .ok (.aload_n 0, 1) := by decide +kernel
theorem dX4_mostOf_3 : decode cX4_mostOf 3 = .ok (.iload_n 2, 1) := by decide +kernel
theorem dX4_mostOf_4 : decode cX4_mostOf 4 = .ok (.invokevirtual 127, 3) := by decide +kernel
theorem dX4_mostOf_7 : decode cX4_mostOf 7 = .ok (.istore_n 3, 1) := by decide +kernel
theorem dX4_mostOf_8 : decode cX4_mostOf 8 = .ok (.iload_n 3, 1) := by decide +kernel
theorem dX4_mostOf_9 : decode cX4_mostOf 9 = .ok (.ifCond .eq 18, 3) := by decide +kernel
theorem dX4_mostOf_12 : decode cX4_mostOf 12 = .ok (.iload_n 2, 1) := by decide +kernel
theorem dX4_mostOf_13 : decode cX4_mostOf 13 = .ok (.iload_n 3, 1) := by decide +kernel
theorem dX4_mostOf_14 : decode cX4_mostOf 14 = .ok (.iconst (-1), 1) := by decide +kernel
theorem dX4_mostOf_15 : decode cX4_mostOf 15 = .ok (.ixor, 1) := by decide +kernel
theorem dX4_mostOf_16 : decode cX4_mostOf 16 = .ok (.iand, 1) := by decide +kernel
theorem dX4_mostOf_17 : decode cX4_mostOf 17 = .ok (.istore_n 2, 1) := by decide +kernel
theorem dX4_mostOf_18 : decode cX4_mostOf 18 = .ok (.aload_n 0, 1) := by decide +kernel
theorem dX4_mostOf_19 : decode cX4_mostOf 19 = .ok (.iload_n 2, 1) := by decide +kernel
theorem dX4_mostOf_20 : decode cX4_mostOf 20 = .ok (.invokevirtual 127, 3) := by decide +kernel
theorem dX4_mostOf_23 : decode cX4_mostOf 23 = .ok (.istore_n 3, 1) := by decide +kernel
theorem dX4_mostOf_24 : decode cX4_mostOf 24 = .ok (.goto (-16), 3) := by decide +kernel
theorem dX4_mostOf_27 : decode cX4_mostOf 27 = .ok (.iload_n 2, 1) := by decide +kernel
theorem dX4_mostOf_28 : decode cX4_mostOf 28 = .ok (.ireturn, 1) := by decide +kernel
theorem dX4_leastOf_0 : decode cX4_leastOf 0 = .ok (.iconst 0, 1) := by decide +kernel
theorem dX4_leastOf_1 : decode cX4_leastOf 1 = .ok (.istore_n 2, 1) := by decide +kernel
theorem dX4_leastOf_2 : decode cX4_leastOf 2 = .ok (.iconst (-1), 1) := by decide +kernel
theorem dX4_leastOf_3 : decode cX4_leastOf 3 = .ok (.istore_n 3, 1) := by decide +kernel
theorem dX4_leastOf_4 : decode cX4_leastOf 4 = .ok (.iload_n 3, 1) := by decide +kernel
theorem dX4_leastOf_5 : decode cX4_leastOf 5 = .ok (.iload_n 2, 1) := by decide +kernel
theorem dX4_leastOf_6 : decode cX4_leastOf 6 = .ok (.if_icmp .eq 57, 3) := by decide +kernel
theorem dX4_leastOf_9 : decode cX4_leastOf 9 = .ok (.iload_n 2, 1) := by decide +kernel
theorem dX4_leastOf_10 : decode cX4_leastOf 10 = .ok (.istore_n 3, 1) := by decide +kernel
theorem dX4_leastOf_11 : decode cX4_leastOf 11 = .ok (.iconst 0, 1) := by decide +kernel
theorem dX4_leastOf_12 : decode cX4_leastOf 12 = .ok (.istore 4, 2) := by decide +kernel
theorem dX4_leastOf_14 : decode cX4_leastOf 14 = .ok (.iload 4, 2) := by decide +kernel
theorem dX4_leastOf_16 : decode cX4_leastOf 16 = .ok (.aload_n 0, 1) := by decide +kernel
theorem dX4_leastOf_17 : decode cX4_leastOf 17 = .ok (.getfield 61, 3) := by decide +kernel
theorem dX4_leastOf_20 : decode cX4_leastOf 20 = .ok (.if_icmp .ge 40, 3) := by decide +kernel
theorem dX4_leastOf_23 : decode cX4_leastOf 23 = .ok (.iload_n 2, 1) := by decide +kernel
theorem dX4_leastOf_24 : decode cX4_leastOf 24 = .ok (.iload_n 1, 1) := by decide +kernel
theorem dX4_leastOf_25 : decode cX4_leastOf 25 = .ok (.iload 4, 2) := by decide +kernel
theorem dX4_leastOf_27 : decode cX4_leastOf 27 = .ok (.ishr, 1) := by decide +kernel
theorem dX4_leastOf_28 : decode cX4_leastOf 28 = .ok (.iconst 1, 1) := by decide +kernel
theorem dX4_leastOf_29 : decode cX4_leastOf 29 = .ok (.iand, 1) := by decide +kernel
theorem dX4_leastOf_30 : decode cX4_leastOf 30 = .ok (.iconst 1, 1) := by decide +kernel
theorem dX4_leastOf_31 : decode cX4_leastOf 31 = .ok (.if_icmp .ne 20, 3) := by decide +kernel
theorem dX4_leastOf_34 : decode cX4_leastOf 34 = .ok (.aload_n 0, 1) := by decide +kernel
theorem dX4_leastOf_35 : decode cX4_leastOf 35 = .ok (.iload 4, 2) := by decide +kernel
theorem dX4_leastOf_37 : decode cX4_leastOf 37 = .ok (.iload_n 3, 1) := by decide +kernel
theorem dX4_leastOf_38 : decode cX4_leastOf 38 = .ok (.invokevirtual 124, 3) := by decide +kernel
theorem dX4_leastOf_41 : decode cX4_leastOf 41 = .ok (.ifCond .eq 10, 3) := by decide +kernel
theorem dX4_leastOf_44 : decode cX4_leastOf 44 = .ok (.iconst 1, 1) := by decide +kernel
theorem dX4_leastOf_45 : decode cX4_leastOf 45 = .ok (.iload 4, 2) := by decide +kernel
theorem dX4_leastOf_47 : decode cX4_leastOf 47 = .ok (.ishl, 1) := by decide +kernel
theorem dX4_leastOf_48 : decode cX4_leastOf 48 = .ok (.goto 4, 3) := by decide +kernel
theorem dX4_leastOf_51 : decode cX4_leastOf 51 = .ok (.iconst 0, 1) := by decide +kernel
theorem dX4_leastOf_52 : decode cX4_leastOf 52 = .ok (.ior, 1) := by decide +kernel
theorem dX4_leastOf_53 : decode cX4_leastOf 53 = .ok (.istore_n 2, 1) := by decide +kernel
theorem dX4_leastOf_54 : decode cX4_leastOf 54 = .ok (.iinc 4 1, 3) := by decide +kernel
theorem dX4_leastOf_57 : decode cX4_leastOf 57 = .ok (.goto (-43), 3) := by decide +kernel
theorem dX4_leastOf_60 : decode cX4_leastOf 60 = .ok (.goto (-56), 3) := by decide +kernel
theorem dX4_leastOf_63 : decode cX4_leastOf 63 = .ok (.iload_n 2, 1) := by decide +kernel
theorem dX4_leastOf_64 : decode cX4_leastOf 64 = .ok (.ireturn, 1) := by decide +kernel
theorem dX4_standing_0 : decode cX4_standing 0 = .ok (.aload_n 0, 1) := by decide +kernel
theorem dX4_standing_1 : decode cX4_standing 1 = .ok (.aload_n 0, 1) := by decide +kernel
theorem dX4_standing_2 : decode cX4_standing 2 = .ok (.iload_n 1, 1) := by decide +kernel
theorem dX4_standing_3 : decode cX4_standing 3 = .ok (.invokevirtual 131, 3) := by decide +kernel
theorem dX4_standing_6 : decode cX4_standing 6 = .ok (.invokevirtual 134, 3) := by decide +kernel
theorem dX4_standing_9 : decode cX4_standing 9 = .ok (.ireturn, 1) := by decide +kernel
theorem dX4_all_0 : decode cX4_all 0 = .ok (.iload_n 1, 1) := by decide +kernel
theorem dX4_all_1 : decode cX4_all 1 = .ok (.invokestatic 68, 3) := by decide +kernel
theorem dX4_all_4 : decode cX4_all 4 = .ok (.ifCond .eq 15, 3) := by decide +kernel
theorem dX4_all_7 : decode cX4_all 7 = .ok (.iload_n 2, 1) := by decide +kernel
theorem dX4_all_8 : decode cX4_all 8 = .ok (.i2l, 1) := by decide +kernel
theorem dX4_all_9 : decode cX4_all 9 = .ok (.lconst 0, 1) := by decide +kernel
theorem dX4_all_10 : decode cX4_all 10 = .ok (.ldc2_w 137, 3) := by decide +kernel
theorem dX4_all_13 : decode cX4_all 13 = .ok (.invokestatic 55, 3) := by decide +kernel
theorem dX4_all_16 : decode cX4_all 16 = .ok (.ifCond .ne 6, 3) := by decide +kernel
theorem dX4_all_19 : decode cX4_all 19 = .ok (.bipush (-2), 2) := by decide +kernel
theorem dX4_all_21 : decode cX4_all 21 = .ok (.ireturn, 1) := by decide +kernel
theorem dX4_all_22 : decode cX4_all 22 = .ok (.aload_n 0, 1) := by decide +kernel
theorem dX4_all_23 : decode cX4_all 23 = .ok (.iload_n 1, 1) := by decide +kernel
theorem dX4_all_24 : decode cX4_all 24 = .ok (.invokevirtual 131, 3) := by decide +kernel
theorem dX4_all_27 : decode cX4_all 27 = .ok (.istore_n 3, 1) := by decide +kernel
theorem dX4_all_28 : decode cX4_all 28 = .ok (.iload_n 2, 1) := by decide +kernel
theorem dX4_all_29 : decode cX4_all 29 = .ok (.ifCond .ne 7, 3) := by decide +kernel
theorem dX4_all_32 : decode cX4_all 32 = .ok (.iload_n 3, 1) := by decide +kernel
theorem dX4_all_33 : decode cX4_all 33 = .ok (.goto 21, 3) := by decide +kernel
theorem dX4_all_36 : decode cX4_all 36 = .ok (.iload_n 2, 1) := by decide +kernel
theorem dX4_all_37 : decode cX4_all 37 = .ok (.iconst 1, 1) := by decide +kernel
theorem dX4_all_38 : decode cX4_all 38 = .ok (.if_icmp .ne 11, 3) := by decide +kernel
theorem dX4_all_41 : decode cX4_all 41 = .ok (.aload_n 0, 1) := by decide +kernel
theorem dX4_all_42 : decode cX4_all 42 = .ok (.iload_n 3, 1) := by decide +kernel
theorem dX4_all_43 : decode cX4_all 43 = .ok (.invokevirtual 134, 3) := by decide +kernel
theorem dX4_all_46 : decode cX4_all 46 = .ok (.goto 8, 3) := by decide +kernel
theorem dX4_all_49 : decode cX4_all 49 = .ok (.aload_n 0, 1) := by decide +kernel
theorem dX4_all_50 : decode cX4_all 50 = .ok (.iload_n 3, 1) := by decide +kernel
theorem dX4_all_51 : decode cX4_all 51 = .ok (.invokevirtual 139, 3) := by decide +kernel
theorem dX4_all_54 : decode cX4_all 54 = .ok (.ireturn, 1) := by decide +kernel
theorem dX4_why_0 : decode cX4_why 0 = .ok (.aload_n 0, 1) := by decide +kernel
theorem dX4_why_1 : decode cX4_why 1 = .ok (.iload_n 1, 1) := by decide +kernel
theorem dX4_why_2 : decode cX4_why 2 = .ok (.invokevirtual 71, 3) := by decide +kernel
theorem dX4_why_5 : decode cX4_why 5 = .ok (.ifCond .ne 5, 3) := by decide +kernel
theorem dX4_why_8 : decode cX4_why 8 = .ok (.iconst (-1), 1) := by decide +kernel
theorem dX4_why_9 : decode cX4_why 9 = .ok (.ireturn, 1) := by decide +kernel
theorem dX4_why_10 : decode cX4_why 10 = .ok (.iload_n 2, 1) := by decide +kernel
theorem dX4_why_11 : decode cX4_why 11 = .ok (.invokestatic 68, 3) := by decide +kernel
theorem dX4_why_14 : decode cX4_why 14 = .ok (.ifCond .ne 6, 3) := by decide +kernel
theorem dX4_why_17 : decode cX4_why 17 = .ok (.bipush (-2), 2) := by decide +kernel
theorem dX4_why_19 : decode cX4_why 19 = .ok (.ireturn, 1) := by decide +kernel
theorem dX4_why_20 : decode cX4_why 20 = .ok (.aload_n 0, 1) := by decide +kernel
theorem dX4_why_21 : decode cX4_why 21 = .ok (.iload_n 2, 1) := by decide +kernel
theorem dX4_why_22 : decode cX4_why 22 = .ok (.invokevirtual 142, 3) := by decide +kernel
theorem dX4_why_25 : decode cX4_why 25 = .ok (.iload_n 1, 1) := by decide +kernel
theorem dX4_why_26 : decode cX4_why 26 = .ok (.ishr, 1) := by decide +kernel
theorem dX4_why_27 : decode cX4_why 27 = .ok (.iconst 1, 1) := by decide +kernel
theorem dX4_why_28 : decode cX4_why 28 = .ok (.iand, 1) := by decide +kernel
theorem dX4_why_29 : decode cX4_why 29 = .ok (.iconst 1, 1) := by decide +kernel
theorem dX4_why_30 : decode cX4_why 30 = .ok (.if_icmp .ne 5, 3) := by decide +kernel
theorem dX4_why_33 : decode cX4_why 33 = .ok (.iconst 0, 1) := by decide +kernel
theorem dX4_why_34 : decode cX4_why 34 = .ok (.ireturn, 1) := by decide +kernel
theorem dX4_why_35 : decode cX4_why 35 = .ok (.aload_n 0, 1) := by decide +kernel
theorem dX4_why_36 : decode cX4_why 36 = .ok (.getfield 7, 3) := by decide +kernel
theorem dX4_why_39 : decode cX4_why 39 = .ok (.iload_n 1, 1) := by decide +kernel
theorem dX4_why_40 : decode cX4_why 40 = .ok (.iaload, 1) := by decide +kernel
theorem dX4_why_41 : decode cX4_why 41 = .ok (.iload_n 2, 1) := by decide +kernel
theorem dX4_why_42 : decode cX4_why 42 = .ok (.if_icmp .le 5, 3) := by decide +kernel
theorem dX4_why_45 : decode cX4_why 45 = .ok (.iconst 1, 1) := by decide +kernel
theorem dX4_why_46 : decode cX4_why 46 = .ok (.ireturn, 1) := by decide +kernel
theorem dX4_why_47 : decode cX4_why 47 = .ok (.aload_n 0, 1) := by decide +kernel
theorem dX4_why_48 : decode cX4_why 48 = .ok (.getfield 22, 3) := by decide +kernel
theorem dX4_why_51 : decode cX4_why 51 = .ok (.iload_n 1, 1) := by decide +kernel
theorem dX4_why_52 : decode cX4_why 52 = .ok (.iaload, 1) := by decide +kernel
theorem dX4_why_53 : decode cX4_why 53 = .ok (.iconst 1, 1) := by decide +kernel
theorem dX4_why_54 : decode cX4_why 54 = .ok (.if_icmp .ne 16, 3) := by decide +kernel
theorem dX4_why_57 : decode cX4_why 57 = .ok (.aload_n 0, 1) := by decide +kernel
theorem dX4_why_58 : decode cX4_why 58 = .ok (.iload_n 1, 1) := by decide +kernel
theorem dX4_why_59 : decode cX4_why 59 = .ok (.iload_n 2, 1) := by decide +kernel
theorem dX4_why_60 : decode cX4_why 60 = .ok (.invokevirtual 107, 3) := by decide +kernel
theorem dX4_why_63 : decode cX4_why 63 = .ok (.ifCond .ne 7, 3) := by decide +kernel
theorem dX4_why_66 : decode cX4_why 66 = .ok (.iconst 2, 1) := by decide +kernel
theorem dX4_why_67 : decode cX4_why 67 = .ok (.goto 17, 3) := by decide +kernel
theorem dX4_why_70 : decode cX4_why 70 = .ok (.aload_n 0, 1) := by decide +kernel
theorem dX4_why_71 : decode cX4_why 71 = .ok (.iload_n 1, 1) := by decide +kernel
theorem dX4_why_72 : decode cX4_why 72 = .ok (.iload_n 2, 1) := by decide +kernel
theorem dX4_why_73 : decode cX4_why 73 = .ok (.invokevirtual 118, 3) := by decide +kernel
theorem dX4_why_76 : decode cX4_why 76 = .ok (.ifCond .eq 7, 3) := by decide +kernel
theorem dX4_why_79 : decode cX4_why 79 = .ok (.iconst 3, 1) := by decide +kernel
theorem dX4_why_80 : decode cX4_why 80 = .ok (.goto 4, 3) := by decide +kernel
theorem dX4_why_83 : decode cX4_why 83 = .ok (.iconst 4, 1) := by decide +kernel
theorem dX4_why_84 : decode cX4_why 84 = .ok (.ireturn, 1) := by decide +kernel
theorem dX4_namedBy_0 : decode cX4_namedBy 0 = .ok (.iconst 0, 1) := by decide +kernel
theorem dX4_namedBy_1 : decode cX4_namedBy 1 = .ok (.istore_n 2, 1) := by decide +kernel
theorem dX4_namedBy_2 : decode cX4_namedBy 2 = .ok (.iconst 0, 1) := by decide +kernel
theorem dX4_namedBy_3 : decode cX4_namedBy 3 = .ok (.istore_n 3, 1) := by decide +kernel
theorem dX4_namedBy_4 : decode cX4_namedBy 4 = .ok (.iload_n 3, 1) := by decide +kernel
theorem dX4_namedBy_5 : decode cX4_namedBy 5 = .ok (.aload_n 0, 1) := by decide +kernel
theorem dX4_namedBy_6 : decode cX4_namedBy 6 = .ok (.getfield 34, 3) := by decide +kernel
theorem dX4_namedBy_9 : decode cX4_namedBy 9 = .ok (.iload_n 1, 1) := by decide +kernel
theorem dX4_namedBy_10 : decode cX4_namedBy 10 = .ok (.iaload, 1) := by decide +kernel
theorem dX4_namedBy_11 : decode cX4_namedBy 11 = .ok (.if_icmp .ge 23, 3) := by decide +kernel
theorem dX4_namedBy_14 : decode cX4_namedBy 14 = .ok (.iload_n 2, 1) := by decide +kernel
theorem dX4_namedBy_15 : decode cX4_namedBy 15 = .ok (.aload_n 0, 1) := by decide +kernel
theorem dX4_namedBy_16 : decode cX4_namedBy 16 = .ok (.getfield 31, 3) := by decide +kernel
theorem dX4_namedBy_19 : decode cX4_namedBy 19 = .ok (.bipush 20, 2) := by decide +kernel
theorem dX4_namedBy_21 : decode cX4_namedBy 21 = .ok (.iload_n 1, 1) := by decide +kernel
theorem dX4_namedBy_22 : decode cX4_namedBy 22 = .ok (.imul, 1) := by decide +kernel
theorem dX4_namedBy_23 : decode cX4_namedBy 23 = .ok (.iload_n 3, 1) := by decide +kernel
theorem dX4_namedBy_24 : decode cX4_namedBy 24 = .ok (.iadd, 1) := by decide +kernel
theorem dX4_namedBy_25 : decode cX4_namedBy 25 = .ok (.iaload, 1) := by decide +kernel
theorem dX4_namedBy_26 : decode cX4_namedBy 26 = .ok (.ior, 1) := by decide +kernel
theorem dX4_namedBy_27 : decode cX4_namedBy 27 = .ok (.istore_n 2, 1) := by decide +kernel
theorem dX4_namedBy_28 : decode cX4_namedBy 28 = .ok (.iinc 3 1, 3) := by decide +kernel
theorem dX4_namedBy_31 : decode cX4_namedBy 31 = .ok (.goto (-27), 3) := by decide +kernel
theorem dX4_namedBy_34 : decode cX4_namedBy 34 = .ok (.iload_n 2, 1) := by decide +kernel
theorem dX4_namedBy_35 : decode cX4_namedBy 35 = .ok (.iconst 1, 1) := by decide +kernel
theorem dX4_namedBy_36 : decode cX4_namedBy 36 = .ok (.aload_n 0, 1) := by decide +kernel
theorem dX4_namedBy_37 : decode cX4_namedBy 37 = .ok (.getfield 61, 3) := by decide +kernel
theorem dX4_namedBy_40 : decode cX4_namedBy 40 = .ok (.ishl, 1) := by decide +kernel
theorem dX4_namedBy_41 : decode cX4_namedBy 41 = .ok (.iconst 1, 1) := by decide +kernel
theorem dX4_namedBy_42 : decode cX4_namedBy 42 = .ok (.isub, 1) := by decide +kernel
theorem dX4_namedBy_43 : decode cX4_namedBy 43 = .ok (.iand, 1) := by decide +kernel
theorem dX4_namedBy_44 : decode cX4_namedBy 44 = .ok (.ireturn, 1) := by decide +kernel
theorem dX4_under_0 : decode cX4_under 0 = .ok (.aload_n 0, 1) := by decide +kernel
theorem dX4_under_1 : decode cX4_under 1 = .ok (.iload_n 1, 1) := by decide +kernel
theorem dX4_under_2 : decode cX4_under 2 = .ok (.invokevirtual 71, 3) := by decide +kernel
theorem dX4_under_5 : decode cX4_under 5 = .ok (.ifCond .ne 5, 3) := by decide +kernel
theorem dX4_under_8 : decode cX4_under 8 = .ok (.iconst (-1), 1) := by decide +kernel
theorem dX4_under_9 : decode cX4_under 9 = .ok (.ireturn, 1) := by decide +kernel
theorem dX4_under_10 : decode cX4_under 10 = .ok (.aload_n 0, 1) := by decide +kernel
theorem dX4_under_11 : decode cX4_under 11 = .ok (.iload_n 1, 1) := by decide +kernel
theorem dX4_under_12 : decode cX4_under 12 = .ok (.invokevirtual 145, 3) := by decide +kernel
theorem dX4_under_15 : decode cX4_under 15 = .ok (.istore_n 2, 1) := by decide +kernel
theorem dX4_under_16 : decode cX4_under 16 = .ok (.iconst 0, 1) := by decide +kernel
theorem dX4_under_17 : decode cX4_under 17 = .ok (.istore_n 3, 1) := by decide +kernel
theorem dX4_under_18 : decode cX4_under 18 = .ok (.iload_n 3, 1) := by decide +kernel
theorem dX4_under_19 : decode cX4_under 19 = .ok (.iload_n 2, 1) := by decide +kernel
theorem dX4_under_20 : decode cX4_under 20 = .ok (.if_icmp .eq 49, 3) := by decide +kernel
theorem dX4_under_23 : decode cX4_under 23 = .ok (.iload_n 2, 1) := by decide +kernel
theorem dX4_under_24 : decode cX4_under 24 = .ok (.istore_n 3, 1) := by decide +kernel
theorem dX4_under_25 : decode cX4_under 25 = .ok (.iconst 0, 1) := by decide +kernel
theorem dX4_under_26 : decode cX4_under 26 = .ok (.istore 4, 2) := by decide +kernel
theorem dX4_under_28 : decode cX4_under 28 = .ok (.iload 4, 2) := by decide +kernel
theorem dX4_under_30 : decode cX4_under 30 = .ok (.aload_n 0, 1) := by decide +kernel
theorem dX4_under_31 : decode cX4_under 31 = .ok (.getfield 61, 3) := by decide +kernel
theorem dX4_under_34 : decode cX4_under 34 = .ok (.if_icmp .ge 32, 3) := by decide +kernel
theorem dX4_under_37 : decode cX4_under 37 = .ok (.iload_n 2, 1) := by decide +kernel
theorem dX4_under_38 : decode cX4_under 38 = .ok (.iload_n 3, 1) := by decide +kernel
theorem dX4_under_39 : decode cX4_under 39 = .ok (.iload 4, 2) := by decide +kernel
theorem dX4_under_41 : decode cX4_under 41 = .ok (.ishr, 1) := by decide +kernel
theorem dX4_under_42 : decode cX4_under 42 = .ok (.iconst 1, 1) := by decide +kernel
theorem dX4_under_43 : decode cX4_under 43 = .ok (.iand, 1) := by decide +kernel
theorem dX4_under_44 : decode cX4_under 44 = .ok (.iconst 1, 1) := by decide +kernel
theorem dX4_under_45 : decode cX4_under 45 = .ok (.if_icmp .ne 12, 3) := by decide +kernel
theorem dX4_under_48 : decode cX4_under 48 = .ok (.aload_n 0, 1) := by decide +kernel
theorem dX4_under_49 : decode cX4_under 49 = .ok (.iload 4, 2) := by decide +kernel
theorem dX4_under_51 : decode cX4_under 51 = .ok (.invokevirtual 145, 3) := by decide +kernel
theorem dX4_under_54 : decode cX4_under 54 = .ok (.goto 4, 3) := by decide +kernel
theorem dX4_under_57 : decode cX4_under 57 = .ok (.iconst 0, 1) := by decide +kernel
theorem dX4_under_58 : decode cX4_under 58 = .ok (.ior, 1) := by decide +kernel
theorem dX4_under_59 : decode cX4_under 59 = .ok (.istore_n 2, 1) := by decide +kernel
theorem dX4_under_60 : decode cX4_under 60 = .ok (.iinc 4 1, 3) := by decide +kernel
theorem dX4_under_63 : decode cX4_under 63 = .ok (.goto (-35), 3) := by decide +kernel
theorem dX4_under_66 : decode cX4_under 66 = .ok (.goto (-48), 3) := by decide +kernel
theorem dX4_under_69 : decode cX4_under 69 = .ok (.iload_n 2, 1) := by decide +kernel
theorem dX4_under_70 : decode cX4_under 70 = .ok (.ireturn, 1) := by decide +kernel
theorem dX4_fallOf_0 : decode cX4_fallOf 0 = .ok (.aload_n 0, 1) := by decide +kernel
theorem dX4_fallOf_1 : decode cX4_fallOf 1 = .ok (.iload_n 2, 1) := by decide +kernel
theorem dX4_fallOf_2 : decode cX4_fallOf 2 = .ok (.invokevirtual 131, 3) := by decide +kernel
theorem dX4_fallOf_5 : decode cX4_fallOf 5 = .ok (.istore_n 3, 1) := by decide +kernel
theorem dX4_fallOf_6 : decode cX4_fallOf 6 = .ok (.aload_n 0, 1) := by decide +kernel
theorem dX4_fallOf_7 : decode cX4_fallOf 7 = .ok (.iload_n 3, 1) := by decide +kernel
theorem dX4_fallOf_8 : decode cX4_fallOf 8 = .ok (.invokevirtual 134, 3) := by decide +kernel
theorem dX4_fallOf_11 : decode cX4_fallOf 11 = .ok (.aload_n 0, 1) := by decide +kernel
theorem dX4_fallOf_12 : decode cX4_fallOf 12 = .ok (.iload_n 3, 1) := by decide +kernel
theorem dX4_fallOf_13 : decode cX4_fallOf 13 = .ok (.iconst 1, 1) := by decide +kernel
theorem dX4_fallOf_14 : decode cX4_fallOf 14 = .ok (.iload_n 1, 1) := by decide +kernel
theorem dX4_fallOf_15 : decode cX4_fallOf 15 = .ok (.ishl, 1) := by decide +kernel
theorem dX4_fallOf_16 : decode cX4_fallOf 16 = .ok (.iconst (-1), 1) := by decide +kernel
theorem dX4_fallOf_17 : decode cX4_fallOf 17 = .ok (.ixor, 1) := by decide +kernel
theorem dX4_fallOf_18 : decode cX4_fallOf 18 = .ok (.iand, 1) := by decide +kernel
theorem dX4_fallOf_19 : decode cX4_fallOf 19 = .ok (.invokevirtual 134, 3) := by decide +kernel
theorem dX4_fallOf_22 : decode cX4_fallOf 22 = .ok (.iconst (-1), 1) := by decide +kernel
theorem dX4_fallOf_23 : decode cX4_fallOf 23 = .ok (.ixor, 1) := by decide +kernel
theorem dX4_fallOf_24 : decode cX4_fallOf 24 = .ok (.iand, 1) := by decide +kernel
theorem dX4_fallOf_25 : decode cX4_fallOf 25 = .ok (.ireturn, 1) := by decide +kernel
theorem dX4_fall_0 : decode cX4_fall 0 = .ok (.aload_n 0, 1) := by decide +kernel
theorem dX4_fall_1 : decode cX4_fall 1 = .ok (.iload_n 1, 1) := by decide +kernel
theorem dX4_fall_2 : decode cX4_fall 2 = .ok (.invokevirtual 71, 3) := by decide +kernel
theorem dX4_fall_5 : decode cX4_fall 5 = .ok (.ifCond .eq 10, 3) := by decide +kernel
theorem dX4_fall_8 : decode cX4_fall 8 = .ok (.iload_n 2, 1) := by decide +kernel
theorem dX4_fall_9 : decode cX4_fall 9 = .ok (.invokestatic 64, 3) := by decide +kernel
theorem dX4_fall_12 : decode cX4_fall 12 = .ok (.ifCond .ne 5, 3) := by decide +kernel
theorem dX4_fall_15 : decode cX4_fall 15 = .ok (.iconst (-1), 1) := by decide +kernel
theorem dX4_fall_16 : decode cX4_fall 16 = .ok (.ireturn, 1) := by decide +kernel
theorem dX4_fall_17 : decode cX4_fall 17 = .ok (.iload_n 3, 1) := by decide +kernel
theorem dX4_fall_18 : decode cX4_fall 18 = .ok (.invokestatic 68, 3) := by decide +kernel
theorem dX4_fall_21 : decode cX4_fall 21 = .ok (.ifCond .ne 6, 3) := by decide +kernel
theorem dX4_fall_24 : decode cX4_fall 24 = .ok (.bipush (-2), 2) := by decide +kernel
theorem dX4_fall_26 : decode cX4_fall 26 = .ok (.ireturn, 1) := by decide +kernel
theorem dX4_fall_27 : decode cX4_fall 27 = .ok (.aload_n 0, 1) := by decide +kernel
theorem dX4_fall_28 : decode cX4_fall 28 = .ok (.iload_n 1, 1) := by decide +kernel
theorem dX4_fall_29 : decode cX4_fall 29 = .ok (.iload_n 2, 1) := by decide +kernel
theorem dX4_fall_30 : decode cX4_fall 30 = .ok (.iload_n 3, 1) := by decide +kernel
theorem dX4_fall_31 : decode cX4_fall 31 = .ok (.invokevirtual 111, 3) := by decide +kernel
theorem dX4_fall_34 : decode cX4_fall 34 = .ok (.ifCond .ne 6, 3) := by decide +kernel
theorem dX4_fall_37 : decode cX4_fall 37 = .ok (.bipush (-5), 2) := by decide +kernel
theorem dX4_fall_39 : decode cX4_fall 39 = .ok (.ireturn, 1) := by decide +kernel
theorem dX4_fall_40 : decode cX4_fall 40 = .ok (.aload_n 0, 1) := by decide +kernel
theorem dX4_fall_41 : decode cX4_fall 41 = .ok (.iload_n 3, 1) := by decide +kernel
theorem dX4_fall_42 : decode cX4_fall 42 = .ok (.invokevirtual 142, 3) := by decide +kernel
theorem dX4_fall_45 : decode cX4_fall 45 = .ok (.istore 5, 2) := by decide +kernel
theorem dX4_fall_47 : decode cX4_fall 47 = .ok (.iload 5, 2) := by decide +kernel
theorem dX4_fall_49 : decode cX4_fall 49 = .ok (.iconst 1, 1) := by decide +kernel
theorem dX4_fall_50 : decode cX4_fall 50 = .ok (.iload_n 1, 1) := by decide +kernel
theorem dX4_fall_51 : decode cX4_fall 51 = .ok (.ishl, 1) := by decide +kernel
theorem dX4_fall_52 : decode cX4_fall 52 = .ok (.iand, 1) := by decide +kernel
theorem dX4_fall_53 : decode cX4_fall 53 = .ok (.istore 6, 2) := by decide +kernel
theorem dX4_fall_55 : decode cX4_fall 55 = .ok (.iload 4, 2) := by decide +kernel
theorem dX4_fall_57 : decode cX4_fall 57 = .ok (.bipush (-2), 2) := by decide +kernel
theorem dX4_fall_59 : decode cX4_fall 59 = .ok (.if_icmp .ne 10, 3) := by decide +kernel
theorem dX4_fall_62 : decode cX4_fall 62 = .ok (.aload_n 0, 1) := by decide +kernel
theorem dX4_fall_63 : decode cX4_fall 63 = .ok (.iload_n 1, 1) := by decide +kernel
theorem dX4_fall_64 : decode cX4_fall 64 = .ok (.iload_n 3, 1) := by decide +kernel
theorem dX4_fall_65 : decode cX4_fall 65 = .ok (.invokevirtual 148, 3) := by decide +kernel
theorem dX4_fall_68 : decode cX4_fall 68 = .ok (.ireturn, 1) := by decide +kernel
theorem dX4_fall_69 : decode cX4_fall 69 = .ok (.iconst 0, 1) := by decide +kernel
theorem dX4_fall_70 : decode cX4_fall 70 = .ok (.istore 7, 2) := by decide +kernel
theorem dX4_fall_72 : decode cX4_fall 72 = .ok (.iload 6, 2) := by decide +kernel
theorem dX4_fall_74 : decode cX4_fall 74 = .ok (.ifCond .eq 36, 3) := by decide +kernel
theorem dX4_fall_77 : decode cX4_fall 77 = .ok (.iload 7, 2) := by decide +kernel
theorem dX4_fall_79 : decode cX4_fall 79 = .ok (.iload 4, 2) := by decide +kernel
theorem dX4_fall_81 : decode cX4_fall 81 = .ok (.if_icmp .ne 6, 3) := by decide +kernel
theorem dX4_fall_84 : decode cX4_fall 84 = .ok (.iload 6, 2) := by decide +kernel
theorem dX4_fall_86 : decode cX4_fall 86 = .ok (.ireturn, 1) := by decide +kernel
theorem dX4_fall_87 : decode cX4_fall 87 = .ok (.iinc 7 1, 3) := by decide +kernel
theorem dX4_fall_90 : decode cX4_fall 90 = .ok (.iload 5, 2) := by decide +kernel
theorem dX4_fall_92 : decode cX4_fall 92 = .ok (.iload 6, 2) := by decide +kernel
theorem dX4_fall_94 : decode cX4_fall 94 = .ok (.iconst (-1), 1) := by decide +kernel
theorem dX4_fall_95 : decode cX4_fall 95 = .ok (.ixor, 1) := by decide +kernel
theorem dX4_fall_96 : decode cX4_fall 96 = .ok (.iand, 1) := by decide +kernel
theorem dX4_fall_97 : decode cX4_fall 97 = .ok (.istore 5, 2) := by decide +kernel
theorem dX4_fall_99 : decode cX4_fall 99 = .ok (.aload_n 0, 1) := by decide +kernel
theorem dX4_fall_100 : decode cX4_fall 100 = .ok (.iload 5, 2) := by decide +kernel
theorem dX4_fall_102 : decode cX4_fall 102 = .ok (.invokevirtual 127, 3) := by decide +kernel
theorem dX4_fall_105 : decode cX4_fall 105 = .ok (.istore 6, 2) := by decide +kernel
theorem dX4_fall_107 : decode cX4_fall 107 = .ok (.goto (-35), 3) := by decide +kernel
theorem dX4_fall_110 : decode cX4_fall 110 = .ok (.iload 4, 2) := by decide +kernel
theorem dX4_fall_112 : decode cX4_fall 112 = .ok (.iconst (-1), 1) := by decide +kernel
theorem dX4_fall_113 : decode cX4_fall 113 = .ok (.if_icmp .ne 8, 3) := by decide +kernel
theorem dX4_fall_116 : decode cX4_fall 116 = .ok (.iload 7, 2) := by decide +kernel
theorem dX4_fall_118 : decode cX4_fall 118 = .ok (.goto 5, 3) := by decide +kernel
theorem dX4_fall_121 : decode cX4_fall 121 = .ok (.bipush (-6), 2) := by decide +kernel
theorem dX4_fall_123 : decode cX4_fall 123 = .ok (.ireturn, 1) := by decide +kernel
theorem dX4_backOf_0 : decode cX4_backOf 0 = .ok (.aload_n 0, 1) := by decide +kernel
theorem dX4_backOf_1 : decode cX4_backOf 1 = .ok (.iload_n 1, 1) := by decide +kernel
theorem dX4_backOf_2 : decode cX4_backOf 2 = .ok (.iload_n 2, 1) := by decide +kernel
theorem dX4_backOf_3 : decode cX4_backOf 3 = .ok (.invokevirtual 148, 3) := by decide +kernel
theorem dX4_backOf_6 : decode cX4_backOf 6 = .ok (.istore 4, 2) := by decide +kernel
theorem dX4_backOf_8 : decode cX4_backOf 8 = .ok (.iconst 0, 1) := by decide +kernel
theorem dX4_backOf_9 : decode cX4_backOf 9 = .ok (.istore 5, 2) := by decide +kernel
theorem dX4_backOf_11 : decode cX4_backOf 11 = .ok (.iconst 0, 1) := by decide +kernel
theorem dX4_backOf_12 : decode cX4_backOf 12 = .ok (.istore 6, 2) := by decide +kernel
theorem dX4_backOf_14 : decode cX4_backOf 14 = .ok (.iload 6, 2) := by decide +kernel
theorem dX4_backOf_16 : decode cX4_backOf 16 = .ok (.aload_n 0, 1) := by decide +kernel
theorem dX4_backOf_17 : decode cX4_backOf 17 = .ok (.getfield 61, 3) := by decide +kernel
theorem dX4_backOf_20 : decode cX4_backOf 20 = .ok (.if_icmp .ge 94, 3) := by decide +kernel
theorem dX4_backOf_23 : decode cX4_backOf 23 = .ok (.iload 4, 2) := by decide +kernel
theorem dX4_backOf_25 : decode cX4_backOf 25 = .ok (.iload 6, 2) := by decide +kernel
theorem dX4_backOf_27 : decode cX4_backOf 27 = .ok (.ishr, 1) := by decide +kernel
theorem dX4_backOf_28 : decode cX4_backOf 28 = .ok (.iconst 1, 1) := by decide +kernel
theorem dX4_backOf_29 : decode cX4_backOf 29 = .ok (.iand, 1) := by decide +kernel
theorem dX4_backOf_30 : decode cX4_backOf 30 = .ok (.iconst 1, 1) := by decide +kernel
theorem dX4_backOf_31 : decode cX4_backOf 31 = .ok (.if_icmp .ne 77, 3) := by decide +kernel
theorem dX4_backOf_34 : decode cX4_backOf 34 = .ok (.aload_n 0, 1) := by decide +kernel
theorem dX4_backOf_35 : decode cX4_backOf 35 = .ok (.getfield 19, 3) := by decide +kernel
theorem dX4_backOf_38 : decode cX4_backOf 38 = .ok (.iload 6, 2) := by decide +kernel
theorem dX4_backOf_40 : decode cX4_backOf 40 = .ok (.iaload, 1) := by decide +kernel
theorem dX4_backOf_41 : decode cX4_backOf 41 = .ok (.aload_n 0, 1) := by decide +kernel
theorem dX4_backOf_42 : decode cX4_backOf 42 = .ok (.getfield 19, 3) := by decide +kernel
theorem dX4_backOf_45 : decode cX4_backOf 45 = .ok (.iload 6, 2) := by decide +kernel
theorem dX4_backOf_47 : decode cX4_backOf 47 = .ok (.iaload, 1) := by decide +kernel
theorem dX4_backOf_48 : decode cX4_backOf 48 = .ok (.aload_n 0, 1) := by decide +kernel
theorem dX4_backOf_49 : decode cX4_backOf 49 = .ok (.getfield 49, 3) := by decide +kernel
theorem dX4_backOf_52 : decode cX4_backOf 52 = .ok (.imul, 1) := by decide +kernel
theorem dX4_backOf_53 : decode cX4_backOf 53 = .ok (.iload_n 2, 1) := by decide +kernel
theorem dX4_backOf_54 : decode cX4_backOf 54 = .ok (.aload_n 0, 1) := by decide +kernel
theorem dX4_backOf_55 : decode cX4_backOf 55 = .ok (.getfield 7, 3) := by decide +kernel
theorem dX4_backOf_58 : decode cX4_backOf 58 = .ok (.iload 6, 2) := by decide +kernel
theorem dX4_backOf_60 : decode cX4_backOf 60 = .ok (.iaload, 1) := by decide +kernel
theorem dX4_backOf_61 : decode cX4_backOf 61 = .ok (.isub, 1) := by decide +kernel
theorem dX4_backOf_62 : decode cX4_backOf 62 = .ok (.imul, 1) := by decide +kernel
theorem dX4_backOf_63 : decode cX4_backOf 63 = .ok (.bipush 100, 2) := by decide +kernel
theorem dX4_backOf_65 : decode cX4_backOf 65 = .ok (.idiv, 1) := by decide +kernel
theorem dX4_backOf_66 : decode cX4_backOf 66 = .ok (.iadd, 1) := by decide +kernel
theorem dX4_backOf_67 : decode cX4_backOf 67 = .ok (.istore 7, 2) := by decide +kernel
theorem dX4_backOf_69 : decode cX4_backOf 69 = .ok (.iload 5, 2) := by decide +kernel
theorem dX4_backOf_71 : decode cX4_backOf 71 = .ok (.aload_n 0, 1) := by decide +kernel
theorem dX4_backOf_72 : decode cX4_backOf 72 = .ok (.getfield 13, 3) := by decide +kernel
theorem dX4_backOf_75 : decode cX4_backOf 75 = .ok (.iload 6, 2) := by decide +kernel
theorem dX4_backOf_77 : decode cX4_backOf 77 = .ok (.iaload, 1) := by decide +kernel
theorem dX4_backOf_78 : decode cX4_backOf 78 = .ok (.iload_n 3, 1) := by decide +kernel
theorem dX4_backOf_79 : decode cX4_backOf 79 = .ok (.if_icmp .ne 8, 3) := by decide +kernel
theorem dX4_backOf_82 : decode cX4_backOf 82 = .ok (.iload 7, 2) := by decide +kernel
theorem dX4_backOf_84 : decode cX4_backOf 84 = .ok (.goto 21, 3) := by decide +kernel
theorem dX4_backOf_87 : decode cX4_backOf 87 = .ok (.aload_n 0, 1) := by decide +kernel
theorem dX4_backOf_88 : decode cX4_backOf 88 = .ok (.getfield 16, 3) := by decide +kernel
theorem dX4_backOf_91 : decode cX4_backOf 91 = .ok (.iload 6, 2) := by decide +kernel
theorem dX4_backOf_93 : decode cX4_backOf 93 = .ok (.iaload, 1) := by decide +kernel
theorem dX4_backOf_94 : decode cX4_backOf 94 = .ok (.iload_n 3, 1) := by decide +kernel
theorem dX4_backOf_95 : decode cX4_backOf 95 = .ok (.if_icmp .ne 9, 3) := by decide +kernel
theorem dX4_backOf_98 : decode cX4_backOf 98 = .ok (.iload 7, 2) := by decide +kernel
theorem dX4_backOf_100 : decode cX4_backOf 100 = .ok (.ineg, 1) := by decide +kernel
theorem dX4_backOf_101 : decode cX4_backOf 101 = .ok (.goto 4, 3) := by decide +kernel
theorem dX4_backOf_104 : decode cX4_backOf 104 = .ok (.iconst 0, 1) := by decide +kernel
theorem dX4_backOf_105 : decode cX4_backOf 105 = .ok (.iadd, 1) := by decide +kernel
theorem dX4_backOf_106 : decode cX4_backOf 106 = .ok (.istore 5, 2) := by decide +kernel
theorem dX4_backOf_108 : decode cX4_backOf 108 = .ok (.iinc 6 1, 3) := by decide +kernel
theorem dX4_backOf_111 : decode cX4_backOf 111 = .ok (.goto (-97), 3) := by decide +kernel
theorem dX4_backOf_114 : decode cX4_backOf 114 = .ok (.iload 5, 2) := by decide +kernel
theorem dX4_backOf_116 : decode cX4_backOf 116 = .ok (.ireturn, 1) := by decide +kernel
theorem dX4_back_0 : decode cX4_back 0 = .ok (.aload_n 0, 1) := by decide +kernel
theorem dX4_back_1 : decode cX4_back 1 = .ok (.iload_n 1, 1) := by decide +kernel
theorem dX4_back_2 : decode cX4_back 2 = .ok (.invokevirtual 71, 3) := by decide +kernel
theorem dX4_back_5 : decode cX4_back 5 = .ok (.ifCond .eq 18, 3) := by decide +kernel
theorem dX4_back_8 : decode cX4_back 8 = .ok (.iload_n 2, 1) := by decide +kernel
theorem dX4_back_9 : decode cX4_back 9 = .ok (.invokestatic 64, 3) := by decide +kernel
theorem dX4_back_12 : decode cX4_back 12 = .ok (.ifCond .eq 11, 3) := by decide +kernel
theorem dX4_back_15 : decode cX4_back 15 = .ok (.iload 4, 2) := by decide +kernel
theorem dX4_back_17 : decode cX4_back 17 = .ok (.invokestatic 64, 3) := by decide +kernel
theorem dX4_back_20 : decode cX4_back 20 = .ok (.ifCond .ne 6, 3) := by decide +kernel
theorem dX4_back_23 : decode cX4_back 23 = .ok (.ldc 152, 2) := by decide +kernel
theorem dX4_back_25 : decode cX4_back 25 = .ok (.ireturn, 1) := by decide +kernel
theorem dX4_back_26 : decode cX4_back 26 = .ok (.iload_n 3, 1) := by decide +kernel
theorem dX4_back_27 : decode cX4_back 27 = .ok (.invokestatic 68, 3) := by decide +kernel
theorem dX4_back_30 : decode cX4_back 30 = .ok (.ifCond .ne 6, 3) := by decide +kernel
theorem dX4_back_33 : decode cX4_back 33 = .ok (.ldc 153, 2) := by decide +kernel
theorem dX4_back_35 : decode cX4_back 35 = .ok (.ireturn, 1) := by decide +kernel
theorem dX4_back_36 : decode cX4_back 36 = .ok (.aload_n 0, 1) := by decide +kernel
theorem dX4_back_37 : decode cX4_back 37 = .ok (.iload_n 1, 1) := by decide +kernel
theorem dX4_back_38 : decode cX4_back 38 = .ok (.iload_n 2, 1) := by decide +kernel
theorem dX4_back_39 : decode cX4_back 39 = .ok (.iload_n 3, 1) := by decide +kernel
theorem dX4_back_40 : decode cX4_back 40 = .ok (.invokevirtual 111, 3) := by decide +kernel
theorem dX4_back_43 : decode cX4_back 43 = .ok (.ifCond .eq 14, 3) := by decide +kernel
theorem dX4_back_46 : decode cX4_back 46 = .ok (.aload_n 0, 1) := by decide +kernel
theorem dX4_back_47 : decode cX4_back 47 = .ok (.iload_n 1, 1) := by decide +kernel
theorem dX4_back_48 : decode cX4_back 48 = .ok (.iload_n 3, 1) := by decide +kernel
theorem dX4_back_49 : decode cX4_back 49 = .ok (.iload 4, 2) := by decide +kernel
theorem dX4_back_51 : decode cX4_back 51 = .ok (.invokevirtual 154, 3) := by decide +kernel
theorem dX4_back_54 : decode cX4_back 54 = .ok (.goto 5, 3) := by decide +kernel
theorem dX4_back_57 : decode cX4_back 57 = .ok (.ldc 158, 2) := by decide +kernel
theorem dX4_back_59 : decode cX4_back 59 = .ok (.ireturn, 1) := by decide +kernel
theorem dX4_wiseOf_0 : decode cX4_wiseOf 0 = .ok (.iconst 0, 1) := by decide +kernel
theorem dX4_wiseOf_1 : decode cX4_wiseOf 1 = .ok (.istore_n 3, 1) := by decide +kernel
theorem dX4_wiseOf_2 : decode cX4_wiseOf 2 = .ok (.iload_n 3, 1) := by decide +kernel
theorem dX4_wiseOf_3 : decode cX4_wiseOf 3 = .ok (.iconst 4, 1) := by decide +kernel
theorem dX4_wiseOf_4 : decode cX4_wiseOf 4 = .ok (.if_icmp .ge 31, 3) := by decide +kernel
theorem dX4_wiseOf_7 : decode cX4_wiseOf 7 = .ok (.aload_n 0, 1) := by decide +kernel
theorem dX4_wiseOf_8 : decode cX4_wiseOf 8 = .ok (.iload_n 1, 1) := by decide +kernel
theorem dX4_wiseOf_9 : decode cX4_wiseOf 9 = .ok (.iload_n 3, 1) := by decide +kernel
theorem dX4_wiseOf_10 : decode cX4_wiseOf 10 = .ok (.iload_n 2, 1) := by decide +kernel
theorem dX4_wiseOf_11 : decode cX4_wiseOf 11 = .ok (.invokevirtual 111, 3) := by decide +kernel
theorem dX4_wiseOf_14 : decode cX4_wiseOf 14 = .ok (.ifCond .eq 15, 3) := by decide +kernel
theorem dX4_wiseOf_17 : decode cX4_wiseOf 17 = .ok (.aload_n 0, 1) := by decide +kernel
theorem dX4_wiseOf_18 : decode cX4_wiseOf 18 = .ok (.iload_n 1, 1) := by decide +kernel
theorem dX4_wiseOf_19 : decode cX4_wiseOf 19 = .ok (.iload_n 2, 1) := by decide +kernel
theorem dX4_wiseOf_20 : decode cX4_wiseOf 20 = .ok (.iload_n 3, 1) := by decide +kernel
theorem dX4_wiseOf_21 : decode cX4_wiseOf 21 = .ok (.invokevirtual 154, 3) := by decide +kernel
theorem dX4_wiseOf_24 : decode cX4_wiseOf 24 = .ok (.ifCond .le 5, 3) := by decide +kernel
theorem dX4_wiseOf_27 : decode cX4_wiseOf 27 = .ok (.iload_n 3, 1) := by decide +kernel
theorem dX4_wiseOf_28 : decode cX4_wiseOf 28 = .ok (.ireturn, 1) := by decide +kernel
theorem dX4_wiseOf_29 : decode cX4_wiseOf 29 = .ok (.iinc 3 1, 3) := by decide +kernel
theorem dX4_wiseOf_32 : decode cX4_wiseOf 32 = .ok (.goto (-30), 3) := by decide +kernel
theorem dX4_wiseOf_35 : decode cX4_wiseOf 35 = .ok (.bipush (-6), 2) := by decide +kernel
theorem dX4_wiseOf_37 : decode cX4_wiseOf 37 = .ok (.ireturn, 1) := by decide +kernel
theorem dX4_wise_0 : decode cX4_wise 0 = .ok (.aload_n 0, 1) := by decide +kernel
theorem dX4_wise_1 : decode cX4_wise 1 = .ok (.iload_n 1, 1) := by decide +kernel
theorem dX4_wise_2 : decode cX4_wise 2 = .ok (.invokevirtual 71, 3) := by decide +kernel
theorem dX4_wise_5 : decode cX4_wise 5 = .ok (.ifCond .ne 5, 3) := by decide +kernel
theorem dX4_wise_8 : decode cX4_wise 8 = .ok (.iconst (-1), 1) := by decide +kernel
theorem dX4_wise_9 : decode cX4_wise 9 = .ok (.ireturn, 1) := by decide +kernel
theorem dX4_wise_10 : decode cX4_wise 10 = .ok (.iload_n 2, 1) := by decide +kernel
theorem dX4_wise_11 : decode cX4_wise 11 = .ok (.invokestatic 68, 3) := by decide +kernel
theorem dX4_wise_14 : decode cX4_wise 14 = .ok (.ifCond .eq 12, 3) := by decide +kernel
theorem dX4_wise_17 : decode cX4_wise 17 = .ok (.aload_n 0, 1) := by decide +kernel
theorem dX4_wise_18 : decode cX4_wise 18 = .ok (.iload_n 1, 1) := by decide +kernel
theorem dX4_wise_19 : decode cX4_wise 19 = .ok (.iload_n 2, 1) := by decide +kernel
theorem dX4_wise_20 : decode cX4_wise 20 = .ok (.invokevirtual 159, 3) := by decide +kernel
theorem dX4_wise_23 : decode cX4_wise 23 = .ok (.goto 5, 3) := by decide +kernel
theorem dX4_wise_26 : decode cX4_wise 26 = .ok (.bipush (-2), 2) := by decide +kernel
theorem dX4_wise_28 : decode cX4_wise 28 = .ok (.ireturn, 1) := by decide +kernel
theorem dX4_rest_0 : decode cX4_rest 0 = .ok (.iload_n 1, 1) := by decide +kernel
theorem dX4_rest_1 : decode cX4_rest 1 = .ok (.invokestatic 68, 3) := by decide +kernel
theorem dX4_rest_4 : decode cX4_rest 4 = .ok (.ifCond .eq 13, 3) := by decide +kernel
theorem dX4_rest_7 : decode cX4_rest 7 = .ok (.iload_n 2, 1) := by decide +kernel
theorem dX4_rest_8 : decode cX4_rest 8 = .ok (.i2l, 1) := by decide +kernel
theorem dX4_rest_9 : decode cX4_rest 9 = .ok (.lconst 0, 1) := by decide +kernel
theorem dX4_rest_10 : decode cX4_rest 10 = .ok (.lconst 1, 1) := by decide +kernel
theorem dX4_rest_11 : decode cX4_rest 11 = .ok (.invokestatic 55, 3) := by decide +kernel
theorem dX4_rest_14 : decode cX4_rest 14 = .ok (.ifCond .ne 6, 3) := by decide +kernel
theorem dX4_rest_17 : decode cX4_rest 17 = .ok (.bipush (-2), 2) := by decide +kernel
theorem dX4_rest_19 : decode cX4_rest 19 = .ok (.ireturn, 1) := by decide +kernel
theorem dX4_rest_20 : decode cX4_rest 20 = .ok (.iconst 0, 1) := by decide +kernel
theorem dX4_rest_21 : decode cX4_rest 21 = .ok (.istore_n 3, 1) := by decide +kernel
theorem dX4_rest_22 : decode cX4_rest 22 = .ok (.iconst 1, 1) := by decide +kernel
theorem dX4_rest_23 : decode cX4_rest 23 = .ok (.istore 4, 2) := by decide +kernel
theorem dX4_rest_25 : decode cX4_rest 25 = .ok (.iload 4, 2) := by decide +kernel
theorem dX4_rest_27 : decode cX4_rest 27 = .ok (.ifCond .eq 61, 3) := by decide +kernel
theorem dX4_rest_30 : decode cX4_rest 30 = .ok (.iconst 0, 1) := by decide +kernel
theorem dX4_rest_31 : decode cX4_rest 31 = .ok (.istore 4, 2) := by decide +kernel
theorem dX4_rest_33 : decode cX4_rest 33 = .ok (.iconst 0, 1) := by decide +kernel
theorem dX4_rest_34 : decode cX4_rest 34 = .ok (.istore 5, 2) := by decide +kernel
theorem dX4_rest_36 : decode cX4_rest 36 = .ok (.iload 5, 2) := by decide +kernel
theorem dX4_rest_38 : decode cX4_rest 38 = .ok (.aload_n 0, 1) := by decide +kernel
theorem dX4_rest_39 : decode cX4_rest 39 = .ok (.getfield 61, 3) := by decide +kernel
theorem dX4_rest_42 : decode cX4_rest 42 = .ok (.if_icmp .ge 43, 3) := by decide +kernel
theorem dX4_rest_45 : decode cX4_rest 45 = .ok (.iload 4, 2) := by decide +kernel
theorem dX4_rest_47 : decode cX4_rest 47 = .ok (.ifCond .ne 38, 3) := by decide +kernel
theorem dX4_rest_50 : decode cX4_rest 50 = .ok (.aload_n 0, 1) := by decide +kernel
theorem dX4_rest_51 : decode cX4_rest 51 = .ok (.iload 5, 2) := by decide +kernel
theorem dX4_rest_53 : decode cX4_rest 53 = .ok (.iload_n 1, 1) := by decide +kernel
theorem dX4_rest_54 : decode cX4_rest 54 = .ok (.invokevirtual 159, 3) := by decide +kernel
theorem dX4_rest_57 : decode cX4_rest 57 = .ok (.ifCond .lt 22, 3) := by decide +kernel
theorem dX4_rest_60 : decode cX4_rest 60 = .ok (.aload_n 0, 1) := by decide +kernel
theorem dX4_rest_61 : decode cX4_rest 61 = .ok (.dup, 1) := by decide +kernel
theorem dX4_rest_62 : decode cX4_rest 62 = .ok (.getfield 115, 3) := by decide +kernel
theorem dX4_rest_65 : decode cX4_rest 65 = .ok (.iconst 1, 1) := by decide +kernel
theorem dX4_rest_66 : decode cX4_rest 66 = .ok (.iload 5, 2) := by decide +kernel
theorem dX4_rest_68 : decode cX4_rest 68 = .ok (.ishl, 1) := by decide +kernel
theorem dX4_rest_69 : decode cX4_rest 69 = .ok (.ior, 1) := by decide +kernel
theorem dX4_rest_70 : decode cX4_rest 70 = .ok (.putfield 115, 3) := by decide +kernel
theorem dX4_rest_73 : decode cX4_rest 73 = .ok (.iinc 3 1, 3) := by decide +kernel
theorem dX4_rest_76 : decode cX4_rest 76 = .ok (.iconst 1, 1) := by decide +kernel
theorem dX4_rest_77 : decode cX4_rest 77 = .ok (.istore 4, 2) := by decide +kernel
theorem dX4_rest_79 : decode cX4_rest 79 = .ok (.iinc 5 1, 3) := by decide +kernel
theorem dX4_rest_82 : decode cX4_rest 82 = .ok (.goto (-46), 3) := by decide +kernel
theorem dX4_rest_85 : decode cX4_rest 85 = .ok (.goto (-60), 3) := by decide +kernel
theorem dX4_rest_88 : decode cX4_rest 88 = .ok (.aload_n 0, 1) := by decide +kernel
theorem dX4_rest_89 : decode cX4_rest 89 = .ok (.iload_n 1, 1) := by decide +kernel
theorem dX4_rest_90 : decode cX4_rest 90 = .ok (.invokevirtual 142, 3) := by decide +kernel
theorem dX4_rest_93 : decode cX4_rest 93 = .ok (.istore 5, 2) := by decide +kernel
theorem dX4_rest_95 : decode cX4_rest 95 = .ok (.aload_n 0, 1) := by decide +kernel
theorem dX4_rest_96 : decode cX4_rest 96 = .ok (.iconst 0, 1) := by decide +kernel
theorem dX4_rest_97 : decode cX4_rest 97 = .ok (.putfield 115, 3) := by decide +kernel
theorem dX4_rest_100 : decode cX4_rest 100 = .ok (.iload_n 2, 1) := by decide +kernel
theorem dX4_rest_101 : decode cX4_rest 101 = .ok (.ifCond .ne 7, 3) := by decide +kernel
theorem dX4_rest_104 : decode cX4_rest 104 = .ok (.iload_n 3, 1) := by decide +kernel
theorem dX4_rest_105 : decode cX4_rest 105 = .ok (.goto 5, 3) := by decide +kernel
theorem dX4_rest_108 : decode cX4_rest 108 = .ok (.iload 5, 2) := by decide +kernel
theorem dX4_rest_110 : decode cX4_rest 110 = .ok (.ireturn, 1) := by decide +kernel
theorem dX4_isSet_0 : decode cX4_isSet 0 = .ok (.iload_n 1, 1) := by decide +kernel
theorem dX4_isSet_1 : decode cX4_isSet 1 = .ok (.i2l, 1) := by decide +kernel
theorem dX4_isSet_2 : decode cX4_isSet 2 = .ok (.lconst 0, 1) := by decide +kernel
theorem dX4_isSet_3 : decode cX4_isSet 3 = .ok (.iconst 1, 1) := by decide +kernel
theorem dX4_isSet_4 : decode cX4_isSet 4 = .ok (.aload_n 0, 1) := by decide +kernel
theorem dX4_isSet_5 : decode cX4_isSet 5 = .ok (.getfield 61, 3) := by decide +kernel
theorem dX4_isSet_8 : decode cX4_isSet 8 = .ok (.ishl, 1) := by decide +kernel
theorem dX4_isSet_9 : decode cX4_isSet 9 = .ok (.iconst 1, 1) := by decide +kernel
theorem dX4_isSet_10 : decode cX4_isSet 10 = .ok (.isub, 1) := by decide +kernel
theorem dX4_isSet_11 : decode cX4_isSet 11 = .ok (.i2l, 1) := by decide +kernel
theorem dX4_isSet_12 : decode cX4_isSet 12 = .ok (.invokestatic 55, 3) := by decide +kernel
theorem dX4_isSet_15 : decode cX4_isSet 15 = .ok (.ireturn, 1) := by decide +kernel
theorem dX4_heal_0 : decode cX4_heal 0 = .ok (.aload_n 0, 1) := by decide +kernel
theorem dX4_heal_1 : decode cX4_heal 1 = .ok (.iload_n 1, 1) := by decide +kernel
theorem dX4_heal_2 : decode cX4_heal 2 = .ok (.invokevirtual 162, 3) := by decide +kernel
theorem dX4_heal_5 : decode cX4_heal 5 = .ok (.ifCond .eq 20, 3) := by decide +kernel
theorem dX4_heal_8 : decode cX4_heal 8 = .ok (.iload_n 2, 1) := by decide +kernel
theorem dX4_heal_9 : decode cX4_heal 9 = .ok (.invokestatic 68, 3) := by decide +kernel
theorem dX4_heal_12 : decode cX4_heal 12 = .ok (.ifCond .eq 13, 3) := by decide +kernel
theorem dX4_heal_15 : decode cX4_heal 15 = .ok (.iload_n 3, 1) := by decide +kernel
theorem dX4_heal_16 : decode cX4_heal 16 = .ok (.i2l, 1) := by decide +kernel
theorem dX4_heal_17 : decode cX4_heal 17 = .ok (.lconst 0, 1) := by decide +kernel
theorem dX4_heal_18 : decode cX4_heal 18 = .ok (.lconst 1, 1) := by decide +kernel
theorem dX4_heal_19 : decode cX4_heal 19 = .ok (.invokestatic 55, 3) := by decide +kernel
theorem dX4_heal_22 : decode cX4_heal 22 = .ok (.ifCond .ne 6, 3) := by decide +kernel
theorem dX4_heal_25 : decode cX4_heal 25 = .ok (.bipush (-2), 2) := by decide +kernel
theorem dX4_heal_27 : decode cX4_heal 27 = .ok (.ireturn, 1) := by decide +kernel
theorem dX4_heal_28 : decode cX4_heal 28 = .ok (.iconst 0, 1) := by decide +kernel
theorem dX4_heal_29 : decode cX4_heal 29 = .ok (.istore 4, 2) := by decide +kernel
theorem dX4_heal_31 : decode cX4_heal 31 = .ok (.iconst 0, 1) := by decide +kernel
theorem dX4_heal_32 : decode cX4_heal 32 = .ok (.istore 5, 2) := by decide +kernel
theorem dX4_heal_34 : decode cX4_heal 34 = .ok (.iload 5, 2) := by decide +kernel
theorem dX4_heal_36 : decode cX4_heal 36 = .ok (.aload_n 0, 1) := by decide +kernel
theorem dX4_heal_37 : decode cX4_heal 37 = .ok (.getfield 61, 3) := by decide +kernel
theorem dX4_heal_40 : decode cX4_heal 40 = .ok (.if_icmp .ge 32, 3) := by decide +kernel
theorem dX4_heal_43 : decode cX4_heal 43 = .ok (.iload 4, 2) := by decide +kernel
theorem dX4_heal_45 : decode cX4_heal 45 = .ok (.aload_n 0, 1) := by decide +kernel
theorem dX4_heal_46 : decode cX4_heal 46 = .ok (.getfield 22, 3) := by decide +kernel
theorem dX4_heal_49 : decode cX4_heal 49 = .ok (.iload 5, 2) := by decide +kernel
theorem dX4_heal_51 : decode cX4_heal 51 = .ok (.iaload, 1) := by decide +kernel
theorem dX4_heal_52 : decode cX4_heal 52 = .ok (.ifCond .le 10, 3) := by decide +kernel
theorem dX4_heal_55 : decode cX4_heal 55 = .ok (.iconst 1, 1) := by decide +kernel
theorem dX4_heal_56 : decode cX4_heal 56 = .ok (.iload 5, 2) := by decide +kernel
theorem dX4_heal_58 : decode cX4_heal 58 = .ok (.ishl, 1) := by decide +kernel
theorem dX4_heal_59 : decode cX4_heal 59 = .ok (.goto 4, 3) := by decide +kernel
theorem dX4_heal_62 : decode cX4_heal 62 = .ok (.iconst 0, 1) := by decide +kernel
theorem dX4_heal_63 : decode cX4_heal 63 = .ok (.ior, 1) := by decide +kernel
theorem dX4_heal_64 : decode cX4_heal 64 = .ok (.istore 4, 2) := by decide +kernel
theorem dX4_heal_66 : decode cX4_heal 66 = .ok (.iinc 5 1, 3) := by decide +kernel
theorem dX4_heal_69 : decode cX4_heal 69 = .ok (.goto (-35), 3) := by decide +kernel
theorem dX4_heal_72 : decode cX4_heal 72 = .ok (.bipush (-6), 2) := by decide +kernel
theorem dX4_heal_74 : decode cX4_heal 74 = .ok (.istore 5, 2) := by decide +kernel
theorem dX4_heal_76 : decode cX4_heal 76 = .ok (.iconst 0, 1) := by decide +kernel
theorem dX4_heal_77 : decode cX4_heal 77 = .ok (.istore 6, 2) := by decide +kernel
theorem dX4_heal_79 : decode cX4_heal 79 = .ok (.iload 6, 2) := by decide +kernel
theorem dX4_heal_81 : decode cX4_heal 81 = .ok (.iconst 1, 1) := by decide +kernel
theorem dX4_heal_82 : decode cX4_heal 82 = .ok (.aload_n 0, 1) := by decide +kernel
theorem dX4_heal_83 : decode cX4_heal 83 = .ok (.getfield 61, 3) := by decide +kernel
theorem dX4_heal_86 : decode cX4_heal 86 = .ok (.ishl, 1) := by decide +kernel
theorem dX4_heal_87 : decode cX4_heal 87 = .ok (.if_icmp .ge 76, 3) := by decide +kernel
theorem dX4_heal_90 : decode cX4_heal 90 = .ok (.iload 6, 2) := by decide +kernel
theorem dX4_heal_92 : decode cX4_heal 92 = .ok (.iload 4, 2) := by decide +kernel
theorem dX4_heal_94 : decode cX4_heal 94 = .ok (.iconst (-1), 1) := by decide +kernel
theorem dX4_heal_95 : decode cX4_heal 95 = .ok (.ixor, 1) := by decide +kernel
theorem dX4_heal_96 : decode cX4_heal 96 = .ok (.iand, 1) := by decide +kernel
theorem dX4_heal_97 : decode cX4_heal 97 = .ok (.ifCond .ne 25, 3) := by decide +kernel
theorem dX4_heal_100 : decode cX4_heal 100 = .ok (.iload 5, 2) := by decide +kernel
theorem dX4_heal_102 : decode cX4_heal 102 = .ok (.ifCond .lt 16, 3) := by decide +kernel
theorem dX4_heal_105 : decode cX4_heal 105 = .ok (.iload 6, 2) := by decide +kernel
theorem dX4_heal_107 : decode cX4_heal 107 = .ok (.invokestatic 165, 3) := by decide +kernel
theorem dX4_heal_110 : decode cX4_heal 110 = .ok (.iload 5, 2) := by decide +kernel
theorem dX4_heal_112 : decode cX4_heal 112 = .ok (.invokestatic 165, 3) := by decide +kernel
theorem dX4_heal_115 : decode cX4_heal 115 = .ok (.if_icmp .ge 7, 3) := by decide +kernel
theorem dX4_heal_118 : decode cX4_heal 118 = .ok (.iconst 1, 1) := by decide +kernel
theorem dX4_heal_119 : decode cX4_heal 119 = .ok (.goto 4, 3) := by decide +kernel
theorem dX4_heal_122 : decode cX4_heal 122 = .ok (.iconst 0, 1) := by decide +kernel
theorem dX4_heal_123 : decode cX4_heal 123 = .ok (.istore 7, 2) := by decide +kernel
theorem dX4_heal_125 : decode cX4_heal 125 = .ok (.iload 7, 2) := by decide +kernel
theorem dX4_heal_127 : decode cX4_heal 127 = .ok (.ifCond .eq 30, 3) := by decide +kernel
theorem dX4_heal_130 : decode cX4_heal 130 = .ok (.aload_n 0, 1) := by decide +kernel
theorem dX4_heal_131 : decode cX4_heal 131 = .ok (.iload 6, 2) := by decide +kernel
theorem dX4_heal_133 : decode cX4_heal 133 = .ok (.putfield 104, 3) := by decide +kernel
theorem dX4_heal_136 : decode cX4_heal 136 = .ok (.iload_n 1, 1) := by decide +kernel
theorem dX4_heal_137 : decode cX4_heal 137 = .ok (.aload_n 0, 1) := by decide +kernel
theorem dX4_heal_138 : decode cX4_heal 138 = .ok (.iload_n 2, 1) := by decide +kernel
theorem dX4_heal_139 : decode cX4_heal 139 = .ok (.invokevirtual 142, 3) := by decide +kernel
theorem dX4_heal_142 : decode cX4_heal 142 = .ok (.iconst (-1), 1) := by decide +kernel
theorem dX4_heal_143 : decode cX4_heal 143 = .ok (.ixor, 1) := by decide +kernel
theorem dX4_heal_144 : decode cX4_heal 144 = .ok (.iand, 1) := by decide +kernel
theorem dX4_heal_145 : decode cX4_heal 145 = .ok (.ifCond .ne 8, 3) := by decide +kernel
theorem dX4_heal_148 : decode cX4_heal 148 = .ok (.iload 6, 2) := by decide +kernel
theorem dX4_heal_150 : decode cX4_heal 150 = .ok (.goto 5, 3) := by decide +kernel
theorem dX4_heal_153 : decode cX4_heal 153 = .ok (.iload 5, 2) := by decide +kernel
theorem dX4_heal_155 : decode cX4_heal 155 = .ok (.istore 5, 2) := by decide +kernel
theorem dX4_heal_157 : decode cX4_heal 157 = .ok (.iinc 6 1, 3) := by decide +kernel
theorem dX4_heal_160 : decode cX4_heal 160 = .ok (.goto (-81), 3) := by decide +kernel
theorem dX4_heal_163 : decode cX4_heal 163 = .ok (.aload_n 0, 1) := by decide +kernel
theorem dX4_heal_164 : decode cX4_heal 164 = .ok (.iconst 0, 1) := by decide +kernel
theorem dX4_heal_165 : decode cX4_heal 165 = .ok (.putfield 104, 3) := by decide +kernel
theorem dX4_heal_168 : decode cX4_heal 168 = .ok (.iload 5, 2) := by decide +kernel
theorem dX4_heal_170 : decode cX4_heal 170 = .ok (.ifCond .ge 8, 3) := by decide +kernel
theorem dX4_heal_173 : decode cX4_heal 173 = .ok (.bipush (-5), 2) := by decide +kernel
theorem dX4_heal_175 : decode cX4_heal 175 = .ok (.goto 17, 3) := by decide +kernel
theorem dX4_heal_178 : decode cX4_heal 178 = .ok (.iload_n 3, 1) := by decide +kernel
theorem dX4_heal_179 : decode cX4_heal 179 = .ok (.ifCond .ne 8, 3) := by decide +kernel
theorem dX4_heal_182 : decode cX4_heal 182 = .ok (.iload 5, 2) := by decide +kernel
theorem dX4_heal_184 : decode cX4_heal 184 = .ok (.goto 8, 3) := by decide +kernel
theorem dX4_heal_187 : decode cX4_heal 187 = .ok (.iload 5, 2) := by decide +kernel
theorem dX4_heal_189 : decode cX4_heal 189 = .ok (.invokestatic 165, 3) := by decide +kernel
theorem dX4_heal_192 : decode cX4_heal 192 = .ok (.ireturn, 1) := by decide +kernel
theorem dX4_pillar_0 : decode cX4_pillar 0 = .ok (.iload_n 1, 1) := by decide +kernel
theorem dX4_pillar_1 : decode cX4_pillar 1 = .ok (.invokestatic 68, 3) := by decide +kernel
theorem dX4_pillar_4 : decode cX4_pillar 4 = .ok (.ifCond .eq 13, 3) := by decide +kernel
theorem dX4_pillar_7 : decode cX4_pillar 7 = .ok (.iload_n 2, 1) := by decide +kernel
theorem dX4_pillar_8 : decode cX4_pillar 8 = .ok (.i2l, 1) := by decide +kernel
theorem dX4_pillar_9 : decode cX4_pillar 9 = .ok (.lconst 0, 1) := by decide +kernel
theorem dX4_pillar_10 : decode cX4_pillar 10 = .ok (.lconst 1, 1) := by decide +kernel
theorem dX4_pillar_11 : decode cX4_pillar 11 = .ok (.invokestatic 55, 3) := by decide +kernel
theorem dX4_pillar_14 : decode cX4_pillar 14 = .ok (.ifCond .ne 6, 3) := by decide +kernel
theorem dX4_pillar_17 : decode cX4_pillar 17 = .ok (.bipush (-2), 2) := by decide +kernel
theorem dX4_pillar_19 : decode cX4_pillar 19 = .ok (.ireturn, 1) := by decide +kernel
theorem dX4_pillar_20 : decode cX4_pillar 20 = .ok (.aload_n 0, 1) := by decide +kernel
theorem dX4_pillar_21 : decode cX4_pillar 21 = .ok (.iload_n 1, 1) := by decide +kernel
theorem dX4_pillar_22 : decode cX4_pillar 22 = .ok (.invokevirtual 131, 3) := by decide +kernel
theorem dX4_pillar_25 : decode cX4_pillar 25 = .ok (.istore_n 3, 1) := by decide +kernel
theorem dX4_pillar_26 : decode cX4_pillar 26 = .ok (.aload_n 0, 1) := by decide +kernel
theorem dX4_pillar_27 : decode cX4_pillar 27 = .ok (.iload_n 3, 1) := by decide +kernel
theorem dX4_pillar_28 : decode cX4_pillar 28 = .ok (.invokevirtual 134, 3) := by decide +kernel
theorem dX4_pillar_31 : decode cX4_pillar 31 = .ok (.istore 4, 2) := by decide +kernel
theorem dX4_pillar_33 : decode cX4_pillar 33 = .ok (.bipush (-6), 2) := by decide +kernel
theorem dX4_pillar_35 : decode cX4_pillar 35 = .ok (.istore 5, 2) := by decide +kernel
theorem dX4_pillar_37 : decode cX4_pillar 37 = .ok (.iconst 0, 1) := by decide +kernel
theorem dX4_pillar_38 : decode cX4_pillar 38 = .ok (.istore 6, 2) := by decide +kernel
theorem dX4_pillar_40 : decode cX4_pillar 40 = .ok (.iconst 0, 1) := by decide +kernel
theorem dX4_pillar_41 : decode cX4_pillar 41 = .ok (.istore 7, 2) := by decide +kernel
theorem dX4_pillar_43 : decode cX4_pillar 43 = .ok (.iload 7, 2) := by decide +kernel
theorem dX4_pillar_45 : decode cX4_pillar 45 = .ok (.aload_n 0, 1) := by decide +kernel
theorem dX4_pillar_46 : decode cX4_pillar 46 = .ok (.getfield 61, 3) := by decide +kernel
theorem dX4_pillar_49 : decode cX4_pillar 49 = .ok (.if_icmp .ge 64, 3) := by decide +kernel
theorem dX4_pillar_52 : decode cX4_pillar 52 = .ok (.iload 4, 2) := by decide +kernel
theorem dX4_pillar_54 : decode cX4_pillar 54 = .ok (.iload 7, 2) := by decide +kernel
theorem dX4_pillar_56 : decode cX4_pillar 56 = .ok (.ishr, 1) := by decide +kernel
theorem dX4_pillar_57 : decode cX4_pillar 57 = .ok (.iconst 1, 1) := by decide +kernel
theorem dX4_pillar_58 : decode cX4_pillar 58 = .ok (.iand, 1) := by decide +kernel
theorem dX4_pillar_59 : decode cX4_pillar 59 = .ok (.iconst 1, 1) := by decide +kernel
theorem dX4_pillar_60 : decode cX4_pillar 60 = .ok (.if_icmp .ne 47, 3) := by decide +kernel
theorem dX4_pillar_63 : decode cX4_pillar 63 = .ok (.iload 4, 2) := by decide +kernel
theorem dX4_pillar_65 : decode cX4_pillar 65 = .ok (.aload_n 0, 1) := by decide +kernel
theorem dX4_pillar_66 : decode cX4_pillar 66 = .ok (.iload_n 3, 1) := by decide +kernel
theorem dX4_pillar_67 : decode cX4_pillar 67 = .ok (.iconst 1, 1) := by decide +kernel
theorem dX4_pillar_68 : decode cX4_pillar 68 = .ok (.iload 7, 2) := by decide +kernel
theorem dX4_pillar_70 : decode cX4_pillar 70 = .ok (.ishl, 1) := by decide +kernel
theorem dX4_pillar_71 : decode cX4_pillar 71 = .ok (.iconst (-1), 1) := by decide +kernel
theorem dX4_pillar_72 : decode cX4_pillar 72 = .ok (.ixor, 1) := by decide +kernel
theorem dX4_pillar_73 : decode cX4_pillar 73 = .ok (.iand, 1) := by decide +kernel
theorem dX4_pillar_74 : decode cX4_pillar 74 = .ok (.invokevirtual 134, 3) := by decide +kernel
theorem dX4_pillar_77 : decode cX4_pillar 77 = .ok (.iconst (-1), 1) := by decide +kernel
theorem dX4_pillar_78 : decode cX4_pillar 78 = .ok (.ixor, 1) := by decide +kernel
theorem dX4_pillar_79 : decode cX4_pillar 79 = .ok (.iand, 1) := by decide +kernel
theorem dX4_pillar_80 : decode cX4_pillar 80 = .ok (.invokestatic 165, 3) := by decide +kernel
theorem dX4_pillar_83 : decode cX4_pillar 83 = .ok (.iconst 1, 1) := by decide +kernel
theorem dX4_pillar_84 : decode cX4_pillar 84 = .ok (.isub, 1) := by decide +kernel
theorem dX4_pillar_85 : decode cX4_pillar 85 = .ok (.istore 8, 2) := by decide +kernel
theorem dX4_pillar_87 : decode cX4_pillar 87 = .ok (.iload 5, 2) := by decide +kernel
theorem dX4_pillar_89 : decode cX4_pillar 89 = .ok (.ifCond .lt 10, 3) := by decide +kernel
theorem dX4_pillar_92 : decode cX4_pillar 92 = .ok (.iload 8, 2) := by decide +kernel
theorem dX4_pillar_94 : decode cX4_pillar 94 = .ok (.iload 6, 2) := by decide +kernel
theorem dX4_pillar_96 : decode cX4_pillar 96 = .ok (.if_icmp .le 11, 3) := by decide +kernel
theorem dX4_pillar_99 : decode cX4_pillar 99 = .ok (.iload 7, 2) := by decide +kernel
theorem dX4_pillar_101 : decode cX4_pillar 101 = .ok (.istore 5, 2) := by decide +kernel
theorem dX4_pillar_103 : decode cX4_pillar 103 = .ok (.iload 8, 2) := by decide +kernel
theorem dX4_pillar_105 : decode cX4_pillar 105 = .ok (.istore 6, 2) := by decide +kernel
theorem dX4_pillar_107 : decode cX4_pillar 107 = .ok (.iinc 7 1, 3) := by decide +kernel
theorem dX4_pillar_110 : decode cX4_pillar 110 = .ok (.goto (-67), 3) := by decide +kernel
theorem dX4_pillar_113 : decode cX4_pillar 113 = .ok (.iload_n 2, 1) := by decide +kernel
theorem dX4_pillar_114 : decode cX4_pillar 114 = .ok (.ifCond .ne 8, 3) := by decide +kernel
theorem dX4_pillar_117 : decode cX4_pillar 117 = .ok (.iload 5, 2) := by decide +kernel
theorem dX4_pillar_119 : decode cX4_pillar 119 = .ok (.goto 5, 3) := by decide +kernel
theorem dX4_pillar_122 : decode cX4_pillar 122 = .ok (.iload 6, 2) := by decide +kernel
theorem dX4_pillar_124 : decode cX4_pillar 124 = .ok (.ireturn, 1) := by decide +kernel
theorem dX4_hangs_0 : decode cX4_hangs 0 = .ok (.aload_n 0, 1) := by decide +kernel
theorem dX4_hangs_1 : decode cX4_hangs 1 = .ok (.iload_n 1, 1) := by decide +kernel
theorem dX4_hangs_2 : decode cX4_hangs 2 = .ok (.invokevirtual 71, 3) := by decide +kernel
theorem dX4_hangs_5 : decode cX4_hangs 5 = .ok (.ifCond .ne 5, 3) := by decide +kernel
theorem dX4_hangs_8 : decode cX4_hangs 8 = .ok (.iconst (-1), 1) := by decide +kernel
theorem dX4_hangs_9 : decode cX4_hangs 9 = .ok (.ireturn, 1) := by decide +kernel
theorem dX4_hangs_10 : decode cX4_hangs 10 = .ok (.iload_n 2, 1) := by decide +kernel
theorem dX4_hangs_11 : decode cX4_hangs 11 = .ok (.invokestatic 68, 3) := by decide +kernel
theorem dX4_hangs_14 : decode cX4_hangs 14 = .ok (.ifCond .eq 11, 3) := by decide +kernel
theorem dX4_hangs_17 : decode cX4_hangs 17 = .ok (.aload_n 0, 1) := by decide +kernel
theorem dX4_hangs_18 : decode cX4_hangs 18 = .ok (.iload_n 3, 1) := by decide +kernel
theorem dX4_hangs_19 : decode cX4_hangs 19 = .ok (.invokevirtual 162, 3) := by decide +kernel
theorem dX4_hangs_22 : decode cX4_hangs 22 = .ok (.ifCond .ne 6, 3) := by decide +kernel
theorem dX4_hangs_25 : decode cX4_hangs 25 = .ok (.bipush (-2), 2) := by decide +kernel
theorem dX4_hangs_27 : decode cX4_hangs 27 = .ok (.ireturn, 1) := by decide +kernel
theorem dX4_hangs_28 : decode cX4_hangs 28 = .ok (.aload_n 0, 1) := by decide +kernel
theorem dX4_hangs_29 : decode cX4_hangs 29 = .ok (.getfield 78, 3) := by decide +kernel
theorem dX4_hangs_32 : decode cX4_hangs 32 = .ok (.istore 4, 2) := by decide +kernel
theorem dX4_hangs_34 : decode cX4_hangs 34 = .ok (.iconst 0, 1) := by decide +kernel
theorem dX4_hangs_35 : decode cX4_hangs 35 = .ok (.istore 5, 2) := by decide +kernel
theorem dX4_hangs_37 : decode cX4_hangs 37 = .ok (.iconst 1, 1) := by decide +kernel
theorem dX4_hangs_38 : decode cX4_hangs 38 = .ok (.istore 6, 2) := by decide +kernel
theorem dX4_hangs_40 : decode cX4_hangs 40 = .ok (.aload_n 0, 1) := by decide +kernel
theorem dX4_hangs_41 : decode cX4_hangs 41 = .ok (.iload_n 2, 1) := by decide +kernel
theorem dX4_hangs_42 : decode cX4_hangs 42 = .ok (.invokevirtual 131, 3) := by decide +kernel
theorem dX4_hangs_45 : decode cX4_hangs 45 = .ok (.istore 7, 2) := by decide +kernel
theorem dX4_hangs_47 : decode cX4_hangs 47 = .ok (.iconst 0, 1) := by decide +kernel
theorem dX4_hangs_48 : decode cX4_hangs 48 = .ok (.istore 8, 2) := by decide +kernel
theorem dX4_hangs_50 : decode cX4_hangs 50 = .ok (.iconst 1, 1) := by decide +kernel
theorem dX4_hangs_51 : decode cX4_hangs 51 = .ok (.istore 9, 2) := by decide +kernel
theorem dX4_hangs_53 : decode cX4_hangs 53 = .ok (.iload 9, 2) := by decide +kernel
theorem dX4_hangs_55 : decode cX4_hangs 55 = .ok (.ifCond .eq 94, 3) := by decide +kernel
theorem dX4_hangs_58 : decode cX4_hangs 58 = .ok (.aload_n 0, 1) := by decide +kernel
theorem dX4_hangs_59 : decode cX4_hangs 59 = .ok (.iload 4, 2) := by decide +kernel
theorem dX4_hangs_61 : decode cX4_hangs 61 = .ok (.iload_n 3, 1) := by decide +kernel
theorem dX4_hangs_62 : decode cX4_hangs 62 = .ok (.iconst (-1), 1) := by decide +kernel
theorem dX4_hangs_63 : decode cX4_hangs 63 = .ok (.ixor, 1) := by decide +kernel
theorem dX4_hangs_64 : decode cX4_hangs 64 = .ok (.iand, 1) := by decide +kernel
theorem dX4_hangs_65 : decode cX4_hangs 65 = .ok (.iload 8, 2) := by decide +kernel
theorem dX4_hangs_67 : decode cX4_hangs 67 = .ok (.ior, 1) := by decide +kernel
theorem dX4_hangs_68 : decode cX4_hangs 68 = .ok (.putfield 78, 3) := by decide +kernel
theorem dX4_hangs_71 : decode cX4_hangs 71 = .ok (.aload_n 0, 1) := by decide +kernel
theorem dX4_hangs_72 : decode cX4_hangs 72 = .ok (.iload 7, 2) := by decide +kernel
theorem dX4_hangs_74 : decode cX4_hangs 74 = .ok (.invokevirtual 134, 3) := by decide +kernel
theorem dX4_hangs_77 : decode cX4_hangs 77 = .ok (.iload_n 1, 1) := by decide +kernel
theorem dX4_hangs_78 : decode cX4_hangs 78 = .ok (.ishr, 1) := by decide +kernel
theorem dX4_hangs_79 : decode cX4_hangs 79 = .ok (.iconst 1, 1) := by decide +kernel
theorem dX4_hangs_80 : decode cX4_hangs 80 = .ok (.iand, 1) := by decide +kernel
theorem dX4_hangs_81 : decode cX4_hangs 81 = .ok (.iconst 1, 1) := by decide +kernel
theorem dX4_hangs_82 : decode cX4_hangs 82 = .ok (.if_icmp .ne 7, 3) := by decide +kernel
theorem dX4_hangs_85 : decode cX4_hangs 85 = .ok (.iconst 1, 1) := by decide +kernel
theorem dX4_hangs_86 : decode cX4_hangs 86 = .ok (.goto 4, 3) := by decide +kernel
theorem dX4_hangs_89 : decode cX4_hangs 89 = .ok (.iconst 0, 1) := by decide +kernel
theorem dX4_hangs_90 : decode cX4_hangs 90 = .ok (.istore 10, 2) := by decide +kernel
theorem dX4_hangs_92 : decode cX4_hangs 92 = .ok (.iload 5, 2) := by decide +kernel
theorem dX4_hangs_94 : decode cX4_hangs 94 = .ok (.ifCond .ne 8, 3) := by decide +kernel
theorem dX4_hangs_97 : decode cX4_hangs 97 = .ok (.iload 10, 2) := by decide +kernel
theorem dX4_hangs_99 : decode cX4_hangs 99 = .ok (.ifCond .eq 7, 3) := by decide +kernel
theorem dX4_hangs_102 : decode cX4_hangs 102 = .ok (.iconst 1, 1) := by decide +kernel
theorem dX4_hangs_103 : decode cX4_hangs 103 = .ok (.goto 4, 3) := by decide +kernel
theorem dX4_hangs_106 : decode cX4_hangs 106 = .ok (.iconst 0, 1) := by decide +kernel
theorem dX4_hangs_107 : decode cX4_hangs 107 = .ok (.istore 5, 2) := by decide +kernel
theorem dX4_hangs_109 : decode cX4_hangs 109 = .ok (.iload 6, 2) := by decide +kernel
theorem dX4_hangs_111 : decode cX4_hangs 111 = .ok (.ifCond .eq 12, 3) := by decide +kernel
theorem dX4_hangs_114 : decode cX4_hangs 114 = .ok (.iload 10, 2) := by decide +kernel
theorem dX4_hangs_116 : decode cX4_hangs 116 = .ok (.ifCond .eq 7, 3) := by decide +kernel
theorem dX4_hangs_119 : decode cX4_hangs 119 = .ok (.iconst 1, 1) := by decide +kernel
theorem dX4_hangs_120 : decode cX4_hangs 120 = .ok (.goto 4, 3) := by decide +kernel
theorem dX4_hangs_123 : decode cX4_hangs 123 = .ok (.iconst 0, 1) := by decide +kernel
theorem dX4_hangs_124 : decode cX4_hangs 124 = .ok (.istore 6, 2) := by decide +kernel
theorem dX4_hangs_126 : decode cX4_hangs 126 = .ok (.iload 8, 2) := by decide +kernel
theorem dX4_hangs_128 : decode cX4_hangs 128 = .ok (.iload_n 3, 1) := by decide +kernel
theorem dX4_hangs_129 : decode cX4_hangs 129 = .ok (.isub, 1) := by decide +kernel
theorem dX4_hangs_130 : decode cX4_hangs 130 = .ok (.iload_n 3, 1) := by decide +kernel
theorem dX4_hangs_131 : decode cX4_hangs 131 = .ok (.iand, 1) := by decide +kernel
theorem dX4_hangs_132 : decode cX4_hangs 132 = .ok (.istore 8, 2) := by decide +kernel
theorem dX4_hangs_134 : decode cX4_hangs 134 = .ok (.iload 8, 2) := by decide +kernel
theorem dX4_hangs_136 : decode cX4_hangs 136 = .ok (.ifCond .eq 7, 3) := by decide +kernel
theorem dX4_hangs_139 : decode cX4_hangs 139 = .ok (.iconst 1, 1) := by decide +kernel
theorem dX4_hangs_140 : decode cX4_hangs 140 = .ok (.goto 4, 3) := by decide +kernel
theorem dX4_hangs_143 : decode cX4_hangs 143 = .ok (.iconst 0, 1) := by decide +kernel
theorem dX4_hangs_144 : decode cX4_hangs 144 = .ok (.istore 9, 2) := by decide +kernel
theorem dX4_hangs_146 : decode cX4_hangs 146 = .ok (.goto (-93), 3) := by decide +kernel
theorem dX4_hangs_149 : decode cX4_hangs 149 = .ok (.aload_n 0, 1) := by decide +kernel
theorem dX4_hangs_150 : decode cX4_hangs 150 = .ok (.iload 4, 2) := by decide +kernel
theorem dX4_hangs_152 : decode cX4_hangs 152 = .ok (.putfield 78, 3) := by decide +kernel
theorem dX4_hangs_155 : decode cX4_hangs 155 = .ok (.iload 6, 2) := by decide +kernel
theorem dX4_hangs_157 : decode cX4_hangs 157 = .ok (.ifCond .eq 7, 3) := by decide +kernel
theorem dX4_hangs_160 : decode cX4_hangs 160 = .ok (.iconst 2, 1) := by decide +kernel
theorem dX4_hangs_161 : decode cX4_hangs 161 = .ok (.goto 13, 3) := by decide +kernel
theorem dX4_hangs_164 : decode cX4_hangs 164 = .ok (.iload 5, 2) := by decide +kernel
theorem dX4_hangs_166 : decode cX4_hangs 166 = .ok (.ifCond .eq 7, 3) := by decide +kernel
theorem dX4_hangs_169 : decode cX4_hangs 169 = .ok (.iconst 1, 1) := by decide +kernel
theorem dX4_hangs_170 : decode cX4_hangs 170 = .ok (.goto 4, 3) := by decide +kernel
theorem dX4_hangs_173 : decode cX4_hangs 173 = .ok (.iconst 0, 1) := by decide +kernel
theorem dX4_hangs_174 : decode cX4_hangs 174 = .ok (.ireturn, 1) := by decide +kernel
theorem dX4_isSafeOn_0 : decode cX4_isSafeOn 0 = .ok (.aload_n 0, 1) := by decide +kernel
theorem dX4_isSafeOn_1 : decode cX4_isSafeOn 1 = .ok (.iload_n 2, 1) := by decide +kernel
theorem dX4_isSafeOn_2 : decode cX4_isSafeOn 2 = .ok (.invokevirtual 131, 3) := by decide +kernel
theorem dX4_isSafeOn_5 : decode cX4_isSafeOn 5 = .ok (.istore_n 3, 1) := by decide +kernel
theorem dX4_isSafeOn_6 : decode cX4_isSafeOn 6 = .ok (.aload_n 0, 1) := by decide +kernel
theorem dX4_isSafeOn_7 : decode cX4_isSafeOn 7 = .ok (.iload_n 3, 1) := by decide +kernel
theorem dX4_isSafeOn_8 : decode cX4_isSafeOn 8 = .ok (.invokevirtual 134, 3) := by decide +kernel
theorem dX4_isSafeOn_11 : decode cX4_isSafeOn 11 = .ok (.iload_n 1, 1) := by decide +kernel
theorem dX4_isSafeOn_12 : decode cX4_isSafeOn 12 = .ok (.ishr, 1) := by decide +kernel
theorem dX4_isSafeOn_13 : decode cX4_isSafeOn 13 = .ok (.iconst 1, 1) := by decide +kernel
theorem dX4_isSafeOn_14 : decode cX4_isSafeOn 14 = .ok (.iand, 1) := by decide +kernel
theorem dX4_isSafeOn_15 : decode cX4_isSafeOn 15 = .ok (.iconst 1, 1) := by decide +kernel
theorem dX4_isSafeOn_16 : decode cX4_isSafeOn 16 = .ok (.if_icmp .ne 7, 3) := by decide +kernel
theorem dX4_isSafeOn_19 : decode cX4_isSafeOn 19 = .ok (.iconst 1, 1) := by decide +kernel
theorem dX4_isSafeOn_20 : decode cX4_isSafeOn 20 = .ok (.goto 4, 3) := by decide +kernel
theorem dX4_isSafeOn_23 : decode cX4_isSafeOn 23 = .ok (.iconst 0, 1) := by decide +kernel
theorem dX4_isSafeOn_24 : decode cX4_isSafeOn 24 = .ok (.istore 4, 2) := by decide +kernel
theorem dX4_isSafeOn_26 : decode cX4_isSafeOn 26 = .ok (.iconst 0, 1) := by decide +kernel
theorem dX4_isSafeOn_27 : decode cX4_isSafeOn 27 = .ok (.istore 5, 2) := by decide +kernel
theorem dX4_isSafeOn_29 : decode cX4_isSafeOn 29 = .ok (.iload 5, 2) := by decide +kernel
theorem dX4_isSafeOn_31 : decode cX4_isSafeOn 31 = .ok (.aload_n 0, 1) := by decide +kernel
theorem dX4_isSafeOn_32 : decode cX4_isSafeOn 32 = .ok (.getfield 61, 3) := by decide +kernel
theorem dX4_isSafeOn_35 : decode cX4_isSafeOn 35 = .ok (.if_icmp .ge 88, 3) := by decide +kernel
theorem dX4_isSafeOn_38 : decode cX4_isSafeOn 38 = .ok (.iload 4, 2) := by decide +kernel
theorem dX4_isSafeOn_40 : decode cX4_isSafeOn 40 = .ok (.ifCond .eq 83, 3) := by decide +kernel
theorem dX4_isSafeOn_43 : decode cX4_isSafeOn 43 = .ok (.iconst 0, 1) := by decide +kernel
theorem dX4_isSafeOn_44 : decode cX4_isSafeOn 44 = .ok (.istore 6, 2) := by decide +kernel
theorem dX4_isSafeOn_46 : decode cX4_isSafeOn 46 = .ok (.iconst 0, 1) := by decide +kernel
theorem dX4_isSafeOn_47 : decode cX4_isSafeOn 47 = .ok (.istore 7, 2) := by decide +kernel
theorem dX4_isSafeOn_49 : decode cX4_isSafeOn 49 = .ok (.iload 7, 2) := by decide +kernel
theorem dX4_isSafeOn_51 : decode cX4_isSafeOn 51 = .ok (.iconst 4, 1) := by decide +kernel
theorem dX4_isSafeOn_52 : decode cX4_isSafeOn 52 = .ok (.if_icmp .ge 33, 3) := by decide +kernel
theorem dX4_isSafeOn_55 : decode cX4_isSafeOn 55 = .ok (.iload 6, 2) := by decide +kernel
theorem dX4_isSafeOn_57 : decode cX4_isSafeOn 57 = .ok (.ifCond .ne 15, 3) := by decide +kernel
theorem dX4_isSafeOn_60 : decode cX4_isSafeOn 60 = .ok (.aload_n 0, 1) := by decide +kernel
theorem dX4_isSafeOn_61 : decode cX4_isSafeOn 61 = .ok (.iload 5, 2) := by decide +kernel
theorem dX4_isSafeOn_63 : decode cX4_isSafeOn 63 = .ok (.iload 7, 2) := by decide +kernel
theorem dX4_isSafeOn_65 : decode cX4_isSafeOn 65 = .ok (.iload_n 2, 1) := by decide +kernel
theorem dX4_isSafeOn_66 : decode cX4_isSafeOn 66 = .ok (.invokevirtual 111, 3) := by decide +kernel
theorem dX4_isSafeOn_69 : decode cX4_isSafeOn 69 = .ok (.ifCond .eq 7, 3) := by decide +kernel
theorem dX4_isSafeOn_72 : decode cX4_isSafeOn 72 = .ok (.iconst 1, 1) := by decide +kernel
theorem dX4_isSafeOn_73 : decode cX4_isSafeOn 73 = .ok (.goto 4, 3) := by decide +kernel
theorem dX4_isSafeOn_76 : decode cX4_isSafeOn 76 = .ok (.iconst 0, 1) := by decide +kernel
theorem dX4_isSafeOn_77 : decode cX4_isSafeOn 77 = .ok (.istore 6, 2) := by decide +kernel
theorem dX4_isSafeOn_79 : decode cX4_isSafeOn 79 = .ok (.iinc 7 1, 3) := by decide +kernel
theorem dX4_isSafeOn_82 : decode cX4_isSafeOn 82 = .ok (.goto (-33), 3) := by decide +kernel
theorem dX4_isSafeOn_85 : decode cX4_isSafeOn 85 = .ok (.iload 6, 2) := by decide +kernel
theorem dX4_isSafeOn_87 : decode cX4_isSafeOn 87 = .ok (.ifCond .eq 23, 3) := by decide +kernel
theorem dX4_isSafeOn_90 : decode cX4_isSafeOn 90 = .ok (.aload_n 0, 1) := by decide +kernel
theorem dX4_isSafeOn_91 : decode cX4_isSafeOn 91 = .ok (.iload_n 3, 1) := by decide +kernel
theorem dX4_isSafeOn_92 : decode cX4_isSafeOn 92 = .ok (.iconst 1, 1) := by decide +kernel
theorem dX4_isSafeOn_93 : decode cX4_isSafeOn 93 = .ok (.iload 5, 2) := by decide +kernel
theorem dX4_isSafeOn_95 : decode cX4_isSafeOn 95 = .ok (.ishl, 1) := by decide +kernel
theorem dX4_isSafeOn_96 : decode cX4_isSafeOn 96 = .ok (.iconst (-1), 1) := by decide +kernel
theorem dX4_isSafeOn_97 : decode cX4_isSafeOn 97 = .ok (.ixor, 1) := by decide +kernel
theorem dX4_isSafeOn_98 : decode cX4_isSafeOn 98 = .ok (.iand, 1) := by decide +kernel
theorem dX4_isSafeOn_99 : decode cX4_isSafeOn 99 = .ok (.invokevirtual 134, 3) := by decide +kernel
theorem dX4_isSafeOn_102 : decode cX4_isSafeOn 102 = .ok (.iload_n 1, 1) := by decide +kernel
theorem dX4_isSafeOn_103 : decode cX4_isSafeOn 103 = .ok (.ishr, 1) := by decide +kernel
theorem dX4_isSafeOn_104 : decode cX4_isSafeOn 104 = .ok (.iconst 1, 1) := by decide +kernel
theorem dX4_isSafeOn_105 : decode cX4_isSafeOn 105 = .ok (.iand, 1) := by decide +kernel
theorem dX4_isSafeOn_106 : decode cX4_isSafeOn 106 = .ok (.iconst 1, 1) := by decide +kernel
theorem dX4_isSafeOn_107 : decode cX4_isSafeOn 107 = .ok (.if_icmp .ne 7, 3) := by decide +kernel
theorem dX4_isSafeOn_110 : decode cX4_isSafeOn 110 = .ok (.iconst 1, 1) := by decide +kernel
theorem dX4_isSafeOn_111 : decode cX4_isSafeOn 111 = .ok (.goto 4, 3) := by decide +kernel
theorem dX4_isSafeOn_114 : decode cX4_isSafeOn 114 = .ok (.iconst 0, 1) := by decide +kernel
theorem dX4_isSafeOn_115 : decode cX4_isSafeOn 115 = .ok (.istore 4, 2) := by decide +kernel
theorem dX4_isSafeOn_117 : decode cX4_isSafeOn 117 = .ok (.iinc 5 1, 3) := by decide +kernel
theorem dX4_isSafeOn_120 : decode cX4_isSafeOn 120 = .ok (.goto (-91), 3) := by decide +kernel
theorem dX4_isSafeOn_123 : decode cX4_isSafeOn 123 = .ok (.iload 4, 2) := by decide +kernel
theorem dX4_isSafeOn_125 : decode cX4_isSafeOn 125 = .ok (.ireturn, 1) := by decide +kernel
theorem dX4_safe_0 : decode cX4_safe 0 = .ok (.aload_n 0, 1) := by decide +kernel
theorem dX4_safe_1 : decode cX4_safe 1 = .ok (.iload_n 1, 1) := by decide +kernel
theorem dX4_safe_2 : decode cX4_safe 2 = .ok (.invokevirtual 71, 3) := by decide +kernel
theorem dX4_safe_5 : decode cX4_safe 5 = .ok (.ifCond .ne 5, 3) := by decide +kernel
theorem dX4_safe_8 : decode cX4_safe 8 = .ok (.iconst (-1), 1) := by decide +kernel
theorem dX4_safe_9 : decode cX4_safe 9 = .ok (.ireturn, 1) := by decide +kernel
theorem dX4_safe_10 : decode cX4_safe 10 = .ok (.bipush 100, 2) := by decide +kernel
theorem dX4_safe_12 : decode cX4_safe 12 = .ok (.istore_n 2, 1) := by decide +kernel
theorem dX4_safe_13 : decode cX4_safe 13 = .ok (.iload_n 2, 1) := by decide +kernel
theorem dX4_safe_14 : decode cX4_safe 14 = .ok (.aload_n 0, 1) := by decide +kernel
theorem dX4_safe_15 : decode cX4_safe 15 = .ok (.getfield 7, 3) := by decide +kernel
theorem dX4_safe_18 : decode cX4_safe 18 = .ok (.iload_n 1, 1) := by decide +kernel
theorem dX4_safe_19 : decode cX4_safe 19 = .ok (.iaload, 1) := by decide +kernel
theorem dX4_safe_20 : decode cX4_safe 20 = .ok (.if_icmp .le 20, 3) := by decide +kernel
theorem dX4_safe_23 : decode cX4_safe 23 = .ok (.aload_n 0, 1) := by decide +kernel
theorem dX4_safe_24 : decode cX4_safe 24 = .ok (.iload_n 1, 1) := by decide +kernel
theorem dX4_safe_25 : decode cX4_safe 25 = .ok (.iload_n 2, 1) := by decide +kernel
theorem dX4_safe_26 : decode cX4_safe 26 = .ok (.iconst 1, 1) := by decide +kernel
theorem dX4_safe_27 : decode cX4_safe 27 = .ok (.isub, 1) := by decide +kernel
theorem dX4_safe_28 : decode cX4_safe 28 = .ok (.invokevirtual 168, 3) := by decide +kernel
theorem dX4_safe_31 : decode cX4_safe 31 = .ok (.ifCond .eq 9, 3) := by decide +kernel
theorem dX4_safe_34 : decode cX4_safe 34 = .ok (.iinc 2 (-1), 3) := by decide +kernel
theorem dX4_safe_37 : decode cX4_safe 37 = .ok (.goto (-24), 3) := by decide +kernel
theorem dX4_safe_40 : decode cX4_safe 40 = .ok (.iload_n 2, 1) := by decide +kernel
theorem dX4_safe_41 : decode cX4_safe 41 = .ok (.bipush 99, 2) := by decide +kernel
theorem dX4_safe_43 : decode cX4_safe 43 = .ok (.if_icmp .le 8, 3) := by decide +kernel
theorem dX4_safe_46 : decode cX4_safe 46 = .ok (.bipush (-6), 2) := by decide +kernel
theorem dX4_safe_48 : decode cX4_safe 48 = .ok (.goto 4, 3) := by decide +kernel
theorem dX4_safe_51 : decode cX4_safe 51 = .ok (.iload_n 2, 1) := by decide +kernel
theorem dX4_safe_52 : decode cX4_safe 52 = .ok (.ireturn, 1) := by decide +kernel
theorem dX4_beside_0 : decode cX4_beside 0 = .ok (.iload_n 1, 1) := by decide +kernel
theorem dX4_beside_1 : decode cX4_beside 1 = .ok (.invokestatic 68, 3) := by decide +kernel
theorem dX4_beside_4 : decode cX4_beside 4 = .ok (.ifCond .ne 6, 3) := by decide +kernel
theorem dX4_beside_7 : decode cX4_beside 7 = .ok (.bipush (-2), 2) := by decide +kernel
theorem dX4_beside_9 : decode cX4_beside 9 = .ok (.ireturn, 1) := by decide +kernel
theorem dX4_beside_10 : decode cX4_beside 10 = .ok (.aload_n 0, 1) := by decide +kernel
theorem dX4_beside_11 : decode cX4_beside 11 = .ok (.getfield 83, 3) := by decide +kernel
theorem dX4_beside_14 : decode cX4_beside 14 = .ok (.istore_n 2, 1) := by decide +kernel
theorem dX4_beside_15 : decode cX4_beside 15 = .ok (.aload_n 0, 1) := by decide +kernel
theorem dX4_beside_16 : decode cX4_beside 16 = .ok (.iload_n 1, 1) := by decide +kernel
theorem dX4_beside_17 : decode cX4_beside 17 = .ok (.invokevirtual 131, 3) := by decide +kernel
theorem dX4_beside_20 : decode cX4_beside 20 = .ok (.istore_n 3, 1) := by decide +kernel
theorem dX4_beside_21 : decode cX4_beside 21 = .ok (.aload_n 0, 1) := by decide +kernel
theorem dX4_beside_22 : decode cX4_beside 22 = .ok (.iconst 0, 1) := by decide +kernel
theorem dX4_beside_23 : decode cX4_beside 23 = .ok (.putfield 83, 3) := by decide +kernel
theorem dX4_beside_26 : decode cX4_beside 26 = .ok (.aload_n 0, 1) := by decide +kernel
theorem dX4_beside_27 : decode cX4_beside 27 = .ok (.iload_n 3, 1) := by decide +kernel
theorem dX4_beside_28 : decode cX4_beside 28 = .ok (.invokevirtual 134, 3) := by decide +kernel
theorem dX4_beside_31 : decode cX4_beside 31 = .ok (.istore 4, 2) := by decide +kernel
theorem dX4_beside_33 : decode cX4_beside 33 = .ok (.aload_n 0, 1) := by decide +kernel
theorem dX4_beside_34 : decode cX4_beside 34 = .ok (.iconst 1, 1) := by decide +kernel
theorem dX4_beside_35 : decode cX4_beside 35 = .ok (.putfield 83, 3) := by decide +kernel
theorem dX4_beside_38 : decode cX4_beside 38 = .ok (.aload_n 0, 1) := by decide +kernel
theorem dX4_beside_39 : decode cX4_beside 39 = .ok (.iload_n 3, 1) := by decide +kernel
theorem dX4_beside_40 : decode cX4_beside 40 = .ok (.invokevirtual 134, 3) := by decide +kernel
theorem dX4_beside_43 : decode cX4_beside 43 = .ok (.istore 5, 2) := by decide +kernel
theorem dX4_beside_45 : decode cX4_beside 45 = .ok (.aload_n 0, 1) := by decide +kernel
theorem dX4_beside_46 : decode cX4_beside 46 = .ok (.iload_n 2, 1) := by decide +kernel
theorem dX4_beside_47 : decode cX4_beside 47 = .ok (.putfield 83, 3) := by decide +kernel
theorem dX4_beside_50 : decode cX4_beside 50 = .ok (.iload 4, 2) := by decide +kernel
theorem dX4_beside_52 : decode cX4_beside 52 = .ok (.iload 5, 2) := by decide +kernel
theorem dX4_beside_54 : decode cX4_beside 54 = .ok (.ixor, 1) := by decide +kernel
theorem dX4_beside_55 : decode cX4_beside 55 = .ok (.ireturn, 1) := by decide +kernel
theorem dX4_told_0 : decode cX4_told 0 = .ok (.iload_n 1, 1) := by decide +kernel
theorem dX4_told_1 : decode cX4_told 1 = .ok (.i2l, 1) := by decide +kernel
theorem dX4_told_2 : decode cX4_told 2 = .ok (.ldc2_w 171, 3) := by decide +kernel
theorem dX4_told_5 : decode cX4_told 5 = .ok (.ldc2_w 173, 3) := by decide +kernel
theorem dX4_told_8 : decode cX4_told 8 = .ok (.invokestatic 55, 3) := by decide +kernel
theorem dX4_told_11 : decode cX4_told 11 = .ok (.ifCond .eq 28, 3) := by decide +kernel
theorem dX4_told_14 : decode cX4_told 14 = .ok (.aload_n 0, 1) := by decide +kernel
theorem dX4_told_15 : decode cX4_told 15 = .ok (.iload_n 1, 1) := by decide +kernel
theorem dX4_told_16 : decode cX4_told 16 = .ok (.bipush 10, 2) := by decide +kernel
theorem dX4_told_18 : decode cX4_told 18 = .ok (.isub, 1) := by decide +kernel
theorem dX4_told_19 : decode cX4_told 19 = .ok (.invokevirtual 71, 3) := by decide +kernel
theorem dX4_told_22 : decode cX4_told 22 = .ok (.ifCond .eq 15, 3) := by decide +kernel
theorem dX4_told_25 : decode cX4_told 25 = .ok (.aload_n 0, 1) := by decide +kernel
theorem dX4_told_26 : decode cX4_told 26 = .ok (.getfield 34, 3) := by decide +kernel
theorem dX4_told_29 : decode cX4_told 29 = .ok (.iload_n 1, 1) := by decide +kernel
theorem dX4_told_30 : decode cX4_told 30 = .ok (.bipush 10, 2) := by decide +kernel
theorem dX4_told_32 : decode cX4_told 32 = .ok (.isub, 1) := by decide +kernel
theorem dX4_told_33 : decode cX4_told 33 = .ok (.iaload, 1) := by decide +kernel
theorem dX4_told_34 : decode cX4_told 34 = .ok (.goto 4, 3) := by decide +kernel
theorem dX4_told_37 : decode cX4_told 37 = .ok (.iconst 0, 1) := by decide +kernel
theorem dX4_told_38 : decode cX4_told 38 = .ok (.ireturn, 1) := by decide +kernel
theorem dX4_told_39 : decode cX4_told 39 = .ok (.iload_n 1, 1) := by decide +kernel
theorem dX4_told_40 : decode cX4_told 40 = .ok (.tableswitch 61 0 4 #[36, 41, 46, 51, 56], 36) := by decide +kernel
theorem dX4_told_76 : decode cX4_told 76 = .ok (.aload_n 0, 1) := by decide +kernel
theorem dX4_told_77 : decode cX4_told 77 = .ok (.getfield 61, 3) := by decide +kernel
theorem dX4_told_80 : decode cX4_told 80 = .ok (.ireturn, 1) := by decide +kernel
theorem dX4_told_81 : decode cX4_told 81 = .ok (.aload_n 0, 1) := by decide +kernel
theorem dX4_told_82 : decode cX4_told 82 = .ok (.getfield 101, 3) := by decide +kernel
theorem dX4_told_85 : decode cX4_told 85 = .ok (.ireturn, 1) := by decide +kernel
theorem dX4_told_86 : decode cX4_told 86 = .ok (.aload_n 0, 1) := by decide +kernel
theorem dX4_told_87 : decode cX4_told 87 = .ok (.getfield 90, 3) := by decide +kernel
theorem dX4_told_90 : decode cX4_told 90 = .ok (.ireturn, 1) := by decide +kernel
theorem dX4_told_91 : decode cX4_told 91 = .ok (.aload_n 0, 1) := by decide +kernel
theorem dX4_told_92 : decode cX4_told 92 = .ok (.getfield 83, 3) := by decide +kernel
theorem dX4_told_95 : decode cX4_told 95 = .ok (.ireturn, 1) := by decide +kernel
theorem dX4_told_96 : decode cX4_told 96 = .ok (.aload_n 0, 1) := by decide +kernel
theorem dX4_told_97 : decode cX4_told 97 = .ok (.getfield 49, 3) := by decide +kernel
theorem dX4_told_100 : decode cX4_told 100 = .ok (.ireturn, 1) := by decide +kernel
theorem dX4_told_101 : decode cX4_told 101 = .ok (.bipush (-2), 2) := by decide +kernel
theorem dX4_told_103 : decode cX4_told 103 = .ok (.ireturn, 1) := by decide +kernel
end
section
theorem dL_law_0 : decode cL_law 0 = .ok (.new 7, 3) := by decide +kernel
theorem dL_law_3 : decode cL_law 3 = .ok (.dup, 1) := by decide +kernel
theorem dL_law_4 : decode cL_law 4 = .ok (.invokespecial 9, 3) := by decide +kernel
theorem dL_law_7 : decode cL_law 7 = .ok (.astore_n 1, 1) := by decide +kernel
theorem dL_law_8 : decode cL_law 8 = .ok (.new 10, 3) := by decide +kernel
theorem dL_law_11 : decode cL_law 11 = .ok (.dup, 1) := by decide +kernel
theorem dL_law_12 : decode cL_law 12 = .ok (.invokespecial 12, 3) := by decide +kernel
theorem dL_law_15 : decode cL_law 15 = .ok (.astore_n 2, 1) := by decide +kernel
theorem dL_law_16 : decode cL_law 16 = .ok (.iconst 0, 1) := by decide +kernel
theorem dL_law_17 : decode cL_law 17 = .ok (.istore_n 3, 1) := by decide +kernel
theorem dL_law_18 : decode cL_law 18 = .ok (.iload_n 3, 1) := by decide +kernel
theorem dL_law_19 : decode cL_law 19 = .ok (.aload_n 0, 1) := by decide +kernel
theorem dL_law_20 : decode cL_law 20 = .ok (.arraylength, 1) := by decide +kernel
theorem dL_law_21 : decode cL_law 21 = .ok (.iconst 5, 1) := by decide +kernel
theorem dL_law_22 : decode cL_law 22 = .ok (.isub, 1) := by decide +kernel
theorem dL_law_23 : decode cL_law 23 = .ok (.if_icmp .gt 879, 3) := by decide +kernel
theorem dL_law_26 : decode cL_law 26 = .ok (.aload_n 0, 1) := by decide +kernel
theorem dL_law_27 : decode cL_law 27 = .ok (.iload_n 3, 1) := by decide +kernel
theorem dL_law_28 : decode cL_law 28 = .ok (.iaload, 1) := by decide +kernel
theorem dL_law_29 : decode cL_law 29 = .ok (.bipush 31, 2) := by decide +kernel
theorem dL_law_31 : decode cL_law 31 = .ok (.iand, 1) := by decide +kernel
theorem dL_law_32 : decode cL_law 32 = .ok (.tableswitch 864 0 23 #[112, 165, 208, 241, 264, 277, 290, 313, 336, 379, 402, 415, 448, 481, 504, 557, 610, 643, 676, 719, 752, 795, 818, 841], 112) := by decide +kernel
theorem dL_law_144 : decode cL_law 144 = .ok (.aload_n 1, 1) := by decide +kernel
theorem dL_law_145 : decode cL_law 145 = .ok (.aload_n 0, 1) := by decide +kernel
theorem dL_law_146 : decode cL_law 146 = .ok (.iload_n 3, 1) := by decide +kernel
theorem dL_law_147 : decode cL_law 147 = .ok (.iconst 1, 1) := by decide +kernel
theorem dL_law_148 : decode cL_law 148 = .ok (.iadd, 1) := by decide +kernel
theorem dL_law_149 : decode cL_law 149 = .ok (.iaload, 1) := by decide +kernel
theorem dL_law_150 : decode cL_law 150 = .ok (.aload_n 0, 1) := by decide +kernel
theorem dL_law_151 : decode cL_law 151 = .ok (.iload_n 3, 1) := by decide +kernel
theorem dL_law_152 : decode cL_law 152 = .ok (.iconst 2, 1) := by decide +kernel
theorem dL_law_153 : decode cL_law 153 = .ok (.iadd, 1) := by decide +kernel
theorem dL_law_154 : decode cL_law 154 = .ok (.iaload, 1) := by decide +kernel
theorem dL_law_155 : decode cL_law 155 = .ok (.aload_n 0, 1) := by decide +kernel
theorem dL_law_156 : decode cL_law 156 = .ok (.iload_n 3, 1) := by decide +kernel
theorem dL_law_157 : decode cL_law 157 = .ok (.iconst 3, 1) := by decide +kernel
theorem dL_law_158 : decode cL_law 158 = .ok (.iadd, 1) := by decide +kernel
theorem dL_law_159 : decode cL_law 159 = .ok (.iaload, 1) := by decide +kernel
theorem dL_law_160 : decode cL_law 160 = .ok (.aload_n 0, 1) := by decide +kernel
theorem dL_law_161 : decode cL_law 161 = .ok (.iload_n 3, 1) := by decide +kernel
theorem dL_law_162 : decode cL_law 162 = .ok (.iconst 4, 1) := by decide +kernel
theorem dL_law_163 : decode cL_law 163 = .ok (.iadd, 1) := by decide +kernel
theorem dL_law_164 : decode cL_law 164 = .ok (.iaload, 1) := by decide +kernel
theorem dL_law_165 : decode cL_law 165 = .ok (.invokevirtual 13, 3) := by decide +kernel
theorem dL_law_168 : decode cL_law 168 = .ok (.aload_n 2, 1) := by decide +kernel
theorem dL_law_169 : decode cL_law 169 = .ok (.aload_n 0, 1) := by decide +kernel
theorem dL_law_170 : decode cL_law 170 = .ok (.iload_n 3, 1) := by decide +kernel
theorem dL_law_171 : decode cL_law 171 = .ok (.iconst 1, 1) := by decide +kernel
theorem dL_law_172 : decode cL_law 172 = .ok (.iadd, 1) := by decide +kernel
theorem dL_law_173 : decode cL_law 173 = .ok (.iaload, 1) := by decide +kernel
theorem dL_law_174 : decode cL_law 174 = .ok (.aload_n 0, 1) := by decide +kernel
theorem dL_law_175 : decode cL_law 175 = .ok (.iload_n 3, 1) := by decide +kernel
theorem dL_law_176 : decode cL_law 176 = .ok (.iconst 2, 1) := by decide +kernel
theorem dL_law_177 : decode cL_law 177 = .ok (.iadd, 1) := by decide +kernel
theorem dL_law_178 : decode cL_law 178 = .ok (.iaload, 1) := by decide +kernel
theorem dL_law_179 : decode cL_law 179 = .ok (.aload_n 0, 1) := by decide +kernel
theorem dL_law_180 : decode cL_law 180 = .ok (.iload_n 3, 1) := by decide +kernel
theorem dL_law_181 : decode cL_law 181 = .ok (.iconst 3, 1) := by decide +kernel
theorem dL_law_182 : decode cL_law 182 = .ok (.iadd, 1) := by decide +kernel
theorem dL_law_183 : decode cL_law 183 = .ok (.iaload, 1) := by decide +kernel
theorem dL_law_184 : decode cL_law 184 = .ok (.aload_n 0, 1) := by decide +kernel
theorem dL_law_185 : decode cL_law 185 = .ok (.iload_n 3, 1) := by decide +kernel
theorem dL_law_186 : decode cL_law 186 = .ok (.iconst 4, 1) := by decide +kernel
theorem dL_law_187 : decode cL_law 187 = .ok (.iadd, 1) := by decide +kernel
theorem dL_law_188 : decode cL_law 188 = .ok (.iaload, 1) := by decide +kernel
theorem dL_law_189 : decode cL_law 189 = .ok (.invokevirtual 17, 3) := by decide +kernel
theorem dL_law_192 : decode cL_law 192 = .ok (.if_icmp .eq 704, 3) := by decide +kernel
theorem dL_law_195 : decode cL_law 195 = .ok (.iconst 0, 1) := by decide +kernel
theorem dL_law_196 : decode cL_law 196 = .ok (.ireturn, 1) := by decide +kernel
theorem dL_law_197 : decode cL_law 197 = .ok (.aload_n 1, 1) := by decide +kernel
theorem dL_law_198 : decode cL_law 198 = .ok (.aload_n 0, 1) := by decide +kernel
theorem dL_law_199 : decode cL_law 199 = .ok (.iload_n 3, 1) := by decide +kernel
theorem dL_law_200 : decode cL_law 200 = .ok (.iconst 1, 1) := by decide +kernel
theorem dL_law_201 : decode cL_law 201 = .ok (.iadd, 1) := by decide +kernel
theorem dL_law_202 : decode cL_law 202 = .ok (.iaload, 1) := by decide +kernel
theorem dL_law_203 : decode cL_law 203 = .ok (.aload_n 0, 1) := by decide +kernel
theorem dL_law_204 : decode cL_law 204 = .ok (.iload_n 3, 1) := by decide +kernel
theorem dL_law_205 : decode cL_law 205 = .ok (.iconst 2, 1) := by decide +kernel
theorem dL_law_206 : decode cL_law 206 = .ok (.iadd, 1) := by decide +kernel
theorem dL_law_207 : decode cL_law 207 = .ok (.iaload, 1) := by decide +kernel
theorem dL_law_208 : decode cL_law 208 = .ok (.aload_n 0, 1) := by decide +kernel
theorem dL_law_209 : decode cL_law 209 = .ok (.iload_n 3, 1) := by decide +kernel
theorem dL_law_210 : decode cL_law 210 = .ok (.iconst 3, 1) := by decide +kernel
theorem dL_law_211 : decode cL_law 211 = .ok (.iadd, 1) := by decide +kernel
theorem dL_law_212 : decode cL_law 212 = .ok (.iaload, 1) := by decide +kernel
theorem dL_law_213 : decode cL_law 213 = .ok (.invokevirtual 18, 3) := by decide +kernel
theorem dL_law_216 : decode cL_law 216 = .ok (.aload_n 2, 1) := by decide +kernel
theorem dL_law_217 : decode cL_law 217 = .ok (.aload_n 0, 1) := by decide +kernel
theorem dL_law_218 : decode cL_law 218 = .ok (.iload_n 3, 1) := by decide +kernel
theorem dL_law_219 : decode cL_law 219 = .ok (.iconst 1, 1) := by decide +kernel
theorem dL_law_220 : decode cL_law 220 = .ok (.iadd, 1) := by decide +kernel
theorem dL_law_221 : decode cL_law 221 = .ok (.iaload, 1) := by decide +kernel
theorem dL_law_222 : decode cL_law 222 = .ok (.aload_n 0, 1) := by decide +kernel
theorem dL_law_223 : decode cL_law 223 = .ok (.iload_n 3, 1) := by decide +kernel
theorem dL_law_224 : decode cL_law 224 = .ok (.iconst 2, 1) := by decide +kernel
theorem dL_law_225 : decode cL_law 225 = .ok (.iadd, 1) := by decide +kernel
theorem dL_law_226 : decode cL_law 226 = .ok (.iaload, 1) := by decide +kernel
theorem dL_law_227 : decode cL_law 227 = .ok (.aload_n 0, 1) := by decide +kernel
theorem dL_law_228 : decode cL_law 228 = .ok (.iload_n 3, 1) := by decide +kernel
theorem dL_law_229 : decode cL_law 229 = .ok (.iconst 3, 1) := by decide +kernel
theorem dL_law_230 : decode cL_law 230 = .ok (.iadd, 1) := by decide +kernel
theorem dL_law_231 : decode cL_law 231 = .ok (.iaload, 1) := by decide +kernel
theorem dL_law_232 : decode cL_law 232 = .ok (.invokevirtual 22, 3) := by decide +kernel
theorem dL_law_235 : decode cL_law 235 = .ok (.if_icmp .eq 661, 3) := by decide +kernel
theorem dL_law_238 : decode cL_law 238 = .ok (.iconst 0, 1) := by decide +kernel
theorem dL_law_239 : decode cL_law 239 = .ok (.ireturn, 1) := by decide +kernel
theorem dL_law_240 : decode cL_law 240 = .ok (.aload_n 1, 1) := by decide +kernel
theorem dL_law_241 : decode cL_law 241 = .ok (.aload_n 0, 1) := by decide +kernel
theorem dL_law_242 : decode cL_law 242 = .ok (.iload_n 3, 1) := by decide +kernel
theorem dL_law_243 : decode cL_law 243 = .ok (.iconst 1, 1) := by decide +kernel
theorem dL_law_244 : decode cL_law 244 = .ok (.iadd, 1) := by decide +kernel
theorem dL_law_245 : decode cL_law 245 = .ok (.iaload, 1) := by decide +kernel
theorem dL_law_246 : decode cL_law 246 = .ok (.aload_n 0, 1) := by decide +kernel
theorem dL_law_247 : decode cL_law 247 = .ok (.iload_n 3, 1) := by decide +kernel
theorem dL_law_248 : decode cL_law 248 = .ok (.iconst 2, 1) := by decide +kernel
theorem dL_law_249 : decode cL_law 249 = .ok (.iadd, 1) := by decide +kernel
theorem dL_law_250 : decode cL_law 250 = .ok (.iaload, 1) := by decide +kernel
theorem dL_law_251 : decode cL_law 251 = .ok (.invokevirtual 23, 3) := by decide +kernel
theorem dL_law_254 : decode cL_law 254 = .ok (.aload_n 2, 1) := by decide +kernel
theorem dL_law_255 : decode cL_law 255 = .ok (.aload_n 0, 1) := by decide +kernel
theorem dL_law_256 : decode cL_law 256 = .ok (.iload_n 3, 1) := by decide +kernel
theorem dL_law_257 : decode cL_law 257 = .ok (.iconst 1, 1) := by decide +kernel
theorem dL_law_258 : decode cL_law 258 = .ok (.iadd, 1) := by decide +kernel
theorem dL_law_259 : decode cL_law 259 = .ok (.iaload, 1) := by decide +kernel
theorem dL_law_260 : decode cL_law 260 = .ok (.aload_n 0, 1) := by decide +kernel
theorem dL_law_261 : decode cL_law 261 = .ok (.iload_n 3, 1) := by decide +kernel
theorem dL_law_262 : decode cL_law 262 = .ok (.iconst 2, 1) := by decide +kernel
theorem dL_law_263 : decode cL_law 263 = .ok (.iadd, 1) := by decide +kernel
theorem dL_law_264 : decode cL_law 264 = .ok (.iaload, 1) := by decide +kernel
theorem dL_law_265 : decode cL_law 265 = .ok (.invokevirtual 27, 3) := by decide +kernel
theorem dL_law_268 : decode cL_law 268 = .ok (.if_icmp .eq 628, 3) := by decide +kernel
theorem dL_law_271 : decode cL_law 271 = .ok (.iconst 0, 1) := by decide +kernel
theorem dL_law_272 : decode cL_law 272 = .ok (.ireturn, 1) := by decide +kernel
theorem dL_law_273 : decode cL_law 273 = .ok (.aload_n 1, 1) := by decide +kernel
theorem dL_law_274 : decode cL_law 274 = .ok (.aload_n 0, 1) := by decide +kernel
theorem dL_law_275 : decode cL_law 275 = .ok (.iload_n 3, 1) := by decide +kernel
theorem dL_law_276 : decode cL_law 276 = .ok (.iconst 1, 1) := by decide +kernel
theorem dL_law_277 : decode cL_law 277 = .ok (.iadd, 1) := by decide +kernel
theorem dL_law_278 : decode cL_law 278 = .ok (.iaload, 1) := by decide +kernel
theorem dL_law_279 : decode cL_law 279 = .ok (.invokevirtual 28, 3) := by decide +kernel
theorem dL_law_282 : decode cL_law 282 = .ok (.aload_n 2, 1) := by decide +kernel
theorem dL_law_283 : decode cL_law 283 = .ok (.aload_n 0, 1) := by decide +kernel
theorem dL_law_284 : decode cL_law 284 = .ok (.iload_n 3, 1) := by decide +kernel
theorem dL_law_285 : decode cL_law 285 = .ok (.iconst 1, 1) := by decide +kernel
theorem dL_law_286 : decode cL_law 286 = .ok (.iadd, 1) := by decide +kernel
theorem dL_law_287 : decode cL_law 287 = .ok (.iaload, 1) := by decide +kernel
theorem dL_law_288 : decode cL_law 288 = .ok (.invokevirtual 32, 3) := by decide +kernel
theorem dL_law_291 : decode cL_law 291 = .ok (.if_icmp .eq 605, 3) := by decide +kernel
theorem dL_law_294 : decode cL_law 294 = .ok (.iconst 0, 1) := by decide +kernel
theorem dL_law_295 : decode cL_law 295 = .ok (.ireturn, 1) := by decide +kernel
theorem dL_law_296 : decode cL_law 296 = .ok (.aload_n 1, 1) := by decide +kernel
theorem dL_law_297 : decode cL_law 297 = .ok (.invokevirtual 33, 3) := by decide +kernel
theorem dL_law_300 : decode cL_law 300 = .ok (.aload_n 2, 1) := by decide +kernel
theorem dL_law_301 : decode cL_law 301 = .ok (.invokevirtual 37, 3) := by decide +kernel
theorem dL_law_304 : decode cL_law 304 = .ok (.if_icmp .eq 592, 3) := by decide +kernel
theorem dL_law_307 : decode cL_law 307 = .ok (.iconst 0, 1) := by decide +kernel
theorem dL_law_308 : decode cL_law 308 = .ok (.ireturn, 1) := by decide +kernel
theorem dL_law_309 : decode cL_law 309 = .ok (.aload_n 1, 1) := by decide +kernel
theorem dL_law_310 : decode cL_law 310 = .ok (.invokevirtual 38, 3) := by decide +kernel
theorem dL_law_313 : decode cL_law 313 = .ok (.aload_n 2, 1) := by decide +kernel
theorem dL_law_314 : decode cL_law 314 = .ok (.invokevirtual 41, 3) := by decide +kernel
theorem dL_law_317 : decode cL_law 317 = .ok (.if_icmp .eq 579, 3) := by decide +kernel
theorem dL_law_320 : decode cL_law 320 = .ok (.iconst 0, 1) := by decide +kernel
theorem dL_law_321 : decode cL_law 321 = .ok (.ireturn, 1) := by decide +kernel
theorem dL_law_322 : decode cL_law 322 = .ok (.aload_n 1, 1) := by decide +kernel
theorem dL_law_323 : decode cL_law 323 = .ok (.aload_n 0, 1) := by decide +kernel
theorem dL_law_324 : decode cL_law 324 = .ok (.iload_n 3, 1) := by decide +kernel
theorem dL_law_325 : decode cL_law 325 = .ok (.iconst 1, 1) := by decide +kernel
theorem dL_law_326 : decode cL_law 326 = .ok (.iadd, 1) := by decide +kernel
theorem dL_law_327 : decode cL_law 327 = .ok (.iaload, 1) := by decide +kernel
theorem dL_law_328 : decode cL_law 328 = .ok (.invokevirtual 42, 3) := by decide +kernel
theorem dL_law_331 : decode cL_law 331 = .ok (.aload_n 2, 1) := by decide +kernel
theorem dL_law_332 : decode cL_law 332 = .ok (.aload_n 0, 1) := by decide +kernel
theorem dL_law_333 : decode cL_law 333 = .ok (.iload_n 3, 1) := by decide +kernel
theorem dL_law_334 : decode cL_law 334 = .ok (.iconst 1, 1) := by decide +kernel
theorem dL_law_335 : decode cL_law 335 = .ok (.iadd, 1) := by decide +kernel
theorem dL_law_336 : decode cL_law 336 = .ok (.iaload, 1) := by decide +kernel
theorem dL_law_337 : decode cL_law 337 = .ok (.invokevirtual 45, 3) := by decide +kernel
theorem dL_law_340 : decode cL_law 340 = .ok (.if_icmp .eq 556, 3) := by decide +kernel
theorem dL_law_343 : decode cL_law 343 = .ok (.iconst 0, 1) := by decide +kernel
theorem dL_law_344 : decode cL_law 344 = .ok (.ireturn, 1) := by decide +kernel
theorem dL_law_345 : decode cL_law 345 = .ok (.aload_n 1, 1) := by decide +kernel
theorem dL_law_346 : decode cL_law 346 = .ok (.aload_n 0, 1) := by decide +kernel
theorem dL_law_347 : decode cL_law 347 = .ok (.iload_n 3, 1) := by decide +kernel
theorem dL_law_348 : decode cL_law 348 = .ok (.iconst 1, 1) := by decide +kernel
theorem dL_law_349 : decode cL_law 349 = .ok (.iadd, 1) := by decide +kernel
theorem dL_law_350 : decode cL_law 350 = .ok (.iaload, 1) := by decide +kernel
theorem dL_law_351 : decode cL_law 351 = .ok (.invokevirtual 46, 3) := by decide +kernel
theorem dL_law_354 : decode cL_law 354 = .ok (.aload_n 2, 1) := by decide +kernel
theorem dL_law_355 : decode cL_law 355 = .ok (.aload_n 0, 1) := by decide +kernel
theorem dL_law_356 : decode cL_law 356 = .ok (.iload_n 3, 1) := by decide +kernel
theorem dL_law_357 : decode cL_law 357 = .ok (.iconst 1, 1) := by decide +kernel
theorem dL_law_358 : decode cL_law 358 = .ok (.iadd, 1) := by decide +kernel
theorem dL_law_359 : decode cL_law 359 = .ok (.iaload, 1) := by decide +kernel
theorem dL_law_360 : decode cL_law 360 = .ok (.invokevirtual 49, 3) := by decide +kernel
theorem dL_law_363 : decode cL_law 363 = .ok (.if_icmp .eq 533, 3) := by decide +kernel
theorem dL_law_366 : decode cL_law 366 = .ok (.iconst 0, 1) := by decide +kernel
theorem dL_law_367 : decode cL_law 367 = .ok (.ireturn, 1) := by decide +kernel
theorem dL_law_368 : decode cL_law 368 = .ok (.aload_n 1, 1) := by decide +kernel
theorem dL_law_369 : decode cL_law 369 = .ok (.aload_n 0, 1) := by decide +kernel
theorem dL_law_370 : decode cL_law 370 = .ok (.iload_n 3, 1) := by decide +kernel
theorem dL_law_371 : decode cL_law 371 = .ok (.iconst 1, 1) := by decide +kernel
theorem dL_law_372 : decode cL_law 372 = .ok (.iadd, 1) := by decide +kernel
theorem dL_law_373 : decode cL_law 373 = .ok (.iaload, 1) := by decide +kernel
theorem dL_law_374 : decode cL_law 374 = .ok (.aload_n 0, 1) := by decide +kernel
theorem dL_law_375 : decode cL_law 375 = .ok (.iload_n 3, 1) := by decide +kernel
theorem dL_law_376 : decode cL_law 376 = .ok (.iconst 2, 1) := by decide +kernel
theorem dL_law_377 : decode cL_law 377 = .ok (.iadd, 1) := by decide +kernel
theorem dL_law_378 : decode cL_law 378 = .ok (.iaload, 1) := by decide +kernel
theorem dL_law_379 : decode cL_law 379 = .ok (.aload_n 0, 1) := by decide +kernel
theorem dL_law_380 : decode cL_law 380 = .ok (.iload_n 3, 1) := by decide +kernel
theorem dL_law_381 : decode cL_law 381 = .ok (.iconst 3, 1) := by decide +kernel
theorem dL_law_382 : decode cL_law 382 = .ok (.iadd, 1) := by decide +kernel
theorem dL_law_383 : decode cL_law 383 = .ok (.iaload, 1) := by decide +kernel
theorem dL_law_384 : decode cL_law 384 = .ok (.invokevirtual 50, 3) := by decide +kernel
theorem dL_law_387 : decode cL_law 387 = .ok (.aload_n 2, 1) := by decide +kernel
theorem dL_law_388 : decode cL_law 388 = .ok (.aload_n 0, 1) := by decide +kernel
theorem dL_law_389 : decode cL_law 389 = .ok (.iload_n 3, 1) := by decide +kernel
theorem dL_law_390 : decode cL_law 390 = .ok (.iconst 1, 1) := by decide +kernel
theorem dL_law_391 : decode cL_law 391 = .ok (.iadd, 1) := by decide +kernel
theorem dL_law_392 : decode cL_law 392 = .ok (.iaload, 1) := by decide +kernel
theorem dL_law_393 : decode cL_law 393 = .ok (.aload_n 0, 1) := by decide +kernel
theorem dL_law_394 : decode cL_law 394 = .ok (.iload_n 3, 1) := by decide +kernel
theorem dL_law_395 : decode cL_law 395 = .ok (.iconst 2, 1) := by decide +kernel
theorem dL_law_396 : decode cL_law 396 = .ok (.iadd, 1) := by decide +kernel
theorem dL_law_397 : decode cL_law 397 = .ok (.iaload, 1) := by decide +kernel
theorem dL_law_398 : decode cL_law 398 = .ok (.aload_n 0, 1) := by decide +kernel
theorem dL_law_399 : decode cL_law 399 = .ok (.iload_n 3, 1) := by decide +kernel
theorem dL_law_400 : decode cL_law 400 = .ok (.iconst 3, 1) := by decide +kernel
theorem dL_law_401 : decode cL_law 401 = .ok (.iadd, 1) := by decide +kernel
theorem dL_law_402 : decode cL_law 402 = .ok (.iaload, 1) := by decide +kernel
theorem dL_law_403 : decode cL_law 403 = .ok (.invokevirtual 53, 3) := by decide +kernel
theorem dL_law_406 : decode cL_law 406 = .ok (.if_icmp .eq 490, 3) := by decide +kernel
theorem dL_law_409 : decode cL_law 409 = .ok (.iconst 0, 1) := by decide +kernel
theorem dL_law_410 : decode cL_law 410 = .ok (.ireturn, 1) := by decide +kernel
theorem dL_law_411 : decode cL_law 411 = .ok (.aload_n 1, 1) := by decide +kernel
theorem dL_law_412 : decode cL_law 412 = .ok (.aload_n 0, 1) := by decide +kernel
theorem dL_law_413 : decode cL_law 413 = .ok (.iload_n 3, 1) := by decide +kernel
theorem dL_law_414 : decode cL_law 414 = .ok (.iconst 1, 1) := by decide +kernel
theorem dL_law_415 : decode cL_law 415 = .ok (.iadd, 1) := by decide +kernel
theorem dL_law_416 : decode cL_law 416 = .ok (.iaload, 1) := by decide +kernel
theorem dL_law_417 : decode cL_law 417 = .ok (.invokevirtual 54, 3) := by decide +kernel
theorem dL_law_420 : decode cL_law 420 = .ok (.aload_n 2, 1) := by decide +kernel
theorem dL_law_421 : decode cL_law 421 = .ok (.aload_n 0, 1) := by decide +kernel
theorem dL_law_422 : decode cL_law 422 = .ok (.iload_n 3, 1) := by decide +kernel
theorem dL_law_423 : decode cL_law 423 = .ok (.iconst 1, 1) := by decide +kernel
theorem dL_law_424 : decode cL_law 424 = .ok (.iadd, 1) := by decide +kernel
theorem dL_law_425 : decode cL_law 425 = .ok (.iaload, 1) := by decide +kernel
theorem dL_law_426 : decode cL_law 426 = .ok (.invokevirtual 57, 3) := by decide +kernel
theorem dL_law_429 : decode cL_law 429 = .ok (.if_icmp .eq 467, 3) := by decide +kernel
theorem dL_law_432 : decode cL_law 432 = .ok (.iconst 0, 1) := by decide +kernel
theorem dL_law_433 : decode cL_law 433 = .ok (.ireturn, 1) := by decide +kernel
theorem dL_law_434 : decode cL_law 434 = .ok (.aload_n 1, 1) := by decide +kernel
theorem dL_law_435 : decode cL_law 435 = .ok (.invokevirtual 58, 3) := by decide +kernel
theorem dL_law_438 : decode cL_law 438 = .ok (.aload_n 2, 1) := by decide +kernel
theorem dL_law_439 : decode cL_law 439 = .ok (.invokevirtual 61, 3) := by decide +kernel
theorem dL_law_442 : decode cL_law 442 = .ok (.if_icmp .eq 454, 3) := by decide +kernel
theorem dL_law_445 : decode cL_law 445 = .ok (.iconst 0, 1) := by decide +kernel
theorem dL_law_446 : decode cL_law 446 = .ok (.ireturn, 1) := by decide +kernel
theorem dL_law_447 : decode cL_law 447 = .ok (.aload_n 1, 1) := by decide +kernel
theorem dL_law_448 : decode cL_law 448 = .ok (.aload_n 0, 1) := by decide +kernel
theorem dL_law_449 : decode cL_law 449 = .ok (.iload_n 3, 1) := by decide +kernel
theorem dL_law_450 : decode cL_law 450 = .ok (.iconst 1, 1) := by decide +kernel
theorem dL_law_451 : decode cL_law 451 = .ok (.iadd, 1) := by decide +kernel
theorem dL_law_452 : decode cL_law 452 = .ok (.iaload, 1) := by decide +kernel
theorem dL_law_453 : decode cL_law 453 = .ok (.aload_n 0, 1) := by decide +kernel
theorem dL_law_454 : decode cL_law 454 = .ok (.iload_n 3, 1) := by decide +kernel
theorem dL_law_455 : decode cL_law 455 = .ok (.iconst 2, 1) := by decide +kernel
theorem dL_law_456 : decode cL_law 456 = .ok (.iadd, 1) := by decide +kernel
theorem dL_law_457 : decode cL_law 457 = .ok (.iaload, 1) := by decide +kernel
theorem dL_law_458 : decode cL_law 458 = .ok (.invokevirtual 62, 3) := by decide +kernel
theorem dL_law_461 : decode cL_law 461 = .ok (.aload_n 2, 1) := by decide +kernel
theorem dL_law_462 : decode cL_law 462 = .ok (.aload_n 0, 1) := by decide +kernel
theorem dL_law_463 : decode cL_law 463 = .ok (.iload_n 3, 1) := by decide +kernel
theorem dL_law_464 : decode cL_law 464 = .ok (.iconst 1, 1) := by decide +kernel
theorem dL_law_465 : decode cL_law 465 = .ok (.iadd, 1) := by decide +kernel
theorem dL_law_466 : decode cL_law 466 = .ok (.iaload, 1) := by decide +kernel
theorem dL_law_467 : decode cL_law 467 = .ok (.aload_n 0, 1) := by decide +kernel
theorem dL_law_468 : decode cL_law 468 = .ok (.iload_n 3, 1) := by decide +kernel
theorem dL_law_469 : decode cL_law 469 = .ok (.iconst 2, 1) := by decide +kernel
theorem dL_law_470 : decode cL_law 470 = .ok (.iadd, 1) := by decide +kernel
theorem dL_law_471 : decode cL_law 471 = .ok (.iaload, 1) := by decide +kernel
theorem dL_law_472 : decode cL_law 472 = .ok (.invokevirtual 65, 3) := by decide +kernel
theorem dL_law_475 : decode cL_law 475 = .ok (.if_icmp .eq 421, 3) := by decide +kernel
theorem dL_law_478 : decode cL_law 478 = .ok (.iconst 0, 1) := by decide +kernel
theorem dL_law_479 : decode cL_law 479 = .ok (.ireturn, 1) := by decide +kernel
theorem dL_law_480 : decode cL_law 480 = .ok (.aload_n 1, 1) := by decide +kernel
theorem dL_law_481 : decode cL_law 481 = .ok (.aload_n 0, 1) := by decide +kernel
theorem dL_law_482 : decode cL_law 482 = .ok (.iload_n 3, 1) := by decide +kernel
theorem dL_law_483 : decode cL_law 483 = .ok (.iconst 1, 1) := by decide +kernel
theorem dL_law_484 : decode cL_law 484 = .ok (.iadd, 1) := by decide +kernel
theorem dL_law_485 : decode cL_law 485 = .ok (.iaload, 1) := by decide +kernel
theorem dL_law_486 : decode cL_law 486 = .ok (.aload_n 0, 1) := by decide +kernel
theorem dL_law_487 : decode cL_law 487 = .ok (.iload_n 3, 1) := by decide +kernel
theorem dL_law_488 : decode cL_law 488 = .ok (.iconst 2, 1) := by decide +kernel
theorem dL_law_489 : decode cL_law 489 = .ok (.iadd, 1) := by decide +kernel
theorem dL_law_490 : decode cL_law 490 = .ok (.iaload, 1) := by decide +kernel
theorem dL_law_491 : decode cL_law 491 = .ok (.invokevirtual 66, 3) := by decide +kernel
theorem dL_law_494 : decode cL_law 494 = .ok (.aload_n 2, 1) := by decide +kernel
theorem dL_law_495 : decode cL_law 495 = .ok (.aload_n 0, 1) := by decide +kernel
theorem dL_law_496 : decode cL_law 496 = .ok (.iload_n 3, 1) := by decide +kernel
theorem dL_law_497 : decode cL_law 497 = .ok (.iconst 1, 1) := by decide +kernel
theorem dL_law_498 : decode cL_law 498 = .ok (.iadd, 1) := by decide +kernel
theorem dL_law_499 : decode cL_law 499 = .ok (.iaload, 1) := by decide +kernel
theorem dL_law_500 : decode cL_law 500 = .ok (.aload_n 0, 1) := by decide +kernel
theorem dL_law_501 : decode cL_law 501 = .ok (.iload_n 3, 1) := by decide +kernel
theorem dL_law_502 : decode cL_law 502 = .ok (.iconst 2, 1) := by decide +kernel
theorem dL_law_503 : decode cL_law 503 = .ok (.iadd, 1) := by decide +kernel
theorem dL_law_504 : decode cL_law 504 = .ok (.iaload, 1) := by decide +kernel
theorem dL_law_505 : decode cL_law 505 = .ok (.invokevirtual 69, 3) := by decide +kernel
theorem dL_law_508 : decode cL_law 508 = .ok (.if_icmp .eq 388, 3) := by decide +kernel
theorem dL_law_511 : decode cL_law 511 = .ok (.iconst 0, 1) := by decide +kernel
theorem dL_law_512 : decode cL_law 512 = .ok (.ireturn, 1) := by decide +kernel
theorem dL_law_513 : decode cL_law 513 = .ok (.aload_n 1, 1) := by decide +kernel
theorem dL_law_514 : decode cL_law 514 = .ok (.aload_n 0, 1) := by decide +kernel
theorem dL_law_515 : decode cL_law 515 = .ok (.iload_n 3, 1) := by decide +kernel
theorem dL_law_516 : decode cL_law 516 = .ok (.iconst 1, 1) := by decide +kernel
theorem dL_law_517 : decode cL_law 517 = .ok (.iadd, 1) := by decide +kernel
theorem dL_law_518 : decode cL_law 518 = .ok (.iaload, 1) := by decide +kernel
theorem dL_law_519 : decode cL_law 519 = .ok (.invokevirtual 70, 3) := by decide +kernel
theorem dL_law_522 : decode cL_law 522 = .ok (.aload_n 2, 1) := by decide +kernel
theorem dL_law_523 : decode cL_law 523 = .ok (.aload_n 0, 1) := by decide +kernel
theorem dL_law_524 : decode cL_law 524 = .ok (.iload_n 3, 1) := by decide +kernel
theorem dL_law_525 : decode cL_law 525 = .ok (.iconst 1, 1) := by decide +kernel
theorem dL_law_526 : decode cL_law 526 = .ok (.iadd, 1) := by decide +kernel
theorem dL_law_527 : decode cL_law 527 = .ok (.iaload, 1) := by decide +kernel
theorem dL_law_528 : decode cL_law 528 = .ok (.invokevirtual 73, 3) := by decide +kernel
theorem dL_law_531 : decode cL_law 531 = .ok (.if_icmp .eq 365, 3) := by decide +kernel
theorem dL_law_534 : decode cL_law 534 = .ok (.iconst 0, 1) := by decide +kernel
theorem dL_law_535 : decode cL_law 535 = .ok (.ireturn, 1) := by decide +kernel
theorem dL_law_536 : decode cL_law 536 = .ok (.aload_n 1, 1) := by decide +kernel
theorem dL_law_537 : decode cL_law 537 = .ok (.aload_n 0, 1) := by decide +kernel
theorem dL_law_538 : decode cL_law 538 = .ok (.iload_n 3, 1) := by decide +kernel
theorem dL_law_539 : decode cL_law 539 = .ok (.iconst 1, 1) := by decide +kernel
theorem dL_law_540 : decode cL_law 540 = .ok (.iadd, 1) := by decide +kernel
theorem dL_law_541 : decode cL_law 541 = .ok (.iaload, 1) := by decide +kernel
theorem dL_law_542 : decode cL_law 542 = .ok (.aload_n 0, 1) := by decide +kernel
theorem dL_law_543 : decode cL_law 543 = .ok (.iload_n 3, 1) := by decide +kernel
theorem dL_law_544 : decode cL_law 544 = .ok (.iconst 2, 1) := by decide +kernel
theorem dL_law_545 : decode cL_law 545 = .ok (.iadd, 1) := by decide +kernel
theorem dL_law_546 : decode cL_law 546 = .ok (.iaload, 1) := by decide +kernel
theorem dL_law_547 : decode cL_law 547 = .ok (.aload_n 0, 1) := by decide +kernel
theorem dL_law_548 : decode cL_law 548 = .ok (.iload_n 3, 1) := by decide +kernel
theorem dL_law_549 : decode cL_law 549 = .ok (.iconst 3, 1) := by decide +kernel
theorem dL_law_550 : decode cL_law 550 = .ok (.iadd, 1) := by decide +kernel
theorem dL_law_551 : decode cL_law 551 = .ok (.iaload, 1) := by decide +kernel
theorem dL_law_552 : decode cL_law 552 = .ok (.aload_n 0, 1) := by decide +kernel
theorem dL_law_553 : decode cL_law 553 = .ok (.iload_n 3, 1) := by decide +kernel
theorem dL_law_554 : decode cL_law 554 = .ok (.iconst 4, 1) := by decide +kernel
theorem dL_law_555 : decode cL_law 555 = .ok (.iadd, 1) := by decide +kernel
theorem dL_law_556 : decode cL_law 556 = .ok (.iaload, 1) := by decide +kernel
theorem dL_law_557 : decode cL_law 557 = .ok (.invokevirtual 74, 3) := by decide +kernel
theorem dL_law_560 : decode cL_law 560 = .ok (.aload_n 2, 1) := by decide +kernel
theorem dL_law_561 : decode cL_law 561 = .ok (.aload_n 0, 1) := by decide +kernel
theorem dL_law_562 : decode cL_law 562 = .ok (.iload_n 3, 1) := by decide +kernel
theorem dL_law_563 : decode cL_law 563 = .ok (.iconst 1, 1) := by decide +kernel
theorem dL_law_564 : decode cL_law 564 = .ok (.iadd, 1) := by decide +kernel
theorem dL_law_565 : decode cL_law 565 = .ok (.iaload, 1) := by decide +kernel
theorem dL_law_566 : decode cL_law 566 = .ok (.aload_n 0, 1) := by decide +kernel
theorem dL_law_567 : decode cL_law 567 = .ok (.iload_n 3, 1) := by decide +kernel
theorem dL_law_568 : decode cL_law 568 = .ok (.iconst 2, 1) := by decide +kernel
theorem dL_law_569 : decode cL_law 569 = .ok (.iadd, 1) := by decide +kernel
theorem dL_law_570 : decode cL_law 570 = .ok (.iaload, 1) := by decide +kernel
theorem dL_law_571 : decode cL_law 571 = .ok (.aload_n 0, 1) := by decide +kernel
theorem dL_law_572 : decode cL_law 572 = .ok (.iload_n 3, 1) := by decide +kernel
theorem dL_law_573 : decode cL_law 573 = .ok (.iconst 3, 1) := by decide +kernel
theorem dL_law_574 : decode cL_law 574 = .ok (.iadd, 1) := by decide +kernel
theorem dL_law_575 : decode cL_law 575 = .ok (.iaload, 1) := by decide +kernel
theorem dL_law_576 : decode cL_law 576 = .ok (.aload_n 0, 1) := by decide +kernel
theorem dL_law_577 : decode cL_law 577 = .ok (.iload_n 3, 1) := by decide +kernel
theorem dL_law_578 : decode cL_law 578 = .ok (.iconst 4, 1) := by decide +kernel
theorem dL_law_579 : decode cL_law 579 = .ok (.iadd, 1) := by decide +kernel
theorem dL_law_580 : decode cL_law 580 = .ok (.iaload, 1) := by decide +kernel
theorem dL_law_581 : decode cL_law 581 = .ok (.invokevirtual 77, 3) := by decide +kernel
theorem dL_law_584 : decode cL_law 584 = .ok (.if_icmp .eq 312, 3) := by decide +kernel
theorem dL_law_587 : decode cL_law 587 = .ok (.iconst 0, 1) := by decide +kernel
theorem dL_law_588 : decode cL_law 588 = .ok (.ireturn, 1) := by decide +kernel
theorem dL_law_589 : decode cL_law 589 = .ok (.aload_n 1, 1) := by decide +kernel
theorem dL_law_590 : decode cL_law 590 = .ok (.aload_n 0, 1) := by decide +kernel
theorem dL_law_591 : decode cL_law 591 = .ok (.iload_n 3, 1) := by decide +kernel
theorem dL_law_592 : decode cL_law 592 = .ok (.iconst 1, 1) := by decide +kernel
theorem dL_law_593 : decode cL_law 593 = .ok (.iadd, 1) := by decide +kernel
theorem dL_law_594 : decode cL_law 594 = .ok (.iaload, 1) := by decide +kernel
theorem dL_law_595 : decode cL_law 595 = .ok (.aload_n 0, 1) := by decide +kernel
theorem dL_law_596 : decode cL_law 596 = .ok (.iload_n 3, 1) := by decide +kernel
theorem dL_law_597 : decode cL_law 597 = .ok (.iconst 2, 1) := by decide +kernel
theorem dL_law_598 : decode cL_law 598 = .ok (.iadd, 1) := by decide +kernel
theorem dL_law_599 : decode cL_law 599 = .ok (.iaload, 1) := by decide +kernel
theorem dL_law_600 : decode cL_law 600 = .ok (.aload_n 0, 1) := by decide +kernel
theorem dL_law_601 : decode cL_law 601 = .ok (.iload_n 3, 1) := by decide +kernel
theorem dL_law_602 : decode cL_law 602 = .ok (.iconst 3, 1) := by decide +kernel
theorem dL_law_603 : decode cL_law 603 = .ok (.iadd, 1) := by decide +kernel
theorem dL_law_604 : decode cL_law 604 = .ok (.iaload, 1) := by decide +kernel
theorem dL_law_605 : decode cL_law 605 = .ok (.aload_n 0, 1) := by decide +kernel
theorem dL_law_606 : decode cL_law 606 = .ok (.iload_n 3, 1) := by decide +kernel
theorem dL_law_607 : decode cL_law 607 = .ok (.iconst 4, 1) := by decide +kernel
theorem dL_law_608 : decode cL_law 608 = .ok (.iadd, 1) := by decide +kernel
theorem dL_law_609 : decode cL_law 609 = .ok (.iaload, 1) := by decide +kernel
theorem dL_law_610 : decode cL_law 610 = .ok (.invokevirtual 78, 3) := by decide +kernel
theorem dL_law_613 : decode cL_law 613 = .ok (.aload_n 2, 1) := by decide +kernel
theorem dL_law_614 : decode cL_law 614 = .ok (.aload_n 0, 1) := by decide +kernel
theorem dL_law_615 : decode cL_law 615 = .ok (.iload_n 3, 1) := by decide +kernel
theorem dL_law_616 : decode cL_law 616 = .ok (.iconst 1, 1) := by decide +kernel
theorem dL_law_617 : decode cL_law 617 = .ok (.iadd, 1) := by decide +kernel
theorem dL_law_618 : decode cL_law 618 = .ok (.iaload, 1) := by decide +kernel
theorem dL_law_619 : decode cL_law 619 = .ok (.aload_n 0, 1) := by decide +kernel
theorem dL_law_620 : decode cL_law 620 = .ok (.iload_n 3, 1) := by decide +kernel
theorem dL_law_621 : decode cL_law 621 = .ok (.iconst 2, 1) := by decide +kernel
theorem dL_law_622 : decode cL_law 622 = .ok (.iadd, 1) := by decide +kernel
theorem dL_law_623 : decode cL_law 623 = .ok (.iaload, 1) := by decide +kernel
theorem dL_law_624 : decode cL_law 624 = .ok (.aload_n 0, 1) := by decide +kernel
theorem dL_law_625 : decode cL_law 625 = .ok (.iload_n 3, 1) := by decide +kernel
theorem dL_law_626 : decode cL_law 626 = .ok (.iconst 3, 1) := by decide +kernel
theorem dL_law_627 : decode cL_law 627 = .ok (.iadd, 1) := by decide +kernel
theorem dL_law_628 : decode cL_law 628 = .ok (.iaload, 1) := by decide +kernel
theorem dL_law_629 : decode cL_law 629 = .ok (.aload_n 0, 1) := by decide +kernel
theorem dL_law_630 : decode cL_law 630 = .ok (.iload_n 3, 1) := by decide +kernel
theorem dL_law_631 : decode cL_law 631 = .ok (.iconst 4, 1) := by decide +kernel
theorem dL_law_632 : decode cL_law 632 = .ok (.iadd, 1) := by decide +kernel
theorem dL_law_633 : decode cL_law 633 = .ok (.iaload, 1) := by decide +kernel
theorem dL_law_634 : decode cL_law 634 = .ok (.invokevirtual 81, 3) := by decide +kernel
theorem dL_law_637 : decode cL_law 637 = .ok (.if_icmp .eq 259, 3) := by decide +kernel
theorem dL_law_640 : decode cL_law 640 = .ok (.iconst 0, 1) := by decide +kernel
theorem dL_law_641 : decode cL_law 641 = .ok (.ireturn, 1) := by decide +kernel
theorem dL_law_642 : decode cL_law 642 = .ok (.aload_n 1, 1) := by decide +kernel
theorem dL_law_643 : decode cL_law 643 = .ok (.aload_n 0, 1) := by decide +kernel
theorem dL_law_644 : decode cL_law 644 = .ok (.iload_n 3, 1) := by decide +kernel
theorem dL_law_645 : decode cL_law 645 = .ok (.iconst 1, 1) := by decide +kernel
theorem dL_law_646 : decode cL_law 646 = .ok (.iadd, 1) := by decide +kernel
theorem dL_law_647 : decode cL_law 647 = .ok (.iaload, 1) := by decide +kernel
theorem dL_law_648 : decode cL_law 648 = .ok (.aload_n 0, 1) := by decide +kernel
theorem dL_law_649 : decode cL_law 649 = .ok (.iload_n 3, 1) := by decide +kernel
theorem dL_law_650 : decode cL_law 650 = .ok (.iconst 2, 1) := by decide +kernel
theorem dL_law_651 : decode cL_law 651 = .ok (.iadd, 1) := by decide +kernel
theorem dL_law_652 : decode cL_law 652 = .ok (.iaload, 1) := by decide +kernel
theorem dL_law_653 : decode cL_law 653 = .ok (.invokevirtual 82, 3) := by decide +kernel
theorem dL_law_656 : decode cL_law 656 = .ok (.aload_n 2, 1) := by decide +kernel
theorem dL_law_657 : decode cL_law 657 = .ok (.aload_n 0, 1) := by decide +kernel
theorem dL_law_658 : decode cL_law 658 = .ok (.iload_n 3, 1) := by decide +kernel
theorem dL_law_659 : decode cL_law 659 = .ok (.iconst 1, 1) := by decide +kernel
theorem dL_law_660 : decode cL_law 660 = .ok (.iadd, 1) := by decide +kernel
theorem dL_law_661 : decode cL_law 661 = .ok (.iaload, 1) := by decide +kernel
theorem dL_law_662 : decode cL_law 662 = .ok (.aload_n 0, 1) := by decide +kernel
theorem dL_law_663 : decode cL_law 663 = .ok (.iload_n 3, 1) := by decide +kernel
theorem dL_law_664 : decode cL_law 664 = .ok (.iconst 2, 1) := by decide +kernel
theorem dL_law_665 : decode cL_law 665 = .ok (.iadd, 1) := by decide +kernel
theorem dL_law_666 : decode cL_law 666 = .ok (.iaload, 1) := by decide +kernel
theorem dL_law_667 : decode cL_law 667 = .ok (.invokevirtual 85, 3) := by decide +kernel
theorem dL_law_670 : decode cL_law 670 = .ok (.if_icmp .eq 226, 3) := by decide +kernel
theorem dL_law_673 : decode cL_law 673 = .ok (.iconst 0, 1) := by decide +kernel
theorem dL_law_674 : decode cL_law 674 = .ok (.ireturn, 1) := by decide +kernel
theorem dL_law_675 : decode cL_law 675 = .ok (.aload_n 1, 1) := by decide +kernel
theorem dL_law_676 : decode cL_law 676 = .ok (.aload_n 0, 1) := by decide +kernel
theorem dL_law_677 : decode cL_law 677 = .ok (.iload_n 3, 1) := by decide +kernel
theorem dL_law_678 : decode cL_law 678 = .ok (.iconst 1, 1) := by decide +kernel
theorem dL_law_679 : decode cL_law 679 = .ok (.iadd, 1) := by decide +kernel
theorem dL_law_680 : decode cL_law 680 = .ok (.iaload, 1) := by decide +kernel
theorem dL_law_681 : decode cL_law 681 = .ok (.aload_n 0, 1) := by decide +kernel
theorem dL_law_682 : decode cL_law 682 = .ok (.iload_n 3, 1) := by decide +kernel
theorem dL_law_683 : decode cL_law 683 = .ok (.iconst 2, 1) := by decide +kernel
theorem dL_law_684 : decode cL_law 684 = .ok (.iadd, 1) := by decide +kernel
theorem dL_law_685 : decode cL_law 685 = .ok (.iaload, 1) := by decide +kernel
theorem dL_law_686 : decode cL_law 686 = .ok (.invokevirtual 86, 3) := by decide +kernel
theorem dL_law_689 : decode cL_law 689 = .ok (.aload_n 2, 1) := by decide +kernel
theorem dL_law_690 : decode cL_law 690 = .ok (.aload_n 0, 1) := by decide +kernel
theorem dL_law_691 : decode cL_law 691 = .ok (.iload_n 3, 1) := by decide +kernel
theorem dL_law_692 : decode cL_law 692 = .ok (.iconst 1, 1) := by decide +kernel
theorem dL_law_693 : decode cL_law 693 = .ok (.iadd, 1) := by decide +kernel
theorem dL_law_694 : decode cL_law 694 = .ok (.iaload, 1) := by decide +kernel
theorem dL_law_695 : decode cL_law 695 = .ok (.aload_n 0, 1) := by decide +kernel
theorem dL_law_696 : decode cL_law 696 = .ok (.iload_n 3, 1) := by decide +kernel
theorem dL_law_697 : decode cL_law 697 = .ok (.iconst 2, 1) := by decide +kernel
theorem dL_law_698 : decode cL_law 698 = .ok (.iadd, 1) := by decide +kernel
theorem dL_law_699 : decode cL_law 699 = .ok (.iaload, 1) := by decide +kernel
theorem dL_law_700 : decode cL_law 700 = .ok (.invokevirtual 89, 3) := by decide +kernel
theorem dL_law_703 : decode cL_law 703 = .ok (.if_icmp .eq 193, 3) := by decide +kernel
theorem dL_law_706 : decode cL_law 706 = .ok (.iconst 0, 1) := by decide +kernel
theorem dL_law_707 : decode cL_law 707 = .ok (.ireturn, 1) := by decide +kernel
theorem dL_law_708 : decode cL_law 708 = .ok (.aload_n 1, 1) := by decide +kernel
theorem dL_law_709 : decode cL_law 709 = .ok (.aload_n 0, 1) := by decide +kernel
theorem dL_law_710 : decode cL_law 710 = .ok (.iload_n 3, 1) := by decide +kernel
theorem dL_law_711 : decode cL_law 711 = .ok (.iconst 1, 1) := by decide +kernel
theorem dL_law_712 : decode cL_law 712 = .ok (.iadd, 1) := by decide +kernel
theorem dL_law_713 : decode cL_law 713 = .ok (.iaload, 1) := by decide +kernel
theorem dL_law_714 : decode cL_law 714 = .ok (.aload_n 0, 1) := by decide +kernel
theorem dL_law_715 : decode cL_law 715 = .ok (.iload_n 3, 1) := by decide +kernel
theorem dL_law_716 : decode cL_law 716 = .ok (.iconst 2, 1) := by decide +kernel
theorem dL_law_717 : decode cL_law 717 = .ok (.iadd, 1) := by decide +kernel
theorem dL_law_718 : decode cL_law 718 = .ok (.iaload, 1) := by decide +kernel
theorem dL_law_719 : decode cL_law 719 = .ok (.aload_n 0, 1) := by decide +kernel
theorem dL_law_720 : decode cL_law 720 = .ok (.iload_n 3, 1) := by decide +kernel
theorem dL_law_721 : decode cL_law 721 = .ok (.iconst 3, 1) := by decide +kernel
theorem dL_law_722 : decode cL_law 722 = .ok (.iadd, 1) := by decide +kernel
theorem dL_law_723 : decode cL_law 723 = .ok (.iaload, 1) := by decide +kernel
theorem dL_law_724 : decode cL_law 724 = .ok (.invokevirtual 90, 3) := by decide +kernel
theorem dL_law_727 : decode cL_law 727 = .ok (.aload_n 2, 1) := by decide +kernel
theorem dL_law_728 : decode cL_law 728 = .ok (.aload_n 0, 1) := by decide +kernel
theorem dL_law_729 : decode cL_law 729 = .ok (.iload_n 3, 1) := by decide +kernel
theorem dL_law_730 : decode cL_law 730 = .ok (.iconst 1, 1) := by decide +kernel
theorem dL_law_731 : decode cL_law 731 = .ok (.iadd, 1) := by decide +kernel
theorem dL_law_732 : decode cL_law 732 = .ok (.iaload, 1) := by decide +kernel
theorem dL_law_733 : decode cL_law 733 = .ok (.aload_n 0, 1) := by decide +kernel
theorem dL_law_734 : decode cL_law 734 = .ok (.iload_n 3, 1) := by decide +kernel
theorem dL_law_735 : decode cL_law 735 = .ok (.iconst 2, 1) := by decide +kernel
theorem dL_law_736 : decode cL_law 736 = .ok (.iadd, 1) := by decide +kernel
theorem dL_law_737 : decode cL_law 737 = .ok (.iaload, 1) := by decide +kernel
theorem dL_law_738 : decode cL_law 738 = .ok (.aload_n 0, 1) := by decide +kernel
theorem dL_law_739 : decode cL_law 739 = .ok (.iload_n 3, 1) := by decide +kernel
theorem dL_law_740 : decode cL_law 740 = .ok (.iconst 3, 1) := by decide +kernel
theorem dL_law_741 : decode cL_law 741 = .ok (.iadd, 1) := by decide +kernel
theorem dL_law_742 : decode cL_law 742 = .ok (.iaload, 1) := by decide +kernel
theorem dL_law_743 : decode cL_law 743 = .ok (.invokevirtual 93, 3) := by decide +kernel
theorem dL_law_746 : decode cL_law 746 = .ok (.if_icmp .eq 150, 3) := by decide +kernel
theorem dL_law_749 : decode cL_law 749 = .ok (.iconst 0, 1) := by decide +kernel
theorem dL_law_750 : decode cL_law 750 = .ok (.ireturn, 1) := by decide +kernel
theorem dL_law_751 : decode cL_law 751 = .ok (.aload_n 1, 1) := by decide +kernel
theorem dL_law_752 : decode cL_law 752 = .ok (.aload_n 0, 1) := by decide +kernel
theorem dL_law_753 : decode cL_law 753 = .ok (.iload_n 3, 1) := by decide +kernel
theorem dL_law_754 : decode cL_law 754 = .ok (.iconst 1, 1) := by decide +kernel
theorem dL_law_755 : decode cL_law 755 = .ok (.iadd, 1) := by decide +kernel
theorem dL_law_756 : decode cL_law 756 = .ok (.iaload, 1) := by decide +kernel
theorem dL_law_757 : decode cL_law 757 = .ok (.aload_n 0, 1) := by decide +kernel
theorem dL_law_758 : decode cL_law 758 = .ok (.iload_n 3, 1) := by decide +kernel
theorem dL_law_759 : decode cL_law 759 = .ok (.iconst 2, 1) := by decide +kernel
theorem dL_law_760 : decode cL_law 760 = .ok (.iadd, 1) := by decide +kernel
theorem dL_law_761 : decode cL_law 761 = .ok (.iaload, 1) := by decide +kernel
theorem dL_law_762 : decode cL_law 762 = .ok (.invokevirtual 94, 3) := by decide +kernel
theorem dL_law_765 : decode cL_law 765 = .ok (.aload_n 2, 1) := by decide +kernel
theorem dL_law_766 : decode cL_law 766 = .ok (.aload_n 0, 1) := by decide +kernel
theorem dL_law_767 : decode cL_law 767 = .ok (.iload_n 3, 1) := by decide +kernel
theorem dL_law_768 : decode cL_law 768 = .ok (.iconst 1, 1) := by decide +kernel
theorem dL_law_769 : decode cL_law 769 = .ok (.iadd, 1) := by decide +kernel
theorem dL_law_770 : decode cL_law 770 = .ok (.iaload, 1) := by decide +kernel
theorem dL_law_771 : decode cL_law 771 = .ok (.aload_n 0, 1) := by decide +kernel
theorem dL_law_772 : decode cL_law 772 = .ok (.iload_n 3, 1) := by decide +kernel
theorem dL_law_773 : decode cL_law 773 = .ok (.iconst 2, 1) := by decide +kernel
theorem dL_law_774 : decode cL_law 774 = .ok (.iadd, 1) := by decide +kernel
theorem dL_law_775 : decode cL_law 775 = .ok (.iaload, 1) := by decide +kernel
theorem dL_law_776 : decode cL_law 776 = .ok (.invokevirtual 97, 3) := by decide +kernel
theorem dL_law_779 : decode cL_law 779 = .ok (.if_icmp .eq 117, 3) := by decide +kernel
theorem dL_law_782 : decode cL_law 782 = .ok (.iconst 0, 1) := by decide +kernel
theorem dL_law_783 : decode cL_law 783 = .ok (.ireturn, 1) := by decide +kernel
theorem dL_law_784 : decode cL_law 784 = .ok (.aload_n 1, 1) := by decide +kernel
theorem dL_law_785 : decode cL_law 785 = .ok (.aload_n 0, 1) := by decide +kernel
theorem dL_law_786 : decode cL_law 786 = .ok (.iload_n 3, 1) := by decide +kernel
theorem dL_law_787 : decode cL_law 787 = .ok (.iconst 1, 1) := by decide +kernel
theorem dL_law_788 : decode cL_law 788 = .ok (.iadd, 1) := by decide +kernel
theorem dL_law_789 : decode cL_law 789 = .ok (.iaload, 1) := by decide +kernel
theorem dL_law_790 : decode cL_law 790 = .ok (.aload_n 0, 1) := by decide +kernel
theorem dL_law_791 : decode cL_law 791 = .ok (.iload_n 3, 1) := by decide +kernel
theorem dL_law_792 : decode cL_law 792 = .ok (.iconst 2, 1) := by decide +kernel
theorem dL_law_793 : decode cL_law 793 = .ok (.iadd, 1) := by decide +kernel
theorem dL_law_794 : decode cL_law 794 = .ok (.iaload, 1) := by decide +kernel
theorem dL_law_795 : decode cL_law 795 = .ok (.aload_n 0, 1) := by decide +kernel
theorem dL_law_796 : decode cL_law 796 = .ok (.iload_n 3, 1) := by decide +kernel
theorem dL_law_797 : decode cL_law 797 = .ok (.iconst 3, 1) := by decide +kernel
theorem dL_law_798 : decode cL_law 798 = .ok (.iadd, 1) := by decide +kernel
theorem dL_law_799 : decode cL_law 799 = .ok (.iaload, 1) := by decide +kernel
theorem dL_law_800 : decode cL_law 800 = .ok (.invokevirtual 98, 3) := by decide +kernel
theorem dL_law_803 : decode cL_law 803 = .ok (.aload_n 2, 1) := by decide +kernel
theorem dL_law_804 : decode cL_law 804 = .ok (.aload_n 0, 1) := by decide +kernel
theorem dL_law_805 : decode cL_law 805 = .ok (.iload_n 3, 1) := by decide +kernel
theorem dL_law_806 : decode cL_law 806 = .ok (.iconst 1, 1) := by decide +kernel
theorem dL_law_807 : decode cL_law 807 = .ok (.iadd, 1) := by decide +kernel
theorem dL_law_808 : decode cL_law 808 = .ok (.iaload, 1) := by decide +kernel
theorem dL_law_809 : decode cL_law 809 = .ok (.aload_n 0, 1) := by decide +kernel
theorem dL_law_810 : decode cL_law 810 = .ok (.iload_n 3, 1) := by decide +kernel
theorem dL_law_811 : decode cL_law 811 = .ok (.iconst 2, 1) := by decide +kernel
theorem dL_law_812 : decode cL_law 812 = .ok (.iadd, 1) := by decide +kernel
theorem dL_law_813 : decode cL_law 813 = .ok (.iaload, 1) := by decide +kernel
theorem dL_law_814 : decode cL_law 814 = .ok (.aload_n 0, 1) := by decide +kernel
theorem dL_law_815 : decode cL_law 815 = .ok (.iload_n 3, 1) := by decide +kernel
theorem dL_law_816 : decode cL_law 816 = .ok (.iconst 3, 1) := by decide +kernel
theorem dL_law_817 : decode cL_law 817 = .ok (.iadd, 1) := by decide +kernel
theorem dL_law_818 : decode cL_law 818 = .ok (.iaload, 1) := by decide +kernel
theorem dL_law_819 : decode cL_law 819 = .ok (.invokevirtual 101, 3) := by decide +kernel
theorem dL_law_822 : decode cL_law 822 = .ok (.if_icmp .eq 74, 3) := by decide +kernel
theorem dL_law_825 : decode cL_law 825 = .ok (.iconst 0, 1) := by decide +kernel
theorem dL_law_826 : decode cL_law 826 = .ok (.ireturn, 1) := by decide +kernel
theorem dL_law_827 : decode cL_law 827 = .ok (.aload_n 1, 1) := by decide +kernel
theorem dL_law_828 : decode cL_law 828 = .ok (.aload_n 0, 1) := by decide +kernel
theorem dL_law_829 : decode cL_law 829 = .ok (.iload_n 3, 1) := by decide +kernel
theorem dL_law_830 : decode cL_law 830 = .ok (.iconst 1, 1) := by decide +kernel
theorem dL_law_831 : decode cL_law 831 = .ok (.iadd, 1) := by decide +kernel
theorem dL_law_832 : decode cL_law 832 = .ok (.iaload, 1) := by decide +kernel
theorem dL_law_833 : decode cL_law 833 = .ok (.invokevirtual 102, 3) := by decide +kernel
theorem dL_law_836 : decode cL_law 836 = .ok (.aload_n 2, 1) := by decide +kernel
theorem dL_law_837 : decode cL_law 837 = .ok (.aload_n 0, 1) := by decide +kernel
theorem dL_law_838 : decode cL_law 838 = .ok (.iload_n 3, 1) := by decide +kernel
theorem dL_law_839 : decode cL_law 839 = .ok (.iconst 1, 1) := by decide +kernel
theorem dL_law_840 : decode cL_law 840 = .ok (.iadd, 1) := by decide +kernel
theorem dL_law_841 : decode cL_law 841 = .ok (.iaload, 1) := by decide +kernel
theorem dL_law_842 : decode cL_law 842 = .ok (.invokevirtual 105, 3) := by decide +kernel
theorem dL_law_845 : decode cL_law 845 = .ok (.if_icmp .eq 51, 3) := by decide +kernel
theorem dL_law_848 : decode cL_law 848 = .ok (.iconst 0, 1) := by decide +kernel
theorem dL_law_849 : decode cL_law 849 = .ok (.ireturn, 1) := by decide +kernel
theorem dL_law_850 : decode cL_law 850 = .ok (.aload_n 1, 1) := by decide +kernel
theorem dL_law_851 : decode cL_law 851 = .ok (.aload_n 0, 1) := by decide +kernel
theorem dL_law_852 : decode cL_law 852 = .ok (.iload_n 3, 1) := by decide +kernel
theorem dL_law_853 : decode cL_law 853 = .ok (.iconst 1, 1) := by decide +kernel
theorem dL_law_854 : decode cL_law 854 = .ok (.iadd, 1) := by decide +kernel
theorem dL_law_855 : decode cL_law 855 = .ok (.iaload, 1) := by decide +kernel
theorem dL_law_856 : decode cL_law 856 = .ok (.invokevirtual 106, 3) := by decide +kernel
theorem dL_law_859 : decode cL_law 859 = .ok (.aload_n 2, 1) := by decide +kernel
theorem dL_law_860 : decode cL_law 860 = .ok (.aload_n 0, 1) := by decide +kernel
theorem dL_law_861 : decode cL_law 861 = .ok (.iload_n 3, 1) := by decide +kernel
theorem dL_law_862 : decode cL_law 862 = .ok (.iconst 1, 1) := by decide +kernel
theorem dL_law_863 : decode cL_law 863 = .ok (.iadd, 1) := by decide +kernel
theorem dL_law_864 : decode cL_law 864 = .ok (.iaload, 1) := by decide +kernel
theorem dL_law_865 : decode cL_law 865 = .ok (.invokevirtual 109, 3) := by decide +kernel
theorem dL_law_868 : decode cL_law 868 = .ok (.if_icmp .eq 28, 3) := by decide +kernel
theorem dL_law_871 : decode cL_law 871 = .ok (.iconst 0, 1) := by decide +kernel
theorem dL_law_872 : decode cL_law 872 = .ok (.ireturn, 1) := by decide +kernel
theorem dL_law_873 : decode cL_law 873 = .ok (.aload_n 1, 1) := by decide +kernel
theorem dL_law_874 : decode cL_law 874 = .ok (.aload_n 0, 1) := by decide +kernel
theorem dL_law_875 : decode cL_law 875 = .ok (.iload_n 3, 1) := by decide +kernel
theorem dL_law_876 : decode cL_law 876 = .ok (.iconst 1, 1) := by decide +kernel
theorem dL_law_877 : decode cL_law 877 = .ok (.iadd, 1) := by decide +kernel
theorem dL_law_878 : decode cL_law 878 = .ok (.iaload, 1) := by decide +kernel
theorem dL_law_879 : decode cL_law 879 = .ok (.invokevirtual 110, 3) := by decide +kernel
theorem dL_law_882 : decode cL_law 882 = .ok (.aload_n 2, 1) := by decide +kernel
theorem dL_law_883 : decode cL_law 883 = .ok (.aload_n 0, 1) := by decide +kernel
theorem dL_law_884 : decode cL_law 884 = .ok (.iload_n 3, 1) := by decide +kernel
theorem dL_law_885 : decode cL_law 885 = .ok (.iconst 1, 1) := by decide +kernel
theorem dL_law_886 : decode cL_law 886 = .ok (.iadd, 1) := by decide +kernel
theorem dL_law_887 : decode cL_law 887 = .ok (.iaload, 1) := by decide +kernel
theorem dL_law_888 : decode cL_law 888 = .ok (.invokevirtual 113, 3) := by decide +kernel
theorem dL_law_891 : decode cL_law 891 = .ok (.if_icmp .eq 5, 3) := by decide +kernel
theorem dL_law_894 : decode cL_law 894 = .ok (.iconst 0, 1) := by decide +kernel
theorem dL_law_895 : decode cL_law 895 = .ok (.ireturn, 1) := by decide +kernel
theorem dL_law_896 : decode cL_law 896 = .ok (.iinc 3 5, 3) := by decide +kernel
theorem dL_law_899 : decode cL_law 899 = .ok (.goto (-881), 3) := by decide +kernel
theorem dL_law_902 : decode cL_law 902 = .ok (.iconst 1, 1) := by decide +kernel
theorem dL_law_903 : decode cL_law 903 = .ok (.ireturn, 1) := by decide +kernel
end
section
def tbG : List Cond := lw_tbl.filter goodWord
theorem tbG_in {w : Cond} (h : w ∈ lw_tbl) (g : goodWord w = true) : w ∈ tbG := List.mem_filter.mpr ⟨h, g⟩
theorem tb0 {w : Cond} (h : w ∈ k2_sels lw_privs) (g : goodWord w = true) : w ∈ tbG := tbG_in (List.mem_append_left _ h) g
theorem tb1 {w : Cond} (h : w ∈ tables_1_1) (g : goodWord w = true) : w ∈ tbG := tbG_in (List.mem_append_right _ (List.mem_append_left _ h)) g
theorem tb2 {w : Cond} (h : w ∈ tables_1_2) (g : goodWord w = true) : w ∈ tbG := tbG_in (List.mem_append_right _ (List.mem_append_right _ (List.mem_append_left _ h))) g
theorem tb3 {w : Cond} (h : w ∈ tables_1_3) (g : goodWord w = true) : w ∈ tbG := tbG_in (List.mem_append_right _ (List.mem_append_right _ (List.mem_append_right _ h))) g
theorem w_se_X0_lets : Cond.selects RX0 yX0_lets yX0_lets ∈ tbG := tb0 (List.mem_of_getElem? (i := 0) rfl) rfl
theorem w_se_X0_isInTime : Cond.selects RX0 yX0_isInTime yX0_isInTime ∈ tbG := tb0 (List.mem_of_getElem? (i := 1) rfl) rfl
theorem w_se_X0_isHealed : Cond.selects RX0 yX0_isHealed yX0_isHealed ∈ tbG := tb0 (List.mem_of_getElem? (i := 2) rfl) rfl
theorem w_se_X3_soundOn : Cond.selects RX3 yX3_soundOn yX3_soundOn ∈ tbG := tb0 (List.mem_of_getElem? (i := 3) rfl) rfl
theorem w_se_X3_exempt : Cond.selects RX3 yX3_exempt yX3_exempt ∈ tbG := tb0 (List.mem_of_getElem? (i := 4) rfl) rfl
theorem w_se_X0_isHeldUp : Cond.selects RX0 yX0_isHeldUp yX0_isHeldUp ∈ tbG := tb0 (List.mem_of_getElem? (i := 5) rfl) rfl
theorem w_se_X0_heldUpOf : Cond.selects RX0 yX0_heldUpOf yX0_heldUpOf ∈ tbG := tb0 (List.mem_of_getElem? (i := 6) rfl) rfl
theorem w_se_X0_everyOne : Cond.selects RX0 yX0_everyOne yX0_everyOne ∈ tbG := tb0 (List.mem_of_getElem? (i := 7) rfl) rfl
theorem w_se_X3_fallen : Cond.selects RX3 yX3_fallen yX3_fallen ∈ tbG := tb0 (List.mem_of_getElem? (i := 8) rfl) rfl
theorem w_se_X3_stepCount : Cond.selects RX3 yX3_stepCount yX3_stepCount ∈ tbG := tb0 (List.mem_of_getElem? (i := 9) rfl) rfl
theorem w_se_X3_stepAt : Cond.selects RX3 yX3_stepAt yX3_stepAt ∈ tbG := tb0 (List.mem_of_getElem? (i := 10) rfl) rfl
theorem w_se_X3_wiseWho : Cond.selects RX3 yX3_wiseWho yX3_wiseWho ∈ tbG := tb0 (List.mem_of_getElem? (i := 11) rfl) rfl
theorem w_se_X3_firstWiseAct : Cond.selects RX3 yX3_firstWiseAct yX3_firstWiseAct ∈ tbG := tb0 (List.mem_of_getElem? (i := 12) rfl) rfl
theorem w_se_X3_fewestHealed : Cond.selects RX3 yX3_fewestHealed yX3_fewestHealed ∈ tbG := tb0 (List.mem_of_getElem? (i := 13) rfl) rfl
theorem w_se_X3_indispensable : Cond.selects RX3 yX3_indispensable yX3_indispensable ∈ tbG := tb0 (List.mem_of_getElem? (i := 14) rfl) rfl
theorem w_se_X3_allStand : Cond.selects RX3 yX3_allStand yX3_allStand ∈ tbG := tb0 (List.mem_of_getElem? (i := 15) rfl) rfl
theorem w_se_X3_withstands : Cond.selects RX3 yX3_withstands yX3_withstands ∈ tbG := tb0 (List.mem_of_getElem? (i := 16) rfl) rfl
theorem w_se_X4_isAct : Cond.selects RX4 yX4_isAct yX4_isAct ∈ tbG := tb0 (List.mem_of_getElem? (i := 17) rfl) rfl
theorem w_se_X4_wouldCount : Cond.selects RX4 yX4_wouldCount yX4_wouldCount ∈ tbG := tb0 (List.mem_of_getElem? (i := 18) rfl) rfl
theorem w_se_X4_isHealed : Cond.selects RX4 yX4_isHealed yX4_isHealed ∈ tbG := tb0 (List.mem_of_getElem? (i := 19) rfl) rfl
theorem w_se_X4_soundOf : Cond.selects RX4 yX4_soundOf yX4_soundOf ∈ tbG := tb0 (List.mem_of_getElem? (i := 20) rfl) rfl
theorem w_se_X4_isSound : Cond.selects RX4 yX4_isSound yX4_isSound ∈ tbG := tb0 (List.mem_of_getElem? (i := 21) rfl) rfl
theorem w_se_X4_isAsked : Cond.selects RX4 yX4_isAsked yX4_isAsked ∈ tbG := tb0 (List.mem_of_getElem? (i := 22) rfl) rfl
theorem w_se_X4_mostOf : Cond.selects RX4 yX4_mostOf yX4_mostOf ∈ tbG := tb0 (List.mem_of_getElem? (i := 23) rfl) rfl
theorem w_se_X4_loose : Cond.selects RX4 yX4_loose yX4_loose ∈ tbG := tb0 (List.mem_of_getElem? (i := 24) rfl) rfl
theorem w_se_X4_isHeld : Cond.selects RX4 yX4_isHeld yX4_isHeld ∈ tbG := tb0 (List.mem_of_getElem? (i := 25) rfl) rfl
theorem w_se_X4_leastOf : Cond.selects RX4 yX4_leastOf yX4_leastOf ∈ tbG := tb0 (List.mem_of_getElem? (i := 26) rfl) rfl
theorem w_se_X4_standing : Cond.selects RX4 yX4_standing yX4_standing ∈ tbG := tb0 (List.mem_of_getElem? (i := 27) rfl) rfl
theorem w_se_X4_namedBy : Cond.selects RX4 yX4_namedBy yX4_namedBy ∈ tbG := tb0 (List.mem_of_getElem? (i := 28) rfl) rfl
theorem w_se_X4_fallOf : Cond.selects RX4 yX4_fallOf yX4_fallOf ∈ tbG := tb0 (List.mem_of_getElem? (i := 29) rfl) rfl
theorem w_se_X4_backOf : Cond.selects RX4 yX4_backOf yX4_backOf ∈ tbG := tb0 (List.mem_of_getElem? (i := 30) rfl) rfl
theorem w_se_X4_wiseOf : Cond.selects RX4 yX4_wiseOf yX4_wiseOf ∈ tbG := tb0 (List.mem_of_getElem? (i := 31) rfl) rfl
theorem w_se_X4_isSet : Cond.selects RX4 yX4_isSet yX4_isSet ∈ tbG := tb0 (List.mem_of_getElem? (i := 32) rfl) rfl
theorem w_se_X4_isSafeOn : Cond.selects RX4 yX4_isSafeOn yX4_isSafeOn ∈ tbG := tb0 (List.mem_of_getElem? (i := 33) rfl) rfl
theorem w_ini_L : Cond.initialized RL ∈ tbG := tb1 (List.mem_of_getElem? (i := 0) rfl) rfl
theorem w_ini_X3 : Cond.initialized RX3 ∈ tbG := tb1 (List.mem_of_getElem? (i := 1) rfl) rfl
theorem w_ini_X0 : Cond.initialized RX0 ∈ tbG := tb1 (List.mem_of_getElem? (i := 2) rfl) rfl
theorem w_ini_J7 : Cond.initialized RJ7 ∈ tbG := tb1 (List.mem_of_getElem? (i := 3) rfl) rfl
theorem w_ini_X1 : Cond.initialized RX1 ∈ tbG := tb1 (List.mem_of_getElem? (i := 4) rfl) rfl
theorem w_ini_X2 : Cond.initialized RX2 ∈ tbG := tb1 (List.mem_of_getElem? (i := 5) rfl) rfl
theorem w_ini_X4 : Cond.initialized RX4 ∈ tbG := tb1 (List.mem_of_getElem? (i := 6) rfl) rfl
theorem w_ini_J9 : Cond.initialized RJ9 ∈ tbG := tb1 (List.mem_of_getElem? (i := 7) rfl) rfl
theorem w_ini_J6 : Cond.initialized RJ6 ∈ tbG := tb1 (List.mem_of_getElem? (i := 8) rfl) rfl
theorem w_cl_L_7 : Cond.classLink RL 7 RX3 ∈ tbG := tb1 (List.mem_of_getElem? (i := 9) rfl) rfl
theorem w_ins_X3 : Cond.instantiable RX3 5 ∈ tbG := tb1 (List.mem_of_getElem? (i := 10) rfl) rfl
theorem w_ml_L_9 : Cond.methodLink RL 9 yX3_init ∈ tbG := tb1 (List.mem_of_getElem? (i := 11) rfl) rfl
theorem w_im_X3_init : Cond.instanceMethod yX3_init ∈ tbG := tb1 (List.mem_of_getElem? (i := 12) rfl) rfl
theorem w_co_X3_init : Cond.code yX3_init prog_1_method_1_code 1 none ∈ tbG := tb1 (List.mem_of_getElem? (i := 13) rfl) rfl
theorem w_ml_X3_1 : Cond.methodLink RX3 1 (⟨"java/lang/Object", "<init>", "()V"⟩ : MethodName) ∈ tbG := tb1 (List.mem_of_getElem? (i := 14) rfl) rfl
theorem w_im_Object__init_ : Cond.instanceMethod (⟨"java/lang/Object", "<init>", "()V"⟩ : MethodName) ∈ tbG := tb1 (List.mem_of_getElem? (i := 15) rfl) rfl
theorem w_co_Object__init_ : Cond.code (⟨"java/lang/Object", "<init>", "()V"⟩ : MethodName) object_method_1_code 1 none ∈ tbG := tb1 (List.mem_of_getElem? (i := 16) rfl) rfl
theorem w_cl_X3_7 : Cond.classLink RX3 7 RX0 ∈ tbG := tb1 (List.mem_of_getElem? (i := 17) rfl) rfl
theorem w_ins_X0 : Cond.instantiable RX0 8 ∈ tbG := tb1 (List.mem_of_getElem? (i := 18) rfl) rfl
theorem w_ml_X3_9 : Cond.methodLink RX3 9 yX0_init ∈ tbG := tb1 (List.mem_of_getElem? (i := 19) rfl) rfl
theorem w_im_X0_init : Cond.instanceMethod yX0_init ∈ tbG := tb1 (List.mem_of_getElem? (i := 20) rfl) rfl
theorem w_co_X0_init : Cond.code yX0_init prog_2_method_1_code 1 none ∈ tbG := tb1 (List.mem_of_getElem? (i := 21) rfl) rfl
theorem w_ml_X0_3 : Cond.methodLink RX0 3 (⟨"java/lang/Object", "<init>", "()V"⟩ : MethodName) ∈ tbG := tb1 (List.mem_of_getElem? (i := 22) rfl) rfl
theorem w_cl_X0_24 : Cond.classLink RX0 24 "[[I" ∈ tbG := tb1 (List.mem_of_getElem? (i := 23) rfl) rfl
theorem w_ml_X0_35 : Cond.methodLink RX0 35 yJ7_fill_53178 ∈ tbG := tb1 (List.mem_of_getElem? (i := 25) rfl) rfl
theorem w_sta_J7_fill_53178 : Cond.static yJ7_fill_53178 ∈ tbG := tb1 (List.mem_of_getElem? (i := 26) rfl) rfl
theorem w_co_J7_fill_53178 : Cond.code yJ7_fill_53178 prog_9_method_103_code 4 none ∈ tbG := tb1 (List.mem_of_getElem? (i := 27) rfl) rfl
theorem w_fl_X0_9 : Cond.fieldLink RX0 9 "FallWith$Acts" "day" "[I" ∈ tbG := tb1 (List.mem_of_getElem? (i := 28) rfl) rfl
theorem w_fl_X3_168 : Cond.fieldLink RX3 168 "FallWith$Acts" "day" "[I" ∈ tbG := tb1 (List.mem_of_getElem? (i := 29) rfl) rfl
theorem w_fl_X0_15 : Cond.fieldLink RX0 15 "FallWith$Acts" "giver" "[I" ∈ tbG := tb1 (List.mem_of_getElem? (i := 30) rfl) rfl
theorem w_fl_X0_18 : Cond.fieldLink RX0 18 "FallWith$Acts" "taker" "[I" ∈ tbG := tb1 (List.mem_of_getElem? (i := 31) rfl) rfl
theorem w_fl_X0_21 : Cond.fieldLink RX0 21 "FallWith$Acts" "worth" "[I" ∈ tbG := tb1 (List.mem_of_getElem? (i := 32) rfl) rfl
theorem w_fl_X0_26 : Cond.fieldLink RX0 26 "FallWith$Acts" "settings" "[[I" ∈ tbG := tb1 (List.mem_of_getElem? (i := 33) rfl) rfl
theorem w_fl_X3_65 : Cond.fieldLink RX3 65 "FallWith$Acts" "settings" "[[I" ∈ tbG := tb1 (List.mem_of_getElem? (i := 34) rfl) rfl
theorem w_fl_X0_29 : Cond.fieldLink RX0 29 "FallWith$Acts" "allCount" "[I" ∈ tbG := tb1 (List.mem_of_getElem? (i := 35) rfl) rfl
theorem w_fl_X3_84 : Cond.fieldLink RX3 84 "FallWith$Acts" "allCount" "[I" ∈ tbG := tb1 (List.mem_of_getElem? (i := 36) rfl) rfl
theorem w_fl_X0_32 : Cond.fieldLink RX0 32 "FallWith$Acts" "alls" "[[I" ∈ tbG := tb1 (List.mem_of_getElem? (i := 37) rfl) rfl
theorem w_fl_X0_41 : Cond.fieldLink RX0 41 "FallWith$Acts" "count" "I" ∈ tbG := tb1 (List.mem_of_getElem? (i := 38) rfl) rfl
theorem w_fl_X3_48 : Cond.fieldLink RX3 48 "FallWith$Acts" "count" "I" ∈ tbG := tb1 (List.mem_of_getElem? (i := 39) rfl) rfl
theorem w_arc : Cond.arrayClass .int ∈ tbG := tb1 (List.mem_of_getElem? (i := 57) rfl) rfl
theorem w_cl_X3_16 : Cond.classLink RX3 16 RX1 ∈ tbG := tb1 (List.mem_of_getElem? (i := 58) rfl) rfl
theorem w_ins_X1 : Cond.instantiable RX1 4 ∈ tbG := tb1 (List.mem_of_getElem? (i := 59) rfl) rfl
theorem w_im_X1_init : Cond.instanceMethod yX1_init ∈ tbG := tb1 (List.mem_of_getElem? (i := 61) rfl) rfl
theorem w_co_X1_init : Cond.code yX1_init prog_3_method_1_code 1 none ∈ tbG := tb1 (List.mem_of_getElem? (i := 62) rfl) rfl
theorem w_ml_X1_3 : Cond.methodLink RX1 3 (⟨"java/lang/Object", "<init>", "()V"⟩ : MethodName) ∈ tbG := tb1 (List.mem_of_getElem? (i := 63) rfl) rfl
theorem w_fl_X1_9 : Cond.fieldLink RX1 9 "FallWith$Askings" "act" "[I" ∈ tbG := tb1 (List.mem_of_getElem? (i := 64) rfl) rfl
theorem w_fl_X1_15 : Cond.fieldLink RX1 15 "FallWith$Askings" "who" "[I" ∈ tbG := tb1 (List.mem_of_getElem? (i := 65) rfl) rfl
theorem w_fl_X1_18 : Cond.fieldLink RX1 18 "FallWith$Askings" "day" "[I" ∈ tbG := tb1 (List.mem_of_getElem? (i := 66) rfl) rfl
theorem w_fl_X1_21 : Cond.fieldLink RX1 21 "FallWith$Askings" "count" "I" ∈ tbG := tb1 (List.mem_of_getElem? (i := 67) rfl) rfl
theorem w_fl_X3_87 : Cond.fieldLink RX3 87 "FallWith$Askings" "count" "I" ∈ tbG := tb1 (List.mem_of_getElem? (i := 68) rfl) rfl
theorem w_cl_X3_23 : Cond.classLink RX3 23 RX2 ∈ tbG := tb1 (List.mem_of_getElem? (i := 78) rfl) rfl
theorem w_ins_X2 : Cond.instantiable RX2 2 ∈ tbG := tb1 (List.mem_of_getElem? (i := 79) rfl) rfl
theorem w_im_X2_init : Cond.instanceMethod yX2_init ∈ tbG := tb1 (List.mem_of_getElem? (i := 81) rfl) rfl
theorem w_co_X2_init : Cond.code yX2_init prog_4_method_1_code 1 none ∈ tbG := tb1 (List.mem_of_getElem? (i := 82) rfl) rfl
theorem w_ml_X2_3 : Cond.methodLink RX2 3 (⟨"java/lang/Object", "<init>", "()V"⟩ : MethodName) ∈ tbG := tb1 (List.mem_of_getElem? (i := 83) rfl) rfl
theorem w_fl_X2_9 : Cond.fieldLink RX2 9 "FallWith$Pad" "signs" "[I" ∈ tbG := tb1 (List.mem_of_getElem? (i := 84) rfl) rfl
theorem w_fl_X0_52 : Cond.fieldLink RX0 52 "FallWith$Pad" "signs" "[I" ∈ tbG := tb1 (List.mem_of_getElem? (i := 85) rfl) rfl
theorem w_fl_X2_15 : Cond.fieldLink RX2 15 "FallWith$Pad" "count" "I" ∈ tbG := tb1 (List.mem_of_getElem? (i := 86) rfl) rfl
theorem w_fl_X3_69 : Cond.fieldLink RX3 69 "FallWith$Pad" "count" "I" ∈ tbG := tb1 (List.mem_of_getElem? (i := 87) rfl) rfl
theorem w_fl_X0_49 : Cond.fieldLink RX0 49 "FallWith$Pad" "count" "I" ∈ tbG := tb1 (List.mem_of_getElem? (i := 88) rfl) rfl
theorem w_fl_X3_10 : Cond.fieldLink RX3 10 "FallWith" "acts" "LFallWith$Acts;" ∈ tbG := tb1 (List.mem_of_getElem? (i := 94) rfl) rfl
theorem w_fl_X3_19 : Cond.fieldLink RX3 19 "FallWith" "askings" "LFallWith$Askings;" ∈ tbG := tb1 (List.mem_of_getElem? (i := 95) rfl) rfl
theorem w_fl_X3_26 : Cond.fieldLink RX3 26 "FallWith" "pad" "LFallWith$Pad;" ∈ tbG := tb1 (List.mem_of_getElem? (i := 96) rfl) rfl
theorem w_fl_X3_30 : Cond.fieldLink RX3 30 "FallWith" "lawNow" "I" ∈ tbG := tb1 (List.mem_of_getElem? (i := 97) rfl) rfl
theorem w_fl_X3_34 : Cond.fieldLink RX3 34 "FallWith" "rateNow" "I" ∈ tbG := tb1 (List.mem_of_getElem? (i := 98) rfl) rfl
theorem w_ml_L_13 : Cond.methodLink RL 13 yX3_act ∈ tbG := tb1 (List.mem_of_getElem? (i := 110) rfl) rfl
theorem w_im_X3_act : Cond.instanceMethod yX3_act ∈ tbG := tb1 (List.mem_of_getElem? (i := 111) rfl) rfl
theorem w_se_X3_act : Cond.selects RX3 yX3_act yX3_act ∈ tbG := tb1 (List.mem_of_getElem? (i := 112) rfl) rfl
theorem w_co_X3_act : Cond.code yX3_act prog_1_method_2_code 5 (some .int) ∈ tbG := tb1 (List.mem_of_getElem? (i := 113) rfl) rfl
theorem w_ml_X3_37 : Cond.methodLink RX3 37 yX3_isWho ∈ tbG := tb1 (List.mem_of_getElem? (i := 114) rfl) rfl
theorem w_sta_X3_isWho : Cond.static yX3_isWho ∈ tbG := tb1 (List.mem_of_getElem? (i := 115) rfl) rfl
theorem w_co_X3_isWho : Cond.code yX3_isWho prog_1_method_28_code 1 (some .boolean) ∈ tbG := tb1 (List.mem_of_getElem? (i := 116) rfl) rfl
theorem w_ml_X3_44 : Cond.methodLink RX3 44 yX3_within ∈ tbG := tb1 (List.mem_of_getElem? (i := 117) rfl) rfl
theorem w_sta_X3_within : Cond.static yX3_within ∈ tbG := tb1 (List.mem_of_getElem? (i := 118) rfl) rfl
theorem w_co_X3_within : Cond.code yX3_within prog_1_method_26_code 3 (some .boolean) ∈ tbG := tb1 (List.mem_of_getElem? (i := 119) rfl) rfl
theorem w_ml_X3_41 : Cond.methodLink RX3 41 yX3_isDay ∈ tbG := tb1 (List.mem_of_getElem? (i := 120) rfl) rfl
theorem w_sta_X3_isDay : Cond.static yX3_isDay ∈ tbG := tb1 (List.mem_of_getElem? (i := 121) rfl) rfl
theorem w_co_X3_isDay : Cond.code yX3_isDay prog_1_method_27_code 1 (some .boolean) ∈ tbG := tb1 (List.mem_of_getElem? (i := 122) rfl) rfl
theorem w_ml_X3_51 : Cond.methodLink RX3 51 yX0_add ∈ tbG := tb1 (List.mem_of_getElem? (i := 123) rfl) rfl
theorem w_im_X0_add : Cond.instanceMethod yX0_add ∈ tbG := tb1 (List.mem_of_getElem? (i := 124) rfl) rfl
theorem w_se_X0_add : Cond.selects RX0 yX0_add yX0_add ∈ tbG := tb1 (List.mem_of_getElem? (i := 125) rfl) rfl
theorem w_co_X0_add : Cond.code yX0_add prog_2_method_2_code 5 (some .int) ∈ tbG := tb1 (List.mem_of_getElem? (i := 126) rfl) rfl
theorem w_ml_L_18 : Cond.methodLink RL 18 yX3_set ∈ tbG := tb1 (List.mem_of_getElem? (i := 127) rfl) rfl
theorem w_im_X3_set : Cond.instanceMethod yX3_set ∈ tbG := tb1 (List.mem_of_getElem? (i := 128) rfl) rfl
theorem w_se_X3_set : Cond.selects RX3 yX3_set yX3_set ∈ tbG := tb1 (List.mem_of_getElem? (i := 129) rfl) rfl
theorem w_co_X3_set : Cond.code yX3_set prog_1_method_3_code 5 (some .int) ∈ tbG := tb1 (List.mem_of_getElem? (i := 130) rfl) rfl
theorem w_ml_X3_55 : Cond.methodLink RX3 55 yX0_has ∈ tbG := tb1 (List.mem_of_getElem? (i := 131) rfl) rfl
theorem w_im_X0_has : Cond.instanceMethod yX0_has ∈ tbG := tb1 (List.mem_of_getElem? (i := 132) rfl) rfl
theorem w_se_X0_has : Cond.selects RX0 yX0_has yX0_has ∈ tbG := tb1 (List.mem_of_getElem? (i := 133) rfl) rfl
theorem w_co_X0_has : Cond.code yX0_has prog_2_method_3_code 2 (some .boolean) ∈ tbG := tb1 (List.mem_of_getElem? (i := 134) rfl) rfl
theorem w_fl_X3_58 : Cond.fieldLink RX3 58 "FallWith" "LEAST_SETTING" "[I" ∈ tbG := tb1 (List.mem_of_getElem? (i := 135) rfl) rfl
theorem w_fl_X3_62 : Cond.fieldLink RX3 62 "FallWith" "GREATEST_SETTING" "[I" ∈ tbG := tb1 (List.mem_of_getElem? (i := 137) rfl) rfl
theorem w_ml_L_23 : Cond.methodLink RL 23 yX3_law ∈ tbG := tb1 (List.mem_of_getElem? (i := 139) rfl) rfl
theorem w_im_X3_law : Cond.instanceMethod yX3_law ∈ tbG := tb1 (List.mem_of_getElem? (i := 140) rfl) rfl
theorem w_se_X3_law : Cond.selects RX3 yX3_law yX3_law ∈ tbG := tb1 (List.mem_of_getElem? (i := 141) rfl) rfl
theorem w_co_X3_law : Cond.code yX3_law prog_1_method_4_code 4 (some .int) ∈ tbG := tb1 (List.mem_of_getElem? (i := 142) rfl) rfl
theorem w_ml_L_28 : Cond.methodLink RL 28 yX3_say ∈ tbG := tb1 (List.mem_of_getElem? (i := 143) rfl) rfl
theorem w_im_X3_say : Cond.instanceMethod yX3_say ∈ tbG := tb1 (List.mem_of_getElem? (i := 144) rfl) rfl
theorem w_se_X3_say : Cond.selects RX3 yX3_say yX3_say ∈ tbG := tb1 (List.mem_of_getElem? (i := 145) rfl) rfl
theorem w_co_X3_say : Cond.code yX3_say prog_1_method_5_code 2 (some .int) ∈ tbG := tb1 (List.mem_of_getElem? (i := 146) rfl) rfl
theorem w_ml_X3_70 : Cond.methodLink RX3 70 yX2_add ∈ tbG := tb1 (List.mem_of_getElem? (i := 147) rfl) rfl
theorem w_im_X2_add : Cond.instanceMethod yX2_add ∈ tbG := tb1 (List.mem_of_getElem? (i := 148) rfl) rfl
theorem w_se_X2_add : Cond.selects RX2 yX2_add yX2_add ∈ tbG := tb1 (List.mem_of_getElem? (i := 149) rfl) rfl
theorem w_co_X2_add : Cond.code yX2_add prog_4_method_2_code 2 (some .int) ∈ tbG := tb1 (List.mem_of_getElem? (i := 150) rfl) rfl
theorem w_ml_L_33 : Cond.methodLink RL 33 yX3_wipe ∈ tbG := tb1 (List.mem_of_getElem? (i := 151) rfl) rfl
theorem w_im_X3_wipe : Cond.instanceMethod yX3_wipe ∈ tbG := tb1 (List.mem_of_getElem? (i := 152) rfl) rfl
theorem w_se_X3_wipe : Cond.selects RX3 yX3_wipe yX3_wipe ∈ tbG := tb1 (List.mem_of_getElem? (i := 153) rfl) rfl
theorem w_co_X3_wipe : Cond.code yX3_wipe prog_1_method_6_code 1 (some .int) ∈ tbG := tb1 (List.mem_of_getElem? (i := 154) rfl) rfl
theorem w_ml_X3_73 : Cond.methodLink RX3 73 yX2_clear ∈ tbG := tb1 (List.mem_of_getElem? (i := 155) rfl) rfl
theorem w_im_X2_clear : Cond.instanceMethod yX2_clear ∈ tbG := tb1 (List.mem_of_getElem? (i := 156) rfl) rfl
theorem w_se_X2_clear : Cond.selects RX2 yX2_clear yX2_clear ∈ tbG := tb1 (List.mem_of_getElem? (i := 157) rfl) rfl
theorem w_co_X2_clear : Cond.code yX2_clear prog_4_method_3_code 2 (some .int) ∈ tbG := tb1 (List.mem_of_getElem? (i := 158) rfl) rfl
theorem w_ml_L_38 : Cond.methodLink RL 38 yX3_fault ∈ tbG := tb1 (List.mem_of_getElem? (i := 159) rfl) rfl
theorem w_im_X3_fault : Cond.instanceMethod yX3_fault ∈ tbG := tb1 (List.mem_of_getElem? (i := 160) rfl) rfl
theorem w_se_X3_fault : Cond.selects RX3 yX3_fault yX3_fault ∈ tbG := tb1 (List.mem_of_getElem? (i := 161) rfl) rfl
theorem w_co_X3_fault : Cond.code yX3_fault prog_1_method_7_code 1 (some .int) ∈ tbG := tb1 (List.mem_of_getElem? (i := 162) rfl) rfl
theorem w_ml_X3_77 : Cond.methodLink RX3 77 yX2_faultPlace ∈ tbG := tb1 (List.mem_of_getElem? (i := 163) rfl) rfl
theorem w_im_X2_faultPlace : Cond.instanceMethod yX2_faultPlace ∈ tbG := tb1 (List.mem_of_getElem? (i := 164) rfl) rfl
theorem w_se_X2_faultPlace : Cond.selects RX2 yX2_faultPlace yX2_faultPlace ∈ tbG := tb1 (List.mem_of_getElem? (i := 165) rfl) rfl
theorem w_co_X2_faultPlace : Cond.code yX2_faultPlace prog_4_method_4_code 2 (some .int) ∈ tbG := tb1 (List.mem_of_getElem? (i := 166) rfl) rfl
theorem w_ml_X2_19 : Cond.methodLink RX2 19 yX2_canStand ∈ tbG := tb1 (List.mem_of_getElem? (i := 167) rfl) rfl
theorem w_sta_X2_canStand : Cond.static yX2_canStand ∈ tbG := tb1 (List.mem_of_getElem? (i := 168) rfl) rfl
theorem w_co_X2_canStand : Cond.code yX2_canStand prog_4_method_6_code 2 (some .boolean) ∈ tbG := tb1 (List.mem_of_getElem? (i := 169) rfl) rfl
theorem w_ml_X2_23 : Cond.methodLink RX2 23 yX2_isForLetter ∈ tbG := tb1 (List.mem_of_getElem? (i := 170) rfl) rfl
theorem w_sta_X2_isForLetter : Cond.static yX2_isForLetter ∈ tbG := tb1 (List.mem_of_getElem? (i := 171) rfl) rfl
theorem w_co_X2_isForLetter : Cond.code yX2_isForLetter prog_4_method_5_code 1 (some .boolean) ∈ tbG := tb1 (List.mem_of_getElem? (i := 172) rfl) rfl
theorem w_ml_L_42 : Cond.methodLink RL 42 yX3_leans ∈ tbG := tb1 (List.mem_of_getElem? (i := 174) rfl) rfl
theorem w_im_X3_leans : Cond.instanceMethod yX3_leans ∈ tbG := tb1 (List.mem_of_getElem? (i := 175) rfl) rfl
theorem w_se_X3_leans : Cond.selects RX3 yX3_leans yX3_leans ∈ tbG := tb1 (List.mem_of_getElem? (i := 176) rfl) rfl
theorem w_co_X3_leans : Cond.code yX3_leans prog_1_method_8_code 2 (some .int) ∈ tbG := tb1 (List.mem_of_getElem? (i := 177) rfl) rfl
theorem w_ml_X3_80 : Cond.methodLink RX3 80 yX0_takeText ∈ tbG := tb1 (List.mem_of_getElem? (i := 178) rfl) rfl
theorem w_im_X0_takeText : Cond.instanceMethod yX0_takeText ∈ tbG := tb1 (List.mem_of_getElem? (i := 179) rfl) rfl
theorem w_se_X0_takeText : Cond.selects RX0 yX0_takeText yX0_takeText ∈ tbG := tb1 (List.mem_of_getElem? (i := 180) rfl) rfl
theorem w_co_X0_takeText : Cond.code yX0_takeText prog_2_method_6_code 7 none ∈ tbG := tb1 (List.mem_of_getElem? (i := 181) rfl) rfl
theorem w_ml_X0_55 : Cond.methodLink RX0 55 yJ9_min_7cf53 ∈ tbG := tb1 (List.mem_of_getElem? (i := 182) rfl) rfl
theorem w_sta_J9_min_7cf53 : Cond.static yJ9_min_7cf53 ∈ tbG := tb1 (List.mem_of_getElem? (i := 183) rfl) rfl
theorem w_co_J9_min_7cf53 : Cond.code yJ9_min_7cf53 prog_8_method_69_code 2 (some .int) ∈ tbG := tb1 (List.mem_of_getElem? (i := 184) rfl) rfl
theorem w_ml_L_46 : Cond.methodLink RL 46 yX3_free ∈ tbG := tb1 (List.mem_of_getElem? (i := 185) rfl) rfl
theorem w_im_X3_free : Cond.instanceMethod yX3_free ∈ tbG := tb1 (List.mem_of_getElem? (i := 186) rfl) rfl
theorem w_se_X3_free : Cond.selects RX3 yX3_free yX3_free ∈ tbG := tb1 (List.mem_of_getElem? (i := 187) rfl) rfl
theorem w_co_X3_free : Cond.code yX3_free prog_1_method_9_code 3 (some .int) ∈ tbG := tb1 (List.mem_of_getElem? (i := 188) rfl) rfl
theorem w_ml_L_50 : Cond.methodLink RL 50 yX3_ask ∈ tbG := tb1 (List.mem_of_getElem? (i := 189) rfl) rfl
theorem w_im_X3_ask : Cond.instanceMethod yX3_ask ∈ tbG := tb1 (List.mem_of_getElem? (i := 190) rfl) rfl
theorem w_se_X3_ask : Cond.selects RX3 yX3_ask yX3_ask ∈ tbG := tb1 (List.mem_of_getElem? (i := 191) rfl) rfl
theorem w_co_X3_ask : Cond.code yX3_ask prog_1_method_10_code 4 (some .int) ∈ tbG := tb1 (List.mem_of_getElem? (i := 192) rfl) rfl
theorem w_ml_X3_88 : Cond.methodLink RX3 88 yX1_add ∈ tbG := tb1 (List.mem_of_getElem? (i := 193) rfl) rfl
theorem w_im_X1_add : Cond.instanceMethod yX1_add ∈ tbG := tb1 (List.mem_of_getElem? (i := 194) rfl) rfl
theorem w_se_X1_add : Cond.selects RX1 yX1_add yX1_add ∈ tbG := tb1 (List.mem_of_getElem? (i := 195) rfl) rfl
theorem w_co_X1_add : Cond.code yX1_add prog_3_method_2_code 4 (some .int) ∈ tbG := tb1 (List.mem_of_getElem? (i := 196) rfl) rfl
theorem w_ml_L_54 : Cond.methodLink RL 54 yX3_counts ∈ tbG := tb1 (List.mem_of_getElem? (i := 197) rfl) rfl
theorem w_im_X3_counts : Cond.instanceMethod yX3_counts ∈ tbG := tb1 (List.mem_of_getElem? (i := 198) rfl) rfl
theorem w_se_X3_counts : Cond.selects RX3 yX3_counts yX3_counts ∈ tbG := tb1 (List.mem_of_getElem? (i := 199) rfl) rfl
theorem w_co_X3_counts : Cond.code yX3_counts prog_1_method_11_code 2 (some .int) ∈ tbG := tb1 (List.mem_of_getElem? (i := 200) rfl) rfl
theorem w_ml_X3_91 : Cond.methodLink RX3 91 yX1_isCounted ∈ tbG := tb1 (List.mem_of_getElem? (i := 201) rfl) rfl
theorem w_im_X1_isCounted : Cond.instanceMethod yX1_isCounted ∈ tbG := tb1 (List.mem_of_getElem? (i := 202) rfl) rfl
theorem w_se_X1_isCounted : Cond.selects RX1 yX1_isCounted yX1_isCounted ∈ tbG := tb1 (List.mem_of_getElem? (i := 203) rfl) rfl
theorem w_co_X1_isCounted : Cond.code yX1_isCounted prog_3_method_3_code 3 (some .boolean) ∈ tbG := tb1 (List.mem_of_getElem? (i := 204) rfl) rfl
theorem w_ml_X1_25 : Cond.methodLink RX1 25 yX0_wouldCount ∈ tbG := tb1 (List.mem_of_getElem? (i := 205) rfl) rfl
theorem w_im_X0_wouldCount : Cond.instanceMethod yX0_wouldCount ∈ tbG := tb1 (List.mem_of_getElem? (i := 206) rfl) rfl
theorem w_se_X0_wouldCount : Cond.selects RX0 yX0_wouldCount yX0_wouldCount ∈ tbG := tb1 (List.mem_of_getElem? (i := 207) rfl) rfl
theorem w_co_X0_wouldCount : Cond.code yX0_wouldCount prog_2_method_15_code 4 (some .boolean) ∈ tbG := tb1 (List.mem_of_getElem? (i := 208) rfl) rfl
theorem w_ml_X0_78 : Cond.methodLink RX0 78 yX0_lets ∈ tbG := tb1 (List.mem_of_getElem? (i := 209) rfl) rfl
theorem w_im_X0_lets : Cond.instanceMethod yX0_lets ∈ tbG := tb1 (List.mem_of_getElem? (i := 211) rfl) rfl
theorem w_co_X0_lets : Cond.code yX0_lets prog_2_method_16_code 4 (some .boolean) ∈ tbG := tb1 (List.mem_of_getElem? (i := 212) rfl) rfl
theorem w_ml_X0_81 : Cond.methodLink RX0 81 yX0_isInTime ∈ tbG := tb1 (List.mem_of_getElem? (i := 213) rfl) rfl
theorem w_im_X0_isInTime : Cond.instanceMethod yX0_isInTime ∈ tbG := tb1 (List.mem_of_getElem? (i := 215) rfl) rfl
theorem w_co_X0_isInTime : Cond.code yX0_isInTime prog_2_method_17_code 3 (some .boolean) ∈ tbG := tb1 (List.mem_of_getElem? (i := 216) rfl) rfl
theorem w_ml_X0_69 : Cond.methodLink RX0 69 yX0_isDone ∈ tbG := tb1 (List.mem_of_getElem? (i := 217) rfl) rfl
theorem w_im_X0_isDone : Cond.instanceMethod yX0_isDone ∈ tbG := tb1 (List.mem_of_getElem? (i := 218) rfl) rfl
theorem w_se_X0_isDone : Cond.selects RX0 yX0_isDone yX0_isDone ∈ tbG := tb1 (List.mem_of_getElem? (i := 219) rfl) rfl
theorem w_co_X0_isDone : Cond.code yX0_isDone prog_2_method_10_code 3 (some .boolean) ∈ tbG := tb1 (List.mem_of_getElem? (i := 220) rfl) rfl
theorem w_ml_X0_72 : Cond.methodLink RX0 72 yX0_isHealed ∈ tbG := tb1 (List.mem_of_getElem? (i := 221) rfl) rfl
theorem w_im_X0_isHealed : Cond.instanceMethod yX0_isHealed ∈ tbG := tb1 (List.mem_of_getElem? (i := 223) rfl) rfl
theorem w_co_X0_isHealed : Cond.code yX0_isHealed prog_2_method_12_code 4 (some .boolean) ∈ tbG := tb1 (List.mem_of_getElem? (i := 224) rfl) rfl
theorem w_ml_L_58 : Cond.methodLink RL 58 yX3_drop ∈ tbG := tb1 (List.mem_of_getElem? (i := 225) rfl) rfl
theorem w_im_X3_drop : Cond.instanceMethod yX3_drop ∈ tbG := tb1 (List.mem_of_getElem? (i := 226) rfl) rfl
theorem w_se_X3_drop : Cond.selects RX3 yX3_drop yX3_drop ∈ tbG := tb1 (List.mem_of_getElem? (i := 227) rfl) rfl
theorem w_co_X3_drop : Cond.code yX3_drop prog_1_method_12_code 1 (some .int) ∈ tbG := tb1 (List.mem_of_getElem? (i := 228) rfl) rfl
theorem w_ml_L_62 : Cond.methodLink RL 62 yX3_all ∈ tbG := tb1 (List.mem_of_getElem? (i := 229) rfl) rfl
theorem w_im_X3_all : Cond.instanceMethod yX3_all ∈ tbG := tb1 (List.mem_of_getElem? (i := 230) rfl) rfl
theorem w_se_X3_all : Cond.selects RX3 yX3_all yX3_all ∈ tbG := tb1 (List.mem_of_getElem? (i := 231) rfl) rfl
theorem w_co_X3_all : Cond.code yX3_all prog_1_method_13_code 4 (some .int) ∈ tbG := tb1 (List.mem_of_getElem? (i := 232) rfl) rfl
theorem w_ml_X3_95 : Cond.methodLink RX3 95 yX3_soundOn ∈ tbG := tb1 (List.mem_of_getElem? (i := 233) rfl) rfl
theorem w_im_X3_soundOn : Cond.instanceMethod yX3_soundOn ∈ tbG := tb1 (List.mem_of_getElem? (i := 235) rfl) rfl
theorem w_co_X3_soundOn : Cond.code yX3_soundOn prog_1_method_31_code 2 (some .int) ∈ tbG := tb1 (List.mem_of_getElem? (i := 236) rfl) rfl
theorem w_ml_X3_177 : Cond.methodLink RX3 177 yX0_unhurtOn ∈ tbG := tb1 (List.mem_of_getElem? (i := 237) rfl) rfl
theorem w_im_X0_unhurtOn : Cond.instanceMethod yX0_unhurtOn ∈ tbG := tb1 (List.mem_of_getElem? (i := 238) rfl) rfl
theorem w_se_X0_unhurtOn : Cond.selects RX0 yX0_unhurtOn yX0_unhurtOn ∈ tbG := tb1 (List.mem_of_getElem? (i := 239) rfl) rfl
theorem w_co_X0_unhurtOn : Cond.code yX0_unhurtOn prog_2_method_14_code 4 (some .int) ∈ tbG := tb2 (List.mem_of_getElem? (i := 0) rfl) rfl
theorem w_ml_X0_75 : Cond.methodLink RX0 75 yX0_isNought ∈ tbG := tb2 (List.mem_of_getElem? (i := 1) rfl) rfl
theorem w_im_X0_isNought : Cond.instanceMethod yX0_isNought ∈ tbG := tb2 (List.mem_of_getElem? (i := 2) rfl) rfl
theorem w_se_X0_isNought : Cond.selects RX0 yX0_isNought yX0_isNought ∈ tbG := tb2 (List.mem_of_getElem? (i := 3) rfl) rfl
theorem w_co_X0_isNought : Cond.code yX0_isNought prog_2_method_13_code 3 (some .boolean) ∈ tbG := tb2 (List.mem_of_getElem? (i := 4) rfl) rfl
theorem w_ml_X3_180 : Cond.methodLink RX3 180 yX1_struckBy ∈ tbG := tb2 (List.mem_of_getElem? (i := 5) rfl) rfl
theorem w_im_X1_struckBy : Cond.instanceMethod yX1_struckBy ∈ tbG := tb2 (List.mem_of_getElem? (i := 6) rfl) rfl
theorem w_se_X1_struckBy : Cond.selects RX1 yX1_struckBy yX1_struckBy ∈ tbG := tb2 (List.mem_of_getElem? (i := 7) rfl) rfl
theorem w_co_X1_struckBy : Cond.code yX1_struckBy prog_3_method_4_code 5 (some .int) ∈ tbG := tb2 (List.mem_of_getElem? (i := 8) rfl) rfl
theorem w_ml_X1_31 : Cond.methodLink RX1 31 yX1_isCounted ∈ tbG := tb2 (List.mem_of_getElem? (i := 9) rfl) rfl
theorem w_ml_X3_98 : Cond.methodLink RX3 98 yX3_exempt ∈ tbG := tb2 (List.mem_of_getElem? (i := 10) rfl) rfl
theorem w_im_X3_exempt : Cond.instanceMethod yX3_exempt ∈ tbG := tb2 (List.mem_of_getElem? (i := 12) rfl) rfl
theorem w_co_X3_exempt : Cond.code yX3_exempt prog_1_method_32_code 1 (some .int) ∈ tbG := tb2 (List.mem_of_getElem? (i := 13) rfl) rfl
theorem w_ml_X3_162 : Cond.methodLink RX3 162 yX0_goodOnes ∈ tbG := tb2 (List.mem_of_getElem? (i := 14) rfl) rfl
theorem w_im_X0_goodOnes : Cond.instanceMethod yX0_goodOnes ∈ tbG := tb2 (List.mem_of_getElem? (i := 15) rfl) rfl
theorem w_se_X0_goodOnes : Cond.selects RX0 yX0_goodOnes yX0_goodOnes ∈ tbG := tb2 (List.mem_of_getElem? (i := 16) rfl) rfl
theorem w_co_X0_goodOnes : Cond.code yX0_goodOnes prog_2_method_9_code 3 (some .int) ∈ tbG := tb2 (List.mem_of_getElem? (i := 17) rfl) rfl
theorem w_ml_X3_165 : Cond.methodLink RX3 165 yX3_exemptBy ∈ tbG := tb2 (List.mem_of_getElem? (i := 18) rfl) rfl
theorem w_sta_X3_exemptBy : Cond.static yX3_exemptBy ∈ tbG := tb2 (List.mem_of_getElem? (i := 19) rfl) rfl
theorem w_co_X3_exemptBy : Cond.code yX3_exemptBy prog_1_method_33_code 2 (some .int) ∈ tbG := tb2 (List.mem_of_getElem? (i := 20) rfl) rfl
theorem w_ml_X3_101 : Cond.methodLink RX3 101 yX0_most ∈ tbG := tb2 (List.mem_of_getElem? (i := 21) rfl) rfl
theorem w_im_X0_most : Cond.instanceMethod yX0_most ∈ tbG := tb2 (List.mem_of_getElem? (i := 22) rfl) rfl
theorem w_se_X0_most : Cond.selects RX0 yX0_most yX0_most ∈ tbG := tb2 (List.mem_of_getElem? (i := 23) rfl) rfl
theorem w_co_X0_most : Cond.code yX0_most prog_2_method_21_code 6 (some .int) ∈ tbG := tb2 (List.mem_of_getElem? (i := 24) rfl) rfl
theorem w_ml_X0_91 : Cond.methodLink RX0 91 yX0_unheld ∈ tbG := tb2 (List.mem_of_getElem? (i := 25) rfl) rfl
theorem w_im_X0_unheld : Cond.instanceMethod yX0_unheld ∈ tbG := tb2 (List.mem_of_getElem? (i := 26) rfl) rfl
theorem w_se_X0_unheld : Cond.selects RX0 yX0_unheld yX0_unheld ∈ tbG := tb2 (List.mem_of_getElem? (i := 27) rfl) rfl
theorem w_co_X0_unheld : Cond.code yX0_unheld prog_2_method_20_code 6 (some .int) ∈ tbG := tb2 (List.mem_of_getElem? (i := 28) rfl) rfl
theorem w_sta_X3_contains : Cond.static yX3_contains ∈ tbG := tb2 (List.mem_of_getElem? (i := 30) rfl) rfl
theorem w_co_X3_contains : Cond.code yX3_contains prog_1_method_29_code 2 (some .boolean) ∈ tbG := tb2 (List.mem_of_getElem? (i := 31) rfl) rfl
theorem w_ml_X0_88 : Cond.methodLink RX0 88 yX0_isHeldUp ∈ tbG := tb2 (List.mem_of_getElem? (i := 32) rfl) rfl
theorem w_im_X0_isHeldUp : Cond.instanceMethod yX0_isHeldUp ∈ tbG := tb2 (List.mem_of_getElem? (i := 34) rfl) rfl
theorem w_co_X0_isHeldUp : Cond.code yX0_isHeldUp prog_2_method_19_code 5 (some .boolean) ∈ tbG := tb2 (List.mem_of_getElem? (i := 35) rfl) rfl
theorem w_ml_X3_105 : Cond.methodLink RX3 105 yX0_least ∈ tbG := tb2 (List.mem_of_getElem? (i := 36) rfl) rfl
theorem w_im_X0_least : Cond.instanceMethod yX0_least ∈ tbG := tb2 (List.mem_of_getElem? (i := 37) rfl) rfl
theorem w_se_X0_least : Cond.selects RX0 yX0_least yX0_least ∈ tbG := tb2 (List.mem_of_getElem? (i := 38) rfl) rfl
theorem w_co_X0_least : Cond.code yX0_least prog_2_method_22_code 6 (some .int) ∈ tbG := tb2 (List.mem_of_getElem? (i := 39) rfl) rfl
theorem w_ml_X0_94 : Cond.methodLink RX0 94 yX0_heldUpOf ∈ tbG := tb2 (List.mem_of_getElem? (i := 40) rfl) rfl
theorem w_im_X0_heldUpOf : Cond.instanceMethod yX0_heldUpOf ∈ tbG := tb2 (List.mem_of_getElem? (i := 42) rfl) rfl
theorem w_co_X0_heldUpOf : Cond.code yX0_heldUpOf prog_2_method_23_code 5 (some .int) ∈ tbG := tb2 (List.mem_of_getElem? (i := 43) rfl) rfl
theorem w_ml_L_66 : Cond.methodLink RL 66 yX3_why ∈ tbG := tb2 (List.mem_of_getElem? (i := 44) rfl) rfl
theorem w_im_X3_why : Cond.instanceMethod yX3_why ∈ tbG := tb2 (List.mem_of_getElem? (i := 45) rfl) rfl
theorem w_se_X3_why : Cond.selects RX3 yX3_why yX3_why ∈ tbG := tb2 (List.mem_of_getElem? (i := 46) rfl) rfl
theorem w_co_X3_why : Cond.code yX3_why prog_1_method_14_code 4 (some .int) ∈ tbG := tb2 (List.mem_of_getElem? (i := 47) rfl) rfl
theorem w_ml_X3_108 : Cond.methodLink RX3 108 yX0_isDone ∈ tbG := tb2 (List.mem_of_getElem? (i := 48) rfl) rfl
theorem w_ml_X3_112 : Cond.methodLink RX3 112 yX0_isNought ∈ tbG := tb2 (List.mem_of_getElem? (i := 49) rfl) rfl
theorem w_ml_X3_115 : Cond.methodLink RX3 115 yX3_contains ∈ tbG := tb2 (List.mem_of_getElem? (i := 50) rfl) rfl
theorem w_ml_L_70 : Cond.methodLink RL 70 yX3_under ∈ tbG := tb2 (List.mem_of_getElem? (i := 51) rfl) rfl
theorem w_im_X3_under : Cond.instanceMethod yX3_under ∈ tbG := tb2 (List.mem_of_getElem? (i := 52) rfl) rfl
theorem w_se_X3_under : Cond.selects RX3 yX3_under yX3_under ∈ tbG := tb2 (List.mem_of_getElem? (i := 53) rfl) rfl
theorem w_co_X3_under : Cond.code yX3_under prog_1_method_15_code 5 (some .int) ∈ tbG := tb2 (List.mem_of_getElem? (i := 54) rfl) rfl
theorem w_ml_X3_118 : Cond.methodLink RX3 118 yX0_named ∈ tbG := tb2 (List.mem_of_getElem? (i := 55) rfl) rfl
theorem w_im_X0_named : Cond.instanceMethod yX0_named ∈ tbG := tb2 (List.mem_of_getElem? (i := 56) rfl) rfl
theorem w_se_X0_named : Cond.selects RX0 yX0_named yX0_named ∈ tbG := tb2 (List.mem_of_getElem? (i := 57) rfl) rfl
theorem w_co_X0_named : Cond.code yX0_named prog_2_method_7_code 4 (some .int) ∈ tbG := tb2 (List.mem_of_getElem? (i := 58) rfl) rfl
theorem w_ml_X0_45 : Cond.methodLink RX0 45 yX0_everyOne ∈ tbG := tb2 (List.mem_of_getElem? (i := 59) rfl) rfl
theorem w_im_X0_everyOne : Cond.instanceMethod yX0_everyOne ∈ tbG := tb2 (List.mem_of_getElem? (i := 61) rfl) rfl
theorem w_co_X0_everyOne : Cond.code yX0_everyOne prog_2_method_5_code 1 (some .int) ∈ tbG := tb2 (List.mem_of_getElem? (i := 62) rfl) rfl
theorem w_ml_X3_121 : Cond.methodLink RX3 121 yX0_namedByAny ∈ tbG := tb2 (List.mem_of_getElem? (i := 63) rfl) rfl
theorem w_im_X0_namedByAny : Cond.instanceMethod yX0_namedByAny ∈ tbG := tb2 (List.mem_of_getElem? (i := 64) rfl) rfl
theorem w_se_X0_namedByAny : Cond.selects RX0 yX0_namedByAny yX0_namedByAny ∈ tbG := tb2 (List.mem_of_getElem? (i := 65) rfl) rfl
theorem w_co_X0_namedByAny : Cond.code yX0_namedByAny prog_2_method_8_code 4 (some .int) ∈ tbG := tb2 (List.mem_of_getElem? (i := 66) rfl) rfl
theorem w_ml_X0_65 : Cond.methodLink RX0 65 yX0_named ∈ tbG := tb2 (List.mem_of_getElem? (i := 67) rfl) rfl
theorem w_ml_L_74 : Cond.methodLink RL 74 yX3_fall ∈ tbG := tb2 (List.mem_of_getElem? (i := 68) rfl) rfl
theorem w_im_X3_fall : Cond.instanceMethod yX3_fall ∈ tbG := tb2 (List.mem_of_getElem? (i := 69) rfl) rfl
theorem w_se_X3_fall : Cond.selects RX3 yX3_fall yX3_fall ∈ tbG := tb2 (List.mem_of_getElem? (i := 70) rfl) rfl
theorem w_co_X3_fall : Cond.code yX3_fall prog_1_method_16_code 6 (some .int) ∈ tbG := tb2 (List.mem_of_getElem? (i := 71) rfl) rfl
theorem w_ml_X3_124 : Cond.methodLink RX3 124 yX0_wouldCount ∈ tbG := tb2 (List.mem_of_getElem? (i := 72) rfl) rfl
theorem w_ml_X3_127 : Cond.methodLink RX3 127 yX3_fallen ∈ tbG := tb2 (List.mem_of_getElem? (i := 73) rfl) rfl
theorem w_im_X3_fallen : Cond.instanceMethod yX3_fallen ∈ tbG := tb2 (List.mem_of_getElem? (i := 75) rfl) rfl
theorem w_co_X3_fallen : Cond.code yX3_fallen prog_1_method_34_code 5 (some .int) ∈ tbG := tb2 (List.mem_of_getElem? (i := 76) rfl) rfl
theorem w_ml_X3_148 : Cond.methodLink RX3 148 yX3_without ∈ tbG := tb2 (List.mem_of_getElem? (i := 77) rfl) rfl
theorem w_sta_X3_without : Cond.static yX3_without ∈ tbG := tb2 (List.mem_of_getElem? (i := 78) rfl) rfl
theorem w_co_X3_without : Cond.code yX3_without prog_1_method_30_code 2 (some .int) ∈ tbG := tb2 (List.mem_of_getElem? (i := 79) rfl) rfl
theorem w_ml_X3_130 : Cond.methodLink RX3 130 yX3_stepCount ∈ tbG := tb2 (List.mem_of_getElem? (i := 80) rfl) rfl
theorem w_im_X3_stepCount : Cond.instanceMethod yX3_stepCount ∈ tbG := tb2 (List.mem_of_getElem? (i := 82) rfl) rfl
theorem w_co_X3_stepCount : Cond.code yX3_stepCount prog_1_method_35_code 4 (some .int) ∈ tbG := tb2 (List.mem_of_getElem? (i := 83) rfl) rfl
theorem w_ml_X3_133 : Cond.methodLink RX3 133 yX3_stepAt ∈ tbG := tb2 (List.mem_of_getElem? (i := 84) rfl) rfl
theorem w_im_X3_stepAt : Cond.instanceMethod yX3_stepAt ∈ tbG := tb2 (List.mem_of_getElem? (i := 86) rfl) rfl
theorem w_co_X3_stepAt : Cond.code yX3_stepAt prog_1_method_36_code 8 (some .int) ∈ tbG := tb2 (List.mem_of_getElem? (i := 87) rfl) rfl
theorem w_ml_X3_184 : Cond.methodLink RX3 184 yX0_unheld ∈ tbG := tb2 (List.mem_of_getElem? (i := 88) rfl) rfl
theorem w_ml_L_78 : Cond.methodLink RL 78 yX3_back ∈ tbG := tb2 (List.mem_of_getElem? (i := 89) rfl) rfl
theorem w_im_X3_back : Cond.instanceMethod yX3_back ∈ tbG := tb2 (List.mem_of_getElem? (i := 90) rfl) rfl
theorem w_se_X3_back : Cond.selects RX3 yX3_back yX3_back ∈ tbG := tb2 (List.mem_of_getElem? (i := 91) rfl) rfl
theorem w_co_X3_back : Cond.code yX3_back prog_1_method_17_code 5 (some .int) ∈ tbG := tb2 (List.mem_of_getElem? (i := 92) rfl) rfl
theorem w_k_X3_136 : Cond.constant RX3 136 (-1000000001) ∈ tbG := tb2 (List.mem_of_getElem? (i := 93) rfl) rfl
theorem w_k_X3_137 : Cond.constant RX3 137 (-1000000002) ∈ tbG := tb2 (List.mem_of_getElem? (i := 94) rfl) rfl
theorem w_k_X3_138 : Cond.constant RX3 138 (-1000000005) ∈ tbG := tb2 (List.mem_of_getElem? (i := 95) rfl) rfl
theorem w_ml_X3_139 : Cond.methodLink RX3 139 yX0_gain ∈ tbG := tb2 (List.mem_of_getElem? (i := 96) rfl) rfl
theorem w_im_X0_gain : Cond.instanceMethod yX0_gain ∈ tbG := tb2 (List.mem_of_getElem? (i := 97) rfl) rfl
theorem w_se_X0_gain : Cond.selects RX0 yX0_gain yX0_gain ∈ tbG := tb2 (List.mem_of_getElem? (i := 98) rfl) rfl
theorem w_co_X0_gain : Cond.code yX0_gain prog_2_method_24_code 8 (some .int) ∈ tbG := tb2 (List.mem_of_getElem? (i := 99) rfl) rfl
theorem w_ml_L_82 : Cond.methodLink RL 82 yX3_wise ∈ tbG := tb2 (List.mem_of_getElem? (i := 100) rfl) rfl
theorem w_im_X3_wise : Cond.instanceMethod yX3_wise ∈ tbG := tb2 (List.mem_of_getElem? (i := 101) rfl) rfl
theorem w_se_X3_wise : Cond.selects RX3 yX3_wise yX3_wise ∈ tbG := tb2 (List.mem_of_getElem? (i := 102) rfl) rfl
theorem w_co_X3_wise : Cond.code yX3_wise prog_1_method_18_code 3 (some .int) ∈ tbG := tb2 (List.mem_of_getElem? (i := 103) rfl) rfl
theorem w_ml_X3_142 : Cond.methodLink RX3 142 yX3_wiseWho ∈ tbG := tb2 (List.mem_of_getElem? (i := 104) rfl) rfl
theorem w_im_X3_wiseWho : Cond.instanceMethod yX3_wiseWho ∈ tbG := tb2 (List.mem_of_getElem? (i := 106) rfl) rfl
theorem w_co_X3_wiseWho : Cond.code yX3_wiseWho prog_1_method_37_code 6 (some .int) ∈ tbG := tb2 (List.mem_of_getElem? (i := 107) rfl) rfl
theorem w_ml_L_86 : Cond.methodLink RL 86 yX3_rest ∈ tbG := tb2 (List.mem_of_getElem? (i := 108) rfl) rfl
theorem w_im_X3_rest : Cond.instanceMethod yX3_rest ∈ tbG := tb2 (List.mem_of_getElem? (i := 109) rfl) rfl
theorem w_se_X3_rest : Cond.selects RX3 yX3_rest yX3_rest ∈ tbG := tb2 (List.mem_of_getElem? (i := 110) rfl) rfl
theorem w_co_X3_rest : Cond.code yX3_rest prog_1_method_19_code 6 (some .int) ∈ tbG := tb2 (List.mem_of_getElem? (i := 111) rfl) rfl
theorem w_ml_X3_145 : Cond.methodLink RX3 145 yX3_firstWiseAct ∈ tbG := tb2 (List.mem_of_getElem? (i := 112) rfl) rfl
theorem w_im_X3_firstWiseAct : Cond.instanceMethod yX3_firstWiseAct ∈ tbG := tb2 (List.mem_of_getElem? (i := 114) rfl) rfl
theorem w_co_X3_firstWiseAct : Cond.code yX3_firstWiseAct prog_1_method_38_code 4 (some .int) ∈ tbG := tb2 (List.mem_of_getElem? (i := 115) rfl) rfl
theorem w_ml_L_90 : Cond.methodLink RL 90 yX3_heal ∈ tbG := tb2 (List.mem_of_getElem? (i := 116) rfl) rfl
theorem w_im_X3_heal : Cond.instanceMethod yX3_heal ∈ tbG := tb2 (List.mem_of_getElem? (i := 117) rfl) rfl
theorem w_se_X3_heal : Cond.selects RX3 yX3_heal yX3_heal ∈ tbG := tb2 (List.mem_of_getElem? (i := 118) rfl) rfl
theorem w_co_X3_heal : Cond.code yX3_heal prog_1_method_20_code 5 (some .int) ∈ tbG := tb2 (List.mem_of_getElem? (i := 119) rfl) rfl
theorem w_ml_X3_151 : Cond.methodLink RX3 151 yX0_hasAll ∈ tbG := tb2 (List.mem_of_getElem? (i := 120) rfl) rfl
theorem w_im_X0_hasAll : Cond.instanceMethod yX0_hasAll ∈ tbG := tb2 (List.mem_of_getElem? (i := 121) rfl) rfl
theorem w_se_X0_hasAll : Cond.selects RX0 yX0_hasAll yX0_hasAll ∈ tbG := tb2 (List.mem_of_getElem? (i := 122) rfl) rfl
theorem w_co_X0_hasAll : Cond.code yX0_hasAll prog_2_method_4_code 2 (some .boolean) ∈ tbG := tb2 (List.mem_of_getElem? (i := 123) rfl) rfl
theorem w_ml_X3_154 : Cond.methodLink RX3 154 yX3_fewestHealed ∈ tbG := tb2 (List.mem_of_getElem? (i := 124) rfl) rfl
theorem w_im_X3_fewestHealed : Cond.instanceMethod yX3_fewestHealed ∈ tbG := tb2 (List.mem_of_getElem? (i := 126) rfl) rfl
theorem w_co_X3_fewestHealed : Cond.code yX3_fewestHealed prog_1_method_39_code 13 (some .int) ∈ tbG := tb2 (List.mem_of_getElem? (i := 127) rfl) rfl
theorem w_ml_X3_187 : Cond.methodLink RX3 187 yX0_doneBy ∈ tbG := tb2 (List.mem_of_getElem? (i := 128) rfl) rfl
theorem w_im_X0_doneBy : Cond.instanceMethod yX0_doneBy ∈ tbG := tb2 (List.mem_of_getElem? (i := 129) rfl) rfl
theorem w_se_X0_doneBy : Cond.selects RX0 yX0_doneBy yX0_doneBy ∈ tbG := tb2 (List.mem_of_getElem? (i := 130) rfl) rfl
theorem w_co_X0_doneBy : Cond.code yX0_doneBy prog_2_method_11_code 4 (some .int) ∈ tbG := tb2 (List.mem_of_getElem? (i := 131) rfl) rfl
theorem w_ml_X3_190 : Cond.methodLink RX3 190 yX3_indispensable ∈ tbG := tb2 (List.mem_of_getElem? (i := 132) rfl) rfl
theorem w_im_X3_indispensable : Cond.instanceMethod yX3_indispensable ∈ tbG := tb2 (List.mem_of_getElem? (i := 134) rfl) rfl
theorem w_co_X3_indispensable : Cond.code yX3_indispensable prog_1_method_41_code 7 (some .int) ∈ tbG := tb2 (List.mem_of_getElem? (i := 135) rfl) rfl
theorem w_ml_X3_193 : Cond.methodLink RX3 193 yX3_allStand ∈ tbG := tb2 (List.mem_of_getElem? (i := 136) rfl) rfl
theorem w_im_X3_allStand : Cond.instanceMethod yX3_allStand ∈ tbG := tb2 (List.mem_of_getElem? (i := 138) rfl) rfl
theorem w_co_X3_allStand : Cond.code yX3_allStand prog_1_method_40_code 4 (some .boolean) ∈ tbG := tb2 (List.mem_of_getElem? (i := 139) rfl) rfl
theorem w_ml_X3_157 : Cond.methodLink RX3 157 yJ6_bitCount_0f7a4 ∈ tbG := tb2 (List.mem_of_getElem? (i := 140) rfl) rfl
theorem w_sta_J6_bitCount_0f7a4 : Cond.static yJ6_bitCount_0f7a4 ∈ tbG := tb2 (List.mem_of_getElem? (i := 141) rfl) rfl
theorem w_co_J6_bitCount_0f7a4 : Cond.code yJ6_bitCount_0f7a4 prog_7_method_49_code 1 (some .int) ∈ tbG := tb2 (List.mem_of_getElem? (i := 142) rfl) rfl
theorem w_k_J6_265 : Cond.constant RJ6 265 (1431655765) ∈ tbG := tb2 (List.mem_of_getElem? (i := 143) rfl) rfl
theorem w_k_J6_266 : Cond.constant RJ6 266 (858993459) ∈ tbG := tb2 (List.mem_of_getElem? (i := 144) rfl) rfl
theorem w_k_J6_267 : Cond.constant RJ6 267 (252645135) ∈ tbG := tb2 (List.mem_of_getElem? (i := 145) rfl) rfl
theorem w_ml_L_94 : Cond.methodLink RL 94 yX3_pillar ∈ tbG := tb2 (List.mem_of_getElem? (i := 146) rfl) rfl
theorem w_im_X3_pillar : Cond.instanceMethod yX3_pillar ∈ tbG := tb2 (List.mem_of_getElem? (i := 147) rfl) rfl
theorem w_se_X3_pillar : Cond.selects RX3 yX3_pillar yX3_pillar ∈ tbG := tb2 (List.mem_of_getElem? (i := 148) rfl) rfl
theorem w_co_X3_pillar : Cond.code yX3_pillar prog_1_method_21_code 9 (some .int) ∈ tbG := tb2 (List.mem_of_getElem? (i := 149) rfl) rfl
theorem w_ml_L_98 : Cond.methodLink RL 98 yX3_hangs ∈ tbG := tb2 (List.mem_of_getElem? (i := 150) rfl) rfl
theorem w_im_X3_hangs : Cond.instanceMethod yX3_hangs ∈ tbG := tb2 (List.mem_of_getElem? (i := 151) rfl) rfl
theorem w_se_X3_hangs : Cond.selects RX3 yX3_hangs yX3_hangs ∈ tbG := tb2 (List.mem_of_getElem? (i := 152) rfl) rfl
theorem w_co_X3_hangs : Cond.code yX3_hangs prog_1_method_22_code 6 (some .int) ∈ tbG := tb2 (List.mem_of_getElem? (i := 153) rfl) rfl
theorem w_ml_L_102 : Cond.methodLink RL 102 yX3_safe ∈ tbG := tb2 (List.mem_of_getElem? (i := 154) rfl) rfl
theorem w_im_X3_safe : Cond.instanceMethod yX3_safe ∈ tbG := tb2 (List.mem_of_getElem? (i := 155) rfl) rfl
theorem w_se_X3_safe : Cond.selects RX3 yX3_safe yX3_safe ∈ tbG := tb2 (List.mem_of_getElem? (i := 156) rfl) rfl
theorem w_co_X3_safe : Cond.code yX3_safe prog_1_method_23_code 9 (some .int) ∈ tbG := tb2 (List.mem_of_getElem? (i := 157) rfl) rfl
theorem w_ml_X3_171 : Cond.methodLink RX3 171 yX0_askableOn ∈ tbG := tb2 (List.mem_of_getElem? (i := 158) rfl) rfl
theorem w_im_X0_askableOn : Cond.instanceMethod yX0_askableOn ∈ tbG := tb2 (List.mem_of_getElem? (i := 159) rfl) rfl
theorem w_se_X0_askableOn : Cond.selects RX0 yX0_askableOn yX0_askableOn ∈ tbG := tb2 (List.mem_of_getElem? (i := 160) rfl) rfl
theorem w_co_X0_askableOn : Cond.code yX0_askableOn prog_2_method_18_code 4 (some .int) ∈ tbG := tb2 (List.mem_of_getElem? (i := 161) rfl) rfl
theorem w_ml_X0_84 : Cond.methodLink RX0 84 yX0_wouldCount ∈ tbG := tb2 (List.mem_of_getElem? (i := 162) rfl) rfl
theorem w_ml_X3_174 : Cond.methodLink RX3 174 yX3_withstands ∈ tbG := tb2 (List.mem_of_getElem? (i := 163) rfl) rfl
theorem w_im_X3_withstands : Cond.instanceMethod yX3_withstands ∈ tbG := tb2 (List.mem_of_getElem? (i := 165) rfl) rfl
theorem w_co_X3_withstands : Cond.code yX3_withstands prog_1_method_42_code 7 (some .boolean) ∈ tbG := tb2 (List.mem_of_getElem? (i := 166) rfl) rfl
theorem w_ml_L_106 : Cond.methodLink RL 106 yX3_beside ∈ tbG := tb2 (List.mem_of_getElem? (i := 167) rfl) rfl
theorem w_im_X3_beside : Cond.instanceMethod yX3_beside ∈ tbG := tb2 (List.mem_of_getElem? (i := 168) rfl) rfl
theorem w_se_X3_beside : Cond.selects RX3 yX3_beside yX3_beside ∈ tbG := tb2 (List.mem_of_getElem? (i := 169) rfl) rfl
theorem w_co_X3_beside : Cond.code yX3_beside prog_1_method_24_code 4 (some .int) ∈ tbG := tb2 (List.mem_of_getElem? (i := 170) rfl) rfl
theorem w_ml_L_110 : Cond.methodLink RL 110 yX3_told ∈ tbG := tb2 (List.mem_of_getElem? (i := 171) rfl) rfl
theorem w_im_X3_told : Cond.instanceMethod yX3_told ∈ tbG := tb2 (List.mem_of_getElem? (i := 172) rfl) rfl
theorem w_se_X3_told : Cond.selects RX3 yX3_told yX3_told ∈ tbG := tb2 (List.mem_of_getElem? (i := 173) rfl) rfl
theorem w_co_X3_told : Cond.code yX3_told prog_1_method_25_code 2 (some .int) ∈ tbG := tb2 (List.mem_of_getElem? (i := 174) rfl) rfl
theorem w_cl_L_10 : Cond.classLink RL 10 RX4 ∈ tbG := tb2 (List.mem_of_getElem? (i := 175) rfl) rfl
theorem w_ins_X4 : Cond.instantiable RX4 21 ∈ tbG := tb2 (List.mem_of_getElem? (i := 176) rfl) rfl
theorem w_ml_L_12 : Cond.methodLink RL 12 yX4_init ∈ tbG := tb2 (List.mem_of_getElem? (i := 177) rfl) rfl
theorem w_im_X4_init : Cond.instanceMethod yX4_init ∈ tbG := tb2 (List.mem_of_getElem? (i := 178) rfl) rfl
theorem w_co_X4_init : Cond.code yX4_init prog_6_method_1_code 1 none ∈ tbG := tb2 (List.mem_of_getElem? (i := 179) rfl) rfl
theorem w_ml_X4_1 : Cond.methodLink RX4 1 (⟨"java/lang/Object", "<init>", "()V"⟩ : MethodName) ∈ tbG := tb2 (List.mem_of_getElem? (i := 180) rfl) rfl
theorem w_fl_X4_7 : Cond.fieldLink RX4 7 "FallWithModel" "dayOf" "[I" ∈ tbG := tb2 (List.mem_of_getElem? (i := 181) rfl) rfl
theorem w_fl_X4_13 : Cond.fieldLink RX4 13 "FallWithModel" "giver" "[I" ∈ tbG := tb2 (List.mem_of_getElem? (i := 182) rfl) rfl
theorem w_fl_X4_16 : Cond.fieldLink RX4 16 "FallWithModel" "taker" "[I" ∈ tbG := tb2 (List.mem_of_getElem? (i := 183) rfl) rfl
theorem w_fl_X4_19 : Cond.fieldLink RX4 19 "FallWithModel" "worth" "[I" ∈ tbG := tb2 (List.mem_of_getElem? (i := 184) rfl) rfl
theorem w_fl_X4_22 : Cond.fieldLink RX4 22 "FallWithModel" "flaw" "[I" ∈ tbG := tb2 (List.mem_of_getElem? (i := 185) rfl) rfl
theorem w_fl_X4_25 : Cond.fieldLink RX4 25 "FallWithModel" "years" "[I" ∈ tbG := tb2 (List.mem_of_getElem? (i := 186) rfl) rfl
theorem w_fl_X4_28 : Cond.fieldLink RX4 28 "FallWithModel" "healed" "[I" ∈ tbG := tb2 (List.mem_of_getElem? (i := 187) rfl) rfl
theorem w_fl_X4_78 : Cond.fieldLink RX4 78 "FallWithModel" "goodOnes" "I" ∈ tbG := tb2 (List.mem_of_getElem? (i := 188) rfl) rfl
theorem w_fl_X4_61 : Cond.fieldLink RX4 61 "FallWithModel" "acts" "I" ∈ tbG := tb2 (List.mem_of_getElem? (i := 189) rfl) rfl
theorem w_fl_X4_31 : Cond.fieldLink RX4 31 "FallWithModel" "alls" "[I" ∈ tbG := tb2 (List.mem_of_getElem? (i := 190) rfl) rfl
theorem w_fl_X4_34 : Cond.fieldLink RX4 34 "FallWithModel" "allMany" "[I" ∈ tbG := tb2 (List.mem_of_getElem? (i := 191) rfl) rfl
theorem w_fl_X4_83 : Cond.fieldLink RX4 83 "FallWithModel" "lawIs" "I" ∈ tbG := tb2 (List.mem_of_getElem? (i := 192) rfl) rfl
theorem w_fl_X4_49 : Cond.fieldLink RX4 49 "FallWithModel" "rateIs" "I" ∈ tbG := tb2 (List.mem_of_getElem? (i := 193) rfl) rfl
theorem w_fl_X4_37 : Cond.fieldLink RX4 37 "FallWithModel" "signs" "[I" ∈ tbG := tb2 (List.mem_of_getElem? (i := 194) rfl) rfl
theorem w_fl_X4_90 : Cond.fieldLink RX4 90 "FallWithModel" "signMany" "I" ∈ tbG := tb2 (List.mem_of_getElem? (i := 195) rfl) rfl
theorem w_fl_X4_40 : Cond.fieldLink RX4 40 "FallWithModel" "askAct" "[I" ∈ tbG := tb2 (List.mem_of_getElem? (i := 196) rfl) rfl
theorem w_fl_X4_43 : Cond.fieldLink RX4 43 "FallWithModel" "askWho" "[I" ∈ tbG := tb2 (List.mem_of_getElem? (i := 197) rfl) rfl
theorem w_fl_X4_46 : Cond.fieldLink RX4 46 "FallWithModel" "askDay" "[I" ∈ tbG := tb2 (List.mem_of_getElem? (i := 198) rfl) rfl
theorem w_fl_X4_101 : Cond.fieldLink RX4 101 "FallWithModel" "askings" "I" ∈ tbG := tb2 (List.mem_of_getElem? (i := 199) rfl) rfl
theorem w_fl_X4_104 : Cond.fieldLink RX4 104 "FallWithModel" "healedToo" "I" ∈ tbG := tb2 (List.mem_of_getElem? (i := 200) rfl) rfl
theorem w_fl_X4_115 : Cond.fieldLink RX4 115 "FallWithModel" "askedToo" "I" ∈ tbG := tb2 (List.mem_of_getElem? (i := 201) rfl) rfl
theorem w_ml_L_17 : Cond.methodLink RL 17 yX4_act ∈ tbG := tb3 (List.mem_of_getElem? (i := 5) rfl) rfl
theorem w_im_X4_act : Cond.instanceMethod yX4_act ∈ tbG := tb3 (List.mem_of_getElem? (i := 6) rfl) rfl
theorem w_se_X4_act : Cond.selects RX4 yX4_act yX4_act ∈ tbG := tb3 (List.mem_of_getElem? (i := 7) rfl) rfl
theorem w_co_X4_act : Cond.code yX4_act prog_6_method_8_code 5 (some .int) ∈ tbG := tb3 (List.mem_of_getElem? (i := 8) rfl) rfl
theorem w_ml_X4_64 : Cond.methodLink RX4 64 yX4_isWho ∈ tbG := tb3 (List.mem_of_getElem? (i := 9) rfl) rfl
theorem w_sta_X4_isWho : Cond.static yX4_isWho ∈ tbG := tb3 (List.mem_of_getElem? (i := 10) rfl) rfl
theorem w_co_X4_isWho : Cond.code yX4_isWho prog_6_method_6_code 1 (some .boolean) ∈ tbG := tb3 (List.mem_of_getElem? (i := 11) rfl) rfl
theorem w_kl_X4_59 : Cond.constantLong RX4 59 (3) ∈ tbG := tb3 (List.mem_of_getElem? (i := 12) rfl) rfl
theorem w_ml_X4_55 : Cond.methodLink RX4 55 yX4_in ∈ tbG := tb3 (List.mem_of_getElem? (i := 13) rfl) rfl
theorem w_sta_X4_in : Cond.static yX4_in ∈ tbG := tb3 (List.mem_of_getElem? (i := 14) rfl) rfl
theorem w_co_X4_in : Cond.code yX4_in prog_6_method_3_code 6 (some .boolean) ∈ tbG := tb3 (List.mem_of_getElem? (i := 15) rfl) rfl
theorem w_ml_X4_68 : Cond.methodLink RX4 68 yX4_isDay ∈ tbG := tb3 (List.mem_of_getElem? (i := 16) rfl) rfl
theorem w_sta_X4_isDay : Cond.static yX4_isDay ∈ tbG := tb3 (List.mem_of_getElem? (i := 17) rfl) rfl
theorem w_co_X4_isDay : Cond.code yX4_isDay prog_6_method_5_code 1 (some .boolean) ∈ tbG := tb3 (List.mem_of_getElem? (i := 18) rfl) rfl
theorem w_kl_X4_53 : Cond.constantLong RX4 53 (99) ∈ tbG := tb3 (List.mem_of_getElem? (i := 19) rfl) rfl
theorem w_ml_L_22 : Cond.methodLink RL 22 yX4_set ∈ tbG := tb3 (List.mem_of_getElem? (i := 20) rfl) rfl
theorem w_im_X4_set : Cond.instanceMethod yX4_set ∈ tbG := tb3 (List.mem_of_getElem? (i := 21) rfl) rfl
theorem w_se_X4_set : Cond.selects RX4 yX4_set yX4_set ∈ tbG := tb3 (List.mem_of_getElem? (i := 22) rfl) rfl
theorem w_co_X4_set : Cond.code yX4_set prog_6_method_9_code 5 (some .int) ∈ tbG := tb3 (List.mem_of_getElem? (i := 23) rfl) rfl
theorem w_ml_X4_71 : Cond.methodLink RX4 71 yX4_isAct ∈ tbG := tb3 (List.mem_of_getElem? (i := 24) rfl) rfl
theorem w_im_X4_isAct : Cond.instanceMethod yX4_isAct ∈ tbG := tb3 (List.mem_of_getElem? (i := 26) rfl) rfl
theorem w_co_X4_isAct : Cond.code yX4_isAct prog_6_method_7_code 2 (some .boolean) ∈ tbG := tb3 (List.mem_of_getElem? (i := 27) rfl) rfl
theorem w_kl_X4_74 : Cond.constantLong RX4 74 (-1) ∈ tbG := tb3 (List.mem_of_getElem? (i := 28) rfl) rfl
theorem w_kl_X4_76 : Cond.constantLong RX4 76 (4) ∈ tbG := tb3 (List.mem_of_getElem? (i := 29) rfl) rfl
theorem w_ml_L_27 : Cond.methodLink RL 27 yX4_law ∈ tbG := tb3 (List.mem_of_getElem? (i := 30) rfl) rfl
theorem w_im_X4_law : Cond.instanceMethod yX4_law ∈ tbG := tb3 (List.mem_of_getElem? (i := 31) rfl) rfl
theorem w_se_X4_law : Cond.selects RX4 yX4_law yX4_law ∈ tbG := tb3 (List.mem_of_getElem? (i := 32) rfl) rfl
theorem w_co_X4_law : Cond.code yX4_law prog_6_method_10_code 4 (some .int) ∈ tbG := tb3 (List.mem_of_getElem? (i := 33) rfl) rfl
theorem w_kl_X4_81 : Cond.constantLong RX4 81 (9) ∈ tbG := tb3 (List.mem_of_getElem? (i := 34) rfl) rfl
theorem w_ml_L_32 : Cond.methodLink RL 32 yX4_say ∈ tbG := tb3 (List.mem_of_getElem? (i := 35) rfl) rfl
theorem w_im_X4_say : Cond.instanceMethod yX4_say ∈ tbG := tb3 (List.mem_of_getElem? (i := 36) rfl) rfl
theorem w_se_X4_say : Cond.selects RX4 yX4_say yX4_say ∈ tbG := tb3 (List.mem_of_getElem? (i := 37) rfl) rfl
theorem w_co_X4_say : Cond.code yX4_say prog_6_method_11_code 2 (some .int) ∈ tbG := tb3 (List.mem_of_getElem? (i := 38) rfl) rfl
theorem w_kl_X4_86 : Cond.constantLong RX4 86 (33) ∈ tbG := tb3 (List.mem_of_getElem? (i := 39) rfl) rfl
theorem w_kl_X4_88 : Cond.constantLong RX4 88 (126) ∈ tbG := tb3 (List.mem_of_getElem? (i := 40) rfl) rfl
theorem w_ml_L_37 : Cond.methodLink RL 37 yX4_wipe ∈ tbG := tb3 (List.mem_of_getElem? (i := 41) rfl) rfl
theorem w_im_X4_wipe : Cond.instanceMethod yX4_wipe ∈ tbG := tb3 (List.mem_of_getElem? (i := 42) rfl) rfl
theorem w_se_X4_wipe : Cond.selects RX4 yX4_wipe yX4_wipe ∈ tbG := tb3 (List.mem_of_getElem? (i := 43) rfl) rfl
theorem w_co_X4_wipe : Cond.code yX4_wipe prog_6_method_12_code 2 (some .int) ∈ tbG := tb3 (List.mem_of_getElem? (i := 44) rfl) rfl
theorem w_ml_L_41 : Cond.methodLink RL 41 yX4_fault ∈ tbG := tb3 (List.mem_of_getElem? (i := 45) rfl) rfl
theorem w_im_X4_fault : Cond.instanceMethod yX4_fault ∈ tbG := tb3 (List.mem_of_getElem? (i := 46) rfl) rfl
theorem w_se_X4_fault : Cond.selects RX4 yX4_fault yX4_fault ∈ tbG := tb3 (List.mem_of_getElem? (i := 47) rfl) rfl
theorem w_co_X4_fault : Cond.code yX4_fault prog_6_method_13_code 4 (some .int) ∈ tbG := tb3 (List.mem_of_getElem? (i := 48) rfl) rfl
theorem w_kl_X4_93 : Cond.constantLong RX4 93 (97) ∈ tbG := tb3 (List.mem_of_getElem? (i := 49) rfl) rfl
theorem w_kl_X4_95 : Cond.constantLong RX4 95 (108) ∈ tbG := tb3 (List.mem_of_getElem? (i := 50) rfl) rfl
theorem w_ml_L_45 : Cond.methodLink RL 45 yX4_leans ∈ tbG := tb3 (List.mem_of_getElem? (i := 51) rfl) rfl
theorem w_im_X4_leans : Cond.instanceMethod yX4_leans ∈ tbG := tb3 (List.mem_of_getElem? (i := 52) rfl) rfl
theorem w_se_X4_leans : Cond.selects RX4 yX4_leans yX4_leans ∈ tbG := tb3 (List.mem_of_getElem? (i := 53) rfl) rfl
theorem w_co_X4_leans : Cond.code yX4_leans prog_6_method_14_code 5 (some .int) ∈ tbG := tb3 (List.mem_of_getElem? (i := 54) rfl) rfl
theorem w_ml_X4_97 : Cond.methodLink RX4 97 yX4_fault ∈ tbG := tb3 (List.mem_of_getElem? (i := 55) rfl) rfl
theorem w_ml_L_49 : Cond.methodLink RL 49 yX4_free ∈ tbG := tb3 (List.mem_of_getElem? (i := 56) rfl) rfl
theorem w_im_X4_free : Cond.instanceMethod yX4_free ∈ tbG := tb3 (List.mem_of_getElem? (i := 57) rfl) rfl
theorem w_se_X4_free : Cond.selects RX4 yX4_free yX4_free ∈ tbG := tb3 (List.mem_of_getElem? (i := 58) rfl) rfl
theorem w_co_X4_free : Cond.code yX4_free prog_6_method_15_code 3 (some .int) ∈ tbG := tb3 (List.mem_of_getElem? (i := 59) rfl) rfl
theorem w_ml_L_53 : Cond.methodLink RL 53 yX4_ask ∈ tbG := tb3 (List.mem_of_getElem? (i := 60) rfl) rfl
theorem w_im_X4_ask : Cond.instanceMethod yX4_ask ∈ tbG := tb3 (List.mem_of_getElem? (i := 61) rfl) rfl
theorem w_se_X4_ask : Cond.selects RX4 yX4_ask yX4_ask ∈ tbG := tb3 (List.mem_of_getElem? (i := 62) rfl) rfl
theorem w_co_X4_ask : Cond.code yX4_ask prog_6_method_17_code 4 (some .int) ∈ tbG := tb3 (List.mem_of_getElem? (i := 63) rfl) rfl
theorem w_ml_L_57 : Cond.methodLink RL 57 yX4_counts ∈ tbG := tb3 (List.mem_of_getElem? (i := 64) rfl) rfl
theorem w_im_X4_counts : Cond.instanceMethod yX4_counts ∈ tbG := tb3 (List.mem_of_getElem? (i := 65) rfl) rfl
theorem w_se_X4_counts : Cond.selects RX4 yX4_counts yX4_counts ∈ tbG := tb3 (List.mem_of_getElem? (i := 66) rfl) rfl
theorem w_co_X4_counts : Cond.code yX4_counts prog_6_method_20_code 2 (some .int) ∈ tbG := tb3 (List.mem_of_getElem? (i := 67) rfl) rfl
theorem w_ml_X4_111 : Cond.methodLink RX4 111 yX4_wouldCount ∈ tbG := tb3 (List.mem_of_getElem? (i := 68) rfl) rfl
theorem w_im_X4_wouldCount : Cond.instanceMethod yX4_wouldCount ∈ tbG := tb3 (List.mem_of_getElem? (i := 70) rfl) rfl
theorem w_co_X4_wouldCount : Cond.code yX4_wouldCount prog_6_method_19_code 6 (some .boolean) ∈ tbG := tb3 (List.mem_of_getElem? (i := 71) rfl) rfl
theorem w_ml_X4_107 : Cond.methodLink RX4 107 yX4_isHealed ∈ tbG := tb3 (List.mem_of_getElem? (i := 72) rfl) rfl
theorem w_im_X4_isHealed : Cond.instanceMethod yX4_isHealed ∈ tbG := tb3 (List.mem_of_getElem? (i := 74) rfl) rfl
theorem w_co_X4_isHealed : Cond.code yX4_isHealed prog_6_method_18_code 3 (some .boolean) ∈ tbG := tb3 (List.mem_of_getElem? (i := 75) rfl) rfl
theorem w_ml_L_61 : Cond.methodLink RL 61 yX4_drop ∈ tbG := tb3 (List.mem_of_getElem? (i := 76) rfl) rfl
theorem w_im_X4_drop : Cond.instanceMethod yX4_drop ∈ tbG := tb3 (List.mem_of_getElem? (i := 77) rfl) rfl
theorem w_se_X4_drop : Cond.selects RX4 yX4_drop yX4_drop ∈ tbG := tb3 (List.mem_of_getElem? (i := 78) rfl) rfl
theorem w_co_X4_drop : Cond.code yX4_drop prog_6_method_21_code 1 (some .int) ∈ tbG := tb3 (List.mem_of_getElem? (i := 79) rfl) rfl
theorem w_ml_L_65 : Cond.methodLink RL 65 yX4_all ∈ tbG := tb3 (List.mem_of_getElem? (i := 80) rfl) rfl
theorem w_im_X4_all : Cond.instanceMethod yX4_all ∈ tbG := tb3 (List.mem_of_getElem? (i := 81) rfl) rfl
theorem w_se_X4_all : Cond.selects RX4 yX4_all yX4_all ∈ tbG := tb3 (List.mem_of_getElem? (i := 82) rfl) rfl
theorem w_co_X4_all : Cond.code yX4_all prog_6_method_29_code 4 (some .int) ∈ tbG := tb3 (List.mem_of_getElem? (i := 83) rfl) rfl
theorem w_kl_X4_137 : Cond.constantLong RX4 137 (2) ∈ tbG := tb3 (List.mem_of_getElem? (i := 84) rfl) rfl
theorem w_ml_X4_131 : Cond.methodLink RX4 131 yX4_soundOf ∈ tbG := tb3 (List.mem_of_getElem? (i := 85) rfl) rfl
theorem w_im_X4_soundOf : Cond.instanceMethod yX4_soundOf ∈ tbG := tb3 (List.mem_of_getElem? (i := 87) rfl) rfl
theorem w_co_X4_soundOf : Cond.code yX4_soundOf prog_6_method_24_code 4 (some .int) ∈ tbG := tb3 (List.mem_of_getElem? (i := 88) rfl) rfl
theorem w_ml_X4_121 : Cond.methodLink RX4 121 yX4_isSound ∈ tbG := tb3 (List.mem_of_getElem? (i := 89) rfl) rfl
theorem w_im_X4_isSound : Cond.instanceMethod yX4_isSound ∈ tbG := tb3 (List.mem_of_getElem? (i := 91) rfl) rfl
theorem w_co_X4_isSound : Cond.code yX4_isSound prog_6_method_23_code 3 (some .boolean) ∈ tbG := tb3 (List.mem_of_getElem? (i := 92) rfl) rfl
theorem w_ml_X4_118 : Cond.methodLink RX4 118 yX4_isAsked ∈ tbG := tb3 (List.mem_of_getElem? (i := 93) rfl) rfl
theorem w_im_X4_isAsked : Cond.instanceMethod yX4_isAsked ∈ tbG := tb3 (List.mem_of_getElem? (i := 95) rfl) rfl
theorem w_co_X4_isAsked : Cond.code yX4_isAsked prog_6_method_22_code 5 (some .boolean) ∈ tbG := tb3 (List.mem_of_getElem? (i := 96) rfl) rfl
theorem w_ml_X4_134 : Cond.methodLink RX4 134 yX4_mostOf ∈ tbG := tb3 (List.mem_of_getElem? (i := 97) rfl) rfl
theorem w_im_X4_mostOf : Cond.instanceMethod yX4_mostOf ∈ tbG := tb3 (List.mem_of_getElem? (i := 99) rfl) rfl
theorem w_co_X4_mostOf : Cond.code yX4_mostOf prog_6_method_26_code 4 (some .int) ∈ tbG := tb3 (List.mem_of_getElem? (i := 100) rfl) rfl
theorem w_ml_X4_127 : Cond.methodLink RX4 127 yX4_loose ∈ tbG := tb3 (List.mem_of_getElem? (i := 101) rfl) rfl
theorem w_im_X4_loose : Cond.instanceMethod yX4_loose ∈ tbG := tb3 (List.mem_of_getElem? (i := 103) rfl) rfl
theorem w_co_X4_loose : Cond.code yX4_loose prog_6_method_25_code 4 (some .int) ∈ tbG := tb3 (List.mem_of_getElem? (i := 104) rfl) rfl
theorem w_ml_X4_124 : Cond.methodLink RX4 124 yX4_isHeld ∈ tbG := tb3 (List.mem_of_getElem? (i := 105) rfl) rfl
theorem w_im_X4_isHeld : Cond.instanceMethod yX4_isHeld ∈ tbG := tb3 (List.mem_of_getElem? (i := 107) rfl) rfl
theorem w_co_X4_isHeld : Cond.code yX4_isHeld prog_6_method_16_code 5 (some .boolean) ∈ tbG := tb3 (List.mem_of_getElem? (i := 108) rfl) rfl
theorem w_ml_X4_139 : Cond.methodLink RX4 139 yX4_leastOf ∈ tbG := tb3 (List.mem_of_getElem? (i := 109) rfl) rfl
theorem w_im_X4_leastOf : Cond.instanceMethod yX4_leastOf ∈ tbG := tb3 (List.mem_of_getElem? (i := 111) rfl) rfl
theorem w_co_X4_leastOf : Cond.code yX4_leastOf prog_6_method_27_code 5 (some .int) ∈ tbG := tb3 (List.mem_of_getElem? (i := 112) rfl) rfl
theorem w_ml_L_69 : Cond.methodLink RL 69 yX4_why ∈ tbG := tb3 (List.mem_of_getElem? (i := 113) rfl) rfl
theorem w_im_X4_why : Cond.instanceMethod yX4_why ∈ tbG := tb3 (List.mem_of_getElem? (i := 114) rfl) rfl
theorem w_se_X4_why : Cond.selects RX4 yX4_why yX4_why ∈ tbG := tb3 (List.mem_of_getElem? (i := 115) rfl) rfl
theorem w_co_X4_why : Cond.code yX4_why prog_6_method_30_code 3 (some .int) ∈ tbG := tb3 (List.mem_of_getElem? (i := 116) rfl) rfl
theorem w_ml_X4_142 : Cond.methodLink RX4 142 yX4_standing ∈ tbG := tb3 (List.mem_of_getElem? (i := 117) rfl) rfl
theorem w_im_X4_standing : Cond.instanceMethod yX4_standing ∈ tbG := tb3 (List.mem_of_getElem? (i := 119) rfl) rfl
theorem w_co_X4_standing : Cond.code yX4_standing prog_6_method_28_code 2 (some .int) ∈ tbG := tb3 (List.mem_of_getElem? (i := 120) rfl) rfl
theorem w_ml_L_73 : Cond.methodLink RL 73 yX4_under ∈ tbG := tb3 (List.mem_of_getElem? (i := 121) rfl) rfl
theorem w_im_X4_under : Cond.instanceMethod yX4_under ∈ tbG := tb3 (List.mem_of_getElem? (i := 122) rfl) rfl
theorem w_se_X4_under : Cond.selects RX4 yX4_under yX4_under ∈ tbG := tb3 (List.mem_of_getElem? (i := 123) rfl) rfl
theorem w_co_X4_under : Cond.code yX4_under prog_6_method_32_code 5 (some .int) ∈ tbG := tb3 (List.mem_of_getElem? (i := 124) rfl) rfl
theorem w_ml_X4_145 : Cond.methodLink RX4 145 yX4_namedBy ∈ tbG := tb3 (List.mem_of_getElem? (i := 125) rfl) rfl
theorem w_im_X4_namedBy : Cond.instanceMethod yX4_namedBy ∈ tbG := tb3 (List.mem_of_getElem? (i := 127) rfl) rfl
theorem w_co_X4_namedBy : Cond.code yX4_namedBy prog_6_method_31_code 4 (some .int) ∈ tbG := tb3 (List.mem_of_getElem? (i := 128) rfl) rfl
theorem w_ml_L_77 : Cond.methodLink RL 77 yX4_fall ∈ tbG := tb3 (List.mem_of_getElem? (i := 129) rfl) rfl
theorem w_im_X4_fall : Cond.instanceMethod yX4_fall ∈ tbG := tb3 (List.mem_of_getElem? (i := 130) rfl) rfl
theorem w_se_X4_fall : Cond.selects RX4 yX4_fall yX4_fall ∈ tbG := tb3 (List.mem_of_getElem? (i := 131) rfl) rfl
theorem w_co_X4_fall : Cond.code yX4_fall prog_6_method_34_code 8 (some .int) ∈ tbG := tb3 (List.mem_of_getElem? (i := 132) rfl) rfl
theorem w_ml_X4_148 : Cond.methodLink RX4 148 yX4_fallOf ∈ tbG := tb3 (List.mem_of_getElem? (i := 133) rfl) rfl
theorem w_im_X4_fallOf : Cond.instanceMethod yX4_fallOf ∈ tbG := tb3 (List.mem_of_getElem? (i := 135) rfl) rfl
theorem w_co_X4_fallOf : Cond.code yX4_fallOf prog_6_method_33_code 4 (some .int) ∈ tbG := tb3 (List.mem_of_getElem? (i := 136) rfl) rfl
theorem w_ml_L_81 : Cond.methodLink RL 81 yX4_back ∈ tbG := tb3 (List.mem_of_getElem? (i := 137) rfl) rfl
theorem w_im_X4_back : Cond.instanceMethod yX4_back ∈ tbG := tb3 (List.mem_of_getElem? (i := 138) rfl) rfl
theorem w_se_X4_back : Cond.selects RX4 yX4_back yX4_back ∈ tbG := tb3 (List.mem_of_getElem? (i := 139) rfl) rfl
theorem w_co_X4_back : Cond.code yX4_back prog_6_method_36_code 5 (some .int) ∈ tbG := tb3 (List.mem_of_getElem? (i := 140) rfl) rfl
theorem w_k_X4_152 : Cond.constant RX4 152 (-1000000001) ∈ tbG := tb3 (List.mem_of_getElem? (i := 141) rfl) rfl
theorem w_k_X4_153 : Cond.constant RX4 153 (-1000000002) ∈ tbG := tb3 (List.mem_of_getElem? (i := 142) rfl) rfl
theorem w_ml_X4_154 : Cond.methodLink RX4 154 yX4_backOf ∈ tbG := tb3 (List.mem_of_getElem? (i := 143) rfl) rfl
theorem w_im_X4_backOf : Cond.instanceMethod yX4_backOf ∈ tbG := tb3 (List.mem_of_getElem? (i := 145) rfl) rfl
theorem w_co_X4_backOf : Cond.code yX4_backOf prog_6_method_35_code 8 (some .int) ∈ tbG := tb3 (List.mem_of_getElem? (i := 146) rfl) rfl
theorem w_k_X4_158 : Cond.constant RX4 158 (-1000000005) ∈ tbG := tb3 (List.mem_of_getElem? (i := 147) rfl) rfl
theorem w_ml_L_85 : Cond.methodLink RL 85 yX4_wise ∈ tbG := tb3 (List.mem_of_getElem? (i := 148) rfl) rfl
theorem w_im_X4_wise : Cond.instanceMethod yX4_wise ∈ tbG := tb3 (List.mem_of_getElem? (i := 149) rfl) rfl
theorem w_se_X4_wise : Cond.selects RX4 yX4_wise yX4_wise ∈ tbG := tb3 (List.mem_of_getElem? (i := 150) rfl) rfl
theorem w_co_X4_wise : Cond.code yX4_wise prog_6_method_38_code 3 (some .int) ∈ tbG := tb3 (List.mem_of_getElem? (i := 151) rfl) rfl
theorem w_ml_X4_159 : Cond.methodLink RX4 159 yX4_wiseOf ∈ tbG := tb3 (List.mem_of_getElem? (i := 152) rfl) rfl
theorem w_im_X4_wiseOf : Cond.instanceMethod yX4_wiseOf ∈ tbG := tb3 (List.mem_of_getElem? (i := 154) rfl) rfl
theorem w_co_X4_wiseOf : Cond.code yX4_wiseOf prog_6_method_37_code 4 (some .int) ∈ tbG := tb3 (List.mem_of_getElem? (i := 155) rfl) rfl
theorem w_ml_L_89 : Cond.methodLink RL 89 yX4_rest ∈ tbG := tb3 (List.mem_of_getElem? (i := 156) rfl) rfl
theorem w_im_X4_rest : Cond.instanceMethod yX4_rest ∈ tbG := tb3 (List.mem_of_getElem? (i := 157) rfl) rfl
theorem w_se_X4_rest : Cond.selects RX4 yX4_rest yX4_rest ∈ tbG := tb3 (List.mem_of_getElem? (i := 158) rfl) rfl
theorem w_co_X4_rest : Cond.code yX4_rest prog_6_method_39_code 6 (some .int) ∈ tbG := tb3 (List.mem_of_getElem? (i := 159) rfl) rfl
theorem w_ml_L_93 : Cond.methodLink RL 93 yX4_heal ∈ tbG := tb3 (List.mem_of_getElem? (i := 160) rfl) rfl
theorem w_im_X4_heal : Cond.instanceMethod yX4_heal ∈ tbG := tb3 (List.mem_of_getElem? (i := 161) rfl) rfl
theorem w_se_X4_heal : Cond.selects RX4 yX4_heal yX4_heal ∈ tbG := tb3 (List.mem_of_getElem? (i := 162) rfl) rfl
theorem w_co_X4_heal : Cond.code yX4_heal prog_6_method_41_code 8 (some .int) ∈ tbG := tb3 (List.mem_of_getElem? (i := 163) rfl) rfl
theorem w_ml_X4_162 : Cond.methodLink RX4 162 yX4_isSet ∈ tbG := tb3 (List.mem_of_getElem? (i := 164) rfl) rfl
theorem w_im_X4_isSet : Cond.instanceMethod yX4_isSet ∈ tbG := tb3 (List.mem_of_getElem? (i := 166) rfl) rfl
theorem w_co_X4_isSet : Cond.code yX4_isSet prog_6_method_40_code 2 (some .boolean) ∈ tbG := tb3 (List.mem_of_getElem? (i := 167) rfl) rfl
theorem w_ml_X4_165 : Cond.methodLink RX4 165 yX4_ones ∈ tbG := tb3 (List.mem_of_getElem? (i := 168) rfl) rfl
theorem w_sta_X4_ones : Cond.static yX4_ones ∈ tbG := tb3 (List.mem_of_getElem? (i := 169) rfl) rfl
theorem w_co_X4_ones : Cond.code yX4_ones prog_6_method_4_code 3 (some .int) ∈ tbG := tb3 (List.mem_of_getElem? (i := 170) rfl) rfl
theorem w_ml_L_97 : Cond.methodLink RL 97 yX4_pillar ∈ tbG := tb3 (List.mem_of_getElem? (i := 171) rfl) rfl
theorem w_im_X4_pillar : Cond.instanceMethod yX4_pillar ∈ tbG := tb3 (List.mem_of_getElem? (i := 172) rfl) rfl
theorem w_se_X4_pillar : Cond.selects RX4 yX4_pillar yX4_pillar ∈ tbG := tb3 (List.mem_of_getElem? (i := 173) rfl) rfl
theorem w_co_X4_pillar : Cond.code yX4_pillar prog_6_method_42_code 9 (some .int) ∈ tbG := tb3 (List.mem_of_getElem? (i := 174) rfl) rfl
theorem w_ml_L_101 : Cond.methodLink RL 101 yX4_hangs ∈ tbG := tb3 (List.mem_of_getElem? (i := 175) rfl) rfl
theorem w_im_X4_hangs : Cond.instanceMethod yX4_hangs ∈ tbG := tb3 (List.mem_of_getElem? (i := 176) rfl) rfl
theorem w_se_X4_hangs : Cond.selects RX4 yX4_hangs yX4_hangs ∈ tbG := tb3 (List.mem_of_getElem? (i := 177) rfl) rfl
theorem w_co_X4_hangs : Cond.code yX4_hangs prog_6_method_43_code 11 (some .int) ∈ tbG := tb3 (List.mem_of_getElem? (i := 178) rfl) rfl
theorem w_ml_L_105 : Cond.methodLink RL 105 yX4_safe ∈ tbG := tb3 (List.mem_of_getElem? (i := 179) rfl) rfl
theorem w_im_X4_safe : Cond.instanceMethod yX4_safe ∈ tbG := tb3 (List.mem_of_getElem? (i := 180) rfl) rfl
theorem w_se_X4_safe : Cond.selects RX4 yX4_safe yX4_safe ∈ tbG := tb3 (List.mem_of_getElem? (i := 181) rfl) rfl
theorem w_co_X4_safe : Cond.code yX4_safe prog_6_method_45_code 3 (some .int) ∈ tbG := tb3 (List.mem_of_getElem? (i := 182) rfl) rfl
theorem w_ml_X4_168 : Cond.methodLink RX4 168 yX4_isSafeOn ∈ tbG := tb3 (List.mem_of_getElem? (i := 183) rfl) rfl
theorem w_im_X4_isSafeOn : Cond.instanceMethod yX4_isSafeOn ∈ tbG := tb3 (List.mem_of_getElem? (i := 185) rfl) rfl
theorem w_co_X4_isSafeOn : Cond.code yX4_isSafeOn prog_6_method_44_code 8 (some .boolean) ∈ tbG := tb3 (List.mem_of_getElem? (i := 186) rfl) rfl
theorem w_ml_L_109 : Cond.methodLink RL 109 yX4_beside ∈ tbG := tb3 (List.mem_of_getElem? (i := 187) rfl) rfl
theorem w_im_X4_beside : Cond.instanceMethod yX4_beside ∈ tbG := tb3 (List.mem_of_getElem? (i := 188) rfl) rfl
theorem w_se_X4_beside : Cond.selects RX4 yX4_beside yX4_beside ∈ tbG := tb3 (List.mem_of_getElem? (i := 189) rfl) rfl
theorem w_co_X4_beside : Cond.code yX4_beside prog_6_method_46_code 6 (some .int) ∈ tbG := tb3 (List.mem_of_getElem? (i := 190) rfl) rfl
theorem w_ml_L_113 : Cond.methodLink RL 113 yX4_told ∈ tbG := tb3 (List.mem_of_getElem? (i := 191) rfl) rfl
theorem w_im_X4_told : Cond.instanceMethod yX4_told ∈ tbG := tb3 (List.mem_of_getElem? (i := 192) rfl) rfl
theorem w_se_X4_told : Cond.selects RX4 yX4_told yX4_told ∈ tbG := tb3 (List.mem_of_getElem? (i := 193) rfl) rfl
theorem w_co_X4_told : Cond.code yX4_told prog_6_method_47_code 2 (some .int) ∈ tbG := tb3 (List.mem_of_getElem? (i := 194) rfl) rfl
theorem w_kl_X4_171 : Cond.constantLong RX4 171 (10) ∈ tbG := tb3 (List.mem_of_getElem? (i := 195) rfl) rfl
theorem w_kl_X4_173 : Cond.constantLong RX4 173 (21) ∈ tbG := tb3 (List.mem_of_getElem? (i := 196) rfl) rfl
theorem inX0 : ∀ w ∈ u_ws RX0 TX0 8, w ∈ tbG := fun w h => tbG_in ((by decide +kernel : ∀ w ∈ u_ws RX0 TX0 8, w ∈ lw_tbl) w h) ((by decide +kernel : ∀ w ∈ u_ws RX0 TX0 8, goodWord w = true) w h)
theorem inX1 : ∀ w ∈ u_ws RX1 TX1 4, w ∈ tbG := fun w h => tbG_in ((by decide +kernel : ∀ w ∈ u_ws RX1 TX1 4, w ∈ lw_tbl) w h) ((by decide +kernel : ∀ w ∈ u_ws RX1 TX1 4, goodWord w = true) w h)
theorem inX2 : ∀ w ∈ u_ws RX2 TX2 2, w ∈ tbG := fun w h => tbG_in ((by decide +kernel : ∀ w ∈ u_ws RX2 TX2 2, w ∈ lw_tbl) w h) ((by decide +kernel : ∀ w ∈ u_ws RX2 TX2 2, goodWord w = true) w h)
theorem inX3 : ∀ w ∈ u_ws RX3 TX3 5, w ∈ tbG := fun w h => tbG_in ((by decide +kernel : ∀ w ∈ u_ws RX3 TX3 5, w ∈ lw_tbl) w h) ((by decide +kernel : ∀ w ∈ u_ws RX3 TX3 5, goodWord w = true) w h)
theorem inX4 : ∀ w ∈ u_ws RX4 TX4 21, w ∈ tbG := fun w h => tbG_in ((by decide +kernel : ∀ w ∈ u_ws RX4 TX4 21, w ∈ lw_tbl) w h) ((by decide +kernel : ∀ w ∈ u_ws RX4 TX4 21, goodWord w = true) w h)
end
section
/-! my own words: states, readings, worlds, contracts of methods that only read -/
abbrev St : Type := Nat → Nat → Int32
abbrev ix (i : Int32) : Nat := i.toNatClampNeg
def inb (i : Int32) (n : Nat) : Bool := decide (¬ (i < 0 ∨ n ≤ i.toNatClampNeg))
theorem inb_in {i : Int32} {n : Nat} (h : inb i n = true) : vp_in i n := by
  have h2 : ¬ (i < 0 ∨ n ≤ i.toNatClampNeg) := of_decide_eq_true h
  exact h2
theorem inb_lt {i : Int32} {n : Nat} (h : inb i n = true) : ix i < n := Nat.not_le.mp fun q => inb_in h (Or.inr q)
def gd {α : Type} (b : Bool) (k : Option α) : Option α := if b = true then k else none
theorem gd_some {α : Type} {b : Bool} {k : Option α} {r : α} (h : gd b k = some r) : b = true ∧ k = some r := by
  unfold gd at h
  split at h
  · exact ⟨by assumption, h⟩
  · cases h
def nm {α : Type} (e : Int32) (k : Int32 → Option α) : Option α := k e
theorem nm_some {α : Type} {e : Int32} {k : Int32 → Option α} {r : α} (h : nm e k = some r) {x : Int32} (ex : x = e) : k x = some r := by rw [ex]; exact h
theorem bd_some {α β : Type} {o : Option α} {k : α → Option β} {r : β} (h : o.bind k = some r) : ∃ x, o = some x ∧ k x = some r := Option.bind_eq_some_iff.mp h
theorem tt_some {α : Type} {c : Prop} [Decidable c] {a b : Option α} {r : α} (h : (if c then a else b) = some r) (hc : c) : a = some r := (if_pos hc).symm.trans h
theorem ff_some {α : Type} {c : Prop} [Decidable c] {a b : Option α} {r : α} (h : (if c then a else b) = some r) (hc : ¬ c) : b = some r := (if_neg hc).symm.trans h
abbrev wd (y : MethodName) (b : ByteArray) (n : Nat) (r : Option FieldType) : List Cond := .code y b n r :: tbG
/-- what is known of the tables everywhere -/
def kk (D : va_G) (cI cG : ClassId) (U : State) : Prop := va_K D vwCl [(cI, .int), (cG, .array .int)] U ∧ va_Nw (.methodLinkNest RX2 27 yX3_within RX3) U ∧ va_Nw (.methodLinkNest RX0 61 yX3_contains RX3) U
theorem kk.same {D : va_G} {cI cG : ClassId} {U V : State} (h : kk D cI cG U) (hv : U.vm = V.vm) : kk D cI cG V := ⟨va_K.moved (by rw [hv]; exact Vm.Alike.refl _) h.1, h.2.1.same rfl hv, h.2.2.same rfl hv⟩
theorem kk.warm {D : va_G} {cI cG : ClassId} {s U : State} (h : kk D cI cG s) (hW : s.WarmedH U.vm) : kk D cI cG U := ⟨va_K.moved hW.alike h.1, h.2.1.warmM hW, h.2.2.warmM hW⟩
/-- a method's start: the heap, the world in it, the tables -/
def roP (D : va_G) (cI cG : ClassId) (ws : va_W) (H : Heap) : State → Prop := fun U => U.heap = H ∧ va_P D vwCl ws H ∧ kk D cI cG U
theorem roP_blind {D : va_G} {cI cG : ClassId} {ws : va_W} {H : Heap} {av : List Value} : FrameBlind (va_Pc av (roP D cI cG ws H)) := fun a U g mk q => by
  obtain ⟨q0, q1, q2, q3⟩ := q
  exact ⟨q0, q1, q2, q3.same rfl⟩
theorem roP_warm {D : va_G} {cI cG : ClassId} {ws : va_W} {H : Heap} {av : List Value} {s : State} (hP : va_P D vwCl ws H) (hk : kk D cI cG s) : ∀ U : State, U.heap = H → s.WarmedH U.vm → va_Pc av (roP D cI cG ws H) av.toArray U := fun U hU hW => ⟨rfl, hU, hP, hk.warm hW⟩
/-- the contract of a method that only reads: it answers r, the heap stays -/
abbrev roQ (H : Heap) (r : Int32) : Array Value → State → Outcome → State → Prop := va_Qi (fun (r' : Int32) (_ : Unit) => r' = r) (fun _ t => t.heap = H) (fun _ => False)
abbrev no : Addr → Prop := fun _ => False
def RoM (l : Launch) (y : MethodName) (b : ByteArray) (n : Nat) (ret : Option FieldType) (fr lo : Nat) (av : List Value) (D : va_G) (cI cG : ClassId) (ws : va_W) (H : Heap) (r : Int32) : Prop :=
  Met l y (wd y b n ret) { frames := fr, cells := 0, slots := 0, locals := lo } (va_Pc av (roP D cI cG ws H)) (roQ H r) 0 0 no
def LinkV (own : String) (index : Nat) (C : String) (y : MethodName) (b : ByteArray) (n : Nat) (ret : Option FieldType) (k : Nat) : Prop :=
  GoodIn tbG (wsV own index C y (wd y b n ret)) ∧ (y.cls = C ∧ y.cls ≠ "java/lang/invoke/MethodHandle" ∧ y.cls ≠ "java/lang/invoke/VarHandle" ∧ (parseMethodDescriptor y.desc).map (fun d => d.parameters.length) = some k)
theorem tb_self : GoodIn tbG tbG := fun w h => ⟨h, good_of_word (List.mem_filter.mp h).2⟩
theorem goodC {w : Cond} {ws : List Cond} (h : w ∈ tbG) (hs : GoodIn tbG ws) : GoodIn tbG (w :: ws) := fun v hv => (List.mem_cons.mp hv).elim (fun e => by rw [e]; exact tb_self w h) (hs v)
theorem LinkV.of {own : String} {index : Nat} {C : String} {y : MethodName} {b : ByteArray} {n : Nat} {ret : Option FieldType} {k : Nat} (h1 : Cond.methodLink own index y ∈ tbG) (h2 : Cond.instanceMethod y ∈ tbG) (h3 : Cond.selects C y y ∈ tbG) (h4 : Cond.initialized C ∈ tbG) (h5 : Cond.code y b n ret ∈ tbG)
    (hd : y.cls = C ∧ y.cls ≠ "java/lang/invoke/MethodHandle" ∧ y.cls ≠ "java/lang/invoke/VarHandle" ∧ (parseMethodDescriptor y.desc).map (fun d => d.parameters.length) = some k) : LinkV own index C y b n ret k :=
  ⟨goodC h1 (goodC h2 (goodC h3 (goodC h4 (goodC h5 tb_self)))), hd⟩
def LinkS (own : String) (index : Nat) (y : MethodName) (b : ByteArray) (n : Nat) (ret : Option FieldType) (k : Nat) : Prop :=
  GoodIn tbG (va_wsS own index y (wd y b n ret)) ∧ (y.cls ≠ "java/lang/invoke/MethodHandle" ∧ y.cls ≠ "java/lang/invoke/VarHandle" ∧ (parseMethodDescriptor y.desc).map (fun d => d.parameters.length) = some k)
theorem LinkS.of {own : String} {index : Nat} {y : MethodName} {b : ByteArray} {n : Nat} {ret : Option FieldType} {k : Nat} (h1 : Cond.methodLink own index y ∈ tbG) (h2 : Cond.static y ∈ tbG) (h4 : Cond.initialized y.cls ∈ tbG) (h5 : Cond.code y b n ret ∈ tbG)
    (hd : y.cls ≠ "java/lang/invoke/MethodHandle" ∧ y.cls ≠ "java/lang/invoke/VarHandle" ∧ (parseMethodDescriptor y.desc).map (fun d => d.parameters.length) = some k) : LinkS own index y b n ret k :=
  ⟨goodC h1 (goodC h2 (goodC h4 (goodC h5 tb_self))), hd⟩
/-- a nest mate's private static -/
def LinkN (own : String) (index : Nat) (y : MethodName) (host : String) (b : ByteArray) (n : Nat) (ret : Option FieldType) (k : Nat) : Prop :=
  GoodIn tbG (wd y b n ret) ∧ Cond.initialized y.cls ∈ tbG ∧ Cond.static y ∈ tbG ∧ (y.cls ≠ "java/lang/invoke/MethodHandle" ∧ y.cls ≠ "java/lang/invoke/VarHandle" ∧ (parseMethodDescriptor y.desc).map (fun d => d.parameters.length) = some k)
section RO
variable {p : Program} {l : Launch} {e : Env} {R : Room} {s : State} {m : MethodId} {args : Array Value} {below : List Frame} {meth : Method} {c : Code} {H : Heap} {locs : List Loc} {cells slots : Nat} {Q : State → Prop}
variable {cc : ByteArray} {nL : Nat} {own : String} {D : va_G} {cI cG : ClassId} {ws : va_W} {A0 : Nat → Prop} {H0 : Heap} {pc : Nat} {ls : Array Slot} {rest st0 : List Value}
/-- what stays all through a method's walk -/
def Cx (p : Program) (s : State) (m : MethodId) (args : Array Value) (meth : Method) (c : Code) (cc : ByteArray) (nL : Nat) (ret : Option FieldType) (own : String) (D : va_G) (cI cG : ClassId) : Prop :=
  p.tables.exec = Jvm.exec ∧ c.code = cc ∧ c.maxLocals = nL ∧ meth.sig.returnType = ret ∧ meth.locks = false ∧ s.vm.findClass own = some m.cls ∧ (∀ w ∈ tbG, w.before args s = true) ∧ kk D cI cG s
theorem ro_V {ret rt : Option FieldType} {index : Nat} {C : String} {y : MethodName} {bytes : ByteArray} {maxL n fr lo : Nat} {b : Nat} {As : List Value} {r : Int32} (X : Cx p s m args meth c cc nL rt own D cI cG) (hP : va_P D vwCl ws H) (hS : va_S A0 H0 H locs) (hl : ls.size = nL)
    (hM : RoM l y bytes maxL ret fr lo (.ref b :: As) D cI cG ws H r) (hw : LinkV own index C y bytes maxL ret n) (hrec : ∃ cellB : Cell, H[b]? = some cellB ∧ cellB.vm.isStatics = false ∧ s.vm.findClass C = some cellB.cls)
    (hR : fr + 1 ≤ R.frames ∧ 8 + (maxL + 11) + lo ≤ R.locals) (hst : st0 = As.reverse ++ .ref b :: rest) (hn : As.length = n) (hr : (rest.map fun v => v.category).sum ≤ 8) (hdg : decode cc pc = .ok (.invokevirtual index, 3)) (hcs : cells + 0 ≤ R.cells ∧ slots + 0 ≤ R.slots)
    (k : ∀ locs1 : List Loc, va_S A0 H0 H locs1 → W p l e R s m args below meth c H locs1 cells slots Q (F0 m (pc + 3) ls (.int r :: rest))) : W p l e R s m args below meth c H locs cells slots Q (F0 m pc ls st0) := by
  obtain ⟨hx, hb, hml, -, -, hown, hts, hk⟩ := X
  refine va_calli (va_runV (As := As) (rest := rest) (Ts := tbG) ⟨hx, hb, hml, hown, hts⟩ hM (cwV n hts hw.1 rfl rfl rfl hw.2 hR) ⟨roP_blind, hrec, roP_warm hP hk⟩ rfl hn hl hst (lv_room hr) hdg hcs) hS (fun q _ h => False.elim h) (fun q h => False.elim h) (fun r1 u t H1 locs1 ht hvm hw1 hB hz1 hk1 hS1 => ?_)
  subst hw1
  have e1 : H1 = H := by rw [← ht]; exact hB
  subst e1
  exact k locs1 hS1
theorem ro_S {ret rt : Option FieldType} {index : Nat} {y : MethodName} {bytes : ByteArray} {maxL n fr lo : Nat} {As : List Value} {r : Int32} (X : Cx p s m args meth c cc nL rt own D cI cG) (hP : va_P D vwCl ws H) (hS : va_S A0 H0 H locs) (hl : ls.size = nL)
    (hM : RoM l y bytes maxL ret fr lo As D cI cG ws H r) (hw : LinkS own index y bytes maxL ret n)
    (hR : fr + 1 ≤ R.frames ∧ 8 + (maxL + 11) + lo ≤ R.locals) (hst : st0 = As.reverse ++ rest) (hn : As.length = n) (hr : (rest.map fun v => v.category).sum ≤ 8) (hdg : decode cc pc = .ok (.invokestatic index, 3)) (hcs : cells + 0 ≤ R.cells ∧ slots + 0 ≤ R.slots)
    (k : ∀ locs1 : List Loc, va_S A0 H0 H locs1 → W p l e R s m args below meth c H locs1 cells slots Q (F0 m (pc + 3) ls (.int r :: rest))) : W p l e R s m args below meth c H locs cells slots Q (F0 m pc ls st0) := by
  obtain ⟨hx, hb, hml, -, -, hown, hts, hk⟩ := X
  refine va_calli (va_runS (As := As) (rest := rest) (Ts := tbG) ⟨hx, hb, hml, hown, hts⟩ hM (va_cwS n hts hw.1 rfl rfl rfl hw.2 hR) ⟨roP_blind, roP_warm hP hk⟩ rfl hn hl hst (lv_room hr) hdg hcs) hS (fun q _ h => False.elim h) (fun q h => False.elim h) (fun r1 u t H1 locs1 ht hvm hw1 hB hz1 hk1 hS1 => ?_)
  subst hw1
  have e1 : H1 = H := by rw [← ht]; exact hB
  subst e1
  exact k locs1 hS1
theorem ro_N {ret rt : Option FieldType} {index : Nat} {y : MethodName} {host : String} {bytes : ByteArray} {maxL n fr lo : Nat} {As : List Value} {r : Int32} (X : Cx p s m args meth c cc nL rt own D cI cG) (hnw : va_Nw (.methodLinkNest own index y host) s) (hP : va_P D vwCl ws H) (hS : va_S A0 H0 H locs) (hl : ls.size = nL)
    (hM : RoM l y bytes maxL ret fr lo As D cI cG ws H r) (hw : LinkN own index y host bytes maxL ret n)
    (hR : fr + 1 ≤ R.frames ∧ 8 + (maxL + 11) + lo ≤ R.locals) (hst : st0 = As.reverse ++ rest) (hn : As.length = n) (hr : (rest.map fun v => v.category).sum ≤ 8) (hdg : decode cc pc = .ok (.invokestatic index, 3)) (hcs : cells + 0 ≤ R.cells ∧ slots + 0 ≤ R.slots)
    (k : ∀ locs1 : List Loc, va_S A0 H0 H locs1 → W p l e R s m args below meth c H locs1 cells slots Q (F0 m (pc + 3) ls (.int r :: rest))) : W p l e R s m args below meth c H locs cells slots Q (F0 m pc ls st0) := by
  obtain ⟨hx, hb, hml, -, -, hown, hts, hk⟩ := X
  refine va_calli (va_runSN (As := As) (rest := rest) (Ts := tbG) ⟨hx, hb, hml, hown, hts⟩ hM ⟨va_cnB n hts hw.1 rfl rfl rfl hnw (hts _ hw.2.1) hw.2.2.2 hR, hts _ hw.2.2.1, trivial⟩ ⟨roP_blind, roP_warm hP hk⟩ rfl hn hl hst (lv_room hr) hdg hcs) hS (fun q _ h => False.elim h) (fun q h => False.elim h) (fun r1 u t H1 locs1 ht hvm hw1 hB hz1 hk1 hS1 => ?_)
  subst hw1
  have e1 : H1 = H := by rw [← ht]; exact hB
  subst e1
  exact k locs1 hS1
/-- reading an int array of the world -/
theorem ro_ald {ret : Option FieldType} (X : Cx p s m args meth c cc nL ret own D cI cG) (hP : va_P D vwCl ws H) (k : Nat) {a n : Nat} {f : Nat → Int32} (ha : ws[k]? = some (a, .inl (cI, n, .inl f))) {i : Int32} (hin : inb i n = true) (hdg : decode cc pc = .ok (.iaload, 1))
    (kk : W p l e R s m args below meth c H locs cells slots Q (F0 m (pc + 1) ls (.int (f (ix i)) :: rest))) : W p l e R s m args below meth c H locs cells slots Q (F0 m pc ls (.int i :: .ref a :: rest)) :=
  va_iald X.1 X.2.1 X.2.2.2.2.2.2.2.1 hP k 0 ha rfl (inb_in hin) hdg kk
/-- reading a row of a grid -/
theorem ro_row {ret : Option FieldType} (X : Cx p s m args meth c cc nL ret own D cI cG) (hP : va_P D vwCl ws H) (k : Nat) {a n : Nat} {g : Nat → Nat} (ha : ws[k]? = some (a, .inl (cG, n, .inr (.inr (.inr (.inr (fun j => some (g j)))))))) {i : Int32} (hin : inb i n = true) (hdg : decode cc pc = .ok (.aaload, 1))
    (kk : W p l e R s m args below meth c H locs cells slots Q (F0 m (pc + 1) ls (.ref (g (ix i)) :: rest))) : W p l e R s m args below meth c H locs cells slots Q (F0 m pc ls (.int i :: .ref a :: rest)) := by
  have hlt : i.toNatClampNeg < n := inb_lt hin
  exact W.aald (v := .ref (g (ix i))) (ty := .array .int) X.1 X.2.1 (hP k _ ha) ((X.2.2.2.2.2.2.2.1.2 1 _ rfl).1 n (fun j => va_rf (some (g j)))) rfl (fun q => by cases q) (by show ¬ (i < 0 ∨ (arrV _ _ _).slots.size ≤ _); rw [arrV_size]; exact inb_in hin) (by show (arrV _ _ _).slots[_]? = _; rw [arrV_read _ _ hlt]; rfl) rfl rfl hdg kk
/-- the end of a reading method -/
theorem ro_ret {r v : Int32} (X : Cx p s m args meth c cc nL (some .int) own D cI cG) (hS : va_S no s.heap H locs) (h : some v = some r) (hdg : decode cc pc = .ok (.ireturn, 1)) : W p l e R s m args below meth c H locs cells slots (MQ below (roQ H r) args s cells slots no) (F0 m pc ls [.int v]) := by
  have hlocks : meth.locks = false := X.2.2.2.2.1
  exact W.iret X.1 X.2.1 X.2.2.2.1 (fun t ht hW => ⟨⟨v, (), rfl, Option.some.inj h, ht⟩, hS.F ht⟩) hS.2.2 hdg
theorem ro_retz {r v : Int32} (X : Cx p s m args meth c cc nL (some .boolean) own D cI cG) (hS : va_S no s.heap H locs) (h : some v = some r) (hn : narrow .boolean (.int v) = .int v) (hdg : decode cc pc = .ok (.ireturn, 1)) : W p l e R s m args below meth c H locs cells slots (MQ below (roQ H r) args s cells slots no) (F0 m pc ls [.int v]) := by
  have hlocks : meth.locks = false := X.2.2.2.2.1
  exact W.zret X.1 X.2.1 X.2.2.2.1 hn (fun t ht hW => ⟨⟨v, (), rfl, Option.some.inj h, ht⟩, hS.F ht⟩) hS.2.2 hdg
end RO
/-- a reading method's contract out of its walk -/
theorem RoM.of {l : Launch} {y : MethodName} {b : ByteArray} {n : Nat} {ret : Option FieldType} {fr lo : Nat} {av : List Value} {D : va_G} {cI cG : ClassId} {ws : va_W} {H : Heap} {r : Int32} {own : String} (hy : plainName y.cls = true) (ho : y.cls = own) (hn : (lg_sl av).length ≤ n)
    (walk : ∀ (p : Program) (e : Env) (s : State) (m : MethodId) (args : Array Value) (below : List Frame) (meth : Method) (c : Code) (ls : Array Slot), Cx p s m args meth c b n ret own D cI cG → va_P D vwCl ws H → va_S no s.heap H [] → (∀ lv, lv_has (lg_sl av ++ List.replicate (n - (lg_sl av).length) Slot.unset).toArray n lv → lv_has ls n lv) →
      W p l e { frames := fr, cells := 0, slots := 0, locals := lo } s m args below meth c H [] 0 0 (MQ below (roQ H r) args s 0 0 no) (F0 m 0 ls [])) : RoM l y b n ret fr lo av D cI cG ws H r := by
  refine Met.ofW (cc := b) (maxL := n) (ret := ret) hy rfl ?_
  intro p e s m args below meth c s₁ B hml hv
  obtain ⟨rfl, hH, hP, hk⟩ := hv
  have hts := atoms_spec (ws := wd y b n ret) B.pre
  have hown : s.vm.findClass own = some m.cls := by rw [← ho]; exact findClass_of_methodNamed B.named
  subst hH
  rw [lg_entry_eq]
  exact walk p e s m _ below meth c _ ⟨B.exec, B.bytes, hml, B.returns, B.notSynchronized, hown, fun w h => hts w (List.mem_cons_of_mem _ h), hk⟩ hP va_S.rf (fun lv h => h)
end
section
/-! the two worlds: the class (31 cells), the reference (14 cells) -/
def wX (cI cG : ClassId) (q : Nat → Nat) (S : St) : va_W := [(q 0, .inr (3, [.ref (q 1), .ref (q 2), .ref (q 3), .int (S 0 0), .int (S 0 1)])), (q 1, .inr (0, [.ref (q 4), .ref (q 5), .ref (q 6), .ref (q 7), .ref (q 8), .ref (q 9), .ref (q 10), .int (S 1 0)])), (q 2, .inr (1, [.ref (q 11), .ref (q 12), .ref (q 13), .int (S 2 0)])), (q 3, .inr (2, [.ref (q 14), .int (S 3 0)])), (q 4, .inl (cI, 12, .inl (S 4))), (q 5, .inl (cI, 12, .inl (S 5))), (q 6, .inl (cI, 12, .inl (S 6))), (q 7, .inl (cI, 12, .inl (S 7))), (q 8, .inl (cG, 4, .inr (.inr (.inr (.inr (fun j => some (q (15 + j)))))))), (q 9, .inl (cI, 12, .inl (S 9))), (q 10, .inl (cG, 12, .inr (.inr (.inr (.inr (fun j => some (q (19 + j)))))))), (q 11, .inl (cI, 12, .inl (S 11))), (q 12, .inl (cI, 12, .inl (S 12))), (q 13, .inl (cI, 12, .inl (S 13))), (q 14, .inl (cI, 40, .inl (S 14))), (q 15, .inl (cI, 12, .inl (S 15))), (q 16, .inl (cI, 12, .inl (S 16))), (q 17, .inl (cI, 12, .inl (S 17))), (q 18, .inl (cI, 12, .inl (S 18))), (q 19, .inl (cI, 20, .inl (S 19))), (q 20, .inl (cI, 20, .inl (S 20))), (q 21, .inl (cI, 20, .inl (S 21))), (q 22, .inl (cI, 20, .inl (S 22))), (q 23, .inl (cI, 20, .inl (S 23))), (q 24, .inl (cI, 20, .inl (S 24))), (q 25, .inl (cI, 20, .inl (S 25))), (q 26, .inl (cI, 20, .inl (S 26))), (q 27, .inl (cI, 20, .inl (S 27))), (q 28, .inl (cI, 20, .inl (S 28))), (q 29, .inl (cI, 20, .inl (S 29))), (q 30, .inl (cI, 20, .inl (S 30)))]
def wM (cI cG : ClassId) (q : Nat → Nat) (S : St) : va_W := [(q 0, .inr (4, [.ref (q 1), .ref (q 2), .ref (q 3), .ref (q 4), .ref (q 5), .ref (q 6), .ref (q 7), .int (S 0 0), .int (S 0 1), .ref (q 8), .ref (q 9), .int (S 0 2), .int (S 0 3), .ref (q 10), .int (S 0 4), .ref (q 11), .ref (q 12), .ref (q 13), .int (S 0 5), .int (S 0 6), .int (S 0 7)])), (q 1, .inl (cI, 12, .inl (S 1))), (q 2, .inl (cI, 12, .inl (S 2))), (q 3, .inl (cI, 12, .inl (S 3))), (q 4, .inl (cI, 12, .inl (S 4))), (q 5, .inl (cI, 12, .inl (S 5))), (q 6, .inl (cI, 12, .inl (S 6))), (q 7, .inl (cI, 12, .inl (S 7))), (q 8, .inl (cI, 240, .inl (S 8))), (q 9, .inl (cI, 12, .inl (S 9))), (q 10, .inl (cI, 40, .inl (S 10))), (q 11, .inl (cI, 12, .inl (S 11))), (q 12, .inl (cI, 12, .inl (S 12))), (q 13, .inl (cI, 12, .inl (S 13)))]
theorem wX_0 {cI cG : ClassId} {q : Nat → Nat} {S : St} : (wX cI cG q S)[0]? = some (q 0, .inr (3, [.ref (q 1), .ref (q 2), .ref (q 3), .int (S 0 0), .int (S 0 1)])) := rfl
theorem wX_1 {cI cG : ClassId} {q : Nat → Nat} {S : St} : (wX cI cG q S)[1]? = some (q 1, .inr (0, [.ref (q 4), .ref (q 5), .ref (q 6), .ref (q 7), .ref (q 8), .ref (q 9), .ref (q 10), .int (S 1 0)])) := rfl
theorem wX_2 {cI cG : ClassId} {q : Nat → Nat} {S : St} : (wX cI cG q S)[2]? = some (q 2, .inr (1, [.ref (q 11), .ref (q 12), .ref (q 13), .int (S 2 0)])) := rfl
theorem wX_3 {cI cG : ClassId} {q : Nat → Nat} {S : St} : (wX cI cG q S)[3]? = some (q 3, .inr (2, [.ref (q 14), .int (S 3 0)])) := rfl
theorem wX_4 {cI cG : ClassId} {q : Nat → Nat} {S : St} : (wX cI cG q S)[4]? = some (q 4, .inl (cI, 12, .inl (S 4))) := rfl
theorem wX_5 {cI cG : ClassId} {q : Nat → Nat} {S : St} : (wX cI cG q S)[5]? = some (q 5, .inl (cI, 12, .inl (S 5))) := rfl
theorem wX_6 {cI cG : ClassId} {q : Nat → Nat} {S : St} : (wX cI cG q S)[6]? = some (q 6, .inl (cI, 12, .inl (S 6))) := rfl
theorem wX_7 {cI cG : ClassId} {q : Nat → Nat} {S : St} : (wX cI cG q S)[7]? = some (q 7, .inl (cI, 12, .inl (S 7))) := rfl
theorem wX_8 {cI cG : ClassId} {q : Nat → Nat} {S : St} : (wX cI cG q S)[8]? = some (q 8, .inl (cG, 4, .inr (.inr (.inr (.inr (fun j => some (q (15 + j)))))))) := rfl
theorem wX_9 {cI cG : ClassId} {q : Nat → Nat} {S : St} : (wX cI cG q S)[9]? = some (q 9, .inl (cI, 12, .inl (S 9))) := rfl
theorem wX_10 {cI cG : ClassId} {q : Nat → Nat} {S : St} : (wX cI cG q S)[10]? = some (q 10, .inl (cG, 12, .inr (.inr (.inr (.inr (fun j => some (q (19 + j)))))))) := rfl
theorem wX_11 {cI cG : ClassId} {q : Nat → Nat} {S : St} : (wX cI cG q S)[11]? = some (q 11, .inl (cI, 12, .inl (S 11))) := rfl
theorem wX_12 {cI cG : ClassId} {q : Nat → Nat} {S : St} : (wX cI cG q S)[12]? = some (q 12, .inl (cI, 12, .inl (S 12))) := rfl
theorem wX_13 {cI cG : ClassId} {q : Nat → Nat} {S : St} : (wX cI cG q S)[13]? = some (q 13, .inl (cI, 12, .inl (S 13))) := rfl
theorem wX_14 {cI cG : ClassId} {q : Nat → Nat} {S : St} : (wX cI cG q S)[14]? = some (q 14, .inl (cI, 40, .inl (S 14))) := rfl
theorem wX_15 {cI cG : ClassId} {q : Nat → Nat} {S : St} : (wX cI cG q S)[15]? = some (q 15, .inl (cI, 12, .inl (S 15))) := rfl
theorem wX_16 {cI cG : ClassId} {q : Nat → Nat} {S : St} : (wX cI cG q S)[16]? = some (q 16, .inl (cI, 12, .inl (S 16))) := rfl
theorem wX_17 {cI cG : ClassId} {q : Nat → Nat} {S : St} : (wX cI cG q S)[17]? = some (q 17, .inl (cI, 12, .inl (S 17))) := rfl
theorem wX_18 {cI cG : ClassId} {q : Nat → Nat} {S : St} : (wX cI cG q S)[18]? = some (q 18, .inl (cI, 12, .inl (S 18))) := rfl
theorem wX_19 {cI cG : ClassId} {q : Nat → Nat} {S : St} : (wX cI cG q S)[19]? = some (q 19, .inl (cI, 20, .inl (S 19))) := rfl
theorem wX_20 {cI cG : ClassId} {q : Nat → Nat} {S : St} : (wX cI cG q S)[20]? = some (q 20, .inl (cI, 20, .inl (S 20))) := rfl
theorem wX_21 {cI cG : ClassId} {q : Nat → Nat} {S : St} : (wX cI cG q S)[21]? = some (q 21, .inl (cI, 20, .inl (S 21))) := rfl
theorem wX_22 {cI cG : ClassId} {q : Nat → Nat} {S : St} : (wX cI cG q S)[22]? = some (q 22, .inl (cI, 20, .inl (S 22))) := rfl
theorem wX_23 {cI cG : ClassId} {q : Nat → Nat} {S : St} : (wX cI cG q S)[23]? = some (q 23, .inl (cI, 20, .inl (S 23))) := rfl
theorem wX_24 {cI cG : ClassId} {q : Nat → Nat} {S : St} : (wX cI cG q S)[24]? = some (q 24, .inl (cI, 20, .inl (S 24))) := rfl
theorem wX_25 {cI cG : ClassId} {q : Nat → Nat} {S : St} : (wX cI cG q S)[25]? = some (q 25, .inl (cI, 20, .inl (S 25))) := rfl
theorem wX_26 {cI cG : ClassId} {q : Nat → Nat} {S : St} : (wX cI cG q S)[26]? = some (q 26, .inl (cI, 20, .inl (S 26))) := rfl
theorem wX_27 {cI cG : ClassId} {q : Nat → Nat} {S : St} : (wX cI cG q S)[27]? = some (q 27, .inl (cI, 20, .inl (S 27))) := rfl
theorem wX_28 {cI cG : ClassId} {q : Nat → Nat} {S : St} : (wX cI cG q S)[28]? = some (q 28, .inl (cI, 20, .inl (S 28))) := rfl
theorem wX_29 {cI cG : ClassId} {q : Nat → Nat} {S : St} : (wX cI cG q S)[29]? = some (q 29, .inl (cI, 20, .inl (S 29))) := rfl
theorem wX_30 {cI cG : ClassId} {q : Nat → Nat} {S : St} : (wX cI cG q S)[30]? = some (q 30, .inl (cI, 20, .inl (S 30))) := rfl
theorem wM_0 {cI cG : ClassId} {q : Nat → Nat} {S : St} : (wM cI cG q S)[0]? = some (q 0, .inr (4, [.ref (q 1), .ref (q 2), .ref (q 3), .ref (q 4), .ref (q 5), .ref (q 6), .ref (q 7), .int (S 0 0), .int (S 0 1), .ref (q 8), .ref (q 9), .int (S 0 2), .int (S 0 3), .ref (q 10), .int (S 0 4), .ref (q 11), .ref (q 12), .ref (q 13), .int (S 0 5), .int (S 0 6), .int (S 0 7)])) := rfl
theorem wM_1 {cI cG : ClassId} {q : Nat → Nat} {S : St} : (wM cI cG q S)[1]? = some (q 1, .inl (cI, 12, .inl (S 1))) := rfl
theorem wM_2 {cI cG : ClassId} {q : Nat → Nat} {S : St} : (wM cI cG q S)[2]? = some (q 2, .inl (cI, 12, .inl (S 2))) := rfl
theorem wM_3 {cI cG : ClassId} {q : Nat → Nat} {S : St} : (wM cI cG q S)[3]? = some (q 3, .inl (cI, 12, .inl (S 3))) := rfl
theorem wM_4 {cI cG : ClassId} {q : Nat → Nat} {S : St} : (wM cI cG q S)[4]? = some (q 4, .inl (cI, 12, .inl (S 4))) := rfl
theorem wM_5 {cI cG : ClassId} {q : Nat → Nat} {S : St} : (wM cI cG q S)[5]? = some (q 5, .inl (cI, 12, .inl (S 5))) := rfl
theorem wM_6 {cI cG : ClassId} {q : Nat → Nat} {S : St} : (wM cI cG q S)[6]? = some (q 6, .inl (cI, 12, .inl (S 6))) := rfl
theorem wM_7 {cI cG : ClassId} {q : Nat → Nat} {S : St} : (wM cI cG q S)[7]? = some (q 7, .inl (cI, 12, .inl (S 7))) := rfl
theorem wM_8 {cI cG : ClassId} {q : Nat → Nat} {S : St} : (wM cI cG q S)[8]? = some (q 8, .inl (cI, 240, .inl (S 8))) := rfl
theorem wM_9 {cI cG : ClassId} {q : Nat → Nat} {S : St} : (wM cI cG q S)[9]? = some (q 9, .inl (cI, 12, .inl (S 9))) := rfl
theorem wM_10 {cI cG : ClassId} {q : Nat → Nat} {S : St} : (wM cI cG q S)[10]? = some (q 10, .inl (cI, 40, .inl (S 10))) := rfl
theorem wM_11 {cI cG : ClassId} {q : Nat → Nat} {S : St} : (wM cI cG q S)[11]? = some (q 11, .inl (cI, 12, .inl (S 11))) := rfl
theorem wM_12 {cI cG : ClassId} {q : Nat → Nat} {S : St} : (wM cI cG q S)[12]? = some (q 12, .inl (cI, 12, .inl (S 12))) := rfl
theorem wM_13 {cI cG : ClassId} {q : Nat → Nat} {S : St} : (wM cI cG q S)[13]? = some (q 13, .inl (cI, 12, .inl (S 13))) := rfl
theorem wX_r15 {cI cG : ClassId} {q : Nat → Nat} {S : St} : ∀ {i : Nat}, i < 4 → (wX cI cG q S)[15 + i]? = some (q (15 + i), .inl (cI, 12, .inl (S (15 + i))))
  | 0, _ => rfl
  | 1, _ => rfl
  | 2, _ => rfl
  | 3, _ => rfl
  | i + 4, h => absurd h (by omega)
theorem wX_r19 {cI cG : ClassId} {q : Nat → Nat} {S : St} : ∀ {i : Nat}, i < 12 → (wX cI cG q S)[19 + i]? = some (q (19 + i), .inl (cI, 20, .inl (S (19 + i))))
  | 0, _ => rfl
  | 1, _ => rfl
  | 2, _ => rfl
  | 3, _ => rfl
  | 4, _ => rfl
  | 5, _ => rfl
  | 6, _ => rfl
  | 7, _ => rfl
  | 8, _ => rfl
  | 9, _ => rfl
  | 10, _ => rfl
  | 11, _ => rfl
  | i + 12, h => absurd h (by omega)
section GF
variable {p : Program} {l : Launch} {e : Env} {R : Room} {s : State} {m : MethodId} {args : Array Value} {below : List Frame} {meth : Method} {c : Code} {H : Heap} {locs : List Loc} {cells slots : Nat} {Q : State → Prop}
variable {cc : ByteArray} {nL : Nat} {D : va_G} {cI cG : ClassId} {q : Nat → Nat} {S : St} {pc : Nat} {ls : Array Slot} {rest : List Value} {ret : Option FieldType}
theorem rc_X0_X0 (X : Cx p s m args meth c cc nL ret RX0 D cI cG) (hP : va_P D vwCl (wX cI cG q S) H) : ∃ cellB : Cell, H[q 1]? = some cellB ∧ cellB.vm.isStatics = false ∧ s.vm.findClass RX0 = some cellB.cls := va_recv (ci := 0) (q0 := 1) X.2.2.2.2.2.2.2.1 hP rfl wX_1
theorem rc_X1_X0 (X : Cx p s m args meth c cc nL ret RX1 D cI cG) (hP : va_P D vwCl (wX cI cG q S) H) : ∃ cellB : Cell, H[q 1]? = some cellB ∧ cellB.vm.isStatics = false ∧ s.vm.findClass RX0 = some cellB.cls := va_recv (ci := 0) (q0 := 1) X.2.2.2.2.2.2.2.1 hP rfl wX_1
theorem rc_X2_X0 (X : Cx p s m args meth c cc nL ret RX2 D cI cG) (hP : va_P D vwCl (wX cI cG q S) H) : ∃ cellB : Cell, H[q 1]? = some cellB ∧ cellB.vm.isStatics = false ∧ s.vm.findClass RX0 = some cellB.cls := va_recv (ci := 0) (q0 := 1) X.2.2.2.2.2.2.2.1 hP rfl wX_1
theorem rc_X3_X0 (X : Cx p s m args meth c cc nL ret RX3 D cI cG) (hP : va_P D vwCl (wX cI cG q S) H) : ∃ cellB : Cell, H[q 1]? = some cellB ∧ cellB.vm.isStatics = false ∧ s.vm.findClass RX0 = some cellB.cls := va_recv (ci := 0) (q0 := 1) X.2.2.2.2.2.2.2.1 hP rfl wX_1
theorem rc_X0_X1 (X : Cx p s m args meth c cc nL ret RX0 D cI cG) (hP : va_P D vwCl (wX cI cG q S) H) : ∃ cellB : Cell, H[q 2]? = some cellB ∧ cellB.vm.isStatics = false ∧ s.vm.findClass RX1 = some cellB.cls := va_recv (ci := 1) (q0 := 2) X.2.2.2.2.2.2.2.1 hP rfl wX_2
theorem rc_X1_X1 (X : Cx p s m args meth c cc nL ret RX1 D cI cG) (hP : va_P D vwCl (wX cI cG q S) H) : ∃ cellB : Cell, H[q 2]? = some cellB ∧ cellB.vm.isStatics = false ∧ s.vm.findClass RX1 = some cellB.cls := va_recv (ci := 1) (q0 := 2) X.2.2.2.2.2.2.2.1 hP rfl wX_2
theorem rc_X2_X1 (X : Cx p s m args meth c cc nL ret RX2 D cI cG) (hP : va_P D vwCl (wX cI cG q S) H) : ∃ cellB : Cell, H[q 2]? = some cellB ∧ cellB.vm.isStatics = false ∧ s.vm.findClass RX1 = some cellB.cls := va_recv (ci := 1) (q0 := 2) X.2.2.2.2.2.2.2.1 hP rfl wX_2
theorem rc_X3_X1 (X : Cx p s m args meth c cc nL ret RX3 D cI cG) (hP : va_P D vwCl (wX cI cG q S) H) : ∃ cellB : Cell, H[q 2]? = some cellB ∧ cellB.vm.isStatics = false ∧ s.vm.findClass RX1 = some cellB.cls := va_recv (ci := 1) (q0 := 2) X.2.2.2.2.2.2.2.1 hP rfl wX_2
theorem rc_X0_X2 (X : Cx p s m args meth c cc nL ret RX0 D cI cG) (hP : va_P D vwCl (wX cI cG q S) H) : ∃ cellB : Cell, H[q 3]? = some cellB ∧ cellB.vm.isStatics = false ∧ s.vm.findClass RX2 = some cellB.cls := va_recv (ci := 2) (q0 := 3) X.2.2.2.2.2.2.2.1 hP rfl wX_3
theorem rc_X1_X2 (X : Cx p s m args meth c cc nL ret RX1 D cI cG) (hP : va_P D vwCl (wX cI cG q S) H) : ∃ cellB : Cell, H[q 3]? = some cellB ∧ cellB.vm.isStatics = false ∧ s.vm.findClass RX2 = some cellB.cls := va_recv (ci := 2) (q0 := 3) X.2.2.2.2.2.2.2.1 hP rfl wX_3
theorem rc_X2_X2 (X : Cx p s m args meth c cc nL ret RX2 D cI cG) (hP : va_P D vwCl (wX cI cG q S) H) : ∃ cellB : Cell, H[q 3]? = some cellB ∧ cellB.vm.isStatics = false ∧ s.vm.findClass RX2 = some cellB.cls := va_recv (ci := 2) (q0 := 3) X.2.2.2.2.2.2.2.1 hP rfl wX_3
theorem rc_X3_X2 (X : Cx p s m args meth c cc nL ret RX3 D cI cG) (hP : va_P D vwCl (wX cI cG q S) H) : ∃ cellB : Cell, H[q 3]? = some cellB ∧ cellB.vm.isStatics = false ∧ s.vm.findClass RX2 = some cellB.cls := va_recv (ci := 2) (q0 := 3) X.2.2.2.2.2.2.2.1 hP rfl wX_3
theorem rc_X0_X3 (X : Cx p s m args meth c cc nL ret RX0 D cI cG) (hP : va_P D vwCl (wX cI cG q S) H) : ∃ cellB : Cell, H[q 0]? = some cellB ∧ cellB.vm.isStatics = false ∧ s.vm.findClass RX3 = some cellB.cls := va_recv (ci := 3) (q0 := 0) X.2.2.2.2.2.2.2.1 hP rfl wX_0
theorem rc_X1_X3 (X : Cx p s m args meth c cc nL ret RX1 D cI cG) (hP : va_P D vwCl (wX cI cG q S) H) : ∃ cellB : Cell, H[q 0]? = some cellB ∧ cellB.vm.isStatics = false ∧ s.vm.findClass RX3 = some cellB.cls := va_recv (ci := 3) (q0 := 0) X.2.2.2.2.2.2.2.1 hP rfl wX_0
theorem rc_X2_X3 (X : Cx p s m args meth c cc nL ret RX2 D cI cG) (hP : va_P D vwCl (wX cI cG q S) H) : ∃ cellB : Cell, H[q 0]? = some cellB ∧ cellB.vm.isStatics = false ∧ s.vm.findClass RX3 = some cellB.cls := va_recv (ci := 3) (q0 := 0) X.2.2.2.2.2.2.2.1 hP rfl wX_0
theorem rc_X3_X3 (X : Cx p s m args meth c cc nL ret RX3 D cI cG) (hP : va_P D vwCl (wX cI cG q S) H) : ∃ cellB : Cell, H[q 0]? = some cellB ∧ cellB.vm.isStatics = false ∧ s.vm.findClass RX3 = some cellB.cls := va_recv (ci := 3) (q0 := 0) X.2.2.2.2.2.2.2.1 hP rfl wX_0
theorem rc_X4_X4 (X : Cx p s m args meth c cc nL ret RX4 D cI cG) (hP : va_P D vwCl (wM cI cG q S) H) : ∃ cellB : Cell, H[q 0]? = some cellB ∧ cellB.vm.isStatics = false ∧ s.vm.findClass RX4 = some cellB.cls := va_recv (ci := 4) (q0 := 0) X.2.2.2.2.2.2.2.1 hP rfl wM_0
theorem gf_X3_10 (X : Cx p s m args meth c cc nL ret RX3 D cI cG) (hP : va_P D vwCl (wX cI cG q S) H) (hdg : decode cc pc = .ok (.getfield 10, 3)) (kk : W p l e R s m args below meth c H locs cells slots Q (F0 m (pc + 3) ls (.ref (q 1) :: rest))) : W p l e R s m args below meth c H locs cells slots Q (F0 m pc ls (.ref (q 0) :: rest)) :=
  va_get (D := D) (ci := 3) (v := .ref (q 1)) (C := RX3) (T := TX3) (N := 5) X.1 X.2.1 X.2.2.2.2.2.2.1 inX3 X.2.2.2.2.2.1 X.2.2.2.2.2.2.2.1 hP 0 wX_0 rfl 0 (by decide) (X.2.2.2.2.2.2.1 _ w_fl_X3_10) (fun _ h9 => h9) rfl hdg kk
theorem gf_X3_19 (X : Cx p s m args meth c cc nL ret RX3 D cI cG) (hP : va_P D vwCl (wX cI cG q S) H) (hdg : decode cc pc = .ok (.getfield 19, 3)) (kk : W p l e R s m args below meth c H locs cells slots Q (F0 m (pc + 3) ls (.ref (q 2) :: rest))) : W p l e R s m args below meth c H locs cells slots Q (F0 m pc ls (.ref (q 0) :: rest)) :=
  va_get (D := D) (ci := 3) (v := .ref (q 2)) (C := RX3) (T := TX3) (N := 5) X.1 X.2.1 X.2.2.2.2.2.2.1 inX3 X.2.2.2.2.2.1 X.2.2.2.2.2.2.2.1 hP 0 wX_0 rfl 1 (by decide) (X.2.2.2.2.2.2.1 _ w_fl_X3_19) (fun _ h9 => h9) rfl hdg kk
theorem gf_X3_26 (X : Cx p s m args meth c cc nL ret RX3 D cI cG) (hP : va_P D vwCl (wX cI cG q S) H) (hdg : decode cc pc = .ok (.getfield 26, 3)) (kk : W p l e R s m args below meth c H locs cells slots Q (F0 m (pc + 3) ls (.ref (q 3) :: rest))) : W p l e R s m args below meth c H locs cells slots Q (F0 m pc ls (.ref (q 0) :: rest)) :=
  va_get (D := D) (ci := 3) (v := .ref (q 3)) (C := RX3) (T := TX3) (N := 5) X.1 X.2.1 X.2.2.2.2.2.2.1 inX3 X.2.2.2.2.2.1 X.2.2.2.2.2.2.2.1 hP 0 wX_0 rfl 2 (by decide) (X.2.2.2.2.2.2.1 _ w_fl_X3_26) (fun _ h9 => h9) rfl hdg kk
theorem gf_X3_30 (X : Cx p s m args meth c cc nL ret RX3 D cI cG) (hP : va_P D vwCl (wX cI cG q S) H) (hdg : decode cc pc = .ok (.getfield 30, 3)) (kk : W p l e R s m args below meth c H locs cells slots Q (F0 m (pc + 3) ls (.int (S 0 0) :: rest))) : W p l e R s m args below meth c H locs cells slots Q (F0 m pc ls (.ref (q 0) :: rest)) :=
  va_get (D := D) (ci := 3) (v := .int (S 0 0)) (C := RX3) (T := TX3) (N := 5) X.1 X.2.1 X.2.2.2.2.2.2.1 inX3 X.2.2.2.2.2.1 X.2.2.2.2.2.2.2.1 hP 0 wX_0 rfl 3 (by decide) (X.2.2.2.2.2.2.1 _ w_fl_X3_30) (fun _ h9 => h9) rfl hdg kk
theorem gf_X3_34 (X : Cx p s m args meth c cc nL ret RX3 D cI cG) (hP : va_P D vwCl (wX cI cG q S) H) (hdg : decode cc pc = .ok (.getfield 34, 3)) (kk : W p l e R s m args below meth c H locs cells slots Q (F0 m (pc + 3) ls (.int (S 0 1) :: rest))) : W p l e R s m args below meth c H locs cells slots Q (F0 m pc ls (.ref (q 0) :: rest)) :=
  va_get (D := D) (ci := 3) (v := .int (S 0 1)) (C := RX3) (T := TX3) (N := 5) X.1 X.2.1 X.2.2.2.2.2.2.1 inX3 X.2.2.2.2.2.1 X.2.2.2.2.2.2.2.1 hP 0 wX_0 rfl 4 (by decide) (X.2.2.2.2.2.2.1 _ w_fl_X3_34) (fun _ h9 => h9) rfl hdg kk
theorem gf_X3_48 (X : Cx p s m args meth c cc nL ret RX3 D cI cG) (hP : va_P D vwCl (wX cI cG q S) H) (hdg : decode cc pc = .ok (.getfield 48, 3)) (kk : W p l e R s m args below meth c H locs cells slots Q (F0 m (pc + 3) ls (.int (S 1 0) :: rest))) : W p l e R s m args below meth c H locs cells slots Q (F0 m pc ls (.ref (q 1) :: rest)) :=
  va_get (D := D) (ci := 0) (v := .int (S 1 0)) (C := RX0) (T := TX0) (N := 8) X.1 X.2.1 X.2.2.2.2.2.2.1 inX0 X.2.2.2.2.2.1 X.2.2.2.2.2.2.2.1 hP 1 wX_1 rfl 7 (by decide) (X.2.2.2.2.2.2.1 _ w_fl_X3_48) (fun _ h9 => h9) rfl hdg kk
theorem gf_X3_65 (X : Cx p s m args meth c cc nL ret RX3 D cI cG) (hP : va_P D vwCl (wX cI cG q S) H) (hdg : decode cc pc = .ok (.getfield 65, 3)) (kk : W p l e R s m args below meth c H locs cells slots Q (F0 m (pc + 3) ls (.ref (q 8) :: rest))) : W p l e R s m args below meth c H locs cells slots Q (F0 m pc ls (.ref (q 1) :: rest)) :=
  va_get (D := D) (ci := 0) (v := .ref (q 8)) (C := RX0) (T := TX0) (N := 8) X.1 X.2.1 X.2.2.2.2.2.2.1 inX0 X.2.2.2.2.2.1 X.2.2.2.2.2.2.2.1 hP 1 wX_1 rfl 4 (by decide) (X.2.2.2.2.2.2.1 _ w_fl_X3_65) (fun _ h9 => h9) rfl hdg kk
theorem gf_X3_69 (X : Cx p s m args meth c cc nL ret RX3 D cI cG) (hP : va_P D vwCl (wX cI cG q S) H) (hdg : decode cc pc = .ok (.getfield 69, 3)) (kk : W p l e R s m args below meth c H locs cells slots Q (F0 m (pc + 3) ls (.int (S 3 0) :: rest))) : W p l e R s m args below meth c H locs cells slots Q (F0 m pc ls (.ref (q 3) :: rest)) :=
  va_get (D := D) (ci := 2) (v := .int (S 3 0)) (C := RX2) (T := TX2) (N := 2) X.1 X.2.1 X.2.2.2.2.2.2.1 inX2 X.2.2.2.2.2.1 X.2.2.2.2.2.2.2.1 hP 3 wX_3 rfl 1 (by decide) (X.2.2.2.2.2.2.1 _ w_fl_X3_69) (fun _ h9 => h9) rfl hdg kk
theorem gf_X3_84 (X : Cx p s m args meth c cc nL ret RX3 D cI cG) (hP : va_P D vwCl (wX cI cG q S) H) (hdg : decode cc pc = .ok (.getfield 84, 3)) (kk : W p l e R s m args below meth c H locs cells slots Q (F0 m (pc + 3) ls (.ref (q 9) :: rest))) : W p l e R s m args below meth c H locs cells slots Q (F0 m pc ls (.ref (q 1) :: rest)) :=
  va_get (D := D) (ci := 0) (v := .ref (q 9)) (C := RX0) (T := TX0) (N := 8) X.1 X.2.1 X.2.2.2.2.2.2.1 inX0 X.2.2.2.2.2.1 X.2.2.2.2.2.2.2.1 hP 1 wX_1 rfl 5 (by decide) (X.2.2.2.2.2.2.1 _ w_fl_X3_84) (fun _ h9 => h9) rfl hdg kk
theorem gf_X3_87 (X : Cx p s m args meth c cc nL ret RX3 D cI cG) (hP : va_P D vwCl (wX cI cG q S) H) (hdg : decode cc pc = .ok (.getfield 87, 3)) (kk : W p l e R s m args below meth c H locs cells slots Q (F0 m (pc + 3) ls (.int (S 2 0) :: rest))) : W p l e R s m args below meth c H locs cells slots Q (F0 m pc ls (.ref (q 2) :: rest)) :=
  va_get (D := D) (ci := 1) (v := .int (S 2 0)) (C := RX1) (T := TX1) (N := 4) X.1 X.2.1 X.2.2.2.2.2.2.1 inX1 X.2.2.2.2.2.1 X.2.2.2.2.2.2.2.1 hP 2 wX_2 rfl 3 (by decide) (X.2.2.2.2.2.2.1 _ w_fl_X3_87) (fun _ h9 => h9) rfl hdg kk
theorem gf_X3_168 (X : Cx p s m args meth c cc nL ret RX3 D cI cG) (hP : va_P D vwCl (wX cI cG q S) H) (hdg : decode cc pc = .ok (.getfield 168, 3)) (kk : W p l e R s m args below meth c H locs cells slots Q (F0 m (pc + 3) ls (.ref (q 4) :: rest))) : W p l e R s m args below meth c H locs cells slots Q (F0 m pc ls (.ref (q 1) :: rest)) :=
  va_get (D := D) (ci := 0) (v := .ref (q 4)) (C := RX0) (T := TX0) (N := 8) X.1 X.2.1 X.2.2.2.2.2.2.1 inX0 X.2.2.2.2.2.1 X.2.2.2.2.2.2.2.1 hP 1 wX_1 rfl 0 (by decide) (X.2.2.2.2.2.2.1 _ w_fl_X3_168) (fun _ h9 => h9) rfl hdg kk
theorem gf_X0_9 (X : Cx p s m args meth c cc nL ret RX0 D cI cG) (hP : va_P D vwCl (wX cI cG q S) H) (hdg : decode cc pc = .ok (.getfield 9, 3)) (kk : W p l e R s m args below meth c H locs cells slots Q (F0 m (pc + 3) ls (.ref (q 4) :: rest))) : W p l e R s m args below meth c H locs cells slots Q (F0 m pc ls (.ref (q 1) :: rest)) :=
  va_get (D := D) (ci := 0) (v := .ref (q 4)) (C := RX0) (T := TX0) (N := 8) X.1 X.2.1 X.2.2.2.2.2.2.1 inX0 X.2.2.2.2.2.1 X.2.2.2.2.2.2.2.1 hP 1 wX_1 rfl 0 (by decide) (X.2.2.2.2.2.2.1 _ w_fl_X0_9) (fun _ h9 => h9) rfl hdg kk
theorem gf_X0_15 (X : Cx p s m args meth c cc nL ret RX0 D cI cG) (hP : va_P D vwCl (wX cI cG q S) H) (hdg : decode cc pc = .ok (.getfield 15, 3)) (kk : W p l e R s m args below meth c H locs cells slots Q (F0 m (pc + 3) ls (.ref (q 5) :: rest))) : W p l e R s m args below meth c H locs cells slots Q (F0 m pc ls (.ref (q 1) :: rest)) :=
  va_get (D := D) (ci := 0) (v := .ref (q 5)) (C := RX0) (T := TX0) (N := 8) X.1 X.2.1 X.2.2.2.2.2.2.1 inX0 X.2.2.2.2.2.1 X.2.2.2.2.2.2.2.1 hP 1 wX_1 rfl 1 (by decide) (X.2.2.2.2.2.2.1 _ w_fl_X0_15) (fun _ h9 => h9) rfl hdg kk
theorem gf_X0_18 (X : Cx p s m args meth c cc nL ret RX0 D cI cG) (hP : va_P D vwCl (wX cI cG q S) H) (hdg : decode cc pc = .ok (.getfield 18, 3)) (kk : W p l e R s m args below meth c H locs cells slots Q (F0 m (pc + 3) ls (.ref (q 6) :: rest))) : W p l e R s m args below meth c H locs cells slots Q (F0 m pc ls (.ref (q 1) :: rest)) :=
  va_get (D := D) (ci := 0) (v := .ref (q 6)) (C := RX0) (T := TX0) (N := 8) X.1 X.2.1 X.2.2.2.2.2.2.1 inX0 X.2.2.2.2.2.1 X.2.2.2.2.2.2.2.1 hP 1 wX_1 rfl 2 (by decide) (X.2.2.2.2.2.2.1 _ w_fl_X0_18) (fun _ h9 => h9) rfl hdg kk
theorem gf_X0_21 (X : Cx p s m args meth c cc nL ret RX0 D cI cG) (hP : va_P D vwCl (wX cI cG q S) H) (hdg : decode cc pc = .ok (.getfield 21, 3)) (kk : W p l e R s m args below meth c H locs cells slots Q (F0 m (pc + 3) ls (.ref (q 7) :: rest))) : W p l e R s m args below meth c H locs cells slots Q (F0 m pc ls (.ref (q 1) :: rest)) :=
  va_get (D := D) (ci := 0) (v := .ref (q 7)) (C := RX0) (T := TX0) (N := 8) X.1 X.2.1 X.2.2.2.2.2.2.1 inX0 X.2.2.2.2.2.1 X.2.2.2.2.2.2.2.1 hP 1 wX_1 rfl 3 (by decide) (X.2.2.2.2.2.2.1 _ w_fl_X0_21) (fun _ h9 => h9) rfl hdg kk
theorem gf_X0_26 (X : Cx p s m args meth c cc nL ret RX0 D cI cG) (hP : va_P D vwCl (wX cI cG q S) H) (hdg : decode cc pc = .ok (.getfield 26, 3)) (kk : W p l e R s m args below meth c H locs cells slots Q (F0 m (pc + 3) ls (.ref (q 8) :: rest))) : W p l e R s m args below meth c H locs cells slots Q (F0 m pc ls (.ref (q 1) :: rest)) :=
  va_get (D := D) (ci := 0) (v := .ref (q 8)) (C := RX0) (T := TX0) (N := 8) X.1 X.2.1 X.2.2.2.2.2.2.1 inX0 X.2.2.2.2.2.1 X.2.2.2.2.2.2.2.1 hP 1 wX_1 rfl 4 (by decide) (X.2.2.2.2.2.2.1 _ w_fl_X0_26) (fun _ h9 => h9) rfl hdg kk
theorem gf_X0_29 (X : Cx p s m args meth c cc nL ret RX0 D cI cG) (hP : va_P D vwCl (wX cI cG q S) H) (hdg : decode cc pc = .ok (.getfield 29, 3)) (kk : W p l e R s m args below meth c H locs cells slots Q (F0 m (pc + 3) ls (.ref (q 9) :: rest))) : W p l e R s m args below meth c H locs cells slots Q (F0 m pc ls (.ref (q 1) :: rest)) :=
  va_get (D := D) (ci := 0) (v := .ref (q 9)) (C := RX0) (T := TX0) (N := 8) X.1 X.2.1 X.2.2.2.2.2.2.1 inX0 X.2.2.2.2.2.1 X.2.2.2.2.2.2.2.1 hP 1 wX_1 rfl 5 (by decide) (X.2.2.2.2.2.2.1 _ w_fl_X0_29) (fun _ h9 => h9) rfl hdg kk
theorem gf_X0_32 (X : Cx p s m args meth c cc nL ret RX0 D cI cG) (hP : va_P D vwCl (wX cI cG q S) H) (hdg : decode cc pc = .ok (.getfield 32, 3)) (kk : W p l e R s m args below meth c H locs cells slots Q (F0 m (pc + 3) ls (.ref (q 10) :: rest))) : W p l e R s m args below meth c H locs cells slots Q (F0 m pc ls (.ref (q 1) :: rest)) :=
  va_get (D := D) (ci := 0) (v := .ref (q 10)) (C := RX0) (T := TX0) (N := 8) X.1 X.2.1 X.2.2.2.2.2.2.1 inX0 X.2.2.2.2.2.1 X.2.2.2.2.2.2.2.1 hP 1 wX_1 rfl 6 (by decide) (X.2.2.2.2.2.2.1 _ w_fl_X0_32) (fun _ h9 => h9) rfl hdg kk
theorem gf_X0_41 (X : Cx p s m args meth c cc nL ret RX0 D cI cG) (hP : va_P D vwCl (wX cI cG q S) H) (hdg : decode cc pc = .ok (.getfield 41, 3)) (kk : W p l e R s m args below meth c H locs cells slots Q (F0 m (pc + 3) ls (.int (S 1 0) :: rest))) : W p l e R s m args below meth c H locs cells slots Q (F0 m pc ls (.ref (q 1) :: rest)) :=
  va_get (D := D) (ci := 0) (v := .int (S 1 0)) (C := RX0) (T := TX0) (N := 8) X.1 X.2.1 X.2.2.2.2.2.2.1 inX0 X.2.2.2.2.2.1 X.2.2.2.2.2.2.2.1 hP 1 wX_1 rfl 7 (by decide) (X.2.2.2.2.2.2.1 _ w_fl_X0_41) (fun _ h9 => h9) rfl hdg kk
theorem gf_X0_49 (X : Cx p s m args meth c cc nL ret RX0 D cI cG) (hP : va_P D vwCl (wX cI cG q S) H) (hdg : decode cc pc = .ok (.getfield 49, 3)) (kk : W p l e R s m args below meth c H locs cells slots Q (F0 m (pc + 3) ls (.int (S 3 0) :: rest))) : W p l e R s m args below meth c H locs cells slots Q (F0 m pc ls (.ref (q 3) :: rest)) :=
  va_get (D := D) (ci := 2) (v := .int (S 3 0)) (C := RX2) (T := TX2) (N := 2) X.1 X.2.1 X.2.2.2.2.2.2.1 inX2 X.2.2.2.2.2.1 X.2.2.2.2.2.2.2.1 hP 3 wX_3 rfl 1 (by decide) (X.2.2.2.2.2.2.1 _ w_fl_X0_49) (fun _ h9 => h9) rfl hdg kk
theorem gf_X0_52 (X : Cx p s m args meth c cc nL ret RX0 D cI cG) (hP : va_P D vwCl (wX cI cG q S) H) (hdg : decode cc pc = .ok (.getfield 52, 3)) (kk : W p l e R s m args below meth c H locs cells slots Q (F0 m (pc + 3) ls (.ref (q 14) :: rest))) : W p l e R s m args below meth c H locs cells slots Q (F0 m pc ls (.ref (q 3) :: rest)) :=
  va_get (D := D) (ci := 2) (v := .ref (q 14)) (C := RX2) (T := TX2) (N := 2) X.1 X.2.1 X.2.2.2.2.2.2.1 inX2 X.2.2.2.2.2.1 X.2.2.2.2.2.2.2.1 hP 3 wX_3 rfl 0 (by decide) (X.2.2.2.2.2.2.1 _ w_fl_X0_52) (fun _ h9 => h9) rfl hdg kk
theorem gf_X1_9 (X : Cx p s m args meth c cc nL ret RX1 D cI cG) (hP : va_P D vwCl (wX cI cG q S) H) (hdg : decode cc pc = .ok (.getfield 9, 3)) (kk : W p l e R s m args below meth c H locs cells slots Q (F0 m (pc + 3) ls (.ref (q 11) :: rest))) : W p l e R s m args below meth c H locs cells slots Q (F0 m pc ls (.ref (q 2) :: rest)) :=
  va_get (D := D) (ci := 1) (v := .ref (q 11)) (C := RX1) (T := TX1) (N := 4) X.1 X.2.1 X.2.2.2.2.2.2.1 inX1 X.2.2.2.2.2.1 X.2.2.2.2.2.2.2.1 hP 2 wX_2 rfl 0 (by decide) (X.2.2.2.2.2.2.1 _ w_fl_X1_9) (fun _ h9 => h9) rfl hdg kk
theorem gf_X1_15 (X : Cx p s m args meth c cc nL ret RX1 D cI cG) (hP : va_P D vwCl (wX cI cG q S) H) (hdg : decode cc pc = .ok (.getfield 15, 3)) (kk : W p l e R s m args below meth c H locs cells slots Q (F0 m (pc + 3) ls (.ref (q 12) :: rest))) : W p l e R s m args below meth c H locs cells slots Q (F0 m pc ls (.ref (q 2) :: rest)) :=
  va_get (D := D) (ci := 1) (v := .ref (q 12)) (C := RX1) (T := TX1) (N := 4) X.1 X.2.1 X.2.2.2.2.2.2.1 inX1 X.2.2.2.2.2.1 X.2.2.2.2.2.2.2.1 hP 2 wX_2 rfl 1 (by decide) (X.2.2.2.2.2.2.1 _ w_fl_X1_15) (fun _ h9 => h9) rfl hdg kk
theorem gf_X1_18 (X : Cx p s m args meth c cc nL ret RX1 D cI cG) (hP : va_P D vwCl (wX cI cG q S) H) (hdg : decode cc pc = .ok (.getfield 18, 3)) (kk : W p l e R s m args below meth c H locs cells slots Q (F0 m (pc + 3) ls (.ref (q 13) :: rest))) : W p l e R s m args below meth c H locs cells slots Q (F0 m pc ls (.ref (q 2) :: rest)) :=
  va_get (D := D) (ci := 1) (v := .ref (q 13)) (C := RX1) (T := TX1) (N := 4) X.1 X.2.1 X.2.2.2.2.2.2.1 inX1 X.2.2.2.2.2.1 X.2.2.2.2.2.2.2.1 hP 2 wX_2 rfl 2 (by decide) (X.2.2.2.2.2.2.1 _ w_fl_X1_18) (fun _ h9 => h9) rfl hdg kk
theorem gf_X1_21 (X : Cx p s m args meth c cc nL ret RX1 D cI cG) (hP : va_P D vwCl (wX cI cG q S) H) (hdg : decode cc pc = .ok (.getfield 21, 3)) (kk : W p l e R s m args below meth c H locs cells slots Q (F0 m (pc + 3) ls (.int (S 2 0) :: rest))) : W p l e R s m args below meth c H locs cells slots Q (F0 m pc ls (.ref (q 2) :: rest)) :=
  va_get (D := D) (ci := 1) (v := .int (S 2 0)) (C := RX1) (T := TX1) (N := 4) X.1 X.2.1 X.2.2.2.2.2.2.1 inX1 X.2.2.2.2.2.1 X.2.2.2.2.2.2.2.1 hP 2 wX_2 rfl 3 (by decide) (X.2.2.2.2.2.2.1 _ w_fl_X1_21) (fun _ h9 => h9) rfl hdg kk
theorem gf_X2_9 (X : Cx p s m args meth c cc nL ret RX2 D cI cG) (hP : va_P D vwCl (wX cI cG q S) H) (hdg : decode cc pc = .ok (.getfield 9, 3)) (kk : W p l e R s m args below meth c H locs cells slots Q (F0 m (pc + 3) ls (.ref (q 14) :: rest))) : W p l e R s m args below meth c H locs cells slots Q (F0 m pc ls (.ref (q 3) :: rest)) :=
  va_get (D := D) (ci := 2) (v := .ref (q 14)) (C := RX2) (T := TX2) (N := 2) X.1 X.2.1 X.2.2.2.2.2.2.1 inX2 X.2.2.2.2.2.1 X.2.2.2.2.2.2.2.1 hP 3 wX_3 rfl 0 (by decide) (X.2.2.2.2.2.2.1 _ w_fl_X2_9) (fun _ h9 => h9) rfl hdg kk
theorem gf_X2_15 (X : Cx p s m args meth c cc nL ret RX2 D cI cG) (hP : va_P D vwCl (wX cI cG q S) H) (hdg : decode cc pc = .ok (.getfield 15, 3)) (kk : W p l e R s m args below meth c H locs cells slots Q (F0 m (pc + 3) ls (.int (S 3 0) :: rest))) : W p l e R s m args below meth c H locs cells slots Q (F0 m pc ls (.ref (q 3) :: rest)) :=
  va_get (D := D) (ci := 2) (v := .int (S 3 0)) (C := RX2) (T := TX2) (N := 2) X.1 X.2.1 X.2.2.2.2.2.2.1 inX2 X.2.2.2.2.2.1 X.2.2.2.2.2.2.2.1 hP 3 wX_3 rfl 1 (by decide) (X.2.2.2.2.2.2.1 _ w_fl_X2_15) (fun _ h9 => h9) rfl hdg kk
theorem gf_X4_7 (X : Cx p s m args meth c cc nL ret RX4 D cI cG) (hP : va_P D vwCl (wM cI cG q S) H) (hdg : decode cc pc = .ok (.getfield 7, 3)) (kk : W p l e R s m args below meth c H locs cells slots Q (F0 m (pc + 3) ls (.ref (q 1) :: rest))) : W p l e R s m args below meth c H locs cells slots Q (F0 m pc ls (.ref (q 0) :: rest)) :=
  va_get (D := D) (ci := 4) (v := .ref (q 1)) (C := RX4) (T := TX4) (N := 21) X.1 X.2.1 X.2.2.2.2.2.2.1 inX4 X.2.2.2.2.2.1 X.2.2.2.2.2.2.2.1 hP 0 wM_0 rfl 0 (by decide) (X.2.2.2.2.2.2.1 _ w_fl_X4_7) (fun _ h9 => h9) rfl hdg kk
theorem gf_X4_13 (X : Cx p s m args meth c cc nL ret RX4 D cI cG) (hP : va_P D vwCl (wM cI cG q S) H) (hdg : decode cc pc = .ok (.getfield 13, 3)) (kk : W p l e R s m args below meth c H locs cells slots Q (F0 m (pc + 3) ls (.ref (q 2) :: rest))) : W p l e R s m args below meth c H locs cells slots Q (F0 m pc ls (.ref (q 0) :: rest)) :=
  va_get (D := D) (ci := 4) (v := .ref (q 2)) (C := RX4) (T := TX4) (N := 21) X.1 X.2.1 X.2.2.2.2.2.2.1 inX4 X.2.2.2.2.2.1 X.2.2.2.2.2.2.2.1 hP 0 wM_0 rfl 1 (by decide) (X.2.2.2.2.2.2.1 _ w_fl_X4_13) (fun _ h9 => h9) rfl hdg kk
theorem gf_X4_16 (X : Cx p s m args meth c cc nL ret RX4 D cI cG) (hP : va_P D vwCl (wM cI cG q S) H) (hdg : decode cc pc = .ok (.getfield 16, 3)) (kk : W p l e R s m args below meth c H locs cells slots Q (F0 m (pc + 3) ls (.ref (q 3) :: rest))) : W p l e R s m args below meth c H locs cells slots Q (F0 m pc ls (.ref (q 0) :: rest)) :=
  va_get (D := D) (ci := 4) (v := .ref (q 3)) (C := RX4) (T := TX4) (N := 21) X.1 X.2.1 X.2.2.2.2.2.2.1 inX4 X.2.2.2.2.2.1 X.2.2.2.2.2.2.2.1 hP 0 wM_0 rfl 2 (by decide) (X.2.2.2.2.2.2.1 _ w_fl_X4_16) (fun _ h9 => h9) rfl hdg kk
theorem gf_X4_19 (X : Cx p s m args meth c cc nL ret RX4 D cI cG) (hP : va_P D vwCl (wM cI cG q S) H) (hdg : decode cc pc = .ok (.getfield 19, 3)) (kk : W p l e R s m args below meth c H locs cells slots Q (F0 m (pc + 3) ls (.ref (q 4) :: rest))) : W p l e R s m args below meth c H locs cells slots Q (F0 m pc ls (.ref (q 0) :: rest)) :=
  va_get (D := D) (ci := 4) (v := .ref (q 4)) (C := RX4) (T := TX4) (N := 21) X.1 X.2.1 X.2.2.2.2.2.2.1 inX4 X.2.2.2.2.2.1 X.2.2.2.2.2.2.2.1 hP 0 wM_0 rfl 3 (by decide) (X.2.2.2.2.2.2.1 _ w_fl_X4_19) (fun _ h9 => h9) rfl hdg kk
theorem gf_X4_22 (X : Cx p s m args meth c cc nL ret RX4 D cI cG) (hP : va_P D vwCl (wM cI cG q S) H) (hdg : decode cc pc = .ok (.getfield 22, 3)) (kk : W p l e R s m args below meth c H locs cells slots Q (F0 m (pc + 3) ls (.ref (q 5) :: rest))) : W p l e R s m args below meth c H locs cells slots Q (F0 m pc ls (.ref (q 0) :: rest)) :=
  va_get (D := D) (ci := 4) (v := .ref (q 5)) (C := RX4) (T := TX4) (N := 21) X.1 X.2.1 X.2.2.2.2.2.2.1 inX4 X.2.2.2.2.2.1 X.2.2.2.2.2.2.2.1 hP 0 wM_0 rfl 4 (by decide) (X.2.2.2.2.2.2.1 _ w_fl_X4_22) (fun _ h9 => h9) rfl hdg kk
theorem gf_X4_25 (X : Cx p s m args meth c cc nL ret RX4 D cI cG) (hP : va_P D vwCl (wM cI cG q S) H) (hdg : decode cc pc = .ok (.getfield 25, 3)) (kk : W p l e R s m args below meth c H locs cells slots Q (F0 m (pc + 3) ls (.ref (q 6) :: rest))) : W p l e R s m args below meth c H locs cells slots Q (F0 m pc ls (.ref (q 0) :: rest)) :=
  va_get (D := D) (ci := 4) (v := .ref (q 6)) (C := RX4) (T := TX4) (N := 21) X.1 X.2.1 X.2.2.2.2.2.2.1 inX4 X.2.2.2.2.2.1 X.2.2.2.2.2.2.2.1 hP 0 wM_0 rfl 5 (by decide) (X.2.2.2.2.2.2.1 _ w_fl_X4_25) (fun _ h9 => h9) rfl hdg kk
theorem gf_X4_28 (X : Cx p s m args meth c cc nL ret RX4 D cI cG) (hP : va_P D vwCl (wM cI cG q S) H) (hdg : decode cc pc = .ok (.getfield 28, 3)) (kk : W p l e R s m args below meth c H locs cells slots Q (F0 m (pc + 3) ls (.ref (q 7) :: rest))) : W p l e R s m args below meth c H locs cells slots Q (F0 m pc ls (.ref (q 0) :: rest)) :=
  va_get (D := D) (ci := 4) (v := .ref (q 7)) (C := RX4) (T := TX4) (N := 21) X.1 X.2.1 X.2.2.2.2.2.2.1 inX4 X.2.2.2.2.2.1 X.2.2.2.2.2.2.2.1 hP 0 wM_0 rfl 6 (by decide) (X.2.2.2.2.2.2.1 _ w_fl_X4_28) (fun _ h9 => h9) rfl hdg kk
theorem gf_X4_31 (X : Cx p s m args meth c cc nL ret RX4 D cI cG) (hP : va_P D vwCl (wM cI cG q S) H) (hdg : decode cc pc = .ok (.getfield 31, 3)) (kk : W p l e R s m args below meth c H locs cells slots Q (F0 m (pc + 3) ls (.ref (q 8) :: rest))) : W p l e R s m args below meth c H locs cells slots Q (F0 m pc ls (.ref (q 0) :: rest)) :=
  va_get (D := D) (ci := 4) (v := .ref (q 8)) (C := RX4) (T := TX4) (N := 21) X.1 X.2.1 X.2.2.2.2.2.2.1 inX4 X.2.2.2.2.2.1 X.2.2.2.2.2.2.2.1 hP 0 wM_0 rfl 9 (by decide) (X.2.2.2.2.2.2.1 _ w_fl_X4_31) (fun _ h9 => h9) rfl hdg kk
theorem gf_X4_34 (X : Cx p s m args meth c cc nL ret RX4 D cI cG) (hP : va_P D vwCl (wM cI cG q S) H) (hdg : decode cc pc = .ok (.getfield 34, 3)) (kk : W p l e R s m args below meth c H locs cells slots Q (F0 m (pc + 3) ls (.ref (q 9) :: rest))) : W p l e R s m args below meth c H locs cells slots Q (F0 m pc ls (.ref (q 0) :: rest)) :=
  va_get (D := D) (ci := 4) (v := .ref (q 9)) (C := RX4) (T := TX4) (N := 21) X.1 X.2.1 X.2.2.2.2.2.2.1 inX4 X.2.2.2.2.2.1 X.2.2.2.2.2.2.2.1 hP 0 wM_0 rfl 10 (by decide) (X.2.2.2.2.2.2.1 _ w_fl_X4_34) (fun _ h9 => h9) rfl hdg kk
theorem gf_X4_37 (X : Cx p s m args meth c cc nL ret RX4 D cI cG) (hP : va_P D vwCl (wM cI cG q S) H) (hdg : decode cc pc = .ok (.getfield 37, 3)) (kk : W p l e R s m args below meth c H locs cells slots Q (F0 m (pc + 3) ls (.ref (q 10) :: rest))) : W p l e R s m args below meth c H locs cells slots Q (F0 m pc ls (.ref (q 0) :: rest)) :=
  va_get (D := D) (ci := 4) (v := .ref (q 10)) (C := RX4) (T := TX4) (N := 21) X.1 X.2.1 X.2.2.2.2.2.2.1 inX4 X.2.2.2.2.2.1 X.2.2.2.2.2.2.2.1 hP 0 wM_0 rfl 13 (by decide) (X.2.2.2.2.2.2.1 _ w_fl_X4_37) (fun _ h9 => h9) rfl hdg kk
theorem gf_X4_40 (X : Cx p s m args meth c cc nL ret RX4 D cI cG) (hP : va_P D vwCl (wM cI cG q S) H) (hdg : decode cc pc = .ok (.getfield 40, 3)) (kk : W p l e R s m args below meth c H locs cells slots Q (F0 m (pc + 3) ls (.ref (q 11) :: rest))) : W p l e R s m args below meth c H locs cells slots Q (F0 m pc ls (.ref (q 0) :: rest)) :=
  va_get (D := D) (ci := 4) (v := .ref (q 11)) (C := RX4) (T := TX4) (N := 21) X.1 X.2.1 X.2.2.2.2.2.2.1 inX4 X.2.2.2.2.2.1 X.2.2.2.2.2.2.2.1 hP 0 wM_0 rfl 15 (by decide) (X.2.2.2.2.2.2.1 _ w_fl_X4_40) (fun _ h9 => h9) rfl hdg kk
theorem gf_X4_43 (X : Cx p s m args meth c cc nL ret RX4 D cI cG) (hP : va_P D vwCl (wM cI cG q S) H) (hdg : decode cc pc = .ok (.getfield 43, 3)) (kk : W p l e R s m args below meth c H locs cells slots Q (F0 m (pc + 3) ls (.ref (q 12) :: rest))) : W p l e R s m args below meth c H locs cells slots Q (F0 m pc ls (.ref (q 0) :: rest)) :=
  va_get (D := D) (ci := 4) (v := .ref (q 12)) (C := RX4) (T := TX4) (N := 21) X.1 X.2.1 X.2.2.2.2.2.2.1 inX4 X.2.2.2.2.2.1 X.2.2.2.2.2.2.2.1 hP 0 wM_0 rfl 16 (by decide) (X.2.2.2.2.2.2.1 _ w_fl_X4_43) (fun _ h9 => h9) rfl hdg kk
theorem gf_X4_46 (X : Cx p s m args meth c cc nL ret RX4 D cI cG) (hP : va_P D vwCl (wM cI cG q S) H) (hdg : decode cc pc = .ok (.getfield 46, 3)) (kk : W p l e R s m args below meth c H locs cells slots Q (F0 m (pc + 3) ls (.ref (q 13) :: rest))) : W p l e R s m args below meth c H locs cells slots Q (F0 m pc ls (.ref (q 0) :: rest)) :=
  va_get (D := D) (ci := 4) (v := .ref (q 13)) (C := RX4) (T := TX4) (N := 21) X.1 X.2.1 X.2.2.2.2.2.2.1 inX4 X.2.2.2.2.2.1 X.2.2.2.2.2.2.2.1 hP 0 wM_0 rfl 17 (by decide) (X.2.2.2.2.2.2.1 _ w_fl_X4_46) (fun _ h9 => h9) rfl hdg kk
theorem gf_X4_49 (X : Cx p s m args meth c cc nL ret RX4 D cI cG) (hP : va_P D vwCl (wM cI cG q S) H) (hdg : decode cc pc = .ok (.getfield 49, 3)) (kk : W p l e R s m args below meth c H locs cells slots Q (F0 m (pc + 3) ls (.int (S 0 3) :: rest))) : W p l e R s m args below meth c H locs cells slots Q (F0 m pc ls (.ref (q 0) :: rest)) :=
  va_get (D := D) (ci := 4) (v := .int (S 0 3)) (C := RX4) (T := TX4) (N := 21) X.1 X.2.1 X.2.2.2.2.2.2.1 inX4 X.2.2.2.2.2.1 X.2.2.2.2.2.2.2.1 hP 0 wM_0 rfl 12 (by decide) (X.2.2.2.2.2.2.1 _ w_fl_X4_49) (fun _ h9 => h9) rfl hdg kk
theorem gf_X4_61 (X : Cx p s m args meth c cc nL ret RX4 D cI cG) (hP : va_P D vwCl (wM cI cG q S) H) (hdg : decode cc pc = .ok (.getfield 61, 3)) (kk : W p l e R s m args below meth c H locs cells slots Q (F0 m (pc + 3) ls (.int (S 0 1) :: rest))) : W p l e R s m args below meth c H locs cells slots Q (F0 m pc ls (.ref (q 0) :: rest)) :=
  va_get (D := D) (ci := 4) (v := .int (S 0 1)) (C := RX4) (T := TX4) (N := 21) X.1 X.2.1 X.2.2.2.2.2.2.1 inX4 X.2.2.2.2.2.1 X.2.2.2.2.2.2.2.1 hP 0 wM_0 rfl 8 (by decide) (X.2.2.2.2.2.2.1 _ w_fl_X4_61) (fun _ h9 => h9) rfl hdg kk
theorem gf_X4_78 (X : Cx p s m args meth c cc nL ret RX4 D cI cG) (hP : va_P D vwCl (wM cI cG q S) H) (hdg : decode cc pc = .ok (.getfield 78, 3)) (kk : W p l e R s m args below meth c H locs cells slots Q (F0 m (pc + 3) ls (.int (S 0 0) :: rest))) : W p l e R s m args below meth c H locs cells slots Q (F0 m pc ls (.ref (q 0) :: rest)) :=
  va_get (D := D) (ci := 4) (v := .int (S 0 0)) (C := RX4) (T := TX4) (N := 21) X.1 X.2.1 X.2.2.2.2.2.2.1 inX4 X.2.2.2.2.2.1 X.2.2.2.2.2.2.2.1 hP 0 wM_0 rfl 7 (by decide) (X.2.2.2.2.2.2.1 _ w_fl_X4_78) (fun _ h9 => h9) rfl hdg kk
theorem gf_X4_83 (X : Cx p s m args meth c cc nL ret RX4 D cI cG) (hP : va_P D vwCl (wM cI cG q S) H) (hdg : decode cc pc = .ok (.getfield 83, 3)) (kk : W p l e R s m args below meth c H locs cells slots Q (F0 m (pc + 3) ls (.int (S 0 2) :: rest))) : W p l e R s m args below meth c H locs cells slots Q (F0 m pc ls (.ref (q 0) :: rest)) :=
  va_get (D := D) (ci := 4) (v := .int (S 0 2)) (C := RX4) (T := TX4) (N := 21) X.1 X.2.1 X.2.2.2.2.2.2.1 inX4 X.2.2.2.2.2.1 X.2.2.2.2.2.2.2.1 hP 0 wM_0 rfl 11 (by decide) (X.2.2.2.2.2.2.1 _ w_fl_X4_83) (fun _ h9 => h9) rfl hdg kk
theorem gf_X4_90 (X : Cx p s m args meth c cc nL ret RX4 D cI cG) (hP : va_P D vwCl (wM cI cG q S) H) (hdg : decode cc pc = .ok (.getfield 90, 3)) (kk : W p l e R s m args below meth c H locs cells slots Q (F0 m (pc + 3) ls (.int (S 0 4) :: rest))) : W p l e R s m args below meth c H locs cells slots Q (F0 m pc ls (.ref (q 0) :: rest)) :=
  va_get (D := D) (ci := 4) (v := .int (S 0 4)) (C := RX4) (T := TX4) (N := 21) X.1 X.2.1 X.2.2.2.2.2.2.1 inX4 X.2.2.2.2.2.1 X.2.2.2.2.2.2.2.1 hP 0 wM_0 rfl 14 (by decide) (X.2.2.2.2.2.2.1 _ w_fl_X4_90) (fun _ h9 => h9) rfl hdg kk
theorem gf_X4_101 (X : Cx p s m args meth c cc nL ret RX4 D cI cG) (hP : va_P D vwCl (wM cI cG q S) H) (hdg : decode cc pc = .ok (.getfield 101, 3)) (kk : W p l e R s m args below meth c H locs cells slots Q (F0 m (pc + 3) ls (.int (S 0 5) :: rest))) : W p l e R s m args below meth c H locs cells slots Q (F0 m pc ls (.ref (q 0) :: rest)) :=
  va_get (D := D) (ci := 4) (v := .int (S 0 5)) (C := RX4) (T := TX4) (N := 21) X.1 X.2.1 X.2.2.2.2.2.2.1 inX4 X.2.2.2.2.2.1 X.2.2.2.2.2.2.2.1 hP 0 wM_0 rfl 18 (by decide) (X.2.2.2.2.2.2.1 _ w_fl_X4_101) (fun _ h9 => h9) rfl hdg kk
theorem gf_X4_104 (X : Cx p s m args meth c cc nL ret RX4 D cI cG) (hP : va_P D vwCl (wM cI cG q S) H) (hdg : decode cc pc = .ok (.getfield 104, 3)) (kk : W p l e R s m args below meth c H locs cells slots Q (F0 m (pc + 3) ls (.int (S 0 6) :: rest))) : W p l e R s m args below meth c H locs cells slots Q (F0 m pc ls (.ref (q 0) :: rest)) :=
  va_get (D := D) (ci := 4) (v := .int (S 0 6)) (C := RX4) (T := TX4) (N := 21) X.1 X.2.1 X.2.2.2.2.2.2.1 inX4 X.2.2.2.2.2.1 X.2.2.2.2.2.2.2.1 hP 0 wM_0 rfl 19 (by decide) (X.2.2.2.2.2.2.1 _ w_fl_X4_104) (fun _ h9 => h9) rfl hdg kk
theorem gf_X4_115 (X : Cx p s m args meth c cc nL ret RX4 D cI cG) (hP : va_P D vwCl (wM cI cG q S) H) (hdg : decode cc pc = .ok (.getfield 115, 3)) (kk : W p l e R s m args below meth c H locs cells slots Q (F0 m (pc + 3) ls (.int (S 0 7) :: rest))) : W p l e R s m args below meth c H locs cells slots Q (F0 m pc ls (.ref (q 0) :: rest)) :=
  va_get (D := D) (ci := 4) (v := .int (S 0 7)) (C := RX4) (T := TX4) (N := 21) X.1 X.2.1 X.2.2.2.2.2.2.1 inX4 X.2.2.2.2.2.1 X.2.2.2.2.2.2.2.1 hP 0 wM_0 rfl 20 (by decide) (X.2.2.2.2.2.2.1 _ w_fl_X4_115) (fun _ h9 => h9) rfl hdg kk
end GF
theorem lk_X3_37 : LinkS RX3 37 yX3_isWho prog_1_method_28_code 1 (some .boolean) 1 := LinkS.of w_ml_X3_37 w_sta_X3_isWho w_ini_X3 w_co_X3_isWho (by decide +kernel)
theorem lk_X3_41 : LinkS RX3 41 yX3_isDay prog_1_method_27_code 1 (some .boolean) 1 := LinkS.of w_ml_X3_41 w_sta_X3_isDay w_ini_X3 w_co_X3_isDay (by decide +kernel)
theorem lk_X3_44 : LinkS RX3 44 yX3_within prog_1_method_26_code 3 (some .boolean) 3 := LinkS.of w_ml_X3_44 w_sta_X3_within w_ini_X3 w_co_X3_within (by decide +kernel)
theorem lk_X3_51 : LinkV RX3 51 RX0 yX0_add prog_2_method_2_code 5 (some .int) 4 := LinkV.of w_ml_X3_51 w_im_X0_add w_se_X0_add w_ini_X0 w_co_X0_add (by decide +kernel)
theorem lk_X3_55 : LinkV RX3 55 RX0 yX0_has prog_2_method_3_code 2 (some .boolean) 1 := LinkV.of w_ml_X3_55 w_im_X0_has w_se_X0_has w_ini_X0 w_co_X0_has (by decide +kernel)
theorem lk_X3_70 : LinkV RX3 70 RX2 yX2_add prog_4_method_2_code 2 (some .int) 1 := LinkV.of w_ml_X3_70 w_im_X2_add w_se_X2_add w_ini_X2 w_co_X2_add (by decide +kernel)
theorem lk_X3_73 : LinkV RX3 73 RX2 yX2_clear prog_4_method_3_code 2 (some .int) 0 := LinkV.of w_ml_X3_73 w_im_X2_clear w_se_X2_clear w_ini_X2 w_co_X2_clear (by decide +kernel)
theorem lk_X3_77 : LinkV RX3 77 RX2 yX2_faultPlace prog_4_method_4_code 2 (some .int) 0 := LinkV.of w_ml_X3_77 w_im_X2_faultPlace w_se_X2_faultPlace w_ini_X2 w_co_X2_faultPlace (by decide +kernel)
theorem lk_X3_80 : LinkV RX3 80 RX0 yX0_takeText prog_2_method_6_code 7 none 2 := LinkV.of w_ml_X3_80 w_im_X0_takeText w_se_X0_takeText w_ini_X0 w_co_X0_takeText (by decide +kernel)
theorem lk_X3_88 : LinkV RX3 88 RX1 yX1_add prog_3_method_2_code 4 (some .int) 3 := LinkV.of w_ml_X3_88 w_im_X1_add w_se_X1_add w_ini_X1 w_co_X1_add (by decide +kernel)
theorem lk_X3_91 : LinkV RX3 91 RX1 yX1_isCounted prog_3_method_3_code 3 (some .boolean) 2 := LinkV.of w_ml_X3_91 w_im_X1_isCounted w_se_X1_isCounted w_ini_X1 w_co_X1_isCounted (by decide +kernel)
theorem lk_X3_95 : LinkV RX3 95 RX3 yX3_soundOn prog_1_method_31_code 2 (some .int) 1 := LinkV.of w_ml_X3_95 w_im_X3_soundOn w_se_X3_soundOn w_ini_X3 w_co_X3_soundOn (by decide +kernel)
theorem lk_X3_98 : LinkV RX3 98 RX3 yX3_exempt prog_1_method_32_code 1 (some .int) 0 := LinkV.of w_ml_X3_98 w_im_X3_exempt w_se_X3_exempt w_ini_X3 w_co_X3_exempt (by decide +kernel)
theorem lk_X3_101 : LinkV RX3 101 RX0 yX0_most prog_2_method_21_code 6 (some .int) 2 := LinkV.of w_ml_X3_101 w_im_X0_most w_se_X0_most w_ini_X0 w_co_X0_most (by decide +kernel)
theorem lk_X3_105 : LinkV RX3 105 RX0 yX0_least prog_2_method_22_code 6 (some .int) 2 := LinkV.of w_ml_X3_105 w_im_X0_least w_se_X0_least w_ini_X0 w_co_X0_least (by decide +kernel)
theorem lk_X3_108 : LinkV RX3 108 RX0 yX0_isDone prog_2_method_10_code 3 (some .boolean) 2 := LinkV.of w_ml_X3_108 w_im_X0_isDone w_se_X0_isDone w_ini_X0 w_co_X0_isDone (by decide +kernel)
theorem lk_X3_112 : LinkV RX3 112 RX0 yX0_isNought prog_2_method_13_code 3 (some .boolean) 2 := LinkV.of w_ml_X3_112 w_im_X0_isNought w_se_X0_isNought w_ini_X0 w_co_X0_isNought (by decide +kernel)
theorem lk_X3_115 : LinkS RX3 115 yX3_contains prog_1_method_29_code 2 (some .boolean) 2 := LinkS.of w_ml_X3_115 w_sta_X3_contains w_ini_X3 w_co_X3_contains (by decide +kernel)
theorem lk_X3_118 : LinkV RX3 118 RX0 yX0_named prog_2_method_7_code 4 (some .int) 1 := LinkV.of w_ml_X3_118 w_im_X0_named w_se_X0_named w_ini_X0 w_co_X0_named (by decide +kernel)
theorem lk_X3_121 : LinkV RX3 121 RX0 yX0_namedByAny prog_2_method_8_code 4 (some .int) 1 := LinkV.of w_ml_X3_121 w_im_X0_namedByAny w_se_X0_namedByAny w_ini_X0 w_co_X0_namedByAny (by decide +kernel)
theorem lk_X3_124 : LinkV RX3 124 RX0 yX0_wouldCount prog_2_method_15_code 4 (some .boolean) 3 := LinkV.of w_ml_X3_124 w_im_X0_wouldCount w_se_X0_wouldCount w_ini_X0 w_co_X0_wouldCount (by decide +kernel)
theorem lk_X3_127 : LinkV RX3 127 RX3 yX3_fallen prog_1_method_34_code 5 (some .int) 2 := LinkV.of w_ml_X3_127 w_im_X3_fallen w_se_X3_fallen w_ini_X3 w_co_X3_fallen (by decide +kernel)
theorem lk_X3_130 : LinkV RX3 130 RX3 yX3_stepCount prog_1_method_35_code 4 (some .int) 2 := LinkV.of w_ml_X3_130 w_im_X3_stepCount w_se_X3_stepCount w_ini_X3 w_co_X3_stepCount (by decide +kernel)
theorem lk_X3_133 : LinkV RX3 133 RX3 yX3_stepAt prog_1_method_36_code 8 (some .int) 3 := LinkV.of w_ml_X3_133 w_im_X3_stepAt w_se_X3_stepAt w_ini_X3 w_co_X3_stepAt (by decide +kernel)
theorem lk_X3_139 : LinkV RX3 139 RX0 yX0_gain prog_2_method_24_code 8 (some .int) 4 := LinkV.of w_ml_X3_139 w_im_X0_gain w_se_X0_gain w_ini_X0 w_co_X0_gain (by decide +kernel)
theorem lk_X3_142 : LinkV RX3 142 RX3 yX3_wiseWho prog_1_method_37_code 6 (some .int) 3 := LinkV.of w_ml_X3_142 w_im_X3_wiseWho w_se_X3_wiseWho w_ini_X3 w_co_X3_wiseWho (by decide +kernel)
theorem lk_X3_145 : LinkV RX3 145 RX3 yX3_firstWiseAct prog_1_method_38_code 4 (some .int) 2 := LinkV.of w_ml_X3_145 w_im_X3_firstWiseAct w_se_X3_firstWiseAct w_ini_X3 w_co_X3_firstWiseAct (by decide +kernel)
theorem lk_X3_148 : LinkS RX3 148 yX3_without prog_1_method_30_code 2 (some .int) 2 := LinkS.of w_ml_X3_148 w_sta_X3_without w_ini_X3 w_co_X3_without (by decide +kernel)
theorem lk_X3_151 : LinkV RX3 151 RX0 yX0_hasAll prog_2_method_4_code 2 (some .boolean) 1 := LinkV.of w_ml_X3_151 w_im_X0_hasAll w_se_X0_hasAll w_ini_X0 w_co_X0_hasAll (by decide +kernel)
theorem lk_X3_154 : LinkV RX3 154 RX3 yX3_fewestHealed prog_1_method_39_code 13 (some .int) 2 := LinkV.of w_ml_X3_154 w_im_X3_fewestHealed w_se_X3_fewestHealed w_ini_X3 w_co_X3_fewestHealed (by decide +kernel)
theorem lk_X3_157 : LinkS RX3 157 yJ6_bitCount_0f7a4 prog_7_method_49_code 1 (some .int) 1 := LinkS.of w_ml_X3_157 w_sta_J6_bitCount_0f7a4 w_ini_J6 w_co_J6_bitCount_0f7a4 (by decide +kernel)
theorem lk_X3_162 : LinkV RX3 162 RX0 yX0_goodOnes prog_2_method_9_code 3 (some .int) 0 := LinkV.of w_ml_X3_162 w_im_X0_goodOnes w_se_X0_goodOnes w_ini_X0 w_co_X0_goodOnes (by decide +kernel)
theorem lk_X3_165 : LinkS RX3 165 yX3_exemptBy prog_1_method_33_code 2 (some .int) 2 := LinkS.of w_ml_X3_165 w_sta_X3_exemptBy w_ini_X3 w_co_X3_exemptBy (by decide +kernel)
theorem lk_X3_171 : LinkV RX3 171 RX0 yX0_askableOn prog_2_method_18_code 4 (some .int) 1 := LinkV.of w_ml_X3_171 w_im_X0_askableOn w_se_X0_askableOn w_ini_X0 w_co_X0_askableOn (by decide +kernel)
theorem lk_X3_174 : LinkV RX3 174 RX3 yX3_withstands prog_1_method_42_code 7 (some .boolean) 3 := LinkV.of w_ml_X3_174 w_im_X3_withstands w_se_X3_withstands w_ini_X3 w_co_X3_withstands (by decide +kernel)
theorem lk_X3_177 : LinkV RX3 177 RX0 yX0_unhurtOn prog_2_method_14_code 4 (some .int) 1 := LinkV.of w_ml_X3_177 w_im_X0_unhurtOn w_se_X0_unhurtOn w_ini_X0 w_co_X0_unhurtOn (by decide +kernel)
theorem lk_X3_180 : LinkV RX3 180 RX1 yX1_struckBy prog_3_method_4_code 5 (some .int) 2 := LinkV.of w_ml_X3_180 w_im_X1_struckBy w_se_X1_struckBy w_ini_X1 w_co_X1_struckBy (by decide +kernel)
theorem lk_X3_184 : LinkV RX3 184 RX0 yX0_unheld prog_2_method_20_code 6 (some .int) 2 := LinkV.of w_ml_X3_184 w_im_X0_unheld w_se_X0_unheld w_ini_X0 w_co_X0_unheld (by decide +kernel)
theorem lk_X3_187 : LinkV RX3 187 RX0 yX0_doneBy prog_2_method_11_code 4 (some .int) 1 := LinkV.of w_ml_X3_187 w_im_X0_doneBy w_se_X0_doneBy w_ini_X0 w_co_X0_doneBy (by decide +kernel)
theorem lk_X3_190 : LinkV RX3 190 RX3 yX3_indispensable prog_1_method_41_code 7 (some .int) 4 := LinkV.of w_ml_X3_190 w_im_X3_indispensable w_se_X3_indispensable w_ini_X3 w_co_X3_indispensable (by decide +kernel)
theorem lk_X3_193 : LinkV RX3 193 RX3 yX3_allStand prog_1_method_40_code 4 (some .boolean) 3 := LinkV.of w_ml_X3_193 w_im_X3_allStand w_se_X3_allStand w_ini_X3 w_co_X3_allStand (by decide +kernel)
theorem lk_X0_35 : LinkS RX0 35 yJ7_fill_53178 prog_9_method_103_code 4 none 2 := LinkS.of w_ml_X0_35 w_sta_J7_fill_53178 w_ini_J7 w_co_J7_fill_53178 (by decide +kernel)
theorem lk_X0_45 : LinkV RX0 45 RX0 yX0_everyOne prog_2_method_5_code 1 (some .int) 0 := LinkV.of w_ml_X0_45 w_im_X0_everyOne w_se_X0_everyOne w_ini_X0 w_co_X0_everyOne (by decide +kernel)
theorem lk_X0_55 : LinkS RX0 55 yJ9_min_7cf53 prog_8_method_69_code 2 (some .int) 2 := LinkS.of w_ml_X0_55 w_sta_J9_min_7cf53 w_ini_J9 w_co_J9_min_7cf53 (by decide +kernel)
theorem lk_X0_65 : LinkV RX0 65 RX0 yX0_named prog_2_method_7_code 4 (some .int) 1 := LinkV.of w_ml_X0_65 w_im_X0_named w_se_X0_named w_ini_X0 w_co_X0_named (by decide +kernel)
theorem lk_X0_69 : LinkV RX0 69 RX0 yX0_isDone prog_2_method_10_code 3 (some .boolean) 2 := LinkV.of w_ml_X0_69 w_im_X0_isDone w_se_X0_isDone w_ini_X0 w_co_X0_isDone (by decide +kernel)
theorem lk_X0_72 : LinkV RX0 72 RX0 yX0_isHealed prog_2_method_12_code 4 (some .boolean) 2 := LinkV.of w_ml_X0_72 w_im_X0_isHealed w_se_X0_isHealed w_ini_X0 w_co_X0_isHealed (by decide +kernel)
theorem lk_X0_75 : LinkV RX0 75 RX0 yX0_isNought prog_2_method_13_code 3 (some .boolean) 2 := LinkV.of w_ml_X0_75 w_im_X0_isNought w_se_X0_isNought w_ini_X0 w_co_X0_isNought (by decide +kernel)
theorem lk_X0_78 : LinkV RX0 78 RX0 yX0_lets prog_2_method_16_code 4 (some .boolean) 2 := LinkV.of w_ml_X0_78 w_im_X0_lets w_se_X0_lets w_ini_X0 w_co_X0_lets (by decide +kernel)
theorem lk_X0_81 : LinkV RX0 81 RX0 yX0_isInTime prog_2_method_17_code 3 (some .boolean) 2 := LinkV.of w_ml_X0_81 w_im_X0_isInTime w_se_X0_isInTime w_ini_X0 w_co_X0_isInTime (by decide +kernel)
theorem lk_X0_84 : LinkV RX0 84 RX0 yX0_wouldCount prog_2_method_15_code 4 (some .boolean) 3 := LinkV.of w_ml_X0_84 w_im_X0_wouldCount w_se_X0_wouldCount w_ini_X0 w_co_X0_wouldCount (by decide +kernel)
theorem lk_X0_88 : LinkV RX0 88 RX0 yX0_isHeldUp prog_2_method_19_code 5 (some .boolean) 2 := LinkV.of w_ml_X0_88 w_im_X0_isHeldUp w_se_X0_isHeldUp w_ini_X0 w_co_X0_isHeldUp (by decide +kernel)
theorem lk_X0_91 : LinkV RX0 91 RX0 yX0_unheld prog_2_method_20_code 6 (some .int) 2 := LinkV.of w_ml_X0_91 w_im_X0_unheld w_se_X0_unheld w_ini_X0 w_co_X0_unheld (by decide +kernel)
theorem lk_X0_94 : LinkV RX0 94 RX0 yX0_heldUpOf prog_2_method_23_code 5 (some .int) 2 := LinkV.of w_ml_X0_94 w_im_X0_heldUpOf w_se_X0_heldUpOf w_ini_X0 w_co_X0_heldUpOf (by decide +kernel)
theorem lk_X1_25 : LinkV RX1 25 RX0 yX0_wouldCount prog_2_method_15_code 4 (some .boolean) 3 := LinkV.of w_ml_X1_25 w_im_X0_wouldCount w_se_X0_wouldCount w_ini_X0 w_co_X0_wouldCount (by decide +kernel)
theorem lk_X1_31 : LinkV RX1 31 RX1 yX1_isCounted prog_3_method_3_code 3 (some .boolean) 2 := LinkV.of w_ml_X1_31 w_im_X1_isCounted w_se_X1_isCounted w_ini_X1 w_co_X1_isCounted (by decide +kernel)
theorem lk_X2_19 : LinkS RX2 19 yX2_canStand prog_4_method_6_code 2 (some .boolean) 2 := LinkS.of w_ml_X2_19 w_sta_X2_canStand w_ini_X2 w_co_X2_canStand (by decide +kernel)
theorem lk_X2_23 : LinkS RX2 23 yX2_isForLetter prog_4_method_5_code 1 (some .boolean) 1 := LinkS.of w_ml_X2_23 w_sta_X2_isForLetter w_ini_X2 w_co_X2_isForLetter (by decide +kernel)
theorem lk_L_13 : LinkV RL 13 RX3 yX3_act prog_1_method_2_code 5 (some .int) 4 := LinkV.of w_ml_L_13 w_im_X3_act w_se_X3_act w_ini_X3 w_co_X3_act (by decide +kernel)
theorem lk_L_17 : LinkV RL 17 RX4 yX4_act prog_6_method_8_code 5 (some .int) 4 := LinkV.of w_ml_L_17 w_im_X4_act w_se_X4_act w_ini_X4 w_co_X4_act (by decide +kernel)
theorem lk_L_18 : LinkV RL 18 RX3 yX3_set prog_1_method_3_code 5 (some .int) 3 := LinkV.of w_ml_L_18 w_im_X3_set w_se_X3_set w_ini_X3 w_co_X3_set (by decide +kernel)
theorem lk_L_22 : LinkV RL 22 RX4 yX4_set prog_6_method_9_code 5 (some .int) 3 := LinkV.of w_ml_L_22 w_im_X4_set w_se_X4_set w_ini_X4 w_co_X4_set (by decide +kernel)
theorem lk_L_23 : LinkV RL 23 RX3 yX3_law prog_1_method_4_code 4 (some .int) 2 := LinkV.of w_ml_L_23 w_im_X3_law w_se_X3_law w_ini_X3 w_co_X3_law (by decide +kernel)
theorem lk_L_27 : LinkV RL 27 RX4 yX4_law prog_6_method_10_code 4 (some .int) 2 := LinkV.of w_ml_L_27 w_im_X4_law w_se_X4_law w_ini_X4 w_co_X4_law (by decide +kernel)
theorem lk_L_28 : LinkV RL 28 RX3 yX3_say prog_1_method_5_code 2 (some .int) 1 := LinkV.of w_ml_L_28 w_im_X3_say w_se_X3_say w_ini_X3 w_co_X3_say (by decide +kernel)
theorem lk_L_32 : LinkV RL 32 RX4 yX4_say prog_6_method_11_code 2 (some .int) 1 := LinkV.of w_ml_L_32 w_im_X4_say w_se_X4_say w_ini_X4 w_co_X4_say (by decide +kernel)
theorem lk_L_33 : LinkV RL 33 RX3 yX3_wipe prog_1_method_6_code 1 (some .int) 0 := LinkV.of w_ml_L_33 w_im_X3_wipe w_se_X3_wipe w_ini_X3 w_co_X3_wipe (by decide +kernel)
theorem lk_L_37 : LinkV RL 37 RX4 yX4_wipe prog_6_method_12_code 2 (some .int) 0 := LinkV.of w_ml_L_37 w_im_X4_wipe w_se_X4_wipe w_ini_X4 w_co_X4_wipe (by decide +kernel)
theorem lk_L_38 : LinkV RL 38 RX3 yX3_fault prog_1_method_7_code 1 (some .int) 0 := LinkV.of w_ml_L_38 w_im_X3_fault w_se_X3_fault w_ini_X3 w_co_X3_fault (by decide +kernel)
theorem lk_L_41 : LinkV RL 41 RX4 yX4_fault prog_6_method_13_code 4 (some .int) 0 := LinkV.of w_ml_L_41 w_im_X4_fault w_se_X4_fault w_ini_X4 w_co_X4_fault (by decide +kernel)
theorem lk_L_42 : LinkV RL 42 RX3 yX3_leans prog_1_method_8_code 2 (some .int) 1 := LinkV.of w_ml_L_42 w_im_X3_leans w_se_X3_leans w_ini_X3 w_co_X3_leans (by decide +kernel)
theorem lk_L_45 : LinkV RL 45 RX4 yX4_leans prog_6_method_14_code 5 (some .int) 1 := LinkV.of w_ml_L_45 w_im_X4_leans w_se_X4_leans w_ini_X4 w_co_X4_leans (by decide +kernel)
theorem lk_L_46 : LinkV RL 46 RX3 yX3_free prog_1_method_9_code 3 (some .int) 1 := LinkV.of w_ml_L_46 w_im_X3_free w_se_X3_free w_ini_X3 w_co_X3_free (by decide +kernel)
theorem lk_L_49 : LinkV RL 49 RX4 yX4_free prog_6_method_15_code 3 (some .int) 1 := LinkV.of w_ml_L_49 w_im_X4_free w_se_X4_free w_ini_X4 w_co_X4_free (by decide +kernel)
theorem lk_L_50 : LinkV RL 50 RX3 yX3_ask prog_1_method_10_code 4 (some .int) 3 := LinkV.of w_ml_L_50 w_im_X3_ask w_se_X3_ask w_ini_X3 w_co_X3_ask (by decide +kernel)
theorem lk_L_53 : LinkV RL 53 RX4 yX4_ask prog_6_method_17_code 4 (some .int) 3 := LinkV.of w_ml_L_53 w_im_X4_ask w_se_X4_ask w_ini_X4 w_co_X4_ask (by decide +kernel)
theorem lk_L_54 : LinkV RL 54 RX3 yX3_counts prog_1_method_11_code 2 (some .int) 1 := LinkV.of w_ml_L_54 w_im_X3_counts w_se_X3_counts w_ini_X3 w_co_X3_counts (by decide +kernel)
theorem lk_L_57 : LinkV RL 57 RX4 yX4_counts prog_6_method_20_code 2 (some .int) 1 := LinkV.of w_ml_L_57 w_im_X4_counts w_se_X4_counts w_ini_X4 w_co_X4_counts (by decide +kernel)
theorem lk_L_58 : LinkV RL 58 RX3 yX3_drop prog_1_method_12_code 1 (some .int) 0 := LinkV.of w_ml_L_58 w_im_X3_drop w_se_X3_drop w_ini_X3 w_co_X3_drop (by decide +kernel)
theorem lk_L_61 : LinkV RL 61 RX4 yX4_drop prog_6_method_21_code 1 (some .int) 0 := LinkV.of w_ml_L_61 w_im_X4_drop w_se_X4_drop w_ini_X4 w_co_X4_drop (by decide +kernel)
theorem lk_L_62 : LinkV RL 62 RX3 yX3_all prog_1_method_13_code 4 (some .int) 2 := LinkV.of w_ml_L_62 w_im_X3_all w_se_X3_all w_ini_X3 w_co_X3_all (by decide +kernel)
theorem lk_L_65 : LinkV RL 65 RX4 yX4_all prog_6_method_29_code 4 (some .int) 2 := LinkV.of w_ml_L_65 w_im_X4_all w_se_X4_all w_ini_X4 w_co_X4_all (by decide +kernel)
theorem lk_L_66 : LinkV RL 66 RX3 yX3_why prog_1_method_14_code 4 (some .int) 2 := LinkV.of w_ml_L_66 w_im_X3_why w_se_X3_why w_ini_X3 w_co_X3_why (by decide +kernel)
theorem lk_L_69 : LinkV RL 69 RX4 yX4_why prog_6_method_30_code 3 (some .int) 2 := LinkV.of w_ml_L_69 w_im_X4_why w_se_X4_why w_ini_X4 w_co_X4_why (by decide +kernel)
theorem lk_L_70 : LinkV RL 70 RX3 yX3_under prog_1_method_15_code 5 (some .int) 1 := LinkV.of w_ml_L_70 w_im_X3_under w_se_X3_under w_ini_X3 w_co_X3_under (by decide +kernel)
theorem lk_L_73 : LinkV RL 73 RX4 yX4_under prog_6_method_32_code 5 (some .int) 1 := LinkV.of w_ml_L_73 w_im_X4_under w_se_X4_under w_ini_X4 w_co_X4_under (by decide +kernel)
theorem lk_L_74 : LinkV RL 74 RX3 yX3_fall prog_1_method_16_code 6 (some .int) 4 := LinkV.of w_ml_L_74 w_im_X3_fall w_se_X3_fall w_ini_X3 w_co_X3_fall (by decide +kernel)
theorem lk_L_77 : LinkV RL 77 RX4 yX4_fall prog_6_method_34_code 8 (some .int) 4 := LinkV.of w_ml_L_77 w_im_X4_fall w_se_X4_fall w_ini_X4 w_co_X4_fall (by decide +kernel)
theorem lk_L_78 : LinkV RL 78 RX3 yX3_back prog_1_method_17_code 5 (some .int) 4 := LinkV.of w_ml_L_78 w_im_X3_back w_se_X3_back w_ini_X3 w_co_X3_back (by decide +kernel)
theorem lk_L_81 : LinkV RL 81 RX4 yX4_back prog_6_method_36_code 5 (some .int) 4 := LinkV.of w_ml_L_81 w_im_X4_back w_se_X4_back w_ini_X4 w_co_X4_back (by decide +kernel)
theorem lk_L_82 : LinkV RL 82 RX3 yX3_wise prog_1_method_18_code 3 (some .int) 2 := LinkV.of w_ml_L_82 w_im_X3_wise w_se_X3_wise w_ini_X3 w_co_X3_wise (by decide +kernel)
theorem lk_L_85 : LinkV RL 85 RX4 yX4_wise prog_6_method_38_code 3 (some .int) 2 := LinkV.of w_ml_L_85 w_im_X4_wise w_se_X4_wise w_ini_X4 w_co_X4_wise (by decide +kernel)
theorem lk_L_86 : LinkV RL 86 RX3 yX3_rest prog_1_method_19_code 6 (some .int) 2 := LinkV.of w_ml_L_86 w_im_X3_rest w_se_X3_rest w_ini_X3 w_co_X3_rest (by decide +kernel)
theorem lk_L_89 : LinkV RL 89 RX4 yX4_rest prog_6_method_39_code 6 (some .int) 2 := LinkV.of w_ml_L_89 w_im_X4_rest w_se_X4_rest w_ini_X4 w_co_X4_rest (by decide +kernel)
theorem lk_L_90 : LinkV RL 90 RX3 yX3_heal prog_1_method_20_code 5 (some .int) 3 := LinkV.of w_ml_L_90 w_im_X3_heal w_se_X3_heal w_ini_X3 w_co_X3_heal (by decide +kernel)
theorem lk_L_93 : LinkV RL 93 RX4 yX4_heal prog_6_method_41_code 8 (some .int) 3 := LinkV.of w_ml_L_93 w_im_X4_heal w_se_X4_heal w_ini_X4 w_co_X4_heal (by decide +kernel)
theorem lk_L_94 : LinkV RL 94 RX3 yX3_pillar prog_1_method_21_code 9 (some .int) 2 := LinkV.of w_ml_L_94 w_im_X3_pillar w_se_X3_pillar w_ini_X3 w_co_X3_pillar (by decide +kernel)
theorem lk_L_97 : LinkV RL 97 RX4 yX4_pillar prog_6_method_42_code 9 (some .int) 2 := LinkV.of w_ml_L_97 w_im_X4_pillar w_se_X4_pillar w_ini_X4 w_co_X4_pillar (by decide +kernel)
theorem lk_L_98 : LinkV RL 98 RX3 yX3_hangs prog_1_method_22_code 6 (some .int) 3 := LinkV.of w_ml_L_98 w_im_X3_hangs w_se_X3_hangs w_ini_X3 w_co_X3_hangs (by decide +kernel)
theorem lk_L_101 : LinkV RL 101 RX4 yX4_hangs prog_6_method_43_code 11 (some .int) 3 := LinkV.of w_ml_L_101 w_im_X4_hangs w_se_X4_hangs w_ini_X4 w_co_X4_hangs (by decide +kernel)
theorem lk_L_102 : LinkV RL 102 RX3 yX3_safe prog_1_method_23_code 9 (some .int) 1 := LinkV.of w_ml_L_102 w_im_X3_safe w_se_X3_safe w_ini_X3 w_co_X3_safe (by decide +kernel)
theorem lk_L_105 : LinkV RL 105 RX4 yX4_safe prog_6_method_45_code 3 (some .int) 1 := LinkV.of w_ml_L_105 w_im_X4_safe w_se_X4_safe w_ini_X4 w_co_X4_safe (by decide +kernel)
theorem lk_L_106 : LinkV RL 106 RX3 yX3_beside prog_1_method_24_code 4 (some .int) 1 := LinkV.of w_ml_L_106 w_im_X3_beside w_se_X3_beside w_ini_X3 w_co_X3_beside (by decide +kernel)
theorem lk_L_109 : LinkV RL 109 RX4 yX4_beside prog_6_method_46_code 6 (some .int) 1 := LinkV.of w_ml_L_109 w_im_X4_beside w_se_X4_beside w_ini_X4 w_co_X4_beside (by decide +kernel)
theorem lk_L_110 : LinkV RL 110 RX3 yX3_told prog_1_method_25_code 2 (some .int) 1 := LinkV.of w_ml_L_110 w_im_X3_told w_se_X3_told w_ini_X3 w_co_X3_told (by decide +kernel)
theorem lk_L_113 : LinkV RL 113 RX4 yX4_told prog_6_method_47_code 2 (some .int) 1 := LinkV.of w_ml_L_113 w_im_X4_told w_se_X4_told w_ini_X4 w_co_X4_told (by decide +kernel)
theorem lk_X4_55 : LinkS RX4 55 yX4_in prog_6_method_3_code 6 (some .boolean) 3 := LinkS.of w_ml_X4_55 w_sta_X4_in w_ini_X4 w_co_X4_in (by decide +kernel)
theorem lk_X4_64 : LinkS RX4 64 yX4_isWho prog_6_method_6_code 1 (some .boolean) 1 := LinkS.of w_ml_X4_64 w_sta_X4_isWho w_ini_X4 w_co_X4_isWho (by decide +kernel)
theorem lk_X4_68 : LinkS RX4 68 yX4_isDay prog_6_method_5_code 1 (some .boolean) 1 := LinkS.of w_ml_X4_68 w_sta_X4_isDay w_ini_X4 w_co_X4_isDay (by decide +kernel)
theorem lk_X4_71 : LinkV RX4 71 RX4 yX4_isAct prog_6_method_7_code 2 (some .boolean) 1 := LinkV.of w_ml_X4_71 w_im_X4_isAct w_se_X4_isAct w_ini_X4 w_co_X4_isAct (by decide +kernel)
theorem lk_X4_97 : LinkV RX4 97 RX4 yX4_fault prog_6_method_13_code 4 (some .int) 0 := LinkV.of w_ml_X4_97 w_im_X4_fault w_se_X4_fault w_ini_X4 w_co_X4_fault (by decide +kernel)
theorem lk_X4_107 : LinkV RX4 107 RX4 yX4_isHealed prog_6_method_18_code 3 (some .boolean) 2 := LinkV.of w_ml_X4_107 w_im_X4_isHealed w_se_X4_isHealed w_ini_X4 w_co_X4_isHealed (by decide +kernel)
theorem lk_X4_111 : LinkV RX4 111 RX4 yX4_wouldCount prog_6_method_19_code 6 (some .boolean) 3 := LinkV.of w_ml_X4_111 w_im_X4_wouldCount w_se_X4_wouldCount w_ini_X4 w_co_X4_wouldCount (by decide +kernel)
theorem lk_X4_118 : LinkV RX4 118 RX4 yX4_isAsked prog_6_method_22_code 5 (some .boolean) 2 := LinkV.of w_ml_X4_118 w_im_X4_isAsked w_se_X4_isAsked w_ini_X4 w_co_X4_isAsked (by decide +kernel)
theorem lk_X4_121 : LinkV RX4 121 RX4 yX4_isSound prog_6_method_23_code 3 (some .boolean) 2 := LinkV.of w_ml_X4_121 w_im_X4_isSound w_se_X4_isSound w_ini_X4 w_co_X4_isSound (by decide +kernel)
theorem lk_X4_124 : LinkV RX4 124 RX4 yX4_isHeld prog_6_method_16_code 5 (some .boolean) 2 := LinkV.of w_ml_X4_124 w_im_X4_isHeld w_se_X4_isHeld w_ini_X4 w_co_X4_isHeld (by decide +kernel)
theorem lk_X4_127 : LinkV RX4 127 RX4 yX4_loose prog_6_method_25_code 4 (some .int) 1 := LinkV.of w_ml_X4_127 w_im_X4_loose w_se_X4_loose w_ini_X4 w_co_X4_loose (by decide +kernel)
theorem lk_X4_131 : LinkV RX4 131 RX4 yX4_soundOf prog_6_method_24_code 4 (some .int) 1 := LinkV.of w_ml_X4_131 w_im_X4_soundOf w_se_X4_soundOf w_ini_X4 w_co_X4_soundOf (by decide +kernel)
theorem lk_X4_134 : LinkV RX4 134 RX4 yX4_mostOf prog_6_method_26_code 4 (some .int) 1 := LinkV.of w_ml_X4_134 w_im_X4_mostOf w_se_X4_mostOf w_ini_X4 w_co_X4_mostOf (by decide +kernel)
theorem lk_X4_139 : LinkV RX4 139 RX4 yX4_leastOf prog_6_method_27_code 5 (some .int) 1 := LinkV.of w_ml_X4_139 w_im_X4_leastOf w_se_X4_leastOf w_ini_X4 w_co_X4_leastOf (by decide +kernel)
theorem lk_X4_142 : LinkV RX4 142 RX4 yX4_standing prog_6_method_28_code 2 (some .int) 1 := LinkV.of w_ml_X4_142 w_im_X4_standing w_se_X4_standing w_ini_X4 w_co_X4_standing (by decide +kernel)
theorem lk_X4_145 : LinkV RX4 145 RX4 yX4_namedBy prog_6_method_31_code 4 (some .int) 1 := LinkV.of w_ml_X4_145 w_im_X4_namedBy w_se_X4_namedBy w_ini_X4 w_co_X4_namedBy (by decide +kernel)
theorem lk_X4_148 : LinkV RX4 148 RX4 yX4_fallOf prog_6_method_33_code 4 (some .int) 2 := LinkV.of w_ml_X4_148 w_im_X4_fallOf w_se_X4_fallOf w_ini_X4 w_co_X4_fallOf (by decide +kernel)
theorem lk_X4_154 : LinkV RX4 154 RX4 yX4_backOf prog_6_method_35_code 8 (some .int) 3 := LinkV.of w_ml_X4_154 w_im_X4_backOf w_se_X4_backOf w_ini_X4 w_co_X4_backOf (by decide +kernel)
theorem lk_X4_159 : LinkV RX4 159 RX4 yX4_wiseOf prog_6_method_37_code 4 (some .int) 2 := LinkV.of w_ml_X4_159 w_im_X4_wiseOf w_se_X4_wiseOf w_ini_X4 w_co_X4_wiseOf (by decide +kernel)
theorem lk_X4_162 : LinkV RX4 162 RX4 yX4_isSet prog_6_method_40_code 2 (some .boolean) 1 := LinkV.of w_ml_X4_162 w_im_X4_isSet w_se_X4_isSet w_ini_X4 w_co_X4_isSet (by decide +kernel)
theorem lk_X4_165 : LinkS RX4 165 yX4_ones prog_6_method_4_code 3 (some .int) 1 := LinkS.of w_ml_X4_165 w_sta_X4_ones w_ini_X4 w_co_X4_ones (by decide +kernel)
theorem lk_X4_168 : LinkV RX4 168 RX4 yX4_isSafeOn prog_6_method_44_code 8 (some .boolean) 2 := LinkV.of w_ml_X4_168 w_im_X4_isSafeOn w_se_X4_isSafeOn w_ini_X4 w_co_X4_isSafeOn (by decide +kernel)
theorem lk_X0_61 : LinkN RX0 61 yX3_contains RX3 prog_1_method_29_code 2 (some .boolean) 2 := ⟨goodC w_co_X3_contains tb_self, w_ini_X3, w_sta_X3_contains, by decide +kernel⟩
theorem lk_X2_27 : LinkN RX2 27 yX3_within RX3 prog_1_method_26_code 3 (some .boolean) 3 := ⟨goodC w_co_X3_within tb_self, w_ini_X3, w_sta_X3_within, by decide +kernel⟩
end
