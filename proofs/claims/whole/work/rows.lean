section
-- ===== PART A: goes FIRST, ahead of the names: the tables' words, and 'selects' of the private methods out of them =====
/-- a private method of a class that the tables say can be made, by its rows of tables_1 -/
def lw_okq (q : MethodName × Nat) : Prop := (q.1.cls ≠ "java/lang/invoke/MethodHandle" ∧ q.1.cls ≠ "java/lang/invoke/VarHandle") ∧ Cond.instantiable q.1.cls q.2 ∈ tables_1 ∧ Cond.privateMethod q.1 ∈ tables_1 ∧ Cond.instanceMethod q.1 ∈ tables_1
theorem lw_p0 : lw_okq (⟨"LineEvents", "find", "(I)LLineEvents$Machine;"⟩, 11) := ⟨⟨by decide +kernel, by decide +kernel⟩, List.mem_of_getElem? (i := 14) (by decide +kernel), List.mem_of_getElem? (i := 61) (by decide +kernel), List.mem_of_getElem? (i := 62) (by decide +kernel)⟩
theorem lw_p1 : lw_okq (⟨"LineEvents", "addRow", "(IIII)Z"⟩, 11) := ⟨⟨by decide +kernel, by decide +kernel⟩, List.mem_of_getElem? (i := 14) (by decide +kernel), List.mem_of_getElem? (i := 202) (by decide +kernel), List.mem_of_getElem? (i := 203) (by decide +kernel)⟩
theorem lw_p2 : lw_okq (⟨"LineEvents", "lookAtRows", "()V"⟩, 11) := ⟨⟨by decide +kernel, by decide +kernel⟩, List.mem_of_getElem? (i := 14) (by decide +kernel), List.mem_of_getElem? (i := 235) (by decide +kernel), List.mem_of_getElem? (i := 236) (by decide +kernel)⟩
theorem lw_p3 : lw_okq (⟨"LineEvents", "rowCauseOf", "(I)I"⟩, 11) := ⟨⟨by decide +kernel, by decide +kernel⟩, List.mem_of_getElem? (i := 14) (by decide +kernel), List.mem_of_getElem? (i := 239) (by decide +kernel), List.mem_of_getElem? (i := 240) (by decide +kernel)⟩
theorem lw_p4 : lw_okq (⟨"LineEvents", "actAll", "()V"⟩, 11) := ⟨⟨by decide +kernel, by decide +kernel⟩, List.mem_of_getElem? (i := 14) (by decide +kernel), List.mem_of_getElem? (i := 255) (by decide +kernel), List.mem_of_getElem? (i := 256) (by decide +kernel)⟩
theorem lw_p5 : lw_okq (⟨"LineEvents", "act", "(LLineEvents$Machine;)V"⟩, 11) := ⟨⟨by decide +kernel, by decide +kernel⟩, List.mem_of_getElem? (i := 14) (by decide +kernel), List.mem_of_getElem? (i := 263) (by decide +kernel), List.mem_of_getElem? (i := 264) (by decide +kernel)⟩
theorem lw_p6 : lw_okq (⟨"LineEvents", "judge", "(LLineEvents$Machine;)V"⟩, 11) := ⟨⟨by decide +kernel, by decide +kernel⟩, List.mem_of_getElem? (i := 14) (by decide +kernel), List.mem_of_getElem? (i := 271) (by decide +kernel), List.mem_of_getElem? (i := 272) (by decide +kernel)⟩
theorem lw_p7 : lw_okq (⟨"LineEvents", "draw", "(J)J"⟩, 11) := ⟨⟨by decide +kernel, by decide +kernel⟩, List.mem_of_getElem? (i := 14) (by decide +kernel), List.mem_of_getElem? (i := 275) (by decide +kernel), List.mem_of_getElem? (i := 276) (by decide +kernel)⟩
theorem lw_p8 : lw_okq (⟨"LineEvents", "reject", "(LLineEvents$Machine;)V"⟩, 11) := ⟨⟨by decide +kernel, by decide +kernel⟩, List.mem_of_getElem? (i := 14) (by decide +kernel), List.mem_of_getElem? (i := 281) (by decide +kernel), List.mem_of_getElem? (i := 282) (by decide +kernel)⟩
theorem lw_p9 : lw_okq (⟨"LineEvents", "note", "(LLineEvents$Machine;I)V"⟩, 11) := ⟨⟨by decide +kernel, by decide +kernel⟩, List.mem_of_getElem? (i := 14) (by decide +kernel), List.mem_of_getElem? (i := 289) (by decide +kernel), List.mem_of_getElem? (i := 290) (by decide +kernel)⟩
theorem lw_p10 : lw_okq (⟨"LineEvents", "leave", "(LLineEvents$Machine;)V"⟩, 11) := ⟨⟨by decide +kernel, by decide +kernel⟩, List.mem_of_getElem? (i := 14) (by decide +kernel), List.mem_of_getElem? (i := 296) (by decide +kernel), List.mem_of_getElem? (i := 297) (by decide +kernel)⟩
theorem lw_p11 : lw_okq (⟨"LineEvents", "take", "(LLineEvents$Machine;)V"⟩, 11) := ⟨⟨by decide +kernel, by decide +kernel⟩, List.mem_of_getElem? (i := 14) (by decide +kernel), List.mem_of_getElem? (i := 308) (by decide +kernel), List.mem_of_getElem? (i := 309) (by decide +kernel)⟩
theorem lw_p12 : lw_okq (⟨"LineEvents", "quietTenths", "()I"⟩, 11) := ⟨⟨by decide +kernel, by decide +kernel⟩, List.mem_of_getElem? (i := 14) (by decide +kernel), List.mem_of_getElem? (i := 326) (by decide +kernel), List.mem_of_getElem? (i := 327) (by decide +kernel)⟩
theorem lw_p13 : lw_okq (⟨"LineEvents", "passTime", "(I)V"⟩, 11) := ⟨⟨by decide +kernel, by decide +kernel⟩, List.mem_of_getElem? (i := 14) (by decide +kernel), List.mem_of_getElem? (i := 340) (by decide +kernel), List.mem_of_getElem? (i := 341) (by decide +kernel)⟩
theorem lw_p14 : lw_okq (⟨"LineEvents", "known", "(I)LLineEvents$Machine;"⟩, 11) := ⟨⟨by decide +kernel, by decide +kernel⟩, List.mem_of_getElem? (i := 14) (by decide +kernel), List.mem_of_getElem? (i := 390) (by decide +kernel), List.mem_of_getElem? (i := 391) (by decide +kernel)⟩
theorem lw_p15 : lw_okq (⟨"java/lang/Throwable", "fillInStackTrace", "(I)Ljava/lang/Throwable;"⟩, 6) := ⟨⟨by decide +kernel, by decide +kernel⟩, List.mem_of_getElem? (i := 432) (by decide +kernel), List.mem_of_getElem? (i := 430) (by decide +kernel), List.mem_of_getElem? (i := 431) (by decide +kernel)⟩
def lw_privs_1 : List (MethodName × Nat) := [(⟨"LineEvents", "find", "(I)LLineEvents$Machine;"⟩, 11), (⟨"LineEvents", "addRow", "(IIII)Z"⟩, 11), (⟨"LineEvents", "lookAtRows", "()V"⟩, 11), (⟨"LineEvents", "rowCauseOf", "(I)I"⟩, 11), (⟨"LineEvents", "actAll", "()V"⟩, 11), (⟨"LineEvents", "act", "(LLineEvents$Machine;)V"⟩, 11), (⟨"LineEvents", "judge", "(LLineEvents$Machine;)V"⟩, 11), (⟨"LineEvents", "draw", "(J)J"⟩, 11), (⟨"LineEvents", "reject", "(LLineEvents$Machine;)V"⟩, 11), (⟨"LineEvents", "note", "(LLineEvents$Machine;I)V"⟩, 11), (⟨"LineEvents", "leave", "(LLineEvents$Machine;)V"⟩, 11), (⟨"LineEvents", "take", "(LLineEvents$Machine;)V"⟩, 11), (⟨"LineEvents", "quietTenths", "()I"⟩, 11), (⟨"LineEvents", "passTime", "(I)V"⟩, 11), (⟨"LineEvents", "known", "(I)LLineEvents$Machine;"⟩, 11), (⟨"java/lang/Throwable", "fillInStackTrace", "(I)Ljava/lang/Throwable;"⟩, 6)]
theorem lw_r1 : ∀ q ∈ lw_privs_1, lw_okq q := List.forall_mem_cons.mpr ⟨lw_p0, List.forall_mem_cons.mpr ⟨lw_p1, List.forall_mem_cons.mpr ⟨lw_p2, List.forall_mem_cons.mpr ⟨lw_p3, List.forall_mem_cons.mpr ⟨lw_p4, List.forall_mem_cons.mpr ⟨lw_p5, List.forall_mem_cons.mpr ⟨lw_p6, List.forall_mem_cons.mpr ⟨lw_p7, List.forall_mem_cons.mpr ⟨lw_p8, List.forall_mem_cons.mpr ⟨lw_p9, List.forall_mem_cons.mpr ⟨lw_p10, List.forall_mem_cons.mpr ⟨lw_p11, List.forall_mem_cons.mpr ⟨lw_p12, List.forall_mem_cons.mpr ⟨lw_p13, List.forall_mem_cons.mpr ⟨lw_p14, List.forall_mem_cons.mpr ⟨lw_p15, fun _ h => absurd h List.not_mem_nil⟩⟩⟩⟩⟩⟩⟩⟩⟩⟩⟩⟩⟩⟩⟩⟩
theorem lw_p16 : lw_okq (⟨"LineEventsModel", "isMachine", "(I)Z"⟩, 32) := ⟨⟨by decide +kernel, by decide +kernel⟩, List.mem_of_getElem? (i := 483) (by decide +kernel), List.mem_of_getElem? (i := 594) (by decide +kernel), List.mem_of_getElem? (i := 595) (by decide +kernel)⟩
theorem lw_p17 : lw_okq (⟨"LineEventsModel", "told", "(IIJI)Z"⟩, 32) := ⟨⟨by decide +kernel, by decide +kernel⟩, List.mem_of_getElem? (i := 483) (by decide +kernel), List.mem_of_getElem? (i := 612) (by decide +kernel), List.mem_of_getElem? (i := 613) (by decide +kernel)⟩
theorem lw_p18 : lw_okq (⟨"LineEventsModel", "act", "(I)V"⟩, 32) := ⟨⟨by decide +kernel, by decide +kernel⟩, List.mem_of_getElem? (i := 483) (by decide +kernel), List.mem_of_getElem? (i := 630) (by decide +kernel), List.mem_of_getElem? (i := 631) (by decide +kernel)⟩
theorem lw_p19 : lw_okq (⟨"LineEventsModel", "held", "(I)I"⟩, 32) := ⟨⟨by decide +kernel, by decide +kernel⟩, List.mem_of_getElem? (i := 483) (by decide +kernel), List.mem_of_getElem? (i := 634) (by decide +kernel), List.mem_of_getElem? (i := 635) (by decide +kernel)⟩
theorem lw_p20 : lw_okq (⟨"LineEventsModel", "judge", "(I)Z"⟩, 32) := ⟨⟨by decide +kernel, by decide +kernel⟩, List.mem_of_getElem? (i := 483) (by decide +kernel), List.mem_of_getElem? (i := 638) (by decide +kernel), List.mem_of_getElem? (i := 639) (by decide +kernel)⟩
theorem lw_p21 : lw_okq (⟨"LineEventsModel", "draw", "(J)J"⟩, 32) := ⟨⟨by decide +kernel, by decide +kernel⟩, List.mem_of_getElem? (i := 483) (by decide +kernel), List.mem_of_getElem? (i := 642) (by decide +kernel), List.mem_of_getElem? (i := 643) (by decide +kernel)⟩
theorem lw_p22 : lw_okq (⟨"LineEventsModel", "note", "(II)V"⟩, 32) := ⟨⟨by decide +kernel, by decide +kernel⟩, List.mem_of_getElem? (i := 483) (by decide +kernel), List.mem_of_getElem? (i := 648) (by decide +kernel), List.mem_of_getElem? (i := 649) (by decide +kernel)⟩
theorem lw_p23 : lw_okq (⟨"LineEventsModel", "leave", "(I)V"⟩, 32) := ⟨⟨by decide +kernel, by decide +kernel⟩, List.mem_of_getElem? (i := 483) (by decide +kernel), List.mem_of_getElem? (i := 652) (by decide +kernel), List.mem_of_getElem? (i := 653) (by decide +kernel)⟩
theorem lw_p24 : lw_okq (⟨"LineEventsModel", "take", "(I)V"⟩, 32) := ⟨⟨by decide +kernel, by decide +kernel⟩, List.mem_of_getElem? (i := 483) (by decide +kernel), List.mem_of_getElem? (i := 656) (by decide +kernel), List.mem_of_getElem? (i := 657) (by decide +kernel)⟩
theorem lw_p25 : lw_okq (⟨"LineEventsModel", "causeOf", "(I)I"⟩, 32) := ⟨⟨by decide +kernel, by decide +kernel⟩, List.mem_of_getElem? (i := 483) (by decide +kernel), List.mem_of_getElem? (i := 660) (by decide +kernel), List.mem_of_getElem? (i := 661) (by decide +kernel)⟩
theorem lw_p26 : lw_okq (⟨"LineEventsModel", "within", "()J"⟩, 32) := ⟨⟨by decide +kernel, by decide +kernel⟩, List.mem_of_getElem? (i := 483) (by decide +kernel), List.mem_of_getElem? (i := 676) (by decide +kernel), List.mem_of_getElem? (i := 677) (by decide +kernel)⟩
def lw_privs_2 : List (MethodName × Nat) := [(⟨"LineEventsModel", "isMachine", "(I)Z"⟩, 32), (⟨"LineEventsModel", "told", "(IIJI)Z"⟩, 32), (⟨"LineEventsModel", "act", "(I)V"⟩, 32), (⟨"LineEventsModel", "held", "(I)I"⟩, 32), (⟨"LineEventsModel", "judge", "(I)Z"⟩, 32), (⟨"LineEventsModel", "draw", "(J)J"⟩, 32), (⟨"LineEventsModel", "note", "(II)V"⟩, 32), (⟨"LineEventsModel", "leave", "(I)V"⟩, 32), (⟨"LineEventsModel", "take", "(I)V"⟩, 32), (⟨"LineEventsModel", "causeOf", "(I)I"⟩, 32), (⟨"LineEventsModel", "within", "()J"⟩, 32)]
theorem lw_r2 : ∀ q ∈ lw_privs_2, lw_okq q := List.forall_mem_cons.mpr ⟨lw_p16, List.forall_mem_cons.mpr ⟨lw_p17, List.forall_mem_cons.mpr ⟨lw_p18, List.forall_mem_cons.mpr ⟨lw_p19, List.forall_mem_cons.mpr ⟨lw_p20, List.forall_mem_cons.mpr ⟨lw_p21, List.forall_mem_cons.mpr ⟨lw_p22, List.forall_mem_cons.mpr ⟨lw_p23, List.forall_mem_cons.mpr ⟨lw_p24, List.forall_mem_cons.mpr ⟨lw_p25, List.forall_mem_cons.mpr ⟨lw_p26, fun _ h => absurd h List.not_mem_nil⟩⟩⟩⟩⟩⟩⟩⟩⟩⟩⟩
def lw_privs : List (MethodName × Nat) := lw_privs_1 ++ (lw_privs_2)
def lw_tbl : List Cond := k2_sels lw_privs ++ tables_1
theorem lw_privs_ok : ∀ q ∈ lw_privs, lw_okq q := by
  show ∀ q ∈ lw_privs_1 ++ (lw_privs_2), lw_okq q
  exact List.forall_mem_append.mpr ⟨lw_r1, lw_r2⟩
end
section
/-! ===== BEGIN words of one list among another's, by their places ===== -/
theorem goodIn_r {big : List Cond} (ws : List Cond) (ps : List Nat) (hp : ws = ps.filterMap (fun i => big[i]?)) (h : ws.all goodWord = true) : GoodIn big ws := by
  intro w hw
  have h1 := List.all_eq_true.mp h w hw
  rw [hp] at hw
  obtain ⟨i, -, hi⟩ := List.mem_filterMap.mp hw
  have hm : w ∈ big := by first | exact List.mem_of_getElem? hi | exact List.getElem?_mem hi
  exact ⟨hm, good_of_word h1⟩
theorem goodIn_app {big a b : List Cond} (ha : GoodIn big a) (hb : GoodIn big b) : GoodIn big (a ++ b) := fun w h => (List.mem_append.mp h).elim (ha w) (hb w)
theorem goodIn_ca {big a b : List Cond} {c : Cond} (ha : GoodIn big (c :: a)) (hb : GoodIn big b) : GoodIn big (c :: (a ++ b)) := fun w h => (List.mem_cons.mp h).elim (fun e => ha w (List.mem_cons.mpr (Or.inl e))) (fun h => (List.mem_append.mp h).elim (fun h => ha w (List.mem_cons.mpr (Or.inr h))) (hb w))
theorem goodIn_sub {big ws : List Cond} (hm : ∀ w ∈ ws, w ∈ big) (h : ws.all goodWord = true) : GoodIn big ws := fun w hw => ⟨hm w hw, good_of_word (List.all_eq_true.mp h w hw)⟩
/-! ===== END ===== -/

/-! ===== BEGIN printed: names, fields, word lists, decode rows ===== -/
def RX0 : String := "LineEvents$Buffer"
def TX0 : u_T := fun k => match k with
  | 0 => ("LineEvents$Buffer", "room", "I", false)
  | 1 => ("LineEvents$Buffer", "delay", "I", false)
  | 2 => ("LineEvents$Buffer", "came", "[I", true)
  | 3 => ("LineEvents$Buffer", "first", "I", false)
  | _ => ("LineEvents$Buffer", "count", "I", false)
def tyX0 : Nat → FieldType := fun k => match k with
  | 0 => .int
  | 1 => .int
  | 2 => .array .int
  | 3 => .int
  | _ => .int
abbrev wsX00 : List Cond := u_ws RX0 TX0 5
theorem nmX0 : ∀ a, a < 5 → ∀ b, b < 5 → a ≠ b → (TX0 a).2.1 ≠ (TX0 b).2.1 := by decide +kernel
theorem tyX0_ok : ∀ k, k < 5 → parseFieldDescriptor (TX0 k).2.2.1 = some (tyX0 k) := by decide +kernel
abbrev cX0_init : ByteArray := prog_2_method_1_code
def yX0_init : MethodName := ⟨RX0, "<init>", "()V"⟩
abbrev cX0_hasRoom : ByteArray := prog_2_method_2_code
def yX0_hasRoom : MethodName := ⟨RX0, "hasRoom", "()Z"⟩
abbrev cX0_add : ByteArray := prog_2_method_3_code
def yX0_add : MethodName := ⟨RX0, "add", "(I)V"⟩
abbrev cX0_readyAt : ByteArray := prog_2_method_4_code
def yX0_readyAt : MethodName := ⟨RX0, "readyAt", "()I"⟩
abbrev cX0_isReady : ByteArray := prog_2_method_5_code
def yX0_isReady : MethodName := ⟨RX0, "isReady", "(I)Z"⟩
abbrev cX0_removeFirst : ByteArray := prog_2_method_6_code
def yX0_removeFirst : MethodName := ⟨RX0, "removeFirst", "()V"⟩
def RX1 : String := "LineEvents$Fault"
def TX1 : u_T := fun k => match k with
  | 0 => ("LineEvents$Fault", "above", "J", true)
  | 1 => ("LineEvents$Fault", "below", "J", true)
  | 2 => ("LineEvents$Fault", "tenths", "I", true)
  | _ => ("LineEvents$Fault", "next", "LLineEvents$Fault;", false)
def tyX1 : Nat → FieldType := fun k => match k with
  | 0 => .long
  | 1 => .long
  | 2 => .int
  | _ => .object "LineEvents$Fault"
abbrev wsX10 : List Cond := u_ws RX1 TX1 4
theorem nmX1 : ∀ a, a < 4 → ∀ b, b < 4 → a ≠ b → (TX1 a).2.1 ≠ (TX1 b).2.1 := by decide +kernel
theorem tyX1_ok : ∀ k, k < 4 → parseFieldDescriptor (TX1 k).2.2.1 = some (tyX1 k) := by decide +kernel
abbrev cX1_init : ByteArray := prog_3_method_1_code
def yX1_init : MethodName := ⟨RX1, "<init>", "(JJI)V"⟩
def RX2 : String := "LineEvents$Machine"
def TX2 : u_T := fun k => match k with
  | 0 => ("LineEvents$Machine", "number", "I", true)
  | 1 => ("LineEvents$Machine", "takes", "I", true)
  | 2 => ("LineEvents$Machine", "lower", "LLineEvents$Machine;", true)
  | 3 => ("LineEvents$Machine", "before", "LLineEvents$Buffer;", true)
  | 4 => ("LineEvents$Machine", "behind", "LLineEvents$Buffer;", true)
  | 5 => ("LineEvents$Machine", "followed", "Z", false)
  | 6 => ("LineEvents$Machine", "firstFault", "LLineEvents$Fault;", false)
  | 7 => ("LineEvents$Machine", "lastFault", "LLineEvents$Fault;", false)
  | 8 => ("LineEvents$Machine", "faultCount", "I", false)
  | 9 => ("LineEvents$Machine", "rowCause", "I", false)
  | 10 => ("LineEvents$Machine", "faultEnd", "I", false)
  | 11 => ("LineEvents$Machine", "hasBottle", "Z", false)
  | 12 => ("LineEvents$Machine", "worked", "I", false)
  | 13 => ("LineEvents$Machine", "judged", "Z", false)
  | 14 => ("LineEvents$Machine", "rejectedCount", "J", false)
  | _ => ("LineEvents$Machine", "times", "[J", true)
def tyX2 : Nat → FieldType := fun k => match k with
  | 0 => .int
  | 1 => .int
  | 2 => .object "LineEvents$Machine"
  | 3 => .object "LineEvents$Buffer"
  | 4 => .object "LineEvents$Buffer"
  | 5 => .boolean
  | 6 => .object "LineEvents$Fault"
  | 7 => .object "LineEvents$Fault"
  | 8 => .int
  | 9 => .int
  | 10 => .int
  | 11 => .boolean
  | 12 => .int
  | 13 => .boolean
  | 14 => .long
  | _ => .array .long
abbrev wsX20 : List Cond := u_ws RX2 TX2 16
theorem nmX2 : ∀ a, a < 16 → ∀ b, b < 16 → a ≠ b → (TX2 a).2.1 ≠ (TX2 b).2.1 := by decide +kernel
theorem tyX2_ok : ∀ k, k < 16 → parseFieldDescriptor (TX2 k).2.2.1 = some (tyX2 k) := by decide +kernel
abbrev cX2_init : ByteArray := prog_4_method_1_code
def yX2_init : MethodName := ⟨RX2, "<init>", "(IILLineEvents$Machine;LLineEvents$Machine;)V"⟩
abbrev cX2_addFault : ByteArray := prog_4_method_2_code
def yX2_addFault : MethodName := ⟨RX2, "addFault", "(LLineEvents$Fault;)V"⟩
abbrev cX2_stands : ByteArray := prog_4_method_3_code
def yX2_stands : MethodName := ⟨RX2, "stands", "(I)Z"⟩
abbrev cX2_isDone : ByteArray := prog_4_method_4_code
def yX2_isDone : MethodName := ⟨RX2, "isDone", "()Z"⟩
abbrev cX2_putAway : ByteArray := prog_4_method_5_code
def yX2_putAway : MethodName := ⟨RX2, "putAway", "()V"⟩
abbrev cX2_causeAt : ByteArray := prog_4_method_6_code
def yX2_causeAt : MethodName := ⟨RX2, "causeAt", "(I)I"⟩
abbrev cX2_quietTenths : ByteArray := prog_4_method_7_code
def yX2_quietTenths : MethodName := ⟨RX2, "quietTenths", "(I)I"⟩
abbrev cX2_spend : ByteArray := prog_4_method_8_code
def yX2_spend : MethodName := ⟨RX2, "spend", "(II)V"⟩
abbrev cX2_allTimes : ByteArray := prog_4_method_9_code
def yX2_allTimes : MethodName := ⟨RX2, "allTimes", "()J"⟩
def RX3 : String := "LineEvents$Row"
def TX3 : u_T := fun k => match k with
  | 0 => ("LineEvents$Row", "machine", "I", true)
  | 1 => ("LineEvents$Row", "from", "I", true)
  | 2 => ("LineEvents$Row", "to", "I", true)
  | 3 => ("LineEvents$Row", "cause", "I", true)
  | _ => ("LineEvents$Row", "earlier", "LLineEvents$Row;", true)
def tyX3 : Nat → FieldType := fun k => match k with
  | 0 => .int
  | 1 => .int
  | 2 => .int
  | 3 => .int
  | _ => .object "LineEvents$Row"
abbrev wsX30 : List Cond := u_ws RX3 TX3 5
theorem nmX3 : ∀ a, a < 5 → ∀ b, b < 5 → a ≠ b → (TX3 a).2.1 ≠ (TX3 b).2.1 := by decide +kernel
theorem tyX3_ok : ∀ k, k < 5 → parseFieldDescriptor (TX3 k).2.2.1 = some (tyX3 k) := by decide +kernel
abbrev cX3_init : ByteArray := prog_5_method_1_code
def yX3_init : MethodName := ⟨RX3, "<init>", "(IIIILLineEvents$Row;)V"⟩
abbrev cX3_holds : ByteArray := prog_5_method_2_code
def yX3_holds : MethodName := ⟨RX3, "holds", "(II)Z"⟩
abbrev cX3_turnBehind : ByteArray := prog_5_method_3_code
def yX3_turnBehind : MethodName := ⟨RX3, "turnBehind", "(I)I"⟩
def RX4 : String := "LineEvents"
def TX4 : u_T := fun k => match k with
  | 0 => ("LineEvents", "drawn", "J", false)
  | 1 => ("LineEvents", "now", "I", false)
  | 2 => ("LineEvents", "highest", "LLineEvents$Machine;", false)
  | 3 => ("LineEvents", "machineCount", "I", false)
  | 4 => ("LineEvents", "newestRow", "LLineEvents$Row;", false)
  | 5 => ("LineEvents", "rowCount", "I", false)
  | 6 => ("LineEvents", "rowsTurn", "I", false)
  | 7 => ("LineEvents", "events", "[I", true)
  | 8 => ("LineEvents", "eventCount", "I", false)
  | 9 => ("LineEvents", "begunCount", "J", false)
  | _ => ("LineEvents", "madeCount", "J", false)
def tyX4 : Nat → FieldType := fun k => match k with
  | 0 => .long
  | 1 => .int
  | 2 => .object "LineEvents$Machine"
  | 3 => .int
  | 4 => .object "LineEvents$Row"
  | 5 => .int
  | 6 => .int
  | 7 => .array .int
  | 8 => .int
  | 9 => .long
  | _ => .long
abbrev wsX40 : List Cond := u_ws RX4 TX4 11
theorem nmX4 : ∀ a, a < 11 → ∀ b, b < 11 → a ≠ b → (TX4 a).2.1 ≠ (TX4 b).2.1 := by decide +kernel
theorem tyX4_ok : ∀ k, k < 11 → parseFieldDescriptor (TX4 k).2.2.1 = some (tyX4 k) := by decide +kernel
abbrev cX4_init : ByteArray := prog_1_method_1_code
def yX4_init : MethodName := ⟨RX4, "<init>", "(J)V"⟩
abbrev cX4_machine : ByteArray := prog_1_method_2_code
def yX4_machine : MethodName := ⟨RX4, "machine", "(II)I"⟩
abbrev cX4_buffer : ByteArray := prog_1_method_3_code
def yX4_buffer : MethodName := ⟨RX4, "buffer", "(III)I"⟩
abbrev cX4_fault : ByteArray := prog_1_method_4_code
def yX4_fault : MethodName := ⟨RX4, "fault", "(IJJI)Z"⟩
abbrev cX4_row : ByteArray := prog_1_method_5_code
def yX4_row : MethodName := ⟨RX4, "row", "(IIII)Z"⟩
abbrev cX4_run : ByteArray := prog_1_method_6_code
def yX4_run : MethodName := ⟨RX4, "run", "(I)I"⟩
abbrev cX4_event : ByteArray := prog_1_method_7_code
def yX4_event : MethodName := ⟨RX4, "event", "(II)I"⟩
abbrev cX4_made : ByteArray := prog_1_method_8_code
def yX4_made : MethodName := ⟨RX4, "made", "()J"⟩
abbrev cX4_inside : ByteArray := prog_1_method_9_code
def yX4_inside : MethodName := ⟨RX4, "inside", "()J"⟩
abbrev cX4_lost : ByteArray := prog_1_method_10_code
def yX4_lost : MethodName := ⟨RX4, "lost", "(II)J"⟩
abbrev cX4_rejected : ByteArray := prog_1_method_11_code
def yX4_rejected : MethodName := ⟨RX4, "rejected", "(I)J"⟩
abbrev cX4_change : ByteArray := prog_1_method_12_code
def yX4_change : MethodName := ⟨RX4, "change", "(II)Z"⟩
abbrev cX4_rest : ByteArray := prog_1_method_13_code
def yX4_rest : MethodName := ⟨RX4, "rest", "(II)Z"⟩
abbrev cX4_time : ByteArray := prog_1_method_14_code
def yX4_time : MethodName := ⟨RX4, "time", "(II)J"⟩
abbrev cX4_kept : ByteArray := prog_1_method_15_code
def yX4_kept : MethodName := ⟨RX4, "kept", "()Z"⟩
abbrev cX4_within : ByteArray := prog_1_method_16_code
def yX4_within : MethodName := ⟨RX4, "within", "(III)Z"⟩
abbrev cX4_isCause : ByteArray := prog_1_method_17_code
def yX4_isCause : MethodName := ⟨RX4, "isCause", "(I)Z"⟩
abbrev cX4_find : ByteArray := prog_1_method_18_code
def yX4_find : MethodName := ⟨RX4, "find", "(I)LLineEvents$Machine;"⟩
abbrev cX4_known : ByteArray := prog_1_method_19_code
def yX4_known : MethodName := ⟨RX4, "known", "(I)LLineEvents$Machine;"⟩
abbrev cX4_addRow : ByteArray := prog_1_method_20_code
def yX4_addRow : MethodName := ⟨RX4, "addRow", "(IIII)Z"⟩
abbrev cX4_lookAtRows : ByteArray := prog_1_method_21_code
def yX4_lookAtRows : MethodName := ⟨RX4, "lookAtRows", "()V"⟩
abbrev cX4_rowCauseOf : ByteArray := prog_1_method_22_code
def yX4_rowCauseOf : MethodName := ⟨RX4, "rowCauseOf", "(I)I"⟩
abbrev cX4_actAll : ByteArray := prog_1_method_23_code
def yX4_actAll : MethodName := ⟨RX4, "actAll", "()V"⟩
abbrev cX4_act : ByteArray := prog_1_method_24_code
def yX4_act : MethodName := ⟨RX4, "act", "(LLineEvents$Machine;)V"⟩
abbrev cX4_judge : ByteArray := prog_1_method_25_code
def yX4_judge : MethodName := ⟨RX4, "judge", "(LLineEvents$Machine;)V"⟩
abbrev cX4_draw : ByteArray := prog_1_method_26_code
def yX4_draw : MethodName := ⟨RX4, "draw", "(J)J"⟩
abbrev cX4_reject : ByteArray := prog_1_method_27_code
def yX4_reject : MethodName := ⟨RX4, "reject", "(LLineEvents$Machine;)V"⟩
abbrev cX4_leave : ByteArray := prog_1_method_28_code
def yX4_leave : MethodName := ⟨RX4, "leave", "(LLineEvents$Machine;)V"⟩
abbrev cX4_take : ByteArray := prog_1_method_29_code
def yX4_take : MethodName := ⟨RX4, "take", "(LLineEvents$Machine;)V"⟩
abbrev cX4_note : ByteArray := prog_1_method_30_code
def yX4_note : MethodName := ⟨RX4, "note", "(LLineEvents$Machine;I)V"⟩
abbrev cX4_quietTenths : ByteArray := prog_1_method_31_code
def yX4_quietTenths : MethodName := ⟨RX4, "quietTenths", "()I"⟩
abbrev cX4_passTime : ByteArray := prog_1_method_32_code
def yX4_passTime : MethodName := ⟨RX4, "passTime", "(I)V"⟩
def RX5 : String := "LineEventsModel"
def TX5 : u_T := fun k => match k with
  | 0 => ("LineEventsModel", "takes", "[I", true)
  | 1 => ("LineEventsModel", "before", "[I", true)
  | 2 => ("LineEventsModel", "behind", "[I", true)
  | 3 => ("LineEventsModel", "room", "[I", true)
  | 4 => ("LineEventsModel", "delay", "[I", true)
  | 5 => ("LineEventsModel", "machines", "I", false)
  | 6 => ("LineEventsModel", "bottle", "[I", true)
  | 7 => ("LineEventsModel", "worked", "[I", true)
  | 8 => ("LineEventsModel", "faultEnd", "[I", true)
  | 9 => ("LineEventsModel", "came", "[I", true)
  | 10 => ("LineEventsModel", "first", "[I", true)
  | 11 => ("LineEventsModel", "many", "[I", true)
  | 12 => ("LineEventsModel", "faultAbove", "[J", true)
  | 13 => ("LineEventsModel", "faultBelow", "[J", true)
  | 14 => ("LineEventsModel", "faultTenths", "[I", true)
  | 15 => ("LineEventsModel", "faults", "[I", true)
  | 16 => ("LineEventsModel", "rowMachine", "[I", true)
  | 17 => ("LineEventsModel", "rowFrom", "[I", true)
  | 18 => ("LineEventsModel", "rowTo", "[I", true)
  | 19 => ("LineEventsModel", "rowCause", "[I", true)
  | 20 => ("LineEventsModel", "rows", "I", false)
  | 21 => ("LineEventsModel", "times", "[J", true)
  | 22 => ("LineEventsModel", "rejects", "[J", true)
  | 23 => ("LineEventsModel", "begun", "J", false)
  | 24 => ("LineEventsModel", "made", "J", false)
  | 25 => ("LineEventsModel", "now", "I", false)
  | 26 => ("LineEventsModel", "drawn", "J", false)
  | 27 => ("LineEventsModel", "eventAt", "[I", true)
  | 28 => ("LineEventsModel", "eventMachine", "[I", true)
  | 29 => ("LineEventsModel", "eventKind", "[I", true)
  | 30 => ("LineEventsModel", "events", "I", false)
  | _ => ("LineEventsModel", "thrown", "I", false)
def tyX5 : Nat → FieldType := fun k => match k with
  | 0 => .array .int
  | 1 => .array .int
  | 2 => .array .int
  | 3 => .array .int
  | 4 => .array .int
  | 5 => .int
  | 6 => .array .int
  | 7 => .array .int
  | 8 => .array .int
  | 9 => .array .int
  | 10 => .array .int
  | 11 => .array .int
  | 12 => .array .long
  | 13 => .array .long
  | 14 => .array .int
  | 15 => .array .int
  | 16 => .array .int
  | 17 => .array .int
  | 18 => .array .int
  | 19 => .array .int
  | 20 => .int
  | 21 => .array .long
  | 22 => .array .long
  | 23 => .long
  | 24 => .long
  | 25 => .int
  | 26 => .long
  | 27 => .array .int
  | 28 => .array .int
  | 29 => .array .int
  | 30 => .int
  | _ => .int
abbrev wsX50 : List Cond := u_ws RX5 TX5 32
theorem nmX5 : ∀ a, a < 32 → ∀ b, b < 32 → a ≠ b → (TX5 a).2.1 ≠ (TX5 b).2.1 := by decide +kernel
theorem tyX5_ok : ∀ k, k < 32 → parseFieldDescriptor (TX5 k).2.2.1 = some (tyX5 k) := by decide +kernel
abbrev cX5_init : ByteArray := prog_7_method_1_code
def yX5_init : MethodName := ⟨RX5, "<init>", "(J)V"⟩
abbrev cX5_thrown : ByteArray := prog_7_method_2_code
def yX5_thrown : MethodName := ⟨RX5, "thrown", "()I"⟩
abbrev cX5_isMachine : ByteArray := prog_7_method_3_code
def yX5_isMachine : MethodName := ⟨RX5, "isMachine", "(I)Z"⟩
abbrev cX5_machine : ByteArray := prog_7_method_4_code
def yX5_machine : MethodName := ⟨RX5, "machine", "(II)I"⟩
abbrev cX5_buffer : ByteArray := prog_7_method_5_code
def yX5_buffer : MethodName := ⟨RX5, "buffer", "(III)I"⟩
abbrev cX5_fault : ByteArray := prog_7_method_6_code
def yX5_fault : MethodName := ⟨RX5, "fault", "(IJJI)Z"⟩
abbrev cX5_told : ByteArray := prog_7_method_7_code
def yX5_told : MethodName := ⟨RX5, "told", "(IIJI)Z"⟩
abbrev cX5_row : ByteArray := prog_7_method_8_code
def yX5_row : MethodName := ⟨RX5, "row", "(IIII)Z"⟩
abbrev cX5_change : ByteArray := prog_7_method_9_code
def yX5_change : MethodName := ⟨RX5, "change", "(II)Z"⟩
abbrev cX5_rest : ByteArray := prog_7_method_10_code
def yX5_rest : MethodName := ⟨RX5, "rest", "(II)Z"⟩
abbrev cX5_held : ByteArray := prog_7_method_11_code
def yX5_held : MethodName := ⟨RX5, "held", "(I)I"⟩
abbrev cX5_note : ByteArray := prog_7_method_12_code
def yX5_note : MethodName := ⟨RX5, "note", "(II)V"⟩
abbrev cX5_draw : ByteArray := prog_7_method_13_code
def yX5_draw : MethodName := ⟨RX5, "draw", "(J)J"⟩
abbrev cX5_judge : ByteArray := prog_7_method_14_code
def yX5_judge : MethodName := ⟨RX5, "judge", "(I)Z"⟩
abbrev cX5_leave : ByteArray := prog_7_method_15_code
def yX5_leave : MethodName := ⟨RX5, "leave", "(I)V"⟩
abbrev cX5_take : ByteArray := prog_7_method_16_code
def yX5_take : MethodName := ⟨RX5, "take", "(I)V"⟩
abbrev cX5_act : ByteArray := prog_7_method_17_code
def yX5_act : MethodName := ⟨RX5, "act", "(I)V"⟩
abbrev cX5_causeOf : ByteArray := prog_7_method_18_code
def yX5_causeOf : MethodName := ⟨RX5, "causeOf", "(I)I"⟩
abbrev cX5_run : ByteArray := prog_7_method_19_code
def yX5_run : MethodName := ⟨RX5, "run", "(I)I"⟩
abbrev cX5_event : ByteArray := prog_7_method_20_code
def yX5_event : MethodName := ⟨RX5, "event", "(II)I"⟩
abbrev cX5_made : ByteArray := prog_7_method_21_code
def yX5_made : MethodName := ⟨RX5, "made", "()J"⟩
abbrev cX5_within : ByteArray := prog_7_method_22_code
def yX5_within : MethodName := ⟨RX5, "within", "()J"⟩
abbrev cX5_inside : ByteArray := prog_7_method_23_code
def yX5_inside : MethodName := ⟨RX5, "inside", "()J"⟩
abbrev cX5_lost : ByteArray := prog_7_method_24_code
def yX5_lost : MethodName := ⟨RX5, "lost", "(II)J"⟩
abbrev cX5_rejected : ByteArray := prog_7_method_25_code
def yX5_rejected : MethodName := ⟨RX5, "rejected", "(I)J"⟩
abbrev cX5_time : ByteArray := prog_7_method_26_code
def yX5_time : MethodName := ⟨RX5, "time", "(II)J"⟩
abbrev cX5_kept : ByteArray := prog_7_method_27_code
def yX5_kept : MethodName := ⟨RX5, "kept", "()Z"⟩
def RJx00060 : String := "java/lang/ArrayIndexOutOfBoundsException"
def TJx00060 : u_T := fun k => match k with
  | 0 => ("java/lang/Throwable", "cause", "Ljava/lang/Throwable;", false)
  | 1 => ("java/lang/Throwable", "stackTrace", "[Ljava/lang/StackTraceElement;", false)
  | 2 => ("java/lang/Throwable", "suppressedExceptions", "Ljava/util/List;", false)
  | 3 => ("java/lang/Throwable", "detailMessage", "Ljava/lang/String;", false)
  | 4 => ("java/lang/Throwable", "backtrace", "Ljava/lang/Object;", false)
  | _ => ("java/lang/Throwable", "depth", "I", false)
def tyJx00060 : Nat → FieldType := fun k => match k with
  | 0 => .object "java/lang/Throwable"
  | 1 => .array (.object "java/lang/StackTraceElement")
  | 2 => .object "java/util/List"
  | 3 => .object "java/lang/String"
  | 4 => .object "java/lang/Object"
  | _ => .int
abbrev wsJx000600 : List Cond := u_ws RJx00060 TJx00060 6
theorem nmJx00060 : ∀ a, a < 6 → ∀ b, b < 6 → a ≠ b → (TJx00060 a).2.1 ≠ (TJx00060 b).2.1 := by decide +kernel
theorem tyJx00060_ok : ∀ k, k < 6 → parseFieldDescriptor (TJx00060 k).2.2.1 = some (tyJx00060 k) := by decide +kernel
abbrev cJx00060_init_a7421 : ByteArray := prog_8_method_2_code
def yJx00060_init_a7421 : MethodName := ⟨RJx00060, "<init>", "(Ljava/lang/String;)V"⟩
def RJ9 : String := "java/lang/Math"
def TJ9 : u_T := fun k => match k with
  | _ => ("", "", "", false)
def tyJ9 : Nat → FieldType := fun k => match k with
  | _ => .int
abbrev wsJ90 : List Cond := u_ws RJ9 TJ9 0
theorem nmJ9 : ∀ a, a < 0 → ∀ b, b < 0 → a ≠ b → (TJ9 a).2.1 ≠ (TJ9 b).2.1 := by decide +kernel
theorem tyJ9_ok : ∀ k, k < 0 → parseFieldDescriptor (TJ9 k).2.2.1 = some (tyJ9 k) := by decide +kernel
abbrev cJ9_max_7cf53 : ByteArray := prog_11_method_65_code
def yJ9_max_7cf53 : MethodName := ⟨RJ9, "max", "(II)I"⟩
abbrev cJ9_min_7cf53 : ByteArray := prog_11_method_69_code
def yJ9_min_7cf53 : MethodName := ⟨RJ9, "min", "(II)I"⟩
def RJ0 : String := "java/lang/String"
def TJ0 : u_T := fun k => match k with
  | _ => ("", "", "", false)
def tyJ0 : Nat → FieldType := fun k => match k with
  | _ => .int
abbrev wsJ00 : List Cond := u_ws RJ0 TJ0 0
theorem nmJ0 : ∀ a, a < 0 → ∀ b, b < 0 → a ≠ b → (TJ0 a).2.1 ≠ (TJ0 b).2.1 := by decide +kernel
theorem tyJ0_ok : ∀ k, k < 0 → parseFieldDescriptor (TJ0 k).2.2.1 = some (tyJ0 k) := by decide +kernel
def RL : String := "LineEventsLaw"
abbrev cL_cell : ByteArray := method_2_code
def yL_cell : MethodName := ⟨RL, "cell", "([II)I"⟩
abbrev cL_lost : ByteArray := method_3_code
def yL_lost : MethodName := ⟨RL, "lost", "(LLineEvents;II[J)I"⟩
abbrev cL_rejected : ByteArray := method_4_code
def yL_rejected : MethodName := ⟨RL, "rejected", "(LLineEvents;I[J)I"⟩
abbrev cL_time : ByteArray := method_5_code
def yL_time : MethodName := ⟨RL, "time", "(LLineEvents;II[J)I"⟩
abbrev cL_law : ByteArray := code
def yL_law : MethodName := ⟨RL, "law", "([I)Z"⟩
def wsX0_init : List Cond := .code yX0_init cX0_init 1 none :: ([.methodLink RX0 3 objectInit, .instanceMethod objectInit, .code objectInit ⟨#[0xb1]⟩ 1 none, .fieldLink RX0 9 "LineEvents$Buffer" "room" "I", .arrayClass .int, .fieldLink RX0 15 "LineEvents$Buffer" "came" "[I"] ++ wsX00)
def wsX0_hasRoom : List Cond := .code yX0_hasRoom cX0_hasRoom 1 (some .boolean) :: ([.fieldLink RX0 19 "LineEvents$Buffer" "count" "I", .fieldLink RX0 9 "LineEvents$Buffer" "room" "I"] ++ wsX00)
def wsX0_add : List Cond := .code yX0_add cX0_add 2 none :: ([.fieldLink RX0 15 "LineEvents$Buffer" "came" "[I", .fieldLink RX0 22 "LineEvents$Buffer" "first" "I", .fieldLink RX0 19 "LineEvents$Buffer" "count" "I"] ++ wsX00)
def wsX0_readyAt : List Cond := .code yX0_readyAt cX0_readyAt 1 (some .int) :: ([.fieldLink RX0 19 "LineEvents$Buffer" "count" "I", .fieldLink RX0 15 "LineEvents$Buffer" "came" "[I", .fieldLink RX0 22 "LineEvents$Buffer" "first" "I", .fieldLink RX0 25 "LineEvents$Buffer" "delay" "I", .methodLink RX0 28 Lib.Math.max.name, .static Lib.Math.max.name, .initialized "java/lang/Math", .code Lib.Math.max.name Lib.Math.max.code 2 (some .int), .constant RX0 34 (1000000000)] ++ wsX00)
def wsX0_isReady : List Cond := .code yX0_isReady cX0_isReady 2 (some .boolean) :: ([.fieldLink RX0 19 "LineEvents$Buffer" "count" "I", .methodLink RX0 35 yX0_readyAt, .instanceMethod yX0_readyAt, .selects RX0 yX0_readyAt yX0_readyAt, .initialized RX0, .code yX0_readyAt cX0_readyAt 1 (some .int), .fieldLink RX0 15 "LineEvents$Buffer" "came" "[I", .fieldLink RX0 22 "LineEvents$Buffer" "first" "I", .fieldLink RX0 25 "LineEvents$Buffer" "delay" "I", .methodLink RX0 28 Lib.Math.max.name, .static Lib.Math.max.name, .initialized "java/lang/Math", .code Lib.Math.max.name Lib.Math.max.code 2 (some .int), .constant RX0 34 (1000000000)] ++ wsX00)
def wsX0_removeFirst : List Cond := .code yX0_removeFirst cX0_removeFirst 1 none :: ([.fieldLink RX0 22 "LineEvents$Buffer" "first" "I", .fieldLink RX0 19 "LineEvents$Buffer" "count" "I"] ++ wsX00)
def wsX1_init : List Cond := .code yX1_init cX1_init 6 none :: ([.methodLink RX1 1 objectInit, .instanceMethod objectInit, .code objectInit ⟨#[0xb1]⟩ 1 none, .fieldLink RX1 7 "LineEvents$Fault" "above" "J", .fieldLink RX1 13 "LineEvents$Fault" "below" "J", .fieldLink RX1 16 "LineEvents$Fault" "tenths" "I"] ++ wsX10)
def wsX2_init : List Cond := .code yX2_init cX2_init 5 none :: ([.methodLink RX2 3 objectInit, .instanceMethod objectInit, .code objectInit ⟨#[0xb1]⟩ 1 none, .classLink RX2 9 RX0, .instantiable RX0 5, .initialized RX0, .fieldLink RX2 12 "LineEvents$Machine" "behind" "LLineEvents$Buffer;", .fieldLink RX2 18 "LineEvents$Machine" "rowCause" "I", .arrayClass .long, .fieldLink RX2 22 "LineEvents$Machine" "times" "[J", .fieldLink RX2 26 "LineEvents$Machine" "number" "I", .fieldLink RX2 29 "LineEvents$Machine" "takes" "I", .fieldLink RX2 32 "LineEvents$Machine" "lower" "LLineEvents$Machine;", .fieldLink RX2 36 "LineEvents$Machine" "before" "LLineEvents$Buffer;", .instanceMethod yX0_init, .code yX0_init cX0_init 1 none, .methodLink RX0 3 objectInit, .fieldLink RX0 9 "LineEvents$Buffer" "room" "I", .arrayClass .int, .fieldLink RX0 15 "LineEvents$Buffer" "came" "[I"] ++ wsX00 ++ wsX20)
def wsX2_addFault : List Cond := .code yX2_addFault cX2_addFault 2 none :: ([.fieldLink RX2 39 "LineEvents$Machine" "lastFault" "LLineEvents$Fault;", .fieldLink RX2 43 "LineEvents$Machine" "firstFault" "LLineEvents$Fault;", .fieldLink RX2 46 "LineEvents$Fault" "next" "LLineEvents$Fault;", .fieldLink RX2 51 "LineEvents$Machine" "faultCount" "I"] ++ wsX20 ++ wsX10)
def wsX2_stands : List Cond := .code yX2_stands cX2_stands 2 (some .boolean) :: ([.fieldLink RX2 18 "LineEvents$Machine" "rowCause" "I", .fieldLink RX2 54 "LineEvents$Machine" "faultEnd" "I"] ++ wsX20)
def wsX2_isDone : List Cond := .code yX2_isDone cX2_isDone 1 (some .boolean) :: ([.fieldLink RX2 57 "LineEvents$Machine" "hasBottle" "Z", .fieldLink RX2 61 "LineEvents$Machine" "worked" "I", .fieldLink RX2 29 "LineEvents$Machine" "takes" "I"] ++ wsX20)
def wsX2_putAway : List Cond := .code yX2_putAway cX2_putAway 1 none :: ([.fieldLink RX2 57 "LineEvents$Machine" "hasBottle" "Z", .fieldLink RX2 64 "LineEvents$Machine" "judged" "Z", .fieldLink RX2 61 "LineEvents$Machine" "worked" "I"] ++ wsX20)
def wsX2_causeAt : List Cond := .code yX2_causeAt cX2_causeAt 2 (some .int) :: ([.fieldLink RX2 18 "LineEvents$Machine" "rowCause" "I", .fieldLink RX2 54 "LineEvents$Machine" "faultEnd" "I", .fieldLink RX2 57 "LineEvents$Machine" "hasBottle" "Z", .fieldLink RX2 61 "LineEvents$Machine" "worked" "I", .fieldLink RX2 29 "LineEvents$Machine" "takes" "I"] ++ wsX20)
def wsX2_quietTenths_r1 : List Cond := [Cond.fieldLink RX2 29 "LineEvents$Machine" "takes" "I", Cond.fieldLink RX2 61 "LineEvents$Machine" "worked" "I", Cond.fieldLink RX2 54 "LineEvents$Machine" "faultEnd" "I", Cond.fieldLink RX2 36 "LineEvents$Machine" "before" "LLineEvents$Buffer;", Cond.constant RX2 75 (1000000000), Cond.methodLink RX2 67 yX2_causeAt, Cond.instanceMethod yX2_causeAt, Cond.selects RX2 yX2_causeAt yX2_causeAt, Cond.initialized RX2, Cond.code yX2_causeAt cX2_causeAt 2 (some .int), Cond.fieldLink RX2 18 "LineEvents$Machine" "rowCause" "I", Cond.fieldLink RX2 57 "LineEvents$Machine" "hasBottle" "Z", Cond.methodLink RX2 71 yX0_readyAt, Cond.instanceMethod yX0_readyAt, Cond.selects RX0 yX0_readyAt yX0_readyAt, Cond.initialized RX0, Cond.code yX0_readyAt cX0_readyAt 1 (some .int), Cond.fieldLink RX0 19 "LineEvents$Buffer" "count" "I", Cond.fieldLink RX0 15 "LineEvents$Buffer" "came" "[I", Cond.fieldLink RX0 22 "LineEvents$Buffer" "first" "I", Cond.fieldLink RX0 25 "LineEvents$Buffer" "delay" "I", Cond.methodLink RX0 28 Lib.Math.max.name, Cond.static Lib.Math.max.name, Cond.initialized "java/lang/Math"]
def wsX2_quietTenths_r2 : List Cond := [Cond.code Lib.Math.max.name Lib.Math.max.code 2 (some .int), Cond.constant RX0 34 (1000000000)]
def wsX2_quietTenths : List Cond := .code yX2_quietTenths cX2_quietTenths 2 (some .int) :: ((wsX2_quietTenths_r1 ++ wsX2_quietTenths_r2) ++ wsX20 ++ wsX00)
def wsX2_spend : List Cond := .code yX2_spend cX2_spend 3 none :: ([.fieldLink RX2 22 "LineEvents$Machine" "times" "[J", .fieldLink RX2 61 "LineEvents$Machine" "worked" "I"] ++ wsX20)
def wsX2_allTimes : List Cond := .code yX2_allTimes cX2_allTimes 8 (some .long) :: ([.fieldLink RX2 22 "LineEvents$Machine" "times" "[J"] ++ wsX20)
def wsX3_init : List Cond := .code yX3_init cX3_init 6 none :: ([.methodLink RX3 3 objectInit, .instanceMethod objectInit, .code objectInit ⟨#[0xb1]⟩ 1 none, .fieldLink RX3 9 "LineEvents$Row" "machine" "I", .fieldLink RX3 15 "LineEvents$Row" "from" "I", .fieldLink RX3 18 "LineEvents$Row" "to" "I", .fieldLink RX3 21 "LineEvents$Row" "cause" "I", .fieldLink RX3 24 "LineEvents$Row" "earlier" "LLineEvents$Row;"] ++ wsX30)
def wsX3_holds : List Cond := .code yX3_holds cX3_holds 3 (some .boolean) :: ([.fieldLink RX3 9 "LineEvents$Row" "machine" "I", .fieldLink RX3 15 "LineEvents$Row" "from" "I", .fieldLink RX3 18 "LineEvents$Row" "to" "I"] ++ wsX30)
def wsX3_turnBehind : List Cond := .code yX3_turnBehind cX3_turnBehind 2 (some .int) :: ([.fieldLink RX3 15 "LineEvents$Row" "from" "I", .fieldLink RX3 18 "LineEvents$Row" "to" "I", .constant RX3 28 (1000000000)] ++ wsX30)
def wsX4_init : List Cond := .code yX4_init cX4_init 3 none :: ([.methodLink RX4 1 objectInit, .instanceMethod objectInit, .code objectInit ⟨#[0xb1]⟩ 1 none, .arrayClass .int, .fieldLink RX4 9 "LineEvents" "events" "[I", .fieldLink RX4 13 "LineEvents" "drawn" "J"] ++ wsX40)
def wsX4_find : List Cond := .code yX4_find cX4_find 3 (some (.object "LineEvents$Machine")) :: ([.fieldLink RX4 38 "LineEvents" "highest" "LLineEvents$Machine;", .fieldLink RX4 45 "LineEvents$Machine" "number" "I", .fieldLink RX4 118 "LineEvents$Machine" "lower" "LLineEvents$Machine;"] ++ wsX40 ++ wsX20)
def wsX4_within : List Cond := .code yX4_within cX4_within 3 (some .boolean) :: ([])
def wsX4_machine_r1 : List Cond := [Cond.fieldLink RX4 21 "LineEvents$Machine" "followed" "Z", Cond.fieldLink RX4 27 "LineEvents" "now" "I", Cond.fieldLink RX4 35 "LineEvents" "machineCount" "I", Cond.classLink RX4 22 RX2, Cond.instantiable RX2 16, Cond.initialized RX2, Cond.fieldLink RX4 38 "LineEvents" "highest" "LLineEvents$Machine;", Cond.fieldLink RX4 45 "LineEvents$Machine" "number" "I", Cond.methodLink RX4 17 yX4_find, Cond.instanceMethod yX4_find, Cond.selects RX4 yX4_find yX4_find, Cond.initialized RX4, Cond.code yX4_find cX4_find 3 (some (.object "LineEvents$Machine")), Cond.fieldLink RX4 118 "LineEvents$Machine" "lower" "LLineEvents$Machine;", Cond.methodLink RX4 31 yX4_within, Cond.static yX4_within, Cond.code yX4_within cX4_within 3 (some .boolean), Cond.methodLink RX4 42 yX2_init, Cond.instanceMethod yX2_init, Cond.code yX2_init cX2_init 5 none, Cond.methodLink RX2 3 objectInit, Cond.instanceMethod objectInit, Cond.code objectInit ⟨#[0xb1]⟩ 1 none, Cond.classLink RX2 9 RX0]
def wsX4_machine_r2 : List Cond := [Cond.instantiable RX0 5, Cond.initialized RX0, Cond.fieldLink RX2 12 "LineEvents$Machine" "behind" "LLineEvents$Buffer;", Cond.fieldLink RX2 18 "LineEvents$Machine" "rowCause" "I", Cond.arrayClass .long, Cond.fieldLink RX2 22 "LineEvents$Machine" "times" "[J", Cond.fieldLink RX2 26 "LineEvents$Machine" "number" "I", Cond.fieldLink RX2 29 "LineEvents$Machine" "takes" "I", Cond.fieldLink RX2 32 "LineEvents$Machine" "lower" "LLineEvents$Machine;", Cond.fieldLink RX2 36 "LineEvents$Machine" "before" "LLineEvents$Buffer;", Cond.instanceMethod yX0_init, Cond.code yX0_init cX0_init 1 none, Cond.methodLink RX0 3 objectInit, Cond.fieldLink RX0 9 "LineEvents$Buffer" "room" "I", Cond.arrayClass .int, Cond.fieldLink RX0 15 "LineEvents$Buffer" "came" "[I"]
def wsX4_machine : List Cond := .code yX4_machine cX4_machine 5 (some .int) :: ((wsX4_machine_r1 ++ wsX4_machine_r2) ++ wsX20 ++ wsX40 ++ wsX00)
def wsX4_buffer : List Cond := .code yX4_buffer cX4_buffer 6 (some .int) :: ([.fieldLink RX4 27 "LineEvents" "now" "I", .fieldLink RX4 48 "LineEvents$Machine" "behind" "LLineEvents$Buffer;", .fieldLink RX4 52 "LineEvents$Buffer" "room" "I", .fieldLink RX4 57 "LineEvents$Buffer" "delay" "I", .methodLink RX4 17 yX4_find, .instanceMethod yX4_find, .selects RX4 yX4_find yX4_find, .initialized RX4, .code yX4_find cX4_find 3 (some (.object "LineEvents$Machine")), .fieldLink RX4 38 "LineEvents" "highest" "LLineEvents$Machine;", .fieldLink RX4 45 "LineEvents$Machine" "number" "I", .fieldLink RX4 118 "LineEvents$Machine" "lower" "LLineEvents$Machine;", .methodLink RX4 31 yX4_within, .static yX4_within, .code yX4_within cX4_within 3 (some .boolean)] ++ wsX40 ++ wsX20 ++ wsX00)
def wsX4_fault_r1 : List Cond := [Cond.fieldLink RX4 27 "LineEvents" "now" "I", Cond.fieldLink RX4 60 "LineEvents$Machine" "faultCount" "I", Cond.constantLong RX4 63 (1000000), Cond.constant RX4 65 (100000), Cond.classLink RX4 66 RX1, Cond.instantiable RX1 4, Cond.initialized RX1, Cond.methodLink RX4 17 yX4_find, Cond.instanceMethod yX4_find, Cond.selects RX4 yX4_find yX4_find, Cond.initialized RX4, Cond.code yX4_find cX4_find 3 (some (.object "LineEvents$Machine")), Cond.fieldLink RX4 38 "LineEvents" "highest" "LLineEvents$Machine;", Cond.fieldLink RX4 45 "LineEvents$Machine" "number" "I", Cond.fieldLink RX4 118 "LineEvents$Machine" "lower" "LLineEvents$Machine;", Cond.methodLink RX4 31 yX4_within, Cond.static yX4_within, Cond.code yX4_within cX4_within 3 (some .boolean), Cond.methodLink RX4 68 yX1_init, Cond.instanceMethod yX1_init, Cond.code yX1_init cX1_init 6 none, Cond.methodLink RX1 1 objectInit, Cond.instanceMethod objectInit, Cond.code objectInit ⟨#[0xb1]⟩ 1 none]
def wsX4_fault_r2 : List Cond := [Cond.fieldLink RX1 7 "LineEvents$Fault" "above" "J", Cond.fieldLink RX1 13 "LineEvents$Fault" "below" "J", Cond.fieldLink RX1 16 "LineEvents$Fault" "tenths" "I", Cond.methodLink RX4 71 yX2_addFault, Cond.instanceMethod yX2_addFault, Cond.selects RX2 yX2_addFault yX2_addFault, Cond.initialized RX2, Cond.code yX2_addFault cX2_addFault 2 none, Cond.fieldLink RX2 39 "LineEvents$Machine" "lastFault" "LLineEvents$Fault;", Cond.fieldLink RX2 43 "LineEvents$Machine" "firstFault" "LLineEvents$Fault;", Cond.fieldLink RX2 46 "LineEvents$Fault" "next" "LLineEvents$Fault;", Cond.fieldLink RX2 51 "LineEvents$Machine" "faultCount" "I"]
def wsX4_fault : List Cond := .code yX4_fault cX4_fault 8 (some .boolean) :: ((wsX4_fault_r1 ++ wsX4_fault_r2) ++ wsX40 ++ wsX20 ++ wsX10)
def wsX4_addRow : List Cond := .code yX4_addRow cX4_addRow 5 (some .boolean) :: ([.fieldLink RX4 158 "LineEvents" "rowCount" "I", .fieldLink RX4 27 "LineEvents" "now" "I", .constant RX4 79 (1000000000), .classLink RX4 161 RX3, .instantiable RX3 5, .initialized RX3, .fieldLink RX4 163 "LineEvents" "newestRow" "LLineEvents$Row;", .fieldLink RX4 83 "LineEvents" "rowsTurn" "I", .methodLink RX4 167 yX3_init, .instanceMethod yX3_init, .code yX3_init cX3_init 6 none, .methodLink RX3 3 objectInit, .instanceMethod objectInit, .code objectInit ⟨#[0xb1]⟩ 1 none, .fieldLink RX3 9 "LineEvents$Row" "machine" "I", .fieldLink RX3 15 "LineEvents$Row" "from" "I", .fieldLink RX3 18 "LineEvents$Row" "to" "I", .fieldLink RX3 21 "LineEvents$Row" "cause" "I", .fieldLink RX3 24 "LineEvents$Row" "earlier" "LLineEvents$Row;"] ++ wsX40 ++ wsX30)
def wsX4_row_r1 : List Cond := [Cond.methodLink RX4 17 yX4_find, Cond.instanceMethod yX4_find, Cond.selects RX4 yX4_find yX4_find, Cond.initialized RX4, Cond.code yX4_find cX4_find 3 (some (.object "LineEvents$Machine")), Cond.fieldLink RX4 38 "LineEvents" "highest" "LLineEvents$Machine;", Cond.fieldLink RX4 45 "LineEvents$Machine" "number" "I", Cond.fieldLink RX4 118 "LineEvents$Machine" "lower" "LLineEvents$Machine;", Cond.methodLink RX4 31 yX4_within, Cond.static yX4_within, Cond.code yX4_within cX4_within 3 (some .boolean), Cond.methodLink RX4 75 yX4_addRow, Cond.instanceMethod yX4_addRow, Cond.selects RX4 yX4_addRow yX4_addRow, Cond.code yX4_addRow cX4_addRow 5 (some .boolean), Cond.fieldLink RX4 158 "LineEvents" "rowCount" "I", Cond.fieldLink RX4 27 "LineEvents" "now" "I", Cond.constant RX4 79 (1000000000), Cond.classLink RX4 161 RX3, Cond.instantiable RX3 5, Cond.initialized RX3, Cond.fieldLink RX4 163 "LineEvents" "newestRow" "LLineEvents$Row;", Cond.fieldLink RX4 83 "LineEvents" "rowsTurn" "I", Cond.methodLink RX4 167 yX3_init]
def wsX4_row_r2 : List Cond := [Cond.instanceMethod yX3_init, Cond.code yX3_init cX3_init 6 none, Cond.methodLink RX3 3 objectInit, Cond.instanceMethod objectInit, Cond.code objectInit ⟨#[0xb1]⟩ 1 none, Cond.fieldLink RX3 9 "LineEvents$Row" "machine" "I", Cond.fieldLink RX3 15 "LineEvents$Row" "from" "I", Cond.fieldLink RX3 18 "LineEvents$Row" "to" "I", Cond.fieldLink RX3 21 "LineEvents$Row" "cause" "I", Cond.fieldLink RX3 24 "LineEvents$Row" "earlier" "LLineEvents$Row;"]
def wsX4_row : List Cond := .code yX4_row cX4_row 5 (some .boolean) :: ((wsX4_row_r1 ++ wsX4_row_r2) ++ wsX40 ++ wsX20 ++ wsX30)
def wsX4_rowCauseOf : List Cond := .code yX4_rowCauseOf cX4_rowCauseOf 4 (some .int) :: ([.fieldLink RX4 163 "LineEvents" "newestRow" "LLineEvents$Row;", .fieldLink RX4 27 "LineEvents" "now" "I", .fieldLink RX4 187 "LineEvents$Row" "cause" "I", .fieldLink RX4 180 "LineEvents$Row" "earlier" "LLineEvents$Row;", .methodLink RX4 183 yX3_holds, .instanceMethod yX3_holds, .selects RX3 yX3_holds yX3_holds, .initialized RX3, .code yX3_holds cX3_holds 3 (some .boolean), .fieldLink RX3 9 "LineEvents$Row" "machine" "I", .fieldLink RX3 15 "LineEvents$Row" "from" "I", .fieldLink RX3 18 "LineEvents$Row" "to" "I"] ++ wsX40 ++ wsX30)
def wsX4_lookAtRows_r1 : List Cond := [Cond.fieldLink RX4 38 "LineEvents" "highest" "LLineEvents$Machine;", Cond.fieldLink RX4 45 "LineEvents$Machine" "number" "I", Cond.fieldLink RX4 174 "LineEvents$Machine" "rowCause" "I", Cond.fieldLink RX4 118 "LineEvents$Machine" "lower" "LLineEvents$Machine;", Cond.constant RX4 79 (1000000000), Cond.fieldLink RX4 83 "LineEvents" "rowsTurn" "I", Cond.fieldLink RX4 163 "LineEvents" "newestRow" "LLineEvents$Row;", Cond.fieldLink RX4 27 "LineEvents" "now" "I", Cond.methodLink RX4 96 Lib.Math.min.name, Cond.static Lib.Math.min.name, Cond.initialized "java/lang/Math", Cond.code Lib.Math.min.name Lib.Math.min.code 2 (some .int), Cond.fieldLink RX4 180 "LineEvents$Row" "earlier" "LLineEvents$Row;", Cond.methodLink RX4 170 yX4_rowCauseOf, Cond.instanceMethod yX4_rowCauseOf, Cond.selects RX4 yX4_rowCauseOf yX4_rowCauseOf, Cond.initialized RX4, Cond.code yX4_rowCauseOf cX4_rowCauseOf 4 (some .int), Cond.fieldLink RX4 187 "LineEvents$Row" "cause" "I", Cond.methodLink RX4 183 yX3_holds, Cond.instanceMethod yX3_holds, Cond.selects RX3 yX3_holds yX3_holds, Cond.initialized RX3, Cond.code yX3_holds cX3_holds 3 (some .boolean)]
def wsX4_lookAtRows_r2 : List Cond := [Cond.fieldLink RX3 9 "LineEvents$Row" "machine" "I", Cond.fieldLink RX3 15 "LineEvents$Row" "from" "I", Cond.fieldLink RX3 18 "LineEvents$Row" "to" "I", Cond.methodLink RX4 177 yX3_turnBehind, Cond.instanceMethod yX3_turnBehind, Cond.selects RX3 yX3_turnBehind yX3_turnBehind, Cond.code yX3_turnBehind cX3_turnBehind 2 (some .int), Cond.constant RX3 28 (1000000000)]
def wsX4_lookAtRows : List Cond := .code yX4_lookAtRows cX4_lookAtRows 2 none :: ((wsX4_lookAtRows_r1 ++ wsX4_lookAtRows_r2) ++ wsX40 ++ wsX20 ++ wsX30)
def wsX4_draw : List Cond := .code yX4_draw cX4_draw 3 (some .long) :: ([.fieldLink RX4 13 "LineEvents" "drawn" "J", .constantLong RX4 243 (6364136223846793005), .constantLong RX4 245 (1442695040888963407)] ++ wsX40)
def wsX4_note : List Cond := .code yX4_note cX4_note 4 none :: ([.fieldLink RX4 80 "LineEvents" "eventCount" "I", .fieldLink RX4 9 "LineEvents" "events" "[I", .fieldLink RX4 27 "LineEvents" "now" "I", .fieldLink RX4 45 "LineEvents$Machine" "number" "I"] ++ wsX40 ++ wsX20)
def wsX4_reject : List Cond := .code yX4_reject cX4_reject 2 none :: ([.fieldLink RX4 137 "LineEvents$Machine" "rejectedCount" "J", .methodLink RX4 247 yX2_putAway, .instanceMethod yX2_putAway, .selects RX2 yX2_putAway yX2_putAway, .initialized RX2, .code yX2_putAway cX2_putAway 1 none, .fieldLink RX2 57 "LineEvents$Machine" "hasBottle" "Z", .fieldLink RX2 64 "LineEvents$Machine" "judged" "Z", .fieldLink RX2 61 "LineEvents$Machine" "worked" "I", .methodLink RX4 239 yX4_note, .instanceMethod yX4_note, .selects RX4 yX4_note yX4_note, .initialized RX4, .code yX4_note cX4_note 4 none, .fieldLink RX4 80 "LineEvents" "eventCount" "I", .fieldLink RX4 9 "LineEvents" "events" "[I", .fieldLink RX4 27 "LineEvents" "now" "I", .fieldLink RX4 45 "LineEvents$Machine" "number" "I"] ++ wsX20 ++ wsX40)
def wsX4_judge_r1 : List Cond := [Cond.fieldLink RX4 213 "LineEvents$Machine" "firstFault" "LLineEvents$Fault;", Cond.fieldLink RX4 217 "LineEvents$Fault" "below" "J", Cond.fieldLink RX4 224 "LineEvents$Fault" "above" "J", Cond.fieldLink RX4 227 "LineEvents$Fault" "tenths" "I", Cond.methodLink RX4 102 Lib.Math.max.name, Cond.static Lib.Math.max.name, Cond.initialized "java/lang/Math", Cond.code Lib.Math.max.name Lib.Math.max.code 2 (some .int), Cond.fieldLink RX4 233 "LineEvents$Fault" "next" "LLineEvents$Fault;", Cond.fieldLink RX4 201 "LineEvents$Machine" "judged" "Z", Cond.fieldLink RX4 27 "LineEvents" "now" "I", Cond.fieldLink RX4 236 "LineEvents$Machine" "faultEnd" "I", Cond.methodLink RX4 220 yX4_draw, Cond.instanceMethod yX4_draw, Cond.selects RX4 yX4_draw yX4_draw, Cond.initialized RX4, Cond.code yX4_draw cX4_draw 3 (some .long), Cond.fieldLink RX4 13 "LineEvents" "drawn" "J", Cond.constantLong RX4 243 (6364136223846793005), Cond.constantLong RX4 245 (1442695040888963407), Cond.methodLink RX4 230 yX4_reject, Cond.instanceMethod yX4_reject, Cond.selects RX4 yX4_reject yX4_reject, Cond.code yX4_reject cX4_reject 2 none]
def wsX4_judge_r2 : List Cond := [Cond.fieldLink RX4 137 "LineEvents$Machine" "rejectedCount" "J", Cond.methodLink RX4 247 yX2_putAway, Cond.instanceMethod yX2_putAway, Cond.selects RX2 yX2_putAway yX2_putAway, Cond.initialized RX2, Cond.code yX2_putAway cX2_putAway 1 none, Cond.fieldLink RX2 57 "LineEvents$Machine" "hasBottle" "Z", Cond.fieldLink RX2 64 "LineEvents$Machine" "judged" "Z", Cond.fieldLink RX2 61 "LineEvents$Machine" "worked" "I", Cond.methodLink RX4 239 yX4_note, Cond.instanceMethod yX4_note, Cond.selects RX4 yX4_note yX4_note, Cond.code yX4_note cX4_note 4 none, Cond.fieldLink RX4 80 "LineEvents" "eventCount" "I", Cond.fieldLink RX4 9 "LineEvents" "events" "[I", Cond.fieldLink RX4 45 "LineEvents$Machine" "number" "I"]
def wsX4_judge : List Cond := .code yX4_judge cX4_judge 4 none :: ((wsX4_judge_r1 ++ wsX4_judge_r2) ++ wsX20 ++ wsX10 ++ wsX40)
def wsX4_leave_r1 : List Cond := [Cond.fieldLink RX4 21 "LineEvents$Machine" "followed" "Z", Cond.fieldLink RX4 109 "LineEvents" "madeCount" "J", Cond.fieldLink RX4 48 "LineEvents$Machine" "behind" "LLineEvents$Buffer;", Cond.fieldLink RX4 27 "LineEvents" "now" "I", Cond.methodLink RX4 250 yX0_hasRoom, Cond.instanceMethod yX0_hasRoom, Cond.selects RX0 yX0_hasRoom yX0_hasRoom, Cond.initialized RX0, Cond.code yX0_hasRoom cX0_hasRoom 1 (some .boolean), Cond.fieldLink RX0 19 "LineEvents$Buffer" "count" "I", Cond.fieldLink RX0 9 "LineEvents$Buffer" "room" "I", Cond.methodLink RX4 253 yX0_add, Cond.instanceMethod yX0_add, Cond.selects RX0 yX0_add yX0_add, Cond.code yX0_add cX0_add 2 none, Cond.fieldLink RX0 15 "LineEvents$Buffer" "came" "[I", Cond.fieldLink RX0 22 "LineEvents$Buffer" "first" "I", Cond.methodLink RX4 247 yX2_putAway, Cond.instanceMethod yX2_putAway, Cond.selects RX2 yX2_putAway yX2_putAway, Cond.initialized RX2, Cond.code yX2_putAway cX2_putAway 1 none, Cond.fieldLink RX2 57 "LineEvents$Machine" "hasBottle" "Z", Cond.fieldLink RX2 64 "LineEvents$Machine" "judged" "Z"]
def wsX4_leave_r2 : List Cond := [Cond.fieldLink RX2 61 "LineEvents$Machine" "worked" "I", Cond.methodLink RX4 239 yX4_note, Cond.instanceMethod yX4_note, Cond.selects RX4 yX4_note yX4_note, Cond.initialized RX4, Cond.code yX4_note cX4_note 4 none, Cond.fieldLink RX4 80 "LineEvents" "eventCount" "I", Cond.fieldLink RX4 9 "LineEvents" "events" "[I", Cond.fieldLink RX4 45 "LineEvents$Machine" "number" "I"]
def wsX4_leave : List Cond := .code yX4_leave cX4_leave 2 none :: ((wsX4_leave_r1 ++ wsX4_leave_r2) ++ wsX20 ++ wsX40 ++ wsX00)
def wsX4_take_r1 : List Cond := [Cond.fieldLink RX4 256 "LineEvents$Machine" "before" "LLineEvents$Buffer;", Cond.fieldLink RX4 148 "LineEvents" "begunCount" "J", Cond.fieldLink RX4 27 "LineEvents" "now" "I", Cond.fieldLink RX4 115 "LineEvents$Machine" "hasBottle" "Z", Cond.methodLink RX4 259 yX0_isReady, Cond.instanceMethod yX0_isReady, Cond.selects RX0 yX0_isReady yX0_isReady, Cond.initialized RX0, Cond.code yX0_isReady cX0_isReady 2 (some .boolean), Cond.fieldLink RX0 19 "LineEvents$Buffer" "count" "I", Cond.methodLink RX0 35 yX0_readyAt, Cond.instanceMethod yX0_readyAt, Cond.selects RX0 yX0_readyAt yX0_readyAt, Cond.code yX0_readyAt cX0_readyAt 1 (some .int), Cond.fieldLink RX0 15 "LineEvents$Buffer" "came" "[I", Cond.fieldLink RX0 22 "LineEvents$Buffer" "first" "I", Cond.fieldLink RX0 25 "LineEvents$Buffer" "delay" "I", Cond.methodLink RX0 28 Lib.Math.max.name, Cond.static Lib.Math.max.name, Cond.initialized "java/lang/Math", Cond.code Lib.Math.max.name Lib.Math.max.code 2 (some .int), Cond.constant RX0 34 (1000000000), Cond.methodLink RX4 262 yX0_removeFirst, Cond.instanceMethod yX0_removeFirst]
def wsX4_take_r2 : List Cond := [Cond.selects RX0 yX0_removeFirst yX0_removeFirst, Cond.code yX0_removeFirst cX0_removeFirst 1 none, Cond.methodLink RX4 239 yX4_note, Cond.instanceMethod yX4_note, Cond.selects RX4 yX4_note yX4_note, Cond.initialized RX4, Cond.code yX4_note cX4_note 4 none, Cond.fieldLink RX4 80 "LineEvents" "eventCount" "I", Cond.fieldLink RX4 9 "LineEvents" "events" "[I", Cond.fieldLink RX4 45 "LineEvents$Machine" "number" "I"]
def wsX4_take : List Cond := .code yX4_take cX4_take 2 none :: ((wsX4_take_r1 ++ wsX4_take_r2) ++ wsX20 ++ wsX40 ++ wsX00)
def wsX4_act_r1 : List Cond := [Cond.fieldLink RX4 201 "LineEvents$Machine" "judged" "Z", Cond.fieldLink RX4 27 "LineEvents" "now" "I", Cond.fieldLink RX4 115 "LineEvents$Machine" "hasBottle" "Z", Cond.methodLink RX4 197 yX2_isDone, Cond.instanceMethod yX2_isDone, Cond.selects RX2 yX2_isDone yX2_isDone, Cond.initialized RX2, Cond.code yX2_isDone cX2_isDone 1 (some .boolean), Cond.fieldLink RX2 57 "LineEvents$Machine" "hasBottle" "Z", Cond.fieldLink RX2 61 "LineEvents$Machine" "worked" "I", Cond.fieldLink RX2 29 "LineEvents$Machine" "takes" "I", Cond.methodLink RX4 204 yX4_judge, Cond.instanceMethod yX4_judge, Cond.selects RX4 yX4_judge yX4_judge, Cond.initialized RX4, Cond.code yX4_judge cX4_judge 4 none, Cond.fieldLink RX4 213 "LineEvents$Machine" "firstFault" "LLineEvents$Fault;", Cond.fieldLink RX4 217 "LineEvents$Fault" "below" "J", Cond.fieldLink RX4 224 "LineEvents$Fault" "above" "J", Cond.fieldLink RX4 227 "LineEvents$Fault" "tenths" "I", Cond.methodLink RX4 102 Lib.Math.max.name, Cond.static Lib.Math.max.name, Cond.initialized "java/lang/Math", Cond.code Lib.Math.max.name Lib.Math.max.code 2 (some .int)]
def wsX4_act_r2 : List Cond := [Cond.fieldLink RX4 233 "LineEvents$Fault" "next" "LLineEvents$Fault;", Cond.fieldLink RX4 236 "LineEvents$Machine" "faultEnd" "I", Cond.methodLink RX4 220 yX4_draw, Cond.instanceMethod yX4_draw, Cond.selects RX4 yX4_draw yX4_draw, Cond.code yX4_draw cX4_draw 3 (some .long), Cond.fieldLink RX4 13 "LineEvents" "drawn" "J", Cond.constantLong RX4 243 (6364136223846793005), Cond.constantLong RX4 245 (1442695040888963407), Cond.methodLink RX4 230 yX4_reject, Cond.instanceMethod yX4_reject, Cond.selects RX4 yX4_reject yX4_reject, Cond.code yX4_reject cX4_reject 2 none, Cond.fieldLink RX4 137 "LineEvents$Machine" "rejectedCount" "J", Cond.methodLink RX4 247 yX2_putAway, Cond.instanceMethod yX2_putAway, Cond.selects RX2 yX2_putAway yX2_putAway, Cond.code yX2_putAway cX2_putAway 1 none, Cond.fieldLink RX2 64 "LineEvents$Machine" "judged" "Z", Cond.methodLink RX4 239 yX4_note, Cond.instanceMethod yX4_note, Cond.selects RX4 yX4_note yX4_note, Cond.code yX4_note cX4_note 4 none, Cond.fieldLink RX4 80 "LineEvents" "eventCount" "I"]
def wsX4_act_r3 : List Cond := [Cond.fieldLink RX4 9 "LineEvents" "events" "[I", Cond.fieldLink RX4 45 "LineEvents$Machine" "number" "I", Cond.methodLink RX4 190 yX2_stands, Cond.instanceMethod yX2_stands, Cond.selects RX2 yX2_stands yX2_stands, Cond.code yX2_stands cX2_stands 2 (some .boolean), Cond.fieldLink RX2 18 "LineEvents$Machine" "rowCause" "I", Cond.fieldLink RX2 54 "LineEvents$Machine" "faultEnd" "I", Cond.methodLink RX4 207 yX4_leave, Cond.instanceMethod yX4_leave, Cond.selects RX4 yX4_leave yX4_leave, Cond.code yX4_leave cX4_leave 2 none, Cond.fieldLink RX4 21 "LineEvents$Machine" "followed" "Z", Cond.fieldLink RX4 109 "LineEvents" "madeCount" "J", Cond.fieldLink RX4 48 "LineEvents$Machine" "behind" "LLineEvents$Buffer;", Cond.methodLink RX4 250 yX0_hasRoom, Cond.instanceMethod yX0_hasRoom, Cond.selects RX0 yX0_hasRoom yX0_hasRoom, Cond.initialized RX0, Cond.code yX0_hasRoom cX0_hasRoom 1 (some .boolean), Cond.fieldLink RX0 19 "LineEvents$Buffer" "count" "I", Cond.fieldLink RX0 9 "LineEvents$Buffer" "room" "I", Cond.methodLink RX4 253 yX0_add, Cond.instanceMethod yX0_add]
def wsX4_act_r4 : List Cond := [Cond.selects RX0 yX0_add yX0_add, Cond.code yX0_add cX0_add 2 none, Cond.fieldLink RX0 15 "LineEvents$Buffer" "came" "[I", Cond.fieldLink RX0 22 "LineEvents$Buffer" "first" "I", Cond.methodLink RX4 210 yX4_take, Cond.instanceMethod yX4_take, Cond.selects RX4 yX4_take yX4_take, Cond.code yX4_take cX4_take 2 none, Cond.fieldLink RX4 256 "LineEvents$Machine" "before" "LLineEvents$Buffer;", Cond.fieldLink RX4 148 "LineEvents" "begunCount" "J", Cond.methodLink RX4 259 yX0_isReady, Cond.instanceMethod yX0_isReady, Cond.selects RX0 yX0_isReady yX0_isReady, Cond.code yX0_isReady cX0_isReady 2 (some .boolean), Cond.methodLink RX0 35 yX0_readyAt, Cond.instanceMethod yX0_readyAt, Cond.selects RX0 yX0_readyAt yX0_readyAt, Cond.code yX0_readyAt cX0_readyAt 1 (some .int), Cond.fieldLink RX0 25 "LineEvents$Buffer" "delay" "I", Cond.methodLink RX0 28 Lib.Math.max.name, Cond.constant RX0 34 (1000000000), Cond.methodLink RX4 262 yX0_removeFirst, Cond.instanceMethod yX0_removeFirst, Cond.selects RX0 yX0_removeFirst yX0_removeFirst]
def wsX4_act_r5 : List Cond := [Cond.code yX0_removeFirst cX0_removeFirst 1 none]
def wsX4_act : List Cond := .code yX4_act cX4_act 2 none :: ((wsX4_act_r1 ++ (wsX4_act_r2 ++ (wsX4_act_r3 ++ (wsX4_act_r4 ++ wsX4_act_r5)))) ++ wsX20 ++ wsX40 ++ wsX10 ++ wsX00)
def wsX4_actAll_r1 : List Cond := [Cond.fieldLink RX4 38 "LineEvents" "highest" "LLineEvents$Machine;", Cond.fieldLink RX4 27 "LineEvents" "now" "I", Cond.fieldLink RX4 118 "LineEvents$Machine" "lower" "LLineEvents$Machine;", Cond.methodLink RX4 190 yX2_stands, Cond.instanceMethod yX2_stands, Cond.selects RX2 yX2_stands yX2_stands, Cond.initialized RX2, Cond.code yX2_stands cX2_stands 2 (some .boolean), Cond.fieldLink RX2 18 "LineEvents$Machine" "rowCause" "I", Cond.fieldLink RX2 54 "LineEvents$Machine" "faultEnd" "I", Cond.methodLink RX4 193 yX4_act, Cond.instanceMethod yX4_act, Cond.selects RX4 yX4_act yX4_act, Cond.initialized RX4, Cond.code yX4_act cX4_act 2 none, Cond.fieldLink RX4 201 "LineEvents$Machine" "judged" "Z", Cond.fieldLink RX4 115 "LineEvents$Machine" "hasBottle" "Z", Cond.methodLink RX4 197 yX2_isDone, Cond.instanceMethod yX2_isDone, Cond.selects RX2 yX2_isDone yX2_isDone, Cond.code yX2_isDone cX2_isDone 1 (some .boolean), Cond.fieldLink RX2 57 "LineEvents$Machine" "hasBottle" "Z", Cond.fieldLink RX2 61 "LineEvents$Machine" "worked" "I", Cond.fieldLink RX2 29 "LineEvents$Machine" "takes" "I"]
def wsX4_actAll_r2 : List Cond := [Cond.methodLink RX4 204 yX4_judge, Cond.instanceMethod yX4_judge, Cond.selects RX4 yX4_judge yX4_judge, Cond.code yX4_judge cX4_judge 4 none, Cond.fieldLink RX4 213 "LineEvents$Machine" "firstFault" "LLineEvents$Fault;", Cond.fieldLink RX4 217 "LineEvents$Fault" "below" "J", Cond.fieldLink RX4 224 "LineEvents$Fault" "above" "J", Cond.fieldLink RX4 227 "LineEvents$Fault" "tenths" "I", Cond.methodLink RX4 102 Lib.Math.max.name, Cond.static Lib.Math.max.name, Cond.initialized "java/lang/Math", Cond.code Lib.Math.max.name Lib.Math.max.code 2 (some .int), Cond.fieldLink RX4 233 "LineEvents$Fault" "next" "LLineEvents$Fault;", Cond.fieldLink RX4 236 "LineEvents$Machine" "faultEnd" "I", Cond.methodLink RX4 220 yX4_draw, Cond.instanceMethod yX4_draw, Cond.selects RX4 yX4_draw yX4_draw, Cond.code yX4_draw cX4_draw 3 (some .long), Cond.fieldLink RX4 13 "LineEvents" "drawn" "J", Cond.constantLong RX4 243 (6364136223846793005), Cond.constantLong RX4 245 (1442695040888963407), Cond.methodLink RX4 230 yX4_reject, Cond.instanceMethod yX4_reject, Cond.selects RX4 yX4_reject yX4_reject]
def wsX4_actAll_r3 : List Cond := [Cond.code yX4_reject cX4_reject 2 none, Cond.fieldLink RX4 137 "LineEvents$Machine" "rejectedCount" "J", Cond.methodLink RX4 247 yX2_putAway, Cond.instanceMethod yX2_putAway, Cond.selects RX2 yX2_putAway yX2_putAway, Cond.code yX2_putAway cX2_putAway 1 none, Cond.fieldLink RX2 64 "LineEvents$Machine" "judged" "Z", Cond.methodLink RX4 239 yX4_note, Cond.instanceMethod yX4_note, Cond.selects RX4 yX4_note yX4_note, Cond.code yX4_note cX4_note 4 none, Cond.fieldLink RX4 80 "LineEvents" "eventCount" "I", Cond.fieldLink RX4 9 "LineEvents" "events" "[I", Cond.fieldLink RX4 45 "LineEvents$Machine" "number" "I", Cond.methodLink RX4 207 yX4_leave, Cond.instanceMethod yX4_leave, Cond.selects RX4 yX4_leave yX4_leave, Cond.code yX4_leave cX4_leave 2 none, Cond.fieldLink RX4 21 "LineEvents$Machine" "followed" "Z", Cond.fieldLink RX4 109 "LineEvents" "madeCount" "J", Cond.fieldLink RX4 48 "LineEvents$Machine" "behind" "LLineEvents$Buffer;", Cond.methodLink RX4 250 yX0_hasRoom, Cond.instanceMethod yX0_hasRoom, Cond.selects RX0 yX0_hasRoom yX0_hasRoom]
def wsX4_actAll_r4 : List Cond := [Cond.initialized RX0, Cond.code yX0_hasRoom cX0_hasRoom 1 (some .boolean), Cond.fieldLink RX0 19 "LineEvents$Buffer" "count" "I", Cond.fieldLink RX0 9 "LineEvents$Buffer" "room" "I", Cond.methodLink RX4 253 yX0_add, Cond.instanceMethod yX0_add, Cond.selects RX0 yX0_add yX0_add, Cond.code yX0_add cX0_add 2 none, Cond.fieldLink RX0 15 "LineEvents$Buffer" "came" "[I", Cond.fieldLink RX0 22 "LineEvents$Buffer" "first" "I", Cond.methodLink RX4 210 yX4_take, Cond.instanceMethod yX4_take, Cond.selects RX4 yX4_take yX4_take, Cond.code yX4_take cX4_take 2 none, Cond.fieldLink RX4 256 "LineEvents$Machine" "before" "LLineEvents$Buffer;", Cond.fieldLink RX4 148 "LineEvents" "begunCount" "J", Cond.methodLink RX4 259 yX0_isReady, Cond.instanceMethod yX0_isReady, Cond.selects RX0 yX0_isReady yX0_isReady, Cond.code yX0_isReady cX0_isReady 2 (some .boolean), Cond.methodLink RX0 35 yX0_readyAt, Cond.instanceMethod yX0_readyAt, Cond.selects RX0 yX0_readyAt yX0_readyAt, Cond.code yX0_readyAt cX0_readyAt 1 (some .int)]
def wsX4_actAll_r5 : List Cond := [Cond.fieldLink RX0 25 "LineEvents$Buffer" "delay" "I", Cond.methodLink RX0 28 Lib.Math.max.name, Cond.constant RX0 34 (1000000000), Cond.methodLink RX4 262 yX0_removeFirst, Cond.instanceMethod yX0_removeFirst, Cond.selects RX0 yX0_removeFirst yX0_removeFirst, Cond.code yX0_removeFirst cX0_removeFirst 1 none]
def wsX4_actAll : List Cond := .code yX4_actAll cX4_actAll 2 none :: ((wsX4_actAll_r1 ++ (wsX4_actAll_r2 ++ (wsX4_actAll_r3 ++ (wsX4_actAll_r4 ++ wsX4_actAll_r5)))) ++ wsX40 ++ wsX20 ++ wsX10 ++ wsX00)
def wsX4_quietTenths_r1 : List Cond := [Cond.fieldLink RX4 83 "LineEvents" "rowsTurn" "I", Cond.fieldLink RX4 27 "LineEvents" "now" "I", Cond.fieldLink RX4 38 "LineEvents" "highest" "LLineEvents$Machine;", Cond.methodLink RX4 96 Lib.Math.min.name, Cond.static Lib.Math.min.name, Cond.initialized "java/lang/Math", Cond.code Lib.Math.min.name Lib.Math.min.code 2 (some .int), Cond.fieldLink RX4 118 "LineEvents$Machine" "lower" "LLineEvents$Machine;", Cond.methodLink RX4 265 yX2_quietTenths, Cond.instanceMethod yX2_quietTenths, Cond.selects RX2 yX2_quietTenths yX2_quietTenths, Cond.initialized RX2, Cond.code yX2_quietTenths cX2_quietTenths 2 (some .int), Cond.fieldLink RX2 29 "LineEvents$Machine" "takes" "I", Cond.fieldLink RX2 61 "LineEvents$Machine" "worked" "I", Cond.fieldLink RX2 54 "LineEvents$Machine" "faultEnd" "I", Cond.fieldLink RX2 36 "LineEvents$Machine" "before" "LLineEvents$Buffer;", Cond.constant RX2 75 (1000000000), Cond.methodLink RX2 67 yX2_causeAt, Cond.instanceMethod yX2_causeAt, Cond.selects RX2 yX2_causeAt yX2_causeAt, Cond.code yX2_causeAt cX2_causeAt 2 (some .int), Cond.fieldLink RX2 18 "LineEvents$Machine" "rowCause" "I", Cond.fieldLink RX2 57 "LineEvents$Machine" "hasBottle" "Z"]
def wsX4_quietTenths_r2 : List Cond := [Cond.methodLink RX2 71 yX0_readyAt, Cond.instanceMethod yX0_readyAt, Cond.selects RX0 yX0_readyAt yX0_readyAt, Cond.initialized RX0, Cond.code yX0_readyAt cX0_readyAt 1 (some .int), Cond.fieldLink RX0 19 "LineEvents$Buffer" "count" "I", Cond.fieldLink RX0 15 "LineEvents$Buffer" "came" "[I", Cond.fieldLink RX0 22 "LineEvents$Buffer" "first" "I", Cond.fieldLink RX0 25 "LineEvents$Buffer" "delay" "I", Cond.methodLink RX0 28 Lib.Math.max.name, Cond.static Lib.Math.max.name, Cond.code Lib.Math.max.name Lib.Math.max.code 2 (some .int), Cond.constant RX0 34 (1000000000)]
def wsX4_quietTenths : List Cond := .code yX4_quietTenths cX4_quietTenths 3 (some .int) :: ((wsX4_quietTenths_r1 ++ wsX4_quietTenths_r2) ++ wsX40 ++ wsX20 ++ wsX00)
def wsX4_passTime : List Cond := .code yX4_passTime cX4_passTime 3 none :: ([.fieldLink RX4 38 "LineEvents" "highest" "LLineEvents$Machine;", .fieldLink RX4 27 "LineEvents" "now" "I", .fieldLink RX4 118 "LineEvents$Machine" "lower" "LLineEvents$Machine;", .methodLink RX4 267 yX2_causeAt, .instanceMethod yX2_causeAt, .selects RX2 yX2_causeAt yX2_causeAt, .initialized RX2, .code yX2_causeAt cX2_causeAt 2 (some .int), .fieldLink RX2 18 "LineEvents$Machine" "rowCause" "I", .fieldLink RX2 54 "LineEvents$Machine" "faultEnd" "I", .fieldLink RX2 57 "LineEvents$Machine" "hasBottle" "Z", .fieldLink RX2 61 "LineEvents$Machine" "worked" "I", .fieldLink RX2 29 "LineEvents$Machine" "takes" "I", .methodLink RX4 270 yX2_spend, .instanceMethod yX2_spend, .selects RX2 yX2_spend yX2_spend, .code yX2_spend cX2_spend 3 none, .fieldLink RX2 22 "LineEvents$Machine" "times" "[J"] ++ wsX40 ++ wsX20)
def wsX4_run_r1 : List Cond := [Cond.constant RX4 65 (100000), Cond.constant RX4 79 (1000000000), Cond.fieldLink RX4 27 "LineEvents" "now" "I", Cond.fieldLink RX4 80 "LineEvents" "eventCount" "I", Cond.fieldLink RX4 83 "LineEvents" "rowsTurn" "I", Cond.methodLink RX4 96 Lib.Math.min.name, Cond.static Lib.Math.min.name, Cond.initialized "java/lang/Math", Cond.code Lib.Math.min.name Lib.Math.min.code 2 (some .int), Cond.methodLink RX4 102 Lib.Math.max.name, Cond.static Lib.Math.max.name, Cond.code Lib.Math.max.name Lib.Math.max.code 2 (some .int), Cond.methodLink RX4 31 yX4_within, Cond.static yX4_within, Cond.initialized RX4, Cond.code yX4_within cX4_within 3 (some .boolean), Cond.methodLink RX4 86 yX4_lookAtRows, Cond.instanceMethod yX4_lookAtRows, Cond.selects RX4 yX4_lookAtRows yX4_lookAtRows, Cond.code yX4_lookAtRows cX4_lookAtRows 2 none, Cond.fieldLink RX4 38 "LineEvents" "highest" "LLineEvents$Machine;", Cond.fieldLink RX4 45 "LineEvents$Machine" "number" "I", Cond.fieldLink RX4 174 "LineEvents$Machine" "rowCause" "I", Cond.fieldLink RX4 118 "LineEvents$Machine" "lower" "LLineEvents$Machine;"]
def wsX4_run_r2 : List Cond := [Cond.fieldLink RX4 163 "LineEvents" "newestRow" "LLineEvents$Row;", Cond.fieldLink RX4 180 "LineEvents$Row" "earlier" "LLineEvents$Row;", Cond.methodLink RX4 170 yX4_rowCauseOf, Cond.instanceMethod yX4_rowCauseOf, Cond.selects RX4 yX4_rowCauseOf yX4_rowCauseOf, Cond.code yX4_rowCauseOf cX4_rowCauseOf 4 (some .int), Cond.fieldLink RX4 187 "LineEvents$Row" "cause" "I", Cond.methodLink RX4 183 yX3_holds, Cond.instanceMethod yX3_holds, Cond.selects RX3 yX3_holds yX3_holds, Cond.initialized RX3, Cond.code yX3_holds cX3_holds 3 (some .boolean), Cond.fieldLink RX3 9 "LineEvents$Row" "machine" "I", Cond.fieldLink RX3 15 "LineEvents$Row" "from" "I", Cond.fieldLink RX3 18 "LineEvents$Row" "to" "I", Cond.methodLink RX4 177 yX3_turnBehind, Cond.instanceMethod yX3_turnBehind, Cond.selects RX3 yX3_turnBehind yX3_turnBehind, Cond.code yX3_turnBehind cX3_turnBehind 2 (some .int), Cond.constant RX3 28 (1000000000), Cond.methodLink RX4 89 yX4_actAll, Cond.instanceMethod yX4_actAll, Cond.selects RX4 yX4_actAll yX4_actAll, Cond.code yX4_actAll cX4_actAll 2 none]
def wsX4_run_r3 : List Cond := [Cond.methodLink RX4 190 yX2_stands, Cond.instanceMethod yX2_stands, Cond.selects RX2 yX2_stands yX2_stands, Cond.initialized RX2, Cond.code yX2_stands cX2_stands 2 (some .boolean), Cond.fieldLink RX2 18 "LineEvents$Machine" "rowCause" "I", Cond.fieldLink RX2 54 "LineEvents$Machine" "faultEnd" "I", Cond.methodLink RX4 193 yX4_act, Cond.instanceMethod yX4_act, Cond.selects RX4 yX4_act yX4_act, Cond.code yX4_act cX4_act 2 none, Cond.fieldLink RX4 201 "LineEvents$Machine" "judged" "Z", Cond.fieldLink RX4 115 "LineEvents$Machine" "hasBottle" "Z", Cond.methodLink RX4 197 yX2_isDone, Cond.instanceMethod yX2_isDone, Cond.selects RX2 yX2_isDone yX2_isDone, Cond.code yX2_isDone cX2_isDone 1 (some .boolean), Cond.fieldLink RX2 57 "LineEvents$Machine" "hasBottle" "Z", Cond.fieldLink RX2 61 "LineEvents$Machine" "worked" "I", Cond.fieldLink RX2 29 "LineEvents$Machine" "takes" "I", Cond.methodLink RX4 204 yX4_judge, Cond.instanceMethod yX4_judge, Cond.selects RX4 yX4_judge yX4_judge, Cond.code yX4_judge cX4_judge 4 none]
def wsX4_run_r4 : List Cond := [Cond.fieldLink RX4 213 "LineEvents$Machine" "firstFault" "LLineEvents$Fault;", Cond.fieldLink RX4 217 "LineEvents$Fault" "below" "J", Cond.fieldLink RX4 224 "LineEvents$Fault" "above" "J", Cond.fieldLink RX4 227 "LineEvents$Fault" "tenths" "I", Cond.fieldLink RX4 233 "LineEvents$Fault" "next" "LLineEvents$Fault;", Cond.fieldLink RX4 236 "LineEvents$Machine" "faultEnd" "I", Cond.methodLink RX4 220 yX4_draw, Cond.instanceMethod yX4_draw, Cond.selects RX4 yX4_draw yX4_draw, Cond.code yX4_draw cX4_draw 3 (some .long), Cond.fieldLink RX4 13 "LineEvents" "drawn" "J", Cond.constantLong RX4 243 (6364136223846793005), Cond.constantLong RX4 245 (1442695040888963407), Cond.methodLink RX4 230 yX4_reject, Cond.instanceMethod yX4_reject, Cond.selects RX4 yX4_reject yX4_reject, Cond.code yX4_reject cX4_reject 2 none, Cond.fieldLink RX4 137 "LineEvents$Machine" "rejectedCount" "J", Cond.methodLink RX4 247 yX2_putAway, Cond.instanceMethod yX2_putAway, Cond.selects RX2 yX2_putAway yX2_putAway, Cond.code yX2_putAway cX2_putAway 1 none, Cond.fieldLink RX2 64 "LineEvents$Machine" "judged" "Z", Cond.methodLink RX4 239 yX4_note]
def wsX4_run_r5 : List Cond := [Cond.instanceMethod yX4_note, Cond.selects RX4 yX4_note yX4_note, Cond.code yX4_note cX4_note 4 none, Cond.fieldLink RX4 9 "LineEvents" "events" "[I", Cond.methodLink RX4 207 yX4_leave, Cond.instanceMethod yX4_leave, Cond.selects RX4 yX4_leave yX4_leave, Cond.code yX4_leave cX4_leave 2 none, Cond.fieldLink RX4 21 "LineEvents$Machine" "followed" "Z", Cond.fieldLink RX4 109 "LineEvents" "madeCount" "J", Cond.fieldLink RX4 48 "LineEvents$Machine" "behind" "LLineEvents$Buffer;", Cond.methodLink RX4 250 yX0_hasRoom, Cond.instanceMethod yX0_hasRoom, Cond.selects RX0 yX0_hasRoom yX0_hasRoom, Cond.initialized RX0, Cond.code yX0_hasRoom cX0_hasRoom 1 (some .boolean), Cond.fieldLink RX0 19 "LineEvents$Buffer" "count" "I", Cond.fieldLink RX0 9 "LineEvents$Buffer" "room" "I", Cond.methodLink RX4 253 yX0_add, Cond.instanceMethod yX0_add, Cond.selects RX0 yX0_add yX0_add, Cond.code yX0_add cX0_add 2 none, Cond.fieldLink RX0 15 "LineEvents$Buffer" "came" "[I", Cond.fieldLink RX0 22 "LineEvents$Buffer" "first" "I"]
def wsX4_run_r6 : List Cond := [Cond.methodLink RX4 210 yX4_take, Cond.instanceMethod yX4_take, Cond.selects RX4 yX4_take yX4_take, Cond.code yX4_take cX4_take 2 none, Cond.fieldLink RX4 256 "LineEvents$Machine" "before" "LLineEvents$Buffer;", Cond.fieldLink RX4 148 "LineEvents" "begunCount" "J", Cond.methodLink RX4 259 yX0_isReady, Cond.instanceMethod yX0_isReady, Cond.selects RX0 yX0_isReady yX0_isReady, Cond.code yX0_isReady cX0_isReady 2 (some .boolean), Cond.methodLink RX0 35 yX0_readyAt, Cond.instanceMethod yX0_readyAt, Cond.selects RX0 yX0_readyAt yX0_readyAt, Cond.code yX0_readyAt cX0_readyAt 1 (some .int), Cond.fieldLink RX0 25 "LineEvents$Buffer" "delay" "I", Cond.methodLink RX0 28 Lib.Math.max.name, Cond.constant RX0 34 (1000000000), Cond.methodLink RX4 262 yX0_removeFirst, Cond.instanceMethod yX0_removeFirst, Cond.selects RX0 yX0_removeFirst yX0_removeFirst, Cond.code yX0_removeFirst cX0_removeFirst 1 none, Cond.methodLink RX4 92 yX4_quietTenths, Cond.instanceMethod yX4_quietTenths, Cond.selects RX4 yX4_quietTenths yX4_quietTenths]
def wsX4_run_r7 : List Cond := [Cond.code yX4_quietTenths cX4_quietTenths 3 (some .int), Cond.methodLink RX4 265 yX2_quietTenths, Cond.instanceMethod yX2_quietTenths, Cond.selects RX2 yX2_quietTenths yX2_quietTenths, Cond.code yX2_quietTenths cX2_quietTenths 2 (some .int), Cond.fieldLink RX2 36 "LineEvents$Machine" "before" "LLineEvents$Buffer;", Cond.constant RX2 75 (1000000000), Cond.methodLink RX2 67 yX2_causeAt, Cond.instanceMethod yX2_causeAt, Cond.selects RX2 yX2_causeAt yX2_causeAt, Cond.code yX2_causeAt cX2_causeAt 2 (some .int), Cond.methodLink RX2 71 yX0_readyAt, Cond.methodLink RX4 105 yX4_passTime, Cond.instanceMethod yX4_passTime, Cond.selects RX4 yX4_passTime yX4_passTime, Cond.code yX4_passTime cX4_passTime 3 none, Cond.methodLink RX4 267 yX2_causeAt, Cond.methodLink RX4 270 yX2_spend, Cond.instanceMethod yX2_spend, Cond.selects RX2 yX2_spend yX2_spend, Cond.code yX2_spend cX2_spend 3 none, Cond.fieldLink RX2 22 "LineEvents$Machine" "times" "[J"]
def wsX4_run : List Cond := .code yX4_run cX4_run 4 (some .int) :: ((wsX4_run_r1 ++ (wsX4_run_r2 ++ (wsX4_run_r3 ++ (wsX4_run_r4 ++ (wsX4_run_r5 ++ (wsX4_run_r6 ++ wsX4_run_r7)))))) ++ wsX40 ++ wsX20 ++ wsX30 ++ wsX10 ++ wsX00)
def wsX4_event : List Cond := .code yX4_event cX4_event 3 (some .int) :: ([.fieldLink RX4 80 "LineEvents" "eventCount" "I", .fieldLink RX4 9 "LineEvents" "events" "[I", .methodLink RX4 31 yX4_within, .static yX4_within, .initialized RX4, .code yX4_within cX4_within 3 (some .boolean)] ++ wsX40)
def wsX4_made : List Cond := .code yX4_made cX4_made 1 (some .long) :: ([.fieldLink RX4 109 "LineEvents" "madeCount" "J"] ++ wsX40)
def wsX4_inside : List Cond := .code yX4_inside cX4_inside 4 (some .long) :: ([.fieldLink RX4 38 "LineEvents" "highest" "LLineEvents$Machine;", .fieldLink RX4 48 "LineEvents$Machine" "behind" "LLineEvents$Buffer;", .fieldLink RX4 112 "LineEvents$Buffer" "count" "I", .fieldLink RX4 115 "LineEvents$Machine" "hasBottle" "Z", .fieldLink RX4 118 "LineEvents$Machine" "lower" "LLineEvents$Machine;"] ++ wsX40 ++ wsX20 ++ wsX00)
def wsX4_known : List Cond := .code yX4_known cX4_known 3 (some (.object "LineEvents$Machine")) :: ([.classLink RX4 151 RJx00060, .instantiable RJx00060 6, .initialized RJx00060, .methodLink RX4 17 yX4_find, .instanceMethod yX4_find, .selects RX4 yX4_find yX4_find, .initialized RX4, .code yX4_find cX4_find 3 (some (.object "LineEvents$Machine")), .fieldLink RX4 38 "LineEvents" "highest" "LLineEvents$Machine;", .fieldLink RX4 45 "LineEvents$Machine" "number" "I", .fieldLink RX4 118 "LineEvents$Machine" "lower" "LLineEvents$Machine;"] ++ wsJx000600 ++ wsX40 ++ wsX20)
def wsX4_isCause : List Cond := .code yX4_isCause cX4_isCause 1 (some .boolean) :: ([.methodLink RX4 31 yX4_within, .static yX4_within, .initialized RX4, .code yX4_within cX4_within 3 (some .boolean)])
def wsX4_lost : List Cond := .code yX4_lost cX4_lost 4 (some .long) :: ([.fieldLink RX4 128 "LineEvents$Machine" "times" "[J", .fieldLink RX4 132 "LineEvents$Machine" "takes" "I", .constantLong RX4 135 (-1), .methodLink RX4 121 yX4_known, .instanceMethod yX4_known, .selects RX4 yX4_known yX4_known, .initialized RX4, .code yX4_known cX4_known 3 (some (.object "LineEvents$Machine")), .classLink RX4 151 RJx00060, .instantiable RJx00060 6, .initialized RJx00060, .methodLink RX4 17 yX4_find, .instanceMethod yX4_find, .selects RX4 yX4_find yX4_find, .code yX4_find cX4_find 3 (some (.object "LineEvents$Machine")), .fieldLink RX4 38 "LineEvents" "highest" "LLineEvents$Machine;", .fieldLink RX4 45 "LineEvents$Machine" "number" "I", .fieldLink RX4 118 "LineEvents$Machine" "lower" "LLineEvents$Machine;", .methodLink RX4 124 yX4_isCause, .static yX4_isCause, .code yX4_isCause cX4_isCause 1 (some .boolean), .methodLink RX4 31 yX4_within, .static yX4_within, .code yX4_within cX4_within 3 (some .boolean)] ++ wsX20 ++ wsJx000600 ++ wsX40)
def wsX4_rejected : List Cond := .code yX4_rejected cX4_rejected 2 (some .long) :: ([.fieldLink RX4 137 "LineEvents$Machine" "rejectedCount" "J", .methodLink RX4 121 yX4_known, .instanceMethod yX4_known, .selects RX4 yX4_known yX4_known, .initialized RX4, .code yX4_known cX4_known 3 (some (.object "LineEvents$Machine")), .classLink RX4 151 RJx00060, .instantiable RJx00060 6, .initialized RJx00060, .methodLink RX4 17 yX4_find, .instanceMethod yX4_find, .selects RX4 yX4_find yX4_find, .code yX4_find cX4_find 3 (some (.object "LineEvents$Machine")), .fieldLink RX4 38 "LineEvents" "highest" "LLineEvents$Machine;", .fieldLink RX4 45 "LineEvents$Machine" "number" "I", .fieldLink RX4 118 "LineEvents$Machine" "lower" "LLineEvents$Machine;"] ++ wsX20 ++ wsJx000600 ++ wsX40)
def wsX4_change_r1 : List Cond := [Cond.constant RX4 140 (1000000), Cond.constant RX4 79 (1000000000), Cond.methodLink RX4 31 yX4_within, Cond.static yX4_within, Cond.initialized RX4, Cond.code yX4_within cX4_within 3 (some .boolean), Cond.methodLink RX4 75 yX4_addRow, Cond.instanceMethod yX4_addRow, Cond.selects RX4 yX4_addRow yX4_addRow, Cond.code yX4_addRow cX4_addRow 5 (some .boolean), Cond.fieldLink RX4 158 "LineEvents" "rowCount" "I", Cond.fieldLink RX4 27 "LineEvents" "now" "I", Cond.classLink RX4 161 RX3, Cond.instantiable RX3 5, Cond.initialized RX3, Cond.fieldLink RX4 163 "LineEvents" "newestRow" "LLineEvents$Row;", Cond.fieldLink RX4 83 "LineEvents" "rowsTurn" "I", Cond.methodLink RX4 167 yX3_init, Cond.instanceMethod yX3_init, Cond.code yX3_init cX3_init 6 none, Cond.methodLink RX3 3 objectInit, Cond.instanceMethod objectInit, Cond.code objectInit ⟨#[0xb1]⟩ 1 none, Cond.fieldLink RX3 9 "LineEvents$Row" "machine" "I"]
def wsX4_change_r2 : List Cond := [Cond.fieldLink RX3 15 "LineEvents$Row" "from" "I", Cond.fieldLink RX3 18 "LineEvents$Row" "to" "I", Cond.fieldLink RX3 21 "LineEvents$Row" "cause" "I", Cond.fieldLink RX3 24 "LineEvents$Row" "earlier" "LLineEvents$Row;"]
def wsX4_change : List Cond := .code yX4_change cX4_change 3 (some .boolean) :: ((wsX4_change_r1 ++ wsX4_change_r2) ++ wsX40 ++ wsX30)
def wsX4_rest : List Cond := .code yX4_rest cX4_rest 3 (some .boolean) :: ([.methodLink RX4 75 yX4_addRow, .instanceMethod yX4_addRow, .selects RX4 yX4_addRow yX4_addRow, .initialized RX4, .code yX4_addRow cX4_addRow 5 (some .boolean), .fieldLink RX4 158 "LineEvents" "rowCount" "I", .fieldLink RX4 27 "LineEvents" "now" "I", .constant RX4 79 (1000000000), .classLink RX4 161 RX3, .instantiable RX3 5, .initialized RX3, .fieldLink RX4 163 "LineEvents" "newestRow" "LLineEvents$Row;", .fieldLink RX4 83 "LineEvents" "rowsTurn" "I", .methodLink RX4 167 yX3_init, .instanceMethod yX3_init, .code yX3_init cX3_init 6 none, .methodLink RX3 3 objectInit, .instanceMethod objectInit, .code objectInit ⟨#[0xb1]⟩ 1 none, .fieldLink RX3 9 "LineEvents$Row" "machine" "I", .fieldLink RX3 15 "LineEvents$Row" "from" "I", .fieldLink RX3 18 "LineEvents$Row" "to" "I", .fieldLink RX3 21 "LineEvents$Row" "cause" "I", .fieldLink RX3 24 "LineEvents$Row" "earlier" "LLineEvents$Row;"] ++ wsX40 ++ wsX30)
def wsX4_time : List Cond := .code yX4_time cX4_time 4 (some .long) :: ([.fieldLink RX4 128 "LineEvents$Machine" "times" "[J", .constantLong RX4 135 (-1), .methodLink RX4 121 yX4_known, .instanceMethod yX4_known, .selects RX4 yX4_known yX4_known, .initialized RX4, .code yX4_known cX4_known 3 (some (.object "LineEvents$Machine")), .classLink RX4 151 RJx00060, .instantiable RJx00060 6, .initialized RJx00060, .methodLink RX4 17 yX4_find, .instanceMethod yX4_find, .selects RX4 yX4_find yX4_find, .code yX4_find cX4_find 3 (some (.object "LineEvents$Machine")), .fieldLink RX4 38 "LineEvents" "highest" "LLineEvents$Machine;", .fieldLink RX4 45 "LineEvents$Machine" "number" "I", .fieldLink RX4 118 "LineEvents$Machine" "lower" "LLineEvents$Machine;", .methodLink RX4 124 yX4_isCause, .static yX4_isCause, .code yX4_isCause cX4_isCause 1 (some .boolean), .methodLink RX4 31 yX4_within, .static yX4_within, .code yX4_within cX4_within 3 (some .boolean)] ++ wsX20 ++ wsJx000600 ++ wsX40)
def wsX4_kept : List Cond := .code yX4_kept cX4_kept 4 (some .boolean) :: ([.fieldLink RX4 109 "LineEvents" "madeCount" "J", .fieldLink RX4 38 "LineEvents" "highest" "LLineEvents$Machine;", .fieldLink RX4 137 "LineEvents$Machine" "rejectedCount" "J", .fieldLink RX4 27 "LineEvents" "now" "I", .fieldLink RX4 118 "LineEvents$Machine" "lower" "LLineEvents$Machine;", .fieldLink RX4 148 "LineEvents" "begunCount" "J", .methodLink RX4 141 yX4_inside, .instanceMethod yX4_inside, .selects RX4 yX4_inside yX4_inside, .initialized RX4, .code yX4_inside cX4_inside 4 (some .long), .fieldLink RX4 48 "LineEvents$Machine" "behind" "LLineEvents$Buffer;", .fieldLink RX4 112 "LineEvents$Buffer" "count" "I", .fieldLink RX4 115 "LineEvents$Machine" "hasBottle" "Z", .methodLink RX4 145 yX2_allTimes, .instanceMethod yX2_allTimes, .selects RX2 yX2_allTimes yX2_allTimes, .initialized RX2, .code yX2_allTimes cX2_allTimes 8 (some .long), .fieldLink RX2 22 "LineEvents$Machine" "times" "[J"] ++ wsX40 ++ wsX20 ++ wsX00)
def wsX5_init_r1 : List Cond := [Cond.methodLink RX5 1 objectInit, Cond.instanceMethod objectInit, Cond.code objectInit ⟨#[0xb1]⟩ 1 none, Cond.arrayClass .int, Cond.fieldLink RX5 9 "LineEventsModel" "takes" "[I", Cond.fieldLink RX5 13 "LineEventsModel" "before" "[I", Cond.fieldLink RX5 16 "LineEventsModel" "behind" "[I", Cond.fieldLink RX5 19 "LineEventsModel" "room" "[I", Cond.fieldLink RX5 22 "LineEventsModel" "delay" "[I", Cond.fieldLink RX5 25 "LineEventsModel" "bottle" "[I", Cond.fieldLink RX5 28 "LineEventsModel" "worked" "[I", Cond.fieldLink RX5 31 "LineEventsModel" "faultEnd" "[I", Cond.fieldLink RX5 34 "LineEventsModel" "came" "[I", Cond.fieldLink RX5 37 "LineEventsModel" "first" "[I", Cond.fieldLink RX5 40 "LineEventsModel" "many" "[I", Cond.arrayClass .long, Cond.fieldLink RX5 43 "LineEventsModel" "faultAbove" "[J", Cond.fieldLink RX5 47 "LineEventsModel" "faultBelow" "[J", Cond.fieldLink RX5 50 "LineEventsModel" "faultTenths" "[I", Cond.fieldLink RX5 53 "LineEventsModel" "faults" "[I", Cond.fieldLink RX5 56 "LineEventsModel" "rowMachine" "[I", Cond.fieldLink RX5 59 "LineEventsModel" "rowFrom" "[I", Cond.fieldLink RX5 62 "LineEventsModel" "rowTo" "[I", Cond.fieldLink RX5 65 "LineEventsModel" "rowCause" "[I"]
def wsX5_init_r2 : List Cond := [Cond.fieldLink RX5 68 "LineEventsModel" "times" "[J", Cond.fieldLink RX5 71 "LineEventsModel" "rejects" "[J", Cond.fieldLink RX5 74 "LineEventsModel" "eventAt" "[I", Cond.fieldLink RX5 77 "LineEventsModel" "eventMachine" "[I", Cond.fieldLink RX5 80 "LineEventsModel" "eventKind" "[I", Cond.fieldLink RX5 83 "LineEventsModel" "drawn" "J"]
def wsX5_init : List Cond := .code yX5_init cX5_init 3 none :: ((wsX5_init_r1 ++ wsX5_init_r2) ++ wsX50)
def wsX5_thrown : List Cond := .code yX5_thrown cX5_thrown 1 (some .int) :: ([.fieldLink RX5 87 "LineEventsModel" "thrown" "I"] ++ wsX50)
def wsX5_isMachine : List Cond := .code yX5_isMachine cX5_isMachine 2 (some .boolean) :: ([.fieldLink RX5 91 "LineEventsModel" "machines" "I"] ++ wsX50)
def wsX5_machine : List Cond := .code yX5_machine cX5_machine 5 (some .int) :: ([.fieldLink RX5 87 "LineEventsModel" "thrown" "I", .fieldLink RX5 94 "LineEventsModel" "now" "I", .fieldLink RX5 16 "LineEventsModel" "behind" "[I", .fieldLink RX5 91 "LineEventsModel" "machines" "I", .fieldLink RX5 9 "LineEventsModel" "takes" "[I", .fieldLink RX5 13 "LineEventsModel" "before" "[I", .fieldLink RX5 19 "LineEventsModel" "room" "[I", .fieldLink RX5 22 "LineEventsModel" "delay" "[I", .methodLink RX5 97 yX5_isMachine, .instanceMethod yX5_isMachine, .selects RX5 yX5_isMachine yX5_isMachine, .initialized RX5, .code yX5_isMachine cX5_isMachine 2 (some .boolean)] ++ wsX50)
def wsX5_buffer : List Cond := .code yX5_buffer cX5_buffer 5 (some .int) :: ([.fieldLink RX5 87 "LineEventsModel" "thrown" "I", .fieldLink RX5 94 "LineEventsModel" "now" "I", .fieldLink RX5 19 "LineEventsModel" "room" "[I", .fieldLink RX5 22 "LineEventsModel" "delay" "[I", .methodLink RX5 97 yX5_isMachine, .instanceMethod yX5_isMachine, .selects RX5 yX5_isMachine yX5_isMachine, .initialized RX5, .code yX5_isMachine cX5_isMachine 2 (some .boolean), .fieldLink RX5 91 "LineEventsModel" "machines" "I"] ++ wsX50)
def wsX5_fault : List Cond := .code yX5_fault cX5_fault 8 (some .boolean) :: ([.fieldLink RX5 87 "LineEventsModel" "thrown" "I", .fieldLink RX5 94 "LineEventsModel" "now" "I", .constantLong RX5 101 (1000000), .constant RX5 103 (100000), .fieldLink RX5 53 "LineEventsModel" "faults" "[I", .fieldLink RX5 43 "LineEventsModel" "faultAbove" "[J", .fieldLink RX5 47 "LineEventsModel" "faultBelow" "[J", .fieldLink RX5 50 "LineEventsModel" "faultTenths" "[I", .methodLink RX5 97 yX5_isMachine, .instanceMethod yX5_isMachine, .selects RX5 yX5_isMachine yX5_isMachine, .initialized RX5, .code yX5_isMachine cX5_isMachine 2 (some .boolean), .fieldLink RX5 91 "LineEventsModel" "machines" "I"] ++ wsX50)
def wsX5_told : List Cond := .code yX5_told cX5_told 6 (some .boolean) :: ([.fieldLink RX5 94 "LineEventsModel" "now" "I", .constantLong RX5 104 (1000000000), .fieldLink RX5 106 "LineEventsModel" "rows" "I", .fieldLink RX5 56 "LineEventsModel" "rowMachine" "[I", .fieldLink RX5 59 "LineEventsModel" "rowFrom" "[I", .fieldLink RX5 62 "LineEventsModel" "rowTo" "[I", .fieldLink RX5 65 "LineEventsModel" "rowCause" "[I"] ++ wsX50)
def wsX5_row : List Cond := .code yX5_row cX5_row 5 (some .boolean) :: ([.fieldLink RX5 87 "LineEventsModel" "thrown" "I", .methodLink RX5 97 yX5_isMachine, .instanceMethod yX5_isMachine, .selects RX5 yX5_isMachine yX5_isMachine, .initialized RX5, .code yX5_isMachine cX5_isMachine 2 (some .boolean), .fieldLink RX5 91 "LineEventsModel" "machines" "I", .methodLink RX5 109 yX5_told, .instanceMethod yX5_told, .selects RX5 yX5_told yX5_told, .code yX5_told cX5_told 6 (some .boolean), .fieldLink RX5 94 "LineEventsModel" "now" "I", .constantLong RX5 104 (1000000000), .fieldLink RX5 106 "LineEventsModel" "rows" "I", .fieldLink RX5 56 "LineEventsModel" "rowMachine" "[I", .fieldLink RX5 59 "LineEventsModel" "rowFrom" "[I", .fieldLink RX5 62 "LineEventsModel" "rowTo" "[I", .fieldLink RX5 65 "LineEventsModel" "rowCause" "[I"] ++ wsX50)
def wsX5_change : List Cond := .code yX5_change cX5_change 3 (some .boolean) :: ([.fieldLink RX5 87 "LineEventsModel" "thrown" "I", .constant RX5 113 (1000000), .methodLink RX5 109 yX5_told, .instanceMethod yX5_told, .selects RX5 yX5_told yX5_told, .initialized RX5, .code yX5_told cX5_told 6 (some .boolean), .fieldLink RX5 94 "LineEventsModel" "now" "I", .constantLong RX5 104 (1000000000), .fieldLink RX5 106 "LineEventsModel" "rows" "I", .fieldLink RX5 56 "LineEventsModel" "rowMachine" "[I", .fieldLink RX5 59 "LineEventsModel" "rowFrom" "[I", .fieldLink RX5 62 "LineEventsModel" "rowTo" "[I", .fieldLink RX5 65 "LineEventsModel" "rowCause" "[I"] ++ wsX50)
def wsX5_rest : List Cond := .code yX5_rest cX5_rest 3 (some .boolean) :: ([.fieldLink RX5 87 "LineEventsModel" "thrown" "I", .methodLink RX5 109 yX5_told, .instanceMethod yX5_told, .selects RX5 yX5_told yX5_told, .initialized RX5, .code yX5_told cX5_told 6 (some .boolean), .fieldLink RX5 94 "LineEventsModel" "now" "I", .constantLong RX5 104 (1000000000), .fieldLink RX5 106 "LineEventsModel" "rows" "I", .fieldLink RX5 56 "LineEventsModel" "rowMachine" "[I", .fieldLink RX5 59 "LineEventsModel" "rowFrom" "[I", .fieldLink RX5 62 "LineEventsModel" "rowTo" "[I", .fieldLink RX5 65 "LineEventsModel" "rowCause" "[I"] ++ wsX50)
def wsX5_held : List Cond := .code yX5_held cX5_held 3 (some .int) :: ([.fieldLink RX5 106 "LineEventsModel" "rows" "I", .fieldLink RX5 56 "LineEventsModel" "rowMachine" "[I", .fieldLink RX5 59 "LineEventsModel" "rowFrom" "[I", .fieldLink RX5 94 "LineEventsModel" "now" "I", .fieldLink RX5 62 "LineEventsModel" "rowTo" "[I", .fieldLink RX5 65 "LineEventsModel" "rowCause" "[I"] ++ wsX50)
def wsX5_note : List Cond := .code yX5_note cX5_note 3 none :: ([.fieldLink RX5 114 "LineEventsModel" "events" "I", .fieldLink RX5 74 "LineEventsModel" "eventAt" "[I", .fieldLink RX5 94 "LineEventsModel" "now" "I", .fieldLink RX5 77 "LineEventsModel" "eventMachine" "[I", .fieldLink RX5 80 "LineEventsModel" "eventKind" "[I"] ++ wsX50)
def wsX5_draw : List Cond := .code yX5_draw cX5_draw 3 (some .long) :: ([.fieldLink RX5 83 "LineEventsModel" "drawn" "J", .constantLong RX5 117 (6364136223846793005), .constantLong RX5 119 (1442695040888963407)] ++ wsX50)
def wsX5_judge : List Cond := .code yX5_judge cX5_judge 6 (some .boolean) :: ([.fieldLink RX5 25 "LineEventsModel" "bottle" "[I", .fieldLink RX5 53 "LineEventsModel" "faults" "[I", .fieldLink RX5 47 "LineEventsModel" "faultBelow" "[J", .fieldLink RX5 43 "LineEventsModel" "faultAbove" "[J", .fieldLink RX5 50 "LineEventsModel" "faultTenths" "[I", .fieldLink RX5 71 "LineEventsModel" "rejects" "[J", .fieldLink RX5 31 "LineEventsModel" "faultEnd" "[I", .fieldLink RX5 94 "LineEventsModel" "now" "I", .methodLink RX5 121 yX5_draw, .instanceMethod yX5_draw, .selects RX5 yX5_draw yX5_draw, .initialized RX5, .code yX5_draw cX5_draw 3 (some .long), .fieldLink RX5 83 "LineEventsModel" "drawn" "J", .constantLong RX5 117 (6364136223846793005), .constantLong RX5 119 (1442695040888963407), .methodLink RX5 125 yX5_note, .instanceMethod yX5_note, .selects RX5 yX5_note yX5_note, .code yX5_note cX5_note 3 none, .fieldLink RX5 114 "LineEventsModel" "events" "I", .fieldLink RX5 74 "LineEventsModel" "eventAt" "[I", .fieldLink RX5 77 "LineEventsModel" "eventMachine" "[I", .fieldLink RX5 80 "LineEventsModel" "eventKind" "[I"] ++ wsX50)
def wsX5_leave : List Cond := .code yX5_leave cX5_leave 2 none :: ([.fieldLink RX5 16 "LineEventsModel" "behind" "[I", .fieldLink RX5 129 "LineEventsModel" "made" "J", .fieldLink RX5 40 "LineEventsModel" "many" "[I", .fieldLink RX5 19 "LineEventsModel" "room" "[I", .fieldLink RX5 34 "LineEventsModel" "came" "[I", .fieldLink RX5 37 "LineEventsModel" "first" "[I", .fieldLink RX5 94 "LineEventsModel" "now" "I", .fieldLink RX5 25 "LineEventsModel" "bottle" "[I", .methodLink RX5 125 yX5_note, .instanceMethod yX5_note, .selects RX5 yX5_note yX5_note, .initialized RX5, .code yX5_note cX5_note 3 none, .fieldLink RX5 114 "LineEventsModel" "events" "I", .fieldLink RX5 74 "LineEventsModel" "eventAt" "[I", .fieldLink RX5 77 "LineEventsModel" "eventMachine" "[I", .fieldLink RX5 80 "LineEventsModel" "eventKind" "[I"] ++ wsX50)
def wsX5_take : List Cond := .code yX5_take cX5_take 4 none :: ([.fieldLink RX5 13 "LineEventsModel" "before" "[I", .fieldLink RX5 132 "LineEventsModel" "begun" "J", .fieldLink RX5 40 "LineEventsModel" "many" "[I", .fieldLink RX5 94 "LineEventsModel" "now" "I", .fieldLink RX5 34 "LineEventsModel" "came" "[I", .fieldLink RX5 37 "LineEventsModel" "first" "[I", .fieldLink RX5 22 "LineEventsModel" "delay" "[I", .fieldLink RX5 25 "LineEventsModel" "bottle" "[I", .fieldLink RX5 28 "LineEventsModel" "worked" "[I", .methodLink RX5 125 yX5_note, .instanceMethod yX5_note, .selects RX5 yX5_note yX5_note, .initialized RX5, .code yX5_note cX5_note 3 none, .fieldLink RX5 114 "LineEventsModel" "events" "I", .fieldLink RX5 74 "LineEventsModel" "eventAt" "[I", .fieldLink RX5 77 "LineEventsModel" "eventMachine" "[I", .fieldLink RX5 80 "LineEventsModel" "eventKind" "[I"] ++ wsX50)
def wsX5_act_r1 : List Cond := [Cond.fieldLink RX5 31 "LineEventsModel" "faultEnd" "[I", Cond.fieldLink RX5 94 "LineEventsModel" "now" "I", Cond.fieldLink RX5 25 "LineEventsModel" "bottle" "[I", Cond.fieldLink RX5 28 "LineEventsModel" "worked" "[I", Cond.fieldLink RX5 9 "LineEventsModel" "takes" "[I", Cond.methodLink RX5 135 yX5_held, Cond.instanceMethod yX5_held, Cond.selects RX5 yX5_held yX5_held, Cond.initialized RX5, Cond.code yX5_held cX5_held 3 (some .int), Cond.fieldLink RX5 106 "LineEventsModel" "rows" "I", Cond.fieldLink RX5 56 "LineEventsModel" "rowMachine" "[I", Cond.fieldLink RX5 59 "LineEventsModel" "rowFrom" "[I", Cond.fieldLink RX5 62 "LineEventsModel" "rowTo" "[I", Cond.fieldLink RX5 65 "LineEventsModel" "rowCause" "[I", Cond.methodLink RX5 139 yX5_judge, Cond.instanceMethod yX5_judge, Cond.selects RX5 yX5_judge yX5_judge, Cond.code yX5_judge cX5_judge 6 (some .boolean), Cond.fieldLink RX5 53 "LineEventsModel" "faults" "[I", Cond.fieldLink RX5 47 "LineEventsModel" "faultBelow" "[J", Cond.fieldLink RX5 43 "LineEventsModel" "faultAbove" "[J", Cond.fieldLink RX5 50 "LineEventsModel" "faultTenths" "[I", Cond.fieldLink RX5 71 "LineEventsModel" "rejects" "[J"]
def wsX5_act_r2 : List Cond := [Cond.methodLink RX5 121 yX5_draw, Cond.instanceMethod yX5_draw, Cond.selects RX5 yX5_draw yX5_draw, Cond.code yX5_draw cX5_draw 3 (some .long), Cond.fieldLink RX5 83 "LineEventsModel" "drawn" "J", Cond.constantLong RX5 117 (6364136223846793005), Cond.constantLong RX5 119 (1442695040888963407), Cond.methodLink RX5 125 yX5_note, Cond.instanceMethod yX5_note, Cond.selects RX5 yX5_note yX5_note, Cond.code yX5_note cX5_note 3 none, Cond.fieldLink RX5 114 "LineEventsModel" "events" "I", Cond.fieldLink RX5 74 "LineEventsModel" "eventAt" "[I", Cond.fieldLink RX5 77 "LineEventsModel" "eventMachine" "[I", Cond.fieldLink RX5 80 "LineEventsModel" "eventKind" "[I", Cond.methodLink RX5 142 yX5_leave, Cond.instanceMethod yX5_leave, Cond.selects RX5 yX5_leave yX5_leave, Cond.code yX5_leave cX5_leave 2 none, Cond.fieldLink RX5 16 "LineEventsModel" "behind" "[I", Cond.fieldLink RX5 129 "LineEventsModel" "made" "J", Cond.fieldLink RX5 40 "LineEventsModel" "many" "[I", Cond.fieldLink RX5 19 "LineEventsModel" "room" "[I", Cond.fieldLink RX5 34 "LineEventsModel" "came" "[I"]
def wsX5_act_r3 : List Cond := [Cond.fieldLink RX5 37 "LineEventsModel" "first" "[I", Cond.methodLink RX5 146 yX5_take, Cond.instanceMethod yX5_take, Cond.selects RX5 yX5_take yX5_take, Cond.code yX5_take cX5_take 4 none, Cond.fieldLink RX5 13 "LineEventsModel" "before" "[I", Cond.fieldLink RX5 132 "LineEventsModel" "begun" "J", Cond.fieldLink RX5 22 "LineEventsModel" "delay" "[I"]
def wsX5_act : List Cond := .code yX5_act cX5_act 2 none :: ((wsX5_act_r1 ++ (wsX5_act_r2 ++ wsX5_act_r3)) ++ wsX50)
def wsX5_causeOf : List Cond := .code yX5_causeOf cX5_causeOf 3 (some .int) :: ([.fieldLink RX5 31 "LineEventsModel" "faultEnd" "[I", .fieldLink RX5 94 "LineEventsModel" "now" "I", .fieldLink RX5 25 "LineEventsModel" "bottle" "[I", .methodLink RX5 135 yX5_held, .instanceMethod yX5_held, .selects RX5 yX5_held yX5_held, .initialized RX5, .code yX5_held cX5_held 3 (some .int), .fieldLink RX5 106 "LineEventsModel" "rows" "I", .fieldLink RX5 56 "LineEventsModel" "rowMachine" "[I", .fieldLink RX5 59 "LineEventsModel" "rowFrom" "[I", .fieldLink RX5 62 "LineEventsModel" "rowTo" "[I", .fieldLink RX5 65 "LineEventsModel" "rowCause" "[I"] ++ wsX50)
def wsX5_run_r1 : List Cond := [Cond.fieldLink RX5 87 "LineEventsModel" "thrown" "I", Cond.constant RX5 103 (100000), Cond.fieldLink RX5 94 "LineEventsModel" "now" "I", Cond.constantLong RX5 104 (1000000000), Cond.fieldLink RX5 114 "LineEventsModel" "events" "I", Cond.fieldLink RX5 91 "LineEventsModel" "machines" "I", Cond.fieldLink RX5 68 "LineEventsModel" "times" "[J", Cond.fieldLink RX5 28 "LineEventsModel" "worked" "[I", Cond.methodLink RX5 149 yX5_act, Cond.instanceMethod yX5_act, Cond.selects RX5 yX5_act yX5_act, Cond.initialized RX5, Cond.code yX5_act cX5_act 2 none, Cond.fieldLink RX5 31 "LineEventsModel" "faultEnd" "[I", Cond.fieldLink RX5 25 "LineEventsModel" "bottle" "[I", Cond.fieldLink RX5 9 "LineEventsModel" "takes" "[I", Cond.methodLink RX5 135 yX5_held, Cond.instanceMethod yX5_held, Cond.selects RX5 yX5_held yX5_held, Cond.code yX5_held cX5_held 3 (some .int), Cond.fieldLink RX5 106 "LineEventsModel" "rows" "I", Cond.fieldLink RX5 56 "LineEventsModel" "rowMachine" "[I", Cond.fieldLink RX5 59 "LineEventsModel" "rowFrom" "[I", Cond.fieldLink RX5 62 "LineEventsModel" "rowTo" "[I"]
def wsX5_run_r2 : List Cond := [Cond.fieldLink RX5 65 "LineEventsModel" "rowCause" "[I", Cond.methodLink RX5 139 yX5_judge, Cond.instanceMethod yX5_judge, Cond.selects RX5 yX5_judge yX5_judge, Cond.code yX5_judge cX5_judge 6 (some .boolean), Cond.fieldLink RX5 53 "LineEventsModel" "faults" "[I", Cond.fieldLink RX5 47 "LineEventsModel" "faultBelow" "[J", Cond.fieldLink RX5 43 "LineEventsModel" "faultAbove" "[J", Cond.fieldLink RX5 50 "LineEventsModel" "faultTenths" "[I", Cond.fieldLink RX5 71 "LineEventsModel" "rejects" "[J", Cond.methodLink RX5 121 yX5_draw, Cond.instanceMethod yX5_draw, Cond.selects RX5 yX5_draw yX5_draw, Cond.code yX5_draw cX5_draw 3 (some .long), Cond.fieldLink RX5 83 "LineEventsModel" "drawn" "J", Cond.constantLong RX5 117 (6364136223846793005), Cond.constantLong RX5 119 (1442695040888963407), Cond.methodLink RX5 125 yX5_note, Cond.instanceMethod yX5_note, Cond.selects RX5 yX5_note yX5_note, Cond.code yX5_note cX5_note 3 none, Cond.fieldLink RX5 74 "LineEventsModel" "eventAt" "[I", Cond.fieldLink RX5 77 "LineEventsModel" "eventMachine" "[I", Cond.fieldLink RX5 80 "LineEventsModel" "eventKind" "[I"]
def wsX5_run_r3 : List Cond := [Cond.methodLink RX5 142 yX5_leave, Cond.instanceMethod yX5_leave, Cond.selects RX5 yX5_leave yX5_leave, Cond.code yX5_leave cX5_leave 2 none, Cond.fieldLink RX5 16 "LineEventsModel" "behind" "[I", Cond.fieldLink RX5 129 "LineEventsModel" "made" "J", Cond.fieldLink RX5 40 "LineEventsModel" "many" "[I", Cond.fieldLink RX5 19 "LineEventsModel" "room" "[I", Cond.fieldLink RX5 34 "LineEventsModel" "came" "[I", Cond.fieldLink RX5 37 "LineEventsModel" "first" "[I", Cond.methodLink RX5 146 yX5_take, Cond.instanceMethod yX5_take, Cond.selects RX5 yX5_take yX5_take, Cond.code yX5_take cX5_take 4 none, Cond.fieldLink RX5 13 "LineEventsModel" "before" "[I", Cond.fieldLink RX5 132 "LineEventsModel" "begun" "J", Cond.fieldLink RX5 22 "LineEventsModel" "delay" "[I", Cond.methodLink RX5 152 yX5_causeOf, Cond.instanceMethod yX5_causeOf, Cond.selects RX5 yX5_causeOf yX5_causeOf, Cond.code yX5_causeOf cX5_causeOf 3 (some .int)]
def wsX5_run : List Cond := .code yX5_run cX5_run 5 (some .int) :: ((wsX5_run_r1 ++ (wsX5_run_r2 ++ wsX5_run_r3)) ++ wsX50)
def wsX5_event : List Cond := .code yX5_event cX5_event 3 (some .int) :: ([.fieldLink RX5 87 "LineEventsModel" "thrown" "I", .fieldLink RX5 114 "LineEventsModel" "events" "I", .fieldLink RX5 74 "LineEventsModel" "eventAt" "[I", .fieldLink RX5 77 "LineEventsModel" "eventMachine" "[I", .fieldLink RX5 80 "LineEventsModel" "eventKind" "[I"] ++ wsX50)
def wsX5_made : List Cond := .code yX5_made cX5_made 1 (some .long) :: ([.fieldLink RX5 87 "LineEventsModel" "thrown" "I", .fieldLink RX5 129 "LineEventsModel" "made" "J"] ++ wsX50)
def wsX5_within : List Cond := .code yX5_within cX5_within 4 (some .long) :: ([.fieldLink RX5 91 "LineEventsModel" "machines" "I", .fieldLink RX5 40 "LineEventsModel" "many" "[I", .fieldLink RX5 25 "LineEventsModel" "bottle" "[I"] ++ wsX50)
def wsX5_inside : List Cond := .code yX5_inside cX5_inside 1 (some .long) :: ([.fieldLink RX5 87 "LineEventsModel" "thrown" "I", .methodLink RX5 155 yX5_within, .instanceMethod yX5_within, .selects RX5 yX5_within yX5_within, .initialized RX5, .code yX5_within cX5_within 4 (some .long), .fieldLink RX5 91 "LineEventsModel" "machines" "I", .fieldLink RX5 40 "LineEventsModel" "many" "[I", .fieldLink RX5 25 "LineEventsModel" "bottle" "[I"] ++ wsX50)
def wsX5_lost : List Cond := .code yX5_lost cX5_lost 3 (some .long) :: ([.fieldLink RX5 87 "LineEventsModel" "thrown" "I", .constantLong RX5 159 (-1), .fieldLink RX5 68 "LineEventsModel" "times" "[J", .fieldLink RX5 9 "LineEventsModel" "takes" "[I", .methodLink RX5 97 yX5_isMachine, .instanceMethod yX5_isMachine, .selects RX5 yX5_isMachine yX5_isMachine, .initialized RX5, .code yX5_isMachine cX5_isMachine 2 (some .boolean), .fieldLink RX5 91 "LineEventsModel" "machines" "I"] ++ wsX50)
def wsX5_rejected : List Cond := .code yX5_rejected cX5_rejected 2 (some .long) :: ([.fieldLink RX5 87 "LineEventsModel" "thrown" "I", .constantLong RX5 159 (-1), .fieldLink RX5 71 "LineEventsModel" "rejects" "[J", .methodLink RX5 97 yX5_isMachine, .instanceMethod yX5_isMachine, .selects RX5 yX5_isMachine yX5_isMachine, .initialized RX5, .code yX5_isMachine cX5_isMachine 2 (some .boolean), .fieldLink RX5 91 "LineEventsModel" "machines" "I"] ++ wsX50)
def wsX5_time : List Cond := .code yX5_time cX5_time 3 (some .long) :: ([.fieldLink RX5 87 "LineEventsModel" "thrown" "I", .constantLong RX5 159 (-1), .fieldLink RX5 68 "LineEventsModel" "times" "[J", .methodLink RX5 97 yX5_isMachine, .instanceMethod yX5_isMachine, .selects RX5 yX5_isMachine yX5_isMachine, .initialized RX5, .code yX5_isMachine cX5_isMachine 2 (some .boolean), .fieldLink RX5 91 "LineEventsModel" "machines" "I"] ++ wsX50)
def wsX5_kept : List Cond := .code yX5_kept cX5_kept 8 (some .boolean) :: ([.fieldLink RX5 87 "LineEventsModel" "thrown" "I", .fieldLink RX5 129 "LineEventsModel" "made" "J", .fieldLink RX5 91 "LineEventsModel" "machines" "I", .fieldLink RX5 71 "LineEventsModel" "rejects" "[J", .fieldLink RX5 68 "LineEventsModel" "times" "[J", .fieldLink RX5 94 "LineEventsModel" "now" "I", .fieldLink RX5 132 "LineEventsModel" "begun" "J", .methodLink RX5 155 yX5_within, .instanceMethod yX5_within, .selects RX5 yX5_within yX5_within, .initialized RX5, .code yX5_within cX5_within 4 (some .long), .fieldLink RX5 40 "LineEventsModel" "many" "[I", .fieldLink RX5 25 "LineEventsModel" "bottle" "[I"] ++ wsX50)
def wsJx00060_init_a7421 : List Cond := .code yJx00060_init_a7421 cJx00060_init_a7421 2 none :: ([])
def wsJ9_max_7cf53 : List Cond := .code yJ9_max_7cf53 cJ9_max_7cf53 2 (some .int) :: ([])
def wsJ9_min_7cf53 : List Cond := .code yJ9_min_7cf53 cJ9_min_7cf53 2 (some .int) :: ([])
def wsL_cell : List Cond := .code yL_cell cL_cell 2 (some .int) :: ([])
def wsL_lost_r1 : List Cond := [Cond.methodLink RL 7 yX4_lost, Cond.instanceMethod yX4_lost, Cond.selects RX4 yX4_lost yX4_lost, Cond.initialized RX4, Cond.code yX4_lost cX4_lost 4 (some .long), Cond.fieldLink RX4 128 "LineEvents$Machine" "times" "[J", Cond.fieldLink RX4 132 "LineEvents$Machine" "takes" "I", Cond.constantLong RX4 135 (-1), Cond.methodLink RX4 121 yX4_known, Cond.instanceMethod yX4_known, Cond.selects RX4 yX4_known yX4_known, Cond.code yX4_known cX4_known 3 (some (.object "LineEvents$Machine")), Cond.classLink RX4 151 RJx00060, Cond.instantiable RJx00060 6, Cond.initialized RJx00060, Cond.methodLink RX4 17 yX4_find, Cond.instanceMethod yX4_find, Cond.selects RX4 yX4_find yX4_find, Cond.code yX4_find cX4_find 3 (some (.object "LineEvents$Machine")), Cond.fieldLink RX4 38 "LineEvents" "highest" "LLineEvents$Machine;", Cond.fieldLink RX4 45 "LineEvents$Machine" "number" "I", Cond.fieldLink RX4 118 "LineEvents$Machine" "lower" "LLineEvents$Machine;", Cond.methodLink RX4 124 yX4_isCause, Cond.static yX4_isCause]
def wsL_lost_r2 : List Cond := [Cond.code yX4_isCause cX4_isCause 1 (some .boolean), Cond.methodLink RX4 31 yX4_within, Cond.static yX4_within, Cond.code yX4_within cX4_within 3 (some .boolean)]
def wsL_lost : List Cond := .codeWith yL_lost cL_lost 5 (some .int) [(0, 9, 12, 13)] :: ((wsL_lost_r1 ++ wsL_lost_r2) ++ wsX20 ++ wsJx000600 ++ wsX40)
def wsL_rejected : List Cond := .codeWith yL_rejected cL_rejected 4 (some .int) [(0, 8, 11, 13)] :: ([.methodLink RL 15 yX4_rejected, .instanceMethod yX4_rejected, .selects RX4 yX4_rejected yX4_rejected, .initialized RX4, .code yX4_rejected cX4_rejected 2 (some .long), .fieldLink RX4 137 "LineEvents$Machine" "rejectedCount" "J", .methodLink RX4 121 yX4_known, .instanceMethod yX4_known, .selects RX4 yX4_known yX4_known, .code yX4_known cX4_known 3 (some (.object "LineEvents$Machine")), .classLink RX4 151 RJx00060, .instantiable RJx00060 6, .initialized RJx00060, .methodLink RX4 17 yX4_find, .instanceMethod yX4_find, .selects RX4 yX4_find yX4_find, .code yX4_find cX4_find 3 (some (.object "LineEvents$Machine")), .fieldLink RX4 38 "LineEvents" "highest" "LLineEvents$Machine;", .fieldLink RX4 45 "LineEvents$Machine" "number" "I", .fieldLink RX4 118 "LineEvents$Machine" "lower" "LLineEvents$Machine;"] ++ wsX20 ++ wsJx000600 ++ wsX40)
def wsL_time_r1 : List Cond := [Cond.methodLink RL 19 yX4_time, Cond.instanceMethod yX4_time, Cond.selects RX4 yX4_time yX4_time, Cond.initialized RX4, Cond.code yX4_time cX4_time 4 (some .long), Cond.fieldLink RX4 128 "LineEvents$Machine" "times" "[J", Cond.constantLong RX4 135 (-1), Cond.methodLink RX4 121 yX4_known, Cond.instanceMethod yX4_known, Cond.selects RX4 yX4_known yX4_known, Cond.code yX4_known cX4_known 3 (some (.object "LineEvents$Machine")), Cond.classLink RX4 151 RJx00060, Cond.instantiable RJx00060 6, Cond.initialized RJx00060, Cond.methodLink RX4 17 yX4_find, Cond.instanceMethod yX4_find, Cond.selects RX4 yX4_find yX4_find, Cond.code yX4_find cX4_find 3 (some (.object "LineEvents$Machine")), Cond.fieldLink RX4 38 "LineEvents" "highest" "LLineEvents$Machine;", Cond.fieldLink RX4 45 "LineEvents$Machine" "number" "I", Cond.fieldLink RX4 118 "LineEvents$Machine" "lower" "LLineEvents$Machine;", Cond.methodLink RX4 124 yX4_isCause, Cond.static yX4_isCause, Cond.code yX4_isCause cX4_isCause 1 (some .boolean)]
def wsL_time_r2 : List Cond := [Cond.methodLink RX4 31 yX4_within, Cond.static yX4_within, Cond.code yX4_within cX4_within 3 (some .boolean)]
def wsL_time : List Cond := .codeWith yL_time cL_time 5 (some .int) [(0, 9, 12, 13)] :: ((wsL_time_r1 ++ wsL_time_r2) ++ wsX20 ++ wsJx000600 ++ wsX40)
def wsL_law_r1 : List Cond := [Cond.classLink RL 8 RX4, Cond.instantiable RX4 11, Cond.initialized RX4, Cond.classLink RL 31 RX5, Cond.instantiable RX5 32, Cond.initialized RX5, Cond.arrayClass .long, Cond.constantLong RL 44 (4294967295), Cond.methodLink RL 22 yL_cell, Cond.static yL_cell, Cond.initialized RL, Cond.code yL_cell cL_cell 2 (some .int), Cond.methodLink RL 28 yX4_init, Cond.instanceMethod yX4_init, Cond.code yX4_init cX4_init 3 none, Cond.methodLink RX4 1 objectInit, Cond.instanceMethod objectInit, Cond.code objectInit ⟨#[0xb1]⟩ 1 none, Cond.arrayClass .int, Cond.fieldLink RX4 9 "LineEvents" "events" "[I", Cond.fieldLink RX4 13 "LineEvents" "drawn" "J", Cond.methodLink RL 33 yX5_init, Cond.instanceMethod yX5_init, Cond.code yX5_init cX5_init 3 none]
def wsL_law_r2 : List Cond := [Cond.methodLink RX5 1 objectInit, Cond.fieldLink RX5 9 "LineEventsModel" "takes" "[I", Cond.fieldLink RX5 13 "LineEventsModel" "before" "[I", Cond.fieldLink RX5 16 "LineEventsModel" "behind" "[I", Cond.fieldLink RX5 19 "LineEventsModel" "room" "[I", Cond.fieldLink RX5 22 "LineEventsModel" "delay" "[I", Cond.fieldLink RX5 25 "LineEventsModel" "bottle" "[I", Cond.fieldLink RX5 28 "LineEventsModel" "worked" "[I", Cond.fieldLink RX5 31 "LineEventsModel" "faultEnd" "[I", Cond.fieldLink RX5 34 "LineEventsModel" "came" "[I", Cond.fieldLink RX5 37 "LineEventsModel" "first" "[I", Cond.fieldLink RX5 40 "LineEventsModel" "many" "[I", Cond.fieldLink RX5 43 "LineEventsModel" "faultAbove" "[J", Cond.fieldLink RX5 47 "LineEventsModel" "faultBelow" "[J", Cond.fieldLink RX5 50 "LineEventsModel" "faultTenths" "[I", Cond.fieldLink RX5 53 "LineEventsModel" "faults" "[I", Cond.fieldLink RX5 56 "LineEventsModel" "rowMachine" "[I", Cond.fieldLink RX5 59 "LineEventsModel" "rowFrom" "[I", Cond.fieldLink RX5 62 "LineEventsModel" "rowTo" "[I", Cond.fieldLink RX5 65 "LineEventsModel" "rowCause" "[I", Cond.fieldLink RX5 68 "LineEventsModel" "times" "[J", Cond.fieldLink RX5 71 "LineEventsModel" "rejects" "[J", Cond.fieldLink RX5 74 "LineEventsModel" "eventAt" "[I", Cond.fieldLink RX5 77 "LineEventsModel" "eventMachine" "[I"]
def wsL_law_r3 : List Cond := [Cond.fieldLink RX5 80 "LineEventsModel" "eventKind" "[I", Cond.fieldLink RX5 83 "LineEventsModel" "drawn" "J", Cond.methodLink RL 34 yX4_machine, Cond.instanceMethod yX4_machine, Cond.selects RX4 yX4_machine yX4_machine, Cond.code yX4_machine cX4_machine 5 (some .int), Cond.fieldLink RX4 21 "LineEvents$Machine" "followed" "Z", Cond.fieldLink RX4 27 "LineEvents" "now" "I", Cond.fieldLink RX4 35 "LineEvents" "machineCount" "I", Cond.classLink RX4 22 RX2, Cond.instantiable RX2 16, Cond.initialized RX2, Cond.fieldLink RX4 38 "LineEvents" "highest" "LLineEvents$Machine;", Cond.fieldLink RX4 45 "LineEvents$Machine" "number" "I", Cond.methodLink RX4 17 yX4_find, Cond.instanceMethod yX4_find, Cond.selects RX4 yX4_find yX4_find, Cond.code yX4_find cX4_find 3 (some (.object "LineEvents$Machine")), Cond.fieldLink RX4 118 "LineEvents$Machine" "lower" "LLineEvents$Machine;", Cond.methodLink RX4 31 yX4_within, Cond.static yX4_within, Cond.code yX4_within cX4_within 3 (some .boolean), Cond.methodLink RX4 42 yX2_init, Cond.instanceMethod yX2_init]
def wsL_law_r4 : List Cond := [Cond.code yX2_init cX2_init 5 none, Cond.methodLink RX2 3 objectInit, Cond.classLink RX2 9 RX0, Cond.instantiable RX0 5, Cond.initialized RX0, Cond.fieldLink RX2 12 "LineEvents$Machine" "behind" "LLineEvents$Buffer;", Cond.fieldLink RX2 18 "LineEvents$Machine" "rowCause" "I", Cond.fieldLink RX2 22 "LineEvents$Machine" "times" "[J", Cond.fieldLink RX2 26 "LineEvents$Machine" "number" "I", Cond.fieldLink RX2 29 "LineEvents$Machine" "takes" "I", Cond.fieldLink RX2 32 "LineEvents$Machine" "lower" "LLineEvents$Machine;", Cond.fieldLink RX2 36 "LineEvents$Machine" "before" "LLineEvents$Buffer;", Cond.instanceMethod yX0_init, Cond.code yX0_init cX0_init 1 none, Cond.methodLink RX0 3 objectInit, Cond.fieldLink RX0 9 "LineEvents$Buffer" "room" "I", Cond.fieldLink RX0 15 "LineEvents$Buffer" "came" "[I", Cond.methodLink RL 38 yX5_machine, Cond.instanceMethod yX5_machine, Cond.selects RX5 yX5_machine yX5_machine, Cond.code yX5_machine cX5_machine 5 (some .int), Cond.fieldLink RX5 87 "LineEventsModel" "thrown" "I", Cond.fieldLink RX5 94 "LineEventsModel" "now" "I", Cond.fieldLink RX5 91 "LineEventsModel" "machines" "I"]
def wsL_law_r5 : List Cond := [Cond.methodLink RX5 97 yX5_isMachine, Cond.instanceMethod yX5_isMachine, Cond.selects RX5 yX5_isMachine yX5_isMachine, Cond.code yX5_isMachine cX5_isMachine 2 (some .boolean), Cond.methodLink RL 39 yX4_buffer, Cond.instanceMethod yX4_buffer, Cond.selects RX4 yX4_buffer yX4_buffer, Cond.code yX4_buffer cX4_buffer 6 (some .int), Cond.fieldLink RX4 48 "LineEvents$Machine" "behind" "LLineEvents$Buffer;", Cond.fieldLink RX4 52 "LineEvents$Buffer" "room" "I", Cond.fieldLink RX4 57 "LineEvents$Buffer" "delay" "I", Cond.methodLink RL 43 yX5_buffer, Cond.instanceMethod yX5_buffer, Cond.selects RX5 yX5_buffer yX5_buffer, Cond.code yX5_buffer cX5_buffer 5 (some .int), Cond.methodLink RL 46 yX4_fault, Cond.instanceMethod yX4_fault, Cond.selects RX4 yX4_fault yX4_fault, Cond.code yX4_fault cX4_fault 8 (some .boolean), Cond.fieldLink RX4 60 "LineEvents$Machine" "faultCount" "I", Cond.constantLong RX4 63 (1000000), Cond.constant RX4 65 (100000), Cond.classLink RX4 66 RX1, Cond.instantiable RX1 4]
def wsL_law_r6 : List Cond := [Cond.initialized RX1, Cond.methodLink RX4 68 yX1_init, Cond.instanceMethod yX1_init, Cond.code yX1_init cX1_init 6 none, Cond.methodLink RX1 1 objectInit, Cond.fieldLink RX1 7 "LineEvents$Fault" "above" "J", Cond.fieldLink RX1 13 "LineEvents$Fault" "below" "J", Cond.fieldLink RX1 16 "LineEvents$Fault" "tenths" "I", Cond.methodLink RX4 71 yX2_addFault, Cond.instanceMethod yX2_addFault, Cond.selects RX2 yX2_addFault yX2_addFault, Cond.code yX2_addFault cX2_addFault 2 none, Cond.fieldLink RX2 39 "LineEvents$Machine" "lastFault" "LLineEvents$Fault;", Cond.fieldLink RX2 43 "LineEvents$Machine" "firstFault" "LLineEvents$Fault;", Cond.fieldLink RX2 46 "LineEvents$Fault" "next" "LLineEvents$Fault;", Cond.fieldLink RX2 51 "LineEvents$Machine" "faultCount" "I", Cond.methodLink RL 50 yX5_fault, Cond.instanceMethod yX5_fault, Cond.selects RX5 yX5_fault yX5_fault, Cond.code yX5_fault cX5_fault 8 (some .boolean), Cond.constantLong RX5 101 (1000000), Cond.constant RX5 103 (100000), Cond.methodLink RL 51 yX4_row, Cond.instanceMethod yX4_row]
def wsL_law_r7 : List Cond := [Cond.selects RX4 yX4_row yX4_row, Cond.code yX4_row cX4_row 5 (some .boolean), Cond.methodLink RX4 75 yX4_addRow, Cond.instanceMethod yX4_addRow, Cond.selects RX4 yX4_addRow yX4_addRow, Cond.code yX4_addRow cX4_addRow 5 (some .boolean), Cond.fieldLink RX4 158 "LineEvents" "rowCount" "I", Cond.constant RX4 79 (1000000000), Cond.classLink RX4 161 RX3, Cond.instantiable RX3 5, Cond.initialized RX3, Cond.fieldLink RX4 163 "LineEvents" "newestRow" "LLineEvents$Row;", Cond.fieldLink RX4 83 "LineEvents" "rowsTurn" "I", Cond.methodLink RX4 167 yX3_init, Cond.instanceMethod yX3_init, Cond.code yX3_init cX3_init 6 none, Cond.methodLink RX3 3 objectInit, Cond.fieldLink RX3 9 "LineEvents$Row" "machine" "I", Cond.fieldLink RX3 15 "LineEvents$Row" "from" "I", Cond.fieldLink RX3 18 "LineEvents$Row" "to" "I", Cond.fieldLink RX3 21 "LineEvents$Row" "cause" "I", Cond.fieldLink RX3 24 "LineEvents$Row" "earlier" "LLineEvents$Row;", Cond.methodLink RL 55 yX5_row, Cond.instanceMethod yX5_row]
def wsL_law_r8 : List Cond := [Cond.selects RX5 yX5_row yX5_row, Cond.code yX5_row cX5_row 5 (some .boolean), Cond.methodLink RX5 109 yX5_told, Cond.instanceMethod yX5_told, Cond.selects RX5 yX5_told yX5_told, Cond.code yX5_told cX5_told 6 (some .boolean), Cond.constantLong RX5 104 (1000000000), Cond.fieldLink RX5 106 "LineEventsModel" "rows" "I", Cond.methodLink RL 56 yX4_run, Cond.instanceMethod yX4_run, Cond.selects RX4 yX4_run yX4_run, Cond.code yX4_run cX4_run 4 (some .int), Cond.fieldLink RX4 80 "LineEvents" "eventCount" "I", Cond.methodLink RX4 96 Lib.Math.min.name, Cond.static Lib.Math.min.name, Cond.initialized "java/lang/Math", Cond.code Lib.Math.min.name Lib.Math.min.code 2 (some .int), Cond.methodLink RX4 102 Lib.Math.max.name, Cond.static Lib.Math.max.name, Cond.code Lib.Math.max.name Lib.Math.max.code 2 (some .int), Cond.methodLink RX4 86 yX4_lookAtRows, Cond.instanceMethod yX4_lookAtRows, Cond.selects RX4 yX4_lookAtRows yX4_lookAtRows, Cond.code yX4_lookAtRows cX4_lookAtRows 2 none]
def wsL_law_r9 : List Cond := [Cond.fieldLink RX4 174 "LineEvents$Machine" "rowCause" "I", Cond.fieldLink RX4 180 "LineEvents$Row" "earlier" "LLineEvents$Row;", Cond.methodLink RX4 170 yX4_rowCauseOf, Cond.instanceMethod yX4_rowCauseOf, Cond.selects RX4 yX4_rowCauseOf yX4_rowCauseOf, Cond.code yX4_rowCauseOf cX4_rowCauseOf 4 (some .int), Cond.fieldLink RX4 187 "LineEvents$Row" "cause" "I", Cond.methodLink RX4 183 yX3_holds, Cond.instanceMethod yX3_holds, Cond.selects RX3 yX3_holds yX3_holds, Cond.code yX3_holds cX3_holds 3 (some .boolean), Cond.methodLink RX4 177 yX3_turnBehind, Cond.instanceMethod yX3_turnBehind, Cond.selects RX3 yX3_turnBehind yX3_turnBehind, Cond.code yX3_turnBehind cX3_turnBehind 2 (some .int), Cond.constant RX3 28 (1000000000), Cond.methodLink RX4 89 yX4_actAll, Cond.instanceMethod yX4_actAll, Cond.selects RX4 yX4_actAll yX4_actAll, Cond.code yX4_actAll cX4_actAll 2 none, Cond.methodLink RX4 190 yX2_stands, Cond.instanceMethod yX2_stands, Cond.selects RX2 yX2_stands yX2_stands, Cond.code yX2_stands cX2_stands 2 (some .boolean)]
def wsL_law_r10 : List Cond := [Cond.fieldLink RX2 54 "LineEvents$Machine" "faultEnd" "I", Cond.methodLink RX4 193 yX4_act, Cond.instanceMethod yX4_act, Cond.selects RX4 yX4_act yX4_act, Cond.code yX4_act cX4_act 2 none, Cond.fieldLink RX4 201 "LineEvents$Machine" "judged" "Z", Cond.fieldLink RX4 115 "LineEvents$Machine" "hasBottle" "Z", Cond.methodLink RX4 197 yX2_isDone, Cond.instanceMethod yX2_isDone, Cond.selects RX2 yX2_isDone yX2_isDone, Cond.code yX2_isDone cX2_isDone 1 (some .boolean), Cond.fieldLink RX2 57 "LineEvents$Machine" "hasBottle" "Z", Cond.fieldLink RX2 61 "LineEvents$Machine" "worked" "I", Cond.methodLink RX4 204 yX4_judge, Cond.instanceMethod yX4_judge, Cond.selects RX4 yX4_judge yX4_judge, Cond.code yX4_judge cX4_judge 4 none, Cond.fieldLink RX4 213 "LineEvents$Machine" "firstFault" "LLineEvents$Fault;", Cond.fieldLink RX4 217 "LineEvents$Fault" "below" "J", Cond.fieldLink RX4 224 "LineEvents$Fault" "above" "J", Cond.fieldLink RX4 227 "LineEvents$Fault" "tenths" "I", Cond.fieldLink RX4 233 "LineEvents$Fault" "next" "LLineEvents$Fault;", Cond.fieldLink RX4 236 "LineEvents$Machine" "faultEnd" "I", Cond.methodLink RX4 220 yX4_draw]
def wsL_law_r11 : List Cond := [Cond.instanceMethod yX4_draw, Cond.selects RX4 yX4_draw yX4_draw, Cond.code yX4_draw cX4_draw 3 (some .long), Cond.constantLong RX4 243 (6364136223846793005), Cond.constantLong RX4 245 (1442695040888963407), Cond.methodLink RX4 230 yX4_reject, Cond.instanceMethod yX4_reject, Cond.selects RX4 yX4_reject yX4_reject, Cond.code yX4_reject cX4_reject 2 none, Cond.fieldLink RX4 137 "LineEvents$Machine" "rejectedCount" "J", Cond.methodLink RX4 247 yX2_putAway, Cond.instanceMethod yX2_putAway, Cond.selects RX2 yX2_putAway yX2_putAway, Cond.code yX2_putAway cX2_putAway 1 none, Cond.fieldLink RX2 64 "LineEvents$Machine" "judged" "Z", Cond.methodLink RX4 239 yX4_note, Cond.instanceMethod yX4_note, Cond.selects RX4 yX4_note yX4_note, Cond.code yX4_note cX4_note 4 none, Cond.methodLink RX4 207 yX4_leave, Cond.instanceMethod yX4_leave, Cond.selects RX4 yX4_leave yX4_leave, Cond.code yX4_leave cX4_leave 2 none, Cond.fieldLink RX4 109 "LineEvents" "madeCount" "J"]
def wsL_law_r12 : List Cond := [Cond.methodLink RX4 250 yX0_hasRoom, Cond.instanceMethod yX0_hasRoom, Cond.selects RX0 yX0_hasRoom yX0_hasRoom, Cond.code yX0_hasRoom cX0_hasRoom 1 (some .boolean), Cond.fieldLink RX0 19 "LineEvents$Buffer" "count" "I", Cond.methodLink RX4 253 yX0_add, Cond.instanceMethod yX0_add, Cond.selects RX0 yX0_add yX0_add, Cond.code yX0_add cX0_add 2 none, Cond.fieldLink RX0 22 "LineEvents$Buffer" "first" "I", Cond.methodLink RX4 210 yX4_take, Cond.instanceMethod yX4_take, Cond.selects RX4 yX4_take yX4_take, Cond.code yX4_take cX4_take 2 none, Cond.fieldLink RX4 256 "LineEvents$Machine" "before" "LLineEvents$Buffer;", Cond.fieldLink RX4 148 "LineEvents" "begunCount" "J", Cond.methodLink RX4 259 yX0_isReady, Cond.instanceMethod yX0_isReady, Cond.selects RX0 yX0_isReady yX0_isReady, Cond.code yX0_isReady cX0_isReady 2 (some .boolean), Cond.methodLink RX0 35 yX0_readyAt, Cond.instanceMethod yX0_readyAt, Cond.selects RX0 yX0_readyAt yX0_readyAt, Cond.code yX0_readyAt cX0_readyAt 1 (some .int)]
def wsL_law_r13 : List Cond := [Cond.fieldLink RX0 25 "LineEvents$Buffer" "delay" "I", Cond.methodLink RX0 28 Lib.Math.max.name, Cond.constant RX0 34 (1000000000), Cond.methodLink RX4 262 yX0_removeFirst, Cond.instanceMethod yX0_removeFirst, Cond.selects RX0 yX0_removeFirst yX0_removeFirst, Cond.code yX0_removeFirst cX0_removeFirst 1 none, Cond.methodLink RX4 92 yX4_quietTenths, Cond.instanceMethod yX4_quietTenths, Cond.selects RX4 yX4_quietTenths yX4_quietTenths, Cond.code yX4_quietTenths cX4_quietTenths 3 (some .int), Cond.methodLink RX4 265 yX2_quietTenths, Cond.instanceMethod yX2_quietTenths, Cond.selects RX2 yX2_quietTenths yX2_quietTenths, Cond.code yX2_quietTenths cX2_quietTenths 2 (some .int), Cond.constant RX2 75 (1000000000), Cond.methodLink RX2 67 yX2_causeAt, Cond.instanceMethod yX2_causeAt, Cond.selects RX2 yX2_causeAt yX2_causeAt, Cond.code yX2_causeAt cX2_causeAt 2 (some .int), Cond.methodLink RX2 71 yX0_readyAt, Cond.methodLink RX4 105 yX4_passTime, Cond.instanceMethod yX4_passTime, Cond.selects RX4 yX4_passTime yX4_passTime]
def wsL_law_r14 : List Cond := [Cond.code yX4_passTime cX4_passTime 3 none, Cond.methodLink RX4 267 yX2_causeAt, Cond.methodLink RX4 270 yX2_spend, Cond.instanceMethod yX2_spend, Cond.selects RX2 yX2_spend yX2_spend, Cond.code yX2_spend cX2_spend 3 none, Cond.methodLink RL 60 yX5_run, Cond.instanceMethod yX5_run, Cond.selects RX5 yX5_run yX5_run, Cond.code yX5_run cX5_run 5 (some .int), Cond.fieldLink RX5 114 "LineEventsModel" "events" "I", Cond.methodLink RX5 149 yX5_act, Cond.instanceMethod yX5_act, Cond.selects RX5 yX5_act yX5_act, Cond.code yX5_act cX5_act 2 none, Cond.methodLink RX5 135 yX5_held, Cond.instanceMethod yX5_held, Cond.selects RX5 yX5_held yX5_held, Cond.code yX5_held cX5_held 3 (some .int), Cond.methodLink RX5 139 yX5_judge, Cond.instanceMethod yX5_judge, Cond.selects RX5 yX5_judge yX5_judge, Cond.code yX5_judge cX5_judge 6 (some .boolean), Cond.methodLink RX5 121 yX5_draw]
def wsL_law_r15 : List Cond := [Cond.instanceMethod yX5_draw, Cond.selects RX5 yX5_draw yX5_draw, Cond.code yX5_draw cX5_draw 3 (some .long), Cond.constantLong RX5 117 (6364136223846793005), Cond.constantLong RX5 119 (1442695040888963407), Cond.methodLink RX5 125 yX5_note, Cond.instanceMethod yX5_note, Cond.selects RX5 yX5_note yX5_note, Cond.code yX5_note cX5_note 3 none, Cond.methodLink RX5 142 yX5_leave, Cond.instanceMethod yX5_leave, Cond.selects RX5 yX5_leave yX5_leave, Cond.code yX5_leave cX5_leave 2 none, Cond.fieldLink RX5 129 "LineEventsModel" "made" "J", Cond.methodLink RX5 146 yX5_take, Cond.instanceMethod yX5_take, Cond.selects RX5 yX5_take yX5_take, Cond.code yX5_take cX5_take 4 none, Cond.fieldLink RX5 132 "LineEventsModel" "begun" "J", Cond.methodLink RX5 152 yX5_causeOf, Cond.instanceMethod yX5_causeOf, Cond.selects RX5 yX5_causeOf yX5_causeOf, Cond.code yX5_causeOf cX5_causeOf 3 (some .int), Cond.methodLink RL 61 yX4_event]
def wsL_law_r16 : List Cond := [Cond.instanceMethod yX4_event, Cond.selects RX4 yX4_event yX4_event, Cond.code yX4_event cX4_event 3 (some .int), Cond.methodLink RL 64 yX5_event, Cond.instanceMethod yX5_event, Cond.selects RX5 yX5_event yX5_event, Cond.code yX5_event cX5_event 3 (some .int), Cond.methodLink RL 65 yX4_made, Cond.instanceMethod yX4_made, Cond.selects RX4 yX4_made yX4_made, Cond.code yX4_made cX4_made 1 (some .long), Cond.methodLink RL 69 yX5_made, Cond.instanceMethod yX5_made, Cond.selects RX5 yX5_made yX5_made, Cond.code yX5_made cX5_made 1 (some .long), Cond.methodLink RL 70 yX4_inside, Cond.instanceMethod yX4_inside, Cond.selects RX4 yX4_inside yX4_inside, Cond.code yX4_inside cX4_inside 4 (some .long), Cond.fieldLink RX4 112 "LineEvents$Buffer" "count" "I", Cond.methodLink RL 73 yX5_inside, Cond.instanceMethod yX5_inside, Cond.selects RX5 yX5_inside yX5_inside, Cond.code yX5_inside cX5_inside 1 (some .long)]
def wsL_law_r17 : List Cond := [Cond.methodLink RX5 155 yX5_within, Cond.instanceMethod yX5_within, Cond.selects RX5 yX5_within yX5_within, Cond.code yX5_within cX5_within 4 (some .long), Cond.methodLink RL 74 yL_lost, Cond.static yL_lost, Cond.codeWith yL_lost cL_lost 5 (some .int) [(0, 9, 12, 13)], Cond.methodLink RL 7 yX4_lost, Cond.instanceMethod yX4_lost, Cond.selects RX4 yX4_lost yX4_lost, Cond.code yX4_lost cX4_lost 4 (some .long), Cond.fieldLink RX4 128 "LineEvents$Machine" "times" "[J", Cond.fieldLink RX4 132 "LineEvents$Machine" "takes" "I", Cond.constantLong RX4 135 (-1), Cond.methodLink RX4 121 yX4_known, Cond.instanceMethod yX4_known, Cond.selects RX4 yX4_known yX4_known, Cond.code yX4_known cX4_known 3 (some (.object "LineEvents$Machine")), Cond.classLink RX4 151 RJx00060, Cond.instantiable RJx00060 6, Cond.initialized RJx00060, Cond.methodLink RX4 124 yX4_isCause, Cond.static yX4_isCause, Cond.code yX4_isCause cX4_isCause 1 (some .boolean)]
def wsL_law_r18 : List Cond := [Cond.methodLink RL 77 yX5_lost, Cond.instanceMethod yX5_lost, Cond.selects RX5 yX5_lost yX5_lost, Cond.code yX5_lost cX5_lost 3 (some .long), Cond.constantLong RX5 159 (-1), Cond.methodLink RL 78 yX5_thrown, Cond.instanceMethod yX5_thrown, Cond.selects RX5 yX5_thrown yX5_thrown, Cond.code yX5_thrown cX5_thrown 1 (some .int), Cond.methodLink RL 82 yL_rejected, Cond.static yL_rejected, Cond.codeWith yL_rejected cL_rejected 4 (some .int) [(0, 8, 11, 13)], Cond.methodLink RL 15 yX4_rejected, Cond.instanceMethod yX4_rejected, Cond.selects RX4 yX4_rejected yX4_rejected, Cond.code yX4_rejected cX4_rejected 2 (some .long), Cond.methodLink RL 85 yX5_rejected, Cond.instanceMethod yX5_rejected, Cond.selects RX5 yX5_rejected yX5_rejected, Cond.code yX5_rejected cX5_rejected 2 (some .long), Cond.methodLink RL 86 yX4_change, Cond.instanceMethod yX4_change, Cond.selects RX4 yX4_change yX4_change, Cond.code yX4_change cX4_change 3 (some .boolean)]
def wsL_law_r19 : List Cond := [Cond.constant RX4 140 (1000000), Cond.methodLink RL 90 yX5_change, Cond.instanceMethod yX5_change, Cond.selects RX5 yX5_change yX5_change, Cond.code yX5_change cX5_change 3 (some .boolean), Cond.constant RX5 113 (1000000), Cond.methodLink RL 91 yX4_rest, Cond.instanceMethod yX4_rest, Cond.selects RX4 yX4_rest yX4_rest, Cond.code yX4_rest cX4_rest 3 (some .boolean), Cond.methodLink RL 94 yX5_rest, Cond.instanceMethod yX5_rest, Cond.selects RX5 yX5_rest yX5_rest, Cond.code yX5_rest cX5_rest 3 (some .boolean), Cond.methodLink RL 95 yL_time, Cond.static yL_time, Cond.codeWith yL_time cL_time 5 (some .int) [(0, 9, 12, 13)], Cond.methodLink RL 19 yX4_time, Cond.instanceMethod yX4_time, Cond.selects RX4 yX4_time yX4_time, Cond.code yX4_time cX4_time 4 (some .long), Cond.methodLink RL 97 yX5_time, Cond.instanceMethod yX5_time, Cond.selects RX5 yX5_time yX5_time]
def wsL_law_r20 : List Cond := [Cond.code yX5_time cX5_time 3 (some .long), Cond.methodLink RL 98 yX4_kept, Cond.instanceMethod yX4_kept, Cond.selects RX4 yX4_kept yX4_kept, Cond.code yX4_kept cX4_kept 4 (some .boolean), Cond.methodLink RX4 141 yX4_inside, Cond.methodLink RX4 145 yX2_allTimes, Cond.instanceMethod yX2_allTimes, Cond.selects RX2 yX2_allTimes yX2_allTimes, Cond.code yX2_allTimes cX2_allTimes 8 (some .long), Cond.methodLink RL 102 yX5_kept, Cond.instanceMethod yX5_kept, Cond.selects RX5 yX5_kept yX5_kept, Cond.code yX5_kept cX5_kept 8 (some .boolean)]
def wsL_law : List Cond := (wsL_law_r1 ++ (wsL_law_r2 ++ (wsL_law_r3 ++ (wsL_law_r4 ++ (wsL_law_r5 ++ (wsL_law_r6 ++ (wsL_law_r7 ++ (wsL_law_r8 ++ (wsL_law_r9 ++ (wsL_law_r10 ++ (wsL_law_r11 ++ (wsL_law_r12 ++ (wsL_law_r13 ++ (wsL_law_r14 ++ (wsL_law_r15 ++ (wsL_law_r16 ++ (wsL_law_r17 ++ (wsL_law_r18 ++ (wsL_law_r19 ++ wsL_law_r20))))))))))))))))))) ++ wsX40 ++ wsX50 ++ wsX20 ++ wsX00 ++ wsX10 ++ wsX30 ++ wsJx000600 ++ ([] : List Cond)
abbrev vwCl : List vw_C := [(RJx00060, TJx00060, 6), (RX0, TX0, 5), (RX1, TX1, 4), (RX2, TX2, 16), (RX3, TX3, 5), (RX4, TX4, 11), (RX5, TX5, 32)]
end
section
/-! Numbers: whole numbers as the machine's ints and longs -/
def zI (z : Int) : Int32 := Int32.ofInt z
def zL (z : Int) : Int64 := Int64.ofInt z
theorem zI_add (a b : Int) : zI a + zI b = zI (a + b) := (Int32.ofInt_add a b).symm
theorem zI_sub (a b : Int) : zI a - zI b = zI (a - b) := (Int32.ofInt_sub a b).symm
theorem zI_mul (a b : Int) : zI a * zI b = zI (a * b) := (Int32.ofInt_mul a b).symm
theorem zL_add (a b : Int) : zL a + zL b = zL (a + b) := (Int64.ofInt_add a b).symm
theorem zL_sub (a b : Int) : zL a - zL b = zL (a - b) := (Int64.ofInt_sub a b).symm
theorem zL_mul (a b : Int) : zL a * zL b = zL (a * b) := (Int64.ofInt_mul a b).symm
theorem zI_of (x : Int32) : zI x.toInt = x := Int32.ofInt_toInt x
theorem zL_of (x : Int64) : zL x.toInt = x := Int64.ofInt_toInt x
theorem zI_toInt {a : Int} (h1 : -2147483648 ≤ a) (h2 : a < 2147483648) : (zI a).toInt = a := Int32.toInt_ofInt_of_le (by simpa using h1) (by simpa using h2)
theorem zL_toInt {a : Int} (h1 : -9223372036854775808 ≤ a) (h2 : a < 9223372036854775808) : (zL a).toInt = a := Int64.toInt_ofInt_of_le (by simpa using h1) (by simpa using h2)
theorem zI_lo (x : Int32) : -2147483648 ≤ x.toInt := by simpa using Int32.le_toInt x
theorem zI_hi (x : Int32) : x.toInt < 2147483648 := by simpa using Int32.toInt_lt x
theorem zL_lo (x : Int64) : -9223372036854775808 ≤ x.toInt := by simpa using Int64.le_toInt x
theorem zL_hi (x : Int64) : x.toInt < 9223372036854775808 := by simpa using Int64.toInt_lt x
abbrev zB (a : Int) : Prop := -2147483648 ≤ a ∧ a < 2147483648
abbrev zC (a : Int) : Prop := -9223372036854775808 ≤ a ∧ a < 9223372036854775808
theorem zI_lt {a b : Int} (ha : zB a) (hb : zB b) : zI a < zI b ↔ a < b := by
  rw [Int32.lt_iff_toInt_lt, zI_toInt ha.1 ha.2, zI_toInt hb.1 hb.2]
theorem zI_le {a b : Int} (ha : zB a) (hb : zB b) : zI a ≤ zI b ↔ a ≤ b := by
  rw [Int32.le_iff_toInt_le, zI_toInt ha.1 ha.2, zI_toInt hb.1 hb.2]
theorem zI_eq {a b : Int} (ha : zB a) (hb : zB b) : zI a = zI b ↔ a = b := by
  rw [← Int32.toInt_inj, zI_toInt ha.1 ha.2, zI_toInt hb.1 hb.2]
theorem zL_lt {a b : Int} (ha : zC a) (hb : zC b) : zL a < zL b ↔ a < b := by
  rw [Int64.lt_iff_toInt_lt, zL_toInt ha.1 ha.2, zL_toInt hb.1 hb.2]
theorem zL_le {a b : Int} (ha : zC a) (hb : zC b) : zL a ≤ zL b ↔ a ≤ b := by
  rw [Int64.le_iff_toInt_le, zL_toInt ha.1 ha.2, zL_toInt hb.1 hb.2]
theorem zL_eq {a b : Int} (ha : zC a) (hb : zC b) : zL a = zL b ↔ a = b := by
  rw [← Int64.toInt_inj, zL_toInt ha.1 ha.2, zL_toInt hb.1 hb.2]
theorem zI_cl {a : Int} (h0 : 0 ≤ a) (h1 : a < 2147483648) : (zI a).toNatClampNeg = a.toNat := by
  show (zI a).toInt.toNat = a.toNat
  rw [zI_toInt (by omega) h1]
theorem zI_in {a : Int} {n : Nat} (h0 : 0 ≤ a) (h1 : a < n) (hn : n < 2147483648) : vp_in (zI a) n := by
  rw [vp_in_iff, zI_toInt (by omega) (by omega)]
  exact ⟨h0, h1⟩
theorem zI_l {a : Int} (ha : zB a) : (zI a).toInt64 = zL a := by
  apply Int64.toInt_inj.mp
  rw [Int32.toInt_toInt64, zI_toInt ha.1 ha.2, zL_toInt (by have := ha.1; omega) (by have := ha.2; omega)]
theorem zL_i (a : Int) : (zL a).toInt32 = zI a := by
  show (Int64.ofInt a).toInt32 = Int32.ofInt a
  simp
theorem zI_rem {a b : Int} (ha : 0 ≤ a) (ha2 : a < 2147483648) (hb : 0 < b) (hb2 : b < 2147483648) : zI a - zI a / zI b * zI b = zI (a % b) := by
  obtain ⟨x, rfl⟩ : ∃ n : Nat, a = n := ⟨a.toNat, by omega⟩
  obtain ⟨y, rfl⟩ : ∃ n : Nat, b = n := ⟨b.toNat, by omega⟩
  exact pk_rem (a := x) (d := y) (by omega) (by omega) (by omega)
theorem zL_rem {a b : Int} (ha : 0 ≤ a) (ha2 : a < 9223372036854775808) (hb : 0 < b) (hb2 : b < 9223372036854775808) : zL a - zL a / zL b * zL b = zL (a % b) := by
  obtain ⟨x, rfl⟩ : ∃ n : Nat, a = n := ⟨a.toNat, by omega⟩
  obtain ⟨y, rfl⟩ : ∃ n : Nat, b = n := ⟨b.toNat, by omega⟩
  exact pk_lRem (a := x) (b := y) (by omega) (by omega) (by omega)
theorem zL_ush (a : Int) : ((zL a).toUInt64 >>> ((33 : Int32).toInt64.toUInt64 &&& Int64.toUInt64 63)).toInt64 = zL (a % 18446744073709551616 / 8589934592) := by
  have h33 : ((33 : Int32).toInt64.toUInt64 &&& Int64.toUInt64 63) = 33 := by decide
  rw [h33]
  apply Int64.toBitVec_inj.mp
  show ((zL a).toUInt64 >>> (33 : UInt64)).toBitVec = BitVec.ofInt 64 _
  rw [UInt64.toBitVec_shiftRight]
  apply BitVec.eq_of_toNat_eq
  have e1 : (zL a).toUInt64.toBitVec = BitVec.ofInt 64 a := rfl
  rw [e1]
  have e2 : ((33 : UInt64).toBitVec % 64) = 33#64 := by decide
  rw [e2, BitVec.ushiftRight_eq', BitVec.toNat_ushiftRight, BitVec.toNat_ofInt, BitVec.toNat_ofInt]
  have h3 : (33#64 : BitVec 64).toNat = 33 := by decide
  rw [h3, Nat.shiftRight_eq_div_pow]
  have hp : (0:Int) ≤ a % 18446744073709551616 := Int.emod_nonneg _ (by decide)
  have hq : a % 18446744073709551616 < 18446744073709551616 := Int.emod_lt_of_pos _ (by decide)
  simp only [Nat.reducePow]
  omega
end
section
/-! The heap as a family of cells: kind k, number i; ad: the address, al: which are there, E: what they hold -/
def gQ (D : va_G) (A : Nat → Prop) (ad : Nat → Nat → Nat) (al : Nat → Nat → Prop) (E : Nat → Nat → va_E) (H : Heap) : Prop :=
  (∀ k i, al k i → va_at D vwCl (ad k i, E k i) H) ∧ (∀ k i, al k i → A (ad k i)) ∧ ∀ k i k' i', al k i → al k' i' → ad k' i' = ad k i → k' = k ∧ i' = i
theorem gQ.one {D : va_G} {A : Nat → Prop} {ad : Nat → Nat → Nat} {al : Nat → Nat → Prop} {E : Nat → Nat → va_E} {H : Heap} (h : gQ D A ad al E H) {k i : Nat} (hal : al k i) {e : va_E} (he : E k i = e) : va_P D vwCl [(ad k i, e)] H := by
  subst he
  intro j q hq
  match j, hq with
  | 0, hq => cases hq; exact h.1 k i hal
  | j + 1, hq => simp at hq
theorem gQ.store {D : va_G} {A : Nat → Prop} {ad : Nat → Nat → Nat} {al : Nat → Nat → Prop} {E E' : Nat → Nat → va_E} {H H1 : Heap} (h : gQ D A ad al E H) {k i : Nat} (hal : al k i)
    (hne : ∀ k' i', al k' i' → ¬ (k' = k ∧ i' = i) → E' k' i' = E k' i') (he : va_at D vwCl (ad k i, E' k i) H1) (oq : ∀ q : Nat, q ≠ ad k i → H1[q]? = H[q]?) : gQ D A ad al E' H1 := by
  refine ⟨fun k' i' h' => ?_, h.2.1, h.2.2⟩
  by_cases hc : k' = k ∧ i' = i
  · obtain ⟨rfl, rfl⟩ := hc
    exact he
  · rw [hne k' i' h' hc]
    exact (h.1 k' i' h').kept (oq _ (fun z => hc (h.2.2 k i k' i' hal h' z)))
theorem gQ.kept {D : va_G} {A : Nat → Prop} {ad : Nat → Nat → Nat} {al : Nat → Nat → Prop} {E : Nat → Nat → va_E} {H H1 : Heap} (h : gQ D A ad al E H) (hk : ∀ q : Nat, q < H.size → A q → H1[q]? = H[q]?) : gQ D A ad al E H1 :=
  ⟨fun k i h' => (h.1 k i h').kept (hk _ (h.1 k i h').lt (h.2.1 k i h')), h.2.1, h.2.2⟩
theorem gQ.congr {D : va_G} {A : Nat → Prop} {ad : Nat → Nat → Nat} {al : Nat → Nat → Prop} {E E' : Nat → Nat → va_E} {H : Heap} (h : gQ D A ad al E H) (he : ∀ k i, al k i → E' k i = E k i) : gQ D A ad al E' H :=
  ⟨fun k i h' => by rw [he k i h']; exact h.1 k i h', h.2.1, h.2.2⟩
theorem gQ.grow {D : va_G} {A : Nat → Prop} {ad ad' : Nat → Nat → Nat} {al al' : Nat → Nat → Prop} {E E' : Nat → Nat → va_E} {H H1 : Heap} (h : gQ D A ad al E H) {k i : Nat}
    (hal : ∀ k' i', al' k' i' → al k' i' ∨ (k' = k ∧ i' = i)) (had : ∀ k' i', al k' i' → ad' k' i' = ad k' i') (hq : ad' k i = H.size) (hA : A H.size)
    (hne : ∀ k' i', al k' i' → E' k' i' = E k' i') (he : va_at D vwCl (H.size, E' k i) H1) (oq : ∀ q : Nat, q < H.size → H1[q]? = H[q]?) : gQ D A ad' al' E' H1 := by
  have lt : ∀ k' i', al k' i' → ad k' i' < H.size := fun k' i' h' => (h.1 k' i' h').lt
  refine ⟨fun k' i' h' => ?_, fun k' i' h' => ?_, fun a b c d h1 h2 hz => ?_⟩
  · rcases hal k' i' h' with h2 | ⟨rfl, rfl⟩
    · rw [hne k' i' h2, had k' i' h2]
      exact (h.1 k' i' h2).kept (oq _ (lt _ _ h2))
    · rw [hq]; exact he
  · rcases hal k' i' h' with h2 | ⟨rfl, rfl⟩
    · rw [had k' i' h2]; exact h.2.1 k' i' h2
    · rw [hq]; exact hA
  · rcases hal a b h1 with h3 | ⟨rfl, rfl⟩ <;> rcases hal c d h2 with h4 | ⟨rfl, rfl⟩
    · rw [had a b h3, had c d h4] at hz
      exact h.2.2 a b c d h3 h4 hz
    · rw [had a b h3, hq] at hz
      have := lt a b h3
      omega
    · rw [had c d h4, hq] at hz
      have := lt c d h4
      omega
    · exact ⟨rfl, rfl⟩
/-- a method's answer and the world behind it -/
def gO (v : Option Value) (B : State → Prop) (A : Nat → Prop) : Array Value → State → Outcome → State → Prop := fun _ st oc t => oc = .returned v ∧ B t ∧ va_F A st t
section GQ
variable {p : Program} {l : Launch} {e : Env} {R : Room} {s : State} {m : MethodId} {args : Array Value} {below : List Frame} {meth : Method} {c : Code} {H : Heap} {locs : List Loc} {cells slots : Nat} {Q : State → Prop}
variable {cc : ByteArray} {pc : Nat} {ls : Array Slot} {rest : List Value} {D : va_G} {A : Nat → Prop} {tys : List (ClassId × FieldType)} {H0 : Heap} {ad : Nat → Nat → Nat} {al : Nat → Nat → Prop} {E : Nat → Nat → va_E}
theorem g_call {v : Option Value} {B : State → Prop} {st0 : List Value} {mc ms : Nat} {a : Array Value} (hr : va_Run p l e R s m args below meth c H locs cells slots mc ms (F0 m pc ls st0) rest (gO v B A a) A) (hS : va_S A H0 H locs)
    (kk : ∀ (t : State) (H1 : Heap) (locs1 : List Loc), t.heap = H1 → s.vm.Alike t.vm → B t → (∀ q : Nat, q < H.size → ¬ A q → H1[q]? = H[q]?) → va_S A H0 H1 locs1 → W p l e R s m args below meth c H1 locs1 (cells + mc) (slots + ms) Q (F0 m (pc + 3) ls (v.toList ++ rest))) : W p l e R s m args below meth c H locs cells slots Q (F0 m pc ls st0) := by
  intro T hT X
  obtain ⟨v', st₀, t, T', L, h0, X', hL, e1, e2, ⟨hv, hb, hz, hk⟩, st⟩ := hr T hT X
  cases hv
  rw [h0] at hz hk
  obtain ⟨t2, a1, b1⟩ := kk t T'.heap (locs ++ L) e1.symm (by rw [← e2]; exact X'.warmed.alike) hb (fun q h1 h2 => by rw [e1]; exact hk q h1 h2)
    ⟨Nat.le_trans hS.1 (by rw [e1]; exact hz), fun q h1 h2 => by rw [e1, hk q (Nat.lt_of_lt_of_le h1 hS.1) h2]; exact hS.2.1 q h1 h2, fun q hq => by
      rcases List.mem_append.mp hq with h | h
      · exact hS.2.2 q h
      · exact hL q h⟩ T' rfl X'
  exact ⟨t2, st t2 a1, b1⟩
/-- a field is read -/
theorem q_get (hexec : p.tables.exec = Jvm.exec) (hb : c.code = cc) {own C : String} {T : u_T} {N ci index : Nat} {Ts : List Cond} (hts : ∀ w ∈ Ts, w.before args s = true) (hin : ∀ w ∈ u_ws C T N, w ∈ Ts) (hown : s.vm.findClass own = some m.cls) (hK : va_K D vwCl tys s) (hG : gQ D A ad al E H) {k i : Nat} (hal : al k i) {fs : List Value} (he : E k i = .inr (ci, fs)) (hc : vwCl[ci]? = some (C, T, N)) (f : Nat) (hf : f < N) (hlink : (Cond.fieldLink own index (T f).1 (T f).2.1 (T f).2.2.1).before args s = true) {v : Value} (hv : fs[f]? = some v) (hdg : decode cc pc = .ok (.getfield index, 3))
    (kk : W p l e R s m args below meth c H locs cells slots Q (F0 m (pc + 3) ls (v :: rest))) : W p l e R s m args below meth c H locs cells slots Q (F0 m pc ls (.ref (ad k i) :: rest)) :=
  va_get hexec hb hts hin hown hK (hG.one hal he) 0 rfl hc f hf hlink (fun _ h => h) hv hdg kk
/-- a field is written -/
theorem q_put (hexec : p.tables.exec = Jvm.exec) (hb : c.code = cc) {own C : String} {T : u_T} {N ci index : Nat} {Ts : List Cond} (hts : ∀ w ∈ Ts, w.before args s = true) (hin : ∀ w ∈ u_ws C T N, w ∈ Ts) (ty0 : Nat → FieldType) (hty : ∀ k, k < N → parseFieldDescriptor (T k).2.2.1 = some (ty0 k)) (hnm : ∀ a, a < N → ∀ b, b < N → a ≠ b → (T a).2.1 ≠ (T b).2.1) (hown : s.vm.findClass own = some m.cls) (hK : va_K D vwCl tys s) (hG : gQ D A ad al E H) (hS0 : va_S A H0 H locs) {k i : Nat} (hal : al k i) {fs : List Value} (he : E k i = .inr (ci, fs)) (hc : vwCl[ci]? = some (C, T, N)) (f : Nat) (hf : f < N) (hlink : (Cond.fieldLink own index (T f).1 (T f).2.1 (T f).2.2.1).before args s = true) (hfin : (T f).2.2.2 = false ∨ ((T f).2.2.2 = true ∧ meth.name = "<init>" ∧ (T f).1 = own)) {ty : FieldType} {v : Value} (hd : parseFieldDescriptor (T f).2.2.1 = some ty) (hn : narrow ty v = v) (hfit : fits ty v = true) (hl : f < fs.length)
    {E' : Nat → Nat → va_E} (hne : ∀ k' i', al k' i' → ¬ (k' = k ∧ i' = i) → E' k' i' = E k' i') (he' : E' k i = .inr (ci, fs.set f v))
    (hdg : decode cc pc = .ok (.putfield index, 3)) (kk : ∀ (H1 : Heap) (locs1 : List Loc), gQ D A ad al E' H1 → va_S A H0 H1 locs1 → W p l e R s m args below meth c H1 locs1 cells slots Q (F0 m (pc + 3) ls rest)) : W p l e R s m args below meth c H locs cells slots Q (F0 m pc ls (v :: .ref (ad k i) :: rest)) := by
  have hap := va_apart (own := own) hts hin ty0 hty hnm hK hc
  have hat := hG.1 k i hal
  rw [he] at hat
  obtain ⟨r, h1, cell, q1, q2, q3, q4⟩ := hat
  have hr : r = (C, T, N) := Option.some.inj (h1.symm.trans hc)
  subst hr
  obtain ⟨hS, hfc, kC, hkC, hkind⟩ := hK.1 ci _ hc
  obtain ⟨cf, kf, fi, fd, hi, hsl⟩ := hS f hf
  have hlay := hts _ (hin _ (u_in_lay hf))
  have hst := (u_facts hfc hkC (u_lays hts hin hf) hi).1
  have fin : ∀ (H' : Heap), H'[ad k i]? = some (cell.setSlot (D.2 ci f) v) → H'.size = H.size → (∀ q : Nat, q ≠ ad k i → H'[q]? = H[q]?) → W p l e R s m args below meth c H' (locs ++ [⟨ad k i, D.2 ci f⟩]) cells slots Q (F0 m (pc + 3) ls rest) := fun H' e1 e2 e3 =>
    kk H' _ (hG.store hal hne (by rw [he']; exact ⟨_, hc, t_OB.to (V := updV (vp_V fs) f v) ⟨_, e1, q2, q3, t_set q4 hap hf v⟩ (fun j _ => vp_updV_set hl v j)⟩) e3) (hS0.put e2 e3 (hG.2.1 k i hal))
  rcases hfin with hfin | ⟨hfin, hin2, hdecl⟩
  · unfold u_lay at hlay
    rw [if_neg (by rw [hfin]; decide)] at hlay
    have h6 := u_store hfc hkC hkind hlay hi hd hn hfit
    refine W.putK hexec hb (f := fd) ⟨hown, hlink, ⟨_, _, _, hi⟩, hst⟩ (by rw [q2]; exact h6) q1 q3 (by rw [hsl]; exact k2_hasslot (q4 f hf)) rfl rfl hdg fun H' e1 e2 e3 => ?_
    rw [hsl] at e1 ⊢
    exact fin H' e1 e2 e3
  · unfold u_lay at hlay
    rw [if_pos hfin] at hlay
    have hcf : m.cls = cf := by
      obtain ⟨_, _, c', _, _, _, -, -, hf', -, -, -, hown2, -⟩ := Cond.laysFinal_spec hlay
      have e1 : c' = cf := by have := hi.symm.trans hf'; simp at this; exact this.1.symm
      rw [hdecl] at hown2
      rw [← e1]; exact Option.some.inj (hown.symm.trans hown2)
    have h6 := u_fits hfc hkC hkind (Or.inr hlay) hi hd hn hfit
    refine W.putFinK hexec hb hown hlink hi hst hcf hin2 (by rw [q2]; exact h6) q1 q3 (by rw [hsl]; exact k2_hasslot (q4 f hf)) rfl rfl hdg fun H' e1 e2 e3 => ?_
    rw [hsl] at e1 ⊢
    exact fin H' e1 e2 e3
/-- an int array is read, written; a long array is read, written; a length -/
theorem q_iald (hexec : p.tables.exec = Jvm.exec) (hb : c.code = cc) (hK : va_K D vwCl tys s) (hG : gQ D A ad al E H) (t0 : Nat) {k i : Nat} (hal : al k i) {cA : ClassId} {n : Nat} {f : Nat → Int32} (he : E k i = .inl (cA, n, .inl f)) (ht : tys[t0]? = some (cA, .int)) {z : Int} (h0 : 0 ≤ z) (h1 : z < n) (hn : n < 2147483648) {v : Int32} (hv : f z.toNat = v) (hdg : decode cc pc = .ok (.iaload, 1))
    (kk : W p l e R s m args below meth c H locs cells slots Q (F0 m (pc + 1) ls (.int v :: rest))) : W p l e R s m args below meth c H locs cells slots Q (F0 m pc ls (.int (zI z) :: .ref (ad k i) :: rest)) :=
  va_iald hexec hb hK (hG.one hal he) 0 t0 rfl ht (zI_in h0 h1 hn) hdg (by rw [zI_cl h0 (by omega), hv]; exact kk)
theorem q_lald (hexec : p.tables.exec = Jvm.exec) (hb : c.code = cc) (hK : va_K D vwCl tys s) (hG : gQ D A ad al E H) (t0 : Nat) {k i : Nat} (hal : al k i) {cA : ClassId} {n : Nat} {f : Nat → Int64} (he : E k i = .inl (cA, n, .inr (.inl f))) (ht : tys[t0]? = some (cA, .long)) {z : Int} (h0 : 0 ≤ z) (h1 : z < n) (hn : n < 2147483648) {v : Int64} (hv : f z.toNat = v) (hdg : decode cc pc = .ok (.laload, 1))
    (kk : W p l e R s m args below meth c H locs cells slots Q (F0 m (pc + 1) ls (.long v :: rest))) : W p l e R s m args below meth c H locs cells slots Q (F0 m pc ls (.int (zI z) :: .ref (ad k i) :: rest)) :=
  va_lald hexec hb hK (hG.one hal he) 0 t0 rfl ht (zI_in h0 h1 hn) hdg (by rw [zI_cl h0 (by omega), hv]; exact kk)
theorem q_alen (hexec : p.tables.exec = Jvm.exec) (hb : c.code = cc) (hK : va_K D vwCl tys s) (hG : gQ D A ad al E H) (t0 : Nat) {k i : Nat} (hal : al k i) {cA : ClassId} {x : vp_A} (he : E k i = .inl (cA, x)) {ty : FieldType} (ht : tys[t0]? = some (cA, ty)) {z : Int} (hz : (x.1 : Int) = z) (hdg : decode cc pc = .ok (.arraylength, 1))
    (kk : W p l e R s m args below meth c H locs cells slots Q (F0 m (pc + 1) ls (.int (zI z) :: rest))) : W p l e R s m args below meth c H locs cells slots Q (F0 m pc ls (.ref (ad k i) :: rest)) :=
  va_alen hexec hb hK (hG.one hal he) 0 t0 rfl ht (v := zI z) (by rw [← hz]; rfl) hdg kk
theorem q_iast (hexec : p.tables.exec = Jvm.exec) (hb : c.code = cc) (hK : va_K D vwCl tys s) (hG : gQ D A ad al E H) (hS : va_S A H0 H locs) (t0 : Nat) {k i : Nat} (hal : al k i) {cA : ClassId} {n : Nat} {f : Nat → Int32} (he : E k i = .inl (cA, n, .inl f)) (ht : tys[t0]? = some (cA, .int)) {z : Int} (h0 : 0 ≤ z) (h1 : z < n) (hn : n < 2147483648) {x : Int32}
    {E' : Nat → Nat → va_E} (hne : ∀ k' i', al k' i' → ¬ (k' = k ∧ i' = i) → E' k' i' = E k' i') {f' : Nat → Int32} (he' : E' k i = .inl (cA, n, .inl f')) (hf' : ∀ j : Nat, j < n → f' j = if j = z.toNat then x else f j) (hdg : decode cc pc = .ok (.iastore, 1))
    (kk : ∀ (H1 : Heap) (locs1 : List Loc), gQ D A ad al E' H1 → va_S A H0 H1 locs1 → W p l e R s m args below meth c H1 locs1 cells slots Q (F0 m (pc + 1) ls rest)) : W p l e R s m args below meth c H locs cells slots Q (F0 m pc ls (.int x :: .int (zI z) :: .ref (ad k i) :: rest)) := by
  have hat := hG.1 k i hal
  rw [he] at hat
  refine W.iast hexec hb hat ((hK.2 t0 _ ht).1 n (fun j => .int (f j))) (fun q => by cases q) (by show ¬ (zI z < 0 ∨ (arrV _ _ _).slots.size ≤ _); rw [arrV_size]; exact zI_in h0 h1 hn) rfl rfl hdg fun H1 e1 z1 oq => ?_
  refine kk H1 _ (hG.store hal hne ?_ oq) (hS.put z1 oq (hG.2.1 k i hal))
  rw [he']
  show H1[ad k i]? = some (vp_cell _ _)
  rw [e1, vp_cell_i, vp_cell_i, arrV_store, zI_cl h0 (by omega)]
  congr 1
  unfold arrV
  congr 1
  congr 1
  funext q
  have hq := hf' q.val q.isLt
  simp only [updV]
  rw [hq]
  by_cases h : q.val = z.toNat <;> simp [h]
theorem q_last (hexec : p.tables.exec = Jvm.exec) (hb : c.code = cc) (hK : va_K D vwCl tys s) (hG : gQ D A ad al E H) (hS : va_S A H0 H locs) (t0 : Nat) {k i : Nat} (hal : al k i) {cA : ClassId} {n : Nat} {f : Nat → Int64} (he : E k i = .inl (cA, n, .inr (.inl f))) (ht : tys[t0]? = some (cA, .long)) {z : Int} (h0 : 0 ≤ z) (h1 : z < n) (hn : n < 2147483648) {x : Int64}
    {E' : Nat → Nat → va_E} (hne : ∀ k' i', al k' i' → ¬ (k' = k ∧ i' = i) → E' k' i' = E k' i') {f' : Nat → Int64} (he' : E' k i = .inl (cA, n, .inr (.inl f'))) (hf' : ∀ j : Nat, j < n → f' j = if j = z.toNat then x else f j) (hdg : decode cc pc = .ok (.lastore, 1))
    (kk : ∀ (H1 : Heap) (locs1 : List Loc), gQ D A ad al E' H1 → va_S A H0 H1 locs1 → W p l e R s m args below meth c H1 locs1 cells slots Q (F0 m (pc + 1) ls rest)) : W p l e R s m args below meth c H locs cells slots Q (F0 m pc ls (.long x :: .int (zI z) :: .ref (ad k i) :: rest)) := by
  have hat := hG.1 k i hal
  rw [he] at hat
  refine W.last hexec hb hat ((hK.2 t0 _ ht).1 n (fun j => .long (f j))) (fun q => by cases q) (by show ¬ (zI z < 0 ∨ (arrV _ _ _).slots.size ≤ _); rw [arrV_size]; exact zI_in h0 h1 hn) rfl rfl hdg fun H1 e1 z1 oq => ?_
  refine kk H1 _ (hG.store hal hne ?_ oq) (hS.put z1 oq (hG.2.1 k i hal))
  rw [he']
  show H1[ad k i]? = some (vp_cell _ _)
  rw [e1, vp_cell_l, vp_cell_l, arrV_store, zI_cl h0 (by omega)]
  congr 1
  unfold arrV
  congr 1
  congr 1
  funext q
  have hq := hf' q.val q.isLt
  simp only [updV]
  rw [hq]
  by_cases h : q.val = z.toNat <;> simp [h]
/-- an object is made; an array is made -/
theorem q_new {c0 : Code} (hexec : p.tables.exec = Jvm.exec) (hb : c0.code = cc) {own C : String} {T : u_T} {N ci index : Nat} {Ts : List Cond} (hts : ∀ w ∈ Ts, w.before args s = true) (hin : ∀ w ∈ u_ws C T N, w ∈ Ts) (ty : Nat → FieldType) (hty : ∀ k, k < N → parseFieldDescriptor (T k).2.2.1 = some (ty k)) (hown : s.vm.findClass own = some m.cls) (hcl : (Cond.classLink own index C).before args s = true) (hinst : (Cond.instantiable C N).before args s = true) (hini : (Cond.initialized C).before args s = true)
    (hK : va_K D vwCl tys s) (hG : gQ D A ad al E H) (hS : va_S A H0 H locs) (hA : ∀ q, H0.size ≤ q → A q) (hc : vwCl[ci]? = some (C, T, N)) {fs : List Value} (hfs : ∀ j, j < N → defaultValue (ty j) = vp_V fs j) (hcells : cells + 1 ≤ R.cells) (hslots : slots + N ≤ R.slots) (hdg : decode cc pc = .ok (.new index, 3)) (k i : Nat)
    {ad' : Nat → Nat → Nat → Nat} {al' : Nat → Nat → Prop} {E' : Nat → Nat → Nat → va_E} (hal : ∀ k' i', al' k' i' → al k' i' ∨ (k' = k ∧ i' = i)) (had : ∀ q k' i', al k' i' → ad' q k' i' = ad k' i') (hq : ∀ q, ad' q k i = q) (hne : ∀ q k' i', al k' i' → E' q k' i' = E k' i') (he' : ∀ q, E' q k i = .inr (ci, fs))
    (kk : ∀ (q : Nat) (H1 : Heap), gQ D A (ad' q) al' (E' q) H1 → va_S A H0 H1 locs → W p l e R s m args below meth c0 H1 locs (cells + 1) (slots + N) Q (F0 m (pc + 3) ls (.ref (ad' q k i) :: rest))) : W p l e R s m args below meth c0 H locs cells slots Q (F0 m pc ls rest) := by
  have hKn := hK.1 ci _ hc
  refine W.newcK hexec hb hown hcl hinst hini rfl hdg hcells hslots hKn.2.1 rfl fun H1 kC hkC e1 z1 o1 => ?_
  have h := kk H.size H1 (hG.grow (k := k) (i := i) hal (had _) (hq _) (hA _ hS.1) (hne _) (by rw [he']; exact ⟨_, hc, (u_born ty hts hin hKn hkC e1 hty).to hfs⟩) o1) ⟨Nat.le_trans hS.1 (by omega), fun x h1 h2 => (o1 x (Nat.lt_of_lt_of_le h1 hS.1)).trans (hS.2.1 x h1 h2), hS.2.2⟩
  rw [hq] at h
  exact h
theorem q_newa (hexec : p.tables.exec = Jvm.exec) (hb : c.code = cc) {atype : ArrayType} (harr : (Cond.arrayClass (newarray.typeOf atype)).before args s = true) {ty : FieldType} (hty : newarray.typeOf atype = ty) (hK : va_K D vwCl tys s) (hG : gQ D A ad al E H) (hS : va_S A H0 H locs) (hA : ∀ q, H0.size ≤ q → A q) (t0 : Nat) {cA : ClassId} (ht : tys[t0]? = some (cA, ty)) (hob : ∀ C, ty ≠ .object C)
    {n : Int32} {N' : Nat} {a0 : vp_A} (ha : vp_cell cA a0 = arrV cA N' (fun _ => defaultValue ty)) (hn : ¬ n < 0) (hN : n.toNatClampNeg = N') (hbytes : N' * componentBytes ty ≤ 536870912) (hcells : cells + 1 ≤ R.cells) (hslots : slots + N' ≤ R.slots) (hdg : decode cc pc = .ok (.newarray atype, 2)) (k i : Nat)
    {ad' : Nat → Nat → Nat → Nat} {al' : Nat → Nat → Prop} {E' : Nat → Nat → Nat → va_E} (hal : ∀ k' i', al' k' i' → al k' i' ∨ (k' = k ∧ i' = i)) (had : ∀ q k' i', al k' i' → ad' q k' i' = ad k' i') (hq : ∀ q, ad' q k i = q) (hne : ∀ q k' i', al k' i' → E' q k' i' = E k' i') (he' : ∀ q, E' q k i = .inl (cA, a0))
    (kk : ∀ (q : Nat) (H1 : Heap), gQ D A (ad' q) al' (E' q) H1 → va_S A H0 H1 locs → W p l e R s m args below meth c H1 locs (cells + 1) (slots + N') Q (F0 m (pc + 2) ls (.ref (ad' q k i) :: rest))) : W p l e R s m args below meth c H locs cells slots Q (F0 m pc ls (.int n :: rest)) := by
  subst hty
  refine va_newaK hexec hb harr rfl hdg rfl hn hN hbytes hcells hslots rfl fun H1 cB e1 z1 o1 hAr hNm => ?_
  have hcAB : cB = cA := by
    have h1 := (hK.2 t0 _ ht).2
    have h2 : s.vm.findClass ("[" ++ (newarray.typeOf atype).toString) = some cA := by
      revert h1
      unfold va_RA
      split
      · rename_i C heq
        exact fun _ => absurd heq (hob C)
      · exact fun h => h
    exact Option.some.inj (hNm.symm.trans h2)
  subst hcAB
  have h := kk H.size H1 (hG.grow (k := k) (i := i) hal (had _) (hq _) (hA _ hS.1) (hne _) (by rw [he']; show H1[H.size]? = some (vp_cell _ _); rw [ha]; exact e1) o1) ⟨Nat.le_trans hS.1 (by omega), fun x h1 h2 => (o1 x (Nat.lt_of_lt_of_le h1 hS.1)).trans (hS.2.1 x h1 h2), hS.2.2⟩
  rw [hq] at h
  exact h
end GQ
end
section
/-! Instructions over whole numbers -/
def bZ (P : Prop) [Decidable P] : Int := if P then 1 else 0
theorem bZ_0 {P : Prop} [Decidable P] : bZ P = 0 ↔ ¬ P := by unfold bZ; split <;> simp_all
theorem bZ_1 {P : Prop} [Decidable P] : bZ P = 1 ↔ P := by unfold bZ; split <;> simp_all
theorem bZ_B (P : Prop) [Decidable P] : zB (bZ P) := by unfold bZ; split <;> exact ⟨by omega, by omega⟩
theorem bZ_t {P : Prop} [Decidable P] (h : P) : bZ P = 1 := if_pos h
theorem bZ_f {P : Prop} [Decidable P] (h : ¬ P) : bZ P = 0 := if_neg h
theorem bZ_c {P Q : Prop} [Decidable P] [Decidable Q] (h : P ↔ Q) : bZ P = bZ Q := by unfold bZ; simp [h]
def rf (ad : Nat → Nat → Nat) (t : Nat) (z : Int) : Value := if z < 0 then .null else .ref (ad t z.toNat)
theorem rf_n {ad : Nat → Nat → Nat} {t : Nat} {z : Int} (h : z < 0) : rf ad t z = .null := if_pos h
theorem rf_s {ad : Nat → Nat → Nat} {t : Nat} {z : Int} {j : Nat} (h : z = j) : rf ad t z = .ref (ad t j) := by subst h; unfold rf; rw [if_neg (by omega)]; simp
theorem lgc_lt (x y : Int64) : lg_cmp x y < 0 ↔ x < y := by
  unfold lg_cmp
  by_cases h1 : y < x
  · simp only [h1, if_true]; constructor
    · intro h; exact absurd h (by decide)
    · intro h; exact absurd (Int64.lt_iff_toInt_lt.mp h) (by have := Int64.lt_iff_toInt_lt.mp h1; omega)
  · by_cases h2 : x = y
    · subst h2; simp
    · simp only [h1, h2, if_false]; constructor
      · intro _; rw [Int64.lt_iff_toInt_lt] at *; have : x.toInt ≠ y.toInt := fun h => h2 (Int64.toInt_inj.mp h); omega
      · intro _; decide
theorem lgc_gt (x y : Int64) : 0 < lg_cmp x y ↔ y < x := by
  unfold lg_cmp
  by_cases h1 : y < x
  · simp only [h1, if_true]; constructor
    · intro _; trivial
    · intro _; decide
  · by_cases h2 : x = y
    · subst h2; simp
    · simp only [h1, h2, if_false]; constructor
      · intro h; exact absurd h (by decide)
      · intro h; exact h.elim
theorem lgc_eq (x y : Int64) : lg_cmp x y = 0 ↔ x = y := by
  unfold lg_cmp
  by_cases h1 : y < x
  · simp only [h1, if_true]; constructor
    · intro h; exact absurd h (by decide)
    · intro h; subst h; exact absurd (Int64.lt_iff_toInt_lt.mp h1) (by omega)
  · by_cases h2 : x = y
    · subst h2; simp
    · simp only [h1, h2, if_false]; constructor
      · intro h; exact absurd h (by decide)
      · intro h; exact absurd h (by simp [h2])
theorem lgc_le (x y : Int64) : lg_cmp x y ≤ 0 ↔ x ≤ y := by
  have h := lgc_gt x y
  rw [Int32.lt_iff_toInt_lt, Int64.lt_iff_toInt_lt] at h
  rw [Int32.le_iff_toInt_le, Int64.le_iff_toInt_le]
  omega
theorem lgc_ge (x y : Int64) : 0 ≤ lg_cmp x y ↔ y ≤ x := by
  have h := lgc_lt x y
  rw [Int32.lt_iff_toInt_lt, Int64.lt_iff_toInt_lt] at h
  rw [Int32.le_iff_toInt_le, Int64.le_iff_toInt_le]
  omega
section ZR
variable {p : Program} {l : Launch} {e : Env} {R : Room} {s : State} {m : MethodId} {args : Array Value} {below : List Frame} {meth : Method} {c : Code} {H : Heap} {locs : List Loc} {cells slots : Nat} {Q : State → Prop}
variable {cc : ByteArray} {pc : Nat} {ls : Array Slot} {rest : List Value} {ad : Nat → Nat → Nat} {t : Nat}
theorem z_iadd (hexec : p.tables.exec = Jvm.exec) (hb : c.code = cc) {x y : Int} (hdg : decode cc pc = .ok (.iadd, 1)) (k : W p l e R s m args below meth c H locs cells slots Q (F0 m (pc + 1) ls (.int (zI (x + y)) :: rest))) : W p l e R s m args below meth c H locs cells slots Q (F0 m pc ls (.int (zI y) :: .int (zI x) :: rest)) := lv_iadd hexec hb hdg (by rw [zI_add]; exact k)
theorem z_isub (hexec : p.tables.exec = Jvm.exec) (hb : c.code = cc) {x y : Int} (hdg : decode cc pc = .ok (.isub, 1)) (k : W p l e R s m args below meth c H locs cells slots Q (F0 m (pc + 1) ls (.int (zI (x - y)) :: rest))) : W p l e R s m args below meth c H locs cells slots Q (F0 m pc ls (.int (zI y) :: .int (zI x) :: rest)) := lv_isub hexec hb hdg (by rw [zI_sub]; exact k)
theorem z_imul (hexec : p.tables.exec = Jvm.exec) (hb : c.code = cc) {x y : Int} (hdg : decode cc pc = .ok (.imul, 1)) (k : W p l e R s m args below meth c H locs cells slots Q (F0 m (pc + 1) ls (.int (zI (x * y)) :: rest))) : W p l e R s m args below meth c H locs cells slots Q (F0 m pc ls (.int (zI y) :: .int (zI x) :: rest)) := lv_imul hexec hb hdg (by rw [zI_mul]; exact k)
theorem z_ladd (hexec : p.tables.exec = Jvm.exec) (hb : c.code = cc) {x y : Int} (hdg : decode cc pc = .ok (.ladd, 1)) (k : W p l e R s m args below meth c H locs cells slots Q (F0 m (pc + 1) ls (.long (zL (x + y)) :: rest))) : W p l e R s m args below meth c H locs cells slots Q (F0 m pc ls (.long (zL y) :: .long (zL x) :: rest)) := lv_ladd hexec hb hdg (by rw [zL_add]; exact k)
theorem z_lsub (hexec : p.tables.exec = Jvm.exec) (hb : c.code = cc) {x y : Int} (hdg : decode cc pc = .ok (.lsub, 1)) (k : W p l e R s m args below meth c H locs cells slots Q (F0 m (pc + 1) ls (.long (zL (x - y)) :: rest))) : W p l e R s m args below meth c H locs cells slots Q (F0 m pc ls (.long (zL y) :: .long (zL x) :: rest)) := lv_lsub hexec hb hdg (by rw [zL_sub]; exact k)
theorem z_lmul (hexec : p.tables.exec = Jvm.exec) (hb : c.code = cc) {x y : Int} (hdg : decode cc pc = .ok (.lmul, 1)) (k : W p l e R s m args below meth c H locs cells slots Q (F0 m (pc + 1) ls (.long (zL (x * y)) :: rest))) : W p l e R s m args below meth c H locs cells slots Q (F0 m pc ls (.long (zL y) :: .long (zL x) :: rest)) := lv_lmul hexec hb hdg (by rw [zL_mul]; exact k)
theorem z_irem (hexec : p.tables.exec = Jvm.exec) (hb : c.code = cc) {x y : Int} (hdg : decode cc pc = .ok (.irem, 1)) (h1 : 0 ≤ x ∧ x < 2147483648) (h2 : 0 < y ∧ y < 2147483648) (k : W p l e R s m args below meth c H locs cells slots Q (F0 m (pc + 1) ls (.int (zI (x % y)) :: rest))) : W p l e R s m args below meth c H locs cells slots Q (F0 m pc ls (.int (zI y) :: .int (zI x) :: rest)) := lv_irem hexec hb hdg (fun q => by have := (zI_eq (a := y) (b := 0) ⟨by omega, by omega⟩ ⟨by omega, by omega⟩).mp q; omega) (by rw [zI_rem h1.1 h1.2 h2.1 h2.2]; exact k)
theorem z_lrem (hexec : p.tables.exec = Jvm.exec) (hb : c.code = cc) {x y : Int} (hdg : decode cc pc = .ok (.lrem, 1)) (h1 : 0 ≤ x ∧ x < 9223372036854775808) (h2 : 0 < y ∧ y < 9223372036854775808) (k : W p l e R s m args below meth c H locs cells slots Q (F0 m (pc + 1) ls (.long (zL (x % y)) :: rest))) : W p l e R s m args below meth c H locs cells slots Q (F0 m pc ls (.long (zL y) :: .long (zL x) :: rest)) := lv_lrem hexec hb hdg (fun q => by have := (zL_eq (a := y) (b := 0) ⟨by omega, by omega⟩ ⟨by omega, by omega⟩).mp q; omega) (by rw [zL_rem h1.1 h1.2 h2.1 h2.2]; exact k)
theorem z_ldiv (hexec : p.tables.exec = Jvm.exec) (hb : c.code = cc) {x y : Int} (hdg : decode cc pc = .ok (.ldiv, 1)) (h2 : 0 < y ∧ y < 9223372036854775808) (k : W p l e R s m args below meth c H locs cells slots Q (F0 m (pc + 1) ls (.long (zL x / zL y) :: rest))) : W p l e R s m args below meth c H locs cells slots Q (F0 m pc ls (.long (zL y) :: .long (zL x) :: rest)) := lv_ldiv hexec hb hdg (fun q => by have := (zL_eq (a := y) (b := 0) ⟨by omega, by omega⟩ ⟨by omega, by omega⟩).mp q; omega) k
theorem z_i2l (hexec : p.tables.exec = Jvm.exec) (hb : c.code = cc) {x : Int} (hdg : decode cc pc = .ok (.i2l, 1)) (h : zB x) (k : W p l e R s m args below meth c H locs cells slots Q (F0 m (pc + 1) ls (.long (zL x) :: rest))) : W p l e R s m args below meth c H locs cells slots Q (F0 m pc ls (.int (zI x) :: rest)) := lv_i2l hexec hb hdg (zI_l h) k
theorem z_l2i (hexec : p.tables.exec = Jvm.exec) (hb : c.code = cc) {x : Int} (hdg : decode cc pc = .ok (.l2i, 1)) (k : W p l e R s m args below meth c H locs cells slots Q (F0 m (pc + 1) ls (.int (zI x) :: rest))) : W p l e R s m args below meth c H locs cells slots Q (F0 m pc ls (.long (zL x) :: rest)) := lv_l2i hexec hb hdg (zL_i x) k
theorem z_ush33 (hexec : p.tables.exec = Jvm.exec) (hb : c.code = cc) {x : Int} (hdg : decode cc pc = .ok (.lushr, 1)) (k : W p l e R s m args below meth c H locs cells slots Q (F0 m (pc + 1) ls (.long (zL (x % 18446744073709551616 / 8589934592)) :: rest))) : W p l e R s m args below meth c H locs cells slots Q (F0 m pc ls (.int (zI 33) :: .long (zL x) :: rest)) := lv_lushr hexec hb hdg (zL_ush x) k
theorem z_ldc (hexec : p.tables.exec = Jvm.exec) (hb : c.code = cc) {own : String} {index : Nat} {v : Int32} {z : Int} (hown : s.vm.findClass own = some m.cls) (hconst : (Jvm.Cond.constant own index v).before args s = true) (hz : v = zI z) (hdg : decode cc pc = .ok (.ldc index, 2)) (k : W p l e R s m args below meth c H locs cells slots Q (F0 m (pc + 2) ls (.int (zI z) :: rest))) : W p l e R s m args below meth c H locs cells slots Q (F0 m pc ls rest) := lv_ldc hexec hb hown hconst hdg (by rw [hz]; exact k)
theorem z_ldc2 (hexec : p.tables.exec = Jvm.exec) (hb : c.code = cc) {own : String} {index : Nat} {v : Int64} {z : Int} (hown : s.vm.findClass own = some m.cls) (hconst : (Jvm.Cond.constantLong own index v).before args s = true) (hz : v = zL z) (hdg : decode cc pc = .ok (.ldc2_w index, 3)) (k : W p l e R s m args below meth c H locs cells slots Q (F0 m (pc + 3) ls (.long (zL z) :: rest))) : W p l e R s m args below meth c H locs cells slots Q (F0 m pc ls rest) := lv_ldc2 hexec hb hown hconst hdg (by rw [hz]; exact k)
theorem z_max (hexec : p.tables.exec = Jvm.exec) (hb : c.code = cc) (hml : c.maxLocals = ls.size) {own : String} {index : Nat} (hown : s.vm.findClass own = some m.cls) (hlink : (Cond.methodLink own index Lib.Math.max.name).before args s = true) (hstat : (Cond.static Lib.Math.max.name).before args s = true) (hini : (Cond.initialized "java/lang/Math").before args s = true) (hcode : (Cond.code Lib.Math.max.name Lib.Math.max.code 2 (some .int)).before args s = true) (hframes : 1 ≤ R.frames) (hlocals : (rest.map fun v => v.category).sum + 13 ≤ R.locals) (hc : cells ≤ R.cells) (hs : slots ≤ R.slots) {x y : Int} (hx : zB x) (hy : zB y) (hdg : decode cc pc = .ok (.invokestatic index, 3)) (kk : W p l e R s m args below meth c H locs cells slots Q (F0 m (pc + 3) ls (.int (zI (max x y)) :: rest))) : W p l e R s m args below meth c H locs cells slots Q (F0 m pc ls (.int (zI y) :: .int (zI x) :: rest)) := by
  refine va_mmax hexec hb hml hown hlink hstat hini hcode hframes hlocals hc hs hdg ?_
  have e : (if zI x < zI y then zI y else zI x) = zI (max x y) := by
    by_cases h : x < y
    · rw [if_pos ((zI_lt hx hy).mpr h)]; congr 1; omega
    · rw [if_neg (fun q => h ((zI_lt hx hy).mp q))]; congr 1; omega
  rw [e]; exact kk
theorem z_min (hexec : p.tables.exec = Jvm.exec) (hb : c.code = cc) (hml : c.maxLocals = ls.size) {own : String} {index : Nat} (hown : s.vm.findClass own = some m.cls) (hlink : (Cond.methodLink own index Lib.Math.min.name).before args s = true) (hstat : (Cond.static Lib.Math.min.name).before args s = true) (hini : (Cond.initialized "java/lang/Math").before args s = true) (hcode : (Cond.code Lib.Math.min.name Lib.Math.min.code 2 (some .int)).before args s = true) (hframes : 1 ≤ R.frames) (hlocals : (rest.map fun v => v.category).sum + 13 ≤ R.locals) (hc : cells ≤ R.cells) (hs : slots ≤ R.slots) {x y : Int} (hx : zB x) (hy : zB y) (hdg : decode cc pc = .ok (.invokestatic index, 3)) (kk : W p l e R s m args below meth c H locs cells slots Q (F0 m (pc + 3) ls (.int (zI (min x y)) :: rest))) : W p l e R s m args below meth c H locs cells slots Q (F0 m pc ls (.int (zI y) :: .int (zI x) :: rest)) := by
  refine va_mmin hexec hb hml hown hlink hstat hini hcode hframes hlocals hc hs hdg ?_
  have e : (if zI y < zI x then zI y else zI x) = zI (min x y) := by
    by_cases h : y < x
    · rw [if_pos ((zI_lt hy hx).mpr h)]; congr 1; omega
    · rw [if_neg (fun q => h ((zI_lt hy hx).mp q))]; congr 1; omega
  rw [e]; exact kk
theorem z_icmp_eq (hexec : p.tables.exec = Jvm.exec) (hb : c.code = cc) {x y : Int} {off : Int} {tgt : Nat} (hdg : decode cc pc = .ok (.if_icmp .eq off, 3)) (ht : (pc : Int) + off = (tgt : Int)) (hx : zB x) (hy : zB y) (kt : x = y → W p l e R s m args below meth c H locs cells slots Q (F0 m tgt ls rest)) (kf : ¬ x = y → W p l e R s m args below meth c H locs cells slots Q (F0 m (pc + 3) ls rest)) : W p l e R s m args below meth c H locs cells slots Q (F0 m pc ls (.int (zI y) :: .int (zI x) :: rest)) :=
  have h := zI_eq hx hy
  lv_icmp_eq hexec hb hdg ht (fun q => kt (h.mp q)) (fun q => kf (by have q2 := mt h.mpr q; omega))
theorem z_if_eq (hexec : p.tables.exec = Jvm.exec) (hb : c.code = cc) {x : Int} {off : Int} {tgt : Nat} (hdg : decode cc pc = .ok (.ifCond .eq off, 3)) (ht : (pc : Int) + off = (tgt : Int)) (hx : zB x) (kt : x = 0 → W p l e R s m args below meth c H locs cells slots Q (F0 m tgt ls rest)) (kf : ¬ x = 0 → W p l e R s m args below meth c H locs cells slots Q (F0 m (pc + 3) ls rest)) : W p l e R s m args below meth c H locs cells slots Q (F0 m pc ls (.int (zI x) :: rest)) :=
  have hy : zB 0 := ⟨by omega, by omega⟩
  have h := zI_eq hx hy
  lv_if_eq hexec hb hdg ht (fun q => kt (h.mp q)) (fun q => kf (by have q2 := mt h.mpr q; omega))
theorem z_lif_eq (hexec : p.tables.exec = Jvm.exec) (hb : c.code = cc) {x y : Int} {off : Int} {tgt : Nat} (hdg : decode cc pc = .ok (.ifCond .eq off, 3)) (ht : (pc : Int) + off = (tgt : Int)) (hx : zC x) (hy : zC y) (kt : x = y → W p l e R s m args below meth c H locs cells slots Q (F0 m tgt ls rest)) (kf : ¬ x = y → W p l e R s m args below meth c H locs cells slots Q (F0 m (pc + 3) ls rest)) : W p l e R s m args below meth c H locs cells slots Q (F0 m pc ls (.int (lg_cmp (zL x) (zL y)) :: rest)) :=
  have h := (lgc_eq _ _).trans (zL_eq hx hy)
  lv_if_eq hexec hb hdg ht (fun q => kt (h.mp q)) (fun q => kf (by have q2 := mt h.mpr q; omega))
theorem z_icmp_ne (hexec : p.tables.exec = Jvm.exec) (hb : c.code = cc) {x y : Int} {off : Int} {tgt : Nat} (hdg : decode cc pc = .ok (.if_icmp .ne off, 3)) (ht : (pc : Int) + off = (tgt : Int)) (hx : zB x) (hy : zB y) (kt : ¬ x = y → W p l e R s m args below meth c H locs cells slots Q (F0 m tgt ls rest)) (kf : x = y → W p l e R s m args below meth c H locs cells slots Q (F0 m (pc + 3) ls rest)) : W p l e R s m args below meth c H locs cells slots Q (F0 m pc ls (.int (zI y) :: .int (zI x) :: rest)) :=
  have h := zI_eq hx hy
  lv_icmp_ne hexec hb hdg ht (fun q => kt (mt h.mpr q)) (fun q => kf (h.mp q))
theorem z_if_ne (hexec : p.tables.exec = Jvm.exec) (hb : c.code = cc) {x : Int} {off : Int} {tgt : Nat} (hdg : decode cc pc = .ok (.ifCond .ne off, 3)) (ht : (pc : Int) + off = (tgt : Int)) (hx : zB x) (kt : ¬ x = 0 → W p l e R s m args below meth c H locs cells slots Q (F0 m tgt ls rest)) (kf : x = 0 → W p l e R s m args below meth c H locs cells slots Q (F0 m (pc + 3) ls rest)) : W p l e R s m args below meth c H locs cells slots Q (F0 m pc ls (.int (zI x) :: rest)) :=
  have hy : zB 0 := ⟨by omega, by omega⟩
  have h := zI_eq hx hy
  lv_if_ne hexec hb hdg ht (fun q => kt (mt h.mpr q)) (fun q => kf (h.mp q))
theorem z_lif_ne (hexec : p.tables.exec = Jvm.exec) (hb : c.code = cc) {x y : Int} {off : Int} {tgt : Nat} (hdg : decode cc pc = .ok (.ifCond .ne off, 3)) (ht : (pc : Int) + off = (tgt : Int)) (hx : zC x) (hy : zC y) (kt : ¬ x = y → W p l e R s m args below meth c H locs cells slots Q (F0 m tgt ls rest)) (kf : x = y → W p l e R s m args below meth c H locs cells slots Q (F0 m (pc + 3) ls rest)) : W p l e R s m args below meth c H locs cells slots Q (F0 m pc ls (.int (lg_cmp (zL x) (zL y)) :: rest)) :=
  have h := (lgc_eq _ _).trans (zL_eq hx hy)
  lv_if_ne hexec hb hdg ht (fun q => kt (mt h.mpr q)) (fun q => kf (h.mp q))
theorem z_icmp_lt (hexec : p.tables.exec = Jvm.exec) (hb : c.code = cc) {x y : Int} {off : Int} {tgt : Nat} (hdg : decode cc pc = .ok (.if_icmp .lt off, 3)) (ht : (pc : Int) + off = (tgt : Int)) (hx : zB x) (hy : zB y) (kt : x < y → W p l e R s m args below meth c H locs cells slots Q (F0 m tgt ls rest)) (kf : y ≤ x → W p l e R s m args below meth c H locs cells slots Q (F0 m (pc + 3) ls rest)) : W p l e R s m args below meth c H locs cells slots Q (F0 m pc ls (.int (zI y) :: .int (zI x) :: rest)) :=
  have h := zI_lt hx hy
  lv_icmp_lt hexec hb hdg ht (fun q => kt (h.mp q)) (fun q => kf (by have q2 := mt h.mpr q; omega))
theorem z_if_lt (hexec : p.tables.exec = Jvm.exec) (hb : c.code = cc) {x : Int} {off : Int} {tgt : Nat} (hdg : decode cc pc = .ok (.ifCond .lt off, 3)) (ht : (pc : Int) + off = (tgt : Int)) (hx : zB x) (kt : x < 0 → W p l e R s m args below meth c H locs cells slots Q (F0 m tgt ls rest)) (kf : 0 ≤ x → W p l e R s m args below meth c H locs cells slots Q (F0 m (pc + 3) ls rest)) : W p l e R s m args below meth c H locs cells slots Q (F0 m pc ls (.int (zI x) :: rest)) :=
  have hy : zB 0 := ⟨by omega, by omega⟩
  have h := zI_lt hx hy
  lv_if_lt hexec hb hdg ht (fun q => kt (h.mp q)) (fun q => kf (by have q2 := mt h.mpr q; omega))
theorem z_lif_lt (hexec : p.tables.exec = Jvm.exec) (hb : c.code = cc) {x y : Int} {off : Int} {tgt : Nat} (hdg : decode cc pc = .ok (.ifCond .lt off, 3)) (ht : (pc : Int) + off = (tgt : Int)) (hx : zC x) (hy : zC y) (kt : x < y → W p l e R s m args below meth c H locs cells slots Q (F0 m tgt ls rest)) (kf : y ≤ x → W p l e R s m args below meth c H locs cells slots Q (F0 m (pc + 3) ls rest)) : W p l e R s m args below meth c H locs cells slots Q (F0 m pc ls (.int (lg_cmp (zL x) (zL y)) :: rest)) :=
  have h := (lgc_lt _ _).trans (zL_lt hx hy)
  lv_if_lt hexec hb hdg ht (fun q => kt (h.mp q)) (fun q => kf (by have q2 := mt h.mpr q; omega))
theorem z_icmp_ge (hexec : p.tables.exec = Jvm.exec) (hb : c.code = cc) {x y : Int} {off : Int} {tgt : Nat} (hdg : decode cc pc = .ok (.if_icmp .ge off, 3)) (ht : (pc : Int) + off = (tgt : Int)) (hx : zB x) (hy : zB y) (kt : y ≤ x → W p l e R s m args below meth c H locs cells slots Q (F0 m tgt ls rest)) (kf : x < y → W p l e R s m args below meth c H locs cells slots Q (F0 m (pc + 3) ls rest)) : W p l e R s m args below meth c H locs cells slots Q (F0 m pc ls (.int (zI y) :: .int (zI x) :: rest)) :=
  have h := zI_le hy hx
  lv_icmp_ge hexec hb hdg ht (fun q => kt (h.mp q)) (fun q => kf (by have q2 := mt h.mpr q; omega))
theorem z_if_ge (hexec : p.tables.exec = Jvm.exec) (hb : c.code = cc) {x : Int} {off : Int} {tgt : Nat} (hdg : decode cc pc = .ok (.ifCond .ge off, 3)) (ht : (pc : Int) + off = (tgt : Int)) (hx : zB x) (kt : 0 ≤ x → W p l e R s m args below meth c H locs cells slots Q (F0 m tgt ls rest)) (kf : x < 0 → W p l e R s m args below meth c H locs cells slots Q (F0 m (pc + 3) ls rest)) : W p l e R s m args below meth c H locs cells slots Q (F0 m pc ls (.int (zI x) :: rest)) :=
  have hy : zB 0 := ⟨by omega, by omega⟩
  have h := zI_le hy hx
  lv_if_ge hexec hb hdg ht (fun q => kt (h.mp q)) (fun q => kf (by have q2 := mt h.mpr q; omega))
theorem z_lif_ge (hexec : p.tables.exec = Jvm.exec) (hb : c.code = cc) {x y : Int} {off : Int} {tgt : Nat} (hdg : decode cc pc = .ok (.ifCond .ge off, 3)) (ht : (pc : Int) + off = (tgt : Int)) (hx : zC x) (hy : zC y) (kt : y ≤ x → W p l e R s m args below meth c H locs cells slots Q (F0 m tgt ls rest)) (kf : x < y → W p l e R s m args below meth c H locs cells slots Q (F0 m (pc + 3) ls rest)) : W p l e R s m args below meth c H locs cells slots Q (F0 m pc ls (.int (lg_cmp (zL x) (zL y)) :: rest)) :=
  have h := (lgc_ge _ _).trans (zL_le hy hx)
  lv_if_ge hexec hb hdg ht (fun q => kt (h.mp q)) (fun q => kf (by have q2 := mt h.mpr q; omega))
theorem z_icmp_gt (hexec : p.tables.exec = Jvm.exec) (hb : c.code = cc) {x y : Int} {off : Int} {tgt : Nat} (hdg : decode cc pc = .ok (.if_icmp .gt off, 3)) (ht : (pc : Int) + off = (tgt : Int)) (hx : zB x) (hy : zB y) (kt : y < x → W p l e R s m args below meth c H locs cells slots Q (F0 m tgt ls rest)) (kf : x ≤ y → W p l e R s m args below meth c H locs cells slots Q (F0 m (pc + 3) ls rest)) : W p l e R s m args below meth c H locs cells slots Q (F0 m pc ls (.int (zI y) :: .int (zI x) :: rest)) :=
  have h := zI_lt hy hx
  lv_icmp_gt hexec hb hdg ht (fun q => kt (h.mp q)) (fun q => kf (by have q2 := mt h.mpr q; omega))
theorem z_if_gt (hexec : p.tables.exec = Jvm.exec) (hb : c.code = cc) {x : Int} {off : Int} {tgt : Nat} (hdg : decode cc pc = .ok (.ifCond .gt off, 3)) (ht : (pc : Int) + off = (tgt : Int)) (hx : zB x) (kt : 0 < x → W p l e R s m args below meth c H locs cells slots Q (F0 m tgt ls rest)) (kf : x ≤ 0 → W p l e R s m args below meth c H locs cells slots Q (F0 m (pc + 3) ls rest)) : W p l e R s m args below meth c H locs cells slots Q (F0 m pc ls (.int (zI x) :: rest)) :=
  have hy : zB 0 := ⟨by omega, by omega⟩
  have h := zI_lt hy hx
  lv_if_gt hexec hb hdg ht (fun q => kt (h.mp q)) (fun q => kf (by have q2 := mt h.mpr q; omega))
theorem z_lif_gt (hexec : p.tables.exec = Jvm.exec) (hb : c.code = cc) {x y : Int} {off : Int} {tgt : Nat} (hdg : decode cc pc = .ok (.ifCond .gt off, 3)) (ht : (pc : Int) + off = (tgt : Int)) (hx : zC x) (hy : zC y) (kt : y < x → W p l e R s m args below meth c H locs cells slots Q (F0 m tgt ls rest)) (kf : x ≤ y → W p l e R s m args below meth c H locs cells slots Q (F0 m (pc + 3) ls rest)) : W p l e R s m args below meth c H locs cells slots Q (F0 m pc ls (.int (lg_cmp (zL x) (zL y)) :: rest)) :=
  have h := (lgc_gt _ _).trans (zL_lt hy hx)
  lv_if_gt hexec hb hdg ht (fun q => kt (h.mp q)) (fun q => kf (by have q2 := mt h.mpr q; omega))
theorem z_icmp_le (hexec : p.tables.exec = Jvm.exec) (hb : c.code = cc) {x y : Int} {off : Int} {tgt : Nat} (hdg : decode cc pc = .ok (.if_icmp .le off, 3)) (ht : (pc : Int) + off = (tgt : Int)) (hx : zB x) (hy : zB y) (kt : x ≤ y → W p l e R s m args below meth c H locs cells slots Q (F0 m tgt ls rest)) (kf : y < x → W p l e R s m args below meth c H locs cells slots Q (F0 m (pc + 3) ls rest)) : W p l e R s m args below meth c H locs cells slots Q (F0 m pc ls (.int (zI y) :: .int (zI x) :: rest)) :=
  have h := zI_le hx hy
  lv_icmp_le hexec hb hdg ht (fun q => kt (h.mp q)) (fun q => kf (by have q2 := mt h.mpr q; omega))
theorem z_if_le (hexec : p.tables.exec = Jvm.exec) (hb : c.code = cc) {x : Int} {off : Int} {tgt : Nat} (hdg : decode cc pc = .ok (.ifCond .le off, 3)) (ht : (pc : Int) + off = (tgt : Int)) (hx : zB x) (kt : x ≤ 0 → W p l e R s m args below meth c H locs cells slots Q (F0 m tgt ls rest)) (kf : 0 < x → W p l e R s m args below meth c H locs cells slots Q (F0 m (pc + 3) ls rest)) : W p l e R s m args below meth c H locs cells slots Q (F0 m pc ls (.int (zI x) :: rest)) :=
  have hy : zB 0 := ⟨by omega, by omega⟩
  have h := zI_le hx hy
  lv_if_le hexec hb hdg ht (fun q => kt (h.mp q)) (fun q => kf (by have q2 := mt h.mpr q; omega))
theorem z_lif_le (hexec : p.tables.exec = Jvm.exec) (hb : c.code = cc) {x y : Int} {off : Int} {tgt : Nat} (hdg : decode cc pc = .ok (.ifCond .le off, 3)) (ht : (pc : Int) + off = (tgt : Int)) (hx : zC x) (hy : zC y) (kt : x ≤ y → W p l e R s m args below meth c H locs cells slots Q (F0 m tgt ls rest)) (kf : y < x → W p l e R s m args below meth c H locs cells slots Q (F0 m (pc + 3) ls rest)) : W p l e R s m args below meth c H locs cells slots Q (F0 m pc ls (.int (lg_cmp (zL x) (zL y)) :: rest)) :=
  have h := (lgc_le _ _).trans (zL_le hx hy)
  lv_if_le hexec hb hdg ht (fun q => kt (h.mp q)) (fun q => kf (by have q2 := mt h.mpr q; omega))
theorem z_ifb_eq (hexec : p.tables.exec = Jvm.exec) (hb : c.code = cc) {P : Prop} [Decidable P] {off : Int} {tgt : Nat} (hdg : decode cc pc = .ok (.ifCond .eq off, 3)) (ht : (pc : Int) + off = (tgt : Int)) (kt : ¬ P → W p l e R s m args below meth c H locs cells slots Q (F0 m tgt ls rest)) (kf : P → W p l e R s m args below meth c H locs cells slots Q (F0 m (pc + 3) ls rest)) : W p l e R s m args below meth c H locs cells slots Q (F0 m pc ls (.int (zI (bZ P)) :: rest)) :=
  z_if_eq hexec hb hdg ht (bZ_B P) (fun q => kt (bZ_0.mp q)) (fun q => kf (Classical.byContradiction fun h => q (bZ_f h)))
theorem z_ifb_ne (hexec : p.tables.exec = Jvm.exec) (hb : c.code = cc) {P : Prop} [Decidable P] {off : Int} {tgt : Nat} (hdg : decode cc pc = .ok (.ifCond .ne off, 3)) (ht : (pc : Int) + off = (tgt : Int)) (kt : P → W p l e R s m args below meth c H locs cells slots Q (F0 m tgt ls rest)) (kf : ¬ P → W p l e R s m args below meth c H locs cells slots Q (F0 m (pc + 3) ls rest)) : W p l e R s m args below meth c H locs cells slots Q (F0 m pc ls (.int (zI (bZ P)) :: rest)) :=
  z_if_ne hexec hb hdg ht (bZ_B P) (fun q => kt (Classical.byContradiction fun h => q (bZ_f h))) (fun q => kf (bZ_0.mp q))
theorem z_ifnull (hexec : p.tables.exec = Jvm.exec) (hb : c.code = cc) {z : Int} {off : Int} {tgt : Nat} (hdg : decode cc pc = .ok (.ifnull off, 3)) (ht : (pc : Int) + off = (tgt : Int)) (kt : z < 0 → W p l e R s m args below meth c H locs cells slots Q (F0 m tgt ls rest)) (kf : 0 ≤ z → W p l e R s m args below meth c H locs cells slots Q (F0 m (pc + 3) ls rest)) : W p l e R s m args below meth c H locs cells slots Q (F0 m pc ls (rf ad t z :: rest)) := by
  by_cases h : z < 0
  · rw [rf_n h]; exact lv_ifnullN hexec hb hdg ht (kt h)
  · rw [rf_s (j := z.toNat) (by omega)]; exact lv_ifnull hexec hb hdg (kf (by omega))
theorem z_ifnonnull (hexec : p.tables.exec = Jvm.exec) (hb : c.code = cc) {z : Int} {off : Int} {tgt : Nat} (hdg : decode cc pc = .ok (.ifnonnull off, 3)) (ht : (pc : Int) + off = (tgt : Int)) (kt : 0 ≤ z → W p l e R s m args below meth c H locs cells slots Q (F0 m tgt ls rest)) (kf : z < 0 → W p l e R s m args below meth c H locs cells slots Q (F0 m (pc + 3) ls rest)) : W p l e R s m args below meth c H locs cells slots Q (F0 m pc ls (rf ad t z :: rest)) := by
  by_cases h : z < 0
  · rw [rf_n h]; exact lv_ifnonnullN hexec hb hdg (kf h)
  · rw [rf_s (j := z.toNat) (by omega)]; exact lv_ifnonnull hexec hb hdg ht (kt (by omega))
end ZR
end
section
section ZRW
variable {p : Program} {l : Launch} {e : Env} {R : Room} {s : State} {m : MethodId} {args : Array Value} {below : List Frame} {meth : Method} {c : Code} {H : Heap} {locs : List Loc} {cells slots : Nat} {Q : State → Prop}
variable {cc : ByteArray} {pc : Nat} {ls : Array Slot} {rest : List Value}
theorem z_lifr_ne (hexec : p.tables.exec = Jvm.exec) (hb : c.code = cc) {x y : Int64} {off : Int} {tgt : Nat} (hdg : decode cc pc = .ok (.ifCond .ne off, 3)) (ht : (pc : Int) + off = (tgt : Int)) (kt : ¬ x = y → W p l e R s m args below meth c H locs cells slots Q (F0 m tgt ls rest)) (kf : x = y → W p l e R s m args below meth c H locs cells slots Q (F0 m (pc + 3) ls rest)) : W p l e R s m args below meth c H locs cells slots Q (F0 m pc ls (.int (lg_cmp x y) :: rest)) :=
  lv_if_ne hexec hb hdg ht (fun q => kt (mt (lgc_eq _ _).mpr q)) (fun q => kf ((lgc_eq _ _).mp q))
theorem z_lifr_eq (hexec : p.tables.exec = Jvm.exec) (hb : c.code = cc) {x y : Int64} {off : Int} {tgt : Nat} (hdg : decode cc pc = .ok (.ifCond .eq off, 3)) (ht : (pc : Int) + off = (tgt : Int)) (kt : x = y → W p l e R s m args below meth c H locs cells slots Q (F0 m tgt ls rest)) (kf : ¬ x = y → W p l e R s m args below meth c H locs cells slots Q (F0 m (pc + 3) ls rest)) : W p l e R s m args below meth c H locs cells slots Q (F0 m pc ls (.int (lg_cmp x y) :: rest)) :=
  lv_if_eq hexec hb hdg ht (fun q => kt ((lgc_eq _ _).mp q)) (fun q => kf (mt (lgc_eq _ _).mpr q))
end ZRW
end
section
set_option maxRecDepth 20000 in
theorem wsL_law_r1_in : ∀ w ∈ wsL_law_r1, w ∈ lw_tbl := fun w h => (goodIn_p wsL_law_r1 [407, 44, 47, 513] (by decide +kernel) (by decide +kernel) w h).1
set_option maxRecDepth 20000 in
theorem wsL_law_r2_in : ∀ w ∈ wsL_law_r2, w ∈ lw_tbl := fun w h => (goodIn_p wsL_law_r2 [] (by decide +kernel) (by decide +kernel) w h).1
set_option maxRecDepth 20000 in
theorem wsL_law_r3_in : ∀ w ∈ wsL_law_r3, w ∈ lw_tbl := fun w h => (goodIn_p wsL_law_r3 [86, 90, 93] (by decide +kernel) (by decide +kernel) w h).1
set_option maxRecDepth 20000 in
theorem wsL_law_r4_in : ∀ w ∈ wsL_law_r4, w ∈ lw_tbl := fun w h => (goodIn_p wsL_law_r4 [98, 104, 619] (by decide +kernel) (by decide +kernel) w h).1
set_option maxRecDepth 20000 in
theorem wsL_law_r5_in : ∀ w ∈ wsL_law_r5, w ∈ lw_tbl := fun w h => (goodIn_p wsL_law_r5 [623, 190, 627, 194] (by decide +kernel) (by decide +kernel) w h).1
set_option maxRecDepth 20000 in
theorem wsL_law_r6_in : ∀ w ∈ wsL_law_r6, w ∈ lw_tbl := fun w h => (goodIn_p wsL_law_r6 [201, 223, 631] (by decide +kernel) (by decide +kernel) w h).1
set_option maxRecDepth 20000 in
theorem wsL_law_r7_in : ∀ w ∈ wsL_law_r7, w ∈ lw_tbl := fun w h => (goodIn_p wsL_law_r7 [227, 231, 237] (by decide +kernel) (by decide +kernel) w h).1
set_option maxRecDepth 20000 in
theorem wsL_law_r8_in : ∀ w ∈ wsL_law_r8, w ∈ lw_tbl := fun w h => (goodIn_p wsL_law_r8 [637, 641, 260, 280, 321, 264] (by decide +kernel) (by decide +kernel) w h).1
set_option maxRecDepth 20000 in
theorem wsL_law_r9_in : ∀ w ∈ wsL_law_r9, w ∈ lw_tbl := fun w h => (goodIn_p wsL_law_r9 [268, 272, 276, 284, 288] (by decide +kernel) (by decide +kernel) w h).1
set_option maxRecDepth 20000 in
theorem wsL_law_r10_in : ∀ w ∈ wsL_law_r10, w ∈ lw_tbl := fun w h => (goodIn_p wsL_law_r10 [292, 296, 300] (by decide +kernel) (by decide +kernel) w h).1
set_option maxRecDepth 20000 in
theorem wsL_law_r11_in : ∀ w ∈ wsL_law_r11, w ∈ lw_tbl := fun w h => (goodIn_p wsL_law_r11 [304, 310, 314, 318, 325] (by decide +kernel) (by decide +kernel) w h).1
set_option maxRecDepth 20000 in
theorem wsL_law_r12_in : ∀ w ∈ wsL_law_r12, w ∈ lw_tbl := fun w h => (goodIn_p wsL_law_r12 [329, 333, 337, 341, 345] (by decide +kernel) (by decide +kernel) w h).1
set_option maxRecDepth 20000 in
theorem wsL_law_r13_in : ∀ w ∈ wsL_law_r13, w ∈ lw_tbl := fun w h => (goodIn_p wsL_law_r13 [351, 355, 359, 363] (by decide +kernel) (by decide +kernel) w h).1
set_option maxRecDepth 20000 in
theorem wsL_law_r14_in : ∀ w ∈ wsL_law_r14, w ∈ lw_tbl := fun w h => (goodIn_p wsL_law_r14 [369, 374, 655, 659, 663, 667] (by decide +kernel) (by decide +kernel) w h).1
set_option maxRecDepth 20000 in
theorem wsL_law_r15_in : ∀ w ∈ wsL_law_r15, w ∈ lw_tbl := fun w h => (goodIn_p wsL_law_r15 [671, 677, 681, 685, 689] (by decide +kernel) (by decide +kernel) w h).1
set_option maxRecDepth 20000 in
theorem wsL_law_r16_in : ∀ w ∈ wsL_law_r16, w ∈ lw_tbl := fun w h => (goodIn_p wsL_law_r16 [378, 693, 382, 697, 386, 701] (by decide +kernel) (by decide +kernel) w h).1
set_option maxRecDepth 20000 in
theorem wsL_law_r17_in : ∀ w ∈ wsL_law_r17, w ∈ lw_tbl := fun w h => (goodIn_p wsL_law_r17 [705, 415, 419, 493] (by decide +kernel) (by decide +kernel) w h).1
set_option maxRecDepth 20000 in
theorem wsL_law_r18_in : ∀ w ∈ wsL_law_r18, w ∈ lw_tbl := fun w h => (goodIn_p wsL_law_r18 [709, 615, 501, 714, 390] (by decide +kernel) (by decide +kernel) w h).1
set_option maxRecDepth 20000 in
theorem wsL_law_r19_in : ∀ w ∈ wsL_law_r19, w ∈ lw_tbl := fun w h => (goodIn_p wsL_law_r19 [646, 395, 651, 508] (by decide +kernel) (by decide +kernel) w h).1
set_option maxRecDepth 20000 in
theorem wsL_law_r20_in : ∀ w ∈ wsL_law_r20, w ∈ lw_tbl := fun w h => (goodIn_p wsL_law_r20 [718, 399, 404, 722] (by decide +kernel) (by decide +kernel) w h).1
set_option maxRecDepth 20000 in
theorem wsX40_in : ∀ w ∈ wsX40, w ∈ lw_tbl := fun w h => (goodIn_p wsX40 [] (by decide +kernel) (by decide +kernel) w h).1
set_option maxRecDepth 20000 in
theorem wsX50_in : ∀ w ∈ wsX50, w ∈ lw_tbl := fun w h => (goodIn_p wsX50 [] (by decide +kernel) (by decide +kernel) w h).1
set_option maxRecDepth 20000 in
theorem wsX20_in : ∀ w ∈ wsX20, w ∈ lw_tbl := fun w h => (goodIn_p wsX20 [] (by decide +kernel) (by decide +kernel) w h).1
set_option maxRecDepth 20000 in
theorem wsX00_in : ∀ w ∈ wsX00, w ∈ lw_tbl := fun w h => (goodIn_p wsX00 [] (by decide +kernel) (by decide +kernel) w h).1
set_option maxRecDepth 20000 in
theorem wsX10_in : ∀ w ∈ wsX10, w ∈ lw_tbl := fun w h => (goodIn_p wsX10 [] (by decide +kernel) (by decide +kernel) w h).1
set_option maxRecDepth 20000 in
theorem wsX30_in : ∀ w ∈ wsX30, w ∈ lw_tbl := fun w h => (goodIn_p wsX30 [] (by decide +kernel) (by decide +kernel) w h).1
set_option maxRecDepth 20000 in
theorem wsJx000600_in : ∀ w ∈ wsJx000600, w ∈ lw_tbl := fun w h => (goodIn_p wsJx000600 [] (by decide +kernel) (by decide +kernel) w h).1
theorem wsL_law_in : ∀ w ∈ wsL_law, w ∈ lw_tbl := by
  intro w h
  unfold wsL_law at h
  simp only [List.mem_append, List.not_mem_nil, or_false] at h
  rcases h with (((((((h | h | h | h | h | h | h | h | h | h | h | h | h | h | h | h | h | h | h | h) | h) | h) | h) | h) | h) | h) | h
  · exact wsL_law_r1_in w h
  · exact wsL_law_r2_in w h
  · exact wsL_law_r3_in w h
  · exact wsL_law_r4_in w h
  · exact wsL_law_r5_in w h
  · exact wsL_law_r6_in w h
  · exact wsL_law_r7_in w h
  · exact wsL_law_r8_in w h
  · exact wsL_law_r9_in w h
  · exact wsL_law_r10_in w h
  · exact wsL_law_r11_in w h
  · exact wsL_law_r12_in w h
  · exact wsL_law_r13_in w h
  · exact wsL_law_r14_in w h
  · exact wsL_law_r15_in w h
  · exact wsL_law_r16_in w h
  · exact wsL_law_r17_in w h
  · exact wsL_law_r18_in w h
  · exact wsL_law_r19_in w h
  · exact wsL_law_r20_in w h
  · exact wsX40_in w h
  · exact wsX50_in w h
  · exact wsX20_in w h
  · exact wsX00_in w h
  · exact wsX10_in w h
  · exact wsX30_in w h
  · exact wsJx000600_in w h
theorem inlX0 : ∀ w ∈ wsX00, w ∈ wsL_law := fun _ h => List.mem_append_left _ (List.mem_append_left _ (List.mem_append_left _ (List.mem_append_left _ (List.mem_append_right _ h))))
theorem inX0 : ∀ w ∈ wsX00, w ∈ lw_tbl := fun w h => wsL_law_in w (inlX0 w h)
theorem inlX1 : ∀ w ∈ wsX10, w ∈ wsL_law := fun _ h => List.mem_append_left _ (List.mem_append_left _ (List.mem_append_left _ (List.mem_append_right _ h)))
theorem inX1 : ∀ w ∈ wsX10, w ∈ lw_tbl := fun w h => wsL_law_in w (inlX1 w h)
theorem inlX2 : ∀ w ∈ wsX20, w ∈ wsL_law := fun _ h => List.mem_append_left _ (List.mem_append_left _ (List.mem_append_left _ (List.mem_append_left _ (List.mem_append_left _ (List.mem_append_right _ h)))))
theorem inX2 : ∀ w ∈ wsX20, w ∈ lw_tbl := fun w h => wsL_law_in w (inlX2 w h)
theorem inlX3 : ∀ w ∈ wsX30, w ∈ wsL_law := fun _ h => List.mem_append_left _ (List.mem_append_left _ (List.mem_append_right _ h))
theorem inX3 : ∀ w ∈ wsX30, w ∈ lw_tbl := fun w h => wsL_law_in w (inlX3 w h)
theorem inlX4 : ∀ w ∈ wsX40, w ∈ wsL_law := fun _ h => List.mem_append_left _ (List.mem_append_left _ (List.mem_append_left _ (List.mem_append_left _ (List.mem_append_left _ (List.mem_append_left _ (List.mem_append_left _ (List.mem_append_right _ h)))))))
theorem inX4 : ∀ w ∈ wsX40, w ∈ lw_tbl := fun w h => wsL_law_in w (inlX4 w h)
theorem inlX5 : ∀ w ∈ wsX50, w ∈ wsL_law := fun _ h => List.mem_append_left _ (List.mem_append_left _ (List.mem_append_left _ (List.mem_append_left _ (List.mem_append_left _ (List.mem_append_left _ (List.mem_append_right _ h))))))
theorem inX5 : ∀ w ∈ wsX50, w ∈ lw_tbl := fun w h => wsL_law_in w (inlX5 w h)
theorem inlJx00060 : ∀ w ∈ wsJx000600, w ∈ wsL_law := fun _ h => List.mem_append_left _ (List.mem_append_right _ h)
theorem inJx00060 : ∀ w ∈ wsJx000600, w ∈ lw_tbl := fun w h => wsL_law_in w (inlJx00060 w h)
theorem inJ9 : ∀ w ∈ wsJ90, w ∈ lw_tbl := by decide +kernel
theorem inJ0 : ∀ w ∈ wsJ00, w ∈ lw_tbl := by decide +kernel
end
section
theorem dX0_init_0 : decode cX0_init 0 = .ok (.aload_n 0, 1) := by decide +kernel
theorem dX0_init_1 : decode cX0_init 1 = .ok (.invokespecial 3, 3) := by decide +kernel
theorem dX0_init_4 : decode cX0_init 4 = .ok (.aload_n 0, 1) := by decide +kernel
theorem dX0_init_5 : decode cX0_init 5 = .ok (.iconst 1, 1) := by decide +kernel
theorem dX0_init_6 : decode cX0_init 6 = .ok (.putfield 9, 3) := by decide +kernel
theorem dX0_init_9 : decode cX0_init 9 = .ok (.aload_n 0, 1) := by decide +kernel
theorem dX0_init_10 : decode cX0_init 10 = .ok (.sipush 1000, 3) := by decide +kernel
theorem dX0_init_13 : decode cX0_init 13 = .ok (.newarray .int, 2) := by decide +kernel
theorem dX0_init_15 : decode cX0_init 15 = .ok (.putfield 15, 3) := by decide +kernel
theorem dX0_init_18 : decode cX0_init 18 = .ok (.return_, 1) := by decide +kernel
theorem dX0_hasRoom_0 : decode cX0_hasRoom 0 = .ok (.aload_n 0, 1) := by decide +kernel
theorem dX0_hasRoom_1 : decode cX0_hasRoom 1 = .ok (.getfield 19, 3) := by decide +kernel
theorem dX0_hasRoom_4 : decode cX0_hasRoom 4 = .ok (.aload_n 0, 1) := by decide +kernel
theorem dX0_hasRoom_5 : decode cX0_hasRoom 5 = .ok (.getfield 9, 3) := by decide +kernel
theorem dX0_hasRoom_8 : decode cX0_hasRoom 8 = .ok (.if_icmp .ge 7, 3) := by decide +kernel
theorem dX0_hasRoom_11 : decode cX0_hasRoom 11 = .ok (.iconst 1, 1) := by decide +kernel
theorem dX0_hasRoom_12 : decode cX0_hasRoom 12 = .ok (.goto 4, 3) := by decide +kernel
theorem dX0_hasRoom_15 : decode cX0_hasRoom 15 = .ok (.iconst 0, 1) := by decide +kernel
theorem dX0_hasRoom_16 : decode cX0_hasRoom 16 = .ok (.ireturn, 1) := by decide +kernel
theorem dX0_add_0 : decode cX0_add 0 = .ok (.aload_n 0, 1) := by decide +kernel
theorem dX0_add_1 : decode cX0_add 1 = .ok (.getfield 15, 3) := by decide +kernel
theorem dX0_add_4 : decode cX0_add 4 = .ok (.aload_n 0, 1) := by decide +kernel
theorem dX0_add_5 : decode cX0_add 5 = .ok (.getfield 22, 3) := by decide +kernel
theorem dX0_add_8 : decode cX0_add 8 = .ok (.aload_n 0, 1) := by decide +kernel
theorem dX0_add_9 : decode cX0_add 9 = .ok (.getfield 19, 3) := by decide +kernel
theorem dX0_add_12 : decode cX0_add 12 = .ok (.iadd, 1) := by decide +kernel
theorem dX0_add_13 : decode cX0_add 13 = .ok (.sipush 1000, 3) := by decide +kernel
theorem dX0_add_16 : decode cX0_add 16 = .ok (.irem, 1) := by decide +kernel
theorem dX0_add_17 : decode cX0_add 17 = .ok (.iload_n 1, 1) := by decide +kernel
theorem dX0_add_18 : decode cX0_add 18 = .ok (.iastore, 1) := by decide +kernel
theorem dX0_add_19 : decode cX0_add 19 = .ok (.aload_n 0, 1) := by decide +kernel
theorem dX0_add_20 : decode cX0_add 20 = .ok (.dup, 1) := by decide +kernel
theorem dX0_add_21 : decode cX0_add 21 = .ok (.getfield 19, 3) := by decide +kernel
theorem dX0_add_24 : decode cX0_add 24 = .ok (.iconst 1, 1) := by decide +kernel
theorem dX0_add_25 : decode cX0_add 25 = .ok (.iadd, 1) := by decide +kernel
theorem dX0_add_26 : decode cX0_add 26 = .ok (.putfield 19, 3) := by decide +kernel
theorem dX0_add_29 : decode cX0_add 29 = .ok (.return_, 1) := by decide +kernel
theorem dX0_readyAt_0 : decode cX0_readyAt 0 = .ok (.aload_n 0, 1) := by decide +kernel
theorem dX0_readyAt_1 : decode cX0_readyAt 1 = .ok (.getfield 19, 3) := by decide +kernel
theorem dX0_readyAt_4 : decode cX0_readyAt 4 = .ok (.ifCond .le 24, 3) := by decide +kernel
theorem dX0_readyAt_7 : decode cX0_readyAt 7 = .ok (.aload_n 0, 1) := by decide +kernel
theorem dX0_readyAt_8 : decode cX0_readyAt 8 = .ok (.getfield 15, 3) := by decide +kernel
theorem dX0_readyAt_11 : decode cX0_readyAt 11 = .ok (.aload_n 0, 1) := by decide +kernel
theorem dX0_readyAt_12 : decode cX0_readyAt 12 = .ok (.getfield 22, 3) := by decide +kernel
theorem dX0_readyAt_15 : decode cX0_readyAt 15 = .ok (.iaload, 1) := by decide +kernel
theorem dX0_readyAt_16 : decode cX0_readyAt 16 = .ok (.iconst 1, 1) := by decide +kernel
theorem dX0_readyAt_17 : decode cX0_readyAt 17 = .ok (.aload_n 0, 1) := by decide +kernel
theorem dX0_readyAt_18 : decode cX0_readyAt 18 = .ok (.getfield 25, 3) := by decide +kernel
theorem dX0_readyAt_21 : decode cX0_readyAt 21 = .ok (.invokestatic 28, 3) := by decide +kernel
theorem dX0_readyAt_24 : decode cX0_readyAt 24 = .ok (.iadd, 1) := by decide +kernel
theorem dX0_readyAt_25 : decode cX0_readyAt 25 = .ok (.goto 5, 3) := by decide +kernel
theorem dX0_readyAt_28 : decode cX0_readyAt 28 = .ok (.ldc 34, 2) := by decide +kernel
theorem dX0_readyAt_30 : decode cX0_readyAt 30 = .ok (.ireturn, 1) := by decide +kernel
set_option maxRecDepth 20000 in
theorem ggX0_isReady_X0_readyAt : GoodIn wsX0_isReady wsX0_readyAt := goodIn_r _ [6, 1, 7, 8, 9, 10, 11, 12, 13, 14, 15, 16, 17, 18, 19] (by decide +kernel) (by decide +kernel)
set_option maxRecDepth 20000 in
theorem gX0_isReady_X0_readyAt : GoodIn wsX0_isReady (wsV RX0 35 RX0 yX0_readyAt wsX0_readyAt) := goodIn_app (goodIn_of _ (by decide +kernel)) ggX0_isReady_X0_readyAt
theorem dX0_isReady_0 : decode cX0_isReady 0 = .ok (.aload_n 0, 1) := by decide +kernel
theorem dX0_isReady_1 : decode cX0_isReady 1 = .ok (.getfield 19, 3) := by decide +kernel
theorem dX0_isReady_4 : decode cX0_isReady 4 = .ok (.ifCond .le 15, 3) := by decide +kernel
theorem dX0_isReady_7 : decode cX0_isReady 7 = .ok (.iload_n 1, 1) := by decide +kernel
theorem dX0_isReady_8 : decode cX0_isReady 8 = .ok (.aload_n 0, 1) := by decide +kernel
theorem dX0_isReady_9 : decode cX0_isReady 9 = .ok (.invokevirtual 35, 3) := by decide +kernel
theorem dX0_isReady_12 : decode cX0_isReady 12 = .ok (.if_icmp .lt 7, 3) := by decide +kernel
theorem dX0_isReady_15 : decode cX0_isReady 15 = .ok (.iconst 1, 1) := by decide +kernel
theorem dX0_isReady_16 : decode cX0_isReady 16 = .ok (.goto 4, 3) := by decide +kernel
theorem dX0_isReady_19 : decode cX0_isReady 19 = .ok (.iconst 0, 1) := by decide +kernel
theorem dX0_isReady_20 : decode cX0_isReady 20 = .ok (.ireturn, 1) := by decide +kernel
theorem dX0_removeFirst_0 : decode cX0_removeFirst 0 = .ok (.aload_n 0, 1) := by decide +kernel
theorem dX0_removeFirst_1 : decode cX0_removeFirst 1 = .ok (.aload_n 0, 1) := by decide +kernel
theorem dX0_removeFirst_2 : decode cX0_removeFirst 2 = .ok (.getfield 22, 3) := by decide +kernel
theorem dX0_removeFirst_5 : decode cX0_removeFirst 5 = .ok (.iconst 1, 1) := by decide +kernel
theorem dX0_removeFirst_6 : decode cX0_removeFirst 6 = .ok (.iadd, 1) := by decide +kernel
theorem dX0_removeFirst_7 : decode cX0_removeFirst 7 = .ok (.sipush 1000, 3) := by decide +kernel
theorem dX0_removeFirst_10 : decode cX0_removeFirst 10 = .ok (.irem, 1) := by decide +kernel
theorem dX0_removeFirst_11 : decode cX0_removeFirst 11 = .ok (.putfield 22, 3) := by decide +kernel
theorem dX0_removeFirst_14 : decode cX0_removeFirst 14 = .ok (.aload_n 0, 1) := by decide +kernel
theorem dX0_removeFirst_15 : decode cX0_removeFirst 15 = .ok (.dup, 1) := by decide +kernel
theorem dX0_removeFirst_16 : decode cX0_removeFirst 16 = .ok (.getfield 19, 3) := by decide +kernel
theorem dX0_removeFirst_19 : decode cX0_removeFirst 19 = .ok (.iconst 1, 1) := by decide +kernel
theorem dX0_removeFirst_20 : decode cX0_removeFirst 20 = .ok (.isub, 1) := by decide +kernel
theorem dX0_removeFirst_21 : decode cX0_removeFirst 21 = .ok (.putfield 19, 3) := by decide +kernel
theorem dX0_removeFirst_24 : decode cX0_removeFirst 24 = .ok (.return_, 1) := by decide +kernel
theorem dX1_init_0 : decode cX1_init 0 = .ok (.aload_n 0, 1) := by decide +kernel
theorem dX1_init_1 : decode cX1_init 1 = .ok (.invokespecial 1, 3) := by decide +kernel
theorem dX1_init_4 : decode cX1_init 4 = .ok (.aload_n 0, 1) := by decide +kernel
theorem dX1_init_5 : decode cX1_init 5 = .ok (.lload_n 1, 1) := by decide +kernel
theorem dX1_init_6 : decode cX1_init 6 = .ok (.putfield 7, 3) := by decide +kernel
theorem dX1_init_9 : decode cX1_init 9 = .ok (.aload_n 0, 1) := by decide +kernel
theorem dX1_init_10 : decode cX1_init 10 = .ok (.lload_n 3, 1) := by decide +kernel
theorem dX1_init_11 : decode cX1_init 11 = .ok (.putfield 13, 3) := by decide +kernel
theorem dX1_init_14 : decode cX1_init 14 = .ok (.aload_n 0, 1) := by decide +kernel
theorem dX1_init_15 : decode cX1_init 15 = .ok (.iload 5, 2) := by decide +kernel
theorem dX1_init_17 : decode cX1_init 17 = .ok (.putfield 16, 3) := by decide +kernel
theorem dX1_init_20 : decode cX1_init 20 = .ok (.return_, 1) := by decide +kernel
set_option maxRecDepth 20000 in
theorem ggX2_init_X0_init : GoodIn wsX2_init wsX0_init := goodIn_r _ [16, 17, 2, 3, 18, 19, 20, 21, 22, 23, 24, 25] (by decide +kernel) (by decide +kernel)
set_option maxRecDepth 20000 in
theorem gX2_init_X0_init_n11 : GoodIn wsX2_init (wsX0_init) := ggX2_init_X0_init
theorem dX2_init_0 : decode cX2_init 0 = .ok (.aload_n 0, 1) := by decide +kernel
theorem dX2_init_1 : decode cX2_init 1 = .ok (.invokespecial 3, 3) := by decide +kernel
theorem dX2_init_4 : decode cX2_init 4 = .ok (.aload_n 0, 1) := by decide +kernel
theorem dX2_init_5 : decode cX2_init 5 = .ok (.new 9, 3) := by decide +kernel
theorem dX2_init_8 : decode cX2_init 8 = .ok (.dup, 1) := by decide +kernel
theorem dX2_init_9 : decode cX2_init 9 = .ok (.invokespecial 11, 3) := by decide +kernel
theorem dX2_init_12 : decode cX2_init 12 = .ok (.putfield 12, 3) := by decide +kernel
theorem dX2_init_15 : decode cX2_init 15 = .ok (.aload_n 0, 1) := by decide +kernel
theorem dX2_init_16 : decode cX2_init 16 = .ok (.iconst (-1), 1) := by decide +kernel
theorem dX2_init_17 : decode cX2_init 17 = .ok (.putfield 18, 3) := by decide +kernel
theorem dX2_init_20 : decode cX2_init 20 = .ok (.aload_n 0, 1) := by decide +kernel
theorem dX2_init_21 : decode cX2_init 21 = .ok (.bipush 12, 2) := by decide +kernel
theorem dX2_init_23 : decode cX2_init 23 = .ok (.newarray .long, 2) := by decide +kernel
theorem dX2_init_25 : decode cX2_init 25 = .ok (.putfield 22, 3) := by decide +kernel
theorem dX2_init_28 : decode cX2_init 28 = .ok (.aload_n 0, 1) := by decide +kernel
theorem dX2_init_29 : decode cX2_init 29 = .ok (.iload_n 1, 1) := by decide +kernel
theorem dX2_init_30 : decode cX2_init 30 = .ok (.putfield 26, 3) := by decide +kernel
theorem dX2_init_33 : decode cX2_init 33 = .ok (.aload_n 0, 1) := by decide +kernel
theorem dX2_init_34 : decode cX2_init 34 = .ok (.iload_n 2, 1) := by decide +kernel
theorem dX2_init_35 : decode cX2_init 35 = .ok (.putfield 29, 3) := by decide +kernel
theorem dX2_init_38 : decode cX2_init 38 = .ok (.aload_n 0, 1) := by decide +kernel
theorem dX2_init_39 : decode cX2_init 39 = .ok (.aload_n 3, 1) := by decide +kernel
theorem dX2_init_40 : decode cX2_init 40 = .ok (.putfield 32, 3) := by decide +kernel
theorem dX2_init_43 : decode cX2_init 43 = .ok (.aload_n 0, 1) := by decide +kernel
theorem dX2_init_44 : decode cX2_init 44 = .ok (.aload 4, 2) := by decide +kernel
theorem dX2_init_46 : decode cX2_init 46 = .ok (.ifnonnull 7, 3) := by decide +kernel
theorem dX2_init_49 : decode cX2_init 49 = .ok (.aconst_null, 1) := by decide +kernel
theorem dX2_init_50 : decode cX2_init 50 = .ok (.goto 8, 3) := by decide +kernel
theorem dX2_init_53 : decode cX2_init 53 = .ok (.aload 4, 2) := by decide +kernel
theorem dX2_init_55 : decode cX2_init 55 = .ok (.getfield 12, 3) := by decide +kernel
theorem dX2_init_58 : decode cX2_init 58 = .ok (.putfield 36, 3) := by decide +kernel
theorem dX2_init_61 : decode cX2_init 61 = .ok (.return_, 1) := by decide +kernel
theorem dX2_addFault_0 : decode cX2_addFault 0 = .ok (.aload_n 0, 1) := by decide +kernel
theorem dX2_addFault_1 : decode cX2_addFault 1 = .ok (.getfield 39, 3) := by decide +kernel
theorem dX2_addFault_4 : decode cX2_addFault 4 = .ok (.ifnonnull 11, 3) := by decide +kernel
theorem dX2_addFault_7 : decode cX2_addFault 7 = .ok (.aload_n 0, 1) := by decide +kernel
theorem dX2_addFault_8 : decode cX2_addFault 8 = .ok (.aload_n 1, 1) := by decide +kernel
theorem dX2_addFault_9 : decode cX2_addFault 9 = .ok (.putfield 43, 3) := by decide +kernel
theorem dX2_addFault_12 : decode cX2_addFault 12 = .ok (.goto 11, 3) := by decide +kernel
theorem dX2_addFault_15 : decode cX2_addFault 15 = .ok (.aload_n 0, 1) := by decide +kernel
theorem dX2_addFault_16 : decode cX2_addFault 16 = .ok (.getfield 39, 3) := by decide +kernel
theorem dX2_addFault_19 : decode cX2_addFault 19 = .ok (.aload_n 1, 1) := by decide +kernel
theorem dX2_addFault_20 : decode cX2_addFault 20 = .ok (.putfield 46, 3) := by decide +kernel
theorem dX2_addFault_23 : decode cX2_addFault 23 = .ok (.aload_n 0, 1) := by decide +kernel
theorem dX2_addFault_24 : decode cX2_addFault 24 = .ok (.aload_n 1, 1) := by decide +kernel
theorem dX2_addFault_25 : decode cX2_addFault 25 = .ok (.putfield 39, 3) := by decide +kernel
theorem dX2_addFault_28 : decode cX2_addFault 28 = .ok (.aload_n 0, 1) := by decide +kernel
theorem dX2_addFault_29 : decode cX2_addFault 29 = .ok (.dup, 1) := by decide +kernel
theorem dX2_addFault_30 : decode cX2_addFault 30 = .ok (.getfield 51, 3) := by decide +kernel
theorem dX2_addFault_33 : decode cX2_addFault 33 = .ok (.iconst 1, 1) := by decide +kernel
theorem dX2_addFault_34 : decode cX2_addFault 34 = .ok (.iadd, 1) := by decide +kernel
theorem dX2_addFault_35 : decode cX2_addFault 35 = .ok (.putfield 51, 3) := by decide +kernel
theorem dX2_addFault_38 : decode cX2_addFault 38 = .ok (.return_, 1) := by decide +kernel
theorem dX2_stands_0 : decode cX2_stands 0 = .ok (.aload_n 0, 1) := by decide +kernel
theorem dX2_stands_1 : decode cX2_stands 1 = .ok (.getfield 18, 3) := by decide +kernel
theorem dX2_stands_4 : decode cX2_stands 4 = .ok (.iconst (-1), 1) := by decide +kernel
theorem dX2_stands_5 : decode cX2_stands 5 = .ok (.if_icmp .ne 11, 3) := by decide +kernel
theorem dX2_stands_8 : decode cX2_stands 8 = .ok (.iload_n 1, 1) := by decide +kernel
theorem dX2_stands_9 : decode cX2_stands 9 = .ok (.aload_n 0, 1) := by decide +kernel
theorem dX2_stands_10 : decode cX2_stands 10 = .ok (.getfield 54, 3) := by decide +kernel
theorem dX2_stands_13 : decode cX2_stands 13 = .ok (.if_icmp .ge 7, 3) := by decide +kernel
theorem dX2_stands_16 : decode cX2_stands 16 = .ok (.iconst 1, 1) := by decide +kernel
theorem dX2_stands_17 : decode cX2_stands 17 = .ok (.goto 4, 3) := by decide +kernel
theorem dX2_stands_20 : decode cX2_stands 20 = .ok (.iconst 0, 1) := by decide +kernel
theorem dX2_stands_21 : decode cX2_stands 21 = .ok (.ireturn, 1) := by decide +kernel
theorem dX2_isDone_0 : decode cX2_isDone 0 = .ok (.aload_n 0, 1) := by decide +kernel
theorem dX2_isDone_1 : decode cX2_isDone 1 = .ok (.getfield 57, 3) := by decide +kernel
theorem dX2_isDone_4 : decode cX2_isDone 4 = .ok (.ifCond .eq 18, 3) := by decide +kernel
theorem dX2_isDone_7 : decode cX2_isDone 7 = .ok (.aload_n 0, 1) := by decide +kernel
theorem dX2_isDone_8 : decode cX2_isDone 8 = .ok (.getfield 61, 3) := by decide +kernel
theorem dX2_isDone_11 : decode cX2_isDone 11 = .ok (.aload_n 0, 1) := by decide +kernel
theorem dX2_isDone_12 : decode cX2_isDone 12 = .ok (.getfield 29, 3) := by decide +kernel
theorem dX2_isDone_15 : decode cX2_isDone 15 = .ok (.if_icmp .lt 7, 3) := by decide +kernel
theorem dX2_isDone_18 : decode cX2_isDone 18 = .ok (.iconst 1, 1) := by decide +kernel
theorem dX2_isDone_19 : decode cX2_isDone 19 = .ok (.goto 4, 3) := by decide +kernel
theorem dX2_isDone_22 : decode cX2_isDone 22 = .ok (.iconst 0, 1) := by decide +kernel
theorem dX2_isDone_23 : decode cX2_isDone 23 = .ok (.ireturn, 1) := by decide +kernel
theorem dX2_putAway_0 : decode cX2_putAway 0 = .ok (.aload_n 0, 1) := by decide +kernel
theorem dX2_putAway_1 : decode cX2_putAway 1 = .ok (.iconst 0, 1) := by decide +kernel
theorem dX2_putAway_2 : decode cX2_putAway 2 = .ok (.putfield 57, 3) := by decide +kernel
theorem dX2_putAway_5 : decode cX2_putAway 5 = .ok (.aload_n 0, 1) := by decide +kernel
theorem dX2_putAway_6 : decode cX2_putAway 6 = .ok (.iconst 0, 1) := by decide +kernel
theorem dX2_putAway_7 : decode cX2_putAway 7 = .ok (.putfield 64, 3) := by decide +kernel
theorem dX2_putAway_10 : decode cX2_putAway 10 = .ok (.aload_n 0, 1) := by decide +kernel
theorem dX2_putAway_11 : decode cX2_putAway 11 = .ok (.iconst 0, 1) := by decide +kernel
theorem dX2_putAway_12 : decode cX2_putAway 12 = .ok (.putfield 61, 3) := by decide +kernel
theorem dX2_putAway_15 : decode cX2_putAway 15 = .ok (.return_, 1) := by decide +kernel
theorem dX2_causeAt_0 : decode cX2_causeAt 0 = .ok (.aload_n 0, 1) := by decide +kernel
theorem dX2_causeAt_1 : decode cX2_causeAt 1 = .ok (.getfield 18, 3) := by decide +kernel
theorem dX2_causeAt_4 : decode cX2_causeAt 4 = .ok (.iconst (-1), 1) := by decide +kernel
theorem dX2_causeAt_5 : decode cX2_causeAt 5 = .ok (.if_icmp .eq 8, 3) := by decide +kernel
theorem dX2_causeAt_8 : decode cX2_causeAt 8 = .ok (.aload_n 0, 1) := by decide +kernel
theorem dX2_causeAt_9 : decode cX2_causeAt 9 = .ok (.getfield 18, 3) := by decide +kernel
theorem dX2_causeAt_12 : decode cX2_causeAt 12 = .ok (.ireturn, 1) := by decide +kernel
theorem dX2_causeAt_13 : decode cX2_causeAt 13 = .ok (.iload_n 1, 1) := by decide +kernel
theorem dX2_causeAt_14 : decode cX2_causeAt 14 = .ok (.aload_n 0, 1) := by decide +kernel
theorem dX2_causeAt_15 : decode cX2_causeAt 15 = .ok (.getfield 54, 3) := by decide +kernel
theorem dX2_causeAt_18 : decode cX2_causeAt 18 = .ok (.if_icmp .ge 5, 3) := by decide +kernel
theorem dX2_causeAt_21 : decode cX2_causeAt 21 = .ok (.iconst 3, 1) := by decide +kernel
theorem dX2_causeAt_22 : decode cX2_causeAt 22 = .ok (.ireturn, 1) := by decide +kernel
theorem dX2_causeAt_23 : decode cX2_causeAt 23 = .ok (.aload_n 0, 1) := by decide +kernel
theorem dX2_causeAt_24 : decode cX2_causeAt 24 = .ok (.getfield 57, 3) := by decide +kernel
theorem dX2_causeAt_27 : decode cX2_causeAt 27 = .ok (.ifCond .ne 6, 3) := by decide +kernel
theorem dX2_causeAt_30 : decode cX2_causeAt 30 = .ok (.bipush 10, 2) := by decide +kernel
theorem dX2_causeAt_32 : decode cX2_causeAt 32 = .ok (.ireturn, 1) := by decide +kernel
theorem dX2_causeAt_33 : decode cX2_causeAt 33 = .ok (.aload_n 0, 1) := by decide +kernel
theorem dX2_causeAt_34 : decode cX2_causeAt 34 = .ok (.getfield 61, 3) := by decide +kernel
theorem dX2_causeAt_37 : decode cX2_causeAt 37 = .ok (.aload_n 0, 1) := by decide +kernel
theorem dX2_causeAt_38 : decode cX2_causeAt 38 = .ok (.getfield 29, 3) := by decide +kernel
theorem dX2_causeAt_41 : decode cX2_causeAt 41 = .ok (.if_icmp .ge 7, 3) := by decide +kernel
theorem dX2_causeAt_44 : decode cX2_causeAt 44 = .ok (.iconst 0, 1) := by decide +kernel
theorem dX2_causeAt_45 : decode cX2_causeAt 45 = .ok (.goto 5, 3) := by decide +kernel
theorem dX2_causeAt_48 : decode cX2_causeAt 48 = .ok (.bipush 11, 2) := by decide +kernel
theorem dX2_causeAt_50 : decode cX2_causeAt 50 = .ok (.ireturn, 1) := by decide +kernel
set_option maxRecDepth 20000 in
theorem ggX2_quietTenths_X2_causeAt : GoodIn wsX2_quietTenths wsX2_causeAt := goodIn_r _ [10, 11, 3, 12, 2, 1, 27, 28, 29, 30, 31, 32, 33, 34, 35, 36, 37, 38, 39, 40, 41, 42] (by decide +kernel) (by decide +kernel)
set_option maxRecDepth 20000 in
theorem gX2_quietTenths_X2_causeAt : GoodIn wsX2_quietTenths (wsV RX2 67 RX2 yX2_causeAt wsX2_causeAt) := goodIn_app (goodIn_of _ (by decide +kernel)) ggX2_quietTenths_X2_causeAt
set_option maxRecDepth 20000 in
theorem ggX2_quietTenths_X0_readyAt : GoodIn wsX2_quietTenths wsX0_readyAt := goodIn_r _ [17, 18, 19, 20, 21, 22, 23, 24, 25, 26, 43, 44, 45, 46, 47] (by decide +kernel) (by decide +kernel)
set_option maxRecDepth 20000 in
theorem gX2_quietTenths_X0_readyAt : GoodIn wsX2_quietTenths (wsV RX2 71 RX0 yX0_readyAt wsX0_readyAt) := goodIn_app (goodIn_of _ (by decide +kernel)) ggX2_quietTenths_X0_readyAt
theorem dX2_quietTenths_0 : decode cX2_quietTenths 0 = .ok (.aload_n 0, 1) := by decide +kernel
theorem dX2_quietTenths_1 : decode cX2_quietTenths 1 = .ok (.iload_n 1, 1) := by decide +kernel
theorem dX2_quietTenths_2 : decode cX2_quietTenths 2 = .ok (.invokevirtual 67, 3) := by decide +kernel
theorem dX2_quietTenths_5 : decode cX2_quietTenths 5 = .ok (.lookupswitch 73 #[(0, 35), (3, 45), (10, 52)], 35) := by decide +kernel
theorem dX2_quietTenths_40 : decode cX2_quietTenths 40 = .ok (.aload_n 0, 1) := by decide +kernel
theorem dX2_quietTenths_41 : decode cX2_quietTenths 41 = .ok (.getfield 29, 3) := by decide +kernel
theorem dX2_quietTenths_44 : decode cX2_quietTenths 44 = .ok (.aload_n 0, 1) := by decide +kernel
theorem dX2_quietTenths_45 : decode cX2_quietTenths 45 = .ok (.getfield 61, 3) := by decide +kernel
theorem dX2_quietTenths_48 : decode cX2_quietTenths 48 = .ok (.isub, 1) := by decide +kernel
theorem dX2_quietTenths_49 : decode cX2_quietTenths 49 = .ok (.ireturn, 1) := by decide +kernel
theorem dX2_quietTenths_50 : decode cX2_quietTenths 50 = .ok (.aload_n 0, 1) := by decide +kernel
theorem dX2_quietTenths_51 : decode cX2_quietTenths 51 = .ok (.getfield 54, 3) := by decide +kernel
theorem dX2_quietTenths_54 : decode cX2_quietTenths 54 = .ok (.iload_n 1, 1) := by decide +kernel
theorem dX2_quietTenths_55 : decode cX2_quietTenths 55 = .ok (.isub, 1) := by decide +kernel
theorem dX2_quietTenths_56 : decode cX2_quietTenths 56 = .ok (.ireturn, 1) := by decide +kernel
theorem dX2_quietTenths_57 : decode cX2_quietTenths 57 = .ok (.aload_n 0, 1) := by decide +kernel
theorem dX2_quietTenths_58 : decode cX2_quietTenths 58 = .ok (.getfield 36, 3) := by decide +kernel
theorem dX2_quietTenths_61 : decode cX2_quietTenths 61 = .ok (.ifnonnull 7, 3) := by decide +kernel
theorem dX2_quietTenths_64 : decode cX2_quietTenths 64 = .ok (.iconst 0, 1) := by decide +kernel
theorem dX2_quietTenths_65 : decode cX2_quietTenths 65 = .ok (.goto 12, 3) := by decide +kernel
theorem dX2_quietTenths_68 : decode cX2_quietTenths 68 = .ok (.aload_n 0, 1) := by decide +kernel
theorem dX2_quietTenths_69 : decode cX2_quietTenths 69 = .ok (.getfield 36, 3) := by decide +kernel
theorem dX2_quietTenths_72 : decode cX2_quietTenths 72 = .ok (.invokevirtual 71, 3) := by decide +kernel
theorem dX2_quietTenths_75 : decode cX2_quietTenths 75 = .ok (.iload_n 1, 1) := by decide +kernel
theorem dX2_quietTenths_76 : decode cX2_quietTenths 76 = .ok (.isub, 1) := by decide +kernel
theorem dX2_quietTenths_77 : decode cX2_quietTenths 77 = .ok (.ireturn, 1) := by decide +kernel
theorem dX2_quietTenths_78 : decode cX2_quietTenths 78 = .ok (.ldc 75, 2) := by decide +kernel
theorem dX2_quietTenths_80 : decode cX2_quietTenths 80 = .ok (.ireturn, 1) := by decide +kernel
theorem dX2_spend_0 : decode cX2_spend 0 = .ok (.aload_n 0, 1) := by decide +kernel
theorem dX2_spend_1 : decode cX2_spend 1 = .ok (.getfield 22, 3) := by decide +kernel
theorem dX2_spend_4 : decode cX2_spend 4 = .ok (.iload_n 1, 1) := by decide +kernel
theorem dX2_spend_5 : decode cX2_spend 5 = .ok (.dup2, 1) := by decide +kernel
theorem dX2_spend_6 : decode cX2_spend 6 = .ok (.laload, 1) := by decide +kernel
theorem dX2_spend_7 : decode cX2_spend 7 = .ok (.iload_n 2, 1) := by decide +kernel
theorem dX2_spend_8 : decode cX2_spend 8 = .ok (.i2l, 1) := by decide +kernel
theorem dX2_spend_9 : decode cX2_spend 9 = .ok (.ladd, 1) := by decide +kernel
theorem dX2_spend_10 : decode cX2_spend 10 = .ok (.lastore, 1) := by decide +kernel
theorem dX2_spend_11 : decode cX2_spend 11 = .ok (.iload_n 1, 1) := by decide +kernel
theorem dX2_spend_12 : decode cX2_spend 12 = .ok (.ifCond .ne 13, 3) := by decide +kernel
theorem dX2_spend_15 : decode cX2_spend 15 = .ok (.aload_n 0, 1) := by decide +kernel
theorem dX2_spend_16 : decode cX2_spend 16 = .ok (.dup, 1) := by decide +kernel
theorem dX2_spend_17 : decode cX2_spend 17 = .ok (.getfield 61, 3) := by decide +kernel
theorem dX2_spend_20 : decode cX2_spend 20 = .ok (.iload_n 2, 1) := by decide +kernel
theorem dX2_spend_21 : decode cX2_spend 21 = .ok (.iadd, 1) := by decide +kernel
theorem dX2_spend_22 : decode cX2_spend 22 = .ok (.putfield 61, 3) := by decide +kernel
theorem dX2_spend_25 : decode cX2_spend 25 = .ok (.return_, 1) := by decide +kernel
theorem dX2_allTimes_0 : decode cX2_allTimes 0 = .ok (.lconst 0, 1) := by decide +kernel
theorem dX2_allTimes_1 : decode cX2_allTimes 1 = .ok (.lstore_n 1, 1) := by decide +kernel
theorem dX2_allTimes_2 : decode cX2_allTimes 2 = .ok (.aload_n 0, 1) := by decide +kernel
theorem dX2_allTimes_3 : decode cX2_allTimes 3 = .ok (.getfield 22, 3) := by decide +kernel
theorem dX2_allTimes_6 : decode cX2_allTimes 6 = .ok (.astore_n 3, 1) := by decide +kernel
theorem dX2_allTimes_7 : decode cX2_allTimes 7 = .ok (.aload_n 3, 1) := by decide +kernel
theorem dX2_allTimes_8 : decode cX2_allTimes 8 = .ok (.arraylength, 1) := by decide +kernel
theorem dX2_allTimes_9 : decode cX2_allTimes 9 = .ok (.istore 4, 2) := by decide +kernel
theorem dX2_allTimes_11 : decode cX2_allTimes 11 = .ok (.iconst 0, 1) := by decide +kernel
theorem dX2_allTimes_12 : decode cX2_allTimes 12 = .ok (.istore 5, 2) := by decide +kernel
theorem dX2_allTimes_14 : decode cX2_allTimes 14 = .ok (.iload 5, 2) := by decide +kernel
theorem dX2_allTimes_16 : decode cX2_allTimes 16 = .ok (.iload 4, 2) := by decide +kernel
theorem dX2_allTimes_18 : decode cX2_allTimes 18 = .ok (.if_icmp .ge 20, 3) := by decide +kernel
theorem dX2_allTimes_21 : decode cX2_allTimes 21 = .ok (.aload_n 3, 1) := by decide +kernel
theorem dX2_allTimes_22 : decode cX2_allTimes 22 = .ok (.iload 5, 2) := by decide +kernel
theorem dX2_allTimes_24 : decode cX2_allTimes 24 = .ok (.laload, 1) := by decide +kernel
theorem dX2_allTimes_25 : decode cX2_allTimes 25 = .ok (.lstore 6, 2) := by decide +kernel
theorem dX2_allTimes_27 : decode cX2_allTimes 27 = .ok (.lload_n 1, 1) := by decide +kernel
theorem dX2_allTimes_28 : decode cX2_allTimes 28 = .ok (.lload 6, 2) := by decide +kernel
theorem dX2_allTimes_30 : decode cX2_allTimes 30 = .ok (.ladd, 1) := by decide +kernel
theorem dX2_allTimes_31 : decode cX2_allTimes 31 = .ok (.lstore_n 1, 1) := by decide +kernel
theorem dX2_allTimes_32 : decode cX2_allTimes 32 = .ok (.iinc 5 1, 3) := by decide +kernel
theorem dX2_allTimes_35 : decode cX2_allTimes 35 = .ok (.goto (-21), 3) := by decide +kernel
theorem dX2_allTimes_38 : decode cX2_allTimes 38 = .ok (.lload_n 1, 1) := by decide +kernel
theorem dX2_allTimes_39 : decode cX2_allTimes 39 = .ok (.lreturn, 1) := by decide +kernel
theorem dX3_init_0 : decode cX3_init 0 = .ok (.aload_n 0, 1) := by decide +kernel
theorem dX3_init_1 : decode cX3_init 1 = .ok (.invokespecial 3, 3) := by decide +kernel
theorem dX3_init_4 : decode cX3_init 4 = .ok (.aload_n 0, 1) := by decide +kernel
theorem dX3_init_5 : decode cX3_init 5 = .ok (.iload_n 1, 1) := by decide +kernel
theorem dX3_init_6 : decode cX3_init 6 = .ok (.putfield 9, 3) := by decide +kernel
theorem dX3_init_9 : decode cX3_init 9 = .ok (.aload_n 0, 1) := by decide +kernel
theorem dX3_init_10 : decode cX3_init 10 = .ok (.iload_n 2, 1) := by decide +kernel
theorem dX3_init_11 : decode cX3_init 11 = .ok (.putfield 15, 3) := by decide +kernel
theorem dX3_init_14 : decode cX3_init 14 = .ok (.aload_n 0, 1) := by decide +kernel
theorem dX3_init_15 : decode cX3_init 15 = .ok (.iload_n 3, 1) := by decide +kernel
theorem dX3_init_16 : decode cX3_init 16 = .ok (.putfield 18, 3) := by decide +kernel
theorem dX3_init_19 : decode cX3_init 19 = .ok (.aload_n 0, 1) := by decide +kernel
theorem dX3_init_20 : decode cX3_init 20 = .ok (.iload 4, 2) := by decide +kernel
theorem dX3_init_22 : decode cX3_init 22 = .ok (.putfield 21, 3) := by decide +kernel
theorem dX3_init_25 : decode cX3_init 25 = .ok (.aload_n 0, 1) := by decide +kernel
theorem dX3_init_26 : decode cX3_init 26 = .ok (.aload 5, 2) := by decide +kernel
theorem dX3_init_28 : decode cX3_init 28 = .ok (.putfield 24, 3) := by decide +kernel
theorem dX3_init_31 : decode cX3_init 31 = .ok (.return_, 1) := by decide +kernel
theorem dX3_holds_0 : decode cX3_holds 0 = .ok (.aload_n 0, 1) := by decide +kernel
theorem dX3_holds_1 : decode cX3_holds 1 = .ok (.getfield 9, 3) := by decide +kernel
theorem dX3_holds_4 : decode cX3_holds 4 = .ok (.iconst (-1), 1) := by decide +kernel
theorem dX3_holds_5 : decode cX3_holds 5 = .ok (.if_icmp .eq 11, 3) := by decide +kernel
theorem dX3_holds_8 : decode cX3_holds 8 = .ok (.aload_n 0, 1) := by decide +kernel
theorem dX3_holds_9 : decode cX3_holds 9 = .ok (.getfield 9, 3) := by decide +kernel
theorem dX3_holds_12 : decode cX3_holds 12 = .ok (.iload_n 1, 1) := by decide +kernel
theorem dX3_holds_13 : decode cX3_holds 13 = .ok (.if_icmp .ne 23, 3) := by decide +kernel
theorem dX3_holds_16 : decode cX3_holds 16 = .ok (.iload_n 2, 1) := by decide +kernel
theorem dX3_holds_17 : decode cX3_holds 17 = .ok (.aload_n 0, 1) := by decide +kernel
theorem dX3_holds_18 : decode cX3_holds 18 = .ok (.getfield 15, 3) := by decide +kernel
theorem dX3_holds_21 : decode cX3_holds 21 = .ok (.if_icmp .lt 15, 3) := by decide +kernel
theorem dX3_holds_24 : decode cX3_holds 24 = .ok (.iload_n 2, 1) := by decide +kernel
theorem dX3_holds_25 : decode cX3_holds 25 = .ok (.aload_n 0, 1) := by decide +kernel
theorem dX3_holds_26 : decode cX3_holds 26 = .ok (.getfield 18, 3) := by decide +kernel
theorem dX3_holds_29 : decode cX3_holds 29 = .ok (.if_icmp .ge 7, 3) := by decide +kernel
theorem dX3_holds_32 : decode cX3_holds 32 = .ok (.iconst 1, 1) := by decide +kernel
theorem dX3_holds_33 : decode cX3_holds 33 = .ok (.goto 4, 3) := by decide +kernel
theorem dX3_holds_36 : decode cX3_holds 36 = .ok (.iconst 0, 1) := by decide +kernel
theorem dX3_holds_37 : decode cX3_holds 37 = .ok (.ireturn, 1) := by decide +kernel
theorem dX3_turnBehind_0 : decode cX3_turnBehind 0 = .ok (.iload_n 1, 1) := by decide +kernel
theorem dX3_turnBehind_1 : decode cX3_turnBehind 1 = .ok (.aload_n 0, 1) := by decide +kernel
theorem dX3_turnBehind_2 : decode cX3_turnBehind 2 = .ok (.getfield 15, 3) := by decide +kernel
theorem dX3_turnBehind_5 : decode cX3_turnBehind 5 = .ok (.if_icmp .ge 8, 3) := by decide +kernel
theorem dX3_turnBehind_8 : decode cX3_turnBehind 8 = .ok (.aload_n 0, 1) := by decide +kernel
theorem dX3_turnBehind_9 : decode cX3_turnBehind 9 = .ok (.getfield 15, 3) := by decide +kernel
theorem dX3_turnBehind_12 : decode cX3_turnBehind 12 = .ok (.ireturn, 1) := by decide +kernel
theorem dX3_turnBehind_13 : decode cX3_turnBehind 13 = .ok (.iload_n 1, 1) := by decide +kernel
theorem dX3_turnBehind_14 : decode cX3_turnBehind 14 = .ok (.aload_n 0, 1) := by decide +kernel
theorem dX3_turnBehind_15 : decode cX3_turnBehind 15 = .ok (.getfield 18, 3) := by decide +kernel
theorem dX3_turnBehind_18 : decode cX3_turnBehind 18 = .ok (.if_icmp .ge 10, 3) := by decide +kernel
theorem dX3_turnBehind_21 : decode cX3_turnBehind 21 = .ok (.aload_n 0, 1) := by decide +kernel
theorem dX3_turnBehind_22 : decode cX3_turnBehind 22 = .ok (.getfield 18, 3) := by decide +kernel
theorem dX3_turnBehind_25 : decode cX3_turnBehind 25 = .ok (.goto 5, 3) := by decide +kernel
theorem dX3_turnBehind_28 : decode cX3_turnBehind 28 = .ok (.ldc 28, 2) := by decide +kernel
theorem dX3_turnBehind_30 : decode cX3_turnBehind 30 = .ok (.ireturn, 1) := by decide +kernel
theorem dX4_init_0 : decode cX4_init 0 = .ok (.aload_n 0, 1) := by decide +kernel
theorem dX4_init_1 : decode cX4_init 1 = .ok (.invokespecial 1, 3) := by decide +kernel
theorem dX4_init_4 : decode cX4_init 4 = .ok (.aload_n 0, 1) := by decide +kernel
theorem dX4_init_5 : decode cX4_init 5 = .ok (.sipush 3000, 3) := by decide +kernel
theorem dX4_init_8 : decode cX4_init 8 = .ok (.newarray .int, 2) := by decide +kernel
theorem dX4_init_10 : decode cX4_init 10 = .ok (.putfield 9, 3) := by decide +kernel
theorem dX4_init_13 : decode cX4_init 13 = .ok (.aload_n 0, 1) := by decide +kernel
theorem dX4_init_14 : decode cX4_init 14 = .ok (.lload_n 1, 1) := by decide +kernel
theorem dX4_init_15 : decode cX4_init 15 = .ok (.putfield 13, 3) := by decide +kernel
theorem dX4_init_18 : decode cX4_init 18 = .ok (.return_, 1) := by decide +kernel
set_option maxRecDepth 20000 in
theorem ggX4_machine_X4_find : GoodIn wsX4_machine wsX4_find := goodIn_r _ [13, 7, 8, 14, 57, 58, 59, 60, 61, 62, 63, 64, 65, 66, 67, 41, 42, 43, 44, 45, 46, 47, 48, 49, 50, 51, 52, 53, 54, 55, 56] (by decide +kernel) (by decide +kernel)
set_option maxRecDepth 20000 in
theorem gX4_machine_X4_find : GoodIn wsX4_machine (wsV RX4 17 RX4 yX4_find wsX4_find) := goodIn_app (goodIn_of _ (by decide +kernel)) ggX4_machine_X4_find
set_option maxRecDepth 20000 in
theorem ggX4_machine_X4_within : GoodIn wsX4_machine wsX4_within := goodIn_r _ [17] (by decide +kernel) (by decide +kernel)
set_option maxRecDepth 20000 in
theorem gX4_machine_X4_within : GoodIn wsX4_machine (va_wsS RX4 31 yX4_within wsX4_within) := goodIn_app (goodIn_of _ (by decide +kernel)) ggX4_machine_X4_within
set_option maxRecDepth 20000 in
theorem ggX4_machine_X2_init : GoodIn wsX4_machine wsX2_init := goodIn_r _ [20, 21, 22, 23, 24, 25, 26, 27, 28, 29, 30, 31, 32, 33, 34, 35, 36, 37, 38, 39, 40, 68, 69, 70, 71, 72, 41, 42, 43, 44, 45, 46, 47, 48, 49, 50, 51, 52, 53, 54, 55, 56] (by decide +kernel) (by decide +kernel)
set_option maxRecDepth 20000 in
theorem gX4_machine_X2_init : GoodIn wsX4_machine (wsX2_init) := ggX4_machine_X2_init
theorem dX4_machine_0 : decode cX4_machine 0 = .ok (.aload_n 0, 1) := by decide +kernel
theorem dX4_machine_1 : decode cX4_machine 1 = .ok (.iload_n 2, 1) := by decide +kernel
theorem dX4_machine_2 : decode cX4_machine 2 = .ok (.invokevirtual 17, 3) := by decide +kernel
theorem dX4_machine_5 : decode cX4_machine 5 = .ok (.astore_n 3, 1) := by decide +kernel
theorem dX4_machine_6 : decode cX4_machine 6 = .ok (.iload_n 2, 1) := by decide +kernel
theorem dX4_machine_7 : decode cX4_machine 7 = .ok (.iconst (-1), 1) := by decide +kernel
theorem dX4_machine_8 : decode cX4_machine 8 = .ok (.if_icmp .eq 14, 3) := by decide +kernel
theorem dX4_machine_11 : decode cX4_machine 11 = .ok (.aload_n 3, 1) := by decide +kernel
theorem dX4_machine_12 : decode cX4_machine 12 = .ok (.ifnull 14, 3) := by decide +kernel
theorem dX4_machine_15 : decode cX4_machine 15 = .ok (.aload_n 3, 1) := by decide +kernel
theorem dX4_machine_16 : decode cX4_machine 16 = .ok (.getfield 21, 3) := by decide +kernel
theorem dX4_machine_19 : decode cX4_machine 19 = .ok (.ifCond .ne 7, 3) := by decide +kernel
theorem dX4_machine_22 : decode cX4_machine 22 = .ok (.iconst 1, 1) := by decide +kernel
theorem dX4_machine_23 : decode cX4_machine 23 = .ok (.goto 4, 3) := by decide +kernel
theorem dX4_machine_26 : decode cX4_machine 26 = .ok (.iconst 0, 1) := by decide +kernel
theorem dX4_machine_27 : decode cX4_machine 27 = .ok (.istore 4, 2) := by decide +kernel
theorem dX4_machine_29 : decode cX4_machine 29 = .ok (.aload_n 0, 1) := by decide +kernel
theorem dX4_machine_30 : decode cX4_machine 30 = .ok (.getfield 27, 3) := by decide +kernel
theorem dX4_machine_33 : decode cX4_machine 33 = .ok (.ifCond .gt 19, 3) := by decide +kernel
theorem dX4_machine_36 : decode cX4_machine 36 = .ok (.iload_n 1, 1) := by decide +kernel
theorem dX4_machine_37 : decode cX4_machine 37 = .ok (.iconst 1, 1) := by decide +kernel
theorem dX4_machine_38 : decode cX4_machine 38 = .ok (.sipush 10000, 3) := by decide +kernel
theorem dX4_machine_41 : decode cX4_machine 41 = .ok (.invokestatic 31, 3) := by decide +kernel
theorem dX4_machine_44 : decode cX4_machine 44 = .ok (.ifCond .eq 8, 3) := by decide +kernel
theorem dX4_machine_47 : decode cX4_machine 47 = .ok (.iload 4, 2) := by decide +kernel
theorem dX4_machine_49 : decode cX4_machine 49 = .ok (.ifCond .ne 5, 3) := by decide +kernel
theorem dX4_machine_52 : decode cX4_machine 52 = .ok (.iconst (-1), 1) := by decide +kernel
theorem dX4_machine_53 : decode cX4_machine 53 = .ok (.ireturn, 1) := by decide +kernel
theorem dX4_machine_54 : decode cX4_machine 54 = .ok (.aload_n 0, 1) := by decide +kernel
theorem dX4_machine_55 : decode cX4_machine 55 = .ok (.getfield 35, 3) := by decide +kernel
theorem dX4_machine_58 : decode cX4_machine 58 = .ok (.bipush 12, 2) := by decide +kernel
theorem dX4_machine_60 : decode cX4_machine 60 = .ok (.if_icmp .lt 6, 3) := by decide +kernel
theorem dX4_machine_63 : decode cX4_machine 63 = .ok (.bipush (-2), 2) := by decide +kernel
theorem dX4_machine_65 : decode cX4_machine 65 = .ok (.ireturn, 1) := by decide +kernel
theorem dX4_machine_66 : decode cX4_machine 66 = .ok (.aload_n 0, 1) := by decide +kernel
theorem dX4_machine_67 : decode cX4_machine 67 = .ok (.new 22, 3) := by decide +kernel
theorem dX4_machine_70 : decode cX4_machine 70 = .ok (.dup, 1) := by decide +kernel
theorem dX4_machine_71 : decode cX4_machine 71 = .ok (.aload_n 0, 1) := by decide +kernel
theorem dX4_machine_72 : decode cX4_machine 72 = .ok (.getfield 35, 3) := by decide +kernel
theorem dX4_machine_75 : decode cX4_machine 75 = .ok (.iload_n 1, 1) := by decide +kernel
theorem dX4_machine_76 : decode cX4_machine 76 = .ok (.aload_n 0, 1) := by decide +kernel
theorem dX4_machine_77 : decode cX4_machine 77 = .ok (.getfield 38, 3) := by decide +kernel
theorem dX4_machine_80 : decode cX4_machine 80 = .ok (.aload_n 3, 1) := by decide +kernel
theorem dX4_machine_81 : decode cX4_machine 81 = .ok (.invokespecial 42, 3) := by decide +kernel
theorem dX4_machine_84 : decode cX4_machine 84 = .ok (.putfield 38, 3) := by decide +kernel
theorem dX4_machine_87 : decode cX4_machine 87 = .ok (.aload_n 3, 1) := by decide +kernel
theorem dX4_machine_88 : decode cX4_machine 88 = .ok (.ifnull 8, 3) := by decide +kernel
theorem dX4_machine_91 : decode cX4_machine 91 = .ok (.aload_n 3, 1) := by decide +kernel
theorem dX4_machine_92 : decode cX4_machine 92 = .ok (.iconst 1, 1) := by decide +kernel
theorem dX4_machine_93 : decode cX4_machine 93 = .ok (.putfield 21, 3) := by decide +kernel
theorem dX4_machine_96 : decode cX4_machine 96 = .ok (.aload_n 0, 1) := by decide +kernel
theorem dX4_machine_97 : decode cX4_machine 97 = .ok (.dup, 1) := by decide +kernel
theorem dX4_machine_98 : decode cX4_machine 98 = .ok (.getfield 35, 3) := by decide +kernel
theorem dX4_machine_101 : decode cX4_machine 101 = .ok (.iconst 1, 1) := by decide +kernel
theorem dX4_machine_102 : decode cX4_machine 102 = .ok (.iadd, 1) := by decide +kernel
theorem dX4_machine_103 : decode cX4_machine 103 = .ok (.putfield 35, 3) := by decide +kernel
theorem dX4_machine_106 : decode cX4_machine 106 = .ok (.aload_n 0, 1) := by decide +kernel
theorem dX4_machine_107 : decode cX4_machine 107 = .ok (.getfield 38, 3) := by decide +kernel
theorem dX4_machine_110 : decode cX4_machine 110 = .ok (.getfield 45, 3) := by decide +kernel
theorem dX4_machine_113 : decode cX4_machine 113 = .ok (.ireturn, 1) := by decide +kernel
set_option maxRecDepth 20000 in
theorem ggX4_buffer_X4_find : GoodIn wsX4_buffer wsX4_find := goodIn_r _ [9, 10, 11, 12, 16, 17, 18, 19, 20, 21, 22, 23, 24, 25, 26, 27, 28, 29, 30, 31, 32, 33, 34, 35, 36, 37, 38, 39, 40, 41, 42] (by decide +kernel) (by decide +kernel)
set_option maxRecDepth 20000 in
theorem gX4_buffer_X4_find : GoodIn wsX4_buffer (wsV RX4 17 RX4 yX4_find wsX4_find) := goodIn_app (goodIn_of _ (by decide +kernel)) ggX4_buffer_X4_find
set_option maxRecDepth 20000 in
theorem ggX4_buffer_X4_within : GoodIn wsX4_buffer wsX4_within := goodIn_r _ [15] (by decide +kernel) (by decide +kernel)
set_option maxRecDepth 20000 in
theorem gX4_buffer_X4_within : GoodIn wsX4_buffer (va_wsS RX4 31 yX4_within wsX4_within) := goodIn_app (goodIn_of _ (by decide +kernel)) ggX4_buffer_X4_within
theorem dX4_buffer_0 : decode cX4_buffer 0 = .ok (.aload_n 0, 1) := by decide +kernel
theorem dX4_buffer_1 : decode cX4_buffer 1 = .ok (.iload_n 1, 1) := by decide +kernel
theorem dX4_buffer_2 : decode cX4_buffer 2 = .ok (.invokevirtual 17, 3) := by decide +kernel
theorem dX4_buffer_5 : decode cX4_buffer 5 = .ok (.astore 4, 2) := by decide +kernel
theorem dX4_buffer_7 : decode cX4_buffer 7 = .ok (.aload_n 0, 1) := by decide +kernel
theorem dX4_buffer_8 : decode cX4_buffer 8 = .ok (.getfield 27, 3) := by decide +kernel
theorem dX4_buffer_11 : decode cX4_buffer 11 = .ok (.ifCond .gt 30, 3) := by decide +kernel
theorem dX4_buffer_14 : decode cX4_buffer 14 = .ok (.aload 4, 2) := by decide +kernel
theorem dX4_buffer_16 : decode cX4_buffer 16 = .ok (.ifnull 25, 3) := by decide +kernel
theorem dX4_buffer_19 : decode cX4_buffer 19 = .ok (.iload_n 2, 1) := by decide +kernel
theorem dX4_buffer_20 : decode cX4_buffer 20 = .ok (.iconst 1, 1) := by decide +kernel
theorem dX4_buffer_21 : decode cX4_buffer 21 = .ok (.sipush 1000, 3) := by decide +kernel
theorem dX4_buffer_24 : decode cX4_buffer 24 = .ok (.invokestatic 31, 3) := by decide +kernel
theorem dX4_buffer_27 : decode cX4_buffer 27 = .ok (.ifCond .eq 14, 3) := by decide +kernel
theorem dX4_buffer_30 : decode cX4_buffer 30 = .ok (.iload_n 3, 1) := by decide +kernel
theorem dX4_buffer_31 : decode cX4_buffer 31 = .ok (.iconst 0, 1) := by decide +kernel
theorem dX4_buffer_32 : decode cX4_buffer 32 = .ok (.sipush 10000, 3) := by decide +kernel
theorem dX4_buffer_35 : decode cX4_buffer 35 = .ok (.invokestatic 31, 3) := by decide +kernel
theorem dX4_buffer_38 : decode cX4_buffer 38 = .ok (.ifCond .ne 5, 3) := by decide +kernel
theorem dX4_buffer_41 : decode cX4_buffer 41 = .ok (.iconst (-1), 1) := by decide +kernel
theorem dX4_buffer_42 : decode cX4_buffer 42 = .ok (.ireturn, 1) := by decide +kernel
theorem dX4_buffer_43 : decode cX4_buffer 43 = .ok (.aload 4, 2) := by decide +kernel
theorem dX4_buffer_45 : decode cX4_buffer 45 = .ok (.getfield 48, 3) := by decide +kernel
theorem dX4_buffer_48 : decode cX4_buffer 48 = .ok (.getfield 52, 3) := by decide +kernel
theorem dX4_buffer_51 : decode cX4_buffer 51 = .ok (.istore 5, 2) := by decide +kernel
theorem dX4_buffer_53 : decode cX4_buffer 53 = .ok (.aload 4, 2) := by decide +kernel
theorem dX4_buffer_55 : decode cX4_buffer 55 = .ok (.getfield 48, 3) := by decide +kernel
theorem dX4_buffer_58 : decode cX4_buffer 58 = .ok (.iload_n 2, 1) := by decide +kernel
theorem dX4_buffer_59 : decode cX4_buffer 59 = .ok (.putfield 52, 3) := by decide +kernel
theorem dX4_buffer_62 : decode cX4_buffer 62 = .ok (.aload 4, 2) := by decide +kernel
theorem dX4_buffer_64 : decode cX4_buffer 64 = .ok (.getfield 48, 3) := by decide +kernel
theorem dX4_buffer_67 : decode cX4_buffer 67 = .ok (.iload_n 3, 1) := by decide +kernel
theorem dX4_buffer_68 : decode cX4_buffer 68 = .ok (.putfield 57, 3) := by decide +kernel
theorem dX4_buffer_71 : decode cX4_buffer 71 = .ok (.iload 5, 2) := by decide +kernel
theorem dX4_buffer_73 : decode cX4_buffer 73 = .ok (.ireturn, 1) := by decide +kernel
set_option maxRecDepth 20000 in
theorem ggX4_fault_X4_find : GoodIn wsX4_fault wsX4_find := goodIn_r _ [12, 13, 14, 15, 37, 38, 39, 40, 41, 42, 43, 44, 45, 46, 47, 48, 49, 50, 51, 52, 53, 54, 55, 56, 57, 58, 59, 60, 61, 62, 63] (by decide +kernel) (by decide +kernel)
set_option maxRecDepth 20000 in
theorem gX4_fault_X4_find : GoodIn wsX4_fault (wsV RX4 17 RX4 yX4_find wsX4_find) := goodIn_app (goodIn_of _ (by decide +kernel)) ggX4_fault_X4_find
set_option maxRecDepth 20000 in
theorem ggX4_fault_X4_within : GoodIn wsX4_fault wsX4_within := goodIn_r _ [18] (by decide +kernel) (by decide +kernel)
set_option maxRecDepth 20000 in
theorem gX4_fault_X4_within : GoodIn wsX4_fault (va_wsS RX4 31 yX4_within wsX4_within) := goodIn_app (goodIn_of _ (by decide +kernel)) ggX4_fault_X4_within
set_option maxRecDepth 20000 in
theorem ggX4_fault_X1_init : GoodIn wsX4_fault wsX1_init := goodIn_r _ [21, 22, 23, 24, 25, 26, 27, 64, 65, 66, 67] (by decide +kernel) (by decide +kernel)
set_option maxRecDepth 20000 in
theorem gX4_fault_X1_init : GoodIn wsX4_fault (wsX1_init) := ggX4_fault_X1_init
set_option maxRecDepth 20000 in
theorem ggX4_fault_X2_addFault : GoodIn wsX4_fault wsX2_addFault := goodIn_r _ [32, 33, 34, 35, 36, 48, 49, 50, 51, 52, 53, 54, 55, 56, 57, 58, 59, 60, 61, 62, 63, 64, 65, 66, 67] (by decide +kernel) (by decide +kernel)
set_option maxRecDepth 20000 in
theorem gX4_fault_X2_addFault : GoodIn wsX4_fault (wsV RX4 71 RX2 yX2_addFault wsX2_addFault) := goodIn_app (goodIn_of _ (by decide +kernel)) ggX4_fault_X2_addFault
theorem dX4_fault_0 : decode cX4_fault 0 = .ok (.aload_n 0, 1) := by decide +kernel
theorem dX4_fault_1 : decode cX4_fault 1 = .ok (.iload_n 1, 1) := by decide +kernel
theorem dX4_fault_2 : decode cX4_fault 2 = .ok (.invokevirtual 17, 3) := by decide +kernel
theorem dX4_fault_5 : decode cX4_fault 5 = .ok (.astore 7, 2) := by decide +kernel
theorem dX4_fault_7 : decode cX4_fault 7 = .ok (.aload_n 0, 1) := by decide +kernel
theorem dX4_fault_8 : decode cX4_fault 8 = .ok (.getfield 27, 3) := by decide +kernel
theorem dX4_fault_11 : decode cX4_fault 11 = .ok (.ifCond .gt 17, 3) := by decide +kernel
theorem dX4_fault_14 : decode cX4_fault 14 = .ok (.aload 7, 2) := by decide +kernel
theorem dX4_fault_16 : decode cX4_fault 16 = .ok (.ifnull 12, 3) := by decide +kernel
theorem dX4_fault_19 : decode cX4_fault 19 = .ok (.aload 7, 2) := by decide +kernel
theorem dX4_fault_21 : decode cX4_fault 21 = .ok (.getfield 60, 3) := by decide +kernel
theorem dX4_fault_24 : decode cX4_fault 24 = .ok (.iconst 4, 1) := by decide +kernel
theorem dX4_fault_25 : decode cX4_fault 25 = .ok (.if_icmp .lt 5, 3) := by decide +kernel
theorem dX4_fault_28 : decode cX4_fault 28 = .ok (.iconst 0, 1) := by decide +kernel
theorem dX4_fault_29 : decode cX4_fault 29 = .ok (.ireturn, 1) := by decide +kernel
theorem dX4_fault_30 : decode cX4_fault 30 = .ok (.lload 4, 2) := by decide +kernel
theorem dX4_fault_32 : decode cX4_fault 32 = .ok (.lconst 1, 1) := by decide +kernel
theorem dX4_fault_33 : decode cX4_fault 33 = .ok (.lcmp, 1) := by decide +kernel
theorem dX4_fault_34 : decode cX4_fault 34 = .ok (.ifCond .lt 25, 3) := by decide +kernel
theorem dX4_fault_37 : decode cX4_fault 37 = .ok (.lload 4, 2) := by decide +kernel
theorem dX4_fault_39 : decode cX4_fault 39 = .ok (.ldc2_w 63, 3) := by decide +kernel
theorem dX4_fault_42 : decode cX4_fault 42 = .ok (.lcmp, 1) := by decide +kernel
theorem dX4_fault_43 : decode cX4_fault 43 = .ok (.ifCond .gt 16, 3) := by decide +kernel
theorem dX4_fault_46 : decode cX4_fault 46 = .ok (.lload_n 2, 1) := by decide +kernel
theorem dX4_fault_47 : decode cX4_fault 47 = .ok (.lconst 0, 1) := by decide +kernel
theorem dX4_fault_48 : decode cX4_fault 48 = .ok (.lcmp, 1) := by decide +kernel
theorem dX4_fault_49 : decode cX4_fault 49 = .ok (.ifCond .lt 10, 3) := by decide +kernel
theorem dX4_fault_52 : decode cX4_fault 52 = .ok (.lload_n 2, 1) := by decide +kernel
theorem dX4_fault_53 : decode cX4_fault 53 = .ok (.lload 4, 2) := by decide +kernel
theorem dX4_fault_55 : decode cX4_fault 55 = .ok (.lcmp, 1) := by decide +kernel
theorem dX4_fault_56 : decode cX4_fault 56 = .ok (.ifCond .le 5, 3) := by decide +kernel
theorem dX4_fault_59 : decode cX4_fault 59 = .ok (.iconst 0, 1) := by decide +kernel
theorem dX4_fault_60 : decode cX4_fault 60 = .ok (.ireturn, 1) := by decide +kernel
theorem dX4_fault_61 : decode cX4_fault 61 = .ok (.iload 6, 2) := by decide +kernel
theorem dX4_fault_63 : decode cX4_fault 63 = .ok (.iconst 0, 1) := by decide +kernel
theorem dX4_fault_64 : decode cX4_fault 64 = .ok (.ldc 65, 2) := by decide +kernel
theorem dX4_fault_66 : decode cX4_fault 66 = .ok (.invokestatic 31, 3) := by decide +kernel
theorem dX4_fault_69 : decode cX4_fault 69 = .ok (.ifCond .ne 5, 3) := by decide +kernel
theorem dX4_fault_72 : decode cX4_fault 72 = .ok (.iconst 0, 1) := by decide +kernel
theorem dX4_fault_73 : decode cX4_fault 73 = .ok (.ireturn, 1) := by decide +kernel
theorem dX4_fault_74 : decode cX4_fault 74 = .ok (.aload 7, 2) := by decide +kernel
theorem dX4_fault_76 : decode cX4_fault 76 = .ok (.new 66, 3) := by decide +kernel
theorem dX4_fault_79 : decode cX4_fault 79 = .ok (.dup, 1) := by decide +kernel
theorem dX4_fault_80 : decode cX4_fault 80 = .ok (.lload_n 2, 1) := by decide +kernel
theorem dX4_fault_81 : decode cX4_fault 81 = .ok (.lload 4, 2) := by decide +kernel
theorem dX4_fault_83 : decode cX4_fault 83 = .ok (.iload 6, 2) := by decide +kernel
theorem dX4_fault_85 : decode cX4_fault 85 = .ok (.invokespecial 68, 3) := by decide +kernel
theorem dX4_fault_88 : decode cX4_fault 88 = .ok (.invokevirtual 71, 3) := by decide +kernel
theorem dX4_fault_91 : decode cX4_fault 91 = .ok (.iconst 1, 1) := by decide +kernel
theorem dX4_fault_92 : decode cX4_fault 92 = .ok (.ireturn, 1) := by decide +kernel
set_option maxRecDepth 20000 in
theorem ggX4_row_X4_find : GoodIn wsX4_row wsX4_find := goodIn_r _ [5, 6, 7, 8, 35, 36, 37, 38, 39, 40, 41, 42, 43, 44, 45, 46, 47, 48, 49, 50, 51, 52, 53, 54, 55, 56, 57, 58, 59, 60, 61] (by decide +kernel) (by decide +kernel)
set_option maxRecDepth 20000 in
theorem gX4_row_X4_find : GoodIn wsX4_row (wsV RX4 17 RX4 yX4_find wsX4_find) := goodIn_app (goodIn_of _ (by decide +kernel)) ggX4_row_X4_find
set_option maxRecDepth 20000 in
theorem ggX4_row_X4_within : GoodIn wsX4_row wsX4_within := goodIn_r _ [11] (by decide +kernel) (by decide +kernel)
set_option maxRecDepth 20000 in
theorem gX4_row_X4_within : GoodIn wsX4_row (va_wsS RX4 31 yX4_within wsX4_within) := goodIn_app (goodIn_of _ (by decide +kernel)) ggX4_row_X4_within
set_option maxRecDepth 20000 in
theorem ggX4_row_X4_addRow : GoodIn wsX4_row wsX4_addRow := goodIn_r _ [15, 16, 17, 18, 19, 20, 21, 22, 23, 24, 25, 26, 27, 28, 29, 30, 31, 32, 33, 34, 35, 36, 37, 38, 39, 40, 41, 42, 43, 44, 45, 62, 63, 64, 65, 66] (by decide +kernel) (by decide +kernel)
set_option maxRecDepth 20000 in
theorem gX4_row_X4_addRow : GoodIn wsX4_row (wsV RX4 75 RX4 yX4_addRow wsX4_addRow) := goodIn_app (goodIn_of _ (by decide +kernel)) ggX4_row_X4_addRow
theorem dX4_row_0 : decode cX4_row 0 = .ok (.aload_n 0, 1) := by decide +kernel
theorem dX4_row_1 : decode cX4_row 1 = .ok (.iload_n 1, 1) := by decide +kernel
theorem dX4_row_2 : decode cX4_row 2 = .ok (.invokevirtual 17, 3) := by decide +kernel
theorem dX4_row_5 : decode cX4_row 5 = .ok (.ifnull 30, 3) := by decide +kernel
theorem dX4_row_8 : decode cX4_row 8 = .ok (.iload 4, 2) := by decide +kernel
theorem dX4_row_10 : decode cX4_row 10 = .ok (.iconst 4, 1) := by decide +kernel
theorem dX4_row_11 : decode cX4_row 11 = .ok (.bipush 9, 2) := by decide +kernel
theorem dX4_row_13 : decode cX4_row 13 = .ok (.invokestatic 31, 3) := by decide +kernel
theorem dX4_row_16 : decode cX4_row 16 = .ok (.ifCond .eq 19, 3) := by decide +kernel
theorem dX4_row_19 : decode cX4_row 19 = .ok (.aload_n 0, 1) := by decide +kernel
theorem dX4_row_20 : decode cX4_row 20 = .ok (.iload_n 1, 1) := by decide +kernel
theorem dX4_row_21 : decode cX4_row 21 = .ok (.iload_n 2, 1) := by decide +kernel
theorem dX4_row_22 : decode cX4_row 22 = .ok (.iload_n 3, 1) := by decide +kernel
theorem dX4_row_23 : decode cX4_row 23 = .ok (.iload 4, 2) := by decide +kernel
theorem dX4_row_25 : decode cX4_row 25 = .ok (.invokevirtual 75, 3) := by decide +kernel
theorem dX4_row_28 : decode cX4_row 28 = .ok (.ifCond .eq 7, 3) := by decide +kernel
theorem dX4_row_31 : decode cX4_row 31 = .ok (.iconst 1, 1) := by decide +kernel
theorem dX4_row_32 : decode cX4_row 32 = .ok (.goto 4, 3) := by decide +kernel
theorem dX4_row_35 : decode cX4_row 35 = .ok (.iconst 0, 1) := by decide +kernel
theorem dX4_row_36 : decode cX4_row 36 = .ok (.ireturn, 1) := by decide +kernel
set_option maxRecDepth 20000 in
theorem ggX4_run_X4_within : GoodIn wsX4_run wsX4_within := goodIn_r _ [16] (by decide +kernel) (by decide +kernel)
set_option maxRecDepth 20000 in
theorem gX4_run_X4_within : GoodIn wsX4_run (va_wsS RX4 31 yX4_within wsX4_within) := goodIn_app (goodIn_of _ (by decide +kernel)) ggX4_run_X4_within
set_option maxRecDepth 20000 in
theorem ggX4_run_X4_lookAtRows : GoodIn wsX4_run wsX4_lookAtRows := goodIn_r _ [20, 21, 22, 23, 24, 2, 5, 25, 3, 6, 7, 8, 9, 26, 27, 28, 29, 15, 30, 31, 32, 33, 34, 35, 36, 37, 38, 39, 40, 41, 42, 43, 44, 167, 168, 169, 170, 171, 172, 173, 174, 175, 176, 177, 178, 179, 180, 181, 182, 183, 184, 185, 186, 187, 188, 189, 190, 191, 192, 193, 194, 195, 196, 197, 198] (by decide +kernel) (by decide +kernel)
set_option maxRecDepth 20000 in
theorem gX4_run_X4_lookAtRows : GoodIn wsX4_run (wsV RX4 86 RX4 yX4_lookAtRows wsX4_lookAtRows) := goodIn_app (goodIn_of _ (by decide +kernel)) ggX4_run_X4_lookAtRows
set_option maxRecDepth 20000 in
theorem ggX4_run_X4_actAll : GoodIn wsX4_run wsX4_actAll := goodIn_r _ [48, 21, 3, 24, 49, 50, 51, 52, 53, 54, 55, 56, 57, 58, 15, 59, 60, 61, 62, 63, 64, 65, 66, 67, 68, 69, 70, 71, 72, 73, 74, 75, 76, 10, 11, 8, 12, 77, 78, 79, 80, 81, 82, 83, 84, 85, 86, 87, 88, 89, 90, 91, 92, 93, 94, 95, 96, 97, 98, 99, 4, 100, 22, 101, 102, 103, 104, 105, 106, 107, 108, 109, 110, 111, 112, 113, 114, 115, 116, 117, 118, 119, 120, 121, 122, 123, 124, 125, 126, 127, 128, 129, 130, 131, 132, 133, 134, 135, 136, 137, 138, 139, 140, 141, 167, 168, 169, 170, 171, 172, 173, 174, 175, 176, 177, 178, 179, 180, 181, 182, 183, 184, 185, 186, 187, 188, 189, 190, 191, 192, 193, 199, 200, 201, 202, 203, 204, 205, 206, 207] (by decide +kernel) (by decide +kernel)
set_option maxRecDepth 20000 in
theorem gX4_run_X4_actAll : GoodIn wsX4_run (wsV RX4 89 RX4 yX4_actAll wsX4_actAll) := goodIn_app (goodIn_of _ (by decide +kernel)) ggX4_run_X4_actAll
set_option maxRecDepth 20000 in
theorem ggX4_run_X4_quietTenths : GoodIn wsX4_run wsX4_quietTenths := goodIn_r _ [145, 5, 3, 21, 6, 7, 8, 9, 24, 146, 147, 148, 52, 149, 68, 67, 55, 150, 151, 152, 153, 154, 155, 54, 66, 156, 132, 133, 111, 134, 113, 119, 120, 135, 136, 11, 12, 137, 167, 168, 169, 170, 171, 172, 173, 174, 175, 176, 177, 178, 179, 180, 181, 182, 183, 184, 185, 186, 187, 188, 189, 190, 191, 192, 193, 203, 204, 205, 206, 207] (by decide +kernel) (by decide +kernel)
set_option maxRecDepth 20000 in
theorem gX4_run_X4_quietTenths : GoodIn wsX4_run (wsV RX4 92 RX4 yX4_quietTenths wsX4_quietTenths) := goodIn_app (goodIn_of _ (by decide +kernel)) ggX4_run_X4_quietTenths
set_option maxRecDepth 20000 in
theorem ggX4_run_X4_passTime : GoodIn wsX4_run wsX4_passTime := goodIn_r _ [160, 21, 3, 24, 161, 153, 154, 52, 155, 54, 55, 66, 67, 68, 162, 163, 164, 165, 166, 167, 168, 169, 170, 171, 172, 173, 174, 175, 176, 177, 178, 179, 180, 181, 182, 183, 184, 185, 186, 187, 188, 189, 190, 191, 192, 193] (by decide +kernel) (by decide +kernel)
set_option maxRecDepth 20000 in
theorem gX4_run_X4_passTime : GoodIn wsX4_run (wsV RX4 105 RX4 yX4_passTime wsX4_passTime) := goodIn_app (goodIn_of _ (by decide +kernel)) ggX4_run_X4_passTime
theorem dX4_run_0 : decode cX4_run 0 = .ok (.iload_n 1, 1) := by decide +kernel
theorem dX4_run_1 : decode cX4_run 1 = .ok (.iconst 0, 1) := by decide +kernel
theorem dX4_run_2 : decode cX4_run 2 = .ok (.ldc 65, 2) := by decide +kernel
theorem dX4_run_4 : decode cX4_run 4 = .ok (.invokestatic 31, 3) := by decide +kernel
theorem dX4_run_7 : decode cX4_run 7 = .ok (.ifCond .eq 14, 3) := by decide +kernel
theorem dX4_run_10 : decode cX4_run 10 = .ok (.iload_n 1, 1) := by decide +kernel
theorem dX4_run_11 : decode cX4_run 11 = .ok (.ldc 79, 2) := by decide +kernel
theorem dX4_run_13 : decode cX4_run 13 = .ok (.aload_n 0, 1) := by decide +kernel
theorem dX4_run_14 : decode cX4_run 14 = .ok (.getfield 27, 3) := by decide +kernel
theorem dX4_run_17 : decode cX4_run 17 = .ok (.isub, 1) := by decide +kernel
theorem dX4_run_18 : decode cX4_run 18 = .ok (.if_icmp .le 5, 3) := by decide +kernel
theorem dX4_run_21 : decode cX4_run 21 = .ok (.iconst (-1), 1) := by decide +kernel
theorem dX4_run_22 : decode cX4_run 22 = .ok (.ireturn, 1) := by decide +kernel
theorem dX4_run_23 : decode cX4_run 23 = .ok (.aload_n 0, 1) := by decide +kernel
theorem dX4_run_24 : decode cX4_run 24 = .ok (.iconst 0, 1) := by decide +kernel
theorem dX4_run_25 : decode cX4_run 25 = .ok (.putfield 80, 3) := by decide +kernel
theorem dX4_run_28 : decode cX4_run 28 = .ok (.iload_n 1, 1) := by decide +kernel
theorem dX4_run_29 : decode cX4_run 29 = .ok (.istore_n 2, 1) := by decide +kernel
theorem dX4_run_30 : decode cX4_run 30 = .ok (.iload_n 2, 1) := by decide +kernel
theorem dX4_run_31 : decode cX4_run 31 = .ok (.ifCond .le 47, 3) := by decide +kernel
theorem dX4_run_34 : decode cX4_run 34 = .ok (.aload_n 0, 1) := by decide +kernel
theorem dX4_run_35 : decode cX4_run 35 = .ok (.getfield 27, 3) := by decide +kernel
theorem dX4_run_38 : decode cX4_run 38 = .ok (.aload_n 0, 1) := by decide +kernel
theorem dX4_run_39 : decode cX4_run 39 = .ok (.getfield 83, 3) := by decide +kernel
theorem dX4_run_42 : decode cX4_run 42 = .ok (.if_icmp .lt 7, 3) := by decide +kernel
theorem dX4_run_45 : decode cX4_run 45 = .ok (.aload_n 0, 1) := by decide +kernel
theorem dX4_run_46 : decode cX4_run 46 = .ok (.invokevirtual 86, 3) := by decide +kernel
theorem dX4_run_49 : decode cX4_run 49 = .ok (.aload_n 0, 1) := by decide +kernel
theorem dX4_run_50 : decode cX4_run 50 = .ok (.invokevirtual 89, 3) := by decide +kernel
theorem dX4_run_53 : decode cX4_run 53 = .ok (.iconst 1, 1) := by decide +kernel
theorem dX4_run_54 : decode cX4_run 54 = .ok (.iload_n 2, 1) := by decide +kernel
theorem dX4_run_55 : decode cX4_run 55 = .ok (.aload_n 0, 1) := by decide +kernel
theorem dX4_run_56 : decode cX4_run 56 = .ok (.invokevirtual 92, 3) := by decide +kernel
theorem dX4_run_59 : decode cX4_run 59 = .ok (.invokestatic 96, 3) := by decide +kernel
theorem dX4_run_62 : decode cX4_run 62 = .ok (.invokestatic 102, 3) := by decide +kernel
theorem dX4_run_65 : decode cX4_run 65 = .ok (.istore_n 3, 1) := by decide +kernel
theorem dX4_run_66 : decode cX4_run 66 = .ok (.aload_n 0, 1) := by decide +kernel
theorem dX4_run_67 : decode cX4_run 67 = .ok (.iload_n 3, 1) := by decide +kernel
theorem dX4_run_68 : decode cX4_run 68 = .ok (.invokevirtual 105, 3) := by decide +kernel
theorem dX4_run_71 : decode cX4_run 71 = .ok (.iload_n 2, 1) := by decide +kernel
theorem dX4_run_72 : decode cX4_run 72 = .ok (.iload_n 3, 1) := by decide +kernel
theorem dX4_run_73 : decode cX4_run 73 = .ok (.isub, 1) := by decide +kernel
theorem dX4_run_74 : decode cX4_run 74 = .ok (.istore_n 2, 1) := by decide +kernel
theorem dX4_run_75 : decode cX4_run 75 = .ok (.goto (-45), 3) := by decide +kernel
theorem dX4_run_78 : decode cX4_run 78 = .ok (.aload_n 0, 1) := by decide +kernel
theorem dX4_run_79 : decode cX4_run 79 = .ok (.getfield 80, 3) := by decide +kernel
theorem dX4_run_82 : decode cX4_run 82 = .ok (.ireturn, 1) := by decide +kernel
set_option maxRecDepth 20000 in
theorem ggX4_event_X4_within : GoodIn wsX4_event wsX4_within := goodIn_r _ [6] (by decide +kernel) (by decide +kernel)
set_option maxRecDepth 20000 in
theorem gX4_event_X4_within : GoodIn wsX4_event (va_wsS RX4 31 yX4_within wsX4_within) := goodIn_app (goodIn_of _ (by decide +kernel)) ggX4_event_X4_within
theorem dX4_event_0 : decode cX4_event 0 = .ok (.iload_n 1, 1) := by decide +kernel
theorem dX4_event_1 : decode cX4_event 1 = .ok (.ifCond .lt 27, 3) := by decide +kernel
theorem dX4_event_4 : decode cX4_event 4 = .ok (.iload_n 1, 1) := by decide +kernel
theorem dX4_event_5 : decode cX4_event 5 = .ok (.aload_n 0, 1) := by decide +kernel
theorem dX4_event_6 : decode cX4_event 6 = .ok (.getfield 80, 3) := by decide +kernel
theorem dX4_event_9 : decode cX4_event 9 = .ok (.if_icmp .ge 19, 3) := by decide +kernel
theorem dX4_event_12 : decode cX4_event 12 = .ok (.iload_n 1, 1) := by decide +kernel
theorem dX4_event_13 : decode cX4_event 13 = .ok (.sipush 1000, 3) := by decide +kernel
theorem dX4_event_16 : decode cX4_event 16 = .ok (.if_icmp .ge 12, 3) := by decide +kernel
theorem dX4_event_19 : decode cX4_event 19 = .ok (.iload_n 2, 1) := by decide +kernel
theorem dX4_event_20 : decode cX4_event 20 = .ok (.iconst 0, 1) := by decide +kernel
theorem dX4_event_21 : decode cX4_event 21 = .ok (.iconst 2, 1) := by decide +kernel
theorem dX4_event_22 : decode cX4_event 22 = .ok (.invokestatic 31, 3) := by decide +kernel
theorem dX4_event_25 : decode cX4_event 25 = .ok (.ifCond .ne 5, 3) := by decide +kernel
theorem dX4_event_28 : decode cX4_event 28 = .ok (.iconst (-1), 1) := by decide +kernel
theorem dX4_event_29 : decode cX4_event 29 = .ok (.ireturn, 1) := by decide +kernel
theorem dX4_event_30 : decode cX4_event 30 = .ok (.aload_n 0, 1) := by decide +kernel
theorem dX4_event_31 : decode cX4_event 31 = .ok (.getfield 9, 3) := by decide +kernel
theorem dX4_event_34 : decode cX4_event 34 = .ok (.iload_n 1, 1) := by decide +kernel
theorem dX4_event_35 : decode cX4_event 35 = .ok (.iconst 3, 1) := by decide +kernel
theorem dX4_event_36 : decode cX4_event 36 = .ok (.imul, 1) := by decide +kernel
theorem dX4_event_37 : decode cX4_event 37 = .ok (.iload_n 2, 1) := by decide +kernel
theorem dX4_event_38 : decode cX4_event 38 = .ok (.iadd, 1) := by decide +kernel
theorem dX4_event_39 : decode cX4_event 39 = .ok (.iaload, 1) := by decide +kernel
theorem dX4_event_40 : decode cX4_event 40 = .ok (.ireturn, 1) := by decide +kernel
theorem dX4_made_0 : decode cX4_made 0 = .ok (.aload_n 0, 1) := by decide +kernel
theorem dX4_made_1 : decode cX4_made 1 = .ok (.getfield 109, 3) := by decide +kernel
theorem dX4_made_4 : decode cX4_made 4 = .ok (.lreturn, 1) := by decide +kernel
theorem dX4_inside_0 : decode cX4_inside 0 = .ok (.lconst 0, 1) := by decide +kernel
theorem dX4_inside_1 : decode cX4_inside 1 = .ok (.lstore_n 1, 1) := by decide +kernel
theorem dX4_inside_2 : decode cX4_inside 2 = .ok (.aload_n 0, 1) := by decide +kernel
theorem dX4_inside_3 : decode cX4_inside 3 = .ok (.getfield 38, 3) := by decide +kernel
theorem dX4_inside_6 : decode cX4_inside 6 = .ok (.astore_n 3, 1) := by decide +kernel
theorem dX4_inside_7 : decode cX4_inside 7 = .ok (.aload_n 3, 1) := by decide +kernel
theorem dX4_inside_8 : decode cX4_inside 8 = .ok (.ifnull 33, 3) := by decide +kernel
theorem dX4_inside_11 : decode cX4_inside 11 = .ok (.lload_n 1, 1) := by decide +kernel
theorem dX4_inside_12 : decode cX4_inside 12 = .ok (.aload_n 3, 1) := by decide +kernel
theorem dX4_inside_13 : decode cX4_inside 13 = .ok (.getfield 48, 3) := by decide +kernel
theorem dX4_inside_16 : decode cX4_inside 16 = .ok (.getfield 112, 3) := by decide +kernel
theorem dX4_inside_19 : decode cX4_inside 19 = .ok (.i2l, 1) := by decide +kernel
theorem dX4_inside_20 : decode cX4_inside 20 = .ok (.ladd, 1) := by decide +kernel
theorem dX4_inside_21 : decode cX4_inside 21 = .ok (.lstore_n 1, 1) := by decide +kernel
theorem dX4_inside_22 : decode cX4_inside 22 = .ok (.aload_n 3, 1) := by decide +kernel
theorem dX4_inside_23 : decode cX4_inside 23 = .ok (.getfield 115, 3) := by decide +kernel
theorem dX4_inside_26 : decode cX4_inside 26 = .ok (.ifCond .eq 7, 3) := by decide +kernel
theorem dX4_inside_29 : decode cX4_inside 29 = .ok (.lload_n 1, 1) := by decide +kernel
theorem dX4_inside_30 : decode cX4_inside 30 = .ok (.lconst 1, 1) := by decide +kernel
theorem dX4_inside_31 : decode cX4_inside 31 = .ok (.ladd, 1) := by decide +kernel
theorem dX4_inside_32 : decode cX4_inside 32 = .ok (.lstore_n 1, 1) := by decide +kernel
theorem dX4_inside_33 : decode cX4_inside 33 = .ok (.aload_n 3, 1) := by decide +kernel
theorem dX4_inside_34 : decode cX4_inside 34 = .ok (.getfield 118, 3) := by decide +kernel
theorem dX4_inside_37 : decode cX4_inside 37 = .ok (.astore_n 3, 1) := by decide +kernel
theorem dX4_inside_38 : decode cX4_inside 38 = .ok (.goto (-31), 3) := by decide +kernel
theorem dX4_inside_41 : decode cX4_inside 41 = .ok (.lload_n 1, 1) := by decide +kernel
theorem dX4_inside_42 : decode cX4_inside 42 = .ok (.lreturn, 1) := by decide +kernel
set_option maxRecDepth 20000 in
theorem ggX4_lost_X4_known : GoodIn wsX4_lost wsX4_known := goodIn_r _ [8, 9, 10, 11, 12, 13, 14, 7, 15, 16, 17, 18, 41, 42, 43, 44, 45, 46, 47, 48, 49, 50, 51, 52, 53, 54, 55, 56, 57, 25, 26, 27, 28, 29, 30, 31, 32, 33, 34, 35, 36, 37, 38, 39, 40] (by decide +kernel) (by decide +kernel)
set_option maxRecDepth 20000 in
theorem gX4_lost_X4_known : GoodIn wsX4_lost (wsV RX4 121 RX4 yX4_known wsX4_known) := goodIn_app (goodIn_of _ (by decide +kernel)) ggX4_lost_X4_known
set_option maxRecDepth 20000 in
theorem ggX4_lost_X4_isCause : GoodIn wsX4_lost wsX4_isCause := goodIn_r _ [21, 22, 23, 7, 24] (by decide +kernel) (by decide +kernel)
set_option maxRecDepth 20000 in
theorem gX4_lost_X4_isCause : GoodIn wsX4_lost (va_wsS RX4 124 yX4_isCause wsX4_isCause) := goodIn_app (goodIn_of _ (by decide +kernel)) ggX4_lost_X4_isCause
theorem dX4_lost_0 : decode cX4_lost 0 = .ok (.aload_n 0, 1) := by decide +kernel
theorem dX4_lost_1 : decode cX4_lost 1 = .ok (.iload_n 1, 1) := by decide +kernel
theorem dX4_lost_2 : decode cX4_lost 2 = .ok (.invokevirtual 121, 3) := by decide +kernel
theorem dX4_lost_5 : decode cX4_lost 5 = .ok (.astore_n 3, 1) := by decide +kernel
theorem dX4_lost_6 : decode cX4_lost 6 = .ok (.iload_n 2, 1) := by decide +kernel
theorem dX4_lost_7 : decode cX4_lost 7 = .ok (.invokestatic 124, 3) := by decide +kernel
theorem dX4_lost_10 : decode cX4_lost 10 = .ok (.ifCond .eq 18, 3) := by decide +kernel
theorem dX4_lost_13 : decode cX4_lost 13 = .ok (.aload_n 3, 1) := by decide +kernel
theorem dX4_lost_14 : decode cX4_lost 14 = .ok (.getfield 128, 3) := by decide +kernel
theorem dX4_lost_17 : decode cX4_lost 17 = .ok (.iload_n 2, 1) := by decide +kernel
theorem dX4_lost_18 : decode cX4_lost 18 = .ok (.laload, 1) := by decide +kernel
theorem dX4_lost_19 : decode cX4_lost 19 = .ok (.aload_n 3, 1) := by decide +kernel
theorem dX4_lost_20 : decode cX4_lost 20 = .ok (.getfield 132, 3) := by decide +kernel
theorem dX4_lost_23 : decode cX4_lost 23 = .ok (.i2l, 1) := by decide +kernel
theorem dX4_lost_24 : decode cX4_lost 24 = .ok (.ldiv, 1) := by decide +kernel
theorem dX4_lost_25 : decode cX4_lost 25 = .ok (.goto 6, 3) := by decide +kernel
theorem dX4_lost_28 : decode cX4_lost 28 = .ok (.ldc2_w 135, 3) := by decide +kernel
theorem dX4_lost_31 : decode cX4_lost 31 = .ok (.lreturn, 1) := by decide +kernel
set_option maxRecDepth 20000 in
theorem ggX4_rejected_X4_known : GoodIn wsX4_rejected wsX4_known := goodIn_r _ [6, 7, 8, 9, 10, 11, 12, 5, 13, 14, 15, 16, 33, 34, 35, 36, 37, 38, 39, 40, 41, 42, 43, 44, 45, 46, 47, 48, 49, 17, 18, 19, 20, 21, 22, 23, 24, 25, 26, 27, 28, 29, 30, 31, 32] (by decide +kernel) (by decide +kernel)
set_option maxRecDepth 20000 in
theorem gX4_rejected_X4_known : GoodIn wsX4_rejected (wsV RX4 121 RX4 yX4_known wsX4_known) := goodIn_app (goodIn_of _ (by decide +kernel)) ggX4_rejected_X4_known
theorem dX4_rejected_0 : decode cX4_rejected 0 = .ok (.aload_n 0, 1) := by decide +kernel
theorem dX4_rejected_1 : decode cX4_rejected 1 = .ok (.iload_n 1, 1) := by decide +kernel
theorem dX4_rejected_2 : decode cX4_rejected 2 = .ok (.invokevirtual 121, 3) := by decide +kernel
theorem dX4_rejected_5 : decode cX4_rejected 5 = .ok (.getfield 137, 3) := by decide +kernel
theorem dX4_rejected_8 : decode cX4_rejected 8 = .ok (.lreturn, 1) := by decide +kernel
set_option maxRecDepth 20000 in
theorem ggX4_change_X4_within : GoodIn wsX4_change wsX4_within := goodIn_r _ [6] (by decide +kernel) (by decide +kernel)
set_option maxRecDepth 20000 in
theorem gX4_change_X4_within : GoodIn wsX4_change (va_wsS RX4 31 yX4_within wsX4_within) := goodIn_app (goodIn_of _ (by decide +kernel)) ggX4_change_X4_within
set_option maxRecDepth 20000 in
theorem ggX4_change_X4_addRow : GoodIn wsX4_change wsX4_addRow := goodIn_r _ [10, 11, 12, 2, 13, 14, 15, 16, 17, 18, 19, 20, 21, 22, 23, 24, 25, 26, 27, 28, 29, 30, 31, 32, 33, 34, 35, 36, 37, 38, 39, 40, 41, 42, 43, 44] (by decide +kernel) (by decide +kernel)
set_option maxRecDepth 20000 in
theorem gX4_change_X4_addRow : GoodIn wsX4_change (wsV RX4 75 RX4 yX4_addRow wsX4_addRow) := goodIn_app (goodIn_of _ (by decide +kernel)) ggX4_change_X4_addRow
theorem dX4_change_0 : decode cX4_change 0 = .ok (.iload_n 2, 1) := by decide +kernel
theorem dX4_change_1 : decode cX4_change 1 = .ok (.iconst 1, 1) := by decide +kernel
theorem dX4_change_2 : decode cX4_change 2 = .ok (.ldc 140, 2) := by decide +kernel
theorem dX4_change_4 : decode cX4_change 4 = .ok (.invokestatic 31, 3) := by decide +kernel
theorem dX4_change_7 : decode cX4_change 7 = .ok (.ifCond .eq 28, 3) := by decide +kernel
theorem dX4_change_10 : decode cX4_change 10 = .ok (.iload_n 1, 1) := by decide +kernel
theorem dX4_change_11 : decode cX4_change 11 = .ok (.ldc 79, 2) := by decide +kernel
theorem dX4_change_13 : decode cX4_change 13 = .ok (.iload_n 2, 1) := by decide +kernel
theorem dX4_change_14 : decode cX4_change 14 = .ok (.isub, 1) := by decide +kernel
theorem dX4_change_15 : decode cX4_change 15 = .ok (.if_icmp .gt 20, 3) := by decide +kernel
theorem dX4_change_18 : decode cX4_change 18 = .ok (.aload_n 0, 1) := by decide +kernel
theorem dX4_change_19 : decode cX4_change 19 = .ok (.iconst (-1), 1) := by decide +kernel
theorem dX4_change_20 : decode cX4_change 20 = .ok (.iload_n 1, 1) := by decide +kernel
theorem dX4_change_21 : decode cX4_change 21 = .ok (.iload_n 1, 1) := by decide +kernel
theorem dX4_change_22 : decode cX4_change 22 = .ok (.iload_n 2, 1) := by decide +kernel
theorem dX4_change_23 : decode cX4_change 23 = .ok (.iadd, 1) := by decide +kernel
theorem dX4_change_24 : decode cX4_change 24 = .ok (.iconst 1, 1) := by decide +kernel
theorem dX4_change_25 : decode cX4_change 25 = .ok (.invokevirtual 75, 3) := by decide +kernel
theorem dX4_change_28 : decode cX4_change 28 = .ok (.ifCond .eq 7, 3) := by decide +kernel
theorem dX4_change_31 : decode cX4_change 31 = .ok (.iconst 1, 1) := by decide +kernel
theorem dX4_change_32 : decode cX4_change 32 = .ok (.goto 4, 3) := by decide +kernel
theorem dX4_change_35 : decode cX4_change 35 = .ok (.iconst 0, 1) := by decide +kernel
theorem dX4_change_36 : decode cX4_change 36 = .ok (.ireturn, 1) := by decide +kernel
set_option maxRecDepth 20000 in
theorem ggX4_rest_X4_addRow : GoodIn wsX4_rest wsX4_addRow := goodIn_r _ [5, 6, 7, 8, 9, 10, 11, 12, 13, 14, 15, 16, 17, 18, 19, 20, 21, 22, 23, 24, 25, 26, 27, 28, 29, 30, 31, 32, 33, 34, 35, 36, 37, 38, 39, 40] (by decide +kernel) (by decide +kernel)
set_option maxRecDepth 20000 in
theorem gX4_rest_X4_addRow : GoodIn wsX4_rest (wsV RX4 75 RX4 yX4_addRow wsX4_addRow) := goodIn_app (goodIn_of _ (by decide +kernel)) ggX4_rest_X4_addRow
theorem dX4_rest_0 : decode cX4_rest 0 = .ok (.aload_n 0, 1) := by decide +kernel
theorem dX4_rest_1 : decode cX4_rest 1 = .ok (.iconst (-1), 1) := by decide +kernel
theorem dX4_rest_2 : decode cX4_rest 2 = .ok (.iload_n 1, 1) := by decide +kernel
theorem dX4_rest_3 : decode cX4_rest 3 = .ok (.iload_n 2, 1) := by decide +kernel
theorem dX4_rest_4 : decode cX4_rest 4 = .ok (.iconst 2, 1) := by decide +kernel
theorem dX4_rest_5 : decode cX4_rest 5 = .ok (.invokevirtual 75, 3) := by decide +kernel
theorem dX4_rest_8 : decode cX4_rest 8 = .ok (.ireturn, 1) := by decide +kernel
set_option maxRecDepth 20000 in
theorem ggX4_time_X4_known : GoodIn wsX4_time wsX4_known := goodIn_r _ [7, 8, 9, 10, 11, 12, 13, 6, 14, 15, 16, 17, 40, 41, 42, 43, 44, 45, 46, 47, 48, 49, 50, 51, 52, 53, 54, 55, 56, 24, 25, 26, 27, 28, 29, 30, 31, 32, 33, 34, 35, 36, 37, 38, 39] (by decide +kernel) (by decide +kernel)
set_option maxRecDepth 20000 in
theorem gX4_time_X4_known : GoodIn wsX4_time (wsV RX4 121 RX4 yX4_known wsX4_known) := goodIn_app (goodIn_of _ (by decide +kernel)) ggX4_time_X4_known
set_option maxRecDepth 20000 in
theorem ggX4_time_X4_isCause : GoodIn wsX4_time wsX4_isCause := goodIn_r _ [20, 21, 22, 6, 23] (by decide +kernel) (by decide +kernel)
set_option maxRecDepth 20000 in
theorem gX4_time_X4_isCause : GoodIn wsX4_time (va_wsS RX4 124 yX4_isCause wsX4_isCause) := goodIn_app (goodIn_of _ (by decide +kernel)) ggX4_time_X4_isCause
theorem dX4_time_0 : decode cX4_time 0 = .ok (.aload_n 0, 1) := by decide +kernel
theorem dX4_time_1 : decode cX4_time 1 = .ok (.iload_n 1, 1) := by decide +kernel
theorem dX4_time_2 : decode cX4_time 2 = .ok (.invokevirtual 121, 3) := by decide +kernel
theorem dX4_time_5 : decode cX4_time 5 = .ok (.astore_n 3, 1) := by decide +kernel
theorem dX4_time_6 : decode cX4_time 6 = .ok (.iload_n 2, 1) := by decide +kernel
theorem dX4_time_7 : decode cX4_time 7 = .ok (.invokestatic 124, 3) := by decide +kernel
theorem dX4_time_10 : decode cX4_time 10 = .ok (.ifCond .eq 12, 3) := by decide +kernel
theorem dX4_time_13 : decode cX4_time 13 = .ok (.aload_n 3, 1) := by decide +kernel
theorem dX4_time_14 : decode cX4_time 14 = .ok (.getfield 128, 3) := by decide +kernel
theorem dX4_time_17 : decode cX4_time 17 = .ok (.iload_n 2, 1) := by decide +kernel
theorem dX4_time_18 : decode cX4_time 18 = .ok (.laload, 1) := by decide +kernel
theorem dX4_time_19 : decode cX4_time 19 = .ok (.goto 6, 3) := by decide +kernel
theorem dX4_time_22 : decode cX4_time 22 = .ok (.ldc2_w 135, 3) := by decide +kernel
theorem dX4_time_25 : decode cX4_time 25 = .ok (.lreturn, 1) := by decide +kernel
set_option maxRecDepth 20000 in
theorem ggX4_kept_X4_inside : GoodIn wsX4_kept wsX4_inside := goodIn_r _ [11, 2, 12, 13, 14, 5, 21, 22, 23, 24, 25, 26, 27, 28, 29, 30, 31, 32, 33, 34, 35, 36, 37, 38, 39, 40, 41, 42, 43, 44, 45, 46, 47, 48, 49, 50, 51, 52] (by decide +kernel) (by decide +kernel)
set_option maxRecDepth 20000 in
theorem gX4_kept_X4_inside : GoodIn wsX4_kept (wsV RX4 141 RX4 yX4_inside wsX4_inside) := goodIn_app (goodIn_of _ (by decide +kernel)) ggX4_kept_X4_inside
set_option maxRecDepth 20000 in
theorem ggX4_kept_X2_allTimes : GoodIn wsX4_kept wsX2_allTimes := goodIn_r _ [19, 20, 32, 33, 34, 35, 36, 37, 38, 39, 40, 41, 42, 43, 44, 45, 46, 47] (by decide +kernel) (by decide +kernel)
set_option maxRecDepth 20000 in
theorem gX4_kept_X2_allTimes : GoodIn wsX4_kept (wsV RX4 145 RX2 yX2_allTimes wsX2_allTimes) := goodIn_app (goodIn_of _ (by decide +kernel)) ggX4_kept_X2_allTimes
theorem dX4_kept_0 : decode cX4_kept 0 = .ok (.aload_n 0, 1) := by decide +kernel
theorem dX4_kept_1 : decode cX4_kept 1 = .ok (.getfield 109, 3) := by decide +kernel
theorem dX4_kept_4 : decode cX4_kept 4 = .ok (.aload_n 0, 1) := by decide +kernel
theorem dX4_kept_5 : decode cX4_kept 5 = .ok (.invokevirtual 141, 3) := by decide +kernel
theorem dX4_kept_8 : decode cX4_kept 8 = .ok (.ladd, 1) := by decide +kernel
theorem dX4_kept_9 : decode cX4_kept 9 = .ok (.lstore_n 1, 1) := by decide +kernel
theorem dX4_kept_10 : decode cX4_kept 10 = .ok (.aload_n 0, 1) := by decide +kernel
theorem dX4_kept_11 : decode cX4_kept 11 = .ok (.getfield 38, 3) := by decide +kernel
theorem dX4_kept_14 : decode cX4_kept 14 = .ok (.astore_n 3, 1) := by decide +kernel
theorem dX4_kept_15 : decode cX4_kept 15 = .ok (.aload_n 3, 1) := by decide +kernel
theorem dX4_kept_16 : decode cX4_kept 16 = .ok (.ifnull 33, 3) := by decide +kernel
theorem dX4_kept_19 : decode cX4_kept 19 = .ok (.lload_n 1, 1) := by decide +kernel
theorem dX4_kept_20 : decode cX4_kept 20 = .ok (.aload_n 3, 1) := by decide +kernel
theorem dX4_kept_21 : decode cX4_kept 21 = .ok (.getfield 137, 3) := by decide +kernel
theorem dX4_kept_24 : decode cX4_kept 24 = .ok (.ladd, 1) := by decide +kernel
theorem dX4_kept_25 : decode cX4_kept 25 = .ok (.lstore_n 1, 1) := by decide +kernel
theorem dX4_kept_26 : decode cX4_kept 26 = .ok (.aload_n 3, 1) := by decide +kernel
theorem dX4_kept_27 : decode cX4_kept 27 = .ok (.invokevirtual 145, 3) := by decide +kernel
theorem dX4_kept_30 : decode cX4_kept 30 = .ok (.aload_n 0, 1) := by decide +kernel
theorem dX4_kept_31 : decode cX4_kept 31 = .ok (.getfield 27, 3) := by decide +kernel
theorem dX4_kept_34 : decode cX4_kept 34 = .ok (.i2l, 1) := by decide +kernel
theorem dX4_kept_35 : decode cX4_kept 35 = .ok (.lcmp, 1) := by decide +kernel
theorem dX4_kept_36 : decode cX4_kept 36 = .ok (.ifCond .eq 5, 3) := by decide +kernel
end
section
theorem dX4_kept_39 : decode cX4_kept 39 = .ok (.iconst 0, 1) := by decide +kernel
theorem dX4_kept_40 : decode cX4_kept 40 = .ok (.ireturn, 1) := by decide +kernel
theorem dX4_kept_41 : decode cX4_kept 41 = .ok (.aload_n 3, 1) := by decide +kernel
theorem dX4_kept_42 : decode cX4_kept 42 = .ok (.getfield 118, 3) := by decide +kernel
theorem dX4_kept_45 : decode cX4_kept 45 = .ok (.astore_n 3, 1) := by decide +kernel
theorem dX4_kept_46 : decode cX4_kept 46 = .ok (.goto (-31), 3) := by decide +kernel
theorem dX4_kept_49 : decode cX4_kept 49 = .ok (.lload_n 1, 1) := by decide +kernel
theorem dX4_kept_50 : decode cX4_kept 50 = .ok (.aload_n 0, 1) := by decide +kernel
theorem dX4_kept_51 : decode cX4_kept 51 = .ok (.getfield 148, 3) := by decide +kernel
theorem dX4_kept_54 : decode cX4_kept 54 = .ok (.lcmp, 1) := by decide +kernel
theorem dX4_kept_55 : decode cX4_kept 55 = .ok (.ifCond .ne 7, 3) := by decide +kernel
theorem dX4_kept_58 : decode cX4_kept 58 = .ok (.iconst 1, 1) := by decide +kernel
theorem dX4_kept_59 : decode cX4_kept 59 = .ok (.goto 4, 3) := by decide +kernel
theorem dX4_kept_62 : decode cX4_kept 62 = .ok (.iconst 0, 1) := by decide +kernel
theorem dX4_kept_63 : decode cX4_kept 63 = .ok (.ireturn, 1) := by decide +kernel
theorem dX4_within_0 : decode cX4_within 0 = .ok (.iload_n 0, 1) := by decide +kernel
theorem dX4_within_1 : decode cX4_within 1 = .ok (.iload_n 1, 1) := by decide +kernel
theorem dX4_within_2 : decode cX4_within 2 = .ok (.if_icmp .lt 12, 3) := by decide +kernel
theorem dX4_within_5 : decode cX4_within 5 = .ok (.iload_n 0, 1) := by decide +kernel
theorem dX4_within_6 : decode cX4_within 6 = .ok (.iload_n 2, 1) := by decide +kernel
theorem dX4_within_7 : decode cX4_within 7 = .ok (.if_icmp .gt 7, 3) := by decide +kernel
theorem dX4_within_10 : decode cX4_within 10 = .ok (.iconst 1, 1) := by decide +kernel
theorem dX4_within_11 : decode cX4_within 11 = .ok (.goto 4, 3) := by decide +kernel
theorem dX4_within_14 : decode cX4_within 14 = .ok (.iconst 0, 1) := by decide +kernel
theorem dX4_within_15 : decode cX4_within 15 = .ok (.ireturn, 1) := by decide +kernel
set_option maxRecDepth 20000 in
theorem ggX4_isCause_X4_within : GoodIn wsX4_isCause wsX4_within := goodIn_r _ [4] (by decide +kernel) (by decide +kernel)
set_option maxRecDepth 20000 in
theorem gX4_isCause_X4_within : GoodIn wsX4_isCause (va_wsS RX4 31 yX4_within wsX4_within) := goodIn_app (goodIn_of _ (by decide +kernel)) ggX4_isCause_X4_within
theorem dX4_isCause_0 : decode cX4_isCause 0 = .ok (.iload_n 0, 1) := by decide +kernel
theorem dX4_isCause_1 : decode cX4_isCause 1 = .ok (.iconst 0, 1) := by decide +kernel
theorem dX4_isCause_2 : decode cX4_isCause 2 = .ok (.bipush 11, 2) := by decide +kernel
theorem dX4_isCause_4 : decode cX4_isCause 4 = .ok (.invokestatic 31, 3) := by decide +kernel
theorem dX4_isCause_7 : decode cX4_isCause 7 = .ok (.ireturn, 1) := by decide +kernel
theorem dX4_find_0 : decode cX4_find 0 = .ok (.aload_n 0, 1) := by decide +kernel
theorem dX4_find_1 : decode cX4_find 1 = .ok (.getfield 38, 3) := by decide +kernel
theorem dX4_find_4 : decode cX4_find 4 = .ok (.astore_n 2, 1) := by decide +kernel
theorem dX4_find_5 : decode cX4_find 5 = .ok (.aload_n 2, 1) := by decide +kernel
theorem dX4_find_6 : decode cX4_find 6 = .ok (.ifnull 21, 3) := by decide +kernel
theorem dX4_find_9 : decode cX4_find 9 = .ok (.aload_n 2, 1) := by decide +kernel
theorem dX4_find_10 : decode cX4_find 10 = .ok (.getfield 45, 3) := by decide +kernel
theorem dX4_find_13 : decode cX4_find 13 = .ok (.iload_n 1, 1) := by decide +kernel
theorem dX4_find_14 : decode cX4_find 14 = .ok (.if_icmp .ne 5, 3) := by decide +kernel
theorem dX4_find_17 : decode cX4_find 17 = .ok (.aload_n 2, 1) := by decide +kernel
theorem dX4_find_18 : decode cX4_find 18 = .ok (.areturn, 1) := by decide +kernel
theorem dX4_find_19 : decode cX4_find 19 = .ok (.aload_n 2, 1) := by decide +kernel
theorem dX4_find_20 : decode cX4_find 20 = .ok (.getfield 118, 3) := by decide +kernel
theorem dX4_find_23 : decode cX4_find 23 = .ok (.astore_n 2, 1) := by decide +kernel
theorem dX4_find_24 : decode cX4_find 24 = .ok (.goto (-19), 3) := by decide +kernel
theorem dX4_find_27 : decode cX4_find 27 = .ok (.aconst_null, 1) := by decide +kernel
theorem dX4_find_28 : decode cX4_find 28 = .ok (.areturn, 1) := by decide +kernel
set_option maxRecDepth 20000 in
theorem ggX4_known_X4_find : GoodIn wsX4_known wsX4_find := goodIn_r _ [8, 9, 10, 11, 18, 19, 20, 21, 22, 23, 24, 25, 26, 27, 28, 29, 30, 31, 32, 33, 34, 35, 36, 37, 38, 39, 40, 41, 42, 43, 44] (by decide +kernel) (by decide +kernel)
set_option maxRecDepth 20000 in
theorem gX4_known_X4_find : GoodIn wsX4_known (wsV RX4 17 RX4 yX4_find wsX4_find) := goodIn_app (goodIn_of _ (by decide +kernel)) ggX4_known_X4_find
theorem dX4_known_0 : decode cX4_known 0 = .ok (.aload_n 0, 1) := by decide +kernel
theorem dX4_known_1 : decode cX4_known 1 = .ok (.iload_n 1, 1) := by decide +kernel
theorem dX4_known_2 : decode cX4_known 2 = .ok (.invokevirtual 17, 3) := by decide +kernel
theorem dX4_known_5 : decode cX4_known 5 = .ok (.astore_n 2, 1) := by decide +kernel
theorem dX4_known_6 : decode cX4_known 6 = .ok (.aload_n 2, 1) := by decide +kernel
theorem dX4_known_7 : decode cX4_known 7 = .ok (.ifnonnull 13, 3) := by decide +kernel
theorem dX4_known_10 : decode cX4_known 10 = .ok (.new 151, 3) := by decide +kernel
theorem dX4_known_13 : decode cX4_known 13 = .ok (.dup, 1) := by decide +kernel
theorem dX4_known_14 : decode cX4_known 14 = .ok (.ldc 153, 2) := by decide +kernel
theorem dX4_known_16 : decode cX4_known 16 = .ok (.invokespecial 155, 3) := by decide +kernel
theorem dX4_known_19 : decode cX4_known 19 = .ok (.athrow, 1) := by decide +kernel
theorem dX4_known_20 : decode cX4_known 20 = .ok (.aload_n 2, 1) := by decide +kernel
theorem dX4_known_21 : decode cX4_known 21 = .ok (.areturn, 1) := by decide +kernel
set_option maxRecDepth 20000 in
theorem ggX4_addRow_X3_init : GoodIn wsX4_addRow wsX3_init := goodIn_r _ [11, 12, 13, 14, 15, 16, 17, 18, 19, 31, 32, 33, 34, 35] (by decide +kernel) (by decide +kernel)
set_option maxRecDepth 20000 in
theorem gX4_addRow_X3_init : GoodIn wsX4_addRow (wsX3_init) := ggX4_addRow_X3_init
theorem dX4_addRow_0 : decode cX4_addRow 0 = .ok (.aload_n 0, 1) := by decide +kernel
theorem dX4_addRow_1 : decode cX4_addRow 1 = .ok (.getfield 158, 3) := by decide +kernel
theorem dX4_addRow_4 : decode cX4_addRow 4 = .ok (.bipush 64, 2) := by decide +kernel
theorem dX4_addRow_6 : decode cX4_addRow 6 = .ok (.if_icmp .ge 22, 3) := by decide +kernel
theorem dX4_addRow_9 : decode cX4_addRow 9 = .ok (.iload_n 2, 1) := by decide +kernel
theorem dX4_addRow_10 : decode cX4_addRow 10 = .ok (.aload_n 0, 1) := by decide +kernel
theorem dX4_addRow_11 : decode cX4_addRow 11 = .ok (.getfield 27, 3) := by decide +kernel
theorem dX4_addRow_14 : decode cX4_addRow 14 = .ok (.if_icmp .lt 14, 3) := by decide +kernel
theorem dX4_addRow_17 : decode cX4_addRow 17 = .ok (.iload_n 3, 1) := by decide +kernel
theorem dX4_addRow_18 : decode cX4_addRow 18 = .ok (.iload_n 2, 1) := by decide +kernel
theorem dX4_addRow_19 : decode cX4_addRow 19 = .ok (.if_icmp .le 9, 3) := by decide +kernel
theorem dX4_addRow_22 : decode cX4_addRow 22 = .ok (.iload_n 3, 1) := by decide +kernel
theorem dX4_addRow_23 : decode cX4_addRow 23 = .ok (.ldc 79, 2) := by decide +kernel
theorem dX4_addRow_25 : decode cX4_addRow 25 = .ok (.if_icmp .le 5, 3) := by decide +kernel
theorem dX4_addRow_28 : decode cX4_addRow 28 = .ok (.iconst 0, 1) := by decide +kernel
theorem dX4_addRow_29 : decode cX4_addRow 29 = .ok (.ireturn, 1) := by decide +kernel
theorem dX4_addRow_30 : decode cX4_addRow 30 = .ok (.aload_n 0, 1) := by decide +kernel
theorem dX4_addRow_31 : decode cX4_addRow 31 = .ok (.new 161, 3) := by decide +kernel
theorem dX4_addRow_34 : decode cX4_addRow 34 = .ok (.dup, 1) := by decide +kernel
theorem dX4_addRow_35 : decode cX4_addRow 35 = .ok (.iload_n 1, 1) := by decide +kernel
theorem dX4_addRow_36 : decode cX4_addRow 36 = .ok (.iload_n 2, 1) := by decide +kernel
theorem dX4_addRow_37 : decode cX4_addRow 37 = .ok (.iload_n 3, 1) := by decide +kernel
theorem dX4_addRow_38 : decode cX4_addRow 38 = .ok (.iload 4, 2) := by decide +kernel
theorem dX4_addRow_40 : decode cX4_addRow 40 = .ok (.aload_n 0, 1) := by decide +kernel
theorem dX4_addRow_41 : decode cX4_addRow 41 = .ok (.getfield 163, 3) := by decide +kernel
theorem dX4_addRow_44 : decode cX4_addRow 44 = .ok (.invokespecial 167, 3) := by decide +kernel
theorem dX4_addRow_47 : decode cX4_addRow 47 = .ok (.putfield 163, 3) := by decide +kernel
theorem dX4_addRow_50 : decode cX4_addRow 50 = .ok (.aload_n 0, 1) := by decide +kernel
theorem dX4_addRow_51 : decode cX4_addRow 51 = .ok (.dup, 1) := by decide +kernel
theorem dX4_addRow_52 : decode cX4_addRow 52 = .ok (.getfield 158, 3) := by decide +kernel
theorem dX4_addRow_55 : decode cX4_addRow 55 = .ok (.iconst 1, 1) := by decide +kernel
theorem dX4_addRow_56 : decode cX4_addRow 56 = .ok (.iadd, 1) := by decide +kernel
theorem dX4_addRow_57 : decode cX4_addRow 57 = .ok (.putfield 158, 3) := by decide +kernel
theorem dX4_addRow_60 : decode cX4_addRow 60 = .ok (.aload_n 0, 1) := by decide +kernel
theorem dX4_addRow_61 : decode cX4_addRow 61 = .ok (.aload_n 0, 1) := by decide +kernel
theorem dX4_addRow_62 : decode cX4_addRow 62 = .ok (.getfield 27, 3) := by decide +kernel
theorem dX4_addRow_65 : decode cX4_addRow 65 = .ok (.putfield 83, 3) := by decide +kernel
theorem dX4_addRow_68 : decode cX4_addRow 68 = .ok (.iconst 1, 1) := by decide +kernel
theorem dX4_addRow_69 : decode cX4_addRow 69 = .ok (.ireturn, 1) := by decide +kernel
set_option maxRecDepth 20000 in
theorem ggX4_lookAtRows_X4_rowCauseOf : GoodIn wsX4_lookAtRows wsX4_rowCauseOf := goodIn_r _ [18, 7, 8, 19, 13, 20, 21, 22, 23, 24, 25, 26, 27, 33, 34, 35, 36, 37, 38, 39, 40, 41, 42, 43, 60, 61, 62, 63, 64] (by decide +kernel) (by decide +kernel)
set_option maxRecDepth 20000 in
theorem gX4_lookAtRows_X4_rowCauseOf : GoodIn wsX4_lookAtRows (wsV RX4 170 RX4 yX4_rowCauseOf wsX4_rowCauseOf) := goodIn_app (goodIn_of _ (by decide +kernel)) ggX4_lookAtRows_X4_rowCauseOf
set_option maxRecDepth 20000 in
theorem ggX4_lookAtRows_X3_turnBehind : GoodIn wsX4_lookAtRows wsX3_turnBehind := goodIn_r _ [31, 26, 27, 32, 60, 61, 62, 63, 64] (by decide +kernel) (by decide +kernel)
set_option maxRecDepth 20000 in
theorem gX4_lookAtRows_X3_turnBehind : GoodIn wsX4_lookAtRows (wsV RX4 177 RX3 yX3_turnBehind wsX3_turnBehind) := goodIn_app (goodIn_of _ (by decide +kernel)) ggX4_lookAtRows_X3_turnBehind
theorem dX4_lookAtRows_0 : decode cX4_lookAtRows 0 = .ok (.aload_n 0, 1) := by decide +kernel
theorem dX4_lookAtRows_1 : decode cX4_lookAtRows 1 = .ok (.getfield 38, 3) := by decide +kernel
theorem dX4_lookAtRows_4 : decode cX4_lookAtRows 4 = .ok (.astore_n 1, 1) := by decide +kernel
theorem dX4_lookAtRows_5 : decode cX4_lookAtRows 5 = .ok (.aload_n 1, 1) := by decide +kernel
theorem dX4_lookAtRows_6 : decode cX4_lookAtRows 6 = .ok (.ifnull 23, 3) := by decide +kernel
theorem dX4_lookAtRows_9 : decode cX4_lookAtRows 9 = .ok (.aload_n 1, 1) := by decide +kernel
theorem dX4_lookAtRows_10 : decode cX4_lookAtRows 10 = .ok (.aload_n 0, 1) := by decide +kernel
theorem dX4_lookAtRows_11 : decode cX4_lookAtRows 11 = .ok (.aload_n 1, 1) := by decide +kernel
theorem dX4_lookAtRows_12 : decode cX4_lookAtRows 12 = .ok (.getfield 45, 3) := by decide +kernel
theorem dX4_lookAtRows_15 : decode cX4_lookAtRows 15 = .ok (.invokevirtual 170, 3) := by decide +kernel
theorem dX4_lookAtRows_18 : decode cX4_lookAtRows 18 = .ok (.putfield 174, 3) := by decide +kernel
theorem dX4_lookAtRows_21 : decode cX4_lookAtRows 21 = .ok (.aload_n 1, 1) := by decide +kernel
theorem dX4_lookAtRows_22 : decode cX4_lookAtRows 22 = .ok (.getfield 118, 3) := by decide +kernel
theorem dX4_lookAtRows_25 : decode cX4_lookAtRows 25 = .ok (.astore_n 1, 1) := by decide +kernel
theorem dX4_lookAtRows_26 : decode cX4_lookAtRows 26 = .ok (.goto (-21), 3) := by decide +kernel
theorem dX4_lookAtRows_29 : decode cX4_lookAtRows 29 = .ok (.aload_n 0, 1) := by decide +kernel
theorem dX4_lookAtRows_30 : decode cX4_lookAtRows 30 = .ok (.ldc 79, 2) := by decide +kernel
theorem dX4_lookAtRows_32 : decode cX4_lookAtRows 32 = .ok (.putfield 83, 3) := by decide +kernel
theorem dX4_lookAtRows_35 : decode cX4_lookAtRows 35 = .ok (.aload_n 0, 1) := by decide +kernel
theorem dX4_lookAtRows_36 : decode cX4_lookAtRows 36 = .ok (.getfield 163, 3) := by decide +kernel
theorem dX4_lookAtRows_39 : decode cX4_lookAtRows 39 = .ok (.astore_n 1, 1) := by decide +kernel
theorem dX4_lookAtRows_40 : decode cX4_lookAtRows 40 = .ok (.aload_n 1, 1) := by decide +kernel
theorem dX4_lookAtRows_41 : decode cX4_lookAtRows 41 = .ok (.ifnull 30, 3) := by decide +kernel
theorem dX4_lookAtRows_44 : decode cX4_lookAtRows 44 = .ok (.aload_n 0, 1) := by decide +kernel
theorem dX4_lookAtRows_45 : decode cX4_lookAtRows 45 = .ok (.aload_n 0, 1) := by decide +kernel
theorem dX4_lookAtRows_46 : decode cX4_lookAtRows 46 = .ok (.getfield 83, 3) := by decide +kernel
theorem dX4_lookAtRows_49 : decode cX4_lookAtRows 49 = .ok (.aload_n 1, 1) := by decide +kernel
theorem dX4_lookAtRows_50 : decode cX4_lookAtRows 50 = .ok (.aload_n 0, 1) := by decide +kernel
theorem dX4_lookAtRows_51 : decode cX4_lookAtRows 51 = .ok (.getfield 27, 3) := by decide +kernel
theorem dX4_lookAtRows_54 : decode cX4_lookAtRows 54 = .ok (.invokevirtual 177, 3) := by decide +kernel
theorem dX4_lookAtRows_57 : decode cX4_lookAtRows 57 = .ok (.invokestatic 96, 3) := by decide +kernel
theorem dX4_lookAtRows_60 : decode cX4_lookAtRows 60 = .ok (.putfield 83, 3) := by decide +kernel
theorem dX4_lookAtRows_63 : decode cX4_lookAtRows 63 = .ok (.aload_n 1, 1) := by decide +kernel
theorem dX4_lookAtRows_64 : decode cX4_lookAtRows 64 = .ok (.getfield 180, 3) := by decide +kernel
theorem dX4_lookAtRows_67 : decode cX4_lookAtRows 67 = .ok (.astore_n 1, 1) := by decide +kernel
theorem dX4_lookAtRows_68 : decode cX4_lookAtRows 68 = .ok (.goto (-28), 3) := by decide +kernel
theorem dX4_lookAtRows_71 : decode cX4_lookAtRows 71 = .ok (.return_, 1) := by decide +kernel
set_option maxRecDepth 20000 in
theorem ggX4_rowCauseOf_X3_holds : GoodIn wsX4_rowCauseOf wsX3_holds := goodIn_r _ [9, 10, 11, 12, 24, 25, 26, 27, 28] (by decide +kernel) (by decide +kernel)
set_option maxRecDepth 20000 in
theorem gX4_rowCauseOf_X3_holds : GoodIn wsX4_rowCauseOf (wsV RX4 183 RX3 yX3_holds wsX3_holds) := goodIn_app (goodIn_of _ (by decide +kernel)) ggX4_rowCauseOf_X3_holds
theorem dX4_rowCauseOf_0 : decode cX4_rowCauseOf 0 = .ok (.iconst (-1), 1) := by decide +kernel
theorem dX4_rowCauseOf_1 : decode cX4_rowCauseOf 1 = .ok (.istore_n 2, 1) := by decide +kernel
theorem dX4_rowCauseOf_2 : decode cX4_rowCauseOf 2 = .ok (.aload_n 0, 1) := by decide +kernel
theorem dX4_rowCauseOf_3 : decode cX4_rowCauseOf 3 = .ok (.getfield 163, 3) := by decide +kernel
theorem dX4_rowCauseOf_6 : decode cX4_rowCauseOf 6 = .ok (.astore_n 3, 1) := by decide +kernel
theorem dX4_rowCauseOf_7 : decode cX4_rowCauseOf 7 = .ok (.aload_n 3, 1) := by decide +kernel
theorem dX4_rowCauseOf_8 : decode cX4_rowCauseOf 8 = .ok (.ifnull 28, 3) := by decide +kernel
theorem dX4_rowCauseOf_11 : decode cX4_rowCauseOf 11 = .ok (.aload_n 3, 1) := by decide +kernel
theorem dX4_rowCauseOf_12 : decode cX4_rowCauseOf 12 = .ok (.iload_n 1, 1) := by decide +kernel
theorem dX4_rowCauseOf_13 : decode cX4_rowCauseOf 13 = .ok (.aload_n 0, 1) := by decide +kernel
theorem dX4_rowCauseOf_14 : decode cX4_rowCauseOf 14 = .ok (.getfield 27, 3) := by decide +kernel
theorem dX4_rowCauseOf_17 : decode cX4_rowCauseOf 17 = .ok (.invokevirtual 183, 3) := by decide +kernel
theorem dX4_rowCauseOf_20 : decode cX4_rowCauseOf 20 = .ok (.ifCond .eq 8, 3) := by decide +kernel
theorem dX4_rowCauseOf_23 : decode cX4_rowCauseOf 23 = .ok (.aload_n 3, 1) := by decide +kernel
theorem dX4_rowCauseOf_24 : decode cX4_rowCauseOf 24 = .ok (.getfield 187, 3) := by decide +kernel
theorem dX4_rowCauseOf_27 : decode cX4_rowCauseOf 27 = .ok (.istore_n 2, 1) := by decide +kernel
theorem dX4_rowCauseOf_28 : decode cX4_rowCauseOf 28 = .ok (.aload_n 3, 1) := by decide +kernel
theorem dX4_rowCauseOf_29 : decode cX4_rowCauseOf 29 = .ok (.getfield 180, 3) := by decide +kernel
theorem dX4_rowCauseOf_32 : decode cX4_rowCauseOf 32 = .ok (.astore_n 3, 1) := by decide +kernel
theorem dX4_rowCauseOf_33 : decode cX4_rowCauseOf 33 = .ok (.goto (-26), 3) := by decide +kernel
theorem dX4_rowCauseOf_36 : decode cX4_rowCauseOf 36 = .ok (.iload_n 2, 1) := by decide +kernel
theorem dX4_rowCauseOf_37 : decode cX4_rowCauseOf 37 = .ok (.ireturn, 1) := by decide +kernel
set_option maxRecDepth 20000 in
theorem ggX4_actAll_X2_stands : GoodIn wsX4_actAll wsX2_stands := goodIn_r _ [8, 9, 10, 115, 116, 117, 118, 119, 120, 121, 122, 123, 124, 125, 126, 127, 128, 129, 130] (by decide +kernel) (by decide +kernel)
set_option maxRecDepth 20000 in
theorem gX4_actAll_X2_stands : GoodIn wsX4_actAll (wsV RX4 190 RX2 yX2_stands wsX2_stands) := goodIn_app (goodIn_of _ (by decide +kernel)) ggX4_actAll_X2_stands
set_option maxRecDepth 20000 in
theorem ggX4_actAll_X4_act : GoodIn wsX4_actAll wsX4_act := goodIn_r _ [15, 16, 2, 17, 18, 19, 20, 7, 21, 22, 23, 24, 25, 26, 27, 14, 28, 29, 30, 31, 32, 33, 34, 35, 36, 37, 38, 39, 40, 41, 42, 43, 44, 45, 46, 47, 48, 49, 50, 51, 52, 53, 54, 55, 56, 57, 58, 59, 60, 61, 62, 4, 5, 6, 8, 9, 10, 63, 64, 65, 66, 67, 68, 69, 70, 71, 72, 73, 74, 75, 76, 77, 78, 79, 80, 81, 82, 83, 84, 85, 86, 87, 88, 89, 90, 91, 92, 93, 94, 95, 96, 97, 98, 99, 100, 101, 102, 103, 115, 116, 117, 118, 119, 120, 121, 122, 123, 124, 125, 126, 127, 128, 129, 130, 104, 105, 106, 107, 108, 109, 110, 111, 112, 113, 114, 131, 132, 133, 134, 135, 136, 137, 138, 139] (by decide +kernel) (by decide +kernel)
set_option maxRecDepth 20000 in
theorem gX4_actAll_X4_act : GoodIn wsX4_actAll (wsV RX4 193 RX4 yX4_act wsX4_act) := goodIn_app (goodIn_of _ (by decide +kernel)) ggX4_actAll_X4_act
theorem dX4_actAll_0 : decode cX4_actAll 0 = .ok (.aload_n 0, 1) := by decide +kernel
theorem dX4_actAll_1 : decode cX4_actAll 1 = .ok (.getfield 38, 3) := by decide +kernel
theorem dX4_actAll_4 : decode cX4_actAll 4 = .ok (.astore_n 1, 1) := by decide +kernel
theorem dX4_actAll_5 : decode cX4_actAll 5 = .ok (.aload_n 1, 1) := by decide +kernel
theorem dX4_actAll_6 : decode cX4_actAll 6 = .ok (.ifnull 27, 3) := by decide +kernel
theorem dX4_actAll_9 : decode cX4_actAll 9 = .ok (.aload_n 1, 1) := by decide +kernel
theorem dX4_actAll_10 : decode cX4_actAll 10 = .ok (.aload_n 0, 1) := by decide +kernel
theorem dX4_actAll_11 : decode cX4_actAll 11 = .ok (.getfield 27, 3) := by decide +kernel
theorem dX4_actAll_14 : decode cX4_actAll 14 = .ok (.invokevirtual 190, 3) := by decide +kernel
theorem dX4_actAll_17 : decode cX4_actAll 17 = .ok (.ifCond .ne 8, 3) := by decide +kernel
theorem dX4_actAll_20 : decode cX4_actAll 20 = .ok (.aload_n 0, 1) := by decide +kernel
theorem dX4_actAll_21 : decode cX4_actAll 21 = .ok (.aload_n 1, 1) := by decide +kernel
theorem dX4_actAll_22 : decode cX4_actAll 22 = .ok (.invokevirtual 193, 3) := by decide +kernel
theorem dX4_actAll_25 : decode cX4_actAll 25 = .ok (.aload_n 1, 1) := by decide +kernel
theorem dX4_actAll_26 : decode cX4_actAll 26 = .ok (.getfield 118, 3) := by decide +kernel
theorem dX4_actAll_29 : decode cX4_actAll 29 = .ok (.astore_n 1, 1) := by decide +kernel
theorem dX4_actAll_30 : decode cX4_actAll 30 = .ok (.goto (-25), 3) := by decide +kernel
theorem dX4_actAll_33 : decode cX4_actAll 33 = .ok (.return_, 1) := by decide +kernel
set_option maxRecDepth 20000 in
theorem ggX4_act_X2_isDone : GoodIn wsX4_act wsX2_isDone := goodIn_r _ [8, 9, 10, 11, 98, 99, 100, 101, 102, 103, 104, 105, 106, 107, 108, 109, 110, 111, 112, 113] (by decide +kernel) (by decide +kernel)
set_option maxRecDepth 20000 in
theorem gX4_act_X2_isDone : GoodIn wsX4_act (wsV RX4 197 RX2 yX2_isDone wsX2_isDone) := goodIn_app (goodIn_of _ (by decide +kernel)) ggX4_act_X2_isDone
set_option maxRecDepth 20000 in
theorem ggX4_act_X4_judge : GoodIn wsX4_act wsX4_judge := goodIn_r _ [16, 17, 18, 19, 20, 21, 22, 23, 24, 25, 1, 2, 26, 27, 28, 29, 15, 30, 31, 32, 33, 34, 35, 36, 37, 38, 39, 40, 41, 7, 42, 9, 43, 10, 44, 45, 46, 47, 48, 49, 50, 98, 99, 100, 101, 102, 103, 104, 105, 106, 107, 108, 109, 110, 111, 112, 113, 125, 126, 127, 128, 114, 115, 116, 117, 118, 119, 120, 121, 122, 123, 124] (by decide +kernel) (by decide +kernel)
set_option maxRecDepth 20000 in
theorem gX4_act_X4_judge : GoodIn wsX4_act (wsV RX4 204 RX4 yX4_judge wsX4_judge) := goodIn_app (goodIn_of _ (by decide +kernel)) ggX4_act_X4_judge
set_option maxRecDepth 20000 in
theorem ggX4_act_X2_stands : GoodIn wsX4_act wsX2_stands := goodIn_r _ [54, 55, 56, 98, 99, 100, 101, 102, 103, 104, 105, 106, 107, 108, 109, 110, 111, 112, 113] (by decide +kernel) (by decide +kernel)
set_option maxRecDepth 20000 in
theorem gX4_act_X2_stands : GoodIn wsX4_act (wsV RX4 190 RX2 yX2_stands wsX2_stands) := goodIn_app (goodIn_of _ (by decide +kernel)) ggX4_act_X2_stands
set_option maxRecDepth 20000 in
theorem ggX4_act_X4_leave : GoodIn wsX4_act wsX4_leave := goodIn_r _ [60, 61, 62, 63, 2, 64, 65, 66, 67, 68, 69, 70, 71, 72, 73, 74, 75, 76, 39, 40, 41, 7, 42, 9, 43, 10, 44, 45, 46, 15, 47, 48, 49, 50, 98, 99, 100, 101, 102, 103, 104, 105, 106, 107, 108, 109, 110, 111, 112, 113, 114, 115, 116, 117, 118, 119, 120, 121, 122, 123, 124, 129, 130, 131, 132, 133] (by decide +kernel) (by decide +kernel)
set_option maxRecDepth 20000 in
theorem gX4_act_X4_leave : GoodIn wsX4_act (wsV RX4 207 RX4 yX4_leave wsX4_leave) := goodIn_app (goodIn_of _ (by decide +kernel)) ggX4_act_X4_leave
set_option maxRecDepth 20000 in
theorem ggX4_act_X4_take : GoodIn wsX4_act wsX4_take := goodIn_r _ [80, 81, 82, 2, 3, 83, 84, 85, 67, 86, 69, 87, 88, 89, 90, 75, 76, 91, 92, 22, 23, 24, 93, 94, 95, 96, 97, 44, 45, 46, 15, 47, 48, 49, 50, 98, 99, 100, 101, 102, 103, 104, 105, 106, 107, 108, 109, 110, 111, 112, 113, 114, 115, 116, 117, 118, 119, 120, 121, 122, 123, 124, 129, 130, 131, 132, 133] (by decide +kernel) (by decide +kernel)
set_option maxRecDepth 20000 in
theorem gX4_act_X4_take : GoodIn wsX4_act (wsV RX4 210 RX4 yX4_take wsX4_take) := goodIn_app (goodIn_of _ (by decide +kernel)) ggX4_act_X4_take
theorem dX4_act_0 : decode cX4_act 0 = .ok (.aload_n 1, 1) := by decide +kernel
theorem dX4_act_1 : decode cX4_act 1 = .ok (.invokevirtual 197, 3) := by decide +kernel
theorem dX4_act_4 : decode cX4_act 4 = .ok (.ifCond .eq 27, 3) := by decide +kernel
theorem dX4_act_7 : decode cX4_act 7 = .ok (.aload_n 1, 1) := by decide +kernel
theorem dX4_act_8 : decode cX4_act 8 = .ok (.getfield 201, 3) := by decide +kernel
theorem dX4_act_11 : decode cX4_act 11 = .ok (.ifCond .ne 20, 3) := by decide +kernel
theorem dX4_act_14 : decode cX4_act 14 = .ok (.aload_n 0, 1) := by decide +kernel
theorem dX4_act_15 : decode cX4_act 15 = .ok (.aload_n 1, 1) := by decide +kernel
theorem dX4_act_16 : decode cX4_act 16 = .ok (.invokevirtual 204, 3) := by decide +kernel
theorem dX4_act_19 : decode cX4_act 19 = .ok (.aload_n 1, 1) := by decide +kernel
theorem dX4_act_20 : decode cX4_act 20 = .ok (.aload_n 0, 1) := by decide +kernel
theorem dX4_act_21 : decode cX4_act 21 = .ok (.getfield 27, 3) := by decide +kernel
theorem dX4_act_24 : decode cX4_act 24 = .ok (.invokevirtual 190, 3) := by decide +kernel
theorem dX4_act_27 : decode cX4_act 27 = .ok (.ifCond .eq 4, 3) := by decide +kernel
theorem dX4_act_30 : decode cX4_act 30 = .ok (.return_, 1) := by decide +kernel
theorem dX4_act_31 : decode cX4_act 31 = .ok (.aload_n 1, 1) := by decide +kernel
theorem dX4_act_32 : decode cX4_act 32 = .ok (.getfield 201, 3) := by decide +kernel
theorem dX4_act_35 : decode cX4_act 35 = .ok (.ifCond .eq 8, 3) := by decide +kernel
theorem dX4_act_38 : decode cX4_act 38 = .ok (.aload_n 0, 1) := by decide +kernel
theorem dX4_act_39 : decode cX4_act 39 = .ok (.aload_n 1, 1) := by decide +kernel
theorem dX4_act_40 : decode cX4_act 40 = .ok (.invokevirtual 207, 3) := by decide +kernel
theorem dX4_act_43 : decode cX4_act 43 = .ok (.aload_n 1, 1) := by decide +kernel
theorem dX4_act_44 : decode cX4_act 44 = .ok (.getfield 115, 3) := by decide +kernel
theorem dX4_act_47 : decode cX4_act 47 = .ok (.ifCond .ne 8, 3) := by decide +kernel
theorem dX4_act_50 : decode cX4_act 50 = .ok (.aload_n 0, 1) := by decide +kernel
theorem dX4_act_51 : decode cX4_act 51 = .ok (.aload_n 1, 1) := by decide +kernel
theorem dX4_act_52 : decode cX4_act 52 = .ok (.invokevirtual 210, 3) := by decide +kernel
theorem dX4_act_55 : decode cX4_act 55 = .ok (.return_, 1) := by decide +kernel
set_option maxRecDepth 20000 in
theorem ggX4_judge_X4_draw : GoodIn wsX4_judge wsX4_draw := goodIn_r _ [17, 18, 19, 20, 61, 62, 63, 64, 65, 66, 67, 68, 69, 70, 71] (by decide +kernel) (by decide +kernel)
set_option maxRecDepth 20000 in
theorem gX4_judge_X4_draw : GoodIn wsX4_judge (wsV RX4 220 RX4 yX4_draw wsX4_draw) := goodIn_app (goodIn_of _ (by decide +kernel)) ggX4_judge_X4_draw
set_option maxRecDepth 20000 in
theorem ggX4_judge_X4_reject : GoodIn wsX4_judge wsX4_reject := goodIn_r _ [24, 25, 26, 27, 28, 29, 30, 31, 32, 33, 34, 35, 36, 16, 37, 38, 39, 11, 40, 41, 42, 43, 44, 45, 46, 47, 48, 49, 50, 51, 52, 53, 54, 55, 56, 61, 62, 63, 64, 65, 66, 67, 68, 69, 70, 71] (by decide +kernel) (by decide +kernel)
set_option maxRecDepth 20000 in
theorem gX4_judge_X4_reject : GoodIn wsX4_judge (wsV RX4 230 RX4 yX4_reject wsX4_reject) := goodIn_app (goodIn_of _ (by decide +kernel)) ggX4_judge_X4_reject
set_option maxRecDepth 20000 in
theorem ggX4_judge_X4_note : GoodIn wsX4_judge wsX4_note := goodIn_r _ [37, 38, 39, 11, 40, 61, 62, 63, 64, 65, 66, 67, 68, 69, 70, 71, 41, 42, 43, 44, 45, 46, 47, 48, 49, 50, 51, 52, 53, 54, 55, 56] (by decide +kernel) (by decide +kernel)
set_option maxRecDepth 20000 in
theorem gX4_judge_X4_note : GoodIn wsX4_judge (wsV RX4 239 RX4 yX4_note wsX4_note) := goodIn_app (goodIn_of _ (by decide +kernel)) ggX4_judge_X4_note
theorem dX4_judge_0 : decode cX4_judge 0 = .ok (.iconst 0, 1) := by decide +kernel
theorem dX4_judge_1 : decode cX4_judge 1 = .ok (.istore_n 2, 1) := by decide +kernel
theorem dX4_judge_2 : decode cX4_judge 2 = .ok (.aload_n 1, 1) := by decide +kernel
theorem dX4_judge_3 : decode cX4_judge 3 = .ok (.getfield 213, 3) := by decide +kernel
theorem dX4_judge_6 : decode cX4_judge 6 = .ok (.astore_n 3, 1) := by decide +kernel
theorem dX4_judge_7 : decode cX4_judge 7 = .ok (.aload_n 3, 1) := by decide +kernel
theorem dX4_judge_8 : decode cX4_judge 8 = .ok (.ifnull 49, 3) := by decide +kernel
theorem dX4_judge_11 : decode cX4_judge 11 = .ok (.aload_n 0, 1) := by decide +kernel
theorem dX4_judge_12 : decode cX4_judge 12 = .ok (.aload_n 3, 1) := by decide +kernel
theorem dX4_judge_13 : decode cX4_judge 13 = .ok (.getfield 217, 3) := by decide +kernel
theorem dX4_judge_16 : decode cX4_judge 16 = .ok (.invokevirtual 220, 3) := by decide +kernel
theorem dX4_judge_19 : decode cX4_judge 19 = .ok (.aload_n 3, 1) := by decide +kernel
theorem dX4_judge_20 : decode cX4_judge 20 = .ok (.getfield 224, 3) := by decide +kernel
theorem dX4_judge_23 : decode cX4_judge 23 = .ok (.lcmp, 1) := by decide +kernel
theorem dX4_judge_24 : decode cX4_judge 24 = .ok (.ifCond .ge 25, 3) := by decide +kernel
theorem dX4_judge_27 : decode cX4_judge 27 = .ok (.aload_n 3, 1) := by decide +kernel
theorem dX4_judge_28 : decode cX4_judge 28 = .ok (.getfield 227, 3) := by decide +kernel
theorem dX4_judge_31 : decode cX4_judge 31 = .ok (.ifCond .ne 9, 3) := by decide +kernel
theorem dX4_judge_34 : decode cX4_judge 34 = .ok (.aload_n 0, 1) := by decide +kernel
theorem dX4_judge_35 : decode cX4_judge 35 = .ok (.aload_n 1, 1) := by decide +kernel
theorem dX4_judge_36 : decode cX4_judge 36 = .ok (.invokevirtual 230, 3) := by decide +kernel
theorem dX4_judge_39 : decode cX4_judge 39 = .ok (.return_, 1) := by decide +kernel
theorem dX4_judge_40 : decode cX4_judge 40 = .ok (.iload_n 2, 1) := by decide +kernel
theorem dX4_judge_41 : decode cX4_judge 41 = .ok (.aload_n 3, 1) := by decide +kernel
theorem dX4_judge_42 : decode cX4_judge 42 = .ok (.getfield 227, 3) := by decide +kernel
theorem dX4_judge_45 : decode cX4_judge 45 = .ok (.invokestatic 102, 3) := by decide +kernel
theorem dX4_judge_48 : decode cX4_judge 48 = .ok (.istore_n 2, 1) := by decide +kernel
theorem dX4_judge_49 : decode cX4_judge 49 = .ok (.aload_n 3, 1) := by decide +kernel
theorem dX4_judge_50 : decode cX4_judge 50 = .ok (.getfield 233, 3) := by decide +kernel
theorem dX4_judge_53 : decode cX4_judge 53 = .ok (.astore_n 3, 1) := by decide +kernel
theorem dX4_judge_54 : decode cX4_judge 54 = .ok (.goto (-47), 3) := by decide +kernel
theorem dX4_judge_57 : decode cX4_judge 57 = .ok (.aload_n 1, 1) := by decide +kernel
theorem dX4_judge_58 : decode cX4_judge 58 = .ok (.iconst 1, 1) := by decide +kernel
theorem dX4_judge_59 : decode cX4_judge 59 = .ok (.putfield 201, 3) := by decide +kernel
theorem dX4_judge_62 : decode cX4_judge 62 = .ok (.iload_n 2, 1) := by decide +kernel
theorem dX4_judge_63 : decode cX4_judge 63 = .ok (.ifCond .le 19, 3) := by decide +kernel
theorem dX4_judge_66 : decode cX4_judge 66 = .ok (.aload_n 1, 1) := by decide +kernel
theorem dX4_judge_67 : decode cX4_judge 67 = .ok (.aload_n 0, 1) := by decide +kernel
theorem dX4_judge_68 : decode cX4_judge 68 = .ok (.getfield 27, 3) := by decide +kernel
theorem dX4_judge_71 : decode cX4_judge 71 = .ok (.iload_n 2, 1) := by decide +kernel
theorem dX4_judge_72 : decode cX4_judge 72 = .ok (.iadd, 1) := by decide +kernel
theorem dX4_judge_73 : decode cX4_judge 73 = .ok (.putfield 236, 3) := by decide +kernel
theorem dX4_judge_76 : decode cX4_judge 76 = .ok (.aload_n 0, 1) := by decide +kernel
theorem dX4_judge_77 : decode cX4_judge 77 = .ok (.aload_n 1, 1) := by decide +kernel
theorem dX4_judge_78 : decode cX4_judge 78 = .ok (.iconst 3, 1) := by decide +kernel
theorem dX4_judge_79 : decode cX4_judge 79 = .ok (.invokevirtual 239, 3) := by decide +kernel
theorem dX4_judge_82 : decode cX4_judge 82 = .ok (.return_, 1) := by decide +kernel
theorem dX4_draw_0 : decode cX4_draw 0 = .ok (.aload_n 0, 1) := by decide +kernel
theorem dX4_draw_1 : decode cX4_draw 1 = .ok (.aload_n 0, 1) := by decide +kernel
theorem dX4_draw_2 : decode cX4_draw 2 = .ok (.getfield 13, 3) := by decide +kernel
theorem dX4_draw_5 : decode cX4_draw 5 = .ok (.ldc2_w 243, 3) := by decide +kernel
theorem dX4_draw_8 : decode cX4_draw 8 = .ok (.lmul, 1) := by decide +kernel
theorem dX4_draw_9 : decode cX4_draw 9 = .ok (.ldc2_w 245, 3) := by decide +kernel
theorem dX4_draw_12 : decode cX4_draw 12 = .ok (.ladd, 1) := by decide +kernel
theorem dX4_draw_13 : decode cX4_draw 13 = .ok (.putfield 13, 3) := by decide +kernel
theorem dX4_draw_16 : decode cX4_draw 16 = .ok (.aload_n 0, 1) := by decide +kernel
theorem dX4_draw_17 : decode cX4_draw 17 = .ok (.getfield 13, 3) := by decide +kernel
theorem dX4_draw_20 : decode cX4_draw 20 = .ok (.bipush 33, 2) := by decide +kernel
theorem dX4_draw_22 : decode cX4_draw 22 = .ok (.lushr, 1) := by decide +kernel
theorem dX4_draw_23 : decode cX4_draw 23 = .ok (.lload_n 1, 1) := by decide +kernel
theorem dX4_draw_24 : decode cX4_draw 24 = .ok (.lrem, 1) := by decide +kernel
theorem dX4_draw_25 : decode cX4_draw 25 = .ok (.lreturn, 1) := by decide +kernel
set_option maxRecDepth 20000 in
theorem ggX4_reject_X2_putAway : GoodIn wsX4_reject wsX2_putAway := goodIn_r _ [6, 7, 8, 9, 19, 20, 21, 22, 23, 24, 25, 26, 27, 28, 29, 30, 31, 32, 33, 34] (by decide +kernel) (by decide +kernel)
set_option maxRecDepth 20000 in
theorem gX4_reject_X2_putAway : GoodIn wsX4_reject (wsV RX4 247 RX2 yX2_putAway wsX2_putAway) := goodIn_app (goodIn_of _ (by decide +kernel)) ggX4_reject_X2_putAway
set_option maxRecDepth 20000 in
theorem ggX4_reject_X4_note : GoodIn wsX4_reject wsX4_note := goodIn_r _ [14, 15, 16, 17, 18, 35, 36, 37, 38, 39, 40, 41, 42, 43, 44, 45, 19, 20, 21, 22, 23, 24, 25, 26, 27, 28, 29, 30, 31, 32, 33, 34] (by decide +kernel) (by decide +kernel)
set_option maxRecDepth 20000 in
theorem gX4_reject_X4_note : GoodIn wsX4_reject (wsV RX4 239 RX4 yX4_note wsX4_note) := goodIn_app (goodIn_of _ (by decide +kernel)) ggX4_reject_X4_note
theorem dX4_reject_0 : decode cX4_reject 0 = .ok (.aload_n 1, 1) := by decide +kernel
theorem dX4_reject_1 : decode cX4_reject 1 = .ok (.invokevirtual 247, 3) := by decide +kernel
theorem dX4_reject_4 : decode cX4_reject 4 = .ok (.aload_n 1, 1) := by decide +kernel
theorem dX4_reject_5 : decode cX4_reject 5 = .ok (.dup, 1) := by decide +kernel
theorem dX4_reject_6 : decode cX4_reject 6 = .ok (.getfield 137, 3) := by decide +kernel
theorem dX4_reject_9 : decode cX4_reject 9 = .ok (.lconst 1, 1) := by decide +kernel
theorem dX4_reject_10 : decode cX4_reject 10 = .ok (.ladd, 1) := by decide +kernel
theorem dX4_reject_11 : decode cX4_reject 11 = .ok (.putfield 137, 3) := by decide +kernel
theorem dX4_reject_14 : decode cX4_reject 14 = .ok (.aload_n 0, 1) := by decide +kernel
theorem dX4_reject_15 : decode cX4_reject 15 = .ok (.aload_n 1, 1) := by decide +kernel
theorem dX4_reject_16 : decode cX4_reject 16 = .ok (.iconst 2, 1) := by decide +kernel
theorem dX4_reject_17 : decode cX4_reject 17 = .ok (.invokevirtual 239, 3) := by decide +kernel
theorem dX4_reject_20 : decode cX4_reject 20 = .ok (.return_, 1) := by decide +kernel
set_option maxRecDepth 20000 in
theorem ggX4_leave_X0_hasRoom : GoodIn wsX4_leave wsX0_hasRoom := goodIn_r _ [9, 10, 11, 61, 62, 63, 64, 65] (by decide +kernel) (by decide +kernel)
set_option maxRecDepth 20000 in
theorem gX4_leave_X0_hasRoom : GoodIn wsX4_leave (wsV RX4 250 RX0 yX0_hasRoom wsX0_hasRoom) := goodIn_app (goodIn_of _ (by decide +kernel)) ggX4_leave_X0_hasRoom
set_option maxRecDepth 20000 in
theorem ggX4_leave_X0_add : GoodIn wsX4_leave wsX0_add := goodIn_r _ [15, 16, 17, 10, 61, 62, 63, 64, 65] (by decide +kernel) (by decide +kernel)
set_option maxRecDepth 20000 in
theorem gX4_leave_X0_add : GoodIn wsX4_leave (wsV RX4 253 RX0 yX0_add wsX0_add) := goodIn_app (goodIn_of _ (by decide +kernel)) ggX4_leave_X0_add
set_option maxRecDepth 20000 in
theorem ggX4_leave_X2_putAway : GoodIn wsX4_leave wsX2_putAway := goodIn_r _ [22, 23, 24, 25, 34, 35, 36, 37, 38, 39, 40, 41, 42, 43, 44, 45, 46, 47, 48, 49] (by decide +kernel) (by decide +kernel)
set_option maxRecDepth 20000 in
theorem gX4_leave_X2_putAway : GoodIn wsX4_leave (wsV RX4 247 RX2 yX2_putAway wsX2_putAway) := goodIn_app (goodIn_of _ (by decide +kernel)) ggX4_leave_X2_putAway
set_option maxRecDepth 20000 in
theorem ggX4_leave_X4_note : GoodIn wsX4_leave wsX4_note := goodIn_r _ [30, 31, 32, 4, 33, 50, 51, 52, 53, 54, 55, 56, 57, 58, 59, 60, 34, 35, 36, 37, 38, 39, 40, 41, 42, 43, 44, 45, 46, 47, 48, 49] (by decide +kernel) (by decide +kernel)
set_option maxRecDepth 20000 in
theorem gX4_leave_X4_note : GoodIn wsX4_leave (wsV RX4 239 RX4 yX4_note wsX4_note) := goodIn_app (goodIn_of _ (by decide +kernel)) ggX4_leave_X4_note
theorem dX4_leave_0 : decode cX4_leave 0 = .ok (.aload_n 1, 1) := by decide +kernel
theorem dX4_leave_1 : decode cX4_leave 1 = .ok (.getfield 21, 3) := by decide +kernel
theorem dX4_leave_4 : decode cX4_leave 4 = .ok (.ifCond .ne 16, 3) := by decide +kernel
theorem dX4_leave_7 : decode cX4_leave 7 = .ok (.aload_n 0, 1) := by decide +kernel
theorem dX4_leave_8 : decode cX4_leave 8 = .ok (.dup, 1) := by decide +kernel
theorem dX4_leave_9 : decode cX4_leave 9 = .ok (.getfield 109, 3) := by decide +kernel
theorem dX4_leave_12 : decode cX4_leave 12 = .ok (.lconst 1, 1) := by decide +kernel
theorem dX4_leave_13 : decode cX4_leave 13 = .ok (.ladd, 1) := by decide +kernel
theorem dX4_leave_14 : decode cX4_leave 14 = .ok (.putfield 109, 3) := by decide +kernel
theorem dX4_leave_17 : decode cX4_leave 17 = .ok (.goto 28, 3) := by decide +kernel
theorem dX4_leave_20 : decode cX4_leave 20 = .ok (.aload_n 1, 1) := by decide +kernel
theorem dX4_leave_21 : decode cX4_leave 21 = .ok (.getfield 48, 3) := by decide +kernel
theorem dX4_leave_24 : decode cX4_leave 24 = .ok (.invokevirtual 250, 3) := by decide +kernel
theorem dX4_leave_27 : decode cX4_leave 27 = .ok (.ifCond .eq 17, 3) := by decide +kernel
theorem dX4_leave_30 : decode cX4_leave 30 = .ok (.aload_n 1, 1) := by decide +kernel
theorem dX4_leave_31 : decode cX4_leave 31 = .ok (.getfield 48, 3) := by decide +kernel
theorem dX4_leave_34 : decode cX4_leave 34 = .ok (.aload_n 0, 1) := by decide +kernel
theorem dX4_leave_35 : decode cX4_leave 35 = .ok (.getfield 27, 3) := by decide +kernel
theorem dX4_leave_38 : decode cX4_leave 38 = .ok (.invokevirtual 253, 3) := by decide +kernel
theorem dX4_leave_41 : decode cX4_leave 41 = .ok (.goto 4, 3) := by decide +kernel
theorem dX4_leave_44 : decode cX4_leave 44 = .ok (.return_, 1) := by decide +kernel
theorem dX4_leave_45 : decode cX4_leave 45 = .ok (.aload_n 1, 1) := by decide +kernel
theorem dX4_leave_46 : decode cX4_leave 46 = .ok (.invokevirtual 247, 3) := by decide +kernel
theorem dX4_leave_49 : decode cX4_leave 49 = .ok (.aload_n 0, 1) := by decide +kernel
theorem dX4_leave_50 : decode cX4_leave 50 = .ok (.aload_n 1, 1) := by decide +kernel
theorem dX4_leave_51 : decode cX4_leave 51 = .ok (.iconst 1, 1) := by decide +kernel
theorem dX4_leave_52 : decode cX4_leave 52 = .ok (.invokevirtual 239, 3) := by decide +kernel
theorem dX4_leave_55 : decode cX4_leave 55 = .ok (.return_, 1) := by decide +kernel
set_option maxRecDepth 20000 in
theorem ggX4_take_X0_isReady : GoodIn wsX4_take wsX0_isReady := goodIn_r _ [9, 10, 11, 12, 13, 8, 14, 15, 16, 17, 18, 19, 20, 21, 22, 62, 63, 64, 65, 66] (by decide +kernel) (by decide +kernel)
set_option maxRecDepth 20000 in
theorem gX4_take_X0_isReady : GoodIn wsX4_take (wsV RX4 259 RX0 yX0_isReady wsX0_isReady) := goodIn_app (goodIn_of _ (by decide +kernel)) ggX4_take_X0_isReady
set_option maxRecDepth 20000 in
theorem ggX4_take_X0_removeFirst : GoodIn wsX4_take wsX0_removeFirst := goodIn_r _ [26, 16, 10, 62, 63, 64, 65, 66] (by decide +kernel) (by decide +kernel)
set_option maxRecDepth 20000 in
theorem gX4_take_X0_removeFirst : GoodIn wsX4_take (wsV RX4 262 RX0 yX0_removeFirst wsX0_removeFirst) := goodIn_app (goodIn_of _ (by decide +kernel)) ggX4_take_X0_removeFirst
set_option maxRecDepth 20000 in
theorem ggX4_take_X4_note : GoodIn wsX4_take wsX4_note := goodIn_r _ [31, 32, 33, 3, 34, 51, 52, 53, 54, 55, 56, 57, 58, 59, 60, 61, 35, 36, 37, 38, 39, 40, 41, 42, 43, 44, 45, 46, 47, 48, 49, 50] (by decide +kernel) (by decide +kernel)
set_option maxRecDepth 20000 in
theorem gX4_take_X4_note : GoodIn wsX4_take (wsV RX4 239 RX4 yX4_note wsX4_note) := goodIn_app (goodIn_of _ (by decide +kernel)) ggX4_take_X4_note
theorem dX4_take_0 : decode cX4_take 0 = .ok (.aload_n 1, 1) := by decide +kernel
theorem dX4_take_1 : decode cX4_take 1 = .ok (.getfield 256, 3) := by decide +kernel
theorem dX4_take_4 : decode cX4_take 4 = .ok (.ifnonnull 16, 3) := by decide +kernel
theorem dX4_take_7 : decode cX4_take 7 = .ok (.aload_n 0, 1) := by decide +kernel
theorem dX4_take_8 : decode cX4_take 8 = .ok (.dup, 1) := by decide +kernel
theorem dX4_take_9 : decode cX4_take 9 = .ok (.getfield 148, 3) := by decide +kernel
theorem dX4_take_12 : decode cX4_take 12 = .ok (.lconst 1, 1) := by decide +kernel
theorem dX4_take_13 : decode cX4_take 13 = .ok (.ladd, 1) := by decide +kernel
theorem dX4_take_14 : decode cX4_take 14 = .ok (.putfield 148, 3) := by decide +kernel
theorem dX4_take_17 : decode cX4_take 17 = .ok (.goto 28, 3) := by decide +kernel
theorem dX4_take_20 : decode cX4_take 20 = .ok (.aload_n 1, 1) := by decide +kernel
theorem dX4_take_21 : decode cX4_take 21 = .ok (.getfield 256, 3) := by decide +kernel
theorem dX4_take_24 : decode cX4_take 24 = .ok (.aload_n 0, 1) := by decide +kernel
theorem dX4_take_25 : decode cX4_take 25 = .ok (.getfield 27, 3) := by decide +kernel
theorem dX4_take_28 : decode cX4_take 28 = .ok (.invokevirtual 259, 3) := by decide +kernel
theorem dX4_take_31 : decode cX4_take 31 = .ok (.ifCond .eq 13, 3) := by decide +kernel
theorem dX4_take_34 : decode cX4_take 34 = .ok (.aload_n 1, 1) := by decide +kernel
theorem dX4_take_35 : decode cX4_take 35 = .ok (.getfield 256, 3) := by decide +kernel
theorem dX4_take_38 : decode cX4_take 38 = .ok (.invokevirtual 262, 3) := by decide +kernel
theorem dX4_take_41 : decode cX4_take 41 = .ok (.goto 4, 3) := by decide +kernel
theorem dX4_take_44 : decode cX4_take 44 = .ok (.return_, 1) := by decide +kernel
theorem dX4_take_45 : decode cX4_take 45 = .ok (.aload_n 1, 1) := by decide +kernel
theorem dX4_take_46 : decode cX4_take 46 = .ok (.iconst 1, 1) := by decide +kernel
theorem dX4_take_47 : decode cX4_take 47 = .ok (.putfield 115, 3) := by decide +kernel
theorem dX4_take_50 : decode cX4_take 50 = .ok (.aload_n 0, 1) := by decide +kernel
theorem dX4_take_51 : decode cX4_take 51 = .ok (.aload_n 1, 1) := by decide +kernel
theorem dX4_take_52 : decode cX4_take 52 = .ok (.iconst 0, 1) := by decide +kernel
theorem dX4_take_53 : decode cX4_take 53 = .ok (.invokevirtual 239, 3) := by decide +kernel
theorem dX4_take_56 : decode cX4_take 56 = .ok (.return_, 1) := by decide +kernel
theorem dX4_note_0 : decode cX4_note 0 = .ok (.aload_n 0, 1) := by decide +kernel
theorem dX4_note_1 : decode cX4_note 1 = .ok (.getfield 80, 3) := by decide +kernel
theorem dX4_note_4 : decode cX4_note 4 = .ok (.sipush 1000, 3) := by decide +kernel
theorem dX4_note_7 : decode cX4_note 7 = .ok (.if_icmp .ge 41, 3) := by decide +kernel
theorem dX4_note_10 : decode cX4_note 10 = .ok (.aload_n 0, 1) := by decide +kernel
theorem dX4_note_11 : decode cX4_note 11 = .ok (.getfield 80, 3) := by decide +kernel
theorem dX4_note_14 : decode cX4_note 14 = .ok (.iconst 3, 1) := by decide +kernel
theorem dX4_note_15 : decode cX4_note 15 = .ok (.imul, 1) := by decide +kernel
theorem dX4_note_16 : decode cX4_note 16 = .ok (.istore_n 3, 1) := by decide +kernel
theorem dX4_note_17 : decode cX4_note 17 = .ok (.aload_n 0, 1) := by decide +kernel
theorem dX4_note_18 : decode cX4_note 18 = .ok (.getfield 9, 3) := by decide +kernel
theorem dX4_note_21 : decode cX4_note 21 = .ok (.iload_n 3, 1) := by decide +kernel
theorem dX4_note_22 : decode cX4_note 22 = .ok (.aload_n 0, 1) := by decide +kernel
theorem dX4_note_23 : decode cX4_note 23 = .ok (.getfield 27, 3) := by decide +kernel
theorem dX4_note_26 : decode cX4_note 26 = .ok (.iastore, 1) := by decide +kernel
theorem dX4_note_27 : decode cX4_note 27 = .ok (.aload_n 0, 1) := by decide +kernel
theorem dX4_note_28 : decode cX4_note 28 = .ok (.getfield 9, 3) := by decide +kernel
theorem dX4_note_31 : decode cX4_note 31 = .ok (.iload_n 3, 1) := by decide +kernel
theorem dX4_note_32 : decode cX4_note 32 = .ok (.iconst 1, 1) := by decide +kernel
theorem dX4_note_33 : decode cX4_note 33 = .ok (.iadd, 1) := by decide +kernel
theorem dX4_note_34 : decode cX4_note 34 = .ok (.aload_n 1, 1) := by decide +kernel
theorem dX4_note_35 : decode cX4_note 35 = .ok (.getfield 45, 3) := by decide +kernel
theorem dX4_note_38 : decode cX4_note 38 = .ok (.iastore, 1) := by decide +kernel
theorem dX4_note_39 : decode cX4_note 39 = .ok (.aload_n 0, 1) := by decide +kernel
theorem dX4_note_40 : decode cX4_note 40 = .ok (.getfield 9, 3) := by decide +kernel
theorem dX4_note_43 : decode cX4_note 43 = .ok (.iload_n 3, 1) := by decide +kernel
theorem dX4_note_44 : decode cX4_note 44 = .ok (.iconst 2, 1) := by decide +kernel
theorem dX4_note_45 : decode cX4_note 45 = .ok (.iadd, 1) := by decide +kernel
theorem dX4_note_46 : decode cX4_note 46 = .ok (.iload_n 2, 1) := by decide +kernel
theorem dX4_note_47 : decode cX4_note 47 = .ok (.iastore, 1) := by decide +kernel
theorem dX4_note_48 : decode cX4_note 48 = .ok (.aload_n 0, 1) := by decide +kernel
theorem dX4_note_49 : decode cX4_note 49 = .ok (.dup, 1) := by decide +kernel
theorem dX4_note_50 : decode cX4_note 50 = .ok (.getfield 80, 3) := by decide +kernel
theorem dX4_note_53 : decode cX4_note 53 = .ok (.iconst 1, 1) := by decide +kernel
theorem dX4_note_54 : decode cX4_note 54 = .ok (.iadd, 1) := by decide +kernel
theorem dX4_note_55 : decode cX4_note 55 = .ok (.putfield 80, 3) := by decide +kernel
theorem dX4_note_58 : decode cX4_note 58 = .ok (.return_, 1) := by decide +kernel
set_option maxRecDepth 20000 in
theorem ggX4_quietTenths_X2_quietTenths : GoodIn wsX4_quietTenths wsX2_quietTenths := goodIn_r _ [13, 14, 15, 16, 17, 18, 19, 20, 21, 12, 22, 23, 24, 25, 26, 27, 28, 29, 30, 31, 32, 33, 34, 35, 6, 36, 37, 49, 50, 51, 52, 53, 54, 55, 56, 57, 58, 59, 60, 61, 62, 63, 64, 65, 66, 67, 68, 69] (by decide +kernel) (by decide +kernel)
set_option maxRecDepth 20000 in
theorem gX4_quietTenths_X2_quietTenths : GoodIn wsX4_quietTenths (wsV RX4 265 RX2 yX2_quietTenths wsX2_quietTenths) := goodIn_app (goodIn_of _ (by decide +kernel)) ggX4_quietTenths_X2_quietTenths
theorem dX4_quietTenths_0 : decode cX4_quietTenths 0 = .ok (.aload_n 0, 1) := by decide +kernel
theorem dX4_quietTenths_1 : decode cX4_quietTenths 1 = .ok (.getfield 83, 3) := by decide +kernel
theorem dX4_quietTenths_4 : decode cX4_quietTenths 4 = .ok (.aload_n 0, 1) := by decide +kernel
theorem dX4_quietTenths_5 : decode cX4_quietTenths 5 = .ok (.getfield 27, 3) := by decide +kernel
theorem dX4_quietTenths_8 : decode cX4_quietTenths 8 = .ok (.isub, 1) := by decide +kernel
theorem dX4_quietTenths_9 : decode cX4_quietTenths 9 = .ok (.istore_n 1, 1) := by decide +kernel
theorem dX4_quietTenths_10 : decode cX4_quietTenths 10 = .ok (.aload_n 0, 1) := by decide +kernel
theorem dX4_quietTenths_11 : decode cX4_quietTenths 11 = .ok (.getfield 38, 3) := by decide +kernel
theorem dX4_quietTenths_14 : decode cX4_quietTenths 14 = .ok (.astore_n 2, 1) := by decide +kernel
theorem dX4_quietTenths_15 : decode cX4_quietTenths 15 = .ok (.aload_n 2, 1) := by decide +kernel
theorem dX4_quietTenths_16 : decode cX4_quietTenths 16 = .ok (.ifnull 24, 3) := by decide +kernel
theorem dX4_quietTenths_19 : decode cX4_quietTenths 19 = .ok (.iload_n 1, 1) := by decide +kernel
theorem dX4_quietTenths_20 : decode cX4_quietTenths 20 = .ok (.aload_n 2, 1) := by decide +kernel
theorem dX4_quietTenths_21 : decode cX4_quietTenths 21 = .ok (.aload_n 0, 1) := by decide +kernel
theorem dX4_quietTenths_22 : decode cX4_quietTenths 22 = .ok (.getfield 27, 3) := by decide +kernel
theorem dX4_quietTenths_25 : decode cX4_quietTenths 25 = .ok (.invokevirtual 265, 3) := by decide +kernel
theorem dX4_quietTenths_28 : decode cX4_quietTenths 28 = .ok (.invokestatic 96, 3) := by decide +kernel
theorem dX4_quietTenths_31 : decode cX4_quietTenths 31 = .ok (.istore_n 1, 1) := by decide +kernel
theorem dX4_quietTenths_32 : decode cX4_quietTenths 32 = .ok (.aload_n 2, 1) := by decide +kernel
theorem dX4_quietTenths_33 : decode cX4_quietTenths 33 = .ok (.getfield 118, 3) := by decide +kernel
theorem dX4_quietTenths_36 : decode cX4_quietTenths 36 = .ok (.astore_n 2, 1) := by decide +kernel
theorem dX4_quietTenths_37 : decode cX4_quietTenths 37 = .ok (.goto (-22), 3) := by decide +kernel
theorem dX4_quietTenths_40 : decode cX4_quietTenths 40 = .ok (.iload_n 1, 1) := by decide +kernel
theorem dX4_quietTenths_41 : decode cX4_quietTenths 41 = .ok (.ireturn, 1) := by decide +kernel
set_option maxRecDepth 20000 in
theorem ggX4_passTime_X2_causeAt : GoodIn wsX4_passTime wsX2_causeAt := goodIn_r _ [8, 9, 10, 11, 12, 13, 30, 31, 32, 33, 34, 35, 36, 37, 38, 39, 40, 41, 42, 43, 44, 45] (by decide +kernel) (by decide +kernel)
set_option maxRecDepth 20000 in
theorem gX4_passTime_X2_causeAt : GoodIn wsX4_passTime (wsV RX4 267 RX2 yX2_causeAt wsX2_causeAt) := goodIn_app (goodIn_of _ (by decide +kernel)) ggX4_passTime_X2_causeAt
set_option maxRecDepth 20000 in
theorem ggX4_passTime_X2_spend : GoodIn wsX4_passTime wsX2_spend := goodIn_r _ [17, 18, 12, 30, 31, 32, 33, 34, 35, 36, 37, 38, 39, 40, 41, 42, 43, 44, 45] (by decide +kernel) (by decide +kernel)
set_option maxRecDepth 20000 in
theorem gX4_passTime_X2_spend : GoodIn wsX4_passTime (wsV RX4 270 RX2 yX2_spend wsX2_spend) := goodIn_app (goodIn_of _ (by decide +kernel)) ggX4_passTime_X2_spend
theorem dX4_passTime_0 : decode cX4_passTime 0 = .ok (.aload_n 0, 1) := by decide +kernel
theorem dX4_passTime_1 : decode cX4_passTime 1 = .ok (.getfield 38, 3) := by decide +kernel
theorem dX4_passTime_4 : decode cX4_passTime 4 = .ok (.astore_n 2, 1) := by decide +kernel
theorem dX4_passTime_5 : decode cX4_passTime 5 = .ok (.aload_n 2, 1) := by decide +kernel
theorem dX4_passTime_6 : decode cX4_passTime 6 = .ok (.ifnull 24, 3) := by decide +kernel
theorem dX4_passTime_9 : decode cX4_passTime 9 = .ok (.aload_n 2, 1) := by decide +kernel
theorem dX4_passTime_10 : decode cX4_passTime 10 = .ok (.aload_n 2, 1) := by decide +kernel
theorem dX4_passTime_11 : decode cX4_passTime 11 = .ok (.aload_n 0, 1) := by decide +kernel
theorem dX4_passTime_12 : decode cX4_passTime 12 = .ok (.getfield 27, 3) := by decide +kernel
theorem dX4_passTime_15 : decode cX4_passTime 15 = .ok (.invokevirtual 267, 3) := by decide +kernel
theorem dX4_passTime_18 : decode cX4_passTime 18 = .ok (.iload_n 1, 1) := by decide +kernel
theorem dX4_passTime_19 : decode cX4_passTime 19 = .ok (.invokevirtual 270, 3) := by decide +kernel
theorem dX4_passTime_22 : decode cX4_passTime 22 = .ok (.aload_n 2, 1) := by decide +kernel
theorem dX4_passTime_23 : decode cX4_passTime 23 = .ok (.getfield 118, 3) := by decide +kernel
theorem dX4_passTime_26 : decode cX4_passTime 26 = .ok (.astore_n 2, 1) := by decide +kernel
theorem dX4_passTime_27 : decode cX4_passTime 27 = .ok (.goto (-22), 3) := by decide +kernel
theorem dX4_passTime_30 : decode cX4_passTime 30 = .ok (.aload_n 0, 1) := by decide +kernel
theorem dX4_passTime_31 : decode cX4_passTime 31 = .ok (.dup, 1) := by decide +kernel
theorem dX4_passTime_32 : decode cX4_passTime 32 = .ok (.getfield 27, 3) := by decide +kernel
theorem dX4_passTime_35 : decode cX4_passTime 35 = .ok (.iload_n 1, 1) := by decide +kernel
theorem dX4_passTime_36 : decode cX4_passTime 36 = .ok (.iadd, 1) := by decide +kernel
theorem dX4_passTime_37 : decode cX4_passTime 37 = .ok (.putfield 27, 3) := by decide +kernel
theorem dX4_passTime_40 : decode cX4_passTime 40 = .ok (.return_, 1) := by decide +kernel
theorem dX5_init_0 : decode cX5_init 0 = .ok (.aload_n 0, 1) := by decide +kernel
theorem dX5_init_1 : decode cX5_init 1 = .ok (.invokespecial 1, 3) := by decide +kernel
theorem dX5_init_4 : decode cX5_init 4 = .ok (.aload_n 0, 1) := by decide +kernel
theorem dX5_init_5 : decode cX5_init 5 = .ok (.bipush 12, 2) := by decide +kernel
theorem dX5_init_7 : decode cX5_init 7 = .ok (.newarray .int, 2) := by decide +kernel
theorem dX5_init_9 : decode cX5_init 9 = .ok (.putfield 9, 3) := by decide +kernel
theorem dX5_init_12 : decode cX5_init 12 = .ok (.aload_n 0, 1) := by decide +kernel
theorem dX5_init_13 : decode cX5_init 13 = .ok (.bipush 12, 2) := by decide +kernel
theorem dX5_init_15 : decode cX5_init 15 = .ok (.newarray .int, 2) := by decide +kernel
theorem dX5_init_17 : decode cX5_init 17 = .ok (.putfield 13, 3) := by decide +kernel
theorem dX5_init_20 : decode cX5_init 20 = .ok (.aload_n 0, 1) := by decide +kernel
theorem dX5_init_21 : decode cX5_init 21 = .ok (.bipush 12, 2) := by decide +kernel
theorem dX5_init_23 : decode cX5_init 23 = .ok (.newarray .int, 2) := by decide +kernel
theorem dX5_init_25 : decode cX5_init 25 = .ok (.putfield 16, 3) := by decide +kernel
theorem dX5_init_28 : decode cX5_init 28 = .ok (.aload_n 0, 1) := by decide +kernel
theorem dX5_init_29 : decode cX5_init 29 = .ok (.bipush 12, 2) := by decide +kernel
theorem dX5_init_31 : decode cX5_init 31 = .ok (.newarray .int, 2) := by decide +kernel
theorem dX5_init_33 : decode cX5_init 33 = .ok (.putfield 19, 3) := by decide +kernel
theorem dX5_init_36 : decode cX5_init 36 = .ok (.aload_n 0, 1) := by decide +kernel
theorem dX5_init_37 : decode cX5_init 37 = .ok (.bipush 12, 2) := by decide +kernel
theorem dX5_init_39 : decode cX5_init 39 = .ok (.newarray .int, 2) := by decide +kernel
theorem dX5_init_41 : decode cX5_init 41 = .ok (.putfield 22, 3) := by decide +kernel
theorem dX5_init_44 : decode cX5_init 44 = .ok (.aload_n 0, 1) := by decide +kernel
theorem dX5_init_45 : decode cX5_init 45 = .ok (.bipush 12, 2) := by decide +kernel
theorem dX5_init_47 : decode cX5_init 47 = .ok (.newarray .int, 2) := by decide +kernel
theorem dX5_init_49 : decode cX5_init 49 = .ok (.putfield 25, 3) := by decide +kernel
theorem dX5_init_52 : decode cX5_init 52 = .ok (.aload_n 0, 1) := by decide +kernel
theorem dX5_init_53 : decode cX5_init 53 = .ok (.bipush 12, 2) := by decide +kernel
theorem dX5_init_55 : decode cX5_init 55 = .ok (.newarray .int, 2) := by decide +kernel
theorem dX5_init_57 : decode cX5_init 57 = .ok (.putfield 28, 3) := by decide +kernel
theorem dX5_init_60 : decode cX5_init 60 = .ok (.aload_n 0, 1) := by decide +kernel
theorem dX5_init_61 : decode cX5_init 61 = .ok (.bipush 12, 2) := by decide +kernel
theorem dX5_init_63 : decode cX5_init 63 = .ok (.newarray .int, 2) := by decide +kernel
theorem dX5_init_65 : decode cX5_init 65 = .ok (.putfield 31, 3) := by decide +kernel
theorem dX5_init_68 : decode cX5_init 68 = .ok (.aload_n 0, 1) := by decide +kernel
theorem dX5_init_69 : decode cX5_init 69 = .ok (.sipush 12000, 3) := by decide +kernel
theorem dX5_init_72 : decode cX5_init 72 = .ok (.newarray .int, 2) := by decide +kernel
theorem dX5_init_74 : decode cX5_init 74 = .ok (.putfield 34, 3) := by decide +kernel
theorem dX5_init_77 : decode cX5_init 77 = .ok (.aload_n 0, 1) := by decide +kernel
theorem dX5_init_78 : decode cX5_init 78 = .ok (.bipush 12, 2) := by decide +kernel
theorem dX5_init_80 : decode cX5_init 80 = .ok (.newarray .int, 2) := by decide +kernel
theorem dX5_init_82 : decode cX5_init 82 = .ok (.putfield 37, 3) := by decide +kernel
theorem dX5_init_85 : decode cX5_init 85 = .ok (.aload_n 0, 1) := by decide +kernel
theorem dX5_init_86 : decode cX5_init 86 = .ok (.bipush 12, 2) := by decide +kernel
theorem dX5_init_88 : decode cX5_init 88 = .ok (.newarray .int, 2) := by decide +kernel
theorem dX5_init_90 : decode cX5_init 90 = .ok (.putfield 40, 3) := by decide +kernel
theorem dX5_init_93 : decode cX5_init 93 = .ok (.aload_n 0, 1) := by decide +kernel
theorem dX5_init_94 : decode cX5_init 94 = .ok (.bipush 48, 2) := by decide +kernel
theorem dX5_init_96 : decode cX5_init 96 = .ok (.newarray .long, 2) := by decide +kernel
theorem dX5_init_98 : decode cX5_init 98 = .ok (.putfield 43, 3) := by decide +kernel
theorem dX5_init_101 : decode cX5_init 101 = .ok (.aload_n 0, 1) := by decide +kernel
theorem dX5_init_102 : decode cX5_init 102 = .ok (.bipush 48, 2) := by decide +kernel
theorem dX5_init_104 : decode cX5_init 104 = .ok (.newarray .long, 2) := by decide +kernel
theorem dX5_init_106 : decode cX5_init 106 = .ok (.putfield 47, 3) := by decide +kernel
theorem dX5_init_109 : decode cX5_init 109 = .ok (.aload_n 0, 1) := by decide +kernel
theorem dX5_init_110 : decode cX5_init 110 = .ok (.bipush 48, 2) := by decide +kernel
theorem dX5_init_112 : decode cX5_init 112 = .ok (.newarray .int, 2) := by decide +kernel
theorem dX5_init_114 : decode cX5_init 114 = .ok (.putfield 50, 3) := by decide +kernel
theorem dX5_init_117 : decode cX5_init 117 = .ok (.aload_n 0, 1) := by decide +kernel
theorem dX5_init_118 : decode cX5_init 118 = .ok (.bipush 12, 2) := by decide +kernel
theorem dX5_init_120 : decode cX5_init 120 = .ok (.newarray .int, 2) := by decide +kernel
theorem dX5_init_122 : decode cX5_init 122 = .ok (.putfield 53, 3) := by decide +kernel
theorem dX5_init_125 : decode cX5_init 125 = .ok (.aload_n 0, 1) := by decide +kernel
theorem dX5_init_126 : decode cX5_init 126 = .ok (.bipush 64, 2) := by decide +kernel
theorem dX5_init_128 : decode cX5_init 128 = .ok (.newarray .int, 2) := by decide +kernel
theorem dX5_init_130 : decode cX5_init 130 = .ok (.putfield 56, 3) := by decide +kernel
theorem dX5_init_133 : decode cX5_init 133 = .ok (.aload_n 0, 1) := by decide +kernel
theorem dX5_init_134 : decode cX5_init 134 = .ok (.bipush 64, 2) := by decide +kernel
theorem dX5_init_136 : decode cX5_init 136 = .ok (.newarray .int, 2) := by decide +kernel
theorem dX5_init_138 : decode cX5_init 138 = .ok (.putfield 59, 3) := by decide +kernel
theorem dX5_init_141 : decode cX5_init 141 = .ok (.aload_n 0, 1) := by decide +kernel
theorem dX5_init_142 : decode cX5_init 142 = .ok (.bipush 64, 2) := by decide +kernel
theorem dX5_init_144 : decode cX5_init 144 = .ok (.newarray .int, 2) := by decide +kernel
theorem dX5_init_146 : decode cX5_init 146 = .ok (.putfield 62, 3) := by decide +kernel
theorem dX5_init_149 : decode cX5_init 149 = .ok (.aload_n 0, 1) := by decide +kernel
theorem dX5_init_150 : decode cX5_init 150 = .ok (.bipush 64, 2) := by decide +kernel
theorem dX5_init_152 : decode cX5_init 152 = .ok (.newarray .int, 2) := by decide +kernel
theorem dX5_init_154 : decode cX5_init 154 = .ok (.putfield 65, 3) := by decide +kernel
theorem dX5_init_157 : decode cX5_init 157 = .ok (.aload_n 0, 1) := by decide +kernel
theorem dX5_init_158 : decode cX5_init 158 = .ok (.sipush 144, 3) := by decide +kernel
theorem dX5_init_161 : decode cX5_init 161 = .ok (.newarray .long, 2) := by decide +kernel
theorem dX5_init_163 : decode cX5_init 163 = .ok (.putfield 68, 3) := by decide +kernel
theorem dX5_init_166 : decode cX5_init 166 = .ok (.aload_n 0, 1) := by decide +kernel
theorem dX5_init_167 : decode cX5_init 167 = .ok (.bipush 12, 2) := by decide +kernel
theorem dX5_init_169 : decode cX5_init 169 = .ok (.newarray .long, 2) := by decide +kernel
theorem dX5_init_171 : decode cX5_init 171 = .ok (.putfield 71, 3) := by decide +kernel
theorem dX5_init_174 : decode cX5_init 174 = .ok (.aload_n 0, 1) := by decide +kernel
theorem dX5_init_175 : decode cX5_init 175 = .ok (.sipush 1000, 3) := by decide +kernel
theorem dX5_init_178 : decode cX5_init 178 = .ok (.newarray .int, 2) := by decide +kernel
theorem dX5_init_180 : decode cX5_init 180 = .ok (.putfield 74, 3) := by decide +kernel
theorem dX5_init_183 : decode cX5_init 183 = .ok (.aload_n 0, 1) := by decide +kernel
theorem dX5_init_184 : decode cX5_init 184 = .ok (.sipush 1000, 3) := by decide +kernel
theorem dX5_init_187 : decode cX5_init 187 = .ok (.newarray .int, 2) := by decide +kernel
theorem dX5_init_189 : decode cX5_init 189 = .ok (.putfield 77, 3) := by decide +kernel
theorem dX5_init_192 : decode cX5_init 192 = .ok (.aload_n 0, 1) := by decide +kernel
theorem dX5_init_193 : decode cX5_init 193 = .ok (.sipush 1000, 3) := by decide +kernel
theorem dX5_init_196 : decode cX5_init 196 = .ok (.newarray .int, 2) := by decide +kernel
theorem dX5_init_198 : decode cX5_init 198 = .ok (.putfield 80, 3) := by decide +kernel
theorem dX5_init_201 : decode cX5_init 201 = .ok (.aload_n 0, 1) := by decide +kernel
theorem dX5_init_202 : decode cX5_init 202 = .ok (.lload_n 1, 1) := by decide +kernel
theorem dX5_init_203 : decode cX5_init 203 = .ok (.putfield 83, 3) := by decide +kernel
theorem dX5_init_206 : decode cX5_init 206 = .ok (.return_, 1) := by decide +kernel
theorem dX5_thrown_0 : decode cX5_thrown 0 = .ok (.aload_n 0, 1) := by decide +kernel
theorem dX5_thrown_1 : decode cX5_thrown 1 = .ok (.getfield 87, 3) := by decide +kernel
theorem dX5_thrown_4 : decode cX5_thrown 4 = .ok (.ireturn, 1) := by decide +kernel
theorem dX5_isMachine_0 : decode cX5_isMachine 0 = .ok (.iload_n 1, 1) := by decide +kernel
theorem dX5_isMachine_1 : decode cX5_isMachine 1 = .ok (.ifCond .lt 15, 3) := by decide +kernel
theorem dX5_isMachine_4 : decode cX5_isMachine 4 = .ok (.iload_n 1, 1) := by decide +kernel
theorem dX5_isMachine_5 : decode cX5_isMachine 5 = .ok (.aload_n 0, 1) := by decide +kernel
theorem dX5_isMachine_6 : decode cX5_isMachine 6 = .ok (.getfield 91, 3) := by decide +kernel
theorem dX5_isMachine_9 : decode cX5_isMachine 9 = .ok (.if_icmp .ge 7, 3) := by decide +kernel
theorem dX5_isMachine_12 : decode cX5_isMachine 12 = .ok (.iconst 1, 1) := by decide +kernel
theorem dX5_isMachine_13 : decode cX5_isMachine 13 = .ok (.goto 4, 3) := by decide +kernel
theorem dX5_isMachine_16 : decode cX5_isMachine 16 = .ok (.iconst 0, 1) := by decide +kernel
theorem dX5_isMachine_17 : decode cX5_isMachine 17 = .ok (.ireturn, 1) := by decide +kernel
set_option maxRecDepth 20000 in
theorem ggX5_machine_X5_isMachine : GoodIn wsX5_machine wsX5_isMachine := goodIn_r _ [13, 4, 14, 15, 16, 17, 18, 19, 20, 21, 22, 23, 24, 25, 26, 27, 28, 29, 30, 31, 32, 33, 34, 35, 36, 37, 38, 39, 40, 41, 42, 43, 44, 45] (by decide +kernel) (by decide +kernel)
set_option maxRecDepth 20000 in
theorem gX5_machine_X5_isMachine : GoodIn wsX5_machine (wsV RX5 97 RX5 yX5_isMachine wsX5_isMachine) := goodIn_app (goodIn_of _ (by decide +kernel)) ggX5_machine_X5_isMachine
theorem dX5_machine_0 : decode cX5_machine 0 = .ok (.aload_n 0, 1) := by decide +kernel
theorem dX5_machine_1 : decode cX5_machine 1 = .ok (.iconst 0, 1) := by decide +kernel
theorem dX5_machine_2 : decode cX5_machine 2 = .ok (.putfield 87, 3) := by decide +kernel
theorem dX5_machine_5 : decode cX5_machine 5 = .ok (.aload_n 0, 1) := by decide +kernel
theorem dX5_machine_6 : decode cX5_machine 6 = .ok (.getfield 94, 3) := by decide +kernel
theorem dX5_machine_9 : decode cX5_machine 9 = .ok (.ifCond .ne 42, 3) := by decide +kernel
theorem dX5_machine_12 : decode cX5_machine 12 = .ok (.iload_n 1, 1) := by decide +kernel
theorem dX5_machine_13 : decode cX5_machine 13 = .ok (.iconst 1, 1) := by decide +kernel
theorem dX5_machine_14 : decode cX5_machine 14 = .ok (.if_icmp .lt 37, 3) := by decide +kernel
theorem dX5_machine_17 : decode cX5_machine 17 = .ok (.iload_n 1, 1) := by decide +kernel
theorem dX5_machine_18 : decode cX5_machine 18 = .ok (.sipush 10000, 3) := by decide +kernel
theorem dX5_machine_21 : decode cX5_machine 21 = .ok (.if_icmp .gt 30, 3) := by decide +kernel
theorem dX5_machine_24 : decode cX5_machine 24 = .ok (.iload_n 2, 1) := by decide +kernel
theorem dX5_machine_25 : decode cX5_machine 25 = .ok (.iconst (-1), 1) := by decide +kernel
theorem dX5_machine_26 : decode cX5_machine 26 = .ok (.if_icmp .eq 21, 3) := by decide +kernel
theorem dX5_machine_29 : decode cX5_machine 29 = .ok (.aload_n 0, 1) := by decide +kernel
theorem dX5_machine_30 : decode cX5_machine 30 = .ok (.iload_n 2, 1) := by decide +kernel
theorem dX5_machine_31 : decode cX5_machine 31 = .ok (.invokevirtual 97, 3) := by decide +kernel
theorem dX5_machine_34 : decode cX5_machine 34 = .ok (.ifCond .eq 17, 3) := by decide +kernel
theorem dX5_machine_37 : decode cX5_machine 37 = .ok (.aload_n 0, 1) := by decide +kernel
theorem dX5_machine_38 : decode cX5_machine 38 = .ok (.getfield 16, 3) := by decide +kernel
theorem dX5_machine_41 : decode cX5_machine 41 = .ok (.iload_n 2, 1) := by decide +kernel
theorem dX5_machine_42 : decode cX5_machine 42 = .ok (.iaload, 1) := by decide +kernel
theorem dX5_machine_43 : decode cX5_machine 43 = .ok (.iconst (-1), 1) := by decide +kernel
theorem dX5_machine_44 : decode cX5_machine 44 = .ok (.if_icmp .ne 7, 3) := by decide +kernel
theorem dX5_machine_47 : decode cX5_machine 47 = .ok (.iconst 1, 1) := by decide +kernel
theorem dX5_machine_48 : decode cX5_machine 48 = .ok (.goto 4, 3) := by decide +kernel
theorem dX5_machine_51 : decode cX5_machine 51 = .ok (.iconst 0, 1) := by decide +kernel
theorem dX5_machine_52 : decode cX5_machine 52 = .ok (.istore_n 3, 1) := by decide +kernel
theorem dX5_machine_53 : decode cX5_machine 53 = .ok (.iload_n 3, 1) := by decide +kernel
theorem dX5_machine_54 : decode cX5_machine 54 = .ok (.ifCond .ne 5, 3) := by decide +kernel
theorem dX5_machine_57 : decode cX5_machine 57 = .ok (.iconst (-1), 1) := by decide +kernel
theorem dX5_machine_58 : decode cX5_machine 58 = .ok (.ireturn, 1) := by decide +kernel
theorem dX5_machine_59 : decode cX5_machine 59 = .ok (.aload_n 0, 1) := by decide +kernel
theorem dX5_machine_60 : decode cX5_machine 60 = .ok (.getfield 91, 3) := by decide +kernel
theorem dX5_machine_63 : decode cX5_machine 63 = .ok (.bipush 12, 2) := by decide +kernel
theorem dX5_machine_65 : decode cX5_machine 65 = .ok (.if_icmp .ne 6, 3) := by decide +kernel
theorem dX5_machine_68 : decode cX5_machine 68 = .ok (.bipush (-2), 2) := by decide +kernel
theorem dX5_machine_70 : decode cX5_machine 70 = .ok (.ireturn, 1) := by decide +kernel
theorem dX5_machine_71 : decode cX5_machine 71 = .ok (.aload_n 0, 1) := by decide +kernel
theorem dX5_machine_72 : decode cX5_machine 72 = .ok (.getfield 91, 3) := by decide +kernel
theorem dX5_machine_75 : decode cX5_machine 75 = .ok (.istore 4, 2) := by decide +kernel
theorem dX5_machine_77 : decode cX5_machine 77 = .ok (.aload_n 0, 1) := by decide +kernel
theorem dX5_machine_78 : decode cX5_machine 78 = .ok (.getfield 9, 3) := by decide +kernel
theorem dX5_machine_81 : decode cX5_machine 81 = .ok (.iload 4, 2) := by decide +kernel
theorem dX5_machine_83 : decode cX5_machine 83 = .ok (.iload_n 1, 1) := by decide +kernel
theorem dX5_machine_84 : decode cX5_machine 84 = .ok (.iastore, 1) := by decide +kernel
theorem dX5_machine_85 : decode cX5_machine 85 = .ok (.aload_n 0, 1) := by decide +kernel
theorem dX5_machine_86 : decode cX5_machine 86 = .ok (.getfield 13, 3) := by decide +kernel
theorem dX5_machine_89 : decode cX5_machine 89 = .ok (.iload 4, 2) := by decide +kernel
theorem dX5_machine_91 : decode cX5_machine 91 = .ok (.iload_n 2, 1) := by decide +kernel
theorem dX5_machine_92 : decode cX5_machine 92 = .ok (.iastore, 1) := by decide +kernel
theorem dX5_machine_93 : decode cX5_machine 93 = .ok (.aload_n 0, 1) := by decide +kernel
theorem dX5_machine_94 : decode cX5_machine 94 = .ok (.getfield 16, 3) := by decide +kernel
theorem dX5_machine_97 : decode cX5_machine 97 = .ok (.iload 4, 2) := by decide +kernel
theorem dX5_machine_99 : decode cX5_machine 99 = .ok (.iconst (-1), 1) := by decide +kernel
theorem dX5_machine_100 : decode cX5_machine 100 = .ok (.iastore, 1) := by decide +kernel
theorem dX5_machine_101 : decode cX5_machine 101 = .ok (.aload_n 0, 1) := by decide +kernel
theorem dX5_machine_102 : decode cX5_machine 102 = .ok (.getfield 19, 3) := by decide +kernel
theorem dX5_machine_105 : decode cX5_machine 105 = .ok (.iload 4, 2) := by decide +kernel
theorem dX5_machine_107 : decode cX5_machine 107 = .ok (.iconst 1, 1) := by decide +kernel
theorem dX5_machine_108 : decode cX5_machine 108 = .ok (.iastore, 1) := by decide +kernel
theorem dX5_machine_109 : decode cX5_machine 109 = .ok (.aload_n 0, 1) := by decide +kernel
theorem dX5_machine_110 : decode cX5_machine 110 = .ok (.getfield 22, 3) := by decide +kernel
theorem dX5_machine_113 : decode cX5_machine 113 = .ok (.iload 4, 2) := by decide +kernel
theorem dX5_machine_115 : decode cX5_machine 115 = .ok (.iconst 0, 1) := by decide +kernel
theorem dX5_machine_116 : decode cX5_machine 116 = .ok (.iastore, 1) := by decide +kernel
theorem dX5_machine_117 : decode cX5_machine 117 = .ok (.iload_n 2, 1) := by decide +kernel
theorem dX5_machine_118 : decode cX5_machine 118 = .ok (.iconst (-1), 1) := by decide +kernel
theorem dX5_machine_119 : decode cX5_machine 119 = .ok (.if_icmp .eq 11, 3) := by decide +kernel
theorem dX5_machine_122 : decode cX5_machine 122 = .ok (.aload_n 0, 1) := by decide +kernel
theorem dX5_machine_123 : decode cX5_machine 123 = .ok (.getfield 16, 3) := by decide +kernel
theorem dX5_machine_126 : decode cX5_machine 126 = .ok (.iload_n 2, 1) := by decide +kernel
theorem dX5_machine_127 : decode cX5_machine 127 = .ok (.iload 4, 2) := by decide +kernel
theorem dX5_machine_129 : decode cX5_machine 129 = .ok (.iastore, 1) := by decide +kernel
theorem dX5_machine_130 : decode cX5_machine 130 = .ok (.aload_n 0, 1) := by decide +kernel
theorem dX5_machine_131 : decode cX5_machine 131 = .ok (.dup, 1) := by decide +kernel
theorem dX5_machine_132 : decode cX5_machine 132 = .ok (.getfield 91, 3) := by decide +kernel
theorem dX5_machine_135 : decode cX5_machine 135 = .ok (.iconst 1, 1) := by decide +kernel
theorem dX5_machine_136 : decode cX5_machine 136 = .ok (.iadd, 1) := by decide +kernel
theorem dX5_machine_137 : decode cX5_machine 137 = .ok (.putfield 91, 3) := by decide +kernel
theorem dX5_machine_140 : decode cX5_machine 140 = .ok (.iload 4, 2) := by decide +kernel
theorem dX5_machine_142 : decode cX5_machine 142 = .ok (.ireturn, 1) := by decide +kernel
set_option maxRecDepth 20000 in
theorem ggX5_buffer_X5_isMachine : GoodIn wsX5_buffer wsX5_isMachine := goodIn_r _ [9, 10, 11, 12, 13, 14, 15, 16, 17, 18, 19, 20, 21, 22, 23, 24, 25, 26, 27, 28, 29, 30, 31, 32, 33, 34, 35, 36, 37, 38, 39, 40, 41, 42] (by decide +kernel) (by decide +kernel)
set_option maxRecDepth 20000 in
theorem gX5_buffer_X5_isMachine : GoodIn wsX5_buffer (wsV RX5 97 RX5 yX5_isMachine wsX5_isMachine) := goodIn_app (goodIn_of _ (by decide +kernel)) ggX5_buffer_X5_isMachine
theorem dX5_buffer_0 : decode cX5_buffer 0 = .ok (.aload_n 0, 1) := by decide +kernel
theorem dX5_buffer_1 : decode cX5_buffer 1 = .ok (.iconst 0, 1) := by decide +kernel
theorem dX5_buffer_2 : decode cX5_buffer 2 = .ok (.putfield 87, 3) := by decide +kernel
theorem dX5_buffer_5 : decode cX5_buffer 5 = .ok (.aload_n 0, 1) := by decide +kernel
theorem dX5_buffer_6 : decode cX5_buffer 6 = .ok (.getfield 94, 3) := by decide +kernel
theorem dX5_buffer_9 : decode cX5_buffer 9 = .ok (.ifCond .gt 34, 3) := by decide +kernel
theorem dX5_buffer_12 : decode cX5_buffer 12 = .ok (.aload_n 0, 1) := by decide +kernel
theorem dX5_buffer_13 : decode cX5_buffer 13 = .ok (.iload_n 1, 1) := by decide +kernel
theorem dX5_buffer_14 : decode cX5_buffer 14 = .ok (.invokevirtual 97, 3) := by decide +kernel
theorem dX5_buffer_17 : decode cX5_buffer 17 = .ok (.ifCond .eq 26, 3) := by decide +kernel
theorem dX5_buffer_20 : decode cX5_buffer 20 = .ok (.iload_n 2, 1) := by decide +kernel
theorem dX5_buffer_21 : decode cX5_buffer 21 = .ok (.iconst 1, 1) := by decide +kernel
theorem dX5_buffer_22 : decode cX5_buffer 22 = .ok (.if_icmp .lt 21, 3) := by decide +kernel
theorem dX5_buffer_25 : decode cX5_buffer 25 = .ok (.iload_n 2, 1) := by decide +kernel
theorem dX5_buffer_26 : decode cX5_buffer 26 = .ok (.sipush 1000, 3) := by decide +kernel
theorem dX5_buffer_29 : decode cX5_buffer 29 = .ok (.if_icmp .gt 14, 3) := by decide +kernel
theorem dX5_buffer_32 : decode cX5_buffer 32 = .ok (.iload_n 3, 1) := by decide +kernel
theorem dX5_buffer_33 : decode cX5_buffer 33 = .ok (.ifCond .lt 10, 3) := by decide +kernel
theorem dX5_buffer_36 : decode cX5_buffer 36 = .ok (.iload_n 3, 1) := by decide +kernel
theorem dX5_buffer_37 : decode cX5_buffer 37 = .ok (.sipush 10000, 3) := by decide +kernel
theorem dX5_buffer_40 : decode cX5_buffer 40 = .ok (.if_icmp .le 5, 3) := by decide +kernel
theorem dX5_buffer_43 : decode cX5_buffer 43 = .ok (.iconst (-1), 1) := by decide +kernel
theorem dX5_buffer_44 : decode cX5_buffer 44 = .ok (.ireturn, 1) := by decide +kernel
theorem dX5_buffer_45 : decode cX5_buffer 45 = .ok (.aload_n 0, 1) := by decide +kernel
theorem dX5_buffer_46 : decode cX5_buffer 46 = .ok (.getfield 19, 3) := by decide +kernel
theorem dX5_buffer_49 : decode cX5_buffer 49 = .ok (.iload_n 1, 1) := by decide +kernel
theorem dX5_buffer_50 : decode cX5_buffer 50 = .ok (.iaload, 1) := by decide +kernel
theorem dX5_buffer_51 : decode cX5_buffer 51 = .ok (.istore 4, 2) := by decide +kernel
theorem dX5_buffer_53 : decode cX5_buffer 53 = .ok (.aload_n 0, 1) := by decide +kernel
theorem dX5_buffer_54 : decode cX5_buffer 54 = .ok (.getfield 19, 3) := by decide +kernel
theorem dX5_buffer_57 : decode cX5_buffer 57 = .ok (.iload_n 1, 1) := by decide +kernel
theorem dX5_buffer_58 : decode cX5_buffer 58 = .ok (.iload_n 2, 1) := by decide +kernel
theorem dX5_buffer_59 : decode cX5_buffer 59 = .ok (.iastore, 1) := by decide +kernel
theorem dX5_buffer_60 : decode cX5_buffer 60 = .ok (.aload_n 0, 1) := by decide +kernel
theorem dX5_buffer_61 : decode cX5_buffer 61 = .ok (.getfield 22, 3) := by decide +kernel
theorem dX5_buffer_64 : decode cX5_buffer 64 = .ok (.iload_n 1, 1) := by decide +kernel
theorem dX5_buffer_65 : decode cX5_buffer 65 = .ok (.iload_n 3, 1) := by decide +kernel
theorem dX5_buffer_66 : decode cX5_buffer 66 = .ok (.iastore, 1) := by decide +kernel
theorem dX5_buffer_67 : decode cX5_buffer 67 = .ok (.iload 4, 2) := by decide +kernel
theorem dX5_buffer_69 : decode cX5_buffer 69 = .ok (.ireturn, 1) := by decide +kernel
set_option maxRecDepth 20000 in
theorem ggX5_fault_X5_isMachine : GoodIn wsX5_fault wsX5_isMachine := goodIn_r _ [13, 14, 15, 16, 17, 18, 19, 20, 21, 22, 23, 24, 25, 26, 27, 28, 29, 30, 31, 32, 33, 34, 35, 36, 37, 38, 39, 40, 41, 42, 43, 44, 45, 46] (by decide +kernel) (by decide +kernel)
set_option maxRecDepth 20000 in
theorem gX5_fault_X5_isMachine : GoodIn wsX5_fault (wsV RX5 97 RX5 yX5_isMachine wsX5_isMachine) := goodIn_app (goodIn_of _ (by decide +kernel)) ggX5_fault_X5_isMachine
theorem dX5_fault_0 : decode cX5_fault 0 = .ok (.aload_n 0, 1) := by decide +kernel
theorem dX5_fault_1 : decode cX5_fault 1 = .ok (.iconst 0, 1) := by decide +kernel
theorem dX5_fault_2 : decode cX5_fault 2 = .ok (.putfield 87, 3) := by decide +kernel
theorem dX5_fault_5 : decode cX5_fault 5 = .ok (.aload_n 0, 1) := by decide +kernel
theorem dX5_fault_6 : decode cX5_fault 6 = .ok (.getfield 94, 3) := by decide +kernel
theorem dX5_fault_9 : decode cX5_fault 9 = .ok (.ifCond .gt 62, 3) := by decide +kernel
theorem dX5_fault_12 : decode cX5_fault 12 = .ok (.aload_n 0, 1) := by decide +kernel
theorem dX5_fault_13 : decode cX5_fault 13 = .ok (.iload_n 1, 1) := by decide +kernel
theorem dX5_fault_14 : decode cX5_fault 14 = .ok (.invokevirtual 97, 3) := by decide +kernel
theorem dX5_fault_17 : decode cX5_fault 17 = .ok (.ifCond .eq 54, 3) := by decide +kernel
theorem dX5_fault_20 : decode cX5_fault 20 = .ok (.lload 4, 2) := by decide +kernel
theorem dX5_fault_22 : decode cX5_fault 22 = .ok (.lconst 1, 1) := by decide +kernel
theorem dX5_fault_23 : decode cX5_fault 23 = .ok (.lcmp, 1) := by decide +kernel
theorem dX5_fault_24 : decode cX5_fault 24 = .ok (.ifCond .lt 47, 3) := by decide +kernel
theorem dX5_fault_27 : decode cX5_fault 27 = .ok (.lload 4, 2) := by decide +kernel
theorem dX5_fault_29 : decode cX5_fault 29 = .ok (.ldc2_w 101, 3) := by decide +kernel
theorem dX5_fault_32 : decode cX5_fault 32 = .ok (.lcmp, 1) := by decide +kernel
theorem dX5_fault_33 : decode cX5_fault 33 = .ok (.ifCond .gt 38, 3) := by decide +kernel
theorem dX5_fault_36 : decode cX5_fault 36 = .ok (.lload_n 2, 1) := by decide +kernel
theorem dX5_fault_37 : decode cX5_fault 37 = .ok (.lconst 0, 1) := by decide +kernel
theorem dX5_fault_38 : decode cX5_fault 38 = .ok (.lcmp, 1) := by decide +kernel
theorem dX5_fault_39 : decode cX5_fault 39 = .ok (.ifCond .lt 32, 3) := by decide +kernel
theorem dX5_fault_42 : decode cX5_fault 42 = .ok (.lload_n 2, 1) := by decide +kernel
theorem dX5_fault_43 : decode cX5_fault 43 = .ok (.lload 4, 2) := by decide +kernel
theorem dX5_fault_45 : decode cX5_fault 45 = .ok (.lcmp, 1) := by decide +kernel
theorem dX5_fault_46 : decode cX5_fault 46 = .ok (.ifCond .gt 25, 3) := by decide +kernel
theorem dX5_fault_49 : decode cX5_fault 49 = .ok (.iload 6, 2) := by decide +kernel
theorem dX5_fault_51 : decode cX5_fault 51 = .ok (.ifCond .lt 20, 3) := by decide +kernel
theorem dX5_fault_54 : decode cX5_fault 54 = .ok (.iload 6, 2) := by decide +kernel
theorem dX5_fault_56 : decode cX5_fault 56 = .ok (.ldc 103, 2) := by decide +kernel
theorem dX5_fault_58 : decode cX5_fault 58 = .ok (.if_icmp .gt 13, 3) := by decide +kernel
theorem dX5_fault_61 : decode cX5_fault 61 = .ok (.aload_n 0, 1) := by decide +kernel
theorem dX5_fault_62 : decode cX5_fault 62 = .ok (.getfield 53, 3) := by decide +kernel
theorem dX5_fault_65 : decode cX5_fault 65 = .ok (.iload_n 1, 1) := by decide +kernel
theorem dX5_fault_66 : decode cX5_fault 66 = .ok (.iaload, 1) := by decide +kernel
theorem dX5_fault_67 : decode cX5_fault 67 = .ok (.iconst 4, 1) := by decide +kernel
theorem dX5_fault_68 : decode cX5_fault 68 = .ok (.if_icmp .ne 5, 3) := by decide +kernel
theorem dX5_fault_71 : decode cX5_fault 71 = .ok (.iconst 0, 1) := by decide +kernel
theorem dX5_fault_72 : decode cX5_fault 72 = .ok (.ireturn, 1) := by decide +kernel
theorem dX5_fault_73 : decode cX5_fault 73 = .ok (.iload_n 1, 1) := by decide +kernel
theorem dX5_fault_74 : decode cX5_fault 74 = .ok (.iconst 4, 1) := by decide +kernel
theorem dX5_fault_75 : decode cX5_fault 75 = .ok (.imul, 1) := by decide +kernel
theorem dX5_fault_76 : decode cX5_fault 76 = .ok (.aload_n 0, 1) := by decide +kernel
end
section
theorem dX5_fault_77 : decode cX5_fault 77 = .ok (.getfield 53, 3) := by decide +kernel
theorem dX5_fault_80 : decode cX5_fault 80 = .ok (.iload_n 1, 1) := by decide +kernel
theorem dX5_fault_81 : decode cX5_fault 81 = .ok (.iaload, 1) := by decide +kernel
theorem dX5_fault_82 : decode cX5_fault 82 = .ok (.iadd, 1) := by decide +kernel
theorem dX5_fault_83 : decode cX5_fault 83 = .ok (.istore 7, 2) := by decide +kernel
theorem dX5_fault_85 : decode cX5_fault 85 = .ok (.aload_n 0, 1) := by decide +kernel
theorem dX5_fault_86 : decode cX5_fault 86 = .ok (.getfield 43, 3) := by decide +kernel
theorem dX5_fault_89 : decode cX5_fault 89 = .ok (.iload 7, 2) := by decide +kernel
theorem dX5_fault_91 : decode cX5_fault 91 = .ok (.lload_n 2, 1) := by decide +kernel
theorem dX5_fault_92 : decode cX5_fault 92 = .ok (.lastore, 1) := by decide +kernel
theorem dX5_fault_93 : decode cX5_fault 93 = .ok (.aload_n 0, 1) := by decide +kernel
theorem dX5_fault_94 : decode cX5_fault 94 = .ok (.getfield 47, 3) := by decide +kernel
theorem dX5_fault_97 : decode cX5_fault 97 = .ok (.iload 7, 2) := by decide +kernel
theorem dX5_fault_99 : decode cX5_fault 99 = .ok (.lload 4, 2) := by decide +kernel
theorem dX5_fault_101 : decode cX5_fault 101 = .ok (.lastore, 1) := by decide +kernel
theorem dX5_fault_102 : decode cX5_fault 102 = .ok (.aload_n 0, 1) := by decide +kernel
theorem dX5_fault_103 : decode cX5_fault 103 = .ok (.getfield 50, 3) := by decide +kernel
theorem dX5_fault_106 : decode cX5_fault 106 = .ok (.iload 7, 2) := by decide +kernel
theorem dX5_fault_108 : decode cX5_fault 108 = .ok (.iload 6, 2) := by decide +kernel
theorem dX5_fault_110 : decode cX5_fault 110 = .ok (.iastore, 1) := by decide +kernel
theorem dX5_fault_111 : decode cX5_fault 111 = .ok (.aload_n 0, 1) := by decide +kernel
theorem dX5_fault_112 : decode cX5_fault 112 = .ok (.getfield 53, 3) := by decide +kernel
theorem dX5_fault_115 : decode cX5_fault 115 = .ok (.iload_n 1, 1) := by decide +kernel
theorem dX5_fault_116 : decode cX5_fault 116 = .ok (.dup2, 1) := by decide +kernel
theorem dX5_fault_117 : decode cX5_fault 117 = .ok (.iaload, 1) := by decide +kernel
theorem dX5_fault_118 : decode cX5_fault 118 = .ok (.iconst 1, 1) := by decide +kernel
theorem dX5_fault_119 : decode cX5_fault 119 = .ok (.iadd, 1) := by decide +kernel
theorem dX5_fault_120 : decode cX5_fault 120 = .ok (.iastore, 1) := by decide +kernel
theorem dX5_fault_121 : decode cX5_fault 121 = .ok (.iconst 1, 1) := by decide +kernel
theorem dX5_fault_122 : decode cX5_fault 122 = .ok (.ireturn, 1) := by decide +kernel
theorem dX5_told_0 : decode cX5_told 0 = .ok (.iload_n 2, 1) := by decide +kernel
theorem dX5_told_1 : decode cX5_told 1 = .ok (.aload_n 0, 1) := by decide +kernel
theorem dX5_told_2 : decode cX5_told 2 = .ok (.getfield 94, 3) := by decide +kernel
theorem dX5_told_5 : decode cX5_told 5 = .ok (.if_icmp .lt 27, 3) := by decide +kernel
theorem dX5_told_8 : decode cX5_told 8 = .ok (.lload_n 3, 1) := by decide +kernel
theorem dX5_told_9 : decode cX5_told 9 = .ok (.iload_n 2, 1) := by decide +kernel
theorem dX5_told_10 : decode cX5_told 10 = .ok (.i2l, 1) := by decide +kernel
theorem dX5_told_11 : decode cX5_told 11 = .ok (.lcmp, 1) := by decide +kernel
theorem dX5_told_12 : decode cX5_told 12 = .ok (.ifCond .le 20, 3) := by decide +kernel
theorem dX5_told_15 : decode cX5_told 15 = .ok (.lload_n 3, 1) := by decide +kernel
theorem dX5_told_16 : decode cX5_told 16 = .ok (.ldc2_w 104, 3) := by decide +kernel
theorem dX5_told_19 : decode cX5_told 19 = .ok (.lcmp, 1) := by decide +kernel
theorem dX5_told_20 : decode cX5_told 20 = .ok (.ifCond .gt 12, 3) := by decide +kernel
theorem dX5_told_23 : decode cX5_told 23 = .ok (.aload_n 0, 1) := by decide +kernel
theorem dX5_told_24 : decode cX5_told 24 = .ok (.getfield 106, 3) := by decide +kernel
theorem dX5_told_27 : decode cX5_told 27 = .ok (.bipush 64, 2) := by decide +kernel
theorem dX5_told_29 : decode cX5_told 29 = .ok (.if_icmp .ne 5, 3) := by decide +kernel
theorem dX5_told_32 : decode cX5_told 32 = .ok (.iconst 0, 1) := by decide +kernel
theorem dX5_told_33 : decode cX5_told 33 = .ok (.ireturn, 1) := by decide +kernel
theorem dX5_told_34 : decode cX5_told 34 = .ok (.aload_n 0, 1) := by decide +kernel
theorem dX5_told_35 : decode cX5_told 35 = .ok (.getfield 56, 3) := by decide +kernel
theorem dX5_told_38 : decode cX5_told 38 = .ok (.aload_n 0, 1) := by decide +kernel
theorem dX5_told_39 : decode cX5_told 39 = .ok (.getfield 106, 3) := by decide +kernel
theorem dX5_told_42 : decode cX5_told 42 = .ok (.iload_n 1, 1) := by decide +kernel
theorem dX5_told_43 : decode cX5_told 43 = .ok (.iastore, 1) := by decide +kernel
theorem dX5_told_44 : decode cX5_told 44 = .ok (.aload_n 0, 1) := by decide +kernel
theorem dX5_told_45 : decode cX5_told 45 = .ok (.getfield 59, 3) := by decide +kernel
theorem dX5_told_48 : decode cX5_told 48 = .ok (.aload_n 0, 1) := by decide +kernel
theorem dX5_told_49 : decode cX5_told 49 = .ok (.getfield 106, 3) := by decide +kernel
theorem dX5_told_52 : decode cX5_told 52 = .ok (.iload_n 2, 1) := by decide +kernel
theorem dX5_told_53 : decode cX5_told 53 = .ok (.iastore, 1) := by decide +kernel
theorem dX5_told_54 : decode cX5_told 54 = .ok (.aload_n 0, 1) := by decide +kernel
theorem dX5_told_55 : decode cX5_told 55 = .ok (.getfield 62, 3) := by decide +kernel
theorem dX5_told_58 : decode cX5_told 58 = .ok (.aload_n 0, 1) := by decide +kernel
theorem dX5_told_59 : decode cX5_told 59 = .ok (.getfield 106, 3) := by decide +kernel
theorem dX5_told_62 : decode cX5_told 62 = .ok (.lload_n 3, 1) := by decide +kernel
theorem dX5_told_63 : decode cX5_told 63 = .ok (.l2i, 1) := by decide +kernel
theorem dX5_told_64 : decode cX5_told 64 = .ok (.iastore, 1) := by decide +kernel
theorem dX5_told_65 : decode cX5_told 65 = .ok (.aload_n 0, 1) := by decide +kernel
theorem dX5_told_66 : decode cX5_told 66 = .ok (.getfield 65, 3) := by decide +kernel
theorem dX5_told_69 : decode cX5_told 69 = .ok (.aload_n 0, 1) := by decide +kernel
theorem dX5_told_70 : decode cX5_told 70 = .ok (.getfield 106, 3) := by decide +kernel
theorem dX5_told_73 : decode cX5_told 73 = .ok (.iload 5, 2) := by decide +kernel
theorem dX5_told_75 : decode cX5_told 75 = .ok (.iastore, 1) := by decide +kernel
theorem dX5_told_76 : decode cX5_told 76 = .ok (.aload_n 0, 1) := by decide +kernel
theorem dX5_told_77 : decode cX5_told 77 = .ok (.dup, 1) := by decide +kernel
theorem dX5_told_78 : decode cX5_told 78 = .ok (.getfield 106, 3) := by decide +kernel
theorem dX5_told_81 : decode cX5_told 81 = .ok (.iconst 1, 1) := by decide +kernel
theorem dX5_told_82 : decode cX5_told 82 = .ok (.iadd, 1) := by decide +kernel
theorem dX5_told_83 : decode cX5_told 83 = .ok (.putfield 106, 3) := by decide +kernel
theorem dX5_told_86 : decode cX5_told 86 = .ok (.iconst 1, 1) := by decide +kernel
theorem dX5_told_87 : decode cX5_told 87 = .ok (.ireturn, 1) := by decide +kernel
set_option maxRecDepth 20000 in
theorem ggX5_row_X5_isMachine : GoodIn wsX5_row wsX5_isMachine := goodIn_r _ [6, 7, 19, 20, 21, 22, 23, 24, 25, 26, 27, 28, 29, 30, 31, 32, 33, 34, 35, 36, 37, 38, 39, 40, 41, 42, 43, 44, 45, 46, 47, 48, 49, 50] (by decide +kernel) (by decide +kernel)
set_option maxRecDepth 20000 in
theorem gX5_row_X5_isMachine : GoodIn wsX5_row (wsV RX5 97 RX5 yX5_isMachine wsX5_isMachine) := goodIn_app (goodIn_of _ (by decide +kernel)) ggX5_row_X5_isMachine
set_option maxRecDepth 20000 in
theorem ggX5_row_X5_told : GoodIn wsX5_row wsX5_told := goodIn_r _ [11, 12, 13, 14, 15, 16, 17, 18, 19, 20, 21, 22, 23, 24, 25, 26, 27, 28, 29, 30, 31, 32, 33, 34, 35, 36, 37, 38, 39, 40, 41, 42, 43, 44, 45, 46, 47, 48, 49, 50] (by decide +kernel) (by decide +kernel)
set_option maxRecDepth 20000 in
theorem gX5_row_X5_told : GoodIn wsX5_row (wsV RX5 109 RX5 yX5_told wsX5_told) := goodIn_app (goodIn_of _ (by decide +kernel)) ggX5_row_X5_told
theorem dX5_row_0 : decode cX5_row 0 = .ok (.aload_n 0, 1) := by decide +kernel
theorem dX5_row_1 : decode cX5_row 1 = .ok (.iconst 0, 1) := by decide +kernel
theorem dX5_row_2 : decode cX5_row 2 = .ok (.putfield 87, 3) := by decide +kernel
theorem dX5_row_5 : decode cX5_row 5 = .ok (.aload_n 0, 1) := by decide +kernel
theorem dX5_row_6 : decode cX5_row 6 = .ok (.iload_n 1, 1) := by decide +kernel
theorem dX5_row_7 : decode cX5_row 7 = .ok (.invokevirtual 97, 3) := by decide +kernel
theorem dX5_row_10 : decode cX5_row 10 = .ok (.ifCond .eq 33, 3) := by decide +kernel
theorem dX5_row_13 : decode cX5_row 13 = .ok (.iload 4, 2) := by decide +kernel
theorem dX5_row_15 : decode cX5_row 15 = .ok (.iconst 4, 1) := by decide +kernel
theorem dX5_row_16 : decode cX5_row 16 = .ok (.if_icmp .lt 27, 3) := by decide +kernel
theorem dX5_row_19 : decode cX5_row 19 = .ok (.iload 4, 2) := by decide +kernel
theorem dX5_row_21 : decode cX5_row 21 = .ok (.bipush 9, 2) := by decide +kernel
theorem dX5_row_23 : decode cX5_row 23 = .ok (.if_icmp .gt 20, 3) := by decide +kernel
theorem dX5_row_26 : decode cX5_row 26 = .ok (.aload_n 0, 1) := by decide +kernel
theorem dX5_row_27 : decode cX5_row 27 = .ok (.iload_n 1, 1) := by decide +kernel
theorem dX5_row_28 : decode cX5_row 28 = .ok (.iload_n 2, 1) := by decide +kernel
theorem dX5_row_29 : decode cX5_row 29 = .ok (.iload_n 3, 1) := by decide +kernel
theorem dX5_row_30 : decode cX5_row 30 = .ok (.i2l, 1) := by decide +kernel
theorem dX5_row_31 : decode cX5_row 31 = .ok (.iload 4, 2) := by decide +kernel
theorem dX5_row_33 : decode cX5_row 33 = .ok (.invokevirtual 109, 3) := by decide +kernel
theorem dX5_row_36 : decode cX5_row 36 = .ok (.ifCond .eq 7, 3) := by decide +kernel
theorem dX5_row_39 : decode cX5_row 39 = .ok (.iconst 1, 1) := by decide +kernel
theorem dX5_row_40 : decode cX5_row 40 = .ok (.goto 4, 3) := by decide +kernel
theorem dX5_row_43 : decode cX5_row 43 = .ok (.iconst 0, 1) := by decide +kernel
theorem dX5_row_44 : decode cX5_row 44 = .ok (.ireturn, 1) := by decide +kernel
set_option maxRecDepth 20000 in
theorem ggX5_change_X5_told : GoodIn wsX5_change wsX5_told := goodIn_r _ [7, 8, 9, 10, 11, 12, 13, 14, 15, 16, 17, 18, 19, 20, 21, 22, 23, 24, 25, 26, 27, 28, 29, 30, 31, 32, 33, 34, 35, 36, 37, 38, 39, 40, 41, 42, 43, 44, 45, 46] (by decide +kernel) (by decide +kernel)
set_option maxRecDepth 20000 in
theorem gX5_change_X5_told : GoodIn wsX5_change (wsV RX5 109 RX5 yX5_told wsX5_told) := goodIn_app (goodIn_of _ (by decide +kernel)) ggX5_change_X5_told
theorem dX5_change_0 : decode cX5_change 0 = .ok (.aload_n 0, 1) := by decide +kernel
theorem dX5_change_1 : decode cX5_change 1 = .ok (.iconst 0, 1) := by decide +kernel
theorem dX5_change_2 : decode cX5_change 2 = .ok (.putfield 87, 3) := by decide +kernel
theorem dX5_change_5 : decode cX5_change 5 = .ok (.iload_n 2, 1) := by decide +kernel
theorem dX5_change_6 : decode cX5_change 6 = .ok (.iconst 1, 1) := by decide +kernel
theorem dX5_change_7 : decode cX5_change 7 = .ok (.if_icmp .lt 28, 3) := by decide +kernel
theorem dX5_change_10 : decode cX5_change 10 = .ok (.iload_n 2, 1) := by decide +kernel
theorem dX5_change_11 : decode cX5_change 11 = .ok (.ldc 113, 2) := by decide +kernel
theorem dX5_change_13 : decode cX5_change 13 = .ok (.if_icmp .gt 22, 3) := by decide +kernel
theorem dX5_change_16 : decode cX5_change 16 = .ok (.aload_n 0, 1) := by decide +kernel
theorem dX5_change_17 : decode cX5_change 17 = .ok (.iconst (-1), 1) := by decide +kernel
theorem dX5_change_18 : decode cX5_change 18 = .ok (.iload_n 1, 1) := by decide +kernel
theorem dX5_change_19 : decode cX5_change 19 = .ok (.iload_n 1, 1) := by decide +kernel
theorem dX5_change_20 : decode cX5_change 20 = .ok (.i2l, 1) := by decide +kernel
theorem dX5_change_21 : decode cX5_change 21 = .ok (.iload_n 2, 1) := by decide +kernel
theorem dX5_change_22 : decode cX5_change 22 = .ok (.i2l, 1) := by decide +kernel
theorem dX5_change_23 : decode cX5_change 23 = .ok (.ladd, 1) := by decide +kernel
theorem dX5_change_24 : decode cX5_change 24 = .ok (.iconst 1, 1) := by decide +kernel
theorem dX5_change_25 : decode cX5_change 25 = .ok (.invokevirtual 109, 3) := by decide +kernel
theorem dX5_change_28 : decode cX5_change 28 = .ok (.ifCond .eq 7, 3) := by decide +kernel
theorem dX5_change_31 : decode cX5_change 31 = .ok (.iconst 1, 1) := by decide +kernel
theorem dX5_change_32 : decode cX5_change 32 = .ok (.goto 4, 3) := by decide +kernel
theorem dX5_change_35 : decode cX5_change 35 = .ok (.iconst 0, 1) := by decide +kernel
theorem dX5_change_36 : decode cX5_change 36 = .ok (.ireturn, 1) := by decide +kernel
set_option maxRecDepth 20000 in
theorem ggX5_rest_X5_told : GoodIn wsX5_rest wsX5_told := goodIn_r _ [6, 7, 8, 9, 10, 11, 12, 13, 14, 15, 16, 17, 18, 19, 20, 21, 22, 23, 24, 25, 26, 27, 28, 29, 30, 31, 32, 33, 34, 35, 36, 37, 38, 39, 40, 41, 42, 43, 44, 45] (by decide +kernel) (by decide +kernel)
set_option maxRecDepth 20000 in
theorem gX5_rest_X5_told : GoodIn wsX5_rest (wsV RX5 109 RX5 yX5_told wsX5_told) := goodIn_app (goodIn_of _ (by decide +kernel)) ggX5_rest_X5_told
theorem dX5_rest_0 : decode cX5_rest 0 = .ok (.aload_n 0, 1) := by decide +kernel
theorem dX5_rest_1 : decode cX5_rest 1 = .ok (.iconst 0, 1) := by decide +kernel
theorem dX5_rest_2 : decode cX5_rest 2 = .ok (.putfield 87, 3) := by decide +kernel
theorem dX5_rest_5 : decode cX5_rest 5 = .ok (.aload_n 0, 1) := by decide +kernel
theorem dX5_rest_6 : decode cX5_rest 6 = .ok (.iconst (-1), 1) := by decide +kernel
theorem dX5_rest_7 : decode cX5_rest 7 = .ok (.iload_n 1, 1) := by decide +kernel
theorem dX5_rest_8 : decode cX5_rest 8 = .ok (.iload_n 2, 1) := by decide +kernel
theorem dX5_rest_9 : decode cX5_rest 9 = .ok (.i2l, 1) := by decide +kernel
theorem dX5_rest_10 : decode cX5_rest 10 = .ok (.iconst 2, 1) := by decide +kernel
theorem dX5_rest_11 : decode cX5_rest 11 = .ok (.invokevirtual 109, 3) := by decide +kernel
theorem dX5_rest_14 : decode cX5_rest 14 = .ok (.ireturn, 1) := by decide +kernel
theorem dX5_held_0 : decode cX5_held 0 = .ok (.iconst 0, 1) := by decide +kernel
theorem dX5_held_1 : decode cX5_held 1 = .ok (.istore_n 2, 1) := by decide +kernel
theorem dX5_held_2 : decode cX5_held 2 = .ok (.iload_n 2, 1) := by decide +kernel
theorem dX5_held_3 : decode cX5_held 3 = .ok (.aload_n 0, 1) := by decide +kernel
theorem dX5_held_4 : decode cX5_held 4 = .ok (.getfield 106, 3) := by decide +kernel
theorem dX5_held_7 : decode cX5_held 7 = .ok (.if_icmp .ge 62, 3) := by decide +kernel
theorem dX5_held_10 : decode cX5_held 10 = .ok (.aload_n 0, 1) := by decide +kernel
theorem dX5_held_11 : decode cX5_held 11 = .ok (.getfield 56, 3) := by decide +kernel
theorem dX5_held_14 : decode cX5_held 14 = .ok (.iload_n 2, 1) := by decide +kernel
theorem dX5_held_15 : decode cX5_held 15 = .ok (.iaload, 1) := by decide +kernel
theorem dX5_held_16 : decode cX5_held 16 = .ok (.iconst (-1), 1) := by decide +kernel
theorem dX5_held_17 : decode cX5_held 17 = .ok (.if_icmp .eq 13, 3) := by decide +kernel
theorem dX5_held_20 : decode cX5_held 20 = .ok (.aload_n 0, 1) := by decide +kernel
theorem dX5_held_21 : decode cX5_held 21 = .ok (.getfield 56, 3) := by decide +kernel
theorem dX5_held_24 : decode cX5_held 24 = .ok (.iload_n 2, 1) := by decide +kernel
theorem dX5_held_25 : decode cX5_held 25 = .ok (.iaload, 1) := by decide +kernel
theorem dX5_held_26 : decode cX5_held 26 = .ok (.iload_n 1, 1) := by decide +kernel
theorem dX5_held_27 : decode cX5_held 27 = .ok (.if_icmp .ne 36, 3) := by decide +kernel
theorem dX5_held_30 : decode cX5_held 30 = .ok (.aload_n 0, 1) := by decide +kernel
theorem dX5_held_31 : decode cX5_held 31 = .ok (.getfield 59, 3) := by decide +kernel
theorem dX5_held_34 : decode cX5_held 34 = .ok (.iload_n 2, 1) := by decide +kernel
theorem dX5_held_35 : decode cX5_held 35 = .ok (.iaload, 1) := by decide +kernel
theorem dX5_held_36 : decode cX5_held 36 = .ok (.aload_n 0, 1) := by decide +kernel
theorem dX5_held_37 : decode cX5_held 37 = .ok (.getfield 94, 3) := by decide +kernel
theorem dX5_held_40 : decode cX5_held 40 = .ok (.if_icmp .gt 23, 3) := by decide +kernel
theorem dX5_held_43 : decode cX5_held 43 = .ok (.aload_n 0, 1) := by decide +kernel
theorem dX5_held_44 : decode cX5_held 44 = .ok (.getfield 94, 3) := by decide +kernel
theorem dX5_held_47 : decode cX5_held 47 = .ok (.aload_n 0, 1) := by decide +kernel
theorem dX5_held_48 : decode cX5_held 48 = .ok (.getfield 62, 3) := by decide +kernel
theorem dX5_held_51 : decode cX5_held 51 = .ok (.iload_n 2, 1) := by decide +kernel
theorem dX5_held_52 : decode cX5_held 52 = .ok (.iaload, 1) := by decide +kernel
theorem dX5_held_53 : decode cX5_held 53 = .ok (.if_icmp .ge 10, 3) := by decide +kernel
theorem dX5_held_56 : decode cX5_held 56 = .ok (.aload_n 0, 1) := by decide +kernel
theorem dX5_held_57 : decode cX5_held 57 = .ok (.getfield 65, 3) := by decide +kernel
theorem dX5_held_60 : decode cX5_held 60 = .ok (.iload_n 2, 1) := by decide +kernel
theorem dX5_held_61 : decode cX5_held 61 = .ok (.iaload, 1) := by decide +kernel
theorem dX5_held_62 : decode cX5_held 62 = .ok (.ireturn, 1) := by decide +kernel
theorem dX5_held_63 : decode cX5_held 63 = .ok (.iinc 2 1, 3) := by decide +kernel
theorem dX5_held_66 : decode cX5_held 66 = .ok (.goto (-64), 3) := by decide +kernel
theorem dX5_held_69 : decode cX5_held 69 = .ok (.iconst (-1), 1) := by decide +kernel
theorem dX5_held_70 : decode cX5_held 70 = .ok (.ireturn, 1) := by decide +kernel
theorem dX5_note_0 : decode cX5_note 0 = .ok (.aload_n 0, 1) := by decide +kernel
theorem dX5_note_1 : decode cX5_note 1 = .ok (.getfield 114, 3) := by decide +kernel
theorem dX5_note_4 : decode cX5_note 4 = .ok (.sipush 1000, 3) := by decide +kernel
theorem dX5_note_7 : decode cX5_note 7 = .ok (.if_icmp .ge 36, 3) := by decide +kernel
theorem dX5_note_10 : decode cX5_note 10 = .ok (.aload_n 0, 1) := by decide +kernel
theorem dX5_note_11 : decode cX5_note 11 = .ok (.getfield 74, 3) := by decide +kernel
theorem dX5_note_14 : decode cX5_note 14 = .ok (.aload_n 0, 1) := by decide +kernel
theorem dX5_note_15 : decode cX5_note 15 = .ok (.getfield 114, 3) := by decide +kernel
theorem dX5_note_18 : decode cX5_note 18 = .ok (.aload_n 0, 1) := by decide +kernel
theorem dX5_note_19 : decode cX5_note 19 = .ok (.getfield 94, 3) := by decide +kernel
theorem dX5_note_22 : decode cX5_note 22 = .ok (.iastore, 1) := by decide +kernel
theorem dX5_note_23 : decode cX5_note 23 = .ok (.aload_n 0, 1) := by decide +kernel
theorem dX5_note_24 : decode cX5_note 24 = .ok (.getfield 77, 3) := by decide +kernel
theorem dX5_note_27 : decode cX5_note 27 = .ok (.aload_n 0, 1) := by decide +kernel
theorem dX5_note_28 : decode cX5_note 28 = .ok (.getfield 114, 3) := by decide +kernel
theorem dX5_note_31 : decode cX5_note 31 = .ok (.iload_n 1, 1) := by decide +kernel
theorem dX5_note_32 : decode cX5_note 32 = .ok (.iastore, 1) := by decide +kernel
theorem dX5_note_33 : decode cX5_note 33 = .ok (.aload_n 0, 1) := by decide +kernel
theorem dX5_note_34 : decode cX5_note 34 = .ok (.getfield 80, 3) := by decide +kernel
theorem dX5_note_37 : decode cX5_note 37 = .ok (.aload_n 0, 1) := by decide +kernel
theorem dX5_note_38 : decode cX5_note 38 = .ok (.getfield 114, 3) := by decide +kernel
theorem dX5_note_41 : decode cX5_note 41 = .ok (.iload_n 2, 1) := by decide +kernel
theorem dX5_note_42 : decode cX5_note 42 = .ok (.iastore, 1) := by decide +kernel
theorem dX5_note_43 : decode cX5_note 43 = .ok (.aload_n 0, 1) := by decide +kernel
theorem dX5_note_44 : decode cX5_note 44 = .ok (.dup, 1) := by decide +kernel
theorem dX5_note_45 : decode cX5_note 45 = .ok (.getfield 114, 3) := by decide +kernel
theorem dX5_note_48 : decode cX5_note 48 = .ok (.iconst 1, 1) := by decide +kernel
theorem dX5_note_49 : decode cX5_note 49 = .ok (.iadd, 1) := by decide +kernel
theorem dX5_note_50 : decode cX5_note 50 = .ok (.putfield 114, 3) := by decide +kernel
theorem dX5_note_53 : decode cX5_note 53 = .ok (.return_, 1) := by decide +kernel
theorem dX5_draw_0 : decode cX5_draw 0 = .ok (.aload_n 0, 1) := by decide +kernel
theorem dX5_draw_1 : decode cX5_draw 1 = .ok (.aload_n 0, 1) := by decide +kernel
theorem dX5_draw_2 : decode cX5_draw 2 = .ok (.getfield 83, 3) := by decide +kernel
theorem dX5_draw_5 : decode cX5_draw 5 = .ok (.ldc2_w 117, 3) := by decide +kernel
theorem dX5_draw_8 : decode cX5_draw 8 = .ok (.lmul, 1) := by decide +kernel
theorem dX5_draw_9 : decode cX5_draw 9 = .ok (.ldc2_w 119, 3) := by decide +kernel
theorem dX5_draw_12 : decode cX5_draw 12 = .ok (.ladd, 1) := by decide +kernel
theorem dX5_draw_13 : decode cX5_draw 13 = .ok (.putfield 83, 3) := by decide +kernel
theorem dX5_draw_16 : decode cX5_draw 16 = .ok (.aload_n 0, 1) := by decide +kernel
theorem dX5_draw_17 : decode cX5_draw 17 = .ok (.getfield 83, 3) := by decide +kernel
theorem dX5_draw_20 : decode cX5_draw 20 = .ok (.bipush 33, 2) := by decide +kernel
theorem dX5_draw_22 : decode cX5_draw 22 = .ok (.lushr, 1) := by decide +kernel
theorem dX5_draw_23 : decode cX5_draw 23 = .ok (.lload_n 1, 1) := by decide +kernel
theorem dX5_draw_24 : decode cX5_draw 24 = .ok (.lrem, 1) := by decide +kernel
theorem dX5_draw_25 : decode cX5_draw 25 = .ok (.lreturn, 1) := by decide +kernel
set_option maxRecDepth 20000 in
theorem ggX5_judge_X5_draw : GoodIn wsX5_judge wsX5_draw := goodIn_r _ [13, 14, 15, 16, 25, 26, 27, 28, 29, 30, 31, 32, 33, 34, 35, 36, 37, 38, 39, 40, 41, 42, 43, 44, 45, 46, 47, 48, 49, 50, 51, 52, 53, 54, 55, 56] (by decide +kernel) (by decide +kernel)
set_option maxRecDepth 20000 in
theorem gX5_judge_X5_draw : GoodIn wsX5_judge (wsV RX5 121 RX5 yX5_draw wsX5_draw) := goodIn_app (goodIn_of _ (by decide +kernel)) ggX5_judge_X5_draw
set_option maxRecDepth 20000 in
theorem ggX5_judge_X5_note : GoodIn wsX5_judge wsX5_note := goodIn_r _ [20, 21, 22, 8, 23, 24, 25, 26, 27, 28, 29, 30, 31, 32, 33, 34, 35, 36, 37, 38, 39, 40, 41, 42, 43, 44, 45, 46, 47, 48, 49, 50, 51, 52, 53, 54, 55, 56] (by decide +kernel) (by decide +kernel)
set_option maxRecDepth 20000 in
theorem gX5_judge_X5_note : GoodIn wsX5_judge (wsV RX5 125 RX5 yX5_note wsX5_note) := goodIn_app (goodIn_of _ (by decide +kernel)) ggX5_judge_X5_note
theorem dX5_judge_0 : decode cX5_judge 0 = .ok (.aload_n 0, 1) := by decide +kernel
theorem dX5_judge_1 : decode cX5_judge 1 = .ok (.getfield 25, 3) := by decide +kernel
theorem dX5_judge_4 : decode cX5_judge 4 = .ok (.iload_n 1, 1) := by decide +kernel
theorem dX5_judge_5 : decode cX5_judge 5 = .ok (.iconst 2, 1) := by decide +kernel
theorem dX5_judge_6 : decode cX5_judge 6 = .ok (.iastore, 1) := by decide +kernel
theorem dX5_judge_7 : decode cX5_judge 7 = .ok (.iconst 0, 1) := by decide +kernel
theorem dX5_judge_8 : decode cX5_judge 8 = .ok (.istore_n 2, 1) := by decide +kernel
theorem dX5_judge_9 : decode cX5_judge 9 = .ok (.iconst 0, 1) := by decide +kernel
theorem dX5_judge_10 : decode cX5_judge 10 = .ok (.istore_n 3, 1) := by decide +kernel
theorem dX5_judge_11 : decode cX5_judge 11 = .ok (.iload_n 3, 1) := by decide +kernel
theorem dX5_judge_12 : decode cX5_judge 12 = .ok (.aload_n 0, 1) := by decide +kernel
theorem dX5_judge_13 : decode cX5_judge 13 = .ok (.getfield 53, 3) := by decide +kernel
theorem dX5_judge_16 : decode cX5_judge 16 = .ok (.iload_n 1, 1) := by decide +kernel
theorem dX5_judge_17 : decode cX5_judge 17 = .ok (.iaload, 1) := by decide +kernel
theorem dX5_judge_18 : decode cX5_judge 18 = .ok (.if_icmp .ge 113, 3) := by decide +kernel
theorem dX5_judge_21 : decode cX5_judge 21 = .ok (.iload_n 1, 1) := by decide +kernel
theorem dX5_judge_22 : decode cX5_judge 22 = .ok (.iconst 4, 1) := by decide +kernel
theorem dX5_judge_23 : decode cX5_judge 23 = .ok (.imul, 1) := by decide +kernel
theorem dX5_judge_24 : decode cX5_judge 24 = .ok (.iload_n 3, 1) := by decide +kernel
theorem dX5_judge_25 : decode cX5_judge 25 = .ok (.iadd, 1) := by decide +kernel
theorem dX5_judge_26 : decode cX5_judge 26 = .ok (.istore 4, 2) := by decide +kernel
theorem dX5_judge_28 : decode cX5_judge 28 = .ok (.aload_n 0, 1) := by decide +kernel
theorem dX5_judge_29 : decode cX5_judge 29 = .ok (.aload_n 0, 1) := by decide +kernel
theorem dX5_judge_30 : decode cX5_judge 30 = .ok (.getfield 47, 3) := by decide +kernel
theorem dX5_judge_33 : decode cX5_judge 33 = .ok (.iload 4, 2) := by decide +kernel
theorem dX5_judge_35 : decode cX5_judge 35 = .ok (.laload, 1) := by decide +kernel
theorem dX5_judge_36 : decode cX5_judge 36 = .ok (.invokevirtual 121, 3) := by decide +kernel
theorem dX5_judge_39 : decode cX5_judge 39 = .ok (.aload_n 0, 1) := by decide +kernel
theorem dX5_judge_40 : decode cX5_judge 40 = .ok (.getfield 43, 3) := by decide +kernel
theorem dX5_judge_43 : decode cX5_judge 43 = .ok (.iload 4, 2) := by decide +kernel
theorem dX5_judge_45 : decode cX5_judge 45 = .ok (.laload, 1) := by decide +kernel
theorem dX5_judge_46 : decode cX5_judge 46 = .ok (.lcmp, 1) := by decide +kernel
theorem dX5_judge_47 : decode cX5_judge 47 = .ok (.ifCond .ge 7, 3) := by decide +kernel
theorem dX5_judge_50 : decode cX5_judge 50 = .ok (.iconst 1, 1) := by decide +kernel
theorem dX5_judge_51 : decode cX5_judge 51 = .ok (.goto 4, 3) := by decide +kernel
theorem dX5_judge_54 : decode cX5_judge 54 = .ok (.iconst 0, 1) := by decide +kernel
theorem dX5_judge_55 : decode cX5_judge 55 = .ok (.istore 5, 2) := by decide +kernel
theorem dX5_judge_57 : decode cX5_judge 57 = .ok (.iload 5, 2) := by decide +kernel
theorem dX5_judge_59 : decode cX5_judge 59 = .ok (.ifCond .eq 38, 3) := by decide +kernel
theorem dX5_judge_62 : decode cX5_judge 62 = .ok (.aload_n 0, 1) := by decide +kernel
theorem dX5_judge_63 : decode cX5_judge 63 = .ok (.getfield 50, 3) := by decide +kernel
theorem dX5_judge_66 : decode cX5_judge 66 = .ok (.iload 4, 2) := by decide +kernel
theorem dX5_judge_68 : decode cX5_judge 68 = .ok (.iaload, 1) := by decide +kernel
theorem dX5_judge_69 : decode cX5_judge 69 = .ok (.ifCond .ne 28, 3) := by decide +kernel
theorem dX5_judge_72 : decode cX5_judge 72 = .ok (.aload_n 0, 1) := by decide +kernel
theorem dX5_judge_73 : decode cX5_judge 73 = .ok (.getfield 25, 3) := by decide +kernel
theorem dX5_judge_76 : decode cX5_judge 76 = .ok (.iload_n 1, 1) := by decide +kernel
theorem dX5_judge_77 : decode cX5_judge 77 = .ok (.iconst 0, 1) := by decide +kernel
theorem dX5_judge_78 : decode cX5_judge 78 = .ok (.iastore, 1) := by decide +kernel
theorem dX5_judge_79 : decode cX5_judge 79 = .ok (.aload_n 0, 1) := by decide +kernel
theorem dX5_judge_80 : decode cX5_judge 80 = .ok (.getfield 71, 3) := by decide +kernel
theorem dX5_judge_83 : decode cX5_judge 83 = .ok (.iload_n 1, 1) := by decide +kernel
theorem dX5_judge_84 : decode cX5_judge 84 = .ok (.dup2, 1) := by decide +kernel
theorem dX5_judge_85 : decode cX5_judge 85 = .ok (.laload, 1) := by decide +kernel
theorem dX5_judge_86 : decode cX5_judge 86 = .ok (.lconst 1, 1) := by decide +kernel
theorem dX5_judge_87 : decode cX5_judge 87 = .ok (.ladd, 1) := by decide +kernel
theorem dX5_judge_88 : decode cX5_judge 88 = .ok (.lastore, 1) := by decide +kernel
theorem dX5_judge_89 : decode cX5_judge 89 = .ok (.aload_n 0, 1) := by decide +kernel
theorem dX5_judge_90 : decode cX5_judge 90 = .ok (.iload_n 1, 1) := by decide +kernel
theorem dX5_judge_91 : decode cX5_judge 91 = .ok (.iconst 2, 1) := by decide +kernel
theorem dX5_judge_92 : decode cX5_judge 92 = .ok (.invokevirtual 125, 3) := by decide +kernel
theorem dX5_judge_95 : decode cX5_judge 95 = .ok (.iconst 0, 1) := by decide +kernel
theorem dX5_judge_96 : decode cX5_judge 96 = .ok (.ireturn, 1) := by decide +kernel
theorem dX5_judge_97 : decode cX5_judge 97 = .ok (.iload 5, 2) := by decide +kernel
theorem dX5_judge_99 : decode cX5_judge 99 = .ok (.ifCond .eq 24, 3) := by decide +kernel
theorem dX5_judge_102 : decode cX5_judge 102 = .ok (.aload_n 0, 1) := by decide +kernel
theorem dX5_judge_103 : decode cX5_judge 103 = .ok (.getfield 50, 3) := by decide +kernel
theorem dX5_judge_106 : decode cX5_judge 106 = .ok (.iload 4, 2) := by decide +kernel
theorem dX5_judge_108 : decode cX5_judge 108 = .ok (.iaload, 1) := by decide +kernel
theorem dX5_judge_109 : decode cX5_judge 109 = .ok (.iload_n 2, 1) := by decide +kernel
theorem dX5_judge_110 : decode cX5_judge 110 = .ok (.if_icmp .le 13, 3) := by decide +kernel
theorem dX5_judge_113 : decode cX5_judge 113 = .ok (.aload_n 0, 1) := by decide +kernel
theorem dX5_judge_114 : decode cX5_judge 114 = .ok (.getfield 50, 3) := by decide +kernel
theorem dX5_judge_117 : decode cX5_judge 117 = .ok (.iload 4, 2) := by decide +kernel
theorem dX5_judge_119 : decode cX5_judge 119 = .ok (.iaload, 1) := by decide +kernel
theorem dX5_judge_120 : decode cX5_judge 120 = .ok (.goto 4, 3) := by decide +kernel
theorem dX5_judge_123 : decode cX5_judge 123 = .ok (.iload_n 2, 1) := by decide +kernel
theorem dX5_judge_124 : decode cX5_judge 124 = .ok (.istore_n 2, 1) := by decide +kernel
theorem dX5_judge_125 : decode cX5_judge 125 = .ok (.iinc 3 1, 3) := by decide +kernel
theorem dX5_judge_128 : decode cX5_judge 128 = .ok (.goto (-117), 3) := by decide +kernel
theorem dX5_judge_131 : decode cX5_judge 131 = .ok (.iload_n 2, 1) := by decide +kernel
theorem dX5_judge_132 : decode cX5_judge 132 = .ok (.ifCond .le 21, 3) := by decide +kernel
theorem dX5_judge_135 : decode cX5_judge 135 = .ok (.aload_n 0, 1) := by decide +kernel
theorem dX5_judge_136 : decode cX5_judge 136 = .ok (.getfield 31, 3) := by decide +kernel
theorem dX5_judge_139 : decode cX5_judge 139 = .ok (.iload_n 1, 1) := by decide +kernel
theorem dX5_judge_140 : decode cX5_judge 140 = .ok (.aload_n 0, 1) := by decide +kernel
theorem dX5_judge_141 : decode cX5_judge 141 = .ok (.getfield 94, 3) := by decide +kernel
theorem dX5_judge_144 : decode cX5_judge 144 = .ok (.iload_n 2, 1) := by decide +kernel
theorem dX5_judge_145 : decode cX5_judge 145 = .ok (.iadd, 1) := by decide +kernel
theorem dX5_judge_146 : decode cX5_judge 146 = .ok (.iastore, 1) := by decide +kernel
theorem dX5_judge_147 : decode cX5_judge 147 = .ok (.aload_n 0, 1) := by decide +kernel
theorem dX5_judge_148 : decode cX5_judge 148 = .ok (.iload_n 1, 1) := by decide +kernel
theorem dX5_judge_149 : decode cX5_judge 149 = .ok (.iconst 3, 1) := by decide +kernel
theorem dX5_judge_150 : decode cX5_judge 150 = .ok (.invokevirtual 125, 3) := by decide +kernel
theorem dX5_judge_153 : decode cX5_judge 153 = .ok (.iload_n 2, 1) := by decide +kernel
theorem dX5_judge_154 : decode cX5_judge 154 = .ok (.ifCond .le 7, 3) := by decide +kernel
theorem dX5_judge_157 : decode cX5_judge 157 = .ok (.iconst 1, 1) := by decide +kernel
theorem dX5_judge_158 : decode cX5_judge 158 = .ok (.goto 4, 3) := by decide +kernel
theorem dX5_judge_161 : decode cX5_judge 161 = .ok (.iconst 0, 1) := by decide +kernel
theorem dX5_judge_162 : decode cX5_judge 162 = .ok (.ireturn, 1) := by decide +kernel
set_option maxRecDepth 20000 in
theorem ggX5_leave_X5_note : GoodIn wsX5_leave wsX5_note := goodIn_r _ [13, 14, 15, 7, 16, 17, 18, 19, 20, 21, 22, 23, 24, 25, 26, 27, 28, 29, 30, 31, 32, 33, 34, 35, 36, 37, 38, 39, 40, 41, 42, 43, 44, 45, 46, 47, 48, 49] (by decide +kernel) (by decide +kernel)
set_option maxRecDepth 20000 in
theorem gX5_leave_X5_note : GoodIn wsX5_leave (wsV RX5 125 RX5 yX5_note wsX5_note) := goodIn_app (goodIn_of _ (by decide +kernel)) ggX5_leave_X5_note
theorem dX5_leave_0 : decode cX5_leave 0 = .ok (.aload_n 0, 1) := by decide +kernel
theorem dX5_leave_1 : decode cX5_leave 1 = .ok (.getfield 16, 3) := by decide +kernel
theorem dX5_leave_4 : decode cX5_leave 4 = .ok (.iload_n 1, 1) := by decide +kernel
theorem dX5_leave_5 : decode cX5_leave 5 = .ok (.iaload, 1) := by decide +kernel
theorem dX5_leave_6 : decode cX5_leave 6 = .ok (.iconst (-1), 1) := by decide +kernel
theorem dX5_leave_7 : decode cX5_leave 7 = .ok (.if_icmp .ne 16, 3) := by decide +kernel
theorem dX5_leave_10 : decode cX5_leave 10 = .ok (.aload_n 0, 1) := by decide +kernel
theorem dX5_leave_11 : decode cX5_leave 11 = .ok (.dup, 1) := by decide +kernel
theorem dX5_leave_12 : decode cX5_leave 12 = .ok (.getfield 129, 3) := by decide +kernel
theorem dX5_leave_15 : decode cX5_leave 15 = .ok (.lconst 1, 1) := by decide +kernel
theorem dX5_leave_16 : decode cX5_leave 16 = .ok (.ladd, 1) := by decide +kernel
theorem dX5_leave_17 : decode cX5_leave 17 = .ok (.putfield 129, 3) := by decide +kernel
theorem dX5_leave_20 : decode cX5_leave 20 = .ok (.goto 64, 3) := by decide +kernel
theorem dX5_leave_23 : decode cX5_leave 23 = .ok (.aload_n 0, 1) := by decide +kernel
theorem dX5_leave_24 : decode cX5_leave 24 = .ok (.getfield 40, 3) := by decide +kernel
theorem dX5_leave_27 : decode cX5_leave 27 = .ok (.iload_n 1, 1) := by decide +kernel
theorem dX5_leave_28 : decode cX5_leave 28 = .ok (.iaload, 1) := by decide +kernel
theorem dX5_leave_29 : decode cX5_leave 29 = .ok (.aload_n 0, 1) := by decide +kernel
theorem dX5_leave_30 : decode cX5_leave 30 = .ok (.getfield 19, 3) := by decide +kernel
theorem dX5_leave_33 : decode cX5_leave 33 = .ok (.iload_n 1, 1) := by decide +kernel
theorem dX5_leave_34 : decode cX5_leave 34 = .ok (.iaload, 1) := by decide +kernel
theorem dX5_leave_35 : decode cX5_leave 35 = .ok (.if_icmp .ge 48, 3) := by decide +kernel
theorem dX5_leave_38 : decode cX5_leave 38 = .ok (.aload_n 0, 1) := by decide +kernel
theorem dX5_leave_39 : decode cX5_leave 39 = .ok (.getfield 34, 3) := by decide +kernel
theorem dX5_leave_42 : decode cX5_leave 42 = .ok (.iload_n 1, 1) := by decide +kernel
theorem dX5_leave_43 : decode cX5_leave 43 = .ok (.sipush 1000, 3) := by decide +kernel
theorem dX5_leave_46 : decode cX5_leave 46 = .ok (.imul, 1) := by decide +kernel
theorem dX5_leave_47 : decode cX5_leave 47 = .ok (.aload_n 0, 1) := by decide +kernel
theorem dX5_leave_48 : decode cX5_leave 48 = .ok (.getfield 37, 3) := by decide +kernel
theorem dX5_leave_51 : decode cX5_leave 51 = .ok (.iload_n 1, 1) := by decide +kernel
theorem dX5_leave_52 : decode cX5_leave 52 = .ok (.iaload, 1) := by decide +kernel
theorem dX5_leave_53 : decode cX5_leave 53 = .ok (.aload_n 0, 1) := by decide +kernel
theorem dX5_leave_54 : decode cX5_leave 54 = .ok (.getfield 40, 3) := by decide +kernel
theorem dX5_leave_57 : decode cX5_leave 57 = .ok (.iload_n 1, 1) := by decide +kernel
theorem dX5_leave_58 : decode cX5_leave 58 = .ok (.iaload, 1) := by decide +kernel
theorem dX5_leave_59 : decode cX5_leave 59 = .ok (.iadd, 1) := by decide +kernel
theorem dX5_leave_60 : decode cX5_leave 60 = .ok (.sipush 1000, 3) := by decide +kernel
theorem dX5_leave_63 : decode cX5_leave 63 = .ok (.irem, 1) := by decide +kernel
theorem dX5_leave_64 : decode cX5_leave 64 = .ok (.iadd, 1) := by decide +kernel
theorem dX5_leave_65 : decode cX5_leave 65 = .ok (.aload_n 0, 1) := by decide +kernel
theorem dX5_leave_66 : decode cX5_leave 66 = .ok (.getfield 94, 3) := by decide +kernel
theorem dX5_leave_69 : decode cX5_leave 69 = .ok (.iastore, 1) := by decide +kernel
theorem dX5_leave_70 : decode cX5_leave 70 = .ok (.aload_n 0, 1) := by decide +kernel
theorem dX5_leave_71 : decode cX5_leave 71 = .ok (.getfield 40, 3) := by decide +kernel
theorem dX5_leave_74 : decode cX5_leave 74 = .ok (.iload_n 1, 1) := by decide +kernel
theorem dX5_leave_75 : decode cX5_leave 75 = .ok (.dup2, 1) := by decide +kernel
theorem dX5_leave_76 : decode cX5_leave 76 = .ok (.iaload, 1) := by decide +kernel
theorem dX5_leave_77 : decode cX5_leave 77 = .ok (.iconst 1, 1) := by decide +kernel
theorem dX5_leave_78 : decode cX5_leave 78 = .ok (.iadd, 1) := by decide +kernel
theorem dX5_leave_79 : decode cX5_leave 79 = .ok (.iastore, 1) := by decide +kernel
theorem dX5_leave_80 : decode cX5_leave 80 = .ok (.goto 4, 3) := by decide +kernel
theorem dX5_leave_83 : decode cX5_leave 83 = .ok (.return_, 1) := by decide +kernel
theorem dX5_leave_84 : decode cX5_leave 84 = .ok (.aload_n 0, 1) := by decide +kernel
theorem dX5_leave_85 : decode cX5_leave 85 = .ok (.getfield 25, 3) := by decide +kernel
theorem dX5_leave_88 : decode cX5_leave 88 = .ok (.iload_n 1, 1) := by decide +kernel
theorem dX5_leave_89 : decode cX5_leave 89 = .ok (.iconst 0, 1) := by decide +kernel
theorem dX5_leave_90 : decode cX5_leave 90 = .ok (.iastore, 1) := by decide +kernel
theorem dX5_leave_91 : decode cX5_leave 91 = .ok (.aload_n 0, 1) := by decide +kernel
theorem dX5_leave_92 : decode cX5_leave 92 = .ok (.iload_n 1, 1) := by decide +kernel
theorem dX5_leave_93 : decode cX5_leave 93 = .ok (.iconst 1, 1) := by decide +kernel
theorem dX5_leave_94 : decode cX5_leave 94 = .ok (.invokevirtual 125, 3) := by decide +kernel
theorem dX5_leave_97 : decode cX5_leave 97 = .ok (.return_, 1) := by decide +kernel
set_option maxRecDepth 20000 in
theorem ggX5_take_X5_note : GoodIn wsX5_take wsX5_note := goodIn_r _ [14, 15, 16, 4, 17, 18, 19, 20, 21, 22, 23, 24, 25, 26, 27, 28, 29, 30, 31, 32, 33, 34, 35, 36, 37, 38, 39, 40, 41, 42, 43, 44, 45, 46, 47, 48, 49, 50] (by decide +kernel) (by decide +kernel)
set_option maxRecDepth 20000 in
theorem gX5_take_X5_note : GoodIn wsX5_take (wsV RX5 125 RX5 yX5_note wsX5_note) := goodIn_app (goodIn_of _ (by decide +kernel)) ggX5_take_X5_note
theorem dX5_take_0 : decode cX5_take 0 = .ok (.aload_n 0, 1) := by decide +kernel
theorem dX5_take_1 : decode cX5_take 1 = .ok (.getfield 13, 3) := by decide +kernel
theorem dX5_take_4 : decode cX5_take 4 = .ok (.iload_n 1, 1) := by decide +kernel
theorem dX5_take_5 : decode cX5_take 5 = .ok (.iaload, 1) := by decide +kernel
theorem dX5_take_6 : decode cX5_take 6 = .ok (.istore_n 2, 1) := by decide +kernel
theorem dX5_take_7 : decode cX5_take 7 = .ok (.iload_n 2, 1) := by decide +kernel
theorem dX5_take_8 : decode cX5_take 8 = .ok (.iconst (-1), 1) := by decide +kernel
theorem dX5_take_9 : decode cX5_take 9 = .ok (.if_icmp .ne 16, 3) := by decide +kernel
theorem dX5_take_12 : decode cX5_take 12 = .ok (.aload_n 0, 1) := by decide +kernel
theorem dX5_take_13 : decode cX5_take 13 = .ok (.dup, 1) := by decide +kernel
theorem dX5_take_14 : decode cX5_take 14 = .ok (.getfield 132, 3) := by decide +kernel
theorem dX5_take_17 : decode cX5_take 17 = .ok (.lconst 1, 1) := by decide +kernel
theorem dX5_take_18 : decode cX5_take 18 = .ok (.ladd, 1) := by decide +kernel
theorem dX5_take_19 : decode cX5_take 19 = .ok (.putfield 132, 3) := by decide +kernel
theorem dX5_take_22 : decode cX5_take 22 = .ok (.goto 89, 3) := by decide +kernel
theorem dX5_take_25 : decode cX5_take 25 = .ok (.aload_n 0, 1) := by decide +kernel
theorem dX5_take_26 : decode cX5_take 26 = .ok (.getfield 40, 3) := by decide +kernel
theorem dX5_take_29 : decode cX5_take 29 = .ok (.iload_n 2, 1) := by decide +kernel
theorem dX5_take_30 : decode cX5_take 30 = .ok (.iaload, 1) := by decide +kernel
theorem dX5_take_31 : decode cX5_take 31 = .ok (.ifCond .ne 10, 3) := by decide +kernel
theorem dX5_take_34 : decode cX5_take 34 = .ok (.aload_n 0, 1) := by decide +kernel
theorem dX5_take_35 : decode cX5_take 35 = .ok (.getfield 94, 3) := by decide +kernel
theorem dX5_take_38 : decode cX5_take 38 = .ok (.goto 20, 3) := by decide +kernel
theorem dX5_take_41 : decode cX5_take 41 = .ok (.aload_n 0, 1) := by decide +kernel
theorem dX5_take_42 : decode cX5_take 42 = .ok (.getfield 34, 3) := by decide +kernel
theorem dX5_take_45 : decode cX5_take 45 = .ok (.iload_n 2, 1) := by decide +kernel
theorem dX5_take_46 : decode cX5_take 46 = .ok (.sipush 1000, 3) := by decide +kernel
theorem dX5_take_49 : decode cX5_take 49 = .ok (.imul, 1) := by decide +kernel
theorem dX5_take_50 : decode cX5_take 50 = .ok (.aload_n 0, 1) := by decide +kernel
theorem dX5_take_51 : decode cX5_take 51 = .ok (.getfield 37, 3) := by decide +kernel
theorem dX5_take_54 : decode cX5_take 54 = .ok (.iload_n 2, 1) := by decide +kernel
theorem dX5_take_55 : decode cX5_take 55 = .ok (.iaload, 1) := by decide +kernel
theorem dX5_take_56 : decode cX5_take 56 = .ok (.iadd, 1) := by decide +kernel
theorem dX5_take_57 : decode cX5_take 57 = .ok (.iaload, 1) := by decide +kernel
theorem dX5_take_58 : decode cX5_take 58 = .ok (.istore_n 3, 1) := by decide +kernel
theorem dX5_take_59 : decode cX5_take 59 = .ok (.iload_n 3, 1) := by decide +kernel
theorem dX5_take_60 : decode cX5_take 60 = .ok (.aload_n 0, 1) := by decide +kernel
theorem dX5_take_61 : decode cX5_take 61 = .ok (.getfield 94, 3) := by decide +kernel
theorem dX5_take_64 : decode cX5_take 64 = .ok (.if_icmp .ge 18, 3) := by decide +kernel
theorem dX5_take_67 : decode cX5_take 67 = .ok (.aload_n 0, 1) := by decide +kernel
theorem dX5_take_68 : decode cX5_take 68 = .ok (.getfield 94, 3) := by decide +kernel
theorem dX5_take_71 : decode cX5_take 71 = .ok (.iload_n 3, 1) := by decide +kernel
theorem dX5_take_72 : decode cX5_take 72 = .ok (.isub, 1) := by decide +kernel
theorem dX5_take_73 : decode cX5_take 73 = .ok (.aload_n 0, 1) := by decide +kernel
theorem dX5_take_74 : decode cX5_take 74 = .ok (.getfield 22, 3) := by decide +kernel
theorem dX5_take_77 : decode cX5_take 77 = .ok (.iload_n 2, 1) := by decide +kernel
theorem dX5_take_78 : decode cX5_take 78 = .ok (.iaload, 1) := by decide +kernel
theorem dX5_take_79 : decode cX5_take 79 = .ok (.if_icmp .ge 4, 3) := by decide +kernel
theorem dX5_take_82 : decode cX5_take 82 = .ok (.return_, 1) := by decide +kernel
theorem dX5_take_83 : decode cX5_take 83 = .ok (.aload_n 0, 1) := by decide +kernel
theorem dX5_take_84 : decode cX5_take 84 = .ok (.getfield 37, 3) := by decide +kernel
theorem dX5_take_87 : decode cX5_take 87 = .ok (.iload_n 2, 1) := by decide +kernel
theorem dX5_take_88 : decode cX5_take 88 = .ok (.aload_n 0, 1) := by decide +kernel
theorem dX5_take_89 : decode cX5_take 89 = .ok (.getfield 37, 3) := by decide +kernel
theorem dX5_take_92 : decode cX5_take 92 = .ok (.iload_n 2, 1) := by decide +kernel
theorem dX5_take_93 : decode cX5_take 93 = .ok (.iaload, 1) := by decide +kernel
theorem dX5_take_94 : decode cX5_take 94 = .ok (.iconst 1, 1) := by decide +kernel
theorem dX5_take_95 : decode cX5_take 95 = .ok (.iadd, 1) := by decide +kernel
theorem dX5_take_96 : decode cX5_take 96 = .ok (.sipush 1000, 3) := by decide +kernel
theorem dX5_take_99 : decode cX5_take 99 = .ok (.irem, 1) := by decide +kernel
theorem dX5_take_100 : decode cX5_take 100 = .ok (.iastore, 1) := by decide +kernel
theorem dX5_take_101 : decode cX5_take 101 = .ok (.aload_n 0, 1) := by decide +kernel
theorem dX5_take_102 : decode cX5_take 102 = .ok (.getfield 40, 3) := by decide +kernel
theorem dX5_take_105 : decode cX5_take 105 = .ok (.iload_n 2, 1) := by decide +kernel
theorem dX5_take_106 : decode cX5_take 106 = .ok (.dup2, 1) := by decide +kernel
theorem dX5_take_107 : decode cX5_take 107 = .ok (.iaload, 1) := by decide +kernel
theorem dX5_take_108 : decode cX5_take 108 = .ok (.iconst 1, 1) := by decide +kernel
theorem dX5_take_109 : decode cX5_take 109 = .ok (.isub, 1) := by decide +kernel
theorem dX5_take_110 : decode cX5_take 110 = .ok (.iastore, 1) := by decide +kernel
theorem dX5_take_111 : decode cX5_take 111 = .ok (.aload_n 0, 1) := by decide +kernel
theorem dX5_take_112 : decode cX5_take 112 = .ok (.getfield 25, 3) := by decide +kernel
theorem dX5_take_115 : decode cX5_take 115 = .ok (.iload_n 1, 1) := by decide +kernel
theorem dX5_take_116 : decode cX5_take 116 = .ok (.iconst 1, 1) := by decide +kernel
theorem dX5_take_117 : decode cX5_take 117 = .ok (.iastore, 1) := by decide +kernel
theorem dX5_take_118 : decode cX5_take 118 = .ok (.aload_n 0, 1) := by decide +kernel
theorem dX5_take_119 : decode cX5_take 119 = .ok (.getfield 28, 3) := by decide +kernel
theorem dX5_take_122 : decode cX5_take 122 = .ok (.iload_n 1, 1) := by decide +kernel
theorem dX5_take_123 : decode cX5_take 123 = .ok (.iconst 0, 1) := by decide +kernel
theorem dX5_take_124 : decode cX5_take 124 = .ok (.iastore, 1) := by decide +kernel
theorem dX5_take_125 : decode cX5_take 125 = .ok (.aload_n 0, 1) := by decide +kernel
theorem dX5_take_126 : decode cX5_take 126 = .ok (.iload_n 1, 1) := by decide +kernel
theorem dX5_take_127 : decode cX5_take 127 = .ok (.iconst 0, 1) := by decide +kernel
theorem dX5_take_128 : decode cX5_take 128 = .ok (.invokevirtual 125, 3) := by decide +kernel
theorem dX5_take_131 : decode cX5_take 131 = .ok (.return_, 1) := by decide +kernel
set_option maxRecDepth 20000 in
theorem ggX5_act_X5_held : GoodIn wsX5_act wsX5_held := goodIn_r _ [10, 11, 12, 13, 2, 14, 15, 57, 58, 59, 60, 61, 62, 63, 64, 65, 66, 67, 68, 69, 70, 71, 72, 73, 74, 75, 76, 77, 78, 79, 80, 81, 82, 83, 84, 85, 86, 87, 88] (by decide +kernel) (by decide +kernel)
set_option maxRecDepth 20000 in
theorem gX5_act_X5_held : GoodIn wsX5_act (wsV RX5 135 RX5 yX5_held wsX5_held) := goodIn_app (goodIn_of _ (by decide +kernel)) ggX5_act_X5_held
set_option maxRecDepth 20000 in
theorem ggX5_act_X5_judge : GoodIn wsX5_act wsX5_judge := goodIn_r _ [19, 3, 20, 21, 22, 23, 24, 1, 2, 25, 26, 27, 9, 28, 29, 30, 31, 32, 33, 34, 35, 36, 37, 38, 39, 57, 58, 59, 60, 61, 62, 63, 64, 65, 66, 67, 68, 69, 70, 71, 72, 73, 74, 75, 76, 77, 78, 79, 80, 81, 82, 83, 84, 85, 86, 87, 88] (by decide +kernel) (by decide +kernel)
set_option maxRecDepth 20000 in
theorem gX5_act_X5_judge : GoodIn wsX5_act (wsV RX5 139 RX5 yX5_judge wsX5_judge) := goodIn_app (goodIn_of _ (by decide +kernel)) ggX5_act_X5_judge
set_option maxRecDepth 20000 in
theorem ggX5_act_X5_leave : GoodIn wsX5_act wsX5_leave := goodIn_r _ [43, 44, 45, 46, 47, 48, 49, 2, 3, 32, 33, 34, 9, 35, 36, 37, 38, 39, 57, 58, 59, 60, 61, 62, 63, 64, 65, 66, 67, 68, 69, 70, 71, 72, 73, 74, 75, 76, 77, 78, 79, 80, 81, 82, 83, 84, 85, 86, 87, 88] (by decide +kernel) (by decide +kernel)
set_option maxRecDepth 20000 in
theorem gX5_act_X5_leave : GoodIn wsX5_act (wsV RX5 142 RX5 yX5_leave wsX5_leave) := goodIn_app (goodIn_of _ (by decide +kernel)) ggX5_act_X5_leave
set_option maxRecDepth 20000 in
theorem ggX5_act_X5_take : GoodIn wsX5_act wsX5_take := goodIn_r _ [53, 54, 55, 46, 2, 48, 49, 56, 3, 4, 32, 33, 34, 9, 35, 36, 37, 38, 39, 57, 58, 59, 60, 61, 62, 63, 64, 65, 66, 67, 68, 69, 70, 71, 72, 73, 74, 75, 76, 77, 78, 79, 80, 81, 82, 83, 84, 85, 86, 87, 88] (by decide +kernel) (by decide +kernel)
set_option maxRecDepth 20000 in
theorem gX5_act_X5_take : GoodIn wsX5_act (wsV RX5 146 RX5 yX5_take wsX5_take) := goodIn_app (goodIn_of _ (by decide +kernel)) ggX5_act_X5_take
theorem dX5_act_0 : decode cX5_act 0 = .ok (.aload_n 0, 1) := by decide +kernel
theorem dX5_act_1 : decode cX5_act 1 = .ok (.iload_n 1, 1) := by decide +kernel
theorem dX5_act_2 : decode cX5_act 2 = .ok (.invokevirtual 135, 3) := by decide +kernel
theorem dX5_act_5 : decode cX5_act 5 = .ok (.iconst (-1), 1) := by decide +kernel
theorem dX5_act_6 : decode cX5_act 6 = .ok (.if_icmp .ne 16, 3) := by decide +kernel
theorem dX5_act_9 : decode cX5_act 9 = .ok (.aload_n 0, 1) := by decide +kernel
theorem dX5_act_10 : decode cX5_act 10 = .ok (.getfield 31, 3) := by decide +kernel
theorem dX5_act_13 : decode cX5_act 13 = .ok (.iload_n 1, 1) := by decide +kernel
theorem dX5_act_14 : decode cX5_act 14 = .ok (.iaload, 1) := by decide +kernel
theorem dX5_act_15 : decode cX5_act 15 = .ok (.aload_n 0, 1) := by decide +kernel
theorem dX5_act_16 : decode cX5_act 16 = .ok (.getfield 94, 3) := by decide +kernel
theorem dX5_act_19 : decode cX5_act 19 = .ok (.if_icmp .le 4, 3) := by decide +kernel
theorem dX5_act_22 : decode cX5_act 22 = .ok (.return_, 1) := by decide +kernel
theorem dX5_act_23 : decode cX5_act 23 = .ok (.aload_n 0, 1) := by decide +kernel
theorem dX5_act_24 : decode cX5_act 24 = .ok (.getfield 25, 3) := by decide +kernel
theorem dX5_act_27 : decode cX5_act 27 = .ok (.iload_n 1, 1) := by decide +kernel
theorem dX5_act_28 : decode cX5_act 28 = .ok (.iaload, 1) := by decide +kernel
theorem dX5_act_29 : decode cX5_act 29 = .ok (.iconst 1, 1) := by decide +kernel
theorem dX5_act_30 : decode cX5_act 30 = .ok (.if_icmp .ne 27, 3) := by decide +kernel
theorem dX5_act_33 : decode cX5_act 33 = .ok (.aload_n 0, 1) := by decide +kernel
theorem dX5_act_34 : decode cX5_act 34 = .ok (.getfield 28, 3) := by decide +kernel
theorem dX5_act_37 : decode cX5_act 37 = .ok (.iload_n 1, 1) := by decide +kernel
theorem dX5_act_38 : decode cX5_act 38 = .ok (.iaload, 1) := by decide +kernel
theorem dX5_act_39 : decode cX5_act 39 = .ok (.aload_n 0, 1) := by decide +kernel
theorem dX5_act_40 : decode cX5_act 40 = .ok (.getfield 9, 3) := by decide +kernel
theorem dX5_act_43 : decode cX5_act 43 = .ok (.iload_n 1, 1) := by decide +kernel
theorem dX5_act_44 : decode cX5_act 44 = .ok (.iaload, 1) := by decide +kernel
theorem dX5_act_45 : decode cX5_act 45 = .ok (.if_icmp .ne 12, 3) := by decide +kernel
theorem dX5_act_48 : decode cX5_act 48 = .ok (.aload_n 0, 1) := by decide +kernel
theorem dX5_act_49 : decode cX5_act 49 = .ok (.iload_n 1, 1) := by decide +kernel
theorem dX5_act_50 : decode cX5_act 50 = .ok (.invokevirtual 139, 3) := by decide +kernel
theorem dX5_act_53 : decode cX5_act 53 = .ok (.ifCond .eq 4, 3) := by decide +kernel
theorem dX5_act_56 : decode cX5_act 56 = .ok (.return_, 1) := by decide +kernel
theorem dX5_act_57 : decode cX5_act 57 = .ok (.aload_n 0, 1) := by decide +kernel
theorem dX5_act_58 : decode cX5_act 58 = .ok (.getfield 25, 3) := by decide +kernel
theorem dX5_act_61 : decode cX5_act 61 = .ok (.iload_n 1, 1) := by decide +kernel
theorem dX5_act_62 : decode cX5_act 62 = .ok (.iaload, 1) := by decide +kernel
theorem dX5_act_63 : decode cX5_act 63 = .ok (.iconst 2, 1) := by decide +kernel
theorem dX5_act_64 : decode cX5_act 64 = .ok (.if_icmp .ne 8, 3) := by decide +kernel
theorem dX5_act_67 : decode cX5_act 67 = .ok (.aload_n 0, 1) := by decide +kernel
theorem dX5_act_68 : decode cX5_act 68 = .ok (.iload_n 1, 1) := by decide +kernel
theorem dX5_act_69 : decode cX5_act 69 = .ok (.invokevirtual 142, 3) := by decide +kernel
theorem dX5_act_72 : decode cX5_act 72 = .ok (.aload_n 0, 1) := by decide +kernel
theorem dX5_act_73 : decode cX5_act 73 = .ok (.getfield 25, 3) := by decide +kernel
theorem dX5_act_76 : decode cX5_act 76 = .ok (.iload_n 1, 1) := by decide +kernel
theorem dX5_act_77 : decode cX5_act 77 = .ok (.iaload, 1) := by decide +kernel
theorem dX5_act_78 : decode cX5_act 78 = .ok (.ifCond .ne 8, 3) := by decide +kernel
theorem dX5_act_81 : decode cX5_act 81 = .ok (.aload_n 0, 1) := by decide +kernel
theorem dX5_act_82 : decode cX5_act 82 = .ok (.iload_n 1, 1) := by decide +kernel
theorem dX5_act_83 : decode cX5_act 83 = .ok (.invokevirtual 146, 3) := by decide +kernel
theorem dX5_act_86 : decode cX5_act 86 = .ok (.return_, 1) := by decide +kernel
set_option maxRecDepth 20000 in
theorem ggX5_causeOf_X5_held : GoodIn wsX5_causeOf wsX5_held := goodIn_r _ [8, 9, 10, 11, 2, 12, 13, 14, 15, 16, 17, 18, 19, 20, 21, 22, 23, 24, 25, 26, 27, 28, 29, 30, 31, 32, 33, 34, 35, 36, 37, 38, 39, 40, 41, 42, 43, 44, 45] (by decide +kernel) (by decide +kernel)
set_option maxRecDepth 20000 in
theorem gX5_causeOf_X5_held : GoodIn wsX5_causeOf (wsV RX5 135 RX5 yX5_held wsX5_held) := goodIn_app (goodIn_of _ (by decide +kernel)) ggX5_causeOf_X5_held
theorem dX5_causeOf_0 : decode cX5_causeOf 0 = .ok (.aload_n 0, 1) := by decide +kernel
theorem dX5_causeOf_1 : decode cX5_causeOf 1 = .ok (.iload_n 1, 1) := by decide +kernel
theorem dX5_causeOf_2 : decode cX5_causeOf 2 = .ok (.invokevirtual 135, 3) := by decide +kernel
theorem dX5_causeOf_5 : decode cX5_causeOf 5 = .ok (.istore_n 2, 1) := by decide +kernel
theorem dX5_causeOf_6 : decode cX5_causeOf 6 = .ok (.iload_n 2, 1) := by decide +kernel
theorem dX5_causeOf_7 : decode cX5_causeOf 7 = .ok (.iconst (-1), 1) := by decide +kernel
theorem dX5_causeOf_8 : decode cX5_causeOf 8 = .ok (.if_icmp .eq 5, 3) := by decide +kernel
theorem dX5_causeOf_11 : decode cX5_causeOf 11 = .ok (.iload_n 2, 1) := by decide +kernel
theorem dX5_causeOf_12 : decode cX5_causeOf 12 = .ok (.ireturn, 1) := by decide +kernel
theorem dX5_causeOf_13 : decode cX5_causeOf 13 = .ok (.aload_n 0, 1) := by decide +kernel
theorem dX5_causeOf_14 : decode cX5_causeOf 14 = .ok (.getfield 31, 3) := by decide +kernel
theorem dX5_causeOf_17 : decode cX5_causeOf 17 = .ok (.iload_n 1, 1) := by decide +kernel
theorem dX5_causeOf_18 : decode cX5_causeOf 18 = .ok (.iaload, 1) := by decide +kernel
theorem dX5_causeOf_19 : decode cX5_causeOf 19 = .ok (.aload_n 0, 1) := by decide +kernel
theorem dX5_causeOf_20 : decode cX5_causeOf 20 = .ok (.getfield 94, 3) := by decide +kernel
theorem dX5_causeOf_23 : decode cX5_causeOf 23 = .ok (.if_icmp .le 5, 3) := by decide +kernel
theorem dX5_causeOf_26 : decode cX5_causeOf 26 = .ok (.iconst 3, 1) := by decide +kernel
theorem dX5_causeOf_27 : decode cX5_causeOf 27 = .ok (.ireturn, 1) := by decide +kernel
theorem dX5_causeOf_28 : decode cX5_causeOf 28 = .ok (.aload_n 0, 1) := by decide +kernel
theorem dX5_causeOf_29 : decode cX5_causeOf 29 = .ok (.getfield 25, 3) := by decide +kernel
theorem dX5_causeOf_32 : decode cX5_causeOf 32 = .ok (.iload_n 1, 1) := by decide +kernel
theorem dX5_causeOf_33 : decode cX5_causeOf 33 = .ok (.iaload, 1) := by decide +kernel
theorem dX5_causeOf_34 : decode cX5_causeOf 34 = .ok (.iconst 1, 1) := by decide +kernel
theorem dX5_causeOf_35 : decode cX5_causeOf 35 = .ok (.if_icmp .ne 7, 3) := by decide +kernel
theorem dX5_causeOf_38 : decode cX5_causeOf 38 = .ok (.iconst 0, 1) := by decide +kernel
theorem dX5_causeOf_39 : decode cX5_causeOf 39 = .ok (.goto 20, 3) := by decide +kernel
theorem dX5_causeOf_42 : decode cX5_causeOf 42 = .ok (.aload_n 0, 1) := by decide +kernel
theorem dX5_causeOf_43 : decode cX5_causeOf 43 = .ok (.getfield 25, 3) := by decide +kernel
theorem dX5_causeOf_46 : decode cX5_causeOf 46 = .ok (.iload_n 1, 1) := by decide +kernel
theorem dX5_causeOf_47 : decode cX5_causeOf 47 = .ok (.iaload, 1) := by decide +kernel
theorem dX5_causeOf_48 : decode cX5_causeOf 48 = .ok (.iconst 2, 1) := by decide +kernel
theorem dX5_causeOf_49 : decode cX5_causeOf 49 = .ok (.if_icmp .ne 8, 3) := by decide +kernel
theorem dX5_causeOf_52 : decode cX5_causeOf 52 = .ok (.bipush 11, 2) := by decide +kernel
theorem dX5_causeOf_54 : decode cX5_causeOf 54 = .ok (.goto 5, 3) := by decide +kernel
theorem dX5_causeOf_57 : decode cX5_causeOf 57 = .ok (.bipush 10, 2) := by decide +kernel
theorem dX5_causeOf_59 : decode cX5_causeOf 59 = .ok (.ireturn, 1) := by decide +kernel
set_option maxRecDepth 20000 in
theorem ggX5_run_X5_act : GoodIn wsX5_run wsX5_act := goodIn_r _ [13, 14, 3, 15, 8, 16, 17, 18, 19, 12, 20, 21, 22, 23, 24, 25, 26, 27, 28, 29, 30, 31, 32, 33, 34, 35, 36, 37, 38, 39, 40, 41, 42, 43, 44, 45, 5, 46, 47, 48, 49, 50, 51, 52, 53, 54, 55, 56, 57, 58, 59, 60, 61, 62, 63, 64, 65, 70, 71, 72, 73, 74, 75, 76, 77, 78, 79, 80, 81, 82, 83, 84, 85, 86, 87, 88, 89, 90, 91, 92, 93, 94, 95, 96, 97, 98, 99, 100, 101] (by decide +kernel) (by decide +kernel)
set_option maxRecDepth 20000 in
theorem gX5_run_X5_act : GoodIn wsX5_run (wsV RX5 149 RX5 yX5_act wsX5_act) := goodIn_app (goodIn_of _ (by decide +kernel)) ggX5_run_X5_act
set_option maxRecDepth 20000 in
theorem ggX5_run_X5_causeOf : GoodIn wsX5_run wsX5_causeOf := goodIn_r _ [69, 14, 3, 15, 17, 18, 19, 12, 20, 21, 22, 23, 24, 25, 70, 71, 72, 73, 74, 75, 76, 77, 78, 79, 80, 81, 82, 83, 84, 85, 86, 87, 88, 89, 90, 91, 92, 93, 94, 95, 96, 97, 98, 99, 100, 101] (by decide +kernel) (by decide +kernel)
set_option maxRecDepth 20000 in
theorem gX5_run_X5_causeOf : GoodIn wsX5_run (wsV RX5 152 RX5 yX5_causeOf wsX5_causeOf) := goodIn_app (goodIn_of _ (by decide +kernel)) ggX5_run_X5_causeOf
theorem dX5_run_0 : decode cX5_run 0 = .ok (.aload_n 0, 1) := by decide +kernel
theorem dX5_run_1 : decode cX5_run 1 = .ok (.iconst 0, 1) := by decide +kernel
theorem dX5_run_2 : decode cX5_run 2 = .ok (.putfield 87, 3) := by decide +kernel
theorem dX5_run_5 : decode cX5_run 5 = .ok (.iload_n 1, 1) := by decide +kernel
theorem dX5_run_6 : decode cX5_run 6 = .ok (.ifCond .lt 24, 3) := by decide +kernel
theorem dX5_run_9 : decode cX5_run 9 = .ok (.iload_n 1, 1) := by decide +kernel
theorem dX5_run_10 : decode cX5_run 10 = .ok (.ldc 103, 2) := by decide +kernel
theorem dX5_run_12 : decode cX5_run 12 = .ok (.if_icmp .gt 18, 3) := by decide +kernel
theorem dX5_run_15 : decode cX5_run 15 = .ok (.aload_n 0, 1) := by decide +kernel
theorem dX5_run_16 : decode cX5_run 16 = .ok (.getfield 94, 3) := by decide +kernel
theorem dX5_run_19 : decode cX5_run 19 = .ok (.i2l, 1) := by decide +kernel
theorem dX5_run_20 : decode cX5_run 20 = .ok (.iload_n 1, 1) := by decide +kernel
theorem dX5_run_21 : decode cX5_run 21 = .ok (.i2l, 1) := by decide +kernel
theorem dX5_run_22 : decode cX5_run 22 = .ok (.ladd, 1) := by decide +kernel
theorem dX5_run_23 : decode cX5_run 23 = .ok (.ldc2_w 104, 3) := by decide +kernel
theorem dX5_run_26 : decode cX5_run 26 = .ok (.lcmp, 1) := by decide +kernel
theorem dX5_run_27 : decode cX5_run 27 = .ok (.ifCond .le 5, 3) := by decide +kernel
theorem dX5_run_30 : decode cX5_run 30 = .ok (.iconst (-1), 1) := by decide +kernel
theorem dX5_run_31 : decode cX5_run 31 = .ok (.ireturn, 1) := by decide +kernel
theorem dX5_run_32 : decode cX5_run 32 = .ok (.aload_n 0, 1) := by decide +kernel
theorem dX5_run_33 : decode cX5_run 33 = .ok (.iconst 0, 1) := by decide +kernel
theorem dX5_run_34 : decode cX5_run 34 = .ok (.putfield 114, 3) := by decide +kernel
theorem dX5_run_37 : decode cX5_run 37 = .ok (.iconst 0, 1) := by decide +kernel
theorem dX5_run_38 : decode cX5_run 38 = .ok (.istore_n 2, 1) := by decide +kernel
theorem dX5_run_39 : decode cX5_run 39 = .ok (.iload_n 2, 1) := by decide +kernel
theorem dX5_run_40 : decode cX5_run 40 = .ok (.iload_n 1, 1) := by decide +kernel
theorem dX5_run_41 : decode cX5_run 41 = .ok (.if_icmp .ge 99, 3) := by decide +kernel
theorem dX5_run_44 : decode cX5_run 44 = .ok (.aload_n 0, 1) := by decide +kernel
theorem dX5_run_45 : decode cX5_run 45 = .ok (.getfield 91, 3) := by decide +kernel
theorem dX5_run_48 : decode cX5_run 48 = .ok (.iconst 1, 1) := by decide +kernel
theorem dX5_run_49 : decode cX5_run 49 = .ok (.isub, 1) := by decide +kernel
theorem dX5_run_50 : decode cX5_run 50 = .ok (.istore_n 3, 1) := by decide +kernel
theorem dX5_run_51 : decode cX5_run 51 = .ok (.iload_n 3, 1) := by decide +kernel
theorem dX5_run_52 : decode cX5_run 52 = .ok (.ifCond .lt 14, 3) := by decide +kernel
theorem dX5_run_55 : decode cX5_run 55 = .ok (.aload_n 0, 1) := by decide +kernel
theorem dX5_run_56 : decode cX5_run 56 = .ok (.iload_n 3, 1) := by decide +kernel
theorem dX5_run_57 : decode cX5_run 57 = .ok (.invokevirtual 149, 3) := by decide +kernel
theorem dX5_run_60 : decode cX5_run 60 = .ok (.iinc 3 (-1), 3) := by decide +kernel
theorem dX5_run_63 : decode cX5_run 63 = .ok (.goto (-12), 3) := by decide +kernel
theorem dX5_run_66 : decode cX5_run 66 = .ok (.iconst 0, 1) := by decide +kernel
theorem dX5_run_67 : decode cX5_run 67 = .ok (.istore_n 3, 1) := by decide +kernel
theorem dX5_run_68 : decode cX5_run 68 = .ok (.iload_n 3, 1) := by decide +kernel
theorem dX5_run_69 : decode cX5_run 69 = .ok (.aload_n 0, 1) := by decide +kernel
theorem dX5_run_70 : decode cX5_run 70 = .ok (.getfield 91, 3) := by decide +kernel
theorem dX5_run_73 : decode cX5_run 73 = .ok (.if_icmp .ge 51, 3) := by decide +kernel
theorem dX5_run_76 : decode cX5_run 76 = .ok (.aload_n 0, 1) := by decide +kernel
theorem dX5_run_77 : decode cX5_run 77 = .ok (.iload_n 3, 1) := by decide +kernel
theorem dX5_run_78 : decode cX5_run 78 = .ok (.invokevirtual 152, 3) := by decide +kernel
theorem dX5_run_81 : decode cX5_run 81 = .ok (.istore 4, 2) := by decide +kernel
theorem dX5_run_83 : decode cX5_run 83 = .ok (.aload_n 0, 1) := by decide +kernel
theorem dX5_run_84 : decode cX5_run 84 = .ok (.getfield 68, 3) := by decide +kernel
theorem dX5_run_87 : decode cX5_run 87 = .ok (.iload_n 3, 1) := by decide +kernel
theorem dX5_run_88 : decode cX5_run 88 = .ok (.bipush 12, 2) := by decide +kernel
theorem dX5_run_90 : decode cX5_run 90 = .ok (.imul, 1) := by decide +kernel
theorem dX5_run_91 : decode cX5_run 91 = .ok (.iload 4, 2) := by decide +kernel
theorem dX5_run_93 : decode cX5_run 93 = .ok (.iadd, 1) := by decide +kernel
theorem dX5_run_94 : decode cX5_run 94 = .ok (.dup2, 1) := by decide +kernel
theorem dX5_run_95 : decode cX5_run 95 = .ok (.laload, 1) := by decide +kernel
theorem dX5_run_96 : decode cX5_run 96 = .ok (.lconst 1, 1) := by decide +kernel
theorem dX5_run_97 : decode cX5_run 97 = .ok (.ladd, 1) := by decide +kernel
theorem dX5_run_98 : decode cX5_run 98 = .ok (.lastore, 1) := by decide +kernel
theorem dX5_run_99 : decode cX5_run 99 = .ok (.aload_n 0, 1) := by decide +kernel
theorem dX5_run_100 : decode cX5_run 100 = .ok (.getfield 28, 3) := by decide +kernel
theorem dX5_run_103 : decode cX5_run 103 = .ok (.iload_n 3, 1) := by decide +kernel
theorem dX5_run_104 : decode cX5_run 104 = .ok (.dup2, 1) := by decide +kernel
theorem dX5_run_105 : decode cX5_run 105 = .ok (.iaload, 1) := by decide +kernel
theorem dX5_run_106 : decode cX5_run 106 = .ok (.iload 4, 2) := by decide +kernel
theorem dX5_run_108 : decode cX5_run 108 = .ok (.ifCond .ne 7, 3) := by decide +kernel
theorem dX5_run_111 : decode cX5_run 111 = .ok (.iconst 1, 1) := by decide +kernel
theorem dX5_run_112 : decode cX5_run 112 = .ok (.goto 4, 3) := by decide +kernel
theorem dX5_run_115 : decode cX5_run 115 = .ok (.iconst 0, 1) := by decide +kernel
theorem dX5_run_116 : decode cX5_run 116 = .ok (.iadd, 1) := by decide +kernel
theorem dX5_run_117 : decode cX5_run 117 = .ok (.iastore, 1) := by decide +kernel
theorem dX5_run_118 : decode cX5_run 118 = .ok (.iinc 3 1, 3) := by decide +kernel
theorem dX5_run_121 : decode cX5_run 121 = .ok (.goto (-53), 3) := by decide +kernel
theorem dX5_run_124 : decode cX5_run 124 = .ok (.aload_n 0, 1) := by decide +kernel
theorem dX5_run_125 : decode cX5_run 125 = .ok (.dup, 1) := by decide +kernel
theorem dX5_run_126 : decode cX5_run 126 = .ok (.getfield 94, 3) := by decide +kernel
theorem dX5_run_129 : decode cX5_run 129 = .ok (.iconst 1, 1) := by decide +kernel
theorem dX5_run_130 : decode cX5_run 130 = .ok (.iadd, 1) := by decide +kernel
theorem dX5_run_131 : decode cX5_run 131 = .ok (.putfield 94, 3) := by decide +kernel
theorem dX5_run_134 : decode cX5_run 134 = .ok (.iinc 2 1, 3) := by decide +kernel
theorem dX5_run_137 : decode cX5_run 137 = .ok (.goto (-98), 3) := by decide +kernel
theorem dX5_run_140 : decode cX5_run 140 = .ok (.aload_n 0, 1) := by decide +kernel
theorem dX5_run_141 : decode cX5_run 141 = .ok (.getfield 114, 3) := by decide +kernel
theorem dX5_run_144 : decode cX5_run 144 = .ok (.ireturn, 1) := by decide +kernel
theorem dX5_event_0 : decode cX5_event 0 = .ok (.aload_n 0, 1) := by decide +kernel
theorem dX5_event_1 : decode cX5_event 1 = .ok (.iconst 0, 1) := by decide +kernel
theorem dX5_event_2 : decode cX5_event 2 = .ok (.putfield 87, 3) := by decide +kernel
theorem dX5_event_5 : decode cX5_event 5 = .ok (.iload_n 1, 1) := by decide +kernel
theorem dX5_event_6 : decode cX5_event 6 = .ok (.ifCond .lt 18, 3) := by decide +kernel
theorem dX5_event_9 : decode cX5_event 9 = .ok (.iload_n 1, 1) := by decide +kernel
theorem dX5_event_10 : decode cX5_event 10 = .ok (.aload_n 0, 1) := by decide +kernel
theorem dX5_event_11 : decode cX5_event 11 = .ok (.getfield 114, 3) := by decide +kernel
theorem dX5_event_14 : decode cX5_event 14 = .ok (.if_icmp .ge 10, 3) := by decide +kernel
theorem dX5_event_17 : decode cX5_event 17 = .ok (.iload_n 1, 1) := by decide +kernel
theorem dX5_event_18 : decode cX5_event 18 = .ok (.sipush 1000, 3) := by decide +kernel
theorem dX5_event_21 : decode cX5_event 21 = .ok (.if_icmp .lt 5, 3) := by decide +kernel
theorem dX5_event_24 : decode cX5_event 24 = .ok (.iconst (-1), 1) := by decide +kernel
theorem dX5_event_25 : decode cX5_event 25 = .ok (.ireturn, 1) := by decide +kernel
theorem dX5_event_26 : decode cX5_event 26 = .ok (.iload_n 2, 1) := by decide +kernel
theorem dX5_event_27 : decode cX5_event 27 = .ok (.ifCond .ne 12, 3) := by decide +kernel
theorem dX5_event_30 : decode cX5_event 30 = .ok (.aload_n 0, 1) := by decide +kernel
theorem dX5_event_31 : decode cX5_event 31 = .ok (.getfield 74, 3) := by decide +kernel
theorem dX5_event_34 : decode cX5_event 34 = .ok (.iload_n 1, 1) := by decide +kernel
theorem dX5_event_35 : decode cX5_event 35 = .ok (.iaload, 1) := by decide +kernel
theorem dX5_event_36 : decode cX5_event 36 = .ok (.goto 32, 3) := by decide +kernel
theorem dX5_event_39 : decode cX5_event 39 = .ok (.iload_n 2, 1) := by decide +kernel
theorem dX5_event_40 : decode cX5_event 40 = .ok (.iconst 1, 1) := by decide +kernel
theorem dX5_event_41 : decode cX5_event 41 = .ok (.if_icmp .ne 12, 3) := by decide +kernel
theorem dX5_event_44 : decode cX5_event 44 = .ok (.aload_n 0, 1) := by decide +kernel
theorem dX5_event_45 : decode cX5_event 45 = .ok (.getfield 77, 3) := by decide +kernel
theorem dX5_event_48 : decode cX5_event 48 = .ok (.iload_n 1, 1) := by decide +kernel
theorem dX5_event_49 : decode cX5_event 49 = .ok (.iaload, 1) := by decide +kernel
theorem dX5_event_50 : decode cX5_event 50 = .ok (.goto 18, 3) := by decide +kernel
theorem dX5_event_53 : decode cX5_event 53 = .ok (.iload_n 2, 1) := by decide +kernel
theorem dX5_event_54 : decode cX5_event 54 = .ok (.iconst 2, 1) := by decide +kernel
theorem dX5_event_55 : decode cX5_event 55 = .ok (.if_icmp .ne 12, 3) := by decide +kernel
theorem dX5_event_58 : decode cX5_event 58 = .ok (.aload_n 0, 1) := by decide +kernel
theorem dX5_event_59 : decode cX5_event 59 = .ok (.getfield 80, 3) := by decide +kernel
theorem dX5_event_62 : decode cX5_event 62 = .ok (.iload_n 1, 1) := by decide +kernel
theorem dX5_event_63 : decode cX5_event 63 = .ok (.iaload, 1) := by decide +kernel
theorem dX5_event_64 : decode cX5_event 64 = .ok (.goto 4, 3) := by decide +kernel
theorem dX5_event_67 : decode cX5_event 67 = .ok (.iconst (-1), 1) := by decide +kernel
theorem dX5_event_68 : decode cX5_event 68 = .ok (.ireturn, 1) := by decide +kernel
theorem dX5_made_0 : decode cX5_made 0 = .ok (.aload_n 0, 1) := by decide +kernel
theorem dX5_made_1 : decode cX5_made 1 = .ok (.iconst 0, 1) := by decide +kernel
theorem dX5_made_2 : decode cX5_made 2 = .ok (.putfield 87, 3) := by decide +kernel
theorem dX5_made_5 : decode cX5_made 5 = .ok (.aload_n 0, 1) := by decide +kernel
theorem dX5_made_6 : decode cX5_made 6 = .ok (.getfield 129, 3) := by decide +kernel
theorem dX5_made_9 : decode cX5_made 9 = .ok (.lreturn, 1) := by decide +kernel
theorem dX5_within_0 : decode cX5_within 0 = .ok (.lconst 0, 1) := by decide +kernel
theorem dX5_within_1 : decode cX5_within 1 = .ok (.lstore_n 1, 1) := by decide +kernel
theorem dX5_within_2 : decode cX5_within 2 = .ok (.iconst 0, 1) := by decide +kernel
theorem dX5_within_3 : decode cX5_within 3 = .ok (.istore_n 3, 1) := by decide +kernel
theorem dX5_within_4 : decode cX5_within 4 = .ok (.iload_n 3, 1) := by decide +kernel
theorem dX5_within_5 : decode cX5_within 5 = .ok (.aload_n 0, 1) := by decide +kernel
theorem dX5_within_6 : decode cX5_within 6 = .ok (.getfield 91, 3) := by decide +kernel
theorem dX5_within_9 : decode cX5_within 9 = .ok (.if_icmp .ge 34, 3) := by decide +kernel
theorem dX5_within_12 : decode cX5_within 12 = .ok (.lload_n 1, 1) := by decide +kernel
theorem dX5_within_13 : decode cX5_within 13 = .ok (.aload_n 0, 1) := by decide +kernel
theorem dX5_within_14 : decode cX5_within 14 = .ok (.getfield 40, 3) := by decide +kernel
theorem dX5_within_17 : decode cX5_within 17 = .ok (.iload_n 3, 1) := by decide +kernel
theorem dX5_within_18 : decode cX5_within 18 = .ok (.iaload, 1) := by decide +kernel
theorem dX5_within_19 : decode cX5_within 19 = .ok (.aload_n 0, 1) := by decide +kernel
theorem dX5_within_20 : decode cX5_within 20 = .ok (.getfield 25, 3) := by decide +kernel
theorem dX5_within_23 : decode cX5_within 23 = .ok (.iload_n 3, 1) := by decide +kernel
theorem dX5_within_24 : decode cX5_within 24 = .ok (.iaload, 1) := by decide +kernel
theorem dX5_within_25 : decode cX5_within 25 = .ok (.ifCond .ne 7, 3) := by decide +kernel
theorem dX5_within_28 : decode cX5_within 28 = .ok (.iconst 0, 1) := by decide +kernel
theorem dX5_within_29 : decode cX5_within 29 = .ok (.goto 4, 3) := by decide +kernel
theorem dX5_within_32 : decode cX5_within 32 = .ok (.iconst 1, 1) := by decide +kernel
theorem dX5_within_33 : decode cX5_within 33 = .ok (.iadd, 1) := by decide +kernel
theorem dX5_within_34 : decode cX5_within 34 = .ok (.i2l, 1) := by decide +kernel
theorem dX5_within_35 : decode cX5_within 35 = .ok (.ladd, 1) := by decide +kernel
theorem dX5_within_36 : decode cX5_within 36 = .ok (.lstore_n 1, 1) := by decide +kernel
theorem dX5_within_37 : decode cX5_within 37 = .ok (.iinc 3 1, 3) := by decide +kernel
theorem dX5_within_40 : decode cX5_within 40 = .ok (.goto (-36), 3) := by decide +kernel
theorem dX5_within_43 : decode cX5_within 43 = .ok (.lload_n 1, 1) := by decide +kernel
theorem dX5_within_44 : decode cX5_within 44 = .ok (.lreturn, 1) := by decide +kernel
set_option maxRecDepth 20000 in
theorem ggX5_inside_X5_within : GoodIn wsX5_inside wsX5_within := goodIn_r _ [6, 7, 8, 9, 10, 11, 12, 13, 14, 15, 16, 17, 18, 19, 20, 21, 22, 23, 24, 25, 26, 27, 28, 29, 30, 31, 32, 33, 34, 35, 36, 37, 38, 39, 40, 41] (by decide +kernel) (by decide +kernel)
set_option maxRecDepth 20000 in
theorem gX5_inside_X5_within : GoodIn wsX5_inside (wsV RX5 155 RX5 yX5_within wsX5_within) := goodIn_app (goodIn_of _ (by decide +kernel)) ggX5_inside_X5_within
theorem dX5_inside_0 : decode cX5_inside 0 = .ok (.aload_n 0, 1) := by decide +kernel
theorem dX5_inside_1 : decode cX5_inside 1 = .ok (.iconst 0, 1) := by decide +kernel
theorem dX5_inside_2 : decode cX5_inside 2 = .ok (.putfield 87, 3) := by decide +kernel
theorem dX5_inside_5 : decode cX5_inside 5 = .ok (.aload_n 0, 1) := by decide +kernel
theorem dX5_inside_6 : decode cX5_inside 6 = .ok (.invokevirtual 155, 3) := by decide +kernel
theorem dX5_inside_9 : decode cX5_inside 9 = .ok (.lreturn, 1) := by decide +kernel
set_option maxRecDepth 20000 in
theorem ggX5_lost_X5_isMachine : GoodIn wsX5_lost wsX5_isMachine := goodIn_r _ [9, 10, 11, 12, 13, 14, 15, 16, 17, 18, 19, 20, 21, 22, 23, 24, 25, 26, 27, 28, 29, 30, 31, 32, 33, 34, 35, 36, 37, 38, 39, 40, 41, 42] (by decide +kernel) (by decide +kernel)
set_option maxRecDepth 20000 in
theorem gX5_lost_X5_isMachine : GoodIn wsX5_lost (wsV RX5 97 RX5 yX5_isMachine wsX5_isMachine) := goodIn_app (goodIn_of _ (by decide +kernel)) ggX5_lost_X5_isMachine
theorem dX5_lost_0 : decode cX5_lost 0 = .ok (.aload_n 0, 1) := by decide +kernel
theorem dX5_lost_1 : decode cX5_lost 1 = .ok (.aload_n 0, 1) := by decide +kernel
theorem dX5_lost_2 : decode cX5_lost 2 = .ok (.iload_n 1, 1) := by decide +kernel
theorem dX5_lost_3 : decode cX5_lost 3 = .ok (.invokevirtual 97, 3) := by decide +kernel
theorem dX5_lost_6 : decode cX5_lost 6 = .ok (.ifCond .eq 7, 3) := by decide +kernel
theorem dX5_lost_9 : decode cX5_lost 9 = .ok (.iconst 0, 1) := by decide +kernel
theorem dX5_lost_10 : decode cX5_lost 10 = .ok (.goto 4, 3) := by decide +kernel
theorem dX5_lost_13 : decode cX5_lost 13 = .ok (.iconst 1, 1) := by decide +kernel
theorem dX5_lost_14 : decode cX5_lost 14 = .ok (.putfield 87, 3) := by decide +kernel
theorem dX5_lost_17 : decode cX5_lost 17 = .ok (.aload_n 0, 1) := by decide +kernel
theorem dX5_lost_18 : decode cX5_lost 18 = .ok (.getfield 87, 3) := by decide +kernel
theorem dX5_lost_21 : decode cX5_lost 21 = .ok (.iconst 1, 1) := by decide +kernel
theorem dX5_lost_22 : decode cX5_lost 22 = .ok (.if_icmp .eq 13, 3) := by decide +kernel
theorem dX5_lost_25 : decode cX5_lost 25 = .ok (.iload_n 2, 1) := by decide +kernel
theorem dX5_lost_26 : decode cX5_lost 26 = .ok (.ifCond .lt 9, 3) := by decide +kernel
theorem dX5_lost_29 : decode cX5_lost 29 = .ok (.iload_n 2, 1) := by decide +kernel
theorem dX5_lost_30 : decode cX5_lost 30 = .ok (.bipush 12, 2) := by decide +kernel
theorem dX5_lost_32 : decode cX5_lost 32 = .ok (.if_icmp .lt 9, 3) := by decide +kernel
theorem dX5_lost_35 : decode cX5_lost 35 = .ok (.ldc2_w 159, 3) := by decide +kernel
theorem dX5_lost_38 : decode cX5_lost 38 = .ok (.goto 22, 3) := by decide +kernel
theorem dX5_lost_41 : decode cX5_lost 41 = .ok (.aload_n 0, 1) := by decide +kernel
theorem dX5_lost_42 : decode cX5_lost 42 = .ok (.getfield 68, 3) := by decide +kernel
theorem dX5_lost_45 : decode cX5_lost 45 = .ok (.iload_n 1, 1) := by decide +kernel
theorem dX5_lost_46 : decode cX5_lost 46 = .ok (.bipush 12, 2) := by decide +kernel
theorem dX5_lost_48 : decode cX5_lost 48 = .ok (.imul, 1) := by decide +kernel
theorem dX5_lost_49 : decode cX5_lost 49 = .ok (.iload_n 2, 1) := by decide +kernel
theorem dX5_lost_50 : decode cX5_lost 50 = .ok (.iadd, 1) := by decide +kernel
theorem dX5_lost_51 : decode cX5_lost 51 = .ok (.laload, 1) := by decide +kernel
theorem dX5_lost_52 : decode cX5_lost 52 = .ok (.aload_n 0, 1) := by decide +kernel
theorem dX5_lost_53 : decode cX5_lost 53 = .ok (.getfield 9, 3) := by decide +kernel
end
section
theorem dX5_lost_56 : decode cX5_lost 56 = .ok (.iload_n 1, 1) := by decide +kernel
theorem dX5_lost_57 : decode cX5_lost 57 = .ok (.iaload, 1) := by decide +kernel
theorem dX5_lost_58 : decode cX5_lost 58 = .ok (.i2l, 1) := by decide +kernel
theorem dX5_lost_59 : decode cX5_lost 59 = .ok (.ldiv, 1) := by decide +kernel
theorem dX5_lost_60 : decode cX5_lost 60 = .ok (.lreturn, 1) := by decide +kernel
set_option maxRecDepth 20000 in
theorem ggX5_rejected_X5_isMachine : GoodIn wsX5_rejected wsX5_isMachine := goodIn_r _ [8, 9, 10, 11, 12, 13, 14, 15, 16, 17, 18, 19, 20, 21, 22, 23, 24, 25, 26, 27, 28, 29, 30, 31, 32, 33, 34, 35, 36, 37, 38, 39, 40, 41] (by decide +kernel) (by decide +kernel)
set_option maxRecDepth 20000 in
theorem gX5_rejected_X5_isMachine : GoodIn wsX5_rejected (wsV RX5 97 RX5 yX5_isMachine wsX5_isMachine) := goodIn_app (goodIn_of _ (by decide +kernel)) ggX5_rejected_X5_isMachine
theorem dX5_rejected_0 : decode cX5_rejected 0 = .ok (.aload_n 0, 1) := by decide +kernel
theorem dX5_rejected_1 : decode cX5_rejected 1 = .ok (.aload_n 0, 1) := by decide +kernel
theorem dX5_rejected_2 : decode cX5_rejected 2 = .ok (.iload_n 1, 1) := by decide +kernel
theorem dX5_rejected_3 : decode cX5_rejected 3 = .ok (.invokevirtual 97, 3) := by decide +kernel
theorem dX5_rejected_6 : decode cX5_rejected 6 = .ok (.ifCond .eq 7, 3) := by decide +kernel
theorem dX5_rejected_9 : decode cX5_rejected 9 = .ok (.iconst 0, 1) := by decide +kernel
theorem dX5_rejected_10 : decode cX5_rejected 10 = .ok (.goto 4, 3) := by decide +kernel
theorem dX5_rejected_13 : decode cX5_rejected 13 = .ok (.iconst 1, 1) := by decide +kernel
theorem dX5_rejected_14 : decode cX5_rejected 14 = .ok (.putfield 87, 3) := by decide +kernel
theorem dX5_rejected_17 : decode cX5_rejected 17 = .ok (.aload_n 0, 1) := by decide +kernel
theorem dX5_rejected_18 : decode cX5_rejected 18 = .ok (.getfield 87, 3) := by decide +kernel
theorem dX5_rejected_21 : decode cX5_rejected 21 = .ok (.iconst 1, 1) := by decide +kernel
theorem dX5_rejected_22 : decode cX5_rejected 22 = .ok (.if_icmp .ne 9, 3) := by decide +kernel
theorem dX5_rejected_25 : decode cX5_rejected 25 = .ok (.ldc2_w 159, 3) := by decide +kernel
theorem dX5_rejected_28 : decode cX5_rejected 28 = .ok (.goto 9, 3) := by decide +kernel
theorem dX5_rejected_31 : decode cX5_rejected 31 = .ok (.aload_n 0, 1) := by decide +kernel
theorem dX5_rejected_32 : decode cX5_rejected 32 = .ok (.getfield 71, 3) := by decide +kernel
theorem dX5_rejected_35 : decode cX5_rejected 35 = .ok (.iload_n 1, 1) := by decide +kernel
theorem dX5_rejected_36 : decode cX5_rejected 36 = .ok (.laload, 1) := by decide +kernel
theorem dX5_rejected_37 : decode cX5_rejected 37 = .ok (.lreturn, 1) := by decide +kernel
set_option maxRecDepth 20000 in
theorem ggX5_time_X5_isMachine : GoodIn wsX5_time wsX5_isMachine := goodIn_r _ [8, 9, 10, 11, 12, 13, 14, 15, 16, 17, 18, 19, 20, 21, 22, 23, 24, 25, 26, 27, 28, 29, 30, 31, 32, 33, 34, 35, 36, 37, 38, 39, 40, 41] (by decide +kernel) (by decide +kernel)
set_option maxRecDepth 20000 in
theorem gX5_time_X5_isMachine : GoodIn wsX5_time (wsV RX5 97 RX5 yX5_isMachine wsX5_isMachine) := goodIn_app (goodIn_of _ (by decide +kernel)) ggX5_time_X5_isMachine
theorem dX5_time_0 : decode cX5_time 0 = .ok (.aload_n 0, 1) := by decide +kernel
theorem dX5_time_1 : decode cX5_time 1 = .ok (.aload_n 0, 1) := by decide +kernel
theorem dX5_time_2 : decode cX5_time 2 = .ok (.iload_n 1, 1) := by decide +kernel
theorem dX5_time_3 : decode cX5_time 3 = .ok (.invokevirtual 97, 3) := by decide +kernel
theorem dX5_time_6 : decode cX5_time 6 = .ok (.ifCond .eq 7, 3) := by decide +kernel
theorem dX5_time_9 : decode cX5_time 9 = .ok (.iconst 0, 1) := by decide +kernel
theorem dX5_time_10 : decode cX5_time 10 = .ok (.goto 4, 3) := by decide +kernel
theorem dX5_time_13 : decode cX5_time 13 = .ok (.iconst 1, 1) := by decide +kernel
theorem dX5_time_14 : decode cX5_time 14 = .ok (.putfield 87, 3) := by decide +kernel
theorem dX5_time_17 : decode cX5_time 17 = .ok (.aload_n 0, 1) := by decide +kernel
theorem dX5_time_18 : decode cX5_time 18 = .ok (.getfield 87, 3) := by decide +kernel
theorem dX5_time_21 : decode cX5_time 21 = .ok (.iconst 1, 1) := by decide +kernel
theorem dX5_time_22 : decode cX5_time 22 = .ok (.if_icmp .eq 13, 3) := by decide +kernel
theorem dX5_time_25 : decode cX5_time 25 = .ok (.iload_n 2, 1) := by decide +kernel
theorem dX5_time_26 : decode cX5_time 26 = .ok (.ifCond .lt 9, 3) := by decide +kernel
theorem dX5_time_29 : decode cX5_time 29 = .ok (.iload_n 2, 1) := by decide +kernel
theorem dX5_time_30 : decode cX5_time 30 = .ok (.bipush 12, 2) := by decide +kernel
theorem dX5_time_32 : decode cX5_time 32 = .ok (.if_icmp .lt 9, 3) := by decide +kernel
theorem dX5_time_35 : decode cX5_time 35 = .ok (.ldc2_w 159, 3) := by decide +kernel
theorem dX5_time_38 : decode cX5_time 38 = .ok (.goto 14, 3) := by decide +kernel
theorem dX5_time_41 : decode cX5_time 41 = .ok (.aload_n 0, 1) := by decide +kernel
theorem dX5_time_42 : decode cX5_time 42 = .ok (.getfield 68, 3) := by decide +kernel
theorem dX5_time_45 : decode cX5_time 45 = .ok (.iload_n 1, 1) := by decide +kernel
theorem dX5_time_46 : decode cX5_time 46 = .ok (.bipush 12, 2) := by decide +kernel
theorem dX5_time_48 : decode cX5_time 48 = .ok (.imul, 1) := by decide +kernel
theorem dX5_time_49 : decode cX5_time 49 = .ok (.iload_n 2, 1) := by decide +kernel
theorem dX5_time_50 : decode cX5_time 50 = .ok (.iadd, 1) := by decide +kernel
theorem dX5_time_51 : decode cX5_time 51 = .ok (.laload, 1) := by decide +kernel
theorem dX5_time_52 : decode cX5_time 52 = .ok (.lreturn, 1) := by decide +kernel
set_option maxRecDepth 20000 in
theorem ggX5_kept_X5_within : GoodIn wsX5_kept wsX5_within := goodIn_r _ [12, 3, 13, 14, 15, 16, 17, 18, 19, 20, 21, 22, 23, 24, 25, 26, 27, 28, 29, 30, 31, 32, 33, 34, 35, 36, 37, 38, 39, 40, 41, 42, 43, 44, 45, 46] (by decide +kernel) (by decide +kernel)
set_option maxRecDepth 20000 in
theorem gX5_kept_X5_within : GoodIn wsX5_kept (wsV RX5 155 RX5 yX5_within wsX5_within) := goodIn_app (goodIn_of _ (by decide +kernel)) ggX5_kept_X5_within
theorem dX5_kept_0 : decode cX5_kept 0 = .ok (.aload_n 0, 1) := by decide +kernel
theorem dX5_kept_1 : decode cX5_kept 1 = .ok (.iconst 0, 1) := by decide +kernel
theorem dX5_kept_2 : decode cX5_kept 2 = .ok (.putfield 87, 3) := by decide +kernel
theorem dX5_kept_5 : decode cX5_kept 5 = .ok (.aload_n 0, 1) := by decide +kernel
theorem dX5_kept_6 : decode cX5_kept 6 = .ok (.getfield 129, 3) := by decide +kernel
theorem dX5_kept_9 : decode cX5_kept 9 = .ok (.aload_n 0, 1) := by decide +kernel
theorem dX5_kept_10 : decode cX5_kept 10 = .ok (.invokevirtual 155, 3) := by decide +kernel
theorem dX5_kept_13 : decode cX5_kept 13 = .ok (.ladd, 1) := by decide +kernel
theorem dX5_kept_14 : decode cX5_kept 14 = .ok (.lstore_n 1, 1) := by decide +kernel
theorem dX5_kept_15 : decode cX5_kept 15 = .ok (.iconst 1, 1) := by decide +kernel
theorem dX5_kept_16 : decode cX5_kept 16 = .ok (.istore_n 3, 1) := by decide +kernel
theorem dX5_kept_17 : decode cX5_kept 17 = .ok (.iconst 0, 1) := by decide +kernel
theorem dX5_kept_18 : decode cX5_kept 18 = .ok (.istore 4, 2) := by decide +kernel
theorem dX5_kept_20 : decode cX5_kept 20 = .ok (.iload 4, 2) := by decide +kernel
theorem dX5_kept_22 : decode cX5_kept 22 = .ok (.aload_n 0, 1) := by decide +kernel
theorem dX5_kept_23 : decode cX5_kept 23 = .ok (.getfield 91, 3) := by decide +kernel
theorem dX5_kept_26 : decode cX5_kept 26 = .ok (.if_icmp .ge 77, 3) := by decide +kernel
theorem dX5_kept_29 : decode cX5_kept 29 = .ok (.lload_n 1, 1) := by decide +kernel
theorem dX5_kept_30 : decode cX5_kept 30 = .ok (.aload_n 0, 1) := by decide +kernel
theorem dX5_kept_31 : decode cX5_kept 31 = .ok (.getfield 71, 3) := by decide +kernel
theorem dX5_kept_34 : decode cX5_kept 34 = .ok (.iload 4, 2) := by decide +kernel
theorem dX5_kept_36 : decode cX5_kept 36 = .ok (.laload, 1) := by decide +kernel
theorem dX5_kept_37 : decode cX5_kept 37 = .ok (.ladd, 1) := by decide +kernel
theorem dX5_kept_38 : decode cX5_kept 38 = .ok (.lstore_n 1, 1) := by decide +kernel
theorem dX5_kept_39 : decode cX5_kept 39 = .ok (.lconst 0, 1) := by decide +kernel
theorem dX5_kept_40 : decode cX5_kept 40 = .ok (.lstore 5, 2) := by decide +kernel
theorem dX5_kept_42 : decode cX5_kept 42 = .ok (.iconst 0, 1) := by decide +kernel
theorem dX5_kept_43 : decode cX5_kept 43 = .ok (.istore 7, 2) := by decide +kernel
theorem dX5_kept_45 : decode cX5_kept 45 = .ok (.iload 7, 2) := by decide +kernel
theorem dX5_kept_47 : decode cX5_kept 47 = .ok (.bipush 12, 2) := by decide +kernel
theorem dX5_kept_49 : decode cX5_kept 49 = .ok (.if_icmp .ge 27, 3) := by decide +kernel
theorem dX5_kept_52 : decode cX5_kept 52 = .ok (.lload 5, 2) := by decide +kernel
theorem dX5_kept_54 : decode cX5_kept 54 = .ok (.aload_n 0, 1) := by decide +kernel
theorem dX5_kept_55 : decode cX5_kept 55 = .ok (.getfield 68, 3) := by decide +kernel
theorem dX5_kept_58 : decode cX5_kept 58 = .ok (.iload 4, 2) := by decide +kernel
theorem dX5_kept_60 : decode cX5_kept 60 = .ok (.bipush 12, 2) := by decide +kernel
theorem dX5_kept_62 : decode cX5_kept 62 = .ok (.imul, 1) := by decide +kernel
theorem dX5_kept_63 : decode cX5_kept 63 = .ok (.iload 7, 2) := by decide +kernel
theorem dX5_kept_65 : decode cX5_kept 65 = .ok (.iadd, 1) := by decide +kernel
theorem dX5_kept_66 : decode cX5_kept 66 = .ok (.laload, 1) := by decide +kernel
theorem dX5_kept_67 : decode cX5_kept 67 = .ok (.ladd, 1) := by decide +kernel
theorem dX5_kept_68 : decode cX5_kept 68 = .ok (.lstore 5, 2) := by decide +kernel
theorem dX5_kept_70 : decode cX5_kept 70 = .ok (.iinc 7 1, 3) := by decide +kernel
theorem dX5_kept_73 : decode cX5_kept 73 = .ok (.goto (-28), 3) := by decide +kernel
theorem dX5_kept_76 : decode cX5_kept 76 = .ok (.iload_n 3, 1) := by decide +kernel
theorem dX5_kept_77 : decode cX5_kept 77 = .ok (.ifCond .eq 18, 3) := by decide +kernel
theorem dX5_kept_80 : decode cX5_kept 80 = .ok (.lload 5, 2) := by decide +kernel
theorem dX5_kept_82 : decode cX5_kept 82 = .ok (.aload_n 0, 1) := by decide +kernel
theorem dX5_kept_83 : decode cX5_kept 83 = .ok (.getfield 94, 3) := by decide +kernel
theorem dX5_kept_86 : decode cX5_kept 86 = .ok (.i2l, 1) := by decide +kernel
theorem dX5_kept_87 : decode cX5_kept 87 = .ok (.lcmp, 1) := by decide +kernel
theorem dX5_kept_88 : decode cX5_kept 88 = .ok (.ifCond .ne 7, 3) := by decide +kernel
theorem dX5_kept_91 : decode cX5_kept 91 = .ok (.iconst 1, 1) := by decide +kernel
theorem dX5_kept_92 : decode cX5_kept 92 = .ok (.goto 4, 3) := by decide +kernel
theorem dX5_kept_95 : decode cX5_kept 95 = .ok (.iconst 0, 1) := by decide +kernel
theorem dX5_kept_96 : decode cX5_kept 96 = .ok (.istore_n 3, 1) := by decide +kernel
theorem dX5_kept_97 : decode cX5_kept 97 = .ok (.iinc 4 1, 3) := by decide +kernel
theorem dX5_kept_100 : decode cX5_kept 100 = .ok (.goto (-80), 3) := by decide +kernel
theorem dX5_kept_103 : decode cX5_kept 103 = .ok (.iload_n 3, 1) := by decide +kernel
theorem dX5_kept_104 : decode cX5_kept 104 = .ok (.ifCond .eq 16, 3) := by decide +kernel
theorem dX5_kept_107 : decode cX5_kept 107 = .ok (.lload_n 1, 1) := by decide +kernel
theorem dX5_kept_108 : decode cX5_kept 108 = .ok (.aload_n 0, 1) := by decide +kernel
theorem dX5_kept_109 : decode cX5_kept 109 = .ok (.getfield 132, 3) := by decide +kernel
theorem dX5_kept_112 : decode cX5_kept 112 = .ok (.lcmp, 1) := by decide +kernel
theorem dX5_kept_113 : decode cX5_kept 113 = .ok (.ifCond .ne 7, 3) := by decide +kernel
theorem dX5_kept_116 : decode cX5_kept 116 = .ok (.iconst 1, 1) := by decide +kernel
theorem dX5_kept_117 : decode cX5_kept 117 = .ok (.goto 4, 3) := by decide +kernel
theorem dX5_kept_120 : decode cX5_kept 120 = .ok (.iconst 0, 1) := by decide +kernel
theorem dX5_kept_121 : decode cX5_kept 121 = .ok (.ireturn, 1) := by decide +kernel
theorem dJx00060_init_a7421_0 : decode cJx00060_init_a7421 0 = .ok (.aload_n 0, 1) := by decide +kernel
theorem dJx00060_init_a7421_1 : decode cJx00060_init_a7421 1 = .ok (.aload_n 1, 1) := by decide +kernel
theorem dJx00060_init_a7421_2 : decode cJx00060_init_a7421 2 = .ok (.invokespecial 7, 3) := by decide +kernel
theorem dJx00060_init_a7421_5 : decode cJx00060_init_a7421 5 = .ok (.return_, 1) := by decide +kernel
theorem dJ9_max_7cf53_0 : decode cJ9_max_7cf53 0 = .ok (.iload_n 0, 1) := by decide +kernel
theorem dJ9_max_7cf53_1 : decode cJ9_max_7cf53 1 = .ok (.iload_n 1, 1) := by decide +kernel
theorem dJ9_max_7cf53_2 : decode cJ9_max_7cf53 2 = .ok (.if_icmp .lt 7, 3) := by decide +kernel
theorem dJ9_max_7cf53_5 : decode cJ9_max_7cf53 5 = .ok (.iload_n 0, 1) := by decide +kernel
theorem dJ9_max_7cf53_6 : decode cJ9_max_7cf53 6 = .ok (.goto 4, 3) := by decide +kernel
theorem dJ9_max_7cf53_9 : decode cJ9_max_7cf53 9 = .ok (.iload_n 1, 1) := by decide +kernel
theorem dJ9_max_7cf53_10 : decode cJ9_max_7cf53 10 = .ok (.ireturn, 1) := by decide +kernel
theorem dJ9_min_7cf53_0 : decode cJ9_min_7cf53 0 = .ok (.iload_n 0, 1) := by decide +kernel
theorem dJ9_min_7cf53_1 : decode cJ9_min_7cf53 1 = .ok (.iload_n 1, 1) := by decide +kernel
theorem dJ9_min_7cf53_2 : decode cJ9_min_7cf53 2 = .ok (.if_icmp .gt 7, 3) := by decide +kernel
theorem dJ9_min_7cf53_5 : decode cJ9_min_7cf53 5 = .ok (.iload_n 0, 1) := by decide +kernel
theorem dJ9_min_7cf53_6 : decode cJ9_min_7cf53 6 = .ok (.goto 4, 3) := by decide +kernel
theorem dJ9_min_7cf53_9 : decode cJ9_min_7cf53 9 = .ok (.iload_n 1, 1) := by decide +kernel
theorem dJ9_min_7cf53_10 : decode cJ9_min_7cf53 10 = .ok (.ireturn, 1) := by decide +kernel
theorem dL_cell_0 : decode cL_cell 0 = .ok (.iload_n 1, 1) := by decide +kernel
theorem dL_cell_1 : decode cL_cell 1 = .ok (.aload_n 0, 1) := by decide +kernel
theorem dL_cell_2 : decode cL_cell 2 = .ok (.arraylength, 1) := by decide +kernel
theorem dL_cell_3 : decode cL_cell 3 = .ok (.if_icmp .ge 9, 3) := by decide +kernel
theorem dL_cell_6 : decode cL_cell 6 = .ok (.aload_n 0, 1) := by decide +kernel
theorem dL_cell_7 : decode cL_cell 7 = .ok (.iload_n 1, 1) := by decide +kernel
theorem dL_cell_8 : decode cL_cell 8 = .ok (.iaload, 1) := by decide +kernel
theorem dL_cell_9 : decode cL_cell 9 = .ok (.goto 4, 3) := by decide +kernel
theorem dL_cell_12 : decode cL_cell 12 = .ok (.iconst 0, 1) := by decide +kernel
theorem dL_cell_13 : decode cL_cell 13 = .ok (.ireturn, 1) := by decide +kernel
set_option maxRecDepth 20000 in
theorem ggL_lost_X4_lost : GoodIn wsL_lost wsX4_lost := goodIn_r _ [5, 6, 7, 8, 9, 10, 11, 4, 12, 13, 14, 15, 16, 17, 18, 19, 20, 21, 22, 23, 24, 25, 26, 27, 28, 29, 30, 31, 32, 33, 34, 35, 36, 37, 38, 39, 40, 41, 42, 43, 44, 45, 46, 47, 48, 49, 50, 51, 52, 53, 54, 55, 56, 57, 58, 59, 60, 61] (by decide +kernel) (by decide +kernel)
set_option maxRecDepth 20000 in
theorem gL_lost_X4_lost : GoodIn wsL_lost (wsV RL 7 RX4 yX4_lost wsX4_lost) := goodIn_app (goodIn_of _ (by decide +kernel)) ggL_lost_X4_lost
theorem dL_lost_0 : decode cL_lost 0 = .ok (.aload_n 3, 1) := by decide +kernel
theorem dL_lost_1 : decode cL_lost 1 = .ok (.iconst 0, 1) := by decide +kernel
theorem dL_lost_2 : decode cL_lost 2 = .ok (.aload_n 0, 1) := by decide +kernel
theorem dL_lost_3 : decode cL_lost 3 = .ok (.iload_n 1, 1) := by decide +kernel
theorem dL_lost_4 : decode cL_lost 4 = .ok (.iload_n 2, 1) := by decide +kernel
theorem dL_lost_5 : decode cL_lost 5 = .ok (.invokevirtual 7, 3) := by decide +kernel
theorem dL_lost_8 : decode cL_lost 8 = .ok (.lastore, 1) := by decide +kernel
theorem dL_lost_9 : decode cL_lost 9 = .ok (.goto 7, 3) := by decide +kernel
theorem dL_lost_12 : decode cL_lost 12 = .ok (.astore 4, 2) := by decide +kernel
theorem dL_lost_14 : decode cL_lost 14 = .ok (.iconst 1, 1) := by decide +kernel
theorem dL_lost_15 : decode cL_lost 15 = .ok (.ireturn, 1) := by decide +kernel
theorem dL_lost_16 : decode cL_lost 16 = .ok (.iconst 0, 1) := by decide +kernel
theorem dL_lost_17 : decode cL_lost 17 = .ok (.ireturn, 1) := by decide +kernel
set_option maxRecDepth 20000 in
theorem ggL_rejected_X4_rejected : GoodIn wsL_rejected wsX4_rejected := goodIn_r _ [5, 6, 7, 8, 9, 4, 10, 11, 12, 13, 14, 15, 16, 17, 18, 19, 20, 21, 22, 23, 24, 25, 26, 27, 28, 29, 30, 31, 32, 33, 34, 35, 36, 37, 38, 39, 40, 41, 42, 43, 44, 45, 46, 47, 48, 49, 50, 51, 52, 53] (by decide +kernel) (by decide +kernel)
set_option maxRecDepth 20000 in
theorem gL_rejected_X4_rejected : GoodIn wsL_rejected (wsV RL 15 RX4 yX4_rejected wsX4_rejected) := goodIn_app (goodIn_of _ (by decide +kernel)) ggL_rejected_X4_rejected
theorem dL_rejected_0 : decode cL_rejected 0 = .ok (.aload_n 2, 1) := by decide +kernel
theorem dL_rejected_1 : decode cL_rejected 1 = .ok (.iconst 0, 1) := by decide +kernel
theorem dL_rejected_2 : decode cL_rejected 2 = .ok (.aload_n 0, 1) := by decide +kernel
theorem dL_rejected_3 : decode cL_rejected 3 = .ok (.iload_n 1, 1) := by decide +kernel
theorem dL_rejected_4 : decode cL_rejected 4 = .ok (.invokevirtual 15, 3) := by decide +kernel
theorem dL_rejected_7 : decode cL_rejected 7 = .ok (.lastore, 1) := by decide +kernel
theorem dL_rejected_8 : decode cL_rejected 8 = .ok (.goto 6, 3) := by decide +kernel
theorem dL_rejected_11 : decode cL_rejected 11 = .ok (.astore_n 3, 1) := by decide +kernel
theorem dL_rejected_12 : decode cL_rejected 12 = .ok (.iconst 1, 1) := by decide +kernel
theorem dL_rejected_13 : decode cL_rejected 13 = .ok (.ireturn, 1) := by decide +kernel
theorem dL_rejected_14 : decode cL_rejected 14 = .ok (.iconst 0, 1) := by decide +kernel
theorem dL_rejected_15 : decode cL_rejected 15 = .ok (.ireturn, 1) := by decide +kernel
set_option maxRecDepth 20000 in
theorem ggL_time_X4_time : GoodIn wsL_time wsX4_time := goodIn_r _ [5, 6, 7, 8, 9, 10, 4, 11, 12, 13, 14, 15, 16, 17, 18, 19, 20, 21, 22, 23, 24, 25, 26, 27, 28, 29, 30, 31, 32, 33, 34, 35, 36, 37, 38, 39, 40, 41, 42, 43, 44, 45, 46, 47, 48, 49, 50, 51, 52, 53, 54, 55, 56, 57, 58, 59, 60] (by decide +kernel) (by decide +kernel)
set_option maxRecDepth 20000 in
theorem gL_time_X4_time : GoodIn wsL_time (wsV RL 19 RX4 yX4_time wsX4_time) := goodIn_app (goodIn_of _ (by decide +kernel)) ggL_time_X4_time
theorem dL_time_0 : decode cL_time 0 = .ok (.aload_n 3, 1) := by decide +kernel
theorem dL_time_1 : decode cL_time 1 = .ok (.iconst 0, 1) := by decide +kernel
theorem dL_time_2 : decode cL_time 2 = .ok (.aload_n 0, 1) := by decide +kernel
theorem dL_time_3 : decode cL_time 3 = .ok (.iload_n 1, 1) := by decide +kernel
theorem dL_time_4 : decode cL_time 4 = .ok (.iload_n 2, 1) := by decide +kernel
theorem dL_time_5 : decode cL_time 5 = .ok (.invokevirtual 19, 3) := by decide +kernel
theorem dL_time_8 : decode cL_time 8 = .ok (.lastore, 1) := by decide +kernel
theorem dL_time_9 : decode cL_time 9 = .ok (.goto 7, 3) := by decide +kernel
theorem dL_time_12 : decode cL_time 12 = .ok (.astore 4, 2) := by decide +kernel
theorem dL_time_14 : decode cL_time 14 = .ok (.iconst 1, 1) := by decide +kernel
theorem dL_time_15 : decode cL_time 15 = .ok (.ireturn, 1) := by decide +kernel
theorem dL_time_16 : decode cL_time 16 = .ok (.iconst 0, 1) := by decide +kernel
theorem dL_time_17 : decode cL_time 17 = .ok (.ireturn, 1) := by decide +kernel
set_option maxRecDepth 20000 in
theorem ggL_law_L_cell : GoodIn wsL_law wsL_cell := goodIn_r _ [11] (by decide +kernel) (by decide +kernel)
set_option maxRecDepth 20000 in
theorem gL_law_L_cell : GoodIn wsL_law (va_wsS RL 22 yL_cell wsL_cell) := goodIn_app (goodIn_of _ (by decide +kernel)) ggL_law_L_cell
set_option maxRecDepth 20000 in
theorem ggL_law_X4_init : GoodIn wsL_law wsX4_init := goodIn_r _ [14, 15, 16, 17, 18, 19, 20, 470, 471, 472, 473, 474, 475, 476, 477, 478, 479, 480] (by decide +kernel) (by decide +kernel)
set_option maxRecDepth 20000 in
theorem gL_law_X4_init : GoodIn wsL_law (wsX4_init) := ggL_law_X4_init
set_option maxRecDepth 20000 in
theorem ggL_law_X5_init : GoodIn wsL_law wsX5_init := goodIn_r _ [23, 24, 16, 17, 18, 25, 26, 27, 28, 29, 30, 31, 32, 33, 34, 35, 6, 36, 37, 38, 39, 40, 41, 42, 43, 44, 45, 46, 47, 48, 49, 481, 482, 483, 484, 485, 486, 487, 488, 489, 490, 491, 492, 493, 494, 495, 496, 497, 498, 499, 500, 501, 502, 503, 504, 505, 506, 507, 508, 509, 510, 511, 512] (by decide +kernel) (by decide +kernel)
set_option maxRecDepth 20000 in
theorem gL_law_X5_init : GoodIn wsL_law (wsX5_init) := ggL_law_X5_init
set_option maxRecDepth 20000 in
theorem ggL_law_X4_machine : GoodIn wsL_law wsX4_machine := goodIn_r _ [53, 54, 55, 56, 57, 58, 59, 60, 61, 62, 63, 64, 2, 65, 66, 67, 68, 69, 70, 71, 72, 73, 16, 17, 74, 75, 76, 77, 78, 6, 79, 80, 81, 82, 83, 84, 85, 86, 87, 18, 88, 513, 514, 515, 516, 517, 518, 519, 520, 521, 522, 523, 524, 525, 526, 527, 528, 470, 471, 472, 473, 474, 475, 476, 477, 478, 479, 480, 529, 530, 531, 532, 533] (by decide +kernel) (by decide +kernel)
set_option maxRecDepth 20000 in
theorem gL_law_X4_machine : GoodIn wsL_law (wsV RL 34 RX4 yX4_machine wsX4_machine) := goodIn_app (goodIn_of _ (by decide +kernel)) ggL_law_X4_machine
set_option maxRecDepth 20000 in
theorem ggL_law_X5_machine : GoodIn wsL_law wsX5_machine := goodIn_r _ [92, 93, 94, 27, 95, 25, 26, 28, 29, 96, 97, 98, 5, 99, 481, 482, 483, 484, 485, 486, 487, 488, 489, 490, 491, 492, 493, 494, 495, 496, 497, 498, 499, 500, 501, 502, 503, 504, 505, 506, 507, 508, 509, 510, 511, 512] (by decide +kernel) (by decide +kernel)
set_option maxRecDepth 20000 in
theorem gL_law_X5_machine : GoodIn wsL_law (wsV RL 38 RX5 yX5_machine wsX5_machine) := goodIn_app (goodIn_of _ (by decide +kernel)) ggL_law_X5_machine
set_option maxRecDepth 20000 in
theorem ggL_law_X4_buffer : GoodIn wsL_law wsX4_buffer := goodIn_r _ [103, 55, 104, 105, 106, 62, 63, 64, 2, 65, 60, 61, 66, 67, 68, 69, 470, 471, 472, 473, 474, 475, 476, 477, 478, 479, 480, 513, 514, 515, 516, 517, 518, 519, 520, 521, 522, 523, 524, 525, 526, 527, 528, 529, 530, 531, 532, 533] (by decide +kernel) (by decide +kernel)
set_option maxRecDepth 20000 in
theorem gL_law_X4_buffer : GoodIn wsL_law (wsV RL 39 RX4 yX4_buffer wsX4_buffer) := goodIn_app (goodIn_of _ (by decide +kernel)) ggL_law_X4_buffer
set_option maxRecDepth 20000 in
theorem ggL_law_X5_buffer : GoodIn wsL_law wsX5_buffer := goodIn_r _ [110, 93, 94, 28, 29, 96, 97, 98, 5, 99, 95, 481, 482, 483, 484, 485, 486, 487, 488, 489, 490, 491, 492, 493, 494, 495, 496, 497, 498, 499, 500, 501, 502, 503, 504, 505, 506, 507, 508, 509, 510, 511, 512] (by decide +kernel) (by decide +kernel)
set_option maxRecDepth 20000 in
theorem gL_law_X5_buffer : GoodIn wsL_law (wsV RL 43 RX5 yX5_buffer wsX5_buffer) := goodIn_app (goodIn_of _ (by decide +kernel)) ggL_law_X5_buffer
set_option maxRecDepth 20000 in
theorem ggL_law_X4_fault : GoodIn wsL_law wsX4_fault := goodIn_r _ [114, 55, 115, 116, 117, 118, 119, 120, 62, 63, 64, 2, 65, 60, 61, 66, 67, 68, 69, 121, 122, 123, 124, 16, 17, 125, 126, 127, 128, 129, 130, 59, 131, 132, 133, 134, 135, 470, 471, 472, 473, 474, 475, 476, 477, 478, 479, 480, 513, 514, 515, 516, 517, 518, 519, 520, 521, 522, 523, 524, 525, 526, 527, 528, 534, 535, 536, 537] (by decide +kernel) (by decide +kernel)
set_option maxRecDepth 20000 in
theorem gL_law_X4_fault : GoodIn wsL_law (wsV RL 46 RX4 yX4_fault wsX4_fault) := goodIn_app (goodIn_of _ (by decide +kernel)) ggL_law_X4_fault
set_option maxRecDepth 20000 in
theorem ggL_law_X5_fault : GoodIn wsL_law wsX5_fault := goodIn_r _ [139, 93, 94, 140, 141, 39, 36, 37, 38, 96, 97, 98, 5, 99, 95, 481, 482, 483, 484, 485, 486, 487, 488, 489, 490, 491, 492, 493, 494, 495, 496, 497, 498, 499, 500, 501, 502, 503, 504, 505, 506, 507, 508, 509, 510, 511, 512] (by decide +kernel) (by decide +kernel)
set_option maxRecDepth 20000 in
theorem gL_law_X5_fault : GoodIn wsL_law (wsV RL 50 RX5 yX5_fault wsX5_fault) := goodIn_app (goodIn_of _ (by decide +kernel)) ggL_law_X5_fault
set_option maxRecDepth 20000 in
theorem ggL_law_X4_row : GoodIn wsL_law wsX4_row := goodIn_r _ [145, 62, 63, 64, 2, 65, 60, 61, 66, 67, 68, 69, 146, 147, 148, 149, 150, 55, 151, 152, 153, 154, 155, 156, 157, 158, 159, 160, 16, 17, 161, 162, 163, 164, 165, 470, 471, 472, 473, 474, 475, 476, 477, 478, 479, 480, 513, 514, 515, 516, 517, 518, 519, 520, 521, 522, 523, 524, 525, 526, 527, 528, 538, 539, 540, 541, 542] (by decide +kernel) (by decide +kernel)
set_option maxRecDepth 20000 in
theorem gL_law_X4_row : GoodIn wsL_law (wsV RL 51 RX4 yX4_row wsX4_row) := goodIn_app (goodIn_of _ (by decide +kernel)) ggL_law_X4_row
set_option maxRecDepth 20000 in
theorem ggL_law_X5_row : GoodIn wsL_law wsX5_row := goodIn_r _ [169, 93, 96, 97, 98, 5, 99, 95, 170, 171, 172, 173, 94, 174, 175, 40, 41, 42, 43, 481, 482, 483, 484, 485, 486, 487, 488, 489, 490, 491, 492, 493, 494, 495, 496, 497, 498, 499, 500, 501, 502, 503, 504, 505, 506, 507, 508, 509, 510, 511, 512] (by decide +kernel) (by decide +kernel)
set_option maxRecDepth 20000 in
theorem gL_law_X5_row : GoodIn wsL_law (wsV RL 55 RX5 yX5_row wsX5_row) := goodIn_app (goodIn_of _ (by decide +kernel)) ggL_law_X5_row
set_option maxRecDepth 20000 in
theorem ggL_law_X4_run : GoodIn wsL_law wsX4_run := goodIn_r _ [179, 117, 151, 55, 180, 156, 181, 182, 183, 184, 185, 186, 187, 67, 68, 2, 69, 188, 189, 190, 191, 60, 61, 192, 66, 155, 193, 194, 195, 196, 197, 198, 199, 200, 201, 154, 202, 161, 162, 163, 203, 204, 205, 206, 207, 208, 209, 210, 211, 212, 213, 214, 59, 215, 78, 216, 217, 218, 219, 220, 221, 222, 223, 224, 225, 226, 227, 228, 81, 229, 230, 231, 232, 233, 234, 235, 236, 237, 238, 239, 240, 241, 242, 20, 243, 244, 245, 246, 247, 248, 249, 250, 251, 252, 253, 254, 255, 256, 257, 258, 19, 259, 260, 261, 262, 54, 263, 104, 264, 265, 266, 76, 267, 268, 87, 269, 270, 271, 272, 88, 273, 274, 275, 276, 277, 278, 279, 280, 281, 282, 283, 284, 285, 286, 287, 288, 289, 290, 291, 292, 293, 294, 295, 296, 297, 298, 299, 300, 301, 302, 83, 303, 304, 305, 306, 307, 308, 309, 310, 311, 312, 313, 314, 315, 316, 317, 79, 470, 471, 472, 473, 474, 475, 476, 477, 478, 479, 480, 513, 514, 515, 516, 517, 518, 519, 520, 521, 522, 523, 524, 525, 526, 527, 528, 538, 539, 540, 541, 542, 534, 535, 536, 537, 529, 530, 531, 532, 533] (by decide +kernel) (by decide +kernel)
set_option maxRecDepth 20000 in
theorem gL_law_X4_run : GoodIn wsL_law (wsV RL 56 RX4 yX4_run wsX4_run) := goodIn_app (goodIn_of _ (by decide +kernel)) ggL_law_X4_run
set_option maxRecDepth 20000 in
theorem ggL_law_X5_run : GoodIn wsL_law wsX5_run := goodIn_r _ [321, 93, 141, 94, 174, 322, 95, 44, 31, 323, 324, 325, 5, 326, 32, 30, 25, 327, 328, 329, 330, 175, 40, 41, 42, 43, 331, 332, 333, 334, 39, 37, 36, 38, 45, 335, 336, 337, 338, 49, 339, 340, 341, 342, 343, 344, 46, 47, 48, 345, 346, 347, 348, 27, 349, 35, 28, 33, 34, 350, 351, 352, 353, 26, 354, 29, 355, 356, 357, 358, 481, 482, 483, 484, 485, 486, 487, 488, 489, 490, 491, 492, 493, 494, 495, 496, 497, 498, 499, 500, 501, 502, 503, 504, 505, 506, 507, 508, 509, 510, 511, 512] (by decide +kernel) (by decide +kernel)
set_option maxRecDepth 20000 in
theorem gL_law_X5_run : GoodIn wsL_law (wsV RL 60 RX5 yX5_run wsX5_run) := goodIn_app (goodIn_of _ (by decide +kernel)) ggL_law_X5_run
set_option maxRecDepth 20000 in
theorem ggL_law_X4_event : GoodIn wsL_law wsX4_event := goodIn_r _ [362, 180, 19, 67, 68, 2, 69, 470, 471, 472, 473, 474, 475, 476, 477, 478, 479, 480] (by decide +kernel) (by decide +kernel)
set_option maxRecDepth 20000 in
theorem gL_law_X4_event : GoodIn wsL_law (wsV RL 61 RX4 yX4_event wsX4_event) := goodIn_app (goodIn_of _ (by decide +kernel)) ggL_law_X4_event
set_option maxRecDepth 20000 in
theorem ggL_law_X5_event : GoodIn wsL_law wsX5_event := goodIn_r _ [366, 93, 322, 46, 47, 48, 481, 482, 483, 484, 485, 486, 487, 488, 489, 490, 491, 492, 493, 494, 495, 496, 497, 498, 499, 500, 501, 502, 503, 504, 505, 506, 507, 508, 509, 510, 511, 512] (by decide +kernel) (by decide +kernel)
set_option maxRecDepth 20000 in
theorem gL_law_X5_event : GoodIn wsL_law (wsV RL 64 RX5 yX5_event wsX5_event) := goodIn_app (goodIn_of _ (by decide +kernel)) ggL_law_X5_event
set_option maxRecDepth 20000 in
theorem ggL_law_X4_made : GoodIn wsL_law wsX4_made := goodIn_r _ [370, 263, 470, 471, 472, 473, 474, 475, 476, 477, 478, 479, 480] (by decide +kernel) (by decide +kernel)
set_option maxRecDepth 20000 in
theorem gL_law_X4_made : GoodIn wsL_law (wsV RL 65 RX4 yX4_made wsX4_made) := goodIn_app (goodIn_of _ (by decide +kernel)) ggL_law_X4_made
set_option maxRecDepth 20000 in
theorem ggL_law_X5_made : GoodIn wsL_law wsX5_made := goodIn_r _ [374, 93, 349, 481, 482, 483, 484, 485, 486, 487, 488, 489, 490, 491, 492, 493, 494, 495, 496, 497, 498, 499, 500, 501, 502, 503, 504, 505, 506, 507, 508, 509, 510, 511, 512] (by decide +kernel) (by decide +kernel)
set_option maxRecDepth 20000 in
theorem gL_law_X5_made : GoodIn wsL_law (wsV RL 69 RX5 yX5_made wsX5_made) := goodIn_app (goodIn_of _ (by decide +kernel)) ggL_law_X5_made
set_option maxRecDepth 20000 in
theorem ggL_law_X4_inside : GoodIn wsL_law wsX4_inside := goodIn_r _ [378, 60, 104, 379, 222, 66, 470, 471, 472, 473, 474, 475, 476, 477, 478, 479, 480, 513, 514, 515, 516, 517, 518, 519, 520, 521, 522, 523, 524, 525, 526, 527, 528, 529, 530, 531, 532, 533] (by decide +kernel) (by decide +kernel)
set_option maxRecDepth 20000 in
theorem gL_law_X4_inside : GoodIn wsL_law (wsV RL 70 RX4 yX4_inside wsX4_inside) := goodIn_app (goodIn_of _ (by decide +kernel)) ggL_law_X4_inside
set_option maxRecDepth 20000 in
theorem ggL_law_X5_inside : GoodIn wsL_law wsX5_inside := goodIn_r _ [383, 93, 384, 385, 386, 5, 387, 95, 35, 30, 481, 482, 483, 484, 485, 486, 487, 488, 489, 490, 491, 492, 493, 494, 495, 496, 497, 498, 499, 500, 501, 502, 503, 504, 505, 506, 507, 508, 509, 510, 511, 512] (by decide +kernel) (by decide +kernel)
set_option maxRecDepth 20000 in
theorem gL_law_X5_inside : GoodIn wsL_law (wsV RL 73 RX5 yX5_inside wsX5_inside) := goodIn_app (goodIn_of _ (by decide +kernel)) ggL_law_X5_inside
set_option maxRecDepth 20000 in
theorem ggL_law_L_lost : GoodIn wsL_law wsL_lost := goodIn_r _ [390, 391, 392, 393, 2, 394, 395, 396, 397, 398, 399, 400, 401, 402, 403, 404, 62, 63, 64, 65, 60, 61, 66, 405, 406, 407, 67, 68, 69, 513, 514, 515, 516, 517, 518, 519, 520, 521, 522, 523, 524, 525, 526, 527, 528, 543, 544, 545, 546, 547, 548, 470, 471, 472, 473, 474, 475, 476, 477, 478, 479, 480] (by decide +kernel) (by decide +kernel)
set_option maxRecDepth 20000 in
theorem gL_law_L_lost : GoodIn wsL_law (va_wsS RL 74 yL_lost wsL_lost) := goodIn_app (goodIn_of _ (by decide +kernel)) ggL_law_L_lost
set_option maxRecDepth 20000 in
theorem ggL_law_X5_lost : GoodIn wsL_law wsX5_lost := goodIn_r _ [411, 93, 412, 44, 25, 96, 97, 98, 5, 99, 95, 481, 482, 483, 484, 485, 486, 487, 488, 489, 490, 491, 492, 493, 494, 495, 496, 497, 498, 499, 500, 501, 502, 503, 504, 505, 506, 507, 508, 509, 510, 511, 512] (by decide +kernel) (by decide +kernel)
set_option maxRecDepth 20000 in
theorem gL_law_X5_lost : GoodIn wsL_law (wsV RL 77 RX5 yX5_lost wsX5_lost) := goodIn_app (goodIn_of _ (by decide +kernel)) ggL_law_X5_lost
set_option maxRecDepth 20000 in
theorem ggL_law_X5_thrown : GoodIn wsL_law wsX5_thrown := goodIn_r _ [416, 93, 481, 482, 483, 484, 485, 486, 487, 488, 489, 490, 491, 492, 493, 494, 495, 496, 497, 498, 499, 500, 501, 502, 503, 504, 505, 506, 507, 508, 509, 510, 511, 512] (by decide +kernel) (by decide +kernel)
set_option maxRecDepth 20000 in
theorem gL_law_X5_thrown : GoodIn wsL_law (wsV RL 78 RX5 yX5_thrown wsX5_thrown) := goodIn_app (goodIn_of _ (by decide +kernel)) ggL_law_X5_thrown
set_option maxRecDepth 20000 in
theorem ggL_law_L_rejected : GoodIn wsL_law wsL_rejected := goodIn_r _ [419, 420, 421, 422, 2, 423, 249, 398, 399, 400, 401, 402, 403, 404, 62, 63, 64, 65, 60, 61, 66, 513, 514, 515, 516, 517, 518, 519, 520, 521, 522, 523, 524, 525, 526, 527, 528, 543, 544, 545, 546, 547, 548, 470, 471, 472, 473, 474, 475, 476, 477, 478, 479, 480] (by decide +kernel) (by decide +kernel)
set_option maxRecDepth 20000 in
theorem gL_law_L_rejected : GoodIn wsL_law (va_wsS RL 82 yL_rejected wsL_rejected) := goodIn_app (goodIn_of _ (by decide +kernel)) ggL_law_L_rejected
set_option maxRecDepth 20000 in
theorem ggL_law_X5_rejected : GoodIn wsL_law wsX5_rejected := goodIn_r _ [427, 93, 412, 45, 96, 97, 98, 5, 99, 95, 481, 482, 483, 484, 485, 486, 487, 488, 489, 490, 491, 492, 493, 494, 495, 496, 497, 498, 499, 500, 501, 502, 503, 504, 505, 506, 507, 508, 509, 510, 511, 512] (by decide +kernel) (by decide +kernel)
set_option maxRecDepth 20000 in
theorem gL_law_X5_rejected : GoodIn wsL_law (wsV RL 85 RX5 yX5_rejected wsX5_rejected) := goodIn_app (goodIn_of _ (by decide +kernel)) ggL_law_X5_rejected
set_option maxRecDepth 20000 in
theorem ggL_law_X4_change : GoodIn wsL_law wsX4_change := goodIn_r _ [431, 432, 151, 67, 68, 2, 69, 146, 147, 148, 149, 150, 55, 152, 153, 154, 155, 156, 157, 158, 159, 160, 16, 17, 161, 162, 163, 164, 165, 470, 471, 472, 473, 474, 475, 476, 477, 478, 479, 480, 538, 539, 540, 541, 542] (by decide +kernel) (by decide +kernel)
set_option maxRecDepth 20000 in
theorem gL_law_X4_change : GoodIn wsL_law (wsV RL 86 RX4 yX4_change wsX4_change) := goodIn_app (goodIn_of _ (by decide +kernel)) ggL_law_X4_change
set_option maxRecDepth 20000 in
theorem ggL_law_X5_change : GoodIn wsL_law wsX5_change := goodIn_r _ [436, 93, 437, 170, 171, 172, 5, 173, 94, 174, 175, 40, 41, 42, 43, 481, 482, 483, 484, 485, 486, 487, 488, 489, 490, 491, 492, 493, 494, 495, 496, 497, 498, 499, 500, 501, 502, 503, 504, 505, 506, 507, 508, 509, 510, 511, 512] (by decide +kernel) (by decide +kernel)
set_option maxRecDepth 20000 in
theorem gL_law_X5_change : GoodIn wsL_law (wsV RL 90 RX5 yX5_change wsX5_change) := goodIn_app (goodIn_of _ (by decide +kernel)) ggL_law_X5_change
set_option maxRecDepth 20000 in
theorem ggL_law_X4_rest : GoodIn wsL_law wsX4_rest := goodIn_r _ [441, 146, 147, 148, 2, 149, 150, 55, 151, 152, 153, 154, 155, 156, 157, 158, 159, 160, 16, 17, 161, 162, 163, 164, 165, 470, 471, 472, 473, 474, 475, 476, 477, 478, 479, 480, 538, 539, 540, 541, 542] (by decide +kernel) (by decide +kernel)
set_option maxRecDepth 20000 in
theorem gL_law_X4_rest : GoodIn wsL_law (wsV RL 91 RX4 yX4_rest wsX4_rest) := goodIn_app (goodIn_of _ (by decide +kernel)) ggL_law_X4_rest
set_option maxRecDepth 20000 in
theorem ggL_law_X5_rest : GoodIn wsL_law wsX5_rest := goodIn_r _ [445, 93, 170, 171, 172, 5, 173, 94, 174, 175, 40, 41, 42, 43, 481, 482, 483, 484, 485, 486, 487, 488, 489, 490, 491, 492, 493, 494, 495, 496, 497, 498, 499, 500, 501, 502, 503, 504, 505, 506, 507, 508, 509, 510, 511, 512] (by decide +kernel) (by decide +kernel)
set_option maxRecDepth 20000 in
theorem gL_law_X5_rest : GoodIn wsL_law (wsV RL 94 RX5 yX5_rest wsX5_rest) := goodIn_app (goodIn_of _ (by decide +kernel)) ggL_law_X5_rest
set_option maxRecDepth 20000 in
theorem ggL_law_L_time : GoodIn wsL_law wsL_time := goodIn_r _ [448, 449, 450, 451, 2, 452, 395, 397, 398, 399, 400, 401, 402, 403, 404, 62, 63, 64, 65, 60, 61, 66, 405, 406, 407, 67, 68, 69, 513, 514, 515, 516, 517, 518, 519, 520, 521, 522, 523, 524, 525, 526, 527, 528, 543, 544, 545, 546, 547, 548, 470, 471, 472, 473, 474, 475, 476, 477, 478, 479, 480] (by decide +kernel) (by decide +kernel)
set_option maxRecDepth 20000 in
theorem gL_law_L_time : GoodIn wsL_law (va_wsS RL 95 yL_time wsL_time) := goodIn_app (goodIn_of _ (by decide +kernel)) ggL_law_L_time
set_option maxRecDepth 20000 in
theorem ggL_law_X5_time : GoodIn wsL_law wsX5_time := goodIn_r _ [456, 93, 412, 44, 96, 97, 98, 5, 99, 95, 481, 482, 483, 484, 485, 486, 487, 488, 489, 490, 491, 492, 493, 494, 495, 496, 497, 498, 499, 500, 501, 502, 503, 504, 505, 506, 507, 508, 509, 510, 511, 512] (by decide +kernel) (by decide +kernel)
set_option maxRecDepth 20000 in
theorem gL_law_X5_time : GoodIn wsL_law (wsV RL 97 RX5 yX5_time wsX5_time) := goodIn_app (goodIn_of _ (by decide +kernel)) ggL_law_X5_time
set_option maxRecDepth 20000 in
theorem ggL_law_X4_kept : GoodIn wsL_law wsX4_kept := goodIn_r _ [460, 263, 60, 249, 55, 66, 279, 461, 376, 377, 2, 378, 104, 379, 222, 462, 463, 464, 59, 465, 79, 470, 471, 472, 473, 474, 475, 476, 477, 478, 479, 480, 513, 514, 515, 516, 517, 518, 519, 520, 521, 522, 523, 524, 525, 526, 527, 528, 529, 530, 531, 532, 533] (by decide +kernel) (by decide +kernel)
set_option maxRecDepth 20000 in
theorem gL_law_X4_kept : GoodIn wsL_law (wsV RL 98 RX4 yX4_kept wsX4_kept) := goodIn_app (goodIn_of _ (by decide +kernel)) ggL_law_X4_kept
set_option maxRecDepth 20000 in
theorem ggL_law_X5_kept : GoodIn wsL_law wsX5_kept := goodIn_r _ [469, 93, 349, 95, 45, 44, 94, 354, 384, 385, 386, 5, 387, 35, 30, 481, 482, 483, 484, 485, 486, 487, 488, 489, 490, 491, 492, 493, 494, 495, 496, 497, 498, 499, 500, 501, 502, 503, 504, 505, 506, 507, 508, 509, 510, 511, 512] (by decide +kernel) (by decide +kernel)
set_option maxRecDepth 20000 in
theorem gL_law_X5_kept : GoodIn wsL_law (wsV RL 102 RX5 yX5_kept wsX5_kept) := goodIn_app (goodIn_of _ (by decide +kernel)) ggL_law_X5_kept
theorem dL_law_0 : decode cL_law 0 = .ok (.new 8, 3) := by decide +kernel
theorem dL_law_3 : decode cL_law 3 = .ok (.dup, 1) := by decide +kernel
theorem dL_law_4 : decode cL_law 4 = .ok (.aload_n 0, 1) := by decide +kernel
theorem dL_law_5 : decode cL_law 5 = .ok (.iconst 0, 1) := by decide +kernel
theorem dL_law_6 : decode cL_law 6 = .ok (.invokestatic 22, 3) := by decide +kernel
theorem dL_law_9 : decode cL_law 9 = .ok (.i2l, 1) := by decide +kernel
theorem dL_law_10 : decode cL_law 10 = .ok (.invokespecial 28, 3) := by decide +kernel
theorem dL_law_13 : decode cL_law 13 = .ok (.astore_n 1, 1) := by decide +kernel
theorem dL_law_14 : decode cL_law 14 = .ok (.new 31, 3) := by decide +kernel
theorem dL_law_17 : decode cL_law 17 = .ok (.dup, 1) := by decide +kernel
theorem dL_law_18 : decode cL_law 18 = .ok (.aload_n 0, 1) := by decide +kernel
theorem dL_law_19 : decode cL_law 19 = .ok (.iconst 0, 1) := by decide +kernel
theorem dL_law_20 : decode cL_law 20 = .ok (.invokestatic 22, 3) := by decide +kernel
theorem dL_law_23 : decode cL_law 23 = .ok (.i2l, 1) := by decide +kernel
theorem dL_law_24 : decode cL_law 24 = .ok (.invokespecial 33, 3) := by decide +kernel
theorem dL_law_27 : decode cL_law 27 = .ok (.astore_n 2, 1) := by decide +kernel
theorem dL_law_28 : decode cL_law 28 = .ok (.iconst 1, 1) := by decide +kernel
theorem dL_law_29 : decode cL_law 29 = .ok (.newarray .long, 2) := by decide +kernel
theorem dL_law_31 : decode cL_law 31 = .ok (.astore_n 3, 1) := by decide +kernel
theorem dL_law_32 : decode cL_law 32 = .ok (.iconst 1, 1) := by decide +kernel
theorem dL_law_33 : decode cL_law 33 = .ok (.istore 4, 2) := by decide +kernel
theorem dL_law_35 : decode cL_law 35 = .ok (.iload 4, 2) := by decide +kernel
theorem dL_law_37 : decode cL_law 37 = .ok (.aload_n 0, 1) := by decide +kernel
theorem dL_law_38 : decode cL_law 38 = .ok (.arraylength, 1) := by decide +kernel
theorem dL_law_39 : decode cL_law 39 = .ok (.bipush 7, 2) := by decide +kernel
theorem dL_law_41 : decode cL_law 41 = .ok (.isub, 1) := by decide +kernel
theorem dL_law_42 : decode cL_law 42 = .ok (.if_icmp .gt 728, 3) := by decide +kernel
theorem dL_law_45 : decode cL_law 45 = .ok (.aload_n 0, 1) := by decide +kernel
theorem dL_law_46 : decode cL_law 46 = .ok (.iload 4, 2) := by decide +kernel
theorem dL_law_48 : decode cL_law 48 = .ok (.iaload, 1) := by decide +kernel
theorem dL_law_49 : decode cL_law 49 = .ok (.bipush 15, 2) := by decide +kernel
theorem dL_law_51 : decode cL_law 51 = .ok (.iand, 1) := by decide +kernel
theorem dL_law_52 : decode cL_law 52 = .ok (.tableswitch 712 0 13 #[72, 109, 158, 285, 346, 371, 408, 422, 436, 503, 558, 595, 632, 699], 72) := by decide +kernel
theorem dL_law_124 : decode cL_law 124 = .ok (.aload_n 1, 1) := by decide +kernel
theorem dL_law_125 : decode cL_law 125 = .ok (.aload_n 0, 1) := by decide +kernel
theorem dL_law_126 : decode cL_law 126 = .ok (.iload 4, 2) := by decide +kernel
theorem dL_law_128 : decode cL_law 128 = .ok (.iconst 1, 1) := by decide +kernel
theorem dL_law_129 : decode cL_law 129 = .ok (.iadd, 1) := by decide +kernel
theorem dL_law_130 : decode cL_law 130 = .ok (.iaload, 1) := by decide +kernel
theorem dL_law_131 : decode cL_law 131 = .ok (.aload_n 0, 1) := by decide +kernel
theorem dL_law_132 : decode cL_law 132 = .ok (.iload 4, 2) := by decide +kernel
theorem dL_law_134 : decode cL_law 134 = .ok (.iconst 2, 1) := by decide +kernel
theorem dL_law_135 : decode cL_law 135 = .ok (.iadd, 1) := by decide +kernel
theorem dL_law_136 : decode cL_law 136 = .ok (.iaload, 1) := by decide +kernel
theorem dL_law_137 : decode cL_law 137 = .ok (.invokevirtual 34, 3) := by decide +kernel
theorem dL_law_140 : decode cL_law 140 = .ok (.aload_n 2, 1) := by decide +kernel
theorem dL_law_141 : decode cL_law 141 = .ok (.aload_n 0, 1) := by decide +kernel
theorem dL_law_142 : decode cL_law 142 = .ok (.iload 4, 2) := by decide +kernel
theorem dL_law_144 : decode cL_law 144 = .ok (.iconst 1, 1) := by decide +kernel
theorem dL_law_145 : decode cL_law 145 = .ok (.iadd, 1) := by decide +kernel
theorem dL_law_146 : decode cL_law 146 = .ok (.iaload, 1) := by decide +kernel
theorem dL_law_147 : decode cL_law 147 = .ok (.aload_n 0, 1) := by decide +kernel
theorem dL_law_148 : decode cL_law 148 = .ok (.iload 4, 2) := by decide +kernel
theorem dL_law_150 : decode cL_law 150 = .ok (.iconst 2, 1) := by decide +kernel
theorem dL_law_151 : decode cL_law 151 = .ok (.iadd, 1) := by decide +kernel
theorem dL_law_152 : decode cL_law 152 = .ok (.iaload, 1) := by decide +kernel
theorem dL_law_153 : decode cL_law 153 = .ok (.invokevirtual 38, 3) := by decide +kernel
theorem dL_law_156 : decode cL_law 156 = .ok (.if_icmp .eq 608, 3) := by decide +kernel
theorem dL_law_159 : decode cL_law 159 = .ok (.iconst 0, 1) := by decide +kernel
theorem dL_law_160 : decode cL_law 160 = .ok (.ireturn, 1) := by decide +kernel
theorem dL_law_161 : decode cL_law 161 = .ok (.aload_n 1, 1) := by decide +kernel
theorem dL_law_162 : decode cL_law 162 = .ok (.aload_n 0, 1) := by decide +kernel
theorem dL_law_163 : decode cL_law 163 = .ok (.iload 4, 2) := by decide +kernel
theorem dL_law_165 : decode cL_law 165 = .ok (.iconst 1, 1) := by decide +kernel
theorem dL_law_166 : decode cL_law 166 = .ok (.iadd, 1) := by decide +kernel
theorem dL_law_167 : decode cL_law 167 = .ok (.iaload, 1) := by decide +kernel
theorem dL_law_168 : decode cL_law 168 = .ok (.aload_n 0, 1) := by decide +kernel
theorem dL_law_169 : decode cL_law 169 = .ok (.iload 4, 2) := by decide +kernel
theorem dL_law_171 : decode cL_law 171 = .ok (.iconst 2, 1) := by decide +kernel
theorem dL_law_172 : decode cL_law 172 = .ok (.iadd, 1) := by decide +kernel
theorem dL_law_173 : decode cL_law 173 = .ok (.iaload, 1) := by decide +kernel
theorem dL_law_174 : decode cL_law 174 = .ok (.aload_n 0, 1) := by decide +kernel
theorem dL_law_175 : decode cL_law 175 = .ok (.iload 4, 2) := by decide +kernel
theorem dL_law_177 : decode cL_law 177 = .ok (.iconst 3, 1) := by decide +kernel
theorem dL_law_178 : decode cL_law 178 = .ok (.iadd, 1) := by decide +kernel
theorem dL_law_179 : decode cL_law 179 = .ok (.iaload, 1) := by decide +kernel
theorem dL_law_180 : decode cL_law 180 = .ok (.invokevirtual 39, 3) := by decide +kernel
theorem dL_law_183 : decode cL_law 183 = .ok (.aload_n 2, 1) := by decide +kernel
theorem dL_law_184 : decode cL_law 184 = .ok (.aload_n 0, 1) := by decide +kernel
theorem dL_law_185 : decode cL_law 185 = .ok (.iload 4, 2) := by decide +kernel
theorem dL_law_187 : decode cL_law 187 = .ok (.iconst 1, 1) := by decide +kernel
theorem dL_law_188 : decode cL_law 188 = .ok (.iadd, 1) := by decide +kernel
theorem dL_law_189 : decode cL_law 189 = .ok (.iaload, 1) := by decide +kernel
theorem dL_law_190 : decode cL_law 190 = .ok (.aload_n 0, 1) := by decide +kernel
theorem dL_law_191 : decode cL_law 191 = .ok (.iload 4, 2) := by decide +kernel
theorem dL_law_193 : decode cL_law 193 = .ok (.iconst 2, 1) := by decide +kernel
theorem dL_law_194 : decode cL_law 194 = .ok (.iadd, 1) := by decide +kernel
theorem dL_law_195 : decode cL_law 195 = .ok (.iaload, 1) := by decide +kernel
theorem dL_law_196 : decode cL_law 196 = .ok (.aload_n 0, 1) := by decide +kernel
theorem dL_law_197 : decode cL_law 197 = .ok (.iload 4, 2) := by decide +kernel
theorem dL_law_199 : decode cL_law 199 = .ok (.iconst 3, 1) := by decide +kernel
theorem dL_law_200 : decode cL_law 200 = .ok (.iadd, 1) := by decide +kernel
theorem dL_law_201 : decode cL_law 201 = .ok (.iaload, 1) := by decide +kernel
theorem dL_law_202 : decode cL_law 202 = .ok (.invokevirtual 43, 3) := by decide +kernel
theorem dL_law_205 : decode cL_law 205 = .ok (.if_icmp .eq 559, 3) := by decide +kernel
theorem dL_law_208 : decode cL_law 208 = .ok (.iconst 0, 1) := by decide +kernel
theorem dL_law_209 : decode cL_law 209 = .ok (.ireturn, 1) := by decide +kernel
theorem dL_law_210 : decode cL_law 210 = .ok (.aload_n 1, 1) := by decide +kernel
theorem dL_law_211 : decode cL_law 211 = .ok (.aload_n 0, 1) := by decide +kernel
theorem dL_law_212 : decode cL_law 212 = .ok (.iload 4, 2) := by decide +kernel
theorem dL_law_214 : decode cL_law 214 = .ok (.iconst 1, 1) := by decide +kernel
theorem dL_law_215 : decode cL_law 215 = .ok (.iadd, 1) := by decide +kernel
theorem dL_law_216 : decode cL_law 216 = .ok (.iaload, 1) := by decide +kernel
theorem dL_law_217 : decode cL_law 217 = .ok (.aload_n 0, 1) := by decide +kernel
theorem dL_law_218 : decode cL_law 218 = .ok (.iload 4, 2) := by decide +kernel
theorem dL_law_220 : decode cL_law 220 = .ok (.iconst 2, 1) := by decide +kernel
theorem dL_law_221 : decode cL_law 221 = .ok (.iadd, 1) := by decide +kernel
theorem dL_law_222 : decode cL_law 222 = .ok (.iaload, 1) := by decide +kernel
theorem dL_law_223 : decode cL_law 223 = .ok (.i2l, 1) := by decide +kernel
theorem dL_law_224 : decode cL_law 224 = .ok (.bipush 32, 2) := by decide +kernel
theorem dL_law_226 : decode cL_law 226 = .ok (.lshl, 1) := by decide +kernel
theorem dL_law_227 : decode cL_law 227 = .ok (.aload_n 0, 1) := by decide +kernel
theorem dL_law_228 : decode cL_law 228 = .ok (.iload 4, 2) := by decide +kernel
theorem dL_law_230 : decode cL_law 230 = .ok (.iconst 3, 1) := by decide +kernel
theorem dL_law_231 : decode cL_law 231 = .ok (.iadd, 1) := by decide +kernel
theorem dL_law_232 : decode cL_law 232 = .ok (.iaload, 1) := by decide +kernel
theorem dL_law_233 : decode cL_law 233 = .ok (.i2l, 1) := by decide +kernel
theorem dL_law_234 : decode cL_law 234 = .ok (.ldc2_w 44, 3) := by decide +kernel
theorem dL_law_237 : decode cL_law 237 = .ok (.land, 1) := by decide +kernel
theorem dL_law_238 : decode cL_law 238 = .ok (.lor, 1) := by decide +kernel
theorem dL_law_239 : decode cL_law 239 = .ok (.aload_n 0, 1) := by decide +kernel
theorem dL_law_240 : decode cL_law 240 = .ok (.iload 4, 2) := by decide +kernel
theorem dL_law_242 : decode cL_law 242 = .ok (.iconst 4, 1) := by decide +kernel
theorem dL_law_243 : decode cL_law 243 = .ok (.iadd, 1) := by decide +kernel
theorem dL_law_244 : decode cL_law 244 = .ok (.iaload, 1) := by decide +kernel
theorem dL_law_245 : decode cL_law 245 = .ok (.i2l, 1) := by decide +kernel
theorem dL_law_246 : decode cL_law 246 = .ok (.bipush 32, 2) := by decide +kernel
theorem dL_law_248 : decode cL_law 248 = .ok (.lshl, 1) := by decide +kernel
theorem dL_law_249 : decode cL_law 249 = .ok (.aload_n 0, 1) := by decide +kernel
theorem dL_law_250 : decode cL_law 250 = .ok (.iload 4, 2) := by decide +kernel
theorem dL_law_252 : decode cL_law 252 = .ok (.iconst 5, 1) := by decide +kernel
theorem dL_law_253 : decode cL_law 253 = .ok (.iadd, 1) := by decide +kernel
theorem dL_law_254 : decode cL_law 254 = .ok (.iaload, 1) := by decide +kernel
theorem dL_law_255 : decode cL_law 255 = .ok (.i2l, 1) := by decide +kernel
theorem dL_law_256 : decode cL_law 256 = .ok (.ldc2_w 44, 3) := by decide +kernel
theorem dL_law_259 : decode cL_law 259 = .ok (.land, 1) := by decide +kernel
theorem dL_law_260 : decode cL_law 260 = .ok (.lor, 1) := by decide +kernel
theorem dL_law_261 : decode cL_law 261 = .ok (.aload_n 0, 1) := by decide +kernel
theorem dL_law_262 : decode cL_law 262 = .ok (.iload 4, 2) := by decide +kernel
theorem dL_law_264 : decode cL_law 264 = .ok (.bipush 6, 2) := by decide +kernel
theorem dL_law_266 : decode cL_law 266 = .ok (.iadd, 1) := by decide +kernel
theorem dL_law_267 : decode cL_law 267 = .ok (.iaload, 1) := by decide +kernel
theorem dL_law_268 : decode cL_law 268 = .ok (.invokevirtual 46, 3) := by decide +kernel
theorem dL_law_271 : decode cL_law 271 = .ok (.aload_n 2, 1) := by decide +kernel
theorem dL_law_272 : decode cL_law 272 = .ok (.aload_n 0, 1) := by decide +kernel
theorem dL_law_273 : decode cL_law 273 = .ok (.iload 4, 2) := by decide +kernel
theorem dL_law_275 : decode cL_law 275 = .ok (.iconst 1, 1) := by decide +kernel
theorem dL_law_276 : decode cL_law 276 = .ok (.iadd, 1) := by decide +kernel
theorem dL_law_277 : decode cL_law 277 = .ok (.iaload, 1) := by decide +kernel
theorem dL_law_278 : decode cL_law 278 = .ok (.aload_n 0, 1) := by decide +kernel
theorem dL_law_279 : decode cL_law 279 = .ok (.iload 4, 2) := by decide +kernel
theorem dL_law_281 : decode cL_law 281 = .ok (.iconst 2, 1) := by decide +kernel
theorem dL_law_282 : decode cL_law 282 = .ok (.iadd, 1) := by decide +kernel
theorem dL_law_283 : decode cL_law 283 = .ok (.iaload, 1) := by decide +kernel
theorem dL_law_284 : decode cL_law 284 = .ok (.i2l, 1) := by decide +kernel
theorem dL_law_285 : decode cL_law 285 = .ok (.bipush 32, 2) := by decide +kernel
theorem dL_law_287 : decode cL_law 287 = .ok (.lshl, 1) := by decide +kernel
theorem dL_law_288 : decode cL_law 288 = .ok (.aload_n 0, 1) := by decide +kernel
theorem dL_law_289 : decode cL_law 289 = .ok (.iload 4, 2) := by decide +kernel
theorem dL_law_291 : decode cL_law 291 = .ok (.iconst 3, 1) := by decide +kernel
theorem dL_law_292 : decode cL_law 292 = .ok (.iadd, 1) := by decide +kernel
theorem dL_law_293 : decode cL_law 293 = .ok (.iaload, 1) := by decide +kernel
theorem dL_law_294 : decode cL_law 294 = .ok (.i2l, 1) := by decide +kernel
theorem dL_law_295 : decode cL_law 295 = .ok (.ldc2_w 44, 3) := by decide +kernel
theorem dL_law_298 : decode cL_law 298 = .ok (.land, 1) := by decide +kernel
theorem dL_law_299 : decode cL_law 299 = .ok (.lor, 1) := by decide +kernel
theorem dL_law_300 : decode cL_law 300 = .ok (.aload_n 0, 1) := by decide +kernel
theorem dL_law_301 : decode cL_law 301 = .ok (.iload 4, 2) := by decide +kernel
theorem dL_law_303 : decode cL_law 303 = .ok (.iconst 4, 1) := by decide +kernel
theorem dL_law_304 : decode cL_law 304 = .ok (.iadd, 1) := by decide +kernel
theorem dL_law_305 : decode cL_law 305 = .ok (.iaload, 1) := by decide +kernel
theorem dL_law_306 : decode cL_law 306 = .ok (.i2l, 1) := by decide +kernel
theorem dL_law_307 : decode cL_law 307 = .ok (.bipush 32, 2) := by decide +kernel
theorem dL_law_309 : decode cL_law 309 = .ok (.lshl, 1) := by decide +kernel
theorem dL_law_310 : decode cL_law 310 = .ok (.aload_n 0, 1) := by decide +kernel
theorem dL_law_311 : decode cL_law 311 = .ok (.iload 4, 2) := by decide +kernel
theorem dL_law_313 : decode cL_law 313 = .ok (.iconst 5, 1) := by decide +kernel
theorem dL_law_314 : decode cL_law 314 = .ok (.iadd, 1) := by decide +kernel
theorem dL_law_315 : decode cL_law 315 = .ok (.iaload, 1) := by decide +kernel
theorem dL_law_316 : decode cL_law 316 = .ok (.i2l, 1) := by decide +kernel
theorem dL_law_317 : decode cL_law 317 = .ok (.ldc2_w 44, 3) := by decide +kernel
theorem dL_law_320 : decode cL_law 320 = .ok (.land, 1) := by decide +kernel
theorem dL_law_321 : decode cL_law 321 = .ok (.lor, 1) := by decide +kernel
theorem dL_law_322 : decode cL_law 322 = .ok (.aload_n 0, 1) := by decide +kernel
theorem dL_law_323 : decode cL_law 323 = .ok (.iload 4, 2) := by decide +kernel
theorem dL_law_325 : decode cL_law 325 = .ok (.bipush 6, 2) := by decide +kernel
theorem dL_law_327 : decode cL_law 327 = .ok (.iadd, 1) := by decide +kernel
theorem dL_law_328 : decode cL_law 328 = .ok (.iaload, 1) := by decide +kernel
theorem dL_law_329 : decode cL_law 329 = .ok (.invokevirtual 50, 3) := by decide +kernel
theorem dL_law_332 : decode cL_law 332 = .ok (.if_icmp .eq 432, 3) := by decide +kernel
theorem dL_law_335 : decode cL_law 335 = .ok (.iconst 0, 1) := by decide +kernel
theorem dL_law_336 : decode cL_law 336 = .ok (.ireturn, 1) := by decide +kernel
theorem dL_law_337 : decode cL_law 337 = .ok (.aload_n 1, 1) := by decide +kernel
theorem dL_law_338 : decode cL_law 338 = .ok (.aload_n 0, 1) := by decide +kernel
theorem dL_law_339 : decode cL_law 339 = .ok (.iload 4, 2) := by decide +kernel
theorem dL_law_341 : decode cL_law 341 = .ok (.iconst 1, 1) := by decide +kernel
theorem dL_law_342 : decode cL_law 342 = .ok (.iadd, 1) := by decide +kernel
theorem dL_law_343 : decode cL_law 343 = .ok (.iaload, 1) := by decide +kernel
theorem dL_law_344 : decode cL_law 344 = .ok (.aload_n 0, 1) := by decide +kernel
theorem dL_law_345 : decode cL_law 345 = .ok (.iload 4, 2) := by decide +kernel
theorem dL_law_347 : decode cL_law 347 = .ok (.iconst 2, 1) := by decide +kernel
theorem dL_law_348 : decode cL_law 348 = .ok (.iadd, 1) := by decide +kernel
theorem dL_law_349 : decode cL_law 349 = .ok (.iaload, 1) := by decide +kernel
theorem dL_law_350 : decode cL_law 350 = .ok (.aload_n 0, 1) := by decide +kernel
theorem dL_law_351 : decode cL_law 351 = .ok (.iload 4, 2) := by decide +kernel
theorem dL_law_353 : decode cL_law 353 = .ok (.iconst 3, 1) := by decide +kernel
theorem dL_law_354 : decode cL_law 354 = .ok (.iadd, 1) := by decide +kernel
theorem dL_law_355 : decode cL_law 355 = .ok (.iaload, 1) := by decide +kernel
theorem dL_law_356 : decode cL_law 356 = .ok (.aload_n 0, 1) := by decide +kernel
theorem dL_law_357 : decode cL_law 357 = .ok (.iload 4, 2) := by decide +kernel
theorem dL_law_359 : decode cL_law 359 = .ok (.iconst 4, 1) := by decide +kernel
theorem dL_law_360 : decode cL_law 360 = .ok (.iadd, 1) := by decide +kernel
theorem dL_law_361 : decode cL_law 361 = .ok (.iaload, 1) := by decide +kernel
theorem dL_law_362 : decode cL_law 362 = .ok (.invokevirtual 51, 3) := by decide +kernel
theorem dL_law_365 : decode cL_law 365 = .ok (.aload_n 2, 1) := by decide +kernel
theorem dL_law_366 : decode cL_law 366 = .ok (.aload_n 0, 1) := by decide +kernel
theorem dL_law_367 : decode cL_law 367 = .ok (.iload 4, 2) := by decide +kernel
theorem dL_law_369 : decode cL_law 369 = .ok (.iconst 1, 1) := by decide +kernel
theorem dL_law_370 : decode cL_law 370 = .ok (.iadd, 1) := by decide +kernel
theorem dL_law_371 : decode cL_law 371 = .ok (.iaload, 1) := by decide +kernel
theorem dL_law_372 : decode cL_law 372 = .ok (.aload_n 0, 1) := by decide +kernel
theorem dL_law_373 : decode cL_law 373 = .ok (.iload 4, 2) := by decide +kernel
theorem dL_law_375 : decode cL_law 375 = .ok (.iconst 2, 1) := by decide +kernel
theorem dL_law_376 : decode cL_law 376 = .ok (.iadd, 1) := by decide +kernel
theorem dL_law_377 : decode cL_law 377 = .ok (.iaload, 1) := by decide +kernel
theorem dL_law_378 : decode cL_law 378 = .ok (.aload_n 0, 1) := by decide +kernel
theorem dL_law_379 : decode cL_law 379 = .ok (.iload 4, 2) := by decide +kernel
theorem dL_law_381 : decode cL_law 381 = .ok (.iconst 3, 1) := by decide +kernel
theorem dL_law_382 : decode cL_law 382 = .ok (.iadd, 1) := by decide +kernel
theorem dL_law_383 : decode cL_law 383 = .ok (.iaload, 1) := by decide +kernel
theorem dL_law_384 : decode cL_law 384 = .ok (.aload_n 0, 1) := by decide +kernel
theorem dL_law_385 : decode cL_law 385 = .ok (.iload 4, 2) := by decide +kernel
theorem dL_law_387 : decode cL_law 387 = .ok (.iconst 4, 1) := by decide +kernel
theorem dL_law_388 : decode cL_law 388 = .ok (.iadd, 1) := by decide +kernel
theorem dL_law_389 : decode cL_law 389 = .ok (.iaload, 1) := by decide +kernel
theorem dL_law_390 : decode cL_law 390 = .ok (.invokevirtual 55, 3) := by decide +kernel
theorem dL_law_393 : decode cL_law 393 = .ok (.if_icmp .eq 371, 3) := by decide +kernel
theorem dL_law_396 : decode cL_law 396 = .ok (.iconst 0, 1) := by decide +kernel
theorem dL_law_397 : decode cL_law 397 = .ok (.ireturn, 1) := by decide +kernel
theorem dL_law_398 : decode cL_law 398 = .ok (.aload_n 1, 1) := by decide +kernel
theorem dL_law_399 : decode cL_law 399 = .ok (.aload_n 0, 1) := by decide +kernel
theorem dL_law_400 : decode cL_law 400 = .ok (.iload 4, 2) := by decide +kernel
theorem dL_law_402 : decode cL_law 402 = .ok (.iconst 1, 1) := by decide +kernel
theorem dL_law_403 : decode cL_law 403 = .ok (.iadd, 1) := by decide +kernel
theorem dL_law_404 : decode cL_law 404 = .ok (.iaload, 1) := by decide +kernel
theorem dL_law_405 : decode cL_law 405 = .ok (.invokevirtual 56, 3) := by decide +kernel
theorem dL_law_408 : decode cL_law 408 = .ok (.aload_n 2, 1) := by decide +kernel
theorem dL_law_409 : decode cL_law 409 = .ok (.aload_n 0, 1) := by decide +kernel
theorem dL_law_410 : decode cL_law 410 = .ok (.iload 4, 2) := by decide +kernel
theorem dL_law_412 : decode cL_law 412 = .ok (.iconst 1, 1) := by decide +kernel
theorem dL_law_413 : decode cL_law 413 = .ok (.iadd, 1) := by decide +kernel
theorem dL_law_414 : decode cL_law 414 = .ok (.iaload, 1) := by decide +kernel
theorem dL_law_415 : decode cL_law 415 = .ok (.invokevirtual 60, 3) := by decide +kernel
theorem dL_law_418 : decode cL_law 418 = .ok (.if_icmp .eq 346, 3) := by decide +kernel
theorem dL_law_421 : decode cL_law 421 = .ok (.iconst 0, 1) := by decide +kernel
theorem dL_law_422 : decode cL_law 422 = .ok (.ireturn, 1) := by decide +kernel
theorem dL_law_423 : decode cL_law 423 = .ok (.aload_n 1, 1) := by decide +kernel
theorem dL_law_424 : decode cL_law 424 = .ok (.aload_n 0, 1) := by decide +kernel
theorem dL_law_425 : decode cL_law 425 = .ok (.iload 4, 2) := by decide +kernel
theorem dL_law_427 : decode cL_law 427 = .ok (.iconst 1, 1) := by decide +kernel
theorem dL_law_428 : decode cL_law 428 = .ok (.iadd, 1) := by decide +kernel
theorem dL_law_429 : decode cL_law 429 = .ok (.iaload, 1) := by decide +kernel
theorem dL_law_430 : decode cL_law 430 = .ok (.aload_n 0, 1) := by decide +kernel
theorem dL_law_431 : decode cL_law 431 = .ok (.iload 4, 2) := by decide +kernel
theorem dL_law_433 : decode cL_law 433 = .ok (.iconst 2, 1) := by decide +kernel
theorem dL_law_434 : decode cL_law 434 = .ok (.iadd, 1) := by decide +kernel
theorem dL_law_435 : decode cL_law 435 = .ok (.iaload, 1) := by decide +kernel
theorem dL_law_436 : decode cL_law 436 = .ok (.invokevirtual 61, 3) := by decide +kernel
theorem dL_law_439 : decode cL_law 439 = .ok (.aload_n 2, 1) := by decide +kernel
theorem dL_law_440 : decode cL_law 440 = .ok (.aload_n 0, 1) := by decide +kernel
theorem dL_law_441 : decode cL_law 441 = .ok (.iload 4, 2) := by decide +kernel
theorem dL_law_443 : decode cL_law 443 = .ok (.iconst 1, 1) := by decide +kernel
theorem dL_law_444 : decode cL_law 444 = .ok (.iadd, 1) := by decide +kernel
theorem dL_law_445 : decode cL_law 445 = .ok (.iaload, 1) := by decide +kernel
theorem dL_law_446 : decode cL_law 446 = .ok (.aload_n 0, 1) := by decide +kernel
theorem dL_law_447 : decode cL_law 447 = .ok (.iload 4, 2) := by decide +kernel
theorem dL_law_449 : decode cL_law 449 = .ok (.iconst 2, 1) := by decide +kernel
theorem dL_law_450 : decode cL_law 450 = .ok (.iadd, 1) := by decide +kernel
theorem dL_law_451 : decode cL_law 451 = .ok (.iaload, 1) := by decide +kernel
theorem dL_law_452 : decode cL_law 452 = .ok (.invokevirtual 64, 3) := by decide +kernel
theorem dL_law_455 : decode cL_law 455 = .ok (.if_icmp .eq 309, 3) := by decide +kernel
theorem dL_law_458 : decode cL_law 458 = .ok (.iconst 0, 1) := by decide +kernel
theorem dL_law_459 : decode cL_law 459 = .ok (.ireturn, 1) := by decide +kernel
theorem dL_law_460 : decode cL_law 460 = .ok (.aload_n 1, 1) := by decide +kernel
theorem dL_law_461 : decode cL_law 461 = .ok (.invokevirtual 65, 3) := by decide +kernel
theorem dL_law_464 : decode cL_law 464 = .ok (.aload_n 2, 1) := by decide +kernel
theorem dL_law_465 : decode cL_law 465 = .ok (.invokevirtual 69, 3) := by decide +kernel
theorem dL_law_468 : decode cL_law 468 = .ok (.lcmp, 1) := by decide +kernel
theorem dL_law_469 : decode cL_law 469 = .ok (.ifCond .eq 295, 3) := by decide +kernel
theorem dL_law_472 : decode cL_law 472 = .ok (.iconst 0, 1) := by decide +kernel
theorem dL_law_473 : decode cL_law 473 = .ok (.ireturn, 1) := by decide +kernel
theorem dL_law_474 : decode cL_law 474 = .ok (.aload_n 1, 1) := by decide +kernel
theorem dL_law_475 : decode cL_law 475 = .ok (.invokevirtual 70, 3) := by decide +kernel
theorem dL_law_478 : decode cL_law 478 = .ok (.aload_n 2, 1) := by decide +kernel
theorem dL_law_479 : decode cL_law 479 = .ok (.invokevirtual 73, 3) := by decide +kernel
theorem dL_law_482 : decode cL_law 482 = .ok (.lcmp, 1) := by decide +kernel
theorem dL_law_483 : decode cL_law 483 = .ok (.ifCond .eq 281, 3) := by decide +kernel
theorem dL_law_486 : decode cL_law 486 = .ok (.iconst 0, 1) := by decide +kernel
theorem dL_law_487 : decode cL_law 487 = .ok (.ireturn, 1) := by decide +kernel
theorem dL_law_488 : decode cL_law 488 = .ok (.aload_n 1, 1) := by decide +kernel
theorem dL_law_489 : decode cL_law 489 = .ok (.aload_n 0, 1) := by decide +kernel
theorem dL_law_490 : decode cL_law 490 = .ok (.iload 4, 2) := by decide +kernel
theorem dL_law_492 : decode cL_law 492 = .ok (.iconst 1, 1) := by decide +kernel
theorem dL_law_493 : decode cL_law 493 = .ok (.iadd, 1) := by decide +kernel
theorem dL_law_494 : decode cL_law 494 = .ok (.iaload, 1) := by decide +kernel
theorem dL_law_495 : decode cL_law 495 = .ok (.aload_n 0, 1) := by decide +kernel
theorem dL_law_496 : decode cL_law 496 = .ok (.iload 4, 2) := by decide +kernel
theorem dL_law_498 : decode cL_law 498 = .ok (.iconst 2, 1) := by decide +kernel
theorem dL_law_499 : decode cL_law 499 = .ok (.iadd, 1) := by decide +kernel
theorem dL_law_500 : decode cL_law 500 = .ok (.iaload, 1) := by decide +kernel
theorem dL_law_501 : decode cL_law 501 = .ok (.aload_n 3, 1) := by decide +kernel
theorem dL_law_502 : decode cL_law 502 = .ok (.invokestatic 74, 3) := by decide +kernel
theorem dL_law_505 : decode cL_law 505 = .ok (.istore 5, 2) := by decide +kernel
theorem dL_law_507 : decode cL_law 507 = .ok (.aload_n 2, 1) := by decide +kernel
theorem dL_law_508 : decode cL_law 508 = .ok (.aload_n 0, 1) := by decide +kernel
theorem dL_law_509 : decode cL_law 509 = .ok (.iload 4, 2) := by decide +kernel
theorem dL_law_511 : decode cL_law 511 = .ok (.iconst 1, 1) := by decide +kernel
theorem dL_law_512 : decode cL_law 512 = .ok (.iadd, 1) := by decide +kernel
theorem dL_law_513 : decode cL_law 513 = .ok (.iaload, 1) := by decide +kernel
theorem dL_law_514 : decode cL_law 514 = .ok (.aload_n 0, 1) := by decide +kernel
theorem dL_law_515 : decode cL_law 515 = .ok (.iload 4, 2) := by decide +kernel
theorem dL_law_517 : decode cL_law 517 = .ok (.iconst 2, 1) := by decide +kernel
theorem dL_law_518 : decode cL_law 518 = .ok (.iadd, 1) := by decide +kernel
theorem dL_law_519 : decode cL_law 519 = .ok (.iaload, 1) := by decide +kernel
theorem dL_law_520 : decode cL_law 520 = .ok (.invokevirtual 77, 3) := by decide +kernel
theorem dL_law_523 : decode cL_law 523 = .ok (.lstore 6, 2) := by decide +kernel
theorem dL_law_525 : decode cL_law 525 = .ok (.aload_n 2, 1) := by decide +kernel
theorem dL_law_526 : decode cL_law 526 = .ok (.invokevirtual 78, 3) := by decide +kernel
theorem dL_law_529 : decode cL_law 529 = .ok (.iload 5, 2) := by decide +kernel
theorem dL_law_531 : decode cL_law 531 = .ok (.if_icmp .eq 5, 3) := by decide +kernel
theorem dL_law_534 : decode cL_law 534 = .ok (.iconst 0, 1) := by decide +kernel
theorem dL_law_535 : decode cL_law 535 = .ok (.ireturn, 1) := by decide +kernel
theorem dL_law_536 : decode cL_law 536 = .ok (.iload 5, 2) := by decide +kernel
theorem dL_law_538 : decode cL_law 538 = .ok (.ifCond .ne 14, 3) := by decide +kernel
theorem dL_law_541 : decode cL_law 541 = .ok (.aload_n 3, 1) := by decide +kernel
theorem dL_law_542 : decode cL_law 542 = .ok (.iconst 0, 1) := by decide +kernel
theorem dL_law_543 : decode cL_law 543 = .ok (.laload, 1) := by decide +kernel
theorem dL_law_544 : decode cL_law 544 = .ok (.lload 6, 2) := by decide +kernel
theorem dL_law_546 : decode cL_law 546 = .ok (.lcmp, 1) := by decide +kernel
theorem dL_law_547 : decode cL_law 547 = .ok (.ifCond .eq 5, 3) := by decide +kernel
theorem dL_law_550 : decode cL_law 550 = .ok (.iconst 0, 1) := by decide +kernel
theorem dL_law_551 : decode cL_law 551 = .ok (.ireturn, 1) := by decide +kernel
theorem dL_law_552 : decode cL_law 552 = .ok (.goto 212, 3) := by decide +kernel
theorem dL_law_555 : decode cL_law 555 = .ok (.aload_n 1, 1) := by decide +kernel
theorem dL_law_556 : decode cL_law 556 = .ok (.aload_n 0, 1) := by decide +kernel
theorem dL_law_557 : decode cL_law 557 = .ok (.iload 4, 2) := by decide +kernel
theorem dL_law_559 : decode cL_law 559 = .ok (.iconst 1, 1) := by decide +kernel
theorem dL_law_560 : decode cL_law 560 = .ok (.iadd, 1) := by decide +kernel
theorem dL_law_561 : decode cL_law 561 = .ok (.iaload, 1) := by decide +kernel
theorem dL_law_562 : decode cL_law 562 = .ok (.aload_n 3, 1) := by decide +kernel
theorem dL_law_563 : decode cL_law 563 = .ok (.invokestatic 82, 3) := by decide +kernel
theorem dL_law_566 : decode cL_law 566 = .ok (.istore 5, 2) := by decide +kernel
theorem dL_law_568 : decode cL_law 568 = .ok (.aload_n 2, 1) := by decide +kernel
theorem dL_law_569 : decode cL_law 569 = .ok (.aload_n 0, 1) := by decide +kernel
theorem dL_law_570 : decode cL_law 570 = .ok (.iload 4, 2) := by decide +kernel
theorem dL_law_572 : decode cL_law 572 = .ok (.iconst 1, 1) := by decide +kernel
theorem dL_law_573 : decode cL_law 573 = .ok (.iadd, 1) := by decide +kernel
theorem dL_law_574 : decode cL_law 574 = .ok (.iaload, 1) := by decide +kernel
theorem dL_law_575 : decode cL_law 575 = .ok (.invokevirtual 85, 3) := by decide +kernel
theorem dL_law_578 : decode cL_law 578 = .ok (.lstore 6, 2) := by decide +kernel
theorem dL_law_580 : decode cL_law 580 = .ok (.aload_n 2, 1) := by decide +kernel
theorem dL_law_581 : decode cL_law 581 = .ok (.invokevirtual 78, 3) := by decide +kernel
theorem dL_law_584 : decode cL_law 584 = .ok (.iload 5, 2) := by decide +kernel
theorem dL_law_586 : decode cL_law 586 = .ok (.if_icmp .eq 5, 3) := by decide +kernel
theorem dL_law_589 : decode cL_law 589 = .ok (.iconst 0, 1) := by decide +kernel
theorem dL_law_590 : decode cL_law 590 = .ok (.ireturn, 1) := by decide +kernel
theorem dL_law_591 : decode cL_law 591 = .ok (.iload 5, 2) := by decide +kernel
theorem dL_law_593 : decode cL_law 593 = .ok (.ifCond .ne 14, 3) := by decide +kernel
theorem dL_law_596 : decode cL_law 596 = .ok (.aload_n 3, 1) := by decide +kernel
theorem dL_law_597 : decode cL_law 597 = .ok (.iconst 0, 1) := by decide +kernel
theorem dL_law_598 : decode cL_law 598 = .ok (.laload, 1) := by decide +kernel
theorem dL_law_599 : decode cL_law 599 = .ok (.lload 6, 2) := by decide +kernel
theorem dL_law_601 : decode cL_law 601 = .ok (.lcmp, 1) := by decide +kernel
theorem dL_law_602 : decode cL_law 602 = .ok (.ifCond .eq 5, 3) := by decide +kernel
theorem dL_law_605 : decode cL_law 605 = .ok (.iconst 0, 1) := by decide +kernel
theorem dL_law_606 : decode cL_law 606 = .ok (.ireturn, 1) := by decide +kernel
theorem dL_law_607 : decode cL_law 607 = .ok (.goto 157, 3) := by decide +kernel
theorem dL_law_610 : decode cL_law 610 = .ok (.aload_n 1, 1) := by decide +kernel
theorem dL_law_611 : decode cL_law 611 = .ok (.aload_n 0, 1) := by decide +kernel
theorem dL_law_612 : decode cL_law 612 = .ok (.iload 4, 2) := by decide +kernel
theorem dL_law_614 : decode cL_law 614 = .ok (.iconst 1, 1) := by decide +kernel
theorem dL_law_615 : decode cL_law 615 = .ok (.iadd, 1) := by decide +kernel
theorem dL_law_616 : decode cL_law 616 = .ok (.iaload, 1) := by decide +kernel
theorem dL_law_617 : decode cL_law 617 = .ok (.aload_n 0, 1) := by decide +kernel
theorem dL_law_618 : decode cL_law 618 = .ok (.iload 4, 2) := by decide +kernel
theorem dL_law_620 : decode cL_law 620 = .ok (.iconst 2, 1) := by decide +kernel
theorem dL_law_621 : decode cL_law 621 = .ok (.iadd, 1) := by decide +kernel
theorem dL_law_622 : decode cL_law 622 = .ok (.iaload, 1) := by decide +kernel
theorem dL_law_623 : decode cL_law 623 = .ok (.invokevirtual 86, 3) := by decide +kernel
theorem dL_law_626 : decode cL_law 626 = .ok (.aload_n 2, 1) := by decide +kernel
theorem dL_law_627 : decode cL_law 627 = .ok (.aload_n 0, 1) := by decide +kernel
theorem dL_law_628 : decode cL_law 628 = .ok (.iload 4, 2) := by decide +kernel
theorem dL_law_630 : decode cL_law 630 = .ok (.iconst 1, 1) := by decide +kernel
theorem dL_law_631 : decode cL_law 631 = .ok (.iadd, 1) := by decide +kernel
theorem dL_law_632 : decode cL_law 632 = .ok (.iaload, 1) := by decide +kernel
theorem dL_law_633 : decode cL_law 633 = .ok (.aload_n 0, 1) := by decide +kernel
theorem dL_law_634 : decode cL_law 634 = .ok (.iload 4, 2) := by decide +kernel
theorem dL_law_636 : decode cL_law 636 = .ok (.iconst 2, 1) := by decide +kernel
theorem dL_law_637 : decode cL_law 637 = .ok (.iadd, 1) := by decide +kernel
theorem dL_law_638 : decode cL_law 638 = .ok (.iaload, 1) := by decide +kernel
theorem dL_law_639 : decode cL_law 639 = .ok (.invokevirtual 90, 3) := by decide +kernel
theorem dL_law_642 : decode cL_law 642 = .ok (.if_icmp .eq 122, 3) := by decide +kernel
theorem dL_law_645 : decode cL_law 645 = .ok (.iconst 0, 1) := by decide +kernel
theorem dL_law_646 : decode cL_law 646 = .ok (.ireturn, 1) := by decide +kernel
theorem dL_law_647 : decode cL_law 647 = .ok (.aload_n 1, 1) := by decide +kernel
theorem dL_law_648 : decode cL_law 648 = .ok (.aload_n 0, 1) := by decide +kernel
theorem dL_law_649 : decode cL_law 649 = .ok (.iload 4, 2) := by decide +kernel
theorem dL_law_651 : decode cL_law 651 = .ok (.iconst 1, 1) := by decide +kernel
theorem dL_law_652 : decode cL_law 652 = .ok (.iadd, 1) := by decide +kernel
theorem dL_law_653 : decode cL_law 653 = .ok (.iaload, 1) := by decide +kernel
theorem dL_law_654 : decode cL_law 654 = .ok (.aload_n 0, 1) := by decide +kernel
theorem dL_law_655 : decode cL_law 655 = .ok (.iload 4, 2) := by decide +kernel
theorem dL_law_657 : decode cL_law 657 = .ok (.iconst 2, 1) := by decide +kernel
theorem dL_law_658 : decode cL_law 658 = .ok (.iadd, 1) := by decide +kernel
theorem dL_law_659 : decode cL_law 659 = .ok (.iaload, 1) := by decide +kernel
theorem dL_law_660 : decode cL_law 660 = .ok (.invokevirtual 91, 3) := by decide +kernel
theorem dL_law_663 : decode cL_law 663 = .ok (.aload_n 2, 1) := by decide +kernel
theorem dL_law_664 : decode cL_law 664 = .ok (.aload_n 0, 1) := by decide +kernel
theorem dL_law_665 : decode cL_law 665 = .ok (.iload 4, 2) := by decide +kernel
theorem dL_law_667 : decode cL_law 667 = .ok (.iconst 1, 1) := by decide +kernel
theorem dL_law_668 : decode cL_law 668 = .ok (.iadd, 1) := by decide +kernel
theorem dL_law_669 : decode cL_law 669 = .ok (.iaload, 1) := by decide +kernel
theorem dL_law_670 : decode cL_law 670 = .ok (.aload_n 0, 1) := by decide +kernel
theorem dL_law_671 : decode cL_law 671 = .ok (.iload 4, 2) := by decide +kernel
theorem dL_law_673 : decode cL_law 673 = .ok (.iconst 2, 1) := by decide +kernel
theorem dL_law_674 : decode cL_law 674 = .ok (.iadd, 1) := by decide +kernel
theorem dL_law_675 : decode cL_law 675 = .ok (.iaload, 1) := by decide +kernel
theorem dL_law_676 : decode cL_law 676 = .ok (.invokevirtual 94, 3) := by decide +kernel
theorem dL_law_679 : decode cL_law 679 = .ok (.if_icmp .eq 85, 3) := by decide +kernel
theorem dL_law_682 : decode cL_law 682 = .ok (.iconst 0, 1) := by decide +kernel
theorem dL_law_683 : decode cL_law 683 = .ok (.ireturn, 1) := by decide +kernel
theorem dL_law_684 : decode cL_law 684 = .ok (.aload_n 1, 1) := by decide +kernel
theorem dL_law_685 : decode cL_law 685 = .ok (.aload_n 0, 1) := by decide +kernel
theorem dL_law_686 : decode cL_law 686 = .ok (.iload 4, 2) := by decide +kernel
theorem dL_law_688 : decode cL_law 688 = .ok (.iconst 1, 1) := by decide +kernel
theorem dL_law_689 : decode cL_law 689 = .ok (.iadd, 1) := by decide +kernel
theorem dL_law_690 : decode cL_law 690 = .ok (.iaload, 1) := by decide +kernel
theorem dL_law_691 : decode cL_law 691 = .ok (.aload_n 0, 1) := by decide +kernel
theorem dL_law_692 : decode cL_law 692 = .ok (.iload 4, 2) := by decide +kernel
theorem dL_law_694 : decode cL_law 694 = .ok (.iconst 2, 1) := by decide +kernel
theorem dL_law_695 : decode cL_law 695 = .ok (.iadd, 1) := by decide +kernel
theorem dL_law_696 : decode cL_law 696 = .ok (.iaload, 1) := by decide +kernel
theorem dL_law_697 : decode cL_law 697 = .ok (.aload_n 3, 1) := by decide +kernel
theorem dL_law_698 : decode cL_law 698 = .ok (.invokestatic 95, 3) := by decide +kernel
theorem dL_law_701 : decode cL_law 701 = .ok (.istore 5, 2) := by decide +kernel
theorem dL_law_703 : decode cL_law 703 = .ok (.aload_n 2, 1) := by decide +kernel
theorem dL_law_704 : decode cL_law 704 = .ok (.aload_n 0, 1) := by decide +kernel
theorem dL_law_705 : decode cL_law 705 = .ok (.iload 4, 2) := by decide +kernel
theorem dL_law_707 : decode cL_law 707 = .ok (.iconst 1, 1) := by decide +kernel
theorem dL_law_708 : decode cL_law 708 = .ok (.iadd, 1) := by decide +kernel
theorem dL_law_709 : decode cL_law 709 = .ok (.iaload, 1) := by decide +kernel
theorem dL_law_710 : decode cL_law 710 = .ok (.aload_n 0, 1) := by decide +kernel
theorem dL_law_711 : decode cL_law 711 = .ok (.iload 4, 2) := by decide +kernel
theorem dL_law_713 : decode cL_law 713 = .ok (.iconst 2, 1) := by decide +kernel
theorem dL_law_714 : decode cL_law 714 = .ok (.iadd, 1) := by decide +kernel
theorem dL_law_715 : decode cL_law 715 = .ok (.iaload, 1) := by decide +kernel
theorem dL_law_716 : decode cL_law 716 = .ok (.invokevirtual 97, 3) := by decide +kernel
theorem dL_law_719 : decode cL_law 719 = .ok (.lstore 6, 2) := by decide +kernel
theorem dL_law_721 : decode cL_law 721 = .ok (.aload_n 2, 1) := by decide +kernel
theorem dL_law_722 : decode cL_law 722 = .ok (.invokevirtual 78, 3) := by decide +kernel
theorem dL_law_725 : decode cL_law 725 = .ok (.iload 5, 2) := by decide +kernel
theorem dL_law_727 : decode cL_law 727 = .ok (.if_icmp .eq 5, 3) := by decide +kernel
theorem dL_law_730 : decode cL_law 730 = .ok (.iconst 0, 1) := by decide +kernel
theorem dL_law_731 : decode cL_law 731 = .ok (.ireturn, 1) := by decide +kernel
theorem dL_law_732 : decode cL_law 732 = .ok (.iload 5, 2) := by decide +kernel
theorem dL_law_734 : decode cL_law 734 = .ok (.ifCond .ne 14, 3) := by decide +kernel
theorem dL_law_737 : decode cL_law 737 = .ok (.aload_n 3, 1) := by decide +kernel
theorem dL_law_738 : decode cL_law 738 = .ok (.iconst 0, 1) := by decide +kernel
theorem dL_law_739 : decode cL_law 739 = .ok (.laload, 1) := by decide +kernel
theorem dL_law_740 : decode cL_law 740 = .ok (.lload 6, 2) := by decide +kernel
theorem dL_law_742 : decode cL_law 742 = .ok (.lcmp, 1) := by decide +kernel
theorem dL_law_743 : decode cL_law 743 = .ok (.ifCond .eq 5, 3) := by decide +kernel
theorem dL_law_746 : decode cL_law 746 = .ok (.iconst 0, 1) := by decide +kernel
theorem dL_law_747 : decode cL_law 747 = .ok (.ireturn, 1) := by decide +kernel
theorem dL_law_748 : decode cL_law 748 = .ok (.goto 16, 3) := by decide +kernel
theorem dL_law_751 : decode cL_law 751 = .ok (.aload_n 1, 1) := by decide +kernel
theorem dL_law_752 : decode cL_law 752 = .ok (.invokevirtual 98, 3) := by decide +kernel
theorem dL_law_755 : decode cL_law 755 = .ok (.aload_n 2, 1) := by decide +kernel
theorem dL_law_756 : decode cL_law 756 = .ok (.invokevirtual 102, 3) := by decide +kernel
theorem dL_law_759 : decode cL_law 759 = .ok (.if_icmp .eq 5, 3) := by decide +kernel
theorem dL_law_762 : decode cL_law 762 = .ok (.iconst 0, 1) := by decide +kernel
theorem dL_law_763 : decode cL_law 763 = .ok (.ireturn, 1) := by decide +kernel
theorem dL_law_764 : decode cL_law 764 = .ok (.iinc 4 7, 3) := by decide +kernel
theorem dL_law_767 : decode cL_law 767 = .ok (.goto (-732), 3) := by decide +kernel
theorem dL_law_770 : decode cL_law 770 = .ok (.iconst 1, 1) := by decide +kernel
theorem dL_law_771 : decode cL_law 771 = .ok (.ireturn, 1) := by decide +kernel
end
section
/-! The reference's cells. S v i j: v is the field's number (its arrays by row and place) -/
def rK (v : Nat) : Nat := if v = 5 ∨ v = 20 ∨ v = 25 ∨ v = 30 ∨ v = 31 then 2 else if v = 23 ∨ v = 24 ∨ v = 26 then 3 else if v = 12 ∨ v = 13 ∨ v = 21 ∨ v = 22 then 1 else 0
def rW (v : Nat) : Nat := if v = 9 then 1000 else if v = 12 ∨ v = 13 ∨ v = 14 then 4 else if v = 21 then 12 else 1
def rN (v : Nat) : Nat := if v = 16 ∨ v = 17 ∨ v = 18 ∨ v = 19 then 64 else if v = 27 ∨ v = 28 ∨ v = 29 then 1000 else 12
def rF (ad : Nat → Nat → Nat) (S : Nat → Nat → Nat → Int) (v : Nat) : Value := if rK v = 2 then .int (zI (S v 0 0)) else if rK v = 3 then .long (zL (S v 0 0)) else .ref (ad v 0)
def rE (cI cJ : ClassId) (ad : Nat → Nat → Nat) (S : Nat → Nat → Nat → Int) (k : Nat) : va_E :=
  if k = 32 then .inr (6, (List.range 32).map (rF ad S)) else if rK k = 1 then .inl (cJ, rN k * rW k, .inr (.inl (fun t => zL (S k (t / rW k) (t % rW k))))) else .inl (cI, rN k * rW k, .inl (fun t => zI (S k (t / rW k) (t % rW k))))
def rA (k i : Nat) : Prop := i = 0 ∧ (k = 32 ∨ (k < 32 ∧ rK k < 2))
def gR (D : va_G) (cI cJ : ClassId) (A : Nat → Prop) (ad : Nat → Nat → Nat) (S : Nat → Nat → Nat → Int) (H : Heap) : Prop := gQ D A ad rA (fun k _ => rE cI cJ ad S k) H
def gRU (D : va_G) (cI cJ : ClassId) (A : Nat → Prop) (ad : Nat → Nat → Nat) (S : Nat → Nat → Nat → Int) (U : State) : Prop := gR D cI cJ A ad S U.heap ∧ va_K D vwCl [(cI, .int), (cJ, .long)] U
def su (S : Nat → Nat → Nat → Int) (v i j : Nat) (z : Int) : Nat → Nat → Nat → Int := fun v' i' j' => if v' = v ∧ i' = i ∧ j' = j then z else S v' i' j'
theorem rN_B (v : Nat) : rN v * rW v < 2147483648 := by
  have h1 : rN v ≤ 1000 := by unfold rN; (repeat' split) <;> omega
  have h2 : rW v ≤ 1000 := by unfold rW; (repeat' split) <;> omega
  exact Nat.lt_of_le_of_lt (Nat.mul_le_mul h1 h2) (by omega)
theorem rW_pos (v : Nat) : 0 < rW v := by unfold rW; (repeat' split) <;> omega
theorem rE_obj (cI cJ : ClassId) (ad : Nat → Nat → Nat) (S : Nat → Nat → Nat → Int) : rE cI cJ ad S 32 = .inr (6, (List.range 32).map (rF ad S)) := if_pos rfl
theorem rE_I {cI cJ : ClassId} {ad : Nat → Nat → Nat} {S : Nat → Nat → Nat → Int} {v : Nat} (h : v < 32) (h0 : rK v = 0) : rE cI cJ ad S v = .inl (cI, rN v * rW v, .inl (fun t => zI (S v (t / rW v) (t % rW v)))) := by
  unfold rE; rw [if_neg (by omega), if_neg (by omega)]
theorem rE_J {cI cJ : ClassId} {ad : Nat → Nat → Nat} {S : Nat → Nat → Nat → Int} {v : Nat} (h : v < 32) (h0 : rK v = 1) : rE cI cJ ad S v = .inl (cJ, rN v * rW v, .inr (.inl (fun t => zL (S v (t / rW v) (t % rW v))))) := by
  unfold rE; rw [if_neg (by omega), if_pos (by omega)]
theorem rE_other {cI cJ : ClassId} {ad : Nat → Nat → Nat} {S : Nat → Nat → Nat → Int} {v i j : Nat} {z : Int} {k : Nat} (h : k ≠ v) (hk : k < 32) : rE cI cJ ad (su S v i j z) k = rE cI cJ ad S k := by
  unfold rE
  have e : ∀ a b, su S v i j z k a b = S k a b := fun a b => by unfold su; rw [if_neg (fun q => h q.1)]
  have hk2 : ¬ k = 32 := by omega
  simp only [e, hk2, if_false]
theorem rE_arr {cI cJ : ClassId} {ad : Nat → Nat → Nat} {S : Nat → Nat → Nat → Int} {v i j : Nat} {z : Int} (hv : rK v < 2) : rE cI cJ ad (su S v i j z) 32 = rE cI cJ ad S 32 := by
  rw [rE_obj, rE_obj]
  congr 2
  apply List.map_congr_left
  intro f _
  unfold rF
  by_cases h : f = v
  · subst h
    rw [if_neg (by omega), if_neg (by omega), if_neg (by omega), if_neg (by omega)]
  · have e : su S v i j z f 0 0 = S f 0 0 := by unfold su; rw [if_neg (fun q => h q.1)]
    rw [e]
theorem rF_get {ad : Nat → Nat → Nat} {S : Nat → Nat → Nat → Int} {v : Nat} (h : v < 32) : ((List.range 32).map (rF ad S))[v]? = some (rF ad S v) := by
  rw [List.getElem?_map, List.getElem?_range h]; rfl
theorem rF_set {ad : Nat → Nat → Nat} {S : Nat → Nat → Nat → Int} {v : Nat} {z : Int} (h : v < 32) : (List.range 32).map (rF ad (su S v 0 0 z)) = ((List.range 32).map (rF ad S)).set v (rF ad (su S v 0 0 z) v) := by
  apply List.ext_getElem?
  intro j
  by_cases hj : j = v
  · subst hj
    rw [rF_get h, List.getElem?_set_self (by simpa using h)]
  · rw [List.getElem?_set_ne (Ne.symm hj)]
    by_cases hl : j < 32
    · rw [rF_get hl, rF_get hl]
      have e : su S v 0 0 z j 0 0 = S j 0 0 := by unfold su; rw [if_neg (fun q => hj q.1)]
      unfold rF
      rw [e]
    · rw [List.getElem?_eq_none (by simpa using hl), List.getElem?_eq_none (by simpa using hl)]
theorem su_cell {v i j w : Nat} {n : Nat} (hw : 0 < w) (hj : j < w) (q : Nat) : (q / w = i ∧ q % w = j) ↔ q = i * w + j := by
  constructor
  · rintro ⟨rfl, rfl⟩
    have := Nat.div_add_mod q w
    rw [Nat.mul_comm] at this
    omega
  · rintro rfl
    constructor
    · rw [Nat.mul_comm, Nat.mul_add_div hw, Nat.div_eq_of_lt hj]; omega
    · rw [Nat.mul_comm, Nat.mul_add_mod, Nat.mod_eq_of_lt hj]
theorem gRU_blind {D : va_G} {cI cJ : ClassId} {A : Nat → Prop} {ad : Nat → Nat → Nat} {S : Nat → Nat → Nat → Int} {as : List Value} : FrameBlind (va_Pc as (gRU D cI cJ A ad S)) := fun a U g mk q => by
  obtain ⟨q0, qP, qK⟩ := q
  exact ⟨q0, qP, va_K.moved (u := U) (U := U.calling g mk a) (Vm.Alike.refl U.vm) qK⟩
section RW
variable {p : Program} {l : Launch} {e : Env} {R : Room} {s : State} {m : MethodId} {args : Array Value} {below : List Frame} {meth : Method} {c : Code} {H : Heap} {locs : List Loc} {cells slots : Nat} {Q : State → Prop}
variable {cc : ByteArray} {pc : Nat} {ls : Array Slot} {rest : List Value} {D : va_G} {cI cJ : ClassId} {A : Nat → Prop} {H0 : Heap} {ad : Nat → Nat → Nat} {S : Nat → Nat → Nat → Int} {Ts : List Cond} {index : Nat}
theorem r_getI (hexec : p.tables.exec = Jvm.exec) (hb : c.code = cc) (hts : ∀ w ∈ Ts, w.before args s = true) (hin : ∀ w ∈ wsX50, w ∈ Ts) (hown : s.vm.findClass RX5 = some m.cls) (hK : va_K D vwCl [(cI, .int), (cJ, .long)] s) (hG : gR D cI cJ A ad S H) (v : Nat) (hv : v < 32) (hk : rK v = 2) (hlink : (Cond.fieldLink RX5 index (TX5 v).1 (TX5 v).2.1 (TX5 v).2.2.1).before args s = true) {z : Int} (hz : S v 0 0 = z) (hdg : decode cc pc = .ok (.getfield index, 3))
    (kk : W p l e R s m args below meth c H locs cells slots Q (F0 m (pc + 3) ls (.int (zI z) :: rest))) : W p l e R s m args below meth c H locs cells slots Q (F0 m pc ls (.ref (ad 32 0) :: rest)) :=
  q_get hexec hb hts hin hown hK hG (k := 32) (i := 0) ⟨rfl, Or.inl rfl⟩ (rE_obj cI cJ ad S) rfl v hv hlink (rF_get hv) hdg (by unfold rF; rw [if_pos hk, hz]; exact kk)
theorem r_getJ (hexec : p.tables.exec = Jvm.exec) (hb : c.code = cc) (hts : ∀ w ∈ Ts, w.before args s = true) (hin : ∀ w ∈ wsX50, w ∈ Ts) (hown : s.vm.findClass RX5 = some m.cls) (hK : va_K D vwCl [(cI, .int), (cJ, .long)] s) (hG : gR D cI cJ A ad S H) (v : Nat) (hv : v < 32) (hk : rK v = 3) (hlink : (Cond.fieldLink RX5 index (TX5 v).1 (TX5 v).2.1 (TX5 v).2.2.1).before args s = true) {z : Int} (hz : S v 0 0 = z) (hdg : decode cc pc = .ok (.getfield index, 3))
    (kk : W p l e R s m args below meth c H locs cells slots Q (F0 m (pc + 3) ls (.long (zL z) :: rest))) : W p l e R s m args below meth c H locs cells slots Q (F0 m pc ls (.ref (ad 32 0) :: rest)) :=
  q_get hexec hb hts hin hown hK hG (k := 32) (i := 0) ⟨rfl, Or.inl rfl⟩ (rE_obj cI cJ ad S) rfl v hv hlink (rF_get hv) hdg (by unfold rF; rw [if_neg (by omega), if_pos hk, hz]; exact kk)
theorem r_getA (hexec : p.tables.exec = Jvm.exec) (hb : c.code = cc) (hts : ∀ w ∈ Ts, w.before args s = true) (hin : ∀ w ∈ wsX50, w ∈ Ts) (hown : s.vm.findClass RX5 = some m.cls) (hK : va_K D vwCl [(cI, .int), (cJ, .long)] s) (hG : gR D cI cJ A ad S H) (v : Nat) (hv : v < 32) (hk : rK v < 2) (hlink : (Cond.fieldLink RX5 index (TX5 v).1 (TX5 v).2.1 (TX5 v).2.2.1).before args s = true) (hdg : decode cc pc = .ok (.getfield index, 3))
    (kk : W p l e R s m args below meth c H locs cells slots Q (F0 m (pc + 3) ls (.ref (ad v 0) :: rest))) : W p l e R s m args below meth c H locs cells slots Q (F0 m pc ls (.ref (ad 32 0) :: rest)) :=
  q_get hexec hb hts hin hown hK hG (k := 32) (i := 0) ⟨rfl, Or.inl rfl⟩ (rE_obj cI cJ ad S) rfl v hv hlink (rF_get hv) hdg (by unfold rF; rw [if_neg (by omega), if_neg (by omega)]; exact kk)
theorem r_putI (hexec : p.tables.exec = Jvm.exec) (hb : c.code = cc) (hts : ∀ w ∈ Ts, w.before args s = true) (hin : ∀ w ∈ wsX50, w ∈ Ts) (hown : s.vm.findClass RX5 = some m.cls) (hK : va_K D vwCl [(cI, .int), (cJ, .long)] s) (hG : gR D cI cJ A ad S H) (hS0 : va_S A H0 H locs) (v : Nat) (hv : v < 32) (hk : rK v = 2) (hlink : (Cond.fieldLink RX5 index (TX5 v).1 (TX5 v).2.1 (TX5 v).2.2.1).before args s = true) (hfin : (TX5 v).2.2.2 = false) (hd : tyX5 v = .int) {z : Int} (hdg : decode cc pc = .ok (.putfield index, 3))
    (kk : ∀ (H1 : Heap) (locs1 : List Loc), gR D cI cJ A ad (su S v 0 0 z) H1 → va_S A H0 H1 locs1 → W p l e R s m args below meth c H1 locs1 cells slots Q (F0 m (pc + 3) ls rest)) : W p l e R s m args below meth c H locs cells slots Q (F0 m pc ls (.int (zI z) :: .ref (ad 32 0) :: rest)) :=
  q_put hexec hb hts hin tyX5 tyX5_ok nmX5 hown hK hG hS0 (k := 32) (i := 0) ⟨rfl, Or.inl rfl⟩ (rE_obj cI cJ ad S) rfl v hv hlink (Or.inl hfin) (hd ▸ tyX5_ok v hv) rfl rfl (by simpa using hv)
    (E' := fun k _ => rE cI cJ ad (su S v 0 0 z) k) (fun k' i' ha hne => rE_other (fun q => by subst q; rcases ha.2 with h | h <;> omega) (by rcases ha with ⟨h1, h2 | h2⟩ <;> omega)) (by rw [rE_obj, rF_set hv]; congr 3; unfold rF; rw [if_pos hk]; simp [su]) hdg kk
theorem r_putJ (hexec : p.tables.exec = Jvm.exec) (hb : c.code = cc) (hts : ∀ w ∈ Ts, w.before args s = true) (hin : ∀ w ∈ wsX50, w ∈ Ts) (hown : s.vm.findClass RX5 = some m.cls) (hK : va_K D vwCl [(cI, .int), (cJ, .long)] s) (hG : gR D cI cJ A ad S H) (hS0 : va_S A H0 H locs) (v : Nat) (hv : v < 32) (hk : rK v = 3) (hlink : (Cond.fieldLink RX5 index (TX5 v).1 (TX5 v).2.1 (TX5 v).2.2.1).before args s = true) (hfin : (TX5 v).2.2.2 = false) (hd : tyX5 v = .long) {z : Int} (hdg : decode cc pc = .ok (.putfield index, 3))
    (kk : ∀ (H1 : Heap) (locs1 : List Loc), gR D cI cJ A ad (su S v 0 0 z) H1 → va_S A H0 H1 locs1 → W p l e R s m args below meth c H1 locs1 cells slots Q (F0 m (pc + 3) ls rest)) : W p l e R s m args below meth c H locs cells slots Q (F0 m pc ls (.long (zL z) :: .ref (ad 32 0) :: rest)) :=
  q_put hexec hb hts hin tyX5 tyX5_ok nmX5 hown hK hG hS0 (k := 32) (i := 0) ⟨rfl, Or.inl rfl⟩ (rE_obj cI cJ ad S) rfl v hv hlink (Or.inl hfin) (hd ▸ tyX5_ok v hv) rfl rfl (by simpa using hv)
    (E' := fun k _ => rE cI cJ ad (su S v 0 0 z) k) (fun k' i' ha hne => rE_other (fun q => by subst q; rcases ha.2 with h | h <;> omega) (by rcases ha with ⟨h1, h2 | h2⟩ <;> omega)) (by rw [rE_obj, rF_set hv]; congr 3; unfold rF; rw [if_neg (by omega), if_pos hk]; simp [su]) hdg kk
theorem r_iald (hexec : p.tables.exec = Jvm.exec) (hb : c.code = cc) (hK : va_K D vwCl [(cI, .int), (cJ, .long)] s) (hG : gR D cI cJ A ad S H) (v : Nat) (hv : v < 32) (hk : rK v = 0) (i j : Nat) {z : Int} (hz : z = i * rW v + j) (hi : i < rN v) (hj : j < rW v) {w : Int} (hw : S v i j = w) (hdg : decode cc pc = .ok (.iaload, 1))
    (kk : W p l e R s m args below meth c H locs cells slots Q (F0 m (pc + 1) ls (.int (zI w) :: rest))) : W p l e R s m args below meth c H locs cells slots Q (F0 m pc ls (.int (zI z) :: .ref (ad v 0) :: rest)) := by
  have hzt : z.toNat = i * rW v + j := by rw [hz]; exact Int.toNat_natCast (i * rW v + j)
  have hlt : i * rW v + j < rN v * rW v := by
    have := Nat.mul_le_mul_right (rW v) (Nat.succ_le_of_lt hi)
    rw [Nat.succ_mul] at this
    omega
  refine q_iald hexec hb hK hG 0 (k := v) (i := 0) ⟨rfl, Or.inr ⟨hv, by omega⟩⟩ (rE_I hv hk) rfl (by omega) (by omega) (rN_B v) (v := zI w) ?_ hdg kk
  rw [hzt]
  have h2 := (su_cell (v := v) (n := 0) (i := i) (j := j) (rW_pos v) hj (i * rW v + j)).mpr rfl
  rw [h2.1, h2.2, hw]
theorem r_lald (hexec : p.tables.exec = Jvm.exec) (hb : c.code = cc) (hK : va_K D vwCl [(cI, .int), (cJ, .long)] s) (hG : gR D cI cJ A ad S H) (v : Nat) (hv : v < 32) (hk : rK v = 1) (i j : Nat) {z : Int} (hz : z = i * rW v + j) (hi : i < rN v) (hj : j < rW v) {w : Int} (hw : S v i j = w) (hdg : decode cc pc = .ok (.laload, 1))
    (kk : W p l e R s m args below meth c H locs cells slots Q (F0 m (pc + 1) ls (.long (zL w) :: rest))) : W p l e R s m args below meth c H locs cells slots Q (F0 m pc ls (.int (zI z) :: .ref (ad v 0) :: rest)) := by
  have hzt : z.toNat = i * rW v + j := by rw [hz]; exact Int.toNat_natCast (i * rW v + j)
  have hlt : i * rW v + j < rN v * rW v := by
    have := Nat.mul_le_mul_right (rW v) (Nat.succ_le_of_lt hi)
    rw [Nat.succ_mul] at this
    omega
  refine q_lald hexec hb hK hG 1 (k := v) (i := 0) ⟨rfl, Or.inr ⟨hv, by omega⟩⟩ (rE_J hv hk) rfl (by omega) (by omega) (rN_B v) (v := zL w) ?_ hdg kk
  rw [hzt]
  have h2 := (su_cell (v := v) (n := 0) (i := i) (j := j) (rW_pos v) hj (i * rW v + j)).mpr rfl
  rw [h2.1, h2.2, hw]
theorem r_iast (hexec : p.tables.exec = Jvm.exec) (hb : c.code = cc) (hK : va_K D vwCl [(cI, .int), (cJ, .long)] s) (hG : gR D cI cJ A ad S H) (hS : va_S A H0 H locs) (v : Nat) (hv : v < 32) (hk : rK v = 0) (i j : Nat) {z : Int} (hz : z = i * rW v + j) (hi : i < rN v) (hj : j < rW v) {w : Int} (hdg : decode cc pc = .ok (.iastore, 1))
    (kk : ∀ (H1 : Heap) (locs1 : List Loc), gR D cI cJ A ad (su S v i j w) H1 → va_S A H0 H1 locs1 → W p l e R s m args below meth c H1 locs1 cells slots Q (F0 m (pc + 1) ls rest)) : W p l e R s m args below meth c H locs cells slots Q (F0 m pc ls (.int (zI w) :: .int (zI z) :: .ref (ad v 0) :: rest)) := by
  have hzt : z.toNat = i * rW v + j := by rw [hz]; exact Int.toNat_natCast (i * rW v + j)
  have hlt : i * rW v + j < rN v * rW v := by
    have := Nat.mul_le_mul_right (rW v) (Nat.succ_le_of_lt hi)
    rw [Nat.succ_mul] at this
    omega
  refine q_iast hexec hb hK hG hS 0 (k := v) (i := 0) ⟨rfl, Or.inr ⟨hv, by omega⟩⟩ (rE_I hv hk) rfl (by omega) (by omega) (rN_B v)
    (E' := fun k _ => rE cI cJ ad (su S v i j w) k) (fun k' i' ha hne => ?_) (rE_I hv hk) (fun q _ => ?_) hdg kk
  · rcases ha with ⟨rfl, rfl | h⟩
    · exact rE_arr (by omega)
    · exact rE_other (fun q => hne ⟨q, rfl⟩) h.1
  · rw [hzt]
    show zI (su S v i j w v (q / rW v) (q % rW v)) = _
    have h2 := su_cell (v := v) (n := 0) (i := i) (j := j) (rW_pos v) hj q
    unfold su
    by_cases h : q = i * rW v + j
    · rw [if_pos ⟨rfl, h2.mpr h⟩, if_pos h]
    · rw [if_neg (fun z => h (h2.mp z.2)), if_neg h]
theorem r_last (hexec : p.tables.exec = Jvm.exec) (hb : c.code = cc) (hK : va_K D vwCl [(cI, .int), (cJ, .long)] s) (hG : gR D cI cJ A ad S H) (hS : va_S A H0 H locs) (v : Nat) (hv : v < 32) (hk : rK v = 1) (i j : Nat) {z : Int} (hz : z = i * rW v + j) (hi : i < rN v) (hj : j < rW v) {w : Int} (hdg : decode cc pc = .ok (.lastore, 1))
    (kk : ∀ (H1 : Heap) (locs1 : List Loc), gR D cI cJ A ad (su S v i j w) H1 → va_S A H0 H1 locs1 → W p l e R s m args below meth c H1 locs1 cells slots Q (F0 m (pc + 1) ls rest)) : W p l e R s m args below meth c H locs cells slots Q (F0 m pc ls (.long (zL w) :: .int (zI z) :: .ref (ad v 0) :: rest)) := by
  have hzt : z.toNat = i * rW v + j := by rw [hz]; exact Int.toNat_natCast (i * rW v + j)
  have hlt : i * rW v + j < rN v * rW v := by
    have := Nat.mul_le_mul_right (rW v) (Nat.succ_le_of_lt hi)
    rw [Nat.succ_mul] at this
    omega
  refine q_last hexec hb hK hG hS 1 (k := v) (i := 0) ⟨rfl, Or.inr ⟨hv, by omega⟩⟩ (rE_J hv hk) rfl (by omega) (by omega) (rN_B v)
    (E' := fun k _ => rE cI cJ ad (su S v i j w) k) (fun k' i' ha hne => ?_) (rE_J hv hk) (fun q _ => ?_) hdg kk
  · rcases ha with ⟨rfl, rfl | h⟩
    · exact rE_arr (by omega)
    · exact rE_other (fun q => hne ⟨q, rfl⟩) h.1
  · rw [hzt]
    show zL (su S v i j w v (q / rW v) (q % rW v)) = _
    have h2 := su_cell (v := v) (n := 0) (i := i) (j := j) (rW_pos v) hj q
    unfold su
    by_cases h : q = i * rW v + j
    · rw [if_pos ⟨rfl, h2.mpr h⟩, if_pos h]
    · rw [if_neg (fun z => h (h2.mp z.2)), if_neg h]
/-- a call of one of the reference's own methods -/
theorem r_callV {y : MethodName} {bytes : ByteArray} {maxL nL mc ms n : Nat} {ret : Option FieldType} {ws : List Cond} {rm : Room} {own : String} {As st0 : List Value} {v : Option Value} {S' : Nat → Nat → Nat → Int} (F : CallFix p m c cc nL s args Ts own) (hM : Met l y ws rm (va_Pc (.ref (ad 32 0) :: As) (gRU D cI cJ A ad S)) (gO v (gRU D cI cJ A ad S') A) mc ms A) (cw : CallW R s args own RX5 index y bytes maxL ret ws rm mc ms n) (hK : va_K D vwCl [(cI, .int), (cJ, .long)] s) (hG : gR D cI cJ A ad S H) (hS : va_S A H0 H locs)
    (hn : As.length = n) (hsize : ls.size = nL) (hst : st0 = As.reverse ++ .ref (ad 32 0) :: rest) (hW : (rest.map fun v => v.category).sum ≤ 8) (hdg : decode cc pc = .ok (.invokevirtual index, 3)) (hf : cells + mc ≤ R.cells ∧ slots + ms ≤ R.slots)
    (kk : ∀ (H1 : Heap) (locs1 : List Loc), gR D cI cJ A ad S' H1 → va_S A H0 H1 locs1 → W p l e R s m args below meth c H1 locs1 (cells + mc) (slots + ms) Q (F0 m (pc + 3) ls (v.toList ++ rest))) : W p l e R s m args below meth c H locs cells slots Q (F0 m pc ls st0) := by
  refine g_call (va_runV (As := As) (rest := rest) F hM cw ⟨gRU_blind, va_recv hK (hG.one (k := 32) (i := 0) ⟨rfl, Or.inl rfl⟩ (rE_obj cI cJ ad S)) (ci := 6) (q0 := 0) rfl rfl, fun U hU hW => ⟨rfl, by rw [hU]; exact hG, va_K.moved hW.alike hK⟩⟩ rfl hn hsize hst (lv_room hW) hdg hf) hS (fun t H1 locs1 ht hvm hB _ hS1 => ?_)
  refine kk H1 locs1 ?_ hS1
  have := hB.1
  rw [ht] at this
  exact this
end RW
end
section
/-! The reference as functions of its state. Numbers of the variables: 0 takes, 1 before, 2 behind, 3 room, 4 delay, 5 machines, 6 bottle, 7 worked, 8 faultEnd, 9 came, 10 first, 11 many, 12 faultAbove, 13 faultBelow, 14 faultTenths, 15 faults, 16 rowMachine, 17 rowFrom, 18 rowTo, 19 rowCause, 20 rows, 21 times, 22 rejects, 23 begun, 24 made, 25 now, 26 drawn, 27 eventAt, 28 eventMachine, 29 eventKind, 30 events, 31 thrown -/
abbrev sT : Type := Nat → Nat → Nat → Int
theorem zI_bool (P : Prop) [Decidable P] : narrow .boolean (.int (zI (bZ P))) = .int (zI (bZ P)) := by
  by_cases h : P
  · rw [bZ_t h]; decide +kernel
  · rw [bZ_f h]; decide +kernel
def rnote (S : sT) (m : Nat) (k : Int) : sT :=
  if S 30 0 0 < 1000 then su (su (su (su S 27 (S 30 0 0).toNat 0 (S 25 0 0)) 28 (S 30 0 0).toNat 0 (m : Int)) 29 (S 30 0 0).toNat 0 k) 30 0 0 (S 30 0 0 + 1) else su S 30 0 0 (S 30 0 0 + 1)
def rdraw (S : sT) : sT := su S 26 0 0 (S 26 0 0 * 6364136223846793005 + 1442695040888963407)
def rdv (S : sT) (b : Int) : Int := (S 26 0 0 * 6364136223846793005 + 1442695040888963407) % 18446744073709551616 / 8589934592 % b
def rrow (S : sT) (m k : Nat) : Prop := (S 16 k 0 = -1 ∨ S 16 k 0 = (m : Int)) ∧ S 17 k 0 ≤ S 25 0 0 ∧ S 25 0 0 < S 18 k 0
def rhl (S : sT) (m : Nat) : Nat → Nat → Int
  | 0, _ => -1
  | n + 1, k => if (S 16 k 0 = -1 ∨ S 16 k 0 = (m : Int)) ∧ S 17 k 0 ≤ S 25 0 0 ∧ S 25 0 0 < S 18 k 0 then S 19 k 0 else rhl S m n (k + 1)
def rheld (S : sT) (m : Nat) : Int := rhl S m (S 20 0 0).toNat 0
def rjl (m : Nat) : Nat → Nat → sT → Int → sT × Int × Bool
  | 0, _, S, lg => (S, lg, false)
  | n + 1, k, S, lg => if rdv S (S 13 m k) < S 12 m k then (if S 14 m k = 0 then (rdraw S, lg, true) else rjl m n (k + 1) (rdraw S) (if lg < S 14 m k then S 14 m k else lg)) else rjl m n (k + 1) (rdraw S) lg
def rjfin (m : Nat) (J : sT × Int × Bool) : sT × Bool :=
  if J.2.2 = true then (rnote (su (su J.1 6 m 0 0) 22 m 0 (J.1 22 m 0 + 1)) m 2, false) else if 0 < J.2.1 then (rnote (su J.1 8 m 0 (J.1 25 0 0 + J.2.1)) m 3, true) else (J.1, false)
def rjudge (S : sT) (m : Nat) : sT × Bool := rjfin m (rjl m (S 15 m 0).toNat 0 (su S 6 m 0 2) 0)
def rleave (S : sT) (m : Nat) : sT :=
  if S 2 m 0 = -1 then rnote (su (su S 24 0 0 (S 24 0 0 + 1)) 6 m 0 0) m 1
  else if S 11 m 0 < S 3 m 0 then rnote (su (su (su S 9 m ((S 10 m 0 + S 11 m 0) % 1000).toNat (S 25 0 0)) 11 m 0 (S 11 m 0 + 1)) 6 m 0 0) m 1 else S
def rat (S : sT) (b : Nat) : Int := if S 11 b 0 = 0 then S 25 0 0 else S 9 b (S 10 b 0).toNat
def rtake (S : sT) (m : Nat) : sT :=
  if S 1 m 0 = -1 then rnote (su (su (su S 23 0 0 (S 23 0 0 + 1)) 6 m 0 1) 7 m 0 0) m 0
  else if S 25 0 0 ≤ rat S (S 1 m 0).toNat ∨ S 25 0 0 - rat S (S 1 m 0).toNat < S 4 (S 1 m 0).toNat 0 then S
  else rnote (su (su (su (su S 10 (S 1 m 0).toNat 0 ((S 10 (S 1 m 0).toNat 0 + 1) % 1000)) 11 (S 1 m 0).toNat 0 (S 11 (S 1 m 0).toNat 0 - 1)) 6 m 0 1) 7 m 0 0) m 0
def rlt (S : sT) (m : Nat) : sT := if S 6 m 0 = 0 then rtake S m else S
def rll (S : sT) (m : Nat) : sT := rlt (if S 6 m 0 = 2 then rleave S m else S) m
def rjj (S : sT) (m : Nat) : sT := if S 6 m 0 = 1 ∧ S 7 m 0 = S 0 m 0 then (if (rjudge S m).2 = true then (rjudge S m).1 else rll (rjudge S m).1 m) else rll S m
def ract (S : sT) (m : Nat) : sT := if rheld S m = -1 ∧ S 8 m 0 ≤ S 25 0 0 then rjj S m else S
def rcause (S : sT) (m : Nat) : Int := if rheld S m = -1 then (if S 25 0 0 < S 8 m 0 then 3 else if S 6 m 0 = 1 then 0 else if S 6 m 0 = 2 then 11 else 10) else rheld S m
def ractA : Nat → sT → sT
  | 0, S => S
  | k + 1, S => ractA k (ract S k)
def rtm (S : sT) (m : Nat) : sT := su (su S 21 m (rcause S m).toNat (S 21 m (rcause S m).toNat + 1)) 7 m 0 (S 7 m 0 + (if rcause S m = 0 then 1 else 0))
def rtmA : Nat → Nat → sT → sT
  | 0, _, S => S
  | n + 1, m, S => rtmA n (m + 1) (rtm S m)
def rtick (S : sT) : sT := su S 25 0 0 (S 25 0 0 + 1)
def rinst (S : sT) : sT := rtick (rtmA (S 5 0 0).toNat 0 (ractA (S 5 0 0).toNat S))
def rrunL : Nat → sT → sT
  | 0, S => S
  | n + 1, S => rrunL n (rinst S)
/-- what always holds of the reference's state -/
def InvM (S : sT) (i : Nat) : Prop :=
  (0 ≤ S 6 i 0 ∧ S 6 i 0 ≤ 2) ∧ (0 ≤ S 7 i 0 ∧ S 7 i 0 ≤ S 25 0 0 + 1) ∧ (0 ≤ S 8 i 0 ∧ S 8 i 0 ≤ S 25 0 0 + 100000) ∧ (0 ≤ S 10 i 0 ∧ S 10 i 0 < 1000) ∧ (0 ≤ S 11 i 0 ∧ S 11 i 0 ≤ 1000) ∧ (0 ≤ S 15 i 0 ∧ S 15 i 0 ≤ 4)
    ∧ (∀ q, q < 1000 → 0 ≤ S 9 i q ∧ S 9 i q ≤ S 25 0 0) ∧ (∀ j, j < 4 → (0 ≤ S 12 i j ∧ S 12 i j ≤ 1000000) ∧ (0 ≤ S 13 i j ∧ S 13 i j ≤ 1000000) ∧ (0 ≤ S 14 i j ∧ S 14 i j ≤ 100000) ∧ ((j : Int) < S 15 i 0 → 1 ≤ S 13 i j))
def InvL (S : sT) (i : Nat) : Prop :=
  (1 ≤ S 0 i 0 ∧ S 0 i 0 ≤ 10000) ∧ (S 1 i 0 = -1 ∨ (0 ≤ S 1 i 0 ∧ S 1 i 0 < i)) ∧ (S 2 i 0 = -1 ∨ ((i : Int) < S 2 i 0 ∧ S 2 i 0 < S 5 0 0)) ∧ (1 ≤ S 3 i 0 ∧ S 3 i 0 ≤ 1000) ∧ (0 ≤ S 4 i 0 ∧ S 4 i 0 ≤ 10000)
def InvR (S : sT) (k : Nat) : Prop :=
  (S 16 k 0 = -1 ∨ (0 ≤ S 16 k 0 ∧ S 16 k 0 < S 5 0 0)) ∧ (0 ≤ S 17 k 0 ∧ S 17 k 0 < S 18 k 0) ∧ S 18 k 0 ≤ 1000000000 ∧ (1 ≤ S 19 k 0 ∧ S 19 k 0 ≤ 9)
def Inv (S : sT) : Prop :=
  (0 ≤ S 5 0 0 ∧ S 5 0 0 ≤ 12) ∧ (0 ≤ S 25 0 0 ∧ S 25 0 0 ≤ 1000000000) ∧ (0 ≤ S 20 0 0 ∧ S 20 0 0 ≤ 64) ∧ (∀ i, i < 12 → InvM S i) ∧ (∀ i : Nat, (i : Int) < S 5 0 0 → InvL S i) ∧ (∀ k : Nat, (k : Int) < S 20 0 0 → InvR S k)
def rrunS (S : sT) (t : Int) : sT := if 0 ≤ t ∧ t ≤ 100000 ∧ S 25 0 0 + t ≤ 1000000000 then rrunL t.toNat (su S 30 0 0 0) else S
def rrunV (S : sT) (t : Int) : Int := if 0 ≤ t ∧ t ≤ 100000 ∧ S 25 0 0 + t ≤ 1000000000 then rrunL t.toNat (su S 30 0 0 0) 30 0 0 else -1
end
section
/-! The reference's calls, behind thrown = 0 (S is the state with thrown = 0) -/
def rt0 (S : sT) : sT := su S 31 0 0 0
def rmachS (S : sT) (t a : Int) : sT :=
  if S 25 0 0 = 0 ∧ 1 ≤ t ∧ t ≤ 10000 ∧ (a = -1 ∨ (0 ≤ a ∧ a < S 5 0 0 ∧ S 2 a.toNat 0 = -1)) then
    (if S 5 0 0 = 12 then S else
      if a = -1 then su (su (su (su (su (su S 0 (S 5 0 0).toNat 0 t) 1 (S 5 0 0).toNat 0 a) 2 (S 5 0 0).toNat 0 (-1)) 3 (S 5 0 0).toNat 0 1) 4 (S 5 0 0).toNat 0 0) 5 0 0 (S 5 0 0 + 1)
      else su (su (su (su (su (su (su S 0 (S 5 0 0).toNat 0 t) 1 (S 5 0 0).toNat 0 a) 2 (S 5 0 0).toNat 0 (-1)) 3 (S 5 0 0).toNat 0 1) 4 (S 5 0 0).toNat 0 0) 2 a.toNat 0 (S 5 0 0)) 5 0 0 (S 5 0 0 + 1)) else S
def rmachV (S : sT) (t a : Int) : Int :=
  if S 25 0 0 = 0 ∧ 1 ≤ t ∧ t ≤ 10000 ∧ (a = -1 ∨ (0 ≤ a ∧ a < S 5 0 0 ∧ S 2 a.toNat 0 = -1)) then (if S 5 0 0 = 12 then -2 else S 5 0 0) else -1
def rbufS (S : sT) (m r d : Int) : sT := if S 25 0 0 ≤ 0 ∧ (0 ≤ m ∧ m < S 5 0 0) ∧ (1 ≤ r ∧ r ≤ 1000) ∧ (0 ≤ d ∧ d ≤ 10000) then su (su S 3 m.toNat 0 r) 4 m.toNat 0 d else S
def rbufV (S : sT) (m r d : Int) : Int := if S 25 0 0 ≤ 0 ∧ (0 ≤ m ∧ m < S 5 0 0) ∧ (1 ≤ r ∧ r ≤ 1000) ∧ (0 ≤ d ∧ d ≤ 10000) then S 3 m.toNat 0 else -1
def rfaultS (S : sT) (m a b t : Int) : sT :=
  if S 25 0 0 ≤ 0 ∧ (0 ≤ m ∧ m < S 5 0 0) ∧ (1 ≤ b ∧ b ≤ 1000000) ∧ (0 ≤ a ∧ a ≤ b) ∧ (0 ≤ t ∧ t ≤ 100000) ∧ ¬ S 15 m.toNat 0 = 4 then
    su (su (su (su S 12 m.toNat (S 15 m.toNat 0).toNat a) 13 m.toNat (S 15 m.toNat 0).toNat b) 14 m.toNat (S 15 m.toNat 0).toNat t) 15 m.toNat 0 (S 15 m.toNat 0 + 1) else S
def rtoldS (S : sT) (m f t c : Int) : sT :=
  if S 25 0 0 ≤ f ∧ f < t ∧ t ≤ 1000000000 ∧ ¬ S 20 0 0 = 64 then
    su (su (su (su (su S 16 (S 20 0 0).toNat 0 m) 17 (S 20 0 0).toNat 0 f) 18 (S 20 0 0).toNat 0 t) 19 (S 20 0 0).toNat 0 c) 20 0 0 (S 20 0 0 + 1) else S
def rrowS (S : sT) (m f t c : Int) : sT := if (0 ≤ m ∧ m < S 5 0 0) ∧ 4 ≤ c ∧ c ≤ 9 then rtoldS S m f t c else S
def rchangeS (S : sT) (f t : Int) : sT := if 1 ≤ t ∧ t ≤ 1000000 then rtoldS S (-1) f (f + t) 1 else S
def reventV (S : sT) (k w : Int) : Int := if 0 ≤ k ∧ k < S 30 0 0 ∧ k < 1000 then (if w = 0 then S 27 k.toNat 0 else if w = 1 then S 28 k.toNat 0 else if w = 2 then S 29 k.toNat 0 else -1) else -1
def rwth (S : sT) : Nat → Nat → Int → Int
  | 0, _, z => z
  | n + 1, m, z => rwth S n (m + 1) (z + (S 11 m 0 + (if S 6 m 0 = 0 then 0 else 1)))
def rwithin (S : sT) : Int := rwth S (S 5 0 0).toNat 0 0
def risM (S : sT) (m : Int) : Prop := 0 ≤ m ∧ m < S 5 0 0
/-- S behind thrown = 0 or 1 -/
def rtM (S : sT) (m : Int) : sT := su S 31 0 0 (if 0 ≤ m ∧ m < S 5 0 0 then 0 else 1)
def rlostV (S : sT) (m c : Int) : Int64 := if (0 ≤ m ∧ m < S 5 0 0) ∧ 0 ≤ c ∧ c < 12 then zL (S 21 m.toNat c.toNat) / zL (S 0 m.toNat 0) else zL (-1)
def rrejV (S : sT) (m : Int) : Int := if 0 ≤ m ∧ m < S 5 0 0 then S 22 m.toNat 0 else -1
def rtimeV (S : sT) (m c : Int) : Int := if (0 ≤ m ∧ m < S 5 0 0) ∧ 0 ≤ c ∧ c < 12 then S 21 m.toNat c.toNat else -1
def rsum (S : sT) (m : Nat) : Nat → Nat → Int → Int
  | 0, _, z => z
  | n + 1, c, z => rsum S m n (c + 1) (z + S 21 m c)
def rkl (S : sT) : Nat → Nat → Int → Bool → Int × Bool
  | 0, _, z, r => (z, r)
  | n + 1, m, z, r => rkl S n (m + 1) (z + S 22 m 0) (r && decide (zL (rsum S m 12 0 0) = zL (S 25 0 0)))
def rkf (S : sT) (K : Int × Bool) : Bool := K.2 && decide (zL K.1 = zL (S 23 0 0))
def rkeptV (S : sT) : Bool := rkf S (rkl S (S 5 0 0).toNat 0 (S 24 0 0 + rwithin S) true)
def rtoldP (S : sT) (f t : Int) : Prop := S 25 0 0 ≤ f ∧ f < t ∧ t ≤ 1000000000 ∧ ¬ S 20 0 0 = 64
end
section
/-! What the steps of the reference keep -/
theorem su_same (S : sT) (v i j : Nat) (z : Int) : su S v i j z v i j = z := by simp [su]
theorem su_v {S : sT} {v i j : Nat} {z : Int} {v' i' j' : Nat} (h : v' ≠ v) : su S v i j z v' i' j' = S v' i' j' := by unfold su; rw [if_neg (fun q => h q.1)]
theorem su_i {S : sT} {v i j : Nat} {z : Int} {i' j' : Nat} (h : i' ≠ i) : su S v i j z v i' j' = S v i' j' := by unfold su; rw [if_neg (fun q => h q.2.1)]
theorem su_0 (S : sT) (v m i : Nat) (z : Int) : su S v m 0 z v i 0 = if i = m then z else S v i 0 := by simp [su]
theorem Inv_6 {S : sT} {m : Nat} {z : Int} (hI : Inv S) (h0 : 0 ≤ z ∧ z ≤ 2) : Inv (su S 6 m 0 z) := by
  obtain ⟨h5, h25, h20, hM, hL, hR⟩ := hI
  refine ⟨h5, h25, h20, fun i hi => ?_, hL, hR⟩
  obtain ⟨a1, a2, a3, a4, a5, a6, a7, a8⟩ := hM i hi
  refine ⟨?_, a2, a3, a4, a5, a6, a7, a8⟩
  rw [su_0]; split <;> omega
theorem Inv_7 {S : sT} {m : Nat} {z : Int} (hI : Inv S) (h0 : 0 ≤ z ∧ z ≤ S 25 0 0 + 1) : Inv (su S 7 m 0 z) := by
  obtain ⟨h5, h25, h20, hM, hL, hR⟩ := hI
  refine ⟨h5, h25, h20, fun i hi => ?_, hL, hR⟩
  obtain ⟨a1, a2, a3, a4, a5, a6, a7, a8⟩ := hM i hi
  refine ⟨a1, ?_, a3, a4, a5, a6, a7, a8⟩
  rw [su_0, show su S 7 m 0 z 25 0 0 = S 25 0 0 from rfl]; split <;> omega
theorem Inv_8 {S : sT} {m : Nat} {z : Int} (hI : Inv S) (h0 : 0 ≤ z ∧ z ≤ S 25 0 0 + 100000) : Inv (su S 8 m 0 z) := by
  obtain ⟨h5, h25, h20, hM, hL, hR⟩ := hI
  refine ⟨h5, h25, h20, fun i hi => ?_, hL, hR⟩
  obtain ⟨a1, a2, a3, a4, a5, a6, a7, a8⟩ := hM i hi
  refine ⟨a1, a2, ?_, a4, a5, a6, a7, a8⟩
  rw [su_0, show su S 8 m 0 z 25 0 0 = S 25 0 0 from rfl]; split <;> omega
theorem Inv_9 {S : sT} {m q : Nat} {z : Int} (hI : Inv S) (h0 : 0 ≤ z ∧ z ≤ S 25 0 0) : Inv (su S 9 m q z) := by
  obtain ⟨h5, h25, h20, hM, hL, hR⟩ := hI
  refine ⟨h5, h25, h20, fun i hi => ?_, hL, hR⟩
  obtain ⟨a1, a2, a3, a4, a5, a6, a7, a8⟩ := hM i hi
  refine ⟨a1, a2, a3, a4, a5, a6, fun j hj => ?_, a8⟩
  have h1 := a7 j hj
  show 0 ≤ su S 9 m q z 9 i j ∧ su S 9 m q z 9 i j ≤ S 25 0 0
  unfold su; split <;> omega
theorem Inv_10 {S : sT} {m : Nat} {z : Int} (hI : Inv S) (h0 : 0 ≤ z ∧ z < 1000) : Inv (su S 10 m 0 z) := by
  obtain ⟨h5, h25, h20, hM, hL, hR⟩ := hI
  refine ⟨h5, h25, h20, fun i hi => ?_, hL, hR⟩
  obtain ⟨a1, a2, a3, a4, a5, a6, a7, a8⟩ := hM i hi
  refine ⟨a1, a2, a3, ?_, a5, a6, a7, a8⟩
  rw [su_0]; split <;> omega
theorem Inv_11 {S : sT} {m : Nat} {z : Int} (hI : Inv S) (h0 : 0 ≤ z ∧ z ≤ 1000) : Inv (su S 11 m 0 z) := by
  obtain ⟨h5, h25, h20, hM, hL, hR⟩ := hI
  refine ⟨h5, h25, h20, fun i hi => ?_, hL, hR⟩
  obtain ⟨a1, a2, a3, a4, a5, a6, a7, a8⟩ := hM i hi
  refine ⟨a1, a2, a3, a4, ?_, a6, a7, a8⟩
  rw [su_0]; split <;> omega
theorem Inv_note {S : sT} {m : Nat} {k : Int} (hI : Inv S) : Inv (rnote S m k) := by
  unfold rnote; split <;> exact hI
theorem note_v {S : sT} {m : Nat} {k : Int} {v i j : Nat} (h : v ≠ 27 ∧ v ≠ 28 ∧ v ≠ 29 ∧ v ≠ 30) : rnote S m k v i j = S v i j := by
  unfold rnote; split <;> simp [su, h]
theorem note_30 (S : sT) (m : Nat) (k : Int) : rnote S m k 30 0 0 = S 30 0 0 + 1 := by
  unfold rnote; split <;> simp [su]
theorem Inv_draw {S : sT} (hI : Inv S) : Inv (rdraw S) := hI
theorem rdv_B (S : sT) {b : Int} (h : 0 < b) : 0 ≤ rdv S b ∧ rdv S b < b := ⟨Int.emod_nonneg _ (by omega), Int.emod_lt_of_pos _ h⟩
theorem draw_v {S : sT} {v i j : Nat} (h : v ≠ 26) : rdraw S v i j = S v i j := su_v h
/-- the loop of judge: only drawn moves; the longest -/
theorem rjl_v (m : Nat) : ∀ (n k : Nat) (S : sT) (lg : Int) (v i j : Nat), v ≠ 26 → (rjl m n k S lg).1 v i j = S v i j
  | 0, _, _, _, _, _, _, _ => rfl
  | n + 1, k, S, lg, v, i, j, h => by
    unfold rjl
    split
    · split
      · exact draw_v h
      · rw [rjl_v m n _ _ _ v i j h, draw_v h]
    · rw [rjl_v m n _ _ _ v i j h, draw_v h]
theorem rjl_I (m : Nat) : ∀ (n k : Nat) (S : sT) (lg : Int), Inv S → Inv (rjl m n k S lg).1
  | 0, _, _, _, h => h
  | n + 1, k, S, lg, h => by
    unfold rjl
    split
    · split
      · exact h
      · exact rjl_I m n _ _ _ (Inv_draw h)
    · exact rjl_I m n _ _ _ (Inv_draw h)
theorem rjl_lg (m : Nat) : ∀ (n k : Nat) (S : sT) (lg : Int), (∀ j, j < 4 → 0 ≤ S 14 m j ∧ S 14 m j ≤ 100000) → k + n ≤ 4 → 0 ≤ lg ∧ lg ≤ 100000 → 0 ≤ (rjl m n k S lg).2.1 ∧ (rjl m n k S lg).2.1 ≤ 100000
  | 0, _, _, _, _, _, h => h
  | n + 1, k, S, lg, hf, hk, h => by
    unfold rjl
    have h1 := hf k (by omega)
    split
    · split
      · exact h
      · exact rjl_lg m n (k + 1) (rdraw S) _ hf (by omega) (by split <;> omega)
    · exact rjl_lg m n (k + 1) (rdraw S) _ hf (by omega) h
theorem judge_I {S : sT} {m : Nat} (hI : Inv S) (hm : m < 12) : Inv (rjudge S m).1 := by
  have h6 : Inv (su S 6 m 0 2) := Inv_6 hI (by omega)
  have hM := (hI.2.2.2.1 m hm)
  have h15 := hM.2.2.2.2.2.1
  have hf := hM.2.2.2.2.2.2.2
  have hJ := rjl_I m (S 15 m 0).toNat 0 (su S 6 m 0 2) 0 h6
  have hl := rjl_lg m (S 15 m 0).toNat 0 (su S 6 m 0 2) 0 (fun j hj => (hf j hj).2.2.1) (by omega) (by omega)
  have h25 : (rjl m (S 15 m 0).toNat 0 (su S 6 m 0 2) 0).1 25 0 0 = S 25 0 0 := rjl_v m _ _ _ _ _ _ _ (by decide)
  unfold rjudge rjfin
  split
  · exact Inv_note (Inv_6 hJ (by omega))
  · split
    · refine Inv_note (Inv_8 hJ ?_)
      rw [h25]
      have := hI.2.1
      omega
    · exact hJ
theorem judge_30 {S : sT} {m : Nat} : S 30 0 0 ≤ (rjudge S m).1 30 0 0 ∧ (rjudge S m).1 30 0 0 ≤ S 30 0 0 + 1 := by
  have h30 : (rjl m (S 15 m 0).toNat 0 (su S 6 m 0 2) 0).1 30 0 0 = S 30 0 0 := rjl_v m _ _ _ _ _ _ _ (by decide)
  unfold rjudge rjfin
  split
  · dsimp only; rw [note_30, su_v (by decide), su_v (by decide), h30]; omega
  · split
    · dsimp only; rw [note_30, su_v (by decide), h30]; omega
    · dsimp only; rw [h30]; omega
/-- what judge leaves alone -/
theorem judge_v {S : sT} {m v i j : Nat} (h : v ≠ 6 ∧ v ≠ 8 ∧ v ≠ 22 ∧ v ≠ 26 ∧ v ≠ 27 ∧ v ≠ 28 ∧ v ≠ 29 ∧ v ≠ 30) : (rjudge S m).1 v i j = S v i j := by
  have e : (rjl m (S 15 m 0).toNat 0 (su S 6 m 0 2) 0).1 v i j = S v i j := (rjl_v m _ _ _ _ _ _ _ h.2.2.2.1).trans (su_v h.1)
  unfold rjudge rjfin
  split
  · dsimp only; rw [note_v ⟨h.2.2.2.2.1, h.2.2.2.2.2.1, h.2.2.2.2.2.2.1, h.2.2.2.2.2.2.2⟩, su_v h.2.2.1, su_v h.1, e]
  · split
    · dsimp only; rw [note_v ⟨h.2.2.2.2.1, h.2.2.2.2.2.1, h.2.2.2.2.2.2.1, h.2.2.2.2.2.2.2⟩, su_v h.2.1, e]
    · exact e
theorem leave_I {S : sT} {m : Nat} (hI : Inv S) (hm : (m : Int) < S 5 0 0) : Inv (rleave S m) := by
  obtain ⟨h5, h25, h20, hM, hL, hR⟩ := id hI
  obtain ⟨a1, a2, a3, a4, a5, a6, a7, a8⟩ := hM m (by omega)
  obtain ⟨b1, b2, b3, b4, b5⟩ := hL m hm
  unfold rleave
  split
  · exact Inv_note (Inv_6 (show Inv (su S 24 0 0 _) from hI) (by omega))
  · split
    · refine Inv_note (Inv_6 (Inv_11 (Inv_9 hI (by omega)) (by omega)) (by omega))
    · exact hI
theorem leave_v {S : sT} {m v i j : Nat} (h : v ≠ 6 ∧ v ≠ 9 ∧ v ≠ 11 ∧ v ≠ 24 ∧ v ≠ 27 ∧ v ≠ 28 ∧ v ≠ 29 ∧ v ≠ 30) : rleave S m v i j = S v i j := by
  unfold rleave
  split
  · rw [note_v ⟨h.2.2.2.2.1, h.2.2.2.2.2.1, h.2.2.2.2.2.2.1, h.2.2.2.2.2.2.2⟩, su_v h.1, su_v h.2.2.2.1]
  · split
    · rw [note_v ⟨h.2.2.2.2.1, h.2.2.2.2.2.1, h.2.2.2.2.2.2.1, h.2.2.2.2.2.2.2⟩, su_v h.1, su_v h.2.2.1, su_v h.2.1]
    · rfl
theorem leave_30 {S : sT} {m : Nat} : S 30 0 0 ≤ rleave S m 30 0 0 ∧ rleave S m 30 0 0 ≤ S 30 0 0 + 1 := by
  unfold rleave
  split
  · rw [note_30, show (su (su S 24 0 0 (S 24 0 0 + 1)) 6 m 0 0) 30 0 0 = S 30 0 0 from rfl]; omega
  · split
    · rw [note_30, show (su (su (su S 9 m ((S 10 m 0 + S 11 m 0) % 1000).toNat (S 25 0 0)) 11 m 0 (S 11 m 0 + 1)) 6 m 0 0) 30 0 0 = S 30 0 0 from rfl]; omega
    · omega
theorem take_I {S : sT} {m : Nat} (hI : Inv S) (hm : (m : Int) < S 5 0 0) : Inv (rtake S m) := by
  obtain ⟨h5, h25, h20, hM, hL, hR⟩ := id hI
  obtain ⟨b1, b2, b3, b4, b5⟩ := hL m hm
  unfold rtake
  split
  · exact Inv_note (Inv_7 (Inv_6 (show Inv (su S 23 0 0 _) from hI) (by omega)) (by show 0 ≤ (0 : Int) ∧ (0 : Int) ≤ S 25 0 0 + 1; omega))
  · split
    · exact hI
    · rename_i h1 h2
      obtain ⟨a1, a2, a3, a4, a5, a6, a7, a8⟩ := hM (S 1 m 0).toNat (by omega)
      have h11 : S 11 (S 1 m 0).toNat 0 ≠ 0 := fun q => h2 (Or.inl (by unfold rat; rw [if_pos q]; exact Int.le_refl _))
      refine Inv_note (Inv_7 (Inv_6 (Inv_11 (Inv_10 hI (by omega)) (by show 0 ≤ S 11 (S 1 m 0).toNat 0 - 1 ∧ S 11 (S 1 m 0).toNat 0 - 1 ≤ 1000; omega)) (by omega)) (by show 0 ≤ (0 : Int) ∧ (0 : Int) ≤ S 25 0 0 + 1; omega))
theorem take_v {S : sT} {m v i j : Nat} (h : v ≠ 6 ∧ v ≠ 7 ∧ v ≠ 10 ∧ v ≠ 11 ∧ v ≠ 23 ∧ v ≠ 27 ∧ v ≠ 28 ∧ v ≠ 29 ∧ v ≠ 30) : rtake S m v i j = S v i j := by
  unfold rtake
  split
  · rw [note_v ⟨h.2.2.2.2.2.1, h.2.2.2.2.2.2.1, h.2.2.2.2.2.2.2.1, h.2.2.2.2.2.2.2.2⟩, su_v h.2.1, su_v h.1, su_v h.2.2.2.2.1]
  · split
    · rfl
    · rw [note_v ⟨h.2.2.2.2.2.1, h.2.2.2.2.2.2.1, h.2.2.2.2.2.2.2.1, h.2.2.2.2.2.2.2.2⟩, su_v h.2.1, su_v h.1, su_v h.2.2.2.1, su_v h.2.2.1]
theorem take_30 {S : sT} {m : Nat} : S 30 0 0 ≤ rtake S m 30 0 0 ∧ rtake S m 30 0 0 ≤ S 30 0 0 + 1 := by
  unfold rtake
  split
  · rw [note_30, show (su (su (su S 23 0 0 (S 23 0 0 + 1)) 6 m 0 1) 7 m 0 0) 30 0 0 = S 30 0 0 from rfl]; omega
  · split
    · omega
    · rw [note_30, show (su (su (su (su S 10 (S 1 m 0).toNat 0 ((S 10 (S 1 m 0).toNat 0 + 1) % 1000)) 11 (S 1 m 0).toNat 0 (S 11 (S 1 m 0).toNat 0 - 1)) 6 m 0 1) 7 m 0 0) 30 0 0 = S 30 0 0 from rfl]; omega
theorem rll_I {S : sT} {m : Nat} (hI : Inv S) (hm : (m : Int) < S 5 0 0) : Inv (rll S m) ∧ rll S m 5 0 0 = S 5 0 0 ∧ S 30 0 0 ≤ rll S m 30 0 0 ∧ rll S m 30 0 0 ≤ S 30 0 0 + 2 := by
  have key : ∀ T : sT, Inv T → T 5 0 0 = S 5 0 0 → S 30 0 0 ≤ T 30 0 0 ∧ T 30 0 0 ≤ S 30 0 0 + 1 → Inv (rlt T m) ∧ rlt T m 5 0 0 = S 5 0 0 ∧ S 30 0 0 ≤ rlt T m 30 0 0 ∧ rlt T m 30 0 0 ≤ S 30 0 0 + 2 := by
    intro T h1 h2 h3
    unfold rlt
    split
    · have := take_30 (S := T) (m := m)
      exact ⟨take_I h1 (by omega), (take_v (by decide)).trans h2, by omega, by omega⟩
    · exact ⟨h1, h2, by omega, by omega⟩
  unfold rll
  split
  · have := leave_30 (S := S) (m := m)
    exact key _ (leave_I hI hm) (leave_v (by decide)) (by omega)
  · exact key _ hI rfl (by omega)
theorem act_I {S : sT} {m : Nat} (hI : Inv S) (hm : (m : Int) < S 5 0 0) : Inv (ract S m) ∧ ract S m 5 0 0 = S 5 0 0 ∧ S 30 0 0 ≤ ract S m 30 0 0 ∧ ract S m 30 0 0 ≤ S 30 0 0 + 3 := by
  have hj := judge_30 (S := S) (m := m)
  have hj5 : (rjudge S m).1 5 0 0 = S 5 0 0 := judge_v (by decide)
  have hjI := judge_I (m := m) hI (by have := hI.1; omega)
  have h1 := rll_I hI hm
  have h2 := rll_I (S := (rjudge S m).1) (m := m) hjI (by omega)
  unfold ract
  split
  · unfold rjj
    split
    · split
      · exact ⟨hjI, hj5, by omega, by omega⟩
      · exact ⟨h2.1, by omega, by omega, by omega⟩
    · exact ⟨h1.1, by omega, by omega, by omega⟩
  · exact ⟨hI, rfl, by omega, by omega⟩
theorem hl_B {S : sT} (m : Nat) (hR : ∀ k : Nat, (k : Int) < S 20 0 0 → 1 ≤ S 19 k 0 ∧ S 19 k 0 ≤ 9) : ∀ n k : Nat, (k : Int) + n ≤ S 20 0 0 → rhl S m n k = -1 ∨ (1 ≤ rhl S m n k ∧ rhl S m n k ≤ 9)
  | 0, _, _ => Or.inl rfl
  | n + 1, k, h => by
    unfold rhl
    split
    · exact Or.inr (hR k (by omega))
    · exact hl_B m hR n (k + 1) (by omega)
theorem held_B {S : sT} (m : Nat) (hI : Inv S) : rheld S m = -1 ∨ (1 ≤ rheld S m ∧ rheld S m ≤ 9) :=
  hl_B m (fun k hk => (hI.2.2.2.2.2 k hk).2.2.2) _ _ (by have := hI.2.2.1; omega)
theorem cause_B {S : sT} (m : Nat) (hI : Inv S) : 0 ≤ rcause S m ∧ rcause S m < 12 := by
  have := held_B m hI
  unfold rcause
  split
  · split
    · omega
    · split
      · omega
      · split <;> omega
  · omega
/-- what act leaves alone -/
theorem act_v {S : sT} {m v i j : Nat} (h : v ∉ [6, 7, 8, 9, 10, 11, 22, 23, 24, 26, 27, 28, 29, 30]) : ract S m v i j = S v i j := by
  simp only [List.mem_cons, List.not_mem_nil, or_false, not_or] at h
  obtain ⟨h6, h7, h8, h9, h10, h11, h22, h23, h24, h26, h27, h28, h29, h30⟩ := h
  have t : ∀ T : sT, rlt T m v i j = T v i j := fun T => by
    unfold rlt
    split
    · exact take_v ⟨h6, h7, h10, h11, h23, h27, h28, h29, h30⟩
    · rfl
  have ll : ∀ T : sT, rll T m v i j = T v i j := fun T => by
    unfold rll
    rw [t]
    split
    · exact leave_v ⟨h6, h9, h11, h24, h27, h28, h29, h30⟩
    · rfl
  have jv : (rjudge S m).1 v i j = S v i j := judge_v ⟨h6, h8, h22, h26, h27, h28, h29, h30⟩
  unfold ract
  split
  · unfold rjj
    split
    · split
      · exact jv
      · rw [ll, jv]
    · exact ll S
  · rfl
theorem take_7 {S : sT} {m i : Nat} : rtake S m 7 i 0 = S 7 i 0 ∨ rtake S m 7 i 0 = 0 := by
  unfold rtake
  split
  · rw [note_v (by decide), su_0]; split <;> simp [su]
  · split
    · exact Or.inl rfl
    · rw [note_v (by decide), su_0]; split <;> simp [su]
theorem act_7 {S : sT} {m i : Nat} : ract S m 7 i 0 = S 7 i 0 ∨ ract S m 7 i 0 = 0 := by
  have t : ∀ T : sT, rlt T m 7 i 0 = T 7 i 0 ∨ rlt T m 7 i 0 = 0 := fun T => by
    unfold rlt
    split
    · exact take_7
    · exact Or.inl rfl
  have ll : ∀ T : sT, rll T m 7 i 0 = T 7 i 0 ∨ rll T m 7 i 0 = 0 := fun T => by
    unfold rll
    have h := t (if T 6 m 0 = 2 then rleave T m else T)
    have e : (if T 6 m 0 = 2 then rleave T m else T) 7 i 0 = T 7 i 0 := by
      split
      · exact leave_v (by decide)
      · rfl
    rw [e] at h
    exact h
  have jv : (rjudge S m).1 7 i 0 = S 7 i 0 := judge_v (by decide)
  unfold ract
  split
  · unfold rjj
    split
    · split
      · exact Or.inl jv
      · have h := ll (rjudge S m).1
        rw [jv] at h
        exact h
    · exact ll S
  · exact Or.inl rfl
theorem tm_I {S : sT} {m : Nat} (hI : Inv S) (hm : m < 12) (h7 : S 7 m 0 ≤ S 25 0 0) : Inv (rtm S m) := by
  have h := (hI.2.2.2.1 m hm).2.1
  refine Inv_7 (show Inv (su S 21 m (rcause S m).toNat _) from hI) ?_
  show 0 ≤ S 7 m 0 + (if rcause S m = 0 then 1 else 0) ∧ S 7 m 0 + (if rcause S m = 0 then 1 else 0) ≤ S 25 0 0 + 1
  split <;> omega
theorem tm_v {S : sT} {m v i j : Nat} (h : v ≠ 21 ∧ v ≠ 7) : rtm S m v i j = S v i j := by
  unfold rtm; rw [su_v h.2, su_v h.1]
theorem tm_7 {S : sT} {m i : Nat} (h : i ≠ m) : rtm S m 7 i 0 = S 7 i 0 := by
  unfold rtm; rw [su_i h, su_v (by decide)]
theorem tick_I {S : sT} (hI : Inv S) (h : S 25 0 0 < 1000000000) : Inv (rtick S) := by
  obtain ⟨h5, h25, h20, hM, hL, hR⟩ := hI
  refine ⟨h5, ?_, h20, fun i hi => ?_, hL, hR⟩
  · show 0 ≤ S 25 0 0 + 1 ∧ S 25 0 0 + 1 ≤ 1000000000
    omega
  · obtain ⟨a1, a2, a3, a4, a5, a6, a7, a8⟩ := hM i hi
    refine ⟨a1, ?_, ?_, a4, a5, a6, fun q hq => ?_, a8⟩
    · show 0 ≤ S 7 i 0 ∧ S 7 i 0 ≤ S 25 0 0 + 1 + 1
      omega
    · show 0 ≤ S 8 i 0 ∧ S 8 i 0 ≤ S 25 0 0 + 1 + 100000
      omega
    · have := a7 q hq
      show 0 ≤ S 9 i q ∧ S 9 i q ≤ S 25 0 0 + 1
      omega
end
section
set_option maxHeartbeats 4000000 in
set_option maxRecDepth 100000 in
theorem m_X5_thrown (l : Launch) (D : va_G) (cI cJ : ClassId) (A : Nat → Prop) (ad : Nat → Nat → Nat) (S : Nat → Nat → Nat → Int)  (h31 : 0 ≤ S 31 0 0 ∧ S 31 0 0 ≤ 1) : Met l yX5_thrown wsX5_thrown ({ frames := 0, cells := 0, slots := 0, locals := 0 }) (va_Pc [.ref (ad 32 0)] (gRU D cI cJ A ad S)) (gO (some (.int (zI (S 31 0 0)))) (gRU D cI cJ A ad (S)) A) 0 0 A := by
  refine Met.ofW (cc := cX5_thrown) (maxL := 1) (ret := (some .int)) (by decide) rfl ?_
  intro p e s m0 args below meth c s₁ B hml hv
  obtain ⟨rfl, hG, hK⟩ := hv
  have hx := B.exec
  have hb := B.bytes
  have hr := B.returns
  have hts := atoms_spec (ws := wsX5_thrown) B.pre
  have hown : s.vm.findClass RX5 = some m0.cls := findClass_of_methodNamed B.named
  have hlocks := B.notSynchronized
  have hin : ∀ w ∈ wsX50, w ∈ wsX5_thrown := by decide +kernel
  have hS : va_S A s.heap s.heap [] := va_S.rf
  have hl := lv_entry ([.ref (ad 32 0)]) (n := 1) (Nat.le_of_ble_eq_true rfl)
  rw [lg_entry_eq]
  generalize (lg_sl ([.ref (ad 32 0)]) ++ List.replicate (1 - (lg_sl ([.ref (ad 32 0)])).length) Slot.unset).toArray = ls at hl ⊢
  replace hl : lv_has ls 1 [(0, .ref (ad 32 0))] := hl
  refine lv_aload_n hx hb dX5_thrown_0 rfl (lv_at hl 0 rfl) ?_
  refine r_getI hx hb hts hin hown hK hG 31 (by decide) rfl (hts (.fieldLink RX5 87 "LineEventsModel" "thrown" "I") (by decide +kernel)) (z := S 31 0 0) (rfl) dX5_thrown_1 ?_
  have v9 : S 31 0 0 = S 31 0 0 := by rfl
  refine W.eq (congrArg (fun z => F0 m0 4 ls [.int (zI z)]) v9) ?_
  exact W.iret hx hb hr (fun t ht hW => ⟨rfl, ⟨by rw [ht]; exact hG, va_K.moved hW.alike hK⟩, hS.F ht⟩) hS.2.2 dX5_thrown_4
set_option maxHeartbeats 4000000 in
set_option maxRecDepth 100000 in
theorem m_X5_isMachine (l : Launch) (D : va_G) (cI cJ : ClassId) (A : Nat → Prop) (ad : Nat → Nat → Nat) (S : Nat → Nat → Nat → Int) (z : Int) (hz : zB z) (h5 : 0 ≤ S 5 0 0 ∧ S 5 0 0 ≤ 12) : Met l yX5_isMachine wsX5_isMachine ({ frames := 0, cells := 0, slots := 0, locals := 0 }) (va_Pc [.ref (ad 32 0), .int (zI z)] (gRU D cI cJ A ad S)) (gO (some (.int (zI (bZ (0 ≤ z ∧ z < S 5 0 0))))) (gRU D cI cJ A ad (S)) A) 0 0 A := by
  refine Met.ofW (cc := cX5_isMachine) (maxL := 2) (ret := (some .boolean)) (by decide) rfl ?_
  intro p e s m0 args below meth c s₁ B hml hv
  obtain ⟨rfl, hG, hK⟩ := hv
  have hx := B.exec
  have hb := B.bytes
  have hr := B.returns
  have hts := atoms_spec (ws := wsX5_isMachine) B.pre
  have hown : s.vm.findClass RX5 = some m0.cls := findClass_of_methodNamed B.named
  have hlocks := B.notSynchronized
  have hin : ∀ w ∈ wsX50, w ∈ wsX5_isMachine := by decide +kernel
  have hS : va_S A s.heap s.heap [] := va_S.rf
  have hl := lv_entry ([.ref (ad 32 0), .int (zI z)]) (n := 2) (Nat.le_of_ble_eq_true rfl)
  rw [lg_entry_eq]
  generalize (lg_sl ([.ref (ad 32 0), .int (zI z)]) ++ List.replicate (2 - (lg_sl ([.ref (ad 32 0), .int (zI z)])).length) Slot.unset).toArray = ls at hl ⊢
  replace hl : lv_has ls 2 [(0, .ref (ad 32 0)), (1, .int (zI z))] := hl
  refine lv_iload_n hx hb dX5_isMachine_0 rfl (lv_at hl 1 rfl) ?_
  refine z_if_lt (tgt := 16) hx hb dX5_isMachine_1 (by decide) ⟨by omega, by omega⟩ (fun c_1 => ?_) (fun c_1 => ?_)
  · refine lv_iconst (v := zI 0) hx hb dX5_isMachine_16 rfl ?_
    have v9 : 0 = bZ (0 ≤ z ∧ z < S 5 0 0) := by first | exact (bZ_t (by omega)).symm | exact (bZ_f (by omega)).symm
    refine W.eq (congrArg (fun z => F0 m0 17 ls [.int (zI z)]) v9) ?_
    exact W.zret hx hb hr (zI_bool _) (fun t ht hW => ⟨rfl, ⟨by rw [ht]; exact hG, va_K.moved hW.alike hK⟩, hS.F ht⟩) hS.2.2 dX5_isMachine_17
  · refine lv_iload_n hx hb dX5_isMachine_4 rfl (lv_at hl 1 rfl) ?_
    refine lv_aload_n hx hb dX5_isMachine_5 rfl (lv_at hl 0 rfl) ?_
    refine r_getI hx hb hts hin hown hK hG 5 (by decide) rfl (hts (.fieldLink RX5 91 "LineEventsModel" "machines" "I") (by decide +kernel)) (z := S 5 0 0) (rfl) dX5_isMachine_6 ?_
    refine z_icmp_ge (tgt := 16) hx hb dX5_isMachine_9 (by decide) ⟨by omega, by omega⟩ ⟨by omega, by omega⟩ (fun c_2 => ?_) (fun c_2 => ?_)
    · refine lv_iconst (v := zI 0) hx hb dX5_isMachine_16 rfl ?_
      have v9 : 0 = bZ (0 ≤ z ∧ z < S 5 0 0) := by first | exact (bZ_t (by omega)).symm | exact (bZ_f (by omega)).symm
      refine W.eq (congrArg (fun z => F0 m0 17 ls [.int (zI z)]) v9) ?_
      exact W.zret hx hb hr (zI_bool _) (fun t ht hW => ⟨rfl, ⟨by rw [ht]; exact hG, va_K.moved hW.alike hK⟩, hS.F ht⟩) hS.2.2 dX5_isMachine_17
    · refine lv_iconst (v := zI 1) hx hb dX5_isMachine_12 rfl ?_
      refine lv_goto (tgt := 17) hx hb dX5_isMachine_13 (by decide) ?_
      have v9 : 1 = bZ (0 ≤ z ∧ z < S 5 0 0) := by first | exact (bZ_t (by omega)).symm | exact (bZ_f (by omega)).symm
      refine W.eq (congrArg (fun z => F0 m0 17 ls [.int (zI z)]) v9) ?_
      exact W.zret hx hb hr (zI_bool _) (fun t ht hW => ⟨rfl, ⟨by rw [ht]; exact hG, va_K.moved hW.alike hK⟩, hS.F ht⟩) hS.2.2 dX5_isMachine_17
set_option maxHeartbeats 4000000 in
set_option maxRecDepth 100000 in
theorem m_X5_note (l : Launch) (D : va_G) (cI cJ : ClassId) (A : Nat → Prop) (ad : Nat → Nat → Nat) (S : Nat → Nat → Nat → Int) (m : Nat) (kd : Int) (he : 0 ≤ S 30 0 0 ∧ S 30 0 0 < 2147483647) : Met l yX5_note wsX5_note ({ frames := 0, cells := 0, slots := 0, locals := 0 }) (va_Pc [.ref (ad 32 0), .int (zI (m : Int)), .int (zI kd)] (gRU D cI cJ A ad S)) (gO none (gRU D cI cJ A ad (rnote S m kd)) A) 0 0 A := by
  refine Met.ofW (cc := cX5_note) (maxL := 3) (ret := none) (by decide) rfl ?_
  intro p e s m0 args below meth c s₁ B hml hv
  obtain ⟨rfl, hG, hK⟩ := hv
  have hx := B.exec
  have hb := B.bytes
  have hr := B.returns
  have hts := atoms_spec (ws := wsX5_note) B.pre
  have hown : s.vm.findClass RX5 = some m0.cls := findClass_of_methodNamed B.named
  have hlocks := B.notSynchronized
  have hin : ∀ w ∈ wsX50, w ∈ wsX5_note := by decide +kernel
  have hS : va_S A s.heap s.heap [] := va_S.rf
  have hl := lv_entry ([.ref (ad 32 0), .int (zI (m : Int)), .int (zI kd)]) (n := 3) (Nat.le_of_ble_eq_true rfl)
  rw [lg_entry_eq]
  generalize (lg_sl ([.ref (ad 32 0), .int (zI (m : Int)), .int (zI kd)]) ++ List.replicate (3 - (lg_sl ([.ref (ad 32 0), .int (zI (m : Int)), .int (zI kd)])).length) Slot.unset).toArray = ls at hl ⊢
  replace hl : lv_has ls 3 [(0, .ref (ad 32 0)), (1, .int (zI (m : Int))), (2, .int (zI kd))] := hl
  refine lv_aload_n hx hb dX5_note_0 rfl (lv_at hl 0 rfl) ?_
  refine r_getI hx hb hts hin hown hK hG 30 (by decide) rfl (hts (.fieldLink RX5 114 "LineEventsModel" "events" "I") (by decide +kernel)) (z := S 30 0 0) (rfl) dX5_note_1 ?_
  refine lv_sipush (v := zI 1000) hx hb dX5_note_4 (by decide) ?_
  refine z_icmp_ge (tgt := 43) hx hb dX5_note_7 (by decide) ⟨by omega, by omega⟩ ⟨by decide, by decide⟩ (fun c_1 => ?_) (fun c_1 => ?_)
  · refine lv_aload_n hx hb dX5_note_43 rfl (lv_at hl 0 rfl) ?_
    refine lv_dup hx hb dX5_note_44 rfl ?_
    refine r_getI hx hb hts hin hown hK hG 30 (by decide) rfl (hts (.fieldLink RX5 114 "LineEventsModel" "events" "I") (by decide +kernel)) (z := S 30 0 0) (rfl) dX5_note_45 ?_
    refine lv_iconst (v := zI 1) hx hb dX5_note_48 rfl ?_
    refine z_iadd hx hb dX5_note_49 ?_
    refine r_putI hx hb hts hin hown hK hG hS 30 (by decide) rfl (hts (.fieldLink RX5 114 "LineEventsModel" "events" "I") (by decide +kernel)) rfl rfl (z := (S 30 0 0) + 1) dX5_note_50 (fun H locs hG hS => ?_)
    have e9 : su S 30 0 0 ((S 30 0 0) + 1) = rnote S m kd := by unfold rnote; first | rw [if_pos (by omega)] | rw [if_neg (by omega)]
    rw [e9] at hG
    exact W.vret hx hb hr (fun t ht hW => ⟨rfl, ⟨by rw [ht]; exact hG, va_K.moved hW.alike hK⟩, hS.F ht⟩) hS.2.2 dX5_note_53
  · refine lv_aload_n hx hb dX5_note_10 rfl (lv_at hl 0 rfl) ?_
    refine r_getA hx hb hts hin hown hK hG 27 (by decide) (by decide) (hts (.fieldLink RX5 74 "LineEventsModel" "eventAt" "[I") (by decide +kernel)) dX5_note_11 ?_
    refine lv_aload_n hx hb dX5_note_14 rfl (lv_at hl 0 rfl) ?_
    refine r_getI hx hb hts hin hown hK hG 30 (by decide) rfl (hts (.fieldLink RX5 114 "LineEventsModel" "events" "I") (by decide +kernel)) (z := S 30 0 0) (rfl) dX5_note_15 ?_
    refine lv_aload_n hx hb dX5_note_18 rfl (lv_at hl 0 rfl) ?_
    refine r_getI hx hb hts hin hown hK hG 25 (by decide) rfl (hts (.fieldLink RX5 94 "LineEventsModel" "now" "I") (by decide +kernel)) (z := S 25 0 0) (rfl) dX5_note_19 ?_
    refine r_iast hx hb hK hG hS 27 (by decide) rfl (S 30 0 0).toNat 0 (by simp only [show rW 27 = 1 from rfl]; omega) (by simp only [show rN 27 = 1000 from rfl]; omega) (by simp only [show rW 27 = 1 from rfl]; omega) (w := S 25 0 0) dX5_note_22 (fun H locs hG hS => ?_)
    refine lv_aload_n hx hb dX5_note_23 rfl (lv_at hl 0 rfl) ?_
    refine r_getA hx hb hts hin hown hK hG 28 (by decide) (by decide) (hts (.fieldLink RX5 77 "LineEventsModel" "eventMachine" "[I") (by decide +kernel)) dX5_note_24 ?_
    refine lv_aload_n hx hb dX5_note_27 rfl (lv_at hl 0 rfl) ?_
    refine r_getI hx hb hts hin hown hK hG 30 (by decide) rfl (hts (.fieldLink RX5 114 "LineEventsModel" "events" "I") (by decide +kernel)) (z := S 30 0 0) (by simp [su]) dX5_note_28 ?_
    refine lv_iload_n hx hb dX5_note_31 rfl (lv_at hl 1 rfl) ?_
    refine r_iast hx hb hK hG hS 28 (by decide) rfl (S 30 0 0).toNat 0 (by simp only [show rW 28 = 1 from rfl]; omega) (by simp only [show rN 28 = 1000 from rfl]; omega) (by simp only [show rW 28 = 1 from rfl]; omega) (w := (m : Int)) dX5_note_32 (fun H locs hG hS => ?_)
    refine lv_aload_n hx hb dX5_note_33 rfl (lv_at hl 0 rfl) ?_
    refine r_getA hx hb hts hin hown hK hG 29 (by decide) (by decide) (hts (.fieldLink RX5 80 "LineEventsModel" "eventKind" "[I") (by decide +kernel)) dX5_note_34 ?_
    refine lv_aload_n hx hb dX5_note_37 rfl (lv_at hl 0 rfl) ?_
    refine r_getI hx hb hts hin hown hK hG 30 (by decide) rfl (hts (.fieldLink RX5 114 "LineEventsModel" "events" "I") (by decide +kernel)) (z := S 30 0 0) (by simp [su]) dX5_note_38 ?_
    refine lv_iload_n hx hb dX5_note_41 rfl (lv_at hl 2 rfl) ?_
    refine r_iast hx hb hK hG hS 29 (by decide) rfl (S 30 0 0).toNat 0 (by simp only [show rW 29 = 1 from rfl]; omega) (by simp only [show rN 29 = 1000 from rfl]; omega) (by simp only [show rW 29 = 1 from rfl]; omega) (w := kd) dX5_note_42 (fun H locs hG hS => ?_)
    refine lv_aload_n hx hb dX5_note_43 rfl (lv_at hl 0 rfl) ?_
    refine lv_dup hx hb dX5_note_44 rfl ?_
    refine r_getI hx hb hts hin hown hK hG 30 (by decide) rfl (hts (.fieldLink RX5 114 "LineEventsModel" "events" "I") (by decide +kernel)) (z := S 30 0 0) (by simp [su]) dX5_note_45 ?_
    refine lv_iconst (v := zI 1) hx hb dX5_note_48 rfl ?_
    refine z_iadd hx hb dX5_note_49 ?_
    refine r_putI hx hb hts hin hown hK hG hS 30 (by decide) rfl (hts (.fieldLink RX5 114 "LineEventsModel" "events" "I") (by decide +kernel)) rfl rfl (z := (S 30 0 0) + 1) dX5_note_50 (fun H locs hG hS => ?_)
    have e9 : su (su (su (su S 27 (S 30 0 0).toNat 0 (S 25 0 0)) 28 (S 30 0 0).toNat 0 ((m : Int))) 29 (S 30 0 0).toNat 0 (kd)) 30 0 0 ((S 30 0 0) + 1) = rnote S m kd := by unfold rnote; first | rw [if_pos (by omega)] | rw [if_neg (by omega)]
    rw [e9] at hG
    exact W.vret hx hb hr (fun t ht hW => ⟨rfl, ⟨by rw [ht]; exact hG, va_K.moved hW.alike hK⟩, hS.F ht⟩) hS.2.2 dX5_note_53
set_option maxHeartbeats 4000000 in
set_option maxRecDepth 100000 in
theorem m_X5_draw (l : Launch) (D : va_G) (cI cJ : ClassId) (A : Nat → Prop) (ad : Nat → Nat → Nat) (S : Nat → Nat → Nat → Int) (b : Int) (hb0 : 0 < b ∧ b < 9223372036854775808) : Met l yX5_draw wsX5_draw ({ frames := 0, cells := 0, slots := 0, locals := 0 }) (va_Pc [.ref (ad 32 0), .long (zL b)] (gRU D cI cJ A ad S)) (gO (some (.long (zL (rdv S b)))) (gRU D cI cJ A ad (rdraw S)) A) 0 0 A := by
  refine Met.ofW (cc := cX5_draw) (maxL := 3) (ret := (some .long)) (by decide) rfl ?_
  intro p e s m0 args below meth c s₁ B hml hv
  obtain ⟨rfl, hG, hK⟩ := hv
  have hx := B.exec
  have hb := B.bytes
  have hr := B.returns
  have hts := atoms_spec (ws := wsX5_draw) B.pre
  have hown : s.vm.findClass RX5 = some m0.cls := findClass_of_methodNamed B.named
  have hlocks := B.notSynchronized
  have hin : ∀ w ∈ wsX50, w ∈ wsX5_draw := by decide +kernel
  have hS : va_S A s.heap s.heap [] := va_S.rf
  have hl := lv_entry ([.ref (ad 32 0), .long (zL b)]) (n := 3) (Nat.le_of_ble_eq_true rfl)
  rw [lg_entry_eq]
  generalize (lg_sl ([.ref (ad 32 0), .long (zL b)]) ++ List.replicate (3 - (lg_sl ([.ref (ad 32 0), .long (zL b)])).length) Slot.unset).toArray = ls at hl ⊢
  replace hl : lv_has ls 3 [(0, .ref (ad 32 0)), (1, .long (zL b))] := hl
  refine lv_aload_n hx hb dX5_draw_0 rfl (lv_at hl 0 rfl) ?_
  refine lv_aload_n hx hb dX5_draw_1 rfl (lv_at hl 0 rfl) ?_
  refine r_getJ hx hb hts hin hown hK hG 26 (by decide) rfl (hts (.fieldLink RX5 83 "LineEventsModel" "drawn" "J") (by decide +kernel)) (z := S 26 0 0) (rfl) dX5_draw_2 ?_
  refine z_ldc2 (z := 6364136223846793005) hx hb hown (hts (.constantLong RX5 117 (6364136223846793005)) (by decide +kernel)) (by decide) dX5_draw_5 ?_
  refine z_lmul hx hb dX5_draw_8 ?_
  refine z_ldc2 (z := 1442695040888963407) hx hb hown (hts (.constantLong RX5 119 (1442695040888963407)) (by decide +kernel)) (by decide) dX5_draw_9 ?_
  refine z_ladd hx hb dX5_draw_12 ?_
  refine r_putJ hx hb hts hin hown hK hG hS 26 (by decide) rfl (hts (.fieldLink RX5 83 "LineEventsModel" "drawn" "J") (by decide +kernel)) rfl rfl (z := ((S 26 0 0) * 6364136223846793005) + 1442695040888963407) dX5_draw_13 (fun H locs hG hS => ?_)
  refine lv_aload_n hx hb dX5_draw_16 rfl (lv_at hl 0 rfl) ?_
  refine r_getJ hx hb hts hin hown hK hG 26 (by decide) rfl (hts (.fieldLink RX5 83 "LineEventsModel" "drawn" "J") (by decide +kernel)) (z := ((S 26 0 0) * 6364136223846793005) + 1442695040888963407) (by simp [su]) dX5_draw_17 ?_
  refine lv_bipush (v := zI 33) hx hb dX5_draw_20 (by decide) ?_
  refine z_ush33 hx hb dX5_draw_22 ?_
  refine lv_lload_n hx hb dX5_draw_23 rfl (lv_at hl 1 rfl) ?_
  refine z_lrem hx hb dX5_draw_24 ⟨by omega, by omega⟩ ⟨by omega, by omega⟩ ?_
  have e9 : su S 26 0 0 (((S 26 0 0) * 6364136223846793005) + 1442695040888963407) = rdraw S := by rfl
  rw [e9] at hG
  have v9 : ((((S 26 0 0) * 6364136223846793005) + 1442695040888963407) % 18446744073709551616 / 8589934592) % b = rdv S b := by rfl
  refine W.eq (congrArg (fun z => F0 m0 25 ls [.long (zL z)]) v9) ?_
  exact W.lret hx hb hr (fun t ht hW => ⟨rfl, ⟨by rw [ht]; exact hG, va_K.moved hW.alike hK⟩, hS.F ht⟩) hS.2.2 dX5_draw_25
end
section
set_option maxHeartbeats 4000000 in
set_option maxRecDepth 100000 in
theorem m_X5_held (l : Launch) (D : va_G) (cI cJ : ClassId) (A : Nat → Prop) (ad : Nat → Nat → Nat) (S : Nat → Nat → Nat → Int) (m : Nat) (hI : Inv S) (hm : (m : Int) < S 5 0 0) : Met l yX5_held wsX5_held ({ frames := 0, cells := 0, slots := 0, locals := 0 }) (va_Pc [.ref (ad 32 0), .int (zI (m : Int))] (gRU D cI cJ A ad S)) (gO (some (.int (zI (rheld S m)))) (gRU D cI cJ A ad (S)) A) 0 0 A := by
  refine Met.ofW (cc := cX5_held) (maxL := 3) (ret := (some .int)) (by decide) rfl ?_
  intro p e s m0 args below meth c s₁ B hml hv
  obtain ⟨rfl, hG, hK⟩ := hv
  have hx := B.exec
  have hb := B.bytes
  have hr := B.returns
  have hts := atoms_spec (ws := wsX5_held) B.pre
  have hown : s.vm.findClass RX5 = some m0.cls := findClass_of_methodNamed B.named
  have hlocks := B.notSynchronized
  have hin : ∀ w ∈ wsX50, w ∈ wsX5_held := by decide +kernel
  have hS : va_S A s.heap s.heap [] := va_S.rf
  have hl := lv_entry ([.ref (ad 32 0), .int (zI (m : Int))]) (n := 3) (Nat.le_of_ble_eq_true rfl)
  rw [lg_entry_eq]
  generalize (lg_sl ([.ref (ad 32 0), .int (zI (m : Int))]) ++ List.replicate (3 - (lg_sl ([.ref (ad 32 0), .int (zI (m : Int))])).length) Slot.unset).toArray = ls at hl ⊢
  replace hl : lv_has ls 3 [(0, .ref (ad 32 0)), (1, .int (zI (m : Int)))] := hl
  obtain ⟨hI5, hI25, hI20, hIM, hIL, hIR⟩ := hI
  have hm12 : m < 12 := by omega
  refine lv_iconst (v := zI 0) hx hb dX5_held_0 rfl ?_
  refine lv_istore_n (lv' := [(2, .int (zI 0)), (0, .ref (ad 32 0)), (1, .int (zI (m : Int)))]) hx hb dX5_held_1 rfl hl (by decide) rfl (fun ls hl => ?_)
  obtain ⟨k, hk0⟩ : ∃ k : Nat, k = 0 := ⟨0, rfl⟩
  replace hl : lv_has ls 3 [(2, .int (zI (k : Int))), (0, .ref (ad 32 0)), (1, .int (zI (m : Int)))] := by subst hk0; exact hl
  obtain ⟨n, hn⟩ : ∃ n : Nat, (k : Int) + n = S 20 0 0 := ⟨(S 20 0 0).toNat, by omega⟩
  have hv9 : rhl S m n k = rheld S m := by subst hk0; unfold rheld; congr 1; omega
  clear hk0
  induction n generalizing k ls with
  | zero =>
    refine lv_iload_n hx hb dX5_held_2 rfl (lv_at hl 0 rfl) ?_
    refine lv_aload_n hx hb dX5_held_3 rfl (lv_at hl 1 rfl) ?_
    refine r_getI hx hb hts hin hown hK hG 20 (by decide) rfl (hts (.fieldLink RX5 106 "LineEventsModel" "rows" "I") (by decide +kernel)) (z := S 20 0 0) (rfl) dX5_held_4 ?_
    refine z_icmp_ge (tgt := 69) hx hb dX5_held_7 (by decide) ⟨by omega, by omega⟩ ⟨by omega, by omega⟩ (fun c_1 => ?_) (fun c_1 => ?_)
    · refine lv_iconst (v := zI (-1)) hx hb dX5_held_69 rfl ?_
      have v9 : (-1) = rheld S m := by first | (rw [← hv9]; rfl) | (exfalso; omega)
      refine W.eq (congrArg (fun z => F0 m0 70 ls [.int (zI z)]) v9) ?_
      exact W.iret hx hb hr (fun t ht hW => ⟨rfl, ⟨by rw [ht]; exact hG, va_K.moved hW.alike hK⟩, hS.F ht⟩) hS.2.2 dX5_held_70
    · exfalso; omega
  | succ n ih =>
    refine lv_iload_n hx hb dX5_held_2 rfl (lv_at hl 0 rfl) ?_
    refine lv_aload_n hx hb dX5_held_3 rfl (lv_at hl 1 rfl) ?_
    refine r_getI hx hb hts hin hown hK hG 20 (by decide) rfl (hts (.fieldLink RX5 106 "LineEventsModel" "rows" "I") (by decide +kernel)) (z := S 20 0 0) (rfl) dX5_held_4 ?_
    refine z_icmp_ge (tgt := 69) hx hb dX5_held_7 (by decide) ⟨by omega, by omega⟩ ⟨by omega, by omega⟩ (fun c_2 => ?_) (fun c_2 => ?_)
    · exfalso; omega
    · obtain ⟨hr1, hr2, hr3, hr4⟩ := hIR k (by omega)
      refine lv_aload_n hx hb dX5_held_10 rfl (lv_at hl 1 rfl) ?_
      refine r_getA hx hb hts hin hown hK hG 16 (by decide) (by decide) (hts (.fieldLink RX5 56 "LineEventsModel" "rowMachine" "[I") (by decide +kernel)) dX5_held_11 ?_
      refine lv_iload_n hx hb dX5_held_14 rfl (lv_at hl 0 rfl) ?_
      refine r_iald hx hb hK hG 16 (by decide) rfl k 0 (by simp only [show rW 16 = 1 from rfl]; omega) (by simp only [show rN 16 = 64 from rfl]; omega) (by simp only [show rW 16 = 1 from rfl]; omega) (w := S 16 k 0) (rfl) dX5_held_15 ?_
      refine lv_iconst (v := zI (-1)) hx hb dX5_held_16 rfl ?_
      refine z_icmp_eq (tgt := 30) hx hb dX5_held_17 (by decide) ⟨by omega, by omega⟩ ⟨by decide, by decide⟩ (fun c_3 => ?_) (fun c_3 => ?_)
      · refine lv_aload_n hx hb dX5_held_30 rfl (lv_at hl 1 rfl) ?_
        refine r_getA hx hb hts hin hown hK hG 17 (by decide) (by decide) (hts (.fieldLink RX5 59 "LineEventsModel" "rowFrom" "[I") (by decide +kernel)) dX5_held_31 ?_
        refine lv_iload_n hx hb dX5_held_34 rfl (lv_at hl 0 rfl) ?_
        refine r_iald hx hb hK hG 17 (by decide) rfl k 0 (by simp only [show rW 17 = 1 from rfl]; omega) (by simp only [show rN 17 = 64 from rfl]; omega) (by simp only [show rW 17 = 1 from rfl]; omega) (w := S 17 k 0) (rfl) dX5_held_35 ?_
        refine lv_aload_n hx hb dX5_held_36 rfl (lv_at hl 1 rfl) ?_
        refine r_getI hx hb hts hin hown hK hG 25 (by decide) rfl (hts (.fieldLink RX5 94 "LineEventsModel" "now" "I") (by decide +kernel)) (z := S 25 0 0) (rfl) dX5_held_37 ?_
        refine z_icmp_gt (tgt := 63) hx hb dX5_held_40 (by decide) ⟨by omega, by omega⟩ ⟨by omega, by omega⟩ (fun c_4 => ?_) (fun c_4 => ?_)
        · refine lv_iinc (v := zI ((k : Int) + 1)) (lv' := [(2, .int (zI ((k : Int) + 1))), (0, .ref (ad 32 0)), (1, .int (zI (m : Int)))]) hx hb dX5_held_63 hl (k := 0) rfl (by rw [show Int32.ofInt 1 = zI 1 from rfl, zI_add]) (by decide) rfl (fun ls hl => ?_)
          refine lv_goto (tgt := 2) hx hb dX5_held_66 (by decide) ?_
          exact ih (k := k + 1) (ls := ls) (hl := lv_sub hl [0, 1, 2] rfl) (hn := by omega) (hv9 := by rw [← hv9, rhl, if_neg (by omega)])
        · refine lv_aload_n hx hb dX5_held_43 rfl (lv_at hl 1 rfl) ?_
          refine r_getI hx hb hts hin hown hK hG 25 (by decide) rfl (hts (.fieldLink RX5 94 "LineEventsModel" "now" "I") (by decide +kernel)) (z := S 25 0 0) (rfl) dX5_held_44 ?_
          refine lv_aload_n hx hb dX5_held_47 rfl (lv_at hl 1 rfl) ?_
          refine r_getA hx hb hts hin hown hK hG 18 (by decide) (by decide) (hts (.fieldLink RX5 62 "LineEventsModel" "rowTo" "[I") (by decide +kernel)) dX5_held_48 ?_
          refine lv_iload_n hx hb dX5_held_51 rfl (lv_at hl 0 rfl) ?_
          refine r_iald hx hb hK hG 18 (by decide) rfl k 0 (by simp only [show rW 18 = 1 from rfl]; omega) (by simp only [show rN 18 = 64 from rfl]; omega) (by simp only [show rW 18 = 1 from rfl]; omega) (w := S 18 k 0) (rfl) dX5_held_52 ?_
          refine z_icmp_ge (tgt := 63) hx hb dX5_held_53 (by decide) ⟨by omega, by omega⟩ ⟨by omega, by omega⟩ (fun c_5 => ?_) (fun c_5 => ?_)
          · refine lv_iinc (v := zI ((k : Int) + 1)) (lv' := [(2, .int (zI ((k : Int) + 1))), (0, .ref (ad 32 0)), (1, .int (zI (m : Int)))]) hx hb dX5_held_63 hl (k := 0) rfl (by rw [show Int32.ofInt 1 = zI 1 from rfl, zI_add]) (by decide) rfl (fun ls hl => ?_)
            refine lv_goto (tgt := 2) hx hb dX5_held_66 (by decide) ?_
            exact ih (k := k + 1) (ls := ls) (hl := lv_sub hl [0, 1, 2] rfl) (hn := by omega) (hv9 := by rw [← hv9, rhl, if_neg (by omega)])
          · refine lv_aload_n hx hb dX5_held_56 rfl (lv_at hl 1 rfl) ?_
            refine r_getA hx hb hts hin hown hK hG 19 (by decide) (by decide) (hts (.fieldLink RX5 65 "LineEventsModel" "rowCause" "[I") (by decide +kernel)) dX5_held_57 ?_
            refine lv_iload_n hx hb dX5_held_60 rfl (lv_at hl 0 rfl) ?_
            refine r_iald hx hb hK hG 19 (by decide) rfl k 0 (by simp only [show rW 19 = 1 from rfl]; omega) (by simp only [show rN 19 = 64 from rfl]; omega) (by simp only [show rW 19 = 1 from rfl]; omega) (w := S 19 k 0) (rfl) dX5_held_61 ?_
            have v9 : S 19 k 0 = rheld S m := by first | (rw [← hv9, rhl, if_pos (by omega)]) | (exfalso; omega)
            refine W.eq (congrArg (fun z => F0 m0 62 ls [.int (zI z)]) v9) ?_
            exact W.iret hx hb hr (fun t ht hW => ⟨rfl, ⟨by rw [ht]; exact hG, va_K.moved hW.alike hK⟩, hS.F ht⟩) hS.2.2 dX5_held_62
      · refine lv_aload_n hx hb dX5_held_20 rfl (lv_at hl 1 rfl) ?_
        refine r_getA hx hb hts hin hown hK hG 16 (by decide) (by decide) (hts (.fieldLink RX5 56 "LineEventsModel" "rowMachine" "[I") (by decide +kernel)) dX5_held_21 ?_
        refine lv_iload_n hx hb dX5_held_24 rfl (lv_at hl 0 rfl) ?_
        refine r_iald hx hb hK hG 16 (by decide) rfl k 0 (by simp only [show rW 16 = 1 from rfl]; omega) (by simp only [show rN 16 = 64 from rfl]; omega) (by simp only [show rW 16 = 1 from rfl]; omega) (w := S 16 k 0) (rfl) dX5_held_25 ?_
        refine lv_iload_n hx hb dX5_held_26 rfl (lv_at hl 2 rfl) ?_
        refine z_icmp_ne (tgt := 63) hx hb dX5_held_27 (by decide) ⟨by omega, by omega⟩ ⟨by omega, by omega⟩ (fun c_6 => ?_) (fun c_6 => ?_)
        · refine lv_iinc (v := zI ((k : Int) + 1)) (lv' := [(2, .int (zI ((k : Int) + 1))), (0, .ref (ad 32 0)), (1, .int (zI (m : Int)))]) hx hb dX5_held_63 hl (k := 0) rfl (by rw [show Int32.ofInt 1 = zI 1 from rfl, zI_add]) (by decide) rfl (fun ls hl => ?_)
          refine lv_goto (tgt := 2) hx hb dX5_held_66 (by decide) ?_
          exact ih (k := k + 1) (ls := ls) (hl := lv_sub hl [0, 1, 2] rfl) (hn := by omega) (hv9 := by rw [← hv9, rhl, if_neg (by omega)])
        · refine lv_aload_n hx hb dX5_held_30 rfl (lv_at hl 1 rfl) ?_
          refine r_getA hx hb hts hin hown hK hG 17 (by decide) (by decide) (hts (.fieldLink RX5 59 "LineEventsModel" "rowFrom" "[I") (by decide +kernel)) dX5_held_31 ?_
          refine lv_iload_n hx hb dX5_held_34 rfl (lv_at hl 0 rfl) ?_
          refine r_iald hx hb hK hG 17 (by decide) rfl k 0 (by simp only [show rW 17 = 1 from rfl]; omega) (by simp only [show rN 17 = 64 from rfl]; omega) (by simp only [show rW 17 = 1 from rfl]; omega) (w := S 17 k 0) (rfl) dX5_held_35 ?_
          refine lv_aload_n hx hb dX5_held_36 rfl (lv_at hl 1 rfl) ?_
          refine r_getI hx hb hts hin hown hK hG 25 (by decide) rfl (hts (.fieldLink RX5 94 "LineEventsModel" "now" "I") (by decide +kernel)) (z := S 25 0 0) (rfl) dX5_held_37 ?_
          refine z_icmp_gt (tgt := 63) hx hb dX5_held_40 (by decide) ⟨by omega, by omega⟩ ⟨by omega, by omega⟩ (fun c_7 => ?_) (fun c_7 => ?_)
          · refine lv_iinc (v := zI ((k : Int) + 1)) (lv' := [(2, .int (zI ((k : Int) + 1))), (0, .ref (ad 32 0)), (1, .int (zI (m : Int)))]) hx hb dX5_held_63 hl (k := 0) rfl (by rw [show Int32.ofInt 1 = zI 1 from rfl, zI_add]) (by decide) rfl (fun ls hl => ?_)
            refine lv_goto (tgt := 2) hx hb dX5_held_66 (by decide) ?_
            exact ih (k := k + 1) (ls := ls) (hl := lv_sub hl [0, 1, 2] rfl) (hn := by omega) (hv9 := by rw [← hv9, rhl, if_neg (by omega)])
          · refine lv_aload_n hx hb dX5_held_43 rfl (lv_at hl 1 rfl) ?_
            refine r_getI hx hb hts hin hown hK hG 25 (by decide) rfl (hts (.fieldLink RX5 94 "LineEventsModel" "now" "I") (by decide +kernel)) (z := S 25 0 0) (rfl) dX5_held_44 ?_
            refine lv_aload_n hx hb dX5_held_47 rfl (lv_at hl 1 rfl) ?_
            refine r_getA hx hb hts hin hown hK hG 18 (by decide) (by decide) (hts (.fieldLink RX5 62 "LineEventsModel" "rowTo" "[I") (by decide +kernel)) dX5_held_48 ?_
            refine lv_iload_n hx hb dX5_held_51 rfl (lv_at hl 0 rfl) ?_
            refine r_iald hx hb hK hG 18 (by decide) rfl k 0 (by simp only [show rW 18 = 1 from rfl]; omega) (by simp only [show rN 18 = 64 from rfl]; omega) (by simp only [show rW 18 = 1 from rfl]; omega) (w := S 18 k 0) (rfl) dX5_held_52 ?_
            refine z_icmp_ge (tgt := 63) hx hb dX5_held_53 (by decide) ⟨by omega, by omega⟩ ⟨by omega, by omega⟩ (fun c_8 => ?_) (fun c_8 => ?_)
            · refine lv_iinc (v := zI ((k : Int) + 1)) (lv' := [(2, .int (zI ((k : Int) + 1))), (0, .ref (ad 32 0)), (1, .int (zI (m : Int)))]) hx hb dX5_held_63 hl (k := 0) rfl (by rw [show Int32.ofInt 1 = zI 1 from rfl, zI_add]) (by decide) rfl (fun ls hl => ?_)
              refine lv_goto (tgt := 2) hx hb dX5_held_66 (by decide) ?_
              exact ih (k := k + 1) (ls := ls) (hl := lv_sub hl [0, 1, 2] rfl) (hn := by omega) (hv9 := by rw [← hv9, rhl, if_neg (by omega)])
            · refine lv_aload_n hx hb dX5_held_56 rfl (lv_at hl 1 rfl) ?_
              refine r_getA hx hb hts hin hown hK hG 19 (by decide) (by decide) (hts (.fieldLink RX5 65 "LineEventsModel" "rowCause" "[I") (by decide +kernel)) dX5_held_57 ?_
              refine lv_iload_n hx hb dX5_held_60 rfl (lv_at hl 0 rfl) ?_
              refine r_iald hx hb hK hG 19 (by decide) rfl k 0 (by simp only [show rW 19 = 1 from rfl]; omega) (by simp only [show rN 19 = 64 from rfl]; omega) (by simp only [show rW 19 = 1 from rfl]; omega) (w := S 19 k 0) (rfl) dX5_held_61 ?_
              have v9 : S 19 k 0 = rheld S m := by first | (rw [← hv9, rhl, if_pos (by omega)]) | (exfalso; omega)
              refine W.eq (congrArg (fun z => F0 m0 62 ls [.int (zI z)]) v9) ?_
              exact W.iret hx hb hr (fun t ht hW => ⟨rfl, ⟨by rw [ht]; exact hG, va_K.moved hW.alike hK⟩, hS.F ht⟩) hS.2.2 dX5_held_62
end
section
set_option maxHeartbeats 4000000 in
set_option maxRecDepth 100000 in
theorem m_X5_leave (l : Launch) (D : va_G) (cI cJ : ClassId) (A : Nat → Prop) (ad : Nat → Nat → Nat) (S : Nat → Nat → Nat → Int) (m : Nat) (hI : Inv S) (hm : (m : Int) < S 5 0 0) (he : 0 ≤ S 30 0 0 ∧ S 30 0 0 < 2147483647) : Met l yX5_leave wsX5_leave ({ frames := 1, cells := 0, slots := 0, locals := 22 }) (va_Pc [.ref (ad 32 0), .int (zI (m : Int))] (gRU D cI cJ A ad S)) (gO none (gRU D cI cJ A ad (rleave S m)) A) 0 0 A := by
  refine Met.ofW (cc := cX5_leave) (maxL := 2) (ret := none) (by decide) rfl ?_
  intro p e s m0 args below meth c s₁ B hml hv
  obtain ⟨rfl, hG, hK⟩ := hv
  have hx := B.exec
  have hb := B.bytes
  have hr := B.returns
  have hts := atoms_spec (ws := wsX5_leave) B.pre
  have hown : s.vm.findClass RX5 = some m0.cls := findClass_of_methodNamed B.named
  have hlocks := B.notSynchronized
  have hin : ∀ w ∈ wsX50, w ∈ wsX5_leave := by decide +kernel
  have hS : va_S A s.heap s.heap [] := va_S.rf
  have hl := lv_entry ([.ref (ad 32 0), .int (zI (m : Int))]) (n := 2) (Nat.le_of_ble_eq_true rfl)
  rw [lg_entry_eq]
  generalize (lg_sl ([.ref (ad 32 0), .int (zI (m : Int))]) ++ List.replicate (2 - (lg_sl ([.ref (ad 32 0), .int (zI (m : Int))])).length) Slot.unset).toArray = ls at hl ⊢
  replace hl : lv_has ls 2 [(0, .ref (ad 32 0)), (1, .int (zI (m : Int)))] := hl
  obtain ⟨hI5, hI25, hI20, hIM, hIL, hIR⟩ := id hI
  have hm12 : m < 12 := by omega
  obtain ⟨hM6, hM7, hM8, hM10, hM11, hM15, hM9, hMf⟩ := id (hIM m hm12)
  obtain ⟨hL0, hL1, hL2, hL3, hL4⟩ := id (hIL m hm)
  refine lv_aload_n hx hb dX5_leave_0 rfl (lv_at hl 0 rfl) ?_
  refine r_getA hx hb hts hin hown hK hG 2 (by decide) (by decide) (hts (.fieldLink RX5 16 "LineEventsModel" "behind" "[I") (by decide +kernel)) dX5_leave_1 ?_
  refine lv_iload_n hx hb dX5_leave_4 rfl (lv_at hl 1 rfl) ?_
  refine r_iald hx hb hK hG 2 (by decide) rfl m 0 (by simp only [show rW 2 = 1 from rfl]; omega) (by simp only [show rN 2 = 12 from rfl]; omega) (by simp only [show rW 2 = 1 from rfl]; omega) (w := S 2 m 0) (rfl) dX5_leave_5 ?_
  refine lv_iconst (v := zI (-1)) hx hb dX5_leave_6 rfl ?_
  refine z_icmp_ne (tgt := 23) hx hb dX5_leave_7 (by decide) ⟨by omega, by omega⟩ ⟨by decide, by decide⟩ (fun c_1 => ?_) (fun c_1 => ?_)
  · refine lv_aload_n hx hb dX5_leave_23 rfl (lv_at hl 0 rfl) ?_
    refine r_getA hx hb hts hin hown hK hG 11 (by decide) (by decide) (hts (.fieldLink RX5 40 "LineEventsModel" "many" "[I") (by decide +kernel)) dX5_leave_24 ?_
    refine lv_iload_n hx hb dX5_leave_27 rfl (lv_at hl 1 rfl) ?_
    refine r_iald hx hb hK hG 11 (by decide) rfl m 0 (by simp only [show rW 11 = 1 from rfl]; omega) (by simp only [show rN 11 = 12 from rfl]; omega) (by simp only [show rW 11 = 1 from rfl]; omega) (w := S 11 m 0) (rfl) dX5_leave_28 ?_
    refine lv_aload_n hx hb dX5_leave_29 rfl (lv_at hl 0 rfl) ?_
    refine r_getA hx hb hts hin hown hK hG 3 (by decide) (by decide) (hts (.fieldLink RX5 19 "LineEventsModel" "room" "[I") (by decide +kernel)) dX5_leave_30 ?_
    refine lv_iload_n hx hb dX5_leave_33 rfl (lv_at hl 1 rfl) ?_
    refine r_iald hx hb hK hG 3 (by decide) rfl m 0 (by simp only [show rW 3 = 1 from rfl]; omega) (by simp only [show rN 3 = 12 from rfl]; omega) (by simp only [show rW 3 = 1 from rfl]; omega) (w := S 3 m 0) (rfl) dX5_leave_34 ?_
    refine z_icmp_ge (tgt := 83) hx hb dX5_leave_35 (by decide) ⟨by omega, by omega⟩ ⟨by omega, by omega⟩ (fun c_2 => ?_) (fun c_2 => ?_)
    · have e9 : S = rleave S m := by unfold rleave; first | rw [if_pos (by omega)] | rw [if_neg (by omega), if_pos (by omega)] | rw [if_neg (by omega), if_neg (by omega)]
      rw [e9] at hG
      exact W.vret hx hb hr (fun t ht hW => ⟨rfl, ⟨by rw [ht]; exact hG, va_K.moved hW.alike hK⟩, hS.F ht⟩) hS.2.2 dX5_leave_83
    · refine lv_aload_n hx hb dX5_leave_38 rfl (lv_at hl 0 rfl) ?_
      refine r_getA hx hb hts hin hown hK hG 9 (by decide) (by decide) (hts (.fieldLink RX5 34 "LineEventsModel" "came" "[I") (by decide +kernel)) dX5_leave_39 ?_
      refine lv_iload_n hx hb dX5_leave_42 rfl (lv_at hl 1 rfl) ?_
      refine lv_sipush (v := zI 1000) hx hb dX5_leave_43 (by decide) ?_
      refine z_imul hx hb dX5_leave_46 ?_
      refine lv_aload_n hx hb dX5_leave_47 rfl (lv_at hl 0 rfl) ?_
      refine r_getA hx hb hts hin hown hK hG 10 (by decide) (by decide) (hts (.fieldLink RX5 37 "LineEventsModel" "first" "[I") (by decide +kernel)) dX5_leave_48 ?_
      refine lv_iload_n hx hb dX5_leave_51 rfl (lv_at hl 1 rfl) ?_
      refine r_iald hx hb hK hG 10 (by decide) rfl m 0 (by simp only [show rW 10 = 1 from rfl]; omega) (by simp only [show rN 10 = 12 from rfl]; omega) (by simp only [show rW 10 = 1 from rfl]; omega) (w := S 10 m 0) (rfl) dX5_leave_52 ?_
      refine lv_aload_n hx hb dX5_leave_53 rfl (lv_at hl 0 rfl) ?_
      refine r_getA hx hb hts hin hown hK hG 11 (by decide) (by decide) (hts (.fieldLink RX5 40 "LineEventsModel" "many" "[I") (by decide +kernel)) dX5_leave_54 ?_
      refine lv_iload_n hx hb dX5_leave_57 rfl (lv_at hl 1 rfl) ?_
      refine r_iald hx hb hK hG 11 (by decide) rfl m 0 (by simp only [show rW 11 = 1 from rfl]; omega) (by simp only [show rN 11 = 12 from rfl]; omega) (by simp only [show rW 11 = 1 from rfl]; omega) (w := S 11 m 0) (rfl) dX5_leave_58 ?_
      refine z_iadd hx hb dX5_leave_59 ?_
      refine lv_sipush (v := zI 1000) hx hb dX5_leave_60 (by decide) ?_
      refine z_irem hx hb dX5_leave_63 ⟨by omega, by omega⟩ ⟨by omega, by omega⟩ ?_
      refine z_iadd hx hb dX5_leave_64 ?_
      refine lv_aload_n hx hb dX5_leave_65 rfl (lv_at hl 0 rfl) ?_
      refine r_getI hx hb hts hin hown hK hG 25 (by decide) rfl (hts (.fieldLink RX5 94 "LineEventsModel" "now" "I") (by decide +kernel)) (z := S 25 0 0) (rfl) dX5_leave_66 ?_
      refine r_iast hx hb hK hG hS 9 (by decide) rfl m (((S 10 m 0) + (S 11 m 0)) % 1000).toNat (by simp only [show rW 9 = 1000 from rfl]; omega) (by simp only [show rN 9 = 12 from rfl]; omega) (by simp only [show rW 9 = 1000 from rfl]; omega) (w := S 25 0 0) dX5_leave_69 (fun H locs hG hS => ?_)
      refine lv_aload_n hx hb dX5_leave_70 rfl (lv_at hl 0 rfl) ?_
      refine r_getA hx hb hts hin hown hK hG 11 (by decide) (by decide) (hts (.fieldLink RX5 40 "LineEventsModel" "many" "[I") (by decide +kernel)) dX5_leave_71 ?_
      refine lv_iload_n hx hb dX5_leave_74 rfl (lv_at hl 1 rfl) ?_
      refine lv_dup2_11 hx hb dX5_leave_75 rfl rfl ?_
      refine r_iald hx hb hK hG 11 (by decide) rfl m 0 (by simp only [show rW 11 = 1 from rfl]; omega) (by simp only [show rN 11 = 12 from rfl]; omega) (by simp only [show rW 11 = 1 from rfl]; omega) (w := S 11 m 0) (by simp [su]) dX5_leave_76 ?_
      refine lv_iconst (v := zI 1) hx hb dX5_leave_77 rfl ?_
      refine z_iadd hx hb dX5_leave_78 ?_
      refine r_iast hx hb hK hG hS 11 (by decide) rfl m 0 (by simp only [show rW 11 = 1 from rfl]; omega) (by simp only [show rN 11 = 12 from rfl]; omega) (by simp only [show rW 11 = 1 from rfl]; omega) (w := (S 11 m 0) + 1) dX5_leave_79 (fun H locs hG hS => ?_)
      refine lv_goto (tgt := 84) hx hb dX5_leave_80 (by decide) ?_
      refine lv_aload_n hx hb dX5_leave_84 rfl (lv_at hl 0 rfl) ?_
      refine r_getA hx hb hts hin hown hK hG 6 (by decide) (by decide) (hts (.fieldLink RX5 25 "LineEventsModel" "bottle" "[I") (by decide +kernel)) dX5_leave_85 ?_
      refine lv_iload_n hx hb dX5_leave_88 rfl (lv_at hl 1 rfl) ?_
      refine lv_iconst (v := zI 0) hx hb dX5_leave_89 rfl ?_
      refine r_iast hx hb hK hG hS 6 (by decide) rfl m 0 (by simp only [show rW 6 = 1 from rfl]; omega) (by simp only [show rN 6 = 12 from rfl]; omega) (by simp only [show rW 6 = 1 from rfl]; omega) (w := 0) dX5_leave_90 (fun H locs hG hS => ?_)
      refine lv_aload_n hx hb dX5_leave_91 rfl (lv_at hl 0 rfl) ?_
      refine lv_iload_n hx hb dX5_leave_92 rfl (lv_at hl 1 rfl) ?_
      refine lv_iconst (v := zI 1) hx hb dX5_leave_93 rfl ?_
      refine r_callV (As := [.int (zI (m : Int)), .int (zI 1)]) (rest := []) ⟨hx, hb, hml, hown, hts⟩ (m_X5_note l D cI cJ A ad (su (su (su S 9 m (((S 10 m 0) + (S 11 m 0)) % 1000).toNat (S 25 0 0)) 11 m 0 ((S 11 m 0) + 1)) 6 m 0 (0)) m 1 (by simpa [su] using he)) (cwV 2 hts gX5_leave_X5_note rfl rfl rfl (by decide +kernel) ⟨Nat.le_of_ble_eq_true rfl, Nat.le_of_ble_eq_true rfl⟩) hK hG hS rfl hl.1 rfl (Nat.le_of_ble_eq_true rfl) dX5_leave_94 ⟨Nat.zero_le _, Nat.zero_le _⟩ (fun H locs hG hS => ?_)
      have e9 : rnote (su (su (su S 9 m (((S 10 m 0) + (S 11 m 0)) % 1000).toNat (S 25 0 0)) 11 m 0 ((S 11 m 0) + 1)) 6 m 0 (0)) m 1 = rleave S m := by unfold rleave; first | rw [if_pos (by omega)] | rw [if_neg (by omega), if_pos (by omega)] | rw [if_neg (by omega), if_neg (by omega)]
      rw [e9] at hG
      exact W.vret hx hb hr (fun t ht hW => ⟨rfl, ⟨by rw [ht]; exact hG, va_K.moved hW.alike hK⟩, hS.F ht⟩) hS.2.2 dX5_leave_97
  · refine lv_aload_n hx hb dX5_leave_10 rfl (lv_at hl 0 rfl) ?_
    refine lv_dup hx hb dX5_leave_11 rfl ?_
    refine r_getJ hx hb hts hin hown hK hG 24 (by decide) rfl (hts (.fieldLink RX5 129 "LineEventsModel" "made" "J") (by decide +kernel)) (z := S 24 0 0) (rfl) dX5_leave_12 ?_
    refine lv_lconst (v := zL 1) hx hb dX5_leave_15 (by decide) ?_
    refine z_ladd hx hb dX5_leave_16 ?_
    refine r_putJ hx hb hts hin hown hK hG hS 24 (by decide) rfl (hts (.fieldLink RX5 129 "LineEventsModel" "made" "J") (by decide +kernel)) rfl rfl (z := (S 24 0 0) + 1) dX5_leave_17 (fun H locs hG hS => ?_)
    refine lv_goto (tgt := 84) hx hb dX5_leave_20 (by decide) ?_
    refine lv_aload_n hx hb dX5_leave_84 rfl (lv_at hl 0 rfl) ?_
    refine r_getA hx hb hts hin hown hK hG 6 (by decide) (by decide) (hts (.fieldLink RX5 25 "LineEventsModel" "bottle" "[I") (by decide +kernel)) dX5_leave_85 ?_
    refine lv_iload_n hx hb dX5_leave_88 rfl (lv_at hl 1 rfl) ?_
    refine lv_iconst (v := zI 0) hx hb dX5_leave_89 rfl ?_
    refine r_iast hx hb hK hG hS 6 (by decide) rfl m 0 (by simp only [show rW 6 = 1 from rfl]; omega) (by simp only [show rN 6 = 12 from rfl]; omega) (by simp only [show rW 6 = 1 from rfl]; omega) (w := 0) dX5_leave_90 (fun H locs hG hS => ?_)
    refine lv_aload_n hx hb dX5_leave_91 rfl (lv_at hl 0 rfl) ?_
    refine lv_iload_n hx hb dX5_leave_92 rfl (lv_at hl 1 rfl) ?_
    refine lv_iconst (v := zI 1) hx hb dX5_leave_93 rfl ?_
    refine r_callV (As := [.int (zI (m : Int)), .int (zI 1)]) (rest := []) ⟨hx, hb, hml, hown, hts⟩ (m_X5_note l D cI cJ A ad (su (su S 24 0 0 ((S 24 0 0) + 1)) 6 m 0 (0)) m 1 (by simpa [su] using he)) (cwV 2 hts gX5_leave_X5_note rfl rfl rfl (by decide +kernel) ⟨Nat.le_of_ble_eq_true rfl, Nat.le_of_ble_eq_true rfl⟩) hK hG hS rfl hl.1 rfl (Nat.le_of_ble_eq_true rfl) dX5_leave_94 ⟨Nat.zero_le _, Nat.zero_le _⟩ (fun H locs hG hS => ?_)
    have e9 : rnote (su (su S 24 0 0 ((S 24 0 0) + 1)) 6 m 0 (0)) m 1 = rleave S m := by unfold rleave; first | rw [if_pos (by omega)] | rw [if_neg (by omega), if_pos (by omega)] | rw [if_neg (by omega), if_neg (by omega)]
    rw [e9] at hG
    exact W.vret hx hb hr (fun t ht hW => ⟨rfl, ⟨by rw [ht]; exact hG, va_K.moved hW.alike hK⟩, hS.F ht⟩) hS.2.2 dX5_leave_97
set_option maxHeartbeats 4000000 in
set_option maxRecDepth 100000 in
theorem m_X5_take (l : Launch) (D : va_G) (cI cJ : ClassId) (A : Nat → Prop) (ad : Nat → Nat → Nat) (S : Nat → Nat → Nat → Int) (m : Nat) (hI : Inv S) (hm : (m : Int) < S 5 0 0) (he : 0 ≤ S 30 0 0 ∧ S 30 0 0 < 2147483647) : Met l yX5_take wsX5_take ({ frames := 1, cells := 0, slots := 0, locals := 22 }) (va_Pc [.ref (ad 32 0), .int (zI (m : Int))] (gRU D cI cJ A ad S)) (gO none (gRU D cI cJ A ad (rtake S m)) A) 0 0 A := by
  refine Met.ofW (cc := cX5_take) (maxL := 4) (ret := none) (by decide) rfl ?_
  intro p e s m0 args below meth c s₁ B hml hv
  obtain ⟨rfl, hG, hK⟩ := hv
  have hx := B.exec
  have hb := B.bytes
  have hr := B.returns
  have hts := atoms_spec (ws := wsX5_take) B.pre
  have hown : s.vm.findClass RX5 = some m0.cls := findClass_of_methodNamed B.named
  have hlocks := B.notSynchronized
  have hin : ∀ w ∈ wsX50, w ∈ wsX5_take := by decide +kernel
  have hS : va_S A s.heap s.heap [] := va_S.rf
  have hl := lv_entry ([.ref (ad 32 0), .int (zI (m : Int))]) (n := 4) (Nat.le_of_ble_eq_true rfl)
  rw [lg_entry_eq]
  generalize (lg_sl ([.ref (ad 32 0), .int (zI (m : Int))]) ++ List.replicate (4 - (lg_sl ([.ref (ad 32 0), .int (zI (m : Int))])).length) Slot.unset).toArray = ls at hl ⊢
  replace hl : lv_has ls 4 [(0, .ref (ad 32 0)), (1, .int (zI (m : Int)))] := hl
  obtain ⟨hI5, hI25, hI20, hIM, hIL, hIR⟩ := id hI
  have hm12 : m < 12 := by omega
  obtain ⟨hM6, hM7, hM8, hM10, hM11, hM15, hM9, hMf⟩ := id (hIM m hm12)
  obtain ⟨hL0, hL1, hL2, hL3, hL4⟩ := id (hIL m hm)
  refine lv_aload_n hx hb dX5_take_0 rfl (lv_at hl 0 rfl) ?_
  refine r_getA hx hb hts hin hown hK hG 1 (by decide) (by decide) (hts (.fieldLink RX5 13 "LineEventsModel" "before" "[I") (by decide +kernel)) dX5_take_1 ?_
  refine lv_iload_n hx hb dX5_take_4 rfl (lv_at hl 1 rfl) ?_
  refine r_iald hx hb hK hG 1 (by decide) rfl m 0 (by simp only [show rW 1 = 1 from rfl]; omega) (by simp only [show rN 1 = 12 from rfl]; omega) (by simp only [show rW 1 = 1 from rfl]; omega) (w := S 1 m 0) (rfl) dX5_take_5 ?_
  refine lv_istore_n (lv' := [(2, .int (zI (S 1 m 0))), (0, .ref (ad 32 0)), (1, .int (zI (m : Int)))]) hx hb dX5_take_6 rfl hl (by decide) rfl (fun ls hl => ?_)
  refine lv_iload_n hx hb dX5_take_7 rfl (lv_at hl 0 rfl) ?_
  refine lv_iconst (v := zI (-1)) hx hb dX5_take_8 rfl ?_
  refine z_icmp_ne (tgt := 25) hx hb dX5_take_9 (by decide) ⟨by omega, by omega⟩ ⟨by decide, by decide⟩ (fun c_1 => ?_) (fun c_1 => ?_)
  · obtain ⟨b, hb9⟩ : ∃ b : Nat, S 1 m 0 = (b : Int) := ⟨(S 1 m 0).toNat, by omega⟩
    have hbn : (b : Int) < S 5 0 0 := by omega
    obtain ⟨hB6, hB7, hB8, hB10, hB11, hB15, hB9, hBf⟩ := id (hIM b (by omega))
    obtain ⟨hC0, hC1, hC2, hC3, hC4⟩ := id (hIL b hbn)
    have hq9 := hB9 (S 10 b 0).toNat (by omega)
    replace hl : lv_has ls 4 [(2, .int (zI (b : Int))), (0, .ref (ad 32 0)), (1, .int (zI (m : Int)))] := by rw [hb9] at hl; exact hl
    refine lv_aload_n hx hb dX5_take_25 rfl (lv_at hl 1 rfl) ?_
    refine r_getA hx hb hts hin hown hK hG 11 (by decide) (by decide) (hts (.fieldLink RX5 40 "LineEventsModel" "many" "[I") (by decide +kernel)) dX5_take_26 ?_
    refine lv_iload_n hx hb dX5_take_29 rfl (lv_at hl 0 rfl) ?_
    refine r_iald hx hb hK hG 11 (by decide) rfl b 0 (by simp only [show rW 11 = 1 from rfl]; omega) (by simp only [show rN 11 = 12 from rfl]; omega) (by simp only [show rW 11 = 1 from rfl]; omega) (w := S 11 b 0) (rfl) dX5_take_30 ?_
    refine z_if_ne (tgt := 41) hx hb dX5_take_31 (by decide) ⟨by omega, by omega⟩ (fun c_2 => ?_) (fun c_2 => ?_)
    · refine lv_aload_n hx hb dX5_take_41 rfl (lv_at hl 1 rfl) ?_
      refine r_getA hx hb hts hin hown hK hG 9 (by decide) (by decide) (hts (.fieldLink RX5 34 "LineEventsModel" "came" "[I") (by decide +kernel)) dX5_take_42 ?_
      refine lv_iload_n hx hb dX5_take_45 rfl (lv_at hl 0 rfl) ?_
      refine lv_sipush (v := zI 1000) hx hb dX5_take_46 (by decide) ?_
      refine z_imul hx hb dX5_take_49 ?_
      refine lv_aload_n hx hb dX5_take_50 rfl (lv_at hl 1 rfl) ?_
      refine r_getA hx hb hts hin hown hK hG 10 (by decide) (by decide) (hts (.fieldLink RX5 37 "LineEventsModel" "first" "[I") (by decide +kernel)) dX5_take_51 ?_
      refine lv_iload_n hx hb dX5_take_54 rfl (lv_at hl 0 rfl) ?_
      refine r_iald hx hb hK hG 10 (by decide) rfl b 0 (by simp only [show rW 10 = 1 from rfl]; omega) (by simp only [show rN 10 = 12 from rfl]; omega) (by simp only [show rW 10 = 1 from rfl]; omega) (w := S 10 b 0) (rfl) dX5_take_55 ?_
      refine z_iadd hx hb dX5_take_56 ?_
      refine r_iald hx hb hK hG 9 (by decide) rfl b (S 10 b 0).toNat (by simp only [show rW 9 = 1000 from rfl]; omega) (by simp only [show rN 9 = 12 from rfl]; omega) (by simp only [show rW 9 = 1000 from rfl]; omega) (w := S 9 b (S 10 b 0).toNat) (rfl) dX5_take_57 ?_
      refine lv_istore_n (lv' := [(3, .int (zI (S 9 b (S 10 b 0).toNat))), (2, .int (zI (b : Int))), (0, .ref (ad 32 0)), (1, .int (zI (m : Int)))]) hx hb dX5_take_58 rfl hl (by decide) rfl (fun ls hl => ?_)
      refine lv_iload_n hx hb dX5_take_59 rfl (lv_at hl 0 rfl) ?_
      refine lv_aload_n hx hb dX5_take_60 rfl (lv_at hl 2 rfl) ?_
      refine r_getI hx hb hts hin hown hK hG 25 (by decide) rfl (hts (.fieldLink RX5 94 "LineEventsModel" "now" "I") (by decide +kernel)) (z := S 25 0 0) (rfl) dX5_take_61 ?_
      refine z_icmp_ge (tgt := 82) hx hb dX5_take_64 (by decide) ⟨by omega, by omega⟩ ⟨by omega, by omega⟩ (fun c_3 => ?_) (fun c_3 => ?_)
      · have e9 : S = rtake S m := by unfold rtake; rw [if_neg (by omega), if_pos (by unfold rat; rw [hb9]; simp only [Int.toNat_natCast]; first | (rw [if_pos (by omega)]; omega) | (rw [if_neg (by omega)]; omega))]
        rw [e9] at hG
        exact W.vret hx hb hr (fun t ht hW => ⟨rfl, ⟨by rw [ht]; exact hG, va_K.moved hW.alike hK⟩, hS.F ht⟩) hS.2.2 dX5_take_82
      · refine lv_aload_n hx hb dX5_take_67 rfl (lv_at hl 2 rfl) ?_
        refine r_getI hx hb hts hin hown hK hG 25 (by decide) rfl (hts (.fieldLink RX5 94 "LineEventsModel" "now" "I") (by decide +kernel)) (z := S 25 0 0) (rfl) dX5_take_68 ?_
        refine lv_iload_n hx hb dX5_take_71 rfl (lv_at hl 0 rfl) ?_
        refine z_isub hx hb dX5_take_72 ?_
        refine lv_aload_n hx hb dX5_take_73 rfl (lv_at hl 2 rfl) ?_
        refine r_getA hx hb hts hin hown hK hG 4 (by decide) (by decide) (hts (.fieldLink RX5 22 "LineEventsModel" "delay" "[I") (by decide +kernel)) dX5_take_74 ?_
        refine lv_iload_n hx hb dX5_take_77 rfl (lv_at hl 1 rfl) ?_
        refine r_iald hx hb hK hG 4 (by decide) rfl b 0 (by simp only [show rW 4 = 1 from rfl]; omega) (by simp only [show rN 4 = 12 from rfl]; omega) (by simp only [show rW 4 = 1 from rfl]; omega) (w := S 4 b 0) (rfl) dX5_take_78 ?_
        refine z_icmp_ge (tgt := 83) hx hb dX5_take_79 (by decide) ⟨by omega, by omega⟩ ⟨by omega, by omega⟩ (fun c_4 => ?_) (fun c_4 => ?_)
        · refine lv_aload_n hx hb dX5_take_83 rfl (lv_at hl 2 rfl) ?_
          refine r_getA hx hb hts hin hown hK hG 10 (by decide) (by decide) (hts (.fieldLink RX5 37 "LineEventsModel" "first" "[I") (by decide +kernel)) dX5_take_84 ?_
          refine lv_iload_n hx hb dX5_take_87 rfl (lv_at hl 1 rfl) ?_
          refine lv_aload_n hx hb dX5_take_88 rfl (lv_at hl 2 rfl) ?_
          refine r_getA hx hb hts hin hown hK hG 10 (by decide) (by decide) (hts (.fieldLink RX5 37 "LineEventsModel" "first" "[I") (by decide +kernel)) dX5_take_89 ?_
          refine lv_iload_n hx hb dX5_take_92 rfl (lv_at hl 1 rfl) ?_
          refine r_iald hx hb hK hG 10 (by decide) rfl b 0 (by simp only [show rW 10 = 1 from rfl]; omega) (by simp only [show rN 10 = 12 from rfl]; omega) (by simp only [show rW 10 = 1 from rfl]; omega) (w := S 10 b 0) (rfl) dX5_take_93 ?_
          refine lv_iconst (v := zI 1) hx hb dX5_take_94 rfl ?_
          refine z_iadd hx hb dX5_take_95 ?_
          refine lv_sipush (v := zI 1000) hx hb dX5_take_96 (by decide) ?_
          refine z_irem hx hb dX5_take_99 ⟨by omega, by omega⟩ ⟨by omega, by omega⟩ ?_
          refine r_iast hx hb hK hG hS 10 (by decide) rfl b 0 (by simp only [show rW 10 = 1 from rfl]; omega) (by simp only [show rN 10 = 12 from rfl]; omega) (by simp only [show rW 10 = 1 from rfl]; omega) (w := ((S 10 b 0) + 1) % 1000) dX5_take_100 (fun H locs hG hS => ?_)
          refine lv_aload_n hx hb dX5_take_101 rfl (lv_at hl 2 rfl) ?_
          refine r_getA hx hb hts hin hown hK hG 11 (by decide) (by decide) (hts (.fieldLink RX5 40 "LineEventsModel" "many" "[I") (by decide +kernel)) dX5_take_102 ?_
          refine lv_iload_n hx hb dX5_take_105 rfl (lv_at hl 1 rfl) ?_
          refine lv_dup2_11 hx hb dX5_take_106 rfl rfl ?_
          refine r_iald hx hb hK hG 11 (by decide) rfl b 0 (by simp only [show rW 11 = 1 from rfl]; omega) (by simp only [show rN 11 = 12 from rfl]; omega) (by simp only [show rW 11 = 1 from rfl]; omega) (w := S 11 b 0) (by simp [su]) dX5_take_107 ?_
          refine lv_iconst (v := zI 1) hx hb dX5_take_108 rfl ?_
          refine z_isub hx hb dX5_take_109 ?_
          refine r_iast hx hb hK hG hS 11 (by decide) rfl b 0 (by simp only [show rW 11 = 1 from rfl]; omega) (by simp only [show rN 11 = 12 from rfl]; omega) (by simp only [show rW 11 = 1 from rfl]; omega) (w := (S 11 b 0) - 1) dX5_take_110 (fun H locs hG hS => ?_)
          refine lv_aload_n hx hb dX5_take_111 rfl (lv_at hl 2 rfl) ?_
          refine r_getA hx hb hts hin hown hK hG 6 (by decide) (by decide) (hts (.fieldLink RX5 25 "LineEventsModel" "bottle" "[I") (by decide +kernel)) dX5_take_112 ?_
          refine lv_iload_n hx hb dX5_take_115 rfl (lv_at hl 3 rfl) ?_
          refine lv_iconst (v := zI 1) hx hb dX5_take_116 rfl ?_
          refine r_iast hx hb hK hG hS 6 (by decide) rfl m 0 (by simp only [show rW 6 = 1 from rfl]; omega) (by simp only [show rN 6 = 12 from rfl]; omega) (by simp only [show rW 6 = 1 from rfl]; omega) (w := 1) dX5_take_117 (fun H locs hG hS => ?_)
          refine lv_aload_n hx hb dX5_take_118 rfl (lv_at hl 2 rfl) ?_
          refine r_getA hx hb hts hin hown hK hG 7 (by decide) (by decide) (hts (.fieldLink RX5 28 "LineEventsModel" "worked" "[I") (by decide +kernel)) dX5_take_119 ?_
          refine lv_iload_n hx hb dX5_take_122 rfl (lv_at hl 3 rfl) ?_
          refine lv_iconst (v := zI 0) hx hb dX5_take_123 rfl ?_
          refine r_iast hx hb hK hG hS 7 (by decide) rfl m 0 (by simp only [show rW 7 = 1 from rfl]; omega) (by simp only [show rN 7 = 12 from rfl]; omega) (by simp only [show rW 7 = 1 from rfl]; omega) (w := 0) dX5_take_124 (fun H locs hG hS => ?_)
          refine lv_aload_n hx hb dX5_take_125 rfl (lv_at hl 2 rfl) ?_
          refine lv_iload_n hx hb dX5_take_126 rfl (lv_at hl 3 rfl) ?_
          refine lv_iconst (v := zI 0) hx hb dX5_take_127 rfl ?_
          refine r_callV (As := [.int (zI (m : Int)), .int (zI 0)]) (rest := []) ⟨hx, hb, hml, hown, hts⟩ (m_X5_note l D cI cJ A ad (su (su (su (su S 10 b 0 (((S 10 b 0) + 1) % 1000)) 11 b 0 ((S 11 b 0) - 1)) 6 m 0 (1)) 7 m 0 (0)) m 0 (by simpa [su] using he)) (cwV 2 hts gX5_take_X5_note rfl rfl rfl (by decide +kernel) ⟨Nat.le_of_ble_eq_true rfl, Nat.le_of_ble_eq_true rfl⟩) hK hG hS rfl hl.1 rfl (Nat.le_of_ble_eq_true rfl) dX5_take_128 ⟨Nat.zero_le _, Nat.zero_le _⟩ (fun H locs hG hS => ?_)
          have e9 : rnote (su (su (su (su S 10 b 0 (((S 10 b 0) + 1) % 1000)) 11 b 0 ((S 11 b 0) - 1)) 6 m 0 (1)) 7 m 0 (0)) m 0 = rtake S m := by unfold rtake; rw [if_neg (by omega), if_neg (by unfold rat; rw [hb9]; simp only [Int.toNat_natCast]; first | (rw [if_pos (by omega)]; omega) | (rw [if_neg (by omega)]; omega)), hb9]; rfl
          rw [e9] at hG
          exact W.vret hx hb hr (fun t ht hW => ⟨rfl, ⟨by rw [ht]; exact hG, va_K.moved hW.alike hK⟩, hS.F ht⟩) hS.2.2 dX5_take_131
        · have e9 : S = rtake S m := by unfold rtake; rw [if_neg (by omega), if_pos (by unfold rat; rw [hb9]; simp only [Int.toNat_natCast]; first | (rw [if_pos (by omega)]; omega) | (rw [if_neg (by omega)]; omega))]
          rw [e9] at hG
          exact W.vret hx hb hr (fun t ht hW => ⟨rfl, ⟨by rw [ht]; exact hG, va_K.moved hW.alike hK⟩, hS.F ht⟩) hS.2.2 dX5_take_82
    · refine lv_aload_n hx hb dX5_take_34 rfl (lv_at hl 1 rfl) ?_
      refine r_getI hx hb hts hin hown hK hG 25 (by decide) rfl (hts (.fieldLink RX5 94 "LineEventsModel" "now" "I") (by decide +kernel)) (z := S 25 0 0) (rfl) dX5_take_35 ?_
      refine lv_goto (tgt := 58) hx hb dX5_take_38 (by decide) ?_
      refine lv_istore_n (lv' := [(3, .int (zI (S 25 0 0))), (2, .int (zI (b : Int))), (0, .ref (ad 32 0)), (1, .int (zI (m : Int)))]) hx hb dX5_take_58 rfl hl (by decide) rfl (fun ls hl => ?_)
      refine lv_iload_n hx hb dX5_take_59 rfl (lv_at hl 0 rfl) ?_
      refine lv_aload_n hx hb dX5_take_60 rfl (lv_at hl 2 rfl) ?_
      refine r_getI hx hb hts hin hown hK hG 25 (by decide) rfl (hts (.fieldLink RX5 94 "LineEventsModel" "now" "I") (by decide +kernel)) (z := S 25 0 0) (rfl) dX5_take_61 ?_
      refine z_icmp_ge (tgt := 82) hx hb dX5_take_64 (by decide) ⟨by omega, by omega⟩ ⟨by omega, by omega⟩ (fun c_5 => ?_) (fun c_5 => ?_)
      · have e9 : S = rtake S m := by unfold rtake; rw [if_neg (by omega), if_pos (by unfold rat; rw [hb9]; simp only [Int.toNat_natCast]; first | (rw [if_pos (by omega)]; omega) | (rw [if_neg (by omega)]; omega))]
        rw [e9] at hG
        exact W.vret hx hb hr (fun t ht hW => ⟨rfl, ⟨by rw [ht]; exact hG, va_K.moved hW.alike hK⟩, hS.F ht⟩) hS.2.2 dX5_take_82
      · refine lv_aload_n hx hb dX5_take_67 rfl (lv_at hl 2 rfl) ?_
        refine r_getI hx hb hts hin hown hK hG 25 (by decide) rfl (hts (.fieldLink RX5 94 "LineEventsModel" "now" "I") (by decide +kernel)) (z := S 25 0 0) (rfl) dX5_take_68 ?_
        refine lv_iload_n hx hb dX5_take_71 rfl (lv_at hl 0 rfl) ?_
        refine z_isub hx hb dX5_take_72 ?_
        refine lv_aload_n hx hb dX5_take_73 rfl (lv_at hl 2 rfl) ?_
        refine r_getA hx hb hts hin hown hK hG 4 (by decide) (by decide) (hts (.fieldLink RX5 22 "LineEventsModel" "delay" "[I") (by decide +kernel)) dX5_take_74 ?_
        refine lv_iload_n hx hb dX5_take_77 rfl (lv_at hl 1 rfl) ?_
        refine r_iald hx hb hK hG 4 (by decide) rfl b 0 (by simp only [show rW 4 = 1 from rfl]; omega) (by simp only [show rN 4 = 12 from rfl]; omega) (by simp only [show rW 4 = 1 from rfl]; omega) (w := S 4 b 0) (rfl) dX5_take_78 ?_
        refine z_icmp_ge (tgt := 83) hx hb dX5_take_79 (by decide) ⟨by omega, by omega⟩ ⟨by omega, by omega⟩ (fun c_6 => ?_) (fun c_6 => ?_)
        · refine lv_aload_n hx hb dX5_take_83 rfl (lv_at hl 2 rfl) ?_
          refine r_getA hx hb hts hin hown hK hG 10 (by decide) (by decide) (hts (.fieldLink RX5 37 "LineEventsModel" "first" "[I") (by decide +kernel)) dX5_take_84 ?_
          refine lv_iload_n hx hb dX5_take_87 rfl (lv_at hl 1 rfl) ?_
          refine lv_aload_n hx hb dX5_take_88 rfl (lv_at hl 2 rfl) ?_
          refine r_getA hx hb hts hin hown hK hG 10 (by decide) (by decide) (hts (.fieldLink RX5 37 "LineEventsModel" "first" "[I") (by decide +kernel)) dX5_take_89 ?_
          refine lv_iload_n hx hb dX5_take_92 rfl (lv_at hl 1 rfl) ?_
          refine r_iald hx hb hK hG 10 (by decide) rfl b 0 (by simp only [show rW 10 = 1 from rfl]; omega) (by simp only [show rN 10 = 12 from rfl]; omega) (by simp only [show rW 10 = 1 from rfl]; omega) (w := S 10 b 0) (rfl) dX5_take_93 ?_
          refine lv_iconst (v := zI 1) hx hb dX5_take_94 rfl ?_
          refine z_iadd hx hb dX5_take_95 ?_
          refine lv_sipush (v := zI 1000) hx hb dX5_take_96 (by decide) ?_
          refine z_irem hx hb dX5_take_99 ⟨by omega, by omega⟩ ⟨by omega, by omega⟩ ?_
          refine r_iast hx hb hK hG hS 10 (by decide) rfl b 0 (by simp only [show rW 10 = 1 from rfl]; omega) (by simp only [show rN 10 = 12 from rfl]; omega) (by simp only [show rW 10 = 1 from rfl]; omega) (w := ((S 10 b 0) + 1) % 1000) dX5_take_100 (fun H locs hG hS => ?_)
          refine lv_aload_n hx hb dX5_take_101 rfl (lv_at hl 2 rfl) ?_
          refine r_getA hx hb hts hin hown hK hG 11 (by decide) (by decide) (hts (.fieldLink RX5 40 "LineEventsModel" "many" "[I") (by decide +kernel)) dX5_take_102 ?_
          refine lv_iload_n hx hb dX5_take_105 rfl (lv_at hl 1 rfl) ?_
          refine lv_dup2_11 hx hb dX5_take_106 rfl rfl ?_
          refine r_iald hx hb hK hG 11 (by decide) rfl b 0 (by simp only [show rW 11 = 1 from rfl]; omega) (by simp only [show rN 11 = 12 from rfl]; omega) (by simp only [show rW 11 = 1 from rfl]; omega) (w := S 11 b 0) (by simp [su]) dX5_take_107 ?_
          refine lv_iconst (v := zI 1) hx hb dX5_take_108 rfl ?_
          refine z_isub hx hb dX5_take_109 ?_
          refine r_iast hx hb hK hG hS 11 (by decide) rfl b 0 (by simp only [show rW 11 = 1 from rfl]; omega) (by simp only [show rN 11 = 12 from rfl]; omega) (by simp only [show rW 11 = 1 from rfl]; omega) (w := (S 11 b 0) - 1) dX5_take_110 (fun H locs hG hS => ?_)
          refine lv_aload_n hx hb dX5_take_111 rfl (lv_at hl 2 rfl) ?_
          refine r_getA hx hb hts hin hown hK hG 6 (by decide) (by decide) (hts (.fieldLink RX5 25 "LineEventsModel" "bottle" "[I") (by decide +kernel)) dX5_take_112 ?_
          refine lv_iload_n hx hb dX5_take_115 rfl (lv_at hl 3 rfl) ?_
          refine lv_iconst (v := zI 1) hx hb dX5_take_116 rfl ?_
          refine r_iast hx hb hK hG hS 6 (by decide) rfl m 0 (by simp only [show rW 6 = 1 from rfl]; omega) (by simp only [show rN 6 = 12 from rfl]; omega) (by simp only [show rW 6 = 1 from rfl]; omega) (w := 1) dX5_take_117 (fun H locs hG hS => ?_)
          refine lv_aload_n hx hb dX5_take_118 rfl (lv_at hl 2 rfl) ?_
          refine r_getA hx hb hts hin hown hK hG 7 (by decide) (by decide) (hts (.fieldLink RX5 28 "LineEventsModel" "worked" "[I") (by decide +kernel)) dX5_take_119 ?_
          refine lv_iload_n hx hb dX5_take_122 rfl (lv_at hl 3 rfl) ?_
          refine lv_iconst (v := zI 0) hx hb dX5_take_123 rfl ?_
          refine r_iast hx hb hK hG hS 7 (by decide) rfl m 0 (by simp only [show rW 7 = 1 from rfl]; omega) (by simp only [show rN 7 = 12 from rfl]; omega) (by simp only [show rW 7 = 1 from rfl]; omega) (w := 0) dX5_take_124 (fun H locs hG hS => ?_)
          refine lv_aload_n hx hb dX5_take_125 rfl (lv_at hl 2 rfl) ?_
          refine lv_iload_n hx hb dX5_take_126 rfl (lv_at hl 3 rfl) ?_
          refine lv_iconst (v := zI 0) hx hb dX5_take_127 rfl ?_
          refine r_callV (As := [.int (zI (m : Int)), .int (zI 0)]) (rest := []) ⟨hx, hb, hml, hown, hts⟩ (m_X5_note l D cI cJ A ad (su (su (su (su S 10 b 0 (((S 10 b 0) + 1) % 1000)) 11 b 0 ((S 11 b 0) - 1)) 6 m 0 (1)) 7 m 0 (0)) m 0 (by simpa [su] using he)) (cwV 2 hts gX5_take_X5_note rfl rfl rfl (by decide +kernel) ⟨Nat.le_of_ble_eq_true rfl, Nat.le_of_ble_eq_true rfl⟩) hK hG hS rfl hl.1 rfl (Nat.le_of_ble_eq_true rfl) dX5_take_128 ⟨Nat.zero_le _, Nat.zero_le _⟩ (fun H locs hG hS => ?_)
          have e9 : rnote (su (su (su (su S 10 b 0 (((S 10 b 0) + 1) % 1000)) 11 b 0 ((S 11 b 0) - 1)) 6 m 0 (1)) 7 m 0 (0)) m 0 = rtake S m := by unfold rtake; rw [if_neg (by omega), if_neg (by unfold rat; rw [hb9]; simp only [Int.toNat_natCast]; first | (rw [if_pos (by omega)]; omega) | (rw [if_neg (by omega)]; omega)), hb9]; rfl
          rw [e9] at hG
          exact W.vret hx hb hr (fun t ht hW => ⟨rfl, ⟨by rw [ht]; exact hG, va_K.moved hW.alike hK⟩, hS.F ht⟩) hS.2.2 dX5_take_131
        · have e9 : S = rtake S m := by unfold rtake; rw [if_neg (by omega), if_pos (by unfold rat; rw [hb9]; simp only [Int.toNat_natCast]; first | (rw [if_pos (by omega)]; omega) | (rw [if_neg (by omega)]; omega))]
          rw [e9] at hG
          exact W.vret hx hb hr (fun t ht hW => ⟨rfl, ⟨by rw [ht]; exact hG, va_K.moved hW.alike hK⟩, hS.F ht⟩) hS.2.2 dX5_take_82
  · refine lv_aload_n hx hb dX5_take_12 rfl (lv_at hl 1 rfl) ?_
    refine lv_dup hx hb dX5_take_13 rfl ?_
    refine r_getJ hx hb hts hin hown hK hG 23 (by decide) rfl (hts (.fieldLink RX5 132 "LineEventsModel" "begun" "J") (by decide +kernel)) (z := S 23 0 0) (rfl) dX5_take_14 ?_
    refine lv_lconst (v := zL 1) hx hb dX5_take_17 (by decide) ?_
    refine z_ladd hx hb dX5_take_18 ?_
    refine r_putJ hx hb hts hin hown hK hG hS 23 (by decide) rfl (hts (.fieldLink RX5 132 "LineEventsModel" "begun" "J") (by decide +kernel)) rfl rfl (z := (S 23 0 0) + 1) dX5_take_19 (fun H locs hG hS => ?_)
    refine lv_goto (tgt := 111) hx hb dX5_take_22 (by decide) ?_
    refine lv_aload_n hx hb dX5_take_111 rfl (lv_at hl 1 rfl) ?_
    refine r_getA hx hb hts hin hown hK hG 6 (by decide) (by decide) (hts (.fieldLink RX5 25 "LineEventsModel" "bottle" "[I") (by decide +kernel)) dX5_take_112 ?_
    refine lv_iload_n hx hb dX5_take_115 rfl (lv_at hl 2 rfl) ?_
    refine lv_iconst (v := zI 1) hx hb dX5_take_116 rfl ?_
    refine r_iast hx hb hK hG hS 6 (by decide) rfl m 0 (by simp only [show rW 6 = 1 from rfl]; omega) (by simp only [show rN 6 = 12 from rfl]; omega) (by simp only [show rW 6 = 1 from rfl]; omega) (w := 1) dX5_take_117 (fun H locs hG hS => ?_)
    refine lv_aload_n hx hb dX5_take_118 rfl (lv_at hl 1 rfl) ?_
    refine r_getA hx hb hts hin hown hK hG 7 (by decide) (by decide) (hts (.fieldLink RX5 28 "LineEventsModel" "worked" "[I") (by decide +kernel)) dX5_take_119 ?_
    refine lv_iload_n hx hb dX5_take_122 rfl (lv_at hl 2 rfl) ?_
    refine lv_iconst (v := zI 0) hx hb dX5_take_123 rfl ?_
    refine r_iast hx hb hK hG hS 7 (by decide) rfl m 0 (by simp only [show rW 7 = 1 from rfl]; omega) (by simp only [show rN 7 = 12 from rfl]; omega) (by simp only [show rW 7 = 1 from rfl]; omega) (w := 0) dX5_take_124 (fun H locs hG hS => ?_)
    refine lv_aload_n hx hb dX5_take_125 rfl (lv_at hl 1 rfl) ?_
    refine lv_iload_n hx hb dX5_take_126 rfl (lv_at hl 2 rfl) ?_
    refine lv_iconst (v := zI 0) hx hb dX5_take_127 rfl ?_
    refine r_callV (As := [.int (zI (m : Int)), .int (zI 0)]) (rest := []) ⟨hx, hb, hml, hown, hts⟩ (m_X5_note l D cI cJ A ad (su (su (su S 23 0 0 ((S 23 0 0) + 1)) 6 m 0 (1)) 7 m 0 (0)) m 0 (by simpa [su] using he)) (cwV 2 hts gX5_take_X5_note rfl rfl rfl (by decide +kernel) ⟨Nat.le_of_ble_eq_true rfl, Nat.le_of_ble_eq_true rfl⟩) hK hG hS rfl hl.1 rfl (Nat.le_of_ble_eq_true rfl) dX5_take_128 ⟨Nat.zero_le _, Nat.zero_le _⟩ (fun H locs hG hS => ?_)
    have e9 : rnote (su (su (su S 23 0 0 ((S 23 0 0) + 1)) 6 m 0 (1)) 7 m 0 (0)) m 0 = rtake S m := by unfold rtake; rw [if_pos (by omega)]
    rw [e9] at hG
    exact W.vret hx hb hr (fun t ht hW => ⟨rfl, ⟨by rw [ht]; exact hG, va_K.moved hW.alike hK⟩, hS.F ht⟩) hS.2.2 dX5_take_131
end
section
set_option maxHeartbeats 4000000 in
set_option maxRecDepth 100000 in
theorem m_X5_judge (l : Launch) (D : va_G) (cI cJ : ClassId) (A : Nat → Prop) (ad : Nat → Nat → Nat) (S : Nat → Nat → Nat → Int) (m : Nat) (hI : Inv S) (hm : (m : Int) < S 5 0 0) (he : 0 ≤ S 30 0 0 ∧ S 30 0 0 < 2147483647) : Met l yX5_judge wsX5_judge ({ frames := 1, cells := 0, slots := 0, locals := 22 }) (va_Pc [.ref (ad 32 0), .int (zI (m : Int))] (gRU D cI cJ A ad S)) (gO (some (.int (zI (bZ ((rjudge S m).2 = true))))) (gRU D cI cJ A ad ((rjudge S m).1)) A) 0 0 A := by
  refine Met.ofW (cc := cX5_judge) (maxL := 6) (ret := (some .boolean)) (by decide) rfl ?_
  intro p e s m0 args below meth c s₁ B hml hv
  obtain ⟨rfl, hG, hK⟩ := hv
  have hx := B.exec
  have hb := B.bytes
  have hr := B.returns
  have hts := atoms_spec (ws := wsX5_judge) B.pre
  have hown : s.vm.findClass RX5 = some m0.cls := findClass_of_methodNamed B.named
  have hlocks := B.notSynchronized
  have hin : ∀ w ∈ wsX50, w ∈ wsX5_judge := by decide +kernel
  have hS : va_S A s.heap s.heap [] := va_S.rf
  have hl := lv_entry ([.ref (ad 32 0), .int (zI (m : Int))]) (n := 6) (Nat.le_of_ble_eq_true rfl)
  rw [lg_entry_eq]
  generalize (lg_sl ([.ref (ad 32 0), .int (zI (m : Int))]) ++ List.replicate (6 - (lg_sl ([.ref (ad 32 0), .int (zI (m : Int))])).length) Slot.unset).toArray = ls at hl ⊢
  replace hl : lv_has ls 6 [(0, .ref (ad 32 0)), (1, .int (zI (m : Int)))] := hl
  obtain ⟨hI5, hI25, hI20, hIM, hIL, hIR⟩ := id hI
  have hm12 : m < 12 := by omega
  obtain ⟨hM6, hM7, hM8, hM10, hM11, hM15, hM9, hMf⟩ := id (hIM m hm12)
  obtain ⟨hL0, hL1, hL2, hL3, hL4⟩ := id (hIL m hm)
  refine lv_aload_n hx hb dX5_judge_0 rfl (lv_at hl 0 rfl) ?_
  refine r_getA hx hb hts hin hown hK hG 6 (by decide) (by decide) (hts (.fieldLink RX5 25 "LineEventsModel" "bottle" "[I") (by decide +kernel)) dX5_judge_1 ?_
  refine lv_iload_n hx hb dX5_judge_4 rfl (lv_at hl 1 rfl) ?_
  refine lv_iconst (v := zI 2) hx hb dX5_judge_5 rfl ?_
  refine r_iast hx hb hK hG hS 6 (by decide) rfl m 0 (by simp only [show rW 6 = 1 from rfl]; omega) (by simp only [show rN 6 = 12 from rfl]; omega) (by simp only [show rW 6 = 1 from rfl]; omega) (w := 2) dX5_judge_6 (fun H locs hG hS => ?_)
  refine lv_iconst (v := zI 0) hx hb dX5_judge_7 rfl ?_
  refine lv_istore_n (lv' := [(2, .int (zI 0)), (0, .ref (ad 32 0)), (1, .int (zI (m : Int)))]) hx hb dX5_judge_8 rfl hl (by decide) rfl (fun ls hl => ?_)
  refine lv_iconst (v := zI 0) hx hb dX5_judge_9 rfl ?_
  refine lv_istore_n (lv' := [(3, .int (zI 0)), (2, .int (zI 0)), (0, .ref (ad 32 0)), (1, .int (zI (m : Int)))]) hx hb dX5_judge_10 rfl hl (by decide) rfl (fun ls hl => ?_)
  generalize hT0 : su S 6 m 0 2 = T at hG
  have hTI : Inv T := by rw [← hT0]; exact Inv_6 hI (by omega)
  have hTm : (m : Int) < T 5 0 0 := by rw [← hT0]; exact hm
  have hTe : 0 ≤ T 30 0 0 ∧ T 30 0 0 < 2147483647 := by rw [← hT0]; exact he
  obtain ⟨J0, hJ0⟩ : ∃ J, J = rjl m (S 15 m 0).toNat 0 (su S 6 m 0 2) 0 := ⟨_, rfl⟩
  have hfin : rjudge S m = rjfin m J0 := by rw [hJ0]; rfl
  rw [hfin]
  obtain ⟨k, hk0⟩ : ∃ k : Nat, k = 0 := ⟨0, rfl⟩
  obtain ⟨lg, hlg0⟩ : ∃ z : Int, z = 0 := ⟨0, rfl⟩
  have hlg : 0 ≤ lg ∧ lg ≤ 100000 := by omega
  replace hl : lv_has ls 6 [(3, .int (zI (k : Int))), (2, .int (zI lg)), (0, .ref (ad 32 0)), (1, .int (zI (m : Int)))] := by subst hk0; subst hlg0; exact hl
  obtain ⟨n, hn⟩ : ∃ n : Nat, (k : Int) + n = T 15 m 0 := ⟨(S 15 m 0).toNat, by rw [← hT0, show su S 6 m 0 2 15 m 0 = S 15 m 0 from rfl]; omega⟩
  have hv9 : rjl m n k T lg = J0 := by
    have e1 : n = (S 15 m 0).toNat := by rw [← hT0, show su S 6 m 0 2 15 m 0 = S 15 m 0 from rfl] at hn; omega
    rw [hJ0, ← hT0, e1, hk0, hlg0]
  clear hk0 hlg0 hT0 hJ0 hfin
  clear hI hM6 hM7 hM8 hM10 hM11 hM15 hM9 hMf hL0 hL1 hL2 hL3 hL4 hIM hIL hIR hI5 hI25 hI20
  induction n generalizing k ls T lg H locs with
  | zero =>
    obtain ⟨hI5, hI25, hI20, hIM, hIL, hIR⟩ := id hTI
    obtain ⟨hM6, hM7, hM8, hM10, hM11, hM15, hM9, hMf⟩ := id (hIM m hm12)
    refine lv_iload_n hx hb dX5_judge_11 rfl (lv_at hl 0 rfl) ?_
    refine lv_aload_n hx hb dX5_judge_12 rfl (lv_at hl 2 rfl) ?_
    refine r_getA hx hb hts hin hown hK hG 15 (by decide) (by decide) (hts (.fieldLink RX5 53 "LineEventsModel" "faults" "[I") (by decide +kernel)) dX5_judge_13 ?_
    refine lv_iload_n hx hb dX5_judge_16 rfl (lv_at hl 3 rfl) ?_
    refine r_iald hx hb hK hG 15 (by decide) rfl m 0 (by simp only [show rW 15 = 1 from rfl]; omega) (by simp only [show rN 15 = 12 from rfl]; omega) (by simp only [show rW 15 = 1 from rfl]; omega) (w := T 15 m 0) (rfl) dX5_judge_17 ?_
    refine z_icmp_ge (tgt := 131) hx hb dX5_judge_18 (by decide) ⟨by omega, by omega⟩ ⟨by omega, by omega⟩ (fun c_1 => ?_) (fun c_1 => ?_)
    · refine lv_iload_n hx hb dX5_judge_131 rfl (lv_at hl 1 rfl) ?_
      refine z_if_le (tgt := 153) hx hb dX5_judge_132 (by decide) ⟨by omega, by omega⟩ (fun c_2 => ?_) (fun c_2 => ?_)
      · refine lv_iload_n hx hb dX5_judge_153 rfl (lv_at hl 1 rfl) ?_
        refine z_if_le (tgt := 161) hx hb dX5_judge_154 (by decide) ⟨by omega, by omega⟩ (fun c_3 => ?_) (fun c_3 => ?_)
        · refine lv_iconst (v := zI 0) hx hb dX5_judge_161 rfl ?_
          have e9 : T = (rjfin m J0).1 := by rw [← hv9, rjl]; unfold rjfin; rw [if_neg Bool.false_ne_true, if_neg (show ¬ 0 < lg by omega)]
          rw [e9] at hG
          have v9 : 0 = bZ ((rjfin m J0).2 = true) := by first | exact (bZ_f (by rw [← hv9, rjl]; unfold rjfin; rw [if_neg Bool.false_ne_true, if_neg (show ¬ 0 < lg by omega)]; exact Bool.false_ne_true)).symm | (exfalso; omega)
          refine W.eq (congrArg (fun z => F0 m0 162 ls [.int (zI z)]) v9) ?_
          exact W.zret hx hb hr (zI_bool _) (fun t ht hW => ⟨rfl, ⟨by rw [ht]; exact hG, va_K.moved hW.alike hK⟩, hS.F ht⟩) hS.2.2 dX5_judge_162
        · refine lv_iconst (v := zI 1) hx hb dX5_judge_157 rfl ?_
          refine lv_goto (tgt := 162) hx hb dX5_judge_158 (by decide) ?_
          have e9 : T = (rjfin m J0).1 := by rw [← hv9, rjl]; unfold rjfin; rw [if_neg Bool.false_ne_true, if_neg (show ¬ 0 < lg by omega)]
          rw [e9] at hG
          have v9 : 1 = bZ ((rjfin m J0).2 = true) := by first | exact (bZ_f (by rw [← hv9, rjl]; unfold rjfin; rw [if_neg Bool.false_ne_true, if_neg (show ¬ 0 < lg by omega)]; exact Bool.false_ne_true)).symm | (exfalso; omega)
          refine W.eq (congrArg (fun z => F0 m0 162 ls [.int (zI z)]) v9) ?_
          exact W.zret hx hb hr (zI_bool _) (fun t ht hW => ⟨rfl, ⟨by rw [ht]; exact hG, va_K.moved hW.alike hK⟩, hS.F ht⟩) hS.2.2 dX5_judge_162
      · refine lv_aload_n hx hb dX5_judge_135 rfl (lv_at hl 2 rfl) ?_
        refine r_getA hx hb hts hin hown hK hG 8 (by decide) (by decide) (hts (.fieldLink RX5 31 "LineEventsModel" "faultEnd" "[I") (by decide +kernel)) dX5_judge_136 ?_
        refine lv_iload_n hx hb dX5_judge_139 rfl (lv_at hl 3 rfl) ?_
        refine lv_aload_n hx hb dX5_judge_140 rfl (lv_at hl 2 rfl) ?_
        refine r_getI hx hb hts hin hown hK hG 25 (by decide) rfl (hts (.fieldLink RX5 94 "LineEventsModel" "now" "I") (by decide +kernel)) (z := T 25 0 0) (rfl) dX5_judge_141 ?_
        refine lv_iload_n hx hb dX5_judge_144 rfl (lv_at hl 1 rfl) ?_
        refine z_iadd hx hb dX5_judge_145 ?_
        refine r_iast hx hb hK hG hS 8 (by decide) rfl m 0 (by simp only [show rW 8 = 1 from rfl]; omega) (by simp only [show rN 8 = 12 from rfl]; omega) (by simp only [show rW 8 = 1 from rfl]; omega) (w := (T 25 0 0) + lg) dX5_judge_146 (fun H locs hG hS => ?_)
        refine lv_aload_n hx hb dX5_judge_147 rfl (lv_at hl 2 rfl) ?_
        refine lv_iload_n hx hb dX5_judge_148 rfl (lv_at hl 3 rfl) ?_
        refine lv_iconst (v := zI 3) hx hb dX5_judge_149 rfl ?_
        refine r_callV (As := [.int (zI (m : Int)), .int (zI 3)]) (rest := []) ⟨hx, hb, hml, hown, hts⟩ (m_X5_note l D cI cJ A ad (su T 8 m 0 ((T 25 0 0) + lg)) m 3 (by simpa [su] using hTe)) (cwV 2 hts gX5_judge_X5_note rfl rfl rfl (by decide +kernel) ⟨Nat.le_of_ble_eq_true rfl, Nat.le_of_ble_eq_true rfl⟩) hK hG hS rfl hl.1 rfl (Nat.le_of_ble_eq_true rfl) dX5_judge_150 ⟨Nat.zero_le _, Nat.zero_le _⟩ (fun H locs hG hS => ?_)
        refine lv_iload_n hx hb dX5_judge_153 rfl (lv_at hl 1 rfl) ?_
        refine z_if_le (tgt := 161) hx hb dX5_judge_154 (by decide) ⟨by omega, by omega⟩ (fun c_4 => ?_) (fun c_4 => ?_)
        · refine lv_iconst (v := zI 0) hx hb dX5_judge_161 rfl ?_
          have e9 : rnote (su T 8 m 0 ((T 25 0 0) + lg)) m 3 = (rjfin m J0).1 := by rw [← hv9, rjl]; unfold rjfin; rw [if_neg Bool.false_ne_true, if_pos (show 0 < lg by omega)]
          rw [e9] at hG
          have v9 : 0 = bZ ((rjfin m J0).2 = true) := by first | exact (bZ_t (by rw [← hv9, rjl]; unfold rjfin; rw [if_neg Bool.false_ne_true, if_pos (show 0 < lg by omega)])).symm | (exfalso; omega)
          refine W.eq (congrArg (fun z => F0 m0 162 ls [.int (zI z)]) v9) ?_
          exact W.zret hx hb hr (zI_bool _) (fun t ht hW => ⟨rfl, ⟨by rw [ht]; exact hG, va_K.moved hW.alike hK⟩, hS.F ht⟩) hS.2.2 dX5_judge_162
        · refine lv_iconst (v := zI 1) hx hb dX5_judge_157 rfl ?_
          refine lv_goto (tgt := 162) hx hb dX5_judge_158 (by decide) ?_
          have e9 : rnote (su T 8 m 0 ((T 25 0 0) + lg)) m 3 = (rjfin m J0).1 := by rw [← hv9, rjl]; unfold rjfin; rw [if_neg Bool.false_ne_true, if_pos (show 0 < lg by omega)]
          rw [e9] at hG
          have v9 : 1 = bZ ((rjfin m J0).2 = true) := by first | exact (bZ_t (by rw [← hv9, rjl]; unfold rjfin; rw [if_neg Bool.false_ne_true, if_pos (show 0 < lg by omega)])).symm | (exfalso; omega)
          refine W.eq (congrArg (fun z => F0 m0 162 ls [.int (zI z)]) v9) ?_
          exact W.zret hx hb hr (zI_bool _) (fun t ht hW => ⟨rfl, ⟨by rw [ht]; exact hG, va_K.moved hW.alike hK⟩, hS.F ht⟩) hS.2.2 dX5_judge_162
    · exfalso; omega
  | succ n ih =>
    obtain ⟨hI5, hI25, hI20, hIM, hIL, hIR⟩ := id hTI
    obtain ⟨hM6, hM7, hM8, hM10, hM11, hM15, hM9, hMf⟩ := id (hIM m hm12)
    refine lv_iload_n hx hb dX5_judge_11 rfl (lv_at hl 0 rfl) ?_
    refine lv_aload_n hx hb dX5_judge_12 rfl (lv_at hl 2 rfl) ?_
    refine r_getA hx hb hts hin hown hK hG 15 (by decide) (by decide) (hts (.fieldLink RX5 53 "LineEventsModel" "faults" "[I") (by decide +kernel)) dX5_judge_13 ?_
    refine lv_iload_n hx hb dX5_judge_16 rfl (lv_at hl 3 rfl) ?_
    refine r_iald hx hb hK hG 15 (by decide) rfl m 0 (by simp only [show rW 15 = 1 from rfl]; omega) (by simp only [show rN 15 = 12 from rfl]; omega) (by simp only [show rW 15 = 1 from rfl]; omega) (w := T 15 m 0) (rfl) dX5_judge_17 ?_
    refine z_icmp_ge (tgt := 131) hx hb dX5_judge_18 (by decide) ⟨by omega, by omega⟩ ⟨by omega, by omega⟩ (fun c_5 => ?_) (fun c_5 => ?_)
    · exfalso; omega
    · obtain ⟨hf12, hf13, hf14, hf1⟩ := hMf k (by omega)
      refine lv_iload_n hx hb dX5_judge_21 rfl (lv_at hl 3 rfl) ?_
      refine lv_iconst (v := zI 4) hx hb dX5_judge_22 rfl ?_
      refine z_imul hx hb dX5_judge_23 ?_
      refine lv_iload_n hx hb dX5_judge_24 rfl (lv_at hl 0 rfl) ?_
      refine z_iadd hx hb dX5_judge_25 ?_
      refine lv_istore (lv' := [(4, .int (zI (((m : Int) * 4) + (k : Int)))), (3, .int (zI (k : Int))), (2, .int (zI lg)), (0, .ref (ad 32 0)), (1, .int (zI (m : Int)))]) hx hb dX5_judge_26 hl (by decide) rfl (fun ls hl => ?_)
      refine lv_aload_n hx hb dX5_judge_28 rfl (lv_at hl 3 rfl) ?_
      refine lv_aload_n hx hb dX5_judge_29 rfl (lv_at hl 3 rfl) ?_
      refine r_getA hx hb hts hin hown hK hG 13 (by decide) (by decide) (hts (.fieldLink RX5 47 "LineEventsModel" "faultBelow" "[J") (by decide +kernel)) dX5_judge_30 ?_
      refine lv_iload hx hb dX5_judge_33 (lv_at hl 0 rfl) ?_
      refine r_lald hx hb hK hG 13 (by decide) rfl m k (by simp only [show rW 13 = 4 from rfl]; omega) (by simp only [show rN 13 = 12 from rfl]; omega) (by simp only [show rW 13 = 4 from rfl]; omega) (w := T 13 m k) (rfl) dX5_judge_35 ?_
      refine r_callV (As := [.long (zL (T 13 m k))]) (rest := []) ⟨hx, hb, hml, hown, hts⟩ (m_X5_draw l D cI cJ A ad T (T 13 m k) ⟨by omega, by omega⟩) (cwV 1 hts gX5_judge_X5_draw rfl rfl rfl (by decide +kernel) ⟨Nat.le_of_ble_eq_true rfl, Nat.le_of_ble_eq_true rfl⟩) hK hG hS rfl hl.1 rfl (Nat.le_of_ble_eq_true rfl) dX5_judge_36 ⟨Nat.zero_le _, Nat.zero_le _⟩ (fun H locs hG hS => ?_)
      replace hG : gR D cI cJ A ad (su T 26 0 0 (T 26 0 0 * 6364136223846793005 + 1442695040888963407)) H := hG
      have hd9 := rdv_B T (b := T 13 m k) (by omega)
      refine lv_aload_n hx hb dX5_judge_39 rfl (lv_at hl 3 rfl) ?_
      refine r_getA hx hb hts hin hown hK hG 12 (by decide) (by decide) (hts (.fieldLink RX5 43 "LineEventsModel" "faultAbove" "[J") (by decide +kernel)) dX5_judge_40 ?_
      refine lv_iload hx hb dX5_judge_43 (lv_at hl 0 rfl) ?_
      refine r_lald hx hb hK hG 12 (by decide) rfl m k (by simp only [show rW 12 = 4 from rfl]; omega) (by simp only [show rN 12 = 12 from rfl]; omega) (by simp only [show rW 12 = 4 from rfl]; omega) (w := T 12 m k) (by simp [su]) dX5_judge_45 ?_
      refine W.lcmp hx hb dX5_judge_46 ?_
      refine z_lif_ge (tgt := 54) hx hb dX5_judge_47 (by decide) ⟨by omega, by omega⟩ ⟨by omega, by omega⟩ (fun c_6 => ?_) (fun c_6 => ?_)
      · refine lv_iconst (v := zI 0) hx hb dX5_judge_54 rfl ?_
        refine lv_istore (lv' := [(5, .int (zI 0)), (4, .int (zI (((m : Int) * 4) + (k : Int)))), (3, .int (zI (k : Int))), (2, .int (zI lg)), (0, .ref (ad 32 0)), (1, .int (zI (m : Int)))]) hx hb dX5_judge_55 hl (by decide) rfl (fun ls hl => ?_)
        refine lv_iload hx hb dX5_judge_57 (lv_at hl 0 rfl) ?_
        refine z_if_eq (tgt := 97) hx hb dX5_judge_59 (by decide) ⟨by decide, by decide⟩ (fun _ => ?_) (fun q => absurd q (by decide))
        refine lv_iload hx hb dX5_judge_97 (lv_at hl 0 rfl) ?_
        refine z_if_eq (tgt := 123) hx hb dX5_judge_99 (by decide) ⟨by decide, by decide⟩ (fun _ => ?_) (fun q => absurd q (by decide))
        refine lv_iload_n hx hb dX5_judge_123 rfl (lv_at hl 3 rfl) ?_
        refine lv_istore_n (lv' := [(2, .int (zI lg)), (5, .int (zI 0)), (4, .int (zI (((m : Int) * 4) + (k : Int)))), (3, .int (zI (k : Int))), (0, .ref (ad 32 0)), (1, .int (zI (m : Int)))]) hx hb dX5_judge_124 rfl hl (by decide) rfl (fun ls hl => ?_)
        refine lv_iinc (v := zI ((k : Int) + 1)) (lv' := [(3, .int (zI ((k : Int) + 1))), (2, .int (zI lg)), (5, .int (zI 0)), (4, .int (zI (((m : Int) * 4) + (k : Int)))), (0, .ref (ad 32 0)), (1, .int (zI (m : Int)))]) hx hb dX5_judge_125 hl (k := 3) rfl (by rw [show Int32.ofInt 1 = zI 1 from rfl, zI_add]) (by decide) rfl (fun ls hl => ?_)
        refine lv_goto (tgt := 11) hx hb dX5_judge_128 (by decide) ?_
        exact ih (k := k + 1) (ls := ls) (T := rdraw T) (lg := lg) (H := H) (locs := locs) (hG := hG) (hS := hS) (hTI := hTI) (hTm := hTm) (hTe := hTe) (hlg := by omega) (hl := lv_sub hl [0, 1, 4, 5] rfl) (hn := by rw [show rdraw T 15 m 0 = T 15 m 0 from rfl]; omega) (hv9 := by rw [← hv9, rjl]; first | rw [if_neg (by omega)] | rw [if_pos (by omega), if_neg (by omega), if_pos (by omega)] | rw [if_pos (by omega), if_neg (by omega), if_neg (by omega)])
      · refine lv_iconst (v := zI 1) hx hb dX5_judge_50 rfl ?_
        refine lv_goto (tgt := 55) hx hb dX5_judge_51 (by decide) ?_
        refine lv_istore (lv' := [(5, .int (zI 1)), (4, .int (zI (((m : Int) * 4) + (k : Int)))), (3, .int (zI (k : Int))), (2, .int (zI lg)), (0, .ref (ad 32 0)), (1, .int (zI (m : Int)))]) hx hb dX5_judge_55 hl (by decide) rfl (fun ls hl => ?_)
        refine lv_iload hx hb dX5_judge_57 (lv_at hl 0 rfl) ?_
        refine z_if_eq (tgt := 97) hx hb dX5_judge_59 (by decide) ⟨by decide, by decide⟩ (fun q => absurd q (by decide)) (fun _ => ?_)
        refine lv_aload_n hx hb dX5_judge_62 rfl (lv_at hl 4 rfl) ?_
        refine r_getA hx hb hts hin hown hK hG 14 (by decide) (by decide) (hts (.fieldLink RX5 50 "LineEventsModel" "faultTenths" "[I") (by decide +kernel)) dX5_judge_63 ?_
        refine lv_iload hx hb dX5_judge_66 (lv_at hl 1 rfl) ?_
        refine r_iald hx hb hK hG 14 (by decide) rfl m k (by simp only [show rW 14 = 4 from rfl]; omega) (by simp only [show rN 14 = 12 from rfl]; omega) (by simp only [show rW 14 = 4 from rfl]; omega) (w := T 14 m k) (by simp [su]) dX5_judge_68 ?_
        refine z_if_ne (tgt := 97) hx hb dX5_judge_69 (by decide) ⟨by omega, by omega⟩ (fun c_10 => ?_) (fun c_10 => ?_)
        · refine lv_iload hx hb dX5_judge_97 (lv_at hl 0 rfl) ?_
          refine z_if_eq (tgt := 123) hx hb dX5_judge_99 (by decide) ⟨by decide, by decide⟩ (fun q => absurd q (by decide)) (fun _ => ?_)
          refine lv_aload_n hx hb dX5_judge_102 rfl (lv_at hl 4 rfl) ?_
          refine r_getA hx hb hts hin hown hK hG 14 (by decide) (by decide) (hts (.fieldLink RX5 50 "LineEventsModel" "faultTenths" "[I") (by decide +kernel)) dX5_judge_103 ?_
          refine lv_iload hx hb dX5_judge_106 (lv_at hl 1 rfl) ?_
          refine r_iald hx hb hK hG 14 (by decide) rfl m k (by simp only [show rW 14 = 4 from rfl]; omega) (by simp only [show rN 14 = 12 from rfl]; omega) (by simp only [show rW 14 = 4 from rfl]; omega) (w := T 14 m k) (by simp [su]) dX5_judge_108 ?_
          refine lv_iload_n hx hb dX5_judge_109 rfl (lv_at hl 3 rfl) ?_
          refine z_icmp_le (tgt := 123) hx hb dX5_judge_110 (by decide) ⟨by omega, by omega⟩ ⟨by omega, by omega⟩ (fun c_12 => ?_) (fun c_12 => ?_)
          · refine lv_iload_n hx hb dX5_judge_123 rfl (lv_at hl 3 rfl) ?_
            refine lv_istore_n (lv' := [(2, .int (zI lg)), (5, .int (zI 1)), (4, .int (zI (((m : Int) * 4) + (k : Int)))), (3, .int (zI (k : Int))), (0, .ref (ad 32 0)), (1, .int (zI (m : Int)))]) hx hb dX5_judge_124 rfl hl (by decide) rfl (fun ls hl => ?_)
            refine lv_iinc (v := zI ((k : Int) + 1)) (lv' := [(3, .int (zI ((k : Int) + 1))), (2, .int (zI lg)), (5, .int (zI 1)), (4, .int (zI (((m : Int) * 4) + (k : Int)))), (0, .ref (ad 32 0)), (1, .int (zI (m : Int)))]) hx hb dX5_judge_125 hl (k := 3) rfl (by rw [show Int32.ofInt 1 = zI 1 from rfl, zI_add]) (by decide) rfl (fun ls hl => ?_)
            refine lv_goto (tgt := 11) hx hb dX5_judge_128 (by decide) ?_
            exact ih (k := k + 1) (ls := ls) (T := rdraw T) (lg := lg) (H := H) (locs := locs) (hG := hG) (hS := hS) (hTI := hTI) (hTm := hTm) (hTe := hTe) (hlg := by omega) (hl := lv_sub hl [0, 1, 4, 5] rfl) (hn := by rw [show rdraw T 15 m 0 = T 15 m 0 from rfl]; omega) (hv9 := by rw [← hv9, rjl]; first | rw [if_neg (by omega)] | rw [if_pos (by omega), if_neg (by omega), if_pos (by omega)] | rw [if_pos (by omega), if_neg (by omega), if_neg (by omega)])
          · refine lv_aload_n hx hb dX5_judge_113 rfl (lv_at hl 4 rfl) ?_
            refine r_getA hx hb hts hin hown hK hG 14 (by decide) (by decide) (hts (.fieldLink RX5 50 "LineEventsModel" "faultTenths" "[I") (by decide +kernel)) dX5_judge_114 ?_
            refine lv_iload hx hb dX5_judge_117 (lv_at hl 1 rfl) ?_
            refine r_iald hx hb hK hG 14 (by decide) rfl m k (by simp only [show rW 14 = 4 from rfl]; omega) (by simp only [show rN 14 = 12 from rfl]; omega) (by simp only [show rW 14 = 4 from rfl]; omega) (w := T 14 m k) (by simp [su]) dX5_judge_119 ?_
            refine lv_goto (tgt := 124) hx hb dX5_judge_120 (by decide) ?_
            refine lv_istore_n (lv' := [(2, .int (zI (T 14 m k))), (5, .int (zI 1)), (4, .int (zI (((m : Int) * 4) + (k : Int)))), (3, .int (zI (k : Int))), (0, .ref (ad 32 0)), (1, .int (zI (m : Int)))]) hx hb dX5_judge_124 rfl hl (by decide) rfl (fun ls hl => ?_)
            refine lv_iinc (v := zI ((k : Int) + 1)) (lv' := [(3, .int (zI ((k : Int) + 1))), (2, .int (zI (T 14 m k))), (5, .int (zI 1)), (4, .int (zI (((m : Int) * 4) + (k : Int)))), (0, .ref (ad 32 0)), (1, .int (zI (m : Int)))]) hx hb dX5_judge_125 hl (k := 3) rfl (by rw [show Int32.ofInt 1 = zI 1 from rfl, zI_add]) (by decide) rfl (fun ls hl => ?_)
            refine lv_goto (tgt := 11) hx hb dX5_judge_128 (by decide) ?_
            exact ih (k := k + 1) (ls := ls) (T := rdraw T) (lg := T 14 m k) (H := H) (locs := locs) (hG := hG) (hS := hS) (hTI := hTI) (hTm := hTm) (hTe := hTe) (hlg := by omega) (hl := lv_sub hl [0, 1, 4, 5] rfl) (hn := by rw [show rdraw T 15 m 0 = T 15 m 0 from rfl]; omega) (hv9 := by rw [← hv9, rjl]; first | rw [if_neg (by omega)] | rw [if_pos (by omega), if_neg (by omega), if_pos (by omega)] | rw [if_pos (by omega), if_neg (by omega), if_neg (by omega)])
        · refine lv_aload_n hx hb dX5_judge_72 rfl (lv_at hl 4 rfl) ?_
          refine r_getA hx hb hts hin hown hK hG 6 (by decide) (by decide) (hts (.fieldLink RX5 25 "LineEventsModel" "bottle" "[I") (by decide +kernel)) dX5_judge_73 ?_
          refine lv_iload_n hx hb dX5_judge_76 rfl (lv_at hl 5 rfl) ?_
          refine lv_iconst (v := zI 0) hx hb dX5_judge_77 rfl ?_
          refine r_iast hx hb hK hG hS 6 (by decide) rfl m 0 (by simp only [show rW 6 = 1 from rfl]; omega) (by simp only [show rN 6 = 12 from rfl]; omega) (by simp only [show rW 6 = 1 from rfl]; omega) (w := 0) dX5_judge_78 (fun H locs hG hS => ?_)
          refine lv_aload_n hx hb dX5_judge_79 rfl (lv_at hl 4 rfl) ?_
          refine r_getA hx hb hts hin hown hK hG 22 (by decide) (by decide) (hts (.fieldLink RX5 71 "LineEventsModel" "rejects" "[J") (by decide +kernel)) dX5_judge_80 ?_
          refine lv_iload_n hx hb dX5_judge_83 rfl (lv_at hl 5 rfl) ?_
          refine lv_dup2_11 hx hb dX5_judge_84 rfl rfl ?_
          refine r_lald hx hb hK hG 22 (by decide) rfl m 0 (by simp only [show rW 22 = 1 from rfl]; omega) (by simp only [show rN 22 = 12 from rfl]; omega) (by simp only [show rW 22 = 1 from rfl]; omega) (w := T 22 m 0) (by simp [su]) dX5_judge_85 ?_
          refine lv_lconst (v := zL 1) hx hb dX5_judge_86 (by decide) ?_
          refine z_ladd hx hb dX5_judge_87 ?_
          refine r_last hx hb hK hG hS 22 (by decide) rfl m 0 (by simp only [show rW 22 = 1 from rfl]; omega) (by simp only [show rN 22 = 12 from rfl]; omega) (by simp only [show rW 22 = 1 from rfl]; omega) (w := (T 22 m 0) + 1) dX5_judge_88 (fun H locs hG hS => ?_)
          refine lv_aload_n hx hb dX5_judge_89 rfl (lv_at hl 4 rfl) ?_
          refine lv_iload_n hx hb dX5_judge_90 rfl (lv_at hl 5 rfl) ?_
          refine lv_iconst (v := zI 2) hx hb dX5_judge_91 rfl ?_
          refine r_callV (As := [.int (zI (m : Int)), .int (zI 2)]) (rest := []) ⟨hx, hb, hml, hown, hts⟩ (m_X5_note l D cI cJ A ad (su (su (su T 26 0 0 (T 26 0 0 * 6364136223846793005 + 1442695040888963407)) 6 m 0 (0)) 22 m 0 ((T 22 m 0) + 1)) m 2 (by simpa [su] using hTe)) (cwV 2 hts gX5_judge_X5_note rfl rfl rfl (by decide +kernel) ⟨Nat.le_of_ble_eq_true rfl, Nat.le_of_ble_eq_true rfl⟩) hK hG hS rfl hl.1 rfl (Nat.le_of_ble_eq_true rfl) dX5_judge_92 ⟨Nat.zero_le _, Nat.zero_le _⟩ (fun H locs hG hS => ?_)
          refine lv_iconst (v := zI 0) hx hb dX5_judge_95 rfl ?_
          have e9 : rnote (su (su (su T 26 0 0 (T 26 0 0 * 6364136223846793005 + 1442695040888963407)) 6 m 0 (0)) 22 m 0 ((T 22 m 0) + 1)) m 2 = (rjfin m J0).1 := by rw [← hv9, rjl, if_pos (by omega), if_pos (by omega)]; rfl
          rw [e9] at hG
          have v9 : 0 = bZ ((rjfin m J0).2 = true) := by exact (bZ_f (by rw [← hv9, rjl, if_pos (by omega), if_pos (by omega)]; exact Bool.false_ne_true)).symm
          refine W.eq (congrArg (fun z => F0 m0 96 ls [.int (zI z)]) v9) ?_
          exact W.zret hx hb hr (zI_bool _) (fun t ht hW => ⟨rfl, ⟨by rw [ht]; exact hG, va_K.moved hW.alike hK⟩, hS.F ht⟩) hS.2.2 dX5_judge_96
set_option maxHeartbeats 4000000 in
set_option maxRecDepth 100000 in
theorem m_X5_causeOf (l : Launch) (D : va_G) (cI cJ : ClassId) (A : Nat → Prop) (ad : Nat → Nat → Nat) (S : Nat → Nat → Nat → Int) (m : Nat) (hI : Inv S) (hm : (m : Int) < S 5 0 0) : Met l yX5_causeOf wsX5_causeOf ({ frames := 1, cells := 0, slots := 0, locals := 22 }) (va_Pc [.ref (ad 32 0), .int (zI (m : Int))] (gRU D cI cJ A ad S)) (gO (some (.int (zI (rcause S m)))) (gRU D cI cJ A ad (S)) A) 0 0 A := by
  refine Met.ofW (cc := cX5_causeOf) (maxL := 3) (ret := (some .int)) (by decide) rfl ?_
  intro p e s m0 args below meth c s₁ B hml hv
  obtain ⟨rfl, hG, hK⟩ := hv
  have hx := B.exec
  have hb := B.bytes
  have hr := B.returns
  have hts := atoms_spec (ws := wsX5_causeOf) B.pre
  have hown : s.vm.findClass RX5 = some m0.cls := findClass_of_methodNamed B.named
  have hlocks := B.notSynchronized
  have hin : ∀ w ∈ wsX50, w ∈ wsX5_causeOf := by decide +kernel
  have hS : va_S A s.heap s.heap [] := va_S.rf
  have hl := lv_entry ([.ref (ad 32 0), .int (zI (m : Int))]) (n := 3) (Nat.le_of_ble_eq_true rfl)
  rw [lg_entry_eq]
  generalize (lg_sl ([.ref (ad 32 0), .int (zI (m : Int))]) ++ List.replicate (3 - (lg_sl ([.ref (ad 32 0), .int (zI (m : Int))])).length) Slot.unset).toArray = ls at hl ⊢
  replace hl : lv_has ls 3 [(0, .ref (ad 32 0)), (1, .int (zI (m : Int)))] := hl
  obtain ⟨hI5, hI25, hI20, hIM, hIL, hIR⟩ := id hI
  have hm12 : m < 12 := by omega
  obtain ⟨hM6, hM7, hM8, hM10, hM11, hM15, hM9, hMf⟩ := id (hIM m hm12)
  obtain ⟨hL0, hL1, hL2, hL3, hL4⟩ := id (hIL m hm)
  refine lv_aload_n hx hb dX5_causeOf_0 rfl (lv_at hl 0 rfl) ?_
  refine lv_iload_n hx hb dX5_causeOf_1 rfl (lv_at hl 1 rfl) ?_
  refine r_callV (As := [.int (zI (m : Int))]) (rest := []) ⟨hx, hb, hml, hown, hts⟩ (m_X5_held l D cI cJ A ad S m hI hm) (cwV 1 hts gX5_causeOf_X5_held rfl rfl rfl (by decide +kernel) ⟨Nat.le_of_ble_eq_true rfl, Nat.le_of_ble_eq_true rfl⟩) hK hG hS rfl hl.1 rfl (Nat.le_of_ble_eq_true rfl) dX5_causeOf_2 ⟨Nat.zero_le _, Nat.zero_le _⟩ (fun H locs hG hS => ?_)
  have hh9 := held_B m hI
  refine lv_istore_n (lv' := [(2, .int (zI (rheld S m))), (0, .ref (ad 32 0)), (1, .int (zI (m : Int)))]) hx hb dX5_causeOf_5 rfl hl (by decide) rfl (fun ls hl => ?_)
  refine lv_iload_n hx hb dX5_causeOf_6 rfl (lv_at hl 0 rfl) ?_
  refine lv_iconst (v := zI (-1)) hx hb dX5_causeOf_7 rfl ?_
  refine z_icmp_eq (tgt := 13) hx hb dX5_causeOf_8 (by decide) ⟨by omega, by omega⟩ ⟨by decide, by decide⟩ (fun c_1 => ?_) (fun c_1 => ?_)
  · refine lv_aload_n hx hb dX5_causeOf_13 rfl (lv_at hl 1 rfl) ?_
    refine r_getA hx hb hts hin hown hK hG 8 (by decide) (by decide) (hts (.fieldLink RX5 31 "LineEventsModel" "faultEnd" "[I") (by decide +kernel)) dX5_causeOf_14 ?_
    refine lv_iload_n hx hb dX5_causeOf_17 rfl (lv_at hl 2 rfl) ?_
    refine r_iald hx hb hK hG 8 (by decide) rfl m 0 (by simp only [show rW 8 = 1 from rfl]; omega) (by simp only [show rN 8 = 12 from rfl]; omega) (by simp only [show rW 8 = 1 from rfl]; omega) (w := S 8 m 0) (rfl) dX5_causeOf_18 ?_
    refine lv_aload_n hx hb dX5_causeOf_19 rfl (lv_at hl 1 rfl) ?_
    refine r_getI hx hb hts hin hown hK hG 25 (by decide) rfl (hts (.fieldLink RX5 94 "LineEventsModel" "now" "I") (by decide +kernel)) (z := S 25 0 0) (rfl) dX5_causeOf_20 ?_
    refine z_icmp_le (tgt := 28) hx hb dX5_causeOf_23 (by decide) ⟨by omega, by omega⟩ ⟨by omega, by omega⟩ (fun c_2 => ?_) (fun c_2 => ?_)
    · refine lv_aload_n hx hb dX5_causeOf_28 rfl (lv_at hl 1 rfl) ?_
      refine r_getA hx hb hts hin hown hK hG 6 (by decide) (by decide) (hts (.fieldLink RX5 25 "LineEventsModel" "bottle" "[I") (by decide +kernel)) dX5_causeOf_29 ?_
      refine lv_iload_n hx hb dX5_causeOf_32 rfl (lv_at hl 2 rfl) ?_
      refine r_iald hx hb hK hG 6 (by decide) rfl m 0 (by simp only [show rW 6 = 1 from rfl]; omega) (by simp only [show rN 6 = 12 from rfl]; omega) (by simp only [show rW 6 = 1 from rfl]; omega) (w := S 6 m 0) (rfl) dX5_causeOf_33 ?_
      refine lv_iconst (v := zI 1) hx hb dX5_causeOf_34 rfl ?_
      refine z_icmp_ne (tgt := 42) hx hb dX5_causeOf_35 (by decide) ⟨by omega, by omega⟩ ⟨by decide, by decide⟩ (fun c_3 => ?_) (fun c_3 => ?_)
      · refine lv_aload_n hx hb dX5_causeOf_42 rfl (lv_at hl 1 rfl) ?_
        refine r_getA hx hb hts hin hown hK hG 6 (by decide) (by decide) (hts (.fieldLink RX5 25 "LineEventsModel" "bottle" "[I") (by decide +kernel)) dX5_causeOf_43 ?_
        refine lv_iload_n hx hb dX5_causeOf_46 rfl (lv_at hl 2 rfl) ?_
        refine r_iald hx hb hK hG 6 (by decide) rfl m 0 (by simp only [show rW 6 = 1 from rfl]; omega) (by simp only [show rN 6 = 12 from rfl]; omega) (by simp only [show rW 6 = 1 from rfl]; omega) (w := S 6 m 0) (rfl) dX5_causeOf_47 ?_
        refine lv_iconst (v := zI 2) hx hb dX5_causeOf_48 rfl ?_
        refine z_icmp_ne (tgt := 57) hx hb dX5_causeOf_49 (by decide) ⟨by omega, by omega⟩ ⟨by decide, by decide⟩ (fun c_4 => ?_) (fun c_4 => ?_)
        · refine lv_bipush (v := zI 10) hx hb dX5_causeOf_57 (by decide) ?_
          have v9 : 10 = rcause S m := by unfold rcause; first | rw [if_neg (by omega)] | rw [if_pos (by omega), if_pos (by omega)] | rw [if_pos (by omega), if_neg (by omega), if_pos (by omega)] | rw [if_pos (by omega), if_neg (by omega), if_neg (by omega), if_pos (by omega)] | rw [if_pos (by omega), if_neg (by omega), if_neg (by omega), if_neg (by omega)]
          refine W.eq (congrArg (fun z => F0 m0 59 ls [.int (zI z)]) v9) ?_
          exact W.iret hx hb hr (fun t ht hW => ⟨rfl, ⟨by rw [ht]; exact hG, va_K.moved hW.alike hK⟩, hS.F ht⟩) hS.2.2 dX5_causeOf_59
        · refine lv_bipush (v := zI 11) hx hb dX5_causeOf_52 (by decide) ?_
          refine lv_goto (tgt := 59) hx hb dX5_causeOf_54 (by decide) ?_
          have v9 : 11 = rcause S m := by unfold rcause; first | rw [if_neg (by omega)] | rw [if_pos (by omega), if_pos (by omega)] | rw [if_pos (by omega), if_neg (by omega), if_pos (by omega)] | rw [if_pos (by omega), if_neg (by omega), if_neg (by omega), if_pos (by omega)] | rw [if_pos (by omega), if_neg (by omega), if_neg (by omega), if_neg (by omega)]
          refine W.eq (congrArg (fun z => F0 m0 59 ls [.int (zI z)]) v9) ?_
          exact W.iret hx hb hr (fun t ht hW => ⟨rfl, ⟨by rw [ht]; exact hG, va_K.moved hW.alike hK⟩, hS.F ht⟩) hS.2.2 dX5_causeOf_59
      · refine lv_iconst (v := zI 0) hx hb dX5_causeOf_38 rfl ?_
        refine lv_goto (tgt := 59) hx hb dX5_causeOf_39 (by decide) ?_
        have v9 : 0 = rcause S m := by unfold rcause; first | rw [if_neg (by omega)] | rw [if_pos (by omega), if_pos (by omega)] | rw [if_pos (by omega), if_neg (by omega), if_pos (by omega)] | rw [if_pos (by omega), if_neg (by omega), if_neg (by omega), if_pos (by omega)] | rw [if_pos (by omega), if_neg (by omega), if_neg (by omega), if_neg (by omega)]
        refine W.eq (congrArg (fun z => F0 m0 59 ls [.int (zI z)]) v9) ?_
        exact W.iret hx hb hr (fun t ht hW => ⟨rfl, ⟨by rw [ht]; exact hG, va_K.moved hW.alike hK⟩, hS.F ht⟩) hS.2.2 dX5_causeOf_59
    · refine lv_iconst (v := zI 3) hx hb dX5_causeOf_26 rfl ?_
      have v9 : 3 = rcause S m := by unfold rcause; first | rw [if_neg (by omega)] | rw [if_pos (by omega), if_pos (by omega)] | rw [if_pos (by omega), if_neg (by omega), if_pos (by omega)] | rw [if_pos (by omega), if_neg (by omega), if_neg (by omega), if_pos (by omega)] | rw [if_pos (by omega), if_neg (by omega), if_neg (by omega), if_neg (by omega)]
      refine W.eq (congrArg (fun z => F0 m0 27 ls [.int (zI z)]) v9) ?_
      exact W.iret hx hb hr (fun t ht hW => ⟨rfl, ⟨by rw [ht]; exact hG, va_K.moved hW.alike hK⟩, hS.F ht⟩) hS.2.2 dX5_causeOf_27
  · refine lv_iload_n hx hb dX5_causeOf_11 rfl (lv_at hl 0 rfl) ?_
    have v9 : rheld S m = rcause S m := by unfold rcause; first | rw [if_neg (by omega)] | rw [if_pos (by omega), if_pos (by omega)] | rw [if_pos (by omega), if_neg (by omega), if_pos (by omega)] | rw [if_pos (by omega), if_neg (by omega), if_neg (by omega), if_pos (by omega)] | rw [if_pos (by omega), if_neg (by omega), if_neg (by omega), if_neg (by omega)]
    refine W.eq (congrArg (fun z => F0 m0 12 ls [.int (zI z)]) v9) ?_
    exact W.iret hx hb hr (fun t ht hW => ⟨rfl, ⟨by rw [ht]; exact hG, va_K.moved hW.alike hK⟩, hS.F ht⟩) hS.2.2 dX5_causeOf_12
set_option maxHeartbeats 4000000 in
set_option maxRecDepth 100000 in
theorem m_X5_act (l : Launch) (D : va_G) (cI cJ : ClassId) (A : Nat → Prop) (ad : Nat → Nat → Nat) (S : Nat → Nat → Nat → Int) (m : Nat) (hI : Inv S) (hm : (m : Int) < S 5 0 0) (he : 0 ≤ S 30 0 0 ∧ S 30 0 0 < 2147483000) : Met l yX5_act wsX5_act ({ frames := 2, cells := 0, slots := 0, locals := 47 }) (va_Pc [.ref (ad 32 0), .int (zI (m : Int))] (gRU D cI cJ A ad S)) (gO none (gRU D cI cJ A ad (ract S m)) A) 0 0 A := by
  refine Met.ofW (cc := cX5_act) (maxL := 2) (ret := none) (by decide) rfl ?_
  intro p e s m0 args below meth c s₁ B hml hv
  obtain ⟨rfl, hG, hK⟩ := hv
  have hx := B.exec
  have hb := B.bytes
  have hr := B.returns
  have hts := atoms_spec (ws := wsX5_act) B.pre
  have hown : s.vm.findClass RX5 = some m0.cls := findClass_of_methodNamed B.named
  have hlocks := B.notSynchronized
  have hin : ∀ w ∈ wsX50, w ∈ wsX5_act := by decide +kernel
  have hS : va_S A s.heap s.heap [] := va_S.rf
  have hl := lv_entry ([.ref (ad 32 0), .int (zI (m : Int))]) (n := 2) (Nat.le_of_ble_eq_true rfl)
  rw [lg_entry_eq]
  generalize (lg_sl ([.ref (ad 32 0), .int (zI (m : Int))]) ++ List.replicate (2 - (lg_sl ([.ref (ad 32 0), .int (zI (m : Int))])).length) Slot.unset).toArray = ls at hl ⊢
  replace hl : lv_has ls 2 [(0, .ref (ad 32 0)), (1, .int (zI (m : Int)))] := hl
  obtain ⟨hI5, hI25, hI20, hIM, hIL, hIR⟩ := id hI
  have hm12 : m < 12 := by omega
  obtain ⟨hM6, hM7, hM8, hM10, hM11, hM15, hM9, hMf⟩ := id (hIM m hm12)
  obtain ⟨hL0, hL1, hL2, hL3, hL4⟩ := id (hIL m hm)
  refine lv_aload_n hx hb dX5_act_0 rfl (lv_at hl 0 rfl) ?_
  refine lv_iload_n hx hb dX5_act_1 rfl (lv_at hl 1 rfl) ?_
  refine r_callV (As := [.int (zI (m : Int))]) (rest := []) ⟨hx, hb, hml, hown, hts⟩ (m_X5_held l D cI cJ A ad S m hI hm) (cwV 1 hts gX5_act_X5_held rfl rfl rfl (by decide +kernel) ⟨Nat.le_of_ble_eq_true rfl, Nat.le_of_ble_eq_true rfl⟩) hK hG hS rfl hl.1 rfl (Nat.le_of_ble_eq_true rfl) dX5_act_2 ⟨Nat.zero_le _, Nat.zero_le _⟩ (fun H locs hG hS => ?_)
  have hh9 := held_B m hI
  refine lv_iconst (v := zI (-1)) hx hb dX5_act_5 rfl ?_
  refine z_icmp_ne (tgt := 22) hx hb dX5_act_6 (by decide) ⟨by omega, by omega⟩ ⟨by decide, by decide⟩ (fun c_1 => ?_) (fun c_1 => ?_)
  · have e9 : S = ract S m := by unfold ract; first | rw [if_neg (by omega)] | (rw [if_pos (by omega)]; unfold rjj; rw [if_neg (by omega)]; unfold rll; rw [if_neg (by omega)]; unfold rlt; rw [if_neg (by omega)])
    rw [e9] at hG
    exact W.vret hx hb hr (fun t ht hW => ⟨rfl, ⟨by rw [ht]; exact hG, va_K.moved hW.alike hK⟩, hS.F ht⟩) hS.2.2 dX5_act_22
  · refine lv_aload_n hx hb dX5_act_9 rfl (lv_at hl 0 rfl) ?_
    refine r_getA hx hb hts hin hown hK hG 8 (by decide) (by decide) (hts (.fieldLink RX5 31 "LineEventsModel" "faultEnd" "[I") (by decide +kernel)) dX5_act_10 ?_
    refine lv_iload_n hx hb dX5_act_13 rfl (lv_at hl 1 rfl) ?_
    refine r_iald hx hb hK hG 8 (by decide) rfl m 0 (by simp only [show rW 8 = 1 from rfl]; omega) (by simp only [show rN 8 = 12 from rfl]; omega) (by simp only [show rW 8 = 1 from rfl]; omega) (w := S 8 m 0) (rfl) dX5_act_14 ?_
    refine lv_aload_n hx hb dX5_act_15 rfl (lv_at hl 0 rfl) ?_
    refine r_getI hx hb hts hin hown hK hG 25 (by decide) rfl (hts (.fieldLink RX5 94 "LineEventsModel" "now" "I") (by decide +kernel)) (z := S 25 0 0) (rfl) dX5_act_16 ?_
    refine z_icmp_le (tgt := 23) hx hb dX5_act_19 (by decide) ⟨by omega, by omega⟩ ⟨by omega, by omega⟩ (fun c_2 => ?_) (fun c_2 => ?_)
    · refine lv_aload_n hx hb dX5_act_23 rfl (lv_at hl 0 rfl) ?_
      refine r_getA hx hb hts hin hown hK hG 6 (by decide) (by decide) (hts (.fieldLink RX5 25 "LineEventsModel" "bottle" "[I") (by decide +kernel)) dX5_act_24 ?_
      refine lv_iload_n hx hb dX5_act_27 rfl (lv_at hl 1 rfl) ?_
      refine r_iald hx hb hK hG 6 (by decide) rfl m 0 (by simp only [show rW 6 = 1 from rfl]; omega) (by simp only [show rN 6 = 12 from rfl]; omega) (by simp only [show rW 6 = 1 from rfl]; omega) (w := S 6 m 0) (rfl) dX5_act_28 ?_
      refine lv_iconst (v := zI 1) hx hb dX5_act_29 rfl ?_
      refine z_icmp_ne (tgt := 57) hx hb dX5_act_30 (by decide) ⟨by omega, by omega⟩ ⟨by decide, by decide⟩ (fun c_3 => ?_) (fun c_3 => ?_)
      · refine lv_aload_n hx hb dX5_act_57 rfl (lv_at hl 0 rfl) ?_
        refine r_getA hx hb hts hin hown hK hG 6 (by decide) (by decide) (hts (.fieldLink RX5 25 "LineEventsModel" "bottle" "[I") (by decide +kernel)) dX5_act_58 ?_
        refine lv_iload_n hx hb dX5_act_61 rfl (lv_at hl 1 rfl) ?_
        refine r_iald hx hb hK hG 6 (by decide) rfl m 0 (by simp only [show rW 6 = 1 from rfl]; omega) (by simp only [show rN 6 = 12 from rfl]; omega) (by simp only [show rW 6 = 1 from rfl]; omega) (w := S 6 m 0) (rfl) dX5_act_62 ?_
        refine lv_iconst (v := zI 2) hx hb dX5_act_63 rfl ?_
        refine z_icmp_ne (tgt := 72) hx hb dX5_act_64 (by decide) ⟨by omega, by omega⟩ ⟨by decide, by decide⟩ (fun c_4 => ?_) (fun c_4 => ?_)
        · refine lv_aload_n hx hb dX5_act_72 rfl (lv_at hl 0 rfl) ?_
          refine r_getA hx hb hts hin hown hK hG 6 (by decide) (by decide) (hts (.fieldLink RX5 25 "LineEventsModel" "bottle" "[I") (by decide +kernel)) dX5_act_73 ?_
          refine lv_iload_n hx hb dX5_act_76 rfl (lv_at hl 1 rfl) ?_
          refine r_iald hx hb hK hG 6 (by decide) rfl m 0 (by simp only [show rW 6 = 1 from rfl]; omega) (by simp only [show rN 6 = 12 from rfl]; omega) (by simp only [show rW 6 = 1 from rfl]; omega) (w := S 6 m 0) (rfl) dX5_act_77 ?_
          refine z_if_ne (tgt := 86) hx hb dX5_act_78 (by decide) ⟨by omega, by omega⟩ (fun c_5 => ?_) (fun c_5 => ?_)
          · have e9 : S = ract S m := by unfold ract; first | rw [if_neg (by omega)] | (rw [if_pos (by omega)]; unfold rjj; rw [if_neg (by omega)]; unfold rll; rw [if_neg (by omega)]; unfold rlt; rw [if_neg (by omega)])
            rw [e9] at hG
            exact W.vret hx hb hr (fun t ht hW => ⟨rfl, ⟨by rw [ht]; exact hG, va_K.moved hW.alike hK⟩, hS.F ht⟩) hS.2.2 dX5_act_86
          · refine lv_aload_n hx hb dX5_act_81 rfl (lv_at hl 0 rfl) ?_
            refine lv_iload_n hx hb dX5_act_82 rfl (lv_at hl 1 rfl) ?_
            refine r_callV (As := [.int (zI (m : Int))]) (rest := []) ⟨hx, hb, hml, hown, hts⟩ (m_X5_take l D cI cJ A ad S m hI (by omega) ⟨by omega, by omega⟩) (cwV 1 hts gX5_act_X5_take rfl rfl rfl (by decide +kernel) ⟨Nat.le_of_ble_eq_true rfl, Nat.le_of_ble_eq_true rfl⟩) hK hG hS rfl hl.1 rfl (Nat.le_of_ble_eq_true rfl) dX5_act_83 ⟨Nat.zero_le _, Nat.zero_le _⟩ (fun H locs hG hS => ?_)
            have e9 : rtake S m = ract S m := by unfold ract; rw [if_pos (by omega)]; unfold rjj; rw [if_neg (by omega)]; unfold rll; rw [if_neg (by omega)]; unfold rlt; rw [if_pos (by omega)]
            rw [e9] at hG
            exact W.vret hx hb hr (fun t ht hW => ⟨rfl, ⟨by rw [ht]; exact hG, va_K.moved hW.alike hK⟩, hS.F ht⟩) hS.2.2 dX5_act_86
        · refine lv_aload_n hx hb dX5_act_67 rfl (lv_at hl 0 rfl) ?_
          refine lv_iload_n hx hb dX5_act_68 rfl (lv_at hl 1 rfl) ?_
          refine r_callV (As := [.int (zI (m : Int))]) (rest := []) ⟨hx, hb, hml, hown, hts⟩ (m_X5_leave l D cI cJ A ad S m hI hm ⟨by omega, by omega⟩) (cwV 1 hts gX5_act_X5_leave rfl rfl rfl (by decide +kernel) ⟨Nat.le_of_ble_eq_true rfl, Nat.le_of_ble_eq_true rfl⟩) hK hG hS rfl hl.1 rfl (Nat.le_of_ble_eq_true rfl) dX5_act_69 ⟨Nat.zero_le _, Nat.zero_le _⟩ (fun H locs hG hS => ?_)
          have hlI := leave_I hI hm
          have hl30 := leave_30 (S := S) (m := m)
          have hl5 : rleave S m 5 0 0 = S 5 0 0 := leave_v (by decide)
          obtain ⟨U, hU⟩ : ∃ U, U = rleave S m := ⟨_, rfl⟩
          rw [← hU] at hG hlI hl30 hl5
          have hU6 := (hlI.2.2.2.1 m hm12).1
          refine lv_aload_n hx hb dX5_act_72 rfl (lv_at hl 0 rfl) ?_
          refine r_getA hx hb hts hin hown hK hG 6 (by decide) (by decide) (hts (.fieldLink RX5 25 "LineEventsModel" "bottle" "[I") (by decide +kernel)) dX5_act_73 ?_
          refine lv_iload_n hx hb dX5_act_76 rfl (lv_at hl 1 rfl) ?_
          refine r_iald hx hb hK hG 6 (by decide) rfl m 0 (by simp only [show rW 6 = 1 from rfl]; omega) (by simp only [show rN 6 = 12 from rfl]; omega) (by simp only [show rW 6 = 1 from rfl]; omega) (w := U 6 m 0) (rfl) dX5_act_77 ?_
          refine z_if_ne (tgt := 86) hx hb dX5_act_78 (by decide) ⟨by omega, by omega⟩ (fun c_6 => ?_) (fun c_6 => ?_)
          · have e9 : U = ract S m := by unfold ract; rw [if_pos (by omega)]; unfold rjj; rw [if_neg (by omega)]; unfold rll; rw [if_pos (by omega), ← hU]; unfold rlt; rw [if_neg (by omega)]
            rw [e9] at hG
            exact W.vret hx hb hr (fun t ht hW => ⟨rfl, ⟨by rw [ht]; exact hG, va_K.moved hW.alike hK⟩, hS.F ht⟩) hS.2.2 dX5_act_86
          · refine lv_aload_n hx hb dX5_act_81 rfl (lv_at hl 0 rfl) ?_
            refine lv_iload_n hx hb dX5_act_82 rfl (lv_at hl 1 rfl) ?_
            refine r_callV (As := [.int (zI (m : Int))]) (rest := []) ⟨hx, hb, hml, hown, hts⟩ (m_X5_take l D cI cJ A ad U m hlI (by omega) ⟨by omega, by omega⟩) (cwV 1 hts gX5_act_X5_take rfl rfl rfl (by decide +kernel) ⟨Nat.le_of_ble_eq_true rfl, Nat.le_of_ble_eq_true rfl⟩) hK hG hS rfl hl.1 rfl (Nat.le_of_ble_eq_true rfl) dX5_act_83 ⟨Nat.zero_le _, Nat.zero_le _⟩ (fun H locs hG hS => ?_)
            have e9 : rtake U m = ract S m := by unfold ract; rw [if_pos (by omega)]; unfold rjj; rw [if_neg (by omega)]; unfold rll; rw [if_pos (by omega), ← hU]; unfold rlt; rw [if_pos (by omega)]
            rw [e9] at hG
            exact W.vret hx hb hr (fun t ht hW => ⟨rfl, ⟨by rw [ht]; exact hG, va_K.moved hW.alike hK⟩, hS.F ht⟩) hS.2.2 dX5_act_86
      · refine lv_aload_n hx hb dX5_act_33 rfl (lv_at hl 0 rfl) ?_
        refine r_getA hx hb hts hin hown hK hG 7 (by decide) (by decide) (hts (.fieldLink RX5 28 "LineEventsModel" "worked" "[I") (by decide +kernel)) dX5_act_34 ?_
        refine lv_iload_n hx hb dX5_act_37 rfl (lv_at hl 1 rfl) ?_
        refine r_iald hx hb hK hG 7 (by decide) rfl m 0 (by simp only [show rW 7 = 1 from rfl]; omega) (by simp only [show rN 7 = 12 from rfl]; omega) (by simp only [show rW 7 = 1 from rfl]; omega) (w := S 7 m 0) (rfl) dX5_act_38 ?_
        refine lv_aload_n hx hb dX5_act_39 rfl (lv_at hl 0 rfl) ?_
        refine r_getA hx hb hts hin hown hK hG 0 (by decide) (by decide) (hts (.fieldLink RX5 9 "LineEventsModel" "takes" "[I") (by decide +kernel)) dX5_act_40 ?_
        refine lv_iload_n hx hb dX5_act_43 rfl (lv_at hl 1 rfl) ?_
        refine r_iald hx hb hK hG 0 (by decide) rfl m 0 (by simp only [show rW 0 = 1 from rfl]; omega) (by simp only [show rN 0 = 12 from rfl]; omega) (by simp only [show rW 0 = 1 from rfl]; omega) (w := S 0 m 0) (rfl) dX5_act_44 ?_
        refine z_icmp_ne (tgt := 57) hx hb dX5_act_45 (by decide) ⟨by omega, by omega⟩ ⟨by omega, by omega⟩ (fun c_7 => ?_) (fun c_7 => ?_)
        · refine lv_aload_n hx hb dX5_act_57 rfl (lv_at hl 0 rfl) ?_
          refine r_getA hx hb hts hin hown hK hG 6 (by decide) (by decide) (hts (.fieldLink RX5 25 "LineEventsModel" "bottle" "[I") (by decide +kernel)) dX5_act_58 ?_
          refine lv_iload_n hx hb dX5_act_61 rfl (lv_at hl 1 rfl) ?_
          refine r_iald hx hb hK hG 6 (by decide) rfl m 0 (by simp only [show rW 6 = 1 from rfl]; omega) (by simp only [show rN 6 = 12 from rfl]; omega) (by simp only [show rW 6 = 1 from rfl]; omega) (w := S 6 m 0) (rfl) dX5_act_62 ?_
          refine lv_iconst (v := zI 2) hx hb dX5_act_63 rfl ?_
          refine z_icmp_ne (tgt := 72) hx hb dX5_act_64 (by decide) ⟨by omega, by omega⟩ ⟨by decide, by decide⟩ (fun c_8 => ?_) (fun c_8 => ?_)
          · refine lv_aload_n hx hb dX5_act_72 rfl (lv_at hl 0 rfl) ?_
            refine r_getA hx hb hts hin hown hK hG 6 (by decide) (by decide) (hts (.fieldLink RX5 25 "LineEventsModel" "bottle" "[I") (by decide +kernel)) dX5_act_73 ?_
            refine lv_iload_n hx hb dX5_act_76 rfl (lv_at hl 1 rfl) ?_
            refine r_iald hx hb hK hG 6 (by decide) rfl m 0 (by simp only [show rW 6 = 1 from rfl]; omega) (by simp only [show rN 6 = 12 from rfl]; omega) (by simp only [show rW 6 = 1 from rfl]; omega) (w := S 6 m 0) (rfl) dX5_act_77 ?_
            refine z_if_ne (tgt := 86) hx hb dX5_act_78 (by decide) ⟨by omega, by omega⟩ (fun c_9 => ?_) (fun c_9 => ?_)
            · have e9 : S = ract S m := by unfold ract; first | rw [if_neg (by omega)] | (rw [if_pos (by omega)]; unfold rjj; rw [if_neg (by omega)]; unfold rll; rw [if_neg (by omega)]; unfold rlt; rw [if_neg (by omega)])
              rw [e9] at hG
              exact W.vret hx hb hr (fun t ht hW => ⟨rfl, ⟨by rw [ht]; exact hG, va_K.moved hW.alike hK⟩, hS.F ht⟩) hS.2.2 dX5_act_86
            · refine lv_aload_n hx hb dX5_act_81 rfl (lv_at hl 0 rfl) ?_
              refine lv_iload_n hx hb dX5_act_82 rfl (lv_at hl 1 rfl) ?_
              refine r_callV (As := [.int (zI (m : Int))]) (rest := []) ⟨hx, hb, hml, hown, hts⟩ (m_X5_take l D cI cJ A ad S m hI (by omega) ⟨by omega, by omega⟩) (cwV 1 hts gX5_act_X5_take rfl rfl rfl (by decide +kernel) ⟨Nat.le_of_ble_eq_true rfl, Nat.le_of_ble_eq_true rfl⟩) hK hG hS rfl hl.1 rfl (Nat.le_of_ble_eq_true rfl) dX5_act_83 ⟨Nat.zero_le _, Nat.zero_le _⟩ (fun H locs hG hS => ?_)
              have e9 : rtake S m = ract S m := by unfold ract; rw [if_pos (by omega)]; unfold rjj; rw [if_neg (by omega)]; unfold rll; rw [if_neg (by omega)]; unfold rlt; rw [if_pos (by omega)]
              rw [e9] at hG
              exact W.vret hx hb hr (fun t ht hW => ⟨rfl, ⟨by rw [ht]; exact hG, va_K.moved hW.alike hK⟩, hS.F ht⟩) hS.2.2 dX5_act_86
          · refine lv_aload_n hx hb dX5_act_67 rfl (lv_at hl 0 rfl) ?_
            refine lv_iload_n hx hb dX5_act_68 rfl (lv_at hl 1 rfl) ?_
            refine r_callV (As := [.int (zI (m : Int))]) (rest := []) ⟨hx, hb, hml, hown, hts⟩ (m_X5_leave l D cI cJ A ad S m hI hm ⟨by omega, by omega⟩) (cwV 1 hts gX5_act_X5_leave rfl rfl rfl (by decide +kernel) ⟨Nat.le_of_ble_eq_true rfl, Nat.le_of_ble_eq_true rfl⟩) hK hG hS rfl hl.1 rfl (Nat.le_of_ble_eq_true rfl) dX5_act_69 ⟨Nat.zero_le _, Nat.zero_le _⟩ (fun H locs hG hS => ?_)
            have hlI := leave_I hI hm
            have hl30 := leave_30 (S := S) (m := m)
            have hl5 : rleave S m 5 0 0 = S 5 0 0 := leave_v (by decide)
            obtain ⟨U, hU⟩ : ∃ U, U = rleave S m := ⟨_, rfl⟩
            rw [← hU] at hG hlI hl30 hl5
            have hU6 := (hlI.2.2.2.1 m hm12).1
            refine lv_aload_n hx hb dX5_act_72 rfl (lv_at hl 0 rfl) ?_
            refine r_getA hx hb hts hin hown hK hG 6 (by decide) (by decide) (hts (.fieldLink RX5 25 "LineEventsModel" "bottle" "[I") (by decide +kernel)) dX5_act_73 ?_
            refine lv_iload_n hx hb dX5_act_76 rfl (lv_at hl 1 rfl) ?_
            refine r_iald hx hb hK hG 6 (by decide) rfl m 0 (by simp only [show rW 6 = 1 from rfl]; omega) (by simp only [show rN 6 = 12 from rfl]; omega) (by simp only [show rW 6 = 1 from rfl]; omega) (w := U 6 m 0) (rfl) dX5_act_77 ?_
            refine z_if_ne (tgt := 86) hx hb dX5_act_78 (by decide) ⟨by omega, by omega⟩ (fun c_10 => ?_) (fun c_10 => ?_)
            · have e9 : U = ract S m := by unfold ract; rw [if_pos (by omega)]; unfold rjj; rw [if_neg (by omega)]; unfold rll; rw [if_pos (by omega), ← hU]; unfold rlt; rw [if_neg (by omega)]
              rw [e9] at hG
              exact W.vret hx hb hr (fun t ht hW => ⟨rfl, ⟨by rw [ht]; exact hG, va_K.moved hW.alike hK⟩, hS.F ht⟩) hS.2.2 dX5_act_86
            · refine lv_aload_n hx hb dX5_act_81 rfl (lv_at hl 0 rfl) ?_
              refine lv_iload_n hx hb dX5_act_82 rfl (lv_at hl 1 rfl) ?_
              refine r_callV (As := [.int (zI (m : Int))]) (rest := []) ⟨hx, hb, hml, hown, hts⟩ (m_X5_take l D cI cJ A ad U m hlI (by omega) ⟨by omega, by omega⟩) (cwV 1 hts gX5_act_X5_take rfl rfl rfl (by decide +kernel) ⟨Nat.le_of_ble_eq_true rfl, Nat.le_of_ble_eq_true rfl⟩) hK hG hS rfl hl.1 rfl (Nat.le_of_ble_eq_true rfl) dX5_act_83 ⟨Nat.zero_le _, Nat.zero_le _⟩ (fun H locs hG hS => ?_)
              have e9 : rtake U m = ract S m := by unfold ract; rw [if_pos (by omega)]; unfold rjj; rw [if_neg (by omega)]; unfold rll; rw [if_pos (by omega), ← hU]; unfold rlt; rw [if_pos (by omega)]
              rw [e9] at hG
              exact W.vret hx hb hr (fun t ht hW => ⟨rfl, ⟨by rw [ht]; exact hG, va_K.moved hW.alike hK⟩, hS.F ht⟩) hS.2.2 dX5_act_86
        · refine lv_aload_n hx hb dX5_act_48 rfl (lv_at hl 0 rfl) ?_
          refine lv_iload_n hx hb dX5_act_49 rfl (lv_at hl 1 rfl) ?_
          refine r_callV (As := [.int (zI (m : Int))]) (rest := []) ⟨hx, hb, hml, hown, hts⟩ (m_X5_judge l D cI cJ A ad S m hI hm ⟨by omega, by omega⟩) (cwV 1 hts gX5_act_X5_judge rfl rfl rfl (by decide +kernel) ⟨Nat.le_of_ble_eq_true rfl, Nat.le_of_ble_eq_true rfl⟩) hK hG hS rfl hl.1 rfl (Nat.le_of_ble_eq_true rfl) dX5_act_50 ⟨Nat.zero_le _, Nat.zero_le _⟩ (fun H locs hG hS => ?_)
          have hjI := judge_I (m := m) hI hm12
          have hj30 := judge_30 (S := S) (m := m)
          have hj5 : (rjudge S m).1 5 0 0 = S 5 0 0 := judge_v (by decide)
          obtain ⟨T, hT⟩ : ∃ T, T = (rjudge S m).1 := ⟨_, rfl⟩
          rw [← hT] at hG hjI hj30 hj5
          have hT6 := (hjI.2.2.2.1 m hm12).1
          refine z_ifb_eq (tgt := 57) hx hb dX5_act_53 (by decide) (fun c_11 => ?_) (fun c_11 => ?_)
          · refine lv_aload_n hx hb dX5_act_57 rfl (lv_at hl 0 rfl) ?_
            refine r_getA hx hb hts hin hown hK hG 6 (by decide) (by decide) (hts (.fieldLink RX5 25 "LineEventsModel" "bottle" "[I") (by decide +kernel)) dX5_act_58 ?_
            refine lv_iload_n hx hb dX5_act_61 rfl (lv_at hl 1 rfl) ?_
            refine r_iald hx hb hK hG 6 (by decide) rfl m 0 (by simp only [show rW 6 = 1 from rfl]; omega) (by simp only [show rN 6 = 12 from rfl]; omega) (by simp only [show rW 6 = 1 from rfl]; omega) (w := T 6 m 0) (rfl) dX5_act_62 ?_
            refine lv_iconst (v := zI 2) hx hb dX5_act_63 rfl ?_
            refine z_icmp_ne (tgt := 72) hx hb dX5_act_64 (by decide) ⟨by omega, by omega⟩ ⟨by decide, by decide⟩ (fun c_12 => ?_) (fun c_12 => ?_)
            · refine lv_aload_n hx hb dX5_act_72 rfl (lv_at hl 0 rfl) ?_
              refine r_getA hx hb hts hin hown hK hG 6 (by decide) (by decide) (hts (.fieldLink RX5 25 "LineEventsModel" "bottle" "[I") (by decide +kernel)) dX5_act_73 ?_
              refine lv_iload_n hx hb dX5_act_76 rfl (lv_at hl 1 rfl) ?_
              refine r_iald hx hb hK hG 6 (by decide) rfl m 0 (by simp only [show rW 6 = 1 from rfl]; omega) (by simp only [show rN 6 = 12 from rfl]; omega) (by simp only [show rW 6 = 1 from rfl]; omega) (w := T 6 m 0) (rfl) dX5_act_77 ?_
              refine z_if_ne (tgt := 86) hx hb dX5_act_78 (by decide) ⟨by omega, by omega⟩ (fun c_13 => ?_) (fun c_13 => ?_)
              · have e9 : T = ract S m := by unfold ract; rw [if_pos (by omega)]; unfold rjj; rw [if_pos (by omega)]; first | rw [if_pos (by assumption), hT] | (rw [if_neg (by assumption), ← hT]; unfold rll; rw [if_neg (by omega)]; unfold rlt; rw [if_neg (by omega)])
                rw [e9] at hG
                exact W.vret hx hb hr (fun t ht hW => ⟨rfl, ⟨by rw [ht]; exact hG, va_K.moved hW.alike hK⟩, hS.F ht⟩) hS.2.2 dX5_act_86
              · refine lv_aload_n hx hb dX5_act_81 rfl (lv_at hl 0 rfl) ?_
                refine lv_iload_n hx hb dX5_act_82 rfl (lv_at hl 1 rfl) ?_
                refine r_callV (As := [.int (zI (m : Int))]) (rest := []) ⟨hx, hb, hml, hown, hts⟩ (m_X5_take l D cI cJ A ad T m hjI (by omega) ⟨by omega, by omega⟩) (cwV 1 hts gX5_act_X5_take rfl rfl rfl (by decide +kernel) ⟨Nat.le_of_ble_eq_true rfl, Nat.le_of_ble_eq_true rfl⟩) hK hG hS rfl hl.1 rfl (Nat.le_of_ble_eq_true rfl) dX5_act_83 ⟨Nat.zero_le _, Nat.zero_le _⟩ (fun H locs hG hS => ?_)
                have e9 : rtake T m = ract S m := by unfold ract; rw [if_pos (by omega)]; unfold rjj; rw [if_pos (by omega)]; rw [if_neg (by assumption), ← hT]; unfold rll; rw [if_neg (by omega)]; unfold rlt; rw [if_pos (by omega)]
                rw [e9] at hG
                exact W.vret hx hb hr (fun t ht hW => ⟨rfl, ⟨by rw [ht]; exact hG, va_K.moved hW.alike hK⟩, hS.F ht⟩) hS.2.2 dX5_act_86
            · refine lv_aload_n hx hb dX5_act_67 rfl (lv_at hl 0 rfl) ?_
              refine lv_iload_n hx hb dX5_act_68 rfl (lv_at hl 1 rfl) ?_
              refine r_callV (As := [.int (zI (m : Int))]) (rest := []) ⟨hx, hb, hml, hown, hts⟩ (m_X5_leave l D cI cJ A ad T m hjI (by omega) ⟨by omega, by omega⟩) (cwV 1 hts gX5_act_X5_leave rfl rfl rfl (by decide +kernel) ⟨Nat.le_of_ble_eq_true rfl, Nat.le_of_ble_eq_true rfl⟩) hK hG hS rfl hl.1 rfl (Nat.le_of_ble_eq_true rfl) dX5_act_69 ⟨Nat.zero_le _, Nat.zero_le _⟩ (fun H locs hG hS => ?_)
              have hlI := leave_I hjI (m := m) (by omega)
              have hl30 := leave_30 (S := T) (m := m)
              have hl5 : rleave T m 5 0 0 = T 5 0 0 := leave_v (by decide)
              obtain ⟨U, hU⟩ : ∃ U, U = rleave T m := ⟨_, rfl⟩
              rw [← hU] at hG hlI hl30 hl5
              have hU6 := (hlI.2.2.2.1 m hm12).1
              refine lv_aload_n hx hb dX5_act_72 rfl (lv_at hl 0 rfl) ?_
              refine r_getA hx hb hts hin hown hK hG 6 (by decide) (by decide) (hts (.fieldLink RX5 25 "LineEventsModel" "bottle" "[I") (by decide +kernel)) dX5_act_73 ?_
              refine lv_iload_n hx hb dX5_act_76 rfl (lv_at hl 1 rfl) ?_
              refine r_iald hx hb hK hG 6 (by decide) rfl m 0 (by simp only [show rW 6 = 1 from rfl]; omega) (by simp only [show rN 6 = 12 from rfl]; omega) (by simp only [show rW 6 = 1 from rfl]; omega) (w := U 6 m 0) (rfl) dX5_act_77 ?_
              refine z_if_ne (tgt := 86) hx hb dX5_act_78 (by decide) ⟨by omega, by omega⟩ (fun c_14 => ?_) (fun c_14 => ?_)
              · have e9 : U = ract S m := by unfold ract; rw [if_pos (by omega)]; unfold rjj; rw [if_pos (by omega)]; rw [if_neg (by assumption), ← hT]; unfold rll; rw [if_pos (by omega), ← hU]; unfold rlt; rw [if_neg (by omega)]
                rw [e9] at hG
                exact W.vret hx hb hr (fun t ht hW => ⟨rfl, ⟨by rw [ht]; exact hG, va_K.moved hW.alike hK⟩, hS.F ht⟩) hS.2.2 dX5_act_86
              · refine lv_aload_n hx hb dX5_act_81 rfl (lv_at hl 0 rfl) ?_
                refine lv_iload_n hx hb dX5_act_82 rfl (lv_at hl 1 rfl) ?_
                refine r_callV (As := [.int (zI (m : Int))]) (rest := []) ⟨hx, hb, hml, hown, hts⟩ (m_X5_take l D cI cJ A ad U m hlI (by omega) ⟨by omega, by omega⟩) (cwV 1 hts gX5_act_X5_take rfl rfl rfl (by decide +kernel) ⟨Nat.le_of_ble_eq_true rfl, Nat.le_of_ble_eq_true rfl⟩) hK hG hS rfl hl.1 rfl (Nat.le_of_ble_eq_true rfl) dX5_act_83 ⟨Nat.zero_le _, Nat.zero_le _⟩ (fun H locs hG hS => ?_)
                have e9 : rtake U m = ract S m := by unfold ract; rw [if_pos (by omega)]; unfold rjj; rw [if_pos (by omega)]; rw [if_neg (by assumption), ← hT]; unfold rll; rw [if_pos (by omega), ← hU]; unfold rlt; rw [if_pos (by omega)]
                rw [e9] at hG
                exact W.vret hx hb hr (fun t ht hW => ⟨rfl, ⟨by rw [ht]; exact hG, va_K.moved hW.alike hK⟩, hS.F ht⟩) hS.2.2 dX5_act_86
          · have e9 : T = ract S m := by unfold ract; rw [if_pos (by omega)]; unfold rjj; rw [if_pos (by omega)]; first | rw [if_pos (by assumption), hT] | (rw [if_neg (by assumption), ← hT]; unfold rll; rw [if_neg (by omega)]; unfold rlt; rw [if_neg (by omega)])
            rw [e9] at hG
            exact W.vret hx hb hr (fun t ht hW => ⟨rfl, ⟨by rw [ht]; exact hG, va_K.moved hW.alike hK⟩, hS.F ht⟩) hS.2.2 dX5_act_56
    · have e9 : S = ract S m := by unfold ract; first | rw [if_neg (by omega)] | (rw [if_pos (by omega)]; unfold rjj; rw [if_neg (by omega)]; unfold rll; rw [if_neg (by omega)]; unfold rlt; rw [if_neg (by omega)])
      rw [e9] at hG
      exact W.vret hx hb hr (fun t ht hW => ⟨rfl, ⟨by rw [ht]; exact hG, va_K.moved hW.alike hK⟩, hS.F ht⟩) hS.2.2 dX5_act_22
end
section
set_option maxHeartbeats 4000000 in
set_option maxRecDepth 100000 in
theorem m_X5_run (l : Launch) (D : va_G) (cI cJ : ClassId) (A : Nat → Prop) (ad : Nat → Nat → Nat) (S : Nat → Nat → Nat → Int) (t : Int) (ht : zB t) (hI : Inv S) (h7 : ∀ i, i < 12 → S 7 i 0 ≤ S 25 0 0) : Met l yX5_run wsX5_run ({ frames := 3, cells := 0, slots := 0, locals := 68 }) (va_Pc [.ref (ad 32 0), .int (zI t)] (gRU D cI cJ A ad S)) (gO (some (.int (zI (rrunV (su S 31 0 0 0) t)))) (gRU D cI cJ A ad (rrunS (su S 31 0 0 0) t)) A) 0 0 A := by
  refine Met.ofW (cc := cX5_run) (maxL := 5) (ret := (some .int)) (by decide) rfl ?_
  intro p e s m0 args below meth c s₁ B hml hv
  obtain ⟨rfl, hG, hK⟩ := hv
  have hx := B.exec
  have hb := B.bytes
  have hr := B.returns
  have hts := atoms_spec (ws := wsX5_run) B.pre
  have hown : s.vm.findClass RX5 = some m0.cls := findClass_of_methodNamed B.named
  have hlocks := B.notSynchronized
  have hin : ∀ w ∈ wsX50, w ∈ wsX5_run := by decide +kernel
  have hS : va_S A s.heap s.heap [] := va_S.rf
  have hl := lv_entry ([.ref (ad 32 0), .int (zI t)]) (n := 5) (Nat.le_of_ble_eq_true rfl)
  rw [lg_entry_eq]
  generalize (lg_sl ([.ref (ad 32 0), .int (zI t)]) ++ List.replicate (5 - (lg_sl ([.ref (ad 32 0), .int (zI t)])).length) Slot.unset).toArray = ls at hl ⊢
  replace hl : lv_has ls 5 [(0, .ref (ad 32 0)), (1, .int (zI t))] := hl
  refine lv_aload_n hx hb dX5_run_0 rfl (lv_at hl 0 rfl) ?_
  refine lv_iconst (v := zI 0) hx hb dX5_run_1 rfl ?_
  refine r_putI hx hb hts hin hown hK hG hS 31 (by decide) rfl (hts (.fieldLink RX5 87 "LineEventsModel" "thrown" "I") (by decide +kernel)) rfl rfl (z := 0) dX5_run_2 (fun H locs hG hS => ?_)
  generalize hS0 : su S 31 0 0 0 = S0 at hG ⊢
  have hI0 : Inv S0 := by rw [← hS0]; exact hI
  have h70 : ∀ i, i < 12 → S0 7 i 0 ≤ S0 25 0 0 := by rw [← hS0]; exact h7
  clear hS0
  obtain ⟨hI5, hI25, hI20, hIM, hIL, hIR⟩ := id hI0
  refine lv_iload_n hx hb dX5_run_5 rfl (lv_at hl 1 rfl) ?_
  refine z_if_lt (tgt := 30) hx hb dX5_run_6 (by decide) ⟨by omega, by omega⟩ (fun c_1 => ?_) (fun c_1 => ?_)
  · refine lv_iconst (v := zI (-1)) hx hb dX5_run_30 rfl ?_
    have e9 : S0 = rrunS S0 t := by unfold rrunS; rw [if_neg (by omega)]
    rw [e9] at hG
    have v9 : (-1) = rrunV S0 t := by unfold rrunV; rw [if_neg (by omega)]
    refine W.eq (congrArg (fun z => F0 m0 31 ls [.int (zI z)]) v9) ?_
    exact W.iret hx hb hr (fun t ht hW => ⟨rfl, ⟨by rw [ht]; exact hG, va_K.moved hW.alike hK⟩, hS.F ht⟩) hS.2.2 dX5_run_31
  · refine lv_iload_n hx hb dX5_run_9 rfl (lv_at hl 1 rfl) ?_
    refine z_ldc (z := 100000) hx hb hown (hts (.constant RX5 103 (100000)) (by decide +kernel)) (by decide) dX5_run_10 ?_
    refine z_icmp_gt (tgt := 30) hx hb dX5_run_12 (by decide) ⟨by omega, by omega⟩ ⟨by decide, by decide⟩ (fun c_2 => ?_) (fun c_2 => ?_)
    · refine lv_iconst (v := zI (-1)) hx hb dX5_run_30 rfl ?_
      have e9 : S0 = rrunS S0 t := by unfold rrunS; rw [if_neg (by omega)]
      rw [e9] at hG
      have v9 : (-1) = rrunV S0 t := by unfold rrunV; rw [if_neg (by omega)]
      refine W.eq (congrArg (fun z => F0 m0 31 ls [.int (zI z)]) v9) ?_
      exact W.iret hx hb hr (fun t ht hW => ⟨rfl, ⟨by rw [ht]; exact hG, va_K.moved hW.alike hK⟩, hS.F ht⟩) hS.2.2 dX5_run_31
    · refine lv_aload_n hx hb dX5_run_15 rfl (lv_at hl 0 rfl) ?_
      refine r_getI hx hb hts hin hown hK hG 25 (by decide) rfl (hts (.fieldLink RX5 94 "LineEventsModel" "now" "I") (by decide +kernel)) (z := S0 25 0 0) (rfl) dX5_run_16 ?_
      refine z_i2l hx hb dX5_run_19 ⟨by omega, by omega⟩ ?_
      refine lv_iload_n hx hb dX5_run_20 rfl (lv_at hl 1 rfl) ?_
      refine z_i2l hx hb dX5_run_21 ⟨by omega, by omega⟩ ?_
      refine z_ladd hx hb dX5_run_22 ?_
      refine z_ldc2 (z := 1000000000) hx hb hown (hts (.constantLong RX5 104 (1000000000)) (by decide +kernel)) (by decide) dX5_run_23 ?_
      refine W.lcmp hx hb dX5_run_26 ?_
      refine z_lif_le (tgt := 32) hx hb dX5_run_27 (by decide) ⟨by omega, by omega⟩ ⟨by decide, by decide⟩ (fun c_3 => ?_) (fun c_3 => ?_)
      · refine lv_aload_n hx hb dX5_run_32 rfl (lv_at hl 0 rfl) ?_
        refine lv_iconst (v := zI 0) hx hb dX5_run_33 rfl ?_
        refine r_putI hx hb hts hin hown hK hG hS 30 (by decide) rfl (hts (.fieldLink RX5 114 "LineEventsModel" "events" "I") (by decide +kernel)) rfl rfl (z := 0) dX5_run_34 (fun H locs hG hS => ?_)
        refine lv_iconst (v := zI 0) hx hb dX5_run_37 rfl ?_
        refine lv_istore_n (lv' := [(2, .int (zI 0)), (0, .ref (ad 32 0)), (1, .int (zI t))]) hx hb dX5_run_38 rfl hl (by decide) rfl (fun ls hl => ?_)
        generalize hT0 : su S0 30 0 0 0 = T at hG
        have hTI : Inv T := by rw [← hT0]; exact hI0
        have hT7 : ∀ i, i < 12 → T 7 i 0 ≤ T 25 0 0 := by rw [← hT0]; exact h70
        obtain ⟨R0, hR0⟩ : ∃ R, R = rrunL t.toNat (su S0 30 0 0 0) := ⟨_, rfl⟩
        have hfS : rrunS S0 t = R0 := by unfold rrunS; rw [if_pos (by omega), hR0]
        have hfV : rrunV S0 t = R0 30 0 0 := by unfold rrunV; rw [if_pos (by omega), hR0]
        rw [hfS, hfV]
        obtain ⟨k, hk0⟩ : ∃ k : Nat, k = 0 := ⟨0, rfl⟩
        have hT25 : 0 ≤ T 25 0 0 ∧ T 25 0 0 + t ≤ 1000000000 + k := by rw [← hT0, show su S0 30 0 0 0 25 0 0 = S0 25 0 0 from rfl]; omega
        have hT30 : 0 ≤ T 30 0 0 ∧ T 30 0 0 ≤ 36 * (k : Int) := by rw [← hT0, show su S0 30 0 0 0 30 0 0 = 0 from rfl]; omega
        replace hl : lv_has ls 5 [(2, .int (zI (k : Int))), (0, .ref (ad 32 0)), (1, .int (zI t))] := by subst hk0; exact hl
        obtain ⟨n, hn⟩ : ∃ n : Nat, (k : Int) + n = t := ⟨t.toNat, by omega⟩
        have hv9 : rrunL n T = R0 := by rw [hR0, ← hT0]; congr 1; omega
        clear hk0 hR0 hfS hfV hT0 hI0 h70 hI5 hI25 hI20 hIM hIL hIR h7 hI
        induction n generalizing k ls T H locs with
        | zero =>
          obtain ⟨hI5, hI25, hI20, hIM, hIL, hIR⟩ := id hTI
          refine lv_iload_n hx hb dX5_run_39 rfl (lv_at hl 0 rfl) ?_
          refine lv_iload_n hx hb dX5_run_40 rfl (lv_at hl 2 rfl) ?_
          refine z_icmp_ge (tgt := 140) hx hb dX5_run_41 (by decide) ⟨by omega, by omega⟩ ⟨by omega, by omega⟩ (fun c_4 => ?_) (fun c_4 => ?_)
          · refine lv_aload_n hx hb dX5_run_140 rfl (lv_at hl 1 rfl) ?_
            refine r_getI hx hb hts hin hown hK hG 30 (by decide) rfl (hts (.fieldLink RX5 114 "LineEventsModel" "events" "I") (by decide +kernel)) (z := T 30 0 0) (rfl) dX5_run_141 ?_
            have e9 : T = R0 := by rw [← hv9]; rfl
            rw [e9] at hG
            have v9 : T 30 0 0 = R0 30 0 0 := by rw [← hv9]; rfl
            refine W.eq (congrArg (fun z => F0 m0 144 ls [.int (zI z)]) v9) ?_
            exact W.iret hx hb hr (fun t ht hW => ⟨rfl, ⟨by rw [ht]; exact hG, va_K.moved hW.alike hK⟩, hS.F ht⟩) hS.2.2 dX5_run_144
          · exfalso; omega
        | succ n iho =>
          obtain ⟨hI5, hI25, hI20, hIM, hIL, hIR⟩ := id hTI
          refine lv_iload_n hx hb dX5_run_39 rfl (lv_at hl 0 rfl) ?_
          refine lv_iload_n hx hb dX5_run_40 rfl (lv_at hl 2 rfl) ?_
          refine z_icmp_ge (tgt := 140) hx hb dX5_run_41 (by decide) ⟨by omega, by omega⟩ ⟨by omega, by omega⟩ (fun c_5 => ?_) (fun c_5 => ?_)
          · exfalso; omega
          · refine lv_aload_n hx hb dX5_run_44 rfl (lv_at hl 1 rfl) ?_
            refine r_getI hx hb hts hin hown hK hG 5 (by decide) rfl (hts (.fieldLink RX5 91 "LineEventsModel" "machines" "I") (by decide +kernel)) (z := T 5 0 0) (rfl) dX5_run_45 ?_
            refine lv_iconst (v := zI 1) hx hb dX5_run_48 rfl ?_
            refine z_isub hx hb dX5_run_49 ?_
            refine lv_istore_n (lv' := [(3, .int (zI ((T 5 0 0) - 1))), (2, .int (zI (k : Int))), (0, .ref (ad 32 0)), (1, .int (zI t))]) hx hb dX5_run_50 rfl hl (by decide) rfl (fun ls hl => ?_)
            obtain ⟨A1, hA1⟩ : ∃ A, A = ractA (T 5 0 0).toNat T := ⟨_, rfl⟩
            obtain ⟨U, hU0⟩ : ∃ U, U = T := ⟨T, rfl⟩
            obtain ⟨i, hi⟩ : ∃ i : Nat, (i : Int) = T 5 0 0 := ⟨(T 5 0 0).toNat, by omega⟩
            have hA : ractA i U = A1 := by rw [hA1, hU0]; congr 1; omega
            have hUI : Inv U := by rw [hU0]; exact hTI
            have hU5 : U 5 0 0 = T 5 0 0 := by rw [hU0]
            have hU25 : U 25 0 0 = T 25 0 0 := by rw [hU0]
            have hU7 : ∀ i, i < 12 → U 7 i 0 ≤ U 25 0 0 := by rw [hU0]; exact hT7
            have hU30 : 0 ≤ U 30 0 0 ∧ U 30 0 0 + 3 * (i : Int) ≤ T 30 0 0 + 36 := by rw [hU0]; omega
            have hi12 : i ≤ 12 := by omega
            have hiU : (i : Int) ≤ U 5 0 0 := by omega
            replace hl : lv_has ls 5 [(3, .int (zI ((i : Int) - 1))), (2, .int (zI (k : Int))), (0, .ref (ad 32 0)), (1, .int (zI t))] := by rw [hi]; exact hl
            rw [← hU0] at hG
            clear hU0 hi
            induction i generalizing ls U H locs with
            | zero =>
              refine lv_iload_n hx hb dX5_run_51 rfl (lv_at hl 0 rfl) ?_
              refine z_if_lt (tgt := 66) hx hb dX5_run_52 (by decide) ⟨by omega, by omega⟩ (fun c_6 => ?_) (fun c_6 => ?_)
              · refine lv_iconst (v := zI 0) hx hb dX5_run_66 rfl ?_
                refine lv_istore_n (lv' := [(3, .int (zI 0)), (2, .int (zI (k : Int))), (0, .ref (ad 32 0)), (1, .int (zI t))]) hx hb dX5_run_67 rfl hl (by decide) rfl (fun ls hl => ?_)
                have hUA : U = A1 := hA
                obtain ⟨B1, hB1⟩ : ∃ B, B = rtmA (T 5 0 0).toNat 0 A1 := ⟨_, rfl⟩
                obtain ⟨V, hV0⟩ : ∃ V, V = U := ⟨U, rfl⟩
                obtain ⟨j, hj0⟩ : ∃ j : Nat, j = 0 := ⟨0, rfl⟩
                obtain ⟨r, hr0⟩ : ∃ r : Nat, (j : Int) + r = T 5 0 0 := ⟨(T 5 0 0).toNat, by omega⟩
                have hB : rtmA r j V = B1 := by rw [hB1, hV0, hUA, hj0]; congr 1; omega
                have hVI : Inv V := by rw [hV0]; exact hUI
                have hV5 : V 5 0 0 = T 5 0 0 := by rw [hV0]; exact hU5
                have hV25 : V 25 0 0 = T 25 0 0 := by rw [hV0]; exact hU25
                have hV30 : 0 ≤ V 30 0 0 ∧ V 30 0 0 ≤ T 30 0 0 + 36 := by rw [hV0]; omega
                have hV7 : ∀ i, j ≤ i → i < 12 → V 7 i 0 ≤ V 25 0 0 := by rw [hV0]; exact fun i _ h => hU7 i h
                replace hl : lv_has ls 5 [(3, .int (zI (j : Int))), (2, .int (zI (k : Int))), (0, .ref (ad 32 0)), (1, .int (zI t))] := by subst hj0; exact hl
                rw [← hV0] at hG
                clear hV0 hj0 hUA hA hUI hU5 hU25 hU30 hU7 hiU
                induction r generalizing j ls V H locs with
                | zero =>
                  refine lv_iload_n hx hb dX5_run_68 rfl (lv_at hl 0 rfl) ?_
                  refine lv_aload_n hx hb dX5_run_69 rfl (lv_at hl 2 rfl) ?_
                  refine r_getI hx hb hts hin hown hK hG 5 (by decide) rfl (hts (.fieldLink RX5 91 "LineEventsModel" "machines" "I") (by decide +kernel)) (z := V 5 0 0) (rfl) dX5_run_70 ?_
                  refine z_icmp_ge (tgt := 124) hx hb dX5_run_73 (by decide) ⟨by omega, by omega⟩ ⟨by omega, by omega⟩ (fun c_7 => ?_) (fun c_7 => ?_)
                  · refine lv_aload_n hx hb dX5_run_124 rfl (lv_at hl 2 rfl) ?_
                    refine lv_dup hx hb dX5_run_125 rfl ?_
                    refine r_getI hx hb hts hin hown hK hG 25 (by decide) rfl (hts (.fieldLink RX5 94 "LineEventsModel" "now" "I") (by decide +kernel)) (z := V 25 0 0) (rfl) dX5_run_126 ?_
                    refine lv_iconst (v := zI 1) hx hb dX5_run_129 rfl ?_
                    refine z_iadd hx hb dX5_run_130 ?_
                    refine r_putI hx hb hts hin hown hK hG hS 25 (by decide) rfl (hts (.fieldLink RX5 94 "LineEventsModel" "now" "I") (by decide +kernel)) rfl rfl (z := (V 25 0 0) + 1) dX5_run_131 (fun H locs hG hS => ?_)
                    refine lv_iinc (v := zI ((k : Int) + 1)) (lv' := [(2, .int (zI ((k : Int) + 1))), (3, .int (zI (j : Int))), (0, .ref (ad 32 0)), (1, .int (zI t))]) hx hb dX5_run_134 hl (k := 1) rfl (by rw [show Int32.ofInt 1 = zI 1 from rfl, zI_add]) (by decide) rfl (fun ls hl => ?_)
                    refine lv_goto (tgt := 39) hx hb dX5_run_137 (by decide) ?_
                    exact iho (k := k + 1) (ls := ls) (T := rtick V) (H := H) (locs := locs) (hG := hG) (hS := hS) (hTI := tick_I hVI (by omega)) (hT7 := fun i hi => by have := (hVI.2.2.2.1 i hi).2.1; show V 7 i 0 ≤ V 25 0 0 + 1; omega) (hT25 := by show 0 ≤ V 25 0 0 + 1 ∧ V 25 0 0 + 1 + t ≤ 1000000000 + ((k + 1 : Nat) : Int); omega) (hT30 := by show 0 ≤ V 30 0 0 ∧ V 30 0 0 ≤ 36 * ((k + 1 : Nat) : Int); omega) (hl := lv_sub hl [0, 2, 3] rfl) (hn := by omega) (hv9 := by rw [← hv9, rrunL, rinst, ← hA1, ← hB1, ← hB]; rfl)
                  · exfalso; omega
                | succ r ih2 =>
                  refine lv_iload_n hx hb dX5_run_68 rfl (lv_at hl 0 rfl) ?_
                  refine lv_aload_n hx hb dX5_run_69 rfl (lv_at hl 2 rfl) ?_
                  refine r_getI hx hb hts hin hown hK hG 5 (by decide) rfl (hts (.fieldLink RX5 91 "LineEventsModel" "machines" "I") (by decide +kernel)) (z := V 5 0 0) (rfl) dX5_run_70 ?_
                  refine z_icmp_ge (tgt := 124) hx hb dX5_run_73 (by decide) ⟨by omega, by omega⟩ ⟨by omega, by omega⟩ (fun c_8 => ?_) (fun c_8 => ?_)
                  · exfalso; omega
                  · refine lv_aload_n hx hb dX5_run_76 rfl (lv_at hl 2 rfl) ?_
                    refine lv_iload_n hx hb dX5_run_77 rfl (lv_at hl 0 rfl) ?_
                    refine r_callV (As := [.int (zI (j : Int))]) (rest := []) ⟨hx, hb, hml, hown, hts⟩ (m_X5_causeOf l D cI cJ A ad V j hVI (by omega)) (cwV 1 hts gX5_run_X5_causeOf rfl rfl rfl (by decide +kernel) ⟨Nat.le_of_ble_eq_true rfl, Nat.le_of_ble_eq_true rfl⟩) hK hG hS rfl hl.1 rfl (Nat.le_of_ble_eq_true rfl) dX5_run_78 ⟨Nat.zero_le _, Nat.zero_le _⟩ (fun H locs hG hS => ?_)
                    have hc9 := cause_B j hVI
                    have hV7j := (hVI.2.2.2.1 j (by omega)).2.1
                    refine lv_istore (lv' := [(4, .int (zI (rcause V j))), (3, .int (zI (j : Int))), (2, .int (zI (k : Int))), (0, .ref (ad 32 0)), (1, .int (zI t))]) hx hb dX5_run_81 hl (by decide) rfl (fun ls hl => ?_)
                    refine lv_aload_n hx hb dX5_run_83 rfl (lv_at hl 3 rfl) ?_
                    refine r_getA hx hb hts hin hown hK hG 21 (by decide) (by decide) (hts (.fieldLink RX5 68 "LineEventsModel" "times" "[J") (by decide +kernel)) dX5_run_84 ?_
                    refine lv_iload_n hx hb dX5_run_87 rfl (lv_at hl 1 rfl) ?_
                    refine lv_bipush (v := zI 12) hx hb dX5_run_88 (by decide) ?_
                    refine z_imul hx hb dX5_run_90 ?_
                    refine lv_iload hx hb dX5_run_91 (lv_at hl 0 rfl) ?_
                    refine z_iadd hx hb dX5_run_93 ?_
                    refine lv_dup2_11 hx hb dX5_run_94 rfl rfl ?_
                    refine r_lald hx hb hK hG 21 (by decide) rfl j (rcause V j).toNat (by simp only [show rW 21 = 12 from rfl]; omega) (by simp only [show rN 21 = 12 from rfl]; omega) (by simp only [show rW 21 = 12 from rfl]; omega) (w := V 21 j (rcause V j).toNat) (rfl) dX5_run_95 ?_
                    refine lv_lconst (v := zL 1) hx hb dX5_run_96 (by decide) ?_
                    refine z_ladd hx hb dX5_run_97 ?_
                    refine r_last hx hb hK hG hS 21 (by decide) rfl j (rcause V j).toNat (by simp only [show rW 21 = 12 from rfl]; omega) (by simp only [show rN 21 = 12 from rfl]; omega) (by simp only [show rW 21 = 12 from rfl]; omega) (w := (V 21 j (rcause V j).toNat) + 1) dX5_run_98 (fun H locs hG hS => ?_)
                    refine lv_aload_n hx hb dX5_run_99 rfl (lv_at hl 3 rfl) ?_
                    refine r_getA hx hb hts hin hown hK hG 7 (by decide) (by decide) (hts (.fieldLink RX5 28 "LineEventsModel" "worked" "[I") (by decide +kernel)) dX5_run_100 ?_
                    refine lv_iload_n hx hb dX5_run_103 rfl (lv_at hl 1 rfl) ?_
                    refine lv_dup2_11 hx hb dX5_run_104 rfl rfl ?_
                    refine r_iald hx hb hK hG 7 (by decide) rfl j 0 (by simp only [show rW 7 = 1 from rfl]; omega) (by simp only [show rN 7 = 12 from rfl]; omega) (by simp only [show rW 7 = 1 from rfl]; omega) (w := V 7 j 0) (by simp [su]) dX5_run_105 ?_
                    refine lv_iload hx hb dX5_run_106 (lv_at hl 0 rfl) ?_
                    refine z_if_ne (tgt := 115) hx hb dX5_run_108 (by decide) ⟨by omega, by omega⟩ (fun c_9 => ?_) (fun c_9 => ?_)
                    · refine lv_iconst (v := zI 0) hx hb dX5_run_115 rfl ?_
                      refine z_iadd hx hb dX5_run_116 ?_
                      refine r_iast hx hb hK hG hS 7 (by decide) rfl j 0 (by simp only [show rW 7 = 1 from rfl]; omega) (by simp only [show rN 7 = 12 from rfl]; omega) (by simp only [show rW 7 = 1 from rfl]; omega) (w := (V 7 j 0) + 0) dX5_run_117 (fun H locs hG hS => ?_)
                      refine lv_iinc (v := zI ((j : Int) + 1)) (lv' := [(3, .int (zI ((j : Int) + 1))), (4, .int (zI (rcause V j))), (2, .int (zI (k : Int))), (0, .ref (ad 32 0)), (1, .int (zI t))]) hx hb dX5_run_118 hl (k := 1) rfl (by rw [show Int32.ofInt 1 = zI 1 from rfl, zI_add]) (by decide) rfl (fun ls hl => ?_)
                      refine lv_goto (tgt := 68) hx hb dX5_run_121 (by decide) ?_
                      have e9 : su (su V 21 j (rcause V j).toNat ((V 21 j (rcause V j).toNat) + 1)) 7 j 0 ((V 7 j 0) + 0) = rtm V j := by unfold rtm; first | rw [if_pos (by omega)] | rw [if_neg (by omega)]
                      rw [e9] at hG
                      exact ih2 (j := j + 1) (ls := ls) (V := rtm V j) (H := H) (locs := locs) (hG := hG) (hS := hS) (hr0 := by omega) (hB := by rw [← hB, rtmA]) (hVI := tm_I hVI (by omega) (hV7 j (Nat.le_refl j) (by omega))) (hV5 := by rw [tm_v (by decide)]; exact hV5) (hV25 := by rw [tm_v (by decide)]; exact hV25) (hV30 := by rw [tm_v (by decide)]; exact hV30) (hV7 := fun i h1 h2 => by rw [tm_7 (by omega), tm_v (by decide)]; exact hV7 i (by omega) h2) (hl := lv_sub hl [0, 2, 3, 4] rfl)
                    · refine lv_iconst (v := zI 1) hx hb dX5_run_111 rfl ?_
                      refine lv_goto (tgt := 116) hx hb dX5_run_112 (by decide) ?_
                      refine z_iadd hx hb dX5_run_116 ?_
                      refine r_iast hx hb hK hG hS 7 (by decide) rfl j 0 (by simp only [show rW 7 = 1 from rfl]; omega) (by simp only [show rN 7 = 12 from rfl]; omega) (by simp only [show rW 7 = 1 from rfl]; omega) (w := (V 7 j 0) + 1) dX5_run_117 (fun H locs hG hS => ?_)
                      refine lv_iinc (v := zI ((j : Int) + 1)) (lv' := [(3, .int (zI ((j : Int) + 1))), (4, .int (zI (rcause V j))), (2, .int (zI (k : Int))), (0, .ref (ad 32 0)), (1, .int (zI t))]) hx hb dX5_run_118 hl (k := 1) rfl (by rw [show Int32.ofInt 1 = zI 1 from rfl, zI_add]) (by decide) rfl (fun ls hl => ?_)
                      refine lv_goto (tgt := 68) hx hb dX5_run_121 (by decide) ?_
                      have e9 : su (su V 21 j (rcause V j).toNat ((V 21 j (rcause V j).toNat) + 1)) 7 j 0 ((V 7 j 0) + 1) = rtm V j := by unfold rtm; first | rw [if_pos (by omega)] | rw [if_neg (by omega)]
                      rw [e9] at hG
                      exact ih2 (j := j + 1) (ls := ls) (V := rtm V j) (H := H) (locs := locs) (hG := hG) (hS := hS) (hr0 := by omega) (hB := by rw [← hB, rtmA]) (hVI := tm_I hVI (by omega) (hV7 j (Nat.le_refl j) (by omega))) (hV5 := by rw [tm_v (by decide)]; exact hV5) (hV25 := by rw [tm_v (by decide)]; exact hV25) (hV30 := by rw [tm_v (by decide)]; exact hV30) (hV7 := fun i h1 h2 => by rw [tm_7 (by omega), tm_v (by decide)]; exact hV7 i (by omega) h2) (hl := lv_sub hl [0, 2, 3, 4] rfl)
              · exfalso; omega
            | succ i ih1 =>
              replace hl : lv_has ls 5 [(3, .int (zI (i : Int))), (2, .int (zI (k : Int))), (0, .ref (ad 32 0)), (1, .int (zI t))] := by
                have e3 : ((i + 1 : Nat) : Int) - 1 = (i : Int) := by omega
                rw [e3] at hl; exact hl
              refine lv_iload_n hx hb dX5_run_51 rfl (lv_at hl 0 rfl) ?_
              refine z_if_lt (tgt := 66) hx hb dX5_run_52 (by decide) ⟨by omega, by omega⟩ (fun c_10 => ?_) (fun c_10 => ?_)
              · exfalso; omega
              · refine lv_aload_n hx hb dX5_run_55 rfl (lv_at hl 2 rfl) ?_
                refine lv_iload_n hx hb dX5_run_56 rfl (lv_at hl 0 rfl) ?_
                refine r_callV (As := [.int (zI (i : Int))]) (rest := []) ⟨hx, hb, hml, hown, hts⟩ (m_X5_act l D cI cJ A ad U i hUI (by omega) ⟨by omega, by omega⟩) (cwV 1 hts gX5_run_X5_act rfl rfl rfl (by decide +kernel) ⟨Nat.le_of_ble_eq_true rfl, Nat.le_of_ble_eq_true rfl⟩) hK hG hS rfl hl.1 rfl (Nat.le_of_ble_eq_true rfl) dX5_run_57 ⟨Nat.zero_le _, Nat.zero_le _⟩ (fun H locs hG hS => ?_)
                refine lv_iinc (v := zI ((i : Int) + (-1))) (lv' := [(3, .int (zI ((i : Int) + (-1)))), (2, .int (zI (k : Int))), (0, .ref (ad 32 0)), (1, .int (zI t))]) hx hb dX5_run_60 hl (k := 0) rfl (by rw [show Int32.ofInt (-1) = zI (-1) from rfl, zI_add]) (by decide) rfl (fun ls hl => ?_)
                refine lv_goto (tgt := 51) hx hb dX5_run_63 (by decide) ?_
                have ha9 := act_I (m := i) hUI (by omega)
                have ha25 : ract U i 25 0 0 = U 25 0 0 := act_v (by decide)
                exact ih1 (ls := ls) (U := ract U i) (H := H) (locs := locs) (hG := hG) (hS := hS) (hA := by rw [← hA, ractA]) (hUI := ha9.1) (hU5 := by omega) (hU25 := by omega) (hU7 := fun j hj => by have h1 := act_7 (S := U) (m := i) (i := j); have h2 := hU7 j hj; omega) (hU30 := by omega) (hi12 := by omega) (hiU := by omega) (hl := lv_sub hl [0, 1, 2, 3] rfl)
      · refine lv_iconst (v := zI (-1)) hx hb dX5_run_30 rfl ?_
        have e9 : S0 = rrunS S0 t := by unfold rrunS; rw [if_neg (by omega)]
        rw [e9] at hG
        have v9 : (-1) = rrunV S0 t := by unfold rrunV; rw [if_neg (by omega)]
        refine W.eq (congrArg (fun z => F0 m0 31 ls [.int (zI z)]) v9) ?_
        exact W.iret hx hb hr (fun t ht hW => ⟨rfl, ⟨by rw [ht]; exact hG, va_K.moved hW.alike hK⟩, hS.F ht⟩) hS.2.2 dX5_run_31
end
section
set_option maxHeartbeats 4000000 in
set_option maxRecDepth 100000 in
theorem m_X5_machine (l : Launch) (D : va_G) (cI cJ : ClassId) (A : Nat → Prop) (ad : Nat → Nat → Nat) (S : Nat → Nat → Nat → Int) (t a : Int) (ht0 : zB t) (ha0 : zB a) (hI : Inv S) : Met l yX5_machine wsX5_machine ({ frames := 1, cells := 0, slots := 0, locals := 21 }) (va_Pc [.ref (ad 32 0), .int (zI t), .int (zI a)] (gRU D cI cJ A ad S)) (gO (some (.int (zI (rmachV (su S 31 0 0 0) t a)))) (gRU D cI cJ A ad (rmachS (su S 31 0 0 0) t a)) A) 0 0 A := by
  refine Met.ofW (cc := cX5_machine) (maxL := 5) (ret := (some .int)) (by decide) rfl ?_
  intro p e s m0 args below meth c s₁ B hml hv
  obtain ⟨rfl, hG, hK⟩ := hv
  have hx := B.exec
  have hb := B.bytes
  have hr := B.returns
  have hts := atoms_spec (ws := wsX5_machine) B.pre
  have hown : s.vm.findClass RX5 = some m0.cls := findClass_of_methodNamed B.named
  have hlocks := B.notSynchronized
  have hin : ∀ w ∈ wsX50, w ∈ wsX5_machine := by decide +kernel
  have hS : va_S A s.heap s.heap [] := va_S.rf
  have hl := lv_entry ([.ref (ad 32 0), .int (zI t), .int (zI a)]) (n := 5) (Nat.le_of_ble_eq_true rfl)
  rw [lg_entry_eq]
  generalize (lg_sl ([.ref (ad 32 0), .int (zI t), .int (zI a)]) ++ List.replicate (5 - (lg_sl ([.ref (ad 32 0), .int (zI t), .int (zI a)])).length) Slot.unset).toArray = ls at hl ⊢
  replace hl : lv_has ls 5 [(0, .ref (ad 32 0)), (1, .int (zI t)), (2, .int (zI a))] := hl
  refine lv_aload_n hx hb dX5_machine_0 rfl (lv_at hl 0 rfl) ?_
  refine lv_iconst (v := zI 0) hx hb dX5_machine_1 rfl ?_
  refine r_putI hx hb hts hin hown hK hG hS 31 (by decide) rfl (hts (.fieldLink RX5 87 "LineEventsModel" "thrown" "I") (by decide +kernel)) rfl rfl (z := 0) dX5_machine_2 (fun H locs hG hS => ?_)
  generalize hS0 : su S 31 0 0 0 = S0 at hG ⊢
  have hI0 : Inv S0 := by rw [← hS0]; exact hI
  obtain ⟨hI5, hI25, hI20, hIM, hIL, hIR⟩ := id hI0
  refine lv_aload_n hx hb dX5_machine_5 rfl (lv_at hl 0 rfl) ?_
  refine r_getI hx hb hts hin hown hK hG 25 (by decide) rfl (hts (.fieldLink RX5 94 "LineEventsModel" "now" "I") (by decide +kernel)) (z := S0 25 0 0) (rfl) dX5_machine_6 ?_
  refine z_if_ne (tgt := 51) hx hb dX5_machine_9 (by decide) ⟨by omega, by omega⟩ (fun c_1 => ?_) (fun c_1 => ?_)
  · refine lv_iconst (v := zI 0) hx hb dX5_machine_51 rfl ?_
    refine lv_istore_n (lv' := [(3, .int (zI 0)), (0, .ref (ad 32 0)), (1, .int (zI t)), (2, .int (zI a))]) hx hb dX5_machine_52 rfl hl (by decide) rfl (fun ls hl => ?_)
    refine lv_iload_n hx hb dX5_machine_53 rfl (lv_at hl 0 rfl) ?_
    refine z_if_ne (tgt := 59) hx hb dX5_machine_54 (by decide) ⟨by decide, by decide⟩ (fun q => absurd q (by decide)) (fun _ => ?_)
    refine lv_iconst (v := zI (-1)) hx hb dX5_machine_57 rfl ?_
    have e9 : S0 = rmachS S0 t a := by unfold rmachS; first | (exfalso; omega) | rw [if_neg (by omega)] | rw [if_pos (by omega), if_pos (by omega)] | rw [if_pos (by omega), if_neg (by omega), if_pos (by omega)] | rw [if_pos (by omega), if_neg (by omega), if_neg (by omega)] | rw [if_pos (by omega), if_neg (by omega)]
    rw [e9] at hG
    have v9 : (-1) = rmachV S0 t a := by unfold rmachV; first | (exfalso; omega) | rw [if_neg (by omega)] | rw [if_pos (by omega), if_pos (by omega)] | rw [if_pos (by omega), if_neg (by omega), if_pos (by omega)] | rw [if_pos (by omega), if_neg (by omega), if_neg (by omega)] | rw [if_pos (by omega), if_neg (by omega)]
    refine W.eq (congrArg (fun z => F0 m0 58 ls [.int (zI z)]) v9) ?_
    exact W.iret hx hb hr (fun t ht hW => ⟨rfl, ⟨by rw [ht]; exact hG, va_K.moved hW.alike hK⟩, hS.F ht⟩) hS.2.2 dX5_machine_58
  · refine lv_iload_n hx hb dX5_machine_12 rfl (lv_at hl 1 rfl) ?_
    refine lv_iconst (v := zI 1) hx hb dX5_machine_13 rfl ?_
    refine z_icmp_lt (tgt := 51) hx hb dX5_machine_14 (by decide) ⟨by omega, by omega⟩ ⟨by decide, by decide⟩ (fun c_3 => ?_) (fun c_3 => ?_)
    · refine lv_iconst (v := zI 0) hx hb dX5_machine_51 rfl ?_
      refine lv_istore_n (lv' := [(3, .int (zI 0)), (0, .ref (ad 32 0)), (1, .int (zI t)), (2, .int (zI a))]) hx hb dX5_machine_52 rfl hl (by decide) rfl (fun ls hl => ?_)
      refine lv_iload_n hx hb dX5_machine_53 rfl (lv_at hl 0 rfl) ?_
      refine z_if_ne (tgt := 59) hx hb dX5_machine_54 (by decide) ⟨by decide, by decide⟩ (fun q => absurd q (by decide)) (fun _ => ?_)
      refine lv_iconst (v := zI (-1)) hx hb dX5_machine_57 rfl ?_
      have e9 : S0 = rmachS S0 t a := by unfold rmachS; first | (exfalso; omega) | rw [if_neg (by omega)] | rw [if_pos (by omega), if_pos (by omega)] | rw [if_pos (by omega), if_neg (by omega), if_pos (by omega)] | rw [if_pos (by omega), if_neg (by omega), if_neg (by omega)] | rw [if_pos (by omega), if_neg (by omega)]
      rw [e9] at hG
      have v9 : (-1) = rmachV S0 t a := by unfold rmachV; first | (exfalso; omega) | rw [if_neg (by omega)] | rw [if_pos (by omega), if_pos (by omega)] | rw [if_pos (by omega), if_neg (by omega), if_pos (by omega)] | rw [if_pos (by omega), if_neg (by omega), if_neg (by omega)] | rw [if_pos (by omega), if_neg (by omega)]
      refine W.eq (congrArg (fun z => F0 m0 58 ls [.int (zI z)]) v9) ?_
      exact W.iret hx hb hr (fun t ht hW => ⟨rfl, ⟨by rw [ht]; exact hG, va_K.moved hW.alike hK⟩, hS.F ht⟩) hS.2.2 dX5_machine_58
    · refine lv_iload_n hx hb dX5_machine_17 rfl (lv_at hl 1 rfl) ?_
      refine lv_sipush (v := zI 10000) hx hb dX5_machine_18 (by decide) ?_
      refine z_icmp_gt (tgt := 51) hx hb dX5_machine_21 (by decide) ⟨by omega, by omega⟩ ⟨by decide, by decide⟩ (fun c_5 => ?_) (fun c_5 => ?_)
      · refine lv_iconst (v := zI 0) hx hb dX5_machine_51 rfl ?_
        refine lv_istore_n (lv' := [(3, .int (zI 0)), (0, .ref (ad 32 0)), (1, .int (zI t)), (2, .int (zI a))]) hx hb dX5_machine_52 rfl hl (by decide) rfl (fun ls hl => ?_)
        refine lv_iload_n hx hb dX5_machine_53 rfl (lv_at hl 0 rfl) ?_
        refine z_if_ne (tgt := 59) hx hb dX5_machine_54 (by decide) ⟨by decide, by decide⟩ (fun q => absurd q (by decide)) (fun _ => ?_)
        refine lv_iconst (v := zI (-1)) hx hb dX5_machine_57 rfl ?_
        have e9 : S0 = rmachS S0 t a := by unfold rmachS; first | (exfalso; omega) | rw [if_neg (by omega)] | rw [if_pos (by omega), if_pos (by omega)] | rw [if_pos (by omega), if_neg (by omega), if_pos (by omega)] | rw [if_pos (by omega), if_neg (by omega), if_neg (by omega)] | rw [if_pos (by omega), if_neg (by omega)]
        rw [e9] at hG
        have v9 : (-1) = rmachV S0 t a := by unfold rmachV; first | (exfalso; omega) | rw [if_neg (by omega)] | rw [if_pos (by omega), if_pos (by omega)] | rw [if_pos (by omega), if_neg (by omega), if_pos (by omega)] | rw [if_pos (by omega), if_neg (by omega), if_neg (by omega)] | rw [if_pos (by omega), if_neg (by omega)]
        refine W.eq (congrArg (fun z => F0 m0 58 ls [.int (zI z)]) v9) ?_
        exact W.iret hx hb hr (fun t ht hW => ⟨rfl, ⟨by rw [ht]; exact hG, va_K.moved hW.alike hK⟩, hS.F ht⟩) hS.2.2 dX5_machine_58
      · refine lv_iload_n hx hb dX5_machine_24 rfl (lv_at hl 2 rfl) ?_
        refine lv_iconst (v := zI (-1)) hx hb dX5_machine_25 rfl ?_
        refine z_icmp_eq (tgt := 47) hx hb dX5_machine_26 (by decide) ⟨by omega, by omega⟩ ⟨by decide, by decide⟩ (fun c_7 => ?_) (fun c_7 => ?_)
        · refine lv_iconst (v := zI 1) hx hb dX5_machine_47 rfl ?_
          refine lv_goto (tgt := 52) hx hb dX5_machine_48 (by decide) ?_
          refine lv_istore_n (lv' := [(3, .int (zI 1)), (0, .ref (ad 32 0)), (1, .int (zI t)), (2, .int (zI a))]) hx hb dX5_machine_52 rfl hl (by decide) rfl (fun ls hl => ?_)
          refine lv_iload_n hx hb dX5_machine_53 rfl (lv_at hl 0 rfl) ?_
          refine z_if_ne (tgt := 59) hx hb dX5_machine_54 (by decide) ⟨by decide, by decide⟩ (fun _ => ?_) (fun q => absurd q (by decide))
          refine lv_aload_n hx hb dX5_machine_59 rfl (lv_at hl 1 rfl) ?_
          refine r_getI hx hb hts hin hown hK hG 5 (by decide) rfl (hts (.fieldLink RX5 91 "LineEventsModel" "machines" "I") (by decide +kernel)) (z := S0 5 0 0) (rfl) dX5_machine_60 ?_
          refine lv_bipush (v := zI 12) hx hb dX5_machine_63 (by decide) ?_
          refine z_icmp_ne (tgt := 71) hx hb dX5_machine_65 (by decide) ⟨by omega, by omega⟩ ⟨by decide, by decide⟩ (fun c_9 => ?_) (fun c_9 => ?_)
          · refine lv_aload_n hx hb dX5_machine_71 rfl (lv_at hl 1 rfl) ?_
            refine r_getI hx hb hts hin hown hK hG 5 (by decide) rfl (hts (.fieldLink RX5 91 "LineEventsModel" "machines" "I") (by decide +kernel)) (z := S0 5 0 0) (rfl) dX5_machine_72 ?_
            refine lv_istore (lv' := [(4, .int (zI (S0 5 0 0))), (3, .int (zI 1)), (0, .ref (ad 32 0)), (1, .int (zI t)), (2, .int (zI a))]) hx hb dX5_machine_75 hl (by decide) rfl (fun ls hl => ?_)
            refine lv_aload_n hx hb dX5_machine_77 rfl (lv_at hl 2 rfl) ?_
            refine r_getA hx hb hts hin hown hK hG 0 (by decide) (by decide) (hts (.fieldLink RX5 9 "LineEventsModel" "takes" "[I") (by decide +kernel)) dX5_machine_78 ?_
            refine lv_iload hx hb dX5_machine_81 (lv_at hl 0 rfl) ?_
            refine lv_iload_n hx hb dX5_machine_83 rfl (lv_at hl 3 rfl) ?_
            refine r_iast hx hb hK hG hS 0 (by decide) rfl (S0 5 0 0).toNat 0 (by simp only [show rW 0 = 1 from rfl]; omega) (by simp only [show rN 0 = 12 from rfl]; omega) (by simp only [show rW 0 = 1 from rfl]; omega) (w := t) dX5_machine_84 (fun H locs hG hS => ?_)
            refine lv_aload_n hx hb dX5_machine_85 rfl (lv_at hl 2 rfl) ?_
            refine r_getA hx hb hts hin hown hK hG 1 (by decide) (by decide) (hts (.fieldLink RX5 13 "LineEventsModel" "before" "[I") (by decide +kernel)) dX5_machine_86 ?_
            refine lv_iload hx hb dX5_machine_89 (lv_at hl 0 rfl) ?_
            refine lv_iload_n hx hb dX5_machine_91 rfl (lv_at hl 4 rfl) ?_
            refine r_iast hx hb hK hG hS 1 (by decide) rfl (S0 5 0 0).toNat 0 (by simp only [show rW 1 = 1 from rfl]; omega) (by simp only [show rN 1 = 12 from rfl]; omega) (by simp only [show rW 1 = 1 from rfl]; omega) (w := a) dX5_machine_92 (fun H locs hG hS => ?_)
            refine lv_aload_n hx hb dX5_machine_93 rfl (lv_at hl 2 rfl) ?_
            refine r_getA hx hb hts hin hown hK hG 2 (by decide) (by decide) (hts (.fieldLink RX5 16 "LineEventsModel" "behind" "[I") (by decide +kernel)) dX5_machine_94 ?_
            refine lv_iload hx hb dX5_machine_97 (lv_at hl 0 rfl) ?_
            refine lv_iconst (v := zI (-1)) hx hb dX5_machine_99 rfl ?_
            refine r_iast hx hb hK hG hS 2 (by decide) rfl (S0 5 0 0).toNat 0 (by simp only [show rW 2 = 1 from rfl]; omega) (by simp only [show rN 2 = 12 from rfl]; omega) (by simp only [show rW 2 = 1 from rfl]; omega) (w := (-1)) dX5_machine_100 (fun H locs hG hS => ?_)
            refine lv_aload_n hx hb dX5_machine_101 rfl (lv_at hl 2 rfl) ?_
            refine r_getA hx hb hts hin hown hK hG 3 (by decide) (by decide) (hts (.fieldLink RX5 19 "LineEventsModel" "room" "[I") (by decide +kernel)) dX5_machine_102 ?_
            refine lv_iload hx hb dX5_machine_105 (lv_at hl 0 rfl) ?_
            refine lv_iconst (v := zI 1) hx hb dX5_machine_107 rfl ?_
            refine r_iast hx hb hK hG hS 3 (by decide) rfl (S0 5 0 0).toNat 0 (by simp only [show rW 3 = 1 from rfl]; omega) (by simp only [show rN 3 = 12 from rfl]; omega) (by simp only [show rW 3 = 1 from rfl]; omega) (w := 1) dX5_machine_108 (fun H locs hG hS => ?_)
            refine lv_aload_n hx hb dX5_machine_109 rfl (lv_at hl 2 rfl) ?_
            refine r_getA hx hb hts hin hown hK hG 4 (by decide) (by decide) (hts (.fieldLink RX5 22 "LineEventsModel" "delay" "[I") (by decide +kernel)) dX5_machine_110 ?_
            refine lv_iload hx hb dX5_machine_113 (lv_at hl 0 rfl) ?_
            refine lv_iconst (v := zI 0) hx hb dX5_machine_115 rfl ?_
            refine r_iast hx hb hK hG hS 4 (by decide) rfl (S0 5 0 0).toNat 0 (by simp only [show rW 4 = 1 from rfl]; omega) (by simp only [show rN 4 = 12 from rfl]; omega) (by simp only [show rW 4 = 1 from rfl]; omega) (w := 0) dX5_machine_116 (fun H locs hG hS => ?_)
            refine lv_iload_n hx hb dX5_machine_117 rfl (lv_at hl 4 rfl) ?_
            refine lv_iconst (v := zI (-1)) hx hb dX5_machine_118 rfl ?_
            refine z_icmp_eq (tgt := 130) hx hb dX5_machine_119 (by decide) ⟨by omega, by omega⟩ ⟨by decide, by decide⟩ (fun c_10 => ?_) (fun c_10 => ?_)
            · refine lv_aload_n hx hb dX5_machine_130 rfl (lv_at hl 2 rfl) ?_
              refine lv_dup hx hb dX5_machine_131 rfl ?_
              refine r_getI hx hb hts hin hown hK hG 5 (by decide) rfl (hts (.fieldLink RX5 91 "LineEventsModel" "machines" "I") (by decide +kernel)) (z := S0 5 0 0) (by simp [su]) dX5_machine_132 ?_
              refine lv_iconst (v := zI 1) hx hb dX5_machine_135 rfl ?_
              refine z_iadd hx hb dX5_machine_136 ?_
              refine r_putI hx hb hts hin hown hK hG hS 5 (by decide) rfl (hts (.fieldLink RX5 91 "LineEventsModel" "machines" "I") (by decide +kernel)) rfl rfl (z := (S0 5 0 0) + 1) dX5_machine_137 (fun H locs hG hS => ?_)
              refine lv_iload hx hb dX5_machine_140 (lv_at hl 0 rfl) ?_
              have e9 : su (su (su (su (su (su S0 0 (S0 5 0 0).toNat 0 (t)) 1 (S0 5 0 0).toNat 0 (a)) 2 (S0 5 0 0).toNat 0 ((-1))) 3 (S0 5 0 0).toNat 0 (1)) 4 (S0 5 0 0).toNat 0 (0)) 5 0 0 ((S0 5 0 0) + 1) = rmachS S0 t a := by unfold rmachS; first | (exfalso; omega) | rw [if_neg (by omega)] | rw [if_pos (by omega), if_pos (by omega)] | rw [if_pos (by omega), if_neg (by omega), if_pos (by omega)] | rw [if_pos (by omega), if_neg (by omega), if_neg (by omega)] | rw [if_pos (by omega), if_neg (by omega)]
              rw [e9] at hG
              have v9 : S0 5 0 0 = rmachV S0 t a := by unfold rmachV; first | (exfalso; omega) | rw [if_neg (by omega)] | rw [if_pos (by omega), if_pos (by omega)] | rw [if_pos (by omega), if_neg (by omega), if_pos (by omega)] | rw [if_pos (by omega), if_neg (by omega), if_neg (by omega)] | rw [if_pos (by omega), if_neg (by omega)]
              refine W.eq (congrArg (fun z => F0 m0 142 ls [.int (zI z)]) v9) ?_
              exact W.iret hx hb hr (fun t ht hW => ⟨rfl, ⟨by rw [ht]; exact hG, va_K.moved hW.alike hK⟩, hS.F ht⟩) hS.2.2 dX5_machine_142
            · refine lv_aload_n hx hb dX5_machine_122 rfl (lv_at hl 2 rfl) ?_
              refine r_getA hx hb hts hin hown hK hG 2 (by decide) (by decide) (hts (.fieldLink RX5 16 "LineEventsModel" "behind" "[I") (by decide +kernel)) dX5_machine_123 ?_
              refine lv_iload_n hx hb dX5_machine_126 rfl (lv_at hl 4 rfl) ?_
              refine lv_iload hx hb dX5_machine_127 (lv_at hl 0 rfl) ?_
              refine r_iast hx hb hK hG hS 2 (by decide) rfl (a).toNat 0 (by simp only [show rW 2 = 1 from rfl]; omega) (by simp only [show rN 2 = 12 from rfl]; omega) (by simp only [show rW 2 = 1 from rfl]; omega) (w := S0 5 0 0) dX5_machine_129 (fun H locs hG hS => ?_)
              refine lv_aload_n hx hb dX5_machine_130 rfl (lv_at hl 2 rfl) ?_
              refine lv_dup hx hb dX5_machine_131 rfl ?_
              refine r_getI hx hb hts hin hown hK hG 5 (by decide) rfl (hts (.fieldLink RX5 91 "LineEventsModel" "machines" "I") (by decide +kernel)) (z := S0 5 0 0) (by simp [su]) dX5_machine_132 ?_
              refine lv_iconst (v := zI 1) hx hb dX5_machine_135 rfl ?_
              refine z_iadd hx hb dX5_machine_136 ?_
              refine r_putI hx hb hts hin hown hK hG hS 5 (by decide) rfl (hts (.fieldLink RX5 91 "LineEventsModel" "machines" "I") (by decide +kernel)) rfl rfl (z := (S0 5 0 0) + 1) dX5_machine_137 (fun H locs hG hS => ?_)
              refine lv_iload hx hb dX5_machine_140 (lv_at hl 0 rfl) ?_
              have e9 : su (su (su (su (su (su (su S0 0 (S0 5 0 0).toNat 0 (t)) 1 (S0 5 0 0).toNat 0 (a)) 2 (S0 5 0 0).toNat 0 ((-1))) 3 (S0 5 0 0).toNat 0 (1)) 4 (S0 5 0 0).toNat 0 (0)) 2 (a).toNat 0 (S0 5 0 0)) 5 0 0 ((S0 5 0 0) + 1) = rmachS S0 t a := by unfold rmachS; first | (exfalso; omega) | rw [if_neg (by omega)] | rw [if_pos (by omega), if_pos (by omega)] | rw [if_pos (by omega), if_neg (by omega), if_pos (by omega)] | rw [if_pos (by omega), if_neg (by omega), if_neg (by omega)] | rw [if_pos (by omega), if_neg (by omega)]
              rw [e9] at hG
              have v9 : S0 5 0 0 = rmachV S0 t a := by unfold rmachV; first | (exfalso; omega) | rw [if_neg (by omega)] | rw [if_pos (by omega), if_pos (by omega)] | rw [if_pos (by omega), if_neg (by omega), if_pos (by omega)] | rw [if_pos (by omega), if_neg (by omega), if_neg (by omega)] | rw [if_pos (by omega), if_neg (by omega)]
              refine W.eq (congrArg (fun z => F0 m0 142 ls [.int (zI z)]) v9) ?_
              exact W.iret hx hb hr (fun t ht hW => ⟨rfl, ⟨by rw [ht]; exact hG, va_K.moved hW.alike hK⟩, hS.F ht⟩) hS.2.2 dX5_machine_142
          · refine lv_bipush (v := zI (-2)) hx hb dX5_machine_68 (by decide) ?_
            have e9 : S0 = rmachS S0 t a := by unfold rmachS; first | (exfalso; omega) | rw [if_neg (by omega)] | rw [if_pos (by omega), if_pos (by omega)] | rw [if_pos (by omega), if_neg (by omega), if_pos (by omega)] | rw [if_pos (by omega), if_neg (by omega), if_neg (by omega)] | rw [if_pos (by omega), if_neg (by omega)]
            rw [e9] at hG
            have v9 : (-2) = rmachV S0 t a := by unfold rmachV; first | (exfalso; omega) | rw [if_neg (by omega)] | rw [if_pos (by omega), if_pos (by omega)] | rw [if_pos (by omega), if_neg (by omega), if_pos (by omega)] | rw [if_pos (by omega), if_neg (by omega), if_neg (by omega)] | rw [if_pos (by omega), if_neg (by omega)]
            refine W.eq (congrArg (fun z => F0 m0 70 ls [.int (zI z)]) v9) ?_
            exact W.iret hx hb hr (fun t ht hW => ⟨rfl, ⟨by rw [ht]; exact hG, va_K.moved hW.alike hK⟩, hS.F ht⟩) hS.2.2 dX5_machine_70
        · refine lv_aload_n hx hb dX5_machine_29 rfl (lv_at hl 0 rfl) ?_
          refine lv_iload_n hx hb dX5_machine_30 rfl (lv_at hl 2 rfl) ?_
          refine r_callV (As := [.int (zI a)]) (rest := []) ⟨hx, hb, hml, hown, hts⟩ (m_X5_isMachine l D cI cJ A ad S0 a ha0 hI5) (cwV 1 hts gX5_machine_X5_isMachine rfl rfl rfl (by decide +kernel) ⟨Nat.le_of_ble_eq_true rfl, Nat.le_of_ble_eq_true rfl⟩) hK hG hS rfl hl.1 rfl (Nat.le_of_ble_eq_true rfl) dX5_machine_31 ⟨Nat.zero_le _, Nat.zero_le _⟩ (fun H locs hG hS => ?_)
          refine z_ifb_eq (tgt := 51) hx hb dX5_machine_34 (by decide) (fun c_11 => ?_) (fun c_11 => ?_)
          · refine lv_iconst (v := zI 0) hx hb dX5_machine_51 rfl ?_
            refine lv_istore_n (lv' := [(3, .int (zI 0)), (0, .ref (ad 32 0)), (1, .int (zI t)), (2, .int (zI a))]) hx hb dX5_machine_52 rfl hl (by decide) rfl (fun ls hl => ?_)
            refine lv_iload_n hx hb dX5_machine_53 rfl (lv_at hl 0 rfl) ?_
            refine z_if_ne (tgt := 59) hx hb dX5_machine_54 (by decide) ⟨by decide, by decide⟩ (fun q => absurd q (by decide)) (fun _ => ?_)
            refine lv_iconst (v := zI (-1)) hx hb dX5_machine_57 rfl ?_
            have e9 : S0 = rmachS S0 t a := by unfold rmachS; first | (exfalso; omega) | rw [if_neg (by omega)] | rw [if_pos (by omega), if_pos (by omega)] | rw [if_pos (by omega), if_neg (by omega), if_pos (by omega)] | rw [if_pos (by omega), if_neg (by omega), if_neg (by omega)] | rw [if_pos (by omega), if_neg (by omega)]
            rw [e9] at hG
            have v9 : (-1) = rmachV S0 t a := by unfold rmachV; first | (exfalso; omega) | rw [if_neg (by omega)] | rw [if_pos (by omega), if_pos (by omega)] | rw [if_pos (by omega), if_neg (by omega), if_pos (by omega)] | rw [if_pos (by omega), if_neg (by omega), if_neg (by omega)] | rw [if_pos (by omega), if_neg (by omega)]
            refine W.eq (congrArg (fun z => F0 m0 58 ls [.int (zI z)]) v9) ?_
            exact W.iret hx hb hr (fun t ht hW => ⟨rfl, ⟨by rw [ht]; exact hG, va_K.moved hW.alike hK⟩, hS.F ht⟩) hS.2.2 dX5_machine_58
          · obtain ⟨hL0, hL1, hL2, hL3, hL4⟩ := id (hIL a.toNat (by omega))
            refine lv_aload_n hx hb dX5_machine_37 rfl (lv_at hl 0 rfl) ?_
            refine r_getA hx hb hts hin hown hK hG 2 (by decide) (by decide) (hts (.fieldLink RX5 16 "LineEventsModel" "behind" "[I") (by decide +kernel)) dX5_machine_38 ?_
            refine lv_iload_n hx hb dX5_machine_41 rfl (lv_at hl 2 rfl) ?_
            refine r_iald hx hb hK hG 2 (by decide) rfl (a).toNat 0 (by simp only [show rW 2 = 1 from rfl]; omega) (by simp only [show rN 2 = 12 from rfl]; omega) (by simp only [show rW 2 = 1 from rfl]; omega) (w := S0 2 (a).toNat 0) (rfl) dX5_machine_42 ?_
            refine lv_iconst (v := zI (-1)) hx hb dX5_machine_43 rfl ?_
            refine z_icmp_ne (tgt := 51) hx hb dX5_machine_44 (by decide) ⟨by omega, by omega⟩ ⟨by decide, by decide⟩ (fun c_13 => ?_) (fun c_13 => ?_)
            · refine lv_iconst (v := zI 0) hx hb dX5_machine_51 rfl ?_
              refine lv_istore_n (lv' := [(3, .int (zI 0)), (0, .ref (ad 32 0)), (1, .int (zI t)), (2, .int (zI a))]) hx hb dX5_machine_52 rfl hl (by decide) rfl (fun ls hl => ?_)
              refine lv_iload_n hx hb dX5_machine_53 rfl (lv_at hl 0 rfl) ?_
              refine z_if_ne (tgt := 59) hx hb dX5_machine_54 (by decide) ⟨by decide, by decide⟩ (fun q => absurd q (by decide)) (fun _ => ?_)
              refine lv_iconst (v := zI (-1)) hx hb dX5_machine_57 rfl ?_
              have e9 : S0 = rmachS S0 t a := by unfold rmachS; first | (exfalso; omega) | rw [if_neg (by omega)] | rw [if_pos (by omega), if_pos (by omega)] | rw [if_pos (by omega), if_neg (by omega), if_pos (by omega)] | rw [if_pos (by omega), if_neg (by omega), if_neg (by omega)] | rw [if_pos (by omega), if_neg (by omega)]
              rw [e9] at hG
              have v9 : (-1) = rmachV S0 t a := by unfold rmachV; first | (exfalso; omega) | rw [if_neg (by omega)] | rw [if_pos (by omega), if_pos (by omega)] | rw [if_pos (by omega), if_neg (by omega), if_pos (by omega)] | rw [if_pos (by omega), if_neg (by omega), if_neg (by omega)] | rw [if_pos (by omega), if_neg (by omega)]
              refine W.eq (congrArg (fun z => F0 m0 58 ls [.int (zI z)]) v9) ?_
              exact W.iret hx hb hr (fun t ht hW => ⟨rfl, ⟨by rw [ht]; exact hG, va_K.moved hW.alike hK⟩, hS.F ht⟩) hS.2.2 dX5_machine_58
            · refine lv_iconst (v := zI 1) hx hb dX5_machine_47 rfl ?_
              refine lv_goto (tgt := 52) hx hb dX5_machine_48 (by decide) ?_
              refine lv_istore_n (lv' := [(3, .int (zI 1)), (0, .ref (ad 32 0)), (1, .int (zI t)), (2, .int (zI a))]) hx hb dX5_machine_52 rfl hl (by decide) rfl (fun ls hl => ?_)
              refine lv_iload_n hx hb dX5_machine_53 rfl (lv_at hl 0 rfl) ?_
              refine z_if_ne (tgt := 59) hx hb dX5_machine_54 (by decide) ⟨by decide, by decide⟩ (fun _ => ?_) (fun q => absurd q (by decide))
              refine lv_aload_n hx hb dX5_machine_59 rfl (lv_at hl 1 rfl) ?_
              refine r_getI hx hb hts hin hown hK hG 5 (by decide) rfl (hts (.fieldLink RX5 91 "LineEventsModel" "machines" "I") (by decide +kernel)) (z := S0 5 0 0) (rfl) dX5_machine_60 ?_
              refine lv_bipush (v := zI 12) hx hb dX5_machine_63 (by decide) ?_
              refine z_icmp_ne (tgt := 71) hx hb dX5_machine_65 (by decide) ⟨by omega, by omega⟩ ⟨by decide, by decide⟩ (fun c_16 => ?_) (fun c_16 => ?_)
              · refine lv_aload_n hx hb dX5_machine_71 rfl (lv_at hl 1 rfl) ?_
                refine r_getI hx hb hts hin hown hK hG 5 (by decide) rfl (hts (.fieldLink RX5 91 "LineEventsModel" "machines" "I") (by decide +kernel)) (z := S0 5 0 0) (rfl) dX5_machine_72 ?_
                refine lv_istore (lv' := [(4, .int (zI (S0 5 0 0))), (3, .int (zI 1)), (0, .ref (ad 32 0)), (1, .int (zI t)), (2, .int (zI a))]) hx hb dX5_machine_75 hl (by decide) rfl (fun ls hl => ?_)
                refine lv_aload_n hx hb dX5_machine_77 rfl (lv_at hl 2 rfl) ?_
                refine r_getA hx hb hts hin hown hK hG 0 (by decide) (by decide) (hts (.fieldLink RX5 9 "LineEventsModel" "takes" "[I") (by decide +kernel)) dX5_machine_78 ?_
                refine lv_iload hx hb dX5_machine_81 (lv_at hl 0 rfl) ?_
                refine lv_iload_n hx hb dX5_machine_83 rfl (lv_at hl 3 rfl) ?_
                refine r_iast hx hb hK hG hS 0 (by decide) rfl (S0 5 0 0).toNat 0 (by simp only [show rW 0 = 1 from rfl]; omega) (by simp only [show rN 0 = 12 from rfl]; omega) (by simp only [show rW 0 = 1 from rfl]; omega) (w := t) dX5_machine_84 (fun H locs hG hS => ?_)
                refine lv_aload_n hx hb dX5_machine_85 rfl (lv_at hl 2 rfl) ?_
                refine r_getA hx hb hts hin hown hK hG 1 (by decide) (by decide) (hts (.fieldLink RX5 13 "LineEventsModel" "before" "[I") (by decide +kernel)) dX5_machine_86 ?_
                refine lv_iload hx hb dX5_machine_89 (lv_at hl 0 rfl) ?_
                refine lv_iload_n hx hb dX5_machine_91 rfl (lv_at hl 4 rfl) ?_
                refine r_iast hx hb hK hG hS 1 (by decide) rfl (S0 5 0 0).toNat 0 (by simp only [show rW 1 = 1 from rfl]; omega) (by simp only [show rN 1 = 12 from rfl]; omega) (by simp only [show rW 1 = 1 from rfl]; omega) (w := a) dX5_machine_92 (fun H locs hG hS => ?_)
                refine lv_aload_n hx hb dX5_machine_93 rfl (lv_at hl 2 rfl) ?_
                refine r_getA hx hb hts hin hown hK hG 2 (by decide) (by decide) (hts (.fieldLink RX5 16 "LineEventsModel" "behind" "[I") (by decide +kernel)) dX5_machine_94 ?_
                refine lv_iload hx hb dX5_machine_97 (lv_at hl 0 rfl) ?_
                refine lv_iconst (v := zI (-1)) hx hb dX5_machine_99 rfl ?_
                refine r_iast hx hb hK hG hS 2 (by decide) rfl (S0 5 0 0).toNat 0 (by simp only [show rW 2 = 1 from rfl]; omega) (by simp only [show rN 2 = 12 from rfl]; omega) (by simp only [show rW 2 = 1 from rfl]; omega) (w := (-1)) dX5_machine_100 (fun H locs hG hS => ?_)
                refine lv_aload_n hx hb dX5_machine_101 rfl (lv_at hl 2 rfl) ?_
                refine r_getA hx hb hts hin hown hK hG 3 (by decide) (by decide) (hts (.fieldLink RX5 19 "LineEventsModel" "room" "[I") (by decide +kernel)) dX5_machine_102 ?_
                refine lv_iload hx hb dX5_machine_105 (lv_at hl 0 rfl) ?_
                refine lv_iconst (v := zI 1) hx hb dX5_machine_107 rfl ?_
                refine r_iast hx hb hK hG hS 3 (by decide) rfl (S0 5 0 0).toNat 0 (by simp only [show rW 3 = 1 from rfl]; omega) (by simp only [show rN 3 = 12 from rfl]; omega) (by simp only [show rW 3 = 1 from rfl]; omega) (w := 1) dX5_machine_108 (fun H locs hG hS => ?_)
                refine lv_aload_n hx hb dX5_machine_109 rfl (lv_at hl 2 rfl) ?_
                refine r_getA hx hb hts hin hown hK hG 4 (by decide) (by decide) (hts (.fieldLink RX5 22 "LineEventsModel" "delay" "[I") (by decide +kernel)) dX5_machine_110 ?_
                refine lv_iload hx hb dX5_machine_113 (lv_at hl 0 rfl) ?_
                refine lv_iconst (v := zI 0) hx hb dX5_machine_115 rfl ?_
                refine r_iast hx hb hK hG hS 4 (by decide) rfl (S0 5 0 0).toNat 0 (by simp only [show rW 4 = 1 from rfl]; omega) (by simp only [show rN 4 = 12 from rfl]; omega) (by simp only [show rW 4 = 1 from rfl]; omega) (w := 0) dX5_machine_116 (fun H locs hG hS => ?_)
                refine lv_iload_n hx hb dX5_machine_117 rfl (lv_at hl 4 rfl) ?_
                refine lv_iconst (v := zI (-1)) hx hb dX5_machine_118 rfl ?_
                refine z_icmp_eq (tgt := 130) hx hb dX5_machine_119 (by decide) ⟨by omega, by omega⟩ ⟨by decide, by decide⟩ (fun c_17 => ?_) (fun c_17 => ?_)
                · refine lv_aload_n hx hb dX5_machine_130 rfl (lv_at hl 2 rfl) ?_
                  refine lv_dup hx hb dX5_machine_131 rfl ?_
                  refine r_getI hx hb hts hin hown hK hG 5 (by decide) rfl (hts (.fieldLink RX5 91 "LineEventsModel" "machines" "I") (by decide +kernel)) (z := S0 5 0 0) (by simp [su]) dX5_machine_132 ?_
                  refine lv_iconst (v := zI 1) hx hb dX5_machine_135 rfl ?_
                  refine z_iadd hx hb dX5_machine_136 ?_
                  refine r_putI hx hb hts hin hown hK hG hS 5 (by decide) rfl (hts (.fieldLink RX5 91 "LineEventsModel" "machines" "I") (by decide +kernel)) rfl rfl (z := (S0 5 0 0) + 1) dX5_machine_137 (fun H locs hG hS => ?_)
                  refine lv_iload hx hb dX5_machine_140 (lv_at hl 0 rfl) ?_
                  have e9 : su (su (su (su (su (su S0 0 (S0 5 0 0).toNat 0 (t)) 1 (S0 5 0 0).toNat 0 (a)) 2 (S0 5 0 0).toNat 0 ((-1))) 3 (S0 5 0 0).toNat 0 (1)) 4 (S0 5 0 0).toNat 0 (0)) 5 0 0 ((S0 5 0 0) + 1) = rmachS S0 t a := by unfold rmachS; first | (exfalso; omega) | rw [if_neg (by omega)] | rw [if_pos (by omega), if_pos (by omega)] | rw [if_pos (by omega), if_neg (by omega), if_pos (by omega)] | rw [if_pos (by omega), if_neg (by omega), if_neg (by omega)] | rw [if_pos (by omega), if_neg (by omega)]
                  rw [e9] at hG
                  have v9 : S0 5 0 0 = rmachV S0 t a := by unfold rmachV; first | (exfalso; omega) | rw [if_neg (by omega)] | rw [if_pos (by omega), if_pos (by omega)] | rw [if_pos (by omega), if_neg (by omega), if_pos (by omega)] | rw [if_pos (by omega), if_neg (by omega), if_neg (by omega)] | rw [if_pos (by omega), if_neg (by omega)]
                  refine W.eq (congrArg (fun z => F0 m0 142 ls [.int (zI z)]) v9) ?_
                  exact W.iret hx hb hr (fun t ht hW => ⟨rfl, ⟨by rw [ht]; exact hG, va_K.moved hW.alike hK⟩, hS.F ht⟩) hS.2.2 dX5_machine_142
                · refine lv_aload_n hx hb dX5_machine_122 rfl (lv_at hl 2 rfl) ?_
                  refine r_getA hx hb hts hin hown hK hG 2 (by decide) (by decide) (hts (.fieldLink RX5 16 "LineEventsModel" "behind" "[I") (by decide +kernel)) dX5_machine_123 ?_
                  refine lv_iload_n hx hb dX5_machine_126 rfl (lv_at hl 4 rfl) ?_
                  refine lv_iload hx hb dX5_machine_127 (lv_at hl 0 rfl) ?_
                  refine r_iast hx hb hK hG hS 2 (by decide) rfl (a).toNat 0 (by simp only [show rW 2 = 1 from rfl]; omega) (by simp only [show rN 2 = 12 from rfl]; omega) (by simp only [show rW 2 = 1 from rfl]; omega) (w := S0 5 0 0) dX5_machine_129 (fun H locs hG hS => ?_)
                  refine lv_aload_n hx hb dX5_machine_130 rfl (lv_at hl 2 rfl) ?_
                  refine lv_dup hx hb dX5_machine_131 rfl ?_
                  refine r_getI hx hb hts hin hown hK hG 5 (by decide) rfl (hts (.fieldLink RX5 91 "LineEventsModel" "machines" "I") (by decide +kernel)) (z := S0 5 0 0) (by simp [su]) dX5_machine_132 ?_
                  refine lv_iconst (v := zI 1) hx hb dX5_machine_135 rfl ?_
                  refine z_iadd hx hb dX5_machine_136 ?_
                  refine r_putI hx hb hts hin hown hK hG hS 5 (by decide) rfl (hts (.fieldLink RX5 91 "LineEventsModel" "machines" "I") (by decide +kernel)) rfl rfl (z := (S0 5 0 0) + 1) dX5_machine_137 (fun H locs hG hS => ?_)
                  refine lv_iload hx hb dX5_machine_140 (lv_at hl 0 rfl) ?_
                  have e9 : su (su (su (su (su (su (su S0 0 (S0 5 0 0).toNat 0 (t)) 1 (S0 5 0 0).toNat 0 (a)) 2 (S0 5 0 0).toNat 0 ((-1))) 3 (S0 5 0 0).toNat 0 (1)) 4 (S0 5 0 0).toNat 0 (0)) 2 (a).toNat 0 (S0 5 0 0)) 5 0 0 ((S0 5 0 0) + 1) = rmachS S0 t a := by unfold rmachS; first | (exfalso; omega) | rw [if_neg (by omega)] | rw [if_pos (by omega), if_pos (by omega)] | rw [if_pos (by omega), if_neg (by omega), if_pos (by omega)] | rw [if_pos (by omega), if_neg (by omega), if_neg (by omega)] | rw [if_pos (by omega), if_neg (by omega)]
                  rw [e9] at hG
                  have v9 : S0 5 0 0 = rmachV S0 t a := by unfold rmachV; first | (exfalso; omega) | rw [if_neg (by omega)] | rw [if_pos (by omega), if_pos (by omega)] | rw [if_pos (by omega), if_neg (by omega), if_pos (by omega)] | rw [if_pos (by omega), if_neg (by omega), if_neg (by omega)] | rw [if_pos (by omega), if_neg (by omega)]
                  refine W.eq (congrArg (fun z => F0 m0 142 ls [.int (zI z)]) v9) ?_
                  exact W.iret hx hb hr (fun t ht hW => ⟨rfl, ⟨by rw [ht]; exact hG, va_K.moved hW.alike hK⟩, hS.F ht⟩) hS.2.2 dX5_machine_142
              · refine lv_bipush (v := zI (-2)) hx hb dX5_machine_68 (by decide) ?_
                have e9 : S0 = rmachS S0 t a := by unfold rmachS; first | (exfalso; omega) | rw [if_neg (by omega)] | rw [if_pos (by omega), if_pos (by omega)] | rw [if_pos (by omega), if_neg (by omega), if_pos (by omega)] | rw [if_pos (by omega), if_neg (by omega), if_neg (by omega)] | rw [if_pos (by omega), if_neg (by omega)]
                rw [e9] at hG
                have v9 : (-2) = rmachV S0 t a := by unfold rmachV; first | (exfalso; omega) | rw [if_neg (by omega)] | rw [if_pos (by omega), if_pos (by omega)] | rw [if_pos (by omega), if_neg (by omega), if_pos (by omega)] | rw [if_pos (by omega), if_neg (by omega), if_neg (by omega)] | rw [if_pos (by omega), if_neg (by omega)]
                refine W.eq (congrArg (fun z => F0 m0 70 ls [.int (zI z)]) v9) ?_
                exact W.iret hx hb hr (fun t ht hW => ⟨rfl, ⟨by rw [ht]; exact hG, va_K.moved hW.alike hK⟩, hS.F ht⟩) hS.2.2 dX5_machine_70
set_option maxHeartbeats 4000000 in
set_option maxRecDepth 100000 in
theorem m_X5_buffer (l : Launch) (D : va_G) (cI cJ : ClassId) (A : Nat → Prop) (ad : Nat → Nat → Nat) (S : Nat → Nat → Nat → Int) (z r d : Int) (hz0 : zB z) (hr0 : zB r) (hd0 : zB d) (hI : Inv S) : Met l yX5_buffer wsX5_buffer ({ frames := 1, cells := 0, slots := 0, locals := 21 }) (va_Pc [.ref (ad 32 0), .int (zI z), .int (zI r), .int (zI d)] (gRU D cI cJ A ad S)) (gO (some (.int (zI (rbufV (su S 31 0 0 0) z r d)))) (gRU D cI cJ A ad (rbufS (su S 31 0 0 0) z r d)) A) 0 0 A := by
  refine Met.ofW (cc := cX5_buffer) (maxL := 5) (ret := (some .int)) (by decide) rfl ?_
  intro p e s m0 args below meth c s₁ B hml hv
  obtain ⟨rfl, hG, hK⟩ := hv
  have hx := B.exec
  have hb := B.bytes
  have hr := B.returns
  have hts := atoms_spec (ws := wsX5_buffer) B.pre
  have hown : s.vm.findClass RX5 = some m0.cls := findClass_of_methodNamed B.named
  have hlocks := B.notSynchronized
  have hin : ∀ w ∈ wsX50, w ∈ wsX5_buffer := by decide +kernel
  have hS : va_S A s.heap s.heap [] := va_S.rf
  have hl := lv_entry ([.ref (ad 32 0), .int (zI z), .int (zI r), .int (zI d)]) (n := 5) (Nat.le_of_ble_eq_true rfl)
  rw [lg_entry_eq]
  generalize (lg_sl ([.ref (ad 32 0), .int (zI z), .int (zI r), .int (zI d)]) ++ List.replicate (5 - (lg_sl ([.ref (ad 32 0), .int (zI z), .int (zI r), .int (zI d)])).length) Slot.unset).toArray = ls at hl ⊢
  replace hl : lv_has ls 5 [(0, .ref (ad 32 0)), (1, .int (zI z)), (2, .int (zI r)), (3, .int (zI d))] := hl
  refine lv_aload_n hx hb dX5_buffer_0 rfl (lv_at hl 0 rfl) ?_
  refine lv_iconst (v := zI 0) hx hb dX5_buffer_1 rfl ?_
  refine r_putI hx hb hts hin hown hK hG hS 31 (by decide) rfl (hts (.fieldLink RX5 87 "LineEventsModel" "thrown" "I") (by decide +kernel)) rfl rfl (z := 0) dX5_buffer_2 (fun H locs hG hS => ?_)
  generalize hS0 : su S 31 0 0 0 = S0 at hG ⊢
  have hI0 : Inv S0 := by rw [← hS0]; exact hI
  obtain ⟨hI5, hI25, hI20, hIM, hIL, hIR⟩ := id hI0
  refine lv_aload_n hx hb dX5_buffer_5 rfl (lv_at hl 0 rfl) ?_
  refine r_getI hx hb hts hin hown hK hG 25 (by decide) rfl (hts (.fieldLink RX5 94 "LineEventsModel" "now" "I") (by decide +kernel)) (z := S0 25 0 0) (rfl) dX5_buffer_6 ?_
  refine z_if_gt (tgt := 43) hx hb dX5_buffer_9 (by decide) ⟨by omega, by omega⟩ (fun c_1 => ?_) (fun c_1 => ?_)
  · refine lv_iconst (v := zI (-1)) hx hb dX5_buffer_43 rfl ?_
    have e9 : S0 = rbufS S0 z r d := by unfold rbufS; first | (exfalso; omega) | rw [if_neg (by omega)] | rw [if_pos (by omega)]
    rw [e9] at hG
    have v9 : (-1) = rbufV S0 z r d := by unfold rbufV; first | (exfalso; omega) | rw [if_neg (by omega)] | rw [if_pos (by omega)]
    refine W.eq (congrArg (fun z => F0 m0 44 ls [.int (zI z)]) v9) ?_
    exact W.iret hx hb hr (fun t ht hW => ⟨rfl, ⟨by rw [ht]; exact hG, va_K.moved hW.alike hK⟩, hS.F ht⟩) hS.2.2 dX5_buffer_44
  · refine lv_aload_n hx hb dX5_buffer_12 rfl (lv_at hl 0 rfl) ?_
    refine lv_iload_n hx hb dX5_buffer_13 rfl (lv_at hl 1 rfl) ?_
    refine r_callV (As := [.int (zI z)]) (rest := []) ⟨hx, hb, hml, hown, hts⟩ (m_X5_isMachine l D cI cJ A ad S0 z hz0 hI5) (cwV 1 hts gX5_buffer_X5_isMachine rfl rfl rfl (by decide +kernel) ⟨Nat.le_of_ble_eq_true rfl, Nat.le_of_ble_eq_true rfl⟩) hK hG hS rfl hl.1 rfl (Nat.le_of_ble_eq_true rfl) dX5_buffer_14 ⟨Nat.zero_le _, Nat.zero_le _⟩ (fun H locs hG hS => ?_)
    refine z_ifb_eq (tgt := 43) hx hb dX5_buffer_17 (by decide) (fun c_2 => ?_) (fun c_2 => ?_)
    · refine lv_iconst (v := zI (-1)) hx hb dX5_buffer_43 rfl ?_
      have e9 : S0 = rbufS S0 z r d := by unfold rbufS; first | (exfalso; omega) | rw [if_neg (by omega)] | rw [if_pos (by omega)]
      rw [e9] at hG
      have v9 : (-1) = rbufV S0 z r d := by unfold rbufV; first | (exfalso; omega) | rw [if_neg (by omega)] | rw [if_pos (by omega)]
      refine W.eq (congrArg (fun z => F0 m0 44 ls [.int (zI z)]) v9) ?_
      exact W.iret hx hb hr (fun t ht hW => ⟨rfl, ⟨by rw [ht]; exact hG, va_K.moved hW.alike hK⟩, hS.F ht⟩) hS.2.2 dX5_buffer_44
    · obtain ⟨hL0, hL1, hL2, hL3, hL4⟩ := id (hIL z.toNat (by omega))
      refine lv_iload_n hx hb dX5_buffer_20 rfl (lv_at hl 2 rfl) ?_
      refine lv_iconst (v := zI 1) hx hb dX5_buffer_21 rfl ?_
      refine z_icmp_lt (tgt := 43) hx hb dX5_buffer_22 (by decide) ⟨by omega, by omega⟩ ⟨by decide, by decide⟩ (fun c_3 => ?_) (fun c_3 => ?_)
      · refine lv_iconst (v := zI (-1)) hx hb dX5_buffer_43 rfl ?_
        have e9 : S0 = rbufS S0 z r d := by unfold rbufS; first | (exfalso; omega) | rw [if_neg (by omega)] | rw [if_pos (by omega)]
        rw [e9] at hG
        have v9 : (-1) = rbufV S0 z r d := by unfold rbufV; first | (exfalso; omega) | rw [if_neg (by omega)] | rw [if_pos (by omega)]
        refine W.eq (congrArg (fun z => F0 m0 44 ls [.int (zI z)]) v9) ?_
        exact W.iret hx hb hr (fun t ht hW => ⟨rfl, ⟨by rw [ht]; exact hG, va_K.moved hW.alike hK⟩, hS.F ht⟩) hS.2.2 dX5_buffer_44
      · refine lv_iload_n hx hb dX5_buffer_25 rfl (lv_at hl 2 rfl) ?_
        refine lv_sipush (v := zI 1000) hx hb dX5_buffer_26 (by decide) ?_
        refine z_icmp_gt (tgt := 43) hx hb dX5_buffer_29 (by decide) ⟨by omega, by omega⟩ ⟨by decide, by decide⟩ (fun c_4 => ?_) (fun c_4 => ?_)
        · refine lv_iconst (v := zI (-1)) hx hb dX5_buffer_43 rfl ?_
          have e9 : S0 = rbufS S0 z r d := by unfold rbufS; first | (exfalso; omega) | rw [if_neg (by omega)] | rw [if_pos (by omega)]
          rw [e9] at hG
          have v9 : (-1) = rbufV S0 z r d := by unfold rbufV; first | (exfalso; omega) | rw [if_neg (by omega)] | rw [if_pos (by omega)]
          refine W.eq (congrArg (fun z => F0 m0 44 ls [.int (zI z)]) v9) ?_
          exact W.iret hx hb hr (fun t ht hW => ⟨rfl, ⟨by rw [ht]; exact hG, va_K.moved hW.alike hK⟩, hS.F ht⟩) hS.2.2 dX5_buffer_44
        · refine lv_iload_n hx hb dX5_buffer_32 rfl (lv_at hl 3 rfl) ?_
          refine z_if_lt (tgt := 43) hx hb dX5_buffer_33 (by decide) ⟨by omega, by omega⟩ (fun c_5 => ?_) (fun c_5 => ?_)
          · refine lv_iconst (v := zI (-1)) hx hb dX5_buffer_43 rfl ?_
            have e9 : S0 = rbufS S0 z r d := by unfold rbufS; first | (exfalso; omega) | rw [if_neg (by omega)] | rw [if_pos (by omega)]
            rw [e9] at hG
            have v9 : (-1) = rbufV S0 z r d := by unfold rbufV; first | (exfalso; omega) | rw [if_neg (by omega)] | rw [if_pos (by omega)]
            refine W.eq (congrArg (fun z => F0 m0 44 ls [.int (zI z)]) v9) ?_
            exact W.iret hx hb hr (fun t ht hW => ⟨rfl, ⟨by rw [ht]; exact hG, va_K.moved hW.alike hK⟩, hS.F ht⟩) hS.2.2 dX5_buffer_44
          · refine lv_iload_n hx hb dX5_buffer_36 rfl (lv_at hl 3 rfl) ?_
            refine lv_sipush (v := zI 10000) hx hb dX5_buffer_37 (by decide) ?_
            refine z_icmp_le (tgt := 45) hx hb dX5_buffer_40 (by decide) ⟨by omega, by omega⟩ ⟨by decide, by decide⟩ (fun c_6 => ?_) (fun c_6 => ?_)
            · refine lv_aload_n hx hb dX5_buffer_45 rfl (lv_at hl 0 rfl) ?_
              refine r_getA hx hb hts hin hown hK hG 3 (by decide) (by decide) (hts (.fieldLink RX5 19 "LineEventsModel" "room" "[I") (by decide +kernel)) dX5_buffer_46 ?_
              refine lv_iload_n hx hb dX5_buffer_49 rfl (lv_at hl 1 rfl) ?_
              refine r_iald hx hb hK hG 3 (by decide) rfl (z).toNat 0 (by simp only [show rW 3 = 1 from rfl]; omega) (by simp only [show rN 3 = 12 from rfl]; omega) (by simp only [show rW 3 = 1 from rfl]; omega) (w := S0 3 (z).toNat 0) (rfl) dX5_buffer_50 ?_
              refine lv_istore (lv' := [(4, .int (zI (S0 3 (z).toNat 0))), (0, .ref (ad 32 0)), (1, .int (zI z)), (2, .int (zI r)), (3, .int (zI d))]) hx hb dX5_buffer_51 hl (by decide) rfl (fun ls hl => ?_)
              refine lv_aload_n hx hb dX5_buffer_53 rfl (lv_at hl 1 rfl) ?_
              refine r_getA hx hb hts hin hown hK hG 3 (by decide) (by decide) (hts (.fieldLink RX5 19 "LineEventsModel" "room" "[I") (by decide +kernel)) dX5_buffer_54 ?_
              refine lv_iload_n hx hb dX5_buffer_57 rfl (lv_at hl 2 rfl) ?_
              refine lv_iload_n hx hb dX5_buffer_58 rfl (lv_at hl 3 rfl) ?_
              refine r_iast hx hb hK hG hS 3 (by decide) rfl (z).toNat 0 (by simp only [show rW 3 = 1 from rfl]; omega) (by simp only [show rN 3 = 12 from rfl]; omega) (by simp only [show rW 3 = 1 from rfl]; omega) (w := r) dX5_buffer_59 (fun H locs hG hS => ?_)
              refine lv_aload_n hx hb dX5_buffer_60 rfl (lv_at hl 1 rfl) ?_
              refine r_getA hx hb hts hin hown hK hG 4 (by decide) (by decide) (hts (.fieldLink RX5 22 "LineEventsModel" "delay" "[I") (by decide +kernel)) dX5_buffer_61 ?_
              refine lv_iload_n hx hb dX5_buffer_64 rfl (lv_at hl 2 rfl) ?_
              refine lv_iload_n hx hb dX5_buffer_65 rfl (lv_at hl 4 rfl) ?_
              refine r_iast hx hb hK hG hS 4 (by decide) rfl (z).toNat 0 (by simp only [show rW 4 = 1 from rfl]; omega) (by simp only [show rN 4 = 12 from rfl]; omega) (by simp only [show rW 4 = 1 from rfl]; omega) (w := d) dX5_buffer_66 (fun H locs hG hS => ?_)
              refine lv_iload hx hb dX5_buffer_67 (lv_at hl 0 rfl) ?_
              have e9 : su (su S0 3 (z).toNat 0 (r)) 4 (z).toNat 0 (d) = rbufS S0 z r d := by unfold rbufS; first | (exfalso; omega) | rw [if_neg (by omega)] | rw [if_pos (by omega)]
              rw [e9] at hG
              have v9 : S0 3 (z).toNat 0 = rbufV S0 z r d := by unfold rbufV; first | (exfalso; omega) | rw [if_neg (by omega)] | rw [if_pos (by omega)]
              refine W.eq (congrArg (fun z => F0 m0 69 ls [.int (zI z)]) v9) ?_
              exact W.iret hx hb hr (fun t ht hW => ⟨rfl, ⟨by rw [ht]; exact hG, va_K.moved hW.alike hK⟩, hS.F ht⟩) hS.2.2 dX5_buffer_69
            · refine lv_iconst (v := zI (-1)) hx hb dX5_buffer_43 rfl ?_
              have e9 : S0 = rbufS S0 z r d := by unfold rbufS; first | (exfalso; omega) | rw [if_neg (by omega)] | rw [if_pos (by omega)]
              rw [e9] at hG
              have v9 : (-1) = rbufV S0 z r d := by unfold rbufV; first | (exfalso; omega) | rw [if_neg (by omega)] | rw [if_pos (by omega)]
              refine W.eq (congrArg (fun z => F0 m0 44 ls [.int (zI z)]) v9) ?_
              exact W.iret hx hb hr (fun t ht hW => ⟨rfl, ⟨by rw [ht]; exact hG, va_K.moved hW.alike hK⟩, hS.F ht⟩) hS.2.2 dX5_buffer_44
set_option maxHeartbeats 4000000 in
set_option maxRecDepth 100000 in
theorem m_X5_fault (l : Launch) (D : va_G) (cI cJ : ClassId) (A : Nat → Prop) (ad : Nat → Nat → Nat) (S : Nat → Nat → Nat → Int) (z ab be t : Int) (hz0 : zB z) (hab0 : zC ab) (hbe0 : zC be) (ht0 : zB t) (hI : Inv S) : Met l yX5_fault wsX5_fault ({ frames := 1, cells := 0, slots := 0, locals := 21 }) (va_Pc [.ref (ad 32 0), .int (zI z), .long (zL ab), .long (zL be), .int (zI t)] (gRU D cI cJ A ad S)) (gO (some (.int (zI (bZ ((su S 31 0 0 0) 25 0 0 ≤ 0 ∧ (0 ≤ z ∧ z < (su S 31 0 0 0) 5 0 0) ∧ (1 ≤ be ∧ be ≤ 1000000) ∧ (0 ≤ ab ∧ ab ≤ be) ∧ (0 ≤ t ∧ t ≤ 100000) ∧ ¬ (su S 31 0 0 0) 15 z.toNat 0 = 4))))) (gRU D cI cJ A ad (rfaultS (su S 31 0 0 0) z ab be t)) A) 0 0 A := by
  refine Met.ofW (cc := cX5_fault) (maxL := 8) (ret := (some .boolean)) (by decide) rfl ?_
  intro p e s m0 args below meth c s₁ B hml hv
  obtain ⟨rfl, hG, hK⟩ := hv
  have hx := B.exec
  have hb := B.bytes
  have hr := B.returns
  have hts := atoms_spec (ws := wsX5_fault) B.pre
  have hown : s.vm.findClass RX5 = some m0.cls := findClass_of_methodNamed B.named
  have hlocks := B.notSynchronized
  have hin : ∀ w ∈ wsX50, w ∈ wsX5_fault := by decide +kernel
  have hS : va_S A s.heap s.heap [] := va_S.rf
  have hl := lv_entry ([.ref (ad 32 0), .int (zI z), .long (zL ab), .long (zL be), .int (zI t)]) (n := 8) (Nat.le_of_ble_eq_true rfl)
  rw [lg_entry_eq]
  generalize (lg_sl ([.ref (ad 32 0), .int (zI z), .long (zL ab), .long (zL be), .int (zI t)]) ++ List.replicate (8 - (lg_sl ([.ref (ad 32 0), .int (zI z), .long (zL ab), .long (zL be), .int (zI t)])).length) Slot.unset).toArray = ls at hl ⊢
  replace hl : lv_has ls 8 [(0, .ref (ad 32 0)), (1, .int (zI z)), (2, .long (zL ab)), (4, .long (zL be)), (6, .int (zI t))] := hl
  refine lv_aload_n hx hb dX5_fault_0 rfl (lv_at hl 0 rfl) ?_
  refine lv_iconst (v := zI 0) hx hb dX5_fault_1 rfl ?_
  refine r_putI hx hb hts hin hown hK hG hS 31 (by decide) rfl (hts (.fieldLink RX5 87 "LineEventsModel" "thrown" "I") (by decide +kernel)) rfl rfl (z := 0) dX5_fault_2 (fun H locs hG hS => ?_)
  generalize hS0 : su S 31 0 0 0 = S0 at hG ⊢
  have hI0 : Inv S0 := by rw [← hS0]; exact hI
  obtain ⟨hI5, hI25, hI20, hIM, hIL, hIR⟩ := id hI0
  refine lv_aload_n hx hb dX5_fault_5 rfl (lv_at hl 0 rfl) ?_
  refine r_getI hx hb hts hin hown hK hG 25 (by decide) rfl (hts (.fieldLink RX5 94 "LineEventsModel" "now" "I") (by decide +kernel)) (z := S0 25 0 0) (rfl) dX5_fault_6 ?_
  refine z_if_gt (tgt := 71) hx hb dX5_fault_9 (by decide) ⟨by omega, by omega⟩ (fun c_1 => ?_) (fun c_1 => ?_)
  · refine lv_iconst (v := zI 0) hx hb dX5_fault_71 rfl ?_
    have e9 : S0 = rfaultS S0 z ab be t := by unfold rfaultS; first | (exfalso; omega) | rw [if_neg (by omega)] | rw [if_pos (by omega)]
    rw [e9] at hG
    have v9 : 0 = bZ (S0 25 0 0 ≤ 0 ∧ (0 ≤ z ∧ z < S0 5 0 0) ∧ (1 ≤ be ∧ be ≤ 1000000) ∧ (0 ≤ ab ∧ ab ≤ be) ∧ (0 ≤ t ∧ t ≤ 100000) ∧ ¬ S0 15 z.toNat 0 = 4) := by first | (exfalso; omega) | exact (bZ_t (by omega)).symm | exact (bZ_f (by omega)).symm
    refine W.eq (congrArg (fun z => F0 m0 72 ls [.int (zI z)]) v9) ?_
    exact W.zret hx hb hr (zI_bool _) (fun t ht hW => ⟨rfl, ⟨by rw [ht]; exact hG, va_K.moved hW.alike hK⟩, hS.F ht⟩) hS.2.2 dX5_fault_72
  · refine lv_aload_n hx hb dX5_fault_12 rfl (lv_at hl 0 rfl) ?_
    refine lv_iload_n hx hb dX5_fault_13 rfl (lv_at hl 1 rfl) ?_
    refine r_callV (As := [.int (zI z)]) (rest := []) ⟨hx, hb, hml, hown, hts⟩ (m_X5_isMachine l D cI cJ A ad S0 z hz0 hI5) (cwV 1 hts gX5_fault_X5_isMachine rfl rfl rfl (by decide +kernel) ⟨Nat.le_of_ble_eq_true rfl, Nat.le_of_ble_eq_true rfl⟩) hK hG hS rfl hl.1 rfl (Nat.le_of_ble_eq_true rfl) dX5_fault_14 ⟨Nat.zero_le _, Nat.zero_le _⟩ (fun H locs hG hS => ?_)
    refine z_ifb_eq (tgt := 71) hx hb dX5_fault_17 (by decide) (fun c_2 => ?_) (fun c_2 => ?_)
    · refine lv_iconst (v := zI 0) hx hb dX5_fault_71 rfl ?_
      have e9 : S0 = rfaultS S0 z ab be t := by unfold rfaultS; first | (exfalso; omega) | rw [if_neg (by omega)] | rw [if_pos (by omega)]
      rw [e9] at hG
      have v9 : 0 = bZ (S0 25 0 0 ≤ 0 ∧ (0 ≤ z ∧ z < S0 5 0 0) ∧ (1 ≤ be ∧ be ≤ 1000000) ∧ (0 ≤ ab ∧ ab ≤ be) ∧ (0 ≤ t ∧ t ≤ 100000) ∧ ¬ S0 15 z.toNat 0 = 4) := by first | (exfalso; omega) | exact (bZ_t (by omega)).symm | exact (bZ_f (by omega)).symm
      refine W.eq (congrArg (fun z => F0 m0 72 ls [.int (zI z)]) v9) ?_
      exact W.zret hx hb hr (zI_bool _) (fun t ht hW => ⟨rfl, ⟨by rw [ht]; exact hG, va_K.moved hW.alike hK⟩, hS.F ht⟩) hS.2.2 dX5_fault_72
    · obtain ⟨hM6, hM7, hM8, hM10, hM11, hM15, hM9, hMf⟩ := id (hIM z.toNat (by omega))
      refine lv_lload hx hb dX5_fault_20 (lv_at hl 3 rfl) ?_
      refine lv_lconst (v := zL 1) hx hb dX5_fault_22 (by decide) ?_
      refine W.lcmp hx hb dX5_fault_23 ?_
      refine z_lif_lt (tgt := 71) hx hb dX5_fault_24 (by decide) hbe0 ⟨by decide, by decide⟩ (fun c_3 => ?_) (fun c_3 => ?_)
      · refine lv_iconst (v := zI 0) hx hb dX5_fault_71 rfl ?_
        have e9 : S0 = rfaultS S0 z ab be t := by unfold rfaultS; first | (exfalso; omega) | rw [if_neg (by omega)] | rw [if_pos (by omega)]
        rw [e9] at hG
        have v9 : 0 = bZ (S0 25 0 0 ≤ 0 ∧ (0 ≤ z ∧ z < S0 5 0 0) ∧ (1 ≤ be ∧ be ≤ 1000000) ∧ (0 ≤ ab ∧ ab ≤ be) ∧ (0 ≤ t ∧ t ≤ 100000) ∧ ¬ S0 15 z.toNat 0 = 4) := by first | (exfalso; omega) | exact (bZ_t (by omega)).symm | exact (bZ_f (by omega)).symm
        refine W.eq (congrArg (fun z => F0 m0 72 ls [.int (zI z)]) v9) ?_
        exact W.zret hx hb hr (zI_bool _) (fun t ht hW => ⟨rfl, ⟨by rw [ht]; exact hG, va_K.moved hW.alike hK⟩, hS.F ht⟩) hS.2.2 dX5_fault_72
      · refine lv_lload hx hb dX5_fault_27 (lv_at hl 3 rfl) ?_
        refine z_ldc2 (z := 1000000) hx hb hown (hts (.constantLong RX5 101 (1000000)) (by decide +kernel)) (by decide) dX5_fault_29 ?_
        refine W.lcmp hx hb dX5_fault_32 ?_
        refine z_lif_gt (tgt := 71) hx hb dX5_fault_33 (by decide) hbe0 ⟨by decide, by decide⟩ (fun c_4 => ?_) (fun c_4 => ?_)
        · refine lv_iconst (v := zI 0) hx hb dX5_fault_71 rfl ?_
          have e9 : S0 = rfaultS S0 z ab be t := by unfold rfaultS; first | (exfalso; omega) | rw [if_neg (by omega)] | rw [if_pos (by omega)]
          rw [e9] at hG
          have v9 : 0 = bZ (S0 25 0 0 ≤ 0 ∧ (0 ≤ z ∧ z < S0 5 0 0) ∧ (1 ≤ be ∧ be ≤ 1000000) ∧ (0 ≤ ab ∧ ab ≤ be) ∧ (0 ≤ t ∧ t ≤ 100000) ∧ ¬ S0 15 z.toNat 0 = 4) := by first | (exfalso; omega) | exact (bZ_t (by omega)).symm | exact (bZ_f (by omega)).symm
          refine W.eq (congrArg (fun z => F0 m0 72 ls [.int (zI z)]) v9) ?_
          exact W.zret hx hb hr (zI_bool _) (fun t ht hW => ⟨rfl, ⟨by rw [ht]; exact hG, va_K.moved hW.alike hK⟩, hS.F ht⟩) hS.2.2 dX5_fault_72
        · refine lv_lload_n hx hb dX5_fault_36 rfl (lv_at hl 2 rfl) ?_
          refine lv_lconst (v := zL 0) hx hb dX5_fault_37 (by decide) ?_
          refine W.lcmp hx hb dX5_fault_38 ?_
          refine z_lif_lt (tgt := 71) hx hb dX5_fault_39 (by decide) hab0 ⟨by decide, by decide⟩ (fun c_5 => ?_) (fun c_5 => ?_)
          · refine lv_iconst (v := zI 0) hx hb dX5_fault_71 rfl ?_
            have e9 : S0 = rfaultS S0 z ab be t := by unfold rfaultS; first | (exfalso; omega) | rw [if_neg (by omega)] | rw [if_pos (by omega)]
            rw [e9] at hG
            have v9 : 0 = bZ (S0 25 0 0 ≤ 0 ∧ (0 ≤ z ∧ z < S0 5 0 0) ∧ (1 ≤ be ∧ be ≤ 1000000) ∧ (0 ≤ ab ∧ ab ≤ be) ∧ (0 ≤ t ∧ t ≤ 100000) ∧ ¬ S0 15 z.toNat 0 = 4) := by first | (exfalso; omega) | exact (bZ_t (by omega)).symm | exact (bZ_f (by omega)).symm
            refine W.eq (congrArg (fun z => F0 m0 72 ls [.int (zI z)]) v9) ?_
            exact W.zret hx hb hr (zI_bool _) (fun t ht hW => ⟨rfl, ⟨by rw [ht]; exact hG, va_K.moved hW.alike hK⟩, hS.F ht⟩) hS.2.2 dX5_fault_72
          · refine lv_lload_n hx hb dX5_fault_42 rfl (lv_at hl 2 rfl) ?_
            refine lv_lload hx hb dX5_fault_43 (lv_at hl 3 rfl) ?_
            refine W.lcmp hx hb dX5_fault_45 ?_
            refine z_lif_gt (tgt := 71) hx hb dX5_fault_46 (by decide) hab0 hbe0 (fun c_6 => ?_) (fun c_6 => ?_)
            · refine lv_iconst (v := zI 0) hx hb dX5_fault_71 rfl ?_
              have e9 : S0 = rfaultS S0 z ab be t := by unfold rfaultS; first | (exfalso; omega) | rw [if_neg (by omega)] | rw [if_pos (by omega)]
              rw [e9] at hG
              have v9 : 0 = bZ (S0 25 0 0 ≤ 0 ∧ (0 ≤ z ∧ z < S0 5 0 0) ∧ (1 ≤ be ∧ be ≤ 1000000) ∧ (0 ≤ ab ∧ ab ≤ be) ∧ (0 ≤ t ∧ t ≤ 100000) ∧ ¬ S0 15 z.toNat 0 = 4) := by first | (exfalso; omega) | exact (bZ_t (by omega)).symm | exact (bZ_f (by omega)).symm
              refine W.eq (congrArg (fun z => F0 m0 72 ls [.int (zI z)]) v9) ?_
              exact W.zret hx hb hr (zI_bool _) (fun t ht hW => ⟨rfl, ⟨by rw [ht]; exact hG, va_K.moved hW.alike hK⟩, hS.F ht⟩) hS.2.2 dX5_fault_72
            · refine lv_iload hx hb dX5_fault_49 (lv_at hl 4 rfl) ?_
              refine z_if_lt (tgt := 71) hx hb dX5_fault_51 (by decide) ⟨by omega, by omega⟩ (fun c_7 => ?_) (fun c_7 => ?_)
              · refine lv_iconst (v := zI 0) hx hb dX5_fault_71 rfl ?_
                have e9 : S0 = rfaultS S0 z ab be t := by unfold rfaultS; first | (exfalso; omega) | rw [if_neg (by omega)] | rw [if_pos (by omega)]
                rw [e9] at hG
                have v9 : 0 = bZ (S0 25 0 0 ≤ 0 ∧ (0 ≤ z ∧ z < S0 5 0 0) ∧ (1 ≤ be ∧ be ≤ 1000000) ∧ (0 ≤ ab ∧ ab ≤ be) ∧ (0 ≤ t ∧ t ≤ 100000) ∧ ¬ S0 15 z.toNat 0 = 4) := by first | (exfalso; omega) | exact (bZ_t (by omega)).symm | exact (bZ_f (by omega)).symm
                refine W.eq (congrArg (fun z => F0 m0 72 ls [.int (zI z)]) v9) ?_
                exact W.zret hx hb hr (zI_bool _) (fun t ht hW => ⟨rfl, ⟨by rw [ht]; exact hG, va_K.moved hW.alike hK⟩, hS.F ht⟩) hS.2.2 dX5_fault_72
              · refine lv_iload hx hb dX5_fault_54 (lv_at hl 4 rfl) ?_
                refine z_ldc (z := 100000) hx hb hown (hts (.constant RX5 103 (100000)) (by decide +kernel)) (by decide) dX5_fault_56 ?_
                refine z_icmp_gt (tgt := 71) hx hb dX5_fault_58 (by decide) ⟨by omega, by omega⟩ ⟨by decide, by decide⟩ (fun c_8 => ?_) (fun c_8 => ?_)
                · refine lv_iconst (v := zI 0) hx hb dX5_fault_71 rfl ?_
                  have e9 : S0 = rfaultS S0 z ab be t := by unfold rfaultS; first | (exfalso; omega) | rw [if_neg (by omega)] | rw [if_pos (by omega)]
                  rw [e9] at hG
                  have v9 : 0 = bZ (S0 25 0 0 ≤ 0 ∧ (0 ≤ z ∧ z < S0 5 0 0) ∧ (1 ≤ be ∧ be ≤ 1000000) ∧ (0 ≤ ab ∧ ab ≤ be) ∧ (0 ≤ t ∧ t ≤ 100000) ∧ ¬ S0 15 z.toNat 0 = 4) := by first | (exfalso; omega) | exact (bZ_t (by omega)).symm | exact (bZ_f (by omega)).symm
                  refine W.eq (congrArg (fun z => F0 m0 72 ls [.int (zI z)]) v9) ?_
                  exact W.zret hx hb hr (zI_bool _) (fun t ht hW => ⟨rfl, ⟨by rw [ht]; exact hG, va_K.moved hW.alike hK⟩, hS.F ht⟩) hS.2.2 dX5_fault_72
                · refine lv_aload_n hx hb dX5_fault_61 rfl (lv_at hl 0 rfl) ?_
                  refine r_getA hx hb hts hin hown hK hG 15 (by decide) (by decide) (hts (.fieldLink RX5 53 "LineEventsModel" "faults" "[I") (by decide +kernel)) dX5_fault_62 ?_
                  refine lv_iload_n hx hb dX5_fault_65 rfl (lv_at hl 1 rfl) ?_
                  refine r_iald hx hb hK hG 15 (by decide) rfl (z).toNat 0 (by simp only [show rW 15 = 1 from rfl]; omega) (by simp only [show rN 15 = 12 from rfl]; omega) (by simp only [show rW 15 = 1 from rfl]; omega) (w := S0 15 (z).toNat 0) (rfl) dX5_fault_66 ?_
                  refine lv_iconst (v := zI 4) hx hb dX5_fault_67 rfl ?_
                  refine z_icmp_ne (tgt := 73) hx hb dX5_fault_68 (by decide) ⟨by omega, by omega⟩ ⟨by decide, by decide⟩ (fun c_9 => ?_) (fun c_9 => ?_)
                  · refine lv_iload_n hx hb dX5_fault_73 rfl (lv_at hl 1 rfl) ?_
                    refine lv_iconst (v := zI 4) hx hb dX5_fault_74 rfl ?_
                    refine z_imul hx hb dX5_fault_75 ?_
                    refine lv_aload_n hx hb dX5_fault_76 rfl (lv_at hl 0 rfl) ?_
                    refine r_getA hx hb hts hin hown hK hG 15 (by decide) (by decide) (hts (.fieldLink RX5 53 "LineEventsModel" "faults" "[I") (by decide +kernel)) dX5_fault_77 ?_
                    refine lv_iload_n hx hb dX5_fault_80 rfl (lv_at hl 1 rfl) ?_
                    refine r_iald hx hb hK hG 15 (by decide) rfl (z).toNat 0 (by simp only [show rW 15 = 1 from rfl]; omega) (by simp only [show rN 15 = 12 from rfl]; omega) (by simp only [show rW 15 = 1 from rfl]; omega) (w := S0 15 (z).toNat 0) (rfl) dX5_fault_81 ?_
                    refine z_iadd hx hb dX5_fault_82 ?_
                    refine lv_istore (lv' := [(7, .int (zI ((z * 4) + (S0 15 (z).toNat 0)))), (0, .ref (ad 32 0)), (1, .int (zI z)), (2, .long (zL ab)), (4, .long (zL be)), (6, .int (zI t))]) hx hb dX5_fault_83 hl (by decide) rfl (fun ls hl => ?_)
                    refine lv_aload_n hx hb dX5_fault_85 rfl (lv_at hl 1 rfl) ?_
                    refine r_getA hx hb hts hin hown hK hG 12 (by decide) (by decide) (hts (.fieldLink RX5 43 "LineEventsModel" "faultAbove" "[J") (by decide +kernel)) dX5_fault_86 ?_
                    refine lv_iload hx hb dX5_fault_89 (lv_at hl 0 rfl) ?_
                    refine lv_lload_n hx hb dX5_fault_91 rfl (lv_at hl 3 rfl) ?_
                    refine r_last hx hb hK hG hS 12 (by decide) rfl (z).toNat (S0 15 (z).toNat 0).toNat (by simp only [show rW 12 = 4 from rfl]; omega) (by simp only [show rN 12 = 12 from rfl]; omega) (by simp only [show rW 12 = 4 from rfl]; omega) (w := ab) dX5_fault_92 (fun H locs hG hS => ?_)
                    refine lv_aload_n hx hb dX5_fault_93 rfl (lv_at hl 1 rfl) ?_
                    refine r_getA hx hb hts hin hown hK hG 13 (by decide) (by decide) (hts (.fieldLink RX5 47 "LineEventsModel" "faultBelow" "[J") (by decide +kernel)) dX5_fault_94 ?_
                    refine lv_iload hx hb dX5_fault_97 (lv_at hl 0 rfl) ?_
                    refine lv_lload hx hb dX5_fault_99 (lv_at hl 4 rfl) ?_
                    refine r_last hx hb hK hG hS 13 (by decide) rfl (z).toNat (S0 15 (z).toNat 0).toNat (by simp only [show rW 13 = 4 from rfl]; omega) (by simp only [show rN 13 = 12 from rfl]; omega) (by simp only [show rW 13 = 4 from rfl]; omega) (w := be) dX5_fault_101 (fun H locs hG hS => ?_)
                    refine lv_aload_n hx hb dX5_fault_102 rfl (lv_at hl 1 rfl) ?_
                    refine r_getA hx hb hts hin hown hK hG 14 (by decide) (by decide) (hts (.fieldLink RX5 50 "LineEventsModel" "faultTenths" "[I") (by decide +kernel)) dX5_fault_103 ?_
                    refine lv_iload hx hb dX5_fault_106 (lv_at hl 0 rfl) ?_
                    refine lv_iload hx hb dX5_fault_108 (lv_at hl 5 rfl) ?_
                    refine r_iast hx hb hK hG hS 14 (by decide) rfl (z).toNat (S0 15 (z).toNat 0).toNat (by simp only [show rW 14 = 4 from rfl]; omega) (by simp only [show rN 14 = 12 from rfl]; omega) (by simp only [show rW 14 = 4 from rfl]; omega) (w := t) dX5_fault_110 (fun H locs hG hS => ?_)
                    refine lv_aload_n hx hb dX5_fault_111 rfl (lv_at hl 1 rfl) ?_
                    refine r_getA hx hb hts hin hown hK hG 15 (by decide) (by decide) (hts (.fieldLink RX5 53 "LineEventsModel" "faults" "[I") (by decide +kernel)) dX5_fault_112 ?_
                    refine lv_iload_n hx hb dX5_fault_115 rfl (lv_at hl 2 rfl) ?_
                    refine lv_dup2_11 hx hb dX5_fault_116 rfl rfl ?_
                    refine r_iald hx hb hK hG 15 (by decide) rfl (z).toNat 0 (by simp only [show rW 15 = 1 from rfl]; omega) (by simp only [show rN 15 = 12 from rfl]; omega) (by simp only [show rW 15 = 1 from rfl]; omega) (w := S0 15 (z).toNat 0) (by simp [su]) dX5_fault_117 ?_
                    refine lv_iconst (v := zI 1) hx hb dX5_fault_118 rfl ?_
                    refine z_iadd hx hb dX5_fault_119 ?_
                    refine r_iast hx hb hK hG hS 15 (by decide) rfl (z).toNat 0 (by simp only [show rW 15 = 1 from rfl]; omega) (by simp only [show rN 15 = 12 from rfl]; omega) (by simp only [show rW 15 = 1 from rfl]; omega) (w := (S0 15 (z).toNat 0) + 1) dX5_fault_120 (fun H locs hG hS => ?_)
                    refine lv_iconst (v := zI 1) hx hb dX5_fault_121 rfl ?_
                    have e9 : su (su (su (su S0 12 (z).toNat (S0 15 (z).toNat 0).toNat (ab)) 13 (z).toNat (S0 15 (z).toNat 0).toNat (be)) 14 (z).toNat (S0 15 (z).toNat 0).toNat (t)) 15 (z).toNat 0 ((S0 15 (z).toNat 0) + 1) = rfaultS S0 z ab be t := by unfold rfaultS; first | (exfalso; omega) | rw [if_neg (by omega)] | rw [if_pos (by omega)]
                    rw [e9] at hG
                    have v9 : 1 = bZ (S0 25 0 0 ≤ 0 ∧ (0 ≤ z ∧ z < S0 5 0 0) ∧ (1 ≤ be ∧ be ≤ 1000000) ∧ (0 ≤ ab ∧ ab ≤ be) ∧ (0 ≤ t ∧ t ≤ 100000) ∧ ¬ S0 15 z.toNat 0 = 4) := by first | (exfalso; omega) | exact (bZ_t (by omega)).symm | exact (bZ_f (by omega)).symm
                    refine W.eq (congrArg (fun z => F0 m0 122 ls [.int (zI z)]) v9) ?_
                    exact W.zret hx hb hr (zI_bool _) (fun t ht hW => ⟨rfl, ⟨by rw [ht]; exact hG, va_K.moved hW.alike hK⟩, hS.F ht⟩) hS.2.2 dX5_fault_122
                  · refine lv_iconst (v := zI 0) hx hb dX5_fault_71 rfl ?_
                    have e9 : S0 = rfaultS S0 z ab be t := by unfold rfaultS; first | (exfalso; omega) | rw [if_neg (by omega)] | rw [if_pos (by omega)]
                    rw [e9] at hG
                    have v9 : 0 = bZ (S0 25 0 0 ≤ 0 ∧ (0 ≤ z ∧ z < S0 5 0 0) ∧ (1 ≤ be ∧ be ≤ 1000000) ∧ (0 ≤ ab ∧ ab ≤ be) ∧ (0 ≤ t ∧ t ≤ 100000) ∧ ¬ S0 15 z.toNat 0 = 4) := by first | (exfalso; omega) | exact (bZ_t (by omega)).symm | exact (bZ_f (by omega)).symm
                    refine W.eq (congrArg (fun z => F0 m0 72 ls [.int (zI z)]) v9) ?_
                    exact W.zret hx hb hr (zI_bool _) (fun t ht hW => ⟨rfl, ⟨by rw [ht]; exact hG, va_K.moved hW.alike hK⟩, hS.F ht⟩) hS.2.2 dX5_fault_72
set_option maxHeartbeats 4000000 in
set_option maxRecDepth 100000 in
theorem m_X5_told (l : Launch) (D : va_G) (cI cJ : ClassId) (A : Nat → Prop) (ad : Nat → Nat → Nat) (S : Nat → Nat → Nat → Int) (mm f tt cs : Int) (hf0 : zB f) (htt0 : zC tt) (hI : Inv S) : Met l yX5_told wsX5_told ({ frames := 0, cells := 0, slots := 0, locals := 0 }) (va_Pc [.ref (ad 32 0), .int (zI mm), .int (zI f), .long (zL tt), .int (zI cs)] (gRU D cI cJ A ad S)) (gO (some (.int (zI (bZ (S 25 0 0 ≤ f ∧ f < tt ∧ tt ≤ 1000000000 ∧ ¬ S 20 0 0 = 64))))) (gRU D cI cJ A ad (rtoldS S mm f tt cs)) A) 0 0 A := by
  refine Met.ofW (cc := cX5_told) (maxL := 6) (ret := (some .boolean)) (by decide) rfl ?_
  intro p e s m0 args below meth c s₁ B hml hv
  obtain ⟨rfl, hG, hK⟩ := hv
  have hx := B.exec
  have hb := B.bytes
  have hr := B.returns
  have hts := atoms_spec (ws := wsX5_told) B.pre
  have hown : s.vm.findClass RX5 = some m0.cls := findClass_of_methodNamed B.named
  have hlocks := B.notSynchronized
  have hin : ∀ w ∈ wsX50, w ∈ wsX5_told := by decide +kernel
  have hS : va_S A s.heap s.heap [] := va_S.rf
  have hl := lv_entry ([.ref (ad 32 0), .int (zI mm), .int (zI f), .long (zL tt), .int (zI cs)]) (n := 6) (Nat.le_of_ble_eq_true rfl)
  rw [lg_entry_eq]
  generalize (lg_sl ([.ref (ad 32 0), .int (zI mm), .int (zI f), .long (zL tt), .int (zI cs)]) ++ List.replicate (6 - (lg_sl ([.ref (ad 32 0), .int (zI mm), .int (zI f), .long (zL tt), .int (zI cs)])).length) Slot.unset).toArray = ls at hl ⊢
  replace hl : lv_has ls 6 [(0, .ref (ad 32 0)), (1, .int (zI mm)), (2, .int (zI f)), (3, .long (zL tt)), (5, .int (zI cs))] := hl
  obtain ⟨hI5, hI25, hI20, hIM, hIL, hIR⟩ := id hI
  refine lv_iload_n hx hb dX5_told_0 rfl (lv_at hl 2 rfl) ?_
  refine lv_aload_n hx hb dX5_told_1 rfl (lv_at hl 0 rfl) ?_
  refine r_getI hx hb hts hin hown hK hG 25 (by decide) rfl (hts (.fieldLink RX5 94 "LineEventsModel" "now" "I") (by decide +kernel)) (z := S 25 0 0) (rfl) dX5_told_2 ?_
  refine z_icmp_lt (tgt := 32) hx hb dX5_told_5 (by decide) ⟨by omega, by omega⟩ ⟨by omega, by omega⟩ (fun c_1 => ?_) (fun c_1 => ?_)
  · refine lv_iconst (v := zI 0) hx hb dX5_told_32 rfl ?_
    have e9 : S = rtoldS S mm f tt cs := by unfold rtoldS; first | (exfalso; omega) | rw [if_neg (by omega)] | rw [if_pos (by omega)]
    rw [e9] at hG
    have v9 : 0 = bZ (S 25 0 0 ≤ f ∧ f < tt ∧ tt ≤ 1000000000 ∧ ¬ S 20 0 0 = 64) := by first | (exfalso; omega) | exact (bZ_t (by omega)).symm | exact (bZ_f (by omega)).symm
    refine W.eq (congrArg (fun z => F0 m0 33 ls [.int (zI z)]) v9) ?_
    exact W.zret hx hb hr (zI_bool _) (fun t ht hW => ⟨rfl, ⟨by rw [ht]; exact hG, va_K.moved hW.alike hK⟩, hS.F ht⟩) hS.2.2 dX5_told_33
  · refine lv_lload_n hx hb dX5_told_8 rfl (lv_at hl 3 rfl) ?_
    refine lv_iload_n hx hb dX5_told_9 rfl (lv_at hl 2 rfl) ?_
    refine z_i2l hx hb dX5_told_10 ⟨by omega, by omega⟩ ?_
    refine W.lcmp hx hb dX5_told_11 ?_
    refine z_lif_le (tgt := 32) hx hb dX5_told_12 (by decide) htt0 ⟨by omega, by omega⟩ (fun c_2 => ?_) (fun c_2 => ?_)
    · refine lv_iconst (v := zI 0) hx hb dX5_told_32 rfl ?_
      have e9 : S = rtoldS S mm f tt cs := by unfold rtoldS; first | (exfalso; omega) | rw [if_neg (by omega)] | rw [if_pos (by omega)]
      rw [e9] at hG
      have v9 : 0 = bZ (S 25 0 0 ≤ f ∧ f < tt ∧ tt ≤ 1000000000 ∧ ¬ S 20 0 0 = 64) := by first | (exfalso; omega) | exact (bZ_t (by omega)).symm | exact (bZ_f (by omega)).symm
      refine W.eq (congrArg (fun z => F0 m0 33 ls [.int (zI z)]) v9) ?_
      exact W.zret hx hb hr (zI_bool _) (fun t ht hW => ⟨rfl, ⟨by rw [ht]; exact hG, va_K.moved hW.alike hK⟩, hS.F ht⟩) hS.2.2 dX5_told_33
    · refine lv_lload_n hx hb dX5_told_15 rfl (lv_at hl 3 rfl) ?_
      refine z_ldc2 (z := 1000000000) hx hb hown (hts (.constantLong RX5 104 (1000000000)) (by decide +kernel)) (by decide) dX5_told_16 ?_
      refine W.lcmp hx hb dX5_told_19 ?_
      refine z_lif_gt (tgt := 32) hx hb dX5_told_20 (by decide) htt0 ⟨by decide, by decide⟩ (fun c_3 => ?_) (fun c_3 => ?_)
      · refine lv_iconst (v := zI 0) hx hb dX5_told_32 rfl ?_
        have e9 : S = rtoldS S mm f tt cs := by unfold rtoldS; first | (exfalso; omega) | rw [if_neg (by omega)] | rw [if_pos (by omega)]
        rw [e9] at hG
        have v9 : 0 = bZ (S 25 0 0 ≤ f ∧ f < tt ∧ tt ≤ 1000000000 ∧ ¬ S 20 0 0 = 64) := by first | (exfalso; omega) | exact (bZ_t (by omega)).symm | exact (bZ_f (by omega)).symm
        refine W.eq (congrArg (fun z => F0 m0 33 ls [.int (zI z)]) v9) ?_
        exact W.zret hx hb hr (zI_bool _) (fun t ht hW => ⟨rfl, ⟨by rw [ht]; exact hG, va_K.moved hW.alike hK⟩, hS.F ht⟩) hS.2.2 dX5_told_33
      · refine lv_aload_n hx hb dX5_told_23 rfl (lv_at hl 0 rfl) ?_
        refine r_getI hx hb hts hin hown hK hG 20 (by decide) rfl (hts (.fieldLink RX5 106 "LineEventsModel" "rows" "I") (by decide +kernel)) (z := S 20 0 0) (rfl) dX5_told_24 ?_
        refine lv_bipush (v := zI 64) hx hb dX5_told_27 (by decide) ?_
        refine z_icmp_ne (tgt := 34) hx hb dX5_told_29 (by decide) ⟨by omega, by omega⟩ ⟨by decide, by decide⟩ (fun c_4 => ?_) (fun c_4 => ?_)
        · refine lv_aload_n hx hb dX5_told_34 rfl (lv_at hl 0 rfl) ?_
          refine r_getA hx hb hts hin hown hK hG 16 (by decide) (by decide) (hts (.fieldLink RX5 56 "LineEventsModel" "rowMachine" "[I") (by decide +kernel)) dX5_told_35 ?_
          refine lv_aload_n hx hb dX5_told_38 rfl (lv_at hl 0 rfl) ?_
          refine r_getI hx hb hts hin hown hK hG 20 (by decide) rfl (hts (.fieldLink RX5 106 "LineEventsModel" "rows" "I") (by decide +kernel)) (z := S 20 0 0) (rfl) dX5_told_39 ?_
          refine lv_iload_n hx hb dX5_told_42 rfl (lv_at hl 1 rfl) ?_
          refine r_iast hx hb hK hG hS 16 (by decide) rfl (S 20 0 0).toNat 0 (by simp only [show rW 16 = 1 from rfl]; omega) (by simp only [show rN 16 = 64 from rfl]; omega) (by simp only [show rW 16 = 1 from rfl]; omega) (w := mm) dX5_told_43 (fun H locs hG hS => ?_)
          refine lv_aload_n hx hb dX5_told_44 rfl (lv_at hl 0 rfl) ?_
          refine r_getA hx hb hts hin hown hK hG 17 (by decide) (by decide) (hts (.fieldLink RX5 59 "LineEventsModel" "rowFrom" "[I") (by decide +kernel)) dX5_told_45 ?_
          refine lv_aload_n hx hb dX5_told_48 rfl (lv_at hl 0 rfl) ?_
          refine r_getI hx hb hts hin hown hK hG 20 (by decide) rfl (hts (.fieldLink RX5 106 "LineEventsModel" "rows" "I") (by decide +kernel)) (z := S 20 0 0) (by simp [su]) dX5_told_49 ?_
          refine lv_iload_n hx hb dX5_told_52 rfl (lv_at hl 2 rfl) ?_
          refine r_iast hx hb hK hG hS 17 (by decide) rfl (S 20 0 0).toNat 0 (by simp only [show rW 17 = 1 from rfl]; omega) (by simp only [show rN 17 = 64 from rfl]; omega) (by simp only [show rW 17 = 1 from rfl]; omega) (w := f) dX5_told_53 (fun H locs hG hS => ?_)
          refine lv_aload_n hx hb dX5_told_54 rfl (lv_at hl 0 rfl) ?_
          refine r_getA hx hb hts hin hown hK hG 18 (by decide) (by decide) (hts (.fieldLink RX5 62 "LineEventsModel" "rowTo" "[I") (by decide +kernel)) dX5_told_55 ?_
          refine lv_aload_n hx hb dX5_told_58 rfl (lv_at hl 0 rfl) ?_
          refine r_getI hx hb hts hin hown hK hG 20 (by decide) rfl (hts (.fieldLink RX5 106 "LineEventsModel" "rows" "I") (by decide +kernel)) (z := S 20 0 0) (by simp [su]) dX5_told_59 ?_
          refine lv_lload_n hx hb dX5_told_62 rfl (lv_at hl 3 rfl) ?_
          refine z_l2i hx hb dX5_told_63 ?_
          refine r_iast hx hb hK hG hS 18 (by decide) rfl (S 20 0 0).toNat 0 (by simp only [show rW 18 = 1 from rfl]; omega) (by simp only [show rN 18 = 64 from rfl]; omega) (by simp only [show rW 18 = 1 from rfl]; omega) (w := tt) dX5_told_64 (fun H locs hG hS => ?_)
          refine lv_aload_n hx hb dX5_told_65 rfl (lv_at hl 0 rfl) ?_
          refine r_getA hx hb hts hin hown hK hG 19 (by decide) (by decide) (hts (.fieldLink RX5 65 "LineEventsModel" "rowCause" "[I") (by decide +kernel)) dX5_told_66 ?_
          refine lv_aload_n hx hb dX5_told_69 rfl (lv_at hl 0 rfl) ?_
          refine r_getI hx hb hts hin hown hK hG 20 (by decide) rfl (hts (.fieldLink RX5 106 "LineEventsModel" "rows" "I") (by decide +kernel)) (z := S 20 0 0) (by simp [su]) dX5_told_70 ?_
          refine lv_iload hx hb dX5_told_73 (lv_at hl 4 rfl) ?_
          refine r_iast hx hb hK hG hS 19 (by decide) rfl (S 20 0 0).toNat 0 (by simp only [show rW 19 = 1 from rfl]; omega) (by simp only [show rN 19 = 64 from rfl]; omega) (by simp only [show rW 19 = 1 from rfl]; omega) (w := cs) dX5_told_75 (fun H locs hG hS => ?_)
          refine lv_aload_n hx hb dX5_told_76 rfl (lv_at hl 0 rfl) ?_
          refine lv_dup hx hb dX5_told_77 rfl ?_
          refine r_getI hx hb hts hin hown hK hG 20 (by decide) rfl (hts (.fieldLink RX5 106 "LineEventsModel" "rows" "I") (by decide +kernel)) (z := S 20 0 0) (by simp [su]) dX5_told_78 ?_
          refine lv_iconst (v := zI 1) hx hb dX5_told_81 rfl ?_
          refine z_iadd hx hb dX5_told_82 ?_
          refine r_putI hx hb hts hin hown hK hG hS 20 (by decide) rfl (hts (.fieldLink RX5 106 "LineEventsModel" "rows" "I") (by decide +kernel)) rfl rfl (z := (S 20 0 0) + 1) dX5_told_83 (fun H locs hG hS => ?_)
          refine lv_iconst (v := zI 1) hx hb dX5_told_86 rfl ?_
          have e9 : su (su (su (su (su S 16 (S 20 0 0).toNat 0 (mm)) 17 (S 20 0 0).toNat 0 (f)) 18 (S 20 0 0).toNat 0 (tt)) 19 (S 20 0 0).toNat 0 (cs)) 20 0 0 ((S 20 0 0) + 1) = rtoldS S mm f tt cs := by unfold rtoldS; first | (exfalso; omega) | rw [if_neg (by omega)] | rw [if_pos (by omega)]
          rw [e9] at hG
          have v9 : 1 = bZ (S 25 0 0 ≤ f ∧ f < tt ∧ tt ≤ 1000000000 ∧ ¬ S 20 0 0 = 64) := by first | (exfalso; omega) | exact (bZ_t (by omega)).symm | exact (bZ_f (by omega)).symm
          refine W.eq (congrArg (fun z => F0 m0 87 ls [.int (zI z)]) v9) ?_
          exact W.zret hx hb hr (zI_bool _) (fun t ht hW => ⟨rfl, ⟨by rw [ht]; exact hG, va_K.moved hW.alike hK⟩, hS.F ht⟩) hS.2.2 dX5_told_87
        · refine lv_iconst (v := zI 0) hx hb dX5_told_32 rfl ?_
          have e9 : S = rtoldS S mm f tt cs := by unfold rtoldS; first | (exfalso; omega) | rw [if_neg (by omega)] | rw [if_pos (by omega)]
          rw [e9] at hG
          have v9 : 0 = bZ (S 25 0 0 ≤ f ∧ f < tt ∧ tt ≤ 1000000000 ∧ ¬ S 20 0 0 = 64) := by first | (exfalso; omega) | exact (bZ_t (by omega)).symm | exact (bZ_f (by omega)).symm
          refine W.eq (congrArg (fun z => F0 m0 33 ls [.int (zI z)]) v9) ?_
          exact W.zret hx hb hr (zI_bool _) (fun t ht hW => ⟨rfl, ⟨by rw [ht]; exact hG, va_K.moved hW.alike hK⟩, hS.F ht⟩) hS.2.2 dX5_told_33
set_option maxHeartbeats 4000000 in
set_option maxRecDepth 100000 in
theorem m_X5_row (l : Launch) (D : va_G) (cI cJ : ClassId) (A : Nat → Prop) (ad : Nat → Nat → Nat) (S : Nat → Nat → Nat → Int) (z f t cs : Int) (hz0 : zB z) (hf0 : zB f) (ht0 : zB t) (hc0 : zB cs) (hI : Inv S) : Met l yX5_row wsX5_row ({ frames := 1, cells := 0, slots := 0, locals := 25 }) (va_Pc [.ref (ad 32 0), .int (zI z), .int (zI f), .int (zI t), .int (zI cs)] (gRU D cI cJ A ad S)) (gO (some (.int (zI (bZ (((0 ≤ z ∧ z < (su S 31 0 0 0) 5 0 0) ∧ 4 ≤ cs ∧ cs ≤ 9) ∧ ((su S 31 0 0 0) 25 0 0 ≤ f ∧ f < t ∧ t ≤ 1000000000 ∧ ¬ (su S 31 0 0 0) 20 0 0 = 64)))))) (gRU D cI cJ A ad (rrowS (su S 31 0 0 0) z f t cs)) A) 0 0 A := by
  refine Met.ofW (cc := cX5_row) (maxL := 5) (ret := (some .boolean)) (by decide) rfl ?_
  intro p e s m0 args below meth c s₁ B hml hv
  obtain ⟨rfl, hG, hK⟩ := hv
  have hx := B.exec
  have hb := B.bytes
  have hr := B.returns
  have hts := atoms_spec (ws := wsX5_row) B.pre
  have hown : s.vm.findClass RX5 = some m0.cls := findClass_of_methodNamed B.named
  have hlocks := B.notSynchronized
  have hin : ∀ w ∈ wsX50, w ∈ wsX5_row := by decide +kernel
  have hS : va_S A s.heap s.heap [] := va_S.rf
  have hl := lv_entry ([.ref (ad 32 0), .int (zI z), .int (zI f), .int (zI t), .int (zI cs)]) (n := 5) (Nat.le_of_ble_eq_true rfl)
  rw [lg_entry_eq]
  generalize (lg_sl ([.ref (ad 32 0), .int (zI z), .int (zI f), .int (zI t), .int (zI cs)]) ++ List.replicate (5 - (lg_sl ([.ref (ad 32 0), .int (zI z), .int (zI f), .int (zI t), .int (zI cs)])).length) Slot.unset).toArray = ls at hl ⊢
  replace hl : lv_has ls 5 [(0, .ref (ad 32 0)), (1, .int (zI z)), (2, .int (zI f)), (3, .int (zI t)), (4, .int (zI cs))] := hl
  refine lv_aload_n hx hb dX5_row_0 rfl (lv_at hl 0 rfl) ?_
  refine lv_iconst (v := zI 0) hx hb dX5_row_1 rfl ?_
  refine r_putI hx hb hts hin hown hK hG hS 31 (by decide) rfl (hts (.fieldLink RX5 87 "LineEventsModel" "thrown" "I") (by decide +kernel)) rfl rfl (z := 0) dX5_row_2 (fun H locs hG hS => ?_)
  generalize hS0 : su S 31 0 0 0 = S0 at hG ⊢
  have hI0 : Inv S0 := by rw [← hS0]; exact hI
  obtain ⟨hI5, hI25, hI20, hIM, hIL, hIR⟩ := id hI0
  refine lv_aload_n hx hb dX5_row_5 rfl (lv_at hl 0 rfl) ?_
  refine lv_iload_n hx hb dX5_row_6 rfl (lv_at hl 1 rfl) ?_
  refine r_callV (As := [.int (zI z)]) (rest := []) ⟨hx, hb, hml, hown, hts⟩ (m_X5_isMachine l D cI cJ A ad S0 z hz0 hI5) (cwV 1 hts gX5_row_X5_isMachine rfl rfl rfl (by decide +kernel) ⟨Nat.le_of_ble_eq_true rfl, Nat.le_of_ble_eq_true rfl⟩) hK hG hS rfl hl.1 rfl (Nat.le_of_ble_eq_true rfl) dX5_row_7 ⟨Nat.zero_le _, Nat.zero_le _⟩ (fun H locs hG hS => ?_)
  refine z_ifb_eq (tgt := 43) hx hb dX5_row_10 (by decide) (fun c_1 => ?_) (fun c_1 => ?_)
  · refine lv_iconst (v := zI 0) hx hb dX5_row_43 rfl ?_
    have e9 : S0 = rrowS S0 z f t cs := by unfold rrowS; first | rw [if_neg (by omega)] | rw [if_pos (by omega)]
    rw [e9] at hG
    have v9 : 0 = bZ (((0 ≤ z ∧ z < S0 5 0 0) ∧ 4 ≤ cs ∧ cs ≤ 9) ∧ (S0 25 0 0 ≤ f ∧ f < t ∧ t ≤ 1000000000 ∧ ¬ S0 20 0 0 = 64)) := by first | (exfalso; omega) | exact (bZ_t (by omega)).symm | exact (bZ_f (by omega)).symm
    refine W.eq (congrArg (fun z => F0 m0 44 ls [.int (zI z)]) v9) ?_
    exact W.zret hx hb hr (zI_bool _) (fun t ht hW => ⟨rfl, ⟨by rw [ht]; exact hG, va_K.moved hW.alike hK⟩, hS.F ht⟩) hS.2.2 dX5_row_44
  · refine lv_iload hx hb dX5_row_13 (lv_at hl 4 rfl) ?_
    refine lv_iconst (v := zI 4) hx hb dX5_row_15 rfl ?_
    refine z_icmp_lt (tgt := 43) hx hb dX5_row_16 (by decide) ⟨by omega, by omega⟩ ⟨by decide, by decide⟩ (fun c_2 => ?_) (fun c_2 => ?_)
    · refine lv_iconst (v := zI 0) hx hb dX5_row_43 rfl ?_
      have e9 : S0 = rrowS S0 z f t cs := by unfold rrowS; first | rw [if_neg (by omega)] | rw [if_pos (by omega)]
      rw [e9] at hG
      have v9 : 0 = bZ (((0 ≤ z ∧ z < S0 5 0 0) ∧ 4 ≤ cs ∧ cs ≤ 9) ∧ (S0 25 0 0 ≤ f ∧ f < t ∧ t ≤ 1000000000 ∧ ¬ S0 20 0 0 = 64)) := by first | (exfalso; omega) | exact (bZ_t (by omega)).symm | exact (bZ_f (by omega)).symm
      refine W.eq (congrArg (fun z => F0 m0 44 ls [.int (zI z)]) v9) ?_
      exact W.zret hx hb hr (zI_bool _) (fun t ht hW => ⟨rfl, ⟨by rw [ht]; exact hG, va_K.moved hW.alike hK⟩, hS.F ht⟩) hS.2.2 dX5_row_44
    · refine lv_iload hx hb dX5_row_19 (lv_at hl 4 rfl) ?_
      refine lv_bipush (v := zI 9) hx hb dX5_row_21 (by decide) ?_
      refine z_icmp_gt (tgt := 43) hx hb dX5_row_23 (by decide) ⟨by omega, by omega⟩ ⟨by decide, by decide⟩ (fun c_3 => ?_) (fun c_3 => ?_)
      · refine lv_iconst (v := zI 0) hx hb dX5_row_43 rfl ?_
        have e9 : S0 = rrowS S0 z f t cs := by unfold rrowS; first | rw [if_neg (by omega)] | rw [if_pos (by omega)]
        rw [e9] at hG
        have v9 : 0 = bZ (((0 ≤ z ∧ z < S0 5 0 0) ∧ 4 ≤ cs ∧ cs ≤ 9) ∧ (S0 25 0 0 ≤ f ∧ f < t ∧ t ≤ 1000000000 ∧ ¬ S0 20 0 0 = 64)) := by first | (exfalso; omega) | exact (bZ_t (by omega)).symm | exact (bZ_f (by omega)).symm
        refine W.eq (congrArg (fun z => F0 m0 44 ls [.int (zI z)]) v9) ?_
        exact W.zret hx hb hr (zI_bool _) (fun t ht hW => ⟨rfl, ⟨by rw [ht]; exact hG, va_K.moved hW.alike hK⟩, hS.F ht⟩) hS.2.2 dX5_row_44
      · refine lv_aload_n hx hb dX5_row_26 rfl (lv_at hl 0 rfl) ?_
        refine lv_iload_n hx hb dX5_row_27 rfl (lv_at hl 1 rfl) ?_
        refine lv_iload_n hx hb dX5_row_28 rfl (lv_at hl 2 rfl) ?_
        refine lv_iload_n hx hb dX5_row_29 rfl (lv_at hl 3 rfl) ?_
        refine z_i2l hx hb dX5_row_30 ⟨by omega, by omega⟩ ?_
        refine lv_iload hx hb dX5_row_31 (lv_at hl 4 rfl) ?_
        refine r_callV (As := [.int (zI z), .int (zI f), .long (zL t), .int (zI cs)]) (rest := []) ⟨hx, hb, hml, hown, hts⟩ (m_X5_told l D cI cJ A ad S0 z f t cs ⟨by omega, by omega⟩ ⟨by omega, by omega⟩ hI0) (cwV 4 hts gX5_row_X5_told rfl rfl rfl (by decide +kernel) ⟨Nat.le_of_ble_eq_true rfl, Nat.le_of_ble_eq_true rfl⟩) hK hG hS rfl hl.1 rfl (Nat.le_of_ble_eq_true rfl) dX5_row_33 ⟨Nat.zero_le _, Nat.zero_le _⟩ (fun H locs hG hS => ?_)
        refine z_ifb_eq (tgt := 43) hx hb dX5_row_36 (by decide) (fun c_4 => ?_) (fun c_4 => ?_)
        · refine lv_iconst (v := zI 0) hx hb dX5_row_43 rfl ?_
          have e9 : rtoldS S0 z f t cs = rrowS S0 z f t cs := by unfold rrowS; first | rw [if_neg (by omega)] | rw [if_pos (by omega)]
          rw [e9] at hG
          have v9 : 0 = bZ (((0 ≤ z ∧ z < S0 5 0 0) ∧ 4 ≤ cs ∧ cs ≤ 9) ∧ (S0 25 0 0 ≤ f ∧ f < t ∧ t ≤ 1000000000 ∧ ¬ S0 20 0 0 = 64)) := by first | (exfalso; omega) | exact (bZ_t (by omega)).symm | exact (bZ_f (by omega)).symm
          refine W.eq (congrArg (fun z => F0 m0 44 ls [.int (zI z)]) v9) ?_
          exact W.zret hx hb hr (zI_bool _) (fun t ht hW => ⟨rfl, ⟨by rw [ht]; exact hG, va_K.moved hW.alike hK⟩, hS.F ht⟩) hS.2.2 dX5_row_44
        · refine lv_iconst (v := zI 1) hx hb dX5_row_39 rfl ?_
          refine lv_goto (tgt := 44) hx hb dX5_row_40 (by decide) ?_
          have e9 : rtoldS S0 z f t cs = rrowS S0 z f t cs := by unfold rrowS; first | rw [if_neg (by omega)] | rw [if_pos (by omega)]
          rw [e9] at hG
          have v9 : 1 = bZ (((0 ≤ z ∧ z < S0 5 0 0) ∧ 4 ≤ cs ∧ cs ≤ 9) ∧ (S0 25 0 0 ≤ f ∧ f < t ∧ t ≤ 1000000000 ∧ ¬ S0 20 0 0 = 64)) := by first | (exfalso; omega) | exact (bZ_t (by omega)).symm | exact (bZ_f (by omega)).symm
          refine W.eq (congrArg (fun z => F0 m0 44 ls [.int (zI z)]) v9) ?_
          exact W.zret hx hb hr (zI_bool _) (fun t ht hW => ⟨rfl, ⟨by rw [ht]; exact hG, va_K.moved hW.alike hK⟩, hS.F ht⟩) hS.2.2 dX5_row_44
set_option maxHeartbeats 4000000 in
set_option maxRecDepth 100000 in
theorem m_X5_change (l : Launch) (D : va_G) (cI cJ : ClassId) (A : Nat → Prop) (ad : Nat → Nat → Nat) (S : Nat → Nat → Nat → Int) (f t : Int) (hf0 : zB f) (ht0 : zB t) (hI : Inv S) : Met l yX5_change wsX5_change ({ frames := 1, cells := 0, slots := 0, locals := 25 }) (va_Pc [.ref (ad 32 0), .int (zI f), .int (zI t)] (gRU D cI cJ A ad S)) (gO (some (.int (zI (bZ ((1 ≤ t ∧ t ≤ 1000000) ∧ ((su S 31 0 0 0) 25 0 0 ≤ f ∧ f < (f + t) ∧ (f + t) ≤ 1000000000 ∧ ¬ (su S 31 0 0 0) 20 0 0 = 64)))))) (gRU D cI cJ A ad (rchangeS (su S 31 0 0 0) f t)) A) 0 0 A := by
  refine Met.ofW (cc := cX5_change) (maxL := 3) (ret := (some .boolean)) (by decide) rfl ?_
  intro p e s m0 args below meth c s₁ B hml hv
  obtain ⟨rfl, hG, hK⟩ := hv
  have hx := B.exec
  have hb := B.bytes
  have hr := B.returns
  have hts := atoms_spec (ws := wsX5_change) B.pre
  have hown : s.vm.findClass RX5 = some m0.cls := findClass_of_methodNamed B.named
  have hlocks := B.notSynchronized
  have hin : ∀ w ∈ wsX50, w ∈ wsX5_change := by decide +kernel
  have hS : va_S A s.heap s.heap [] := va_S.rf
  have hl := lv_entry ([.ref (ad 32 0), .int (zI f), .int (zI t)]) (n := 3) (Nat.le_of_ble_eq_true rfl)
  rw [lg_entry_eq]
  generalize (lg_sl ([.ref (ad 32 0), .int (zI f), .int (zI t)]) ++ List.replicate (3 - (lg_sl ([.ref (ad 32 0), .int (zI f), .int (zI t)])).length) Slot.unset).toArray = ls at hl ⊢
  replace hl : lv_has ls 3 [(0, .ref (ad 32 0)), (1, .int (zI f)), (2, .int (zI t))] := hl
  refine lv_aload_n hx hb dX5_change_0 rfl (lv_at hl 0 rfl) ?_
  refine lv_iconst (v := zI 0) hx hb dX5_change_1 rfl ?_
  refine r_putI hx hb hts hin hown hK hG hS 31 (by decide) rfl (hts (.fieldLink RX5 87 "LineEventsModel" "thrown" "I") (by decide +kernel)) rfl rfl (z := 0) dX5_change_2 (fun H locs hG hS => ?_)
  generalize hS0 : su S 31 0 0 0 = S0 at hG ⊢
  have hI0 : Inv S0 := by rw [← hS0]; exact hI
  obtain ⟨hI5, hI25, hI20, hIM, hIL, hIR⟩ := id hI0
  refine lv_iload_n hx hb dX5_change_5 rfl (lv_at hl 2 rfl) ?_
  refine lv_iconst (v := zI 1) hx hb dX5_change_6 rfl ?_
  refine z_icmp_lt (tgt := 35) hx hb dX5_change_7 (by decide) ⟨by omega, by omega⟩ ⟨by decide, by decide⟩ (fun c_1 => ?_) (fun c_1 => ?_)
  · refine lv_iconst (v := zI 0) hx hb dX5_change_35 rfl ?_
    have e9 : S0 = rchangeS S0 f t := by unfold rchangeS; first | rw [if_neg (by omega)] | rw [if_pos (by omega)]
    rw [e9] at hG
    have v9 : 0 = bZ ((1 ≤ t ∧ t ≤ 1000000) ∧ (S0 25 0 0 ≤ f ∧ f < (f + t) ∧ (f + t) ≤ 1000000000 ∧ ¬ S0 20 0 0 = 64)) := by first | (exfalso; omega) | exact (bZ_t (by omega)).symm | exact (bZ_f (by omega)).symm
    refine W.eq (congrArg (fun z => F0 m0 36 ls [.int (zI z)]) v9) ?_
    exact W.zret hx hb hr (zI_bool _) (fun t ht hW => ⟨rfl, ⟨by rw [ht]; exact hG, va_K.moved hW.alike hK⟩, hS.F ht⟩) hS.2.2 dX5_change_36
  · refine lv_iload_n hx hb dX5_change_10 rfl (lv_at hl 2 rfl) ?_
    refine z_ldc (z := 1000000) hx hb hown (hts (.constant RX5 113 (1000000)) (by decide +kernel)) (by decide) dX5_change_11 ?_
    refine z_icmp_gt (tgt := 35) hx hb dX5_change_13 (by decide) ⟨by omega, by omega⟩ ⟨by decide, by decide⟩ (fun c_2 => ?_) (fun c_2 => ?_)
    · refine lv_iconst (v := zI 0) hx hb dX5_change_35 rfl ?_
      have e9 : S0 = rchangeS S0 f t := by unfold rchangeS; first | rw [if_neg (by omega)] | rw [if_pos (by omega)]
      rw [e9] at hG
      have v9 : 0 = bZ ((1 ≤ t ∧ t ≤ 1000000) ∧ (S0 25 0 0 ≤ f ∧ f < (f + t) ∧ (f + t) ≤ 1000000000 ∧ ¬ S0 20 0 0 = 64)) := by first | (exfalso; omega) | exact (bZ_t (by omega)).symm | exact (bZ_f (by omega)).symm
      refine W.eq (congrArg (fun z => F0 m0 36 ls [.int (zI z)]) v9) ?_
      exact W.zret hx hb hr (zI_bool _) (fun t ht hW => ⟨rfl, ⟨by rw [ht]; exact hG, va_K.moved hW.alike hK⟩, hS.F ht⟩) hS.2.2 dX5_change_36
    · refine lv_aload_n hx hb dX5_change_16 rfl (lv_at hl 0 rfl) ?_
      refine lv_iconst (v := zI (-1)) hx hb dX5_change_17 rfl ?_
      refine lv_iload_n hx hb dX5_change_18 rfl (lv_at hl 1 rfl) ?_
      refine lv_iload_n hx hb dX5_change_19 rfl (lv_at hl 1 rfl) ?_
      refine z_i2l hx hb dX5_change_20 ⟨by omega, by omega⟩ ?_
      refine lv_iload_n hx hb dX5_change_21 rfl (lv_at hl 2 rfl) ?_
      refine z_i2l hx hb dX5_change_22 ⟨by omega, by omega⟩ ?_
      refine z_ladd hx hb dX5_change_23 ?_
      refine lv_iconst (v := zI 1) hx hb dX5_change_24 rfl ?_
      refine r_callV (As := [.int (zI (-1)), .int (zI f), .long (zL (f + t)), .int (zI 1)]) (rest := []) ⟨hx, hb, hml, hown, hts⟩ (m_X5_told l D cI cJ A ad S0 (-1) f (f + t) 1 ⟨by omega, by omega⟩ ⟨by omega, by omega⟩ hI0) (cwV 4 hts gX5_change_X5_told rfl rfl rfl (by decide +kernel) ⟨Nat.le_of_ble_eq_true rfl, Nat.le_of_ble_eq_true rfl⟩) hK hG hS rfl hl.1 rfl (Nat.le_of_ble_eq_true rfl) dX5_change_25 ⟨Nat.zero_le _, Nat.zero_le _⟩ (fun H locs hG hS => ?_)
      refine z_ifb_eq (tgt := 35) hx hb dX5_change_28 (by decide) (fun c_3 => ?_) (fun c_3 => ?_)
      · refine lv_iconst (v := zI 0) hx hb dX5_change_35 rfl ?_
        have e9 : rtoldS S0 (-1) f (f + t) 1 = rchangeS S0 f t := by unfold rchangeS; first | rw [if_neg (by omega)] | rw [if_pos (by omega)]
        rw [e9] at hG
        have v9 : 0 = bZ ((1 ≤ t ∧ t ≤ 1000000) ∧ (S0 25 0 0 ≤ f ∧ f < (f + t) ∧ (f + t) ≤ 1000000000 ∧ ¬ S0 20 0 0 = 64)) := by first | (exfalso; omega) | exact (bZ_t (by omega)).symm | exact (bZ_f (by omega)).symm
        refine W.eq (congrArg (fun z => F0 m0 36 ls [.int (zI z)]) v9) ?_
        exact W.zret hx hb hr (zI_bool _) (fun t ht hW => ⟨rfl, ⟨by rw [ht]; exact hG, va_K.moved hW.alike hK⟩, hS.F ht⟩) hS.2.2 dX5_change_36
      · refine lv_iconst (v := zI 1) hx hb dX5_change_31 rfl ?_
        refine lv_goto (tgt := 36) hx hb dX5_change_32 (by decide) ?_
        have e9 : rtoldS S0 (-1) f (f + t) 1 = rchangeS S0 f t := by unfold rchangeS; first | rw [if_neg (by omega)] | rw [if_pos (by omega)]
        rw [e9] at hG
        have v9 : 1 = bZ ((1 ≤ t ∧ t ≤ 1000000) ∧ (S0 25 0 0 ≤ f ∧ f < (f + t) ∧ (f + t) ≤ 1000000000 ∧ ¬ S0 20 0 0 = 64)) := by first | (exfalso; omega) | exact (bZ_t (by omega)).symm | exact (bZ_f (by omega)).symm
        refine W.eq (congrArg (fun z => F0 m0 36 ls [.int (zI z)]) v9) ?_
        exact W.zret hx hb hr (zI_bool _) (fun t ht hW => ⟨rfl, ⟨by rw [ht]; exact hG, va_K.moved hW.alike hK⟩, hS.F ht⟩) hS.2.2 dX5_change_36
set_option maxHeartbeats 4000000 in
set_option maxRecDepth 100000 in
theorem m_X5_rest (l : Launch) (D : va_G) (cI cJ : ClassId) (A : Nat → Prop) (ad : Nat → Nat → Nat) (S : Nat → Nat → Nat → Int) (f t : Int) (hf0 : zB f) (ht0 : zB t) (hI : Inv S) : Met l yX5_rest wsX5_rest ({ frames := 1, cells := 0, slots := 0, locals := 25 }) (va_Pc [.ref (ad 32 0), .int (zI f), .int (zI t)] (gRU D cI cJ A ad S)) (gO (some (.int (zI (bZ ((su S 31 0 0 0) 25 0 0 ≤ f ∧ f < t ∧ t ≤ 1000000000 ∧ ¬ (su S 31 0 0 0) 20 0 0 = 64))))) (gRU D cI cJ A ad (rtoldS (su S 31 0 0 0) (-1) f t 2)) A) 0 0 A := by
  refine Met.ofW (cc := cX5_rest) (maxL := 3) (ret := (some .boolean)) (by decide) rfl ?_
  intro p e s m0 args below meth c s₁ B hml hv
  obtain ⟨rfl, hG, hK⟩ := hv
  have hx := B.exec
  have hb := B.bytes
  have hr := B.returns
  have hts := atoms_spec (ws := wsX5_rest) B.pre
  have hown : s.vm.findClass RX5 = some m0.cls := findClass_of_methodNamed B.named
  have hlocks := B.notSynchronized
  have hin : ∀ w ∈ wsX50, w ∈ wsX5_rest := by decide +kernel
  have hS : va_S A s.heap s.heap [] := va_S.rf
  have hl := lv_entry ([.ref (ad 32 0), .int (zI f), .int (zI t)]) (n := 3) (Nat.le_of_ble_eq_true rfl)
  rw [lg_entry_eq]
  generalize (lg_sl ([.ref (ad 32 0), .int (zI f), .int (zI t)]) ++ List.replicate (3 - (lg_sl ([.ref (ad 32 0), .int (zI f), .int (zI t)])).length) Slot.unset).toArray = ls at hl ⊢
  replace hl : lv_has ls 3 [(0, .ref (ad 32 0)), (1, .int (zI f)), (2, .int (zI t))] := hl
  refine lv_aload_n hx hb dX5_rest_0 rfl (lv_at hl 0 rfl) ?_
  refine lv_iconst (v := zI 0) hx hb dX5_rest_1 rfl ?_
  refine r_putI hx hb hts hin hown hK hG hS 31 (by decide) rfl (hts (.fieldLink RX5 87 "LineEventsModel" "thrown" "I") (by decide +kernel)) rfl rfl (z := 0) dX5_rest_2 (fun H locs hG hS => ?_)
  generalize hS0 : su S 31 0 0 0 = S0 at hG ⊢
  have hI0 : Inv S0 := by rw [← hS0]; exact hI
  obtain ⟨hI5, hI25, hI20, hIM, hIL, hIR⟩ := id hI0
  refine lv_aload_n hx hb dX5_rest_5 rfl (lv_at hl 0 rfl) ?_
  refine lv_iconst (v := zI (-1)) hx hb dX5_rest_6 rfl ?_
  refine lv_iload_n hx hb dX5_rest_7 rfl (lv_at hl 1 rfl) ?_
  refine lv_iload_n hx hb dX5_rest_8 rfl (lv_at hl 2 rfl) ?_
  refine z_i2l hx hb dX5_rest_9 ⟨by omega, by omega⟩ ?_
  refine lv_iconst (v := zI 2) hx hb dX5_rest_10 rfl ?_
  refine r_callV (As := [.int (zI (-1)), .int (zI f), .long (zL t), .int (zI 2)]) (rest := []) ⟨hx, hb, hml, hown, hts⟩ (m_X5_told l D cI cJ A ad S0 (-1) f t 2 ⟨by omega, by omega⟩ ⟨by omega, by omega⟩ hI0) (cwV 4 hts gX5_rest_X5_told rfl rfl rfl (by decide +kernel) ⟨Nat.le_of_ble_eq_true rfl, Nat.le_of_ble_eq_true rfl⟩) hK hG hS rfl hl.1 rfl (Nat.le_of_ble_eq_true rfl) dX5_rest_11 ⟨Nat.zero_le _, Nat.zero_le _⟩ (fun H locs hG hS => ?_)
  have v9 : bZ ((S0 25 0 0 ≤ f ∧ f < t ∧ t ≤ 1000000000 ∧ ¬ S0 20 0 0 = 64)) = bZ (S0 25 0 0 ≤ f ∧ f < t ∧ t ≤ 1000000000 ∧ ¬ S0 20 0 0 = 64) := by rfl
  refine W.eq (congrArg (fun z => F0 m0 14 ls [.int (zI z)]) v9) ?_
  exact W.zret hx hb hr (zI_bool _) (fun t ht hW => ⟨rfl, ⟨by rw [ht]; exact hG, va_K.moved hW.alike hK⟩, hS.F ht⟩) hS.2.2 dX5_rest_14
set_option maxHeartbeats 4000000 in
set_option maxRecDepth 100000 in
theorem m_X5_event (l : Launch) (D : va_G) (cI cJ : ClassId) (A : Nat → Prop) (ad : Nat → Nat → Nat) (S : Nat → Nat → Nat → Int) (k q : Int) (hk0 : zB k) (hq0 : zB q) (he : 0 ≤ S 30 0 0 ∧ S 30 0 0 < 2147483647) (hI : Inv S) : Met l yX5_event wsX5_event ({ frames := 0, cells := 0, slots := 0, locals := 0 }) (va_Pc [.ref (ad 32 0), .int (zI k), .int (zI q)] (gRU D cI cJ A ad S)) (gO (some (.int (zI (reventV (su S 31 0 0 0) k q)))) (gRU D cI cJ A ad ((su S 31 0 0 0))) A) 0 0 A := by
  refine Met.ofW (cc := cX5_event) (maxL := 3) (ret := (some .int)) (by decide) rfl ?_
  intro p e s m0 args below meth c s₁ B hml hv
  obtain ⟨rfl, hG, hK⟩ := hv
  have hx := B.exec
  have hb := B.bytes
  have hr := B.returns
  have hts := atoms_spec (ws := wsX5_event) B.pre
  have hown : s.vm.findClass RX5 = some m0.cls := findClass_of_methodNamed B.named
  have hlocks := B.notSynchronized
  have hin : ∀ w ∈ wsX50, w ∈ wsX5_event := by decide +kernel
  have hS : va_S A s.heap s.heap [] := va_S.rf
  have hl := lv_entry ([.ref (ad 32 0), .int (zI k), .int (zI q)]) (n := 3) (Nat.le_of_ble_eq_true rfl)
  rw [lg_entry_eq]
  generalize (lg_sl ([.ref (ad 32 0), .int (zI k), .int (zI q)]) ++ List.replicate (3 - (lg_sl ([.ref (ad 32 0), .int (zI k), .int (zI q)])).length) Slot.unset).toArray = ls at hl ⊢
  replace hl : lv_has ls 3 [(0, .ref (ad 32 0)), (1, .int (zI k)), (2, .int (zI q))] := hl
  refine lv_aload_n hx hb dX5_event_0 rfl (lv_at hl 0 rfl) ?_
  refine lv_iconst (v := zI 0) hx hb dX5_event_1 rfl ?_
  refine r_putI hx hb hts hin hown hK hG hS 31 (by decide) rfl (hts (.fieldLink RX5 87 "LineEventsModel" "thrown" "I") (by decide +kernel)) rfl rfl (z := 0) dX5_event_2 (fun H locs hG hS => ?_)
  generalize hS0 : su S 31 0 0 0 = S0 at hG ⊢
  have hI0 : Inv S0 := by rw [← hS0]; exact hI
  obtain ⟨hI5, hI25, hI20, hIM, hIL, hIR⟩ := id hI0
  have he0 : 0 ≤ S0 30 0 0 ∧ S0 30 0 0 < 2147483647 := by rw [← hS0]; exact he
  refine lv_iload_n hx hb dX5_event_5 rfl (lv_at hl 1 rfl) ?_
  refine z_if_lt (tgt := 24) hx hb dX5_event_6 (by decide) ⟨by omega, by omega⟩ (fun c_1 => ?_) (fun c_1 => ?_)
  · refine lv_iconst (v := zI (-1)) hx hb dX5_event_24 rfl ?_
    have v9 : (-1) = reventV S0 k q := by unfold reventV; first | (exfalso; omega) | rw [if_neg (by omega)] | rw [if_pos (by omega), if_pos (by omega)] | rw [if_pos (by omega), if_neg (by omega), if_pos (by omega)] | rw [if_pos (by omega), if_neg (by omega), if_neg (by omega), if_pos (by omega)] | rw [if_pos (by omega), if_neg (by omega), if_neg (by omega), if_neg (by omega)]
    refine W.eq (congrArg (fun z => F0 m0 25 ls [.int (zI z)]) v9) ?_
    exact W.iret hx hb hr (fun t ht hW => ⟨rfl, ⟨by rw [ht]; exact hG, va_K.moved hW.alike hK⟩, hS.F ht⟩) hS.2.2 dX5_event_25
  · refine lv_iload_n hx hb dX5_event_9 rfl (lv_at hl 1 rfl) ?_
    refine lv_aload_n hx hb dX5_event_10 rfl (lv_at hl 0 rfl) ?_
    refine r_getI hx hb hts hin hown hK hG 30 (by decide) rfl (hts (.fieldLink RX5 114 "LineEventsModel" "events" "I") (by decide +kernel)) (z := S0 30 0 0) (rfl) dX5_event_11 ?_
    refine z_icmp_ge (tgt := 24) hx hb dX5_event_14 (by decide) ⟨by omega, by omega⟩ ⟨by omega, by omega⟩ (fun c_2 => ?_) (fun c_2 => ?_)
    · refine lv_iconst (v := zI (-1)) hx hb dX5_event_24 rfl ?_
      have v9 : (-1) = reventV S0 k q := by unfold reventV; first | (exfalso; omega) | rw [if_neg (by omega)] | rw [if_pos (by omega), if_pos (by omega)] | rw [if_pos (by omega), if_neg (by omega), if_pos (by omega)] | rw [if_pos (by omega), if_neg (by omega), if_neg (by omega), if_pos (by omega)] | rw [if_pos (by omega), if_neg (by omega), if_neg (by omega), if_neg (by omega)]
      refine W.eq (congrArg (fun z => F0 m0 25 ls [.int (zI z)]) v9) ?_
      exact W.iret hx hb hr (fun t ht hW => ⟨rfl, ⟨by rw [ht]; exact hG, va_K.moved hW.alike hK⟩, hS.F ht⟩) hS.2.2 dX5_event_25
    · refine lv_iload_n hx hb dX5_event_17 rfl (lv_at hl 1 rfl) ?_
      refine lv_sipush (v := zI 1000) hx hb dX5_event_18 (by decide) ?_
      refine z_icmp_lt (tgt := 26) hx hb dX5_event_21 (by decide) ⟨by omega, by omega⟩ ⟨by decide, by decide⟩ (fun c_3 => ?_) (fun c_3 => ?_)
      · refine lv_iload_n hx hb dX5_event_26 rfl (lv_at hl 2 rfl) ?_
        refine z_if_ne (tgt := 39) hx hb dX5_event_27 (by decide) ⟨by omega, by omega⟩ (fun c_4 => ?_) (fun c_4 => ?_)
        · refine lv_iload_n hx hb dX5_event_39 rfl (lv_at hl 2 rfl) ?_
          refine lv_iconst (v := zI 1) hx hb dX5_event_40 rfl ?_
          refine z_icmp_ne (tgt := 53) hx hb dX5_event_41 (by decide) ⟨by omega, by omega⟩ ⟨by decide, by decide⟩ (fun c_5 => ?_) (fun c_5 => ?_)
          · refine lv_iload_n hx hb dX5_event_53 rfl (lv_at hl 2 rfl) ?_
            refine lv_iconst (v := zI 2) hx hb dX5_event_54 rfl ?_
            refine z_icmp_ne (tgt := 67) hx hb dX5_event_55 (by decide) ⟨by omega, by omega⟩ ⟨by decide, by decide⟩ (fun c_6 => ?_) (fun c_6 => ?_)
            · refine lv_iconst (v := zI (-1)) hx hb dX5_event_67 rfl ?_
              have v9 : (-1) = reventV S0 k q := by unfold reventV; first | (exfalso; omega) | rw [if_neg (by omega)] | rw [if_pos (by omega), if_pos (by omega)] | rw [if_pos (by omega), if_neg (by omega), if_pos (by omega)] | rw [if_pos (by omega), if_neg (by omega), if_neg (by omega), if_pos (by omega)] | rw [if_pos (by omega), if_neg (by omega), if_neg (by omega), if_neg (by omega)]
              refine W.eq (congrArg (fun z => F0 m0 68 ls [.int (zI z)]) v9) ?_
              exact W.iret hx hb hr (fun t ht hW => ⟨rfl, ⟨by rw [ht]; exact hG, va_K.moved hW.alike hK⟩, hS.F ht⟩) hS.2.2 dX5_event_68
            · refine lv_aload_n hx hb dX5_event_58 rfl (lv_at hl 0 rfl) ?_
              refine r_getA hx hb hts hin hown hK hG 29 (by decide) (by decide) (hts (.fieldLink RX5 80 "LineEventsModel" "eventKind" "[I") (by decide +kernel)) dX5_event_59 ?_
              refine lv_iload_n hx hb dX5_event_62 rfl (lv_at hl 1 rfl) ?_
              refine r_iald hx hb hK hG 29 (by decide) rfl (k).toNat 0 (by simp only [show rW 29 = 1 from rfl]; omega) (by simp only [show rN 29 = 1000 from rfl]; omega) (by simp only [show rW 29 = 1 from rfl]; omega) (w := S0 29 (k).toNat 0) (rfl) dX5_event_63 ?_
              refine lv_goto (tgt := 68) hx hb dX5_event_64 (by decide) ?_
              have v9 : S0 29 (k).toNat 0 = reventV S0 k q := by unfold reventV; first | (exfalso; omega) | rw [if_neg (by omega)] | rw [if_pos (by omega), if_pos (by omega)] | rw [if_pos (by omega), if_neg (by omega), if_pos (by omega)] | rw [if_pos (by omega), if_neg (by omega), if_neg (by omega), if_pos (by omega)] | rw [if_pos (by omega), if_neg (by omega), if_neg (by omega), if_neg (by omega)]
              refine W.eq (congrArg (fun z => F0 m0 68 ls [.int (zI z)]) v9) ?_
              exact W.iret hx hb hr (fun t ht hW => ⟨rfl, ⟨by rw [ht]; exact hG, va_K.moved hW.alike hK⟩, hS.F ht⟩) hS.2.2 dX5_event_68
          · refine lv_aload_n hx hb dX5_event_44 rfl (lv_at hl 0 rfl) ?_
            refine r_getA hx hb hts hin hown hK hG 28 (by decide) (by decide) (hts (.fieldLink RX5 77 "LineEventsModel" "eventMachine" "[I") (by decide +kernel)) dX5_event_45 ?_
            refine lv_iload_n hx hb dX5_event_48 rfl (lv_at hl 1 rfl) ?_
            refine r_iald hx hb hK hG 28 (by decide) rfl (k).toNat 0 (by simp only [show rW 28 = 1 from rfl]; omega) (by simp only [show rN 28 = 1000 from rfl]; omega) (by simp only [show rW 28 = 1 from rfl]; omega) (w := S0 28 (k).toNat 0) (rfl) dX5_event_49 ?_
            refine lv_goto (tgt := 68) hx hb dX5_event_50 (by decide) ?_
            have v9 : S0 28 (k).toNat 0 = reventV S0 k q := by unfold reventV; first | (exfalso; omega) | rw [if_neg (by omega)] | rw [if_pos (by omega), if_pos (by omega)] | rw [if_pos (by omega), if_neg (by omega), if_pos (by omega)] | rw [if_pos (by omega), if_neg (by omega), if_neg (by omega), if_pos (by omega)] | rw [if_pos (by omega), if_neg (by omega), if_neg (by omega), if_neg (by omega)]
            refine W.eq (congrArg (fun z => F0 m0 68 ls [.int (zI z)]) v9) ?_
            exact W.iret hx hb hr (fun t ht hW => ⟨rfl, ⟨by rw [ht]; exact hG, va_K.moved hW.alike hK⟩, hS.F ht⟩) hS.2.2 dX5_event_68
        · refine lv_aload_n hx hb dX5_event_30 rfl (lv_at hl 0 rfl) ?_
          refine r_getA hx hb hts hin hown hK hG 27 (by decide) (by decide) (hts (.fieldLink RX5 74 "LineEventsModel" "eventAt" "[I") (by decide +kernel)) dX5_event_31 ?_
          refine lv_iload_n hx hb dX5_event_34 rfl (lv_at hl 1 rfl) ?_
          refine r_iald hx hb hK hG 27 (by decide) rfl (k).toNat 0 (by simp only [show rW 27 = 1 from rfl]; omega) (by simp only [show rN 27 = 1000 from rfl]; omega) (by simp only [show rW 27 = 1 from rfl]; omega) (w := S0 27 (k).toNat 0) (rfl) dX5_event_35 ?_
          refine lv_goto (tgt := 68) hx hb dX5_event_36 (by decide) ?_
          have v9 : S0 27 (k).toNat 0 = reventV S0 k q := by unfold reventV; first | (exfalso; omega) | rw [if_neg (by omega)] | rw [if_pos (by omega), if_pos (by omega)] | rw [if_pos (by omega), if_neg (by omega), if_pos (by omega)] | rw [if_pos (by omega), if_neg (by omega), if_neg (by omega), if_pos (by omega)] | rw [if_pos (by omega), if_neg (by omega), if_neg (by omega), if_neg (by omega)]
          refine W.eq (congrArg (fun z => F0 m0 68 ls [.int (zI z)]) v9) ?_
          exact W.iret hx hb hr (fun t ht hW => ⟨rfl, ⟨by rw [ht]; exact hG, va_K.moved hW.alike hK⟩, hS.F ht⟩) hS.2.2 dX5_event_68
      · refine lv_iconst (v := zI (-1)) hx hb dX5_event_24 rfl ?_
        have v9 : (-1) = reventV S0 k q := by unfold reventV; first | (exfalso; omega) | rw [if_neg (by omega)] | rw [if_pos (by omega), if_pos (by omega)] | rw [if_pos (by omega), if_neg (by omega), if_pos (by omega)] | rw [if_pos (by omega), if_neg (by omega), if_neg (by omega), if_pos (by omega)] | rw [if_pos (by omega), if_neg (by omega), if_neg (by omega), if_neg (by omega)]
        refine W.eq (congrArg (fun z => F0 m0 25 ls [.int (zI z)]) v9) ?_
        exact W.iret hx hb hr (fun t ht hW => ⟨rfl, ⟨by rw [ht]; exact hG, va_K.moved hW.alike hK⟩, hS.F ht⟩) hS.2.2 dX5_event_25
set_option maxHeartbeats 4000000 in
set_option maxRecDepth 100000 in
theorem m_X5_made (l : Launch) (D : va_G) (cI cJ : ClassId) (A : Nat → Prop) (ad : Nat → Nat → Nat) (S : Nat → Nat → Nat → Int)   (hI : Inv S) : Met l yX5_made wsX5_made ({ frames := 0, cells := 0, slots := 0, locals := 0 }) (va_Pc [.ref (ad 32 0)] (gRU D cI cJ A ad S)) (gO (some (.long (zL ((su S 31 0 0 0) 24 0 0)))) (gRU D cI cJ A ad ((su S 31 0 0 0))) A) 0 0 A := by
  refine Met.ofW (cc := cX5_made) (maxL := 1) (ret := (some .long)) (by decide) rfl ?_
  intro p e s m0 args below meth c s₁ B hml hv
  obtain ⟨rfl, hG, hK⟩ := hv
  have hx := B.exec
  have hb := B.bytes
  have hr := B.returns
  have hts := atoms_spec (ws := wsX5_made) B.pre
  have hown : s.vm.findClass RX5 = some m0.cls := findClass_of_methodNamed B.named
  have hlocks := B.notSynchronized
  have hin : ∀ w ∈ wsX50, w ∈ wsX5_made := by decide +kernel
  have hS : va_S A s.heap s.heap [] := va_S.rf
  have hl := lv_entry ([.ref (ad 32 0)]) (n := 1) (Nat.le_of_ble_eq_true rfl)
  rw [lg_entry_eq]
  generalize (lg_sl ([.ref (ad 32 0)]) ++ List.replicate (1 - (lg_sl ([.ref (ad 32 0)])).length) Slot.unset).toArray = ls at hl ⊢
  replace hl : lv_has ls 1 [(0, .ref (ad 32 0))] := hl
  refine lv_aload_n hx hb dX5_made_0 rfl (lv_at hl 0 rfl) ?_
  refine lv_iconst (v := zI 0) hx hb dX5_made_1 rfl ?_
  refine r_putI hx hb hts hin hown hK hG hS 31 (by decide) rfl (hts (.fieldLink RX5 87 "LineEventsModel" "thrown" "I") (by decide +kernel)) rfl rfl (z := 0) dX5_made_2 (fun H locs hG hS => ?_)
  generalize hS0 : su S 31 0 0 0 = S0 at hG ⊢
  have hI0 : Inv S0 := by rw [← hS0]; exact hI
  obtain ⟨hI5, hI25, hI20, hIM, hIL, hIR⟩ := id hI0
  refine lv_aload_n hx hb dX5_made_5 rfl (lv_at hl 0 rfl) ?_
  refine r_getJ hx hb hts hin hown hK hG 24 (by decide) rfl (hts (.fieldLink RX5 129 "LineEventsModel" "made" "J") (by decide +kernel)) (z := S0 24 0 0) (rfl) dX5_made_6 ?_
  have v9 : S0 24 0 0 = S0 24 0 0 := by rfl
  refine W.eq (congrArg (fun z => F0 m0 9 ls [.long (zL z)]) v9) ?_
  exact W.lret hx hb hr (fun t ht hW => ⟨rfl, ⟨by rw [ht]; exact hG, va_K.moved hW.alike hK⟩, hS.F ht⟩) hS.2.2 dX5_made_9
set_option maxHeartbeats 4000000 in
set_option maxRecDepth 100000 in
theorem m_X5_lost (l : Launch) (D : va_G) (cI cJ : ClassId) (A : Nat → Prop) (ad : Nat → Nat → Nat) (S : Nat → Nat → Nat → Int) (z cs : Int) (hz0 : zB z) (hc0 : zB cs) (hI : Inv S) : Met l yX5_lost wsX5_lost ({ frames := 1, cells := 0, slots := 0, locals := 21 }) (va_Pc [.ref (ad 32 0), .int (zI z), .int (zI cs)] (gRU D cI cJ A ad S)) (gO (some (.long (rlostV S z cs))) (gRU D cI cJ A ad (rtM S z)) A) 0 0 A := by
  refine Met.ofW (cc := cX5_lost) (maxL := 3) (ret := (some .long)) (by decide) rfl ?_
  intro p e s m0 args below meth c s₁ B hml hv
  obtain ⟨rfl, hG, hK⟩ := hv
  have hx := B.exec
  have hb := B.bytes
  have hr := B.returns
  have hts := atoms_spec (ws := wsX5_lost) B.pre
  have hown : s.vm.findClass RX5 = some m0.cls := findClass_of_methodNamed B.named
  have hlocks := B.notSynchronized
  have hin : ∀ w ∈ wsX50, w ∈ wsX5_lost := by decide +kernel
  have hS : va_S A s.heap s.heap [] := va_S.rf
  have hl := lv_entry ([.ref (ad 32 0), .int (zI z), .int (zI cs)]) (n := 3) (Nat.le_of_ble_eq_true rfl)
  rw [lg_entry_eq]
  generalize (lg_sl ([.ref (ad 32 0), .int (zI z), .int (zI cs)]) ++ List.replicate (3 - (lg_sl ([.ref (ad 32 0), .int (zI z), .int (zI cs)])).length) Slot.unset).toArray = ls at hl ⊢
  replace hl : lv_has ls 3 [(0, .ref (ad 32 0)), (1, .int (zI z)), (2, .int (zI cs))] := hl
  obtain ⟨hI5, hI25, hI20, hIM, hIL, hIR⟩ := id hI
  refine lv_aload_n hx hb dX5_lost_0 rfl (lv_at hl 0 rfl) ?_
  refine lv_aload_n hx hb dX5_lost_1 rfl (lv_at hl 0 rfl) ?_
  refine lv_iload_n hx hb dX5_lost_2 rfl (lv_at hl 1 rfl) ?_
  refine r_callV (As := [.int (zI z)]) (rest := [.ref (ad 32 0)]) ⟨hx, hb, hml, hown, hts⟩ (m_X5_isMachine l D cI cJ A ad S z hz0 hI5) (cwV 1 hts gX5_lost_X5_isMachine rfl rfl rfl (by decide +kernel) ⟨Nat.le_of_ble_eq_true rfl, Nat.le_of_ble_eq_true rfl⟩) hK hG hS rfl hl.1 rfl (Nat.le_of_ble_eq_true rfl) dX5_lost_3 ⟨Nat.zero_le _, Nat.zero_le _⟩ (fun H locs hG hS => ?_)
  refine z_ifb_eq (tgt := 13) hx hb dX5_lost_6 (by decide) (fun c_1 => ?_) (fun c_1 => ?_)
  · refine lv_iconst (v := zI 1) hx hb dX5_lost_13 rfl ?_
    refine r_putI hx hb hts hin hown hK hG hS 31 (by decide) rfl (hts (.fieldLink RX5 87 "LineEventsModel" "thrown" "I") (by decide +kernel)) rfl rfl (z := 1) dX5_lost_14 (fun H locs hG hS => ?_)
    refine lv_aload_n hx hb dX5_lost_17 rfl (lv_at hl 0 rfl) ?_
    refine r_getI hx hb hts hin hown hK hG 31 (by decide) rfl (hts (.fieldLink RX5 87 "LineEventsModel" "thrown" "I") (by decide +kernel)) (z := 1) (by simp [su]) dX5_lost_18 ?_
    refine lv_iconst (v := zI 1) hx hb dX5_lost_21 rfl ?_
    refine z_icmp_eq (tgt := 35) hx hb dX5_lost_22 (by decide) ⟨by decide, by decide⟩ ⟨by decide, by decide⟩ (fun _ => ?_) (fun q => absurd q (by decide))
    refine z_ldc2 (z := (-1)) hx hb hown (hts (.constantLong RX5 159 (-1)) (by decide +kernel)) (by decide) dX5_lost_35 ?_
    refine lv_goto (tgt := 60) hx hb dX5_lost_38 (by decide) ?_
    have e9 : su S 31 0 0 (1) = rtM S z := by unfold rtM; first | (exfalso; omega) | rw [if_neg (by omega)] | rw [if_pos (by omega)]
    rw [e9] at hG
    have v9 : zL (-1) = rlostV S z cs := by unfold rlostV; first | (exfalso; omega) | rw [if_neg (by omega)] | rw [if_pos (by omega)]
    refine W.eq (congrArg (fun z => F0 m0 60 ls [.long z]) v9) ?_
    exact W.lret hx hb hr (fun t ht hW => ⟨rfl, ⟨by rw [ht]; exact hG, va_K.moved hW.alike hK⟩, hS.F ht⟩) hS.2.2 dX5_lost_60
  · obtain ⟨hL0, hL1, hL2, hL3, hL4⟩ := id (hIL z.toNat (by omega))
    refine lv_iconst (v := zI 0) hx hb dX5_lost_9 rfl ?_
    refine lv_goto (tgt := 14) hx hb dX5_lost_10 (by decide) ?_
    refine r_putI hx hb hts hin hown hK hG hS 31 (by decide) rfl (hts (.fieldLink RX5 87 "LineEventsModel" "thrown" "I") (by decide +kernel)) rfl rfl (z := 0) dX5_lost_14 (fun H locs hG hS => ?_)
    refine lv_aload_n hx hb dX5_lost_17 rfl (lv_at hl 0 rfl) ?_
    refine r_getI hx hb hts hin hown hK hG 31 (by decide) rfl (hts (.fieldLink RX5 87 "LineEventsModel" "thrown" "I") (by decide +kernel)) (z := 0) (by simp [su]) dX5_lost_18 ?_
    refine lv_iconst (v := zI 1) hx hb dX5_lost_21 rfl ?_
    refine z_icmp_eq (tgt := 35) hx hb dX5_lost_22 (by decide) ⟨by decide, by decide⟩ ⟨by decide, by decide⟩ (fun q => absurd q (by decide)) (fun _ => ?_)
    refine lv_iload_n hx hb dX5_lost_25 rfl (lv_at hl 2 rfl) ?_
    refine z_if_lt (tgt := 35) hx hb dX5_lost_26 (by decide) ⟨by omega, by omega⟩ (fun c_4 => ?_) (fun c_4 => ?_)
    · refine z_ldc2 (z := (-1)) hx hb hown (hts (.constantLong RX5 159 (-1)) (by decide +kernel)) (by decide) dX5_lost_35 ?_
      refine lv_goto (tgt := 60) hx hb dX5_lost_38 (by decide) ?_
      have e9 : su S 31 0 0 (0) = rtM S z := by unfold rtM; first | (exfalso; omega) | rw [if_neg (by omega)] | rw [if_pos (by omega)]
      rw [e9] at hG
      have v9 : zL (-1) = rlostV S z cs := by unfold rlostV; first | (exfalso; omega) | rw [if_neg (by omega)] | rw [if_pos (by omega)]
      refine W.eq (congrArg (fun z => F0 m0 60 ls [.long z]) v9) ?_
      exact W.lret hx hb hr (fun t ht hW => ⟨rfl, ⟨by rw [ht]; exact hG, va_K.moved hW.alike hK⟩, hS.F ht⟩) hS.2.2 dX5_lost_60
    · refine lv_iload_n hx hb dX5_lost_29 rfl (lv_at hl 2 rfl) ?_
      refine lv_bipush (v := zI 12) hx hb dX5_lost_30 (by decide) ?_
      refine z_icmp_lt (tgt := 41) hx hb dX5_lost_32 (by decide) ⟨by omega, by omega⟩ ⟨by decide, by decide⟩ (fun c_5 => ?_) (fun c_5 => ?_)
      · refine lv_aload_n hx hb dX5_lost_41 rfl (lv_at hl 0 rfl) ?_
        refine r_getA hx hb hts hin hown hK hG 21 (by decide) (by decide) (hts (.fieldLink RX5 68 "LineEventsModel" "times" "[J") (by decide +kernel)) dX5_lost_42 ?_
        refine lv_iload_n hx hb dX5_lost_45 rfl (lv_at hl 1 rfl) ?_
        refine lv_bipush (v := zI 12) hx hb dX5_lost_46 (by decide) ?_
        refine z_imul hx hb dX5_lost_48 ?_
        refine lv_iload_n hx hb dX5_lost_49 rfl (lv_at hl 2 rfl) ?_
        refine z_iadd hx hb dX5_lost_50 ?_
        refine r_lald hx hb hK hG 21 (by decide) rfl (z).toNat (cs).toNat (by simp only [show rW 21 = 12 from rfl]; omega) (by simp only [show rN 21 = 12 from rfl]; omega) (by simp only [show rW 21 = 12 from rfl]; omega) (w := S 21 (z).toNat (cs).toNat) (by simp [su]) dX5_lost_51 ?_
        refine lv_aload_n hx hb dX5_lost_52 rfl (lv_at hl 0 rfl) ?_
        refine r_getA hx hb hts hin hown hK hG 0 (by decide) (by decide) (hts (.fieldLink RX5 9 "LineEventsModel" "takes" "[I") (by decide +kernel)) dX5_lost_53 ?_
        refine lv_iload_n hx hb dX5_lost_56 rfl (lv_at hl 1 rfl) ?_
        refine r_iald hx hb hK hG 0 (by decide) rfl (z).toNat 0 (by simp only [show rW 0 = 1 from rfl]; omega) (by simp only [show rN 0 = 12 from rfl]; omega) (by simp only [show rW 0 = 1 from rfl]; omega) (w := S 0 (z).toNat 0) (by simp [su]) dX5_lost_57 ?_
        refine z_i2l hx hb dX5_lost_58 ⟨by omega, by omega⟩ ?_
        refine z_ldiv hx hb dX5_lost_59 ⟨by omega, by omega⟩ ?_
        have e9 : su S 31 0 0 (0) = rtM S z := by unfold rtM; first | (exfalso; omega) | rw [if_neg (by omega)] | rw [if_pos (by omega)]
        rw [e9] at hG
        have v9 : zL (S 21 (z).toNat (cs).toNat) / zL (S 0 (z).toNat 0) = rlostV S z cs := by unfold rlostV; first | (exfalso; omega) | rw [if_neg (by omega)] | rw [if_pos (by omega)]
        refine W.eq (congrArg (fun z => F0 m0 60 ls [.long z]) v9) ?_
        exact W.lret hx hb hr (fun t ht hW => ⟨rfl, ⟨by rw [ht]; exact hG, va_K.moved hW.alike hK⟩, hS.F ht⟩) hS.2.2 dX5_lost_60
      · refine z_ldc2 (z := (-1)) hx hb hown (hts (.constantLong RX5 159 (-1)) (by decide +kernel)) (by decide) dX5_lost_35 ?_
        refine lv_goto (tgt := 60) hx hb dX5_lost_38 (by decide) ?_
        have e9 : su S 31 0 0 (0) = rtM S z := by unfold rtM; first | (exfalso; omega) | rw [if_neg (by omega)] | rw [if_pos (by omega)]
        rw [e9] at hG
        have v9 : zL (-1) = rlostV S z cs := by unfold rlostV; first | (exfalso; omega) | rw [if_neg (by omega)] | rw [if_pos (by omega)]
        refine W.eq (congrArg (fun z => F0 m0 60 ls [.long z]) v9) ?_
        exact W.lret hx hb hr (fun t ht hW => ⟨rfl, ⟨by rw [ht]; exact hG, va_K.moved hW.alike hK⟩, hS.F ht⟩) hS.2.2 dX5_lost_60
set_option maxHeartbeats 4000000 in
set_option maxRecDepth 100000 in
theorem m_X5_rejected (l : Launch) (D : va_G) (cI cJ : ClassId) (A : Nat → Prop) (ad : Nat → Nat → Nat) (S : Nat → Nat → Nat → Int) (z : Int) (hz0 : zB z) (hI : Inv S) : Met l yX5_rejected wsX5_rejected ({ frames := 1, cells := 0, slots := 0, locals := 21 }) (va_Pc [.ref (ad 32 0), .int (zI z)] (gRU D cI cJ A ad S)) (gO (some (.long (zL (rrejV S z)))) (gRU D cI cJ A ad (rtM S z)) A) 0 0 A := by
  refine Met.ofW (cc := cX5_rejected) (maxL := 2) (ret := (some .long)) (by decide) rfl ?_
  intro p e s m0 args below meth c s₁ B hml hv
  obtain ⟨rfl, hG, hK⟩ := hv
  have hx := B.exec
  have hb := B.bytes
  have hr := B.returns
  have hts := atoms_spec (ws := wsX5_rejected) B.pre
  have hown : s.vm.findClass RX5 = some m0.cls := findClass_of_methodNamed B.named
  have hlocks := B.notSynchronized
  have hin : ∀ w ∈ wsX50, w ∈ wsX5_rejected := by decide +kernel
  have hS : va_S A s.heap s.heap [] := va_S.rf
  have hl := lv_entry ([.ref (ad 32 0), .int (zI z)]) (n := 2) (Nat.le_of_ble_eq_true rfl)
  rw [lg_entry_eq]
  generalize (lg_sl ([.ref (ad 32 0), .int (zI z)]) ++ List.replicate (2 - (lg_sl ([.ref (ad 32 0), .int (zI z)])).length) Slot.unset).toArray = ls at hl ⊢
  replace hl : lv_has ls 2 [(0, .ref (ad 32 0)), (1, .int (zI z))] := hl
  obtain ⟨hI5, hI25, hI20, hIM, hIL, hIR⟩ := id hI
  refine lv_aload_n hx hb dX5_rejected_0 rfl (lv_at hl 0 rfl) ?_
  refine lv_aload_n hx hb dX5_rejected_1 rfl (lv_at hl 0 rfl) ?_
  refine lv_iload_n hx hb dX5_rejected_2 rfl (lv_at hl 1 rfl) ?_
  refine r_callV (As := [.int (zI z)]) (rest := [.ref (ad 32 0)]) ⟨hx, hb, hml, hown, hts⟩ (m_X5_isMachine l D cI cJ A ad S z hz0 hI5) (cwV 1 hts gX5_rejected_X5_isMachine rfl rfl rfl (by decide +kernel) ⟨Nat.le_of_ble_eq_true rfl, Nat.le_of_ble_eq_true rfl⟩) hK hG hS rfl hl.1 rfl (Nat.le_of_ble_eq_true rfl) dX5_rejected_3 ⟨Nat.zero_le _, Nat.zero_le _⟩ (fun H locs hG hS => ?_)
  refine z_ifb_eq (tgt := 13) hx hb dX5_rejected_6 (by decide) (fun c_1 => ?_) (fun c_1 => ?_)
  · refine lv_iconst (v := zI 1) hx hb dX5_rejected_13 rfl ?_
    refine r_putI hx hb hts hin hown hK hG hS 31 (by decide) rfl (hts (.fieldLink RX5 87 "LineEventsModel" "thrown" "I") (by decide +kernel)) rfl rfl (z := 1) dX5_rejected_14 (fun H locs hG hS => ?_)
    refine lv_aload_n hx hb dX5_rejected_17 rfl (lv_at hl 0 rfl) ?_
    refine r_getI hx hb hts hin hown hK hG 31 (by decide) rfl (hts (.fieldLink RX5 87 "LineEventsModel" "thrown" "I") (by decide +kernel)) (z := 1) (by simp [su]) dX5_rejected_18 ?_
    refine lv_iconst (v := zI 1) hx hb dX5_rejected_21 rfl ?_
    refine z_icmp_ne (tgt := 31) hx hb dX5_rejected_22 (by decide) ⟨by decide, by decide⟩ ⟨by decide, by decide⟩ (fun q => absurd q (by decide)) (fun _ => ?_)
    refine z_ldc2 (z := (-1)) hx hb hown (hts (.constantLong RX5 159 (-1)) (by decide +kernel)) (by decide) dX5_rejected_25 ?_
    refine lv_goto (tgt := 37) hx hb dX5_rejected_28 (by decide) ?_
    have e9 : su S 31 0 0 (1) = rtM S z := by unfold rtM; first | (exfalso; omega) | rw [if_neg (by omega)] | rw [if_pos (by omega)]
    rw [e9] at hG
    have v9 : (-1) = rrejV S z := by unfold rrejV; first | (exfalso; omega) | rw [if_neg (by omega)] | rw [if_pos (by omega)]
    refine W.eq (congrArg (fun z => F0 m0 37 ls [.long (zL z)]) v9) ?_
    exact W.lret hx hb hr (fun t ht hW => ⟨rfl, ⟨by rw [ht]; exact hG, va_K.moved hW.alike hK⟩, hS.F ht⟩) hS.2.2 dX5_rejected_37
  · refine lv_iconst (v := zI 0) hx hb dX5_rejected_9 rfl ?_
    refine lv_goto (tgt := 14) hx hb dX5_rejected_10 (by decide) ?_
    refine r_putI hx hb hts hin hown hK hG hS 31 (by decide) rfl (hts (.fieldLink RX5 87 "LineEventsModel" "thrown" "I") (by decide +kernel)) rfl rfl (z := 0) dX5_rejected_14 (fun H locs hG hS => ?_)
    refine lv_aload_n hx hb dX5_rejected_17 rfl (lv_at hl 0 rfl) ?_
    refine r_getI hx hb hts hin hown hK hG 31 (by decide) rfl (hts (.fieldLink RX5 87 "LineEventsModel" "thrown" "I") (by decide +kernel)) (z := 0) (by simp [su]) dX5_rejected_18 ?_
    refine lv_iconst (v := zI 1) hx hb dX5_rejected_21 rfl ?_
    refine z_icmp_ne (tgt := 31) hx hb dX5_rejected_22 (by decide) ⟨by decide, by decide⟩ ⟨by decide, by decide⟩ (fun _ => ?_) (fun q => absurd q (by decide))
    refine lv_aload_n hx hb dX5_rejected_31 rfl (lv_at hl 0 rfl) ?_
    refine r_getA hx hb hts hin hown hK hG 22 (by decide) (by decide) (hts (.fieldLink RX5 71 "LineEventsModel" "rejects" "[J") (by decide +kernel)) dX5_rejected_32 ?_
    refine lv_iload_n hx hb dX5_rejected_35 rfl (lv_at hl 1 rfl) ?_
    refine r_lald hx hb hK hG 22 (by decide) rfl (z).toNat 0 (by simp only [show rW 22 = 1 from rfl]; omega) (by simp only [show rN 22 = 12 from rfl]; omega) (by simp only [show rW 22 = 1 from rfl]; omega) (w := S 22 (z).toNat 0) (by simp [su]) dX5_rejected_36 ?_
    have e9 : su S 31 0 0 (0) = rtM S z := by unfold rtM; first | (exfalso; omega) | rw [if_neg (by omega)] | rw [if_pos (by omega)]
    rw [e9] at hG
    have v9 : S 22 (z).toNat 0 = rrejV S z := by unfold rrejV; first | (exfalso; omega) | rw [if_neg (by omega)] | rw [if_pos (by omega)]
    refine W.eq (congrArg (fun z => F0 m0 37 ls [.long (zL z)]) v9) ?_
    exact W.lret hx hb hr (fun t ht hW => ⟨rfl, ⟨by rw [ht]; exact hG, va_K.moved hW.alike hK⟩, hS.F ht⟩) hS.2.2 dX5_rejected_37
set_option maxHeartbeats 4000000 in
set_option maxRecDepth 100000 in
theorem m_X5_time (l : Launch) (D : va_G) (cI cJ : ClassId) (A : Nat → Prop) (ad : Nat → Nat → Nat) (S : Nat → Nat → Nat → Int) (z cs : Int) (hz0 : zB z) (hc0 : zB cs) (hI : Inv S) : Met l yX5_time wsX5_time ({ frames := 1, cells := 0, slots := 0, locals := 21 }) (va_Pc [.ref (ad 32 0), .int (zI z), .int (zI cs)] (gRU D cI cJ A ad S)) (gO (some (.long (zL (rtimeV S z cs)))) (gRU D cI cJ A ad (rtM S z)) A) 0 0 A := by
  refine Met.ofW (cc := cX5_time) (maxL := 3) (ret := (some .long)) (by decide) rfl ?_
  intro p e s m0 args below meth c s₁ B hml hv
  obtain ⟨rfl, hG, hK⟩ := hv
  have hx := B.exec
  have hb := B.bytes
  have hr := B.returns
  have hts := atoms_spec (ws := wsX5_time) B.pre
  have hown : s.vm.findClass RX5 = some m0.cls := findClass_of_methodNamed B.named
  have hlocks := B.notSynchronized
  have hin : ∀ w ∈ wsX50, w ∈ wsX5_time := by decide +kernel
  have hS : va_S A s.heap s.heap [] := va_S.rf
  have hl := lv_entry ([.ref (ad 32 0), .int (zI z), .int (zI cs)]) (n := 3) (Nat.le_of_ble_eq_true rfl)
  rw [lg_entry_eq]
  generalize (lg_sl ([.ref (ad 32 0), .int (zI z), .int (zI cs)]) ++ List.replicate (3 - (lg_sl ([.ref (ad 32 0), .int (zI z), .int (zI cs)])).length) Slot.unset).toArray = ls at hl ⊢
  replace hl : lv_has ls 3 [(0, .ref (ad 32 0)), (1, .int (zI z)), (2, .int (zI cs))] := hl
  obtain ⟨hI5, hI25, hI20, hIM, hIL, hIR⟩ := id hI
  refine lv_aload_n hx hb dX5_time_0 rfl (lv_at hl 0 rfl) ?_
  refine lv_aload_n hx hb dX5_time_1 rfl (lv_at hl 0 rfl) ?_
  refine lv_iload_n hx hb dX5_time_2 rfl (lv_at hl 1 rfl) ?_
  refine r_callV (As := [.int (zI z)]) (rest := [.ref (ad 32 0)]) ⟨hx, hb, hml, hown, hts⟩ (m_X5_isMachine l D cI cJ A ad S z hz0 hI5) (cwV 1 hts gX5_time_X5_isMachine rfl rfl rfl (by decide +kernel) ⟨Nat.le_of_ble_eq_true rfl, Nat.le_of_ble_eq_true rfl⟩) hK hG hS rfl hl.1 rfl (Nat.le_of_ble_eq_true rfl) dX5_time_3 ⟨Nat.zero_le _, Nat.zero_le _⟩ (fun H locs hG hS => ?_)
  refine z_ifb_eq (tgt := 13) hx hb dX5_time_6 (by decide) (fun c_1 => ?_) (fun c_1 => ?_)
  · refine lv_iconst (v := zI 1) hx hb dX5_time_13 rfl ?_
    refine r_putI hx hb hts hin hown hK hG hS 31 (by decide) rfl (hts (.fieldLink RX5 87 "LineEventsModel" "thrown" "I") (by decide +kernel)) rfl rfl (z := 1) dX5_time_14 (fun H locs hG hS => ?_)
    refine lv_aload_n hx hb dX5_time_17 rfl (lv_at hl 0 rfl) ?_
    refine r_getI hx hb hts hin hown hK hG 31 (by decide) rfl (hts (.fieldLink RX5 87 "LineEventsModel" "thrown" "I") (by decide +kernel)) (z := 1) (by simp [su]) dX5_time_18 ?_
    refine lv_iconst (v := zI 1) hx hb dX5_time_21 rfl ?_
    refine z_icmp_eq (tgt := 35) hx hb dX5_time_22 (by decide) ⟨by decide, by decide⟩ ⟨by decide, by decide⟩ (fun _ => ?_) (fun q => absurd q (by decide))
    refine z_ldc2 (z := (-1)) hx hb hown (hts (.constantLong RX5 159 (-1)) (by decide +kernel)) (by decide) dX5_time_35 ?_
    refine lv_goto (tgt := 52) hx hb dX5_time_38 (by decide) ?_
    have e9 : su S 31 0 0 (1) = rtM S z := by unfold rtM; first | (exfalso; omega) | rw [if_neg (by omega)] | rw [if_pos (by omega)]
    rw [e9] at hG
    have v9 : (-1) = rtimeV S z cs := by unfold rtimeV; first | (exfalso; omega) | rw [if_neg (by omega)] | rw [if_pos (by omega)]
    refine W.eq (congrArg (fun z => F0 m0 52 ls [.long (zL z)]) v9) ?_
    exact W.lret hx hb hr (fun t ht hW => ⟨rfl, ⟨by rw [ht]; exact hG, va_K.moved hW.alike hK⟩, hS.F ht⟩) hS.2.2 dX5_time_52
  · refine lv_iconst (v := zI 0) hx hb dX5_time_9 rfl ?_
    refine lv_goto (tgt := 14) hx hb dX5_time_10 (by decide) ?_
    refine r_putI hx hb hts hin hown hK hG hS 31 (by decide) rfl (hts (.fieldLink RX5 87 "LineEventsModel" "thrown" "I") (by decide +kernel)) rfl rfl (z := 0) dX5_time_14 (fun H locs hG hS => ?_)
    refine lv_aload_n hx hb dX5_time_17 rfl (lv_at hl 0 rfl) ?_
    refine r_getI hx hb hts hin hown hK hG 31 (by decide) rfl (hts (.fieldLink RX5 87 "LineEventsModel" "thrown" "I") (by decide +kernel)) (z := 0) (by simp [su]) dX5_time_18 ?_
    refine lv_iconst (v := zI 1) hx hb dX5_time_21 rfl ?_
    refine z_icmp_eq (tgt := 35) hx hb dX5_time_22 (by decide) ⟨by decide, by decide⟩ ⟨by decide, by decide⟩ (fun q => absurd q (by decide)) (fun _ => ?_)
    refine lv_iload_n hx hb dX5_time_25 rfl (lv_at hl 2 rfl) ?_
    refine z_if_lt (tgt := 35) hx hb dX5_time_26 (by decide) ⟨by omega, by omega⟩ (fun c_4 => ?_) (fun c_4 => ?_)
    · refine z_ldc2 (z := (-1)) hx hb hown (hts (.constantLong RX5 159 (-1)) (by decide +kernel)) (by decide) dX5_time_35 ?_
      refine lv_goto (tgt := 52) hx hb dX5_time_38 (by decide) ?_
      have e9 : su S 31 0 0 (0) = rtM S z := by unfold rtM; first | (exfalso; omega) | rw [if_neg (by omega)] | rw [if_pos (by omega)]
      rw [e9] at hG
      have v9 : (-1) = rtimeV S z cs := by unfold rtimeV; first | (exfalso; omega) | rw [if_neg (by omega)] | rw [if_pos (by omega)]
      refine W.eq (congrArg (fun z => F0 m0 52 ls [.long (zL z)]) v9) ?_
      exact W.lret hx hb hr (fun t ht hW => ⟨rfl, ⟨by rw [ht]; exact hG, va_K.moved hW.alike hK⟩, hS.F ht⟩) hS.2.2 dX5_time_52
    · refine lv_iload_n hx hb dX5_time_29 rfl (lv_at hl 2 rfl) ?_
      refine lv_bipush (v := zI 12) hx hb dX5_time_30 (by decide) ?_
      refine z_icmp_lt (tgt := 41) hx hb dX5_time_32 (by decide) ⟨by omega, by omega⟩ ⟨by decide, by decide⟩ (fun c_5 => ?_) (fun c_5 => ?_)
      · refine lv_aload_n hx hb dX5_time_41 rfl (lv_at hl 0 rfl) ?_
        refine r_getA hx hb hts hin hown hK hG 21 (by decide) (by decide) (hts (.fieldLink RX5 68 "LineEventsModel" "times" "[J") (by decide +kernel)) dX5_time_42 ?_
        refine lv_iload_n hx hb dX5_time_45 rfl (lv_at hl 1 rfl) ?_
        refine lv_bipush (v := zI 12) hx hb dX5_time_46 (by decide) ?_
        refine z_imul hx hb dX5_time_48 ?_
        refine lv_iload_n hx hb dX5_time_49 rfl (lv_at hl 2 rfl) ?_
        refine z_iadd hx hb dX5_time_50 ?_
        refine r_lald hx hb hK hG 21 (by decide) rfl (z).toNat (cs).toNat (by simp only [show rW 21 = 12 from rfl]; omega) (by simp only [show rN 21 = 12 from rfl]; omega) (by simp only [show rW 21 = 12 from rfl]; omega) (w := S 21 (z).toNat (cs).toNat) (by simp [su]) dX5_time_51 ?_
        have e9 : su S 31 0 0 (0) = rtM S z := by unfold rtM; first | (exfalso; omega) | rw [if_neg (by omega)] | rw [if_pos (by omega)]
        rw [e9] at hG
        have v9 : S 21 (z).toNat (cs).toNat = rtimeV S z cs := by unfold rtimeV; first | (exfalso; omega) | rw [if_neg (by omega)] | rw [if_pos (by omega)]
        refine W.eq (congrArg (fun z => F0 m0 52 ls [.long (zL z)]) v9) ?_
        exact W.lret hx hb hr (fun t ht hW => ⟨rfl, ⟨by rw [ht]; exact hG, va_K.moved hW.alike hK⟩, hS.F ht⟩) hS.2.2 dX5_time_52
      · refine z_ldc2 (z := (-1)) hx hb hown (hts (.constantLong RX5 159 (-1)) (by decide +kernel)) (by decide) dX5_time_35 ?_
        refine lv_goto (tgt := 52) hx hb dX5_time_38 (by decide) ?_
        have e9 : su S 31 0 0 (0) = rtM S z := by unfold rtM; first | (exfalso; omega) | rw [if_neg (by omega)] | rw [if_pos (by omega)]
        rw [e9] at hG
        have v9 : (-1) = rtimeV S z cs := by unfold rtimeV; first | (exfalso; omega) | rw [if_neg (by omega)] | rw [if_pos (by omega)]
        refine W.eq (congrArg (fun z => F0 m0 52 ls [.long (zL z)]) v9) ?_
        exact W.lret hx hb hr (fun t ht hW => ⟨rfl, ⟨by rw [ht]; exact hG, va_K.moved hW.alike hK⟩, hS.F ht⟩) hS.2.2 dX5_time_52
end
section
set_option maxHeartbeats 4000000 in
set_option maxRecDepth 100000 in
theorem m_X5_within (l : Launch) (D : va_G) (cI cJ : ClassId) (A : Nat → Prop) (ad : Nat → Nat → Nat) (S : Nat → Nat → Nat → Int)  (hI : Inv S) : Met l yX5_within wsX5_within ({ frames := 0, cells := 0, slots := 0, locals := 0 }) (va_Pc [.ref (ad 32 0)] (gRU D cI cJ A ad S)) (gO (some (.long (zL (rwithin S)))) (gRU D cI cJ A ad (S)) A) 0 0 A := by
  refine Met.ofW (cc := cX5_within) (maxL := 4) (ret := (some .long)) (by decide) rfl ?_
  intro p e s m0 args below meth c s₁ B hml hv
  obtain ⟨rfl, hG, hK⟩ := hv
  have hx := B.exec
  have hb := B.bytes
  have hr := B.returns
  have hts := atoms_spec (ws := wsX5_within) B.pre
  have hown : s.vm.findClass RX5 = some m0.cls := findClass_of_methodNamed B.named
  have hlocks := B.notSynchronized
  have hin : ∀ w ∈ wsX50, w ∈ wsX5_within := by decide +kernel
  have hS : va_S A s.heap s.heap [] := va_S.rf
  have hl := lv_entry ([.ref (ad 32 0)]) (n := 4) (Nat.le_of_ble_eq_true rfl)
  rw [lg_entry_eq]
  generalize (lg_sl ([.ref (ad 32 0)]) ++ List.replicate (4 - (lg_sl ([.ref (ad 32 0)])).length) Slot.unset).toArray = ls at hl ⊢
  replace hl : lv_has ls 4 [(0, .ref (ad 32 0))] := hl
  obtain ⟨hI5, hI25, hI20, hIM, hIL, hIR⟩ := id hI
  refine lv_lconst (v := zL 0) hx hb dX5_within_0 (by decide) ?_
  refine lv_lstore_n (lv' := [(1, .long (zL 0)), (0, .ref (ad 32 0))]) hx hb dX5_within_1 rfl hl (by decide) rfl (fun ls hl => ?_)
  refine lv_iconst (v := zI 0) hx hb dX5_within_2 rfl ?_
  refine lv_istore_n (lv' := [(3, .int (zI 0)), (1, .long (zL 0)), (0, .ref (ad 32 0))]) hx hb dX5_within_3 rfl hl (by decide) rfl (fun ls hl => ?_)
  obtain ⟨k, hk0⟩ : ∃ k : Nat, k = 0 := ⟨0, rfl⟩
  obtain ⟨z, hz0⟩ : ∃ z : Int, z = 0 := ⟨0, rfl⟩
  replace hl : lv_has ls 4 [(3, .int (zI (k : Int))), (1, .long (zL z)), (0, .ref (ad 32 0))] := by subst hk0; subst hz0; exact hl
  obtain ⟨n, hn⟩ : ∃ n : Nat, (k : Int) + n = S 5 0 0 := ⟨(S 5 0 0).toNat, by omega⟩
  have hv9 : rwth S n k z = rwithin S := by subst hk0; subst hz0; unfold rwithin; congr 1; omega
  clear hk0 hz0
  induction n generalizing k ls z with
  | zero =>
    refine lv_iload_n hx hb dX5_within_4 rfl (lv_at hl 0 rfl) ?_
    refine lv_aload_n hx hb dX5_within_5 rfl (lv_at hl 2 rfl) ?_
    refine r_getI hx hb hts hin hown hK hG 5 (by decide) rfl (hts (.fieldLink RX5 91 "LineEventsModel" "machines" "I") (by decide +kernel)) (z := S 5 0 0) (rfl) dX5_within_6 ?_
    refine z_icmp_ge (tgt := 43) hx hb dX5_within_9 (by decide) ⟨by omega, by omega⟩ ⟨by omega, by omega⟩ (fun c_1 => ?_) (fun c_1 => ?_)
    · refine lv_lload_n hx hb dX5_within_43 rfl (lv_at hl 1 rfl) ?_
      have v9 : z = rwithin S := by rw [← hv9]; rfl
      refine W.eq (congrArg (fun z => F0 m0 44 ls [.long (zL z)]) v9) ?_
      exact W.lret hx hb hr (fun t ht hW => ⟨rfl, ⟨by rw [ht]; exact hG, va_K.moved hW.alike hK⟩, hS.F ht⟩) hS.2.2 dX5_within_44
    · exfalso; omega
  | succ n ih =>
    refine lv_iload_n hx hb dX5_within_4 rfl (lv_at hl 0 rfl) ?_
    refine lv_aload_n hx hb dX5_within_5 rfl (lv_at hl 2 rfl) ?_
    refine r_getI hx hb hts hin hown hK hG 5 (by decide) rfl (hts (.fieldLink RX5 91 "LineEventsModel" "machines" "I") (by decide +kernel)) (z := S 5 0 0) (rfl) dX5_within_6 ?_
    refine z_icmp_ge (tgt := 43) hx hb dX5_within_9 (by decide) ⟨by omega, by omega⟩ ⟨by omega, by omega⟩ (fun c_2 => ?_) (fun c_2 => ?_)
    · exfalso; omega
    · obtain ⟨hM6, hM7, hM8, hM10, hM11, hM15, hM9, hMf⟩ := id (hIM k (by omega))
      refine lv_lload_n hx hb dX5_within_12 rfl (lv_at hl 1 rfl) ?_
      refine lv_aload_n hx hb dX5_within_13 rfl (lv_at hl 2 rfl) ?_
      refine r_getA hx hb hts hin hown hK hG 11 (by decide) (by decide) (hts (.fieldLink RX5 40 "LineEventsModel" "many" "[I") (by decide +kernel)) dX5_within_14 ?_
      refine lv_iload_n hx hb dX5_within_17 rfl (lv_at hl 0 rfl) ?_
      refine r_iald hx hb hK hG 11 (by decide) rfl k 0 (by simp only [show rW 11 = 1 from rfl]; omega) (by simp only [show rN 11 = 12 from rfl]; omega) (by simp only [show rW 11 = 1 from rfl]; omega) (w := S 11 k 0) (rfl) dX5_within_18 ?_
      refine lv_aload_n hx hb dX5_within_19 rfl (lv_at hl 2 rfl) ?_
      refine r_getA hx hb hts hin hown hK hG 6 (by decide) (by decide) (hts (.fieldLink RX5 25 "LineEventsModel" "bottle" "[I") (by decide +kernel)) dX5_within_20 ?_
      refine lv_iload_n hx hb dX5_within_23 rfl (lv_at hl 0 rfl) ?_
      refine r_iald hx hb hK hG 6 (by decide) rfl k 0 (by simp only [show rW 6 = 1 from rfl]; omega) (by simp only [show rN 6 = 12 from rfl]; omega) (by simp only [show rW 6 = 1 from rfl]; omega) (w := S 6 k 0) (rfl) dX5_within_24 ?_
      refine z_if_ne (tgt := 32) hx hb dX5_within_25 (by decide) ⟨by omega, by omega⟩ (fun c_3 => ?_) (fun c_3 => ?_)
      · refine lv_iconst (v := zI 1) hx hb dX5_within_32 rfl ?_
        refine z_iadd hx hb dX5_within_33 ?_
        refine z_i2l hx hb dX5_within_34 ⟨by omega, by omega⟩ ?_
        refine z_ladd hx hb dX5_within_35 ?_
        refine lv_lstore_n (lv' := [(1, .long (zL (z + ((S 11 k 0) + 1)))), (3, .int (zI (k : Int))), (0, .ref (ad 32 0))]) hx hb dX5_within_36 rfl hl (by decide) rfl (fun ls hl => ?_)
        refine lv_iinc (v := zI ((k : Int) + 1)) (lv' := [(3, .int (zI ((k : Int) + 1))), (1, .long (zL (z + ((S 11 k 0) + 1)))), (0, .ref (ad 32 0))]) hx hb dX5_within_37 hl (k := 1) rfl (by rw [show Int32.ofInt 1 = zI 1 from rfl, zI_add]) (by decide) rfl (fun ls hl => ?_)
        refine lv_goto (tgt := 4) hx hb dX5_within_40 (by decide) ?_
        exact ih (k := k + 1) (ls := ls) (z := z + ((S 11 k 0) + 1)) (hl := lv_sub hl [0, 1, 2] rfl) (hn := by omega) (hv9 := by rw [← hv9, rwth]; first | rw [if_pos (by omega)] | rw [if_neg (by omega)])
      · refine lv_iconst (v := zI 0) hx hb dX5_within_28 rfl ?_
        refine lv_goto (tgt := 33) hx hb dX5_within_29 (by decide) ?_
        refine z_iadd hx hb dX5_within_33 ?_
        refine z_i2l hx hb dX5_within_34 ⟨by omega, by omega⟩ ?_
        refine z_ladd hx hb dX5_within_35 ?_
        refine lv_lstore_n (lv' := [(1, .long (zL (z + ((S 11 k 0) + 0)))), (3, .int (zI (k : Int))), (0, .ref (ad 32 0))]) hx hb dX5_within_36 rfl hl (by decide) rfl (fun ls hl => ?_)
        refine lv_iinc (v := zI ((k : Int) + 1)) (lv' := [(3, .int (zI ((k : Int) + 1))), (1, .long (zL (z + ((S 11 k 0) + 0)))), (0, .ref (ad 32 0))]) hx hb dX5_within_37 hl (k := 1) rfl (by rw [show Int32.ofInt 1 = zI 1 from rfl, zI_add]) (by decide) rfl (fun ls hl => ?_)
        refine lv_goto (tgt := 4) hx hb dX5_within_40 (by decide) ?_
        exact ih (k := k + 1) (ls := ls) (z := z + ((S 11 k 0) + 0)) (hl := lv_sub hl [0, 1, 2] rfl) (hn := by omega) (hv9 := by rw [← hv9, rwth]; first | rw [if_pos (by omega)] | rw [if_neg (by omega)])
set_option maxHeartbeats 4000000 in
set_option maxRecDepth 100000 in
theorem m_X5_inside (l : Launch) (D : va_G) (cI cJ : ClassId) (A : Nat → Prop) (ad : Nat → Nat → Nat) (S : Nat → Nat → Nat → Int)   (hI : Inv S) : Met l yX5_inside wsX5_inside ({ frames := 1, cells := 0, slots := 0, locals := 23 }) (va_Pc [.ref (ad 32 0)] (gRU D cI cJ A ad S)) (gO (some (.long (zL (rwithin (su S 31 0 0 0))))) (gRU D cI cJ A ad ((su S 31 0 0 0))) A) 0 0 A := by
  refine Met.ofW (cc := cX5_inside) (maxL := 1) (ret := (some .long)) (by decide) rfl ?_
  intro p e s m0 args below meth c s₁ B hml hv
  obtain ⟨rfl, hG, hK⟩ := hv
  have hx := B.exec
  have hb := B.bytes
  have hr := B.returns
  have hts := atoms_spec (ws := wsX5_inside) B.pre
  have hown : s.vm.findClass RX5 = some m0.cls := findClass_of_methodNamed B.named
  have hlocks := B.notSynchronized
  have hin : ∀ w ∈ wsX50, w ∈ wsX5_inside := by decide +kernel
  have hS : va_S A s.heap s.heap [] := va_S.rf
  have hl := lv_entry ([.ref (ad 32 0)]) (n := 1) (Nat.le_of_ble_eq_true rfl)
  rw [lg_entry_eq]
  generalize (lg_sl ([.ref (ad 32 0)]) ++ List.replicate (1 - (lg_sl ([.ref (ad 32 0)])).length) Slot.unset).toArray = ls at hl ⊢
  replace hl : lv_has ls 1 [(0, .ref (ad 32 0))] := hl
  refine lv_aload_n hx hb dX5_inside_0 rfl (lv_at hl 0 rfl) ?_
  refine lv_iconst (v := zI 0) hx hb dX5_inside_1 rfl ?_
  refine r_putI hx hb hts hin hown hK hG hS 31 (by decide) rfl (hts (.fieldLink RX5 87 "LineEventsModel" "thrown" "I") (by decide +kernel)) rfl rfl (z := 0) dX5_inside_2 (fun H locs hG hS => ?_)
  generalize hS0 : su S 31 0 0 0 = S0 at hG ⊢
  have hI0 : Inv S0 := by rw [← hS0]; exact hI
  obtain ⟨hI5, hI25, hI20, hIM, hIL, hIR⟩ := id hI0
  refine lv_aload_n hx hb dX5_inside_5 rfl (lv_at hl 0 rfl) ?_
  refine r_callV (As := []) (rest := []) ⟨hx, hb, hml, hown, hts⟩ (m_X5_within l D cI cJ A ad S0 hI0) (cwV 0 hts gX5_inside_X5_within rfl rfl rfl (by decide +kernel) ⟨Nat.le_of_ble_eq_true rfl, Nat.le_of_ble_eq_true rfl⟩) hK hG hS rfl hl.1 rfl (Nat.le_of_ble_eq_true rfl) dX5_inside_6 ⟨Nat.zero_le _, Nat.zero_le _⟩ (fun H locs hG hS => ?_)
  have v9 : rwithin S0 = rwithin S0 := by rfl
  refine W.eq (congrArg (fun z => F0 m0 9 ls [.long (zL z)]) v9) ?_
  exact W.lret hx hb hr (fun t ht hW => ⟨rfl, ⟨by rw [ht]; exact hG, va_K.moved hW.alike hK⟩, hS.F ht⟩) hS.2.2 dX5_inside_9
set_option maxHeartbeats 4000000 in
set_option maxRecDepth 100000 in
theorem m_X5_kept (l : Launch) (D : va_G) (cI cJ : ClassId) (A : Nat → Prop) (ad : Nat → Nat → Nat) (S : Nat → Nat → Nat → Int)  (hI : Inv S) : Met l yX5_kept wsX5_kept ({ frames := 1, cells := 0, slots := 0, locals := 23 }) (va_Pc [.ref (ad 32 0)] (gRU D cI cJ A ad S)) (gO (some (.int (zI (bZ (rkeptV (su S 31 0 0 0) = true))))) (gRU D cI cJ A ad (su S 31 0 0 0)) A) 0 0 A := by
  refine Met.ofW (cc := cX5_kept) (maxL := 8) (ret := (some .boolean)) (by decide) rfl ?_
  intro p e s m0 args below meth c s₁ B hml hv
  obtain ⟨rfl, hG, hK⟩ := hv
  have hx := B.exec
  have hb := B.bytes
  have hr := B.returns
  have hts := atoms_spec (ws := wsX5_kept) B.pre
  have hown : s.vm.findClass RX5 = some m0.cls := findClass_of_methodNamed B.named
  have hlocks := B.notSynchronized
  have hin : ∀ w ∈ wsX50, w ∈ wsX5_kept := by decide +kernel
  have hS : va_S A s.heap s.heap [] := va_S.rf
  have hl := lv_entry ([.ref (ad 32 0)]) (n := 8) (Nat.le_of_ble_eq_true rfl)
  rw [lg_entry_eq]
  generalize (lg_sl ([.ref (ad 32 0)]) ++ List.replicate (8 - (lg_sl ([.ref (ad 32 0)])).length) Slot.unset).toArray = ls at hl ⊢
  replace hl : lv_has ls 8 [(0, .ref (ad 32 0))] := hl
  refine lv_aload_n hx hb dX5_kept_0 rfl (lv_at hl 0 rfl) ?_
  refine lv_iconst (v := zI 0) hx hb dX5_kept_1 rfl ?_
  refine r_putI hx hb hts hin hown hK hG hS 31 (by decide) rfl (hts (.fieldLink RX5 87 "LineEventsModel" "thrown" "I") (by decide +kernel)) rfl rfl (z := 0) dX5_kept_2 (fun H locs hG hS => ?_)
  generalize hS0 : su S 31 0 0 0 = S0 at hG ⊢
  have hI0 : Inv S0 := by rw [← hS0]; exact hI
  obtain ⟨hI5, hI25, hI20, hIM, hIL, hIR⟩ := id hI0
  refine lv_aload_n hx hb dX5_kept_5 rfl (lv_at hl 0 rfl) ?_
  refine r_getJ hx hb hts hin hown hK hG 24 (by decide) rfl (hts (.fieldLink RX5 129 "LineEventsModel" "made" "J") (by decide +kernel)) (z := S0 24 0 0) (rfl) dX5_kept_6 ?_
  refine lv_aload_n hx hb dX5_kept_9 rfl (lv_at hl 0 rfl) ?_
  refine r_callV (As := []) (rest := [.long (zL (S0 24 0 0))]) ⟨hx, hb, hml, hown, hts⟩ (m_X5_within l D cI cJ A ad S0 hI0) (cwV 0 hts gX5_kept_X5_within rfl rfl rfl (by decide +kernel) ⟨Nat.le_of_ble_eq_true rfl, Nat.le_of_ble_eq_true rfl⟩) hK hG hS rfl hl.1 rfl (Nat.le_of_ble_eq_true rfl) dX5_kept_10 ⟨Nat.zero_le _, Nat.zero_le _⟩ (fun H locs hG hS => ?_)
  refine z_ladd hx hb dX5_kept_13 ?_
  refine lv_lstore_n (lv' := [(1, .long (zL ((S0 24 0 0) + (rwithin S0)))), (0, .ref (ad 32 0))]) hx hb dX5_kept_14 rfl hl (by decide) rfl (fun ls hl => ?_)
  refine lv_iconst (v := zI 1) hx hb dX5_kept_15 rfl ?_
  refine lv_istore_n (lv' := [(3, .int (zI 1)), (1, .long (zL ((S0 24 0 0) + (rwithin S0)))), (0, .ref (ad 32 0))]) hx hb dX5_kept_16 rfl hl (by decide) rfl (fun ls hl => ?_)
  refine lv_iconst (v := zI 0) hx hb dX5_kept_17 rfl ?_
  refine lv_istore (lv' := [(4, .int (zI 0)), (3, .int (zI 1)), (1, .long (zL ((S0 24 0 0) + (rwithin S0)))), (0, .ref (ad 32 0))]) hx hb dX5_kept_18 hl (by decide) rfl (fun ls hl => ?_)
  obtain ⟨k, hk0⟩ : ∃ k : Nat, k = 0 := ⟨0, rfl⟩
  obtain ⟨z, hz0⟩ : ∃ z : Int, z = S0 24 0 0 + rwithin S0 := ⟨_, rfl⟩
  obtain ⟨rb, hrb0⟩ : ∃ b : Bool, b = true := ⟨true, rfl⟩
  replace hl : lv_has ls 8 [(4, .int (zI (k : Int))), (3, .int (zI (bZ (rb = true)))), (1, .long (zL z)), (0, .ref (ad 32 0))] := by subst hk0; subst hz0; subst hrb0; exact hl
  obtain ⟨n, hn⟩ : ∃ n : Nat, (k : Int) + n = S0 5 0 0 := ⟨(S0 5 0 0).toNat, by omega⟩
  obtain ⟨K0, hK0⟩ : ∃ K, K = rkl S0 (S0 5 0 0).toNat 0 (S0 24 0 0 + rwithin S0) true := ⟨_, rfl⟩
  have hfin : rkeptV S0 = rkf S0 K0 := by rw [hK0]; rfl
  rw [hfin]
  have hv9 : rkl S0 n k z rb = K0 := by rw [hK0, hk0, hz0, hrb0]; congr 1; omega
  clear hk0 hz0 hrb0 hK0 hfin
  induction n generalizing k ls z rb with
  | zero =>
    refine lv_iload hx hb dX5_kept_20 (lv_at hl 0 rfl) ?_
    refine lv_aload_n hx hb dX5_kept_22 rfl (lv_at hl 3 rfl) ?_
    refine r_getI hx hb hts hin hown hK hG 5 (by decide) rfl (hts (.fieldLink RX5 91 "LineEventsModel" "machines" "I") (by decide +kernel)) (z := S0 5 0 0) (rfl) dX5_kept_23 ?_
    refine z_icmp_ge (tgt := 103) hx hb dX5_kept_26 (by decide) ⟨by omega, by omega⟩ ⟨by omega, by omega⟩ (fun c_1 => ?_) (fun c_1 => ?_)
    · refine lv_iload_n hx hb dX5_kept_103 rfl (lv_at hl 1 rfl) ?_
      refine z_ifb_eq (tgt := 120) hx hb dX5_kept_104 (by decide) (fun c_2 => ?_) (fun c_2 => ?_)
      · refine lv_iconst (v := zI 0) hx hb dX5_kept_120 rfl ?_
        have v9 : 0 = bZ (rkf S0 K0 = true) := by exact (bZ_f (by rw [← hv9, rkl]; unfold rkf; simp_all)).symm
        refine W.eq (congrArg (fun z => F0 m0 121 ls [.int (zI z)]) v9) ?_
        exact W.zret hx hb hr (zI_bool _) (fun t ht hW => ⟨rfl, ⟨by rw [ht]; exact hG, va_K.moved hW.alike hK⟩, hS.F ht⟩) hS.2.2 dX5_kept_121
      · refine lv_lload_n hx hb dX5_kept_107 rfl (lv_at hl 2 rfl) ?_
        refine lv_aload_n hx hb dX5_kept_108 rfl (lv_at hl 3 rfl) ?_
        refine r_getJ hx hb hts hin hown hK hG 23 (by decide) rfl (hts (.fieldLink RX5 132 "LineEventsModel" "begun" "J") (by decide +kernel)) (z := S0 23 0 0) (rfl) dX5_kept_109 ?_
        refine W.lcmp hx hb dX5_kept_112 ?_
        refine z_lifr_ne (tgt := 120) hx hb dX5_kept_113 (by decide) (fun c_3 => ?_) (fun c_3 => ?_)
        · refine lv_iconst (v := zI 0) hx hb dX5_kept_120 rfl ?_
          have v9 : 0 = bZ (rkf S0 K0 = true) := by exact (bZ_f (by rw [← hv9, rkl]; unfold rkf; simp_all)).symm
          refine W.eq (congrArg (fun z => F0 m0 121 ls [.int (zI z)]) v9) ?_
          exact W.zret hx hb hr (zI_bool _) (fun t ht hW => ⟨rfl, ⟨by rw [ht]; exact hG, va_K.moved hW.alike hK⟩, hS.F ht⟩) hS.2.2 dX5_kept_121
        · refine lv_iconst (v := zI 1) hx hb dX5_kept_116 rfl ?_
          refine lv_goto (tgt := 121) hx hb dX5_kept_117 (by decide) ?_
          have v9 : 1 = bZ (rkf S0 K0 = true) := by exact (bZ_t (by rw [← hv9, rkl]; unfold rkf; simp_all)).symm
          refine W.eq (congrArg (fun z => F0 m0 121 ls [.int (zI z)]) v9) ?_
          exact W.zret hx hb hr (zI_bool _) (fun t ht hW => ⟨rfl, ⟨by rw [ht]; exact hG, va_K.moved hW.alike hK⟩, hS.F ht⟩) hS.2.2 dX5_kept_121
    · exfalso; omega
  | succ n iho =>
    refine lv_iload hx hb dX5_kept_20 (lv_at hl 0 rfl) ?_
    refine lv_aload_n hx hb dX5_kept_22 rfl (lv_at hl 3 rfl) ?_
    refine r_getI hx hb hts hin hown hK hG 5 (by decide) rfl (hts (.fieldLink RX5 91 "LineEventsModel" "machines" "I") (by decide +kernel)) (z := S0 5 0 0) (rfl) dX5_kept_23 ?_
    refine z_icmp_ge (tgt := 103) hx hb dX5_kept_26 (by decide) ⟨by omega, by omega⟩ ⟨by omega, by omega⟩ (fun c_4 => ?_) (fun c_4 => ?_)
    · exfalso; omega
    · refine lv_lload_n hx hb dX5_kept_29 rfl (lv_at hl 2 rfl) ?_
      refine lv_aload_n hx hb dX5_kept_30 rfl (lv_at hl 3 rfl) ?_
      refine r_getA hx hb hts hin hown hK hG 22 (by decide) (by decide) (hts (.fieldLink RX5 71 "LineEventsModel" "rejects" "[J") (by decide +kernel)) dX5_kept_31 ?_
      refine lv_iload hx hb dX5_kept_34 (lv_at hl 0 rfl) ?_
      refine r_lald hx hb hK hG 22 (by decide) rfl k 0 (by simp only [show rW 22 = 1 from rfl]; omega) (by simp only [show rN 22 = 12 from rfl]; omega) (by simp only [show rW 22 = 1 from rfl]; omega) (w := S0 22 k 0) (rfl) dX5_kept_36 ?_
      refine z_ladd hx hb dX5_kept_37 ?_
      refine lv_lstore_n (lv' := [(1, .long (zL (z + (S0 22 k 0)))), (4, .int (zI (k : Int))), (3, .int (zI (bZ (rb = true)))), (0, .ref (ad 32 0))]) hx hb dX5_kept_38 rfl hl (by decide) rfl (fun ls hl => ?_)
      refine lv_lconst (v := zL 0) hx hb dX5_kept_39 (by decide) ?_
      refine lv_lstore (lv' := [(5, .long (zL 0)), (1, .long (zL (z + (S0 22 k 0)))), (4, .int (zI (k : Int))), (3, .int (zI (bZ (rb = true)))), (0, .ref (ad 32 0))]) hx hb dX5_kept_40 hl (by decide) rfl (fun ls hl => ?_)
      refine lv_iconst (v := zI 0) hx hb dX5_kept_42 rfl ?_
      refine lv_istore (lv' := [(7, .int (zI 0)), (5, .long (zL 0)), (1, .long (zL (z + (S0 22 k 0)))), (4, .int (zI (k : Int))), (3, .int (zI (bZ (rb = true)))), (0, .ref (ad 32 0))]) hx hb dX5_kept_43 hl (by decide) rfl (fun ls hl => ?_)
      obtain ⟨j, hj0⟩ : ∃ k : Nat, k = 0 := ⟨0, rfl⟩
      obtain ⟨q, hq0⟩ : ∃ z : Int, z = 0 := ⟨0, rfl⟩
      replace hl : lv_has ls 8 [(7, .int (zI (j : Int))), (5, .long (zL q)), (1, .long (zL (z + (S0 22 k 0)))), (4, .int (zI (k : Int))), (3, .int (zI (bZ (rb = true)))), (0, .ref (ad 32 0))] := by subst hj0; subst hq0; exact hl
      obtain ⟨r, hr0⟩ : ∃ n : Nat, (j : Int) + n = 12 := ⟨12, by omega⟩
      have hs9 : rsum S0 k r j q = rsum S0 k 12 0 0 := by subst hj0; subst hq0; congr 1; omega
      clear hj0 hq0
      induction r generalizing j ls q with
      | zero =>
        replace hs9 : q = rsum S0 k 12 0 0 := hs9
        refine lv_iload hx hb dX5_kept_45 (lv_at hl 0 rfl) ?_
        refine lv_bipush (v := zI 12) hx hb dX5_kept_47 (by decide) ?_
        refine z_icmp_ge (tgt := 76) hx hb dX5_kept_49 (by decide) ⟨by omega, by omega⟩ ⟨by decide, by decide⟩ (fun c_5 => ?_) (fun c_5 => ?_)
        · refine lv_iload_n hx hb dX5_kept_76 rfl (lv_at hl 4 rfl) ?_
          refine z_ifb_eq (tgt := 95) hx hb dX5_kept_77 (by decide) (fun c_6 => ?_) (fun c_6 => ?_)
          · refine lv_iconst (v := zI 0) hx hb dX5_kept_95 rfl ?_
            refine lv_istore_n (lv' := [(3, .int (zI 0)), (7, .int (zI (j : Int))), (5, .long (zL q)), (1, .long (zL (z + (S0 22 k 0)))), (4, .int (zI (k : Int))), (0, .ref (ad 32 0))]) hx hb dX5_kept_96 rfl hl (by decide) rfl (fun ls hl => ?_)
            refine lv_iinc (v := zI ((k : Int) + 1)) (lv' := [(4, .int (zI ((k : Int) + 1))), (3, .int (zI 0)), (7, .int (zI (j : Int))), (5, .long (zL q)), (1, .long (zL (z + (S0 22 k 0)))), (0, .ref (ad 32 0))]) hx hb dX5_kept_97 hl (k := 4) rfl (by rw [show Int32.ofInt 1 = zI 1 from rfl, zI_add]) (by decide) rfl (fun ls hl => ?_)
            refine lv_goto (tgt := 20) hx hb dX5_kept_100 (by decide) ?_
            have hb9 : (rb && decide (zL (rsum S0 k 12 0 0) = zL (S0 25 0 0))) = false := by rw [← hs9]; simp_all
            replace hl : lv_has ls 8 [(4, .int (zI ((k + 1 : Nat) : Int))), (3, .int (zI (bZ ((rb && decide (zL (rsum S0 k 12 0 0) = zL (S0 25 0 0))) = true)))), (1, .long (zL (z + (S0 22 k 0)))), (0, .ref (ad 32 0))] := by rw [hb9]; exact lv_sub hl [0, 1, 4, 5] rfl
            exact iho (k := k + 1) (ls := ls) (z := z + (S0 22 k 0)) (rb := (rb && decide (zL (rsum S0 k 12 0 0) = zL (S0 25 0 0)))) (hl := hl) (hn := by omega) (hv9 := by rw [← hv9, rkl])
          · refine lv_lload hx hb dX5_kept_80 (lv_at hl 1 rfl) ?_
            refine lv_aload_n hx hb dX5_kept_82 rfl (lv_at hl 5 rfl) ?_
            refine r_getI hx hb hts hin hown hK hG 25 (by decide) rfl (hts (.fieldLink RX5 94 "LineEventsModel" "now" "I") (by decide +kernel)) (z := S0 25 0 0) (rfl) dX5_kept_83 ?_
            refine z_i2l hx hb dX5_kept_86 ⟨by omega, by omega⟩ ?_
            refine W.lcmp hx hb dX5_kept_87 ?_
            refine z_lifr_ne (tgt := 95) hx hb dX5_kept_88 (by decide) (fun c_7 => ?_) (fun c_7 => ?_)
            · refine lv_iconst (v := zI 0) hx hb dX5_kept_95 rfl ?_
              refine lv_istore_n (lv' := [(3, .int (zI 0)), (7, .int (zI (j : Int))), (5, .long (zL q)), (1, .long (zL (z + (S0 22 k 0)))), (4, .int (zI (k : Int))), (0, .ref (ad 32 0))]) hx hb dX5_kept_96 rfl hl (by decide) rfl (fun ls hl => ?_)
              refine lv_iinc (v := zI ((k : Int) + 1)) (lv' := [(4, .int (zI ((k : Int) + 1))), (3, .int (zI 0)), (7, .int (zI (j : Int))), (5, .long (zL q)), (1, .long (zL (z + (S0 22 k 0)))), (0, .ref (ad 32 0))]) hx hb dX5_kept_97 hl (k := 4) rfl (by rw [show Int32.ofInt 1 = zI 1 from rfl, zI_add]) (by decide) rfl (fun ls hl => ?_)
              refine lv_goto (tgt := 20) hx hb dX5_kept_100 (by decide) ?_
              have hb9 : (rb && decide (zL (rsum S0 k 12 0 0) = zL (S0 25 0 0))) = false := by rw [← hs9]; simp_all
              replace hl : lv_has ls 8 [(4, .int (zI ((k + 1 : Nat) : Int))), (3, .int (zI (bZ ((rb && decide (zL (rsum S0 k 12 0 0) = zL (S0 25 0 0))) = true)))), (1, .long (zL (z + (S0 22 k 0)))), (0, .ref (ad 32 0))] := by rw [hb9]; exact lv_sub hl [0, 1, 4, 5] rfl
              exact iho (k := k + 1) (ls := ls) (z := z + (S0 22 k 0)) (rb := (rb && decide (zL (rsum S0 k 12 0 0) = zL (S0 25 0 0)))) (hl := hl) (hn := by omega) (hv9 := by rw [← hv9, rkl])
            · refine lv_iconst (v := zI 1) hx hb dX5_kept_91 rfl ?_
              refine lv_goto (tgt := 96) hx hb dX5_kept_92 (by decide) ?_
              refine lv_istore_n (lv' := [(3, .int (zI 1)), (7, .int (zI (j : Int))), (5, .long (zL q)), (1, .long (zL (z + (S0 22 k 0)))), (4, .int (zI (k : Int))), (0, .ref (ad 32 0))]) hx hb dX5_kept_96 rfl hl (by decide) rfl (fun ls hl => ?_)
              refine lv_iinc (v := zI ((k : Int) + 1)) (lv' := [(4, .int (zI ((k : Int) + 1))), (3, .int (zI 1)), (7, .int (zI (j : Int))), (5, .long (zL q)), (1, .long (zL (z + (S0 22 k 0)))), (0, .ref (ad 32 0))]) hx hb dX5_kept_97 hl (k := 4) rfl (by rw [show Int32.ofInt 1 = zI 1 from rfl, zI_add]) (by decide) rfl (fun ls hl => ?_)
              refine lv_goto (tgt := 20) hx hb dX5_kept_100 (by decide) ?_
              have hb9 : (rb && decide (zL (rsum S0 k 12 0 0) = zL (S0 25 0 0))) = true := by rw [← hs9]; simp_all
              replace hl : lv_has ls 8 [(4, .int (zI ((k + 1 : Nat) : Int))), (3, .int (zI (bZ ((rb && decide (zL (rsum S0 k 12 0 0) = zL (S0 25 0 0))) = true)))), (1, .long (zL (z + (S0 22 k 0)))), (0, .ref (ad 32 0))] := by rw [hb9]; exact lv_sub hl [0, 1, 4, 5] rfl
              exact iho (k := k + 1) (ls := ls) (z := z + (S0 22 k 0)) (rb := (rb && decide (zL (rsum S0 k 12 0 0) = zL (S0 25 0 0)))) (hl := hl) (hn := by omega) (hv9 := by rw [← hv9, rkl])
        · exfalso; omega
      | succ r ih2 =>
        refine lv_iload hx hb dX5_kept_45 (lv_at hl 0 rfl) ?_
        refine lv_bipush (v := zI 12) hx hb dX5_kept_47 (by decide) ?_
        refine z_icmp_ge (tgt := 76) hx hb dX5_kept_49 (by decide) ⟨by omega, by omega⟩ ⟨by decide, by decide⟩ (fun c_8 => ?_) (fun c_8 => ?_)
        · exfalso; omega
        · refine lv_lload hx hb dX5_kept_52 (lv_at hl 1 rfl) ?_
          refine lv_aload_n hx hb dX5_kept_54 rfl (lv_at hl 5 rfl) ?_
          refine r_getA hx hb hts hin hown hK hG 21 (by decide) (by decide) (hts (.fieldLink RX5 68 "LineEventsModel" "times" "[J") (by decide +kernel)) dX5_kept_55 ?_
          refine lv_iload hx hb dX5_kept_58 (lv_at hl 3 rfl) ?_
          refine lv_bipush (v := zI 12) hx hb dX5_kept_60 (by decide) ?_
          refine z_imul hx hb dX5_kept_62 ?_
          refine lv_iload hx hb dX5_kept_63 (lv_at hl 0 rfl) ?_
          refine z_iadd hx hb dX5_kept_65 ?_
          refine r_lald hx hb hK hG 21 (by decide) rfl k j (by simp only [show rW 21 = 12 from rfl]; omega) (by simp only [show rN 21 = 12 from rfl]; omega) (by simp only [show rW 21 = 12 from rfl]; omega) (w := S0 21 k j) (rfl) dX5_kept_66 ?_
          refine z_ladd hx hb dX5_kept_67 ?_
          refine lv_lstore (lv' := [(5, .long (zL (q + (S0 21 k j)))), (7, .int (zI (j : Int))), (1, .long (zL (z + (S0 22 k 0)))), (4, .int (zI (k : Int))), (3, .int (zI (bZ (rb = true)))), (0, .ref (ad 32 0))]) hx hb dX5_kept_68 hl (by decide) rfl (fun ls hl => ?_)
          refine lv_iinc (v := zI ((j : Int) + 1)) (lv' := [(7, .int (zI ((j : Int) + 1))), (5, .long (zL (q + (S0 21 k j)))), (1, .long (zL (z + (S0 22 k 0)))), (4, .int (zI (k : Int))), (3, .int (zI (bZ (rb = true)))), (0, .ref (ad 32 0))]) hx hb dX5_kept_70 hl (k := 1) rfl (by rw [show Int32.ofInt 1 = zI 1 from rfl, zI_add]) (by decide) rfl (fun ls hl => ?_)
          refine lv_goto (tgt := 45) hx hb dX5_kept_73 (by decide) ?_
          exact ih2 (j := j + 1) (ls := ls) (q := q + (S0 21 k j)) (hl := lv_sub hl [0, 1, 2, 3, 4, 5] rfl) (hr0 := by omega) (hs9 := by rw [← hs9, rsum])
end
section
/-! The class's cells: kind 0 the object, 1 its events, 2 machines, 3 buffers, 4 came, 5 times, 6 faults (4 i + j), 7 rows. C k i f: what field (or place) f holds; references by the number of what they point to, -1: null -/
def cT : Nat → Nat → Nat
  | 0, 0 => 1 | 0, 2 => 4 | 0, 4 => 9 | 0, 7 => 3 | 0, 9 => 1 | 0, 10 => 1
  | 2, 2 => 4 | 2, 3 => 5 | 2, 4 => 5 | 2, 6 => 8 | 2, 7 => 8 | 2, 14 => 1 | 2, 15 => 7
  | 3, 2 => 6
  | 6, 0 => 1 | 6, 1 => 1 | 6, 3 => 8
  | 7, 4 => 9
  | _, _ => 0
def cNf : Nat → Nat
  | 0 => 11 | 2 => 16 | 3 => 5 | 6 => 4 | 7 => 5 | _ => 0
def cCl : Nat → Nat
  | 0 => 5 | 2 => 3 | 3 => 1 | 6 => 2 | 7 => 4 | _ => 0
def cV (ad : Nat → Nat → Nat) (k f : Nat) (z : Int) : Value := if cT k f = 0 then .int (zI z) else if cT k f = 1 then .long (zL z) else rf ad (cT k f - 2) z
def cFs (ad : Nat → Nat → Nat) (k : Nat) (g : Nat → Int) : List Value := (List.range (cNf k)).map (fun f => cV ad k f (g f))
def cE (cI cJ : ClassId) (ad : Nat → Nat → Nat) (k : Nat) (g : Nat → Int) : va_E :=
  if k = 1 then .inl (cI, 3000, .inl (fun t => zI (g t))) else if k = 4 then .inl (cI, 1000, .inl (fun t => zI (g t))) else if k = 5 then .inl (cJ, 12, .inr (.inl (fun t => zL (g t)))) else .inr (cCl k, cFs ad k g)
def gC (D : va_G) (cI cJ : ClassId) (A : Nat → Prop) (ad : Nat → Nat → Nat) (al : Nat → Nat → Prop) (C : sT) (H : Heap) : Prop := gQ D A ad al (fun k i => cE cI cJ ad k (C k i)) H
def gCU (D : va_G) (cI cJ : ClassId) (A : Nat → Prop) (ad : Nat → Nat → Nat) (al : Nat → Nat → Prop) (C : sT) (U : State) : Prop := gC D cI cJ A ad al C U.heap ∧ va_K D vwCl [(cI, .int), (cJ, .long)] U ∧ ∀ q, U.heap.size ≤ q → A q
theorem su_f {S : sT} {v i j : Nat} {z : Int} {v' i' j' : Nat} (h : j' ≠ j) : su S v i j z v' i' j' = S v' i' j' := by unfold su; rw [if_neg (fun q => h q.2.2)]
theorem su_vi {S : sT} {v i j : Nat} {z : Int} {v' i' : Nat} (h : ¬ (v' = v ∧ i' = i)) : su S v i j z v' i' = S v' i' := by funext j'; unfold su; rw [if_neg (fun q => h ⟨q.1, q.2.1⟩)]
theorem cFs_get {ad : Nat → Nat → Nat} {k f : Nat} {g : Nat → Int} (h : f < cNf k) : (cFs ad k g)[f]? = some (cV ad k f (g f)) := by
  unfold cFs; rw [List.getElem?_map, List.getElem?_range h]; rfl
theorem cFs_len {ad : Nat → Nat → Nat} {k : Nat} {g : Nat → Int} : (cFs ad k g).length = cNf k := by simp [cFs]
theorem cFs_set {ad : Nat → Nat → Nat} {C : sT} {k i f : Nat} {z : Int} (h : f < cNf k) : cFs ad k (su C k i f z k i) = (cFs ad k (C k i)).set f (cV ad k f z) := by
  apply List.ext_getElem?
  intro j
  by_cases hj : j = f
  · subst hj
    rw [cFs_get h, List.getElem?_set_self (by rw [cFs_len]; exact h), su_same]
  · rw [List.getElem?_set_ne (Ne.symm hj)]
    by_cases hl : j < cNf k
    · rw [cFs_get hl, cFs_get hl, su_f hj]
    · rw [List.getElem?_eq_none (by rw [cFs_len]; omega), List.getElem?_eq_none (by rw [cFs_len]; omega)]
theorem cE_obj {cI cJ : ClassId} {ad : Nat → Nat → Nat} {k : Nat} {g : Nat → Int} (h : k ≠ 1 ∧ k ≠ 4 ∧ k ≠ 5) : cE cI cJ ad k g = .inr (cCl k, cFs ad k g) := by
  unfold cE; rw [if_neg h.1, if_neg h.2.1, if_neg h.2.2]
theorem gCU_blind {D : va_G} {cI cJ : ClassId} {A : Nat → Prop} {ad : Nat → Nat → Nat} {al : Nat → Nat → Prop} {C : sT} {as : List Value} : FrameBlind (va_Pc as (gCU D cI cJ A ad al C)) := fun a U g mk q => by
  obtain ⟨q0, qP, qK, qA⟩ := q
  exact ⟨q0, qP, va_K.moved (u := U) (U := U.calling g mk a) (Vm.Alike.refl U.vm) qK, qA⟩
section CW
variable {p : Program} {l : Launch} {e : Env} {R : Room} {s : State} {m : MethodId} {args : Array Value} {below : List Frame} {meth : Method} {c : Code} {H : Heap} {locs : List Loc} {cells slots : Nat} {Q : State → Prop}
variable {cc : ByteArray} {pc : Nat} {ls : Array Slot} {rest : List Value} {D : va_G} {cI cJ : ClassId} {A : Nat → Prop} {H0 : Heap} {ad : Nat → Nat → Nat} {al : Nat → Nat → Prop} {C : sT} {Ts : List Cond} {index : Nat} {own Cn : String} {T : u_T}
theorem c_getV (hexec : p.tables.exec = Jvm.exec) (hb : c.code = cc) (hts : ∀ w ∈ Ts, w.before args s = true) (k : Nat) (hin : ∀ w ∈ u_ws Cn T (cNf k), w ∈ Ts) (hown : s.vm.findClass own = some m.cls) (hK : va_K D vwCl [(cI, .int), (cJ, .long)] s) (hG : gC D cI cJ A ad al C H) (i f : Nat) (hal : al k i) (hk : k ≠ 1 ∧ k ≠ 4 ∧ k ≠ 5) (hc : vwCl[cCl k]? = some (Cn, T, cNf k)) (hf : f < cNf k) (hlink : (Cond.fieldLink own index (T f).1 (T f).2.1 (T f).2.2.1).before args s = true) {v : Value} (hv : cV ad k f (C k i f) = v) (hdg : decode cc pc = .ok (.getfield index, 3))
    (kk : W p l e R s m args below meth c H locs cells slots Q (F0 m (pc + 3) ls (v :: rest))) : W p l e R s m args below meth c H locs cells slots Q (F0 m pc ls (.ref (ad k i) :: rest)) :=
  q_get hexec hb hts hin hown hK hG hal (cE_obj hk) hc f hf hlink (by rw [cFs_get hf, hv]) hdg kk
theorem cV_I {k f : Nat} {z w : Int} (ht : cT k f = 0) (h : w = z) : cV ad k f w = .int (zI z) := by unfold cV; rw [if_pos ht, h]
theorem cV_J {k f : Nat} {z w : Int} (ht : cT k f = 1) (h : w = z) : cV ad k f w = .long (zL z) := by unfold cV; rw [if_neg (by omega), if_pos ht, h]
theorem cV_F {k f t : Nat} {z w : Int} (ht : cT k f = t + 2) (h : w = z) : cV ad k f w = rf ad t z := by unfold cV; rw [if_neg (by omega), if_neg (by omega), h, ht]; rfl
theorem cV_R {k f t j : Nat} {w : Int} (ht : cT k f = t + 2) (h : w = (j : Int)) : cV ad k f w = .ref (ad t j) := by rw [cV_F ht h]; exact rf_s rfl
theorem cV_N {k f t : Nat} {w : Int} (ht : cT k f = t + 2) (h : w < 0) : cV ad k f w = .null := by rw [cV_F ht rfl]; exact rf_n h
theorem c_putV (hexec : p.tables.exec = Jvm.exec) (hb : c.code = cc) (hts : ∀ w ∈ Ts, w.before args s = true) (k : Nat) (hin : ∀ w ∈ u_ws Cn T (cNf k), w ∈ Ts) (ty0 : Nat → FieldType) (hty : ∀ j, j < cNf k → parseFieldDescriptor (T j).2.2.1 = some (ty0 j)) (hnm : ∀ a, a < cNf k → ∀ b, b < cNf k → a ≠ b → (T a).2.1 ≠ (T b).2.1) (hown : s.vm.findClass own = some m.cls) (hK : va_K D vwCl [(cI, .int), (cJ, .long)] s) (hG : gC D cI cJ A ad al C H) (hS0 : va_S A H0 H locs) (i f : Nat) (hal : al k i) (hk : k ≠ 1 ∧ k ≠ 4 ∧ k ≠ 5) (hc : vwCl[cCl k]? = some (Cn, T, cNf k)) (hf : f < cNf k) (hlink : (Cond.fieldLink own index (T f).1 (T f).2.1 (T f).2.2.1).before args s = true) (hfin : (T f).2.2.2 = false ∨ ((T f).2.2.2 = true ∧ meth.name = "<init>" ∧ (T f).1 = own)) {v : Value} {z : Int} (hv : cV ad k f z = v) (hn : narrow (ty0 f) v = v) (hfit : fits (ty0 f) v = true)
    (hdg : decode cc pc = .ok (.putfield index, 3)) (kk : ∀ (H1 : Heap) (locs1 : List Loc), gC D cI cJ A ad al (su C k i f z) H1 → va_S A H0 H1 locs1 → W p l e R s m args below meth c H1 locs1 cells slots Q (F0 m (pc + 3) ls rest)) : W p l e R s m args below meth c H locs cells slots Q (F0 m pc ls (v :: .ref (ad k i) :: rest)) :=
  q_put hexec hb hts hin ty0 hty hnm hown hK hG hS0 hal (cE_obj hk) hc f hf hlink hfin (hty f hf) hn hfit (by rw [cFs_len]; exact hf)
    (E' := fun k' i' => cE cI cJ ad k' (su C k i f z k' i')) (fun k' i' _ hne => by rw [su_vi hne]) (by rw [cE_obj hk, cFs_set hf, hv]) hdg kk
theorem c_iald (hexec : p.tables.exec = Jvm.exec) (hb : c.code = cc) (hK : va_K D vwCl [(cI, .int), (cJ, .long)] s) (hG : gC D cI cJ A ad al C H) (k i N : Nat) (hal : al k i) (hE : ∀ g : Nat → Int, cE cI cJ ad k g = .inl (cI, N, .inl (fun t => zI (g t)))) {z : Int} (h0 : 0 ≤ z) (h1 : z < N) (hn : N < 2147483648) {w : Int} (hw : C k i z.toNat = w) (hdg : decode cc pc = .ok (.iaload, 1))
    (kk : W p l e R s m args below meth c H locs cells slots Q (F0 m (pc + 1) ls (.int (zI w) :: rest))) : W p l e R s m args below meth c H locs cells slots Q (F0 m pc ls (.int (zI z) :: .ref (ad k i) :: rest)) :=
  q_iald hexec hb hK hG 0 hal (hE _) rfl h0 h1 hn (v := zI w) (by rw [hw]) hdg kk
theorem c_lald (hexec : p.tables.exec = Jvm.exec) (hb : c.code = cc) (hK : va_K D vwCl [(cI, .int), (cJ, .long)] s) (hG : gC D cI cJ A ad al C H) (i : Nat) (hal : al 5 i) {z : Int} (h0 : 0 ≤ z) (h1 : z < 12) {w : Int} (hw : C 5 i z.toNat = w) (hdg : decode cc pc = .ok (.laload, 1))
    (kk : W p l e R s m args below meth c H locs cells slots Q (F0 m (pc + 1) ls (.long (zL w) :: rest))) : W p l e R s m args below meth c H locs cells slots Q (F0 m pc ls (.int (zI z) :: .ref (ad 5 i) :: rest)) :=
  q_lald hexec hb hK hG 1 hal (cA := cJ) (n := 12) (f := fun t => zL (C 5 i t)) rfl rfl h0 h1 (by decide) (v := zL w) (by rw [hw]) hdg kk
theorem c_iast (hexec : p.tables.exec = Jvm.exec) (hb : c.code = cc) (hK : va_K D vwCl [(cI, .int), (cJ, .long)] s) (hG : gC D cI cJ A ad al C H) (hS : va_S A H0 H locs) (k i N : Nat) (hal : al k i) (hE : ∀ g : Nat → Int, cE cI cJ ad k g = .inl (cI, N, .inl (fun t => zI (g t)))) {z : Int} (h0 : 0 ≤ z) (h1 : z < N) (hn : N < 2147483648) {w : Int} (hdg : decode cc pc = .ok (.iastore, 1))
    (kk : ∀ (H1 : Heap) (locs1 : List Loc), gC D cI cJ A ad al (su C k i z.toNat w) H1 → va_S A H0 H1 locs1 → W p l e R s m args below meth c H1 locs1 cells slots Q (F0 m (pc + 1) ls rest)) : W p l e R s m args below meth c H locs cells slots Q (F0 m pc ls (.int (zI w) :: .int (zI z) :: .ref (ad k i) :: rest)) :=
  q_iast hexec hb hK hG hS 0 hal (hE _) rfl h0 h1 hn (E' := fun k' i' => cE cI cJ ad k' (su C k i z.toNat w k' i')) (fun k' i' _ hne => by rw [su_vi hne]) (hE _) (fun j _ => by
    show zI (su C k i z.toNat w k i j) = _
    unfold su
    by_cases h : j = z.toNat
    · rw [if_pos ⟨rfl, rfl, h⟩, if_pos h]
    · rw [if_neg (fun q => h q.2.2), if_neg h]) hdg kk
theorem c_last (hexec : p.tables.exec = Jvm.exec) (hb : c.code = cc) (hK : va_K D vwCl [(cI, .int), (cJ, .long)] s) (hG : gC D cI cJ A ad al C H) (hS : va_S A H0 H locs) (i : Nat) (hal : al 5 i) {z : Int} (h0 : 0 ≤ z) (h1 : z < 12) {w : Int} (hdg : decode cc pc = .ok (.lastore, 1))
    (kk : ∀ (H1 : Heap) (locs1 : List Loc), gC D cI cJ A ad al (su C 5 i z.toNat w) H1 → va_S A H0 H1 locs1 → W p l e R s m args below meth c H1 locs1 cells slots Q (F0 m (pc + 1) ls rest)) : W p l e R s m args below meth c H locs cells slots Q (F0 m pc ls (.long (zL w) :: .int (zI z) :: .ref (ad 5 i) :: rest)) :=
  q_last hexec hb hK hG hS 1 hal (cA := cJ) (n := 12) (f := fun t => zL (C 5 i t)) rfl rfl h0 h1 (by decide) (E' := fun k' i' => cE cI cJ ad k' (su C 5 i z.toNat w k' i')) (fun k' i' _ hne => by rw [su_vi hne]) (f' := fun t => zL (su C 5 i z.toNat w 5 i t)) rfl (fun j _ => by
    show zL (su C 5 i z.toNat w 5 i j) = _
    unfold su
    by_cases h : j = z.toNat
    · rw [if_pos ⟨rfl, rfl, h⟩, if_pos h]
    · rw [if_neg (fun q => h q.2.2), if_neg h]) hdg kk
theorem c_alen (hexec : p.tables.exec = Jvm.exec) (hb : c.code = cc) (hK : va_K D vwCl [(cI, .int), (cJ, .long)] s) (hG : gC D cI cJ A ad al C H) (i : Nat) (hal : al 5 i) (hdg : decode cc pc = .ok (.arraylength, 1))
    (kk : W p l e R s m args below meth c H locs cells slots Q (F0 m (pc + 1) ls (.int (zI 12) :: rest))) : W p l e R s m args below meth c H locs cells slots Q (F0 m pc ls (.ref (ad 5 i) :: rest)) :=
  q_alen hexec hb hK hG 1 hal (cA := cJ) (x := (12, .inr (.inl (fun t => zL (C 5 i t))))) rfl (ty := .long) rfl rfl hdg kk
/-- a call of one of the class's own methods; a static one -/
theorem c_callV {y : MethodName} {bytes : ByteArray} {maxL nL mc ms n : Nat} {ret : Option FieldType} {ws : List Cond} {rm : Room} {As st0 : List Value} {v : Option Value} {B : State → Prop} (F : CallFix p m c cc nL s args Ts own) (kb ib : Nat) (hM : Met l y ws rm (va_Pc (.ref (ad kb ib) :: As) (gCU D cI cJ A ad al C)) (gO v B A) mc ms A) (cw : CallW R s args own Cn index y bytes maxL ret ws rm mc ms n) (hal : al kb ib) (hkb : kb ≠ 1 ∧ kb ≠ 4 ∧ kb ≠ 5) (hcl : vwCl[cCl kb]? = some (Cn, T, cNf kb)) (hK : va_K D vwCl [(cI, .int), (cJ, .long)] s) (hG : gC D cI cJ A ad al C H) (hS : va_S A H0 H locs) (hA : ∀ q, H0.size ≤ q → A q)
    (hn : As.length = n) (hsize : ls.size = nL) (hst : st0 = As.reverse ++ .ref (ad kb ib) :: rest) (hW : (rest.map fun v => v.category).sum ≤ 8) (hdg : decode cc pc = .ok (.invokevirtual index, 3)) (hf : cells + mc ≤ R.cells ∧ slots + ms ≤ R.slots)
    (kk : ∀ (t : State) (H1 : Heap) (locs1 : List Loc), t.heap = H1 → B t → va_S A H0 H1 locs1 → W p l e R s m args below meth c H1 locs1 (cells + mc) (slots + ms) Q (F0 m (pc + 3) ls (v.toList ++ rest))) : W p l e R s m args below meth c H locs cells slots Q (F0 m pc ls st0) :=
  g_call (va_runV (As := As) (rest := rest) F hM cw ⟨gCU_blind, va_recv hK (hG.one hal (cE_obj hkb)) (ci := cCl kb) (q0 := 0) hcl rfl, fun U hU hW => ⟨rfl, by rw [hU]; exact hG, va_K.moved hW.alike hK, fun q hq => hA q (Nat.le_trans hS.1 (by rw [← hU]; exact hq))⟩⟩ rfl hn hsize hst (lv_room hW) hdg hf) hS (fun t H1 locs1 ht hvm hB _ hS1 => kk t H1 locs1 ht hB hS1)
theorem c_callS {y : MethodName} {bytes : ByteArray} {maxL nL mc ms n : Nat} {ret : Option FieldType} {ws : List Cond} {rm : Room} {As st0 : List Value} {v : Option Value} {B : State → Prop} (F : CallFix p m c cc nL s args Ts own) (hM : Met l y ws rm (va_Pc As (gCU D cI cJ A ad al C)) (gO v B A) mc ms A) (cw : CallB R s args own index y bytes maxL ret ws rm mc ms n ∧ (Cond.static y).before args s = true) (hK : va_K D vwCl [(cI, .int), (cJ, .long)] s) (hG : gC D cI cJ A ad al C H) (hS : va_S A H0 H locs) (hA : ∀ q, H0.size ≤ q → A q)
    (hn : As.length = n) (hsize : ls.size = nL) (hst : st0 = As.reverse ++ rest) (hW : (rest.map fun v => v.category).sum ≤ 8) (hdg : decode cc pc = .ok (.invokestatic index, 3)) (hf : cells + mc ≤ R.cells ∧ slots + ms ≤ R.slots)
    (kk : ∀ (t : State) (H1 : Heap) (locs1 : List Loc), t.heap = H1 → B t → va_S A H0 H1 locs1 → W p l e R s m args below meth c H1 locs1 (cells + mc) (slots + ms) Q (F0 m (pc + 3) ls (v.toList ++ rest))) : W p l e R s m args below meth c H locs cells slots Q (F0 m pc ls st0) :=
  g_call (va_runS (As := As) (rest := rest) F hM cw ⟨gCU_blind, fun U hU hW => ⟨rfl, by rw [hU]; exact hG, va_K.moved hW.alike hK, fun q hq => hA q (Nat.le_trans hS.1 (by rw [← hU]; exact hq))⟩⟩ rfl hn hsize hst (lv_room hW) hdg hf) hS (fun t H1 locs1 ht hvm hB _ hS1 => kk t H1 locs1 ht hB hS1)
end CW
end
section
/-! The class's state as a function of the reference's (S), of the row causes that its machines know (E) and of rowsTurn (rt) -/
def cX (S : sT) (rt : Int) : Nat → Int
  | 0 => S 26 0 0 | 1 => S 25 0 0 | 2 => S 5 0 0 - 1 | 3 => S 5 0 0 | 4 => S 20 0 0 - 1 | 5 => S 20 0 0 | 6 => rt | 7 => 0 | 8 => S 30 0 0 | 9 => S 23 0 0 | 10 => S 24 0 0 | _ => 0
def cM (S : sT) (E : Nat → Int) (i : Nat) : Nat → Int
  | 0 => (i : Int) | 1 => S 0 i 0 | 2 => (i : Int) - 1 | 3 => S 1 i 0 | 4 => (i : Int) | 5 => bZ (¬ S 2 i 0 = -1) | 6 => if S 15 i 0 = 0 then -1 else 4 * (i : Int) | 7 => if S 15 i 0 = 0 then -1 else 4 * (i : Int) + S 15 i 0 - 1
  | 8 => S 15 i 0 | 9 => E i | 10 => S 8 i 0 | 11 => bZ (¬ S 6 i 0 = 0) | 12 => if S 6 i 0 = 0 then 0 else S 7 i 0 | 13 => bZ (S 6 i 0 = 2) | 14 => S 22 i 0 | 15 => (i : Int) | _ => 0
def cB (S : sT) (i : Nat) : Nat → Int
  | 0 => S 3 i 0 | 1 => S 4 i 0 | 2 => (i : Int) | 3 => S 10 i 0 | 4 => S 11 i 0 | _ => 0
def cF (S : sT) (x : Nat) : Nat → Int
  | 0 => S 12 (x / 4) (x % 4) | 1 => S 13 (x / 4) (x % 4) | 2 => S 14 (x / 4) (x % 4) | 3 => if ((x % 4 : Nat) : Int) + 1 < S 15 (x / 4) 0 then (x : Int) + 1 else -1 | _ => 0
def cR (S : sT) (k : Nat) : Nat → Int
  | 0 => S 16 k 0 | 1 => S 17 k 0 | 2 => S 18 k 0 | 3 => S 19 k 0 | 4 => (k : Int) - 1 | _ => 0
def cC (S : sT) (E : Nat → Int) (rt : Int) : sT
  | 0, i, f => if i = 0 then cX S rt f else 0
  | 1, i, f => if i = 0 then S (27 + f % 3) (f / 3) 0 else 0
  | 2, i, f => cM S E i f
  | 3, i, f => cB S i f
  | 4, i, f => S 9 i f
  | 5, i, f => S 21 i f
  | 6, i, f => cF S i f
  | 7, i, f => cR S i f
  | _, _, _ => 0
def cAl (S : sT) : Nat → Nat → Prop
  | 0, i => i = 0
  | 1, i => i = 0
  | 2, i => (i : Int) < S 5 0 0
  | 3, i => (i : Int) < S 5 0 0
  | 4, i => (i : Int) < S 5 0 0
  | 5, i => (i : Int) < S 5 0 0
  | 6, i => ((i / 4 : Nat) : Int) < S 5 0 0 ∧ ((i % 4 : Nat) : Int) < S 15 (i / 4) 0
  | 7, i => (i : Int) < S 20 0 0
  | _, _ => False
theorem cC_25 (S : sT) (E : Nat → Int) (rt : Int) (z : Int) : cC (su S 25 0 0 z) E rt = su (cC S E rt) 0 0 1 z := by
  funext k i f
  rcases k with _ | _ | _ | _ | _ | _ | _ | _ | k
  all_goals (by_cases hi : i = 0)
  all_goals first | rfl | (simp [cC, su, *]; done) | (simp [cC, su, *]; omega) | (rcases f with _ | _ | _ | _ | _ | _ | _ | _ | _ | _ | _ | _ | _ | _ | _ | _ | f <;> first | rfl | (simp [cC, cX, cM, cB, cF, cR, su, va_up, *]; done) | (simp [cC, cX, cM, cB, cF, cR, su, va_up, *]; omega))
theorem cC_26 (S : sT) (E : Nat → Int) (rt : Int) (z : Int) : cC (su S 26 0 0 z) E rt = su (cC S E rt) 0 0 0 z := by
  funext k i f
  rcases k with _ | _ | _ | _ | _ | _ | _ | _ | k
  all_goals (by_cases hi : i = 0)
  all_goals first | rfl | (simp [cC, su, *]; done) | (simp [cC, su, *]; omega) | (rcases f with _ | _ | _ | _ | _ | _ | _ | _ | _ | _ | _ | _ | _ | _ | _ | _ | f <;> first | rfl | (simp [cC, cX, cM, cB, cF, cR, su, va_up, *]; done) | (simp [cC, cX, cM, cB, cF, cR, su, va_up, *]; omega))
theorem cC_30 (S : sT) (E : Nat → Int) (rt : Int) (z : Int) : cC (su S 30 0 0 z) E rt = su (cC S E rt) 0 0 8 z := by
  funext k i f
  rcases k with _ | _ | _ | _ | _ | _ | _ | _ | k
  all_goals (by_cases hi : i = 0)
  all_goals first | rfl | (simp [cC, su, *]; done) | (simp [cC, su, *]; omega) | (rcases f with _ | _ | _ | _ | _ | _ | _ | _ | _ | _ | _ | _ | _ | _ | _ | _ | f <;> first | rfl | (simp [cC, cX, cM, cB, cF, cR, su, va_up, *]; done) | (simp [cC, cX, cM, cB, cF, cR, su, va_up, *]; omega))
theorem cC_23 (S : sT) (E : Nat → Int) (rt : Int) (z : Int) : cC (su S 23 0 0 z) E rt = su (cC S E rt) 0 0 9 z := by
  funext k i f
  rcases k with _ | _ | _ | _ | _ | _ | _ | _ | k
  all_goals (by_cases hi : i = 0)
  all_goals first | rfl | (simp [cC, su, *]; done) | (simp [cC, su, *]; omega) | (rcases f with _ | _ | _ | _ | _ | _ | _ | _ | _ | _ | _ | _ | _ | _ | _ | _ | f <;> first | rfl | (simp [cC, cX, cM, cB, cF, cR, su, va_up, *]; done) | (simp [cC, cX, cM, cB, cF, cR, su, va_up, *]; omega))
theorem cC_24 (S : sT) (E : Nat → Int) (rt : Int) (z : Int) : cC (su S 24 0 0 z) E rt = su (cC S E rt) 0 0 10 z := by
  funext k i f
  rcases k with _ | _ | _ | _ | _ | _ | _ | _ | k
  all_goals (by_cases hi : i = 0)
  all_goals first | rfl | (simp [cC, su, *]; done) | (simp [cC, su, *]; omega) | (rcases f with _ | _ | _ | _ | _ | _ | _ | _ | _ | _ | _ | _ | _ | _ | _ | _ | f <;> first | rfl | (simp [cC, cX, cM, cB, cF, cR, su, va_up, *]; done) | (simp [cC, cX, cM, cB, cF, cR, su, va_up, *]; omega))
theorem cC_31 (S : sT) (E : Nat → Int) (rt : Int) (z : Int) : cC (su S 31 0 0 z) E rt = cC S E rt := by
  funext k i f
  rcases k with _ | _ | _ | _ | _ | _ | _ | _ | k
  all_goals (by_cases hi : i = 0)
  all_goals first | rfl | (simp [cC, su, *]; done) | (simp [cC, su, *]; omega) | (rcases f with _ | _ | _ | _ | _ | _ | _ | _ | _ | _ | _ | _ | _ | _ | _ | _ | f <;> first | rfl | (simp [cC, cX, cM, cB, cF, cR, su, va_up, *]; done) | (simp [cC, cX, cM, cB, cF, cR, su, va_up, *]; omega))
theorem cC_rt (S : sT) (E : Nat → Int) (rt : Int) (z : Int) : cC S E z = su (cC S E rt) 0 0 6 z := by
  funext k i f
  rcases k with _ | _ | _ | _ | _ | _ | _ | _ | k
  all_goals (by_cases hi : i = 0)
  all_goals first | rfl | (simp [cC, su, *]; done) | (simp [cC, su, *]; omega) | (rcases f with _ | _ | _ | _ | _ | _ | _ | _ | _ | _ | _ | _ | _ | _ | _ | _ | f <;> first | rfl | (simp [cC, cX, cM, cB, cF, cR, su, va_up, *]; done) | (simp [cC, cX, cM, cB, cF, cR, su, va_up, *]; omega))
theorem cC_E (S : sT) (E : Nat → Int) (rt : Int) (m : Nat) (z : Int) : cC S (va_up E m z) rt = su (cC S E rt) 2 m 9 z := by
  funext k i f
  rcases k with _ | _ | _ | _ | _ | _ | _ | _ | k
  all_goals (by_cases hi : i = m)
  all_goals first | rfl | (simp [cC, su, *]; done) | (simp [cC, su, *]; omega) | (rcases f with _ | _ | _ | _ | _ | _ | _ | _ | _ | _ | _ | _ | _ | _ | _ | _ | f <;> first | rfl | (simp [cC, cX, cM, cB, cF, cR, su, va_up, *]; done) | (simp [cC, cX, cM, cB, cF, cR, su, va_up, *]; omega))
theorem cC_8 (S : sT) (E : Nat → Int) (rt : Int) (m : Nat) (z : Int) : cC (su S 8 m 0 z) E rt = su (cC S E rt) 2 m 10 z := by
  funext k i f
  rcases k with _ | _ | _ | _ | _ | _ | _ | _ | k
  all_goals (by_cases hi : i = m)
  all_goals first | rfl | (simp [cC, su, *]; done) | (simp [cC, su, *]; omega) | (rcases f with _ | _ | _ | _ | _ | _ | _ | _ | _ | _ | _ | _ | _ | _ | _ | _ | f <;> first | rfl | (simp [cC, cX, cM, cB, cF, cR, su, va_up, *]; done) | (simp [cC, cX, cM, cB, cF, cR, su, va_up, *]; omega))
theorem cC_22 (S : sT) (E : Nat → Int) (rt : Int) (m : Nat) (z : Int) : cC (su S 22 m 0 z) E rt = su (cC S E rt) 2 m 14 z := by
  funext k i f
  rcases k with _ | _ | _ | _ | _ | _ | _ | _ | k
  all_goals (by_cases hi : i = m)
  all_goals first | rfl | (simp [cC, su, *]; done) | (simp [cC, su, *]; omega) | (rcases f with _ | _ | _ | _ | _ | _ | _ | _ | _ | _ | _ | _ | _ | _ | _ | _ | f <;> first | rfl | (simp [cC, cX, cM, cB, cF, cR, su, va_up, *]; done) | (simp [cC, cX, cM, cB, cF, cR, su, va_up, *]; omega))
theorem cC_6 (S : sT) (E : Nat → Int) (rt : Int) (m : Nat) (z : Int) : cC (su S 6 m 0 z) E rt = su (su (su (cC S E rt) 2 m 11 (bZ (¬ z = 0))) 2 m 13 (bZ (z = 2))) 2 m 12 (if z = 0 then 0 else S 7 m 0) := by
  funext k i f
  rcases k with _ | _ | _ | _ | _ | _ | _ | _ | k
  all_goals (by_cases hi : i = m)
  all_goals first | rfl | (simp [cC, su, *]; done) | (simp [cC, su, *]; omega) | (rcases f with _ | _ | _ | _ | _ | _ | _ | _ | _ | _ | _ | _ | _ | _ | _ | _ | f <;> first | rfl | (simp [cC, cX, cM, cB, cF, cR, su, va_up, *]; done) | (simp [cC, cX, cM, cB, cF, cR, su, va_up, *]; omega))
theorem cC_7 (S : sT) (E : Nat → Int) (rt : Int) (m : Nat) (z : Int) : cC (su S 7 m 0 z) E rt = su (cC S E rt) 2 m 12 (if S 6 m 0 = 0 then 0 else z) := by
  funext k i f
  rcases k with _ | _ | _ | _ | _ | _ | _ | _ | k
  all_goals (by_cases hi : i = m)
  all_goals first | rfl | (simp [cC, su, *]; done) | (simp [cC, su, *]; omega) | (rcases f with _ | _ | _ | _ | _ | _ | _ | _ | _ | _ | _ | _ | _ | _ | _ | _ | f <;> first | rfl | (simp [cC, cX, cM, cB, cF, cR, su, va_up, *]; done) | (simp [cC, cX, cM, cB, cF, cR, su, va_up, *]; omega))
theorem cC_3 (S : sT) (E : Nat → Int) (rt : Int) (m : Nat) (z : Int) : cC (su S 3 m 0 z) E rt = su (cC S E rt) 3 m 0 z := by
  funext k i f
  rcases k with _ | _ | _ | _ | _ | _ | _ | _ | k
  all_goals (by_cases hi : i = m)
  all_goals first | rfl | (simp [cC, su, *]; done) | (simp [cC, su, *]; omega) | (rcases f with _ | _ | _ | _ | _ | _ | _ | _ | _ | _ | _ | _ | _ | _ | _ | _ | f <;> first | rfl | (simp [cC, cX, cM, cB, cF, cR, su, va_up, *]; done) | (simp [cC, cX, cM, cB, cF, cR, su, va_up, *]; omega))
theorem cC_4 (S : sT) (E : Nat → Int) (rt : Int) (m : Nat) (z : Int) : cC (su S 4 m 0 z) E rt = su (cC S E rt) 3 m 1 z := by
  funext k i f
  rcases k with _ | _ | _ | _ | _ | _ | _ | _ | k
  all_goals (by_cases hi : i = m)
  all_goals first | rfl | (simp [cC, su, *]; done) | (simp [cC, su, *]; omega) | (rcases f with _ | _ | _ | _ | _ | _ | _ | _ | _ | _ | _ | _ | _ | _ | _ | _ | f <;> first | rfl | (simp [cC, cX, cM, cB, cF, cR, su, va_up, *]; done) | (simp [cC, cX, cM, cB, cF, cR, su, va_up, *]; omega))
theorem cC_10 (S : sT) (E : Nat → Int) (rt : Int) (m : Nat) (z : Int) : cC (su S 10 m 0 z) E rt = su (cC S E rt) 3 m 3 z := by
  funext k i f
  rcases k with _ | _ | _ | _ | _ | _ | _ | _ | k
  all_goals (by_cases hi : i = m)
  all_goals first | rfl | (simp [cC, su, *]; done) | (simp [cC, su, *]; omega) | (rcases f with _ | _ | _ | _ | _ | _ | _ | _ | _ | _ | _ | _ | _ | _ | _ | _ | f <;> first | rfl | (simp [cC, cX, cM, cB, cF, cR, su, va_up, *]; done) | (simp [cC, cX, cM, cB, cF, cR, su, va_up, *]; omega))
theorem cC_11 (S : sT) (E : Nat → Int) (rt : Int) (m : Nat) (z : Int) : cC (su S 11 m 0 z) E rt = su (cC S E rt) 3 m 4 z := by
  funext k i f
  rcases k with _ | _ | _ | _ | _ | _ | _ | _ | k
  all_goals (by_cases hi : i = m)
  all_goals first | rfl | (simp [cC, su, *]; done) | (simp [cC, su, *]; omega) | (rcases f with _ | _ | _ | _ | _ | _ | _ | _ | _ | _ | _ | _ | _ | _ | _ | _ | f <;> first | rfl | (simp [cC, cX, cM, cB, cF, cR, su, va_up, *]; done) | (simp [cC, cX, cM, cB, cF, cR, su, va_up, *]; omega))
theorem cC_9 (S : sT) (E : Nat → Int) (rt : Int) (m q : Nat) (z : Int) : cC (su S 9 m q z) E rt = su (cC S E rt) 4 m q z := by
  funext k i f
  rcases k with _ | _ | _ | _ | _ | _ | _ | _ | k
  all_goals (by_cases hi : i = m)
  all_goals first | rfl | (simp [cC, su, *]; done) | (simp [cC, su, *]; omega) | (rcases f with _ | _ | _ | _ | _ | _ | _ | _ | _ | _ | _ | _ | _ | _ | _ | _ | f <;> first | rfl | (simp [cC, cX, cM, cB, cF, cR, su, va_up, *]; done) | (simp [cC, cX, cM, cB, cF, cR, su, va_up, *]; omega))
theorem cC_21 (S : sT) (E : Nat → Int) (rt : Int) (m q : Nat) (z : Int) : cC (su S 21 m q z) E rt = su (cC S E rt) 5 m q z := by
  funext k i f
  rcases k with _ | _ | _ | _ | _ | _ | _ | _ | k
  all_goals (by_cases hi : i = m)
  all_goals first | rfl | (simp [cC, su, *]; done) | (simp [cC, su, *]; omega) | (rcases f with _ | _ | _ | _ | _ | _ | _ | _ | _ | _ | _ | _ | _ | _ | _ | _ | f <;> first | rfl | (simp [cC, cX, cM, cB, cF, cR, su, va_up, *]; done) | (simp [cC, cX, cM, cB, cF, cR, su, va_up, *]; omega))
theorem cC_27 (S : sT) (E : Nat → Int) (rt : Int) (e : Nat) (z : Int) : cC (su S 27 e 0 z) E rt = su (cC S E rt) 1 0 (3 * e) z := by
  funext k i f
  rcases k with _ | _ | _ | _ | _ | _ | _ | _ | k
  all_goals (by_cases hi : i = 0)
  all_goals first | rfl | (simp [cC, su, *]; done) | (simp [cC, su, *]; omega) | (rcases f with _ | _ | _ | _ | _ | _ | _ | _ | _ | _ | _ | _ | _ | _ | _ | _ | f <;> first | rfl | (simp [cC, cX, cM, cB, cF, cR, su, va_up, *]; done) | (simp [cC, cX, cM, cB, cF, cR, su, va_up, *]; omega))
theorem cC_28 (S : sT) (E : Nat → Int) (rt : Int) (e : Nat) (z : Int) : cC (su S 28 e 0 z) E rt = su (cC S E rt) 1 0 (3 * e + 1) z := by
  funext k i f
  rcases k with _ | _ | _ | _ | _ | _ | _ | _ | k
  all_goals (by_cases hi : i = 0)
  all_goals first | rfl | (simp [cC, su, *]; done) | (simp [cC, su, *]; omega) | (rcases f with _ | _ | _ | _ | _ | _ | _ | _ | _ | _ | _ | _ | _ | _ | _ | _ | f <;> first | rfl | (simp [cC, cX, cM, cB, cF, cR, su, va_up, *]; done) | (simp [cC, cX, cM, cB, cF, cR, su, va_up, *]; omega))
theorem cC_29 (S : sT) (E : Nat → Int) (rt : Int) (e : Nat) (z : Int) : cC (su S 29 e 0 z) E rt = su (cC S E rt) 1 0 (3 * e + 2) z := by
  funext k i f
  rcases k with _ | _ | _ | _ | _ | _ | _ | _ | k
  all_goals (by_cases hi : i = 0)
  all_goals first | rfl | (simp [cC, su, *]; done) | (simp [cC, su, *]; omega) | (rcases f with _ | _ | _ | _ | _ | _ | _ | _ | _ | _ | _ | _ | _ | _ | _ | _ | f <;> first | rfl | (simp [cC, cX, cM, cB, cF, cR, su, va_up, *]; done) | (simp [cC, cX, cM, cB, cF, cR, su, va_up, *]; omega))
end
section
theorem rf_or (ad : Nat → Nat → Nat) (t : Nat) (z : Int) : rf ad t z = .null ∨ ∃ a, rf ad t z = .ref a := by
  unfold rf; split
  · exact Or.inl rfl
  · exact Or.inr ⟨_, rfl⟩
theorem rf_fits (ad : Nat → Nat → Nat) (t : Nat) (z : Int) (n : String) : fits (.object n) (rf ad t z) = true := by
  unfold rf; split <;> rfl
theorem rf_nar (ad : Nat → Nat → Nat) (t : Nat) (z : Int) (n : String) : narrow (.object n) (rf ad t z) = rf ad t z := by
  unfold rf; split <;> rfl
def rready (S : sT) (i : Nat) : Int := if 0 < S 11 i 0 then S 9 i (S 10 i 0).toNat + max 1 (S 4 i 0) else 1000000000
def radd (S : sT) (i : Nat) (z : Int) : sT := su (su S 9 i ((S 10 i 0 + S 11 i 0) % 1000).toNat z) 11 i 0 (S 11 i 0 + 1)
def rpop (S : sT) (i : Nat) : sT := su (su S 10 i 0 ((S 10 i 0 + 1) % 1000)) 11 i 0 (S 11 i 0 - 1)
def ccause (S : sT) (E : Nat → Int) (i : Nat) (z : Int) : Int := if E i = -1 then (if z < S 8 i 0 then 3 else if S 6 i 0 = 0 then 10 else if S 7 i 0 < S 0 i 0 then 0 else 11) else E i
def cquiet (S : sT) (E : Nat → Int) (i : Nat) (z : Int) : Int :=
  if ccause S E i z = 0 then S 0 i 0 - S 7 i 0 else if ccause S E i z = 3 then S 8 i 0 - z else if ccause S E i z = 10 then (if S 1 i 0 = -1 then 0 else rready S (S 1 i 0).toNat - z) else 1000000000
def cspend (S : sT) (i : Nat) (c t : Int) : sT := if c = 0 then su (su S 21 i c.toNat (S 21 i c.toNat + t)) 7 i 0 (S 7 i 0 + t) else su S 21 i c.toNat (S 21 i c.toNat + t)
def alS (al : Nat → Nat → Prop) (S : sT) : Prop := ∀ k i, cAl S k i → al k i
theorem alS_eq {al : Nat → Nat → Prop} {S S1 : sT} (h5 : S1 5 0 0 = S 5 0 0) (h15 : ∀ i, S1 15 i 0 = S 15 i 0) (h20 : S1 20 0 0 = S 20 0 0) (hal : alS al S) : alS al S1 := by
  intro k i h
  apply hal
  revert h
  unfold cAl
  split <;> simp [h5, h15, h20]
theorem cAl_f {S : sT} {i k : Nat} (hi : (i : Int) < S 5 0 0) (hk : (k : Int) < S 15 i 0) (h4 : k < 4) : cAl S 6 (4 * i + k) := by
  have e1 : (4 * i + k) / 4 = i := by omega
  have e2 : (4 * i + k) % 4 = k := by omega
  show (((4 * i + k) / 4 : Nat) : Int) < S 5 0 0 ∧ (((4 * i + k) % 4 : Nat) : Int) < S 15 ((4 * i + k) / 4) 0
  rw [e1, e2]
  exact ⟨hi, hk⟩
theorem cF_0 (S : sT) (E : Nat → Int) (rt : Int) {i k : Nat} (h4 : k < 4) : cC S E rt 6 (4 * i + k) 0 = S 12 i k := by
  show S 12 ((4 * i + k) / 4) ((4 * i + k) % 4) = _
  rw [show (4 * i + k) / 4 = i by omega, show (4 * i + k) % 4 = k by omega]
theorem cF_1 (S : sT) (E : Nat → Int) (rt : Int) {i k : Nat} (h4 : k < 4) : cC S E rt 6 (4 * i + k) 1 = S 13 i k := by
  show S 13 ((4 * i + k) / 4) ((4 * i + k) % 4) = _
  rw [show (4 * i + k) / 4 = i by omega, show (4 * i + k) % 4 = k by omega]
theorem cF_2 (S : sT) (E : Nat → Int) (rt : Int) {i k : Nat} (h4 : k < 4) : cC S E rt 6 (4 * i + k) 2 = S 14 i k := by
  show S 14 ((4 * i + k) / 4) ((4 * i + k) % 4) = _
  rw [show (4 * i + k) / 4 = i by omega, show (4 * i + k) % 4 = k by omega]
theorem cF_3 (S : sT) (E : Nat → Int) (rt : Int) {i k : Nat} (h4 : k < 4) : cC S E rt 6 (4 * i + k) 3 = if (k : Int) + 1 < S 15 i 0 then ((4 * i + (k + 1) : Nat) : Int) else -1 := by
  show (if (((4 * i + k) % 4 : Nat) : Int) + 1 < S 15 ((4 * i + k) / 4) 0 then ((4 * i + k : Nat) : Int) + 1 else -1) = _
  rw [show (4 * i + k) / 4 = i by omega, show (4 * i + k) % 4 = k by omega]
  rfl
theorem cC_tk (S : sT) (E : Nat → Int) (rt : Int) (m : Nat) (h6 : S 6 m 0 = 0) : cC (su (su S 6 m 0 1) 7 m 0 0) E rt = su (cC S E rt) 2 m 11 1 := by
  rw [cC_7, cC_6]
  funext k i f
  by_cases h : k = 2 ∧ i = m
  · obtain ⟨rfl, rfl⟩ := h
    rcases f with _ | _ | _ | _ | _ | _ | _ | _ | _ | _ | _ | _ | _ | _ | _ | _ | f <;> first | rfl | simp [cC, cM, su, h6, bZ]
  · rw [su_vi h, su_vi h, su_vi h, su_vi h, su_vi h]
theorem cC_jd (S : sT) (E : Nat → Int) (rt : Int) (m : Nat) (h6 : S 6 m 0 = 1) : cC (su S 6 m 0 2) E rt = su (cC S E rt) 2 m 13 1 := by
  rw [cC_6]
  funext k i f
  by_cases h : k = 2 ∧ i = m
  · obtain ⟨rfl, rfl⟩ := h
    rcases f with _ | _ | _ | _ | _ | _ | _ | _ | _ | _ | _ | _ | _ | _ | _ | _ | f <;> first | rfl | simp [cC, cM, su, h6, bZ]
  · rw [su_vi h, su_vi h, su_vi h, su_vi h]
theorem su_comm {S : sT} {v i j v' i' j' : Nat} {z z' : Int} (h : v ≠ v') : su (su S v i j z) v' i' j' z' = su (su S v' i' j' z') v i j z := by
  funext a b d
  unfold su
  by_cases h1 : a = v ∧ b = i ∧ d = j <;> by_cases h2 : a = v' ∧ b = i' ∧ d = j'
  · exact absurd (h1.1.symm.trans h2.1) h
  · simp [h1, h2]; intro q; exact absurd q h
  · simp [h1, h2]; intro q; exact absurd q.symm h
  · simp [h1, h2]
theorem rjl_6 (m : Nat) (z : Int) : ∀ (n k : Nat) (S : sT) (lg : Int), rjl m n k (su S 6 m 0 z) lg = (su (rjl m n k S lg).1 6 m 0 z, (rjl m n k S lg).2)
  | 0, _, _, _ => rfl
  | n + 1, k, S, lg => by
    have e : rdraw (su S 6 m 0 z) = su (rdraw S) 6 m 0 z := su_comm (by decide)
    unfold rjl
    rw [e, show rdv (su S 6 m 0 z) = rdv S from rfl, show su S 6 m 0 z 13 m k = S 13 m k from rfl, show su S 6 m 0 z 12 m k = S 12 m k from rfl, show su S 6 m 0 z 14 m k = S 14 m k from rfl, rjl_6 m z n, rjl_6 m z n]
    split
    · split <;> rfl
    · rfl
end
section
set_option maxHeartbeats 4000000 in
set_option maxRecDepth 100000 in
theorem m_X0_hasRoom (l : Launch) (D : va_G) (cI cJ : ClassId) (A : Nat → Prop) (ad : Nat → Nat → Nat) (al : Nat → Nat → Prop) (S : sT) (E : Nat → Int) (rt : Int) (hal : alS al S) (i : Nat) (hI : Inv S) (hi : (i : Int) < S 5 0 0) : Met l yX0_hasRoom wsX0_hasRoom ({ frames := 0, cells := 0, slots := 0, locals := 0 }) (va_Pc [.ref (ad 3 i)] (gCU D cI cJ A ad al (cC S E rt))) (gO (some (.int (zI (bZ (S 11 i 0 < S 3 i 0))))) (gCU D cI cJ A ad al (cC S E rt)) A) 0 0 A := by
  refine Met.ofW (cc := cX0_hasRoom) (maxL := 1) (ret := (some .boolean)) (by decide) rfl ?_
  intro p e s m0 args below meth c s₁ B hml hv
  obtain ⟨rfl, hG, hK, hA⟩ := hv
  have hx := B.exec
  have hb := B.bytes
  have hr := B.returns
  have hts := atoms_spec (ws := wsX0_hasRoom) B.pre
  have hown : s.vm.findClass RX0 = some m0.cls := findClass_of_methodNamed B.named
  have hlocks := B.notSynchronized
  have hinX0 : ∀ w ∈ wsX00, w ∈ wsX0_hasRoom := by decide +kernel
  have hS : va_S A s.heap s.heap [] := va_S.rf
  have hl := lv_entry ([.ref (ad 3 i)]) (n := 1) (Nat.le_of_ble_eq_true rfl)
  rw [lg_entry_eq]
  generalize (lg_sl ([.ref (ad 3 i)]) ++ List.replicate (1 - (lg_sl ([.ref (ad 3 i)])).length) Slot.unset).toArray = ls at hl ⊢
  replace hl : lv_has ls 1 [(0, .ref (ad 3 i))] := hl
  obtain ⟨hI5, hI25, hI20, hIM, hIL, hIR⟩ := id hI
  obtain ⟨hM6, hM7, hM8, hM10, hM11, hM15, hM9, hMf⟩ := id (hIM i (by omega))
  obtain ⟨hL0, hL1, hL2, hL3, hL4⟩ := id (hIL i hi)
  refine lv_aload_n hx hb dX0_hasRoom_0 rfl (lv_at hl 0 rfl) ?_
  refine c_getV (Cn := RX0) (T := TX0) hx hb hts 3 hinX0 hown hK hG i 4 (hal 3 i (show (i : Int) < S 5 0 0 by omega)) (by decide) rfl (by decide) (hts (.fieldLink RX0 19 "LineEvents$Buffer" "count" "I") (by decide +kernel)) (cV_I (z := S 11 i 0) rfl (rfl)) dX0_hasRoom_1 ?_
  refine lv_aload_n hx hb dX0_hasRoom_4 rfl (lv_at hl 0 rfl) ?_
  refine c_getV (Cn := RX0) (T := TX0) hx hb hts 3 hinX0 hown hK hG i 0 (hal 3 i (show (i : Int) < S 5 0 0 by omega)) (by decide) rfl (by decide) (hts (.fieldLink RX0 9 "LineEvents$Buffer" "room" "I") (by decide +kernel)) (cV_I (z := S 3 i 0) rfl (rfl)) dX0_hasRoom_5 ?_
  refine z_icmp_ge (tgt := 15) hx hb dX0_hasRoom_8 (by decide) ⟨by omega, by omega⟩ ⟨by omega, by omega⟩ (fun c_1 => ?_) (fun c_1 => ?_)
  · refine lv_iconst (v := zI 0) hx hb dX0_hasRoom_15 rfl ?_
    have v9 : 0 = bZ (S 11 i 0 < S 3 i 0) := by first | (exfalso; omega) | exact (bZ_t (by omega)).symm | exact (bZ_f (by omega)).symm
    refine W.eq (congrArg (fun z => F0 m0 16 ls [.int (zI z)]) v9) ?_
    exact W.zret hx hb hr (zI_bool _) (fun t ht hW => ⟨rfl, ⟨by rw [ht]; exact hG, va_K.moved hW.alike hK, fun q hq => hA q (Nat.le_trans hS.1 (by rw [← ht]; exact hq))⟩, hS.F ht⟩) hS.2.2 dX0_hasRoom_16
  · refine lv_iconst (v := zI 1) hx hb dX0_hasRoom_11 rfl ?_
    refine lv_goto (tgt := 16) hx hb dX0_hasRoom_12 (by decide) ?_
    have v9 : 1 = bZ (S 11 i 0 < S 3 i 0) := by first | (exfalso; omega) | exact (bZ_t (by omega)).symm | exact (bZ_f (by omega)).symm
    refine W.eq (congrArg (fun z => F0 m0 16 ls [.int (zI z)]) v9) ?_
    exact W.zret hx hb hr (zI_bool _) (fun t ht hW => ⟨rfl, ⟨by rw [ht]; exact hG, va_K.moved hW.alike hK, fun q hq => hA q (Nat.le_trans hS.1 (by rw [← ht]; exact hq))⟩, hS.F ht⟩) hS.2.2 dX0_hasRoom_16
set_option maxHeartbeats 4000000 in
set_option maxRecDepth 100000 in
theorem m_X0_add (l : Launch) (D : va_G) (cI cJ : ClassId) (A : Nat → Prop) (ad : Nat → Nat → Nat) (al : Nat → Nat → Prop) (S : sT) (E : Nat → Int) (rt : Int) (hal : alS al S) (i : Nat) (z : Int) (hI : Inv S) (hi : (i : Int) < S 5 0 0) : Met l yX0_add wsX0_add ({ frames := 0, cells := 0, slots := 0, locals := 0 }) (va_Pc [.ref (ad 3 i), .int (zI z)] (gCU D cI cJ A ad al (cC S E rt))) (gO none (gCU D cI cJ A ad al (cC (radd S i z) E rt)) A) 0 0 A := by
  refine Met.ofW (cc := cX0_add) (maxL := 2) (ret := none) (by decide) rfl ?_
  intro p e s m0 args below meth c s₁ B hml hv
  obtain ⟨rfl, hG, hK, hA⟩ := hv
  have hx := B.exec
  have hb := B.bytes
  have hr := B.returns
  have hts := atoms_spec (ws := wsX0_add) B.pre
  have hown : s.vm.findClass RX0 = some m0.cls := findClass_of_methodNamed B.named
  have hlocks := B.notSynchronized
  have hinX0 : ∀ w ∈ wsX00, w ∈ wsX0_add := by decide +kernel
  have hS : va_S A s.heap s.heap [] := va_S.rf
  have hl := lv_entry ([.ref (ad 3 i), .int (zI z)]) (n := 2) (Nat.le_of_ble_eq_true rfl)
  rw [lg_entry_eq]
  generalize (lg_sl ([.ref (ad 3 i), .int (zI z)]) ++ List.replicate (2 - (lg_sl ([.ref (ad 3 i), .int (zI z)])).length) Slot.unset).toArray = ls at hl ⊢
  replace hl : lv_has ls 2 [(0, .ref (ad 3 i)), (1, .int (zI z))] := hl
  obtain ⟨hI5, hI25, hI20, hIM, hIL, hIR⟩ := id hI
  obtain ⟨hM6, hM7, hM8, hM10, hM11, hM15, hM9, hMf⟩ := id (hIM i (by omega))
  obtain ⟨hL0, hL1, hL2, hL3, hL4⟩ := id (hIL i hi)
  refine lv_aload_n hx hb dX0_add_0 rfl (lv_at hl 0 rfl) ?_
  refine c_getV (Cn := RX0) (T := TX0) hx hb hts 3 hinX0 hown hK hG i 2 (hal 3 i (show (i : Int) < S 5 0 0 by omega)) (by decide) rfl (by decide) (hts (.fieldLink RX0 15 "LineEvents$Buffer" "came" "[I") (by decide +kernel)) (cV_R (t := 4) (j := i) rfl (rfl)) dX0_add_1 ?_
  refine lv_aload_n hx hb dX0_add_4 rfl (lv_at hl 0 rfl) ?_
  refine c_getV (Cn := RX0) (T := TX0) hx hb hts 3 hinX0 hown hK hG i 3 (hal 3 i (show (i : Int) < S 5 0 0 by omega)) (by decide) rfl (by decide) (hts (.fieldLink RX0 22 "LineEvents$Buffer" "first" "I") (by decide +kernel)) (cV_I (z := S 10 i 0) rfl (rfl)) dX0_add_5 ?_
  refine lv_aload_n hx hb dX0_add_8 rfl (lv_at hl 0 rfl) ?_
  refine c_getV (Cn := RX0) (T := TX0) hx hb hts 3 hinX0 hown hK hG i 4 (hal 3 i (show (i : Int) < S 5 0 0 by omega)) (by decide) rfl (by decide) (hts (.fieldLink RX0 19 "LineEvents$Buffer" "count" "I") (by decide +kernel)) (cV_I (z := S 11 i 0) rfl (rfl)) dX0_add_9 ?_
  refine z_iadd hx hb dX0_add_12 ?_
  refine lv_sipush (v := zI 1000) hx hb dX0_add_13 (by decide) ?_
  refine z_irem hx hb dX0_add_16 ⟨by omega, by omega⟩ ⟨by omega, by omega⟩ ?_
  refine lv_iload_n hx hb dX0_add_17 rfl (lv_at hl 1 rfl) ?_
  refine c_iast hx hb hK hG hS 4 i 1000 (hal 4 i (show (i : Int) < S 5 0 0 by omega)) (fun _ => rfl) (z := ((S 10 i 0) + (S 11 i 0)) % 1000) (by omega) (by omega) (by decide) (w := z) dX0_add_18 (fun H locs hG hS => ?_)
  refine lv_aload_n hx hb dX0_add_19 rfl (lv_at hl 0 rfl) ?_
  refine lv_dup hx hb dX0_add_20 rfl ?_
  refine c_getV (Cn := RX0) (T := TX0) hx hb hts 3 hinX0 hown hK hG i 4 (hal 3 i (show (i : Int) < S 5 0 0 by omega)) (by decide) rfl (by decide) (hts (.fieldLink RX0 19 "LineEvents$Buffer" "count" "I") (by decide +kernel)) (cV_I (z := S 11 i 0) rfl ((su_v (by decide)).trans (rfl))) dX0_add_21 ?_
  refine lv_iconst (v := zI 1) hx hb dX0_add_24 rfl ?_
  refine z_iadd hx hb dX0_add_25 ?_
  refine c_putV (Cn := RX0) (T := TX0) (z := (S 11 i 0) + 1) hx hb hts 3 hinX0 tyX0 tyX0_ok nmX0 hown hK hG hS i 4 (hal 3 i (show (i : Int) < S 5 0 0 by omega)) (by decide) rfl (by decide) (hts (.fieldLink RX0 19 "LineEvents$Buffer" "count" "I") (by decide +kernel)) (Or.inl rfl) (cV_I (z := (S 11 i 0) + 1) rfl rfl) rfl rfl dX0_add_26 (fun H locs hG hS => ?_)
  have e9 : su (su (cC S E rt) 4 i ((((S 10 i 0) + (S 11 i 0)) % 1000).toNat) (z)) 3 i 4 ((S 11 i 0) + 1) = cC (radd S i z) E rt := by unfold radd; rw [cC_11, cC_9]
  rw [e9] at hG
  exact W.vret hx hb hr (fun t ht hW => ⟨rfl, ⟨by rw [ht]; exact hG, va_K.moved hW.alike hK, fun q hq => hA q (Nat.le_trans hS.1 (by rw [← ht]; exact hq))⟩, hS.F ht⟩) hS.2.2 dX0_add_29
set_option maxHeartbeats 4000000 in
set_option maxRecDepth 100000 in
theorem m_X0_readyAt (l : Launch) (D : va_G) (cI cJ : ClassId) (A : Nat → Prop) (ad : Nat → Nat → Nat) (al : Nat → Nat → Prop) (S : sT) (E : Nat → Int) (rt : Int) (hal : alS al S) (i : Nat) (hI : Inv S) (hi : (i : Int) < S 5 0 0) : Met l yX0_readyAt wsX0_readyAt ({ frames := 1, cells := 0, slots := 0, locals := 21 }) (va_Pc [.ref (ad 3 i)] (gCU D cI cJ A ad al (cC S E rt))) (gO (some (.int (zI (rready S i)))) (gCU D cI cJ A ad al (cC S E rt)) A) 0 0 A := by
  refine Met.ofW (cc := cX0_readyAt) (maxL := 1) (ret := (some .int)) (by decide) rfl ?_
  intro p e s m0 args below meth c s₁ B hml hv
  obtain ⟨rfl, hG, hK, hA⟩ := hv
  have hx := B.exec
  have hb := B.bytes
  have hr := B.returns
  have hts := atoms_spec (ws := wsX0_readyAt) B.pre
  have hown : s.vm.findClass RX0 = some m0.cls := findClass_of_methodNamed B.named
  have hlocks := B.notSynchronized
  have hinX0 : ∀ w ∈ wsX00, w ∈ wsX0_readyAt := by decide +kernel
  have hS : va_S A s.heap s.heap [] := va_S.rf
  have hl := lv_entry ([.ref (ad 3 i)]) (n := 1) (Nat.le_of_ble_eq_true rfl)
  rw [lg_entry_eq]
  generalize (lg_sl ([.ref (ad 3 i)]) ++ List.replicate (1 - (lg_sl ([.ref (ad 3 i)])).length) Slot.unset).toArray = ls at hl ⊢
  replace hl : lv_has ls 1 [(0, .ref (ad 3 i))] := hl
  obtain ⟨hI5, hI25, hI20, hIM, hIL, hIR⟩ := id hI
  obtain ⟨hM6, hM7, hM8, hM10, hM11, hM15, hM9, hMf⟩ := id (hIM i (by omega))
  obtain ⟨hL0, hL1, hL2, hL3, hL4⟩ := id (hIL i hi)
  have h9q := hM9 (S 10 i 0).toNat (by omega)
  refine lv_aload_n hx hb dX0_readyAt_0 rfl (lv_at hl 0 rfl) ?_
  refine c_getV (Cn := RX0) (T := TX0) hx hb hts 3 hinX0 hown hK hG i 4 (hal 3 i (show (i : Int) < S 5 0 0 by omega)) (by decide) rfl (by decide) (hts (.fieldLink RX0 19 "LineEvents$Buffer" "count" "I") (by decide +kernel)) (cV_I (z := S 11 i 0) rfl (rfl)) dX0_readyAt_1 ?_
  refine z_if_le (tgt := 28) hx hb dX0_readyAt_4 (by decide) ⟨by omega, by omega⟩ (fun c_1 => ?_) (fun c_1 => ?_)
  · refine z_ldc (z := 1000000000) hx hb hown (hts (.constant RX0 34 (1000000000)) (by decide +kernel)) (by decide) dX0_readyAt_28 ?_
    have v9 : 1000000000 = rready S i := by unfold rready; first | rw [if_pos (by omega)] | rw [if_neg (by omega)]
    refine W.eq (congrArg (fun z => F0 m0 30 ls [.int (zI z)]) v9) ?_
    exact W.iret hx hb hr (fun t ht hW => ⟨rfl, ⟨by rw [ht]; exact hG, va_K.moved hW.alike hK, fun q hq => hA q (Nat.le_trans hS.1 (by rw [← ht]; exact hq))⟩, hS.F ht⟩) hS.2.2 dX0_readyAt_30
  · refine lv_aload_n hx hb dX0_readyAt_7 rfl (lv_at hl 0 rfl) ?_
    refine c_getV (Cn := RX0) (T := TX0) hx hb hts 3 hinX0 hown hK hG i 2 (hal 3 i (show (i : Int) < S 5 0 0 by omega)) (by decide) rfl (by decide) (hts (.fieldLink RX0 15 "LineEvents$Buffer" "came" "[I") (by decide +kernel)) (cV_R (t := 4) (j := i) rfl (rfl)) dX0_readyAt_8 ?_
    refine lv_aload_n hx hb dX0_readyAt_11 rfl (lv_at hl 0 rfl) ?_
    refine c_getV (Cn := RX0) (T := TX0) hx hb hts 3 hinX0 hown hK hG i 3 (hal 3 i (show (i : Int) < S 5 0 0 by omega)) (by decide) rfl (by decide) (hts (.fieldLink RX0 22 "LineEvents$Buffer" "first" "I") (by decide +kernel)) (cV_I (z := S 10 i 0) rfl (rfl)) dX0_readyAt_12 ?_
    refine c_iald hx hb hK hG 4 i 1000 (hal 4 i (show (i : Int) < S 5 0 0 by omega)) (fun _ => rfl) (z := S 10 i 0) (by omega) (by omega) (by decide) (w := S 9 i (S 10 i 0).toNat) (rfl) dX0_readyAt_15 ?_
    refine lv_iconst (v := zI 1) hx hb dX0_readyAt_16 rfl ?_
    refine lv_aload_n hx hb dX0_readyAt_17 rfl (lv_at hl 0 rfl) ?_
    refine c_getV (Cn := RX0) (T := TX0) hx hb hts 3 hinX0 hown hK hG i 1 (hal 3 i (show (i : Int) < S 5 0 0 by omega)) (by decide) rfl (by decide) (hts (.fieldLink RX0 25 "LineEvents$Buffer" "delay" "I") (by decide +kernel)) (cV_I (z := S 4 i 0) rfl (rfl)) dX0_readyAt_18 ?_
    refine z_max hx hb (by rw [hml]; exact hl.1.symm) hown (hts (.methodLink RX0 28 Lib.Math.max.name) (by decide +kernel)) (hts (.static Lib.Math.max.name) (by decide +kernel)) (hts (.initialized "java/lang/Math") (by decide +kernel)) (hts (.code Lib.Math.max.name Lib.Math.max.code 2 (some .int)) (by decide +kernel)) (Nat.le_of_ble_eq_true rfl) (Nat.le_of_ble_eq_true rfl) (Nat.zero_le _) (Nat.zero_le _) ⟨by decide, by decide⟩ ⟨by omega, by omega⟩ dX0_readyAt_21 ?_
    refine z_iadd hx hb dX0_readyAt_24 ?_
    refine lv_goto (tgt := 30) hx hb dX0_readyAt_25 (by decide) ?_
    have v9 : (S 9 i (S 10 i 0).toNat) + (max 1 (S 4 i 0)) = rready S i := by unfold rready; first | rw [if_pos (by omega)] | rw [if_neg (by omega)]
    refine W.eq (congrArg (fun z => F0 m0 30 ls [.int (zI z)]) v9) ?_
    exact W.iret hx hb hr (fun t ht hW => ⟨rfl, ⟨by rw [ht]; exact hG, va_K.moved hW.alike hK, fun q hq => hA q (Nat.le_trans hS.1 (by rw [← ht]; exact hq))⟩, hS.F ht⟩) hS.2.2 dX0_readyAt_30
set_option maxHeartbeats 4000000 in
set_option maxRecDepth 100000 in
theorem m_X0_isReady (l : Launch) (D : va_G) (cI cJ : ClassId) (A : Nat → Prop) (ad : Nat → Nat → Nat) (al : Nat → Nat → Prop) (S : sT) (E : Nat → Int) (rt : Int) (hal : alS al S) (i : Nat) (z : Int) (hI : Inv S) (hi : (i : Int) < S 5 0 0) (hz : zB z) : Met l yX0_isReady wsX0_isReady ({ frames := 2, cells := 0, slots := 0, locals := 41 }) (va_Pc [.ref (ad 3 i), .int (zI z)] (gCU D cI cJ A ad al (cC S E rt))) (gO (some (.int (zI (bZ (0 < S 11 i 0 ∧ rready S i ≤ z))))) (gCU D cI cJ A ad al (cC S E rt)) A) 0 0 A := by
  refine Met.ofW (cc := cX0_isReady) (maxL := 2) (ret := (some .boolean)) (by decide) rfl ?_
  intro p e s m0 args below meth c s₁ B hml hv
  obtain ⟨rfl, hG, hK, hA⟩ := hv
  have hx := B.exec
  have hb := B.bytes
  have hr := B.returns
  have hts := atoms_spec (ws := wsX0_isReady) B.pre
  have hown : s.vm.findClass RX0 = some m0.cls := findClass_of_methodNamed B.named
  have hlocks := B.notSynchronized
  have hinX0 : ∀ w ∈ wsX00, w ∈ wsX0_isReady := by decide +kernel
  have hS : va_S A s.heap s.heap [] := va_S.rf
  have hl := lv_entry ([.ref (ad 3 i), .int (zI z)]) (n := 2) (Nat.le_of_ble_eq_true rfl)
  rw [lg_entry_eq]
  generalize (lg_sl ([.ref (ad 3 i), .int (zI z)]) ++ List.replicate (2 - (lg_sl ([.ref (ad 3 i), .int (zI z)])).length) Slot.unset).toArray = ls at hl ⊢
  replace hl : lv_has ls 2 [(0, .ref (ad 3 i)), (1, .int (zI z))] := hl
  obtain ⟨hI5, hI25, hI20, hIM, hIL, hIR⟩ := id hI
  obtain ⟨hM6, hM7, hM8, hM10, hM11, hM15, hM9, hMf⟩ := id (hIM i (by omega))
  obtain ⟨hL0, hL1, hL2, hL3, hL4⟩ := id (hIL i hi)
  have h9q := hM9 (S 10 i 0).toNat (by omega)
  have hrd : 0 ≤ rready S i ∧ rready S i ≤ 1000000000 + 10001 := by unfold rready; split <;> omega
  refine lv_aload_n hx hb dX0_isReady_0 rfl (lv_at hl 0 rfl) ?_
  refine c_getV (Cn := RX0) (T := TX0) hx hb hts 3 hinX0 hown hK hG i 4 (hal 3 i (show (i : Int) < S 5 0 0 by omega)) (by decide) rfl (by decide) (hts (.fieldLink RX0 19 "LineEvents$Buffer" "count" "I") (by decide +kernel)) (cV_I (z := S 11 i 0) rfl (rfl)) dX0_isReady_1 ?_
  refine z_if_le (tgt := 19) hx hb dX0_isReady_4 (by decide) ⟨by omega, by omega⟩ (fun c_1 => ?_) (fun c_1 => ?_)
  · refine lv_iconst (v := zI 0) hx hb dX0_isReady_19 rfl ?_
    have v9 : 0 = bZ (0 < S 11 i 0 ∧ rready S i ≤ z) := by first | (exfalso; omega) | exact (bZ_t (by omega)).symm | exact (bZ_f (by omega)).symm
    refine W.eq (congrArg (fun z => F0 m0 20 ls [.int (zI z)]) v9) ?_
    exact W.zret hx hb hr (zI_bool _) (fun t ht hW => ⟨rfl, ⟨by rw [ht]; exact hG, va_K.moved hW.alike hK, fun q hq => hA q (Nat.le_trans hS.1 (by rw [← ht]; exact hq))⟩, hS.F ht⟩) hS.2.2 dX0_isReady_20
  · refine lv_iload_n hx hb dX0_isReady_7 rfl (lv_at hl 1 rfl) ?_
    refine lv_aload_n hx hb dX0_isReady_8 rfl (lv_at hl 0 rfl) ?_
    refine c_callV (As := []) (rest := [.int (zI z)]) (Cn := RX0) (T := TX0) ⟨hx, hb, hml, hown, hts⟩ 3 i (m_X0_readyAt l D cI cJ A ad al S E rt hal i hI hi) (cwV 0 hts gX0_isReady_X0_readyAt rfl rfl rfl (by decide +kernel) ⟨Nat.le_of_ble_eq_true rfl, Nat.le_of_ble_eq_true rfl⟩) (hal 3 i (show (i : Int) < S 5 0 0 by omega)) (by decide) rfl hK hG hS hA rfl hl.1 rfl (Nat.le_of_ble_eq_true rfl) dX0_isReady_9 ⟨Nat.zero_le _, Nat.zero_le _⟩ (fun t9 H locs ht9 hB hS => ?_)
    have hG := hB.1; rw [ht9] at hG; clear hB ht9
    refine z_icmp_lt (tgt := 19) hx hb dX0_isReady_12 (by decide) ⟨by omega, by omega⟩ ⟨by omega, by omega⟩ (fun c_2 => ?_) (fun c_2 => ?_)
    · refine lv_iconst (v := zI 0) hx hb dX0_isReady_19 rfl ?_
      have v9 : 0 = bZ (0 < S 11 i 0 ∧ rready S i ≤ z) := by first | (exfalso; omega) | exact (bZ_t (by omega)).symm | exact (bZ_f (by omega)).symm
      refine W.eq (congrArg (fun z => F0 m0 20 ls [.int (zI z)]) v9) ?_
      exact W.zret hx hb hr (zI_bool _) (fun t ht hW => ⟨rfl, ⟨by rw [ht]; exact hG, va_K.moved hW.alike hK, fun q hq => hA q (Nat.le_trans hS.1 (by rw [← ht]; exact hq))⟩, hS.F ht⟩) hS.2.2 dX0_isReady_20
    · refine lv_iconst (v := zI 1) hx hb dX0_isReady_15 rfl ?_
      refine lv_goto (tgt := 20) hx hb dX0_isReady_16 (by decide) ?_
      have v9 : 1 = bZ (0 < S 11 i 0 ∧ rready S i ≤ z) := by first | (exfalso; omega) | exact (bZ_t (by omega)).symm | exact (bZ_f (by omega)).symm
      refine W.eq (congrArg (fun z => F0 m0 20 ls [.int (zI z)]) v9) ?_
      exact W.zret hx hb hr (zI_bool _) (fun t ht hW => ⟨rfl, ⟨by rw [ht]; exact hG, va_K.moved hW.alike hK, fun q hq => hA q (Nat.le_trans hS.1 (by rw [← ht]; exact hq))⟩, hS.F ht⟩) hS.2.2 dX0_isReady_20
set_option maxHeartbeats 4000000 in
set_option maxRecDepth 100000 in
theorem m_X0_removeFirst (l : Launch) (D : va_G) (cI cJ : ClassId) (A : Nat → Prop) (ad : Nat → Nat → Nat) (al : Nat → Nat → Prop) (S : sT) (E : Nat → Int) (rt : Int) (hal : alS al S) (i : Nat) (hI : Inv S) (hi : (i : Int) < S 5 0 0) : Met l yX0_removeFirst wsX0_removeFirst ({ frames := 0, cells := 0, slots := 0, locals := 0 }) (va_Pc [.ref (ad 3 i)] (gCU D cI cJ A ad al (cC S E rt))) (gO none (gCU D cI cJ A ad al (cC (rpop S i) E rt)) A) 0 0 A := by
  refine Met.ofW (cc := cX0_removeFirst) (maxL := 1) (ret := none) (by decide) rfl ?_
  intro p e s m0 args below meth c s₁ B hml hv
  obtain ⟨rfl, hG, hK, hA⟩ := hv
  have hx := B.exec
  have hb := B.bytes
  have hr := B.returns
  have hts := atoms_spec (ws := wsX0_removeFirst) B.pre
  have hown : s.vm.findClass RX0 = some m0.cls := findClass_of_methodNamed B.named
  have hlocks := B.notSynchronized
  have hinX0 : ∀ w ∈ wsX00, w ∈ wsX0_removeFirst := by decide +kernel
  have hS : va_S A s.heap s.heap [] := va_S.rf
  have hl := lv_entry ([.ref (ad 3 i)]) (n := 1) (Nat.le_of_ble_eq_true rfl)
  rw [lg_entry_eq]
  generalize (lg_sl ([.ref (ad 3 i)]) ++ List.replicate (1 - (lg_sl ([.ref (ad 3 i)])).length) Slot.unset).toArray = ls at hl ⊢
  replace hl : lv_has ls 1 [(0, .ref (ad 3 i))] := hl
  obtain ⟨hI5, hI25, hI20, hIM, hIL, hIR⟩ := id hI
  obtain ⟨hM6, hM7, hM8, hM10, hM11, hM15, hM9, hMf⟩ := id (hIM i (by omega))
  obtain ⟨hL0, hL1, hL2, hL3, hL4⟩ := id (hIL i hi)
  refine lv_aload_n hx hb dX0_removeFirst_0 rfl (lv_at hl 0 rfl) ?_
  refine lv_aload_n hx hb dX0_removeFirst_1 rfl (lv_at hl 0 rfl) ?_
  refine c_getV (Cn := RX0) (T := TX0) hx hb hts 3 hinX0 hown hK hG i 3 (hal 3 i (show (i : Int) < S 5 0 0 by omega)) (by decide) rfl (by decide) (hts (.fieldLink RX0 22 "LineEvents$Buffer" "first" "I") (by decide +kernel)) (cV_I (z := S 10 i 0) rfl (rfl)) dX0_removeFirst_2 ?_
  refine lv_iconst (v := zI 1) hx hb dX0_removeFirst_5 rfl ?_
  refine z_iadd hx hb dX0_removeFirst_6 ?_
  refine lv_sipush (v := zI 1000) hx hb dX0_removeFirst_7 (by decide) ?_
  refine z_irem hx hb dX0_removeFirst_10 ⟨by omega, by omega⟩ ⟨by omega, by omega⟩ ?_
  refine c_putV (Cn := RX0) (T := TX0) (z := ((S 10 i 0) + 1) % 1000) hx hb hts 3 hinX0 tyX0 tyX0_ok nmX0 hown hK hG hS i 3 (hal 3 i (show (i : Int) < S 5 0 0 by omega)) (by decide) rfl (by decide) (hts (.fieldLink RX0 22 "LineEvents$Buffer" "first" "I") (by decide +kernel)) (Or.inl rfl) (cV_I (z := ((S 10 i 0) + 1) % 1000) rfl rfl) rfl rfl dX0_removeFirst_11 (fun H locs hG hS => ?_)
  refine lv_aload_n hx hb dX0_removeFirst_14 rfl (lv_at hl 0 rfl) ?_
  refine lv_dup hx hb dX0_removeFirst_15 rfl ?_
  refine c_getV (Cn := RX0) (T := TX0) hx hb hts 3 hinX0 hown hK hG i 4 (hal 3 i (show (i : Int) < S 5 0 0 by omega)) (by decide) rfl (by decide) (hts (.fieldLink RX0 19 "LineEvents$Buffer" "count" "I") (by decide +kernel)) (cV_I (z := S 11 i 0) rfl ((su_f (by decide)).trans (rfl))) dX0_removeFirst_16 ?_
  refine lv_iconst (v := zI 1) hx hb dX0_removeFirst_19 rfl ?_
  refine z_isub hx hb dX0_removeFirst_20 ?_
  refine c_putV (Cn := RX0) (T := TX0) (z := (S 11 i 0) - 1) hx hb hts 3 hinX0 tyX0 tyX0_ok nmX0 hown hK hG hS i 4 (hal 3 i (show (i : Int) < S 5 0 0 by omega)) (by decide) rfl (by decide) (hts (.fieldLink RX0 19 "LineEvents$Buffer" "count" "I") (by decide +kernel)) (Or.inl rfl) (cV_I (z := (S 11 i 0) - 1) rfl rfl) rfl rfl dX0_removeFirst_21 (fun H locs hG hS => ?_)
  have e9 : su (su (cC S E rt) 3 i 3 (((S 10 i 0) + 1) % 1000)) 3 i 4 ((S 11 i 0) - 1) = cC (rpop S i) E rt := by unfold rpop; rw [cC_11, cC_10]
  rw [e9] at hG
  exact W.vret hx hb hr (fun t ht hW => ⟨rfl, ⟨by rw [ht]; exact hG, va_K.moved hW.alike hK, fun q hq => hA q (Nat.le_trans hS.1 (by rw [← ht]; exact hq))⟩, hS.F ht⟩) hS.2.2 dX0_removeFirst_24
set_option maxHeartbeats 4000000 in
set_option maxRecDepth 100000 in
theorem m_X2_stands (l : Launch) (D : va_G) (cI cJ : ClassId) (A : Nat → Prop) (ad : Nat → Nat → Nat) (al : Nat → Nat → Prop) (S : sT) (E : Nat → Int) (rt : Int) (hal : alS al S) (i : Nat) (z : Int) (hI : Inv S) (hi : (i : Int) < S 5 0 0) (hz : zB z) (hE : -1 ≤ E i ∧ E i ≤ 9) : Met l yX2_stands wsX2_stands ({ frames := 0, cells := 0, slots := 0, locals := 0 }) (va_Pc [.ref (ad 2 i), .int (zI z)] (gCU D cI cJ A ad al (cC S E rt))) (gO (some (.int (zI (bZ (¬ E i = -1 ∨ z < S 8 i 0))))) (gCU D cI cJ A ad al (cC S E rt)) A) 0 0 A := by
  refine Met.ofW (cc := cX2_stands) (maxL := 2) (ret := (some .boolean)) (by decide) rfl ?_
  intro p e s m0 args below meth c s₁ B hml hv
  obtain ⟨rfl, hG, hK, hA⟩ := hv
  have hx := B.exec
  have hb := B.bytes
  have hr := B.returns
  have hts := atoms_spec (ws := wsX2_stands) B.pre
  have hown : s.vm.findClass RX2 = some m0.cls := findClass_of_methodNamed B.named
  have hlocks := B.notSynchronized
  have hinX2 : ∀ w ∈ wsX20, w ∈ wsX2_stands := by decide +kernel
  have hS : va_S A s.heap s.heap [] := va_S.rf
  have hl := lv_entry ([.ref (ad 2 i), .int (zI z)]) (n := 2) (Nat.le_of_ble_eq_true rfl)
  rw [lg_entry_eq]
  generalize (lg_sl ([.ref (ad 2 i), .int (zI z)]) ++ List.replicate (2 - (lg_sl ([.ref (ad 2 i), .int (zI z)])).length) Slot.unset).toArray = ls at hl ⊢
  replace hl : lv_has ls 2 [(0, .ref (ad 2 i)), (1, .int (zI z))] := hl
  obtain ⟨hI5, hI25, hI20, hIM, hIL, hIR⟩ := id hI
  obtain ⟨hM6, hM7, hM8, hM10, hM11, hM15, hM9, hMf⟩ := id (hIM i (by omega))
  obtain ⟨hL0, hL1, hL2, hL3, hL4⟩ := id (hIL i hi)
  refine lv_aload_n hx hb dX2_stands_0 rfl (lv_at hl 0 rfl) ?_
  refine c_getV (Cn := RX2) (T := TX2) hx hb hts 2 hinX2 hown hK hG i 9 (hal 2 i (show (i : Int) < S 5 0 0 by omega)) (by decide) rfl (by decide) (hts (.fieldLink RX2 18 "LineEvents$Machine" "rowCause" "I") (by decide +kernel)) (cV_I (z := E i) rfl (rfl)) dX2_stands_1 ?_
  refine lv_iconst (v := zI (-1)) hx hb dX2_stands_4 rfl ?_
  refine z_icmp_ne (tgt := 16) hx hb dX2_stands_5 (by decide) ⟨by omega, by omega⟩ ⟨by decide, by decide⟩ (fun c_1 => ?_) (fun c_1 => ?_)
  · refine lv_iconst (v := zI 1) hx hb dX2_stands_16 rfl ?_
    refine lv_goto (tgt := 21) hx hb dX2_stands_17 (by decide) ?_
    have v9 : 1 = bZ (¬ E i = -1 ∨ z < S 8 i 0) := by first | (exfalso; omega) | exact (bZ_t (by omega)).symm | exact (bZ_f (by omega)).symm
    refine W.eq (congrArg (fun z => F0 m0 21 ls [.int (zI z)]) v9) ?_
    exact W.zret hx hb hr (zI_bool _) (fun t ht hW => ⟨rfl, ⟨by rw [ht]; exact hG, va_K.moved hW.alike hK, fun q hq => hA q (Nat.le_trans hS.1 (by rw [← ht]; exact hq))⟩, hS.F ht⟩) hS.2.2 dX2_stands_21
  · refine lv_iload_n hx hb dX2_stands_8 rfl (lv_at hl 1 rfl) ?_
    refine lv_aload_n hx hb dX2_stands_9 rfl (lv_at hl 0 rfl) ?_
    refine c_getV (Cn := RX2) (T := TX2) hx hb hts 2 hinX2 hown hK hG i 10 (hal 2 i (show (i : Int) < S 5 0 0 by omega)) (by decide) rfl (by decide) (hts (.fieldLink RX2 54 "LineEvents$Machine" "faultEnd" "I") (by decide +kernel)) (cV_I (z := S 8 i 0) rfl (rfl)) dX2_stands_10 ?_
    refine z_icmp_ge (tgt := 20) hx hb dX2_stands_13 (by decide) ⟨by omega, by omega⟩ ⟨by omega, by omega⟩ (fun c_2 => ?_) (fun c_2 => ?_)
    · refine lv_iconst (v := zI 0) hx hb dX2_stands_20 rfl ?_
      have v9 : 0 = bZ (¬ E i = -1 ∨ z < S 8 i 0) := by first | (exfalso; omega) | exact (bZ_t (by omega)).symm | exact (bZ_f (by omega)).symm
      refine W.eq (congrArg (fun z => F0 m0 21 ls [.int (zI z)]) v9) ?_
      exact W.zret hx hb hr (zI_bool _) (fun t ht hW => ⟨rfl, ⟨by rw [ht]; exact hG, va_K.moved hW.alike hK, fun q hq => hA q (Nat.le_trans hS.1 (by rw [← ht]; exact hq))⟩, hS.F ht⟩) hS.2.2 dX2_stands_21
    · refine lv_iconst (v := zI 1) hx hb dX2_stands_16 rfl ?_
      refine lv_goto (tgt := 21) hx hb dX2_stands_17 (by decide) ?_
      have v9 : 1 = bZ (¬ E i = -1 ∨ z < S 8 i 0) := by first | (exfalso; omega) | exact (bZ_t (by omega)).symm | exact (bZ_f (by omega)).symm
      refine W.eq (congrArg (fun z => F0 m0 21 ls [.int (zI z)]) v9) ?_
      exact W.zret hx hb hr (zI_bool _) (fun t ht hW => ⟨rfl, ⟨by rw [ht]; exact hG, va_K.moved hW.alike hK, fun q hq => hA q (Nat.le_trans hS.1 (by rw [← ht]; exact hq))⟩, hS.F ht⟩) hS.2.2 dX2_stands_21
set_option maxHeartbeats 4000000 in
set_option maxRecDepth 100000 in
theorem m_X2_isDone (l : Launch) (D : va_G) (cI cJ : ClassId) (A : Nat → Prop) (ad : Nat → Nat → Nat) (al : Nat → Nat → Prop) (S : sT) (E : Nat → Int) (rt : Int) (hal : alS al S) (i : Nat) (hI : Inv S) (hi : (i : Int) < S 5 0 0) : Met l yX2_isDone wsX2_isDone ({ frames := 0, cells := 0, slots := 0, locals := 0 }) (va_Pc [.ref (ad 2 i)] (gCU D cI cJ A ad al (cC S E rt))) (gO (some (.int (zI (bZ (¬ S 6 i 0 = 0 ∧ S 0 i 0 ≤ S 7 i 0))))) (gCU D cI cJ A ad al (cC S E rt)) A) 0 0 A := by
  refine Met.ofW (cc := cX2_isDone) (maxL := 1) (ret := (some .boolean)) (by decide) rfl ?_
  intro p e s m0 args below meth c s₁ B hml hv
  obtain ⟨rfl, hG, hK, hA⟩ := hv
  have hx := B.exec
  have hb := B.bytes
  have hr := B.returns
  have hts := atoms_spec (ws := wsX2_isDone) B.pre
  have hown : s.vm.findClass RX2 = some m0.cls := findClass_of_methodNamed B.named
  have hlocks := B.notSynchronized
  have hinX2 : ∀ w ∈ wsX20, w ∈ wsX2_isDone := by decide +kernel
  have hS : va_S A s.heap s.heap [] := va_S.rf
  have hl := lv_entry ([.ref (ad 2 i)]) (n := 1) (Nat.le_of_ble_eq_true rfl)
  rw [lg_entry_eq]
  generalize (lg_sl ([.ref (ad 2 i)]) ++ List.replicate (1 - (lg_sl ([.ref (ad 2 i)])).length) Slot.unset).toArray = ls at hl ⊢
  replace hl : lv_has ls 1 [(0, .ref (ad 2 i))] := hl
  obtain ⟨hI5, hI25, hI20, hIM, hIL, hIR⟩ := id hI
  obtain ⟨hM6, hM7, hM8, hM10, hM11, hM15, hM9, hMf⟩ := id (hIM i (by omega))
  obtain ⟨hL0, hL1, hL2, hL3, hL4⟩ := id (hIL i hi)
  refine lv_aload_n hx hb dX2_isDone_0 rfl (lv_at hl 0 rfl) ?_
  refine c_getV (Cn := RX2) (T := TX2) hx hb hts 2 hinX2 hown hK hG i 11 (hal 2 i (show (i : Int) < S 5 0 0 by omega)) (by decide) rfl (by decide) (hts (.fieldLink RX2 57 "LineEvents$Machine" "hasBottle" "Z") (by decide +kernel)) (cV_I (z := bZ (¬ S 6 i 0 = 0)) rfl (rfl)) dX2_isDone_1 ?_
  refine z_ifb_eq (tgt := 22) hx hb dX2_isDone_4 (by decide) (fun c_1 => ?_) (fun c_1 => ?_)
  · refine lv_iconst (v := zI 0) hx hb dX2_isDone_22 rfl ?_
    have v9 : 0 = bZ (¬ S 6 i 0 = 0 ∧ S 0 i 0 ≤ S 7 i 0) := by first | (exfalso; omega) | exact (bZ_t (by omega)).symm | exact (bZ_f (by omega)).symm
    refine W.eq (congrArg (fun z => F0 m0 23 ls [.int (zI z)]) v9) ?_
    exact W.zret hx hb hr (zI_bool _) (fun t ht hW => ⟨rfl, ⟨by rw [ht]; exact hG, va_K.moved hW.alike hK, fun q hq => hA q (Nat.le_trans hS.1 (by rw [← ht]; exact hq))⟩, hS.F ht⟩) hS.2.2 dX2_isDone_23
  · have hbt : ¬ S 6 i 0 = 0 := c_1
    refine lv_aload_n hx hb dX2_isDone_7 rfl (lv_at hl 0 rfl) ?_
    refine c_getV (Cn := RX2) (T := TX2) hx hb hts 2 hinX2 hown hK hG i 12 (hal 2 i (show (i : Int) < S 5 0 0 by omega)) (by decide) rfl (by decide) (hts (.fieldLink RX2 61 "LineEvents$Machine" "worked" "I") (by decide +kernel)) (cV_I (z := S 7 i 0) rfl (if_neg hbt)) dX2_isDone_8 ?_
    refine lv_aload_n hx hb dX2_isDone_11 rfl (lv_at hl 0 rfl) ?_
    refine c_getV (Cn := RX2) (T := TX2) hx hb hts 2 hinX2 hown hK hG i 1 (hal 2 i (show (i : Int) < S 5 0 0 by omega)) (by decide) rfl (by decide) (hts (.fieldLink RX2 29 "LineEvents$Machine" "takes" "I") (by decide +kernel)) (cV_I (z := S 0 i 0) rfl (rfl)) dX2_isDone_12 ?_
    refine z_icmp_lt (tgt := 22) hx hb dX2_isDone_15 (by decide) ⟨by omega, by omega⟩ ⟨by omega, by omega⟩ (fun c_2 => ?_) (fun c_2 => ?_)
    · refine lv_iconst (v := zI 0) hx hb dX2_isDone_22 rfl ?_
      have v9 : 0 = bZ (¬ S 6 i 0 = 0 ∧ S 0 i 0 ≤ S 7 i 0) := by first | (exfalso; omega) | exact (bZ_t (by omega)).symm | exact (bZ_f (by omega)).symm
      refine W.eq (congrArg (fun z => F0 m0 23 ls [.int (zI z)]) v9) ?_
      exact W.zret hx hb hr (zI_bool _) (fun t ht hW => ⟨rfl, ⟨by rw [ht]; exact hG, va_K.moved hW.alike hK, fun q hq => hA q (Nat.le_trans hS.1 (by rw [← ht]; exact hq))⟩, hS.F ht⟩) hS.2.2 dX2_isDone_23
    · refine lv_iconst (v := zI 1) hx hb dX2_isDone_18 rfl ?_
      refine lv_goto (tgt := 23) hx hb dX2_isDone_19 (by decide) ?_
      have v9 : 1 = bZ (¬ S 6 i 0 = 0 ∧ S 0 i 0 ≤ S 7 i 0) := by first | (exfalso; omega) | exact (bZ_t (by omega)).symm | exact (bZ_f (by omega)).symm
      refine W.eq (congrArg (fun z => F0 m0 23 ls [.int (zI z)]) v9) ?_
      exact W.zret hx hb hr (zI_bool _) (fun t ht hW => ⟨rfl, ⟨by rw [ht]; exact hG, va_K.moved hW.alike hK, fun q hq => hA q (Nat.le_trans hS.1 (by rw [← ht]; exact hq))⟩, hS.F ht⟩) hS.2.2 dX2_isDone_23
set_option maxHeartbeats 4000000 in
set_option maxRecDepth 100000 in
theorem m_X2_putAway (l : Launch) (D : va_G) (cI cJ : ClassId) (A : Nat → Prop) (ad : Nat → Nat → Nat) (al : Nat → Nat → Prop) (S : sT) (E : Nat → Int) (rt : Int) (hal : alS al S) (i : Nat) (hI : Inv S) (hi : (i : Int) < S 5 0 0) : Met l yX2_putAway wsX2_putAway ({ frames := 0, cells := 0, slots := 0, locals := 0 }) (va_Pc [.ref (ad 2 i)] (gCU D cI cJ A ad al (cC S E rt))) (gO none (gCU D cI cJ A ad al (cC (su S 6 i 0 0) E rt)) A) 0 0 A := by
  refine Met.ofW (cc := cX2_putAway) (maxL := 1) (ret := none) (by decide) rfl ?_
  intro p e s m0 args below meth c s₁ B hml hv
  obtain ⟨rfl, hG, hK, hA⟩ := hv
  have hx := B.exec
  have hb := B.bytes
  have hr := B.returns
  have hts := atoms_spec (ws := wsX2_putAway) B.pre
  have hown : s.vm.findClass RX2 = some m0.cls := findClass_of_methodNamed B.named
  have hlocks := B.notSynchronized
  have hinX2 : ∀ w ∈ wsX20, w ∈ wsX2_putAway := by decide +kernel
  have hS : va_S A s.heap s.heap [] := va_S.rf
  have hl := lv_entry ([.ref (ad 2 i)]) (n := 1) (Nat.le_of_ble_eq_true rfl)
  rw [lg_entry_eq]
  generalize (lg_sl ([.ref (ad 2 i)]) ++ List.replicate (1 - (lg_sl ([.ref (ad 2 i)])).length) Slot.unset).toArray = ls at hl ⊢
  replace hl : lv_has ls 1 [(0, .ref (ad 2 i))] := hl
  obtain ⟨hI5, hI25, hI20, hIM, hIL, hIR⟩ := id hI
  obtain ⟨hM6, hM7, hM8, hM10, hM11, hM15, hM9, hMf⟩ := id (hIM i (by omega))
  obtain ⟨hL0, hL1, hL2, hL3, hL4⟩ := id (hIL i hi)
  refine lv_aload_n hx hb dX2_putAway_0 rfl (lv_at hl 0 rfl) ?_
  refine lv_iconst (v := zI 0) hx hb dX2_putAway_1 rfl ?_
  refine c_putV (Cn := RX2) (T := TX2) (z := 0) hx hb hts 2 hinX2 tyX2 tyX2_ok nmX2 hown hK hG hS i 11 (hal 2 i (show (i : Int) < S 5 0 0 by omega)) (by decide) rfl (by decide) (hts (.fieldLink RX2 57 "LineEvents$Machine" "hasBottle" "Z") (by decide +kernel)) (Or.inl rfl) (cV_I (z := 0) rfl rfl) (by decide +kernel) rfl dX2_putAway_2 (fun H locs hG hS => ?_)
  refine lv_aload_n hx hb dX2_putAway_5 rfl (lv_at hl 0 rfl) ?_
  refine lv_iconst (v := zI 0) hx hb dX2_putAway_6 rfl ?_
  refine c_putV (Cn := RX2) (T := TX2) (z := 0) hx hb hts 2 hinX2 tyX2 tyX2_ok nmX2 hown hK hG hS i 13 (hal 2 i (show (i : Int) < S 5 0 0 by omega)) (by decide) rfl (by decide) (hts (.fieldLink RX2 64 "LineEvents$Machine" "judged" "Z") (by decide +kernel)) (Or.inl rfl) (cV_I (z := 0) rfl rfl) (by decide +kernel) rfl dX2_putAway_7 (fun H locs hG hS => ?_)
  refine lv_aload_n hx hb dX2_putAway_10 rfl (lv_at hl 0 rfl) ?_
  refine lv_iconst (v := zI 0) hx hb dX2_putAway_11 rfl ?_
  refine c_putV (Cn := RX2) (T := TX2) (z := 0) hx hb hts 2 hinX2 tyX2 tyX2_ok nmX2 hown hK hG hS i 12 (hal 2 i (show (i : Int) < S 5 0 0 by omega)) (by decide) rfl (by decide) (hts (.fieldLink RX2 61 "LineEvents$Machine" "worked" "I") (by decide +kernel)) (Or.inl rfl) (cV_I (z := 0) rfl rfl) rfl rfl dX2_putAway_12 (fun H locs hG hS => ?_)
  have e9 : su (su (su (cC S E rt) 2 i 11 (0)) 2 i 13 (0)) 2 i 12 (0) = cC (su S 6 i 0 0) E rt := by rw [cC_6]; rfl
  rw [e9] at hG
  exact W.vret hx hb hr (fun t ht hW => ⟨rfl, ⟨by rw [ht]; exact hG, va_K.moved hW.alike hK, fun q hq => hA q (Nat.le_trans hS.1 (by rw [← ht]; exact hq))⟩, hS.F ht⟩) hS.2.2 dX2_putAway_15
set_option maxHeartbeats 4000000 in
set_option maxRecDepth 100000 in
theorem m_X2_causeAt (l : Launch) (D : va_G) (cI cJ : ClassId) (A : Nat → Prop) (ad : Nat → Nat → Nat) (al : Nat → Nat → Prop) (S : sT) (E : Nat → Int) (rt : Int) (hal : alS al S) (i : Nat) (z : Int) (hI : Inv S) (hi : (i : Int) < S 5 0 0) (hz : zB z) (hE : -1 ≤ E i ∧ E i ≤ 9) : Met l yX2_causeAt wsX2_causeAt ({ frames := 0, cells := 0, slots := 0, locals := 0 }) (va_Pc [.ref (ad 2 i), .int (zI z)] (gCU D cI cJ A ad al (cC S E rt))) (gO (some (.int (zI (ccause S E i z)))) (gCU D cI cJ A ad al (cC S E rt)) A) 0 0 A := by
  refine Met.ofW (cc := cX2_causeAt) (maxL := 2) (ret := (some .int)) (by decide) rfl ?_
  intro p e s m0 args below meth c s₁ B hml hv
  obtain ⟨rfl, hG, hK, hA⟩ := hv
  have hx := B.exec
  have hb := B.bytes
  have hr := B.returns
  have hts := atoms_spec (ws := wsX2_causeAt) B.pre
  have hown : s.vm.findClass RX2 = some m0.cls := findClass_of_methodNamed B.named
  have hlocks := B.notSynchronized
  have hinX2 : ∀ w ∈ wsX20, w ∈ wsX2_causeAt := by decide +kernel
  have hS : va_S A s.heap s.heap [] := va_S.rf
  have hl := lv_entry ([.ref (ad 2 i), .int (zI z)]) (n := 2) (Nat.le_of_ble_eq_true rfl)
  rw [lg_entry_eq]
  generalize (lg_sl ([.ref (ad 2 i), .int (zI z)]) ++ List.replicate (2 - (lg_sl ([.ref (ad 2 i), .int (zI z)])).length) Slot.unset).toArray = ls at hl ⊢
  replace hl : lv_has ls 2 [(0, .ref (ad 2 i)), (1, .int (zI z))] := hl
  obtain ⟨hI5, hI25, hI20, hIM, hIL, hIR⟩ := id hI
  obtain ⟨hM6, hM7, hM8, hM10, hM11, hM15, hM9, hMf⟩ := id (hIM i (by omega))
  obtain ⟨hL0, hL1, hL2, hL3, hL4⟩ := id (hIL i hi)
  refine lv_aload_n hx hb dX2_causeAt_0 rfl (lv_at hl 0 rfl) ?_
  refine c_getV (Cn := RX2) (T := TX2) hx hb hts 2 hinX2 hown hK hG i 9 (hal 2 i (show (i : Int) < S 5 0 0 by omega)) (by decide) rfl (by decide) (hts (.fieldLink RX2 18 "LineEvents$Machine" "rowCause" "I") (by decide +kernel)) (cV_I (z := E i) rfl (rfl)) dX2_causeAt_1 ?_
  refine lv_iconst (v := zI (-1)) hx hb dX2_causeAt_4 rfl ?_
  refine z_icmp_eq (tgt := 13) hx hb dX2_causeAt_5 (by decide) ⟨by omega, by omega⟩ ⟨by decide, by decide⟩ (fun c_1 => ?_) (fun c_1 => ?_)
  · refine lv_iload_n hx hb dX2_causeAt_13 rfl (lv_at hl 1 rfl) ?_
    refine lv_aload_n hx hb dX2_causeAt_14 rfl (lv_at hl 0 rfl) ?_
    refine c_getV (Cn := RX2) (T := TX2) hx hb hts 2 hinX2 hown hK hG i 10 (hal 2 i (show (i : Int) < S 5 0 0 by omega)) (by decide) rfl (by decide) (hts (.fieldLink RX2 54 "LineEvents$Machine" "faultEnd" "I") (by decide +kernel)) (cV_I (z := S 8 i 0) rfl (rfl)) dX2_causeAt_15 ?_
    refine z_icmp_ge (tgt := 23) hx hb dX2_causeAt_18 (by decide) ⟨by omega, by omega⟩ ⟨by omega, by omega⟩ (fun c_2 => ?_) (fun c_2 => ?_)
    · refine lv_aload_n hx hb dX2_causeAt_23 rfl (lv_at hl 0 rfl) ?_
      refine c_getV (Cn := RX2) (T := TX2) hx hb hts 2 hinX2 hown hK hG i 11 (hal 2 i (show (i : Int) < S 5 0 0 by omega)) (by decide) rfl (by decide) (hts (.fieldLink RX2 57 "LineEvents$Machine" "hasBottle" "Z") (by decide +kernel)) (cV_I (z := bZ (¬ S 6 i 0 = 0)) rfl (rfl)) dX2_causeAt_24 ?_
      refine z_ifb_ne (tgt := 33) hx hb dX2_causeAt_27 (by decide) (fun c_3 => ?_) (fun c_3 => ?_)
      · have hbt : ¬ S 6 i 0 = 0 := c_3
        refine lv_aload_n hx hb dX2_causeAt_33 rfl (lv_at hl 0 rfl) ?_
        refine c_getV (Cn := RX2) (T := TX2) hx hb hts 2 hinX2 hown hK hG i 12 (hal 2 i (show (i : Int) < S 5 0 0 by omega)) (by decide) rfl (by decide) (hts (.fieldLink RX2 61 "LineEvents$Machine" "worked" "I") (by decide +kernel)) (cV_I (z := S 7 i 0) rfl (if_neg hbt)) dX2_causeAt_34 ?_
        refine lv_aload_n hx hb dX2_causeAt_37 rfl (lv_at hl 0 rfl) ?_
        refine c_getV (Cn := RX2) (T := TX2) hx hb hts 2 hinX2 hown hK hG i 1 (hal 2 i (show (i : Int) < S 5 0 0 by omega)) (by decide) rfl (by decide) (hts (.fieldLink RX2 29 "LineEvents$Machine" "takes" "I") (by decide +kernel)) (cV_I (z := S 0 i 0) rfl (rfl)) dX2_causeAt_38 ?_
        refine z_icmp_ge (tgt := 48) hx hb dX2_causeAt_41 (by decide) ⟨by omega, by omega⟩ ⟨by omega, by omega⟩ (fun c_4 => ?_) (fun c_4 => ?_)
        · refine lv_bipush (v := zI 11) hx hb dX2_causeAt_48 (by decide) ?_
          have v9 : 11 = ccause S E i z := by unfold ccause; first | (exfalso; omega) | rw [if_neg (by omega)] | rw [if_pos (by omega), if_pos (by omega)] | rw [if_pos (by omega), if_neg (by omega), if_pos (by omega)] | rw [if_pos (by omega), if_neg (by omega), if_neg (by omega), if_pos (by omega)] | rw [if_pos (by omega), if_neg (by omega), if_neg (by omega), if_neg (by omega)]
          refine W.eq (congrArg (fun z => F0 m0 50 ls [.int (zI z)]) v9) ?_
          exact W.iret hx hb hr (fun t ht hW => ⟨rfl, ⟨by rw [ht]; exact hG, va_K.moved hW.alike hK, fun q hq => hA q (Nat.le_trans hS.1 (by rw [← ht]; exact hq))⟩, hS.F ht⟩) hS.2.2 dX2_causeAt_50
        · refine lv_iconst (v := zI 0) hx hb dX2_causeAt_44 rfl ?_
          refine lv_goto (tgt := 50) hx hb dX2_causeAt_45 (by decide) ?_
          have v9 : 0 = ccause S E i z := by unfold ccause; first | (exfalso; omega) | rw [if_neg (by omega)] | rw [if_pos (by omega), if_pos (by omega)] | rw [if_pos (by omega), if_neg (by omega), if_pos (by omega)] | rw [if_pos (by omega), if_neg (by omega), if_neg (by omega), if_pos (by omega)] | rw [if_pos (by omega), if_neg (by omega), if_neg (by omega), if_neg (by omega)]
          refine W.eq (congrArg (fun z => F0 m0 50 ls [.int (zI z)]) v9) ?_
          exact W.iret hx hb hr (fun t ht hW => ⟨rfl, ⟨by rw [ht]; exact hG, va_K.moved hW.alike hK, fun q hq => hA q (Nat.le_trans hS.1 (by rw [← ht]; exact hq))⟩, hS.F ht⟩) hS.2.2 dX2_causeAt_50
      · refine lv_bipush (v := zI 10) hx hb dX2_causeAt_30 (by decide) ?_
        have v9 : 10 = ccause S E i z := by unfold ccause; first | (exfalso; omega) | rw [if_neg (by omega)] | rw [if_pos (by omega), if_pos (by omega)] | rw [if_pos (by omega), if_neg (by omega), if_pos (by omega)] | rw [if_pos (by omega), if_neg (by omega), if_neg (by omega), if_pos (by omega)] | rw [if_pos (by omega), if_neg (by omega), if_neg (by omega), if_neg (by omega)]
        refine W.eq (congrArg (fun z => F0 m0 32 ls [.int (zI z)]) v9) ?_
        exact W.iret hx hb hr (fun t ht hW => ⟨rfl, ⟨by rw [ht]; exact hG, va_K.moved hW.alike hK, fun q hq => hA q (Nat.le_trans hS.1 (by rw [← ht]; exact hq))⟩, hS.F ht⟩) hS.2.2 dX2_causeAt_32
    · refine lv_iconst (v := zI 3) hx hb dX2_causeAt_21 rfl ?_
      have v9 : 3 = ccause S E i z := by unfold ccause; first | (exfalso; omega) | rw [if_neg (by omega)] | rw [if_pos (by omega), if_pos (by omega)] | rw [if_pos (by omega), if_neg (by omega), if_pos (by omega)] | rw [if_pos (by omega), if_neg (by omega), if_neg (by omega), if_pos (by omega)] | rw [if_pos (by omega), if_neg (by omega), if_neg (by omega), if_neg (by omega)]
      refine W.eq (congrArg (fun z => F0 m0 22 ls [.int (zI z)]) v9) ?_
      exact W.iret hx hb hr (fun t ht hW => ⟨rfl, ⟨by rw [ht]; exact hG, va_K.moved hW.alike hK, fun q hq => hA q (Nat.le_trans hS.1 (by rw [← ht]; exact hq))⟩, hS.F ht⟩) hS.2.2 dX2_causeAt_22
  · refine lv_aload_n hx hb dX2_causeAt_8 rfl (lv_at hl 0 rfl) ?_
    refine c_getV (Cn := RX2) (T := TX2) hx hb hts 2 hinX2 hown hK hG i 9 (hal 2 i (show (i : Int) < S 5 0 0 by omega)) (by decide) rfl (by decide) (hts (.fieldLink RX2 18 "LineEvents$Machine" "rowCause" "I") (by decide +kernel)) (cV_I (z := E i) rfl (rfl)) dX2_causeAt_9 ?_
    have v9 : E i = ccause S E i z := by unfold ccause; first | (exfalso; omega) | rw [if_neg (by omega)] | rw [if_pos (by omega), if_pos (by omega)] | rw [if_pos (by omega), if_neg (by omega), if_pos (by omega)] | rw [if_pos (by omega), if_neg (by omega), if_neg (by omega), if_pos (by omega)] | rw [if_pos (by omega), if_neg (by omega), if_neg (by omega), if_neg (by omega)]
    refine W.eq (congrArg (fun z => F0 m0 12 ls [.int (zI z)]) v9) ?_
    exact W.iret hx hb hr (fun t ht hW => ⟨rfl, ⟨by rw [ht]; exact hG, va_K.moved hW.alike hK, fun q hq => hA q (Nat.le_trans hS.1 (by rw [← ht]; exact hq))⟩, hS.F ht⟩) hS.2.2 dX2_causeAt_12
set_option maxHeartbeats 4000000 in
set_option maxRecDepth 100000 in
theorem m_X2_spend (l : Launch) (D : va_G) (cI cJ : ClassId) (A : Nat → Prop) (ad : Nat → Nat → Nat) (al : Nat → Nat → Prop) (S : sT) (E : Nat → Int) (rt : Int) (hal : alS al S) (i : Nat) (c0 t : Int) (hI : Inv S) (hi : (i : Int) < S 5 0 0) (hc0 : 0 ≤ c0 ∧ c0 < 12) (ht0 : zB t) (h60 : c0 = 0 → ¬ S 6 i 0 = 0) : Met l yX2_spend wsX2_spend ({ frames := 0, cells := 0, slots := 0, locals := 0 }) (va_Pc [.ref (ad 2 i), .int (zI c0), .int (zI t)] (gCU D cI cJ A ad al (cC S E rt))) (gO none (gCU D cI cJ A ad al (cC (cspend S i c0 t) E rt)) A) 0 0 A := by
  refine Met.ofW (cc := cX2_spend) (maxL := 3) (ret := none) (by decide) rfl ?_
  intro p e s m0 args below meth c s₁ B hml hv
  obtain ⟨rfl, hG, hK, hA⟩ := hv
  have hx := B.exec
  have hb := B.bytes
  have hr := B.returns
  have hts := atoms_spec (ws := wsX2_spend) B.pre
  have hown : s.vm.findClass RX2 = some m0.cls := findClass_of_methodNamed B.named
  have hlocks := B.notSynchronized
  have hinX2 : ∀ w ∈ wsX20, w ∈ wsX2_spend := by decide +kernel
  have hS : va_S A s.heap s.heap [] := va_S.rf
  have hl := lv_entry ([.ref (ad 2 i), .int (zI c0), .int (zI t)]) (n := 3) (Nat.le_of_ble_eq_true rfl)
  rw [lg_entry_eq]
  generalize (lg_sl ([.ref (ad 2 i), .int (zI c0), .int (zI t)]) ++ List.replicate (3 - (lg_sl ([.ref (ad 2 i), .int (zI c0), .int (zI t)])).length) Slot.unset).toArray = ls at hl ⊢
  replace hl : lv_has ls 3 [(0, .ref (ad 2 i)), (1, .int (zI c0)), (2, .int (zI t))] := hl
  obtain ⟨hI5, hI25, hI20, hIM, hIL, hIR⟩ := id hI
  obtain ⟨hM6, hM7, hM8, hM10, hM11, hM15, hM9, hMf⟩ := id (hIM i (by omega))
  obtain ⟨hL0, hL1, hL2, hL3, hL4⟩ := id (hIL i hi)
  refine lv_aload_n hx hb dX2_spend_0 rfl (lv_at hl 0 rfl) ?_
  refine c_getV (Cn := RX2) (T := TX2) hx hb hts 2 hinX2 hown hK hG i 15 (hal 2 i (show (i : Int) < S 5 0 0 by omega)) (by decide) rfl (by decide) (hts (.fieldLink RX2 22 "LineEvents$Machine" "times" "[J") (by decide +kernel)) (cV_R (t := 5) (j := i) rfl (rfl)) dX2_spend_1 ?_
  refine lv_iload_n hx hb dX2_spend_4 rfl (lv_at hl 1 rfl) ?_
  refine lv_dup2_11 hx hb dX2_spend_5 rfl rfl ?_
  refine c_lald hx hb hK hG i (hal 5 i (show (i : Int) < S 5 0 0 by omega)) (z := c0) (by omega) (by omega) (w := S 21 i (c0).toNat) (rfl) dX2_spend_6 ?_
  refine lv_iload_n hx hb dX2_spend_7 rfl (lv_at hl 2 rfl) ?_
  refine z_i2l hx hb dX2_spend_8 ⟨by omega, by omega⟩ ?_
  refine z_ladd hx hb dX2_spend_9 ?_
  refine c_last hx hb hK hG hS i (hal 5 i (show (i : Int) < S 5 0 0 by omega)) (z := c0) (by omega) (by omega) (w := (S 21 i (c0).toNat) + t) dX2_spend_10 (fun H locs hG hS => ?_)
  refine lv_iload_n hx hb dX2_spend_11 rfl (lv_at hl 1 rfl) ?_
  refine z_if_ne (tgt := 25) hx hb dX2_spend_12 (by decide) ⟨by omega, by omega⟩ (fun c_1 => ?_) (fun c_1 => ?_)
  · have e9 : su (cC S E rt) 5 i ((c0).toNat) ((S 21 i (c0).toNat) + t) = cC (cspend S i c0 t) E rt := by unfold cspend; first | rw [if_neg (by omega), cC_21] | rw [if_pos (by omega), cC_7, if_neg (show ¬ su S 21 i c0.toNat (S 21 i c0.toNat + t) 6 i 0 = 0 from h60 (by omega)), cC_21]
    rw [e9] at hG
    exact W.vret hx hb hr (fun t ht hW => ⟨rfl, ⟨by rw [ht]; exact hG, va_K.moved hW.alike hK, fun q hq => hA q (Nat.le_trans hS.1 (by rw [← ht]; exact hq))⟩, hS.F ht⟩) hS.2.2 dX2_spend_25
  · have hbt : ¬ S 6 i 0 = 0 := h60 (by omega)
    refine lv_aload_n hx hb dX2_spend_15 rfl (lv_at hl 0 rfl) ?_
    refine lv_dup hx hb dX2_spend_16 rfl ?_
    refine c_getV (Cn := RX2) (T := TX2) hx hb hts 2 hinX2 hown hK hG i 12 (hal 2 i (show (i : Int) < S 5 0 0 by omega)) (by decide) rfl (by decide) (hts (.fieldLink RX2 61 "LineEvents$Machine" "worked" "I") (by decide +kernel)) (cV_I (z := S 7 i 0) rfl ((su_v (by decide)).trans (if_neg hbt))) dX2_spend_17 ?_
    refine lv_iload_n hx hb dX2_spend_20 rfl (lv_at hl 2 rfl) ?_
    refine z_iadd hx hb dX2_spend_21 ?_
    refine c_putV (Cn := RX2) (T := TX2) (z := (S 7 i 0) + t) hx hb hts 2 hinX2 tyX2 tyX2_ok nmX2 hown hK hG hS i 12 (hal 2 i (show (i : Int) < S 5 0 0 by omega)) (by decide) rfl (by decide) (hts (.fieldLink RX2 61 "LineEvents$Machine" "worked" "I") (by decide +kernel)) (Or.inl rfl) (cV_I (z := (S 7 i 0) + t) rfl rfl) rfl rfl dX2_spend_22 (fun H locs hG hS => ?_)
    have e9 : su (su (cC S E rt) 5 i ((c0).toNat) ((S 21 i (c0).toNat) + t)) 2 i 12 ((S 7 i 0) + t) = cC (cspend S i c0 t) E rt := by unfold cspend; first | rw [if_neg (by omega), cC_21] | rw [if_pos (by omega), cC_7, if_neg (show ¬ su S 21 i c0.toNat (S 21 i c0.toNat + t) 6 i 0 = 0 from h60 (by omega)), cC_21]
    rw [e9] at hG
    exact W.vret hx hb hr (fun t ht hW => ⟨rfl, ⟨by rw [ht]; exact hG, va_K.moved hW.alike hK, fun q hq => hA q (Nat.le_trans hS.1 (by rw [← ht]; exact hq))⟩, hS.F ht⟩) hS.2.2 dX2_spend_25
set_option maxHeartbeats 4000000 in
set_option maxRecDepth 100000 in
theorem m_X4_within (l : Launch) (D : va_G) (cI cJ : ClassId) (A : Nat → Prop) (ad : Nat → Nat → Nat) (al : Nat → Nat → Prop) (S : sT) (E : Nat → Int) (rt : Int) (hal : alS al S) (a b c0 : Int) (ha : zB a) (hb0 : zB b) (hc0 : zB c0) : Met l yX4_within wsX4_within ({ frames := 0, cells := 0, slots := 0, locals := 0 }) (va_Pc [.int (zI a), .int (zI b), .int (zI c0)] (gCU D cI cJ A ad al (cC S E rt))) (gO (some (.int (zI (bZ (b ≤ a ∧ a ≤ c0))))) (gCU D cI cJ A ad al (cC S E rt)) A) 0 0 A := by
  refine Met.ofW (cc := cX4_within) (maxL := 3) (ret := (some .boolean)) (by decide) rfl ?_
  intro p e s m0 args below meth c s₁ B hml hv
  obtain ⟨rfl, hG, hK, hA⟩ := hv
  have hx := B.exec
  have hb := B.bytes
  have hr := B.returns
  have hts := atoms_spec (ws := wsX4_within) B.pre
  have hown : s.vm.findClass RX4 = some m0.cls := findClass_of_methodNamed B.named
  have hlocks := B.notSynchronized
  have hS : va_S A s.heap s.heap [] := va_S.rf
  have hl := lv_entry ([.int (zI a), .int (zI b), .int (zI c0)]) (n := 3) (Nat.le_of_ble_eq_true rfl)
  rw [lg_entry_eq]
  generalize (lg_sl ([.int (zI a), .int (zI b), .int (zI c0)]) ++ List.replicate (3 - (lg_sl ([.int (zI a), .int (zI b), .int (zI c0)])).length) Slot.unset).toArray = ls at hl ⊢
  replace hl : lv_has ls 3 [(0, .int (zI a)), (1, .int (zI b)), (2, .int (zI c0))] := hl
  refine lv_iload_n hx hb dX4_within_0 rfl (lv_at hl 0 rfl) ?_
  refine lv_iload_n hx hb dX4_within_1 rfl (lv_at hl 1 rfl) ?_
  refine z_icmp_lt (tgt := 14) hx hb dX4_within_2 (by decide) ⟨by omega, by omega⟩ ⟨by omega, by omega⟩ (fun c_1 => ?_) (fun c_1 => ?_)
  · refine lv_iconst (v := zI 0) hx hb dX4_within_14 rfl ?_
    have v9 : 0 = bZ (b ≤ a ∧ a ≤ c0) := by first | (exfalso; omega) | exact (bZ_t (by omega)).symm | exact (bZ_f (by omega)).symm
    refine W.eq (congrArg (fun z => F0 m0 15 ls [.int (zI z)]) v9) ?_
    exact W.zret hx hb hr (zI_bool _) (fun t ht hW => ⟨rfl, ⟨by rw [ht]; exact hG, va_K.moved hW.alike hK, fun q hq => hA q (Nat.le_trans hS.1 (by rw [← ht]; exact hq))⟩, hS.F ht⟩) hS.2.2 dX4_within_15
  · refine lv_iload_n hx hb dX4_within_5 rfl (lv_at hl 0 rfl) ?_
    refine lv_iload_n hx hb dX4_within_6 rfl (lv_at hl 2 rfl) ?_
    refine z_icmp_gt (tgt := 14) hx hb dX4_within_7 (by decide) ⟨by omega, by omega⟩ ⟨by omega, by omega⟩ (fun c_2 => ?_) (fun c_2 => ?_)
    · refine lv_iconst (v := zI 0) hx hb dX4_within_14 rfl ?_
      have v9 : 0 = bZ (b ≤ a ∧ a ≤ c0) := by first | (exfalso; omega) | exact (bZ_t (by omega)).symm | exact (bZ_f (by omega)).symm
      refine W.eq (congrArg (fun z => F0 m0 15 ls [.int (zI z)]) v9) ?_
      exact W.zret hx hb hr (zI_bool _) (fun t ht hW => ⟨rfl, ⟨by rw [ht]; exact hG, va_K.moved hW.alike hK, fun q hq => hA q (Nat.le_trans hS.1 (by rw [← ht]; exact hq))⟩, hS.F ht⟩) hS.2.2 dX4_within_15
    · refine lv_iconst (v := zI 1) hx hb dX4_within_10 rfl ?_
      refine lv_goto (tgt := 15) hx hb dX4_within_11 (by decide) ?_
      have v9 : 1 = bZ (b ≤ a ∧ a ≤ c0) := by first | (exfalso; omega) | exact (bZ_t (by omega)).symm | exact (bZ_f (by omega)).symm
      refine W.eq (congrArg (fun z => F0 m0 15 ls [.int (zI z)]) v9) ?_
      exact W.zret hx hb hr (zI_bool _) (fun t ht hW => ⟨rfl, ⟨by rw [ht]; exact hG, va_K.moved hW.alike hK, fun q hq => hA q (Nat.le_trans hS.1 (by rw [← ht]; exact hq))⟩, hS.F ht⟩) hS.2.2 dX4_within_15
set_option maxHeartbeats 4000000 in
set_option maxRecDepth 100000 in
theorem m_X4_isCause (l : Launch) (D : va_G) (cI cJ : ClassId) (A : Nat → Prop) (ad : Nat → Nat → Nat) (al : Nat → Nat → Prop) (S : sT) (E : Nat → Int) (rt : Int) (hal : alS al S) (z : Int) (hz : zB z) : Met l yX4_isCause wsX4_isCause ({ frames := 1, cells := 0, slots := 0, locals := 22 }) (va_Pc [.int (zI z)] (gCU D cI cJ A ad al (cC S E rt))) (gO (some (.int (zI (bZ (0 ≤ z ∧ z ≤ 11))))) (gCU D cI cJ A ad al (cC S E rt)) A) 0 0 A := by
  refine Met.ofW (cc := cX4_isCause) (maxL := 1) (ret := (some .boolean)) (by decide) rfl ?_
  intro p e s m0 args below meth c s₁ B hml hv
  obtain ⟨rfl, hG, hK, hA⟩ := hv
  have hx := B.exec
  have hb := B.bytes
  have hr := B.returns
  have hts := atoms_spec (ws := wsX4_isCause) B.pre
  have hown : s.vm.findClass RX4 = some m0.cls := findClass_of_methodNamed B.named
  have hlocks := B.notSynchronized
  have hS : va_S A s.heap s.heap [] := va_S.rf
  have hl := lv_entry ([.int (zI z)]) (n := 1) (Nat.le_of_ble_eq_true rfl)
  rw [lg_entry_eq]
  generalize (lg_sl ([.int (zI z)]) ++ List.replicate (1 - (lg_sl ([.int (zI z)])).length) Slot.unset).toArray = ls at hl ⊢
  replace hl : lv_has ls 1 [(0, .int (zI z))] := hl
  refine lv_iload_n hx hb dX4_isCause_0 rfl (lv_at hl 0 rfl) ?_
  refine lv_iconst (v := zI 0) hx hb dX4_isCause_1 rfl ?_
  refine lv_bipush (v := zI 11) hx hb dX4_isCause_2 (by decide) ?_
  refine c_callS (As := [.int (zI z), .int (zI 0), .int (zI 11)]) (rest := []) ⟨hx, hb, hml, hown, hts⟩ (m_X4_within l D cI cJ A ad al S E rt hal z 0 11 ⟨by omega, by omega⟩ ⟨by decide, by decide⟩ ⟨by decide, by decide⟩) (va_cwS 3 hts gX4_isCause_X4_within rfl rfl rfl (by decide +kernel) ⟨Nat.le_of_ble_eq_true rfl, Nat.le_of_ble_eq_true rfl⟩) hK hG hS hA rfl hl.1 rfl (Nat.le_of_ble_eq_true rfl) dX4_isCause_4 ⟨Nat.zero_le _, Nat.zero_le _⟩ (fun t9 H locs ht9 hB hS => ?_)
  have hG := hB.1; rw [ht9] at hG; clear hB ht9
  have v9 : bZ (0 ≤ z ∧ z ≤ 11) = bZ (0 ≤ z ∧ z ≤ 11) := by rfl
  refine W.eq (congrArg (fun z => F0 m0 7 ls [.int (zI z)]) v9) ?_
  exact W.zret hx hb hr (zI_bool _) (fun t ht hW => ⟨rfl, ⟨by rw [ht]; exact hG, va_K.moved hW.alike hK, fun q hq => hA q (Nat.le_trans hS.1 (by rw [← ht]; exact hq))⟩, hS.F ht⟩) hS.2.2 dX4_isCause_7
set_option maxHeartbeats 4000000 in
set_option maxRecDepth 100000 in
theorem m_X4_draw (l : Launch) (D : va_G) (cI cJ : ClassId) (A : Nat → Prop) (ad : Nat → Nat → Nat) (al : Nat → Nat → Prop) (S : sT) (E : Nat → Int) (rt : Int) (hal : alS al S) (b : Int) (hb0 : 0 < b ∧ b < 9223372036854775808) : Met l yX4_draw wsX4_draw ({ frames := 0, cells := 0, slots := 0, locals := 0 }) (va_Pc [.ref (ad 0 0), .long (zL b)] (gCU D cI cJ A ad al (cC S E rt))) (gO (some (.long (zL (rdv S b)))) (gCU D cI cJ A ad al (cC (rdraw S) E rt)) A) 0 0 A := by
  refine Met.ofW (cc := cX4_draw) (maxL := 3) (ret := (some .long)) (by decide) rfl ?_
  intro p e s m0 args below meth c s₁ B hml hv
  obtain ⟨rfl, hG, hK, hA⟩ := hv
  have hx := B.exec
  have hb := B.bytes
  have hr := B.returns
  have hts := atoms_spec (ws := wsX4_draw) B.pre
  have hown : s.vm.findClass RX4 = some m0.cls := findClass_of_methodNamed B.named
  have hlocks := B.notSynchronized
  have hinX4 : ∀ w ∈ wsX40, w ∈ wsX4_draw := by decide +kernel
  have hS : va_S A s.heap s.heap [] := va_S.rf
  have hl := lv_entry ([.ref (ad 0 0), .long (zL b)]) (n := 3) (Nat.le_of_ble_eq_true rfl)
  rw [lg_entry_eq]
  generalize (lg_sl ([.ref (ad 0 0), .long (zL b)]) ++ List.replicate (3 - (lg_sl ([.ref (ad 0 0), .long (zL b)])).length) Slot.unset).toArray = ls at hl ⊢
  replace hl : lv_has ls 3 [(0, .ref (ad 0 0)), (1, .long (zL b))] := hl
  refine lv_aload_n hx hb dX4_draw_0 rfl (lv_at hl 0 rfl) ?_
  refine lv_aload_n hx hb dX4_draw_1 rfl (lv_at hl 0 rfl) ?_
  refine c_getV (Cn := RX4) (T := TX4) hx hb hts 0 hinX4 hown hK hG 0 0 (hal 0 0 rfl) (by decide) rfl (by decide) (hts (.fieldLink RX4 13 "LineEvents" "drawn" "J") (by decide +kernel)) (cV_J (z := S 26 0 0) rfl (rfl)) dX4_draw_2 ?_
  refine z_ldc2 (z := 6364136223846793005) hx hb hown (hts (.constantLong RX4 243 (6364136223846793005)) (by decide +kernel)) (by decide) dX4_draw_5 ?_
  refine z_lmul hx hb dX4_draw_8 ?_
  refine z_ldc2 (z := 1442695040888963407) hx hb hown (hts (.constantLong RX4 245 (1442695040888963407)) (by decide +kernel)) (by decide) dX4_draw_9 ?_
  refine z_ladd hx hb dX4_draw_12 ?_
  refine c_putV (Cn := RX4) (T := TX4) (z := ((S 26 0 0) * 6364136223846793005) + 1442695040888963407) hx hb hts 0 hinX4 tyX4 tyX4_ok nmX4 hown hK hG hS 0 0 (hal 0 0 rfl) (by decide) rfl (by decide) (hts (.fieldLink RX4 13 "LineEvents" "drawn" "J") (by decide +kernel)) (Or.inl rfl) (cV_J (z := ((S 26 0 0) * 6364136223846793005) + 1442695040888963407) rfl rfl) rfl rfl dX4_draw_13 (fun H locs hG hS => ?_)
  refine lv_aload_n hx hb dX4_draw_16 rfl (lv_at hl 0 rfl) ?_
  refine c_getV (Cn := RX4) (T := TX4) hx hb hts 0 hinX4 hown hK hG 0 0 (hal 0 0 rfl) (by decide) rfl (by decide) (hts (.fieldLink RX4 13 "LineEvents" "drawn" "J") (by decide +kernel)) (cV_J (z := ((S 26 0 0) * 6364136223846793005) + 1442695040888963407) rfl ((su_same _ _ _ _ _))) dX4_draw_17 ?_
  refine lv_bipush (v := zI 33) hx hb dX4_draw_20 (by decide) ?_
  refine z_ush33 hx hb dX4_draw_22 ?_
  refine lv_lload_n hx hb dX4_draw_23 rfl (lv_at hl 1 rfl) ?_
  refine z_lrem hx hb dX4_draw_24 ⟨by omega, by omega⟩ ⟨by omega, by omega⟩ ?_
  have e9 : su (cC S E rt) 0 0 0 (((S 26 0 0) * 6364136223846793005) + 1442695040888963407) = cC (rdraw S) E rt := by unfold rdraw; rw [cC_26]
  rw [e9] at hG
  have v9 : ((((S 26 0 0) * 6364136223846793005) + 1442695040888963407) % 18446744073709551616 / 8589934592) % b = rdv S b := by rfl
  refine W.eq (congrArg (fun z => F0 m0 25 ls [.long (zL z)]) v9) ?_
  exact W.lret hx hb hr (fun t ht hW => ⟨rfl, ⟨by rw [ht]; exact hG, va_K.moved hW.alike hK, fun q hq => hA q (Nat.le_trans hS.1 (by rw [← ht]; exact hq))⟩, hS.F ht⟩) hS.2.2 dX4_draw_25
set_option maxHeartbeats 4000000 in
set_option maxRecDepth 100000 in
theorem m_X4_note (l : Launch) (D : va_G) (cI cJ : ClassId) (A : Nat → Prop) (ad : Nat → Nat → Nat) (al : Nat → Nat → Prop) (S : sT) (E : Nat → Int) (rt : Int) (hal : alS al S) (i : Nat) (kd : Int) (hi : (i : Int) < S 5 0 0) (he : 0 ≤ S 30 0 0 ∧ S 30 0 0 < 2147483647) : Met l yX4_note wsX4_note ({ frames := 0, cells := 0, slots := 0, locals := 0 }) (va_Pc [.ref (ad 0 0), .ref (ad 2 i), .int (zI kd)] (gCU D cI cJ A ad al (cC S E rt))) (gO none (gCU D cI cJ A ad al (cC (rnote S i kd) E rt)) A) 0 0 A := by
  refine Met.ofW (cc := cX4_note) (maxL := 4) (ret := none) (by decide) rfl ?_
  intro p e s m0 args below meth c s₁ B hml hv
  obtain ⟨rfl, hG, hK, hA⟩ := hv
  have hx := B.exec
  have hb := B.bytes
  have hr := B.returns
  have hts := atoms_spec (ws := wsX4_note) B.pre
  have hown : s.vm.findClass RX4 = some m0.cls := findClass_of_methodNamed B.named
  have hlocks := B.notSynchronized
  have hinX2 : ∀ w ∈ wsX20, w ∈ wsX4_note := by decide +kernel
  have hinX4 : ∀ w ∈ wsX40, w ∈ wsX4_note := by decide +kernel
  have hS : va_S A s.heap s.heap [] := va_S.rf
  have hl := lv_entry ([.ref (ad 0 0), .ref (ad 2 i), .int (zI kd)]) (n := 4) (Nat.le_of_ble_eq_true rfl)
  rw [lg_entry_eq]
  generalize (lg_sl ([.ref (ad 0 0), .ref (ad 2 i), .int (zI kd)]) ++ List.replicate (4 - (lg_sl ([.ref (ad 0 0), .ref (ad 2 i), .int (zI kd)])).length) Slot.unset).toArray = ls at hl ⊢
  replace hl : lv_has ls 4 [(0, .ref (ad 0 0)), (1, .ref (ad 2 i)), (2, .int (zI kd))] := hl
  refine lv_aload_n hx hb dX4_note_0 rfl (lv_at hl 0 rfl) ?_
  refine c_getV (Cn := RX4) (T := TX4) hx hb hts 0 hinX4 hown hK hG 0 8 (hal 0 0 rfl) (by decide) rfl (by decide) (hts (.fieldLink RX4 80 "LineEvents" "eventCount" "I") (by decide +kernel)) (cV_I (z := S 30 0 0) rfl (rfl)) dX4_note_1 ?_
  refine lv_sipush (v := zI 1000) hx hb dX4_note_4 (by decide) ?_
  refine z_icmp_ge (tgt := 48) hx hb dX4_note_7 (by decide) ⟨by omega, by omega⟩ ⟨by decide, by decide⟩ (fun c_1 => ?_) (fun c_1 => ?_)
  · refine lv_aload_n hx hb dX4_note_48 rfl (lv_at hl 0 rfl) ?_
    refine lv_dup hx hb dX4_note_49 rfl ?_
    refine c_getV (Cn := RX4) (T := TX4) hx hb hts 0 hinX4 hown hK hG 0 8 (hal 0 0 rfl) (by decide) rfl (by decide) (hts (.fieldLink RX4 80 "LineEvents" "eventCount" "I") (by decide +kernel)) (cV_I (z := S 30 0 0) rfl (rfl)) dX4_note_50 ?_
    refine lv_iconst (v := zI 1) hx hb dX4_note_53 rfl ?_
    refine z_iadd hx hb dX4_note_54 ?_
    refine c_putV (Cn := RX4) (T := TX4) (z := (S 30 0 0) + 1) hx hb hts 0 hinX4 tyX4 tyX4_ok nmX4 hown hK hG hS 0 8 (hal 0 0 rfl) (by decide) rfl (by decide) (hts (.fieldLink RX4 80 "LineEvents" "eventCount" "I") (by decide +kernel)) (Or.inl rfl) (cV_I (z := (S 30 0 0) + 1) rfl rfl) rfl rfl dX4_note_55 (fun H locs hG hS => ?_)
    have e9 : su (cC S E rt) 0 0 8 ((S 30 0 0) + 1) = cC (rnote S i kd) E rt := by unfold rnote; first | rw [if_neg (by omega), cC_30] | rw [if_pos (by omega), cC_30, cC_29, cC_28, cC_27, show (S 30 0 0 * 3).toNat = 3 * (S 30 0 0).toNat by omega, show (S 30 0 0 * 3 + 1).toNat = 3 * (S 30 0 0).toNat + 1 by omega, show (S 30 0 0 * 3 + 2).toNat = 3 * (S 30 0 0).toNat + 2 by omega]
    rw [e9] at hG
    exact W.vret hx hb hr (fun t ht hW => ⟨rfl, ⟨by rw [ht]; exact hG, va_K.moved hW.alike hK, fun q hq => hA q (Nat.le_trans hS.1 (by rw [← ht]; exact hq))⟩, hS.F ht⟩) hS.2.2 dX4_note_58
  · refine lv_aload_n hx hb dX4_note_10 rfl (lv_at hl 0 rfl) ?_
    refine c_getV (Cn := RX4) (T := TX4) hx hb hts 0 hinX4 hown hK hG 0 8 (hal 0 0 rfl) (by decide) rfl (by decide) (hts (.fieldLink RX4 80 "LineEvents" "eventCount" "I") (by decide +kernel)) (cV_I (z := S 30 0 0) rfl (rfl)) dX4_note_11 ?_
    refine lv_iconst (v := zI 3) hx hb dX4_note_14 rfl ?_
    refine z_imul hx hb dX4_note_15 ?_
    refine lv_istore_n (lv' := [(3, .int (zI ((S 30 0 0) * 3))), (0, .ref (ad 0 0)), (1, .ref (ad 2 i)), (2, .int (zI kd))]) hx hb dX4_note_16 rfl hl (by decide) rfl (fun ls hl => ?_)
    refine lv_aload_n hx hb dX4_note_17 rfl (lv_at hl 1 rfl) ?_
    refine c_getV (Cn := RX4) (T := TX4) hx hb hts 0 hinX4 hown hK hG 0 7 (hal 0 0 rfl) (by decide) rfl (by decide) (hts (.fieldLink RX4 9 "LineEvents" "events" "[I") (by decide +kernel)) (cV_R (t := 1) (j := 0) rfl (rfl)) dX4_note_18 ?_
    refine lv_iload_n hx hb dX4_note_21 rfl (lv_at hl 0 rfl) ?_
    refine lv_aload_n hx hb dX4_note_22 rfl (lv_at hl 1 rfl) ?_
    refine c_getV (Cn := RX4) (T := TX4) hx hb hts 0 hinX4 hown hK hG 0 1 (hal 0 0 rfl) (by decide) rfl (by decide) (hts (.fieldLink RX4 27 "LineEvents" "now" "I") (by decide +kernel)) (cV_I (z := S 25 0 0) rfl (rfl)) dX4_note_23 ?_
    refine c_iast hx hb hK hG hS 1 0 3000 (hal 1 0 rfl) (fun _ => rfl) (z := (S 30 0 0) * 3) (by omega) (by omega) (by decide) (w := S 25 0 0) dX4_note_26 (fun H locs hG hS => ?_)
    refine lv_aload_n hx hb dX4_note_27 rfl (lv_at hl 1 rfl) ?_
    refine c_getV (Cn := RX4) (T := TX4) hx hb hts 0 hinX4 hown hK hG 0 7 (hal 0 0 rfl) (by decide) rfl (by decide) (hts (.fieldLink RX4 9 "LineEvents" "events" "[I") (by decide +kernel)) (cV_R (t := 1) (j := 0) rfl ((su_v (by decide)).trans (rfl))) dX4_note_28 ?_
    refine lv_iload_n hx hb dX4_note_31 rfl (lv_at hl 0 rfl) ?_
    refine lv_iconst (v := zI 1) hx hb dX4_note_32 rfl ?_
    refine z_iadd hx hb dX4_note_33 ?_
    refine lv_aload_n hx hb dX4_note_34 rfl (lv_at hl 2 rfl) ?_
    refine c_getV (Cn := RX2) (T := TX2) hx hb hts 2 hinX2 hown hK hG i 0 (hal 2 i (show (i : Int) < S 5 0 0 by omega)) (by decide) rfl (by decide) (hts (.fieldLink RX4 45 "LineEvents$Machine" "number" "I") (by decide +kernel)) (cV_I (z := (i : Int)) rfl ((su_v (by decide)).trans (rfl))) dX4_note_35 ?_
    refine c_iast hx hb hK hG hS 1 0 3000 (hal 1 0 rfl) (fun _ => rfl) (z := ((S 30 0 0) * 3) + 1) (by omega) (by omega) (by decide) (w := (i : Int)) dX4_note_38 (fun H locs hG hS => ?_)
    refine lv_aload_n hx hb dX4_note_39 rfl (lv_at hl 1 rfl) ?_
    refine c_getV (Cn := RX4) (T := TX4) hx hb hts 0 hinX4 hown hK hG 0 7 (hal 0 0 rfl) (by decide) rfl (by decide) (hts (.fieldLink RX4 9 "LineEvents" "events" "[I") (by decide +kernel)) (cV_R (t := 1) (j := 0) rfl ((su_v (by decide)).trans ((su_v (by decide)).trans (rfl)))) dX4_note_40 ?_
    refine lv_iload_n hx hb dX4_note_43 rfl (lv_at hl 0 rfl) ?_
    refine lv_iconst (v := zI 2) hx hb dX4_note_44 rfl ?_
    refine z_iadd hx hb dX4_note_45 ?_
    refine lv_iload_n hx hb dX4_note_46 rfl (lv_at hl 3 rfl) ?_
    refine c_iast hx hb hK hG hS 1 0 3000 (hal 1 0 rfl) (fun _ => rfl) (z := ((S 30 0 0) * 3) + 2) (by omega) (by omega) (by decide) (w := kd) dX4_note_47 (fun H locs hG hS => ?_)
    refine lv_aload_n hx hb dX4_note_48 rfl (lv_at hl 1 rfl) ?_
    refine lv_dup hx hb dX4_note_49 rfl ?_
    refine c_getV (Cn := RX4) (T := TX4) hx hb hts 0 hinX4 hown hK hG 0 8 (hal 0 0 rfl) (by decide) rfl (by decide) (hts (.fieldLink RX4 80 "LineEvents" "eventCount" "I") (by decide +kernel)) (cV_I (z := S 30 0 0) rfl ((su_v (by decide)).trans ((su_v (by decide)).trans ((su_v (by decide)).trans (rfl))))) dX4_note_50 ?_
    refine lv_iconst (v := zI 1) hx hb dX4_note_53 rfl ?_
    refine z_iadd hx hb dX4_note_54 ?_
    refine c_putV (Cn := RX4) (T := TX4) (z := (S 30 0 0) + 1) hx hb hts 0 hinX4 tyX4 tyX4_ok nmX4 hown hK hG hS 0 8 (hal 0 0 rfl) (by decide) rfl (by decide) (hts (.fieldLink RX4 80 "LineEvents" "eventCount" "I") (by decide +kernel)) (Or.inl rfl) (cV_I (z := (S 30 0 0) + 1) rfl rfl) rfl rfl dX4_note_55 (fun H locs hG hS => ?_)
    have e9 : su (su (su (su (cC S E rt) 1 0 (((S 30 0 0) * 3).toNat) (S 25 0 0)) 1 0 ((((S 30 0 0) * 3) + 1).toNat) ((i : Int))) 1 0 ((((S 30 0 0) * 3) + 2).toNat) (kd)) 0 0 8 ((S 30 0 0) + 1) = cC (rnote S i kd) E rt := by unfold rnote; first | rw [if_neg (by omega), cC_30] | rw [if_pos (by omega), cC_30, cC_29, cC_28, cC_27, show (S 30 0 0 * 3).toNat = 3 * (S 30 0 0).toNat by omega, show (S 30 0 0 * 3 + 1).toNat = 3 * (S 30 0 0).toNat + 1 by omega, show (S 30 0 0 * 3 + 2).toNat = 3 * (S 30 0 0).toNat + 2 by omega]
    rw [e9] at hG
    exact W.vret hx hb hr (fun t ht hW => ⟨rfl, ⟨by rw [ht]; exact hG, va_K.moved hW.alike hK, fun q hq => hA q (Nat.le_trans hS.1 (by rw [← ht]; exact hq))⟩, hS.F ht⟩) hS.2.2 dX4_note_58
end
section
set_option maxHeartbeats 4000000 in
set_option maxRecDepth 100000 in
theorem m_X2_allTimes (l : Launch) (D : va_G) (cI cJ : ClassId) (A : Nat → Prop) (ad : Nat → Nat → Nat) (al : Nat → Nat → Prop) (S : sT) (E : Nat → Int) (rt : Int) (hal : alS al S) (i : Nat) (hI : Inv S) (hi : (i : Int) < S 5 0 0) : Met l yX2_allTimes wsX2_allTimes ({ frames := 0, cells := 0, slots := 0, locals := 0 }) (va_Pc [.ref (ad 2 i)] (gCU D cI cJ A ad al (cC S E rt))) (gO (some (.long (zL (rsum S i 12 0 0)))) (gCU D cI cJ A ad al (cC S E rt)) A) 0 0 A := by
  refine Met.ofW (cc := cX2_allTimes) (maxL := 8) (ret := (some .long)) (by decide) rfl ?_
  intro p e s m0 args below meth c s₁ B hml hv
  obtain ⟨rfl, hG, hK, hA⟩ := hv
  have hx := B.exec
  have hb := B.bytes
  have hr := B.returns
  have hts := atoms_spec (ws := wsX2_allTimes) B.pre
  have hown : s.vm.findClass RX2 = some m0.cls := findClass_of_methodNamed B.named
  have hlocks := B.notSynchronized
  have hinX2 : ∀ w ∈ wsX20, w ∈ wsX2_allTimes := by decide +kernel
  have hS : va_S A s.heap s.heap [] := va_S.rf
  have hl := lv_entry ([.ref (ad 2 i)]) (n := 8) (Nat.le_of_ble_eq_true rfl)
  rw [lg_entry_eq]
  generalize (lg_sl ([.ref (ad 2 i)]) ++ List.replicate (8 - (lg_sl ([.ref (ad 2 i)])).length) Slot.unset).toArray = ls at hl ⊢
  replace hl : lv_has ls 8 [(0, .ref (ad 2 i))] := hl
  obtain ⟨hI5, hI25, hI20, hIM, hIL, hIR⟩ := id hI
  obtain ⟨hM6, hM7, hM8, hM10, hM11, hM15, hM9, hMf⟩ := id (hIM i (by omega))
  obtain ⟨hL0, hL1, hL2, hL3, hL4⟩ := id (hIL i hi)
  refine lv_lconst (v := zL 0) hx hb dX2_allTimes_0 (by decide) ?_
  refine lv_lstore_n (lv' := [(1, .long (zL 0)), (0, .ref (ad 2 i))]) hx hb dX2_allTimes_1 rfl hl (by decide) rfl (fun ls hl => ?_)
  refine lv_aload_n hx hb dX2_allTimes_2 rfl (lv_at hl 1 rfl) ?_
  refine c_getV (Cn := RX2) (T := TX2) hx hb hts 2 hinX2 hown hK hG i 15 (hal 2 i (show (i : Int) < S 5 0 0 by omega)) (by decide) rfl (by decide) (hts (.fieldLink RX2 22 "LineEvents$Machine" "times" "[J") (by decide +kernel)) (cV_R (t := 5) (j := i) rfl (rfl)) dX2_allTimes_3 ?_
  refine lv_astore_n (lv' := [(3, .ref (ad 5 i)), (1, .long (zL 0)), (0, .ref (ad 2 i))]) hx hb dX2_allTimes_6 rfl hl (by decide) rfl (fun ls hl => ?_)
  refine lv_aload_n hx hb dX2_allTimes_7 rfl (lv_at hl 0 rfl) ?_
  refine c_alen hx hb hK hG i (hal 5 i (show (i : Int) < S 5 0 0 by omega)) dX2_allTimes_8 ?_
  refine lv_istore (lv' := [(4, .int (zI 12)), (3, .ref (ad 5 i)), (1, .long (zL 0)), (0, .ref (ad 2 i))]) hx hb dX2_allTimes_9 hl (by decide) rfl (fun ls hl => ?_)
  refine lv_iconst (v := zI 0) hx hb dX2_allTimes_11 rfl ?_
  refine lv_istore (lv' := [(5, .int (zI 0)), (4, .int (zI 12)), (3, .ref (ad 5 i)), (1, .long (zL 0)), (0, .ref (ad 2 i))]) hx hb dX2_allTimes_12 hl (by decide) rfl (fun ls hl => ?_)
  obtain ⟨k, hk0⟩ : ∃ k : Nat, k = 0 := ⟨0, rfl⟩
  obtain ⟨q, hq0⟩ : ∃ z : Int, z = 0 := ⟨0, rfl⟩
  replace hl : lv_has ls 8 [(5, .int (zI (k : Int))), (4, .int (zI 12)), (3, .ref (ad 5 i)), (1, .long (zL q)), (0, .ref (ad 2 i))] := by subst hk0; subst hq0; exact hl
  obtain ⟨n, hn⟩ : ∃ n : Nat, (k : Int) + n = 12 := ⟨12, by omega⟩
  have hv9 : rsum S i n k q = rsum S i 12 0 0 := by subst hk0; subst hq0; congr 1; omega
  clear hk0 hq0
  induction n generalizing k ls q with
  | zero =>
    refine lv_iload hx hb dX2_allTimes_14 (lv_at hl 0 rfl) ?_
    refine lv_iload hx hb dX2_allTimes_16 (lv_at hl 1 rfl) ?_
    refine z_icmp_ge (tgt := 38) hx hb dX2_allTimes_18 (by decide) ⟨by omega, by omega⟩ ⟨by decide, by decide⟩ (fun c_1 => ?_) (fun c_1 => ?_)
    · refine lv_lload_n hx hb dX2_allTimes_38 rfl (lv_at hl 3 rfl) ?_
      have v9 : q = rsum S i 12 0 0 := by rw [← hv9]; rfl
      refine W.eq (congrArg (fun z => F0 m0 39 ls [.long (zL z)]) v9) ?_
      exact W.lret hx hb hr (fun t ht hW => ⟨rfl, ⟨by rw [ht]; exact hG, va_K.moved hW.alike hK, fun q hq => hA q (Nat.le_trans hS.1 (by rw [← ht]; exact hq))⟩, hS.F ht⟩) hS.2.2 dX2_allTimes_39
    · exfalso; omega
  | succ n ih =>
    refine lv_iload hx hb dX2_allTimes_14 (lv_at hl 0 rfl) ?_
    refine lv_iload hx hb dX2_allTimes_16 (lv_at hl 1 rfl) ?_
    refine z_icmp_ge (tgt := 38) hx hb dX2_allTimes_18 (by decide) ⟨by omega, by omega⟩ ⟨by decide, by decide⟩ (fun c_2 => ?_) (fun c_2 => ?_)
    · exfalso; omega
    · refine lv_aload_n hx hb dX2_allTimes_21 rfl (lv_at hl 2 rfl) ?_
      refine lv_iload hx hb dX2_allTimes_22 (lv_at hl 0 rfl) ?_
      refine c_lald hx hb hK hG i (hal 5 i (show (i : Int) < S 5 0 0 by omega)) (z := (k : Int)) (by omega) (by omega) (w := S 21 i k) (rfl) dX2_allTimes_24 ?_
      refine lv_lstore (lv' := [(6, .long (zL (S 21 i k))), (5, .int (zI (k : Int))), (4, .int (zI 12)), (3, .ref (ad 5 i)), (1, .long (zL q)), (0, .ref (ad 2 i))]) hx hb dX2_allTimes_25 hl (by decide) rfl (fun ls hl => ?_)
      refine lv_lload_n hx hb dX2_allTimes_27 rfl (lv_at hl 4 rfl) ?_
      refine lv_lload hx hb dX2_allTimes_28 (lv_at hl 0 rfl) ?_
      refine z_ladd hx hb dX2_allTimes_30 ?_
      refine lv_lstore_n (lv' := [(1, .long (zL (q + (S 21 i k)))), (6, .long (zL (S 21 i k))), (5, .int (zI (k : Int))), (4, .int (zI 12)), (3, .ref (ad 5 i)), (0, .ref (ad 2 i))]) hx hb dX2_allTimes_31 rfl hl (by decide) rfl (fun ls hl => ?_)
      refine lv_iinc (v := zI ((k : Int) + 1)) (lv' := [(5, .int (zI ((k : Int) + 1))), (1, .long (zL (q + (S 21 i k)))), (6, .long (zL (S 21 i k))), (4, .int (zI 12)), (3, .ref (ad 5 i)), (0, .ref (ad 2 i))]) hx hb dX2_allTimes_32 hl (k := 2) rfl (by rw [show Int32.ofInt 1 = zI 1 from rfl, zI_add]) (by decide) rfl (fun ls hl => ?_)
      refine lv_goto (tgt := 14) hx hb dX2_allTimes_35 (by decide) ?_
      exact ih (k := k + 1) (ls := ls) (q := q + (S 21 i k)) (hl := lv_sub hl [0, 3, 4, 1, 5] rfl) (hn := by omega) (hv9 := by rw [← hv9, rsum])
theorem ccause_0 {S : sT} {E : Nat → Int} {i : Nat} {z : Int} (h : ccause S E i z = 0) (hE : E i = -1 ∨ 1 ≤ E i) : ¬ S 6 i 0 = 0 := by
  unfold ccause at h
  split at h
  · split at h
    · omega
    · split at h
      · omega
      · assumption
  · omega
set_option maxHeartbeats 4000000 in
set_option maxRecDepth 100000 in
theorem m_X2_quietTenths (l : Launch) (D : va_G) (cI cJ : ClassId) (A : Nat → Prop) (ad : Nat → Nat → Nat) (al : Nat → Nat → Prop) (S : sT) (E : Nat → Int) (rt : Int) (hal : alS al S) (i : Nat) (z : Int) (hI : Inv S) (hi : (i : Int) < S 5 0 0) (hz : 0 ≤ z ∧ z ≤ 1000000000) (hE : -1 ≤ E i ∧ E i ≤ 9) (hE1 : E i = -1 ∨ 1 ≤ E i) : Met l yX2_quietTenths wsX2_quietTenths ({ frames := 2, cells := 0, slots := 0, locals := 41 }) (va_Pc [.ref (ad 2 i), .int (zI z)] (gCU D cI cJ A ad al (cC S E rt))) (gO (some (.int (zI (cquiet S E i z)))) (gCU D cI cJ A ad al (cC S E rt)) A) 0 0 A := by
  refine Met.ofW (cc := cX2_quietTenths) (maxL := 2) (ret := (some .int)) (by decide) rfl ?_
  intro p e s m0 args below meth c s₁ B hml hv
  obtain ⟨rfl, hG, hK, hA⟩ := hv
  have hx := B.exec
  have hb := B.bytes
  have hr := B.returns
  have hts := atoms_spec (ws := wsX2_quietTenths) B.pre
  have hown : s.vm.findClass RX2 = some m0.cls := findClass_of_methodNamed B.named
  have hlocks := B.notSynchronized
  have hinX0 : ∀ w ∈ wsX00, w ∈ wsX2_quietTenths := by decide +kernel
  have hinX2 : ∀ w ∈ wsX20, w ∈ wsX2_quietTenths := by decide +kernel
  have hS : va_S A s.heap s.heap [] := va_S.rf
  have hl := lv_entry ([.ref (ad 2 i), .int (zI z)]) (n := 2) (Nat.le_of_ble_eq_true rfl)
  rw [lg_entry_eq]
  generalize (lg_sl ([.ref (ad 2 i), .int (zI z)]) ++ List.replicate (2 - (lg_sl ([.ref (ad 2 i), .int (zI z)])).length) Slot.unset).toArray = ls at hl ⊢
  replace hl : lv_has ls 2 [(0, .ref (ad 2 i)), (1, .int (zI z))] := hl
  obtain ⟨hI5, hI25, hI20, hIM, hIL, hIR⟩ := id hI
  obtain ⟨hM6, hM7, hM8, hM10, hM11, hM15, hM9, hMf⟩ := id (hIM i (by omega))
  obtain ⟨hL0, hL1, hL2, hL3, hL4⟩ := id (hIL i hi)
  have hz : zB z := ⟨by omega, by omega⟩
  refine lv_aload_n hx hb dX2_quietTenths_0 rfl (lv_at hl 0 rfl) ?_
  refine lv_iload_n hx hb dX2_quietTenths_1 rfl (lv_at hl 1 rfl) ?_
  refine c_callV (As := [.int (zI z)]) (rest := []) (Cn := RX2) (T := TX2) ⟨hx, hb, hml, hown, hts⟩ 2 i (m_X2_causeAt l D cI cJ A ad al S E rt hal i z hI hi hz hE) (cwV 1 hts gX2_quietTenths_X2_causeAt rfl rfl rfl (by decide +kernel) ⟨Nat.le_of_ble_eq_true rfl, Nat.le_of_ble_eq_true rfl⟩) (hal 2 i (show (i : Int) < S 5 0 0 by omega)) (by decide) rfl hK hG hS hA rfl hl.1 rfl (Nat.le_of_ble_eq_true rfl) dX2_quietTenths_2 ⟨Nat.zero_le _, Nat.zero_le _⟩ (fun t9 H locs ht9 hB hS => ?_)
  have hG := hB.1; rw [ht9] at hG; clear hB ht9
  obtain ⟨cz, hcz⟩ : ∃ q, q = ccause S E i z := ⟨_, rfl⟩
  rw [← hcz]
  have hczB : 0 ≤ cz ∧ cz ≤ 11 := by rw [hcz]; unfold ccause; repeat (split <;> try omega)
  have hct : (zI cz).toInt = cz := zI_toInt (by omega) (by omega)
  by_cases hq0 : cz = 0
  · refine lv_lookup (off := 35) (tgt := 40) hx hb dX2_quietTenths_5 (by decide) (by rw [hct, hq0]; decide) (by decide) ?_
    refine lv_aload_n hx hb dX2_quietTenths_40 rfl (lv_at hl 0 rfl) ?_
    refine c_getV (Cn := RX2) (T := TX2) hx hb hts 2 hinX2 hown hK hG i 1 (hal 2 i (show (i : Int) < S 5 0 0 by omega)) (by decide) rfl (by decide) (hts (.fieldLink RX2 29 "LineEvents$Machine" "takes" "I") (by decide +kernel)) (cV_I (z := S 0 i 0) rfl (rfl)) dX2_quietTenths_41 ?_
    refine lv_aload_n hx hb dX2_quietTenths_44 rfl (lv_at hl 0 rfl) ?_
    refine c_getV (Cn := RX2) (T := TX2) hx hb hts 2 hinX2 hown hK hG i 12 (hal 2 i (show (i : Int) < S 5 0 0 by omega)) (by decide) rfl (by decide) (hts (.fieldLink RX2 61 "LineEvents$Machine" "worked" "I") (by decide +kernel)) (cV_I (z := S 7 i 0) rfl (if_neg (ccause_0 (by rw [← hcz]; exact hq0) hE1))) dX2_quietTenths_45 ?_
    refine z_isub hx hb dX2_quietTenths_48 ?_
    have v9 : (S 0 i 0) - (S 7 i 0) = cquiet S E i z := by unfold cquiet; rw [if_pos (hcz ▸ hq0)]
    refine W.eq (congrArg (fun z => F0 m0 49 ls [.int (zI z)]) v9) ?_
    exact W.iret hx hb hr (fun t ht hW => ⟨rfl, ⟨by rw [ht]; exact hG, va_K.moved hW.alike hK, fun q hq => hA q (Nat.le_trans hS.1 (by rw [← ht]; exact hq))⟩, hS.F ht⟩) hS.2.2 dX2_quietTenths_49
  by_cases hq3 : cz = 3
  · refine lv_lookup (off := 45) (tgt := 50) hx hb dX2_quietTenths_5 (by decide) (by rw [hct, hq3]; decide) (by decide) ?_
    refine lv_aload_n hx hb dX2_quietTenths_50 rfl (lv_at hl 0 rfl) ?_
    refine c_getV (Cn := RX2) (T := TX2) hx hb hts 2 hinX2 hown hK hG i 10 (hal 2 i (show (i : Int) < S 5 0 0 by omega)) (by decide) rfl (by decide) (hts (.fieldLink RX2 54 "LineEvents$Machine" "faultEnd" "I") (by decide +kernel)) (cV_I (z := S 8 i 0) rfl (rfl)) dX2_quietTenths_51 ?_
    refine lv_iload_n hx hb dX2_quietTenths_54 rfl (lv_at hl 1 rfl) ?_
    refine z_isub hx hb dX2_quietTenths_55 ?_
    have v9 : (S 8 i 0) - z = cquiet S E i z := by unfold cquiet; rw [← hcz, if_neg (by omega), if_pos (by omega)]
    refine W.eq (congrArg (fun z => F0 m0 56 ls [.int (zI z)]) v9) ?_
    exact W.iret hx hb hr (fun t ht hW => ⟨rfl, ⟨by rw [ht]; exact hG, va_K.moved hW.alike hK, fun q hq => hA q (Nat.le_trans hS.1 (by rw [← ht]; exact hq))⟩, hS.F ht⟩) hS.2.2 dX2_quietTenths_56
  by_cases hq10 : cz = 10
  · refine lv_lookup (off := 52) (tgt := 57) hx hb dX2_quietTenths_5 (by decide) (by rw [hct, hq10]; decide) (by decide) ?_
    refine lv_aload_n hx hb dX2_quietTenths_57 rfl (lv_at hl 0 rfl) ?_
    refine c_getV (Cn := RX2) (T := TX2) hx hb hts 2 hinX2 hown hK hG i 3 (hal 2 i (show (i : Int) < S 5 0 0 by omega)) (by decide) rfl (by decide) (hts (.fieldLink RX2 36 "LineEvents$Machine" "before" "LLineEvents$Buffer;") (by decide +kernel)) (cV_F (t := 3) (z := S 1 i 0) rfl (rfl)) dX2_quietTenths_58 ?_
    refine z_ifnonnull (ad := ad) (t := 3) (tgt := 68) hx hb dX2_quietTenths_61 (by decide) (fun c_1 => ?_) (fun c_1 => ?_)
    · obtain ⟨b, hb9⟩ : ∃ b : Nat, S 1 i 0 = (b : Int) := ⟨(S 1 i 0).toNat, by omega⟩
      have hbn : (b : Int) < S 5 0 0 := by omega
      obtain ⟨hB6, hB7, hB8, hB10, hB11, hB15, hB9, hBf⟩ := id (hIM b (by omega))
      obtain ⟨hC0, hC1, hC2, hC3, hC4⟩ := id (hIL b hbn)
      have hq9 := hB9 (S 10 b 0).toNat (by omega)
      have hrd : 0 ≤ rready S b ∧ rready S b ≤ 1000000000 + 10001 := by unfold rready; split <;> omega
      refine lv_aload_n hx hb dX2_quietTenths_68 rfl (lv_at hl 0 rfl) ?_
      refine c_getV (Cn := RX2) (T := TX2) hx hb hts 2 hinX2 hown hK hG i 3 (hal 2 i (show (i : Int) < S 5 0 0 by omega)) (by decide) rfl (by decide) (hts (.fieldLink RX2 36 "LineEvents$Machine" "before" "LLineEvents$Buffer;") (by decide +kernel)) (cV_R (t := 3) (j := b) rfl (hb9)) dX2_quietTenths_69 ?_
      refine c_callV (As := []) (rest := []) (Cn := RX0) (T := TX0) ⟨hx, hb, hml, hown, hts⟩ 3 b (m_X0_readyAt l D cI cJ A ad al S E rt hal b hI hbn) (cwV 0 hts gX2_quietTenths_X0_readyAt rfl rfl rfl (by decide +kernel) ⟨Nat.le_of_ble_eq_true rfl, Nat.le_of_ble_eq_true rfl⟩) (hal 3 b (show (b : Int) < S 5 0 0 by omega)) (by decide) rfl hK hG hS hA rfl hl.1 rfl (Nat.le_of_ble_eq_true rfl) dX2_quietTenths_72 ⟨Nat.zero_le _, Nat.zero_le _⟩ (fun t9 H locs ht9 hB hS => ?_)
      have hG := hB.1; rw [ht9] at hG; clear hB ht9
      refine lv_iload_n hx hb dX2_quietTenths_75 rfl (lv_at hl 1 rfl) ?_
      refine z_isub hx hb dX2_quietTenths_76 ?_
      have v9 : (rready S b) - z = cquiet S E i z := by unfold cquiet; rw [← hcz, if_neg (by omega), if_neg (by omega), if_pos (by omega)]; rw [if_neg (by omega), hb9]; rfl
      refine W.eq (congrArg (fun z => F0 m0 77 ls [.int (zI z)]) v9) ?_
      exact W.iret hx hb hr (fun t ht hW => ⟨rfl, ⟨by rw [ht]; exact hG, va_K.moved hW.alike hK, fun q hq => hA q (Nat.le_trans hS.1 (by rw [← ht]; exact hq))⟩, hS.F ht⟩) hS.2.2 dX2_quietTenths_77
    · refine lv_iconst (v := zI 0) hx hb dX2_quietTenths_64 rfl ?_
      refine lv_goto (tgt := 77) hx hb dX2_quietTenths_65 (by decide) ?_
      have v9 : 0 = cquiet S E i z := by unfold cquiet; rw [← hcz, if_neg (by omega), if_neg (by omega), if_pos (by omega)]; rw [if_pos (by omega)]
      refine W.eq (congrArg (fun z => F0 m0 77 ls [.int (zI z)]) v9) ?_
      exact W.iret hx hb hr (fun t ht hW => ⟨rfl, ⟨by rw [ht]; exact hG, va_K.moved hW.alike hK, fun q hq => hA q (Nat.le_trans hS.1 (by rw [← ht]; exact hq))⟩, hS.F ht⟩) hS.2.2 dX2_quietTenths_77
  · refine lv_lookup (off := 73) (tgt := 78) hx hb dX2_quietTenths_5 (by decide) (by rw [hct]; simp [Op.lookupswitch.offset]; omega) (by decide) ?_
    refine z_ldc (z := 1000000000) hx hb hown (hts (.constant RX2 75 (1000000000)) (by decide +kernel)) (by decide) dX2_quietTenths_78 ?_
    have v9 : 1000000000 = cquiet S E i z := by unfold cquiet; rw [← hcz, if_neg (by omega), if_neg (by omega), if_neg (by omega)]
    refine W.eq (congrArg (fun z => F0 m0 80 ls [.int (zI z)]) v9) ?_
    exact W.iret hx hb hr (fun t ht hW => ⟨rfl, ⟨by rw [ht]; exact hG, va_K.moved hW.alike hK, fun q hq => hA q (Nat.le_trans hS.1 (by rw [← ht]; exact hq))⟩, hS.F ht⟩) hS.2.2 dX2_quietTenths_80
set_option maxHeartbeats 4000000 in
set_option maxRecDepth 100000 in
theorem m_X4_reject (l : Launch) (D : va_G) (cI cJ : ClassId) (A : Nat → Prop) (ad : Nat → Nat → Nat) (al : Nat → Nat → Prop) (S : sT) (E : Nat → Int) (rt : Int) (hal : alS al S) (i : Nat) (hI : Inv S) (hi : (i : Int) < S 5 0 0) (he : 0 ≤ S 30 0 0 ∧ S 30 0 0 < 2147483647) : Met l yX4_reject wsX4_reject ({ frames := 1, cells := 0, slots := 0, locals := 23 }) (va_Pc [.ref (ad 0 0), .ref (ad 2 i)] (gCU D cI cJ A ad al (cC S E rt))) (gO none (gCU D cI cJ A ad al (cC (rnote (su (su S 6 i 0 0) 22 i 0 (S 22 i 0 + 1)) i 2) E rt)) A) 0 0 A := by
  refine Met.ofW (cc := cX4_reject) (maxL := 2) (ret := none) (by decide) rfl ?_
  intro p e s m0 args below meth c s₁ B hml hv
  obtain ⟨rfl, hG, hK, hA⟩ := hv
  have hx := B.exec
  have hb := B.bytes
  have hr := B.returns
  have hts := atoms_spec (ws := wsX4_reject) B.pre
  have hown : s.vm.findClass RX4 = some m0.cls := findClass_of_methodNamed B.named
  have hlocks := B.notSynchronized
  have hinX2 : ∀ w ∈ wsX20, w ∈ wsX4_reject := by decide +kernel
  have hinX4 : ∀ w ∈ wsX40, w ∈ wsX4_reject := by decide +kernel
  have hS : va_S A s.heap s.heap [] := va_S.rf
  have hl := lv_entry ([.ref (ad 0 0), .ref (ad 2 i)]) (n := 2) (Nat.le_of_ble_eq_true rfl)
  rw [lg_entry_eq]
  generalize (lg_sl ([.ref (ad 0 0), .ref (ad 2 i)]) ++ List.replicate (2 - (lg_sl ([.ref (ad 0 0), .ref (ad 2 i)])).length) Slot.unset).toArray = ls at hl ⊢
  replace hl : lv_has ls 2 [(0, .ref (ad 0 0)), (1, .ref (ad 2 i))] := hl
  obtain ⟨hI5, hI25, hI20, hIM, hIL, hIR⟩ := id hI
  obtain ⟨hM6, hM7, hM8, hM10, hM11, hM15, hM9, hMf⟩ := id (hIM i (by omega))
  obtain ⟨hL0, hL1, hL2, hL3, hL4⟩ := id (hIL i hi)
  refine lv_aload_n hx hb dX4_reject_0 rfl (lv_at hl 1 rfl) ?_
  refine c_callV (As := []) (rest := []) (Cn := RX2) (T := TX2) ⟨hx, hb, hml, hown, hts⟩ 2 i (m_X2_putAway l D cI cJ A ad al S E rt hal i hI hi) (cwV 0 hts gX4_reject_X2_putAway rfl rfl rfl (by decide +kernel) ⟨Nat.le_of_ble_eq_true rfl, Nat.le_of_ble_eq_true rfl⟩) (hal 2 i (show (i : Int) < S 5 0 0 by omega)) (by decide) rfl hK hG hS hA rfl hl.1 rfl (Nat.le_of_ble_eq_true rfl) dX4_reject_1 ⟨Nat.zero_le _, Nat.zero_le _⟩ (fun t9 H locs ht9 hB hS => ?_)
  have hG := hB.1; rw [ht9] at hG; clear hB ht9
  refine lv_aload_n hx hb dX4_reject_4 rfl (lv_at hl 1 rfl) ?_
  refine lv_dup hx hb dX4_reject_5 rfl ?_
  refine c_getV (Cn := RX2) (T := TX2) hx hb hts 2 hinX2 hown hK hG i 14 (hal 2 i (show (i : Int) < S 5 0 0 by omega)) (by decide) rfl (by decide) (hts (.fieldLink RX4 137 "LineEvents$Machine" "rejectedCount" "J") (by decide +kernel)) (cV_J (z := (su S 6 i 0 0) 22 i 0) rfl (rfl)) dX4_reject_6 ?_
  refine lv_lconst (v := zL 1) hx hb dX4_reject_9 (by decide) ?_
  refine z_ladd hx hb dX4_reject_10 ?_
  refine c_putV (Cn := RX2) (T := TX2) (z := ((su S 6 i 0 0) 22 i 0) + 1) hx hb hts 2 hinX2 tyX2 tyX2_ok nmX2 hown hK hG hS i 14 (hal 2 i (show (i : Int) < S 5 0 0 by omega)) (by decide) rfl (by decide) (hts (.fieldLink RX4 137 "LineEvents$Machine" "rejectedCount" "J") (by decide +kernel)) (Or.inl rfl) (cV_J (z := ((su S 6 i 0 0) 22 i 0) + 1) rfl rfl) rfl rfl dX4_reject_11 (fun H locs hG hS => ?_)
  refine lv_aload_n hx hb dX4_reject_14 rfl (lv_at hl 0 rfl) ?_
  refine lv_aload_n hx hb dX4_reject_15 rfl (lv_at hl 1 rfl) ?_
  refine lv_iconst (v := zI 2) hx hb dX4_reject_16 rfl ?_
  have e8 : su (cC (su S 6 i 0 0) E rt) 2 i 14 (((su S 6 i 0 0) 22 i 0) + 1) = cC (su (su S 6 i 0 0) 22 i 0 ((su S 6 i 0 0) 22 i 0 + 1)) E rt := by rw [cC_22]
  rw [e8] at hG; clear e8
  refine c_callV (As := [.ref (ad 2 i), .int (zI 2)]) (rest := []) (Cn := RX4) (T := TX4) ⟨hx, hb, hml, hown, hts⟩ 0 0 (m_X4_note l D cI cJ A ad al (su (su S 6 i 0 0) 22 i 0 ((su S 6 i 0 0) 22 i 0 + 1)) E rt (alS_eq (S := S) rfl (fun _ => rfl) rfl hal) i 2 hi he) (cwV 2 hts gX4_reject_X4_note rfl rfl rfl (by decide +kernel) ⟨Nat.le_of_ble_eq_true rfl, Nat.le_of_ble_eq_true rfl⟩) (hal 0 0 rfl) (by decide) rfl hK hG hS hA rfl hl.1 rfl (Nat.le_of_ble_eq_true rfl) dX4_reject_17 ⟨Nat.zero_le _, Nat.zero_le _⟩ (fun t9 H locs ht9 hB hS => ?_)
  have hG := hB.1; rw [ht9] at hG; clear hB ht9
  have e9 : cC (rnote (su (su S 6 i 0 0) 22 i 0 ((su S 6 i 0 0) 22 i 0 + 1)) i 2) E rt = cC (rnote (su (su S 6 i 0 0) 22 i 0 (S 22 i 0 + 1)) i 2) E rt := by rfl
  rw [e9] at hG
  exact W.vret hx hb hr (fun t ht hW => ⟨rfl, ⟨by rw [ht]; exact hG, va_K.moved hW.alike hK, fun q hq => hA q (Nat.le_trans hS.1 (by rw [← ht]; exact hq))⟩, hS.F ht⟩) hS.2.2 dX4_reject_20
set_option maxHeartbeats 4000000 in
set_option maxRecDepth 100000 in
theorem m_X4_leave (l : Launch) (D : va_G) (cI cJ : ClassId) (A : Nat → Prop) (ad : Nat → Nat → Nat) (al : Nat → Nat → Prop) (S : sT) (E : Nat → Int) (rt : Int) (hal : alS al S) (i : Nat) (hI : Inv S) (hi : (i : Int) < S 5 0 0) (he : 0 ≤ S 30 0 0 ∧ S 30 0 0 < 2147483647) : Met l yX4_leave wsX4_leave ({ frames := 1, cells := 0, slots := 0, locals := 23 }) (va_Pc [.ref (ad 0 0), .ref (ad 2 i)] (gCU D cI cJ A ad al (cC S E rt))) (gO none (gCU D cI cJ A ad al (cC (rleave S i) E rt)) A) 0 0 A := by
  refine Met.ofW (cc := cX4_leave) (maxL := 2) (ret := none) (by decide) rfl ?_
  intro p e s m0 args below meth c s₁ B hml hv
  obtain ⟨rfl, hG, hK, hA⟩ := hv
  have hx := B.exec
  have hb := B.bytes
  have hr := B.returns
  have hts := atoms_spec (ws := wsX4_leave) B.pre
  have hown : s.vm.findClass RX4 = some m0.cls := findClass_of_methodNamed B.named
  have hlocks := B.notSynchronized
  have hinX0 : ∀ w ∈ wsX00, w ∈ wsX4_leave := by decide +kernel
  have hinX2 : ∀ w ∈ wsX20, w ∈ wsX4_leave := by decide +kernel
  have hinX4 : ∀ w ∈ wsX40, w ∈ wsX4_leave := by decide +kernel
  have hS : va_S A s.heap s.heap [] := va_S.rf
  have hl := lv_entry ([.ref (ad 0 0), .ref (ad 2 i)]) (n := 2) (Nat.le_of_ble_eq_true rfl)
  rw [lg_entry_eq]
  generalize (lg_sl ([.ref (ad 0 0), .ref (ad 2 i)]) ++ List.replicate (2 - (lg_sl ([.ref (ad 0 0), .ref (ad 2 i)])).length) Slot.unset).toArray = ls at hl ⊢
  replace hl : lv_has ls 2 [(0, .ref (ad 0 0)), (1, .ref (ad 2 i))] := hl
  obtain ⟨hI5, hI25, hI20, hIM, hIL, hIR⟩ := id hI
  obtain ⟨hM6, hM7, hM8, hM10, hM11, hM15, hM9, hMf⟩ := id (hIM i (by omega))
  obtain ⟨hL0, hL1, hL2, hL3, hL4⟩ := id (hIL i hi)
  refine lv_aload_n hx hb dX4_leave_0 rfl (lv_at hl 1 rfl) ?_
  refine c_getV (Cn := RX2) (T := TX2) hx hb hts 2 hinX2 hown hK hG i 5 (hal 2 i (show (i : Int) < S 5 0 0 by omega)) (by decide) rfl (by decide) (hts (.fieldLink RX4 21 "LineEvents$Machine" "followed" "Z") (by decide +kernel)) (cV_I (z := bZ (¬ S 2 i 0 = -1)) rfl (rfl)) dX4_leave_1 ?_
  refine z_ifb_ne (tgt := 20) hx hb dX4_leave_4 (by decide) (fun c_1 => ?_) (fun c_1 => ?_)
  · refine lv_aload_n hx hb dX4_leave_20 rfl (lv_at hl 1 rfl) ?_
    refine c_getV (Cn := RX2) (T := TX2) hx hb hts 2 hinX2 hown hK hG i 4 (hal 2 i (show (i : Int) < S 5 0 0 by omega)) (by decide) rfl (by decide) (hts (.fieldLink RX4 48 "LineEvents$Machine" "behind" "LLineEvents$Buffer;") (by decide +kernel)) (cV_R (t := 3) (j := i) rfl (rfl)) dX4_leave_21 ?_
    refine c_callV (As := []) (rest := []) (Cn := RX0) (T := TX0) ⟨hx, hb, hml, hown, hts⟩ 3 i (m_X0_hasRoom l D cI cJ A ad al S E rt hal i hI hi) (cwV 0 hts gX4_leave_X0_hasRoom rfl rfl rfl (by decide +kernel) ⟨Nat.le_of_ble_eq_true rfl, Nat.le_of_ble_eq_true rfl⟩) (hal 3 i (show (i : Int) < S 5 0 0 by omega)) (by decide) rfl hK hG hS hA rfl hl.1 rfl (Nat.le_of_ble_eq_true rfl) dX4_leave_24 ⟨Nat.zero_le _, Nat.zero_le _⟩ (fun t9 H locs ht9 hB hS => ?_)
    have hG := hB.1; rw [ht9] at hG; clear hB ht9
    refine z_ifb_eq (tgt := 44) hx hb dX4_leave_27 (by decide) (fun c_2 => ?_) (fun c_2 => ?_)
    · have e9 : cC S E rt = cC (rleave S i) E rt := by unfold rleave; first | rw [if_pos (by omega)] | (rw [if_neg (by omega), if_pos (by omega)]; rfl) | rw [if_neg (by omega), if_neg (by omega)]
      rw [e9] at hG
      exact W.vret hx hb hr (fun t ht hW => ⟨rfl, ⟨by rw [ht]; exact hG, va_K.moved hW.alike hK, fun q hq => hA q (Nat.le_trans hS.1 (by rw [← ht]; exact hq))⟩, hS.F ht⟩) hS.2.2 dX4_leave_44
    · refine lv_aload_n hx hb dX4_leave_30 rfl (lv_at hl 1 rfl) ?_
      refine c_getV (Cn := RX2) (T := TX2) hx hb hts 2 hinX2 hown hK hG i 4 (hal 2 i (show (i : Int) < S 5 0 0 by omega)) (by decide) rfl (by decide) (hts (.fieldLink RX4 48 "LineEvents$Machine" "behind" "LLineEvents$Buffer;") (by decide +kernel)) (cV_R (t := 3) (j := i) rfl (rfl)) dX4_leave_31 ?_
      refine lv_aload_n hx hb dX4_leave_34 rfl (lv_at hl 0 rfl) ?_
      refine c_getV (Cn := RX4) (T := TX4) hx hb hts 0 hinX4 hown hK hG 0 1 (hal 0 0 rfl) (by decide) rfl (by decide) (hts (.fieldLink RX4 27 "LineEvents" "now" "I") (by decide +kernel)) (cV_I (z := S 25 0 0) rfl (rfl)) dX4_leave_35 ?_
      refine c_callV (As := [.int (zI (S 25 0 0))]) (rest := []) (Cn := RX0) (T := TX0) ⟨hx, hb, hml, hown, hts⟩ 3 i (m_X0_add l D cI cJ A ad al S E rt hal i (S 25 0 0) hI hi) (cwV 1 hts gX4_leave_X0_add rfl rfl rfl (by decide +kernel) ⟨Nat.le_of_ble_eq_true rfl, Nat.le_of_ble_eq_true rfl⟩) (hal 3 i (show (i : Int) < S 5 0 0 by omega)) (by decide) rfl hK hG hS hA rfl hl.1 rfl (Nat.le_of_ble_eq_true rfl) dX4_leave_38 ⟨Nat.zero_le _, Nat.zero_le _⟩ (fun t9 H locs ht9 hB hS => ?_)
      have hG := hB.1; rw [ht9] at hG; clear hB ht9
      have hI2 : Inv (radd S i (S 25 0 0)) := Inv_11 (Inv_9 hI (by omega)) (by omega)
      refine lv_goto (tgt := 45) hx hb dX4_leave_41 (by decide) ?_
      refine lv_aload_n hx hb dX4_leave_45 rfl (lv_at hl 1 rfl) ?_
      refine c_callV (As := []) (rest := []) (Cn := RX2) (T := TX2) ⟨hx, hb, hml, hown, hts⟩ 2 i (m_X2_putAway l D cI cJ A ad al (radd S i (S 25 0 0)) E rt (alS_eq (S := S) rfl (fun _ => rfl) rfl hal) i hI2 hi) (cwV 0 hts gX4_leave_X2_putAway rfl rfl rfl (by decide +kernel) ⟨Nat.le_of_ble_eq_true rfl, Nat.le_of_ble_eq_true rfl⟩) (hal 2 i (show (i : Int) < S 5 0 0 by omega)) (by decide) rfl hK hG hS hA rfl hl.1 rfl (Nat.le_of_ble_eq_true rfl) dX4_leave_46 ⟨Nat.zero_le _, Nat.zero_le _⟩ (fun t9 H locs ht9 hB hS => ?_)
      have hG := hB.1; rw [ht9] at hG; clear hB ht9
      refine lv_aload_n hx hb dX4_leave_49 rfl (lv_at hl 0 rfl) ?_
      refine lv_aload_n hx hb dX4_leave_50 rfl (lv_at hl 1 rfl) ?_
      refine lv_iconst (v := zI 1) hx hb dX4_leave_51 rfl ?_
      refine c_callV (As := [.ref (ad 2 i), .int (zI 1)]) (rest := []) (Cn := RX4) (T := TX4) ⟨hx, hb, hml, hown, hts⟩ 0 0 (m_X4_note l D cI cJ A ad al (su (radd S i (S 25 0 0)) 6 i 0 0) E rt (alS_eq (S := S) rfl (fun _ => rfl) rfl hal) i 1 hi he) (cwV 2 hts gX4_leave_X4_note rfl rfl rfl (by decide +kernel) ⟨Nat.le_of_ble_eq_true rfl, Nat.le_of_ble_eq_true rfl⟩) (hal 0 0 rfl) (by decide) rfl hK hG hS hA rfl hl.1 rfl (Nat.le_of_ble_eq_true rfl) dX4_leave_52 ⟨Nat.zero_le _, Nat.zero_le _⟩ (fun t9 H locs ht9 hB hS => ?_)
      have hG := hB.1; rw [ht9] at hG; clear hB ht9
      have e9 : cC (rnote (su (radd S i (S 25 0 0)) 6 i 0 0) i 1) E rt = cC (rleave S i) E rt := by unfold rleave; first | rw [if_pos (by omega)] | (rw [if_neg (by omega), if_pos (by omega)]; rfl) | rw [if_neg (by omega), if_neg (by omega)]
      rw [e9] at hG
      exact W.vret hx hb hr (fun t ht hW => ⟨rfl, ⟨by rw [ht]; exact hG, va_K.moved hW.alike hK, fun q hq => hA q (Nat.le_trans hS.1 (by rw [← ht]; exact hq))⟩, hS.F ht⟩) hS.2.2 dX4_leave_55
  · refine lv_aload_n hx hb dX4_leave_7 rfl (lv_at hl 0 rfl) ?_
    refine lv_dup hx hb dX4_leave_8 rfl ?_
    refine c_getV (Cn := RX4) (T := TX4) hx hb hts 0 hinX4 hown hK hG 0 10 (hal 0 0 rfl) (by decide) rfl (by decide) (hts (.fieldLink RX4 109 "LineEvents" "madeCount" "J") (by decide +kernel)) (cV_J (z := S 24 0 0) rfl (rfl)) dX4_leave_9 ?_
    refine lv_lconst (v := zL 1) hx hb dX4_leave_12 (by decide) ?_
    refine z_ladd hx hb dX4_leave_13 ?_
    refine c_putV (Cn := RX4) (T := TX4) (z := (S 24 0 0) + 1) hx hb hts 0 hinX4 tyX4 tyX4_ok nmX4 hown hK hG hS 0 10 (hal 0 0 rfl) (by decide) rfl (by decide) (hts (.fieldLink RX4 109 "LineEvents" "madeCount" "J") (by decide +kernel)) (Or.inl rfl) (cV_J (z := (S 24 0 0) + 1) rfl rfl) rfl rfl dX4_leave_14 (fun H locs hG hS => ?_)
    refine lv_goto (tgt := 45) hx hb dX4_leave_17 (by decide) ?_
    refine lv_aload_n hx hb dX4_leave_45 rfl (lv_at hl 1 rfl) ?_
    have e8 : su (cC S E rt) 0 0 10 ((S 24 0 0) + 1) = cC (su S 24 0 0 (S 24 0 0 + 1)) E rt := by rw [cC_24]
    rw [e8] at hG; clear e8
    refine c_callV (As := []) (rest := []) (Cn := RX2) (T := TX2) ⟨hx, hb, hml, hown, hts⟩ 2 i (m_X2_putAway l D cI cJ A ad al (su S 24 0 0 (S 24 0 0 + 1)) E rt (alS_eq (S := S) rfl (fun _ => rfl) rfl hal) i (show Inv (su S 24 0 0 _) from hI) hi) (cwV 0 hts gX4_leave_X2_putAway rfl rfl rfl (by decide +kernel) ⟨Nat.le_of_ble_eq_true rfl, Nat.le_of_ble_eq_true rfl⟩) (hal 2 i (show (i : Int) < S 5 0 0 by omega)) (by decide) rfl hK hG hS hA rfl hl.1 rfl (Nat.le_of_ble_eq_true rfl) dX4_leave_46 ⟨Nat.zero_le _, Nat.zero_le _⟩ (fun t9 H locs ht9 hB hS => ?_)
    have hG := hB.1; rw [ht9] at hG; clear hB ht9
    refine lv_aload_n hx hb dX4_leave_49 rfl (lv_at hl 0 rfl) ?_
    refine lv_aload_n hx hb dX4_leave_50 rfl (lv_at hl 1 rfl) ?_
    refine lv_iconst (v := zI 1) hx hb dX4_leave_51 rfl ?_
    refine c_callV (As := [.ref (ad 2 i), .int (zI 1)]) (rest := []) (Cn := RX4) (T := TX4) ⟨hx, hb, hml, hown, hts⟩ 0 0 (m_X4_note l D cI cJ A ad al (su (su S 24 0 0 (S 24 0 0 + 1)) 6 i 0 0) E rt (alS_eq (S := S) rfl (fun _ => rfl) rfl hal) i 1 hi he) (cwV 2 hts gX4_leave_X4_note rfl rfl rfl (by decide +kernel) ⟨Nat.le_of_ble_eq_true rfl, Nat.le_of_ble_eq_true rfl⟩) (hal 0 0 rfl) (by decide) rfl hK hG hS hA rfl hl.1 rfl (Nat.le_of_ble_eq_true rfl) dX4_leave_52 ⟨Nat.zero_le _, Nat.zero_le _⟩ (fun t9 H locs ht9 hB hS => ?_)
    have hG := hB.1; rw [ht9] at hG; clear hB ht9
    have e9 : cC (rnote (su (su S 24 0 0 (S 24 0 0 + 1)) 6 i 0 0) i 1) E rt = cC (rleave S i) E rt := by unfold rleave; first | rw [if_pos (by omega)] | (rw [if_neg (by omega), if_pos (by omega)]; rfl) | rw [if_neg (by omega), if_neg (by omega)]
    rw [e9] at hG
    exact W.vret hx hb hr (fun t ht hW => ⟨rfl, ⟨by rw [ht]; exact hG, va_K.moved hW.alike hK, fun q hq => hA q (Nat.le_trans hS.1 (by rw [← ht]; exact hq))⟩, hS.F ht⟩) hS.2.2 dX4_leave_55
set_option maxHeartbeats 4000000 in
set_option maxRecDepth 100000 in
theorem m_X4_take (l : Launch) (D : va_G) (cI cJ : ClassId) (A : Nat → Prop) (ad : Nat → Nat → Nat) (al : Nat → Nat → Prop) (S : sT) (E : Nat → Int) (rt : Int) (hal : alS al S) (i : Nat) (hI : Inv S) (hi : (i : Int) < S 5 0 0) (he : 0 ≤ S 30 0 0 ∧ S 30 0 0 < 2147483647) (h60 : S 6 i 0 = 0) : Met l yX4_take wsX4_take ({ frames := 3, cells := 0, slots := 0, locals := 62 }) (va_Pc [.ref (ad 0 0), .ref (ad 2 i)] (gCU D cI cJ A ad al (cC S E rt))) (gO none (gCU D cI cJ A ad al (cC (rtake S i) E rt)) A) 0 0 A := by
  refine Met.ofW (cc := cX4_take) (maxL := 2) (ret := none) (by decide) rfl ?_
  intro p e s m0 args below meth c s₁ B hml hv
  obtain ⟨rfl, hG, hK, hA⟩ := hv
  have hx := B.exec
  have hb := B.bytes
  have hr := B.returns
  have hts := atoms_spec (ws := wsX4_take) B.pre
  have hown : s.vm.findClass RX4 = some m0.cls := findClass_of_methodNamed B.named
  have hlocks := B.notSynchronized
  have hinX0 : ∀ w ∈ wsX00, w ∈ wsX4_take := by decide +kernel
  have hinX2 : ∀ w ∈ wsX20, w ∈ wsX4_take := by decide +kernel
  have hinX4 : ∀ w ∈ wsX40, w ∈ wsX4_take := by decide +kernel
  have hS : va_S A s.heap s.heap [] := va_S.rf
  have hl := lv_entry ([.ref (ad 0 0), .ref (ad 2 i)]) (n := 2) (Nat.le_of_ble_eq_true rfl)
  rw [lg_entry_eq]
  generalize (lg_sl ([.ref (ad 0 0), .ref (ad 2 i)]) ++ List.replicate (2 - (lg_sl ([.ref (ad 0 0), .ref (ad 2 i)])).length) Slot.unset).toArray = ls at hl ⊢
  replace hl : lv_has ls 2 [(0, .ref (ad 0 0)), (1, .ref (ad 2 i))] := hl
  obtain ⟨hI5, hI25, hI20, hIM, hIL, hIR⟩ := id hI
  obtain ⟨hM6, hM7, hM8, hM10, hM11, hM15, hM9, hMf⟩ := id (hIM i (by omega))
  obtain ⟨hL0, hL1, hL2, hL3, hL4⟩ := id (hIL i hi)
  refine lv_aload_n hx hb dX4_take_0 rfl (lv_at hl 1 rfl) ?_
  refine c_getV (Cn := RX2) (T := TX2) hx hb hts 2 hinX2 hown hK hG i 3 (hal 2 i (show (i : Int) < S 5 0 0 by omega)) (by decide) rfl (by decide) (hts (.fieldLink RX4 256 "LineEvents$Machine" "before" "LLineEvents$Buffer;") (by decide +kernel)) (cV_F (t := 3) (z := S 1 i 0) rfl (rfl)) dX4_take_1 ?_
  refine z_ifnonnull (ad := ad) (t := 3) (tgt := 20) hx hb dX4_take_4 (by decide) (fun c_1 => ?_) (fun c_1 => ?_)
  · obtain ⟨b, hb9⟩ : ∃ b : Nat, S 1 i 0 = (b : Int) := ⟨(S 1 i 0).toNat, by omega⟩
    have hbn : (b : Int) < S 5 0 0 := by omega
    obtain ⟨hB6, hB7, hB8, hB10, hB11, hB15, hB9, hBf⟩ := id (hIM b (by omega))
    obtain ⟨hC0, hC1, hC2, hC3, hC4⟩ := id (hIL b hbn)
    have hq9 := hB9 (S 10 b 0).toNat (by omega)
    have hrd : (0 < S 11 b 0 ∧ rready S b ≤ S 25 0 0) ↔ ¬ (S 25 0 0 ≤ rat S b ∨ S 25 0 0 - rat S b < S 4 b 0) := by unfold rready rat; by_cases h0 : S 11 b 0 = 0 <;> simp only [h0, if_true, if_false] <;> (try rw [if_pos (by omega)]) <;> omega
    refine lv_aload_n hx hb dX4_take_20 rfl (lv_at hl 1 rfl) ?_
    refine c_getV (Cn := RX2) (T := TX2) hx hb hts 2 hinX2 hown hK hG i 3 (hal 2 i (show (i : Int) < S 5 0 0 by omega)) (by decide) rfl (by decide) (hts (.fieldLink RX4 256 "LineEvents$Machine" "before" "LLineEvents$Buffer;") (by decide +kernel)) (cV_R (t := 3) (j := b) rfl (hb9)) dX4_take_21 ?_
    refine lv_aload_n hx hb dX4_take_24 rfl (lv_at hl 0 rfl) ?_
    refine c_getV (Cn := RX4) (T := TX4) hx hb hts 0 hinX4 hown hK hG 0 1 (hal 0 0 rfl) (by decide) rfl (by decide) (hts (.fieldLink RX4 27 "LineEvents" "now" "I") (by decide +kernel)) (cV_I (z := S 25 0 0) rfl (rfl)) dX4_take_25 ?_
    refine c_callV (As := [.int (zI (S 25 0 0))]) (rest := []) (Cn := RX0) (T := TX0) ⟨hx, hb, hml, hown, hts⟩ 3 b (m_X0_isReady l D cI cJ A ad al S E rt hal b (S 25 0 0) hI hbn ⟨by omega, by omega⟩) (cwV 1 hts gX4_take_X0_isReady rfl rfl rfl (by decide +kernel) ⟨Nat.le_of_ble_eq_true rfl, Nat.le_of_ble_eq_true rfl⟩) (hal 3 b (show (b : Int) < S 5 0 0 by omega)) (by decide) rfl hK hG hS hA rfl hl.1 rfl (Nat.le_of_ble_eq_true rfl) dX4_take_28 ⟨Nat.zero_le _, Nat.zero_le _⟩ (fun t9 H locs ht9 hB hS => ?_)
    have hG := hB.1; rw [ht9] at hG; clear hB ht9
    refine z_ifb_eq (tgt := 44) hx hb dX4_take_31 (by decide) (fun c_2 => ?_) (fun c_2 => ?_)
    · have e9 : cC S E rt = cC (rtake S i) E rt := by unfold rtake; rw [if_neg (by omega), hb9]; simp only [Int.toNat_natCast]; rw [if_pos (Classical.byContradiction fun q => absurd (hrd.mpr q) (by assumption))]
      rw [e9] at hG
      exact W.vret hx hb hr (fun t ht hW => ⟨rfl, ⟨by rw [ht]; exact hG, va_K.moved hW.alike hK, fun q hq => hA q (Nat.le_trans hS.1 (by rw [← ht]; exact hq))⟩, hS.F ht⟩) hS.2.2 dX4_take_44
    · refine lv_aload_n hx hb dX4_take_34 rfl (lv_at hl 1 rfl) ?_
      refine c_getV (Cn := RX2) (T := TX2) hx hb hts 2 hinX2 hown hK hG i 3 (hal 2 i (show (i : Int) < S 5 0 0 by omega)) (by decide) rfl (by decide) (hts (.fieldLink RX4 256 "LineEvents$Machine" "before" "LLineEvents$Buffer;") (by decide +kernel)) (cV_R (t := 3) (j := b) rfl (hb9)) dX4_take_35 ?_
      refine c_callV (As := []) (rest := []) (Cn := RX0) (T := TX0) ⟨hx, hb, hml, hown, hts⟩ 3 b (m_X0_removeFirst l D cI cJ A ad al S E rt hal b hI hbn) (cwV 0 hts gX4_take_X0_removeFirst rfl rfl rfl (by decide +kernel) ⟨Nat.le_of_ble_eq_true rfl, Nat.le_of_ble_eq_true rfl⟩) (hal 3 b (show (b : Int) < S 5 0 0 by omega)) (by decide) rfl hK hG hS hA rfl hl.1 rfl (Nat.le_of_ble_eq_true rfl) dX4_take_38 ⟨Nat.zero_le _, Nat.zero_le _⟩ (fun t9 H locs ht9 hB hS => ?_)
      have hG := hB.1; rw [ht9] at hG; clear hB ht9
      refine lv_goto (tgt := 45) hx hb dX4_take_41 (by decide) ?_
      refine lv_aload_n hx hb dX4_take_45 rfl (lv_at hl 1 rfl) ?_
      refine lv_iconst (v := zI 1) hx hb dX4_take_46 rfl ?_
      refine c_putV (Cn := RX2) (T := TX2) (z := 1) hx hb hts 2 hinX2 tyX2 tyX2_ok nmX2 hown hK hG hS i 11 (hal 2 i (show (i : Int) < S 5 0 0 by omega)) (by decide) rfl (by decide) (hts (.fieldLink RX4 115 "LineEvents$Machine" "hasBottle" "Z") (by decide +kernel)) (Or.inl rfl) (cV_I (z := 1) rfl rfl) (by decide +kernel) rfl dX4_take_47 (fun H locs hG hS => ?_)
      refine lv_aload_n hx hb dX4_take_50 rfl (lv_at hl 0 rfl) ?_
      refine lv_aload_n hx hb dX4_take_51 rfl (lv_at hl 1 rfl) ?_
      refine lv_iconst (v := zI 0) hx hb dX4_take_52 rfl ?_
      have e8 : su (cC (rpop S b) E rt) 2 i 11 (1) = cC (su (su (rpop S b) 6 i 0 1) 7 i 0 0) E rt := by rw [cC_tk _ _ _ _ (show rpop S b 6 i 0 = 0 from h60)]
      rw [e8] at hG; clear e8
      refine c_callV (As := [.ref (ad 2 i), .int (zI 0)]) (rest := []) (Cn := RX4) (T := TX4) ⟨hx, hb, hml, hown, hts⟩ 0 0 (m_X4_note l D cI cJ A ad al (su (su (rpop S b) 6 i 0 1) 7 i 0 0) E rt (alS_eq (S := S) rfl (fun _ => rfl) rfl hal) i 0 hi he) (cwV 2 hts gX4_take_X4_note rfl rfl rfl (by decide +kernel) ⟨Nat.le_of_ble_eq_true rfl, Nat.le_of_ble_eq_true rfl⟩) (hal 0 0 rfl) (by decide) rfl hK hG hS hA rfl hl.1 rfl (Nat.le_of_ble_eq_true rfl) dX4_take_53 ⟨Nat.zero_le _, Nat.zero_le _⟩ (fun t9 H locs ht9 hB hS => ?_)
      have hG := hB.1; rw [ht9] at hG; clear hB ht9
      have e9 : cC (rnote (su (su (rpop S b) 6 i 0 1) 7 i 0 0) i 0) E rt = cC (rtake S i) E rt := by unfold rtake; rw [if_neg (by omega), hb9]; simp only [Int.toNat_natCast]; rw [if_neg (hrd.mp (by assumption))]; rfl
      rw [e9] at hG
      exact W.vret hx hb hr (fun t ht hW => ⟨rfl, ⟨by rw [ht]; exact hG, va_K.moved hW.alike hK, fun q hq => hA q (Nat.le_trans hS.1 (by rw [← ht]; exact hq))⟩, hS.F ht⟩) hS.2.2 dX4_take_56
  · have hb1 : S 1 i 0 = -1 := by omega
    refine lv_aload_n hx hb dX4_take_7 rfl (lv_at hl 0 rfl) ?_
    refine lv_dup hx hb dX4_take_8 rfl ?_
    refine c_getV (Cn := RX4) (T := TX4) hx hb hts 0 hinX4 hown hK hG 0 9 (hal 0 0 rfl) (by decide) rfl (by decide) (hts (.fieldLink RX4 148 "LineEvents" "begunCount" "J") (by decide +kernel)) (cV_J (z := S 23 0 0) rfl (rfl)) dX4_take_9 ?_
    refine lv_lconst (v := zL 1) hx hb dX4_take_12 (by decide) ?_
    refine z_ladd hx hb dX4_take_13 ?_
    refine c_putV (Cn := RX4) (T := TX4) (z := (S 23 0 0) + 1) hx hb hts 0 hinX4 tyX4 tyX4_ok nmX4 hown hK hG hS 0 9 (hal 0 0 rfl) (by decide) rfl (by decide) (hts (.fieldLink RX4 148 "LineEvents" "begunCount" "J") (by decide +kernel)) (Or.inl rfl) (cV_J (z := (S 23 0 0) + 1) rfl rfl) rfl rfl dX4_take_14 (fun H locs hG hS => ?_)
    refine lv_goto (tgt := 45) hx hb dX4_take_17 (by decide) ?_
    refine lv_aload_n hx hb dX4_take_45 rfl (lv_at hl 1 rfl) ?_
    refine lv_iconst (v := zI 1) hx hb dX4_take_46 rfl ?_
    refine c_putV (Cn := RX2) (T := TX2) (z := 1) hx hb hts 2 hinX2 tyX2 tyX2_ok nmX2 hown hK hG hS i 11 (hal 2 i (show (i : Int) < S 5 0 0 by omega)) (by decide) rfl (by decide) (hts (.fieldLink RX4 115 "LineEvents$Machine" "hasBottle" "Z") (by decide +kernel)) (Or.inl rfl) (cV_I (z := 1) rfl rfl) (by decide +kernel) rfl dX4_take_47 (fun H locs hG hS => ?_)
    refine lv_aload_n hx hb dX4_take_50 rfl (lv_at hl 0 rfl) ?_
    refine lv_aload_n hx hb dX4_take_51 rfl (lv_at hl 1 rfl) ?_
    refine lv_iconst (v := zI 0) hx hb dX4_take_52 rfl ?_
    have e8 : su (su (cC S E rt) 0 0 9 ((S 23 0 0) + 1)) 2 i 11 (1) = cC (su (su (su S 23 0 0 (S 23 0 0 + 1)) 6 i 0 1) 7 i 0 0) E rt := by rw [cC_tk _ _ _ _ (show su S 23 0 0 (S 23 0 0 + 1) 6 i 0 = 0 from h60), cC_23]
    rw [e8] at hG; clear e8
    refine c_callV (As := [.ref (ad 2 i), .int (zI 0)]) (rest := []) (Cn := RX4) (T := TX4) ⟨hx, hb, hml, hown, hts⟩ 0 0 (m_X4_note l D cI cJ A ad al (su (su (su S 23 0 0 (S 23 0 0 + 1)) 6 i 0 1) 7 i 0 0) E rt (alS_eq (S := S) rfl (fun _ => rfl) rfl hal) i 0 hi he) (cwV 2 hts gX4_take_X4_note rfl rfl rfl (by decide +kernel) ⟨Nat.le_of_ble_eq_true rfl, Nat.le_of_ble_eq_true rfl⟩) (hal 0 0 rfl) (by decide) rfl hK hG hS hA rfl hl.1 rfl (Nat.le_of_ble_eq_true rfl) dX4_take_53 ⟨Nat.zero_le _, Nat.zero_le _⟩ (fun t9 H locs ht9 hB hS => ?_)
    have hG := hB.1; rw [ht9] at hG; clear hB ht9
    have e9 : cC (rnote (su (su (su S 23 0 0 (S 23 0 0 + 1)) 6 i 0 1) 7 i 0 0) i 0) E rt = cC (rtake S i) E rt := by unfold rtake; rw [if_pos hb1]
    rw [e9] at hG
    exact W.vret hx hb hr (fun t ht hW => ⟨rfl, ⟨by rw [ht]; exact hG, va_K.moved hW.alike hK, fun q hq => hA q (Nat.le_trans hS.1 (by rw [← ht]; exact hq))⟩, hS.F ht⟩) hS.2.2 dX4_take_56
end
section
/-! Pure rows for the class's act -/
theorem su_su (S : sT) (v i j : Nat) (z w : Int) : su (su S v i j z) v i j w = su S v i j w := by
  funext a b d; unfold su; split <;> simp_all
theorem rhl_eq {S T : sT} (m : Nat) (h : ∀ v k, v ∈ [16, 17, 18, 19] → T v k 0 = S v k 0) (h25 : T 25 0 0 = S 25 0 0) : ∀ n k, rhl T m n k = rhl S m n k
  | 0, _ => rfl
  | n + 1, k => by
    unfold rhl
    rw [h 16 k (by decide), h 17 k (by decide), h 18 k (by decide), h 19 k (by decide), h25, rhl_eq m h h25 n (k + 1)]
theorem rheld_eq {S T : sT} (m : Nat) (h : ∀ v k, v ∈ [16, 17, 18, 19] → T v k 0 = S v k 0) (h25 : T 25 0 0 = S 25 0 0) (h20 : T 20 0 0 = S 20 0 0) : rheld T m = rheld S m := by
  unfold rheld; rw [h20, rhl_eq m h h25]
theorem act_held {S : sT} (m j : Nat) : rheld (ract S m) j = rheld S j :=
  rheld_eq j (fun v k hv => act_v (by simp only [List.mem_cons, List.not_mem_nil, or_false] at hv ⊢; omega)) (act_v (by decide)) (act_v (by decide))
/-- bottles and their work -/
def InvC (S : sT) : Prop := ∀ i : Nat, (i : Int) < S 5 0 0 → (¬ S 6 i 0 = 0 → 0 ≤ S 7 i 0 ∧ S 7 i 0 ≤ S 0 i 0) ∧ (S 6 i 0 = 2 → S 7 i 0 = S 0 i 0) ∧ (S 25 0 0 < S 8 i 0 → S 6 i 0 = 2)
theorem judge_6 {S : sT} {m i : Nat} : (rjudge S m).1 6 i 0 = S 6 i 0 ∨ (i = m ∧ ((rjudge S m).1 6 i 0 = 0 ∨ (rjudge S m).1 6 i 0 = 2)) := by
  have e : (rjl m (S 15 m 0).toNat 0 (su S 6 m 0 2) 0).1 6 i 0 = if i = m then 2 else S 6 i 0 := (rjl_v m _ _ _ _ _ _ _ (by decide)).trans (su_0 S 6 m i 2)
  unfold rjudge rjfin
  split
  · dsimp only; rw [note_v (by decide), su_v (by decide), su_0, e]; by_cases h : i = m <;> simp [h]
  · split
    · dsimp only; rw [note_v (by decide), su_v (by decide), e]; by_cases h : i = m <;> simp [h]
    · dsimp only; rw [e]; by_cases h : i = m <;> simp [h]
theorem judge_8 {S : sT} {m i : Nat} (h : i ≠ m) : (rjudge S m).1 8 i 0 = S 8 i 0 := by
  have e : (rjl m (S 15 m 0).toNat 0 (su S 6 m 0 2) 0).1 8 i 0 = S 8 i 0 := (rjl_v m _ _ _ _ _ _ _ (by decide)).trans (su_v (by decide))
  unfold rjudge rjfin
  split
  · dsimp only; rw [note_v (by decide), su_v (by decide), su_v (by decide), e]
  · split
    · dsimp only; rw [note_v (by decide), su_i h, e]
    · exact e
/-- judge stands for a fault just when faultEnd is ahead -/
theorem judge_st {S : sT} {m : Nat} (h8 : S 8 m 0 ≤ S 25 0 0) : (S 25 0 0 < (rjudge S m).1 8 m 0 ↔ (rjudge S m).2 = true) ∧ ((rjudge S m).2 = true → (rjudge S m).1 6 m 0 = 2) := by
  have e8 : (rjl m (S 15 m 0).toNat 0 (su S 6 m 0 2) 0).1 8 m 0 = S 8 m 0 := (rjl_v m _ _ _ _ _ _ _ (by decide)).trans (su_v (by decide))
  have e25 : (rjl m (S 15 m 0).toNat 0 (su S 6 m 0 2) 0).1 25 0 0 = S 25 0 0 := (rjl_v m _ _ _ _ _ _ _ (by decide)).trans (su_v (by decide))
  have e6 : (rjl m (S 15 m 0).toNat 0 (su S 6 m 0 2) 0).1 6 m 0 = 2 := (rjl_v m _ _ _ _ _ _ _ (by decide)).trans (su_same _ _ _ _ _)
  unfold rjudge rjfin
  split
  · dsimp only; rw [note_v (by decide), su_v (by decide), su_v (by decide), e8]; simp; omega
  · split
    · dsimp only
      rw [note_v (by decide), su_same, note_v (by decide), su_v (by decide), e25, e6]
      constructor
      · constructor
        · intro _; rfl
        · intro _; omega
      · intro _; rfl
    · dsimp only; rw [e8]; simp; omega
theorem leave_6 {S : sT} {m i : Nat} : rleave S m 6 i 0 = S 6 i 0 ∨ (i = m ∧ rleave S m 6 i 0 = 0) := by
  unfold rleave
  split
  · rw [note_v (by decide), su_0]; by_cases h : i = m <;> simp [h, su]
  · split
    · rw [note_v (by decide), su_0]; by_cases h : i = m <;> simp [h, su]
    · exact Or.inl rfl
theorem take_67 {S : sT} {m i : Nat} : (rtake S m 6 i 0 = S 6 i 0 ∧ rtake S m 7 i 0 = S 7 i 0) ∨ (i = m ∧ rtake S m 6 i 0 = 1 ∧ rtake S m 7 i 0 = 0) := by
  unfold rtake
  split
  · rw [note_v (by decide), note_v (by decide), su_v (by decide), su_0, su_0]; by_cases h : i = m <;> simp [h, su]
  · split
    · exact Or.inl ⟨rfl, rfl⟩
    · rw [note_v (by decide), note_v (by decide), su_v (by decide), su_0, su_0]; by_cases h : i = m <;> simp [h, su]
theorem InvC_leave {S : sT} {m : Nat} (h : InvC S) (h8 : S 8 m 0 ≤ S 25 0 0) : InvC (rleave S m) := by
  intro i hi
  rw [leave_v (by decide)] at hi
  have h1 := h i hi
  rw [leave_v (v := 7) (by decide), leave_v (v := 0) (by decide), leave_v (v := 25) (by decide), leave_v (v := 8) (by decide)]
  rcases leave_6 (S := S) (m := m) (i := i) with e | ⟨rfl, e⟩
  · rw [e]; exact h1
  · rw [e]; refine ⟨fun q => absurd rfl q, fun q => by omega, fun q => by omega⟩
theorem InvC_take {S : sT} {m : Nat} (hI : Inv S) (h : InvC S) (h8 : S 8 m 0 ≤ S 25 0 0) : InvC (rtake S m) := by
  intro i hi
  rw [take_v (by decide)] at hi
  have h1 := h i hi
  have h0 := (hI.2.2.2.2.1 i hi).1
  rw [take_v (v := 0) (by decide), take_v (v := 25) (by decide), take_v (v := 8) (by decide)]
  rcases take_67 (S := S) (m := m) (i := i) with ⟨e1, e2⟩ | ⟨rfl, e1, e2⟩
  · rw [e1, e2]; exact h1
  · rw [e1, e2]; refine ⟨fun _ => by omega, fun q => by omega, fun q => by omega⟩
theorem InvC_judge {S : sT} {m : Nat} (h : InvC S) (hm : (m : Int) < S 5 0 0) (h6 : S 6 m 0 = 1) (h7 : S 7 m 0 = S 0 m 0) (h8 : S 8 m 0 ≤ S 25 0 0) : InvC (rjudge S m).1 := by
  intro i hi
  rw [judge_v (by decide)] at hi
  have h1 := h i hi
  have hs := judge_st (S := S) (m := m) h8
  rw [judge_v (v := 7) (by decide), judge_v (v := 0) (by decide), judge_v (v := 25) (by decide)]
  by_cases him : i = m
  · subst him
    have h2 := h1.1 (by omega)
    refine ⟨fun _ => h2, fun _ => h7, fun q => hs.2 (hs.1.mp q)⟩
  · rw [judge_8 him]
    rcases judge_6 (S := S) (m := m) (i := i) with e | ⟨q, -⟩
    · rw [e]; exact h1
    · exact absurd q him
theorem InvC_rll {S : sT} {m : Nat} (hI : Inv S) (h : InvC S) (hm : (m : Int) < S 5 0 0) (h8 : S 8 m 0 ≤ S 25 0 0) : InvC (rll S m) := by
  have key : ∀ T : sT, Inv T → InvC T → T 8 m 0 ≤ T 25 0 0 → InvC (rlt T m) := fun T h1 h2 h3 => by
    unfold rlt
    split
    · exact InvC_take h1 h2 h3
    · exact h2
  unfold rll
  split
  · exact key _ (leave_I hI hm) (InvC_leave h h8) (by rw [leave_v (by decide), leave_v (by decide)]; exact h8)
  · exact key _ hI h h8
theorem InvC_act {S : sT} {m : Nat} (hI : Inv S) (h : InvC S) (hm : (m : Int) < S 5 0 0) : InvC (ract S m) := by
  unfold ract
  split
  · rename_i hq
    unfold rjj
    split
    · rename_i h1
      have hj := InvC_judge h hm h1.1 h1.2 hq.2
      split
      · exact hj
      · rename_i h2
        have hs := judge_st (S := S) (m := m) hq.2
        refine InvC_rll (judge_I hI (by have := hI.1; omega)) hj (by rw [judge_v (by decide)]; exact hm) ?_
        rw [judge_v (v := 25) (by decide)]
        have := mt hs.1.mp h2
        omega
    · exact InvC_rll hI h hm hq.2
  · exact h
end
section
theorem rjl_s (m n k : Nat) (S : sT) (lg : Int) : rjl m (n + 1) k S lg = if rdv S (S 13 m k) < S 12 m k then (if S 14 m k = 0 then (rdraw S, lg, true) else rjl m n (k + 1) (rdraw S) (if lg < S 14 m k then S 14 m k else lg)) else rjl m n (k + 1) (rdraw S) lg := rfl
theorem rej_fin (i : Nat) (X : sT) (lg : Int) : (rjfin i (su X 6 i 0 2, lg, true)).1 = rnote (su (su X 6 i 0 0) 22 i 0 (X 22 i 0 + 1)) i 2 := by
  unfold rjfin
  rw [if_pos rfl]
  dsimp only
  rw [su_su, su_v (by decide)]
set_option maxHeartbeats 4000000 in
set_option maxRecDepth 100000 in
theorem m_X4_judge (l : Launch) (D : va_G) (cI cJ : ClassId) (A : Nat → Prop) (ad : Nat → Nat → Nat) (al : Nat → Nat → Prop) (S : sT) (E : Nat → Int) (rt : Int) (hal : alS al S) (i : Nat) (hI : Inv S) (hi : (i : Int) < S 5 0 0) (he : 0 ≤ S 30 0 0 ∧ S 30 0 0 < 2147483647) (h61 : S 6 i 0 = 1) : Met l yX4_judge wsX4_judge ({ frames := 2, cells := 0, slots := 0, locals := 44 }) (va_Pc [.ref (ad 0 0), .ref (ad 2 i)] (gCU D cI cJ A ad al (cC S E rt))) (gO none (gCU D cI cJ A ad al (cC ((rjudge S i).1) E rt)) A) 0 0 A := by
  refine Met.ofW (cc := cX4_judge) (maxL := 4) (ret := none) (by decide) rfl ?_
  intro p e s m0 args below meth c s₁ B hml hv
  obtain ⟨rfl, hG, hK, hA⟩ := hv
  have hx := B.exec
  have hb := B.bytes
  have hr := B.returns
  have hts := atoms_spec (ws := wsX4_judge) B.pre
  have hown : s.vm.findClass RX4 = some m0.cls := findClass_of_methodNamed B.named
  have hlocks := B.notSynchronized
  have hinX1 : ∀ w ∈ wsX10, w ∈ wsX4_judge := by decide +kernel
  have hinX2 : ∀ w ∈ wsX20, w ∈ wsX4_judge := by decide +kernel
  have hinX4 : ∀ w ∈ wsX40, w ∈ wsX4_judge := by decide +kernel
  have hS : va_S A s.heap s.heap [] := va_S.rf
  have hl := lv_entry ([.ref (ad 0 0), .ref (ad 2 i)]) (n := 4) (Nat.le_of_ble_eq_true rfl)
  rw [lg_entry_eq]
  generalize (lg_sl ([.ref (ad 0 0), .ref (ad 2 i)]) ++ List.replicate (4 - (lg_sl ([.ref (ad 0 0), .ref (ad 2 i)])).length) Slot.unset).toArray = ls at hl ⊢
  replace hl : lv_has ls 4 [(0, .ref (ad 0 0)), (1, .ref (ad 2 i))] := hl
  obtain ⟨hI5, hI25, hI20, hIM, hIL, hIR⟩ := id hI
  obtain ⟨hM6, hM7, hM8, hM10, hM11, hM15, hM9, hMf⟩ := id (hIM i (by omega))
  obtain ⟨hL0, hL1, hL2, hL3, hL4⟩ := id (hIL i hi)
  refine lv_iconst (v := zI 0) hx hb dX4_judge_0 rfl ?_
  refine lv_istore_n (lv' := [(2, .int (zI 0)), (0, .ref (ad 0 0)), (1, .ref (ad 2 i))]) hx hb dX4_judge_1 rfl hl (by decide) rfl (fun ls hl => ?_)
  obtain ⟨J0, hJ0⟩ : ∃ J, J = rjl i (S 15 i 0).toNat 0 S 0 := ⟨_, rfl⟩
  have hfin : rjudge S i = rjfin i (su J0.1 6 i 0 2, J0.2) := by unfold rjudge; rw [rjl_6, hJ0]
  rw [hfin]
  obtain ⟨T, hT0⟩ : ∃ T, T = S := ⟨S, rfl⟩
  have hTI : Inv T := by rw [hT0]; exact hI
  have hTi : (i : Int) < T 5 0 0 := by rw [hT0]; exact hi
  have hTe : 0 ≤ T 30 0 0 ∧ T 30 0 0 < 2147483647 := by rw [hT0]; exact he
  have halT : alS al T := by rw [hT0]; exact hal
  have hT15 : T 15 i 0 = S 15 i 0 := by rw [hT0]
  have hT6 : T 6 i 0 = 1 := by rw [hT0]; exact h61
  obtain ⟨lg, hlg0⟩ : ∃ z : Int, z = 0 := ⟨0, rfl⟩
  have hlg : 0 ≤ lg ∧ lg ≤ 100000 := by omega
  rw [← hT0] at hG
  obtain ⟨k, hk0⟩ : ∃ k : Nat, k = 0 := ⟨0, rfl⟩
  by_cases h15 : T 15 i 0 = 0
  · have hv9 : rjl i 0 k T lg = J0 := by rw [hJ0, ← hT15, h15, hT0, hk0, hlg0]; rfl
    refine lv_aload_n hx hb dX4_judge_2 rfl (lv_at hl 2 rfl) ?_
    refine c_getV (Cn := RX2) (T := TX2) hx hb hts 2 hinX2 hown hK hG i 6 (hal 2 i (show (i : Int) < S 5 0 0 by omega)) (by decide) rfl (by decide) (hts (.fieldLink RX4 213 "LineEvents$Machine" "firstFault" "LLineEvents$Fault;") (by decide +kernel)) (cV_N (t := 6) rfl (show (if T 15 i 0 = 0 then (-1 : Int) else 4 * (i : Int)) < 0 by rw [if_pos h15]; decide)) dX4_judge_3 ?_
    refine lv_astore_nN (lv' := [(3, .null), (2, .int (zI 0)), (0, .ref (ad 0 0)), (1, .ref (ad 2 i))]) hx hb dX4_judge_6 rfl hl (by decide) rfl (fun ls hl => ?_)
    refine lv_aload_nN hx hb dX4_judge_7 rfl (lv_at hl 0 rfl) ?_
    refine lv_ifnullN (tgt := 57) hx hb dX4_judge_8 (by decide) ?_
    have hvx : (T, lg, false) = J0 := hv9
    have hI25T := hTI.2.1
    refine lv_aload_n hx hb dX4_judge_57 rfl (lv_at hl 3 rfl) ?_
    refine lv_iconst (v := zI 1) hx hb dX4_judge_58 rfl ?_
    refine c_putV (Cn := RX2) (T := TX2) (z := 1) hx hb hts 2 hinX2 tyX2 tyX2_ok nmX2 hown hK hG hS i 13 (hal 2 i (show (i : Int) < S 5 0 0 by omega)) (by decide) rfl (by decide) (hts (.fieldLink RX4 201 "LineEvents$Machine" "judged" "Z") (by decide +kernel)) (Or.inl rfl) (cV_I (z := 1) rfl rfl) (by decide +kernel) rfl dX4_judge_59 (fun H locs hG hS => ?_)
    refine lv_iload_n hx hb dX4_judge_62 rfl (lv_at hl 1 rfl) ?_
    refine z_if_le (tgt := 82) hx hb dX4_judge_63 (by decide) ⟨by decide, by decide⟩ (fun _ => ?_) (fun q => absurd q (by decide))
    have e9 : su (cC T E rt) 2 i 13 (1) = cC (rjfin i (su J0.1 6 i 0 2, J0.2)).1 E rt := by rw [← hvx]; unfold rjfin; rw [if_neg Bool.false_ne_true, if_neg (show ¬ 0 < lg by omega)]; exact (cC_jd T E rt i hT6).symm
    rw [e9] at hG
    exact W.vret hx hb hr (fun t ht hW => ⟨rfl, ⟨by rw [ht]; exact hG, va_K.moved hW.alike hK, fun q hq => hA q (Nat.le_trans hS.1 (by rw [← ht]; exact hq))⟩, hS.F ht⟩) hS.2.2 dX4_judge_82
  · have hk4 : k < 4 := by omega
    refine lv_aload_n hx hb dX4_judge_2 rfl (lv_at hl 2 rfl) ?_
    refine c_getV (Cn := RX2) (T := TX2) hx hb hts 2 hinX2 hown hK hG i 6 (hal 2 i (show (i : Int) < S 5 0 0 by omega)) (by decide) rfl (by decide) (hts (.fieldLink RX4 213 "LineEvents$Machine" "firstFault" "LLineEvents$Fault;") (by decide +kernel)) (cV_R (t := 6) (j := (4 * i + k)) rfl ((if_neg (show ¬ T 15 i 0 = 0 from h15)).trans (by rw [hk0]; omega))) dX4_judge_3 ?_
    refine lv_astore_n (lv' := [(3, .ref (ad 6 (4 * i + k))), (2, .int (zI 0)), (0, .ref (ad 0 0)), (1, .ref (ad 2 i))]) hx hb dX4_judge_6 rfl hl (by decide) rfl (fun ls hl => ?_)
    replace hl : lv_has ls 4 [(3, .ref (ad 6 (4 * i + k))), (2, .int (zI lg)), (0, .ref (ad 0 0)), (1, .ref (ad 2 i))] := by rw [hlg0]; exact hl
    obtain ⟨n, hn⟩ : ∃ n : Nat, (k : Int) + n + 1 = T 15 i 0 := ⟨(T 15 i 0).toNat - 1, by omega⟩
    have hv9 : rjl i (n + 1) k T lg = J0 := by rw [hJ0, ← hT15, hk0, hlg0, hT0]; congr 1; rw [hT0] at hn; omega
    clear hJ0 hfin hT0 hlg0 hk0 h15
    obtain ⟨H, hH0⟩ : ∃ H : Heap, H = s.heap := ⟨_, rfl⟩
    obtain ⟨locs, hL0⟩ : ∃ L : List Loc, L = [] := ⟨_, rfl⟩
    rw [← hH0, ← hL0]
    rw [← hH0] at hG
    replace hS : va_S A s.heap H locs := by rw [hH0, hL0]; exact hS
    clear hH0 hL0
    induction n generalizing k ls T lg H locs with
    | zero =>
      obtain ⟨hI5, hI25, hI20, hIM, hIL, hIR⟩ := id hTI
      obtain ⟨hM6, hM7, hM8, hM10, hM11, hM15, hM9, hMf⟩ := id (hIM i (by omega))
      obtain ⟨hf12, hf13, hf14, hf1⟩ := hMf k hk4
      refine lv_aload_n hx hb dX4_judge_7 rfl (lv_at hl 0 rfl) ?_
      refine lv_ifnull hx hb dX4_judge_8 ?_
      refine lv_aload_n hx hb dX4_judge_11 rfl (lv_at hl 2 rfl) ?_
      refine lv_aload_n hx hb dX4_judge_12 rfl (lv_at hl 0 rfl) ?_
      refine c_getV (Cn := RX1) (T := TX1) hx hb hts 6 hinX1 hown hK hG (4 * i + k) 1 (hal 6 (4 * i + k) (cAl_f hi (show (k : Int) < S 15 i 0 by omega) hk4)) (by decide) rfl (by decide) (hts (.fieldLink RX4 217 "LineEvents$Fault" "below" "J") (by decide +kernel)) (cV_J (z := T 13 i k) rfl (cF_1 T E rt hk4)) dX4_judge_13 ?_
      refine c_callV (As := [.long (zL (T 13 i k))]) (rest := []) (Cn := RX4) (T := TX4) ⟨hx, hb, hml, hown, hts⟩ 0 0 (m_X4_draw l D cI cJ A ad al T E rt halT (T 13 i k) ⟨by omega, by omega⟩) (cwV 1 hts gX4_judge_X4_draw rfl rfl rfl (by decide +kernel) ⟨Nat.le_of_ble_eq_true rfl, Nat.le_of_ble_eq_true rfl⟩) (hal 0 0 rfl) (by decide) rfl hK hG hS hA rfl hl.1 rfl (Nat.le_of_ble_eq_true rfl) dX4_judge_16 ⟨Nat.zero_le _, Nat.zero_le _⟩ (fun t9 H locs ht9 hB hS => ?_)
      have hG := hB.1; rw [ht9] at hG; clear hB ht9
      have hd9 := rdv_B T (b := T 13 i k) (by omega)
      refine lv_aload_n hx hb dX4_judge_19 rfl (lv_at hl 0 rfl) ?_
      refine c_getV (Cn := RX1) (T := TX1) hx hb hts 6 hinX1 hown hK hG (4 * i + k) 0 (hal 6 (4 * i + k) (cAl_f hi (show (k : Int) < S 15 i 0 by omega) hk4)) (by decide) rfl (by decide) (hts (.fieldLink RX4 224 "LineEvents$Fault" "above" "J") (by decide +kernel)) (cV_J (z := T 12 i k) rfl (cF_0 (rdraw T) E rt hk4)) dX4_judge_20 ?_
      refine W.lcmp hx hb dX4_judge_23 ?_
      refine z_lif_ge (tgt := 49) hx hb dX4_judge_24 (by decide) ⟨by omega, by omega⟩ ⟨by omega, by omega⟩ (fun c_2 => ?_) (fun c_2 => ?_)
      · refine lv_aload_n hx hb dX4_judge_49 rfl (lv_at hl 0 rfl) ?_
        refine c_getV (Cn := RX1) (T := TX1) hx hb hts 6 hinX1 hown hK hG (4 * i + k) 3 (hal 6 (4 * i + k) (cAl_f hi (show (k : Int) < S 15 i 0 by omega) hk4)) (by decide) rfl (by decide) (hts (.fieldLink RX4 233 "LineEvents$Fault" "next" "LLineEvents$Fault;") (by decide +kernel)) (cV_N (t := 6) rfl (by rw [cF_3 (rdraw T) E rt hk4, if_neg (show ¬ ((k : Int) + 1 < rdraw T 15 i 0) from (show ¬ ((k : Int) + 1 < T 15 i 0) by omega))]; decide)) dX4_judge_50 ?_
        refine lv_astore_nN (lv' := [(3, .null), (2, .int (zI lg)), (0, .ref (ad 0 0)), (1, .ref (ad 2 i))]) hx hb dX4_judge_53 rfl hl (by decide) rfl (fun ls hl => ?_)
        refine lv_goto (tgt := 7) hx hb dX4_judge_54 (by decide) ?_
        refine lv_aload_nN hx hb dX4_judge_7 rfl (lv_at hl 0 rfl) ?_
        refine lv_ifnullN (tgt := 57) hx hb dX4_judge_8 (by decide) ?_
        have hvx : (rdraw T, lg, false) = J0 := by rw [← hv9, rjl]; first | (rw [if_neg (by omega)]; rfl) | (rw [if_pos (by omega), if_neg (by omega), show max lg (T 14 i k) = (if lg < T 14 i k then T 14 i k else lg) by split <;> omega]; rfl)
        obtain ⟨lg2, hlg2⟩ : ∃ z : Int, z = lg := ⟨_, rfl⟩
        have hlgB : 0 ≤ lg2 ∧ lg2 ≤ 100000 := by rw [hlg2]; omega
        replace hl : lv_has ls 4 [(3, .null), (2, .int (zI lg2)), (0, .ref (ad 0 0)), (1, .ref (ad 2 i))] := by rw [hlg2]; exact hl
        rw [← hlg2] at hvx
        clear hlg hlg2 hv9 hd9
        generalize lg2 = lg at hl hvx hlgB
        have hTI2 : Inv (rdraw T) := hTI
        have hTi2 : (i : Int) < rdraw T 5 0 0 := hTi
        have hTe2 : 0 ≤ rdraw T 30 0 0 ∧ rdraw T 30 0 0 < 2147483647 := hTe
        have halT2 : alS al (rdraw T) := halT
        have hT62 : rdraw T 6 i 0 = 1 := hT6
        have h252 : 0 ≤ rdraw T 25 0 0 ∧ rdraw T 25 0 0 ≤ 1000000000 := hI25
        clear hTI hTi hTe halT hT6 hT15 hM6 hM7 hM8 hM10 hM11 hM15 hM9 hMf hf12 hf13 hf14 hf1 hn hI5 hI25 hI20 hIM hIL hIR
        generalize rdraw T = T at hG hvx hTI2 hTi2 hTe2 halT2 hT62 h252
        have hTI := hTI2
        have hTi := hTi2
        have hTe := hTe2
        have halT := halT2
        have hT6 := hT62
        have hlg := hlgB
        refine lv_aload_n hx hb dX4_judge_57 rfl (lv_at hl 3 rfl) ?_
        refine lv_iconst (v := zI 1) hx hb dX4_judge_58 rfl ?_
        refine c_putV (Cn := RX2) (T := TX2) (z := 1) hx hb hts 2 hinX2 tyX2 tyX2_ok nmX2 hown hK hG hS i 13 (hal 2 i (show (i : Int) < S 5 0 0 by omega)) (by decide) rfl (by decide) (hts (.fieldLink RX4 201 "LineEvents$Machine" "judged" "Z") (by decide +kernel)) (Or.inl rfl) (cV_I (z := 1) rfl rfl) (by decide +kernel) rfl dX4_judge_59 (fun H locs hG hS => ?_)
        refine lv_iload_n hx hb dX4_judge_62 rfl (lv_at hl 1 rfl) ?_
        refine z_if_le (tgt := 82) hx hb dX4_judge_63 (by decide) ⟨by omega, by omega⟩ (fun c_3 => ?_) (fun c_3 => ?_)
        · have e9 : su (cC T E rt) 2 i 13 (1) = cC (rjfin i (su J0.1 6 i 0 2, J0.2)).1 E rt := by rw [← hvx]; unfold rjfin; rw [if_neg Bool.false_ne_true, if_neg (show ¬ 0 < lg by omega)]; exact (cC_jd T E rt i hT6).symm
          rw [e9] at hG
          exact W.vret hx hb hr (fun t ht hW => ⟨rfl, ⟨by rw [ht]; exact hG, va_K.moved hW.alike hK, fun q hq => hA q (Nat.le_trans hS.1 (by rw [← ht]; exact hq))⟩, hS.F ht⟩) hS.2.2 dX4_judge_82
        · refine lv_aload_n hx hb dX4_judge_66 rfl (lv_at hl 3 rfl) ?_
          refine lv_aload_n hx hb dX4_judge_67 rfl (lv_at hl 2 rfl) ?_
          refine c_getV (Cn := RX4) (T := TX4) hx hb hts 0 hinX4 hown hK hG 0 1 (hal 0 0 rfl) (by decide) rfl (by decide) (hts (.fieldLink RX4 27 "LineEvents" "now" "I") (by decide +kernel)) (cV_I (z := T 25 0 0) rfl ((su_v (by decide)).trans (rfl))) dX4_judge_68 ?_
          refine lv_iload_n hx hb dX4_judge_71 rfl (lv_at hl 1 rfl) ?_
          refine z_iadd hx hb dX4_judge_72 ?_
          refine c_putV (Cn := RX2) (T := TX2) (z := (T 25 0 0) + lg) hx hb hts 2 hinX2 tyX2 tyX2_ok nmX2 hown hK hG hS i 10 (hal 2 i (show (i : Int) < S 5 0 0 by omega)) (by decide) rfl (by decide) (hts (.fieldLink RX4 236 "LineEvents$Machine" "faultEnd" "I") (by decide +kernel)) (Or.inl rfl) (cV_I (z := (T 25 0 0) + lg) rfl rfl) rfl rfl dX4_judge_73 (fun H locs hG hS => ?_)
          refine lv_aload_n hx hb dX4_judge_76 rfl (lv_at hl 2 rfl) ?_
          refine lv_aload_n hx hb dX4_judge_77 rfl (lv_at hl 3 rfl) ?_
          refine lv_iconst (v := zI 3) hx hb dX4_judge_78 rfl ?_
          have e8 : su (su (cC T E rt) 2 i 13 (1)) 2 i 10 ((T 25 0 0) + lg) = cC (su (su T 6 i 0 2) 8 i 0 (T 25 0 0 + lg)) E rt := by rw [cC_8, cC_jd T E rt i hT6]
          rw [e8] at hG; clear e8
          refine c_callV (As := [.ref (ad 2 i), .int (zI 3)]) (rest := []) (Cn := RX4) (T := TX4) ⟨hx, hb, hml, hown, hts⟩ 0 0 (m_X4_note l D cI cJ A ad al (su (su T 6 i 0 2) 8 i 0 (T 25 0 0 + lg)) E rt halT i 3 hTi hTe) (cwV 2 hts gX4_judge_X4_note rfl rfl rfl (by decide +kernel) ⟨Nat.le_of_ble_eq_true rfl, Nat.le_of_ble_eq_true rfl⟩) (hal 0 0 rfl) (by decide) rfl hK hG hS hA rfl hl.1 rfl (Nat.le_of_ble_eq_true rfl) dX4_judge_79 ⟨Nat.zero_le _, Nat.zero_le _⟩ (fun t9 H locs ht9 hB hS => ?_)
          have hG := hB.1; rw [ht9] at hG; clear hB ht9
          have e9 : cC (rnote (su (su T 6 i 0 2) 8 i 0 (T 25 0 0 + lg)) i 3) E rt = cC (rjfin i (su J0.1 6 i 0 2, J0.2)).1 E rt := by rw [← hvx]; unfold rjfin; rw [if_neg Bool.false_ne_true, if_pos (show 0 < lg by omega)]; rfl
          rw [e9] at hG
          exact W.vret hx hb hr (fun t ht hW => ⟨rfl, ⟨by rw [ht]; exact hG, va_K.moved hW.alike hK, fun q hq => hA q (Nat.le_trans hS.1 (by rw [← ht]; exact hq))⟩, hS.F ht⟩) hS.2.2 dX4_judge_82
      · refine lv_aload_n hx hb dX4_judge_27 rfl (lv_at hl 0 rfl) ?_
        refine c_getV (Cn := RX1) (T := TX1) hx hb hts 6 hinX1 hown hK hG (4 * i + k) 2 (hal 6 (4 * i + k) (cAl_f hi (show (k : Int) < S 15 i 0 by omega) hk4)) (by decide) rfl (by decide) (hts (.fieldLink RX4 227 "LineEvents$Fault" "tenths" "I") (by decide +kernel)) (cV_I (z := T 14 i k) rfl (cF_2 (rdraw T) E rt hk4)) dX4_judge_28 ?_
        refine z_if_ne (tgt := 40) hx hb dX4_judge_31 (by decide) ⟨by omega, by omega⟩ (fun c_4 => ?_) (fun c_4 => ?_)
        · refine lv_iload_n hx hb dX4_judge_40 rfl (lv_at hl 1 rfl) ?_
          refine lv_aload_n hx hb dX4_judge_41 rfl (lv_at hl 0 rfl) ?_
          refine c_getV (Cn := RX1) (T := TX1) hx hb hts 6 hinX1 hown hK hG (4 * i + k) 2 (hal 6 (4 * i + k) (cAl_f hi (show (k : Int) < S 15 i 0 by omega) hk4)) (by decide) rfl (by decide) (hts (.fieldLink RX4 227 "LineEvents$Fault" "tenths" "I") (by decide +kernel)) (cV_I (z := T 14 i k) rfl (cF_2 (rdraw T) E rt hk4)) dX4_judge_42 ?_
          refine z_max hx hb (by rw [hml]; exact hl.1.symm) hown (hts (.methodLink RX4 102 Lib.Math.max.name) (by decide +kernel)) (hts (.static Lib.Math.max.name) (by decide +kernel)) (hts (.initialized "java/lang/Math") (by decide +kernel)) (hts (.code Lib.Math.max.name Lib.Math.max.code 2 (some .int)) (by decide +kernel)) (Nat.le_of_ble_eq_true rfl) (Nat.le_of_ble_eq_true rfl) (Nat.zero_le _) (Nat.zero_le _) ⟨by omega, by omega⟩ ⟨by omega, by omega⟩ dX4_judge_45 ?_
          refine lv_istore_n (lv' := [(2, .int (zI (max lg (T 14 i k)))), (3, .ref (ad 6 (4 * i + k))), (0, .ref (ad 0 0)), (1, .ref (ad 2 i))]) hx hb dX4_judge_48 rfl hl (by decide) rfl (fun ls hl => ?_)
          refine lv_aload_n hx hb dX4_judge_49 rfl (lv_at hl 1 rfl) ?_
          refine c_getV (Cn := RX1) (T := TX1) hx hb hts 6 hinX1 hown hK hG (4 * i + k) 3 (hal 6 (4 * i + k) (cAl_f hi (show (k : Int) < S 15 i 0 by omega) hk4)) (by decide) rfl (by decide) (hts (.fieldLink RX4 233 "LineEvents$Fault" "next" "LLineEvents$Fault;") (by decide +kernel)) (cV_N (t := 6) rfl (by rw [cF_3 (rdraw T) E rt hk4, if_neg (show ¬ ((k : Int) + 1 < rdraw T 15 i 0) from (show ¬ ((k : Int) + 1 < T 15 i 0) by omega))]; decide)) dX4_judge_50 ?_
          refine lv_astore_nN (lv' := [(3, .null), (2, .int (zI (max lg (T 14 i k)))), (0, .ref (ad 0 0)), (1, .ref (ad 2 i))]) hx hb dX4_judge_53 rfl hl (by decide) rfl (fun ls hl => ?_)
          refine lv_goto (tgt := 7) hx hb dX4_judge_54 (by decide) ?_
          refine lv_aload_nN hx hb dX4_judge_7 rfl (lv_at hl 0 rfl) ?_
          refine lv_ifnullN (tgt := 57) hx hb dX4_judge_8 (by decide) ?_
          have hvx : (rdraw T, max lg (T 14 i k), false) = J0 := by rw [← hv9, rjl]; first | (rw [if_neg (by omega)]; rfl) | (rw [if_pos (by omega), if_neg (by omega), show max lg (T 14 i k) = (if lg < T 14 i k then T 14 i k else lg) by split <;> omega]; rfl)
          obtain ⟨lg2, hlg2⟩ : ∃ z : Int, z = max lg (T 14 i k) := ⟨_, rfl⟩
          have hlgB : 0 ≤ lg2 ∧ lg2 ≤ 100000 := by rw [hlg2]; omega
          replace hl : lv_has ls 4 [(3, .null), (2, .int (zI lg2)), (0, .ref (ad 0 0)), (1, .ref (ad 2 i))] := by rw [hlg2]; exact hl
          rw [← hlg2] at hvx
          clear hlg hlg2 hv9 hd9
          generalize lg2 = lg at hl hvx hlgB
          have hTI2 : Inv (rdraw T) := hTI
          have hTi2 : (i : Int) < rdraw T 5 0 0 := hTi
          have hTe2 : 0 ≤ rdraw T 30 0 0 ∧ rdraw T 30 0 0 < 2147483647 := hTe
          have halT2 : alS al (rdraw T) := halT
          have hT62 : rdraw T 6 i 0 = 1 := hT6
          have h252 : 0 ≤ rdraw T 25 0 0 ∧ rdraw T 25 0 0 ≤ 1000000000 := hI25
          clear hTI hTi hTe halT hT6 hT15 hM6 hM7 hM8 hM10 hM11 hM15 hM9 hMf hf12 hf13 hf14 hf1 hn hI5 hI25 hI20 hIM hIL hIR
          generalize rdraw T = T at hG hvx hTI2 hTi2 hTe2 halT2 hT62 h252
          have hTI := hTI2
          have hTi := hTi2
          have hTe := hTe2
          have halT := halT2
          have hT6 := hT62
          have hlg := hlgB
          refine lv_aload_n hx hb dX4_judge_57 rfl (lv_at hl 3 rfl) ?_
          refine lv_iconst (v := zI 1) hx hb dX4_judge_58 rfl ?_
          refine c_putV (Cn := RX2) (T := TX2) (z := 1) hx hb hts 2 hinX2 tyX2 tyX2_ok nmX2 hown hK hG hS i 13 (hal 2 i (show (i : Int) < S 5 0 0 by omega)) (by decide) rfl (by decide) (hts (.fieldLink RX4 201 "LineEvents$Machine" "judged" "Z") (by decide +kernel)) (Or.inl rfl) (cV_I (z := 1) rfl rfl) (by decide +kernel) rfl dX4_judge_59 (fun H locs hG hS => ?_)
          refine lv_iload_n hx hb dX4_judge_62 rfl (lv_at hl 1 rfl) ?_
          refine z_if_le (tgt := 82) hx hb dX4_judge_63 (by decide) ⟨by omega, by omega⟩ (fun c_5 => ?_) (fun c_5 => ?_)
          · have e9 : su (cC T E rt) 2 i 13 (1) = cC (rjfin i (su J0.1 6 i 0 2, J0.2)).1 E rt := by rw [← hvx]; unfold rjfin; rw [if_neg Bool.false_ne_true, if_neg (show ¬ 0 < lg by omega)]; exact (cC_jd T E rt i hT6).symm
            rw [e9] at hG
            exact W.vret hx hb hr (fun t ht hW => ⟨rfl, ⟨by rw [ht]; exact hG, va_K.moved hW.alike hK, fun q hq => hA q (Nat.le_trans hS.1 (by rw [← ht]; exact hq))⟩, hS.F ht⟩) hS.2.2 dX4_judge_82
          · refine lv_aload_n hx hb dX4_judge_66 rfl (lv_at hl 3 rfl) ?_
            refine lv_aload_n hx hb dX4_judge_67 rfl (lv_at hl 2 rfl) ?_
            refine c_getV (Cn := RX4) (T := TX4) hx hb hts 0 hinX4 hown hK hG 0 1 (hal 0 0 rfl) (by decide) rfl (by decide) (hts (.fieldLink RX4 27 "LineEvents" "now" "I") (by decide +kernel)) (cV_I (z := T 25 0 0) rfl ((su_v (by decide)).trans (rfl))) dX4_judge_68 ?_
            refine lv_iload_n hx hb dX4_judge_71 rfl (lv_at hl 1 rfl) ?_
            refine z_iadd hx hb dX4_judge_72 ?_
            refine c_putV (Cn := RX2) (T := TX2) (z := (T 25 0 0) + lg) hx hb hts 2 hinX2 tyX2 tyX2_ok nmX2 hown hK hG hS i 10 (hal 2 i (show (i : Int) < S 5 0 0 by omega)) (by decide) rfl (by decide) (hts (.fieldLink RX4 236 "LineEvents$Machine" "faultEnd" "I") (by decide +kernel)) (Or.inl rfl) (cV_I (z := (T 25 0 0) + lg) rfl rfl) rfl rfl dX4_judge_73 (fun H locs hG hS => ?_)
            refine lv_aload_n hx hb dX4_judge_76 rfl (lv_at hl 2 rfl) ?_
            refine lv_aload_n hx hb dX4_judge_77 rfl (lv_at hl 3 rfl) ?_
            refine lv_iconst (v := zI 3) hx hb dX4_judge_78 rfl ?_
            have e8 : su (su (cC T E rt) 2 i 13 (1)) 2 i 10 ((T 25 0 0) + lg) = cC (su (su T 6 i 0 2) 8 i 0 (T 25 0 0 + lg)) E rt := by rw [cC_8, cC_jd T E rt i hT6]
            rw [e8] at hG; clear e8
            refine c_callV (As := [.ref (ad 2 i), .int (zI 3)]) (rest := []) (Cn := RX4) (T := TX4) ⟨hx, hb, hml, hown, hts⟩ 0 0 (m_X4_note l D cI cJ A ad al (su (su T 6 i 0 2) 8 i 0 (T 25 0 0 + lg)) E rt halT i 3 hTi hTe) (cwV 2 hts gX4_judge_X4_note rfl rfl rfl (by decide +kernel) ⟨Nat.le_of_ble_eq_true rfl, Nat.le_of_ble_eq_true rfl⟩) (hal 0 0 rfl) (by decide) rfl hK hG hS hA rfl hl.1 rfl (Nat.le_of_ble_eq_true rfl) dX4_judge_79 ⟨Nat.zero_le _, Nat.zero_le _⟩ (fun t9 H locs ht9 hB hS => ?_)
            have hG := hB.1; rw [ht9] at hG; clear hB ht9
            have e9 : cC (rnote (su (su T 6 i 0 2) 8 i 0 (T 25 0 0 + lg)) i 3) E rt = cC (rjfin i (su J0.1 6 i 0 2, J0.2)).1 E rt := by rw [← hvx]; unfold rjfin; rw [if_neg Bool.false_ne_true, if_pos (show 0 < lg by omega)]; rfl
            rw [e9] at hG
            exact W.vret hx hb hr (fun t ht hW => ⟨rfl, ⟨by rw [ht]; exact hG, va_K.moved hW.alike hK, fun q hq => hA q (Nat.le_trans hS.1 (by rw [← ht]; exact hq))⟩, hS.F ht⟩) hS.2.2 dX4_judge_82
        · refine lv_aload_n hx hb dX4_judge_34 rfl (lv_at hl 2 rfl) ?_
          refine lv_aload_n hx hb dX4_judge_35 rfl (lv_at hl 3 rfl) ?_
          refine c_callV (As := [.ref (ad 2 i)]) (rest := []) (Cn := RX4) (T := TX4) ⟨hx, hb, hml, hown, hts⟩ 0 0 (m_X4_reject l D cI cJ A ad al (rdraw T) E rt halT i hTI hTi hTe) (cwV 1 hts gX4_judge_X4_reject rfl rfl rfl (by decide +kernel) ⟨Nat.le_of_ble_eq_true rfl, Nat.le_of_ble_eq_true rfl⟩) (hal 0 0 rfl) (by decide) rfl hK hG hS hA rfl hl.1 rfl (Nat.le_of_ble_eq_true rfl) dX4_judge_36 ⟨Nat.zero_le _, Nat.zero_le _⟩ (fun t9 H locs ht9 hB hS => ?_)
          have hG := hB.1; rw [ht9] at hG; clear hB ht9
          have e9 : cC (rnote (su (su (rdraw T) 6 i 0 0) 22 i 0 ((rdraw T) 22 i 0 + 1)) i 2) E rt = cC (rjfin i (su J0.1 6 i 0 2, J0.2)).1 E rt := by rw [← hv9, rjl_s, if_pos (by omega), if_pos (by omega)]; exact congrArg (fun X => cC X E rt) (rej_fin i (rdraw T) lg).symm
          rw [e9] at hG
          exact W.vret hx hb hr (fun t ht hW => ⟨rfl, ⟨by rw [ht]; exact hG, va_K.moved hW.alike hK, fun q hq => hA q (Nat.le_trans hS.1 (by rw [← ht]; exact hq))⟩, hS.F ht⟩) hS.2.2 dX4_judge_39
    | succ n ih =>
      obtain ⟨hI5, hI25, hI20, hIM, hIL, hIR⟩ := id hTI
      obtain ⟨hM6, hM7, hM8, hM10, hM11, hM15, hM9, hMf⟩ := id (hIM i (by omega))
      obtain ⟨hf12, hf13, hf14, hf1⟩ := hMf k hk4
      refine lv_aload_n hx hb dX4_judge_7 rfl (lv_at hl 0 rfl) ?_
      refine lv_ifnull hx hb dX4_judge_8 ?_
      refine lv_aload_n hx hb dX4_judge_11 rfl (lv_at hl 2 rfl) ?_
      refine lv_aload_n hx hb dX4_judge_12 rfl (lv_at hl 0 rfl) ?_
      refine c_getV (Cn := RX1) (T := TX1) hx hb hts 6 hinX1 hown hK hG (4 * i + k) 1 (hal 6 (4 * i + k) (cAl_f hi (show (k : Int) < S 15 i 0 by omega) hk4)) (by decide) rfl (by decide) (hts (.fieldLink RX4 217 "LineEvents$Fault" "below" "J") (by decide +kernel)) (cV_J (z := T 13 i k) rfl (cF_1 T E rt hk4)) dX4_judge_13 ?_
      refine c_callV (As := [.long (zL (T 13 i k))]) (rest := []) (Cn := RX4) (T := TX4) ⟨hx, hb, hml, hown, hts⟩ 0 0 (m_X4_draw l D cI cJ A ad al T E rt halT (T 13 i k) ⟨by omega, by omega⟩) (cwV 1 hts gX4_judge_X4_draw rfl rfl rfl (by decide +kernel) ⟨Nat.le_of_ble_eq_true rfl, Nat.le_of_ble_eq_true rfl⟩) (hal 0 0 rfl) (by decide) rfl hK hG hS hA rfl hl.1 rfl (Nat.le_of_ble_eq_true rfl) dX4_judge_16 ⟨Nat.zero_le _, Nat.zero_le _⟩ (fun t9 H locs ht9 hB hS => ?_)
      have hG := hB.1; rw [ht9] at hG; clear hB ht9
      have hd9 := rdv_B T (b := T 13 i k) (by omega)
      refine lv_aload_n hx hb dX4_judge_19 rfl (lv_at hl 0 rfl) ?_
      refine c_getV (Cn := RX1) (T := TX1) hx hb hts 6 hinX1 hown hK hG (4 * i + k) 0 (hal 6 (4 * i + k) (cAl_f hi (show (k : Int) < S 15 i 0 by omega) hk4)) (by decide) rfl (by decide) (hts (.fieldLink RX4 224 "LineEvents$Fault" "above" "J") (by decide +kernel)) (cV_J (z := T 12 i k) rfl (cF_0 (rdraw T) E rt hk4)) dX4_judge_20 ?_
      refine W.lcmp hx hb dX4_judge_23 ?_
      refine z_lif_ge (tgt := 49) hx hb dX4_judge_24 (by decide) ⟨by omega, by omega⟩ ⟨by omega, by omega⟩ (fun c_6 => ?_) (fun c_6 => ?_)
      · refine lv_aload_n hx hb dX4_judge_49 rfl (lv_at hl 0 rfl) ?_
        refine c_getV (Cn := RX1) (T := TX1) hx hb hts 6 hinX1 hown hK hG (4 * i + k) 3 (hal 6 (4 * i + k) (cAl_f hi (show (k : Int) < S 15 i 0 by omega) hk4)) (by decide) rfl (by decide) (hts (.fieldLink RX4 233 "LineEvents$Fault" "next" "LLineEvents$Fault;") (by decide +kernel)) (cV_R (t := 6) (j := (4 * i + (k + 1))) rfl ((cF_3 (rdraw T) E rt hk4).trans (if_pos (show (k : Int) + 1 < T 15 i 0 by omega)))) dX4_judge_50 ?_
        refine lv_astore_n (lv' := [(3, .ref (ad 6 (4 * i + (k + 1)))), (2, .int (zI lg)), (0, .ref (ad 0 0)), (1, .ref (ad 2 i))]) hx hb dX4_judge_53 rfl hl (by decide) rfl (fun ls hl => ?_)
        refine lv_goto (tgt := 7) hx hb dX4_judge_54 (by decide) ?_
        exact ih (k := k + 1) (ls := ls) (T := rdraw T) (lg := lg) (H := H) (locs := locs) (hG := hG) (hS := hS) (hTI := hTI) (hTi := hTi) (hTe := hTe) (halT := halT) (hT15 := hT15) (hT6 := hT6) (hlg := by omega) (hk4 := by omega) (hl := lv_sub hl [0, 1, 2, 3] rfl) (hn := by rw [show rdraw T 15 i 0 = T 15 i 0 from rfl]; omega) (hv9 := by rw [← hv9, rjl_s i (n + 1) k T lg]; first | rw [if_neg (by omega)] | rw [if_pos (by omega), if_neg (by omega), show max lg (T 14 i k) = (if lg < T 14 i k then T 14 i k else lg) by split <;> omega])
      · refine lv_aload_n hx hb dX4_judge_27 rfl (lv_at hl 0 rfl) ?_
        refine c_getV (Cn := RX1) (T := TX1) hx hb hts 6 hinX1 hown hK hG (4 * i + k) 2 (hal 6 (4 * i + k) (cAl_f hi (show (k : Int) < S 15 i 0 by omega) hk4)) (by decide) rfl (by decide) (hts (.fieldLink RX4 227 "LineEvents$Fault" "tenths" "I") (by decide +kernel)) (cV_I (z := T 14 i k) rfl (cF_2 (rdraw T) E rt hk4)) dX4_judge_28 ?_
        refine z_if_ne (tgt := 40) hx hb dX4_judge_31 (by decide) ⟨by omega, by omega⟩ (fun c_7 => ?_) (fun c_7 => ?_)
        · refine lv_iload_n hx hb dX4_judge_40 rfl (lv_at hl 1 rfl) ?_
          refine lv_aload_n hx hb dX4_judge_41 rfl (lv_at hl 0 rfl) ?_
          refine c_getV (Cn := RX1) (T := TX1) hx hb hts 6 hinX1 hown hK hG (4 * i + k) 2 (hal 6 (4 * i + k) (cAl_f hi (show (k : Int) < S 15 i 0 by omega) hk4)) (by decide) rfl (by decide) (hts (.fieldLink RX4 227 "LineEvents$Fault" "tenths" "I") (by decide +kernel)) (cV_I (z := T 14 i k) rfl (cF_2 (rdraw T) E rt hk4)) dX4_judge_42 ?_
          refine z_max hx hb (by rw [hml]; exact hl.1.symm) hown (hts (.methodLink RX4 102 Lib.Math.max.name) (by decide +kernel)) (hts (.static Lib.Math.max.name) (by decide +kernel)) (hts (.initialized "java/lang/Math") (by decide +kernel)) (hts (.code Lib.Math.max.name Lib.Math.max.code 2 (some .int)) (by decide +kernel)) (Nat.le_of_ble_eq_true rfl) (Nat.le_of_ble_eq_true rfl) (Nat.zero_le _) (Nat.zero_le _) ⟨by omega, by omega⟩ ⟨by omega, by omega⟩ dX4_judge_45 ?_
          refine lv_istore_n (lv' := [(2, .int (zI (max lg (T 14 i k)))), (3, .ref (ad 6 (4 * i + k))), (0, .ref (ad 0 0)), (1, .ref (ad 2 i))]) hx hb dX4_judge_48 rfl hl (by decide) rfl (fun ls hl => ?_)
          refine lv_aload_n hx hb dX4_judge_49 rfl (lv_at hl 1 rfl) ?_
          refine c_getV (Cn := RX1) (T := TX1) hx hb hts 6 hinX1 hown hK hG (4 * i + k) 3 (hal 6 (4 * i + k) (cAl_f hi (show (k : Int) < S 15 i 0 by omega) hk4)) (by decide) rfl (by decide) (hts (.fieldLink RX4 233 "LineEvents$Fault" "next" "LLineEvents$Fault;") (by decide +kernel)) (cV_R (t := 6) (j := (4 * i + (k + 1))) rfl ((cF_3 (rdraw T) E rt hk4).trans (if_pos (show (k : Int) + 1 < T 15 i 0 by omega)))) dX4_judge_50 ?_
          refine lv_astore_n (lv' := [(3, .ref (ad 6 (4 * i + (k + 1)))), (2, .int (zI (max lg (T 14 i k)))), (0, .ref (ad 0 0)), (1, .ref (ad 2 i))]) hx hb dX4_judge_53 rfl hl (by decide) rfl (fun ls hl => ?_)
          refine lv_goto (tgt := 7) hx hb dX4_judge_54 (by decide) ?_
          exact ih (k := k + 1) (ls := ls) (T := rdraw T) (lg := max lg (T 14 i k)) (H := H) (locs := locs) (hG := hG) (hS := hS) (hTI := hTI) (hTi := hTi) (hTe := hTe) (halT := halT) (hT15 := hT15) (hT6 := hT6) (hlg := by omega) (hk4 := by omega) (hl := lv_sub hl [0, 1, 2, 3] rfl) (hn := by rw [show rdraw T 15 i 0 = T 15 i 0 from rfl]; omega) (hv9 := by rw [← hv9, rjl_s i (n + 1) k T lg]; first | rw [if_neg (by omega)] | rw [if_pos (by omega), if_neg (by omega), show max lg (T 14 i k) = (if lg < T 14 i k then T 14 i k else lg) by split <;> omega])
        · refine lv_aload_n hx hb dX4_judge_34 rfl (lv_at hl 2 rfl) ?_
          refine lv_aload_n hx hb dX4_judge_35 rfl (lv_at hl 3 rfl) ?_
          refine c_callV (As := [.ref (ad 2 i)]) (rest := []) (Cn := RX4) (T := TX4) ⟨hx, hb, hml, hown, hts⟩ 0 0 (m_X4_reject l D cI cJ A ad al (rdraw T) E rt halT i hTI hTi hTe) (cwV 1 hts gX4_judge_X4_reject rfl rfl rfl (by decide +kernel) ⟨Nat.le_of_ble_eq_true rfl, Nat.le_of_ble_eq_true rfl⟩) (hal 0 0 rfl) (by decide) rfl hK hG hS hA rfl hl.1 rfl (Nat.le_of_ble_eq_true rfl) dX4_judge_36 ⟨Nat.zero_le _, Nat.zero_le _⟩ (fun t9 H locs ht9 hB hS => ?_)
          have hG := hB.1; rw [ht9] at hG; clear hB ht9
          have e9 : cC (rnote (su (su (rdraw T) 6 i 0 0) 22 i 0 ((rdraw T) 22 i 0 + 1)) i 2) E rt = cC (rjfin i (su J0.1 6 i 0 2, J0.2)).1 E rt := by rw [← hv9, rjl_s, if_pos (by omega), if_pos (by omega)]; exact congrArg (fun X => cC X E rt) (rej_fin i (rdraw T) lg).symm
          rw [e9] at hG
          exact W.vret hx hb hr (fun t ht hW => ⟨rfl, ⟨by rw [ht]; exact hG, va_K.moved hW.alike hK, fun q hq => hA q (Nat.le_trans hS.1 (by rw [← ht]; exact hq))⟩, hS.F ht⟩) hS.2.2 dX4_judge_39
end
