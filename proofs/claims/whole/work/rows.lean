section
-- ===== PART A: goes FIRST, ahead of the names: the tables' words, and 'selects' of the private methods out of them =====
/-- a private method of a class that the tables say can be made, by its rows of tables_1 -/
def lw_okq (q : MethodName × Nat) : Prop := (q.1.cls ≠ "java/lang/invoke/MethodHandle" ∧ q.1.cls ≠ "java/lang/invoke/VarHandle") ∧ Cond.instantiable q.1.cls q.2 ∈ tables_1 ∧ Cond.privateMethod q.1 ∈ tables_1 ∧ Cond.instanceMethod q.1 ∈ tables_1
theorem lw_p0 : lw_okq (⟨"LineEvents", "find", "(I)LLineEvents$Machine;"⟩, 11) := ⟨⟨by decide +kernel, by decide +kernel⟩, List.mem_of_getElem? (i := 14) (by decide +kernel), List.mem_of_getElem? (i := 61) (by decide +kernel), List.mem_of_getElem? (i := 62) (by decide +kernel)⟩
theorem lw_p1 : lw_okq (⟨"LineEvents", "addRow", "(IIII)Z"⟩, 11) := ⟨⟨by decide +kernel, by decide +kernel⟩, List.mem_of_getElem? (i := 14) (by decide +kernel), List.mem_of_getElem? (i := 202) (by decide +kernel), List.mem_of_getElem? (i := 203) (by decide +kernel)⟩
theorem lw_p2 : lw_okq (⟨"LineEvents", "lookAtRows", "()V"⟩, 11) := ⟨⟨by decide +kernel, by decide +kernel⟩, List.mem_of_getElem? (i := 14) (by decide +kernel), List.mem_of_getElem? (i := 235) (by decide +kernel), List.mem_of_getElem? (i := 236) (by decide +kernel)⟩
theorem lw_p3 : lw_okq (⟨"LineEvents", "rowCauseOf", "(I)I"⟩, 11) := ⟨⟨by decide +kernel, by decide +kernel⟩, List.mem_of_getElem? (i := 14) (by decide +kernel), List.mem_of_getElem? (i := 239) (by decide +kernel), List.mem_of_getElem? (i := 240) (by decide +kernel)⟩
theorem lw_p4 : lw_okq (⟨"LineEvents", "actAll", "()V"⟩, 11) := ⟨⟨by decide +kernel, by decide +kernel⟩, List.mem_of_getElem? (i := 14) (by decide +kernel), List.mem_of_getElem? (i := 255) (by decide +kernel), List.mem_of_getElem? (i := 256) (by decide +kernel)⟩
theorem lw_p5 : lw_okq (⟨"LineEvents", "act", "(LLineEvents$Machine;)V"⟩, 11) := ⟨⟨by decide +kernel, by decide +kernel⟩, List.mem_of_getElem? (i := 14) (by decide +kernel), List.mem_of_getElem? (i := 263) (by decide +kernel), List.mem_of_getElem? (i := 264) (by decide +kernel)⟩
theorem lw_p6 : lw_okq (⟨"LineEvents", "judge", "(LLineEvents$Machine;)V"⟩, 11) := ⟨⟨by decide +kernel, by decide +kernel⟩, List.mem_of_getElem? (i := 14) (by decide +kernel), List.mem_of_getElem? (i := 271) (by decide +kernel), List.mem_of_getElem? (i := 272) (by decide +kernel)⟩
theorem lw_p7 : lw_okq (⟨"LineEvents", "draw", "(J)J"⟩, 11) := ⟨⟨by decide +kernel, by decide +kernel⟩, List.mem_of_getElem? (i := 14) (by decide +kernel), List.mem_of_getElem? (i := 275) (by decide +kernel), List.mem_of_getElem? (i := 276) (by decide +kernel)⟩
theorem lw_p8 : lw_okq (⟨"LineEvents", "reject", "(LLineEvents$Machine;)V"⟩, 11) := ⟨⟨by decide +kernel, by decide +kernel⟩, List.mem_of_getElem? (i := 14) (by decide +kernel), List.mem_of_getElem? (i := 281) (by decide +kernel), List.mem_of_getElem? (i := 282) (by decide +kernel)⟩
theorem lw_p9 : lw_okq (⟨"LineEvents", "note", "(LLineEvents$Machine;I)V"⟩, 11) := ⟨⟨by decide +kernel, by decide +kernel⟩, List.mem_of_getElem? (i := 14) (by decide +kernel), List.mem_of_getElem? (i := 289) (by decide +kernel), List.mem_of_getElem? (i := 290) (by decide +kernel)⟩
theorem lw_p10 : lw_okq (⟨"LineEvents", "leave", "(LLineEvents$Machine;)V"⟩, 11) := ⟨⟨by decide +kernel, by decide +kernel⟩, List.mem_of_getElem? (i := 14) (by decide +kernel), List.mem_of_getElem? (i := 296) (by decide +kernel), List.mem_of_getElem? (i := 297) (by decide +kernel)⟩
theorem lw_p11 : lw_okq (⟨"LineEvents", "take", "(LLineEvents$Machine;)V"⟩, 11) := ⟨⟨by decide +kernel, by decide +kernel⟩, List.mem_of_getElem? (i := 14) (by decide +kernel), List.mem_of_getElem? (i := 308) (by decide +kernel), List.mem_of_getElem? (i := 309) (by decide +kernel)⟩
theorem lw_p12 : lw_okq (⟨"LineEvents", "quietTenths", "()I"⟩, 11) := ⟨⟨by decide +kernel, by decide +kernel⟩, List.mem_of_getElem? (i := 14) (by decide +kernel), List.mem_of_getElem? (i := 326) (by decide +kernel), List.mem_of_getElem? (i := 327) (by decide +kernel)⟩
theorem lw_p13 : lw_okq (⟨"LineEvents", "passTime", "(I)V"⟩, 11) := ⟨⟨by decide +kernel, by decide +kernel⟩, List.mem_of_getElem? (i := 14) (by decide +kernel), List.mem_of_getElem? (i := 340) (by decide +kernel), List.mem_of_getElem? (i := 341) (by decide +kernel)⟩
theorem lw_p14 : lw_okq (⟨"LineEvents", "known", "(I)LLineEvents$Machine;"⟩, 11) := ⟨⟨by decide +kernel, by decide +kernel⟩, List.mem_of_getElem? (i := 14) (by decide +kernel), List.mem_of_getElem? (i := 390) (by decide +kernel), List.mem_of_getElem? (i := 391) (by decide +kernel)⟩
theorem lw_p15 : lw_okq (⟨"java/lang/Throwable", "fillInStackTrace", "(I)Ljava/lang/Throwable;"⟩, 6) := ⟨⟨by decide +kernel, by decide +kernel⟩, List.mem_of_getElem? (i := 432) (by decide +kernel), List.mem_of_getElem? (i := 430) (by decide +kernel), List.mem_of_getElem? (i := 431) (by decide +kernel)⟩
def lw_privs_1 : List (MethodName × Nat) := [(⟨"LineEvents", "find", "(I)LLineEvents$Machine;"⟩, 11), (⟨"LineEvents", "addRow", "(IIII)Z"⟩, 11), (⟨"LineEvents", "lookAtRows", "()V"⟩, 11), (⟨"LineEvents", "rowCauseOf", "(I)I"⟩, 11), (⟨"LineEvents", "actAll", "()V"⟩, 11), (⟨"LineEvents", "act", "(LLineEvents$Machine;)V"⟩, 11), (⟨"LineEvents", "judge", "(LLineEvents$Machine;)V"⟩, 11), (⟨"LineEvents", "draw", "(J)J"⟩, 11), (⟨"LineEvents", "reject", "(LLineEvents$Machine;)V"⟩, 11), (⟨"LineEvents", "note", "(LLineEvents$Machine;I)V"⟩, 11), (⟨"LineEvents", "leave", "(LLineEvents$Machine;)V"⟩, 11), (⟨"LineEvents", "take", "(LLineEvents$Machine;)V"⟩, 11), (⟨"LineEvents", "quietTenths", "()I"⟩, 11), (⟨"LineEvents", "passTime", "(I)V"⟩, 11), (⟨"LineEvents", "known", "(I)LLineEvents$Machine;"⟩, 11), (⟨"java/lang/Throwable", "fillInStackTrace", "(I)Ljava/lang/Throwable;"⟩, 6)]
theorem lw_r1 : ∀ q ∈ lw_privs_1, lw_okq q := List.forall_mem_cons.mpr ⟨lw_p0, List.forall_mem_cons.mpr ⟨lw_p1, List.forall_mem_cons.mpr ⟨lw_p2, List.forall_mem_cons.mpr ⟨lw_p3, List.forall_mem_cons.mpr ⟨lw_p4, List.forall_mem_cons.mpr ⟨lw_p5, List.forall_mem_cons.mpr ⟨lw_p6, List.forall_mem_cons.mpr ⟨lw_p7, List.forall_mem_cons.mpr ⟨lw_p8, List.forall_mem_cons.mpr ⟨lw_p9, List.forall_mem_cons.mpr ⟨lw_p10, List.forall_mem_cons.mpr ⟨lw_p11, List.forall_mem_cons.mpr ⟨lw_p12, List.forall_mem_cons.mpr ⟨lw_p13, List.forall_mem_cons.mpr ⟨lw_p14, List.forall_mem_cons.mpr ⟨lw_p15, fun _ h => absurd h List.not_mem_nil⟩⟩⟩⟩⟩⟩⟩⟩⟩⟩⟩⟩⟩⟩⟩⟩
theorem lw_p16 : lw_okq (⟨"LineEventsModel", "isMachine", "(I)Z"⟩, 32) := ⟨⟨by decide +kernel, by decide +kernel⟩, List.mem_of_getElem? (i := 483) (by decide +kernel), List.mem_of_getElem? (i := 594) (by decide +kernel), List.mem_of_getElem? (i := 595) (by decide +kernel)⟩
theorem lw_p17 : lw_okq (⟨"LineEventsModel", "told", "(IIJI)Z"⟩, 32) := ⟨⟨by decide +kernel, by decide +kernel⟩, List.mem_of_getElem? (i := 483) (by decide +kernel), List.mem_of_getElem? (i := 612) (by decide +kernel), List.mem_of_getElem? (i := 613) (by decide +kernel)⟩
theorem lw_p18 : lw_okq (⟨"LineEventsModel", "act", "(I)V"⟩, 32) := ⟨⟨by decide +kernel, by decide +kernel⟩, List.mem_of_getElem? (i := 483) (by decide +kernel), List.mem_of_getElem? (i := 630) (by decide +kernel), List.mem_of_getElem? (i := 631) (by decide +kernel)⟩
theorem lw_p19 : lw_okq (⟨"LineEventsModel", "held", "(I)I"⟩, 32) := ⟨⟨by decide +kernel, by decide +kernel⟩, List.mem_of_getElem? (i := 483) (by decide +kernel), List.mem_of_getElem? (i := 634) (by decide +kernel), List.mem_of_getElem? (i := 635) (by decide +kernel)⟩
theorem lw_p20 : lw_okq (⟨"LineEventsModel", "judge", "(I)Z"⟩, 32) := ⟨⟨by decide +kernel, by decide +kernel⟩, List.mem_of_getElem? (i := 483) (by decide +kernel), List.mem_of_getElem? (i := 638) (by decide +kernel), List.mem_of_getElem? (i := 639) (by decide +kernel)⟩
theorem lw_p21 : lw_okq (⟨"LineEventsModel", "draw", "(J)J"⟩, 32) := ⟨⟨by decide +kernel, by decide +kernel⟩, List.mem_of_getElem? (i := 483) (by decide +kernel), List.mem_of_getElem? (i := 642) (by decide +kernel), List.mem_of_getElem? (i := 643) (by decide +kernel)⟩
theorem lw_p22 : lw_okq (⟨"LineEventsModel", "note", "(II)V"⟩, 32) := ⟨⟨by decide +kernel, by decide +kernel⟩, List.mem_of_getElem? (i := 483) (by decide +kernel), List.mem_of_getElem? (i := 648) (by decide +kernel), List.mem_of_getElem? (i := 649) (by decide +kernel)⟩
theorem lw_p23 : lw_okq (⟨"LineEventsModel", "leave", "(I)V"⟩, 32) := ⟨⟨by decide +kernel, by decide +kernel⟩, List.mem_of_getElem? (i := 483) (by decide +kernel), List.mem_of_getElem? (i := 652) (by decide +kernel), List.mem_of_getElem? (i := 653) (by decide +kernel)⟩
theorem lw_p24 : lw_okq (⟨"LineEventsModel", "take", "(I)V"⟩, 32) := ⟨⟨by decide +kernel, by decide +kernel⟩, List.mem_of_getElem? (i := 483) (by decide +kernel), List.mem_of_getElem? (i := 656) (by decide +kernel), List.mem_of_getElem? (i := 657) (by decide +kernel)⟩
theorem lw_p25 : lw_okq (⟨"LineEventsModel", "causeOf", "(I)I"⟩, 32) := ⟨⟨by decide +kernel, by decide +kernel⟩, List.mem_of_getElem? (i := 483) (by decide +kernel), List.mem_of_getElem? (i := 660) (by decide +kernel), List.mem_of_getElem? (i := 661) (by decide +kernel)⟩
theorem lw_p26 : lw_okq (⟨"LineEventsModel", "within", "()J"⟩, 32) := ⟨⟨by decide +kernel, by decide +kernel⟩, List.mem_of_getElem? (i := 483) (by decide +kernel), List.mem_of_getElem? (i := 676) (by decide +kernel), List.mem_of_getElem? (i := 677) (by decide +kernel)⟩
def lw_privs_2 : List (MethodName × Nat) := [(⟨"LineEventsModel", "isMachine", "(I)Z"⟩, 32), (⟨"LineEventsModel", "told", "(IIJI)Z"⟩, 32), (⟨"LineEventsModel", "act", "(I)V"⟩, 32), (⟨"LineEventsModel", "held", "(I)I"⟩, 32), (⟨"LineEventsModel", "judge", "(I)Z"⟩, 32), (⟨"LineEventsModel", "draw", "(J)J"⟩, 32), (⟨"LineEventsModel", "note", "(II)V"⟩, 32), (⟨"LineEventsModel", "leave", "(I)V"⟩, 32), (⟨"LineEventsModel", "take", "(I)V"⟩, 32), (⟨"LineEventsModel", "causeOf", "(I)I"⟩, 32), (⟨"LineEventsModel", "within", "()J"⟩, 32)]
theorem lw_r2 : ∀ q ∈ lw_privs_2, lw_okq q := List.forall_mem_cons.mpr ⟨lw_p16, List.forall_mem_cons.mpr ⟨lw_p17, List.forall_mem_cons.mpr ⟨lw_p18, List.forall_mem_cons.mpr ⟨lw_p19, List.forall_mem_cons.mpr ⟨lw_p20, List.forall_mem_cons.mpr ⟨lw_p21, List.forall_mem_cons.mpr ⟨lw_p22, List.forall_mem_cons.mpr ⟨lw_p23, List.forall_mem_cons.mpr ⟨lw_p24, List.forall_mem_cons.mpr ⟨lw_p25, List.forall_mem_cons.mpr ⟨lw_p26, fun _ h => absurd h List.not_mem_nil⟩⟩⟩⟩⟩⟩⟩⟩⟩⟩⟩
def lw_privs : List (MethodName × Nat) := lw_privs_1 ++ (lw_privs_2)
def lw_tbl : List Cond := k2_sels lw_privs ++ tables_1
theorem lw_privs_ok : ∀ q ∈ lw_privs, lw_okq q := by
  show ∀ q ∈ lw_privs_1 ++ (lw_privs_2), lw_okq q
  exact List.forall_mem_append.mpr ⟨lw_r1, lw_r2⟩
end
section
/-! ===== BEGIN words of one list among another's, by their places ===== -/
theorem goodIn_r {big : List Cond} (ws : List Cond) (ps : List Nat) (hp : ws = ps.filterMap (fun i => big[i]?)) (h : ws.all goodWord = true) : GoodIn big ws := by
  intro w hw
  have h1 := List.all_eq_true.mp h w hw
  rw [hp] at hw
  obtain ⟨i, -, hi⟩ := List.mem_filterMap.mp hw
  have hm : w ∈ big := by first | exact List.mem_of_getElem? hi | exact List.getElem?_mem hi
  exact ⟨hm, good_of_word h1⟩
theorem goodIn_app {big a b : List Cond} (ha : GoodIn big a) (hb : GoodIn big b) : GoodIn big (a ++ b) := fun w h => (List.mem_append.mp h).elim (ha w) (hb w)
theorem goodIn_ca {big a b : List Cond} {c : Cond} (ha : GoodIn big (c :: a)) (hb : GoodIn big b) : GoodIn big (c :: (a ++ b)) := fun w h => (List.mem_cons.mp h).elim (fun e => ha w (List.mem_cons.mpr (Or.inl e))) (fun h => (List.mem_append.mp h).elim (fun h => ha w (List.mem_cons.mpr (Or.inr h))) (hb w))
theorem goodIn_sub {big ws : List Cond} (hm : ∀ w ∈ ws, w ∈ big) (h : ws.all goodWord = true) : GoodIn big ws := fun w hw => ⟨hm w hw, good_of_word (List.all_eq_true.mp h w hw)⟩
/-! ===== END ===== -/

/-! ===== BEGIN printed: names, fields, word lists, decode rows ===== -/
def RX0 : String := "LineEvents$Buffer"
def TX0 : u_T := fun k => match k with
  | 0 => ("LineEvents$Buffer", "room", "I", false)
  | 1 => ("LineEvents$Buffer", "delay", "I", false)
  | 2 => ("LineEvents$Buffer", "came", "[I", true)
  | 3 => ("LineEvents$Buffer", "first", "I", false)
  | _ => ("LineEvents$Buffer", "count", "I", false)
def tyX0 : Nat → FieldType := fun k => match k with
  | 0 => .int
  | 1 => .int
  | 2 => .array .int
  | 3 => .int
  | _ => .int
abbrev wsX00 : List Cond := u_ws RX0 TX0 5
theorem nmX0 : ∀ a, a < 5 → ∀ b, b < 5 → a ≠ b → (TX0 a).2.1 ≠ (TX0 b).2.1 := by decide +kernel
theorem tyX0_ok : ∀ k, k < 5 → parseFieldDescriptor (TX0 k).2.2.1 = some (tyX0 k) := by decide +kernel
abbrev cX0_init : ByteArray := prog_2_method_1_code
def yX0_init : MethodName := ⟨RX0, "<init>", "()V"⟩
abbrev cX0_hasRoom : ByteArray := prog_2_method_2_code
def yX0_hasRoom : MethodName := ⟨RX0, "hasRoom", "()Z"⟩
abbrev cX0_add : ByteArray := prog_2_method_3_code
def yX0_add : MethodName := ⟨RX0, "add", "(I)V"⟩
abbrev cX0_readyAt : ByteArray := prog_2_method_4_code
def yX0_readyAt : MethodName := ⟨RX0, "readyAt", "()I"⟩
abbrev cX0_isReady : ByteArray := prog_2_method_5_code
def yX0_isReady : MethodName := ⟨RX0, "isReady", "(I)Z"⟩
abbrev cX0_removeFirst : ByteArray := prog_2_method_6_code
def yX0_removeFirst : MethodName := ⟨RX0, "removeFirst", "()V"⟩
def RX1 : String := "LineEvents$Fault"
def TX1 : u_T := fun k => match k with
  | 0 => ("LineEvents$Fault", "above", "J", true)
  | 1 => ("LineEvents$Fault", "below", "J", true)
  | 2 => ("LineEvents$Fault", "tenths", "I", true)
  | _ => ("LineEvents$Fault", "next", "LLineEvents$Fault;", false)
def tyX1 : Nat → FieldType := fun k => match k with
  | 0 => .long
  | 1 => .long
  | 2 => .int
  | _ => .object "LineEvents$Fault"
abbrev wsX10 : List Cond := u_ws RX1 TX1 4
theorem nmX1 : ∀ a, a < 4 → ∀ b, b < 4 → a ≠ b → (TX1 a).2.1 ≠ (TX1 b).2.1 := by decide +kernel
theorem tyX1_ok : ∀ k, k < 4 → parseFieldDescriptor (TX1 k).2.2.1 = some (tyX1 k) := by decide +kernel
abbrev cX1_init : ByteArray := prog_3_method_1_code
def yX1_init : MethodName := ⟨RX1, "<init>", "(JJI)V"⟩
def RX2 : String := "LineEvents$Machine"
def TX2 : u_T := fun k => match k with
  | 0 => ("LineEvents$Machine", "number", "I", true)
  | 1 => ("LineEvents$Machine", "takes", "I", true)
  | 2 => ("LineEvents$Machine", "lower", "LLineEvents$Machine;", true)
  | 3 => ("LineEvents$Machine", "before", "LLineEvents$Buffer;", true)
  | 4 => ("LineEvents$Machine", "behind", "LLineEvents$Buffer;", true)
  | 5 => ("LineEvents$Machine", "followed", "Z", false)
  | 6 => ("LineEvents$Machine", "firstFault", "LLineEvents$Fault;", false)
  | 7 => ("LineEvents$Machine", "lastFault", "LLineEvents$Fault;", false)
  | 8 => ("LineEvents$Machine", "faultCount", "I", false)
  | 9 => ("LineEvents$Machine", "rowCause", "I", false)
  | 10 => ("LineEvents$Machine", "faultEnd", "I", false)
  | 11 => ("LineEvents$Machine", "hasBottle", "Z", false)
  | 12 => ("LineEvents$Machine", "worked", "I", false)
  | 13 => ("LineEvents$Machine", "judged", "Z", false)
  | 14 => ("LineEvents$Machine", "rejectedCount", "J", false)
  | _ => ("LineEvents$Machine", "times", "[J", true)
def tyX2 : Nat → FieldType := fun k => match k with
  | 0 => .int
  | 1 => .int
  | 2 => .object "LineEvents$Machine"
  | 3 => .object "LineEvents$Buffer"
  | 4 => .object "LineEvents$Buffer"
  | 5 => .boolean
  | 6 => .object "LineEvents$Fault"
  | 7 => .object "LineEvents$Fault"
  | 8 => .int
  | 9 => .int
  | 10 => .int
  | 11 => .boolean
  | 12 => .int
  | 13 => .boolean
  | 14 => .long
  | _ => .array .long
abbrev wsX20 : List Cond := u_ws RX2 TX2 16
theorem nmX2 : ∀ a, a < 16 → ∀ b, b < 16 → a ≠ b → (TX2 a).2.1 ≠ (TX2 b).2.1 := by decide +kernel
theorem tyX2_ok : ∀ k, k < 16 → parseFieldDescriptor (TX2 k).2.2.1 = some (tyX2 k) := by decide +kernel
abbrev cX2_init : ByteArray := prog_4_method_1_code
def yX2_init : MethodName := ⟨RX2, "<init>", "(IILLineEvents$Machine;LLineEvents$Machine;)V"⟩
abbrev cX2_addFault : ByteArray := prog_4_method_2_code
def yX2_addFault : MethodName := ⟨RX2, "addFault", "(LLineEvents$Fault;)V"⟩
abbrev cX2_stands : ByteArray := prog_4_method_3_code
def yX2_stands : MethodName := ⟨RX2, "stands", "(I)Z"⟩
abbrev cX2_isDone : ByteArray := prog_4_method_4_code
def yX2_isDone : MethodName := ⟨RX2, "isDone", "()Z"⟩
abbrev cX2_putAway : ByteArray := prog_4_method_5_code
def yX2_putAway : MethodName := ⟨RX2, "putAway", "()V"⟩
abbrev cX2_causeAt : ByteArray := prog_4_method_6_code
def yX2_causeAt : MethodName := ⟨RX2, "causeAt", "(I)I"⟩
abbrev cX2_quietTenths : ByteArray := prog_4_method_7_code
def yX2_quietTenths : MethodName := ⟨RX2, "quietTenths", "(I)I"⟩
abbrev cX2_spend : ByteArray := prog_4_method_8_code
def yX2_spend : MethodName := ⟨RX2, "spend", "(II)V"⟩
abbrev cX2_allTimes : ByteArray := prog_4_method_9_code
def yX2_allTimes : MethodName := ⟨RX2, "allTimes", "()J"⟩
def RX3 : String := "LineEvents$Row"
def TX3 : u_T := fun k => match k with
  | 0 => ("LineEvents$Row", "machine", "I", true)
  | 1 => ("LineEvents$Row", "from", "I", true)
  | 2 => ("LineEvents$Row", "to", "I", true)
  | 3 => ("LineEvents$Row", "cause", "I", true)
  | _ => ("LineEvents$Row", "earlier", "LLineEvents$Row;", true)
def tyX3 : Nat → FieldType := fun k => match k with
  | 0 => .int
  | 1 => .int
  | 2 => .int
  | 3 => .int
  | _ => .object "LineEvents$Row"
abbrev wsX30 : List Cond := u_ws RX3 TX3 5
theorem nmX3 : ∀ a, a < 5 → ∀ b, b < 5 → a ≠ b → (TX3 a).2.1 ≠ (TX3 b).2.1 := by decide +kernel
theorem tyX3_ok : ∀ k, k < 5 → parseFieldDescriptor (TX3 k).2.2.1 = some (tyX3 k) := by decide +kernel
abbrev cX3_init : ByteArray := prog_5_method_1_code
def yX3_init : MethodName := ⟨RX3, "<init>", "(IIIILLineEvents$Row;)V"⟩
abbrev cX3_holds : ByteArray := prog_5_method_2_code
def yX3_holds : MethodName := ⟨RX3, "holds", "(II)Z"⟩
abbrev cX3_turnBehind : ByteArray := prog_5_method_3_code
def yX3_turnBehind : MethodName := ⟨RX3, "turnBehind", "(I)I"⟩
def RX4 : String := "LineEvents"
def TX4 : u_T := fun k => match k with
  | 0 => ("LineEvents", "drawn", "J", false)
  | 1 => ("LineEvents", "now", "I", false)
  | 2 => ("LineEvents", "highest", "LLineEvents$Machine;", false)
  | 3 => ("LineEvents", "machineCount", "I", false)
  | 4 => ("LineEvents", "newestRow", "LLineEvents$Row;", false)
  | 5 => ("LineEvents", "rowCount", "I", false)
  | 6 => ("LineEvents", "rowsTurn", "I", false)
  | 7 => ("LineEvents", "events", "[I", true)
  | 8 => ("LineEvents", "eventCount", "I", false)
  | 9 => ("LineEvents", "begunCount", "J", false)
  | _ => ("LineEvents", "madeCount", "J", false)
def tyX4 : Nat → FieldType := fun k => match k with
  | 0 => .long
  | 1 => .int
  | 2 => .object "LineEvents$Machine"
  | 3 => .int
  | 4 => .object "LineEvents$Row"
  | 5 => .int
  | 6 => .int
  | 7 => .array .int
  | 8 => .int
  | 9 => .long
  | _ => .long
abbrev wsX40 : List Cond := u_ws RX4 TX4 11
theorem nmX4 : ∀ a, a < 11 → ∀ b, b < 11 → a ≠ b → (TX4 a).2.1 ≠ (TX4 b).2.1 := by decide +kernel
theorem tyX4_ok : ∀ k, k < 11 → parseFieldDescriptor (TX4 k).2.2.1 = some (tyX4 k) := by decide +kernel
abbrev cX4_init : ByteArray := prog_1_method_1_code
def yX4_init : MethodName := ⟨RX4, "<init>", "(J)V"⟩
abbrev cX4_machine : ByteArray := prog_1_method_2_code
def yX4_machine : MethodName := ⟨RX4, "machine", "(II)I"⟩
abbrev cX4_buffer : ByteArray := prog_1_method_3_code
def yX4_buffer : MethodName := ⟨RX4, "buffer", "(III)I"⟩
abbrev cX4_fault : ByteArray := prog_1_method_4_code
def yX4_fault : MethodName := ⟨RX4, "fault", "(IJJI)Z"⟩
abbrev cX4_row : ByteArray := prog_1_method_5_code
def yX4_row : MethodName := ⟨RX4, "row", "(IIII)Z"⟩
abbrev cX4_run : ByteArray := prog_1_method_6_code
def yX4_run : MethodName := ⟨RX4, "run", "(I)I"⟩
abbrev cX4_event : ByteArray := prog_1_method_7_code
def yX4_event : MethodName := ⟨RX4, "event", "(II)I"⟩
abbrev cX4_made : ByteArray := prog_1_method_8_code
def yX4_made : MethodName := ⟨RX4, "made", "()J"⟩
abbrev cX4_inside : ByteArray := prog_1_method_9_code
def yX4_inside : MethodName := ⟨RX4, "inside", "()J"⟩
abbrev cX4_lost : ByteArray := prog_1_method_10_code
def yX4_lost : MethodName := ⟨RX4, "lost", "(II)J"⟩
abbrev cX4_rejected : ByteArray := prog_1_method_11_code
def yX4_rejected : MethodName := ⟨RX4, "rejected", "(I)J"⟩
abbrev cX4_change : ByteArray := prog_1_method_12_code
def yX4_change : MethodName := ⟨RX4, "change", "(II)Z"⟩
abbrev cX4_rest : ByteArray := prog_1_method_13_code
def yX4_rest : MethodName := ⟨RX4, "rest", "(II)Z"⟩
abbrev cX4_time : ByteArray := prog_1_method_14_code
def yX4_time : MethodName := ⟨RX4, "time", "(II)J"⟩
abbrev cX4_kept : ByteArray := prog_1_method_15_code
def yX4_kept : MethodName := ⟨RX4, "kept", "()Z"⟩
abbrev cX4_within : ByteArray := prog_1_method_16_code
def yX4_within : MethodName := ⟨RX4, "within", "(III)Z"⟩
abbrev cX4_isCause : ByteArray := prog_1_method_17_code
def yX4_isCause : MethodName := ⟨RX4, "isCause", "(I)Z"⟩
abbrev cX4_find : ByteArray := prog_1_method_18_code
def yX4_find : MethodName := ⟨RX4, "find", "(I)LLineEvents$Machine;"⟩
abbrev cX4_known : ByteArray := prog_1_method_19_code
def yX4_known : MethodName := ⟨RX4, "known", "(I)LLineEvents$Machine;"⟩
abbrev cX4_addRow : ByteArray := prog_1_method_20_code
def yX4_addRow : MethodName := ⟨RX4, "addRow", "(IIII)Z"⟩
abbrev cX4_lookAtRows : ByteArray := prog_1_method_21_code
def yX4_lookAtRows : MethodName := ⟨RX4, "lookAtRows", "()V"⟩
abbrev cX4_rowCauseOf : ByteArray := prog_1_method_22_code
def yX4_rowCauseOf : MethodName := ⟨RX4, "rowCauseOf", "(I)I"⟩
abbrev cX4_actAll : ByteArray := prog_1_method_23_code
def yX4_actAll : MethodName := ⟨RX4, "actAll", "()V"⟩
abbrev cX4_act : ByteArray := prog_1_method_24_code
def yX4_act : MethodName := ⟨RX4, "act", "(LLineEvents$Machine;)V"⟩
abbrev cX4_judge : ByteArray := prog_1_method_25_code
def yX4_judge : MethodName := ⟨RX4, "judge", "(LLineEvents$Machine;)V"⟩
abbrev cX4_draw : ByteArray := prog_1_method_26_code
def yX4_draw : MethodName := ⟨RX4, "draw", "(J)J"⟩
abbrev cX4_reject : ByteArray := prog_1_method_27_code
def yX4_reject : MethodName := ⟨RX4, "reject", "(LLineEvents$Machine;)V"⟩
abbrev cX4_leave : ByteArray := prog_1_method_28_code
def yX4_leave : MethodName := ⟨RX4, "leave", "(LLineEvents$Machine;)V"⟩
abbrev cX4_take : ByteArray := prog_1_method_29_code
def yX4_take : MethodName := ⟨RX4, "take", "(LLineEvents$Machine;)V"⟩
abbrev cX4_note : ByteArray := prog_1_method_30_code
def yX4_note : MethodName := ⟨RX4, "note", "(LLineEvents$Machine;I)V"⟩
abbrev cX4_quietTenths : ByteArray := prog_1_method_31_code
def yX4_quietTenths : MethodName := ⟨RX4, "quietTenths", "()I"⟩
abbrev cX4_passTime : ByteArray := prog_1_method_32_code
def yX4_passTime : MethodName := ⟨RX4, "passTime", "(I)V"⟩
def RX5 : String := "LineEventsModel"
def TX5 : u_T := fun k => match k with
  | 0 => ("LineEventsModel", "takes", "[I", true)
  | 1 => ("LineEventsModel", "before", "[I", true)
  | 2 => ("LineEventsModel", "behind", "[I", true)
  | 3 => ("LineEventsModel", "room", "[I", true)
  | 4 => ("LineEventsModel", "delay", "[I", true)
  | 5 => ("LineEventsModel", "machines", "I", false)
  | 6 => ("LineEventsModel", "bottle", "[I", true)
  | 7 => ("LineEventsModel", "worked", "[I", true)
  | 8 => ("LineEventsModel", "faultEnd", "[I", true)
  | 9 => ("LineEventsModel", "came", "[I", true)
  | 10 => ("LineEventsModel", "first", "[I", true)
  | 11 => ("LineEventsModel", "many", "[I", true)
  | 12 => ("LineEventsModel", "faultAbove", "[J", true)
  | 13 => ("LineEventsModel", "faultBelow", "[J", true)
  | 14 => ("LineEventsModel", "faultTenths", "[I", true)
  | 15 => ("LineEventsModel", "faults", "[I", true)
  | 16 => ("LineEventsModel", "rowMachine", "[I", true)
  | 17 => ("LineEventsModel", "rowFrom", "[I", true)
  | 18 => ("LineEventsModel", "rowTo", "[I", true)
  | 19 => ("LineEventsModel", "rowCause", "[I", true)
  | 20 => ("LineEventsModel", "rows", "I", false)
  | 21 => ("LineEventsModel", "times", "[J", true)
  | 22 => ("LineEventsModel", "rejects", "[J", true)
  | 23 => ("LineEventsModel", "begun", "J", false)
  | 24 => ("LineEventsModel", "made", "J", false)
  | 25 => ("LineEventsModel", "now", "I", false)
  | 26 => ("LineEventsModel", "drawn", "J", false)
  | 27 => ("LineEventsModel", "eventAt", "[I", true)
  | 28 => ("LineEventsModel", "eventMachine", "[I", true)
  | 29 => ("LineEventsModel", "eventKind", "[I", true)
  | 30 => ("LineEventsModel", "events", "I", false)
  | _ => ("LineEventsModel", "thrown", "I", false)
def tyX5 : Nat → FieldType := fun k => match k with
  | 0 => .array .int
  | 1 => .array .int
  | 2 => .array .int
  | 3 => .array .int
  | 4 => .array .int
  | 5 => .int
  | 6 => .array .int
  | 7 => .array .int
  | 8 => .array .int
  | 9 => .array .int
  | 10 => .array .int
  | 11 => .array .int
  | 12 => .array .long
  | 13 => .array .long
  | 14 => .array .int
  | 15 => .array .int
  | 16 => .array .int
  | 17 => .array .int
  | 18 => .array .int
  | 19 => .array .int
  | 20 => .int
  | 21 => .array .long
  | 22 => .array .long
  | 23 => .long
  | 24 => .long
  | 25 => .int
  | 26 => .long
  | 27 => .array .int
  | 28 => .array .int
  | 29 => .array .int
  | 30 => .int
  | _ => .int
abbrev wsX50 : List Cond := u_ws RX5 TX5 32
theorem nmX5 : ∀ a, a < 32 → ∀ b, b < 32 → a ≠ b → (TX5 a).2.1 ≠ (TX5 b).2.1 := by decide +kernel
theorem tyX5_ok : ∀ k, k < 32 → parseFieldDescriptor (TX5 k).2.2.1 = some (tyX5 k) := by decide +kernel
abbrev cX5_init : ByteArray := prog_7_method_1_code
def yX5_init : MethodName := ⟨RX5, "<init>", "(J)V"⟩
abbrev cX5_thrown : ByteArray := prog_7_method_2_code
def yX5_thrown : MethodName := ⟨RX5, "thrown", "()I"⟩
abbrev cX5_isMachine : ByteArray := prog_7_method_3_code
def yX5_isMachine : MethodName := ⟨RX5, "isMachine", "(I)Z"⟩
abbrev cX5_machine : ByteArray := prog_7_method_4_code
def yX5_machine : MethodName := ⟨RX5, "machine", "(II)I"⟩
abbrev cX5_buffer : ByteArray := prog_7_method_5_code
def yX5_buffer : MethodName := ⟨RX5, "buffer", "(III)I"⟩
abbrev cX5_fault : ByteArray := prog_7_method_6_code
def yX5_fault : MethodName := ⟨RX5, "fault", "(IJJI)Z"⟩
abbrev cX5_told : ByteArray := prog_7_method_7_code
def yX5_told : MethodName := ⟨RX5, "told", "(IIJI)Z"⟩
abbrev cX5_row : ByteArray := prog_7_method_8_code
def yX5_row : MethodName := ⟨RX5, "row", "(IIII)Z"⟩
abbrev cX5_change : ByteArray := prog_7_method_9_code
def yX5_change : MethodName := ⟨RX5, "change", "(II)Z"⟩
abbrev cX5_rest : ByteArray := prog_7_method_10_code
def yX5_rest : MethodName := ⟨RX5, "rest", "(II)Z"⟩
abbrev cX5_held : ByteArray := prog_7_method_11_code
def yX5_held : MethodName := ⟨RX5, "held", "(I)I"⟩
abbrev cX5_note : ByteArray := prog_7_method_12_code
def yX5_note : MethodName := ⟨RX5, "note", "(II)V"⟩
abbrev cX5_draw : ByteArray := prog_7_method_13_code
def yX5_draw : MethodName := ⟨RX5, "draw", "(J)J"⟩
abbrev cX5_judge : ByteArray := prog_7_method_14_code
def yX5_judge : MethodName := ⟨RX5, "judge", "(I)Z"⟩
abbrev cX5_leave : ByteArray := prog_7_method_15_code
def yX5_leave : MethodName := ⟨RX5, "leave", "(I)V"⟩
abbrev cX5_take : ByteArray := prog_7_method_16_code
def yX5_take : MethodName := ⟨RX5, "take", "(I)V"⟩
abbrev cX5_act : ByteArray := prog_7_method_17_code
def yX5_act : MethodName := ⟨RX5, "act", "(I)V"⟩
abbrev cX5_causeOf : ByteArray := prog_7_method_18_code
def yX5_causeOf : MethodName := ⟨RX5, "causeOf", "(I)I"⟩
abbrev cX5_run : ByteArray := prog_7_method_19_code
def yX5_run : MethodName := ⟨RX5, "run", "(I)I"⟩
abbrev cX5_event : ByteArray := prog_7_method_20_code
def yX5_event : MethodName := ⟨RX5, "event", "(II)I"⟩
abbrev cX5_made : ByteArray := prog_7_method_21_code
def yX5_made : MethodName := ⟨RX5, "made", "()J"⟩
abbrev cX5_within : ByteArray := prog_7_method_22_code
def yX5_within : MethodName := ⟨RX5, "within", "()J"⟩
abbrev cX5_inside : ByteArray := prog_7_method_23_code
def yX5_inside : MethodName := ⟨RX5, "inside", "()J"⟩
abbrev cX5_lost : ByteArray := prog_7_method_24_code
def yX5_lost : MethodName := ⟨RX5, "lost", "(II)J"⟩
abbrev cX5_rejected : ByteArray := prog_7_method_25_code
def yX5_rejected : MethodName := ⟨RX5, "rejected", "(I)J"⟩
abbrev cX5_time : ByteArray := prog_7_method_26_code
def yX5_time : MethodName := ⟨RX5, "time", "(II)J"⟩
abbrev cX5_kept : ByteArray := prog_7_method_27_code
def yX5_kept : MethodName := ⟨RX5, "kept", "()Z"⟩
def RJx00060 : String := "java/lang/ArrayIndexOutOfBoundsException"
def TJx00060 : u_T := fun k => match k with
  | 0 => ("java/lang/Throwable", "cause", "Ljava/lang/Throwable;", false)
  | 1 => ("java/lang/Throwable", "stackTrace", "[Ljava/lang/StackTraceElement;", false)
  | 2 => ("java/lang/Throwable", "suppressedExceptions", "Ljava/util/List;", false)
  | 3 => ("java/lang/Throwable", "detailMessage", "Ljava/lang/String;", false)
  | 4 => ("java/lang/Throwable", "backtrace", "Ljava/lang/Object;", false)
  | _ => ("java/lang/Throwable", "depth", "I", false)
def tyJx00060 : Nat → FieldType := fun k => match k with
  | 0 => .object "java/lang/Throwable"
  | 1 => .array (.object "java/lang/StackTraceElement")
  | 2 => .object "java/util/List"
  | 3 => .object "java/lang/String"
  | 4 => .object "java/lang/Object"
  | _ => .int
abbrev wsJx000600 : List Cond := u_ws RJx00060 TJx00060 6
theorem nmJx00060 : ∀ a, a < 6 → ∀ b, b < 6 → a ≠ b → (TJx00060 a).2.1 ≠ (TJx00060 b).2.1 := by decide +kernel
theorem tyJx00060_ok : ∀ k, k < 6 → parseFieldDescriptor (TJx00060 k).2.2.1 = some (tyJx00060 k) := by decide +kernel
abbrev cJx00060_init_a7421 : ByteArray := prog_8_method_2_code
def yJx00060_init_a7421 : MethodName := ⟨RJx00060, "<init>", "(Ljava/lang/String;)V"⟩
def RJ9 : String := "java/lang/Math"
def TJ9 : u_T := fun k => match k with
  | _ => ("", "", "", false)
def tyJ9 : Nat → FieldType := fun k => match k with
  | _ => .int
abbrev wsJ90 : List Cond := u_ws RJ9 TJ9 0
theorem nmJ9 : ∀ a, a < 0 → ∀ b, b < 0 → a ≠ b → (TJ9 a).2.1 ≠ (TJ9 b).2.1 := by decide +kernel
theorem tyJ9_ok : ∀ k, k < 0 → parseFieldDescriptor (TJ9 k).2.2.1 = some (tyJ9 k) := by decide +kernel
abbrev cJ9_max_7cf53 : ByteArray := prog_11_method_65_code
def yJ9_max_7cf53 : MethodName := ⟨RJ9, "max", "(II)I"⟩
abbrev cJ9_min_7cf53 : ByteArray := prog_11_method_69_code
def yJ9_min_7cf53 : MethodName := ⟨RJ9, "min", "(II)I"⟩
def RJ0 : String := "java/lang/String"
def TJ0 : u_T := fun k => match k with
  | _ => ("", "", "", false)
def tyJ0 : Nat → FieldType := fun k => match k with
  | _ => .int
abbrev wsJ00 : List Cond := u_ws RJ0 TJ0 0
theorem nmJ0 : ∀ a, a < 0 → ∀ b, b < 0 → a ≠ b → (TJ0 a).2.1 ≠ (TJ0 b).2.1 := by decide +kernel
theorem tyJ0_ok : ∀ k, k < 0 → parseFieldDescriptor (TJ0 k).2.2.1 = some (tyJ0 k) := by decide +kernel
def RL : String := "LineEventsLaw"
abbrev cL_cell : ByteArray := method_2_code
def yL_cell : MethodName := ⟨RL, "cell", "([II)I"⟩
abbrev cL_lost : ByteArray := method_3_code
def yL_lost : MethodName := ⟨RL, "lost", "(LLineEvents;II[J)I"⟩
abbrev cL_rejected : ByteArray := method_4_code
def yL_rejected : MethodName := ⟨RL, "rejected", "(LLineEvents;I[J)I"⟩
abbrev cL_time : ByteArray := method_5_code
def yL_time : MethodName := ⟨RL, "time", "(LLineEvents;II[J)I"⟩
abbrev cL_law : ByteArray := code
def yL_law : MethodName := ⟨RL, "law", "([I)Z"⟩
def wsX0_init : List Cond := .code yX0_init cX0_init 1 none :: ([.methodLink RX0 3 objectInit, .instanceMethod objectInit, .code objectInit ⟨#[0xb1]⟩ 1 none, .fieldLink RX0 9 "LineEvents$Buffer" "room" "I", .arrayClass .int, .fieldLink RX0 15 "LineEvents$Buffer" "came" "[I"] ++ wsX00)
def wsX0_hasRoom : List Cond := .code yX0_hasRoom cX0_hasRoom 1 (some .boolean) :: ([.fieldLink RX0 19 "LineEvents$Buffer" "count" "I", .fieldLink RX0 9 "LineEvents$Buffer" "room" "I"] ++ wsX00)
def wsX0_add : List Cond := .code yX0_add cX0_add 2 none :: ([.fieldLink RX0 15 "LineEvents$Buffer" "came" "[I", .fieldLink RX0 22 "LineEvents$Buffer" "first" "I", .fieldLink RX0 19 "LineEvents$Buffer" "count" "I"] ++ wsX00)
def wsX0_readyAt : List Cond := .code yX0_readyAt cX0_readyAt 1 (some .int) :: ([.fieldLink RX0 19 "LineEvents$Buffer" "count" "I", .fieldLink RX0 15 "LineEvents$Buffer" "came" "[I", .fieldLink RX0 22 "LineEvents$Buffer" "first" "I", .fieldLink RX0 25 "LineEvents$Buffer" "delay" "I", .methodLink RX0 28 Lib.Math.max.name, .static Lib.Math.max.name, .initialized "java/lang/Math", .code Lib.Math.max.name Lib.Math.max.code 2 (some .int), .constant RX0 34 (1000000000)] ++ wsX00)
def wsX0_isReady : List Cond := .code yX0_isReady cX0_isReady 2 (some .boolean) :: ([.fieldLink RX0 19 "LineEvents$Buffer" "count" "I", .methodLink RX0 35 yX0_readyAt, .instanceMethod yX0_readyAt, .selects RX0 yX0_readyAt yX0_readyAt, .initialized RX0, .code yX0_readyAt cX0_readyAt 1 (some .int), .fieldLink RX0 15 "LineEvents$Buffer" "came" "[I", .fieldLink RX0 22 "LineEvents$Buffer" "first" "I", .fieldLink RX0 25 "LineEvents$Buffer" "delay" "I", .methodLink RX0 28 Lib.Math.max.name, .static Lib.Math.max.name, .initialized "java/lang/Math", .code Lib.Math.max.name Lib.Math.max.code 2 (some .int), .constant RX0 34 (1000000000)] ++ wsX00)
def wsX0_removeFirst : List Cond := .code yX0_removeFirst cX0_removeFirst 1 none :: ([.fieldLink RX0 22 "LineEvents$Buffer" "first" "I", .fieldLink RX0 19 "LineEvents$Buffer" "count" "I"] ++ wsX00)
def wsX1_init : List Cond := .code yX1_init cX1_init 6 none :: ([.methodLink RX1 1 objectInit, .instanceMethod objectInit, .code objectInit ⟨#[0xb1]⟩ 1 none, .fieldLink RX1 7 "LineEvents$Fault" "above" "J", .fieldLink RX1 13 "LineEvents$Fault" "below" "J", .fieldLink RX1 16 "LineEvents$Fault" "tenths" "I"] ++ wsX10)
def wsX2_init : List Cond := .code yX2_init cX2_init 5 none :: ([.methodLink RX2 3 objectInit, .instanceMethod objectInit, .code objectInit ⟨#[0xb1]⟩ 1 none, .classLink RX2 9 RX0, .instantiable RX0 5, .initialized RX0, .fieldLink RX2 12 "LineEvents$Machine" "behind" "LLineEvents$Buffer;", .fieldLink RX2 18 "LineEvents$Machine" "rowCause" "I", .arrayClass .long, .fieldLink RX2 22 "LineEvents$Machine" "times" "[J", .fieldLink RX2 26 "LineEvents$Machine" "number" "I", .fieldLink RX2 29 "LineEvents$Machine" "takes" "I", .fieldLink RX2 32 "LineEvents$Machine" "lower" "LLineEvents$Machine;", .fieldLink RX2 36 "LineEvents$Machine" "before" "LLineEvents$Buffer;", .instanceMethod yX0_init, .code yX0_init cX0_init 1 none, .methodLink RX0 3 objectInit, .fieldLink RX0 9 "LineEvents$Buffer" "room" "I", .arrayClass .int, .fieldLink RX0 15 "LineEvents$Buffer" "came" "[I"] ++ wsX00 ++ wsX20)
def wsX2_addFault : List Cond := .code yX2_addFault cX2_addFault 2 none :: ([.fieldLink RX2 39 "LineEvents$Machine" "lastFault" "LLineEvents$Fault;", .fieldLink RX2 43 "LineEvents$Machine" "firstFault" "LLineEvents$Fault;", .fieldLink RX2 46 "LineEvents$Fault" "next" "LLineEvents$Fault;", .fieldLink RX2 51 "LineEvents$Machine" "faultCount" "I"] ++ wsX20 ++ wsX10)
def wsX2_stands : List Cond := .code yX2_stands cX2_stands 2 (some .boolean) :: ([.fieldLink RX2 18 "LineEvents$Machine" "rowCause" "I", .fieldLink RX2 54 "LineEvents$Machine" "faultEnd" "I"] ++ wsX20)
def wsX2_isDone : List Cond := .code yX2_isDone cX2_isDone 1 (some .boolean) :: ([.fieldLink RX2 57 "LineEvents$Machine" "hasBottle" "Z", .fieldLink RX2 61 "LineEvents$Machine" "worked" "I", .fieldLink RX2 29 "LineEvents$Machine" "takes" "I"] ++ wsX20)
def wsX2_putAway : List Cond := .code yX2_putAway cX2_putAway 1 none :: ([.fieldLink RX2 57 "LineEvents$Machine" "hasBottle" "Z", .fieldLink RX2 64 "LineEvents$Machine" "judged" "Z", .fieldLink RX2 61 "LineEvents$Machine" "worked" "I"] ++ wsX20)
def wsX2_causeAt : List Cond := .code yX2_causeAt cX2_causeAt 2 (some .int) :: ([.fieldLink RX2 18 "LineEvents$Machine" "rowCause" "I", .fieldLink RX2 54 "LineEvents$Machine" "faultEnd" "I", .fieldLink RX2 57 "LineEvents$Machine" "hasBottle" "Z", .fieldLink RX2 61 "LineEvents$Machine" "worked" "I", .fieldLink RX2 29 "LineEvents$Machine" "takes" "I"] ++ wsX20)
def wsX2_quietTenths_r1 : List Cond := [Cond.fieldLink RX2 29 "LineEvents$Machine" "takes" "I", Cond.fieldLink RX2 61 "LineEvents$Machine" "worked" "I", Cond.fieldLink RX2 54 "LineEvents$Machine" "faultEnd" "I", Cond.fieldLink RX2 36 "LineEvents$Machine" "before" "LLineEvents$Buffer;", Cond.constant RX2 75 (1000000000), Cond.methodLink RX2 67 yX2_causeAt, Cond.instanceMethod yX2_causeAt, Cond.selects RX2 yX2_causeAt yX2_causeAt, Cond.initialized RX2, Cond.code yX2_causeAt cX2_causeAt 2 (some .int), Cond.fieldLink RX2 18 "LineEvents$Machine" "rowCause" "I", Cond.fieldLink RX2 57 "LineEvents$Machine" "hasBottle" "Z", Cond.methodLink RX2 71 yX0_readyAt, Cond.instanceMethod yX0_readyAt, Cond.selects RX0 yX0_readyAt yX0_readyAt, Cond.initialized RX0, Cond.code yX0_readyAt cX0_readyAt 1 (some .int), Cond.fieldLink RX0 19 "LineEvents$Buffer" "count" "I", Cond.fieldLink RX0 15 "LineEvents$Buffer" "came" "[I", Cond.fieldLink RX0 22 "LineEvents$Buffer" "first" "I", Cond.fieldLink RX0 25 "LineEvents$Buffer" "delay" "I", Cond.methodLink RX0 28 Lib.Math.max.name, Cond.static Lib.Math.max.name, Cond.initialized "java/lang/Math"]
def wsX2_quietTenths_r2 : List Cond := [Cond.code Lib.Math.max.name Lib.Math.max.code 2 (some .int), Cond.constant RX0 34 (1000000000)]
def wsX2_quietTenths : List Cond := .code yX2_quietTenths cX2_quietTenths 2 (some .int) :: ((wsX2_quietTenths_r1 ++ wsX2_quietTenths_r2) ++ wsX20 ++ wsX00)
def wsX2_spend : List Cond := .code yX2_spend cX2_spend 3 none :: ([.fieldLink RX2 22 "LineEvents$Machine" "times" "[J", .fieldLink RX2 61 "LineEvents$Machine" "worked" "I"] ++ wsX20)
def wsX2_allTimes : List Cond := .code yX2_allTimes cX2_allTimes 8 (some .long) :: ([.fieldLink RX2 22 "LineEvents$Machine" "times" "[J"] ++ wsX20)
def wsX3_init : List Cond := .code yX3_init cX3_init 6 none :: ([.methodLink RX3 3 objectInit, .instanceMethod objectInit, .code objectInit ⟨#[0xb1]⟩ 1 none, .fieldLink RX3 9 "LineEvents$Row" "machine" "I", .fieldLink RX3 15 "LineEvents$Row" "from" "I", .fieldLink RX3 18 "LineEvents$Row" "to" "I", .fieldLink RX3 21 "LineEvents$Row" "cause" "I", .fieldLink RX3 24 "LineEvents$Row" "earlier" "LLineEvents$Row;"] ++ wsX30)
def wsX3_holds : List Cond := .code yX3_holds cX3_holds 3 (some .boolean) :: ([.fieldLink RX3 9 "LineEvents$Row" "machine" "I", .fieldLink RX3 15 "LineEvents$Row" "from" "I", .fieldLink RX3 18 "LineEvents$Row" "to" "I"] ++ wsX30)
def wsX3_turnBehind : List Cond := .code yX3_turnBehind cX3_turnBehind 2 (some .int) :: ([.fieldLink RX3 15 "LineEvents$Row" "from" "I", .fieldLink RX3 18 "LineEvents$Row" "to" "I", .constant RX3 28 (1000000000)] ++ wsX30)
def wsX4_init : List Cond := .code yX4_init cX4_init 3 none :: ([.methodLink RX4 1 objectInit, .instanceMethod objectInit, .code objectInit ⟨#[0xb1]⟩ 1 none, .arrayClass .int, .fieldLink RX4 9 "LineEvents" "events" "[I", .fieldLink RX4 13 "LineEvents" "drawn" "J"] ++ wsX40)
def wsX4_find : List Cond := .code yX4_find cX4_find 3 (some (.object "LineEvents$Machine")) :: ([.fieldLink RX4 38 "LineEvents" "highest" "LLineEvents$Machine;", .fieldLink RX4 45 "LineEvents$Machine" "number" "I", .fieldLink RX4 118 "LineEvents$Machine" "lower" "LLineEvents$Machine;"] ++ wsX40 ++ wsX20)
def wsX4_within : List Cond := .code yX4_within cX4_within 3 (some .boolean) :: ([])
def wsX4_machine_r1 : List Cond := [Cond.fieldLink RX4 21 "LineEvents$Machine" "followed" "Z", Cond.fieldLink RX4 27 "LineEvents" "now" "I", Cond.fieldLink RX4 35 "LineEvents" "machineCount" "I", Cond.classLink RX4 22 RX2, Cond.instantiable RX2 16, Cond.initialized RX2, Cond.fieldLink RX4 38 "LineEvents" "highest" "LLineEvents$Machine;", Cond.fieldLink RX4 45 "LineEvents$Machine" "number" "I", Cond.methodLink RX4 17 yX4_find, Cond.instanceMethod yX4_find, Cond.selects RX4 yX4_find yX4_find, Cond.initialized RX4, Cond.code yX4_find cX4_find 3 (some (.object "LineEvents$Machine")), Cond.fieldLink RX4 118 "LineEvents$Machine" "lower" "LLineEvents$Machine;", Cond.methodLink RX4 31 yX4_within, Cond.static yX4_within, Cond.code yX4_within cX4_within 3 (some .boolean), Cond.methodLink RX4 42 yX2_init, Cond.instanceMethod yX2_init, Cond.code yX2_init cX2_init 5 none, Cond.methodLink RX2 3 objectInit, Cond.instanceMethod objectInit, Cond.code objectInit ⟨#[0xb1]⟩ 1 none, Cond.classLink RX2 9 RX0]
def wsX4_machine_r2 : List Cond := [Cond.instantiable RX0 5, Cond.initialized RX0, Cond.fieldLink RX2 12 "LineEvents$Machine" "behind" "LLineEvents$Buffer;", Cond.fieldLink RX2 18 "LineEvents$Machine" "rowCause" "I", Cond.arrayClass .long, Cond.fieldLink RX2 22 "LineEvents$Machine" "times" "[J", Cond.fieldLink RX2 26 "LineEvents$Machine" "number" "I", Cond.fieldLink RX2 29 "LineEvents$Machine" "takes" "I", Cond.fieldLink RX2 32 "LineEvents$Machine" "lower" "LLineEvents$Machine;", Cond.fieldLink RX2 36 "LineEvents$Machine" "before" "LLineEvents$Buffer;", Cond.instanceMethod yX0_init, Cond.code yX0_init cX0_init 1 none, Cond.methodLink RX0 3 objectInit, Cond.fieldLink RX0 9 "LineEvents$Buffer" "room" "I", Cond.arrayClass .int, Cond.fieldLink RX0 15 "LineEvents$Buffer" "came" "[I"]
def wsX4_machine : List Cond := .code yX4_machine cX4_machine 5 (some .int) :: ((wsX4_machine_r1 ++ wsX4_machine_r2) ++ wsX20 ++ wsX40 ++ wsX00)
def wsX4_buffer : List Cond := .code yX4_buffer cX4_buffer 6 (some .int) :: ([.fieldLink RX4 27 "LineEvents" "now" "I", .fieldLink RX4 48 "LineEvents$Machine" "behind" "LLineEvents$Buffer;", .fieldLink RX4 52 "LineEvents$Buffer" "room" "I", .fieldLink RX4 57 "LineEvents$Buffer" "delay" "I", .methodLink RX4 17 yX4_find, .instanceMethod yX4_find, .selects RX4 yX4_find yX4_find, .initialized RX4, .code yX4_find cX4_find 3 (some (.object "LineEvents$Machine")), .fieldLink RX4 38 "LineEvents" "highest" "LLineEvents$Machine;", .fieldLink RX4 45 "LineEvents$Machine" "number" "I", .fieldLink RX4 118 "LineEvents$Machine" "lower" "LLineEvents$Machine;", .methodLink RX4 31 yX4_within, .static yX4_within, .code yX4_within cX4_within 3 (some .boolean)] ++ wsX40 ++ wsX20 ++ wsX00)
def wsX4_fault_r1 : List Cond := [Cond.fieldLink RX4 27 "LineEvents" "now" "I", Cond.fieldLink RX4 60 "LineEvents$Machine" "faultCount" "I", Cond.constantLong RX4 63 (1000000), Cond.constant RX4 65 (100000), Cond.classLink RX4 66 RX1, Cond.instantiable RX1 4, Cond.initialized RX1, Cond.methodLink RX4 17 yX4_find, Cond.instanceMethod yX4_find, Cond.selects RX4 yX4_find yX4_find, Cond.initialized RX4, Cond.code yX4_find cX4_find 3 (some (.object "LineEvents$Machine")), Cond.fieldLink RX4 38 "LineEvents" "highest" "LLineEvents$Machine;", Cond.fieldLink RX4 45 "LineEvents$Machine" "number" "I", Cond.fieldLink RX4 118 "LineEvents$Machine" "lower" "LLineEvents$Machine;", Cond.methodLink RX4 31 yX4_within, Cond.static yX4_within, Cond.code yX4_within cX4_within 3 (some .boolean), Cond.methodLink RX4 68 yX1_init, Cond.instanceMethod yX1_init, Cond.code yX1_init cX1_init 6 none, Cond.methodLink RX1 1 objectInit, Cond.instanceMethod objectInit, Cond.code objectInit ⟨#[0xb1]⟩ 1 none]
def wsX4_fault_r2 : List Cond := [Cond.fieldLink RX1 7 "LineEvents$Fault" "above" "J", Cond.fieldLink RX1 13 "LineEvents$Fault" "below" "J", Cond.fieldLink RX1 16 "LineEvents$Fault" "tenths" "I", Cond.methodLink RX4 71 yX2_addFault, Cond.instanceMethod yX2_addFault, Cond.selects RX2 yX2_addFault yX2_addFault, Cond.initialized RX2, Cond.code yX2_addFault cX2_addFault 2 none, Cond.fieldLink RX2 39 "LineEvents$Machine" "lastFault" "LLineEvents$Fault;", Cond.fieldLink RX2 43 "LineEvents$Machine" "firstFault" "LLineEvents$Fault;", Cond.fieldLink RX2 46 "LineEvents$Fault" "next" "LLineEvents$Fault;", Cond.fieldLink RX2 51 "LineEvents$Machine" "faultCount" "I"]
def wsX4_fault : List Cond := .code yX4_fault cX4_fault 8 (some .boolean) :: ((wsX4_fault_r1 ++ wsX4_fault_r2) ++ wsX40 ++ wsX20 ++ wsX10)
def wsX4_addRow : List Cond := .code yX4_addRow cX4_addRow 5 (some .boolean) :: ([.fieldLink RX4 158 "LineEvents" "rowCount" "I", .fieldLink RX4 27 "LineEvents" "now" "I", .constant RX4 79 (1000000000), .classLink RX4 161 RX3, .instantiable RX3 5, .initialized RX3, .fieldLink RX4 163 "LineEvents" "newestRow" "LLineEvents$Row;", .fieldLink RX4 83 "LineEvents" "rowsTurn" "I", .methodLink RX4 167 yX3_init, .instanceMethod yX3_init, .code yX3_init cX3_init 6 none, .methodLink RX3 3 objectInit, .instanceMethod objectInit, .code objectInit ⟨#[0xb1]⟩ 1 none, .fieldLink RX3 9 "LineEvents$Row" "machine" "I", .fieldLink RX3 15 "LineEvents$Row" "from" "I", .fieldLink RX3 18 "LineEvents$Row" "to" "I", .fieldLink RX3 21 "LineEvents$Row" "cause" "I", .fieldLink RX3 24 "LineEvents$Row" "earlier" "LLineEvents$Row;"] ++ wsX40 ++ wsX30)
def wsX4_row_r1 : List Cond := [Cond.methodLink RX4 17 yX4_find, Cond.instanceMethod yX4_find, Cond.selects RX4 yX4_find yX4_find, Cond.initialized RX4, Cond.code yX4_find cX4_find 3 (some (.object "LineEvents$Machine")), Cond.fieldLink RX4 38 "LineEvents" "highest" "LLineEvents$Machine;", Cond.fieldLink RX4 45 "LineEvents$Machine" "number" "I", Cond.fieldLink RX4 118 "LineEvents$Machine" "lower" "LLineEvents$Machine;", Cond.methodLink RX4 31 yX4_within, Cond.static yX4_within, Cond.code yX4_within cX4_within 3 (some .boolean), Cond.methodLink RX4 75 yX4_addRow, Cond.instanceMethod yX4_addRow, Cond.selects RX4 yX4_addRow yX4_addRow, Cond.code yX4_addRow cX4_addRow 5 (some .boolean), Cond.fieldLink RX4 158 "LineEvents" "rowCount" "I", Cond.fieldLink RX4 27 "LineEvents" "now" "I", Cond.constant RX4 79 (1000000000), Cond.classLink RX4 161 RX3, Cond.instantiable RX3 5, Cond.initialized RX3, Cond.fieldLink RX4 163 "LineEvents" "newestRow" "LLineEvents$Row;", Cond.fieldLink RX4 83 "LineEvents" "rowsTurn" "I", Cond.methodLink RX4 167 yX3_init]
def wsX4_row_r2 : List Cond := [Cond.instanceMethod yX3_init, Cond.code yX3_init cX3_init 6 none, Cond.methodLink RX3 3 objectInit, Cond.instanceMethod objectInit, Cond.code objectInit ⟨#[0xb1]⟩ 1 none, Cond.fieldLink RX3 9 "LineEvents$Row" "machine" "I", Cond.fieldLink RX3 15 "LineEvents$Row" "from" "I", Cond.fieldLink RX3 18 "LineEvents$Row" "to" "I", Cond.fieldLink RX3 21 "LineEvents$Row" "cause" "I", Cond.fieldLink RX3 24 "LineEvents$Row" "earlier" "LLineEvents$Row;"]
def wsX4_row : List Cond := .code yX4_row cX4_row 5 (some .boolean) :: ((wsX4_row_r1 ++ wsX4_row_r2) ++ wsX40 ++ wsX20 ++ wsX30)
def wsX4_rowCauseOf : List Cond := .code yX4_rowCauseOf cX4_rowCauseOf 4 (some .int) :: ([.fieldLink RX4 163 "LineEvents" "newestRow" "LLineEvents$Row;", .fieldLink RX4 27 "LineEvents" "now" "I", .fieldLink RX4 187 "LineEvents$Row" "cause" "I", .fieldLink RX4 180 "LineEvents$Row" "earlier" "LLineEvents$Row;", .methodLink RX4 183 yX3_holds, .instanceMethod yX3_holds, .selects RX3 yX3_holds yX3_holds, .initialized RX3, .code yX3_holds cX3_holds 3 (some .boolean), .fieldLink RX3 9 "LineEvents$Row" "machine" "I", .fieldLink RX3 15 "LineEvents$Row" "from" "I", .fieldLink RX3 18 "LineEvents$Row" "to" "I"] ++ wsX40 ++ wsX30)
def wsX4_lookAtRows_r1 : List Cond := [Cond.fieldLink RX4 38 "LineEvents" "highest" "LLineEvents$Machine;", Cond.fieldLink RX4 45 "LineEvents$Machine" "number" "I", Cond.fieldLink RX4 174 "LineEvents$Machine" "rowCause" "I", Cond.fieldLink RX4 118 "LineEvents$Machine" "lower" "LLineEvents$Machine;", Cond.constant RX4 79 (1000000000), Cond.fieldLink RX4 83 "LineEvents" "rowsTurn" "I", Cond.fieldLink RX4 163 "LineEvents" "newestRow" "LLineEvents$Row;", Cond.fieldLink RX4 27 "LineEvents" "now" "I", Cond.methodLink RX4 96 Lib.Math.min.name, Cond.static Lib.Math.min.name, Cond.initialized "java/lang/Math", Cond.code Lib.Math.min.name Lib.Math.min.code 2 (some .int), Cond.fieldLink RX4 180 "LineEvents$Row" "earlier" "LLineEvents$Row;", Cond.methodLink RX4 170 yX4_rowCauseOf, Cond.instanceMethod yX4_rowCauseOf, Cond.selects RX4 yX4_rowCauseOf yX4_rowCauseOf, Cond.initialized RX4, Cond.code yX4_rowCauseOf cX4_rowCauseOf 4 (some .int), Cond.fieldLink RX4 187 "LineEvents$Row" "cause" "I", Cond.methodLink RX4 183 yX3_holds, Cond.instanceMethod yX3_holds, Cond.selects RX3 yX3_holds yX3_holds, Cond.initialized RX3, Cond.code yX3_holds cX3_holds 3 (some .boolean)]
def wsX4_lookAtRows_r2 : List Cond := [Cond.fieldLink RX3 9 "LineEvents$Row" "machine" "I", Cond.fieldLink RX3 15 "LineEvents$Row" "from" "I", Cond.fieldLink RX3 18 "LineEvents$Row" "to" "I", Cond.methodLink RX4 177 yX3_turnBehind, Cond.instanceMethod yX3_turnBehind, Cond.selects RX3 yX3_turnBehind yX3_turnBehind, Cond.code yX3_turnBehind cX3_turnBehind 2 (some .int), Cond.constant RX3 28 (1000000000)]
def wsX4_lookAtRows : List Cond := .code yX4_lookAtRows cX4_lookAtRows 2 none :: ((wsX4_lookAtRows_r1 ++ wsX4_lookAtRows_r2) ++ wsX40 ++ wsX20 ++ wsX30)
def wsX4_draw : List Cond := .code yX4_draw cX4_draw 3 (some .long) :: ([.fieldLink RX4 13 "LineEvents" "drawn" "J", .constantLong RX4 243 (6364136223846793005), .constantLong RX4 245 (1442695040888963407)] ++ wsX40)
def wsX4_note : List Cond := .code yX4_note cX4_note 4 none :: ([.fieldLink RX4 80 "LineEvents" "eventCount" "I", .fieldLink RX4 9 "LineEvents" "events" "[I", .fieldLink RX4 27 "LineEvents" "now" "I", .fieldLink RX4 45 "LineEvents$Machine" "number" "I"] ++ wsX40 ++ wsX20)
def wsX4_reject : List Cond := .code yX4_reject cX4_reject 2 none :: ([.fieldLink RX4 137 "LineEvents$Machine" "rejectedCount" "J", .methodLink RX4 247 yX2_putAway, .instanceMethod yX2_putAway, .selects RX2 yX2_putAway yX2_putAway, .initialized RX2, .code yX2_putAway cX2_putAway 1 none, .fieldLink RX2 57 "LineEvents$Machine" "hasBottle" "Z", .fieldLink RX2 64 "LineEvents$Machine" "judged" "Z", .fieldLink RX2 61 "LineEvents$Machine" "worked" "I", .methodLink RX4 239 yX4_note, .instanceMethod yX4_note, .selects RX4 yX4_note yX4_note, .initialized RX4, .code yX4_note cX4_note 4 none, .fieldLink RX4 80 "LineEvents" "eventCount" "I", .fieldLink RX4 9 "LineEvents" "events" "[I", .fieldLink RX4 27 "LineEvents" "now" "I", .fieldLink RX4 45 "LineEvents$Machine" "number" "I"] ++ wsX20 ++ wsX40)
def wsX4_judge_r1 : List Cond := [Cond.fieldLink RX4 213 "LineEvents$Machine" "firstFault" "LLineEvents$Fault;", Cond.fieldLink RX4 217 "LineEvents$Fault" "below" "J", Cond.fieldLink RX4 224 "LineEvents$Fault" "above" "J", Cond.fieldLink RX4 227 "LineEvents$Fault" "tenths" "I", Cond.methodLink RX4 102 Lib.Math.max.name, Cond.static Lib.Math.max.name, Cond.initialized "java/lang/Math", Cond.code Lib.Math.max.name Lib.Math.max.code 2 (some .int), Cond.fieldLink RX4 233 "LineEvents$Fault" "next" "LLineEvents$Fault;", Cond.fieldLink RX4 201 "LineEvents$Machine" "judged" "Z", Cond.fieldLink RX4 27 "LineEvents" "now" "I", Cond.fieldLink RX4 236 "LineEvents$Machine" "faultEnd" "I", Cond.methodLink RX4 220 yX4_draw, Cond.instanceMethod yX4_draw, Cond.selects RX4 yX4_draw yX4_draw, Cond.initialized RX4, Cond.code yX4_draw cX4_draw 3 (some .long), Cond.fieldLink RX4 13 "LineEvents" "drawn" "J", Cond.constantLong RX4 243 (6364136223846793005), Cond.constantLong RX4 245 (1442695040888963407), Cond.methodLink RX4 230 yX4_reject, Cond.instanceMethod yX4_reject, Cond.selects RX4 yX4_reject yX4_reject, Cond.code yX4_reject cX4_reject 2 none]
def wsX4_judge_r2 : List Cond := [Cond.fieldLink RX4 137 "LineEvents$Machine" "rejectedCount" "J", Cond.methodLink RX4 247 yX2_putAway, Cond.instanceMethod yX2_putAway, Cond.selects RX2 yX2_putAway yX2_putAway, Cond.initialized RX2, Cond.code yX2_putAway cX2_putAway 1 none, Cond.fieldLink RX2 57 "LineEvents$Machine" "hasBottle" "Z", Cond.fieldLink RX2 64 "LineEvents$Machine" "judged" "Z", Cond.fieldLink RX2 61 "LineEvents$Machine" "worked" "I", Cond.methodLink RX4 239 yX4_note, Cond.instanceMethod yX4_note, Cond.selects RX4 yX4_note yX4_note, Cond.code yX4_note cX4_note 4 none, Cond.fieldLink RX4 80 "LineEvents" "eventCount" "I", Cond.fieldLink RX4 9 "LineEvents" "events" "[I", Cond.fieldLink RX4 45 "LineEvents$Machine" "number" "I"]
def wsX4_judge : List Cond := .code yX4_judge cX4_judge 4 none :: ((wsX4_judge_r1 ++ wsX4_judge_r2) ++ wsX20 ++ wsX10 ++ wsX40)
def wsX4_leave_r1 : List Cond := [Cond.fieldLink RX4 21 "LineEvents$Machine" "followed" "Z", Cond.fieldLink RX4 109 "LineEvents" "madeCount" "J", Cond.fieldLink RX4 48 "LineEvents$Machine" "behind" "LLineEvents$Buffer;", Cond.fieldLink RX4 27 "LineEvents" "now" "I", Cond.methodLink RX4 250 yX0_hasRoom, Cond.instanceMethod yX0_hasRoom, Cond.selects RX0 yX0_hasRoom yX0_hasRoom, Cond.initialized RX0, Cond.code yX0_hasRoom cX0_hasRoom 1 (some .boolean), Cond.fieldLink RX0 19 "LineEvents$Buffer" "count" "I", Cond.fieldLink RX0 9 "LineEvents$Buffer" "room" "I", Cond.methodLink RX4 253 yX0_add, Cond.instanceMethod yX0_add, Cond.selects RX0 yX0_add yX0_add, Cond.code yX0_add cX0_add 2 none, Cond.fieldLink RX0 15 "LineEvents$Buffer" "came" "[I", Cond.fieldLink RX0 22 "LineEvents$Buffer" "first" "I", Cond.methodLink RX4 247 yX2_putAway, Cond.instanceMethod yX2_putAway, Cond.selects RX2 yX2_putAway yX2_putAway, Cond.initialized RX2, Cond.code yX2_putAway cX2_putAway 1 none, Cond.fieldLink RX2 57 "LineEvents$Machine" "hasBottle" "Z", Cond.fieldLink RX2 64 "LineEvents$Machine" "judged" "Z"]
def wsX4_leave_r2 : List Cond := [Cond.fieldLink RX2 61 "LineEvents$Machine" "worked" "I", Cond.methodLink RX4 239 yX4_note, Cond.instanceMethod yX4_note, Cond.selects RX4 yX4_note yX4_note, Cond.initialized RX4, Cond.code yX4_note cX4_note 4 none, Cond.fieldLink RX4 80 "LineEvents" "eventCount" "I", Cond.fieldLink RX4 9 "LineEvents" "events" "[I", Cond.fieldLink RX4 45 "LineEvents$Machine" "number" "I"]
def wsX4_leave : List Cond := .code yX4_leave cX4_leave 2 none :: ((wsX4_leave_r1 ++ wsX4_leave_r2) ++ wsX20 ++ wsX40 ++ wsX00)
def wsX4_take_r1 : List Cond := [Cond.fieldLink RX4 256 "LineEvents$Machine" "before" "LLineEvents$Buffer;", Cond.fieldLink RX4 148 "LineEvents" "begunCount" "J", Cond.fieldLink RX4 27 "LineEvents" "now" "I", Cond.fieldLink RX4 115 "LineEvents$Machine" "hasBottle" "Z", Cond.methodLink RX4 259 yX0_isReady, Cond.instanceMethod yX0_isReady, Cond.selects RX0 yX0_isReady yX0_isReady, Cond.initialized RX0, Cond.code yX0_isReady cX0_isReady 2 (some .boolean), Cond.fieldLink RX0 19 "LineEvents$Buffer" "count" "I", Cond.methodLink RX0 35 yX0_readyAt, Cond.instanceMethod yX0_readyAt, Cond.selects RX0 yX0_readyAt yX0_readyAt, Cond.code yX0_readyAt cX0_readyAt 1 (some .int), Cond.fieldLink RX0 15 "LineEvents$Buffer" "came" "[I", Cond.fieldLink RX0 22 "LineEvents$Buffer" "first" "I", Cond.fieldLink RX0 25 "LineEvents$Buffer" "delay" "I", Cond.methodLink RX0 28 Lib.Math.max.name, Cond.static Lib.Math.max.name, Cond.initialized "java/lang/Math", Cond.code Lib.Math.max.name Lib.Math.max.code 2 (some .int), Cond.constant RX0 34 (1000000000), Cond.methodLink RX4 262 yX0_removeFirst, Cond.instanceMethod yX0_removeFirst]
def wsX4_take_r2 : List Cond := [Cond.selects RX0 yX0_removeFirst yX0_removeFirst, Cond.code yX0_removeFirst cX0_removeFirst 1 none, Cond.methodLink RX4 239 yX4_note, Cond.instanceMethod yX4_note, Cond.selects RX4 yX4_note yX4_note, Cond.initialized RX4, Cond.code yX4_note cX4_note 4 none, Cond.fieldLink RX4 80 "LineEvents" "eventCount" "I", Cond.fieldLink RX4 9 "LineEvents" "events" "[I", Cond.fieldLink RX4 45 "LineEvents$Machine" "number" "I"]
def wsX4_take : List Cond := .code yX4_take cX4_take 2 none :: ((wsX4_take_r1 ++ wsX4_take_r2) ++ wsX20 ++ wsX40 ++ wsX00)
def wsX4_act_r1 : List Cond := [Cond.fieldLink RX4 201 "LineEvents$Machine" "judged" "Z", Cond.fieldLink RX4 27 "LineEvents" "now" "I", Cond.fieldLink RX4 115 "LineEvents$Machine" "hasBottle" "Z", Cond.methodLink RX4 197 yX2_isDone, Cond.instanceMethod yX2_isDone, Cond.selects RX2 yX2_isDone yX2_isDone, Cond.initialized RX2, Cond.code yX2_isDone cX2_isDone 1 (some .boolean), Cond.fieldLink RX2 57 "LineEvents$Machine" "hasBottle" "Z", Cond.fieldLink RX2 61 "LineEvents$Machine" "worked" "I", Cond.fieldLink RX2 29 "LineEvents$Machine" "takes" "I", Cond.methodLink RX4 204 yX4_judge, Cond.instanceMethod yX4_judge, Cond.selects RX4 yX4_judge yX4_judge, Cond.initialized RX4, Cond.code yX4_judge cX4_judge 4 none, Cond.fieldLink RX4 213 "LineEvents$Machine" "firstFault" "LLineEvents$Fault;", Cond.fieldLink RX4 217 "LineEvents$Fault" "below" "J", Cond.fieldLink RX4 224 "LineEvents$Fault" "above" "J", Cond.fieldLink RX4 227 "LineEvents$Fault" "tenths" "I", Cond.methodLink RX4 102 Lib.Math.max.name, Cond.static Lib.Math.max.name, Cond.initialized "java/lang/Math", Cond.code Lib.Math.max.name Lib.Math.max.code 2 (some .int)]
def wsX4_act_r2 : List Cond := [Cond.fieldLink RX4 233 "LineEvents$Fault" "next" "LLineEvents$Fault;", Cond.fieldLink RX4 236 "LineEvents$Machine" "faultEnd" "I", Cond.methodLink RX4 220 yX4_draw, Cond.instanceMethod yX4_draw, Cond.selects RX4 yX4_draw yX4_draw, Cond.code yX4_draw cX4_draw 3 (some .long), Cond.fieldLink RX4 13 "LineEvents" "drawn" "J", Cond.constantLong RX4 243 (6364136223846793005), Cond.constantLong RX4 245 (1442695040888963407), Cond.methodLink RX4 230 yX4_reject, Cond.instanceMethod yX4_reject, Cond.selects RX4 yX4_reject yX4_reject, Cond.code yX4_reject cX4_reject 2 none, Cond.fieldLink RX4 137 "LineEvents$Machine" "rejectedCount" "J", Cond.methodLink RX4 247 yX2_putAway, Cond.instanceMethod yX2_putAway, Cond.selects RX2 yX2_putAway yX2_putAway, Cond.code yX2_putAway cX2_putAway 1 none, Cond.fieldLink RX2 64 "LineEvents$Machine" "judged" "Z", Cond.methodLink RX4 239 yX4_note, Cond.instanceMethod yX4_note, Cond.selects RX4 yX4_note yX4_note, Cond.code yX4_note cX4_note 4 none, Cond.fieldLink RX4 80 "LineEvents" "eventCount" "I"]
def wsX4_act_r3 : List Cond := [Cond.fieldLink RX4 9 "LineEvents" "events" "[I", Cond.fieldLink RX4 45 "LineEvents$Machine" "number" "I", Cond.methodLink RX4 190 yX2_stands, Cond.instanceMethod yX2_stands, Cond.selects RX2 yX2_stands yX2_stands, Cond.code yX2_stands cX2_stands 2 (some .boolean), Cond.fieldLink RX2 18 "LineEvents$Machine" "rowCause" "I", Cond.fieldLink RX2 54 "LineEvents$Machine" "faultEnd" "I", Cond.methodLink RX4 207 yX4_leave, Cond.instanceMethod yX4_leave, Cond.selects RX4 yX4_leave yX4_leave, Cond.code yX4_leave cX4_leave 2 none, Cond.fieldLink RX4 21 "LineEvents$Machine" "followed" "Z", Cond.fieldLink RX4 109 "LineEvents" "madeCount" "J", Cond.fieldLink RX4 48 "LineEvents$Machine" "behind" "LLineEvents$Buffer;", Cond.methodLink RX4 250 yX0_hasRoom, Cond.instanceMethod yX0_hasRoom, Cond.selects RX0 yX0_hasRoom yX0_hasRoom, Cond.initialized RX0, Cond.code yX0_hasRoom cX0_hasRoom 1 (some .boolean), Cond.fieldLink RX0 19 "LineEvents$Buffer" "count" "I", Cond.fieldLink RX0 9 "LineEvents$Buffer" "room" "I", Cond.methodLink RX4 253 yX0_add, Cond.instanceMethod yX0_add]
def wsX4_act_r4 : List Cond := [Cond.selects RX0 yX0_add yX0_add, Cond.code yX0_add cX0_add 2 none, Cond.fieldLink RX0 15 "LineEvents$Buffer" "came" "[I", Cond.fieldLink RX0 22 "LineEvents$Buffer" "first" "I", Cond.methodLink RX4 210 yX4_take, Cond.instanceMethod yX4_take, Cond.selects RX4 yX4_take yX4_take, Cond.code yX4_take cX4_take 2 none, Cond.fieldLink RX4 256 "LineEvents$Machine" "before" "LLineEvents$Buffer;", Cond.fieldLink RX4 148 "LineEvents" "begunCount" "J", Cond.methodLink RX4 259 yX0_isReady, Cond.instanceMethod yX0_isReady, Cond.selects RX0 yX0_isReady yX0_isReady, Cond.code yX0_isReady cX0_isReady 2 (some .boolean), Cond.methodLink RX0 35 yX0_readyAt, Cond.instanceMethod yX0_readyAt, Cond.selects RX0 yX0_readyAt yX0_readyAt, Cond.code yX0_readyAt cX0_readyAt 1 (some .int), Cond.fieldLink RX0 25 "LineEvents$Buffer" "delay" "I", Cond.methodLink RX0 28 Lib.Math.max.name, Cond.constant RX0 34 (1000000000), Cond.methodLink RX4 262 yX0_removeFirst, Cond.instanceMethod yX0_removeFirst, Cond.selects RX0 yX0_removeFirst yX0_removeFirst]
def wsX4_act_r5 : List Cond := [Cond.code yX0_removeFirst cX0_removeFirst 1 none]
def wsX4_act : List Cond := .code yX4_act cX4_act 2 none :: ((wsX4_act_r1 ++ (wsX4_act_r2 ++ (wsX4_act_r3 ++ (wsX4_act_r4 ++ wsX4_act_r5)))) ++ wsX20 ++ wsX40 ++ wsX10 ++ wsX00)
def wsX4_actAll_r1 : List Cond := [Cond.fieldLink RX4 38 "LineEvents" "highest" "LLineEvents$Machine;", Cond.fieldLink RX4 27 "LineEvents" "now" "I", Cond.fieldLink RX4 118 "LineEvents$Machine" "lower" "LLineEvents$Machine;", Cond.methodLink RX4 190 yX2_stands, Cond.instanceMethod yX2_stands, Cond.selects RX2 yX2_stands yX2_stands, Cond.initialized RX2, Cond.code yX2_stands cX2_stands 2 (some .boolean), Cond.fieldLink RX2 18 "LineEvents$Machine" "rowCause" "I", Cond.fieldLink RX2 54 "LineEvents$Machine" "faultEnd" "I", Cond.methodLink RX4 193 yX4_act, Cond.instanceMethod yX4_act, Cond.selects RX4 yX4_act yX4_act, Cond.initialized RX4, Cond.code yX4_act cX4_act 2 none, Cond.fieldLink RX4 201 "LineEvents$Machine" "judged" "Z", Cond.fieldLink RX4 115 "LineEvents$Machine" "hasBottle" "Z", Cond.methodLink RX4 197 yX2_isDone, Cond.instanceMethod yX2_isDone, Cond.selects RX2 yX2_isDone yX2_isDone, Cond.code yX2_isDone cX2_isDone 1 (some .boolean), Cond.fieldLink RX2 57 "LineEvents$Machine" "hasBottle" "Z", Cond.fieldLink RX2 61 "LineEvents$Machine" "worked" "I", Cond.fieldLink RX2 29 "LineEvents$Machine" "takes" "I"]
def wsX4_actAll_r2 : List Cond := [Cond.methodLink RX4 204 yX4_judge, Cond.instanceMethod yX4_judge, Cond.selects RX4 yX4_judge yX4_judge, Cond.code yX4_judge cX4_judge 4 none, Cond.fieldLink RX4 213 "LineEvents$Machine" "firstFault" "LLineEvents$Fault;", Cond.fieldLink RX4 217 "LineEvents$Fault" "below" "J", Cond.fieldLink RX4 224 "LineEvents$Fault" "above" "J", Cond.fieldLink RX4 227 "LineEvents$Fault" "tenths" "I", Cond.methodLink RX4 102 Lib.Math.max.name, Cond.static Lib.Math.max.name, Cond.initialized "java/lang/Math", Cond.code Lib.Math.max.name Lib.Math.max.code 2 (some .int), Cond.fieldLink RX4 233 "LineEvents$Fault" "next" "LLineEvents$Fault;", Cond.fieldLink RX4 236 "LineEvents$Machine" "faultEnd" "I", Cond.methodLink RX4 220 yX4_draw, Cond.instanceMethod yX4_draw, Cond.selects RX4 yX4_draw yX4_draw, Cond.code yX4_draw cX4_draw 3 (some .long), Cond.fieldLink RX4 13 "LineEvents" "drawn" "J", Cond.constantLong RX4 243 (6364136223846793005), Cond.constantLong RX4 245 (1442695040888963407), Cond.methodLink RX4 230 yX4_reject, Cond.instanceMethod yX4_reject, Cond.selects RX4 yX4_reject yX4_reject]
def wsX4_actAll_r3 : List Cond := [Cond.code yX4_reject cX4_reject 2 none, Cond.fieldLink RX4 137 "LineEvents$Machine" "rejectedCount" "J", Cond.methodLink RX4 247 yX2_putAway, Cond.instanceMethod yX2_putAway, Cond.selects RX2 yX2_putAway yX2_putAway, Cond.code yX2_putAway cX2_putAway 1 none, Cond.fieldLink RX2 64 "LineEvents$Machine" "judged" "Z", Cond.methodLink RX4 239 yX4_note, Cond.instanceMethod yX4_note, Cond.selects RX4 yX4_note yX4_note, Cond.code yX4_note cX4_note 4 none, Cond.fieldLink RX4 80 "LineEvents" "eventCount" "I", Cond.fieldLink RX4 9 "LineEvents" "events" "[I", Cond.fieldLink RX4 45 "LineEvents$Machine" "number" "I", Cond.methodLink RX4 207 yX4_leave, Cond.instanceMethod yX4_leave, Cond.selects RX4 yX4_leave yX4_leave, Cond.code yX4_leave cX4_leave 2 none, Cond.fieldLink RX4 21 "LineEvents$Machine" "followed" "Z", Cond.fieldLink RX4 109 "LineEvents" "madeCount" "J", Cond.fieldLink RX4 48 "LineEvents$Machine" "behind" "LLineEvents$Buffer;", Cond.methodLink RX4 250 yX0_hasRoom, Cond.instanceMethod yX0_hasRoom, Cond.selects RX0 yX0_hasRoom yX0_hasRoom]
def wsX4_actAll_r4 : List Cond := [Cond.initialized RX0, Cond.code yX0_hasRoom cX0_hasRoom 1 (some .boolean), Cond.fieldLink RX0 19 "LineEvents$Buffer" "count" "I", Cond.fieldLink RX0 9 "LineEvents$Buffer" "room" "I", Cond.methodLink RX4 253 yX0_add, Cond.instanceMethod yX0_add, Cond.selects RX0 yX0_add yX0_add, Cond.code yX0_add cX0_add 2 none, Cond.fieldLink RX0 15 "LineEvents$Buffer" "came" "[I", Cond.fieldLink RX0 22 "LineEvents$Buffer" "first" "I", Cond.methodLink RX4 210 yX4_take, Cond.instanceMethod yX4_take, Cond.selects RX4 yX4_take yX4_take, Cond.code yX4_take cX4_take 2 none, Cond.fieldLink RX4 256 "LineEvents$Machine" "before" "LLineEvents$Buffer;", Cond.fieldLink RX4 148 "LineEvents" "begunCount" "J", Cond.methodLink RX4 259 yX0_isReady, Cond.instanceMethod yX0_isReady, Cond.selects RX0 yX0_isReady yX0_isReady, Cond.code yX0_isReady cX0_isReady 2 (some .boolean), Cond.methodLink RX0 35 yX0_readyAt, Cond.instanceMethod yX0_readyAt, Cond.selects RX0 yX0_readyAt yX0_readyAt, Cond.code yX0_readyAt cX0_readyAt 1 (some .int)]
def wsX4_actAll_r5 : List Cond := [Cond.fieldLink RX0 25 "LineEvents$Buffer" "delay" "I", Cond.methodLink RX0 28 Lib.Math.max.name, Cond.constant RX0 34 (1000000000), Cond.methodLink RX4 262 yX0_removeFirst, Cond.instanceMethod yX0_removeFirst, Cond.selects RX0 yX0_removeFirst yX0_removeFirst, Cond.code yX0_removeFirst cX0_removeFirst 1 none]
def wsX4_actAll : List Cond := .code yX4_actAll cX4_actAll 2 none :: ((wsX4_actAll_r1 ++ (wsX4_actAll_r2 ++ (wsX4_actAll_r3 ++ (wsX4_actAll_r4 ++ wsX4_actAll_r5)))) ++ wsX40 ++ wsX20 ++ wsX10 ++ wsX00)
def wsX4_quietTenths_r1 : List Cond := [Cond.fieldLink RX4 83 "LineEvents" "rowsTurn" "I", Cond.fieldLink RX4 27 "LineEvents" "now" "I", Cond.fieldLink RX4 38 "LineEvents" "highest" "LLineEvents$Machine;", Cond.methodLink RX4 96 Lib.Math.min.name, Cond.static Lib.Math.min.name, Cond.initialized "java/lang/Math", Cond.code Lib.Math.min.name Lib.Math.min.code 2 (some .int), Cond.fieldLink RX4 118 "LineEvents$Machine" "lower" "LLineEvents$Machine;", Cond.methodLink RX4 265 yX2_quietTenths, Cond.instanceMethod yX2_quietTenths, Cond.selects RX2 yX2_quietTenths yX2_quietTenths, Cond.initialized RX2, Cond.code yX2_quietTenths cX2_quietTenths 2 (some .int), Cond.fieldLink RX2 29 "LineEvents$Machine" "takes" "I", Cond.fieldLink RX2 61 "LineEvents$Machine" "worked" "I", Cond.fieldLink RX2 54 "LineEvents$Machine" "faultEnd" "I", Cond.fieldLink RX2 36 "LineEvents$Machine" "before" "LLineEvents$Buffer;", Cond.constant RX2 75 (1000000000), Cond.methodLink RX2 67 yX2_causeAt, Cond.instanceMethod yX2_causeAt, Cond.selects RX2 yX2_causeAt yX2_causeAt, Cond.code yX2_causeAt cX2_causeAt 2 (some .int), Cond.fieldLink RX2 18 "LineEvents$Machine" "rowCause" "I", Cond.fieldLink RX2 57 "LineEvents$Machine" "hasBottle" "Z"]
def wsX4_quietTenths_r2 : List Cond := [Cond.methodLink RX2 71 yX0_readyAt, Cond.instanceMethod yX0_readyAt, Cond.selects RX0 yX0_readyAt yX0_readyAt, Cond.initialized RX0, Cond.code yX0_readyAt cX0_readyAt 1 (some .int), Cond.fieldLink RX0 19 "LineEvents$Buffer" "count" "I", Cond.fieldLink RX0 15 "LineEvents$Buffer" "came" "[I", Cond.fieldLink RX0 22 "LineEvents$Buffer" "first" "I", Cond.fieldLink RX0 25 "LineEvents$Buffer" "delay" "I", Cond.methodLink RX0 28 Lib.Math.max.name, Cond.static Lib.Math.max.name, Cond.code Lib.Math.max.name Lib.Math.max.code 2 (some .int), Cond.constant RX0 34 (1000000000)]
def wsX4_quietTenths : List Cond := .code yX4_quietTenths cX4_quietTenths 3 (some .int) :: ((wsX4_quietTenths_r1 ++ wsX4_quietTenths_r2) ++ wsX40 ++ wsX20 ++ wsX00)
def wsX4_passTime : List Cond := .code yX4_passTime cX4_passTime 3 none :: ([.fieldLink RX4 38 "LineEvents" "highest" "LLineEvents$Machine;", .fieldLink RX4 27 "LineEvents" "now" "I", .fieldLink RX4 118 "LineEvents$Machine" "lower" "LLineEvents$Machine;", .methodLink RX4 267 yX2_causeAt, .instanceMethod yX2_causeAt, .selects RX2 yX2_causeAt yX2_causeAt, .initialized RX2, .code yX2_causeAt cX2_causeAt 2 (some .int), .fieldLink RX2 18 "LineEvents$Machine" "rowCause" "I", .fieldLink RX2 54 "LineEvents$Machine" "faultEnd" "I", .fieldLink RX2 57 "LineEvents$Machine" "hasBottle" "Z", .fieldLink RX2 61 "LineEvents$Machine" "worked" "I", .fieldLink RX2 29 "LineEvents$Machine" "takes" "I", .methodLink RX4 270 yX2_spend, .instanceMethod yX2_spend, .selects RX2 yX2_spend yX2_spend, .code yX2_spend cX2_spend 3 none, .fieldLink RX2 22 "LineEvents$Machine" "times" "[J"] ++ wsX40 ++ wsX20)
def wsX4_run_r1 : List Cond := [Cond.constant RX4 65 (100000), Cond.constant RX4 79 (1000000000), Cond.fieldLink RX4 27 "LineEvents" "now" "I", Cond.fieldLink RX4 80 "LineEvents" "eventCount" "I", Cond.fieldLink RX4 83 "LineEvents" "rowsTurn" "I", Cond.methodLink RX4 96 Lib.Math.min.name, Cond.static Lib.Math.min.name, Cond.initialized "java/lang/Math", Cond.code Lib.Math.min.name Lib.Math.min.code 2 (some .int), Cond.methodLink RX4 102 Lib.Math.max.name, Cond.static Lib.Math.max.name, Cond.code Lib.Math.max.name Lib.Math.max.code 2 (some .int), Cond.methodLink RX4 31 yX4_within, Cond.static yX4_within, Cond.initialized RX4, Cond.code yX4_within cX4_within 3 (some .boolean), Cond.methodLink RX4 86 yX4_lookAtRows, Cond.instanceMethod yX4_lookAtRows, Cond.selects RX4 yX4_lookAtRows yX4_lookAtRows, Cond.code yX4_lookAtRows cX4_lookAtRows 2 none, Cond.fieldLink RX4 38 "LineEvents" "highest" "LLineEvents$Machine;", Cond.fieldLink RX4 45 "LineEvents$Machine" "number" "I", Cond.fieldLink RX4 174 "LineEvents$Machine" "rowCause" "I", Cond.fieldLink RX4 118 "LineEvents$Machine" "lower" "LLineEvents$Machine;"]
def wsX4_run_r2 : List Cond := [Cond.fieldLink RX4 163 "LineEvents" "newestRow" "LLineEvents$Row;", Cond.fieldLink RX4 180 "LineEvents$Row" "earlier" "LLineEvents$Row;", Cond.methodLink RX4 170 yX4_rowCauseOf, Cond.instanceMethod yX4_rowCauseOf, Cond.selects RX4 yX4_rowCauseOf yX4_rowCauseOf, Cond.code yX4_rowCauseOf cX4_rowCauseOf 4 (some .int), Cond.fieldLink RX4 187 "LineEvents$Row" "cause" "I", Cond.methodLink RX4 183 yX3_holds, Cond.instanceMethod yX3_holds, Cond.selects RX3 yX3_holds yX3_holds, Cond.initialized RX3, Cond.code yX3_holds cX3_holds 3 (some .boolean), Cond.fieldLink RX3 9 "LineEvents$Row" "machine" "I", Cond.fieldLink RX3 15 "LineEvents$Row" "from" "I", Cond.fieldLink RX3 18 "LineEvents$Row" "to" "I", Cond.methodLink RX4 177 yX3_turnBehind, Cond.instanceMethod yX3_turnBehind, Cond.selects RX3 yX3_turnBehind yX3_turnBehind, Cond.code yX3_turnBehind cX3_turnBehind 2 (some .int), Cond.constant RX3 28 (1000000000), Cond.methodLink RX4 89 yX4_actAll, Cond.instanceMethod yX4_actAll, Cond.selects RX4 yX4_actAll yX4_actAll, Cond.code yX4_actAll cX4_actAll 2 none]
def wsX4_run_r3 : List Cond := [Cond.methodLink RX4 190 yX2_stands, Cond.instanceMethod yX2_stands, Cond.selects RX2 yX2_stands yX2_stands, Cond.initialized RX2, Cond.code yX2_stands cX2_stands 2 (some .boolean), Cond.fieldLink RX2 18 "LineEvents$Machine" "rowCause" "I", Cond.fieldLink RX2 54 "LineEvents$Machine" "faultEnd" "I", Cond.methodLink RX4 193 yX4_act, Cond.instanceMethod yX4_act, Cond.selects RX4 yX4_act yX4_act, Cond.code yX4_act cX4_act 2 none, Cond.fieldLink RX4 201 "LineEvents$Machine" "judged" "Z", Cond.fieldLink RX4 115 "LineEvents$Machine" "hasBottle" "Z", Cond.methodLink RX4 197 yX2_isDone, Cond.instanceMethod yX2_isDone, Cond.selects RX2 yX2_isDone yX2_isDone, Cond.code yX2_isDone cX2_isDone 1 (some .boolean), Cond.fieldLink RX2 57 "LineEvents$Machine" "hasBottle" "Z", Cond.fieldLink RX2 61 "LineEvents$Machine" "worked" "I", Cond.fieldLink RX2 29 "LineEvents$Machine" "takes" "I", Cond.methodLink RX4 204 yX4_judge, Cond.instanceMethod yX4_judge, Cond.selects RX4 yX4_judge yX4_judge, Cond.code yX4_judge cX4_judge 4 none]
def wsX4_run_r4 : List Cond := [Cond.fieldLink RX4 213 "LineEvents$Machine" "firstFault" "LLineEvents$Fault;", Cond.fieldLink RX4 217 "LineEvents$Fault" "below" "J", Cond.fieldLink RX4 224 "LineEvents$Fault" "above" "J", Cond.fieldLink RX4 227 "LineEvents$Fault" "tenths" "I", Cond.fieldLink RX4 233 "LineEvents$Fault" "next" "LLineEvents$Fault;", Cond.fieldLink RX4 236 "LineEvents$Machine" "faultEnd" "I", Cond.methodLink RX4 220 yX4_draw, Cond.instanceMethod yX4_draw, Cond.selects RX4 yX4_draw yX4_draw, Cond.code yX4_draw cX4_draw 3 (some .long), Cond.fieldLink RX4 13 "LineEvents" "drawn" "J", Cond.constantLong RX4 243 (6364136223846793005), Cond.constantLong RX4 245 (1442695040888963407), Cond.methodLink RX4 230 yX4_reject, Cond.instanceMethod yX4_reject, Cond.selects RX4 yX4_reject yX4_reject, Cond.code yX4_reject cX4_reject 2 none, Cond.fieldLink RX4 137 "LineEvents$Machine" "rejectedCount" "J", Cond.methodLink RX4 247 yX2_putAway, Cond.instanceMethod yX2_putAway, Cond.selects RX2 yX2_putAway yX2_putAway, Cond.code yX2_putAway cX2_putAway 1 none, Cond.fieldLink RX2 64 "LineEvents$Machine" "judged" "Z", Cond.methodLink RX4 239 yX4_note]
def wsX4_run_r5 : List Cond := [Cond.instanceMethod yX4_note, Cond.selects RX4 yX4_note yX4_note, Cond.code yX4_note cX4_note 4 none, Cond.fieldLink RX4 9 "LineEvents" "events" "[I", Cond.methodLink RX4 207 yX4_leave, Cond.instanceMethod yX4_leave, Cond.selects RX4 yX4_leave yX4_leave, Cond.code yX4_leave cX4_leave 2 none, Cond.fieldLink RX4 21 "LineEvents$Machine" "followed" "Z", Cond.fieldLink RX4 109 "LineEvents" "madeCount" "J", Cond.fieldLink RX4 48 "LineEvents$Machine" "behind" "LLineEvents$Buffer;", Cond.methodLink RX4 250 yX0_hasRoom, Cond.instanceMethod yX0_hasRoom, Cond.selects RX0 yX0_hasRoom yX0_hasRoom, Cond.initialized RX0, Cond.code yX0_hasRoom cX0_hasRoom 1 (some .boolean), Cond.fieldLink RX0 19 "LineEvents$Buffer" "count" "I", Cond.fieldLink RX0 9 "LineEvents$Buffer" "room" "I", Cond.methodLink RX4 253 yX0_add, Cond.instanceMethod yX0_add, Cond.selects RX0 yX0_add yX0_add, Cond.code yX0_add cX0_add 2 none, Cond.fieldLink RX0 15 "LineEvents$Buffer" "came" "[I", Cond.fieldLink RX0 22 "LineEvents$Buffer" "first" "I"]
def wsX4_run_r6 : List Cond := [Cond.methodLink RX4 210 yX4_take, Cond.instanceMethod yX4_take, Cond.selects RX4 yX4_take yX4_take, Cond.code yX4_take cX4_take 2 none, Cond.fieldLink RX4 256 "LineEvents$Machine" "before" "LLineEvents$Buffer;", Cond.fieldLink RX4 148 "LineEvents" "begunCount" "J", Cond.methodLink RX4 259 yX0_isReady, Cond.instanceMethod yX0_isReady, Cond.selects RX0 yX0_isReady yX0_isReady, Cond.code yX0_isReady cX0_isReady 2 (some .boolean), Cond.methodLink RX0 35 yX0_readyAt, Cond.instanceMethod yX0_readyAt, Cond.selects RX0 yX0_readyAt yX0_readyAt, Cond.code yX0_readyAt cX0_readyAt 1 (some .int), Cond.fieldLink RX0 25 "LineEvents$Buffer" "delay" "I", Cond.methodLink RX0 28 Lib.Math.max.name, Cond.constant RX0 34 (1000000000), Cond.methodLink RX4 262 yX0_removeFirst, Cond.instanceMethod yX0_removeFirst, Cond.selects RX0 yX0_removeFirst yX0_removeFirst, Cond.code yX0_removeFirst cX0_removeFirst 1 none, Cond.methodLink RX4 92 yX4_quietTenths, Cond.instanceMethod yX4_quietTenths, Cond.selects RX4 yX4_quietTenths yX4_quietTenths]
def wsX4_run_r7 : List Cond := [Cond.code yX4_quietTenths cX4_quietTenths 3 (some .int), Cond.methodLink RX4 265 yX2_quietTenths, Cond.instanceMethod yX2_quietTenths, Cond.selects RX2 yX2_quietTenths yX2_quietTenths, Cond.code yX2_quietTenths cX2_quietTenths 2 (some .int), Cond.fieldLink RX2 36 "LineEvents$Machine" "before" "LLineEvents$Buffer;", Cond.constant RX2 75 (1000000000), Cond.methodLink RX2 67 yX2_causeAt, Cond.instanceMethod yX2_causeAt, Cond.selects RX2 yX2_causeAt yX2_causeAt, Cond.code yX2_causeAt cX2_causeAt 2 (some .int), Cond.methodLink RX2 71 yX0_readyAt, Cond.methodLink RX4 105 yX4_passTime, Cond.instanceMethod yX4_passTime, Cond.selects RX4 yX4_passTime yX4_passTime, Cond.code yX4_passTime cX4_passTime 3 none, Cond.methodLink RX4 267 yX2_causeAt, Cond.methodLink RX4 270 yX2_spend, Cond.instanceMethod yX2_spend, Cond.selects RX2 yX2_spend yX2_spend, Cond.code yX2_spend cX2_spend 3 none, Cond.fieldLink RX2 22 "LineEvents$Machine" "times" "[J"]
def wsX4_run : List Cond := .code yX4_run cX4_run 4 (some .int) :: ((wsX4_run_r1 ++ (wsX4_run_r2 ++ (wsX4_run_r3 ++ (wsX4_run_r4 ++ (wsX4_run_r5 ++ (wsX4_run_r6 ++ wsX4_run_r7)))))) ++ wsX40 ++ wsX20 ++ wsX30 ++ wsX10 ++ wsX00)
def wsX4_event : List Cond := .code yX4_event cX4_event 3 (some .int) :: ([.fieldLink RX4 80 "LineEvents" "eventCount" "I", .fieldLink RX4 9 "LineEvents" "events" "[I", .methodLink RX4 31 yX4_within, .static yX4_within, .initialized RX4, .code yX4_within cX4_within 3 (some .boolean)] ++ wsX40)
def wsX4_made : List Cond := .code yX4_made cX4_made 1 (some .long) :: ([.fieldLink RX4 109 "LineEvents" "madeCount" "J"] ++ wsX40)
def wsX4_inside : List Cond := .code yX4_inside cX4_inside 4 (some .long) :: ([.fieldLink RX4 38 "LineEvents" "highest" "LLineEvents$Machine;", .fieldLink RX4 48 "LineEvents$Machine" "behind" "LLineEvents$Buffer;", .fieldLink RX4 112 "LineEvents$Buffer" "count" "I", .fieldLink RX4 115 "LineEvents$Machine" "hasBottle" "Z", .fieldLink RX4 118 "LineEvents$Machine" "lower" "LLineEvents$Machine;"] ++ wsX40 ++ wsX20 ++ wsX00)
def wsX4_known : List Cond := .code yX4_known cX4_known 3 (some (.object "LineEvents$Machine")) :: ([.classLink RX4 151 RJx00060, .instantiable RJx00060 6, .initialized RJx00060, .methodLink RX4 17 yX4_find, .instanceMethod yX4_find, .selects RX4 yX4_find yX4_find, .initialized RX4, .code yX4_find cX4_find 3 (some (.object "LineEvents$Machine")), .fieldLink RX4 38 "LineEvents" "highest" "LLineEvents$Machine;", .fieldLink RX4 45 "LineEvents$Machine" "number" "I", .fieldLink RX4 118 "LineEvents$Machine" "lower" "LLineEvents$Machine;"] ++ wsJx000600 ++ wsX40 ++ wsX20)
def wsX4_isCause : List Cond := .code yX4_isCause cX4_isCause 1 (some .boolean) :: ([.methodLink RX4 31 yX4_within, .static yX4_within, .initialized RX4, .code yX4_within cX4_within 3 (some .boolean)])
def wsX4_lost : List Cond := .code yX4_lost cX4_lost 4 (some .long) :: ([.fieldLink RX4 128 "LineEvents$Machine" "times" "[J", .fieldLink RX4 132 "LineEvents$Machine" "takes" "I", .constantLong RX4 135 (-1), .methodLink RX4 121 yX4_known, .instanceMethod yX4_known, .selects RX4 yX4_known yX4_known, .initialized RX4, .code yX4_known cX4_known 3 (some (.object "LineEvents$Machine")), .classLink RX4 151 RJx00060, .instantiable RJx00060 6, .initialized RJx00060, .methodLink RX4 17 yX4_find, .instanceMethod yX4_find, .selects RX4 yX4_find yX4_find, .code yX4_find cX4_find 3 (some (.object "LineEvents$Machine")), .fieldLink RX4 38 "LineEvents" "highest" "LLineEvents$Machine;", .fieldLink RX4 45 "LineEvents$Machine" "number" "I", .fieldLink RX4 118 "LineEvents$Machine" "lower" "LLineEvents$Machine;", .methodLink RX4 124 yX4_isCause, .static yX4_isCause, .code yX4_isCause cX4_isCause 1 (some .boolean), .methodLink RX4 31 yX4_within, .static yX4_within, .code yX4_within cX4_within 3 (some .boolean)] ++ wsX20 ++ wsJx000600 ++ wsX40)
def wsX4_rejected : List Cond := .code yX4_rejected cX4_rejected 2 (some .long) :: ([.fieldLink RX4 137 "LineEvents$Machine" "rejectedCount" "J", .methodLink RX4 121 yX4_known, .instanceMethod yX4_known, .selects RX4 yX4_known yX4_known, .initialized RX4, .code yX4_known cX4_known 3 (some (.object "LineEvents$Machine")), .classLink RX4 151 RJx00060, .instantiable RJx00060 6, .initialized RJx00060, .methodLink RX4 17 yX4_find, .instanceMethod yX4_find, .selects RX4 yX4_find yX4_find, .code yX4_find cX4_find 3 (some (.object "LineEvents$Machine")), .fieldLink RX4 38 "LineEvents" "highest" "LLineEvents$Machine;", .fieldLink RX4 45 "LineEvents$Machine" "number" "I", .fieldLink RX4 118 "LineEvents$Machine" "lower" "LLineEvents$Machine;"] ++ wsX20 ++ wsJx000600 ++ wsX40)
def wsX4_change_r1 : List Cond := [Cond.constant RX4 140 (1000000), Cond.constant RX4 79 (1000000000), Cond.methodLink RX4 31 yX4_within, Cond.static yX4_within, Cond.initialized RX4, Cond.code yX4_within cX4_within 3 (some .boolean), Cond.methodLink RX4 75 yX4_addRow, Cond.instanceMethod yX4_addRow, Cond.selects RX4 yX4_addRow yX4_addRow, Cond.code yX4_addRow cX4_addRow 5 (some .boolean), Cond.fieldLink RX4 158 "LineEvents" "rowCount" "I", Cond.fieldLink RX4 27 "LineEvents" "now" "I", Cond.classLink RX4 161 RX3, Cond.instantiable RX3 5, Cond.initialized RX3, Cond.fieldLink RX4 163 "LineEvents" "newestRow" "LLineEvents$Row;", Cond.fieldLink RX4 83 "LineEvents" "rowsTurn" "I", Cond.methodLink RX4 167 yX3_init, Cond.instanceMethod yX3_init, Cond.code yX3_init cX3_init 6 none, Cond.methodLink RX3 3 objectInit, Cond.instanceMethod objectInit, Cond.code objectInit ⟨#[0xb1]⟩ 1 none, Cond.fieldLink RX3 9 "LineEvents$Row" "machine" "I"]
def wsX4_change_r2 : List Cond := [Cond.fieldLink RX3 15 "LineEvents$Row" "from" "I", Cond.fieldLink RX3 18 "LineEvents$Row" "to" "I", Cond.fieldLink RX3 21 "LineEvents$Row" "cause" "I", Cond.fieldLink RX3 24 "LineEvents$Row" "earlier" "LLineEvents$Row;"]
def wsX4_change : List Cond := .code yX4_change cX4_change 3 (some .boolean) :: ((wsX4_change_r1 ++ wsX4_change_r2) ++ wsX40 ++ wsX30)
def wsX4_rest : List Cond := .code yX4_rest cX4_rest 3 (some .boolean) :: ([.methodLink RX4 75 yX4_addRow, .instanceMethod yX4_addRow, .selects RX4 yX4_addRow yX4_addRow, .initialized RX4, .code yX4_addRow cX4_addRow 5 (some .boolean), .fieldLink RX4 158 "LineEvents" "rowCount" "I", .fieldLink RX4 27 "LineEvents" "now" "I", .constant RX4 79 (1000000000), .classLink RX4 161 RX3, .instantiable RX3 5, .initialized RX3, .fieldLink RX4 163 "LineEvents" "newestRow" "LLineEvents$Row;", .fieldLink RX4 83 "LineEvents" "rowsTurn" "I", .methodLink RX4 167 yX3_init, .instanceMethod yX3_init, .code yX3_init cX3_init 6 none, .methodLink RX3 3 objectInit, .instanceMethod objectInit, .code objectInit ⟨#[0xb1]⟩ 1 none, .fieldLink RX3 9 "LineEvents$Row" "machine" "I", .fieldLink RX3 15 "LineEvents$Row" "from" "I", .fieldLink RX3 18 "LineEvents$Row" "to" "I", .fieldLink RX3 21 "LineEvents$Row" "cause" "I", .fieldLink RX3 24 "LineEvents$Row" "earlier" "LLineEvents$Row;"] ++ wsX40 ++ wsX30)
def wsX4_time : List Cond := .code yX4_time cX4_time 4 (some .long) :: ([.fieldLink RX4 128 "LineEvents$Machine" "times" "[J", .constantLong RX4 135 (-1), .methodLink RX4 121 yX4_known, .instanceMethod yX4_known, .selects RX4 yX4_known yX4_known, .initialized RX4, .code yX4_known cX4_known 3 (some (.object "LineEvents$Machine")), .classLink RX4 151 RJx00060, .instantiable RJx00060 6, .initialized RJx00060, .methodLink RX4 17 yX4_find, .instanceMethod yX4_find, .selects RX4 yX4_find yX4_find, .code yX4_find cX4_find 3 (some (.object "LineEvents$Machine")), .fieldLink RX4 38 "LineEvents" "highest" "LLineEvents$Machine;", .fieldLink RX4 45 "LineEvents$Machine" "number" "I", .fieldLink RX4 118 "LineEvents$Machine" "lower" "LLineEvents$Machine;", .methodLink RX4 124 yX4_isCause, .static yX4_isCause, .code yX4_isCause cX4_isCause 1 (some .boolean), .methodLink RX4 31 yX4_within, .static yX4_within, .code yX4_within cX4_within 3 (some .boolean)] ++ wsX20 ++ wsJx000600 ++ wsX40)
def wsX4_kept : List Cond := .code yX4_kept cX4_kept 4 (some .boolean) :: ([.fieldLink RX4 109 "LineEvents" "madeCount" "J", .fieldLink RX4 38 "LineEvents" "highest" "LLineEvents$Machine;", .fieldLink RX4 137 "LineEvents$Machine" "rejectedCount" "J", .fieldLink RX4 27 "LineEvents" "now" "I", .fieldLink RX4 118 "LineEvents$Machine" "lower" "LLineEvents$Machine;", .fieldLink RX4 148 "LineEvents" "begunCount" "J", .methodLink RX4 141 yX4_inside, .instanceMethod yX4_inside, .selects RX4 yX4_inside yX4_inside, .initialized RX4, .code yX4_inside cX4_inside 4 (some .long), .fieldLink RX4 48 "LineEvents$Machine" "behind" "LLineEvents$Buffer;", .fieldLink RX4 112 "LineEvents$Buffer" "count" "I", .fieldLink RX4 115 "LineEvents$Machine" "hasBottle" "Z", .methodLink RX4 145 yX2_allTimes, .instanceMethod yX2_allTimes, .selects RX2 yX2_allTimes yX2_allTimes, .initialized RX2, .code yX2_allTimes cX2_allTimes 8 (some .long), .fieldLink RX2 22 "LineEvents$Machine" "times" "[J"] ++ wsX40 ++ wsX20 ++ wsX00)
def wsX5_init_r1 : List Cond := [Cond.methodLink RX5 1 objectInit, Cond.instanceMethod objectInit, Cond.code objectInit ⟨#[0xb1]⟩ 1 none, Cond.arrayClass .int, Cond.fieldLink RX5 9 "LineEventsModel" "takes" "[I", Cond.fieldLink RX5 13 "LineEventsModel" "before" "[I", Cond.fieldLink RX5 16 "LineEventsModel" "behind" "[I", Cond.fieldLink RX5 19 "LineEventsModel" "room" "[I", Cond.fieldLink RX5 22 "LineEventsModel" "delay" "[I", Cond.fieldLink RX5 25 "LineEventsModel" "bottle" "[I", Cond.fieldLink RX5 28 "LineEventsModel" "worked" "[I", Cond.fieldLink RX5 31 "LineEventsModel" "faultEnd" "[I", Cond.fieldLink RX5 34 "LineEventsModel" "came" "[I", Cond.fieldLink RX5 37 "LineEventsModel" "first" "[I", Cond.fieldLink RX5 40 "LineEventsModel" "many" "[I", Cond.arrayClass .long, Cond.fieldLink RX5 43 "LineEventsModel" "faultAbove" "[J", Cond.fieldLink RX5 47 "LineEventsModel" "faultBelow" "[J", Cond.fieldLink RX5 50 "LineEventsModel" "faultTenths" "[I", Cond.fieldLink RX5 53 "LineEventsModel" "faults" "[I", Cond.fieldLink RX5 56 "LineEventsModel" "rowMachine" "[I", Cond.fieldLink RX5 59 "LineEventsModel" "rowFrom" "[I", Cond.fieldLink RX5 62 "LineEventsModel" "rowTo" "[I", Cond.fieldLink RX5 65 "LineEventsModel" "rowCause" "[I"]
def wsX5_init_r2 : List Cond := [Cond.fieldLink RX5 68 "LineEventsModel" "times" "[J", Cond.fieldLink RX5 71 "LineEventsModel" "rejects" "[J", Cond.fieldLink RX5 74 "LineEventsModel" "eventAt" "[I", Cond.fieldLink RX5 77 "LineEventsModel" "eventMachine" "[I", Cond.fieldLink RX5 80 "LineEventsModel" "eventKind" "[I", Cond.fieldLink RX5 83 "LineEventsModel" "drawn" "J"]
def wsX5_init : List Cond := .code yX5_init cX5_init 3 none :: ((wsX5_init_r1 ++ wsX5_init_r2) ++ wsX50)
def wsX5_thrown : List Cond := .code yX5_thrown cX5_thrown 1 (some .int) :: ([.fieldLink RX5 87 "LineEventsModel" "thrown" "I"] ++ wsX50)
def wsX5_isMachine : List Cond := .code yX5_isMachine cX5_isMachine 2 (some .boolean) :: ([.fieldLink RX5 91 "LineEventsModel" "machines" "I"] ++ wsX50)
def wsX5_machine : List Cond := .code yX5_machine cX5_machine 5 (some .int) :: ([.fieldLink RX5 87 "LineEventsModel" "thrown" "I", .fieldLink RX5 94 "LineEventsModel" "now" "I", .fieldLink RX5 16 "LineEventsModel" "behind" "[I", .fieldLink RX5 91 "LineEventsModel" "machines" "I", .fieldLink RX5 9 "LineEventsModel" "takes" "[I", .fieldLink RX5 13 "LineEventsModel" "before" "[I", .fieldLink RX5 19 "LineEventsModel" "room" "[I", .fieldLink RX5 22 "LineEventsModel" "delay" "[I", .methodLink RX5 97 yX5_isMachine, .instanceMethod yX5_isMachine, .selects RX5 yX5_isMachine yX5_isMachine, .initialized RX5, .code yX5_isMachine cX5_isMachine 2 (some .boolean)] ++ wsX50)
def wsX5_buffer : List Cond := .code yX5_buffer cX5_buffer 5 (some .int) :: ([.fieldLink RX5 87 "LineEventsModel" "thrown" "I", .fieldLink RX5 94 "LineEventsModel" "now" "I", .fieldLink RX5 19 "LineEventsModel" "room" "[I", .fieldLink RX5 22 "LineEventsModel" "delay" "[I", .methodLink RX5 97 yX5_isMachine, .instanceMethod yX5_isMachine, .selects RX5 yX5_isMachine yX5_isMachine, .initialized RX5, .code yX5_isMachine cX5_isMachine 2 (some .boolean), .fieldLink RX5 91 "LineEventsModel" "machines" "I"] ++ wsX50)
def wsX5_fault : List Cond := .code yX5_fault cX5_fault 8 (some .boolean) :: ([.fieldLink RX5 87 "LineEventsModel" "thrown" "I", .fieldLink RX5 94 "LineEventsModel" "now" "I", .constantLong RX5 101 (1000000), .constant RX5 103 (100000), .fieldLink RX5 53 "LineEventsModel" "faults" "[I", .fieldLink RX5 43 "LineEventsModel" "faultAbove" "[J", .fieldLink RX5 47 "LineEventsModel" "faultBelow" "[J", .fieldLink RX5 50 "LineEventsModel" "faultTenths" "[I", .methodLink RX5 97 yX5_isMachine, .instanceMethod yX5_isMachine, .selects RX5 yX5_isMachine yX5_isMachine, .initialized RX5, .code yX5_isMachine cX5_isMachine 2 (some .boolean), .fieldLink RX5 91 "LineEventsModel" "machines" "I"] ++ wsX50)
def wsX5_told : List Cond := .code yX5_told cX5_told 6 (some .boolean) :: ([.fieldLink RX5 94 "LineEventsModel" "now" "I", .constantLong RX5 104 (1000000000), .fieldLink RX5 106 "LineEventsModel" "rows" "I", .fieldLink RX5 56 "LineEventsModel" "rowMachine" "[I", .fieldLink RX5 59 "LineEventsModel" "rowFrom" "[I", .fieldLink RX5 62 "LineEventsModel" "rowTo" "[I", .fieldLink RX5 65 "LineEventsModel" "rowCause" "[I"] ++ wsX50)
def wsX5_row : List Cond := .code yX5_row cX5_row 5 (some .boolean) :: ([.fieldLink RX5 87 "LineEventsModel" "thrown" "I", .methodLink RX5 97 yX5_isMachine, .instanceMethod yX5_isMachine, .selects RX5 yX5_isMachine yX5_isMachine, .initialized RX5, .code yX5_isMachine cX5_isMachine 2 (some .boolean), .fieldLink RX5 91 "LineEventsModel" "machines" "I", .methodLink RX5 109 yX5_told, .instanceMethod yX5_told, .selects RX5 yX5_told yX5_told, .code yX5_told cX5_told 6 (some .boolean), .fieldLink RX5 94 "LineEventsModel" "now" "I", .constantLong RX5 104 (1000000000), .fieldLink RX5 106 "LineEventsModel" "rows" "I", .fieldLink RX5 56 "LineEventsModel" "rowMachine" "[I", .fieldLink RX5 59 "LineEventsModel" "rowFrom" "[I", .fieldLink RX5 62 "LineEventsModel" "rowTo" "[I", .fieldLink RX5 65 "LineEventsModel" "rowCause" "[I"] ++ wsX50)
def wsX5_change : List Cond := .code yX5_change cX5_change 3 (some .boolean) :: ([.fieldLink RX5 87 "LineEventsModel" "thrown" "I", .constant RX5 113 (1000000), .methodLink RX5 109 yX5_told, .instanceMethod yX5_told, .selects RX5 yX5_told yX5_told, .initialized RX5, .code yX5_told cX5_told 6 (some .boolean), .fieldLink RX5 94 "LineEventsModel" "now" "I", .constantLong RX5 104 (1000000000), .fieldLink RX5 106 "LineEventsModel" "rows" "I", .fieldLink RX5 56 "LineEventsModel" "rowMachine" "[I", .fieldLink RX5 59 "LineEventsModel" "rowFrom" "[I", .fieldLink RX5 62 "LineEventsModel" "rowTo" "[I", .fieldLink RX5 65 "LineEventsModel" "rowCause" "[I"] ++ wsX50)
def wsX5_rest : List Cond := .code yX5_rest cX5_rest 3 (some .boolean) :: ([.fieldLink RX5 87 "LineEventsModel" "thrown" "I", .methodLink RX5 109 yX5_told, .instanceMethod yX5_told, .selects RX5 yX5_told yX5_told, .initialized RX5, .code yX5_told cX5_told 6 (some .boolean), .fieldLink RX5 94 "LineEventsModel" "now" "I", .constantLong RX5 104 (1000000000), .fieldLink RX5 106 "LineEventsModel" "rows" "I", .fieldLink RX5 56 "LineEventsModel" "rowMachine" "[I", .fieldLink RX5 59 "LineEventsModel" "rowFrom" "[I", .fieldLink RX5 62 "LineEventsModel" "rowTo" "[I", .fieldLink RX5 65 "LineEventsModel" "rowCause" "[I"] ++ wsX50)
def wsX5_held : List Cond := .code yX5_held cX5_held 3 (some .int) :: ([.fieldLink RX5 106 "LineEventsModel" "rows" "I", .fieldLink RX5 56 "LineEventsModel" "rowMachine" "[I", .fieldLink RX5 59 "LineEventsModel" "rowFrom" "[I", .fieldLink RX5 94 "LineEventsModel" "now" "I", .fieldLink RX5 62 "LineEventsModel" "rowTo" "[I", .fieldLink RX5 65 "LineEventsModel" "rowCause" "[I"] ++ wsX50)
def wsX5_note : List Cond := .code yX5_note cX5_note 3 none :: ([.fieldLink RX5 114 "LineEventsModel" "events" "I", .fieldLink RX5 74 "LineEventsModel" "eventAt" "[I", .fieldLink RX5 94 "LineEventsModel" "now" "I", .fieldLink RX5 77 "LineEventsModel" "eventMachine" "[I", .fieldLink RX5 80 "LineEventsModel" "eventKind" "[I"] ++ wsX50)
def wsX5_draw : List Cond := .code yX5_draw cX5_draw 3 (some .long) :: ([.fieldLink RX5 83 "LineEventsModel" "drawn" "J", .constantLong RX5 117 (6364136223846793005), .constantLong RX5 119 (1442695040888963407)] ++ wsX50)
def wsX5_judge : List Cond := .code yX5_judge cX5_judge 6 (some .boolean) :: ([.fieldLink RX5 25 "LineEventsModel" "bottle" "[I", .fieldLink RX5 53 "LineEventsModel" "faults" "[I", .fieldLink RX5 47 "LineEventsModel" "faultBelow" "[J", .fieldLink RX5 43 "LineEventsModel" "faultAbove" "[J", .fieldLink RX5 50 "LineEventsModel" "faultTenths" "[I", .fieldLink RX5 71 "LineEventsModel" "rejects" "[J", .fieldLink RX5 31 "LineEventsModel" "faultEnd" "[I", .fieldLink RX5 94 "LineEventsModel" "now" "I", .methodLink RX5 121 yX5_draw, .instanceMethod yX5_draw, .selects RX5 yX5_draw yX5_draw, .initialized RX5, .code yX5_draw cX5_draw 3 (some .long), .fieldLink RX5 83 "LineEventsModel" "drawn" "J", .constantLong RX5 117 (6364136223846793005), .constantLong RX5 119 (1442695040888963407), .methodLink RX5 125 yX5_note, .instanceMethod yX5_note, .selects RX5 yX5_note yX5_note, .code yX5_note cX5_note 3 none, .fieldLink RX5 114 "LineEventsModel" "events" "I", .fieldLink RX5 74 "LineEventsModel" "eventAt" "[I", .fieldLink RX5 77 "LineEventsModel" "eventMachine" "[I", .fieldLink RX5 80 "LineEventsModel" "eventKind" "[I"] ++ wsX50)
def wsX5_leave : List Cond := .code yX5_leave cX5_leave 2 none :: ([.fieldLink RX5 16 "LineEventsModel" "behind" "[I", .fieldLink RX5 129 "LineEventsModel" "made" "J", .fieldLink RX5 40 "LineEventsModel" "many" "[I", .fieldLink RX5 19 "LineEventsModel" "room" "[I", .fieldLink RX5 34 "LineEventsModel" "came" "[I", .fieldLink RX5 37 "LineEventsModel" "first" "[I", .fieldLink RX5 94 "LineEventsModel" "now" "I", .fieldLink RX5 25 "LineEventsModel" "bottle" "[I", .methodLink RX5 125 yX5_note, .instanceMethod yX5_note, .selects RX5 yX5_note yX5_note, .initialized RX5, .code yX5_note cX5_note 3 none, .fieldLink RX5 114 "LineEventsModel" "events" "I", .fieldLink RX5 74 "LineEventsModel" "eventAt" "[I", .fieldLink RX5 77 "LineEventsModel" "eventMachine" "[I", .fieldLink RX5 80 "LineEventsModel" "eventKind" "[I"] ++ wsX50)
def wsX5_take : List Cond := .code yX5_take cX5_take 4 none :: ([.fieldLink RX5 13 "LineEventsModel" "before" "[I", .fieldLink RX5 132 "LineEventsModel" "begun" "J", .fieldLink RX5 40 "LineEventsModel" "many" "[I", .fieldLink RX5 94 "LineEventsModel" "now" "I", .fieldLink RX5 34 "LineEventsModel" "came" "[I", .fieldLink RX5 37 "LineEventsModel" "first" "[I", .fieldLink RX5 22 "LineEventsModel" "delay" "[I", .fieldLink RX5 25 "LineEventsModel" "bottle" "[I", .fieldLink RX5 28 "LineEventsModel" "worked" "[I", .methodLink RX5 125 yX5_note, .instanceMethod yX5_note, .selects RX5 yX5_note yX5_note, .initialized RX5, .code yX5_note cX5_note 3 none, .fieldLink RX5 114 "LineEventsModel" "events" "I", .fieldLink RX5 74 "LineEventsModel" "eventAt" "[I", .fieldLink RX5 77 "LineEventsModel" "eventMachine" "[I", .fieldLink RX5 80 "LineEventsModel" "eventKind" "[I"] ++ wsX50)
def wsX5_act_r1 : List Cond := [Cond.fieldLink RX5 31 "LineEventsModel" "faultEnd" "[I", Cond.fieldLink RX5 94 "LineEventsModel" "now" "I", Cond.fieldLink RX5 25 "LineEventsModel" "bottle" "[I", Cond.fieldLink RX5 28 "LineEventsModel" "worked" "[I", Cond.fieldLink RX5 9 "LineEventsModel" "takes" "[I", Cond.methodLink RX5 135 yX5_held, Cond.instanceMethod yX5_held, Cond.selects RX5 yX5_held yX5_held, Cond.initialized RX5, Cond.code yX5_held cX5_held 3 (some .int), Cond.fieldLink RX5 106 "LineEventsModel" "rows" "I", Cond.fieldLink RX5 56 "LineEventsModel" "rowMachine" "[I", Cond.fieldLink RX5 59 "LineEventsModel" "rowFrom" "[I", Cond.fieldLink RX5 62 "LineEventsModel" "rowTo" "[I", Cond.fieldLink RX5 65 "LineEventsModel" "rowCause" "[I", Cond.methodLink RX5 139 yX5_judge, Cond.instanceMethod yX5_judge, Cond.selects RX5 yX5_judge yX5_judge, Cond.code yX5_judge cX5_judge 6 (some .boolean), Cond.fieldLink RX5 53 "LineEventsModel" "faults" "[I", Cond.fieldLink RX5 47 "LineEventsModel" "faultBelow" "[J", Cond.fieldLink RX5 43 "LineEventsModel" "faultAbove" "[J", Cond.fieldLink RX5 50 "LineEventsModel" "faultTenths" "[I", Cond.fieldLink RX5 71 "LineEventsModel" "rejects" "[J"]
def wsX5_act_r2 : List Cond := [Cond.methodLink RX5 121 yX5_draw, Cond.instanceMethod yX5_draw, Cond.selects RX5 yX5_draw yX5_draw, Cond.code yX5_draw cX5_draw 3 (some .long), Cond.fieldLink RX5 83 "LineEventsModel" "drawn" "J", Cond.constantLong RX5 117 (6364136223846793005), Cond.constantLong RX5 119 (1442695040888963407), Cond.methodLink RX5 125 yX5_note, Cond.instanceMethod yX5_note, Cond.selects RX5 yX5_note yX5_note, Cond.code yX5_note cX5_note 3 none, Cond.fieldLink RX5 114 "LineEventsModel" "events" "I", Cond.fieldLink RX5 74 "LineEventsModel" "eventAt" "[I", Cond.fieldLink RX5 77 "LineEventsModel" "eventMachine" "[I", Cond.fieldLink RX5 80 "LineEventsModel" "eventKind" "[I", Cond.methodLink RX5 142 yX5_leave, Cond.instanceMethod yX5_leave, Cond.selects RX5 yX5_leave yX5_leave, Cond.code yX5_leave cX5_leave 2 none, Cond.fieldLink RX5 16 "LineEventsModel" "behind" "[I", Cond.fieldLink RX5 129 "LineEventsModel" "made" "J", Cond.fieldLink RX5 40 "LineEventsModel" "many" "[I", Cond.fieldLink RX5 19 "LineEventsModel" "room" "[I", Cond.fieldLink RX5 34 "LineEventsModel" "came" "[I"]
def wsX5_act_r3 : List Cond := [Cond.fieldLink RX5 37 "LineEventsModel" "first" "[I", Cond.methodLink RX5 146 yX5_take, Cond.instanceMethod yX5_take, Cond.selects RX5 yX5_take yX5_take, Cond.code yX5_take cX5_take 4 none, Cond.fieldLink RX5 13 "LineEventsModel" "before" "[I", Cond.fieldLink RX5 132 "LineEventsModel" "begun" "J", Cond.fieldLink RX5 22 "LineEventsModel" "delay" "[I"]
def wsX5_act : List Cond := .code yX5_act cX5_act 2 none :: ((wsX5_act_r1 ++ (wsX5_act_r2 ++ wsX5_act_r3)) ++ wsX50)
def wsX5_causeOf : List Cond := .code yX5_causeOf cX5_causeOf 3 (some .int) :: ([.fieldLink RX5 31 "LineEventsModel" "faultEnd" "[I", .fieldLink RX5 94 "LineEventsModel" "now" "I", .fieldLink RX5 25 "LineEventsModel" "bottle" "[I", .methodLink RX5 135 yX5_held, .instanceMethod yX5_held, .selects RX5 yX5_held yX5_held, .initialized RX5, .code yX5_held cX5_held 3 (some .int), .fieldLink RX5 106 "LineEventsModel" "rows" "I", .fieldLink RX5 56 "LineEventsModel" "rowMachine" "[I", .fieldLink RX5 59 "LineEventsModel" "rowFrom" "[I", .fieldLink RX5 62 "LineEventsModel" "rowTo" "[I", .fieldLink RX5 65 "LineEventsModel" "rowCause" "[I"] ++ wsX50)
def wsX5_run_r1 : List Cond := [Cond.fieldLink RX5 87 "LineEventsModel" "thrown" "I", Cond.constant RX5 103 (100000), Cond.fieldLink RX5 94 "LineEventsModel" "now" "I", Cond.constantLong RX5 104 (1000000000), Cond.fieldLink RX5 114 "LineEventsModel" "events" "I", Cond.fieldLink RX5 91 "LineEventsModel" "machines" "I", Cond.fieldLink RX5 68 "LineEventsModel" "times" "[J", Cond.fieldLink RX5 28 "LineEventsModel" "worked" "[I", Cond.methodLink RX5 149 yX5_act, Cond.instanceMethod yX5_act, Cond.selects RX5 yX5_act yX5_act, Cond.initialized RX5, Cond.code yX5_act cX5_act 2 none, Cond.fieldLink RX5 31 "LineEventsModel" "faultEnd" "[I", Cond.fieldLink RX5 25 "LineEventsModel" "bottle" "[I", Cond.fieldLink RX5 9 "LineEventsModel" "takes" "[I", Cond.methodLink RX5 135 yX5_held, Cond.instanceMethod yX5_held, Cond.selects RX5 yX5_held yX5_held, Cond.code yX5_held cX5_held 3 (some .int), Cond.fieldLink RX5 106 "LineEventsModel" "rows" "I", Cond.fieldLink RX5 56 "LineEventsModel" "rowMachine" "[I", Cond.fieldLink RX5 59 "LineEventsModel" "rowFrom" "[I", Cond.fieldLink RX5 62 "LineEventsModel" "rowTo" "[I"]
def wsX5_run_r2 : List Cond := [Cond.fieldLink RX5 65 "LineEventsModel" "rowCause" "[I", Cond.methodLink RX5 139 yX5_judge, Cond.instanceMethod yX5_judge, Cond.selects RX5 yX5_judge yX5_judge, Cond.code yX5_judge cX5_judge 6 (some .boolean), Cond.fieldLink RX5 53 "LineEventsModel" "faults" "[I", Cond.fieldLink RX5 47 "LineEventsModel" "faultBelow" "[J", Cond.fieldLink RX5 43 "LineEventsModel" "faultAbove" "[J", Cond.fieldLink RX5 50 "LineEventsModel" "faultTenths" "[I", Cond.fieldLink RX5 71 "LineEventsModel" "rejects" "[J", Cond.methodLink RX5 121 yX5_draw, Cond.instanceMethod yX5_draw, Cond.selects RX5 yX5_draw yX5_draw, Cond.code yX5_draw cX5_draw 3 (some .long), Cond.fieldLink RX5 83 "LineEventsModel" "drawn" "J", Cond.constantLong RX5 117 (6364136223846793005), Cond.constantLong RX5 119 (1442695040888963407), Cond.methodLink RX5 125 yX5_note, Cond.instanceMethod yX5_note, Cond.selects RX5 yX5_note yX5_note, Cond.code yX5_note cX5_note 3 none, Cond.fieldLink RX5 74 "LineEventsModel" "eventAt" "[I", Cond.fieldLink RX5 77 "LineEventsModel" "eventMachine" "[I", Cond.fieldLink RX5 80 "LineEventsModel" "eventKind" "[I"]
def wsX5_run_r3 : List Cond := [Cond.methodLink RX5 142 yX5_leave, Cond.instanceMethod yX5_leave, Cond.selects RX5 yX5_leave yX5_leave, Cond.code yX5_leave cX5_leave 2 none, Cond.fieldLink RX5 16 "LineEventsModel" "behind" "[I", Cond.fieldLink RX5 129 "LineEventsModel" "made" "J", Cond.fieldLink RX5 40 "LineEventsModel" "many" "[I", Cond.fieldLink RX5 19 "LineEventsModel" "room" "[I", Cond.fieldLink RX5 34 "LineEventsModel" "came" "[I", Cond.fieldLink RX5 37 "LineEventsModel" "first" "[I", Cond.methodLink RX5 146 yX5_take, Cond.instanceMethod yX5_take, Cond.selects RX5 yX5_take yX5_take, Cond.code yX5_take cX5_take 4 none, Cond.fieldLink RX5 13 "LineEventsModel" "before" "[I", Cond.fieldLink RX5 132 "LineEventsModel" "begun" "J", Cond.fieldLink RX5 22 "LineEventsModel" "delay" "[I", Cond.methodLink RX5 152 yX5_causeOf, Cond.instanceMethod yX5_causeOf, Cond.selects RX5 yX5_causeOf yX5_causeOf, Cond.code yX5_causeOf cX5_causeOf 3 (some .int)]
def wsX5_run : List Cond := .code yX5_run cX5_run 5 (some .int) :: ((wsX5_run_r1 ++ (wsX5_run_r2 ++ wsX5_run_r3)) ++ wsX50)
def wsX5_event : List Cond := .code yX5_event cX5_event 3 (some .int) :: ([.fieldLink RX5 87 "LineEventsModel" "thrown" "I", .fieldLink RX5 114 "LineEventsModel" "events" "I", .fieldLink RX5 74 "LineEventsModel" "eventAt" "[I", .fieldLink RX5 77 "LineEventsModel" "eventMachine" "[I", .fieldLink RX5 80 "LineEventsModel" "eventKind" "[I"] ++ wsX50)
def wsX5_made : List Cond := .code yX5_made cX5_made 1 (some .long) :: ([.fieldLink RX5 87 "LineEventsModel" "thrown" "I", .fieldLink RX5 129 "LineEventsModel" "made" "J"] ++ wsX50)
def wsX5_within : List Cond := .code yX5_within cX5_within 4 (some .long) :: ([.fieldLink RX5 91 "LineEventsModel" "machines" "I", .fieldLink RX5 40 "LineEventsModel" "many" "[I", .fieldLink RX5 25 "LineEventsModel" "bottle" "[I"] ++ wsX50)
def wsX5_inside : List Cond := .code yX5_inside cX5_inside 1 (some .long) :: ([.fieldLink RX5 87 "LineEventsModel" "thrown" "I", .methodLink RX5 155 yX5_within, .instanceMethod yX5_within, .selects RX5 yX5_within yX5_within, .initialized RX5, .code yX5_within cX5_within 4 (some .long), .fieldLink RX5 91 "LineEventsModel" "machines" "I", .fieldLink RX5 40 "LineEventsModel" "many" "[I", .fieldLink RX5 25 "LineEventsModel" "bottle" "[I"] ++ wsX50)
def wsX5_lost : List Cond := .code yX5_lost cX5_lost 3 (some .long) :: ([.fieldLink RX5 87 "LineEventsModel" "thrown" "I", .constantLong RX5 159 (-1), .fieldLink RX5 68 "LineEventsModel" "times" "[J", .fieldLink RX5 9 "LineEventsModel" "takes" "[I", .methodLink RX5 97 yX5_isMachine, .instanceMethod yX5_isMachine, .selects RX5 yX5_isMachine yX5_isMachine, .initialized RX5, .code yX5_isMachine cX5_isMachine 2 (some .boolean), .fieldLink RX5 91 "LineEventsModel" "machines" "I"] ++ wsX50)
def wsX5_rejected : List Cond := .code yX5_rejected cX5_rejected 2 (some .long) :: ([.fieldLink RX5 87 "LineEventsModel" "thrown" "I", .constantLong RX5 159 (-1), .fieldLink RX5 71 "LineEventsModel" "rejects" "[J", .methodLink RX5 97 yX5_isMachine, .instanceMethod yX5_isMachine, .selects RX5 yX5_isMachine yX5_isMachine, .initialized RX5, .code yX5_isMachine cX5_isMachine 2 (some .boolean), .fieldLink RX5 91 "LineEventsModel" "machines" "I"] ++ wsX50)
def wsX5_time : List Cond := .code yX5_time cX5_time 3 (some .long) :: ([.fieldLink RX5 87 "LineEventsModel" "thrown" "I", .constantLong RX5 159 (-1), .fieldLink RX5 68 "LineEventsModel" "times" "[J", .methodLink RX5 97 yX5_isMachine, .instanceMethod yX5_isMachine, .selects RX5 yX5_isMachine yX5_isMachine, .initialized RX5, .code yX5_isMachine cX5_isMachine 2 (some .boolean), .fieldLink RX5 91 "LineEventsModel" "machines" "I"] ++ wsX50)
def wsX5_kept : List Cond := .code yX5_kept cX5_kept 8 (some .boolean) :: ([.fieldLink RX5 87 "LineEventsModel" "thrown" "I", .fieldLink RX5 129 "LineEventsModel" "made" "J", .fieldLink RX5 91 "LineEventsModel" "machines" "I", .fieldLink RX5 71 "LineEventsModel" "rejects" "[J", .fieldLink RX5 68 "LineEventsModel" "times" "[J", .fieldLink RX5 94 "LineEventsModel" "now" "I", .fieldLink RX5 132 "LineEventsModel" "begun" "J", .methodLink RX5 155 yX5_within, .instanceMethod yX5_within, .selects RX5 yX5_within yX5_within, .initialized RX5, .code yX5_within cX5_within 4 (some .long), .fieldLink RX5 40 "LineEventsModel" "many" "[I", .fieldLink RX5 25 "LineEventsModel" "bottle" "[I"] ++ wsX50)
def wsJx00060_init_a7421 : List Cond := .code yJx00060_init_a7421 cJx00060_init_a7421 2 none :: ([])
def wsJ9_max_7cf53 : List Cond := .code yJ9_max_7cf53 cJ9_max_7cf53 2 (some .int) :: ([])
def wsJ9_min_7cf53 : List Cond := .code yJ9_min_7cf53 cJ9_min_7cf53 2 (some .int) :: ([])
def wsL_cell : List Cond := .code yL_cell cL_cell 2 (some .int) :: ([])
def wsL_lost_r1 : List Cond := [Cond.methodLink RL 7 yX4_lost, Cond.instanceMethod yX4_lost, Cond.selects RX4 yX4_lost yX4_lost, Cond.initialized RX4, Cond.code yX4_lost cX4_lost 4 (some .long), Cond.fieldLink RX4 128 "LineEvents$Machine" "times" "[J", Cond.fieldLink RX4 132 "LineEvents$Machine" "takes" "I", Cond.constantLong RX4 135 (-1), Cond.methodLink RX4 121 yX4_known, Cond.instanceMethod yX4_known, Cond.selects RX4 yX4_known yX4_known, Cond.code yX4_known cX4_known 3 (some (.object "LineEvents$Machine")), Cond.classLink RX4 151 RJx00060, Cond.instantiable RJx00060 6, Cond.initialized RJx00060, Cond.methodLink RX4 17 yX4_find, Cond.instanceMethod yX4_find, Cond.selects RX4 yX4_find yX4_find, Cond.code yX4_find cX4_find 3 (some (.object "LineEvents$Machine")), Cond.fieldLink RX4 38 "LineEvents" "highest" "LLineEvents$Machine;", Cond.fieldLink RX4 45 "LineEvents$Machine" "number" "I", Cond.fieldLink RX4 118 "LineEvents$Machine" "lower" "LLineEvents$Machine;", Cond.methodLink RX4 124 yX4_isCause, Cond.static yX4_isCause]
def wsL_lost_r2 : List Cond := [Cond.code yX4_isCause cX4_isCause 1 (some .boolean), Cond.methodLink RX4 31 yX4_within, Cond.static yX4_within, Cond.code yX4_within cX4_within 3 (some .boolean)]
def wsL_lost : List Cond := .codeWith yL_lost cL_lost 5 (some .int) [(0, 9, 12, 13)] :: ((wsL_lost_r1 ++ wsL_lost_r2) ++ wsX20 ++ wsJx000600 ++ wsX40)
def wsL_rejected : List Cond := .codeWith yL_rejected cL_rejected 4 (some .int) [(0, 8, 11, 13)] :: ([.methodLink RL 15 yX4_rejected, .instanceMethod yX4_rejected, .selects RX4 yX4_rejected yX4_rejected, .initialized RX4, .code yX4_rejected cX4_rejected 2 (some .long), .fieldLink RX4 137 "LineEvents$Machine" "rejectedCount" "J", .methodLink RX4 121 yX4_known, .instanceMethod yX4_known, .selects RX4 yX4_known yX4_known, .code yX4_known cX4_known 3 (some (.object "LineEvents$Machine")), .classLink RX4 151 RJx00060, .instantiable RJx00060 6, .initialized RJx00060, .methodLink RX4 17 yX4_find, .instanceMethod yX4_find, .selects RX4 yX4_find yX4_find, .code yX4_find cX4_find 3 (some (.object "LineEvents$Machine")), .fieldLink RX4 38 "LineEvents" "highest" "LLineEvents$Machine;", .fieldLink RX4 45 "LineEvents$Machine" "number" "I", .fieldLink RX4 118 "LineEvents$Machine" "lower" "LLineEvents$Machine;"] ++ wsX20 ++ wsJx000600 ++ wsX40)
def wsL_time_r1 : List Cond := [Cond.methodLink RL 19 yX4_time, Cond.instanceMethod yX4_time, Cond.selects RX4 yX4_time yX4_time, Cond.initialized RX4, Cond.code yX4_time cX4_time 4 (some .long), Cond.fieldLink RX4 128 "LineEvents$Machine" "times" "[J", Cond.constantLong RX4 135 (-1), Cond.methodLink RX4 121 yX4_known, Cond.instanceMethod yX4_known, Cond.selects RX4 yX4_known yX4_known, Cond.code yX4_known cX4_known 3 (some (.object "LineEvents$Machine")), Cond.classLink RX4 151 RJx00060, Cond.instantiable RJx00060 6, Cond.initialized RJx00060, Cond.methodLink RX4 17 yX4_find, Cond.instanceMethod yX4_find, Cond.selects RX4 yX4_find yX4_find, Cond.code yX4_find cX4_find 3 (some (.object "LineEvents$Machine")), Cond.fieldLink RX4 38 "LineEvents" "highest" "LLineEvents$Machine;", Cond.fieldLink RX4 45 "LineEvents$Machine" "number" "I", Cond.fieldLink RX4 118 "LineEvents$Machine" "lower" "LLineEvents$Machine;", Cond.methodLink RX4 124 yX4_isCause, Cond.static yX4_isCause, Cond.code yX4_isCause cX4_isCause 1 (some .boolean)]
def wsL_time_r2 : List Cond := [Cond.methodLink RX4 31 yX4_within, Cond.static yX4_within, Cond.code yX4_within cX4_within 3 (some .boolean)]
def wsL_time : List Cond := .codeWith yL_time cL_time 5 (some .int) [(0, 9, 12, 13)] :: ((wsL_time_r1 ++ wsL_time_r2) ++ wsX20 ++ wsJx000600 ++ wsX40)
def wsL_law_r1 : List Cond := [Cond.classLink RL 8 RX4, Cond.instantiable RX4 11, Cond.initialized RX4, Cond.classLink RL 31 RX5, Cond.instantiable RX5 32, Cond.initialized RX5, Cond.arrayClass .long, Cond.constantLong RL 44 (4294967295), Cond.methodLink RL 22 yL_cell, Cond.static yL_cell, Cond.initialized RL, Cond.code yL_cell cL_cell 2 (some .int), Cond.methodLink RL 28 yX4_init, Cond.instanceMethod yX4_init, Cond.code yX4_init cX4_init 3 none, Cond.methodLink RX4 1 objectInit, Cond.instanceMethod objectInit, Cond.code objectInit ⟨#[0xb1]⟩ 1 none, Cond.arrayClass .int, Cond.fieldLink RX4 9 "LineEvents" "events" "[I", Cond.fieldLink RX4 13 "LineEvents" "drawn" "J", Cond.methodLink RL 33 yX5_init, Cond.instanceMethod yX5_init, Cond.code yX5_init cX5_init 3 none]
def wsL_law_r2 : List Cond := [Cond.methodLink RX5 1 objectInit, Cond.fieldLink RX5 9 "LineEventsModel" "takes" "[I", Cond.fieldLink RX5 13 "LineEventsModel" "before" "[I", Cond.fieldLink RX5 16 "LineEventsModel" "behind" "[I", Cond.fieldLink RX5 19 "LineEventsModel" "room" "[I", Cond.fieldLink RX5 22 "LineEventsModel" "delay" "[I", Cond.fieldLink RX5 25 "LineEventsModel" "bottle" "[I", Cond.fieldLink RX5 28 "LineEventsModel" "worked" "[I", Cond.fieldLink RX5 31 "LineEventsModel" "faultEnd" "[I", Cond.fieldLink RX5 34 "LineEventsModel" "came" "[I", Cond.fieldLink RX5 37 "LineEventsModel" "first" "[I", Cond.fieldLink RX5 40 "LineEventsModel" "many" "[I", Cond.fieldLink RX5 43 "LineEventsModel" "faultAbove" "[J", Cond.fieldLink RX5 47 "LineEventsModel" "faultBelow" "[J", Cond.fieldLink RX5 50 "LineEventsModel" "faultTenths" "[I", Cond.fieldLink RX5 53 "LineEventsModel" "faults" "[I", Cond.fieldLink RX5 56 "LineEventsModel" "rowMachine" "[I", Cond.fieldLink RX5 59 "LineEventsModel" "rowFrom" "[I", Cond.fieldLink RX5 62 "LineEventsModel" "rowTo" "[I", Cond.fieldLink RX5 65 "LineEventsModel" "rowCause" "[I", Cond.fieldLink RX5 68 "LineEventsModel" "times" "[J", Cond.fieldLink RX5 71 "LineEventsModel" "rejects" "[J", Cond.fieldLink RX5 74 "LineEventsModel" "eventAt" "[I", Cond.fieldLink RX5 77 "LineEventsModel" "eventMachine" "[I"]
def wsL_law_r3 : List Cond := [Cond.fieldLink RX5 80 "LineEventsModel" "eventKind" "[I", Cond.fieldLink RX5 83 "LineEventsModel" "drawn" "J", Cond.methodLink RL 34 yX4_machine, Cond.instanceMethod yX4_machine, Cond.selects RX4 yX4_machine yX4_machine, Cond.code yX4_machine cX4_machine 5 (some .int), Cond.fieldLink RX4 21 "LineEvents$Machine" "followed" "Z", Cond.fieldLink RX4 27 "LineEvents" "now" "I", Cond.fieldLink RX4 35 "LineEvents" "machineCount" "I", Cond.classLink RX4 22 RX2, Cond.instantiable RX2 16, Cond.initialized RX2, Cond.fieldLink RX4 38 "LineEvents" "highest" "LLineEvents$Machine;", Cond.fieldLink RX4 45 "LineEvents$Machine" "number" "I", Cond.methodLink RX4 17 yX4_find, Cond.instanceMethod yX4_find, Cond.selects RX4 yX4_find yX4_find, Cond.code yX4_find cX4_find 3 (some (.object "LineEvents$Machine")), Cond.fieldLink RX4 118 "LineEvents$Machine" "lower" "LLineEvents$Machine;", Cond.methodLink RX4 31 yX4_within, Cond.static yX4_within, Cond.code yX4_within cX4_within 3 (some .boolean), Cond.methodLink RX4 42 yX2_init, Cond.instanceMethod yX2_init]
def wsL_law_r4 : List Cond := [Cond.code yX2_init cX2_init 5 none, Cond.methodLink RX2 3 objectInit, Cond.classLink RX2 9 RX0, Cond.instantiable RX0 5, Cond.initialized RX0, Cond.fieldLink RX2 12 "LineEvents$Machine" "behind" "LLineEvents$Buffer;", Cond.fieldLink RX2 18 "LineEvents$Machine" "rowCause" "I", Cond.fieldLink RX2 22 "LineEvents$Machine" "times" "[J", Cond.fieldLink RX2 26 "LineEvents$Machine" "number" "I", Cond.fieldLink RX2 29 "LineEvents$Machine" "takes" "I", Cond.fieldLink RX2 32 "LineEvents$Machine" "lower" "LLineEvents$Machine;", Cond.fieldLink RX2 36 "LineEvents$Machine" "before" "LLineEvents$Buffer;", Cond.instanceMethod yX0_init, Cond.code yX0_init cX0_init 1 none, Cond.methodLink RX0 3 objectInit, Cond.fieldLink RX0 9 "LineEvents$Buffer" "room" "I", Cond.fieldLink RX0 15 "LineEvents$Buffer" "came" "[I", Cond.methodLink RL 38 yX5_machine, Cond.instanceMethod yX5_machine, Cond.selects RX5 yX5_machine yX5_machine, Cond.code yX5_machine cX5_machine 5 (some .int), Cond.fieldLink RX5 87 "LineEventsModel" "thrown" "I", Cond.fieldLink RX5 94 "LineEventsModel" "now" "I", Cond.fieldLink RX5 91 "LineEventsModel" "machines" "I"]
def wsL_law_r5 : List Cond := [Cond.methodLink RX5 97 yX5_isMachine, Cond.instanceMethod yX5_isMachine, Cond.selects RX5 yX5_isMachine yX5_isMachine, Cond.code yX5_isMachine cX5_isMachine 2 (some .boolean), Cond.methodLink RL 39 yX4_buffer, Cond.instanceMethod yX4_buffer, Cond.selects RX4 yX4_buffer yX4_buffer, Cond.code yX4_buffer cX4_buffer 6 (some .int), Cond.fieldLink RX4 48 "LineEvents$Machine" "behind" "LLineEvents$Buffer;", Cond.fieldLink RX4 52 "LineEvents$Buffer" "room" "I", Cond.fieldLink RX4 57 "LineEvents$Buffer" "delay" "I", Cond.methodLink RL 43 yX5_buffer, Cond.instanceMethod yX5_buffer, Cond.selects RX5 yX5_buffer yX5_buffer, Cond.code yX5_buffer cX5_buffer 5 (some .int), Cond.methodLink RL 46 yX4_fault, Cond.instanceMethod yX4_fault, Cond.selects RX4 yX4_fault yX4_fault, Cond.code yX4_fault cX4_fault 8 (some .boolean), Cond.fieldLink RX4 60 "LineEvents$Machine" "faultCount" "I", Cond.constantLong RX4 63 (1000000), Cond.constant RX4 65 (100000), Cond.classLink RX4 66 RX1, Cond.instantiable RX1 4]
def wsL_law_r6 : List Cond := [Cond.initialized RX1, Cond.methodLink RX4 68 yX1_init, Cond.instanceMethod yX1_init, Cond.code yX1_init cX1_init 6 none, Cond.methodLink RX1 1 objectInit, Cond.fieldLink RX1 7 "LineEvents$Fault" "above" "J", Cond.fieldLink RX1 13 "LineEvents$Fault" "below" "J", Cond.fieldLink RX1 16 "LineEvents$Fault" "tenths" "I", Cond.methodLink RX4 71 yX2_addFault, Cond.instanceMethod yX2_addFault, Cond.selects RX2 yX2_addFault yX2_addFault, Cond.code yX2_addFault cX2_addFault 2 none, Cond.fieldLink RX2 39 "LineEvents$Machine" "lastFault" "LLineEvents$Fault;", Cond.fieldLink RX2 43 "LineEvents$Machine" "firstFault" "LLineEvents$Fault;", Cond.fieldLink RX2 46 "LineEvents$Fault" "next" "LLineEvents$Fault;", Cond.fieldLink RX2 51 "LineEvents$Machine" "faultCount" "I", Cond.methodLink RL 50 yX5_fault, Cond.instanceMethod yX5_fault, Cond.selects RX5 yX5_fault yX5_fault, Cond.code yX5_fault cX5_fault 8 (some .boolean), Cond.constantLong RX5 101 (1000000), Cond.constant RX5 103 (100000), Cond.methodLink RL 51 yX4_row, Cond.instanceMethod yX4_row]
def wsL_law_r7 : List Cond := [Cond.selects RX4 yX4_row yX4_row, Cond.code yX4_row cX4_row 5 (some .boolean), Cond.methodLink RX4 75 yX4_addRow, Cond.instanceMethod yX4_addRow, Cond.selects RX4 yX4_addRow yX4_addRow, Cond.code yX4_addRow cX4_addRow 5 (some .boolean), Cond.fieldLink RX4 158 "LineEvents" "rowCount" "I", Cond.constant RX4 79 (1000000000), Cond.classLink RX4 161 RX3, Cond.instantiable RX3 5, Cond.initialized RX3, Cond.fieldLink RX4 163 "LineEvents" "newestRow" "LLineEvents$Row;", Cond.fieldLink RX4 83 "LineEvents" "rowsTurn" "I", Cond.methodLink RX4 167 yX3_init, Cond.instanceMethod yX3_init, Cond.code yX3_init cX3_init 6 none, Cond.methodLink RX3 3 objectInit, Cond.fieldLink RX3 9 "LineEvents$Row" "machine" "I", Cond.fieldLink RX3 15 "LineEvents$Row" "from" "I", Cond.fieldLink RX3 18 "LineEvents$Row" "to" "I", Cond.fieldLink RX3 21 "LineEvents$Row" "cause" "I", Cond.fieldLink RX3 24 "LineEvents$Row" "earlier" "LLineEvents$Row;", Cond.methodLink RL 55 yX5_row, Cond.instanceMethod yX5_row]
def wsL_law_r8 : List Cond := [Cond.selects RX5 yX5_row yX5_row, Cond.code yX5_row cX5_row 5 (some .boolean), Cond.methodLink RX5 109 yX5_told, Cond.instanceMethod yX5_told, Cond.selects RX5 yX5_told yX5_told, Cond.code yX5_told cX5_told 6 (some .boolean), Cond.constantLong RX5 104 (1000000000), Cond.fieldLink RX5 106 "LineEventsModel" "rows" "I", Cond.methodLink RL 56 yX4_run, Cond.instanceMethod yX4_run, Cond.selects RX4 yX4_run yX4_run, Cond.code yX4_run cX4_run 4 (some .int), Cond.fieldLink RX4 80 "LineEvents" "eventCount" "I", Cond.methodLink RX4 96 Lib.Math.min.name, Cond.static Lib.Math.min.name, Cond.initialized "java/lang/Math", Cond.code Lib.Math.min.name Lib.Math.min.code 2 (some .int), Cond.methodLink RX4 102 Lib.Math.max.name, Cond.static Lib.Math.max.name, Cond.code Lib.Math.max.name Lib.Math.max.code 2 (some .int), Cond.methodLink RX4 86 yX4_lookAtRows, Cond.instanceMethod yX4_lookAtRows, Cond.selects RX4 yX4_lookAtRows yX4_lookAtRows, Cond.code yX4_lookAtRows cX4_lookAtRows 2 none]
def wsL_law_r9 : List Cond := [Cond.fieldLink RX4 174 "LineEvents$Machine" "rowCause" "I", Cond.fieldLink RX4 180 "LineEvents$Row" "earlier" "LLineEvents$Row;", Cond.methodLink RX4 170 yX4_rowCauseOf, Cond.instanceMethod yX4_rowCauseOf, Cond.selects RX4 yX4_rowCauseOf yX4_rowCauseOf, Cond.code yX4_rowCauseOf cX4_rowCauseOf 4 (some .int), Cond.fieldLink RX4 187 "LineEvents$Row" "cause" "I", Cond.methodLink RX4 183 yX3_holds, Cond.instanceMethod yX3_holds, Cond.selects RX3 yX3_holds yX3_holds, Cond.code yX3_holds cX3_holds 3 (some .boolean), Cond.methodLink RX4 177 yX3_turnBehind, Cond.instanceMethod yX3_turnBehind, Cond.selects RX3 yX3_turnBehind yX3_turnBehind, Cond.code yX3_turnBehind cX3_turnBehind 2 (some .int), Cond.constant RX3 28 (1000000000), Cond.methodLink RX4 89 yX4_actAll, Cond.instanceMethod yX4_actAll, Cond.selects RX4 yX4_actAll yX4_actAll, Cond.code yX4_actAll cX4_actAll 2 none, Cond.methodLink RX4 190 yX2_stands, Cond.instanceMethod yX2_stands, Cond.selects RX2 yX2_stands yX2_stands, Cond.code yX2_stands cX2_stands 2 (some .boolean)]
def wsL_law_r10 : List Cond := [Cond.fieldLink RX2 54 "LineEvents$Machine" "faultEnd" "I", Cond.methodLink RX4 193 yX4_act, Cond.instanceMethod yX4_act, Cond.selects RX4 yX4_act yX4_act, Cond.code yX4_act cX4_act 2 none, Cond.fieldLink RX4 201 "LineEvents$Machine" "judged" "Z", Cond.fieldLink RX4 115 "LineEvents$Machine" "hasBottle" "Z", Cond.methodLink RX4 197 yX2_isDone, Cond.instanceMethod yX2_isDone, Cond.selects RX2 yX2_isDone yX2_isDone, Cond.code yX2_isDone cX2_isDone 1 (some .boolean), Cond.fieldLink RX2 57 "LineEvents$Machine" "hasBottle" "Z", Cond.fieldLink RX2 61 "LineEvents$Machine" "worked" "I", Cond.methodLink RX4 204 yX4_judge, Cond.instanceMethod yX4_judge, Cond.selects RX4 yX4_judge yX4_judge, Cond.code yX4_judge cX4_judge 4 none, Cond.fieldLink RX4 213 "LineEvents$Machine" "firstFault" "LLineEvents$Fault;", Cond.fieldLink RX4 217 "LineEvents$Fault" "below" "J", Cond.fieldLink RX4 224 "LineEvents$Fault" "above" "J", Cond.fieldLink RX4 227 "LineEvents$Fault" "tenths" "I", Cond.fieldLink RX4 233 "LineEvents$Fault" "next" "LLineEvents$Fault;", Cond.fieldLink RX4 236 "LineEvents$Machine" "faultEnd" "I", Cond.methodLink RX4 220 yX4_draw]
def wsL_law_r11 : List Cond := [Cond.instanceMethod yX4_draw, Cond.selects RX4 yX4_draw yX4_draw, Cond.code yX4_draw cX4_draw 3 (some .long), Cond.constantLong RX4 243 (6364136223846793005), Cond.constantLong RX4 245 (1442695040888963407), Cond.methodLink RX4 230 yX4_reject, Cond.instanceMethod yX4_reject, Cond.selects RX4 yX4_reject yX4_reject, Cond.code yX4_reject cX4_reject 2 none, Cond.fieldLink RX4 137 "LineEvents$Machine" "rejectedCount" "J", Cond.methodLink RX4 247 yX2_putAway, Cond.instanceMethod yX2_putAway, Cond.selects RX2 yX2_putAway yX2_putAway, Cond.code yX2_putAway cX2_putAway 1 none, Cond.fieldLink RX2 64 "LineEvents$Machine" "judged" "Z", Cond.methodLink RX4 239 yX4_note, Cond.instanceMethod yX4_note, Cond.selects RX4 yX4_note yX4_note, Cond.code yX4_note cX4_note 4 none, Cond.methodLink RX4 207 yX4_leave, Cond.instanceMethod yX4_leave, Cond.selects RX4 yX4_leave yX4_leave, Cond.code yX4_leave cX4_leave 2 none, Cond.fieldLink RX4 109 "LineEvents" "madeCount" "J"]
def wsL_law_r12 : List Cond := [Cond.methodLink RX4 250 yX0_hasRoom, Cond.instanceMethod yX0_hasRoom, Cond.selects RX0 yX0_hasRoom yX0_hasRoom, Cond.code yX0_hasRoom cX0_hasRoom 1 (some .boolean), Cond.fieldLink RX0 19 "LineEvents$Buffer" "count" "I", Cond.methodLink RX4 253 yX0_add, Cond.instanceMethod yX0_add, Cond.selects RX0 yX0_add yX0_add, Cond.code yX0_add cX0_add 2 none, Cond.fieldLink RX0 22 "LineEvents$Buffer" "first" "I", Cond.methodLink RX4 210 yX4_take, Cond.instanceMethod yX4_take, Cond.selects RX4 yX4_take yX4_take, Cond.code yX4_take cX4_take 2 none, Cond.fieldLink RX4 256 "LineEvents$Machine" "before" "LLineEvents$Buffer;", Cond.fieldLink RX4 148 "LineEvents" "begunCount" "J", Cond.methodLink RX4 259 yX0_isReady, Cond.instanceMethod yX0_isReady, Cond.selects RX0 yX0_isReady yX0_isReady, Cond.code yX0_isReady cX0_isReady 2 (some .boolean), Cond.methodLink RX0 35 yX0_readyAt, Cond.instanceMethod yX0_readyAt, Cond.selects RX0 yX0_readyAt yX0_readyAt, Cond.code yX0_readyAt cX0_readyAt 1 (some .int)]
def wsL_law_r13 : List Cond := [Cond.fieldLink RX0 25 "LineEvents$Buffer" "delay" "I", Cond.methodLink RX0 28 Lib.Math.max.name, Cond.constant RX0 34 (1000000000), Cond.methodLink RX4 262 yX0_removeFirst, Cond.instanceMethod yX0_removeFirst, Cond.selects RX0 yX0_removeFirst yX0_removeFirst, Cond.code yX0_removeFirst cX0_removeFirst 1 none, Cond.methodLink RX4 92 yX4_quietTenths, Cond.instanceMethod yX4_quietTenths, Cond.selects RX4 yX4_quietTenths yX4_quietTenths, Cond.code yX4_quietTenths cX4_quietTenths 3 (some .int), Cond.methodLink RX4 265 yX2_quietTenths, Cond.instanceMethod yX2_quietTenths, Cond.selects RX2 yX2_quietTenths yX2_quietTenths, Cond.code yX2_quietTenths cX2_quietTenths 2 (some .int), Cond.constant RX2 75 (1000000000), Cond.methodLink RX2 67 yX2_causeAt, Cond.instanceMethod yX2_causeAt, Cond.selects RX2 yX2_causeAt yX2_causeAt, Cond.code yX2_causeAt cX2_causeAt 2 (some .int), Cond.methodLink RX2 71 yX0_readyAt, Cond.methodLink RX4 105 yX4_passTime, Cond.instanceMethod yX4_passTime, Cond.selects RX4 yX4_passTime yX4_passTime]
def wsL_law_r14 : List Cond := [Cond.code yX4_passTime cX4_passTime 3 none, Cond.methodLink RX4 267 yX2_causeAt, Cond.methodLink RX4 270 yX2_spend, Cond.instanceMethod yX2_spend, Cond.selects RX2 yX2_spend yX2_spend, Cond.code yX2_spend cX2_spend 3 none, Cond.methodLink RL 60 yX5_run, Cond.instanceMethod yX5_run, Cond.selects RX5 yX5_run yX5_run, Cond.code yX5_run cX5_run 5 (some .int), Cond.fieldLink RX5 114 "LineEventsModel" "events" "I", Cond.methodLink RX5 149 yX5_act, Cond.instanceMethod yX5_act, Cond.selects RX5 yX5_act yX5_act, Cond.code yX5_act cX5_act 2 none, Cond.methodLink RX5 135 yX5_held, Cond.instanceMethod yX5_held, Cond.selects RX5 yX5_held yX5_held, Cond.code yX5_held cX5_held 3 (some .int), Cond.methodLink RX5 139 yX5_judge, Cond.instanceMethod yX5_judge, Cond.selects RX5 yX5_judge yX5_judge, Cond.code yX5_judge cX5_judge 6 (some .boolean), Cond.methodLink RX5 121 yX5_draw]
def wsL_law_r15 : List Cond := [Cond.instanceMethod yX5_draw, Cond.selects RX5 yX5_draw yX5_draw, Cond.code yX5_draw cX5_draw 3 (some .long), Cond.constantLong RX5 117 (6364136223846793005), Cond.constantLong RX5 119 (1442695040888963407), Cond.methodLink RX5 125 yX5_note, Cond.instanceMethod yX5_note, Cond.selects RX5 yX5_note yX5_note, Cond.code yX5_note cX5_note 3 none, Cond.methodLink RX5 142 yX5_leave, Cond.instanceMethod yX5_leave, Cond.selects RX5 yX5_leave yX5_leave, Cond.code yX5_leave cX5_leave 2 none, Cond.fieldLink RX5 129 "LineEventsModel" "made" "J", Cond.methodLink RX5 146 yX5_take, Cond.instanceMethod yX5_take, Cond.selects RX5 yX5_take yX5_take, Cond.code yX5_take cX5_take 4 none, Cond.fieldLink RX5 132 "LineEventsModel" "begun" "J", Cond.methodLink RX5 152 yX5_causeOf, Cond.instanceMethod yX5_causeOf, Cond.selects RX5 yX5_causeOf yX5_causeOf, Cond.code yX5_causeOf cX5_causeOf 3 (some .int), Cond.methodLink RL 61 yX4_event]
def wsL_law_r16 : List Cond := [Cond.instanceMethod yX4_event, Cond.selects RX4 yX4_event yX4_event, Cond.code yX4_event cX4_event 3 (some .int), Cond.methodLink RL 64 yX5_event, Cond.instanceMethod yX5_event, Cond.selects RX5 yX5_event yX5_event, Cond.code yX5_event cX5_event 3 (some .int), Cond.methodLink RL 65 yX4_made, Cond.instanceMethod yX4_made, Cond.selects RX4 yX4_made yX4_made, Cond.code yX4_made cX4_made 1 (some .long), Cond.methodLink RL 69 yX5_made, Cond.instanceMethod yX5_made, Cond.selects RX5 yX5_made yX5_made, Cond.code yX5_made cX5_made 1 (some .long), Cond.methodLink RL 70 yX4_inside, Cond.instanceMethod yX4_inside, Cond.selects RX4 yX4_inside yX4_inside, Cond.code yX4_inside cX4_inside 4 (some .long), Cond.fieldLink RX4 112 "LineEvents$Buffer" "count" "I", Cond.methodLink RL 73 yX5_inside, Cond.instanceMethod yX5_inside, Cond.selects RX5 yX5_inside yX5_inside, Cond.code yX5_inside cX5_inside 1 (some .long)]
def wsL_law_r17 : List Cond := [Cond.methodLink RX5 155 yX5_within, Cond.instanceMethod yX5_within, Cond.selects RX5 yX5_within yX5_within, Cond.code yX5_within cX5_within 4 (some .long), Cond.methodLink RL 74 yL_lost, Cond.static yL_lost, Cond.codeWith yL_lost cL_lost 5 (some .int) [(0, 9, 12, 13)], Cond.methodLink RL 7 yX4_lost, Cond.instanceMethod yX4_lost, Cond.selects RX4 yX4_lost yX4_lost, Cond.code yX4_lost cX4_lost 4 (some .long), Cond.fieldLink RX4 128 "LineEvents$Machine" "times" "[J", Cond.fieldLink RX4 132 "LineEvents$Machine" "takes" "I", Cond.constantLong RX4 135 (-1), Cond.methodLink RX4 121 yX4_known, Cond.instanceMethod yX4_known, Cond.selects RX4 yX4_known yX4_known, Cond.code yX4_known cX4_known 3 (some (.object "LineEvents$Machine")), Cond.classLink RX4 151 RJx00060, Cond.instantiable RJx00060 6, Cond.initialized RJx00060, Cond.methodLink RX4 124 yX4_isCause, Cond.static yX4_isCause, Cond.code yX4_isCause cX4_isCause 1 (some .boolean)]
def wsL_law_r18 : List Cond := [Cond.methodLink RL 77 yX5_lost, Cond.instanceMethod yX5_lost, Cond.selects RX5 yX5_lost yX5_lost, Cond.code yX5_lost cX5_lost 3 (some .long), Cond.constantLong RX5 159 (-1), Cond.methodLink RL 78 yX5_thrown, Cond.instanceMethod yX5_thrown, Cond.selects RX5 yX5_thrown yX5_thrown, Cond.code yX5_thrown cX5_thrown 1 (some .int), Cond.methodLink RL 82 yL_rejected, Cond.static yL_rejected, Cond.codeWith yL_rejected cL_rejected 4 (some .int) [(0, 8, 11, 13)], Cond.methodLink RL 15 yX4_rejected, Cond.instanceMethod yX4_rejected, Cond.selects RX4 yX4_rejected yX4_rejected, Cond.code yX4_rejected cX4_rejected 2 (some .long), Cond.methodLink RL 85 yX5_rejected, Cond.instanceMethod yX5_rejected, Cond.selects RX5 yX5_rejected yX5_rejected, Cond.code yX5_rejected cX5_rejected 2 (some .long), Cond.methodLink RL 86 yX4_change, Cond.instanceMethod yX4_change, Cond.selects RX4 yX4_change yX4_change, Cond.code yX4_change cX4_change 3 (some .boolean)]
def wsL_law_r19 : List Cond := [Cond.constant RX4 140 (1000000), Cond.methodLink RL 90 yX5_change, Cond.instanceMethod yX5_change, Cond.selects RX5 yX5_change yX5_change, Cond.code yX5_change cX5_change 3 (some .boolean), Cond.constant RX5 113 (1000000), Cond.methodLink RL 91 yX4_rest, Cond.instanceMethod yX4_rest, Cond.selects RX4 yX4_rest yX4_rest, Cond.code yX4_rest cX4_rest 3 (some .boolean), Cond.methodLink RL 94 yX5_rest, Cond.instanceMethod yX5_rest, Cond.selects RX5 yX5_rest yX5_rest, Cond.code yX5_rest cX5_rest 3 (some .boolean), Cond.methodLink RL 95 yL_time, Cond.static yL_time, Cond.codeWith yL_time cL_time 5 (some .int) [(0, 9, 12, 13)], Cond.methodLink RL 19 yX4_time, Cond.instanceMethod yX4_time, Cond.selects RX4 yX4_time yX4_time, Cond.code yX4_time cX4_time 4 (some .long), Cond.methodLink RL 97 yX5_time, Cond.instanceMethod yX5_time, Cond.selects RX5 yX5_time yX5_time]
def wsL_law_r20 : List Cond := [Cond.code yX5_time cX5_time 3 (some .long), Cond.methodLink RL 98 yX4_kept, Cond.instanceMethod yX4_kept, Cond.selects RX4 yX4_kept yX4_kept, Cond.code yX4_kept cX4_kept 4 (some .boolean), Cond.methodLink RX4 141 yX4_inside, Cond.methodLink RX4 145 yX2_allTimes, Cond.instanceMethod yX2_allTimes, Cond.selects RX2 yX2_allTimes yX2_allTimes, Cond.code yX2_allTimes cX2_allTimes 8 (some .long), Cond.methodLink RL 102 yX5_kept, Cond.instanceMethod yX5_kept, Cond.selects RX5 yX5_kept yX5_kept, Cond.code yX5_kept cX5_kept 8 (some .boolean)]
def wsL_law : List Cond := (wsL_law_r1 ++ (wsL_law_r2 ++ (wsL_law_r3 ++ (wsL_law_r4 ++ (wsL_law_r5 ++ (wsL_law_r6 ++ (wsL_law_r7 ++ (wsL_law_r8 ++ (wsL_law_r9 ++ (wsL_law_r10 ++ (wsL_law_r11 ++ (wsL_law_r12 ++ (wsL_law_r13 ++ (wsL_law_r14 ++ (wsL_law_r15 ++ (wsL_law_r16 ++ (wsL_law_r17 ++ (wsL_law_r18 ++ (wsL_law_r19 ++ wsL_law_r20))))))))))))))))))) ++ wsX40 ++ wsX50 ++ wsX20 ++ wsX00 ++ wsX10 ++ wsX30 ++ wsJx000600 ++ ([] : List Cond)
abbrev vwCl : List vw_C := [(RJx00060, TJx00060, 6), (RX0, TX0, 5), (RX1, TX1, 4), (RX2, TX2, 16), (RX3, TX3, 5), (RX4, TX4, 11), (RX5, TX5, 32)]
end
section
/-! Numbers: whole numbers as the machine's ints and longs -/
def zI (z : Int) : Int32 := Int32.ofInt z
def zL (z : Int) : Int64 := Int64.ofInt z
theorem zI_add (a b : Int) : zI a + zI b = zI (a + b) := (Int32.ofInt_add a b).symm
theorem zI_sub (a b : Int) : zI a - zI b = zI (a - b) := (Int32.ofInt_sub a b).symm
theorem zI_mul (a b : Int) : zI a * zI b = zI (a * b) := (Int32.ofInt_mul a b).symm
theorem zL_add (a b : Int) : zL a + zL b = zL (a + b) := (Int64.ofInt_add a b).symm
theorem zL_sub (a b : Int) : zL a - zL b = zL (a - b) := (Int64.ofInt_sub a b).symm
theorem zL_mul (a b : Int) : zL a * zL b = zL (a * b) := (Int64.ofInt_mul a b).symm
theorem zI_of (x : Int32) : zI x.toInt = x := Int32.ofInt_toInt x
theorem zL_of (x : Int64) : zL x.toInt = x := Int64.ofInt_toInt x
theorem zI_toInt {a : Int} (h1 : -2147483648 ≤ a) (h2 : a < 2147483648) : (zI a).toInt = a := Int32.toInt_ofInt_of_le (by simpa using h1) (by simpa using h2)
theorem zL_toInt {a : Int} (h1 : -9223372036854775808 ≤ a) (h2 : a < 9223372036854775808) : (zL a).toInt = a := Int64.toInt_ofInt_of_le (by simpa using h1) (by simpa using h2)
theorem zI_lo (x : Int32) : -2147483648 ≤ x.toInt := by simpa using Int32.le_toInt x
theorem zI_hi (x : Int32) : x.toInt < 2147483648 := by simpa using Int32.toInt_lt x
theorem zL_lo (x : Int64) : -9223372036854775808 ≤ x.toInt := by simpa using Int64.le_toInt x
theorem zL_hi (x : Int64) : x.toInt < 9223372036854775808 := by simpa using Int64.toInt_lt x
abbrev zB (a : Int) : Prop := -2147483648 ≤ a ∧ a < 2147483648
abbrev zC (a : Int) : Prop := -9223372036854775808 ≤ a ∧ a < 9223372036854775808
theorem zI_lt {a b : Int} (ha : zB a) (hb : zB b) : zI a < zI b ↔ a < b := by
  rw [Int32.lt_iff_toInt_lt, zI_toInt ha.1 ha.2, zI_toInt hb.1 hb.2]
theorem zI_le {a b : Int} (ha : zB a) (hb : zB b) : zI a ≤ zI b ↔ a ≤ b := by
  rw [Int32.le_iff_toInt_le, zI_toInt ha.1 ha.2, zI_toInt hb.1 hb.2]
theorem zI_eq {a b : Int} (ha : zB a) (hb : zB b) : zI a = zI b ↔ a = b := by
  rw [← Int32.toInt_inj, zI_toInt ha.1 ha.2, zI_toInt hb.1 hb.2]
theorem zL_lt {a b : Int} (ha : zC a) (hb : zC b) : zL a < zL b ↔ a < b := by
  rw [Int64.lt_iff_toInt_lt, zL_toInt ha.1 ha.2, zL_toInt hb.1 hb.2]
theorem zL_le {a b : Int} (ha : zC a) (hb : zC b) : zL a ≤ zL b ↔ a ≤ b := by
  rw [Int64.le_iff_toInt_le, zL_toInt ha.1 ha.2, zL_toInt hb.1 hb.2]
theorem zL_eq {a b : Int} (ha : zC a) (hb : zC b) : zL a = zL b ↔ a = b := by
  rw [← Int64.toInt_inj, zL_toInt ha.1 ha.2, zL_toInt hb.1 hb.2]
theorem zI_cl {a : Int} (h0 : 0 ≤ a) (h1 : a < 2147483648) : (zI a).toNatClampNeg = a.toNat := by
  show (zI a).toInt.toNat = a.toNat
  rw [zI_toInt (by omega) h1]
theorem zI_in {a : Int} {n : Nat} (h0 : 0 ≤ a) (h1 : a < n) (hn : n < 2147483648) : vp_in (zI a) n := by
  rw [vp_in_iff, zI_toInt (by omega) (by omega)]
  exact ⟨h0, h1⟩
theorem zI_l {a : Int} (ha : zB a) : (zI a).toInt64 = zL a := by
  apply Int64.toInt_inj.mp
  rw [Int32.toInt_toInt64, zI_toInt ha.1 ha.2, zL_toInt (by have := ha.1; omega) (by have := ha.2; omega)]
theorem zL_i (a : Int) : (zL a).toInt32 = zI a := by
  show (Int64.ofInt a).toInt32 = Int32.ofInt a
  simp
theorem zI_rem {a b : Int} (ha : 0 ≤ a) (ha2 : a < 2147483648) (hb : 0 < b) (hb2 : b < 2147483648) : zI a - zI a / zI b * zI b = zI (a % b) := by
  obtain ⟨x, rfl⟩ : ∃ n : Nat, a = n := ⟨a.toNat, by omega⟩
  obtain ⟨y, rfl⟩ : ∃ n : Nat, b = n := ⟨b.toNat, by omega⟩
  exact pk_rem (a := x) (d := y) (by omega) (by omega) (by omega)
theorem zL_rem {a b : Int} (ha : 0 ≤ a) (ha2 : a < 9223372036854775808) (hb : 0 < b) (hb2 : b < 9223372036854775808) : zL a - zL a / zL b * zL b = zL (a % b) := by
  obtain ⟨x, rfl⟩ : ∃ n : Nat, a = n := ⟨a.toNat, by omega⟩
  obtain ⟨y, rfl⟩ : ∃ n : Nat, b = n := ⟨b.toNat, by omega⟩
  exact pk_lRem (a := x) (b := y) (by omega) (by omega) (by omega)
theorem zL_ush (a : Int) : ((zL a).toUInt64 >>> ((33 : Int32).toInt64.toUInt64 &&& Int64.toUInt64 63)).toInt64 = zL (a % 18446744073709551616 / 8589934592) := by
  have h33 : ((33 : Int32).toInt64.toUInt64 &&& Int64.toUInt64 63) = 33 := by decide
  rw [h33]
  apply Int64.toBitVec_inj.mp
  show ((zL a).toUInt64 >>> (33 : UInt64)).toBitVec = BitVec.ofInt 64 _
  rw [UInt64.toBitVec_shiftRight]
  apply BitVec.eq_of_toNat_eq
  have e1 : (zL a).toUInt64.toBitVec = BitVec.ofInt 64 a := rfl
  rw [e1]
  have e2 : ((33 : UInt64).toBitVec % 64) = 33#64 := by decide
  rw [e2, BitVec.ushiftRight_eq', BitVec.toNat_ushiftRight, BitVec.toNat_ofInt, BitVec.toNat_ofInt]
  have h3 : (33#64 : BitVec 64).toNat = 33 := by decide
  rw [h3, Nat.shiftRight_eq_div_pow]
  have hp : (0:Int) ≤ a % 18446744073709551616 := Int.emod_nonneg _ (by decide)
  have hq : a % 18446744073709551616 < 18446744073709551616 := Int.emod_lt_of_pos _ (by decide)
  simp only [Nat.reducePow]
  omega
end
section
/-! The heap as a family of cells: kind k, number i; ad: the address, al: which are there, E: what they hold -/
def gQ (D : va_G) (A : Nat → Prop) (ad : Nat → Nat → Nat) (al : Nat → Nat → Prop) (E : Nat → Nat → va_E) (H : Heap) : Prop :=
  (∀ k i, al k i → va_at D vwCl (ad k i, E k i) H) ∧ (∀ k i, al k i → A (ad k i)) ∧ ∀ k i k' i', al k i → al k' i' → ad k' i' = ad k i → k' = k ∧ i' = i
theorem gQ.one {D : va_G} {A : Nat → Prop} {ad : Nat → Nat → Nat} {al : Nat → Nat → Prop} {E : Nat → Nat → va_E} {H : Heap} (h : gQ D A ad al E H) {k i : Nat} (hal : al k i) {e : va_E} (he : E k i = e) : va_P D vwCl [(ad k i, e)] H := by
  subst he
  intro j q hq
  match j, hq with
  | 0, hq => cases hq; exact h.1 k i hal
  | j + 1, hq => simp at hq
theorem gQ.store {D : va_G} {A : Nat → Prop} {ad : Nat → Nat → Nat} {al : Nat → Nat → Prop} {E E' : Nat → Nat → va_E} {H H1 : Heap} (h : gQ D A ad al E H) {k i : Nat} (hal : al k i)
    (hne : ∀ k' i', al k' i' → ¬ (k' = k ∧ i' = i) → E' k' i' = E k' i') (he : va_at D vwCl (ad k i, E' k i) H1) (oq : ∀ q : Nat, q ≠ ad k i → H1[q]? = H[q]?) : gQ D A ad al E' H1 := by
  refine ⟨fun k' i' h' => ?_, h.2.1, h.2.2⟩
  by_cases hc : k' = k ∧ i' = i
  · obtain ⟨rfl, rfl⟩ := hc
    exact he
  · rw [hne k' i' h' hc]
    exact (h.1 k' i' h').kept (oq _ (fun z => hc (h.2.2 k i k' i' hal h' z)))
theorem gQ.kept {D : va_G} {A : Nat → Prop} {ad : Nat → Nat → Nat} {al : Nat → Nat → Prop} {E : Nat → Nat → va_E} {H H1 : Heap} (h : gQ D A ad al E H) (hk : ∀ q : Nat, q < H.size → A q → H1[q]? = H[q]?) : gQ D A ad al E H1 :=
  ⟨fun k i h' => (h.1 k i h').kept (hk _ (h.1 k i h').lt (h.2.1 k i h')), h.2.1, h.2.2⟩
theorem gQ.congr {D : va_G} {A : Nat → Prop} {ad : Nat → Nat → Nat} {al : Nat → Nat → Prop} {E E' : Nat → Nat → va_E} {H : Heap} (h : gQ D A ad al E H) (he : ∀ k i, al k i → E' k i = E k i) : gQ D A ad al E' H :=
  ⟨fun k i h' => by rw [he k i h']; exact h.1 k i h', h.2.1, h.2.2⟩
theorem gQ.grow {D : va_G} {A : Nat → Prop} {ad ad' : Nat → Nat → Nat} {al al' : Nat → Nat → Prop} {E E' : Nat → Nat → va_E} {H H1 : Heap} (h : gQ D A ad al E H) {k i : Nat}
    (hal : ∀ k' i', al' k' i' → al k' i' ∨ (k' = k ∧ i' = i)) (had : ∀ k' i', al k' i' → ad' k' i' = ad k' i') (hq : ad' k i = H.size) (hA : A H.size)
    (hne : ∀ k' i', al k' i' → E' k' i' = E k' i') (he : va_at D vwCl (H.size, E' k i) H1) (oq : ∀ q : Nat, q < H.size → H1[q]? = H[q]?) : gQ D A ad' al' E' H1 := by
  have lt : ∀ k' i', al k' i' → ad k' i' < H.size := fun k' i' h' => (h.1 k' i' h').lt
  refine ⟨fun k' i' h' => ?_, fun k' i' h' => ?_, fun a b c d h1 h2 hz => ?_⟩
  · rcases hal k' i' h' with h2 | ⟨rfl, rfl⟩
    · rw [hne k' i' h2, had k' i' h2]
      exact (h.1 k' i' h2).kept (oq _ (lt _ _ h2))
    · rw [hq]; exact he
  · rcases hal k' i' h' with h2 | ⟨rfl, rfl⟩
    · rw [had k' i' h2]; exact h.2.1 k' i' h2
    · rw [hq]; exact hA
  · rcases hal a b h1 with h3 | ⟨rfl, rfl⟩ <;> rcases hal c d h2 with h4 | ⟨rfl, rfl⟩
    · rw [had a b h3, had c d h4] at hz
      exact h.2.2 a b c d h3 h4 hz
    · rw [had a b h3, hq] at hz
      have := lt a b h3
      omega
    · rw [had c d h4, hq] at hz
      have := lt c d h4
      omega
    · exact ⟨rfl, rfl⟩
/-- a method's answer and the world behind it -/
def gO (v : Option Value) (B : State → Prop) (A : Nat → Prop) : Array Value → State → Outcome → State → Prop := fun _ st oc t => oc = .returned v ∧ B t ∧ va_F A st t
section GQ
variable {p : Program} {l : Launch} {e : Env} {R : Room} {s : State} {m : MethodId} {args : Array Value} {below : List Frame} {meth : Method} {c : Code} {H : Heap} {locs : List Loc} {cells slots : Nat} {Q : State → Prop}
variable {cc : ByteArray} {pc : Nat} {ls : Array Slot} {rest : List Value} {D : va_G} {A : Nat → Prop} {tys : List (ClassId × FieldType)} {H0 : Heap} {ad : Nat → Nat → Nat} {al : Nat → Nat → Prop} {E : Nat → Nat → va_E}
theorem g_call {v : Option Value} {B : State → Prop} {st0 : List Value} {mc ms : Nat} {a : Array Value} (hr : va_Run p l e R s m args below meth c H locs cells slots mc ms (F0 m pc ls st0) rest (gO v B A a) A) (hS : va_S A H0 H locs)
    (kk : ∀ (t : State) (H1 : Heap) (locs1 : List Loc), t.heap = H1 → s.vm.Alike t.vm → B t → (∀ q : Nat, q < H.size → ¬ A q → H1[q]? = H[q]?) → va_S A H0 H1 locs1 → W p l e R s m args below meth c H1 locs1 (cells + mc) (slots + ms) Q (F0 m (pc + 3) ls (v.toList ++ rest))) : W p l e R s m args below meth c H locs cells slots Q (F0 m pc ls st0) := by
  intro T hT X
  obtain ⟨v', st₀, t, T', L, h0, X', hL, e1, e2, ⟨hv, hb, hz, hk⟩, st⟩ := hr T hT X
  cases hv
  rw [h0] at hz hk
  obtain ⟨t2, a1, b1⟩ := kk t T'.heap (locs ++ L) e1.symm (by rw [← e2]; exact X'.warmed.alike) hb (fun q h1 h2 => by rw [e1]; exact hk q h1 h2)
    ⟨Nat.le_trans hS.1 (by rw [e1]; exact hz), fun q h1 h2 => by rw [e1, hk q (Nat.lt_of_lt_of_le h1 hS.1) h2]; exact hS.2.1 q h1 h2, fun q hq => by
      rcases List.mem_append.mp hq with h | h
      · exact hS.2.2 q h
      · exact hL q h⟩ T' rfl X'
  exact ⟨t2, st t2 a1, b1⟩
/-- a field is read -/
theorem q_get (hexec : p.tables.exec = Jvm.exec) (hb : c.code = cc) {own C : String} {T : u_T} {N ci index : Nat} {Ts : List Cond} (hts : ∀ w ∈ Ts, w.before args s = true) (hin : ∀ w ∈ u_ws C T N, w ∈ Ts) (hown : s.vm.findClass own = some m.cls) (hK : va_K D vwCl tys s) (hG : gQ D A ad al E H) {k i : Nat} (hal : al k i) {fs : List Value} (he : E k i = .inr (ci, fs)) (hc : vwCl[ci]? = some (C, T, N)) (f : Nat) (hf : f < N) (hlink : (Cond.fieldLink own index (T f).1 (T f).2.1 (T f).2.2.1).before args s = true) {v : Value} (hv : fs[f]? = some v) (hdg : decode cc pc = .ok (.getfield index, 3))
    (kk : W p l e R s m args below meth c H locs cells slots Q (F0 m (pc + 3) ls (v :: rest))) : W p l e R s m args below meth c H locs cells slots Q (F0 m pc ls (.ref (ad k i) :: rest)) :=
  va_get hexec hb hts hin hown hK (hG.one hal he) 0 rfl hc f hf hlink (fun _ h => h) hv hdg kk
/-- a field is written -/
theorem q_put (hexec : p.tables.exec = Jvm.exec) (hb : c.code = cc) {own C : String} {T : u_T} {N ci index : Nat} {Ts : List Cond} (hts : ∀ w ∈ Ts, w.before args s = true) (hin : ∀ w ∈ u_ws C T N, w ∈ Ts) (ty0 : Nat → FieldType) (hty : ∀ k, k < N → parseFieldDescriptor (T k).2.2.1 = some (ty0 k)) (hnm : ∀ a, a < N → ∀ b, b < N → a ≠ b → (T a).2.1 ≠ (T b).2.1) (hown : s.vm.findClass own = some m.cls) (hK : va_K D vwCl tys s) (hG : gQ D A ad al E H) (hS0 : va_S A H0 H locs) {k i : Nat} (hal : al k i) {fs : List Value} (he : E k i = .inr (ci, fs)) (hc : vwCl[ci]? = some (C, T, N)) (f : Nat) (hf : f < N) (hlink : (Cond.fieldLink own index (T f).1 (T f).2.1 (T f).2.2.1).before args s = true) (hfin : (T f).2.2.2 = false ∨ ((T f).2.2.2 = true ∧ meth.name = "<init>" ∧ (T f).1 = own)) {ty : FieldType} {v : Value} (hd : parseFieldDescriptor (T f).2.2.1 = some ty) (hn : narrow ty v = v) (hfit : fits ty v = true) (hl : f < fs.length)
    {E' : Nat → Nat → va_E} (hne : ∀ k' i', al k' i' → ¬ (k' = k ∧ i' = i) → E' k' i' = E k' i') (he' : E' k i = .inr (ci, fs.set f v))
    (hdg : decode cc pc = .ok (.putfield index, 3)) (kk : ∀ (H1 : Heap) (locs1 : List Loc), gQ D A ad al E' H1 → va_S A H0 H1 locs1 → W p l e R s m args below meth c H1 locs1 cells slots Q (F0 m (pc + 3) ls rest)) : W p l e R s m args below meth c H locs cells slots Q (F0 m pc ls (v :: .ref (ad k i) :: rest)) := by
  have hap := va_apart (own := own) hts hin ty0 hty hnm hK hc
  have hat := hG.1 k i hal
  rw [he] at hat
  obtain ⟨r, h1, cell, q1, q2, q3, q4⟩ := hat
  have hr : r = (C, T, N) := Option.some.inj (h1.symm.trans hc)
  subst hr
  obtain ⟨hS, hfc, kC, hkC, hkind⟩ := hK.1 ci _ hc
  obtain ⟨cf, kf, fi, fd, hi, hsl⟩ := hS f hf
  have hlay := hts _ (hin _ (u_in_lay hf))
  have hst := (u_facts hfc hkC (u_lays hts hin hf) hi).1
  have fin : ∀ (H' : Heap), H'[ad k i]? = some (cell.setSlot (D.2 ci f) v) → H'.size = H.size → (∀ q : Nat, q ≠ ad k i → H'[q]? = H[q]?) → W p l e R s m args below meth c H' (locs ++ [⟨ad k i, D.2 ci f⟩]) cells slots Q (F0 m (pc + 3) ls rest) := fun H' e1 e2 e3 =>
    kk H' _ (hG.store hal hne (by rw [he']; exact ⟨_, hc, t_OB.to (V := updV (vp_V fs) f v) ⟨_, e1, q2, q3, t_set q4 hap hf v⟩ (fun j _ => vp_updV_set hl v j)⟩) e3) (hS0.put e2 e3 (hG.2.1 k i hal))
  rcases hfin with hfin | ⟨hfin, hin2, hdecl⟩
  · unfold u_lay at hlay
    rw [if_neg (by rw [hfin]; decide)] at hlay
    have h6 := u_store hfc hkC hkind hlay hi hd hn hfit
    refine W.putK hexec hb (f := fd) ⟨hown, hlink, ⟨_, _, _, hi⟩, hst⟩ (by rw [q2]; exact h6) q1 q3 (by rw [hsl]; exact k2_hasslot (q4 f hf)) rfl rfl hdg fun H' e1 e2 e3 => ?_
    rw [hsl] at e1 ⊢
    exact fin H' e1 e2 e3
  · unfold u_lay at hlay
    rw [if_pos hfin] at hlay
    have hcf : m.cls = cf := by
      obtain ⟨_, _, c', _, _, _, -, -, hf', -, -, -, hown2, -⟩ := Cond.laysFinal_spec hlay
      have e1 : c' = cf := by have := hi.symm.trans hf'; simp at this; exact this.1.symm
      rw [hdecl] at hown2
      rw [← e1]; exact Option.some.inj (hown.symm.trans hown2)
    have h6 := u_fits hfc hkC hkind (Or.inr hlay) hi hd hn hfit
    refine W.putFinK hexec hb hown hlink hi hst hcf hin2 (by rw [q2]; exact h6) q1 q3 (by rw [hsl]; exact k2_hasslot (q4 f hf)) rfl rfl hdg fun H' e1 e2 e3 => ?_
    rw [hsl] at e1 ⊢
    exact fin H' e1 e2 e3
/-- an int array is read, written; a long array is read, written; a length -/
theorem q_iald (hexec : p.tables.exec = Jvm.exec) (hb : c.code = cc) (hK : va_K D vwCl tys s) (hG : gQ D A ad al E H) (t0 : Nat) {k i : Nat} (hal : al k i) {cA : ClassId} {n : Nat} {f : Nat → Int32} (he : E k i = .inl (cA, n, .inl f)) (ht : tys[t0]? = some (cA, .int)) {z : Int} (h0 : 0 ≤ z) (h1 : z < n) (hn : n < 2147483648) {v : Int32} (hv : f z.toNat = v) (hdg : decode cc pc = .ok (.iaload, 1))
    (kk : W p l e R s m args below meth c H locs cells slots Q (F0 m (pc + 1) ls (.int v :: rest))) : W p l e R s m args below meth c H locs cells slots Q (F0 m pc ls (.int (zI z) :: .ref (ad k i) :: rest)) :=
  va_iald hexec hb hK (hG.one hal he) 0 t0 rfl ht (zI_in h0 h1 hn) hdg (by rw [zI_cl h0 (by omega), hv]; exact kk)
theorem q_lald (hexec : p.tables.exec = Jvm.exec) (hb : c.code = cc) (hK : va_K D vwCl tys s) (hG : gQ D A ad al E H) (t0 : Nat) {k i : Nat} (hal : al k i) {cA : ClassId} {n : Nat} {f : Nat → Int64} (he : E k i = .inl (cA, n, .inr (.inl f))) (ht : tys[t0]? = some (cA, .long)) {z : Int} (h0 : 0 ≤ z) (h1 : z < n) (hn : n < 2147483648) {v : Int64} (hv : f z.toNat = v) (hdg : decode cc pc = .ok (.laload, 1))
    (kk : W p l e R s m args below meth c H locs cells slots Q (F0 m (pc + 1) ls (.long v :: rest))) : W p l e R s m args below meth c H locs cells slots Q (F0 m pc ls (.int (zI z) :: .ref (ad k i) :: rest)) :=
  va_lald hexec hb hK (hG.one hal he) 0 t0 rfl ht (zI_in h0 h1 hn) hdg (by rw [zI_cl h0 (by omega), hv]; exact kk)
theorem q_alen (hexec : p.tables.exec = Jvm.exec) (hb : c.code = cc) (hK : va_K D vwCl tys s) (hG : gQ D A ad al E H) (t0 : Nat) {k i : Nat} (hal : al k i) {cA : ClassId} {x : vp_A} (he : E k i = .inl (cA, x)) {ty : FieldType} (ht : tys[t0]? = some (cA, ty)) {z : Int} (hz : (x.1 : Int) = z) (hdg : decode cc pc = .ok (.arraylength, 1))
    (kk : W p l e R s m args below meth c H locs cells slots Q (F0 m (pc + 1) ls (.int (zI z) :: rest))) : W p l e R s m args below meth c H locs cells slots Q (F0 m pc ls (.ref (ad k i) :: rest)) :=
  va_alen hexec hb hK (hG.one hal he) 0 t0 rfl ht (v := zI z) (by rw [← hz]; rfl) hdg kk
theorem q_iast (hexec : p.tables.exec = Jvm.exec) (hb : c.code = cc) (hK : va_K D vwCl tys s) (hG : gQ D A ad al E H) (hS : va_S A H0 H locs) (t0 : Nat) {k i : Nat} (hal : al k i) {cA : ClassId} {n : Nat} {f : Nat → Int32} (he : E k i = .inl (cA, n, .inl f)) (ht : tys[t0]? = some (cA, .int)) {z : Int} (h0 : 0 ≤ z) (h1 : z < n) (hn : n < 2147483648) {x : Int32}
    {E' : Nat → Nat → va_E} (hne : ∀ k' i', al k' i' → ¬ (k' = k ∧ i' = i) → E' k' i' = E k' i') {f' : Nat → Int32} (he' : E' k i = .inl (cA, n, .inl f')) (hf' : ∀ j : Nat, j < n → f' j = if j = z.toNat then x else f j) (hdg : decode cc pc = .ok (.iastore, 1))
    (kk : ∀ (H1 : Heap) (locs1 : List Loc), gQ D A ad al E' H1 → va_S A H0 H1 locs1 → W p l e R s m args below meth c H1 locs1 cells slots Q (F0 m (pc + 1) ls rest)) : W p l e R s m args below meth c H locs cells slots Q (F0 m pc ls (.int x :: .int (zI z) :: .ref (ad k i) :: rest)) := by
  have hat := hG.1 k i hal
  rw [he] at hat
  refine W.iast hexec hb hat ((hK.2 t0 _ ht).1 n (fun j => .int (f j))) (fun q => by cases q) (by show ¬ (zI z < 0 ∨ (arrV _ _ _).slots.size ≤ _); rw [arrV_size]; exact zI_in h0 h1 hn) rfl rfl hdg fun H1 e1 z1 oq => ?_
  refine kk H1 _ (hG.store hal hne ?_ oq) (hS.put z1 oq (hG.2.1 k i hal))
  rw [he']
  show H1[ad k i]? = some (vp_cell _ _)
  rw [e1, vp_cell_i, vp_cell_i, arrV_store, zI_cl h0 (by omega)]
  congr 1
  unfold arrV
  congr 1
  congr 1
  funext q
  have hq := hf' q.val q.isLt
  simp only [updV]
  rw [hq]
  by_cases h : q.val = z.toNat <;> simp [h]
theorem q_last (hexec : p.tables.exec = Jvm.exec) (hb : c.code = cc) (hK : va_K D vwCl tys s) (hG : gQ D A ad al E H) (hS : va_S A H0 H locs) (t0 : Nat) {k i : Nat} (hal : al k i) {cA : ClassId} {n : Nat} {f : Nat → Int64} (he : E k i = .inl (cA, n, .inr (.inl f))) (ht : tys[t0]? = some (cA, .long)) {z : Int} (h0 : 0 ≤ z) (h1 : z < n) (hn : n < 2147483648) {x : Int64}
    {E' : Nat → Nat → va_E} (hne : ∀ k' i', al k' i' → ¬ (k' = k ∧ i' = i) → E' k' i' = E k' i') {f' : Nat → Int64} (he' : E' k i = .inl (cA, n, .inr (.inl f'))) (hf' : ∀ j : Nat, j < n → f' j = if j = z.toNat then x else f j) (hdg : decode cc pc = .ok (.lastore, 1))
    (kk : ∀ (H1 : Heap) (locs1 : List Loc), gQ D A ad al E' H1 → va_S A H0 H1 locs1 → W p l e R s m args below meth c H1 locs1 cells slots Q (F0 m (pc + 1) ls rest)) : W p l e R s m args below meth c H locs cells slots Q (F0 m pc ls (.long x :: .int (zI z) :: .ref (ad k i) :: rest)) := by
  have hat := hG.1 k i hal
  rw [he] at hat
  refine W.last hexec hb hat ((hK.2 t0 _ ht).1 n (fun j => .long (f j))) (fun q => by cases q) (by show ¬ (zI z < 0 ∨ (arrV _ _ _).slots.size ≤ _); rw [arrV_size]; exact zI_in h0 h1 hn) rfl rfl hdg fun H1 e1 z1 oq => ?_
  refine kk H1 _ (hG.store hal hne ?_ oq) (hS.put z1 oq (hG.2.1 k i hal))
  rw [he']
  show H1[ad k i]? = some (vp_cell _ _)
  rw [e1, vp_cell_l, vp_cell_l, arrV_store, zI_cl h0 (by omega)]
  congr 1
  unfold arrV
  congr 1
  congr 1
  funext q
  have hq := hf' q.val q.isLt
  simp only [updV]
  rw [hq]
  by_cases h : q.val = z.toNat <;> simp [h]
/-- an object is made; an array is made -/
theorem q_new {c0 : Code} (hexec : p.tables.exec = Jvm.exec) (hb : c0.code = cc) {own C : String} {T : u_T} {N ci index : Nat} {Ts : List Cond} (hts : ∀ w ∈ Ts, w.before args s = true) (hin : ∀ w ∈ u_ws C T N, w ∈ Ts) (ty : Nat → FieldType) (hty : ∀ k, k < N → parseFieldDescriptor (T k).2.2.1 = some (ty k)) (hown : s.vm.findClass own = some m.cls) (hcl : (Cond.classLink own index C).before args s = true) (hinst : (Cond.instantiable C N).before args s = true) (hini : (Cond.initialized C).before args s = true)
    (hK : va_K D vwCl tys s) (hG : gQ D A ad al E H) (hS : va_S A H0 H locs) (hA : ∀ q, H0.size ≤ q → A q) (hc : vwCl[ci]? = some (C, T, N)) {fs : List Value} (hfs : ∀ j, j < N → defaultValue (ty j) = vp_V fs j) (hcells : cells + 1 ≤ R.cells) (hslots : slots + N ≤ R.slots) (hdg : decode cc pc = .ok (.new index, 3)) (k i : Nat)
    {ad' : Nat → Nat → Nat → Nat} {al' : Nat → Nat → Prop} {E' : Nat → Nat → Nat → va_E} (hal : ∀ k' i', al' k' i' → al k' i' ∨ (k' = k ∧ i' = i)) (had : ∀ q k' i', al k' i' → ad' q k' i' = ad k' i') (hq : ∀ q, ad' q k i = q) (hne : ∀ q k' i', al k' i' → E' q k' i' = E k' i') (he' : ∀ q, E' q k i = .inr (ci, fs))
    (kk : ∀ (q : Nat) (H1 : Heap), gQ D A (ad' q) al' (E' q) H1 → va_S A H0 H1 locs → W p l e R s m args below meth c0 H1 locs (cells + 1) (slots + N) Q (F0 m (pc + 3) ls (.ref (ad' q k i) :: rest))) : W p l e R s m args below meth c0 H locs cells slots Q (F0 m pc ls rest) := by
  have hKn := hK.1 ci _ hc
  refine W.newcK hexec hb hown hcl hinst hini rfl hdg hcells hslots hKn.2.1 rfl fun H1 kC hkC e1 z1 o1 => ?_
  have h := kk H.size H1 (hG.grow (k := k) (i := i) hal (had _) (hq _) (hA _ hS.1) (hne _) (by rw [he']; exact ⟨_, hc, (u_born ty hts hin hKn hkC e1 hty).to hfs⟩) o1) ⟨Nat.le_trans hS.1 (by omega), fun x h1 h2 => (o1 x (Nat.lt_of_lt_of_le h1 hS.1)).trans (hS.2.1 x h1 h2), hS.2.2⟩
  rw [hq] at h
  exact h
theorem q_newa (hexec : p.tables.exec = Jvm.exec) (hb : c.code = cc) {atype : ArrayType} (harr : (Cond.arrayClass (newarray.typeOf atype)).before args s = true) {ty : FieldType} (hty : newarray.typeOf atype = ty) (hK : va_K D vwCl tys s) (hG : gQ D A ad al E H) (hS : va_S A H0 H locs) (hA : ∀ q, H0.size ≤ q → A q) (t0 : Nat) {cA : ClassId} (ht : tys[t0]? = some (cA, ty)) (hob : ∀ C, ty ≠ .object C)
    {n : Int32} {N' : Nat} {a0 : vp_A} (ha : vp_cell cA a0 = arrV cA N' (fun _ => defaultValue ty)) (hn : ¬ n < 0) (hN : n.toNatClampNeg = N') (hbytes : N' * componentBytes ty ≤ 536870912) (hcells : cells + 1 ≤ R.cells) (hslots : slots + N' ≤ R.slots) (hdg : decode cc pc = .ok (.newarray atype, 2)) (k i : Nat)
    {ad' : Nat → Nat → Nat → Nat} {al' : Nat → Nat → Prop} {E' : Nat → Nat → Nat → va_E} (hal : ∀ k' i', al' k' i' → al k' i' ∨ (k' = k ∧ i' = i)) (had : ∀ q k' i', al k' i' → ad' q k' i' = ad k' i') (hq : ∀ q, ad' q k i = q) (hne : ∀ q k' i', al k' i' → E' q k' i' = E k' i') (he' : ∀ q, E' q k i = .inl (cA, a0))
    (kk : ∀ (q : Nat) (H1 : Heap), gQ D A (ad' q) al' (E' q) H1 → va_S A H0 H1 locs → W p l e R s m args below meth c H1 locs (cells + 1) (slots + N') Q (F0 m (pc + 2) ls (.ref (ad' q k i) :: rest))) : W p l e R s m args below meth c H locs cells slots Q (F0 m pc ls (.int n :: rest)) := by
  subst hty
  refine va_newaK hexec hb harr rfl hdg rfl hn hN hbytes hcells hslots rfl fun H1 cB e1 z1 o1 hAr hNm => ?_
  have hcAB : cB = cA := by
    have h1 := (hK.2 t0 _ ht).2
    have h2 : s.vm.findClass ("[" ++ (newarray.typeOf atype).toString) = some cA := by
      revert h1
      unfold va_RA
      split
      · rename_i C heq
        exact fun _ => absurd heq (hob C)
      · exact fun h => h
    exact Option.some.inj (hNm.symm.trans h2)
  subst hcAB
  have h := kk H.size H1 (hG.grow (k := k) (i := i) hal (had _) (hq _) (hA _ hS.1) (hne _) (by rw [he']; show H1[H.size]? = some (vp_cell _ _); rw [ha]; exact e1) o1) ⟨Nat.le_trans hS.1 (by omega), fun x h1 h2 => (o1 x (Nat.lt_of_lt_of_le h1 hS.1)).trans (hS.2.1 x h1 h2), hS.2.2⟩
  rw [hq] at h
  exact h
end GQ
end
section
/-! Instructions over whole numbers -/
def bZ (P : Prop) [Decidable P] : Int := if P then 1 else 0
theorem bZ_0 {P : Prop} [Decidable P] : bZ P = 0 ↔ ¬ P := by unfold bZ; split <;> simp_all
theorem bZ_1 {P : Prop} [Decidable P] : bZ P = 1 ↔ P := by unfold bZ; split <;> simp_all
theorem bZ_B (P : Prop) [Decidable P] : zB (bZ P) := by unfold bZ; split <;> exact ⟨by omega, by omega⟩
theorem bZ_t {P : Prop} [Decidable P] (h : P) : bZ P = 1 := if_pos h
theorem bZ_f {P : Prop} [Decidable P] (h : ¬ P) : bZ P = 0 := if_neg h
theorem bZ_c {P Q : Prop} [Decidable P] [Decidable Q] (h : P ↔ Q) : bZ P = bZ Q := by unfold bZ; simp [h]
def rf (ad : Nat → Nat → Nat) (t : Nat) (z : Int) : Value := if z < 0 then .null else .ref (ad t z.toNat)
theorem rf_n {ad : Nat → Nat → Nat} {t : Nat} {z : Int} (h : z < 0) : rf ad t z = .null := if_pos h
theorem rf_s {ad : Nat → Nat → Nat} {t : Nat} {z : Int} {j : Nat} (h : z = j) : rf ad t z = .ref (ad t j) := by subst h; unfold rf; rw [if_neg (by omega)]; simp
theorem lgc_lt (x y : Int64) : lg_cmp x y < 0 ↔ x < y := by
  unfold lg_cmp
  by_cases h1 : y < x
  · simp only [h1, if_true]; constructor
    · intro h; exact absurd h (by decide)
    · intro h; exact absurd (Int64.lt_iff_toInt_lt.mp h) (by have := Int64.lt_iff_toInt_lt.mp h1; omega)
  · by_cases h2 : x = y
    · subst h2; simp
    · simp only [h1, h2, if_false]; constructor
      · intro _; rw [Int64.lt_iff_toInt_lt] at *; have : x.toInt ≠ y.toInt := fun h => h2 (Int64.toInt_inj.mp h); omega
      · intro _; decide
theorem lgc_gt (x y : Int64) : 0 < lg_cmp x y ↔ y < x := by
  unfold lg_cmp
  by_cases h1 : y < x
  · simp only [h1, if_true]; constructor
    · intro _; trivial
    · intro _; decide
  · by_cases h2 : x = y
    · subst h2; simp
    · simp only [h1, h2, if_false]; constructor
      · intro h; exact absurd h (by decide)
      · intro h; exact h.elim
theorem lgc_eq (x y : Int64) : lg_cmp x y = 0 ↔ x = y := by
  unfold lg_cmp
  by_cases h1 : y < x
  · simp only [h1, if_true]; constructor
    · intro h; exact absurd h (by decide)
    · intro h; subst h; exact absurd (Int64.lt_iff_toInt_lt.mp h1) (by omega)
  · by_cases h2 : x = y
    · subst h2; simp
    · simp only [h1, h2, if_false]; constructor
      · intro h; exact absurd h (by decide)
      · intro h; exact absurd h (by simp [h2])
theorem lgc_le (x y : Int64) : lg_cmp x y ≤ 0 ↔ x ≤ y := by
  have h := lgc_gt x y
  rw [Int32.lt_iff_toInt_lt, Int64.lt_iff_toInt_lt] at h
  rw [Int32.le_iff_toInt_le, Int64.le_iff_toInt_le]
  omega
theorem lgc_ge (x y : Int64) : 0 ≤ lg_cmp x y ↔ y ≤ x := by
  have h := lgc_lt x y
  rw [Int32.lt_iff_toInt_lt, Int64.lt_iff_toInt_lt] at h
  rw [Int32.le_iff_toInt_le, Int64.le_iff_toInt_le]
  omega
section ZR
variable {p : Program} {l : Launch} {e : Env} {R : Room} {s : State} {m : MethodId} {args : Array Value} {below : List Frame} {meth : Method} {c : Code} {H : Heap} {locs : List Loc} {cells slots : Nat} {Q : State → Prop}
variable {cc : ByteArray} {pc : Nat} {ls : Array Slot} {rest : List Value} {ad : Nat → Nat → Nat} {t : Nat}
theorem z_iadd (hexec : p.tables.exec = Jvm.exec) (hb : c.code = cc) {x y : Int} (hdg : decode cc pc = .ok (.iadd, 1)) (k : W p l e R s m args below meth c H locs cells slots Q (F0 m (pc + 1) ls (.int (zI (x + y)) :: rest))) : W p l e R s m args below meth c H locs cells slots Q (F0 m pc ls (.int (zI y) :: .int (zI x) :: rest)) := lv_iadd hexec hb hdg (by rw [zI_add]; exact k)
theorem z_isub (hexec : p.tables.exec = Jvm.exec) (hb : c.code = cc) {x y : Int} (hdg : decode cc pc = .ok (.isub, 1)) (k : W p l e R s m args below meth c H locs cells slots Q (F0 m (pc + 1) ls (.int (zI (x - y)) :: rest))) : W p l e R s m args below meth c H locs cells slots Q (F0 m pc ls (.int (zI y) :: .int (zI x) :: rest)) := lv_isub hexec hb hdg (by rw [zI_sub]; exact k)
theorem z_imul (hexec : p.tables.exec = Jvm.exec) (hb : c.code = cc) {x y : Int} (hdg : decode cc pc = .ok (.imul, 1)) (k : W p l e R s m args below meth c H locs cells slots Q (F0 m (pc + 1) ls (.int (zI (x * y)) :: rest))) : W p l e R s m args below meth c H locs cells slots Q (F0 m pc ls (.int (zI y) :: .int (zI x) :: rest)) := lv_imul hexec hb hdg (by rw [zI_mul]; exact k)
theorem z_ladd (hexec : p.tables.exec = Jvm.exec) (hb : c.code = cc) {x y : Int} (hdg : decode cc pc = .ok (.ladd, 1)) (k : W p l e R s m args below meth c H locs cells slots Q (F0 m (pc + 1) ls (.long (zL (x + y)) :: rest))) : W p l e R s m args below meth c H locs cells slots Q (F0 m pc ls (.long (zL y) :: .long (zL x) :: rest)) := lv_ladd hexec hb hdg (by rw [zL_add]; exact k)
theorem z_lsub (hexec : p.tables.exec = Jvm.exec) (hb : c.code = cc) {x y : Int} (hdg : decode cc pc = .ok (.lsub, 1)) (k : W p l e R s m args below meth c H locs cells slots Q (F0 m (pc + 1) ls (.long (zL (x - y)) :: rest))) : W p l e R s m args below meth c H locs cells slots Q (F0 m pc ls (.long (zL y) :: .long (zL x) :: rest)) := lv_lsub hexec hb hdg (by rw [zL_sub]; exact k)
theorem z_lmul (hexec : p.tables.exec = Jvm.exec) (hb : c.code = cc) {x y : Int} (hdg : decode cc pc = .ok (.lmul, 1)) (k : W p l e R s m args below meth c H locs cells slots Q (F0 m (pc + 1) ls (.long (zL (x * y)) :: rest))) : W p l e R s m args below meth c H locs cells slots Q (F0 m pc ls (.long (zL y) :: .long (zL x) :: rest)) := lv_lmul hexec hb hdg (by rw [zL_mul]; exact k)
theorem z_irem (hexec : p.tables.exec = Jvm.exec) (hb : c.code = cc) {x y : Int} (hdg : decode cc pc = .ok (.irem, 1)) (h1 : 0 ≤ x ∧ x < 2147483648) (h2 : 0 < y ∧ y < 2147483648) (k : W p l e R s m args below meth c H locs cells slots Q (F0 m (pc + 1) ls (.int (zI (x % y)) :: rest))) : W p l e R s m args below meth c H locs cells slots Q (F0 m pc ls (.int (zI y) :: .int (zI x) :: rest)) := lv_irem hexec hb hdg (fun q => by have := (zI_eq (a := y) (b := 0) ⟨by omega, by omega⟩ ⟨by omega, by omega⟩).mp q; omega) (by rw [zI_rem h1.1 h1.2 h2.1 h2.2]; exact k)
theorem z_lrem (hexec : p.tables.exec = Jvm.exec) (hb : c.code = cc) {x y : Int} (hdg : decode cc pc = .ok (.lrem, 1)) (h1 : 0 ≤ x ∧ x < 9223372036854775808) (h2 : 0 < y ∧ y < 9223372036854775808) (k : W p l e R s m args below meth c H locs cells slots Q (F0 m (pc + 1) ls (.long (zL (x % y)) :: rest))) : W p l e R s m args below meth c H locs cells slots Q (F0 m pc ls (.long (zL y) :: .long (zL x) :: rest)) := lv_lrem hexec hb hdg (fun q => by have := (zL_eq (a := y) (b := 0) ⟨by omega, by omega⟩ ⟨by omega, by omega⟩).mp q; omega) (by rw [zL_rem h1.1 h1.2 h2.1 h2.2]; exact k)
theorem z_ldiv (hexec : p.tables.exec = Jvm.exec) (hb : c.code = cc) {x y : Int} (hdg : decode cc pc = .ok (.ldiv, 1)) (h2 : 0 < y ∧ y < 9223372036854775808) (k : W p l e R s m args below meth c H locs cells slots Q (F0 m (pc + 1) ls (.long (zL x / zL y) :: rest))) : W p l e R s m args below meth c H locs cells slots Q (F0 m pc ls (.long (zL y) :: .long (zL x) :: rest)) := lv_ldiv hexec hb hdg (fun q => by have := (zL_eq (a := y) (b := 0) ⟨by omega, by omega⟩ ⟨by omega, by omega⟩).mp q; omega) k
theorem z_i2l (hexec : p.tables.exec = Jvm.exec) (hb : c.code = cc) {x : Int} (hdg : decode cc pc = .ok (.i2l, 1)) (h : zB x) (k : W p l e R s m args below meth c H locs cells slots Q (F0 m (pc + 1) ls (.long (zL x) :: rest))) : W p l e R s m args below meth c H locs cells slots Q (F0 m pc ls (.int (zI x) :: rest)) := lv_i2l hexec hb hdg (zI_l h) k
theorem z_l2i (hexec : p.tables.exec = Jvm.exec) (hb : c.code = cc) {x : Int} (hdg : decode cc pc = .ok (.l2i, 1)) (k : W p l e R s m args below meth c H locs cells slots Q (F0 m (pc + 1) ls (.int (zI x) :: rest))) : W p l e R s m args below meth c H locs cells slots Q (F0 m pc ls (.long (zL x) :: rest)) := lv_l2i hexec hb hdg (zL_i x) k
theorem z_ush33 (hexec : p.tables.exec = Jvm.exec) (hb : c.code = cc) {x : Int} (hdg : decode cc pc = .ok (.lushr, 1)) (k : W p l e R s m args below meth c H locs cells slots Q (F0 m (pc + 1) ls (.long (zL (x % 18446744073709551616 / 8589934592)) :: rest))) : W p l e R s m args below meth c H locs cells slots Q (F0 m pc ls (.int (zI 33) :: .long (zL x) :: rest)) := lv_lushr hexec hb hdg (zL_ush x) k
theorem z_ldc (hexec : p.tables.exec = Jvm.exec) (hb : c.code = cc) {own : String} {index : Nat} {v : Int32} {z : Int} (hown : s.vm.findClass own = some m.cls) (hconst : (Jvm.Cond.constant own index v).before args s = true) (hz : v = zI z) (hdg : decode cc pc = .ok (.ldc index, 2)) (k : W p l e R s m args below meth c H locs cells slots Q (F0 m (pc + 2) ls (.int (zI z) :: rest))) : W p l e R s m args below meth c H locs cells slots Q (F0 m pc ls rest) := lv_ldc hexec hb hown hconst hdg (by rw [hz]; exact k)
theorem z_ldc2 (hexec : p.tables.exec = Jvm.exec) (hb : c.code = cc) {own : String} {index : Nat} {v : Int64} {z : Int} (hown : s.vm.findClass own = some m.cls) (hconst : (Jvm.Cond.constantLong own index v).before args s = true) (hz : v = zL z) (hdg : decode cc pc = .ok (.ldc2_w index, 3)) (k : W p l e R s m args below meth c H locs cells slots Q (F0 m (pc + 3) ls (.long (zL z) :: rest))) : W p l e R s m args below meth c H locs cells slots Q (F0 m pc ls rest) := lv_ldc2 hexec hb hown hconst hdg (by rw [hz]; exact k)
theorem z_max (hexec : p.tables.exec = Jvm.exec) (hb : c.code = cc) (hml : c.maxLocals = ls.size) {own : String} {index : Nat} (hown : s.vm.findClass own = some m.cls) (hlink : (Cond.methodLink own index Lib.Math.max.name).before args s = true) (hstat : (Cond.static Lib.Math.max.name).before args s = true) (hini : (Cond.initialized "java/lang/Math").before args s = true) (hcode : (Cond.code Lib.Math.max.name Lib.Math.max.code 2 (some .int)).before args s = true) (hframes : 1 ≤ R.frames) (hlocals : (rest.map fun v => v.category).sum + 13 ≤ R.locals) (hc : cells ≤ R.cells) (hs : slots ≤ R.slots) {x y : Int} (hx : zB x) (hy : zB y) (hdg : decode cc pc = .ok (.invokestatic index, 3)) (kk : W p l e R s m args below meth c H locs cells slots Q (F0 m (pc + 3) ls (.int (zI (max x y)) :: rest))) : W p l e R s m args below meth c H locs cells slots Q (F0 m pc ls (.int (zI y) :: .int (zI x) :: rest)) := by
  refine va_mmax hexec hb hml hown hlink hstat hini hcode hframes hlocals hc hs hdg ?_
  have e : (if zI x < zI y then zI y else zI x) = zI (max x y) := by
    by_cases h : x < y
    · rw [if_pos ((zI_lt hx hy).mpr h)]; congr 1; omega
    · rw [if_neg (fun q => h ((zI_lt hx hy).mp q))]; congr 1; omega
  rw [e]; exact kk
theorem z_min (hexec : p.tables.exec = Jvm.exec) (hb : c.code = cc) (hml : c.maxLocals = ls.size) {own : String} {index : Nat} (hown : s.vm.findClass own = some m.cls) (hlink : (Cond.methodLink own index Lib.Math.min.name).before args s = true) (hstat : (Cond.static Lib.Math.min.name).before args s = true) (hini : (Cond.initialized "java/lang/Math").before args s = true) (hcode : (Cond.code Lib.Math.min.name Lib.Math.min.code 2 (some .int)).before args s = true) (hframes : 1 ≤ R.frames) (hlocals : (rest.map fun v => v.category).sum + 13 ≤ R.locals) (hc : cells ≤ R.cells) (hs : slots ≤ R.slots) {x y : Int} (hx : zB x) (hy : zB y) (hdg : decode cc pc = .ok (.invokestatic index, 3)) (kk : W p l e R s m args below meth c H locs cells slots Q (F0 m (pc + 3) ls (.int (zI (min x y)) :: rest))) : W p l e R s m args below meth c H locs cells slots Q (F0 m pc ls (.int (zI y) :: .int (zI x) :: rest)) := by
  refine va_mmin hexec hb hml hown hlink hstat hini hcode hframes hlocals hc hs hdg ?_
  have e : (if zI y < zI x then zI y else zI x) = zI (min x y) := by
    by_cases h : y < x
    · rw [if_pos ((zI_lt hy hx).mpr h)]; congr 1; omega
    · rw [if_neg (fun q => h ((zI_lt hy hx).mp q))]; congr 1; omega
  rw [e]; exact kk
theorem z_icmp_eq (hexec : p.tables.exec = Jvm.exec) (hb : c.code = cc) {x y : Int} {off : Int} {tgt : Nat} (hdg : decode cc pc = .ok (.if_icmp .eq off, 3)) (ht : (pc : Int) + off = (tgt : Int)) (hx : zB x) (hy : zB y) (kt : x = y → W p l e R s m args below meth c H locs cells slots Q (F0 m tgt ls rest)) (kf : ¬ x = y → W p l e R s m args below meth c H locs cells slots Q (F0 m (pc + 3) ls rest)) : W p l e R s m args below meth c H locs cells slots Q (F0 m pc ls (.int (zI y) :: .int (zI x) :: rest)) :=
  have h := zI_eq hx hy
  lv_icmp_eq hexec hb hdg ht (fun q => kt (h.mp q)) (fun q => kf (by have q2 := mt h.mpr q; omega))
theorem z_if_eq (hexec : p.tables.exec = Jvm.exec) (hb : c.code = cc) {x : Int} {off : Int} {tgt : Nat} (hdg : decode cc pc = .ok (.ifCond .eq off, 3)) (ht : (pc : Int) + off = (tgt : Int)) (hx : zB x) (kt : x = 0 → W p l e R s m args below meth c H locs cells slots Q (F0 m tgt ls rest)) (kf : ¬ x = 0 → W p l e R s m args below meth c H locs cells slots Q (F0 m (pc + 3) ls rest)) : W p l e R s m args below meth c H locs cells slots Q (F0 m pc ls (.int (zI x) :: rest)) :=
  have hy : zB 0 := ⟨by omega, by omega⟩
  have h := zI_eq hx hy
  lv_if_eq hexec hb hdg ht (fun q => kt (h.mp q)) (fun q => kf (by have q2 := mt h.mpr q; omega))
theorem z_lif_eq (hexec : p.tables.exec = Jvm.exec) (hb : c.code = cc) {x y : Int} {off : Int} {tgt : Nat} (hdg : decode cc pc = .ok (.ifCond .eq off, 3)) (ht : (pc : Int) + off = (tgt : Int)) (hx : zC x) (hy : zC y) (kt : x = y → W p l e R s m args below meth c H locs cells slots Q (F0 m tgt ls rest)) (kf : ¬ x = y → W p l e R s m args below meth c H locs cells slots Q (F0 m (pc + 3) ls rest)) : W p l e R s m args below meth c H locs cells slots Q (F0 m pc ls (.int (lg_cmp (zL x) (zL y)) :: rest)) :=
  have h := (lgc_eq _ _).trans (zL_eq hx hy)
  lv_if_eq hexec hb hdg ht (fun q => kt (h.mp q)) (fun q => kf (by have q2 := mt h.mpr q; omega))
theorem z_icmp_ne (hexec : p.tables.exec = Jvm.exec) (hb : c.code = cc) {x y : Int} {off : Int} {tgt : Nat} (hdg : decode cc pc = .ok (.if_icmp .ne off, 3)) (ht : (pc : Int) + off = (tgt : Int)) (hx : zB x) (hy : zB y) (kt : ¬ x = y → W p l e R s m args below meth c H locs cells slots Q (F0 m tgt ls rest)) (kf : x = y → W p l e R s m args below meth c H locs cells slots Q (F0 m (pc + 3) ls rest)) : W p l e R s m args below meth c H locs cells slots Q (F0 m pc ls (.int (zI y) :: .int (zI x) :: rest)) :=
  have h := zI_eq hx hy
  lv_icmp_ne hexec hb hdg ht (fun q => kt (mt h.mpr q)) (fun q => kf (h.mp q))
theorem z_if_ne (hexec : p.tables.exec = Jvm.exec) (hb : c.code = cc) {x : Int} {off : Int} {tgt : Nat} (hdg : decode cc pc = .ok (.ifCond .ne off, 3)) (ht : (pc : Int) + off = (tgt : Int)) (hx : zB x) (kt : ¬ x = 0 → W p l e R s m args below meth c H locs cells slots Q (F0 m tgt ls rest)) (kf : x = 0 → W p l e R s m args below meth c H locs cells slots Q (F0 m (pc + 3) ls rest)) : W p l e R s m args below meth c H locs cells slots Q (F0 m pc ls (.int (zI x) :: rest)) :=
  have hy : zB 0 := ⟨by omega, by omega⟩
  have h := zI_eq hx hy
  lv_if_ne hexec hb hdg ht (fun q => kt (mt h.mpr q)) (fun q => kf (h.mp q))
theorem z_lif_ne (hexec : p.tables.exec = Jvm.exec) (hb : c.code = cc) {x y : Int} {off : Int} {tgt : Nat} (hdg : decode cc pc = .ok (.ifCond .ne off, 3)) (ht : (pc : Int) + off = (tgt : Int)) (hx : zC x) (hy : zC y) (kt : ¬ x = y → W p l e R s m args below meth c H locs cells slots Q (F0 m tgt ls rest)) (kf : x = y → W p l e R s m args below meth c H locs cells slots Q (F0 m (pc + 3) ls rest)) : W p l e R s m args below meth c H locs cells slots Q (F0 m pc ls (.int (lg_cmp (zL x) (zL y)) :: rest)) :=
  have h := (lgc_eq _ _).trans (zL_eq hx hy)
  lv_if_ne hexec hb hdg ht (fun q => kt (mt h.mpr q)) (fun q => kf (h.mp q))
theorem z_icmp_lt (hexec : p.tables.exec = Jvm.exec) (hb : c.code = cc) {x y : Int} {off : Int} {tgt : Nat} (hdg : decode cc pc = .ok (.if_icmp .lt off, 3)) (ht : (pc : Int) + off = (tgt : Int)) (hx : zB x) (hy : zB y) (kt : x < y → W p l e R s m args below meth c H locs cells slots Q (F0 m tgt ls rest)) (kf : y ≤ x → W p l e R s m args below meth c H locs cells slots Q (F0 m (pc + 3) ls rest)) : W p l e R s m args below meth c H locs cells slots Q (F0 m pc ls (.int (zI y) :: .int (zI x) :: rest)) :=
  have h := zI_lt hx hy
  lv_icmp_lt hexec hb hdg ht (fun q => kt (h.mp q)) (fun q => kf (by have q2 := mt h.mpr q; omega))
theorem z_if_lt (hexec : p.tables.exec = Jvm.exec) (hb : c.code = cc) {x : Int} {off : Int} {tgt : Nat} (hdg : decode cc pc = .ok (.ifCond .lt off, 3)) (ht : (pc : Int) + off = (tgt : Int)) (hx : zB x) (kt : x < 0 → W p l e R s m args below meth c H locs cells slots Q (F0 m tgt ls rest)) (kf : 0 ≤ x → W p l e R s m args below meth c H locs cells slots Q (F0 m (pc + 3) ls rest)) : W p l e R s m args below meth c H locs cells slots Q (F0 m pc ls (.int (zI x) :: rest)) :=
  have hy : zB 0 := ⟨by omega, by omega⟩
  have h := zI_lt hx hy
  lv_if_lt hexec hb hdg ht (fun q => kt (h.mp q)) (fun q => kf (by have q2 := mt h.mpr q; omega))
theorem z_lif_lt (hexec : p.tables.exec = Jvm.exec) (hb : c.code = cc) {x y : Int} {off : Int} {tgt : Nat} (hdg : decode cc pc = .ok (.ifCond .lt off, 3)) (ht : (pc : Int) + off = (tgt : Int)) (hx : zC x) (hy : zC y) (kt : x < y → W p l e R s m args below meth c H locs cells slots Q (F0 m tgt ls rest)) (kf : y ≤ x → W p l e R s m args below meth c H locs cells slots Q (F0 m (pc + 3) ls rest)) : W p l e R s m args below meth c H locs cells slots Q (F0 m pc ls (.int (lg_cmp (zL x) (zL y)) :: rest)) :=
  have h := (lgc_lt _ _).trans (zL_lt hx hy)
  lv_if_lt hexec hb hdg ht (fun q => kt (h.mp q)) (fun q => kf (by have q2 := mt h.mpr q; omega))
theorem z_icmp_ge (hexec : p.tables.exec = Jvm.exec) (hb : c.code = cc) {x y : Int} {off : Int} {tgt : Nat} (hdg : decode cc pc = .ok (.if_icmp .ge off, 3)) (ht : (pc : Int) + off = (tgt : Int)) (hx : zB x) (hy : zB y) (kt : y ≤ x → W p l e R s m args below meth c H locs cells slots Q (F0 m tgt ls rest)) (kf : x < y → W p l e R s m args below meth c H locs cells slots Q (F0 m (pc + 3) ls rest)) : W p l e R s m args below meth c H locs cells slots Q (F0 m pc ls (.int (zI y) :: .int (zI x) :: rest)) :=
  have h := zI_le hy hx
  lv_icmp_ge hexec hb hdg ht (fun q => kt (h.mp q)) (fun q => kf (by have q2 := mt h.mpr q; omega))
theorem z_if_ge (hexec : p.tables.exec = Jvm.exec) (hb : c.code = cc) {x : Int} {off : Int} {tgt : Nat} (hdg : decode cc pc = .ok (.ifCond .ge off, 3)) (ht : (pc : Int) + off = (tgt : Int)) (hx : zB x) (kt : 0 ≤ x → W p l e R s m args below meth c H locs cells slots Q (F0 m tgt ls rest)) (kf : x < 0 → W p l e R s m args below meth c H locs cells slots Q (F0 m (pc + 3) ls rest)) : W p l e R s m args below meth c H locs cells slots Q (F0 m pc ls (.int (zI x) :: rest)) :=
  have hy : zB 0 := ⟨by omega, by omega⟩
  have h := zI_le hy hx
  lv_if_ge hexec hb hdg ht (fun q => kt (h.mp q)) (fun q => kf (by have q2 := mt h.mpr q; omega))
theorem z_lif_ge (hexec : p.tables.exec = Jvm.exec) (hb : c.code = cc) {x y : Int} {off : Int} {tgt : Nat} (hdg : decode cc pc = .ok (.ifCond .ge off, 3)) (ht : (pc : Int) + off = (tgt : Int)) (hx : zC x) (hy : zC y) (kt : y ≤ x → W p l e R s m args below meth c H locs cells slots Q (F0 m tgt ls rest)) (kf : x < y → W p l e R s m args below meth c H locs cells slots Q (F0 m (pc + 3) ls rest)) : W p l e R s m args below meth c H locs cells slots Q (F0 m pc ls (.int (lg_cmp (zL x) (zL y)) :: rest)) :=
  have h := (lgc_ge _ _).trans (zL_le hy hx)
  lv_if_ge hexec hb hdg ht (fun q => kt (h.mp q)) (fun q => kf (by have q2 := mt h.mpr q; omega))
theorem z_icmp_gt (hexec : p.tables.exec = Jvm.exec) (hb : c.code = cc) {x y : Int} {off : Int} {tgt : Nat} (hdg : decode cc pc = .ok (.if_icmp .gt off, 3)) (ht : (pc : Int) + off = (tgt : Int)) (hx : zB x) (hy : zB y) (kt : y < x → W p l e R s m args below meth c H locs cells slots Q (F0 m tgt ls rest)) (kf : x ≤ y → W p l e R s m args below meth c H locs cells slots Q (F0 m (pc + 3) ls rest)) : W p l e R s m args below meth c H locs cells slots Q (F0 m pc ls (.int (zI y) :: .int (zI x) :: rest)) :=
  have h := zI_lt hy hx
  lv_icmp_gt hexec hb hdg ht (fun q => kt (h.mp q)) (fun q => kf (by have q2 := mt h.mpr q; omega))
theorem z_if_gt (hexec : p.tables.exec = Jvm.exec) (hb : c.code = cc) {x : Int} {off : Int} {tgt : Nat} (hdg : decode cc pc = .ok (.ifCond .gt off, 3)) (ht : (pc : Int) + off = (tgt : Int)) (hx : zB x) (kt : 0 < x → W p l e R s m args below meth c H locs cells slots Q (F0 m tgt ls rest)) (kf : x ≤ 0 → W p l e R s m args below meth c H locs cells slots Q (F0 m (pc + 3) ls rest)) : W p l e R s m args below meth c H locs cells slots Q (F0 m pc ls (.int (zI x) :: rest)) :=
  have hy : zB 0 := ⟨by omega, by omega⟩
  have h := zI_lt hy hx
  lv_if_gt hexec hb hdg ht (fun q => kt (h.mp q)) (fun q => kf (by have q2 := mt h.mpr q; omega))
theorem z_lif_gt (hexec : p.tables.exec = Jvm.exec) (hb : c.code = cc) {x y : Int} {off : Int} {tgt : Nat} (hdg : decode cc pc = .ok (.ifCond .gt off, 3)) (ht : (pc : Int) + off = (tgt : Int)) (hx : zC x) (hy : zC y) (kt : y < x → W p l e R s m args below meth c H locs cells slots Q (F0 m tgt ls rest)) (kf : x ≤ y → W p l e R s m args below meth c H locs cells slots Q (F0 m (pc + 3) ls rest)) : W p l e R s m args below meth c H locs cells slots Q (F0 m pc ls (.int (lg_cmp (zL x) (zL y)) :: rest)) :=
  have h := (lgc_gt _ _).trans (zL_lt hy hx)
  lv_if_gt hexec hb hdg ht (fun q => kt (h.mp q)) (fun q => kf (by have q2 := mt h.mpr q; omega))
theorem z_icmp_le (hexec : p.tables.exec = Jvm.exec) (hb : c.code = cc) {x y : Int} {off : Int} {tgt : Nat} (hdg : decode cc pc = .ok (.if_icmp .le off, 3)) (ht : (pc : Int) + off = (tgt : Int)) (hx : zB x) (hy : zB y) (kt : x ≤ y → W p l e R s m args below meth c H locs cells slots Q (F0 m tgt ls rest)) (kf : y < x → W p l e R s m args below meth c H locs cells slots Q (F0 m (pc + 3) ls rest)) : W p l e R s m args below meth c H locs cells slots Q (F0 m pc ls (.int (zI y) :: .int (zI x) :: rest)) :=
  have h := zI_le hx hy
  lv_icmp_le hexec hb hdg ht (fun q => kt (h.mp q)) (fun q => kf (by have q2 := mt h.mpr q; omega))
theorem z_if_le (hexec : p.tables.exec = Jvm.exec) (hb : c.code = cc) {x : Int} {off : Int} {tgt : Nat} (hdg : decode cc pc = .ok (.ifCond .le off, 3)) (ht : (pc : Int) + off = (tgt : Int)) (hx : zB x) (kt : x ≤ 0 → W p l e R s m args below meth c H locs cells slots Q (F0 m tgt ls rest)) (kf : 0 < x → W p l e R s m args below meth c H locs cells slots Q (F0 m (pc + 3) ls rest)) : W p l e R s m args below meth c H locs cells slots Q (F0 m pc ls (.int (zI x) :: rest)) :=
  have hy : zB 0 := ⟨by omega, by omega⟩
  have h := zI_le hx hy
  lv_if_le hexec hb hdg ht (fun q => kt (h.mp q)) (fun q => kf (by have q2 := mt h.mpr q; omega))
theorem z_lif_le (hexec : p.tables.exec = Jvm.exec) (hb : c.code = cc) {x y : Int} {off : Int} {tgt : Nat} (hdg : decode cc pc = .ok (.ifCond .le off, 3)) (ht : (pc : Int) + off = (tgt : Int)) (hx : zC x) (hy : zC y) (kt : x ≤ y → W p l e R s m args below meth c H locs cells slots Q (F0 m tgt ls rest)) (kf : y < x → W p l e R s m args below meth c H locs cells slots Q (F0 m (pc + 3) ls rest)) : W p l e R s m args below meth c H locs cells slots Q (F0 m pc ls (.int (lg_cmp (zL x) (zL y)) :: rest)) :=
  have h := (lgc_le _ _).trans (zL_le hx hy)
  lv_if_le hexec hb hdg ht (fun q => kt (h.mp q)) (fun q => kf (by have q2 := mt h.mpr q; omega))
theorem z_ifb_eq (hexec : p.tables.exec = Jvm.exec) (hb : c.code = cc) {P : Prop} [Decidable P] {off : Int} {tgt : Nat} (hdg : decode cc pc = .ok (.ifCond .eq off, 3)) (ht : (pc : Int) + off = (tgt : Int)) (kt : ¬ P → W p l e R s m args below meth c H locs cells slots Q (F0 m tgt ls rest)) (kf : P → W p l e R s m args below meth c H locs cells slots Q (F0 m (pc + 3) ls rest)) : W p l e R s m args below meth c H locs cells slots Q (F0 m pc ls (.int (zI (bZ P)) :: rest)) :=
  z_if_eq hexec hb hdg ht (bZ_B P) (fun q => kt (bZ_0.mp q)) (fun q => kf (Classical.byContradiction fun h => q (bZ_f h)))
theorem z_ifb_ne (hexec : p.tables.exec = Jvm.exec) (hb : c.code = cc) {P : Prop} [Decidable P] {off : Int} {tgt : Nat} (hdg : decode cc pc = .ok (.ifCond .ne off, 3)) (ht : (pc : Int) + off = (tgt : Int)) (kt : P → W p l e R s m args below meth c H locs cells slots Q (F0 m tgt ls rest)) (kf : ¬ P → W p l e R s m args below meth c H locs cells slots Q (F0 m (pc + 3) ls rest)) : W p l e R s m args below meth c H locs cells slots Q (F0 m pc ls (.int (zI (bZ P)) :: rest)) :=
  z_if_ne hexec hb hdg ht (bZ_B P) (fun q => kt (Classical.byContradiction fun h => q (bZ_f h))) (fun q => kf (bZ_0.mp q))
theorem z_ifnull (hexec : p.tables.exec = Jvm.exec) (hb : c.code = cc) {z : Int} {off : Int} {tgt : Nat} (hdg : decode cc pc = .ok (.ifnull off, 3)) (ht : (pc : Int) + off = (tgt : Int)) (kt : z < 0 → W p l e R s m args below meth c H locs cells slots Q (F0 m tgt ls rest)) (kf : 0 ≤ z → W p l e R s m args below meth c H locs cells slots Q (F0 m (pc + 3) ls rest)) : W p l e R s m args below meth c H locs cells slots Q (F0 m pc ls (rf ad t z :: rest)) := by
  by_cases h : z < 0
  · rw [rf_n h]; exact lv_ifnullN hexec hb hdg ht (kt h)
  · rw [rf_s (j := z.toNat) (by omega)]; exact lv_ifnull hexec hb hdg (kf (by omega))
theorem z_ifnonnull (hexec : p.tables.exec = Jvm.exec) (hb : c.code = cc) {z : Int} {off : Int} {tgt : Nat} (hdg : decode cc pc = .ok (.ifnonnull off, 3)) (ht : (pc : Int) + off = (tgt : Int)) (kt : 0 ≤ z → W p l e R s m args below meth c H locs cells slots Q (F0 m tgt ls rest)) (kf : z < 0 → W p l e R s m args below meth c H locs cells slots Q (F0 m (pc + 3) ls rest)) : W p l e R s m args below meth c H locs cells slots Q (F0 m pc ls (rf ad t z :: rest)) := by
  by_cases h : z < 0
  · rw [rf_n h]; exact lv_ifnonnullN hexec hb hdg (kf h)
  · rw [rf_s (j := z.toNat) (by omega)]; exact lv_ifnonnull hexec hb hdg ht (kt (by omega))
end ZR
end
