set_option maxHeartbeats 4000000 in
set_option maxRecDepth 100000 in
theorem m_X5_thrown (l : Launch) (D : va_G) (cI cJ : ClassId) (A : Nat → Prop) (ad : Nat → Nat → Nat) (S : Nat → Nat → Nat → Int)  (h31 : 0 ≤ S 31 0 0 ∧ S 31 0 0 ≤ 1) : Met l yX5_thrown wsX5_thrown ({ frames := 0, cells := 0, slots := 0, locals := 0 }) (va_Pc [.ref (ad 32 0)] (gRU D cI cJ A ad S)) (gO (some (.int (zI (S 31 0 0)))) (gRU D cI cJ A ad (S)) A) 0 0 A := by
  refine Met.ofW (cc := cX5_thrown) (maxL := 1) (ret := (some .int)) (by decide) rfl ?_
  intro p e s m0 args below meth c s₁ B hml hv
  obtain ⟨rfl, hG, hK⟩ := hv
  have hx := B.exec
  have hb := B.bytes
  have hr := B.returns
  have hts := atoms_spec (ws := wsX5_thrown) B.pre
  have hown : s.vm.findClass RX5 = some m0.cls := findClass_of_methodNamed B.named
  have hlocks := B.notSynchronized
  have hin : ∀ w ∈ wsX50, w ∈ wsX5_thrown := by decide +kernel
  have hS : va_S A s.heap s.heap [] := va_S.rf
  have hl := lv_entry ([.ref (ad 32 0)]) (n := 1) (Nat.le_of_ble_eq_true rfl)
  rw [lg_entry_eq]
  generalize (lg_sl ([.ref (ad 32 0)]) ++ List.replicate (1 - (lg_sl ([.ref (ad 32 0)])).length) Slot.unset).toArray = ls at hl ⊢
  replace hl : lv_has ls 1 [(0, .ref (ad 32 0))] := hl
  refine lv_aload_n hx hb dX5_thrown_0 rfl (lv_at hl 0 rfl) ?_
  refine r_getI hx hb hts hin hown hK hG 31 (by decide) rfl (hts (.fieldLink RX5 87 "LineEventsModel" "thrown" "I") (by decide +kernel)) (z := S 31 0 0) (rfl) dX5_thrown_1 ?_
  have v9 : S 31 0 0 = S 31 0 0 := by rfl
  refine W.eq (congrArg (fun z => F0 m0 4 ls [.int (zI z)]) v9) ?_
  exact W.iret hx hb hr (fun t ht hW => ⟨rfl, ⟨by rw [ht]; exact hG, va_K.moved hW.alike hK⟩, hS.F ht⟩) hS.2.2 dX5_thrown_4
set_option maxHeartbeats 4000000 in
set_option maxRecDepth 100000 in
theorem m_X5_isMachine (l : Launch) (D : va_G) (cI cJ : ClassId) (A : Nat → Prop) (ad : Nat → Nat → Nat) (S : Nat → Nat → Nat → Int) (z : Int) (hz : zB z) (h5 : 0 ≤ S 5 0 0 ∧ S 5 0 0 ≤ 12) : Met l yX5_isMachine wsX5_isMachine ({ frames := 0, cells := 0, slots := 0, locals := 0 }) (va_Pc [.ref (ad 32 0), .int (zI z)] (gRU D cI cJ A ad S)) (gO (some (.int (zI (bZ (0 ≤ z ∧ z < S 5 0 0))))) (gRU D cI cJ A ad (S)) A) 0 0 A := by
  refine Met.ofW (cc := cX5_isMachine) (maxL := 2) (ret := (some .boolean)) (by decide) rfl ?_
  intro p e s m0 args below meth c s₁ B hml hv
  obtain ⟨rfl, hG, hK⟩ := hv
  have hx := B.exec
  have hb := B.bytes
  have hr := B.returns
  have hts := atoms_spec (ws := wsX5_isMachine) B.pre
  have hown : s.vm.findClass RX5 = some m0.cls := findClass_of_methodNamed B.named
  have hlocks := B.notSynchronized
  have hin : ∀ w ∈ wsX50, w ∈ wsX5_isMachine := by decide +kernel
  have hS : va_S A s.heap s.heap [] := va_S.rf
  have hl := lv_entry ([.ref (ad 32 0), .int (zI z)]) (n := 2) (Nat.le_of_ble_eq_true rfl)
  rw [lg_entry_eq]
  generalize (lg_sl ([.ref (ad 32 0), .int (zI z)]) ++ List.replicate (2 - (lg_sl ([.ref (ad 32 0), .int (zI z)])).length) Slot.unset).toArray = ls at hl ⊢
  replace hl : lv_has ls 2 [(0, .ref (ad 32 0)), (1, .int (zI z))] := hl
  refine lv_iload_n hx hb dX5_isMachine_0 rfl (lv_at hl 1 rfl) ?_
  refine z_if_lt (tgt := 16) hx hb dX5_isMachine_1 (by decide) ⟨by omega, by omega⟩ (fun c_1 => ?_) (fun c_1 => ?_)
  · refine lv_iconst (v := zI 0) hx hb dX5_isMachine_16 rfl ?_
    have v9 : 0 = bZ (0 ≤ z ∧ z < S 5 0 0) := by first | exact (bZ_t (by omega)).symm | exact (bZ_f (by omega)).symm
    refine W.eq (congrArg (fun z => F0 m0 17 ls [.int (zI z)]) v9) ?_
    exact W.zret hx hb hr (zI_bool _) (fun t ht hW => ⟨rfl, ⟨by rw [ht]; exact hG, va_K.moved hW.alike hK⟩, hS.F ht⟩) hS.2.2 dX5_isMachine_17
  · refine lv_iload_n hx hb dX5_isMachine_4 rfl (lv_at hl 1 rfl) ?_
    refine lv_aload_n hx hb dX5_isMachine_5 rfl (lv_at hl 0 rfl) ?_
    refine r_getI hx hb hts hin hown hK hG 5 (by decide) rfl (hts (.fieldLink RX5 91 "LineEventsModel" "machines" "I") (by decide +kernel)) (z := S 5 0 0) (rfl) dX5_isMachine_6 ?_
    refine z_icmp_ge (tgt := 16) hx hb dX5_isMachine_9 (by decide) ⟨by omega, by omega⟩ ⟨by omega, by omega⟩ (fun c_2 => ?_) (fun c_2 => ?_)
    · refine lv_iconst (v := zI 0) hx hb dX5_isMachine_16 rfl ?_
      have v9 : 0 = bZ (0 ≤ z ∧ z < S 5 0 0) := by first | exact (bZ_t (by omega)).symm | exact (bZ_f (by omega)).symm
      refine W.eq (congrArg (fun z => F0 m0 17 ls [.int (zI z)]) v9) ?_
      exact W.zret hx hb hr (zI_bool _) (fun t ht hW => ⟨rfl, ⟨by rw [ht]; exact hG, va_K.moved hW.alike hK⟩, hS.F ht⟩) hS.2.2 dX5_isMachine_17
    · refine lv_iconst (v := zI 1) hx hb dX5_isMachine_12 rfl ?_
      refine lv_goto (tgt := 17) hx hb dX5_isMachine_13 (by decide) ?_
      have v9 : 1 = bZ (0 ≤ z ∧ z < S 5 0 0) := by first | exact (bZ_t (by omega)).symm | exact (bZ_f (by omega)).symm
      refine W.eq (congrArg (fun z => F0 m0 17 ls [.int (zI z)]) v9) ?_
      exact W.zret hx hb hr (zI_bool _) (fun t ht hW => ⟨rfl, ⟨by rw [ht]; exact hG, va_K.moved hW.alike hK⟩, hS.F ht⟩) hS.2.2 dX5_isMachine_17
set_option maxHeartbeats 4000000 in
set_option maxRecDepth 100000 in
theorem m_X5_note (l : Launch) (D : va_G) (cI cJ : ClassId) (A : Nat → Prop) (ad : Nat → Nat → Nat) (S : Nat → Nat → Nat → Int) (m : Nat) (kd : Int) (he : 0 ≤ S 30 0 0 ∧ S 30 0 0 < 2147483647) : Met l yX5_note wsX5_note ({ frames := 0, cells := 0, slots := 0, locals := 0 }) (va_Pc [.ref (ad 32 0), .int (zI (m : Int)), .int (zI kd)] (gRU D cI cJ A ad S)) (gO none (gRU D cI cJ A ad (rnote S m kd)) A) 0 0 A := by
  refine Met.ofW (cc := cX5_note) (maxL := 3) (ret := none) (by decide) rfl ?_
  intro p e s m0 args below meth c s₁ B hml hv
  obtain ⟨rfl, hG, hK⟩ := hv
  have hx := B.exec
  have hb := B.bytes
  have hr := B.returns
  have hts := atoms_spec (ws := wsX5_note) B.pre
  have hown : s.vm.findClass RX5 = some m0.cls := findClass_of_methodNamed B.named
  have hlocks := B.notSynchronized
  have hin : ∀ w ∈ wsX50, w ∈ wsX5_note := by decide +kernel
  have hS : va_S A s.heap s.heap [] := va_S.rf
  have hl := lv_entry ([.ref (ad 32 0), .int (zI (m : Int)), .int (zI kd)]) (n := 3) (Nat.le_of_ble_eq_true rfl)
  rw [lg_entry_eq]
  generalize (lg_sl ([.ref (ad 32 0), .int (zI (m : Int)), .int (zI kd)]) ++ List.replicate (3 - (lg_sl ([.ref (ad 32 0), .int (zI (m : Int)), .int (zI kd)])).length) Slot.unset).toArray = ls at hl ⊢
  replace hl : lv_has ls 3 [(0, .ref (ad 32 0)), (1, .int (zI (m : Int))), (2, .int (zI kd))] := hl
  refine lv_aload_n hx hb dX5_note_0 rfl (lv_at hl 0 rfl) ?_
  refine r_getI hx hb hts hin hown hK hG 30 (by decide) rfl (hts (.fieldLink RX5 114 "LineEventsModel" "events" "I") (by decide +kernel)) (z := S 30 0 0) (rfl) dX5_note_1 ?_
  refine lv_sipush (v := zI 1000) hx hb dX5_note_4 (by decide) ?_
  refine z_icmp_ge (tgt := 43) hx hb dX5_note_7 (by decide) ⟨by omega, by omega⟩ ⟨by decide, by decide⟩ (fun c_1 => ?_) (fun c_1 => ?_)
  · refine lv_aload_n hx hb dX5_note_43 rfl (lv_at hl 0 rfl) ?_
    refine lv_dup hx hb dX5_note_44 rfl ?_
    refine r_getI hx hb hts hin hown hK hG 30 (by decide) rfl (hts (.fieldLink RX5 114 "LineEventsModel" "events" "I") (by decide +kernel)) (z := S 30 0 0) (rfl) dX5_note_45 ?_
    refine lv_iconst (v := zI 1) hx hb dX5_note_48 rfl ?_
    refine z_iadd hx hb dX5_note_49 ?_
    refine r_putI hx hb hts hin hown hK hG hS 30 (by decide) rfl (hts (.fieldLink RX5 114 "LineEventsModel" "events" "I") (by decide +kernel)) rfl rfl (z := (S 30 0 0) + 1) dX5_note_50 (fun H locs hG hS => ?_)
    have e9 : su S 30 0 0 ((S 30 0 0) + 1) = rnote S m kd := by unfold rnote; first | rw [if_pos (by omega)] | rw [if_neg (by omega)]
    rw [e9] at hG
    exact W.vret hx hb hr (fun t ht hW => ⟨rfl, ⟨by rw [ht]; exact hG, va_K.moved hW.alike hK⟩, hS.F ht⟩) hS.2.2 dX5_note_53
  · refine lv_aload_n hx hb dX5_note_10 rfl (lv_at hl 0 rfl) ?_
    refine r_getA hx hb hts hin hown hK hG 27 (by decide) (by decide) (hts (.fieldLink RX5 74 "LineEventsModel" "eventAt" "[I") (by decide +kernel)) dX5_note_11 ?_
    refine lv_aload_n hx hb dX5_note_14 rfl (lv_at hl 0 rfl) ?_
    refine r_getI hx hb hts hin hown hK hG 30 (by decide) rfl (hts (.fieldLink RX5 114 "LineEventsModel" "events" "I") (by decide +kernel)) (z := S 30 0 0) (rfl) dX5_note_15 ?_
    refine lv_aload_n hx hb dX5_note_18 rfl (lv_at hl 0 rfl) ?_
    refine r_getI hx hb hts hin hown hK hG 25 (by decide) rfl (hts (.fieldLink RX5 94 "LineEventsModel" "now" "I") (by decide +kernel)) (z := S 25 0 0) (rfl) dX5_note_19 ?_
    refine r_iast hx hb hK hG hS 27 (by decide) rfl (S 30 0 0).toNat 0 (by simp only [show rW 27 = 1 from rfl]; omega) (by simp only [show rN 27 = 1000 from rfl]; omega) (by simp only [show rW 27 = 1 from rfl]; omega) (w := S 25 0 0) dX5_note_22 (fun H locs hG hS => ?_)
    refine lv_aload_n hx hb dX5_note_23 rfl (lv_at hl 0 rfl) ?_
    refine r_getA hx hb hts hin hown hK hG 28 (by decide) (by decide) (hts (.fieldLink RX5 77 "LineEventsModel" "eventMachine" "[I") (by decide +kernel)) dX5_note_24 ?_
    refine lv_aload_n hx hb dX5_note_27 rfl (lv_at hl 0 rfl) ?_
    refine r_getI hx hb hts hin hown hK hG 30 (by decide) rfl (hts (.fieldLink RX5 114 "LineEventsModel" "events" "I") (by decide +kernel)) (z := S 30 0 0) (by simp [su]) dX5_note_28 ?_
    refine lv_iload_n hx hb dX5_note_31 rfl (lv_at hl 1 rfl) ?_
    refine r_iast hx hb hK hG hS 28 (by decide) rfl (S 30 0 0).toNat 0 (by simp only [show rW 28 = 1 from rfl]; omega) (by simp only [show rN 28 = 1000 from rfl]; omega) (by simp only [show rW 28 = 1 from rfl]; omega) (w := (m : Int)) dX5_note_32 (fun H locs hG hS => ?_)
    refine lv_aload_n hx hb dX5_note_33 rfl (lv_at hl 0 rfl) ?_
    refine r_getA hx hb hts hin hown hK hG 29 (by decide) (by decide) (hts (.fieldLink RX5 80 "LineEventsModel" "eventKind" "[I") (by decide +kernel)) dX5_note_34 ?_
    refine lv_aload_n hx hb dX5_note_37 rfl (lv_at hl 0 rfl) ?_
    refine r_getI hx hb hts hin hown hK hG 30 (by decide) rfl (hts (.fieldLink RX5 114 "LineEventsModel" "events" "I") (by decide +kernel)) (z := S 30 0 0) (by simp [su]) dX5_note_38 ?_
    refine lv_iload_n hx hb dX5_note_41 rfl (lv_at hl 2 rfl) ?_
    refine r_iast hx hb hK hG hS 29 (by decide) rfl (S 30 0 0).toNat 0 (by simp only [show rW 29 = 1 from rfl]; omega) (by simp only [show rN 29 = 1000 from rfl]; omega) (by simp only [show rW 29 = 1 from rfl]; omega) (w := kd) dX5_note_42 (fun H locs hG hS => ?_)
    refine lv_aload_n hx hb dX5_note_43 rfl (lv_at hl 0 rfl) ?_
    refine lv_dup hx hb dX5_note_44 rfl ?_
    refine r_getI hx hb hts hin hown hK hG 30 (by decide) rfl (hts (.fieldLink RX5 114 "LineEventsModel" "events" "I") (by decide +kernel)) (z := S 30 0 0) (by simp [su]) dX5_note_45 ?_
    refine lv_iconst (v := zI 1) hx hb dX5_note_48 rfl ?_
    refine z_iadd hx hb dX5_note_49 ?_
    refine r_putI hx hb hts hin hown hK hG hS 30 (by decide) rfl (hts (.fieldLink RX5 114 "LineEventsModel" "events" "I") (by decide +kernel)) rfl rfl (z := (S 30 0 0) + 1) dX5_note_50 (fun H locs hG hS => ?_)
    have e9 : su (su (su (su S 27 (S 30 0 0).toNat 0 (S 25 0 0)) 28 (S 30 0 0).toNat 0 ((m : Int))) 29 (S 30 0 0).toNat 0 (kd)) 30 0 0 ((S 30 0 0) + 1) = rnote S m kd := by unfold rnote; first | rw [if_pos (by omega)] | rw [if_neg (by omega)]
    rw [e9] at hG
    exact W.vret hx hb hr (fun t ht hW => ⟨rfl, ⟨by rw [ht]; exact hG, va_K.moved hW.alike hK⟩, hS.F ht⟩) hS.2.2 dX5_note_53
set_option maxHeartbeats 4000000 in
set_option maxRecDepth 100000 in
theorem m_X5_draw (l : Launch) (D : va_G) (cI cJ : ClassId) (A : Nat → Prop) (ad : Nat → Nat → Nat) (S : Nat → Nat → Nat → Int) (b : Int) (hb0 : 0 < b ∧ b < 9223372036854775808) : Met l yX5_draw wsX5_draw ({ frames := 0, cells := 0, slots := 0, locals := 0 }) (va_Pc [.ref (ad 32 0), .long (zL b)] (gRU D cI cJ A ad S)) (gO (some (.long (zL (rdv S b)))) (gRU D cI cJ A ad (rdraw S)) A) 0 0 A := by
  refine Met.ofW (cc := cX5_draw) (maxL := 3) (ret := (some .long)) (by decide) rfl ?_
  intro p e s m0 args below meth c s₁ B hml hv
  obtain ⟨rfl, hG, hK⟩ := hv
  have hx := B.exec
  have hb := B.bytes
  have hr := B.returns
  have hts := atoms_spec (ws := wsX5_draw) B.pre
  have hown : s.vm.findClass RX5 = some m0.cls := findClass_of_methodNamed B.named
  have hlocks := B.notSynchronized
  have hin : ∀ w ∈ wsX50, w ∈ wsX5_draw := by decide +kernel
  have hS : va_S A s.heap s.heap [] := va_S.rf
  have hl := lv_entry ([.ref (ad 32 0), .long (zL b)]) (n := 3) (Nat.le_of_ble_eq_true rfl)
  rw [lg_entry_eq]
  generalize (lg_sl ([.ref (ad 32 0), .long (zL b)]) ++ List.replicate (3 - (lg_sl ([.ref (ad 32 0), .long (zL b)])).length) Slot.unset).toArray = ls at hl ⊢
  replace hl : lv_has ls 3 [(0, .ref (ad 32 0)), (1, .long (zL b))] := hl
  refine lv_aload_n hx hb dX5_draw_0 rfl (lv_at hl 0 rfl) ?_
  refine lv_aload_n hx hb dX5_draw_1 rfl (lv_at hl 0 rfl) ?_
  refine r_getJ hx hb hts hin hown hK hG 26 (by decide) rfl (hts (.fieldLink RX5 83 "LineEventsModel" "drawn" "J") (by decide +kernel)) (z := S 26 0 0) (rfl) dX5_draw_2 ?_
  refine z_ldc2 (z := 6364136223846793005) hx hb hown (hts (.constantLong RX5 117 (6364136223846793005)) (by decide +kernel)) (by decide) dX5_draw_5 ?_
  refine z_lmul hx hb dX5_draw_8 ?_
  refine z_ldc2 (z := 1442695040888963407) hx hb hown (hts (.constantLong RX5 119 (1442695040888963407)) (by decide +kernel)) (by decide) dX5_draw_9 ?_
  refine z_ladd hx hb dX5_draw_12 ?_
  refine r_putJ hx hb hts hin hown hK hG hS 26 (by decide) rfl (hts (.fieldLink RX5 83 "LineEventsModel" "drawn" "J") (by decide +kernel)) rfl rfl (z := ((S 26 0 0) * 6364136223846793005) + 1442695040888963407) dX5_draw_13 (fun H locs hG hS => ?_)
  refine lv_aload_n hx hb dX5_draw_16 rfl (lv_at hl 0 rfl) ?_
  refine r_getJ hx hb hts hin hown hK hG 26 (by decide) rfl (hts (.fieldLink RX5 83 "LineEventsModel" "drawn" "J") (by decide +kernel)) (z := ((S 26 0 0) * 6364136223846793005) + 1442695040888963407) (by simp [su]) dX5_draw_17 ?_
  refine lv_bipush (v := zI 33) hx hb dX5_draw_20 (by decide) ?_
  refine z_ush33 hx hb dX5_draw_22 ?_
  refine lv_lload_n hx hb dX5_draw_23 rfl (lv_at hl 1 rfl) ?_
  refine z_lrem hx hb dX5_draw_24 ⟨by omega, by omega⟩ ⟨by omega, by omega⟩ ?_
  have e9 : su S 26 0 0 (((S 26 0 0) * 6364136223846793005) + 1442695040888963407) = rdraw S := by rfl
  rw [e9] at hG
  have v9 : ((((S 26 0 0) * 6364136223846793005) + 1442695040888963407) % 18446744073709551616 / 8589934592) % b = rdv S b := by rfl
  refine W.eq (congrArg (fun z => F0 m0 25 ls [.long (zL z)]) v9) ?_
  exact W.lret hx hb hr (fun t ht hW => ⟨rfl, ⟨by rw [ht]; exact hG, va_K.moved hW.alike hK⟩, hS.F ht⟩) hS.2.2 dX5_draw_25
