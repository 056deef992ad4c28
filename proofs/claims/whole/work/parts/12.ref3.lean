set_option maxHeartbeats 4000000 in
set_option maxRecDepth 100000 in
theorem m_X5_leave (l : Launch) (D : va_G) (cI cJ : ClassId) (A : Nat → Prop) (ad : Nat → Nat → Nat) (S : Nat → Nat → Nat → Int) (m : Nat) (hI : Inv S) (hm : (m : Int) < S 5 0 0) (he : 0 ≤ S 30 0 0 ∧ S 30 0 0 < 2147483647) : Met l yX5_leave wsX5_leave ({ frames := 1, cells := 0, slots := 0, locals := 22 }) (va_Pc [.ref (ad 32 0), .int (zI (m : Int))] (gRU D cI cJ A ad S)) (gO none (gRU D cI cJ A ad (rleave S m)) A) 0 0 A := by
  refine Met.ofW (cc := cX5_leave) (maxL := 2) (ret := none) (by decide) rfl ?_
  intro p e s m0 args below meth c s₁ B hml hv
  obtain ⟨rfl, hG, hK⟩ := hv
  have hx := B.exec
  have hb := B.bytes
  have hr := B.returns
  have hts := atoms_spec (ws := wsX5_leave) B.pre
  have hown : s.vm.findClass RX5 = some m0.cls := findClass_of_methodNamed B.named
  have hlocks := B.notSynchronized
  have hin : ∀ w ∈ wsX50, w ∈ wsX5_leave := by decide +kernel
  have hS : va_S A s.heap s.heap [] := va_S.rf
  have hl := lv_entry ([.ref (ad 32 0), .int (zI (m : Int))]) (n := 2) (Nat.le_of_ble_eq_true rfl)
  rw [lg_entry_eq]
  generalize (lg_sl ([.ref (ad 32 0), .int (zI (m : Int))]) ++ List.replicate (2 - (lg_sl ([.ref (ad 32 0), .int (zI (m : Int))])).length) Slot.unset).toArray = ls at hl ⊢
  replace hl : lv_has ls 2 [(0, .ref (ad 32 0)), (1, .int (zI (m : Int)))] := hl
  obtain ⟨hI5, hI25, hI20, hIM, hIL, hIR⟩ := id hI
  have hm12 : m < 12 := by omega
  obtain ⟨hM6, hM7, hM8, hM10, hM11, hM15, hM9, hMf⟩ := id (hIM m hm12)
  obtain ⟨hL0, hL1, hL2, hL3, hL4⟩ := id (hIL m hm)
  refine lv_aload_n hx hb dX5_leave_0 rfl (lv_at hl 0 rfl) ?_
  refine r_getA hx hb hts hin hown hK hG 2 (by decide) (by decide) (hts (.fieldLink RX5 16 "LineEventsModel" "behind" "[I") (by decide +kernel)) dX5_leave_1 ?_
  refine lv_iload_n hx hb dX5_leave_4 rfl (lv_at hl 1 rfl) ?_
  refine r_iald hx hb hK hG 2 (by decide) rfl m 0 (by simp only [show rW 2 = 1 from rfl]; omega) (by simp only [show rN 2 = 12 from rfl]; omega) (by simp only [show rW 2 = 1 from rfl]; omega) (w := S 2 m 0) (rfl) dX5_leave_5 ?_
  refine lv_iconst (v := zI (-1)) hx hb dX5_leave_6 rfl ?_
  refine z_icmp_ne (tgt := 23) hx hb dX5_leave_7 (by decide) ⟨by omega, by omega⟩ ⟨by decide, by decide⟩ (fun c_1 => ?_) (fun c_1 => ?_)
  · refine lv_aload_n hx hb dX5_leave_23 rfl (lv_at hl 0 rfl) ?_
    refine r_getA hx hb hts hin hown hK hG 11 (by decide) (by decide) (hts (.fieldLink RX5 40 "LineEventsModel" "many" "[I") (by decide +kernel)) dX5_leave_24 ?_
    refine lv_iload_n hx hb dX5_leave_27 rfl (lv_at hl 1 rfl) ?_
    refine r_iald hx hb hK hG 11 (by decide) rfl m 0 (by simp only [show rW 11 = 1 from rfl]; omega) (by simp only [show rN 11 = 12 from rfl]; omega) (by simp only [show rW 11 = 1 from rfl]; omega) (w := S 11 m 0) (rfl) dX5_leave_28 ?_
    refine lv_aload_n hx hb dX5_leave_29 rfl (lv_at hl 0 rfl) ?_
    refine r_getA hx hb hts hin hown hK hG 3 (by decide) (by decide) (hts (.fieldLink RX5 19 "LineEventsModel" "room" "[I") (by decide +kernel)) dX5_leave_30 ?_
    refine lv_iload_n hx hb dX5_leave_33 rfl (lv_at hl 1 rfl) ?_
    refine r_iald hx hb hK hG 3 (by decide) rfl m 0 (by simp only [show rW 3 = 1 from rfl]; omega) (by simp only [show rN 3 = 12 from rfl]; omega) (by simp only [show rW 3 = 1 from rfl]; omega) (w := S 3 m 0) (rfl) dX5_leave_34 ?_
    refine z_icmp_ge (tgt := 83) hx hb dX5_leave_35 (by decide) ⟨by omega, by omega⟩ ⟨by omega, by omega⟩ (fun c_2 => ?_) (fun c_2 => ?_)
    · have e9 : S = rleave S m := by unfold rleave; first | rw [if_pos (by omega)] | rw [if_neg (by omega), if_pos (by omega)] | rw [if_neg (by omega), if_neg (by omega)]
      rw [e9] at hG
      exact W.vret hx hb hr (fun t ht hW => ⟨rfl, ⟨by rw [ht]; exact hG, va_K.moved hW.alike hK⟩, hS.F ht⟩) hS.2.2 dX5_leave_83
    · refine lv_aload_n hx hb dX5_leave_38 rfl (lv_at hl 0 rfl) ?_
      refine r_getA hx hb hts hin hown hK hG 9 (by decide) (by decide) (hts (.fieldLink RX5 34 "LineEventsModel" "came" "[I") (by decide +kernel)) dX5_leave_39 ?_
      refine lv_iload_n hx hb dX5_leave_42 rfl (lv_at hl 1 rfl) ?_
      refine lv_sipush (v := zI 1000) hx hb dX5_leave_43 (by decide) ?_
      refine z_imul hx hb dX5_leave_46 ?_
      refine lv_aload_n hx hb dX5_leave_47 rfl (lv_at hl 0 rfl) ?_
      refine r_getA hx hb hts hin hown hK hG 10 (by decide) (by decide) (hts (.fieldLink RX5 37 "LineEventsModel" "first" "[I") (by decide +kernel)) dX5_leave_48 ?_
      refine lv_iload_n hx hb dX5_leave_51 rfl (lv_at hl 1 rfl) ?_
      refine r_iald hx hb hK hG 10 (by decide) rfl m 0 (by simp only [show rW 10 = 1 from rfl]; omega) (by simp only [show rN 10 = 12 from rfl]; omega) (by simp only [show rW 10 = 1 from rfl]; omega) (w := S 10 m 0) (rfl) dX5_leave_52 ?_
      refine lv_aload_n hx hb dX5_leave_53 rfl (lv_at hl 0 rfl) ?_
      refine r_getA hx hb hts hin hown hK hG 11 (by decide) (by decide) (hts (.fieldLink RX5 40 "LineEventsModel" "many" "[I") (by decide +kernel)) dX5_leave_54 ?_
      refine lv_iload_n hx hb dX5_leave_57 rfl (lv_at hl 1 rfl) ?_
      refine r_iald hx hb hK hG 11 (by decide) rfl m 0 (by simp only [show rW 11 = 1 from rfl]; omega) (by simp only [show rN 11 = 12 from rfl]; omega) (by simp only [show rW 11 = 1 from rfl]; omega) (w := S 11 m 0) (rfl) dX5_leave_58 ?_
      refine z_iadd hx hb dX5_leave_59 ?_
      refine lv_sipush (v := zI 1000) hx hb dX5_leave_60 (by decide) ?_
      refine z_irem hx hb dX5_leave_63 ⟨by omega, by omega⟩ ⟨by omega, by omega⟩ ?_
      refine z_iadd hx hb dX5_leave_64 ?_
      refine lv_aload_n hx hb dX5_leave_65 rfl (lv_at hl 0 rfl) ?_
      refine r_getI hx hb hts hin hown hK hG 25 (by decide) rfl (hts (.fieldLink RX5 94 "LineEventsModel" "now" "I") (by decide +kernel)) (z := S 25 0 0) (rfl) dX5_leave_66 ?_
      refine r_iast hx hb hK hG hS 9 (by decide) rfl m (((S 10 m 0) + (S 11 m 0)) % 1000).toNat (by simp only [show rW 9 = 1000 from rfl]; omega) (by simp only [show rN 9 = 12 from rfl]; omega) (by simp only [show rW 9 = 1000 from rfl]; omega) (w := S 25 0 0) dX5_leave_69 (fun H locs hG hS => ?_)
      refine lv_aload_n hx hb dX5_leave_70 rfl (lv_at hl 0 rfl) ?_
      refine r_getA hx hb hts hin hown hK hG 11 (by decide) (by decide) (hts (.fieldLink RX5 40 "LineEventsModel" "many" "[I") (by decide +kernel)) dX5_leave_71 ?_
      refine lv_iload_n hx hb dX5_leave_74 rfl (lv_at hl 1 rfl) ?_
      refine lv_dup2_11 hx hb dX5_leave_75 rfl rfl ?_
      refine r_iald hx hb hK hG 11 (by decide) rfl m 0 (by simp only [show rW 11 = 1 from rfl]; omega) (by simp only [show rN 11 = 12 from rfl]; omega) (by simp only [show rW 11 = 1 from rfl]; omega) (w := S 11 m 0) (by simp [su]) dX5_leave_76 ?_
      refine lv_iconst (v := zI 1) hx hb dX5_leave_77 rfl ?_
      refine z_iadd hx hb dX5_leave_78 ?_
      refine r_iast hx hb hK hG hS 11 (by decide) rfl m 0 (by simp only [show rW 11 = 1 from rfl]; omega) (by simp only [show rN 11 = 12 from rfl]; omega) (by simp only [show rW 11 = 1 from rfl]; omega) (w := (S 11 m 0) + 1) dX5_leave_79 (fun H locs hG hS => ?_)
      refine lv_goto (tgt := 84) hx hb dX5_leave_80 (by decide) ?_
      refine lv_aload_n hx hb dX5_leave_84 rfl (lv_at hl 0 rfl) ?_
      refine r_getA hx hb hts hin hown hK hG 6 (by decide) (by decide) (hts (.fieldLink RX5 25 "LineEventsModel" "bottle" "[I") (by decide +kernel)) dX5_leave_85 ?_
      refine lv_iload_n hx hb dX5_leave_88 rfl (lv_at hl 1 rfl) ?_
      refine lv_iconst (v := zI 0) hx hb dX5_leave_89 rfl ?_
      refine r_iast hx hb hK hG hS 6 (by decide) rfl m 0 (by simp only [show rW 6 = 1 from rfl]; omega) (by simp only [show rN 6 = 12 from rfl]; omega) (by simp only [show rW 6 = 1 from rfl]; omega) (w := 0) dX5_leave_90 (fun H locs hG hS => ?_)
      refine lv_aload_n hx hb dX5_leave_91 rfl (lv_at hl 0 rfl) ?_
      refine lv_iload_n hx hb dX5_leave_92 rfl (lv_at hl 1 rfl) ?_
      refine lv_iconst (v := zI 1) hx hb dX5_leave_93 rfl ?_
      refine r_callV (As := [.int (zI (m : Int)), .int (zI 1)]) (rest := []) ⟨hx, hb, hml, hown, hts⟩ (m_X5_note l D cI cJ A ad (su (su (su S 9 m (((S 10 m 0) + (S 11 m 0)) % 1000).toNat (S 25 0 0)) 11 m 0 ((S 11 m 0) + 1)) 6 m 0 (0)) m 1 (by simpa [su] using he)) (cwV 2 hts gX5_leave_X5_note rfl rfl rfl (by decide +kernel) ⟨Nat.le_of_ble_eq_true rfl, Nat.le_of_ble_eq_true rfl⟩) hK hG hS rfl hl.1 rfl (Nat.le_of_ble_eq_true rfl) dX5_leave_94 ⟨Nat.zero_le _, Nat.zero_le _⟩ (fun H locs hG hS => ?_)
      have e9 : rnote (su (su (su S 9 m (((S 10 m 0) + (S 11 m 0)) % 1000).toNat (S 25 0 0)) 11 m 0 ((S 11 m 0) + 1)) 6 m 0 (0)) m 1 = rleave S m := by unfold rleave; first | rw [if_pos (by omega)] | rw [if_neg (by omega), if_pos (by omega)] | rw [if_neg (by omega), if_neg (by omega)]
      rw [e9] at hG
      exact W.vret hx hb hr (fun t ht hW => ⟨rfl, ⟨by rw [ht]; exact hG, va_K.moved hW.alike hK⟩, hS.F ht⟩) hS.2.2 dX5_leave_97
  · refine lv_aload_n hx hb dX5_leave_10 rfl (lv_at hl 0 rfl) ?_
    refine lv_dup hx hb dX5_leave_11 rfl ?_
    refine r_getJ hx hb hts hin hown hK hG 24 (by decide) rfl (hts (.fieldLink RX5 129 "LineEventsModel" "made" "J") (by decide +kernel)) (z := S 24 0 0) (rfl) dX5_leave_12 ?_
    refine lv_lconst (v := zL 1) hx hb dX5_leave_15 (by decide) ?_
    refine z_ladd hx hb dX5_leave_16 ?_
    refine r_putJ hx hb hts hin hown hK hG hS 24 (by decide) rfl (hts (.fieldLink RX5 129 "LineEventsModel" "made" "J") (by decide +kernel)) rfl rfl (z := (S 24 0 0) + 1) dX5_leave_17 (fun H locs hG hS => ?_)
    refine lv_goto (tgt := 84) hx hb dX5_leave_20 (by decide) ?_
    refine lv_aload_n hx hb dX5_leave_84 rfl (lv_at hl 0 rfl) ?_
    refine r_getA hx hb hts hin hown hK hG 6 (by decide) (by decide) (hts (.fieldLink RX5 25 "LineEventsModel" "bottle" "[I") (by decide +kernel)) dX5_leave_85 ?_
    refine lv_iload_n hx hb dX5_leave_88 rfl (lv_at hl 1 rfl) ?_
    refine lv_iconst (v := zI 0) hx hb dX5_leave_89 rfl ?_
    refine r_iast hx hb hK hG hS 6 (by decide) rfl m 0 (by simp only [show rW 6 = 1 from rfl]; omega) (by simp only [show rN 6 = 12 from rfl]; omega) (by simp only [show rW 6 = 1 from rfl]; omega) (w := 0) dX5_leave_90 (fun H locs hG hS => ?_)
    refine lv_aload_n hx hb dX5_leave_91 rfl (lv_at hl 0 rfl) ?_
    refine lv_iload_n hx hb dX5_leave_92 rfl (lv_at hl 1 rfl) ?_
    refine lv_iconst (v := zI 1) hx hb dX5_leave_93 rfl ?_
    refine r_callV (As := [.int (zI (m : Int)), .int (zI 1)]) (rest := []) ⟨hx, hb, hml, hown, hts⟩ (m_X5_note l D cI cJ A ad (su (su S 24 0 0 ((S 24 0 0) + 1)) 6 m 0 (0)) m 1 (by simpa [su] using he)) (cwV 2 hts gX5_leave_X5_note rfl rfl rfl (by decide +kernel) ⟨Nat.le_of_ble_eq_true rfl, Nat.le_of_ble_eq_true rfl⟩) hK hG hS rfl hl.1 rfl (Nat.le_of_ble_eq_true rfl) dX5_leave_94 ⟨Nat.zero_le _, Nat.zero_le _⟩ (fun H locs hG hS => ?_)
    have e9 : rnote (su (su S 24 0 0 ((S 24 0 0) + 1)) 6 m 0 (0)) m 1 = rleave S m := by unfold rleave; first | rw [if_pos (by omega)] | rw [if_neg (by omega), if_pos (by omega)] | rw [if_neg (by omega), if_neg (by omega)]
    rw [e9] at hG
    exact W.vret hx hb hr (fun t ht hW => ⟨rfl, ⟨by rw [ht]; exact hG, va_K.moved hW.alike hK⟩, hS.F ht⟩) hS.2.2 dX5_leave_97
set_option maxHeartbeats 4000000 in
set_option maxRecDepth 100000 in
theorem m_X5_take (l : Launch) (D : va_G) (cI cJ : ClassId) (A : Nat → Prop) (ad : Nat → Nat → Nat) (S : Nat → Nat → Nat → Int) (m : Nat) (hI : Inv S) (hm : (m : Int) < S 5 0 0) (he : 0 ≤ S 30 0 0 ∧ S 30 0 0 < 2147483647) : Met l yX5_take wsX5_take ({ frames := 1, cells := 0, slots := 0, locals := 22 }) (va_Pc [.ref (ad 32 0), .int (zI (m : Int))] (gRU D cI cJ A ad S)) (gO none (gRU D cI cJ A ad (rtake S m)) A) 0 0 A := by
  refine Met.ofW (cc := cX5_take) (maxL := 4) (ret := none) (by decide) rfl ?_
  intro p e s m0 args below meth c s₁ B hml hv
  obtain ⟨rfl, hG, hK⟩ := hv
  have hx := B.exec
  have hb := B.bytes
  have hr := B.returns
  have hts := atoms_spec (ws := wsX5_take) B.pre
  have hown : s.vm.findClass RX5 = some m0.cls := findClass_of_methodNamed B.named
  have hlocks := B.notSynchronized
  have hin : ∀ w ∈ wsX50, w ∈ wsX5_take := by decide +kernel
  have hS : va_S A s.heap s.heap [] := va_S.rf
  have hl := lv_entry ([.ref (ad 32 0), .int (zI (m : Int))]) (n := 4) (Nat.le_of_ble_eq_true rfl)
  rw [lg_entry_eq]
  generalize (lg_sl ([.ref (ad 32 0), .int (zI (m : Int))]) ++ List.replicate (4 - (lg_sl ([.ref (ad 32 0), .int (zI (m : Int))])).length) Slot.unset).toArray = ls at hl ⊢
  replace hl : lv_has ls 4 [(0, .ref (ad 32 0)), (1, .int (zI (m : Int)))] := hl
  obtain ⟨hI5, hI25, hI20, hIM, hIL, hIR⟩ := id hI
  have hm12 : m < 12 := by omega
  obtain ⟨hM6, hM7, hM8, hM10, hM11, hM15, hM9, hMf⟩ := id (hIM m hm12)
  obtain ⟨hL0, hL1, hL2, hL3, hL4⟩ := id (hIL m hm)
  refine lv_aload_n hx hb dX5_take_0 rfl (lv_at hl 0 rfl) ?_
  refine r_getA hx hb hts hin hown hK hG 1 (by decide) (by decide) (hts (.fieldLink RX5 13 "LineEventsModel" "before" "[I") (by decide +kernel)) dX5_take_1 ?_
  refine lv_iload_n hx hb dX5_take_4 rfl (lv_at hl 1 rfl) ?_
  refine r_iald hx hb hK hG 1 (by decide) rfl m 0 (by simp only [show rW 1 = 1 from rfl]; omega) (by simp only [show rN 1 = 12 from rfl]; omega) (by simp only [show rW 1 = 1 from rfl]; omega) (w := S 1 m 0) (rfl) dX5_take_5 ?_
  refine lv_istore_n (lv' := [(2, .int (zI (S 1 m 0))), (0, .ref (ad 32 0)), (1, .int (zI (m : Int)))]) hx hb dX5_take_6 rfl hl (by decide) rfl (fun ls hl => ?_)
  refine lv_iload_n hx hb dX5_take_7 rfl (lv_at hl 0 rfl) ?_
  refine lv_iconst (v := zI (-1)) hx hb dX5_take_8 rfl ?_
  refine z_icmp_ne (tgt := 25) hx hb dX5_take_9 (by decide) ⟨by omega, by omega⟩ ⟨by decide, by decide⟩ (fun c_1 => ?_) (fun c_1 => ?_)
  · obtain ⟨b, hb9⟩ : ∃ b : Nat, S 1 m 0 = (b : Int) := ⟨(S 1 m 0).toNat, by omega⟩
    have hbn : (b : Int) < S 5 0 0 := by omega
    obtain ⟨hB6, hB7, hB8, hB10, hB11, hB15, hB9, hBf⟩ := id (hIM b (by omega))
    obtain ⟨hC0, hC1, hC2, hC3, hC4⟩ := id (hIL b hbn)
    have hq9 := hB9 (S 10 b 0).toNat (by omega)
    replace hl : lv_has ls 4 [(2, .int (zI (b : Int))), (0, .ref (ad 32 0)), (1, .int (zI (m : Int)))] := by rw [hb9] at hl; exact hl
    refine lv_aload_n hx hb dX5_take_25 rfl (lv_at hl 1 rfl) ?_
    refine r_getA hx hb hts hin hown hK hG 11 (by decide) (by decide) (hts (.fieldLink RX5 40 "LineEventsModel" "many" "[I") (by decide +kernel)) dX5_take_26 ?_
    refine lv_iload_n hx hb dX5_take_29 rfl (lv_at hl 0 rfl) ?_
    refine r_iald hx hb hK hG 11 (by decide) rfl b 0 (by simp only [show rW 11 = 1 from rfl]; omega) (by simp only [show rN 11 = 12 from rfl]; omega) (by simp only [show rW 11 = 1 from rfl]; omega) (w := S 11 b 0) (rfl) dX5_take_30 ?_
    refine z_if_ne (tgt := 41) hx hb dX5_take_31 (by decide) ⟨by omega, by omega⟩ (fun c_2 => ?_) (fun c_2 => ?_)
    · refine lv_aload_n hx hb dX5_take_41 rfl (lv_at hl 1 rfl) ?_
      refine r_getA hx hb hts hin hown hK hG 9 (by decide) (by decide) (hts (.fieldLink RX5 34 "LineEventsModel" "came" "[I") (by decide +kernel)) dX5_take_42 ?_
      refine lv_iload_n hx hb dX5_take_45 rfl (lv_at hl 0 rfl) ?_
      refine lv_sipush (v := zI 1000) hx hb dX5_take_46 (by decide) ?_
      refine z_imul hx hb dX5_take_49 ?_
      refine lv_aload_n hx hb dX5_take_50 rfl (lv_at hl 1 rfl) ?_
      refine r_getA hx hb hts hin hown hK hG 10 (by decide) (by decide) (hts (.fieldLink RX5 37 "LineEventsModel" "first" "[I") (by decide +kernel)) dX5_take_51 ?_
      refine lv_iload_n hx hb dX5_take_54 rfl (lv_at hl 0 rfl) ?_
      refine r_iald hx hb hK hG 10 (by decide) rfl b 0 (by simp only [show rW 10 = 1 from rfl]; omega) (by simp only [show rN 10 = 12 from rfl]; omega) (by simp only [show rW 10 = 1 from rfl]; omega) (w := S 10 b 0) (rfl) dX5_take_55 ?_
      refine z_iadd hx hb dX5_take_56 ?_
      refine r_iald hx hb hK hG 9 (by decide) rfl b (S 10 b 0).toNat (by simp only [show rW 9 = 1000 from rfl]; omega) (by simp only [show rN 9 = 12 from rfl]; omega) (by simp only [show rW 9 = 1000 from rfl]; omega) (w := S 9 b (S 10 b 0).toNat) (rfl) dX5_take_57 ?_
      refine lv_istore_n (lv' := [(3, .int (zI (S 9 b (S 10 b 0).toNat))), (2, .int (zI (b : Int))), (0, .ref (ad 32 0)), (1, .int (zI (m : Int)))]) hx hb dX5_take_58 rfl hl (by decide) rfl (fun ls hl => ?_)
      refine lv_iload_n hx hb dX5_take_59 rfl (lv_at hl 0 rfl) ?_
      refine lv_aload_n hx hb dX5_take_60 rfl (lv_at hl 2 rfl) ?_
      refine r_getI hx hb hts hin hown hK hG 25 (by decide) rfl (hts (.fieldLink RX5 94 "LineEventsModel" "now" "I") (by decide +kernel)) (z := S 25 0 0) (rfl) dX5_take_61 ?_
      refine z_icmp_ge (tgt := 82) hx hb dX5_take_64 (by decide) ⟨by omega, by omega⟩ ⟨by omega, by omega⟩ (fun c_3 => ?_) (fun c_3 => ?_)
      · have e9 : S = rtake S m := by unfold rtake; rw [if_neg (by omega), if_pos (by unfold rat; rw [hb9]; simp only [Int.toNat_natCast]; first | (rw [if_pos (by omega)]; omega) | (rw [if_neg (by omega)]; omega))]
        rw [e9] at hG
        exact W.vret hx hb hr (fun t ht hW => ⟨rfl, ⟨by rw [ht]; exact hG, va_K.moved hW.alike hK⟩, hS.F ht⟩) hS.2.2 dX5_take_82
      · refine lv_aload_n hx hb dX5_take_67 rfl (lv_at hl 2 rfl) ?_
        refine r_getI hx hb hts hin hown hK hG 25 (by decide) rfl (hts (.fieldLink RX5 94 "LineEventsModel" "now" "I") (by decide +kernel)) (z := S 25 0 0) (rfl) dX5_take_68 ?_
        refine lv_iload_n hx hb dX5_take_71 rfl (lv_at hl 0 rfl) ?_
        refine z_isub hx hb dX5_take_72 ?_
        refine lv_aload_n hx hb dX5_take_73 rfl (lv_at hl 2 rfl) ?_
        refine r_getA hx hb hts hin hown hK hG 4 (by decide) (by decide) (hts (.fieldLink RX5 22 "LineEventsModel" "delay" "[I") (by decide +kernel)) dX5_take_74 ?_
        refine lv_iload_n hx hb dX5_take_77 rfl (lv_at hl 1 rfl) ?_
        refine r_iald hx hb hK hG 4 (by decide) rfl b 0 (by simp only [show rW 4 = 1 from rfl]; omega) (by simp only [show rN 4 = 12 from rfl]; omega) (by simp only [show rW 4 = 1 from rfl]; omega) (w := S 4 b 0) (rfl) dX5_take_78 ?_
        refine z_icmp_ge (tgt := 83) hx hb dX5_take_79 (by decide) ⟨by omega, by omega⟩ ⟨by omega, by omega⟩ (fun c_4 => ?_) (fun c_4 => ?_)
        · refine lv_aload_n hx hb dX5_take_83 rfl (lv_at hl 2 rfl) ?_
          refine r_getA hx hb hts hin hown hK hG 10 (by decide) (by decide) (hts (.fieldLink RX5 37 "LineEventsModel" "first" "[I") (by decide +kernel)) dX5_take_84 ?_
          refine lv_iload_n hx hb dX5_take_87 rfl (lv_at hl 1 rfl) ?_
          refine lv_aload_n hx hb dX5_take_88 rfl (lv_at hl 2 rfl) ?_
          refine r_getA hx hb hts hin hown hK hG 10 (by decide) (by decide) (hts (.fieldLink RX5 37 "LineEventsModel" "first" "[I") (by decide +kernel)) dX5_take_89 ?_
          refine lv_iload_n hx hb dX5_take_92 rfl (lv_at hl 1 rfl) ?_
          refine r_iald hx hb hK hG 10 (by decide) rfl b 0 (by simp only [show rW 10 = 1 from rfl]; omega) (by simp only [show rN 10 = 12 from rfl]; omega) (by simp only [show rW 10 = 1 from rfl]; omega) (w := S 10 b 0) (rfl) dX5_take_93 ?_
          refine lv_iconst (v := zI 1) hx hb dX5_take_94 rfl ?_
          refine z_iadd hx hb dX5_take_95 ?_
          refine lv_sipush (v := zI 1000) hx hb dX5_take_96 (by decide) ?_
          refine z_irem hx hb dX5_take_99 ⟨by omega, by omega⟩ ⟨by omega, by omega⟩ ?_
          refine r_iast hx hb hK hG hS 10 (by decide) rfl b 0 (by simp only [show rW 10 = 1 from rfl]; omega) (by simp only [show rN 10 = 12 from rfl]; omega) (by simp only [show rW 10 = 1 from rfl]; omega) (w := ((S 10 b 0) + 1) % 1000) dX5_take_100 (fun H locs hG hS => ?_)
          refine lv_aload_n hx hb dX5_take_101 rfl (lv_at hl 2 rfl) ?_
          refine r_getA hx hb hts hin hown hK hG 11 (by decide) (by decide) (hts (.fieldLink RX5 40 "LineEventsModel" "many" "[I") (by decide +kernel)) dX5_take_102 ?_
          refine lv_iload_n hx hb dX5_take_105 rfl (lv_at hl 1 rfl) ?_
          refine lv_dup2_11 hx hb dX5_take_106 rfl rfl ?_
          refine r_iald hx hb hK hG 11 (by decide) rfl b 0 (by simp only [show rW 11 = 1 from rfl]; omega) (by simp only [show rN 11 = 12 from rfl]; omega) (by simp only [show rW 11 = 1 from rfl]; omega) (w := S 11 b 0) (by simp [su]) dX5_take_107 ?_
          refine lv_iconst (v := zI 1) hx hb dX5_take_108 rfl ?_
          refine z_isub hx hb dX5_take_109 ?_
          refine r_iast hx hb hK hG hS 11 (by decide) rfl b 0 (by simp only [show rW 11 = 1 from rfl]; omega) (by simp only [show rN 11 = 12 from rfl]; omega) (by simp only [show rW 11 = 1 from rfl]; omega) (w := (S 11 b 0) - 1) dX5_take_110 (fun H locs hG hS => ?_)
          refine lv_aload_n hx hb dX5_take_111 rfl (lv_at hl 2 rfl) ?_
          refine r_getA hx hb hts hin hown hK hG 6 (by decide) (by decide) (hts (.fieldLink RX5 25 "LineEventsModel" "bottle" "[I") (by decide +kernel)) dX5_take_112 ?_
          refine lv_iload_n hx hb dX5_take_115 rfl (lv_at hl 3 rfl) ?_
          refine lv_iconst (v := zI 1) hx hb dX5_take_116 rfl ?_
          refine r_iast hx hb hK hG hS 6 (by decide) rfl m 0 (by simp only [show rW 6 = 1 from rfl]; omega) (by simp only [show rN 6 = 12 from rfl]; omega) (by simp only [show rW 6 = 1 from rfl]; omega) (w := 1) dX5_take_117 (fun H locs hG hS => ?_)
          refine lv_aload_n hx hb dX5_take_118 rfl (lv_at hl 2 rfl) ?_
          refine r_getA hx hb hts hin hown hK hG 7 (by decide) (by decide) (hts (.fieldLink RX5 28 "LineEventsModel" "worked" "[I") (by decide +kernel)) dX5_take_119 ?_
          refine lv_iload_n hx hb dX5_take_122 rfl (lv_at hl 3 rfl) ?_
          refine lv_iconst (v := zI 0) hx hb dX5_take_123 rfl ?_
          refine r_iast hx hb hK hG hS 7 (by decide) rfl m 0 (by simp only [show rW 7 = 1 from rfl]; omega) (by simp only [show rN 7 = 12 from rfl]; omega) (by simp only [show rW 7 = 1 from rfl]; omega) (w := 0) dX5_take_124 (fun H locs hG hS => ?_)
          refine lv_aload_n hx hb dX5_take_125 rfl (lv_at hl 2 rfl) ?_
          refine lv_iload_n hx hb dX5_take_126 rfl (lv_at hl 3 rfl) ?_
          refine lv_iconst (v := zI 0) hx hb dX5_take_127 rfl ?_
          refine r_callV (As := [.int (zI (m : Int)), .int (zI 0)]) (rest := []) ⟨hx, hb, hml, hown, hts⟩ (m_X5_note l D cI cJ A ad (su (su (su (su S 10 b 0 (((S 10 b 0) + 1) % 1000)) 11 b 0 ((S 11 b 0) - 1)) 6 m 0 (1)) 7 m 0 (0)) m 0 (by simpa [su] using he)) (cwV 2 hts gX5_take_X5_note rfl rfl rfl (by decide +kernel) ⟨Nat.le_of_ble_eq_true rfl, Nat.le_of_ble_eq_true rfl⟩) hK hG hS rfl hl.1 rfl (Nat.le_of_ble_eq_true rfl) dX5_take_128 ⟨Nat.zero_le _, Nat.zero_le _⟩ (fun H locs hG hS => ?_)
          have e9 : rnote (su (su (su (su S 10 b 0 (((S 10 b 0) + 1) % 1000)) 11 b 0 ((S 11 b 0) - 1)) 6 m 0 (1)) 7 m 0 (0)) m 0 = rtake S m := by unfold rtake; rw [if_neg (by omega), if_neg (by unfold rat; rw [hb9]; simp only [Int.toNat_natCast]; first | (rw [if_pos (by omega)]; omega) | (rw [if_neg (by omega)]; omega)), hb9]; rfl
          rw [e9] at hG
          exact W.vret hx hb hr (fun t ht hW => ⟨rfl, ⟨by rw [ht]; exact hG, va_K.moved hW.alike hK⟩, hS.F ht⟩) hS.2.2 dX5_take_131
        · have e9 : S = rtake S m := by unfold rtake; rw [if_neg (by omega), if_pos (by unfold rat; rw [hb9]; simp only [Int.toNat_natCast]; first | (rw [if_pos (by omega)]; omega) | (rw [if_neg (by omega)]; omega))]
          rw [e9] at hG
          exact W.vret hx hb hr (fun t ht hW => ⟨rfl, ⟨by rw [ht]; exact hG, va_K.moved hW.alike hK⟩, hS.F ht⟩) hS.2.2 dX5_take_82
    · refine lv_aload_n hx hb dX5_take_34 rfl (lv_at hl 1 rfl) ?_
      refine r_getI hx hb hts hin hown hK hG 25 (by decide) rfl (hts (.fieldLink RX5 94 "LineEventsModel" "now" "I") (by decide +kernel)) (z := S 25 0 0) (rfl) dX5_take_35 ?_
      refine lv_goto (tgt := 58) hx hb dX5_take_38 (by decide) ?_
      refine lv_istore_n (lv' := [(3, .int (zI (S 25 0 0))), (2, .int (zI (b : Int))), (0, .ref (ad 32 0)), (1, .int (zI (m : Int)))]) hx hb dX5_take_58 rfl hl (by decide) rfl (fun ls hl => ?_)
      refine lv_iload_n hx hb dX5_take_59 rfl (lv_at hl 0 rfl) ?_
      refine lv_aload_n hx hb dX5_take_60 rfl (lv_at hl 2 rfl) ?_
      refine r_getI hx hb hts hin hown hK hG 25 (by decide) rfl (hts (.fieldLink RX5 94 "LineEventsModel" "now" "I") (by decide +kernel)) (z := S 25 0 0) (rfl) dX5_take_61 ?_
      refine z_icmp_ge (tgt := 82) hx hb dX5_take_64 (by decide) ⟨by omega, by omega⟩ ⟨by omega, by omega⟩ (fun c_5 => ?_) (fun c_5 => ?_)
      · have e9 : S = rtake S m := by unfold rtake; rw [if_neg (by omega), if_pos (by unfold rat; rw [hb9]; simp only [Int.toNat_natCast]; first | (rw [if_pos (by omega)]; omega) | (rw [if_neg (by omega)]; omega))]
        rw [e9] at hG
        exact W.vret hx hb hr (fun t ht hW => ⟨rfl, ⟨by rw [ht]; exact hG, va_K.moved hW.alike hK⟩, hS.F ht⟩) hS.2.2 dX5_take_82
      · refine lv_aload_n hx hb dX5_take_67 rfl (lv_at hl 2 rfl) ?_
        refine r_getI hx hb hts hin hown hK hG 25 (by decide) rfl (hts (.fieldLink RX5 94 "LineEventsModel" "now" "I") (by decide +kernel)) (z := S 25 0 0) (rfl) dX5_take_68 ?_
        refine lv_iload_n hx hb dX5_take_71 rfl (lv_at hl 0 rfl) ?_
        refine z_isub hx hb dX5_take_72 ?_
        refine lv_aload_n hx hb dX5_take_73 rfl (lv_at hl 2 rfl) ?_
        refine r_getA hx hb hts hin hown hK hG 4 (by decide) (by decide) (hts (.fieldLink RX5 22 "LineEventsModel" "delay" "[I") (by decide +kernel)) dX5_take_74 ?_
        refine lv_iload_n hx hb dX5_take_77 rfl (lv_at hl 1 rfl) ?_
        refine r_iald hx hb hK hG 4 (by decide) rfl b 0 (by simp only [show rW 4 = 1 from rfl]; omega) (by simp only [show rN 4 = 12 from rfl]; omega) (by simp only [show rW 4 = 1 from rfl]; omega) (w := S 4 b 0) (rfl) dX5_take_78 ?_
        refine z_icmp_ge (tgt := 83) hx hb dX5_take_79 (by decide) ⟨by omega, by omega⟩ ⟨by omega, by omega⟩ (fun c_6 => ?_) (fun c_6 => ?_)
        · refine lv_aload_n hx hb dX5_take_83 rfl (lv_at hl 2 rfl) ?_
          refine r_getA hx hb hts hin hown hK hG 10 (by decide) (by decide) (hts (.fieldLink RX5 37 "LineEventsModel" "first" "[I") (by decide +kernel)) dX5_take_84 ?_
          refine lv_iload_n hx hb dX5_take_87 rfl (lv_at hl 1 rfl) ?_
          refine lv_aload_n hx hb dX5_take_88 rfl (lv_at hl 2 rfl) ?_
          refine r_getA hx hb hts hin hown hK hG 10 (by decide) (by decide) (hts (.fieldLink RX5 37 "LineEventsModel" "first" "[I") (by decide +kernel)) dX5_take_89 ?_
          refine lv_iload_n hx hb dX5_take_92 rfl (lv_at hl 1 rfl) ?_
          refine r_iald hx hb hK hG 10 (by decide) rfl b 0 (by simp only [show rW 10 = 1 from rfl]; omega) (by simp only [show rN 10 = 12 from rfl]; omega) (by simp only [show rW 10 = 1 from rfl]; omega) (w := S 10 b 0) (rfl) dX5_take_93 ?_
          refine lv_iconst (v := zI 1) hx hb dX5_take_94 rfl ?_
          refine z_iadd hx hb dX5_take_95 ?_
          refine lv_sipush (v := zI 1000) hx hb dX5_take_96 (by decide) ?_
          refine z_irem hx hb dX5_take_99 ⟨by omega, by omega⟩ ⟨by omega, by omega⟩ ?_
          refine r_iast hx hb hK hG hS 10 (by decide) rfl b 0 (by simp only [show rW 10 = 1 from rfl]; omega) (by simp only [show rN 10 = 12 from rfl]; omega) (by simp only [show rW 10 = 1 from rfl]; omega) (w := ((S 10 b 0) + 1) % 1000) dX5_take_100 (fun H locs hG hS => ?_)
          refine lv_aload_n hx hb dX5_take_101 rfl (lv_at hl 2 rfl) ?_
          refine r_getA hx hb hts hin hown hK hG 11 (by decide) (by decide) (hts (.fieldLink RX5 40 "LineEventsModel" "many" "[I") (by decide +kernel)) dX5_take_102 ?_
          refine lv_iload_n hx hb dX5_take_105 rfl (lv_at hl 1 rfl) ?_
          refine lv_dup2_11 hx hb dX5_take_106 rfl rfl ?_
          refine r_iald hx hb hK hG 11 (by decide) rfl b 0 (by simp only [show rW 11 = 1 from rfl]; omega) (by simp only [show rN 11 = 12 from rfl]; omega) (by simp only [show rW 11 = 1 from rfl]; omega) (w := S 11 b 0) (by simp [su]) dX5_take_107 ?_
          refine lv_iconst (v := zI 1) hx hb dX5_take_108 rfl ?_
          refine z_isub hx hb dX5_take_109 ?_
          refine r_iast hx hb hK hG hS 11 (by decide) rfl b 0 (by simp only [show rW 11 = 1 from rfl]; omega) (by simp only [show rN 11 = 12 from rfl]; omega) (by simp only [show rW 11 = 1 from rfl]; omega) (w := (S 11 b 0) - 1) dX5_take_110 (fun H locs hG hS => ?_)
          refine lv_aload_n hx hb dX5_take_111 rfl (lv_at hl 2 rfl) ?_
          refine r_getA hx hb hts hin hown hK hG 6 (by decide) (by decide) (hts (.fieldLink RX5 25 "LineEventsModel" "bottle" "[I") (by decide +kernel)) dX5_take_112 ?_
          refine lv_iload_n hx hb dX5_take_115 rfl (lv_at hl 3 rfl) ?_
          refine lv_iconst (v := zI 1) hx hb dX5_take_116 rfl ?_
          refine r_iast hx hb hK hG hS 6 (by decide) rfl m 0 (by simp only [show rW 6 = 1 from rfl]; omega) (by simp only [show rN 6 = 12 from rfl]; omega) (by simp only [show rW 6 = 1 from rfl]; omega) (w := 1) dX5_take_117 (fun H locs hG hS => ?_)
          refine lv_aload_n hx hb dX5_take_118 rfl (lv_at hl 2 rfl) ?_
          refine r_getA hx hb hts hin hown hK hG 7 (by decide) (by decide) (hts (.fieldLink RX5 28 "LineEventsModel" "worked" "[I") (by decide +kernel)) dX5_take_119 ?_
          refine lv_iload_n hx hb dX5_take_122 rfl (lv_at hl 3 rfl) ?_
          refine lv_iconst (v := zI 0) hx hb dX5_take_123 rfl ?_
          refine r_iast hx hb hK hG hS 7 (by decide) rfl m 0 (by simp only [show rW 7 = 1 from rfl]; omega) (by simp only [show rN 7 = 12 from rfl]; omega) (by simp only [show rW 7 = 1 from rfl]; omega) (w := 0) dX5_take_124 (fun H locs hG hS => ?_)
          refine lv_aload_n hx hb dX5_take_125 rfl (lv_at hl 2 rfl) ?_
          refine lv_iload_n hx hb dX5_take_126 rfl (lv_at hl 3 rfl) ?_
          refine lv_iconst (v := zI 0) hx hb dX5_take_127 rfl ?_
          refine r_callV (As := [.int (zI (m : Int)), .int (zI 0)]) (rest := []) ⟨hx, hb, hml, hown, hts⟩ (m_X5_note l D cI cJ A ad (su (su (su (su S 10 b 0 (((S 10 b 0) + 1) % 1000)) 11 b 0 ((S 11 b 0) - 1)) 6 m 0 (1)) 7 m 0 (0)) m 0 (by simpa [su] using he)) (cwV 2 hts gX5_take_X5_note rfl rfl rfl (by decide +kernel) ⟨Nat.le_of_ble_eq_true rfl, Nat.le_of_ble_eq_true rfl⟩) hK hG hS rfl hl.1 rfl (Nat.le_of_ble_eq_true rfl) dX5_take_128 ⟨Nat.zero_le _, Nat.zero_le _⟩ (fun H locs hG hS => ?_)
          have e9 : rnote (su (su (su (su S 10 b 0 (((S 10 b 0) + 1) % 1000)) 11 b 0 ((S 11 b 0) - 1)) 6 m 0 (1)) 7 m 0 (0)) m 0 = rtake S m := by unfold rtake; rw [if_neg (by omega), if_neg (by unfold rat; rw [hb9]; simp only [Int.toNat_natCast]; first | (rw [if_pos (by omega)]; omega) | (rw [if_neg (by omega)]; omega)), hb9]; rfl
          rw [e9] at hG
          exact W.vret hx hb hr (fun t ht hW => ⟨rfl, ⟨by rw [ht]; exact hG, va_K.moved hW.alike hK⟩, hS.F ht⟩) hS.2.2 dX5_take_131
        · have e9 : S = rtake S m := by unfold rtake; rw [if_neg (by omega), if_pos (by unfold rat; rw [hb9]; simp only [Int.toNat_natCast]; first | (rw [if_pos (by omega)]; omega) | (rw [if_neg (by omega)]; omega))]
          rw [e9] at hG
          exact W.vret hx hb hr (fun t ht hW => ⟨rfl, ⟨by rw [ht]; exact hG, va_K.moved hW.alike hK⟩, hS.F ht⟩) hS.2.2 dX5_take_82
  · refine lv_aload_n hx hb dX5_take_12 rfl (lv_at hl 1 rfl) ?_
    refine lv_dup hx hb dX5_take_13 rfl ?_
    refine r_getJ hx hb hts hin hown hK hG 23 (by decide) rfl (hts (.fieldLink RX5 132 "LineEventsModel" "begun" "J") (by decide +kernel)) (z := S 23 0 0) (rfl) dX5_take_14 ?_
    refine lv_lconst (v := zL 1) hx hb dX5_take_17 (by decide) ?_
    refine z_ladd hx hb dX5_take_18 ?_
    refine r_putJ hx hb hts hin hown hK hG hS 23 (by decide) rfl (hts (.fieldLink RX5 132 "LineEventsModel" "begun" "J") (by decide +kernel)) rfl rfl (z := (S 23 0 0) + 1) dX5_take_19 (fun H locs hG hS => ?_)
    refine lv_goto (tgt := 111) hx hb dX5_take_22 (by decide) ?_
    refine lv_aload_n hx hb dX5_take_111 rfl (lv_at hl 1 rfl) ?_
    refine r_getA hx hb hts hin hown hK hG 6 (by decide) (by decide) (hts (.fieldLink RX5 25 "LineEventsModel" "bottle" "[I") (by decide +kernel)) dX5_take_112 ?_
    refine lv_iload_n hx hb dX5_take_115 rfl (lv_at hl 2 rfl) ?_
    refine lv_iconst (v := zI 1) hx hb dX5_take_116 rfl ?_
    refine r_iast hx hb hK hG hS 6 (by decide) rfl m 0 (by simp only [show rW 6 = 1 from rfl]; omega) (by simp only [show rN 6 = 12 from rfl]; omega) (by simp only [show rW 6 = 1 from rfl]; omega) (w := 1) dX5_take_117 (fun H locs hG hS => ?_)
    refine lv_aload_n hx hb dX5_take_118 rfl (lv_at hl 1 rfl) ?_
    refine r_getA hx hb hts hin hown hK hG 7 (by decide) (by decide) (hts (.fieldLink RX5 28 "LineEventsModel" "worked" "[I") (by decide +kernel)) dX5_take_119 ?_
    refine lv_iload_n hx hb dX5_take_122 rfl (lv_at hl 2 rfl) ?_
    refine lv_iconst (v := zI 0) hx hb dX5_take_123 rfl ?_
    refine r_iast hx hb hK hG hS 7 (by decide) rfl m 0 (by simp only [show rW 7 = 1 from rfl]; omega) (by simp only [show rN 7 = 12 from rfl]; omega) (by simp only [show rW 7 = 1 from rfl]; omega) (w := 0) dX5_take_124 (fun H locs hG hS => ?_)
    refine lv_aload_n hx hb dX5_take_125 rfl (lv_at hl 1 rfl) ?_
    refine lv_iload_n hx hb dX5_take_126 rfl (lv_at hl 2 rfl) ?_
    refine lv_iconst (v := zI 0) hx hb dX5_take_127 rfl ?_
    refine r_callV (As := [.int (zI (m : Int)), .int (zI 0)]) (rest := []) ⟨hx, hb, hml, hown, hts⟩ (m_X5_note l D cI cJ A ad (su (su (su S 23 0 0 ((S 23 0 0) + 1)) 6 m 0 (1)) 7 m 0 (0)) m 0 (by simpa [su] using he)) (cwV 2 hts gX5_take_X5_note rfl rfl rfl (by decide +kernel) ⟨Nat.le_of_ble_eq_true rfl, Nat.le_of_ble_eq_true rfl⟩) hK hG hS rfl hl.1 rfl (Nat.le_of_ble_eq_true rfl) dX5_take_128 ⟨Nat.zero_le _, Nat.zero_le _⟩ (fun H locs hG hS => ?_)
    have e9 : rnote (su (su (su S 23 0 0 ((S 23 0 0) + 1)) 6 m 0 (1)) 7 m 0 (0)) m 0 = rtake S m := by unfold rtake; rw [if_pos (by omega)]
    rw [e9] at hG
    exact W.vret hx hb hr (fun t ht hW => ⟨rfl, ⟨by rw [ht]; exact hG, va_K.moved hW.alike hK⟩, hS.F ht⟩) hS.2.2 dX5_take_131
