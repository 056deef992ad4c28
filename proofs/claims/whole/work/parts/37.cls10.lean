set_option maxHeartbeats 4000000 in
set_option maxRecDepth 100000 in
theorem m_X4_buffer (l : Launch) (D : va_G) (cI cJ : ClassId) (A : Nat → Prop) (ad : Nat → Nat → Nat) (al : Nat → Nat → Prop) (S : sT) (E : Nat → Int) (rt : Int) (hal : alS al S) (z r d : Int) (hz0 : zB z) (hr0 : zB r) (hd0 : zB d) (hI : Inv S) : Met l yX4_buffer wsX4_buffer ({ frames := 1, cells := 0, slots := 0, locals := 22 }) (va_Pc [.ref (ad 0 0), .int (zI z), .int (zI r), .int (zI d)] (gCU D cI cJ A ad al (cC S E rt))) (gO (some (.int (zI (rbufV S z r d)))) (gCU D cI cJ A ad al (cC (rbufS S z r d) E rt)) A) 0 0 A := by
  refine Met.ofW (cc := cX4_buffer) (maxL := 6) (ret := (some .int)) (by decide) rfl ?_
  intro p e s m0 args below meth c s₁ B hml hv
  obtain ⟨rfl, hG, hK, hA⟩ := hv
  have hx := B.exec
  have hb := B.bytes
  have hr := B.returns
  have hts := atoms_spec (ws := wsX4_buffer) B.pre
  have hown : s.vm.findClass RX4 = some m0.cls := findClass_of_methodNamed B.named
  have hlocks := B.notSynchronized
  have hinX0 : ∀ w ∈ wsX00, w ∈ wsX4_buffer := by decide +kernel
  have hinX2 : ∀ w ∈ wsX20, w ∈ wsX4_buffer := by decide +kernel
  have hinX4 : ∀ w ∈ wsX40, w ∈ wsX4_buffer := by decide +kernel
  have hS : va_S A s.heap s.heap [] := va_S.rf
  have hl := lv_entry ([.ref (ad 0 0), .int (zI z), .int (zI r), .int (zI d)]) (n := 6) (Nat.le_of_ble_eq_true rfl)
  rw [lg_entry_eq]
  generalize (lg_sl ([.ref (ad 0 0), .int (zI z), .int (zI r), .int (zI d)]) ++ List.replicate (6 - (lg_sl ([.ref (ad 0 0), .int (zI z), .int (zI r), .int (zI d)])).length) Slot.unset).toArray = ls at hl ⊢
  replace hl : lv_has ls 6 [(0, .ref (ad 0 0)), (1, .int (zI z)), (2, .int (zI r)), (3, .int (zI d))] := hl
  obtain ⟨hI5, hI25, hI20, hIM, hIL, hIR⟩ := id hI
  refine lv_aload_n hx hb dX4_buffer_0 rfl (lv_at hl 0 rfl) ?_
  refine lv_iload_n hx hb dX4_buffer_1 rfl (lv_at hl 1 rfl) ?_
  refine c_callV (As := [.int (zI z)]) (rest := []) (Cn := RX4) (T := TX4) ⟨hx, hb, hml, hown, hts⟩ 0 0 (m_X4_find l D cI cJ A ad al S E rt hal z hz0 hI) (cwV 1 hts gX4_buffer_X4_find rfl rfl rfl (by decide +kernel) ⟨Nat.le_of_ble_eq_true rfl, Nat.le_of_ble_eq_true rfl⟩) (hal 0 0 rfl) (by decide) rfl hK hG hS hA rfl hl.1 rfl (Nat.le_of_ble_eq_true rfl) dX4_buffer_2 ⟨Nat.zero_le _, Nat.zero_le _⟩ (fun t9 H locs ht9 hB hS => ?_)
  have hG := hB.1; rw [ht9] at hG; clear hB ht9
  by_cases hz9 : 0 ≤ z ∧ z < S 5 0 0
  · obtain ⟨i, hi9⟩ : ∃ i : Nat, z = (i : Int) := ⟨z.toNat, by omega⟩
    have hi : (i : Int) < S 5 0 0 := by omega
    obtain ⟨hM6, hM7, hM8, hM10, hM11, hM15, hM9, hMf⟩ := id (hIM i (by omega))
    obtain ⟨hL0, hL1, hL2, hL3, hL4⟩ := id (hIL i hi)
    refine W.eq (g2 := F0 m0 5 ls [.ref (ad 2 i)]) (by rw [if_pos hz9, rf_s hi9]; try rfl) ?_
    refine lv_astore (lv' := [(4, .ref (ad 2 i)), (0, .ref (ad 0 0)), (1, .int (zI z)), (2, .int (zI r)), (3, .int (zI d))]) hx hb dX4_buffer_5 hl (by decide) rfl (fun ls hl => ?_)
    refine lv_aload_n hx hb dX4_buffer_7 rfl (lv_at hl 1 rfl) ?_
    refine c_getV (Cn := RX4) (T := TX4) hx hb hts 0 hinX4 hown hK hG 0 1 (hal 0 0 rfl) (by decide) rfl (by decide) (hts (.fieldLink RX4 27 "LineEvents" "now" "I") (by decide +kernel)) (cV_I (z := S 25 0 0) rfl (rfl)) dX4_buffer_8 ?_
    refine z_if_gt (tgt := 41) hx hb dX4_buffer_11 (by decide) ⟨by omega, by omega⟩ (fun c_1 => ?_) (fun c_1 => ?_)
    · refine lv_iconst (v := zI (-1)) hx hb dX4_buffer_41 rfl ?_
      have e9 : cC S E rt = cC (rbufS S z r d) E rt := by unfold rbufS; rw [if_neg (by omega)]
      rw [e9] at hG
      have v9 : (-1) = rbufV S z r d := by unfold rbufV; rw [if_neg (by omega)]
      refine W.eq (congrArg (fun z => F0 m0 42 ls [.int (zI z)]) v9) ?_
      exact W.iret hx hb hr (fun t ht hW => ⟨rfl, ⟨by rw [ht]; exact hG, va_K.moved hW.alike hK, fun q hq => hA q (Nat.le_trans hS.1 (by rw [← ht]; exact hq))⟩, hS.F ht⟩) hS.2.2 dX4_buffer_42
    · refine lv_aload hx hb dX4_buffer_14 (lv_at hl 0 rfl) ?_
      refine lv_ifnull hx hb dX4_buffer_16 ?_
      refine lv_iload_n hx hb dX4_buffer_19 rfl (lv_at hl 3 rfl) ?_
      refine lv_iconst (v := zI 1) hx hb dX4_buffer_20 rfl ?_
      refine lv_sipush (v := zI 1000) hx hb dX4_buffer_21 (by decide) ?_
      refine c_callS (As := [.int (zI r), .int (zI 1), .int (zI 1000)]) (rest := []) ⟨hx, hb, hml, hown, hts⟩ (m_X4_within l D cI cJ A ad al S E rt hal r 1 1000 ⟨by omega, by omega⟩ ⟨by decide, by decide⟩ ⟨by decide, by decide⟩) (va_cwS 3 hts gX4_buffer_X4_within rfl rfl rfl (by decide +kernel) ⟨Nat.le_of_ble_eq_true rfl, Nat.le_of_ble_eq_true rfl⟩) hK hG hS hA rfl hl.1 rfl (Nat.le_of_ble_eq_true rfl) dX4_buffer_24 ⟨Nat.zero_le _, Nat.zero_le _⟩ (fun t9 H locs ht9 hB hS => ?_)
      have hG := hB.1; rw [ht9] at hG; clear hB ht9
      refine z_ifb_eq (tgt := 41) hx hb dX4_buffer_27 (by decide) (fun c_2 => ?_) (fun c_2 => ?_)
      · refine lv_iconst (v := zI (-1)) hx hb dX4_buffer_41 rfl ?_
        have e9 : cC S E rt = cC (rbufS S z r d) E rt := by unfold rbufS; rw [if_neg (by omega)]
        rw [e9] at hG
        have v9 : (-1) = rbufV S z r d := by unfold rbufV; rw [if_neg (by omega)]
        refine W.eq (congrArg (fun z => F0 m0 42 ls [.int (zI z)]) v9) ?_
        exact W.iret hx hb hr (fun t ht hW => ⟨rfl, ⟨by rw [ht]; exact hG, va_K.moved hW.alike hK, fun q hq => hA q (Nat.le_trans hS.1 (by rw [← ht]; exact hq))⟩, hS.F ht⟩) hS.2.2 dX4_buffer_42
      · refine lv_iload_n hx hb dX4_buffer_30 rfl (lv_at hl 4 rfl) ?_
        refine lv_iconst (v := zI 0) hx hb dX4_buffer_31 rfl ?_
        refine lv_sipush (v := zI 10000) hx hb dX4_buffer_32 (by decide) ?_
        refine c_callS (As := [.int (zI d), .int (zI 0), .int (zI 10000)]) (rest := []) ⟨hx, hb, hml, hown, hts⟩ (m_X4_within l D cI cJ A ad al S E rt hal d 0 10000 ⟨by omega, by omega⟩ ⟨by decide, by decide⟩ ⟨by decide, by decide⟩) (va_cwS 3 hts gX4_buffer_X4_within rfl rfl rfl (by decide +kernel) ⟨Nat.le_of_ble_eq_true rfl, Nat.le_of_ble_eq_true rfl⟩) hK hG hS hA rfl hl.1 rfl (Nat.le_of_ble_eq_true rfl) dX4_buffer_35 ⟨Nat.zero_le _, Nat.zero_le _⟩ (fun t9 H locs ht9 hB hS => ?_)
        have hG := hB.1; rw [ht9] at hG; clear hB ht9
        refine z_ifb_ne (tgt := 43) hx hb dX4_buffer_38 (by decide) (fun c_3 => ?_) (fun c_3 => ?_)
        · refine lv_aload hx hb dX4_buffer_43 (lv_at hl 0 rfl) ?_
          refine c_getV (Cn := RX2) (T := TX2) hx hb hts 2 hinX2 hown hK hG i 4 (hal 2 i (show (i : Int) < S 5 0 0 by omega)) (by decide) rfl (by decide) (hts (.fieldLink RX4 48 "LineEvents$Machine" "behind" "LLineEvents$Buffer;") (by decide +kernel)) (cV_R (t := 3) (j := i) rfl (rfl)) dX4_buffer_45 ?_
          refine c_getV (Cn := RX0) (T := TX0) hx hb hts 3 hinX0 hown hK hG i 0 (hal 3 i (show (i : Int) < S 5 0 0 by omega)) (by decide) rfl (by decide) (hts (.fieldLink RX4 52 "LineEvents$Buffer" "room" "I") (by decide +kernel)) (cV_I (z := S 3 i 0) rfl (rfl)) dX4_buffer_48 ?_
          refine lv_istore (lv' := [(5, .int (zI (S 3 i 0))), (4, .ref (ad 2 i)), (0, .ref (ad 0 0)), (1, .int (zI z)), (2, .int (zI r)), (3, .int (zI d))]) hx hb dX4_buffer_51 hl (by decide) rfl (fun ls hl => ?_)
          refine lv_aload hx hb dX4_buffer_53 (lv_at hl 1 rfl) ?_
          refine c_getV (Cn := RX2) (T := TX2) hx hb hts 2 hinX2 hown hK hG i 4 (hal 2 i (show (i : Int) < S 5 0 0 by omega)) (by decide) rfl (by decide) (hts (.fieldLink RX4 48 "LineEvents$Machine" "behind" "LLineEvents$Buffer;") (by decide +kernel)) (cV_R (t := 3) (j := i) rfl (rfl)) dX4_buffer_55 ?_
          refine lv_iload_n hx hb dX4_buffer_58 rfl (lv_at hl 4 rfl) ?_
          refine c_putV (Cn := RX0) (T := TX0) (z := r) hx hb hts 3 hinX0 tyX0 tyX0_ok nmX0 hown hK hG hS i 0 (hal 3 i (show (i : Int) < S 5 0 0 by omega)) (by decide) rfl (by decide) (hts (.fieldLink RX4 52 "LineEvents$Buffer" "room" "I") (by decide +kernel)) (Or.inl rfl) (cV_I (z := r) rfl rfl) rfl rfl dX4_buffer_59 (fun H locs hG hS => ?_)
          refine lv_aload hx hb dX4_buffer_62 (lv_at hl 1 rfl) ?_
          refine c_getV (Cn := RX2) (T := TX2) hx hb hts 2 hinX2 hown hK hG i 4 (hal 2 i (show (i : Int) < S 5 0 0 by omega)) (by decide) rfl (by decide) (hts (.fieldLink RX4 48 "LineEvents$Machine" "behind" "LLineEvents$Buffer;") (by decide +kernel)) (cV_R (t := 3) (j := i) rfl ((su_v (by decide)).trans (rfl))) dX4_buffer_64 ?_
          refine lv_iload_n hx hb dX4_buffer_67 rfl (lv_at hl 5 rfl) ?_
          refine c_putV (Cn := RX0) (T := TX0) (z := d) hx hb hts 3 hinX0 tyX0 tyX0_ok nmX0 hown hK hG hS i 1 (hal 3 i (show (i : Int) < S 5 0 0 by omega)) (by decide) rfl (by decide) (hts (.fieldLink RX4 57 "LineEvents$Buffer" "delay" "I") (by decide +kernel)) (Or.inl rfl) (cV_I (z := d) rfl rfl) rfl rfl dX4_buffer_68 (fun H locs hG hS => ?_)
          refine lv_iload hx hb dX4_buffer_71 (lv_at hl 0 rfl) ?_
          have e9 : su (su (cC S E rt) 3 i 0 (r)) 3 i 1 (d) = cC (rbufS S z r d) E rt := by unfold rbufS; rw [if_pos (by omega), cC_4, cC_3, show z.toNat = i by omega]
          rw [e9] at hG
          have v9 : S 3 i 0 = rbufV S z r d := by unfold rbufV; rw [if_pos (by omega), show z.toNat = i by omega]
          refine W.eq (congrArg (fun z => F0 m0 73 ls [.int (zI z)]) v9) ?_
          exact W.iret hx hb hr (fun t ht hW => ⟨rfl, ⟨by rw [ht]; exact hG, va_K.moved hW.alike hK, fun q hq => hA q (Nat.le_trans hS.1 (by rw [← ht]; exact hq))⟩, hS.F ht⟩) hS.2.2 dX4_buffer_73
        · refine lv_iconst (v := zI (-1)) hx hb dX4_buffer_41 rfl ?_
          have e9 : cC S E rt = cC (rbufS S z r d) E rt := by unfold rbufS; rw [if_neg (by omega)]
          rw [e9] at hG
          have v9 : (-1) = rbufV S z r d := by unfold rbufV; rw [if_neg (by omega)]
          refine W.eq (congrArg (fun z => F0 m0 42 ls [.int (zI z)]) v9) ?_
          exact W.iret hx hb hr (fun t ht hW => ⟨rfl, ⟨by rw [ht]; exact hG, va_K.moved hW.alike hK, fun q hq => hA q (Nat.le_trans hS.1 (by rw [← ht]; exact hq))⟩, hS.F ht⟩) hS.2.2 dX4_buffer_42
  · refine W.eq (g2 := F0 m0 5 ls [.null]) (by rw [if_neg hz9, rf_n (by decide)]; try rfl) ?_
    refine lv_astoreN (lv' := [(4, .null), (0, .ref (ad 0 0)), (1, .int (zI z)), (2, .int (zI r)), (3, .int (zI d))]) hx hb dX4_buffer_5 hl (by decide) rfl (fun ls hl => ?_)
    refine lv_aload_n hx hb dX4_buffer_7 rfl (lv_at hl 1 rfl) ?_
    refine c_getV (Cn := RX4) (T := TX4) hx hb hts 0 hinX4 hown hK hG 0 1 (hal 0 0 rfl) (by decide) rfl (by decide) (hts (.fieldLink RX4 27 "LineEvents" "now" "I") (by decide +kernel)) (cV_I (z := S 25 0 0) rfl (rfl)) dX4_buffer_8 ?_
    refine z_if_gt (tgt := 41) hx hb dX4_buffer_11 (by decide) ⟨by omega, by omega⟩ (fun c_4 => ?_) (fun c_4 => ?_)
    · refine lv_iconst (v := zI (-1)) hx hb dX4_buffer_41 rfl ?_
      have e9 : cC S E rt = cC (rbufS S z r d) E rt := by unfold rbufS; rw [if_neg (by omega)]
      rw [e9] at hG
      have v9 : (-1) = rbufV S z r d := by unfold rbufV; rw [if_neg (by omega)]
      refine W.eq (congrArg (fun z => F0 m0 42 ls [.int (zI z)]) v9) ?_
      exact W.iret hx hb hr (fun t ht hW => ⟨rfl, ⟨by rw [ht]; exact hG, va_K.moved hW.alike hK, fun q hq => hA q (Nat.le_trans hS.1 (by rw [← ht]; exact hq))⟩, hS.F ht⟩) hS.2.2 dX4_buffer_42
    · refine lv_aloadN hx hb dX4_buffer_14 (lv_at hl 0 rfl) ?_
      refine lv_ifnullN (tgt := 41) hx hb dX4_buffer_16 (by decide) ?_
      refine lv_iconst (v := zI (-1)) hx hb dX4_buffer_41 rfl ?_
      have e9 : cC S E rt = cC (rbufS S z r d) E rt := by unfold rbufS; rw [if_neg (by omega)]
      rw [e9] at hG
      have v9 : (-1) = rbufV S z r d := by unfold rbufV; rw [if_neg (by omega)]
      refine W.eq (congrArg (fun z => F0 m0 42 ls [.int (zI z)]) v9) ?_
      exact W.iret hx hb hr (fun t ht hW => ⟨rfl, ⟨by rw [ht]; exact hG, va_K.moved hW.alike hK, fun q hq => hA q (Nat.le_trans hS.1 (by rw [← ht]; exact hq))⟩, hS.F ht⟩) hS.2.2 dX4_buffer_42
set_option maxHeartbeats 4000000 in
set_option maxRecDepth 100000 in
theorem m_X4_run0 (l : Launch) (D : va_G) (cI cJ : ClassId) (A : Nat → Prop) (ad : Nat → Nat → Nat) (al : Nat → Nat → Prop) (S : sT) (E : Nat → Int) (rt : Int) (hal : alS al S) (t : Int) (ht0 : zB t) (ht1 : t ≤ 0) (hI : Inv S) : Met l yX4_run wsX4_run ({ frames := 1, cells := 0, slots := 0, locals := 22 }) (va_Pc [.ref (ad 0 0), .int (zI t)] (gCU D cI cJ A ad al (cC S E rt))) (gO (some (.int (zI (rrunV S t)))) (gCU D cI cJ A ad al (cC (rrunS S t) E rt)) A) 0 0 A := by
  refine Met.ofW (cc := cX4_run) (maxL := 4) (ret := (some .int)) (by decide) rfl ?_
  intro p e s m0 args below meth c s₁ B hml hv
  obtain ⟨rfl, hG, hK, hA⟩ := hv
  have hx := B.exec
  have hb := B.bytes
  have hr := B.returns
  have hts := atoms_spec (ws := wsX4_run) B.pre
  have hown : s.vm.findClass RX4 = some m0.cls := findClass_of_methodNamed B.named
  have hlocks := B.notSynchronized
  have hinX0 : ∀ w ∈ wsX00, w ∈ wsX4_run := by decide +kernel
  have hinX1 : ∀ w ∈ wsX10, w ∈ wsX4_run := by decide +kernel
  have hinX2 : ∀ w ∈ wsX20, w ∈ wsX4_run := by decide +kernel
  have hinX3 : ∀ w ∈ wsX30, w ∈ wsX4_run := by decide +kernel
  have hinX4 : ∀ w ∈ wsX40, w ∈ wsX4_run := by decide +kernel
  have hS : va_S A s.heap s.heap [] := va_S.rf
  have hl := lv_entry ([.ref (ad 0 0), .int (zI t)]) (n := 4) (Nat.le_of_ble_eq_true rfl)
  rw [lg_entry_eq]
  generalize (lg_sl ([.ref (ad 0 0), .int (zI t)]) ++ List.replicate (4 - (lg_sl ([.ref (ad 0 0), .int (zI t)])).length) Slot.unset).toArray = ls at hl ⊢
  replace hl : lv_has ls 4 [(0, .ref (ad 0 0)), (1, .int (zI t))] := hl
  obtain ⟨hI5, hI25, hI20, hIM, hIL, hIR⟩ := id hI
  refine lv_iload_n hx hb dX4_run_0 rfl (lv_at hl 1 rfl) ?_
  refine lv_iconst (v := zI 0) hx hb dX4_run_1 rfl ?_
  refine z_ldc (z := 100000) hx hb hown (hts (.constant RX4 65 (100000)) (by decide +kernel)) (by decide) dX4_run_2 ?_
  refine c_callS (As := [.int (zI t), .int (zI 0), .int (zI 100000)]) (rest := []) ⟨hx, hb, hml, hown, hts⟩ (m_X4_within l D cI cJ A ad al S E rt hal t 0 100000 ⟨by omega, by omega⟩ ⟨by decide, by decide⟩ ⟨by decide, by decide⟩) (va_cwS 3 hts gX4_run_X4_within rfl rfl rfl (by decide +kernel) ⟨Nat.le_of_ble_eq_true rfl, Nat.le_of_ble_eq_true rfl⟩) hK hG hS hA rfl hl.1 rfl (Nat.le_of_ble_eq_true rfl) dX4_run_4 ⟨Nat.zero_le _, Nat.zero_le _⟩ (fun t9 H locs ht9 hB hS => ?_)
  have hG := hB.1; rw [ht9] at hG; clear hB ht9
  refine z_ifb_eq (tgt := 21) hx hb dX4_run_7 (by decide) (fun c_1 => ?_) (fun c_1 => ?_)
  · refine lv_iconst (v := zI (-1)) hx hb dX4_run_21 rfl ?_
    have e9 : cC S E rt = cC (rrunS S t) E rt := by unfold rrunS; rw [if_neg (by omega)]
    rw [e9] at hG
    have v9 : (-1) = rrunV S t := by unfold rrunV; rw [if_neg (by omega)]
    refine W.eq (congrArg (fun z => F0 m0 22 ls [.int (zI z)]) v9) ?_
    exact W.iret hx hb hr (fun t ht hW => ⟨rfl, ⟨by rw [ht]; exact hG, va_K.moved hW.alike hK, fun q hq => hA q (Nat.le_trans hS.1 (by rw [← ht]; exact hq))⟩, hS.F ht⟩) hS.2.2 dX4_run_22
  · refine lv_iload_n hx hb dX4_run_10 rfl (lv_at hl 1 rfl) ?_
    refine z_ldc (z := 1000000000) hx hb hown (hts (.constant RX4 79 (1000000000)) (by decide +kernel)) (by decide) dX4_run_11 ?_
    refine lv_aload_n hx hb dX4_run_13 rfl (lv_at hl 0 rfl) ?_
    refine c_getV (Cn := RX4) (T := TX4) hx hb hts 0 hinX4 hown hK hG 0 1 (hal 0 0 rfl) (by decide) rfl (by decide) (hts (.fieldLink RX4 27 "LineEvents" "now" "I") (by decide +kernel)) (cV_I (z := S 25 0 0) rfl (rfl)) dX4_run_14 ?_
    refine z_isub hx hb dX4_run_17 ?_
    refine z_icmp_le (tgt := 23) hx hb dX4_run_18 (by decide) ⟨by omega, by omega⟩ ⟨by omega, by omega⟩ (fun c_2 => ?_) (fun c_2 => ?_)
    · refine lv_aload_n hx hb dX4_run_23 rfl (lv_at hl 0 rfl) ?_
      refine lv_iconst (v := zI 0) hx hb dX4_run_24 rfl ?_
      refine c_putV (Cn := RX4) (T := TX4) (z := 0) hx hb hts 0 hinX4 tyX4 tyX4_ok nmX4 hown hK hG hS 0 8 (hal 0 0 rfl) (by decide) rfl (by decide) (hts (.fieldLink RX4 80 "LineEvents" "eventCount" "I") (by decide +kernel)) (Or.inl rfl) (cV_I (z := 0) rfl rfl) rfl rfl dX4_run_25 (fun H locs hG hS => ?_)
      refine lv_iload_n hx hb dX4_run_28 rfl (lv_at hl 1 rfl) ?_
      refine lv_istore_n (lv' := [(2, .int (zI t)), (0, .ref (ad 0 0)), (1, .int (zI t))]) hx hb dX4_run_29 rfl hl (by decide) rfl (fun ls hl => ?_)
      refine lv_iload_n hx hb dX4_run_30 rfl (lv_at hl 0 rfl) ?_
      refine z_if_le (tgt := 78) hx hb dX4_run_31 (by decide) ⟨by omega, by omega⟩ (fun c_3 => ?_) (fun c_3 => ?_)
      · refine lv_aload_n hx hb dX4_run_78 rfl (lv_at hl 1 rfl) ?_
        refine c_getV (Cn := RX4) (T := TX4) hx hb hts 0 hinX4 hown hK hG 0 8 (hal 0 0 rfl) (by decide) rfl (by decide) (hts (.fieldLink RX4 80 "LineEvents" "eventCount" "I") (by decide +kernel)) (cV_I (z := 0) rfl ((su_same _ _ _ _ _))) dX4_run_79 ?_
        have e9 : su (cC S E rt) 0 0 8 (0) = cC (rrunS S t) E rt := by unfold rrunS; rw [if_pos (by omega), show t.toNat = 0 by omega, show rrunL 0 (su S 30 0 0 0) = su S 30 0 0 0 from rfl, cC_30]
        rw [e9] at hG
        have v9 : 0 = rrunV S t := by unfold rrunV; rw [if_pos (by omega), show t.toNat = 0 by omega]; rfl
        refine W.eq (congrArg (fun z => F0 m0 82 ls [.int (zI z)]) v9) ?_
        exact W.iret hx hb hr (fun t ht hW => ⟨rfl, ⟨by rw [ht]; exact hG, va_K.moved hW.alike hK, fun q hq => hA q (Nat.le_trans hS.1 (by rw [← ht]; exact hq))⟩, hS.F ht⟩) hS.2.2 dX4_run_82
      · exact absurd ht1 (by omega)
    · refine lv_iconst (v := zI (-1)) hx hb dX4_run_21 rfl ?_
      have e9 : cC S E rt = cC (rrunS S t) E rt := by unfold rrunS; rw [if_neg (by omega)]
      rw [e9] at hG
      have v9 : (-1) = rrunV S t := by unfold rrunV; rw [if_neg (by omega)]
      refine W.eq (congrArg (fun z => F0 m0 22 ls [.int (zI z)]) v9) ?_
      exact W.iret hx hb hr (fun t ht hW => ⟨rfl, ⟨by rw [ht]; exact hG, va_K.moved hW.alike hK, fun q hq => hA q (Nat.le_trans hS.1 (by rw [← ht]; exact hq))⟩, hS.F ht⟩) hS.2.2 dX4_run_22
set_option maxHeartbeats 4000000 in
set_option maxRecDepth 100000 in
theorem m_X2_addFaultN (l : Launch) (D : va_G) (cI cJ : ClassId) (A : Nat → Prop) (ad : Nat → Nat → Nat) (al : Nat → Nat → Prop) (C : sT) (i x : Nat) (n : Int) (h2 : al 2 i) (h8 : C 2 i 8 = n) (h7 : C 2 i 7 = -1) : Met l yX2_addFault wsX2_addFault ({ frames := 0, cells := 0, slots := 0, locals := 0 }) (va_Pc [.ref (ad 2 i), .ref (ad 6 x)] (gCU D cI cJ A ad al C)) (gO none (gCU D cI cJ A ad al (su (su (su C 2 i 6 (x : Int)) 2 i 7 (x : Int)) 2 i 8 (n + 1))) A) 0 0 A := by
  refine Met.ofW (cc := cX2_addFault) (maxL := 2) (ret := none) (by decide) rfl ?_
  intro p e s m0 args below meth c s₁ B hml hv
  obtain ⟨rfl, hG, hK, hA⟩ := hv
  have hx := B.exec
  have hb := B.bytes
  have hr := B.returns
  have hts := atoms_spec (ws := wsX2_addFault) B.pre
  have hown : s.vm.findClass RX2 = some m0.cls := findClass_of_methodNamed B.named
  have hlocks := B.notSynchronized
  have hinX1 : ∀ w ∈ wsX10, w ∈ wsX2_addFault := by decide +kernel
  have hinX2 : ∀ w ∈ wsX20, w ∈ wsX2_addFault := by decide +kernel
  have hS : va_S A s.heap s.heap [] := va_S.rf
  have hl := lv_entry ([.ref (ad 2 i), .ref (ad 6 x)]) (n := 2) (Nat.le_of_ble_eq_true rfl)
  rw [lg_entry_eq]
  generalize (lg_sl ([.ref (ad 2 i), .ref (ad 6 x)]) ++ List.replicate (2 - (lg_sl ([.ref (ad 2 i), .ref (ad 6 x)])).length) Slot.unset).toArray = ls at hl ⊢
  replace hl : lv_has ls 2 [(0, .ref (ad 2 i)), (1, .ref (ad 6 x))] := hl
  refine lv_aload_n hx hb dX2_addFault_0 rfl (lv_at hl 0 rfl) ?_
  refine c_getV (Cn := RX2) (T := TX2) hx hb hts 2 hinX2 hown hK hG i 7 h2 (by decide) rfl (by decide) (hts (.fieldLink RX2 39 "LineEvents$Machine" "lastFault" "LLineEvents$Fault;") (by decide +kernel)) (cV_N (t := 6) rfl (by have h9 := h7; omega)) dX2_addFault_1 ?_
  refine lv_ifnonnullN hx hb dX2_addFault_4 ?_
  refine lv_aload_n hx hb dX2_addFault_7 rfl (lv_at hl 0 rfl) ?_
  refine lv_aload_n hx hb dX2_addFault_8 rfl (lv_at hl 1 rfl) ?_
  refine c_putV (Cn := RX2) (T := TX2) (z := (x : Int)) hx hb hts 2 hinX2 tyX2 tyX2_ok nmX2 hown hK hG hS i 6 h2 (by decide) rfl (by decide) (hts (.fieldLink RX2 43 "LineEvents$Machine" "firstFault" "LLineEvents$Fault;") (by decide +kernel)) (Or.inl rfl) (cV_R (t := 6) (j := x) rfl rfl) rfl rfl dX2_addFault_9 (fun H locs hG hS => ?_)
  refine lv_goto (tgt := 23) hx hb dX2_addFault_12 (by decide) ?_
  refine lv_aload_n hx hb dX2_addFault_23 rfl (lv_at hl 0 rfl) ?_
  refine lv_aload_n hx hb dX2_addFault_24 rfl (lv_at hl 1 rfl) ?_
  refine c_putV (Cn := RX2) (T := TX2) (z := (x : Int)) hx hb hts 2 hinX2 tyX2 tyX2_ok nmX2 hown hK hG hS i 7 h2 (by decide) rfl (by decide) (hts (.fieldLink RX2 39 "LineEvents$Machine" "lastFault" "LLineEvents$Fault;") (by decide +kernel)) (Or.inl rfl) (cV_R (t := 6) (j := x) rfl rfl) rfl rfl dX2_addFault_25 (fun H locs hG hS => ?_)
  refine lv_aload_n hx hb dX2_addFault_28 rfl (lv_at hl 0 rfl) ?_
  refine lv_dup hx hb dX2_addFault_29 rfl ?_
  refine c_getV (Cn := RX2) (T := TX2) hx hb hts 2 hinX2 hown hK hG i 8 h2 (by decide) rfl (by decide) (hts (.fieldLink RX2 51 "LineEvents$Machine" "faultCount" "I") (by decide +kernel)) (cV_I (z := n) rfl ((su_f (by decide)).trans ((su_f (by decide)).trans (h8)))) dX2_addFault_30 ?_
  refine lv_iconst (v := zI 1) hx hb dX2_addFault_33 rfl ?_
  refine z_iadd hx hb dX2_addFault_34 ?_
  refine c_putV (Cn := RX2) (T := TX2) (z := n + 1) hx hb hts 2 hinX2 tyX2 tyX2_ok nmX2 hown hK hG hS i 8 h2 (by decide) rfl (by decide) (hts (.fieldLink RX2 51 "LineEvents$Machine" "faultCount" "I") (by decide +kernel)) (Or.inl rfl) (cV_I (z := n + 1) rfl rfl) rfl rfl dX2_addFault_35 (fun H locs hG hS => ?_)
  exact W.vret hx hb hr (fun t ht hW => ⟨rfl, ⟨by rw [ht]; exact hG, va_K.moved hW.alike hK, fun q hq => hA q (Nat.le_trans hS.1 (by rw [← ht]; exact hq))⟩, hS.F ht⟩) hS.2.2 dX2_addFault_38
set_option maxHeartbeats 4000000 in
set_option maxRecDepth 100000 in
theorem m_X2_addFaultR (l : Launch) (D : va_G) (cI cJ : ClassId) (A : Nat → Prop) (ad : Nat → Nat → Nat) (al : Nat → Nat → Prop) (C : sT) (i x y : Nat) (n : Int) (h2 : al 2 i) (h8 : C 2 i 8 = n) (h7 : C 2 i 7 = (y : Int)) (hy : al 6 y) : Met l yX2_addFault wsX2_addFault ({ frames := 0, cells := 0, slots := 0, locals := 0 }) (va_Pc [.ref (ad 2 i), .ref (ad 6 x)] (gCU D cI cJ A ad al C)) (gO none (gCU D cI cJ A ad al (su (su (su C 6 y 3 (x : Int)) 2 i 7 (x : Int)) 2 i 8 (n + 1))) A) 0 0 A := by
  refine Met.ofW (cc := cX2_addFault) (maxL := 2) (ret := none) (by decide) rfl ?_
  intro p e s m0 args below meth c s₁ B hml hv
  obtain ⟨rfl, hG, hK, hA⟩ := hv
  have hx := B.exec
  have hb := B.bytes
  have hr := B.returns
  have hts := atoms_spec (ws := wsX2_addFault) B.pre
  have hown : s.vm.findClass RX2 = some m0.cls := findClass_of_methodNamed B.named
  have hlocks := B.notSynchronized
  have hinX1 : ∀ w ∈ wsX10, w ∈ wsX2_addFault := by decide +kernel
  have hinX2 : ∀ w ∈ wsX20, w ∈ wsX2_addFault := by decide +kernel
  have hS : va_S A s.heap s.heap [] := va_S.rf
  have hl := lv_entry ([.ref (ad 2 i), .ref (ad 6 x)]) (n := 2) (Nat.le_of_ble_eq_true rfl)
  rw [lg_entry_eq]
  generalize (lg_sl ([.ref (ad 2 i), .ref (ad 6 x)]) ++ List.replicate (2 - (lg_sl ([.ref (ad 2 i), .ref (ad 6 x)])).length) Slot.unset).toArray = ls at hl ⊢
  replace hl : lv_has ls 2 [(0, .ref (ad 2 i)), (1, .ref (ad 6 x))] := hl
  refine lv_aload_n hx hb dX2_addFault_0 rfl (lv_at hl 0 rfl) ?_
  refine c_getV (Cn := RX2) (T := TX2) hx hb hts 2 hinX2 hown hK hG i 7 h2 (by decide) rfl (by decide) (hts (.fieldLink RX2 39 "LineEvents$Machine" "lastFault" "LLineEvents$Fault;") (by decide +kernel)) (cV_R (t := 6) (j := y) rfl (h7)) dX2_addFault_1 ?_
  refine lv_ifnonnull (tgt := 15) hx hb dX2_addFault_4 (by decide) ?_
  refine lv_aload_n hx hb dX2_addFault_15 rfl (lv_at hl 0 rfl) ?_
  refine c_getV (Cn := RX2) (T := TX2) hx hb hts 2 hinX2 hown hK hG i 7 h2 (by decide) rfl (by decide) (hts (.fieldLink RX2 39 "LineEvents$Machine" "lastFault" "LLineEvents$Fault;") (by decide +kernel)) (cV_R (t := 6) (j := y) rfl (h7)) dX2_addFault_16 ?_
  refine lv_aload_n hx hb dX2_addFault_19 rfl (lv_at hl 1 rfl) ?_
  refine c_putV (Cn := RX1) (T := TX1) (z := (x : Int)) hx hb hts 6 hinX1 tyX1 tyX1_ok nmX1 hown hK hG hS y 3 hy (by decide) rfl (by decide) (hts (.fieldLink RX2 46 "LineEvents$Fault" "next" "LLineEvents$Fault;") (by decide +kernel)) (Or.inl rfl) (cV_R (t := 6) (j := x) rfl rfl) rfl rfl dX2_addFault_20 (fun H locs hG hS => ?_)
  refine lv_aload_n hx hb dX2_addFault_23 rfl (lv_at hl 0 rfl) ?_
  refine lv_aload_n hx hb dX2_addFault_24 rfl (lv_at hl 1 rfl) ?_
  refine c_putV (Cn := RX2) (T := TX2) (z := (x : Int)) hx hb hts 2 hinX2 tyX2 tyX2_ok nmX2 hown hK hG hS i 7 h2 (by decide) rfl (by decide) (hts (.fieldLink RX2 39 "LineEvents$Machine" "lastFault" "LLineEvents$Fault;") (by decide +kernel)) (Or.inl rfl) (cV_R (t := 6) (j := x) rfl rfl) rfl rfl dX2_addFault_25 (fun H locs hG hS => ?_)
  refine lv_aload_n hx hb dX2_addFault_28 rfl (lv_at hl 0 rfl) ?_
  refine lv_dup hx hb dX2_addFault_29 rfl ?_
  refine c_getV (Cn := RX2) (T := TX2) hx hb hts 2 hinX2 hown hK hG i 8 h2 (by decide) rfl (by decide) (hts (.fieldLink RX2 51 "LineEvents$Machine" "faultCount" "I") (by decide +kernel)) (cV_I (z := n) rfl ((su_f (by decide)).trans ((su_v (by decide)).trans (h8)))) dX2_addFault_30 ?_
  refine lv_iconst (v := zI 1) hx hb dX2_addFault_33 rfl ?_
  refine z_iadd hx hb dX2_addFault_34 ?_
  refine c_putV (Cn := RX2) (T := TX2) (z := n + 1) hx hb hts 2 hinX2 tyX2 tyX2_ok nmX2 hown hK hG hS i 8 h2 (by decide) rfl (by decide) (hts (.fieldLink RX2 51 "LineEvents$Machine" "faultCount" "I") (by decide +kernel)) (Or.inl rfl) (cV_I (z := n + 1) rfl rfl) rfl rfl dX2_addFault_35 (fun H locs hG hS => ?_)
  exact W.vret hx hb hr (fun t ht hW => ⟨rfl, ⟨by rw [ht]; exact hG, va_K.moved hW.alike hK, fun q hq => hA q (Nat.le_trans hS.1 (by rw [← ht]; exact hq))⟩, hS.F ht⟩) hS.2.2 dX2_addFault_38
theorem cl_faultN (S : sT) (E : Nat → Int) (rt : Int) (i x : Nat) (ab be t : Int) (hx9 : x = 4 * i + (S 15 i 0).toNat) (h15 : 0 ≤ S 15 i 0 ∧ S 15 i 0 < 4) (hi : (i : Int) < S 5 0 0) (h0 : S 15 i 0 = 0) : ∀ k j, cAl (su (su (su (su S 12 i (S 15 i 0).toNat ab) 13 i (S 15 i 0).toNat be) 14 i (S 15 i 0).toNat t) 15 i 0 (S 15 i 0 + 1)) k j → alU (cAl S) 6 x k j ∧ ((k = 1 ∨ k = 4 ∨ k = 5 → cC (su (su (su (su S 12 i (S 15 i 0).toNat ab) 13 i (S 15 i 0).toNat be) 14 i (S 15 i 0).toNat t) 15 i 0 (S 15 i 0 + 1)) E rt k j = (su (su (su (su (su (su (cn (cC S E rt) 6 x) 6 x 0 ab) 6 x 1 be) 6 x 2 t) 2 i 6 (x : Int)) 2 i 7 (x : Int)) 2 i 8 (S 15 i 0 + 1)) k j) ∧ ∀ f, f < cNf k → cC (su (su (su (su S 12 i (S 15 i 0).toNat ab) 13 i (S 15 i 0).toNat be) 14 i (S 15 i 0).toNat t) 15 i 0 (S 15 i 0 + 1)) E rt k j f = (su (su (su (su (su (su (cn (cC S E rt) 6 x) 6 x 0 ab) 6 x 1 be) 6 x 2 t) 2 i 6 (x : Int)) 2 i 7 (x : Int)) 2 i 8 (S 15 i 0 + 1)) k j f) := by
  intro k j hk
  have e4 : x / 4 = i := by omega
  have e5 : x % 4 = (S 15 i 0).toNat := by omega
  rcases k with _ | _ | _ | _ | _ | _ | _ | _ | k
  · refine ⟨Or.inl hk, fun q => absurd q (by omega), fun f hf => ?_⟩
    rfl
  · exact ⟨Or.inl hk, fun _ => by funext f; simp [cC, su, cn, show ¬ (27 + f % 3 = 15) by omega, show ¬ (27 + f % 3 = 14) by omega, show ¬ (27 + f % 3 = 13) by omega, show ¬ (27 + f % 3 = 12) by omega], fun f hf => absurd hf (by simp [cNf])⟩
  · refine ⟨Or.inl hk, fun q => absurd q (by omega), fun f hf => ?_⟩
    have hf : f < 16 := hf
    by_cases hj : j = i
    · subst hj
      rcases f with _ | _ | _ | _ | _ | _ | _ | _ | _ | _ | _ | _ | _ | _ | _ | _ | f <;> first | rfl | (exfalso; omega) | (simp [cC, cM, su, cn]; done) | (simp [cC, cM, su, cn]; omega)
    · rcases f with _ | _ | _ | _ | _ | _ | _ | _ | _ | _ | _ | _ | _ | _ | _ | _ | f <;> first | rfl | (exfalso; omega) | (simp [cC, cM, su, cn, hj]; done)
  · exact ⟨Or.inl hk, fun q => absurd q (by omega), fun f hf => rfl⟩
  · exact ⟨Or.inl hk, fun _ => rfl, fun f hf => absurd hf (by simp [cNf])⟩
  · exact ⟨Or.inl hk, fun _ => rfl, fun f hf => absurd hf (by simp [cNf])⟩
  · have hk1 : ((j / 4 : Nat) : Int) < S 5 0 0 := hk.1
    have hk2 : ((j % 4 : Nat) : Int) < if j / 4 = i then S 15 i 0 + 1 else S 15 (j / 4) 0 := by
      have h9 := hk.2
      simp only [su] at h9
      by_cases hq : j / 4 = i <;> simp [hq] at h9 ⊢ <;> omega
    refine ⟨?_, fun q => absurd q (by omega), fun f hf => ?_⟩
    · by_cases hj : j = x
      · exact Or.inr ⟨rfl, hj⟩
      · refine Or.inl ⟨hk1, ?_⟩
        by_cases hq : j / 4 = i
        · rw [if_pos hq] at hk2; rw [hq]; omega
        · rw [if_neg hq] at hk2; exact hk2
    · have hf : f < 4 := hf
      by_cases hj : j = x
      · subst hj
        rcases f with _ | _ | _ | _ | f <;> first | (exfalso; omega) | (simp [cC, cF, su, cn, e4, e5]; done) | (simp [cC, cF, su, cn, e4, e5, cT]; omega)
      · have hne : ¬ (j / 4 = i ∧ j % 4 = (S 15 i 0).toNat) := by omega
        rcases f with _ | _ | _ | _ | f
        · simp [cC, cF, su, cn, hj, hne]
        · simp [cC, cF, su, cn, hj, hne]
        · simp [cC, cF, su, cn, hj, hne]
        · by_cases hq : j / 4 = i
          · rw [if_pos hq] at hk2
            simp [cC, cF, su, cn, hj, hq]
            omega
          · simp [cC, cF, su, cn, hj, hq]
        · omega
  · refine ⟨Or.inl hk, fun q => absurd q (by omega), fun f hf => ?_⟩
    have hf : f < 5 := hf
    rcases f with _ | _ | _ | _ | _ | f <;> first | rfl | (exfalso; omega)
  · exact False.elim hk
theorem cl_faultR (S : sT) (E : Nat → Int) (rt : Int) (i x y : Nat) (ab be t : Int) (hx9 : x = 4 * i + (S 15 i 0).toNat) (h15 : 0 ≤ S 15 i 0 ∧ S 15 i 0 < 4) (hi : (i : Int) < S 5 0 0) (h0 : x = y + 1 ∧ ¬ S 15 i 0 = 0) : ∀ k j, cAl (su (su (su (su S 12 i (S 15 i 0).toNat ab) 13 i (S 15 i 0).toNat be) 14 i (S 15 i 0).toNat t) 15 i 0 (S 15 i 0 + 1)) k j → alU (cAl S) 6 x k j ∧ ((k = 1 ∨ k = 4 ∨ k = 5 → cC (su (su (su (su S 12 i (S 15 i 0).toNat ab) 13 i (S 15 i 0).toNat be) 14 i (S 15 i 0).toNat t) 15 i 0 (S 15 i 0 + 1)) E rt k j = (su (su (su (su (su (su (cn (cC S E rt) 6 x) 6 x 0 ab) 6 x 1 be) 6 x 2 t) 6 y 3 (x : Int)) 2 i 7 (x : Int)) 2 i 8 (S 15 i 0 + 1)) k j) ∧ ∀ f, f < cNf k → cC (su (su (su (su S 12 i (S 15 i 0).toNat ab) 13 i (S 15 i 0).toNat be) 14 i (S 15 i 0).toNat t) 15 i 0 (S 15 i 0 + 1)) E rt k j f = (su (su (su (su (su (su (cn (cC S E rt) 6 x) 6 x 0 ab) 6 x 1 be) 6 x 2 t) 6 y 3 (x : Int)) 2 i 7 (x : Int)) 2 i 8 (S 15 i 0 + 1)) k j f) := by
  intro k j hk
  have e4 : x / 4 = i := by omega
  have e5 : x % 4 = (S 15 i 0).toNat := by omega
  rcases k with _ | _ | _ | _ | _ | _ | _ | _ | k
  · refine ⟨Or.inl hk, fun q => absurd q (by omega), fun f hf => ?_⟩
    rfl
  · exact ⟨Or.inl hk, fun _ => by funext f; simp [cC, su, cn, show ¬ (27 + f % 3 = 15) by omega, show ¬ (27 + f % 3 = 14) by omega, show ¬ (27 + f % 3 = 13) by omega, show ¬ (27 + f % 3 = 12) by omega], fun f hf => absurd hf (by simp [cNf])⟩
  · refine ⟨Or.inl hk, fun q => absurd q (by omega), fun f hf => ?_⟩
    have hf : f < 16 := hf
    by_cases hj : j = i
    · subst hj
      rcases f with _ | _ | _ | _ | _ | _ | _ | _ | _ | _ | _ | _ | _ | _ | _ | _ | f <;> first | rfl | (exfalso; omega) | (simp [cC, cM, su, cn]; done) | (simp [cC, cM, su, cn]; omega)
    · rcases f with _ | _ | _ | _ | _ | _ | _ | _ | _ | _ | _ | _ | _ | _ | _ | _ | f <;> first | rfl | (exfalso; omega) | (simp [cC, cM, su, cn, hj]; done)
  · exact ⟨Or.inl hk, fun q => absurd q (by omega), fun f hf => rfl⟩
  · exact ⟨Or.inl hk, fun _ => rfl, fun f hf => absurd hf (by simp [cNf])⟩
  · exact ⟨Or.inl hk, fun _ => rfl, fun f hf => absurd hf (by simp [cNf])⟩
  · have hk1 : ((j / 4 : Nat) : Int) < S 5 0 0 := hk.1
    have hk2 : ((j % 4 : Nat) : Int) < if j / 4 = i then S 15 i 0 + 1 else S 15 (j / 4) 0 := by
      have h9 := hk.2
      simp only [su] at h9
      by_cases hq : j / 4 = i <;> simp [hq] at h9 ⊢ <;> omega
    refine ⟨?_, fun q => absurd q (by omega), fun f hf => ?_⟩
    · by_cases hj : j = x
      · exact Or.inr ⟨rfl, hj⟩
      · refine Or.inl ⟨hk1, ?_⟩
        by_cases hq : j / 4 = i
        · rw [if_pos hq] at hk2; rw [hq]; omega
        · rw [if_neg hq] at hk2; exact hk2
    · have hf : f < 4 := hf
      by_cases hj : j = x
      · subst hj
        rcases f with _ | _ | _ | _ | f <;> first | (exfalso; omega) | (simp [cC, cF, su, cn, e4, e5]; done) | (simp [cC, cF, su, cn, e4, e5, cT]; omega)
      · have hne : ¬ (j / 4 = i ∧ j % 4 = (S 15 i 0).toNat) := by omega
        rcases f with _ | _ | _ | _ | f
        · simp [cC, cF, su, cn, hj, hne]
        · simp [cC, cF, su, cn, hj, hne]
        · simp [cC, cF, su, cn, hj, hne]
        · by_cases hq : j / 4 = i
          · rw [if_pos hq] at hk2
            simp [cC, cF, su, cn, hj, hq]
            by_cases hy : j = y
            · simp [hy]; omega
            · simp [hy]; omega
          · have hy : ¬ j = y := by omega
            simp [cC, cF, su, cn, hj, hq, hy]
        · omega
  · refine ⟨Or.inl hk, fun q => absurd q (by omega), fun f hf => ?_⟩
    have hf : f < 5 := hf
    rcases f with _ | _ | _ | _ | _ | f <;> first | rfl | (exfalso; omega)
  · exact False.elim hk
theorem nr_fault (S : sT) (E : Nat → Int) (rt : Int) (i x : Nat) (hx9 : x = 4 * i + (S 15 i 0).toNat) (h15 : 0 ≤ S 15 i 0 ∧ S 15 i 0 < 4) (hI : Inv S) : nr (cC S E rt) (cAl S) 6 x := by
  intro k j hk f hf hc
  obtain ⟨hI5, hI25, hI20, hIM, hIL, hIR⟩ := hI
  rcases k with _ | _ | _ | _ | _ | _ | _ | _ | k
  · have hf : f < 11 := hf
    rcases f with _ | _ | _ | _ | _ | _ | _ | _ | _ | _ | _ | f <;> first | (exfalso; omega) | exact absurd hc (by decide)
  · exact absurd hf (by simp [cNf])
  · have hf : f < 16 := hf
    have hj : (j : Int) < S 5 0 0 := hk
    have h4 := (hIM j (by omega)).2.2.2.2.2.1
    rcases f with _ | _ | _ | _ | _ | _ | _ | _ | _ | _ | _ | _ | _ | _ | _ | _ | f
    · exact absurd hc (by decide)
    · exact absurd hc (by decide)
    · exact absurd hc (by decide)
    · exact absurd hc (by decide)
    · exact absurd hc (by decide)
    · exact absurd hc (by decide)
    · show (if S 15 j 0 = 0 then (-1 : Int) else 4 * (j : Int)) < 0 ∨ (if S 15 j 0 = 0 then (-1 : Int) else 4 * (j : Int)).toNat ≠ x
      by_cases h0 : S 15 j 0 = 0
      · rw [if_pos h0]; exact Or.inl (by decide)
      · rw [if_neg h0]
        by_cases hji : j = i
        · subst hji; right; omega
        · right; omega
    · show (if S 15 j 0 = 0 then (-1 : Int) else 4 * (j : Int) + S 15 j 0 - 1) < 0 ∨ (if S 15 j 0 = 0 then (-1 : Int) else 4 * (j : Int) + S 15 j 0 - 1).toNat ≠ x
      by_cases h0 : S 15 j 0 = 0
      · rw [if_pos h0]; exact Or.inl (by decide)
      · rw [if_neg h0]
        by_cases hji : j = i
        · subst hji; right; omega
        · right; omega
    all_goals first | (exfalso; omega) | exact absurd hc (by decide)
  · have hf : f < 5 := hf
    rcases f with _ | _ | _ | _ | _ | f <;> first | (exfalso; omega) | exact absurd hc (by decide)
  · exact absurd hf (by simp [cNf])
  · exact absurd hf (by simp [cNf])
  · have hf : f < 4 := hf
    have hk1 : ((j / 4 : Nat) : Int) < S 5 0 0 := hk.1
    have h4 := (hIM (j / 4) (by omega)).2.2.2.2.2.1
    rcases f with _ | _ | _ | _ | f
    · exact absurd hc (by decide)
    · exact absurd hc (by decide)
    · exact absurd hc (by decide)
    · show (if ((j % 4 : Nat) : Int) + 1 < S 15 (j / 4) 0 then (j : Int) + 1 else -1) < 0 ∨ (if ((j % 4 : Nat) : Int) + 1 < S 15 (j / 4) 0 then (j : Int) + 1 else -1).toNat ≠ x
      by_cases h0 : ((j % 4 : Nat) : Int) + 1 < S 15 (j / 4) 0
      · rw [if_pos h0]
        right
        by_cases hji : j / 4 = i
        · rw [hji] at h0; omega
        · omega
      · rw [if_neg h0]; exact Or.inl (by decide)
    · exfalso; omega
  · have hf : f < 5 := hf
    rcases f with _ | _ | _ | _ | _ | f <;> first | (exfalso; omega) | exact absurd hc (by decide)
  · exact False.elim hk
set_option maxHeartbeats 4000000 in
set_option maxRecDepth 100000 in
theorem m_X4_fault (l : Launch) (D : va_G) (cI cJ : ClassId) (A : Nat → Prop) (ad : Nat → Nat → Nat) (al : Nat → Nat → Prop) (S : sT) (E : Nat → Int) (rt z ab be t : Int) (hal0 : al = cAl S) (hz0 : zB z) (hab0 : zC ab) (hbe0 : zC be) (ht0 : zB t) (hI : Inv S) : Met l yX4_fault wsX4_fault ({ frames := 2, cells := 1, slots := 4, locals := 45 }) (va_Pc [.ref (ad 0 0), .int (zI z), .long (zL ab), .long (zL be), .int (zI t)] (gCU D cI cJ A ad al (cC S E rt))) (gO (some (.int (zI (bZ (S 25 0 0 ≤ 0 ∧ (0 ≤ z ∧ z < S 5 0 0) ∧ (1 ≤ be ∧ be ≤ 1000000) ∧ (0 ≤ ab ∧ ab ≤ be) ∧ (0 ≤ t ∧ t ≤ 100000) ∧ ¬ S 15 z.toNat 0 = 4))))) (fun U => ∃ ad1 : Nat → Nat → Nat, ad1 0 0 = ad 0 0 ∧ gCU D cI cJ A ad1 (cAl (rfaultS S z ab be t)) (cC (rfaultS S z ab be t) E rt) U) A) 1 4 A := by
  refine Met.ofW (cc := cX4_fault) (maxL := 8) (ret := (some .boolean)) (by decide) rfl ?_
  intro p e s m0 args below meth c s₁ B hml hv
  obtain ⟨rfl, hG, hK, hA⟩ := hv
  have hx := B.exec
  have hb := B.bytes
  have hr := B.returns
  have hts := atoms_spec (ws := wsX4_fault) B.pre
  have hown : s.vm.findClass RX4 = some m0.cls := findClass_of_methodNamed B.named
  have hlocks := B.notSynchronized
  have hinX1 : ∀ w ∈ wsX10, w ∈ wsX4_fault := by decide +kernel
  have hinX2 : ∀ w ∈ wsX20, w ∈ wsX4_fault := by decide +kernel
  have hinX4 : ∀ w ∈ wsX40, w ∈ wsX4_fault := by decide +kernel
  have hS : va_S A s.heap s.heap [] := va_S.rf
  have hl := lv_entry ([.ref (ad 0 0), .int (zI z), .long (zL ab), .long (zL be), .int (zI t)]) (n := 8) (Nat.le_of_ble_eq_true rfl)
  rw [lg_entry_eq]
  generalize (lg_sl ([.ref (ad 0 0), .int (zI z), .long (zL ab), .long (zL be), .int (zI t)]) ++ List.replicate (8 - (lg_sl ([.ref (ad 0 0), .int (zI z), .long (zL ab), .long (zL be), .int (zI t)])).length) Slot.unset).toArray = ls at hl ⊢
  replace hl : lv_has ls 8 [(0, .ref (ad 0 0)), (1, .int (zI z)), (2, .long (zL ab)), (4, .long (zL be)), (6, .int (zI t))] := hl
  have hal : alS al S := by rw [hal0]; exact fun _ _ h => h
  obtain ⟨hI5, hI25, hI20, hIM, hIL, hIR⟩ := id hI
  refine lv_aload_n hx hb dX4_fault_0 rfl (lv_at hl 0 rfl) ?_
  refine lv_iload_n hx hb dX4_fault_1 rfl (lv_at hl 1 rfl) ?_
  refine c_callV (As := [.int (zI z)]) (rest := []) (Cn := RX4) (T := TX4) ⟨hx, hb, hml, hown, hts⟩ 0 0 (m_X4_find l D cI cJ A ad al S E rt hal z hz0 hI) (cwV 1 hts gX4_fault_X4_find rfl rfl rfl (by decide +kernel) ⟨Nat.le_of_ble_eq_true rfl, Nat.le_of_ble_eq_true rfl⟩) (hal 0 0 rfl) (by decide) rfl hK hG hS hA rfl hl.1 rfl (Nat.le_of_ble_eq_true rfl) dX4_fault_2 ⟨Nat.zero_le _, Nat.zero_le _⟩ (fun t9 H locs ht9 hB hS => ?_)
  have hG := hB.1; rw [ht9] at hG; clear hB ht9
  by_cases hz9 : 0 ≤ z ∧ z < S 5 0 0
  · obtain ⟨i, hi9⟩ : ∃ i : Nat, z = (i : Int) := ⟨z.toNat, by omega⟩
    have hi : (i : Int) < S 5 0 0 := by omega
    obtain ⟨hM6, hM7, hM8, hM10, hM11, hM15, hM9, hMf⟩ := id (hIM i (by omega))
    obtain ⟨hL0, hL1, hL2, hL3, hL4⟩ := id (hIL i hi)
    refine W.eq (g2 := F0 m0 5 ls [.ref (ad 2 i)]) (by rw [if_pos hz9, rf_s hi9]; try rfl) ?_
    refine lv_astore (lv' := [(7, .ref (ad 2 i)), (0, .ref (ad 0 0)), (1, .int (zI z)), (2, .long (zL ab)), (4, .long (zL be)), (6, .int (zI t))]) hx hb dX4_fault_5 hl (by decide) rfl (fun ls hl => ?_)
    refine lv_aload_n hx hb dX4_fault_7 rfl (lv_at hl 1 rfl) ?_
    refine c_getV (Cn := RX4) (T := TX4) hx hb hts 0 hinX4 hown hK hG 0 1 (hal 0 0 rfl) (by decide) rfl (by decide) (hts (.fieldLink RX4 27 "LineEvents" "now" "I") (by decide +kernel)) (cV_I (z := S 25 0 0) rfl (rfl)) dX4_fault_8 ?_
    refine z_if_gt (tgt := 28) hx hb dX4_fault_11 (by decide) ⟨by omega, by omega⟩ (fun c_1 => ?_) (fun c_1 => ?_)
    · refine lv_iconst (v := zI 0) hx hb dX4_fault_28 rfl ?_
      have v9 : 0 = bZ (S 25 0 0 ≤ 0 ∧ (0 ≤ z ∧ z < S 5 0 0) ∧ (1 ≤ be ∧ be ≤ 1000000) ∧ (0 ≤ ab ∧ ab ≤ be) ∧ (0 ≤ t ∧ t ≤ 100000) ∧ ¬ S 15 z.toNat 0 = 4) := by refine (bZ_f ?_).symm; first | omega | (rw [show z.toNat = i by omega]; omega)
      refine W.eq (congrArg (fun z => F0 m0 29 ls [.int (zI z)]) v9) ?_
      have e8 : rfaultS S z ab be t = S := by unfold rfaultS; rw [if_neg (by first | omega | (rw [show z.toNat = i by omega]; omega))]
      rw [e8]
      rw [hal0] at hG
      refine W.widen (Nat.le_of_ble_eq_true rfl) (Nat.le_of_ble_eq_true rfl) (k := 1) (n := 4) ?_
      exact W.zret hx hb hr (zI_bool _) (fun t ht hW => ⟨rfl, ⟨ad, rfl, ⟨by rw [ht]; exact hG, va_K.moved hW.alike hK, fun q hq => hA q (Nat.le_trans hS.1 (by rw [← ht]; exact hq))⟩⟩, hS.F ht⟩) hS.2.2 dX4_fault_29
    · refine lv_aload hx hb dX4_fault_14 (lv_at hl 0 rfl) ?_
      refine lv_ifnull hx hb dX4_fault_16 ?_
      refine lv_aload hx hb dX4_fault_19 (lv_at hl 0 rfl) ?_
      refine c_getV (Cn := RX2) (T := TX2) hx hb hts 2 hinX2 hown hK hG i 8 (hal 2 i (show (i : Int) < S 5 0 0 by omega)) (by decide) rfl (by decide) (hts (.fieldLink RX4 60 "LineEvents$Machine" "faultCount" "I") (by decide +kernel)) (cV_I (z := S 15 i 0) rfl (rfl)) dX4_fault_21 ?_
      refine lv_iconst (v := zI 4) hx hb dX4_fault_24 rfl ?_
      refine z_icmp_lt (tgt := 30) hx hb dX4_fault_25 (by decide) ⟨by omega, by omega⟩ ⟨by decide, by decide⟩ (fun c_2 => ?_) (fun c_2 => ?_)
      · refine lv_lload hx hb dX4_fault_30 (lv_at hl 4 rfl) ?_
        refine lv_lconst (v := zL 1) hx hb dX4_fault_32 (by decide) ?_
        refine W.lcmp hx hb dX4_fault_33 ?_
        refine z_lif_lt (tgt := 59) hx hb dX4_fault_34 (by decide) ⟨by omega, by omega⟩ ⟨by decide, by decide⟩ (fun c_3 => ?_) (fun c_3 => ?_)
        · refine lv_iconst (v := zI 0) hx hb dX4_fault_59 rfl ?_
          have v9 : 0 = bZ (S 25 0 0 ≤ 0 ∧ (0 ≤ z ∧ z < S 5 0 0) ∧ (1 ≤ be ∧ be ≤ 1000000) ∧ (0 ≤ ab ∧ ab ≤ be) ∧ (0 ≤ t ∧ t ≤ 100000) ∧ ¬ S 15 z.toNat 0 = 4) := by refine (bZ_f ?_).symm; first | omega | (rw [show z.toNat = i by omega]; omega)
          refine W.eq (congrArg (fun z => F0 m0 60 ls [.int (zI z)]) v9) ?_
          have e8 : rfaultS S z ab be t = S := by unfold rfaultS; rw [if_neg (by first | omega | (rw [show z.toNat = i by omega]; omega))]
          rw [e8]
          rw [hal0] at hG
          refine W.widen (Nat.le_of_ble_eq_true rfl) (Nat.le_of_ble_eq_true rfl) (k := 1) (n := 4) ?_
          exact W.zret hx hb hr (zI_bool _) (fun t ht hW => ⟨rfl, ⟨ad, rfl, ⟨by rw [ht]; exact hG, va_K.moved hW.alike hK, fun q hq => hA q (Nat.le_trans hS.1 (by rw [← ht]; exact hq))⟩⟩, hS.F ht⟩) hS.2.2 dX4_fault_60
        · refine lv_lload hx hb dX4_fault_37 (lv_at hl 4 rfl) ?_
          refine z_ldc2 (z := 1000000) hx hb hown (hts (.constantLong RX4 63 (1000000)) (by decide +kernel)) (by decide) dX4_fault_39 ?_
          refine W.lcmp hx hb dX4_fault_42 ?_
          refine z_lif_gt (tgt := 59) hx hb dX4_fault_43 (by decide) ⟨by omega, by omega⟩ ⟨by decide, by decide⟩ (fun c_4 => ?_) (fun c_4 => ?_)
          · refine lv_iconst (v := zI 0) hx hb dX4_fault_59 rfl ?_
            have v9 : 0 = bZ (S 25 0 0 ≤ 0 ∧ (0 ≤ z ∧ z < S 5 0 0) ∧ (1 ≤ be ∧ be ≤ 1000000) ∧ (0 ≤ ab ∧ ab ≤ be) ∧ (0 ≤ t ∧ t ≤ 100000) ∧ ¬ S 15 z.toNat 0 = 4) := by refine (bZ_f ?_).symm; first | omega | (rw [show z.toNat = i by omega]; omega)
            refine W.eq (congrArg (fun z => F0 m0 60 ls [.int (zI z)]) v9) ?_
            have e8 : rfaultS S z ab be t = S := by unfold rfaultS; rw [if_neg (by first | omega | (rw [show z.toNat = i by omega]; omega))]
            rw [e8]
            rw [hal0] at hG
            refine W.widen (Nat.le_of_ble_eq_true rfl) (Nat.le_of_ble_eq_true rfl) (k := 1) (n := 4) ?_
            exact W.zret hx hb hr (zI_bool _) (fun t ht hW => ⟨rfl, ⟨ad, rfl, ⟨by rw [ht]; exact hG, va_K.moved hW.alike hK, fun q hq => hA q (Nat.le_trans hS.1 (by rw [← ht]; exact hq))⟩⟩, hS.F ht⟩) hS.2.2 dX4_fault_60
          · refine lv_lload_n hx hb dX4_fault_46 rfl (lv_at hl 3 rfl) ?_
            refine lv_lconst (v := zL 0) hx hb dX4_fault_47 (by decide) ?_
            refine W.lcmp hx hb dX4_fault_48 ?_
            refine z_lif_lt (tgt := 59) hx hb dX4_fault_49 (by decide) ⟨by omega, by omega⟩ ⟨by decide, by decide⟩ (fun c_5 => ?_) (fun c_5 => ?_)
            · refine lv_iconst (v := zI 0) hx hb dX4_fault_59 rfl ?_
              have v9 : 0 = bZ (S 25 0 0 ≤ 0 ∧ (0 ≤ z ∧ z < S 5 0 0) ∧ (1 ≤ be ∧ be ≤ 1000000) ∧ (0 ≤ ab ∧ ab ≤ be) ∧ (0 ≤ t ∧ t ≤ 100000) ∧ ¬ S 15 z.toNat 0 = 4) := by refine (bZ_f ?_).symm; first | omega | (rw [show z.toNat = i by omega]; omega)
              refine W.eq (congrArg (fun z => F0 m0 60 ls [.int (zI z)]) v9) ?_
              have e8 : rfaultS S z ab be t = S := by unfold rfaultS; rw [if_neg (by first | omega | (rw [show z.toNat = i by omega]; omega))]
              rw [e8]
              rw [hal0] at hG
              refine W.widen (Nat.le_of_ble_eq_true rfl) (Nat.le_of_ble_eq_true rfl) (k := 1) (n := 4) ?_
              exact W.zret hx hb hr (zI_bool _) (fun t ht hW => ⟨rfl, ⟨ad, rfl, ⟨by rw [ht]; exact hG, va_K.moved hW.alike hK, fun q hq => hA q (Nat.le_trans hS.1 (by rw [← ht]; exact hq))⟩⟩, hS.F ht⟩) hS.2.2 dX4_fault_60
            · refine lv_lload_n hx hb dX4_fault_52 rfl (lv_at hl 3 rfl) ?_
              refine lv_lload hx hb dX4_fault_53 (lv_at hl 4 rfl) ?_
              refine W.lcmp hx hb dX4_fault_55 ?_
              refine z_lif_le (tgt := 61) hx hb dX4_fault_56 (by decide) ⟨by omega, by omega⟩ ⟨by omega, by omega⟩ (fun c_6 => ?_) (fun c_6 => ?_)
              · refine lv_iload hx hb dX4_fault_61 (lv_at hl 5 rfl) ?_
                refine lv_iconst (v := zI 0) hx hb dX4_fault_63 rfl ?_
                refine z_ldc (z := 100000) hx hb hown (hts (.constant RX4 65 (100000)) (by decide +kernel)) (by decide) dX4_fault_64 ?_
                refine c_callS (As := [.int (zI t), .int (zI 0), .int (zI 100000)]) (rest := []) ⟨hx, hb, hml, hown, hts⟩ (m_X4_within l D cI cJ A ad al S E rt hal t 0 100000 ⟨by omega, by omega⟩ ⟨by decide, by decide⟩ ⟨by decide, by decide⟩) (va_cwS 3 hts gX4_fault_X4_within rfl rfl rfl (by decide +kernel) ⟨Nat.le_of_ble_eq_true rfl, Nat.le_of_ble_eq_true rfl⟩) hK hG hS hA rfl hl.1 rfl (Nat.le_of_ble_eq_true rfl) dX4_fault_66 ⟨Nat.zero_le _, Nat.zero_le _⟩ (fun t9 H locs ht9 hB hS => ?_)
                have hG := hB.1; rw [ht9] at hG; clear hB ht9
                refine z_ifb_ne (tgt := 74) hx hb dX4_fault_69 (by decide) (fun c_7 => ?_) (fun c_7 => ?_)
                · refine lv_aload hx hb dX4_fault_74 (lv_at hl 0 rfl) ?_
                  obtain ⟨x, hx9⟩ : ∃ x, x = 4 * i + (S 15 i 0).toNat := ⟨_, rfl⟩
                  have h15 : 0 ≤ S 15 i 0 ∧ S 15 i 0 < 4 := by omega
                  have h6x : ¬ al 6 x := by
                    rw [hal0]; intro q
                    have q2 : ((x % 4 : Nat) : Int) < S 15 (x / 4) 0 := q.2
                    rw [show x / 4 = i by omega] at q2
                    omega
                  have hr6 : nr (cC S E rt) al 6 x := by rw [hal0]; exact nr_fault S E rt i x hx9 h15 hI
                  refine c_new hx hb hts 6 x hinX1 tyX1 tyX1_ok hown (hts (.classLink RX4 66 RX1) (by decide +kernel)) (hts (.instantiable RX1 4) (by decide +kernel)) (hts (.initialized RX1) (by decide +kernel)) hK hG hS hA (by decide) rfl dfX1 (Nat.le_of_ble_eq_true rfl) (Nat.le_of_ble_eq_true rfl) (C' := cn (cC S E rt) 6 x) h6x hr6 (fun k j hk => cn_o (fun q => h6x (by rw [← q.1, ← q.2]; exact hk))) (fun f _ => cn_s _ _ _ f) dX4_fault_76 (fun q9 H hG hS => ?_)
                  generalize had8 : adU ad 6 x q9 = ad8 at hG ⊢
                  have hq8 : ∀ k8 i8, ¬ (k8 = 6 ∧ i8 = x) → ad8 k8 i8 = ad k8 i8 := fun k8 i8 h => by rw [← had8]; exact adU_ne h
                  have r9 : ad8 2 i = ad 2 i := hq8 2 i (fun q => absurd q.1 (by decide))
                  have r10 : ad8 0 0 = ad 0 0 := hq8 0 0 (fun q => absurd q.1 (by decide))
                  replace hl : lv_has ls 8 [(7, .ref (ad8 2 i)), (0, .ref (ad8 0 0)), (1, .int (zI z)), (2, .long (zL ab)), (4, .long (zL be)), (6, .int (zI t))] := by rw [r9, r10]; exact hl
                  refine W.eq (g2 := F0 m0 79 ls [.ref (ad8 6 x), .ref (ad8 2 i)]) (by rw [r9]; try rfl) ?_
                  refine lv_dup hx hb dX4_fault_79 rfl ?_
                  refine lv_lload_n hx hb dX4_fault_80 rfl (lv_at hl 3 rfl) ?_
                  refine lv_lload hx hb dX4_fault_81 (lv_at hl 4 rfl) ?_
                  refine lv_iload hx hb dX4_fault_83 (lv_at hl 5 rfl) ?_
                  refine c_callI (As := [.long (zL ab), .long (zL be), .int (zI t)]) (rest := [.ref (ad8 6 x), .ref (ad8 2 i)]) ⟨hx, hb, hml, hown, hts⟩ (ad8 6 x) (m_X1_init l D cI cJ A ad8 (alU al 6 x) (cn (cC S E rt) 6 x) x ab be t (Or.inr ⟨rfl, rfl⟩)) (cwI 3 hts gX4_fault_X1_init rfl rfl rfl (hts (.initialized RX1) (by decide +kernel)) (hts (.methodLink RX4 68 yX1_init) (by decide +kernel)) (hts (.instanceMethod yX1_init) (by decide +kernel)) rfl (by decide +kernel) ⟨Nat.le_of_ble_eq_true rfl, Nat.le_of_ble_eq_true rfl⟩) (⟨gCU_blind, fun U hU hW => ⟨rfl, by rw [hU]; exact hG, va_K.moved hW.alike hK, fun q hq => hA q (Nat.le_trans hS.1 (by rw [← hU]; exact hq))⟩⟩) hS rfl hl.1 rfl (Nat.le_of_ble_eq_true rfl) dX4_fault_85 ⟨Nat.le_of_ble_eq_true rfl, Nat.le_of_ble_eq_true rfl⟩ (fun t9 H locs ht9 hB hS => ?_)
                  have hG := hB.1; rw [ht9] at hG; clear hB ht9
                  by_cases h150 : S 15 i 0 = 0
                  · have h7 : (su (su (su (cn (cC S E rt) 6 x) 6 x 0 ab) 6 x 1 be) 6 x 2 t) 2 i 7 = -1 := by simp [su, cn, cC, cM, h150]
                    refine c_callV (As := [.ref (ad8 6 x)]) (rest := []) (Cn := RX2) (T := TX2) ⟨hx, hb, hml, hown, hts⟩ 2 i (m_X2_addFaultN l D cI cJ A ad8 (alU al 6 x) (su (su (su (cn (cC S E rt) 6 x) 6 x 0 ab) 6 x 1 be) 6 x 2 t) i x (S 15 i 0) (Or.inl (hal 2 i (show (i : Int) < S 5 0 0 by omega))) rfl h7) (cwV 1 hts gX4_fault_X2_addFault rfl rfl rfl (by decide +kernel) ⟨Nat.le_of_ble_eq_true rfl, Nat.le_of_ble_eq_true rfl⟩) (Or.inl (hal 2 i (show (i : Int) < S 5 0 0 by omega))) (by decide) rfl hK hG hS hA rfl hl.1 rfl (Nat.le_of_ble_eq_true rfl) dX4_fault_88 ⟨Nat.le_of_ble_eq_true rfl, Nat.le_of_ble_eq_true rfl⟩ (fun t9 H locs ht9 hB hS => ?_)
                    have hG := hB.1; rw [ht9] at hG; clear hB ht9
                    refine lv_iconst (v := zI 1) hx hb dX4_fault_91 rfl ?_
                    have v9 : 1 = bZ (S 25 0 0 ≤ 0 ∧ (0 ≤ z ∧ z < S 5 0 0) ∧ (1 ≤ be ∧ be ≤ 1000000) ∧ (0 ≤ ab ∧ ab ≤ be) ∧ (0 ≤ t ∧ t ≤ 100000) ∧ ¬ S 15 z.toNat 0 = 4) := by exact (bZ_t (by rw [show z.toNat = i by omega]; omega)).symm
                    refine W.eq (congrArg (fun z => F0 m0 92 ls [.int (zI z)]) v9) ?_
                    have e8 : rfaultS S z ab be t = (su (su (su (su S 12 i (S 15 i 0).toNat ab) 13 i (S 15 i 0).toNat be) 14 i (S 15 i 0).toNat t) 15 i 0 (S 15 i 0 + 1)) := by unfold rfaultS; rw [if_pos (by rw [show z.toNat = i by omega]; omega), show z.toNat = i by omega]
                    rw [e8]
                    rw [hal0] at hG
                    have hcl := cl_faultN S E rt i x ab be t hx9 h15 hi h150
                    have hG := gC_eqf (gC_al hG (fun k j h => (hcl k j h).1)) (fun k j h => (hcl k j h).2)
                    exact W.zret hx hb hr (zI_bool _) (fun t ht hW => ⟨rfl, ⟨ad8, hq8 0 0 (fun q => absurd q.1 (by decide)), ⟨by rw [ht]; exact hG, va_K.moved hW.alike hK, fun q hq => hA q (Nat.le_trans hS.1 (by rw [← ht]; exact hq))⟩⟩, hS.F ht⟩) hS.2.2 dX4_fault_92
                  · obtain ⟨y, hy9⟩ : ∃ y : Nat, x = y + 1 := ⟨x - 1, by omega⟩
                    have h7 : (su (su (su (cn (cC S E rt) 6 x) 6 x 0 ab) 6 x 1 be) 6 x 2 t) 2 i 7 = (y : Int) := by simp [su, cn, cC, cM, h150]; omega
                    have h6y : al 6 y := by rw [hal0]; exact ⟨by rw [show y / 4 = i by omega]; exact hi, by rw [show y / 4 = i by omega]; omega⟩
                    refine c_callV (As := [.ref (ad8 6 x)]) (rest := []) (Cn := RX2) (T := TX2) ⟨hx, hb, hml, hown, hts⟩ 2 i (m_X2_addFaultR l D cI cJ A ad8 (alU al 6 x) (su (su (su (cn (cC S E rt) 6 x) 6 x 0 ab) 6 x 1 be) 6 x 2 t) i x y (S 15 i 0) (Or.inl (hal 2 i (show (i : Int) < S 5 0 0 by omega))) rfl h7 (Or.inl h6y)) (cwV 1 hts gX4_fault_X2_addFault rfl rfl rfl (by decide +kernel) ⟨Nat.le_of_ble_eq_true rfl, Nat.le_of_ble_eq_true rfl⟩) (Or.inl (hal 2 i (show (i : Int) < S 5 0 0 by omega))) (by decide) rfl hK hG hS hA rfl hl.1 rfl (Nat.le_of_ble_eq_true rfl) dX4_fault_88 ⟨Nat.le_of_ble_eq_true rfl, Nat.le_of_ble_eq_true rfl⟩ (fun t9 H locs ht9 hB hS => ?_)
                    have hG := hB.1; rw [ht9] at hG; clear hB ht9
                    refine lv_iconst (v := zI 1) hx hb dX4_fault_91 rfl ?_
                    have v9 : 1 = bZ (S 25 0 0 ≤ 0 ∧ (0 ≤ z ∧ z < S 5 0 0) ∧ (1 ≤ be ∧ be ≤ 1000000) ∧ (0 ≤ ab ∧ ab ≤ be) ∧ (0 ≤ t ∧ t ≤ 100000) ∧ ¬ S 15 z.toNat 0 = 4) := by exact (bZ_t (by rw [show z.toNat = i by omega]; omega)).symm
                    refine W.eq (congrArg (fun z => F0 m0 92 ls [.int (zI z)]) v9) ?_
                    have e8 : rfaultS S z ab be t = (su (su (su (su S 12 i (S 15 i 0).toNat ab) 13 i (S 15 i 0).toNat be) 14 i (S 15 i 0).toNat t) 15 i 0 (S 15 i 0 + 1)) := by unfold rfaultS; rw [if_pos (by rw [show z.toNat = i by omega]; omega), show z.toNat = i by omega]
                    rw [e8]
                    rw [hal0] at hG
                    have hcl := cl_faultR S E rt i x y ab be t hx9 h15 hi ⟨hy9, h150⟩
                    have hG := gC_eqf (gC_al hG (fun k j h => (hcl k j h).1)) (fun k j h => (hcl k j h).2)
                    exact W.zret hx hb hr (zI_bool _) (fun t ht hW => ⟨rfl, ⟨ad8, hq8 0 0 (fun q => absurd q.1 (by decide)), ⟨by rw [ht]; exact hG, va_K.moved hW.alike hK, fun q hq => hA q (Nat.le_trans hS.1 (by rw [← ht]; exact hq))⟩⟩, hS.F ht⟩) hS.2.2 dX4_fault_92
                · refine lv_iconst (v := zI 0) hx hb dX4_fault_72 rfl ?_
                  have v9 : 0 = bZ (S 25 0 0 ≤ 0 ∧ (0 ≤ z ∧ z < S 5 0 0) ∧ (1 ≤ be ∧ be ≤ 1000000) ∧ (0 ≤ ab ∧ ab ≤ be) ∧ (0 ≤ t ∧ t ≤ 100000) ∧ ¬ S 15 z.toNat 0 = 4) := by refine (bZ_f ?_).symm; first | omega | (rw [show z.toNat = i by omega]; omega)
                  refine W.eq (congrArg (fun z => F0 m0 73 ls [.int (zI z)]) v9) ?_
                  have e8 : rfaultS S z ab be t = S := by unfold rfaultS; rw [if_neg (by first | omega | (rw [show z.toNat = i by omega]; omega))]
                  rw [e8]
                  rw [hal0] at hG
                  refine W.widen (Nat.le_of_ble_eq_true rfl) (Nat.le_of_ble_eq_true rfl) (k := 1) (n := 4) ?_
                  exact W.zret hx hb hr (zI_bool _) (fun t ht hW => ⟨rfl, ⟨ad, rfl, ⟨by rw [ht]; exact hG, va_K.moved hW.alike hK, fun q hq => hA q (Nat.le_trans hS.1 (by rw [← ht]; exact hq))⟩⟩, hS.F ht⟩) hS.2.2 dX4_fault_73
              · refine lv_iconst (v := zI 0) hx hb dX4_fault_59 rfl ?_
                have v9 : 0 = bZ (S 25 0 0 ≤ 0 ∧ (0 ≤ z ∧ z < S 5 0 0) ∧ (1 ≤ be ∧ be ≤ 1000000) ∧ (0 ≤ ab ∧ ab ≤ be) ∧ (0 ≤ t ∧ t ≤ 100000) ∧ ¬ S 15 z.toNat 0 = 4) := by refine (bZ_f ?_).symm; first | omega | (rw [show z.toNat = i by omega]; omega)
                refine W.eq (congrArg (fun z => F0 m0 60 ls [.int (zI z)]) v9) ?_
                have e8 : rfaultS S z ab be t = S := by unfold rfaultS; rw [if_neg (by first | omega | (rw [show z.toNat = i by omega]; omega))]
                rw [e8]
                rw [hal0] at hG
                refine W.widen (Nat.le_of_ble_eq_true rfl) (Nat.le_of_ble_eq_true rfl) (k := 1) (n := 4) ?_
                exact W.zret hx hb hr (zI_bool _) (fun t ht hW => ⟨rfl, ⟨ad, rfl, ⟨by rw [ht]; exact hG, va_K.moved hW.alike hK, fun q hq => hA q (Nat.le_trans hS.1 (by rw [← ht]; exact hq))⟩⟩, hS.F ht⟩) hS.2.2 dX4_fault_60
      · refine lv_iconst (v := zI 0) hx hb dX4_fault_28 rfl ?_
        have v9 : 0 = bZ (S 25 0 0 ≤ 0 ∧ (0 ≤ z ∧ z < S 5 0 0) ∧ (1 ≤ be ∧ be ≤ 1000000) ∧ (0 ≤ ab ∧ ab ≤ be) ∧ (0 ≤ t ∧ t ≤ 100000) ∧ ¬ S 15 z.toNat 0 = 4) := by refine (bZ_f ?_).symm; first | omega | (rw [show z.toNat = i by omega]; omega)
        refine W.eq (congrArg (fun z => F0 m0 29 ls [.int (zI z)]) v9) ?_
        have e8 : rfaultS S z ab be t = S := by unfold rfaultS; rw [if_neg (by first | omega | (rw [show z.toNat = i by omega]; omega))]
        rw [e8]
        rw [hal0] at hG
        refine W.widen (Nat.le_of_ble_eq_true rfl) (Nat.le_of_ble_eq_true rfl) (k := 1) (n := 4) ?_
        exact W.zret hx hb hr (zI_bool _) (fun t ht hW => ⟨rfl, ⟨ad, rfl, ⟨by rw [ht]; exact hG, va_K.moved hW.alike hK, fun q hq => hA q (Nat.le_trans hS.1 (by rw [← ht]; exact hq))⟩⟩, hS.F ht⟩) hS.2.2 dX4_fault_29
  · refine W.eq (g2 := F0 m0 5 ls [.null]) (by rw [if_neg hz9, rf_n (by decide)]; try rfl) ?_
    refine lv_astoreN (lv' := [(7, .null), (0, .ref (ad 0 0)), (1, .int (zI z)), (2, .long (zL ab)), (4, .long (zL be)), (6, .int (zI t))]) hx hb dX4_fault_5 hl (by decide) rfl (fun ls hl => ?_)
    refine lv_aload_n hx hb dX4_fault_7 rfl (lv_at hl 1 rfl) ?_
    refine c_getV (Cn := RX4) (T := TX4) hx hb hts 0 hinX4 hown hK hG 0 1 (hal 0 0 rfl) (by decide) rfl (by decide) (hts (.fieldLink RX4 27 "LineEvents" "now" "I") (by decide +kernel)) (cV_I (z := S 25 0 0) rfl (rfl)) dX4_fault_8 ?_
    refine z_if_gt (tgt := 28) hx hb dX4_fault_11 (by decide) ⟨by omega, by omega⟩ (fun c_11 => ?_) (fun c_11 => ?_)
    · refine lv_iconst (v := zI 0) hx hb dX4_fault_28 rfl ?_
      have v9 : 0 = bZ (S 25 0 0 ≤ 0 ∧ (0 ≤ z ∧ z < S 5 0 0) ∧ (1 ≤ be ∧ be ≤ 1000000) ∧ (0 ≤ ab ∧ ab ≤ be) ∧ (0 ≤ t ∧ t ≤ 100000) ∧ ¬ S 15 z.toNat 0 = 4) := by refine (bZ_f ?_).symm; first | omega | (rw [show z.toNat = i by omega]; omega)
      refine W.eq (congrArg (fun z => F0 m0 29 ls [.int (zI z)]) v9) ?_
      have e8 : rfaultS S z ab be t = S := by unfold rfaultS; rw [if_neg (by first | omega | (rw [show z.toNat = i by omega]; omega))]
      rw [e8]
      rw [hal0] at hG
      refine W.widen (Nat.le_of_ble_eq_true rfl) (Nat.le_of_ble_eq_true rfl) (k := 1) (n := 4) ?_
      exact W.zret hx hb hr (zI_bool _) (fun t ht hW => ⟨rfl, ⟨ad, rfl, ⟨by rw [ht]; exact hG, va_K.moved hW.alike hK, fun q hq => hA q (Nat.le_trans hS.1 (by rw [← ht]; exact hq))⟩⟩, hS.F ht⟩) hS.2.2 dX4_fault_29
    · refine lv_aloadN hx hb dX4_fault_14 (lv_at hl 0 rfl) ?_
      refine lv_ifnullN (tgt := 28) hx hb dX4_fault_16 (by decide) ?_
      refine lv_iconst (v := zI 0) hx hb dX4_fault_28 rfl ?_
      have v9 : 0 = bZ (S 25 0 0 ≤ 0 ∧ (0 ≤ z ∧ z < S 5 0 0) ∧ (1 ≤ be ∧ be ≤ 1000000) ∧ (0 ≤ ab ∧ ab ≤ be) ∧ (0 ≤ t ∧ t ≤ 100000) ∧ ¬ S 15 z.toNat 0 = 4) := by refine (bZ_f ?_).symm; first | omega | (rw [show z.toNat = i by omega]; omega)
      refine W.eq (congrArg (fun z => F0 m0 29 ls [.int (zI z)]) v9) ?_
      have e8 : rfaultS S z ab be t = S := by unfold rfaultS; rw [if_neg (by first | omega | (rw [show z.toNat = i by omega]; omega))]
      rw [e8]
      rw [hal0] at hG
      refine W.widen (Nat.le_of_ble_eq_true rfl) (Nat.le_of_ble_eq_true rfl) (k := 1) (n := 4) ?_
      exact W.zret hx hb hr (zI_bool _) (fun t ht hW => ⟨rfl, ⟨ad, rfl, ⟨by rw [ht]; exact hG, va_K.moved hW.alike hK, fun q hq => hA q (Nat.le_trans hS.1 (by rw [← ht]; exact hq))⟩⟩, hS.F ht⟩) hS.2.2 dX4_fault_29
