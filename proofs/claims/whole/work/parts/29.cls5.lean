set_option maxHeartbeats 4000000 in
set_option maxRecDepth 100000 in
theorem m_X3_holds (l : Launch) (D : va_G) (cI cJ : ClassId) (A : Nat → Prop) (ad : Nat → Nat → Nat) (al : Nat → Nat → Prop) (S : sT) (E : Nat → Int) (rt : Int) (hal : alS al S) (i m : Nat) (z : Int) (hI : Inv S) (hi : (i : Int) < S 20 0 0) (hm : (m : Int) < 12) (hz : zB z) : Met l yX3_holds wsX3_holds ({ frames := 0, cells := 0, slots := 0, locals := 0 }) (va_Pc [.ref (ad 7 i), .int (zI (m : Int)), .int (zI z)] (gCU D cI cJ A ad al (cC S E rt))) (gO (some (.int (zI (bZ ((S 16 i 0 = -1 ∨ S 16 i 0 = (m : Int)) ∧ S 17 i 0 ≤ z ∧ z < S 18 i 0))))) (gCU D cI cJ A ad al (cC S E rt)) A) 0 0 A := by
  refine Met.ofW (cc := cX3_holds) (maxL := 3) (ret := (some .boolean)) (by decide) rfl ?_
  intro p e s m0 args below meth c s₁ B hml hv
  obtain ⟨rfl, hG, hK, hA⟩ := hv
  have hx := B.exec
  have hb := B.bytes
  have hr := B.returns
  have hts := atoms_spec (ws := wsX3_holds) B.pre
  have hown : s.vm.findClass RX3 = some m0.cls := findClass_of_methodNamed B.named
  have hlocks := B.notSynchronized
  have hinX3 : ∀ w ∈ wsX30, w ∈ wsX3_holds := by decide +kernel
  have hS : va_S A s.heap s.heap [] := va_S.rf
  have hl := lv_entry ([.ref (ad 7 i), .int (zI (m : Int)), .int (zI z)]) (n := 3) (Nat.le_of_ble_eq_true rfl)
  rw [lg_entry_eq]
  generalize (lg_sl ([.ref (ad 7 i), .int (zI (m : Int)), .int (zI z)]) ++ List.replicate (3 - (lg_sl ([.ref (ad 7 i), .int (zI (m : Int)), .int (zI z)])).length) Slot.unset).toArray = ls at hl ⊢
  replace hl : lv_has ls 3 [(0, .ref (ad 7 i)), (1, .int (zI (m : Int))), (2, .int (zI z))] := hl
  obtain ⟨hI5, hI25, hI20, hIM, hIL, hIR⟩ := id hI
  obtain ⟨hr1, hr2, hr3, hr4⟩ := id (hIR i hi)
  refine lv_aload_n hx hb dX3_holds_0 rfl (lv_at hl 0 rfl) ?_
  refine c_getV (Cn := RX3) (T := TX3) hx hb hts 7 hinX3 hown hK hG i 0 (hal 7 i (show (i : Int) < S 20 0 0 by omega)) (by decide) rfl (by decide) (hts (.fieldLink RX3 9 "LineEvents$Row" "machine" "I") (by decide +kernel)) (cV_I (z := S 16 i 0) rfl (rfl)) dX3_holds_1 ?_
  refine lv_iconst (v := zI (-1)) hx hb dX3_holds_4 rfl ?_
  refine z_icmp_eq (tgt := 16) hx hb dX3_holds_5 (by decide) ⟨by omega, by omega⟩ ⟨by decide, by decide⟩ (fun c_1 => ?_) (fun c_1 => ?_)
  · refine lv_iload_n hx hb dX3_holds_16 rfl (lv_at hl 2 rfl) ?_
    refine lv_aload_n hx hb dX3_holds_17 rfl (lv_at hl 0 rfl) ?_
    refine c_getV (Cn := RX3) (T := TX3) hx hb hts 7 hinX3 hown hK hG i 1 (hal 7 i (show (i : Int) < S 20 0 0 by omega)) (by decide) rfl (by decide) (hts (.fieldLink RX3 15 "LineEvents$Row" "from" "I") (by decide +kernel)) (cV_I (z := S 17 i 0) rfl (rfl)) dX3_holds_18 ?_
    refine z_icmp_lt (tgt := 36) hx hb dX3_holds_21 (by decide) ⟨by omega, by omega⟩ ⟨by omega, by omega⟩ (fun c_2 => ?_) (fun c_2 => ?_)
    · refine lv_iconst (v := zI 0) hx hb dX3_holds_36 rfl ?_
      have v9 : 0 = bZ ((S 16 i 0 = -1 ∨ S 16 i 0 = (m : Int)) ∧ S 17 i 0 ≤ z ∧ z < S 18 i 0) := by first | (exfalso; omega) | exact (bZ_t (by omega)).symm | exact (bZ_f (by omega)).symm
      refine W.eq (congrArg (fun z => F0 m0 37 ls [.int (zI z)]) v9) ?_
      exact W.zret hx hb hr (zI_bool _) (fun t ht hW => ⟨rfl, ⟨by rw [ht]; exact hG, va_K.moved hW.alike hK, fun q hq => hA q (Nat.le_trans hS.1 (by rw [← ht]; exact hq))⟩, hS.F ht⟩) hS.2.2 dX3_holds_37
    · refine lv_iload_n hx hb dX3_holds_24 rfl (lv_at hl 2 rfl) ?_
      refine lv_aload_n hx hb dX3_holds_25 rfl (lv_at hl 0 rfl) ?_
      refine c_getV (Cn := RX3) (T := TX3) hx hb hts 7 hinX3 hown hK hG i 2 (hal 7 i (show (i : Int) < S 20 0 0 by omega)) (by decide) rfl (by decide) (hts (.fieldLink RX3 18 "LineEvents$Row" "to" "I") (by decide +kernel)) (cV_I (z := S 18 i 0) rfl (rfl)) dX3_holds_26 ?_
      refine z_icmp_ge (tgt := 36) hx hb dX3_holds_29 (by decide) ⟨by omega, by omega⟩ ⟨by omega, by omega⟩ (fun c_3 => ?_) (fun c_3 => ?_)
      · refine lv_iconst (v := zI 0) hx hb dX3_holds_36 rfl ?_
        have v9 : 0 = bZ ((S 16 i 0 = -1 ∨ S 16 i 0 = (m : Int)) ∧ S 17 i 0 ≤ z ∧ z < S 18 i 0) := by first | (exfalso; omega) | exact (bZ_t (by omega)).symm | exact (bZ_f (by omega)).symm
        refine W.eq (congrArg (fun z => F0 m0 37 ls [.int (zI z)]) v9) ?_
        exact W.zret hx hb hr (zI_bool _) (fun t ht hW => ⟨rfl, ⟨by rw [ht]; exact hG, va_K.moved hW.alike hK, fun q hq => hA q (Nat.le_trans hS.1 (by rw [← ht]; exact hq))⟩, hS.F ht⟩) hS.2.2 dX3_holds_37
      · refine lv_iconst (v := zI 1) hx hb dX3_holds_32 rfl ?_
        refine lv_goto (tgt := 37) hx hb dX3_holds_33 (by decide) ?_
        have v9 : 1 = bZ ((S 16 i 0 = -1 ∨ S 16 i 0 = (m : Int)) ∧ S 17 i 0 ≤ z ∧ z < S 18 i 0) := by first | (exfalso; omega) | exact (bZ_t (by omega)).symm | exact (bZ_f (by omega)).symm
        refine W.eq (congrArg (fun z => F0 m0 37 ls [.int (zI z)]) v9) ?_
        exact W.zret hx hb hr (zI_bool _) (fun t ht hW => ⟨rfl, ⟨by rw [ht]; exact hG, va_K.moved hW.alike hK, fun q hq => hA q (Nat.le_trans hS.1 (by rw [← ht]; exact hq))⟩, hS.F ht⟩) hS.2.2 dX3_holds_37
  · refine lv_aload_n hx hb dX3_holds_8 rfl (lv_at hl 0 rfl) ?_
    refine c_getV (Cn := RX3) (T := TX3) hx hb hts 7 hinX3 hown hK hG i 0 (hal 7 i (show (i : Int) < S 20 0 0 by omega)) (by decide) rfl (by decide) (hts (.fieldLink RX3 9 "LineEvents$Row" "machine" "I") (by decide +kernel)) (cV_I (z := S 16 i 0) rfl (rfl)) dX3_holds_9 ?_
    refine lv_iload_n hx hb dX3_holds_12 rfl (lv_at hl 1 rfl) ?_
    refine z_icmp_ne (tgt := 36) hx hb dX3_holds_13 (by decide) ⟨by omega, by omega⟩ ⟨by omega, by omega⟩ (fun c_4 => ?_) (fun c_4 => ?_)
    · refine lv_iconst (v := zI 0) hx hb dX3_holds_36 rfl ?_
      have v9 : 0 = bZ ((S 16 i 0 = -1 ∨ S 16 i 0 = (m : Int)) ∧ S 17 i 0 ≤ z ∧ z < S 18 i 0) := by first | (exfalso; omega) | exact (bZ_t (by omega)).symm | exact (bZ_f (by omega)).symm
      refine W.eq (congrArg (fun z => F0 m0 37 ls [.int (zI z)]) v9) ?_
      exact W.zret hx hb hr (zI_bool _) (fun t ht hW => ⟨rfl, ⟨by rw [ht]; exact hG, va_K.moved hW.alike hK, fun q hq => hA q (Nat.le_trans hS.1 (by rw [← ht]; exact hq))⟩, hS.F ht⟩) hS.2.2 dX3_holds_37
    · refine lv_iload_n hx hb dX3_holds_16 rfl (lv_at hl 2 rfl) ?_
      refine lv_aload_n hx hb dX3_holds_17 rfl (lv_at hl 0 rfl) ?_
      refine c_getV (Cn := RX3) (T := TX3) hx hb hts 7 hinX3 hown hK hG i 1 (hal 7 i (show (i : Int) < S 20 0 0 by omega)) (by decide) rfl (by decide) (hts (.fieldLink RX3 15 "LineEvents$Row" "from" "I") (by decide +kernel)) (cV_I (z := S 17 i 0) rfl (rfl)) dX3_holds_18 ?_
      refine z_icmp_lt (tgt := 36) hx hb dX3_holds_21 (by decide) ⟨by omega, by omega⟩ ⟨by omega, by omega⟩ (fun c_5 => ?_) (fun c_5 => ?_)
      · refine lv_iconst (v := zI 0) hx hb dX3_holds_36 rfl ?_
        have v9 : 0 = bZ ((S 16 i 0 = -1 ∨ S 16 i 0 = (m : Int)) ∧ S 17 i 0 ≤ z ∧ z < S 18 i 0) := by first | (exfalso; omega) | exact (bZ_t (by omega)).symm | exact (bZ_f (by omega)).symm
        refine W.eq (congrArg (fun z => F0 m0 37 ls [.int (zI z)]) v9) ?_
        exact W.zret hx hb hr (zI_bool _) (fun t ht hW => ⟨rfl, ⟨by rw [ht]; exact hG, va_K.moved hW.alike hK, fun q hq => hA q (Nat.le_trans hS.1 (by rw [← ht]; exact hq))⟩, hS.F ht⟩) hS.2.2 dX3_holds_37
      · refine lv_iload_n hx hb dX3_holds_24 rfl (lv_at hl 2 rfl) ?_
        refine lv_aload_n hx hb dX3_holds_25 rfl (lv_at hl 0 rfl) ?_
        refine c_getV (Cn := RX3) (T := TX3) hx hb hts 7 hinX3 hown hK hG i 2 (hal 7 i (show (i : Int) < S 20 0 0 by omega)) (by decide) rfl (by decide) (hts (.fieldLink RX3 18 "LineEvents$Row" "to" "I") (by decide +kernel)) (cV_I (z := S 18 i 0) rfl (rfl)) dX3_holds_26 ?_
        refine z_icmp_ge (tgt := 36) hx hb dX3_holds_29 (by decide) ⟨by omega, by omega⟩ ⟨by omega, by omega⟩ (fun c_6 => ?_) (fun c_6 => ?_)
        · refine lv_iconst (v := zI 0) hx hb dX3_holds_36 rfl ?_
          have v9 : 0 = bZ ((S 16 i 0 = -1 ∨ S 16 i 0 = (m : Int)) ∧ S 17 i 0 ≤ z ∧ z < S 18 i 0) := by first | (exfalso; omega) | exact (bZ_t (by omega)).symm | exact (bZ_f (by omega)).symm
          refine W.eq (congrArg (fun z => F0 m0 37 ls [.int (zI z)]) v9) ?_
          exact W.zret hx hb hr (zI_bool _) (fun t ht hW => ⟨rfl, ⟨by rw [ht]; exact hG, va_K.moved hW.alike hK, fun q hq => hA q (Nat.le_trans hS.1 (by rw [← ht]; exact hq))⟩, hS.F ht⟩) hS.2.2 dX3_holds_37
        · refine lv_iconst (v := zI 1) hx hb dX3_holds_32 rfl ?_
          refine lv_goto (tgt := 37) hx hb dX3_holds_33 (by decide) ?_
          have v9 : 1 = bZ ((S 16 i 0 = -1 ∨ S 16 i 0 = (m : Int)) ∧ S 17 i 0 ≤ z ∧ z < S 18 i 0) := by first | (exfalso; omega) | exact (bZ_t (by omega)).symm | exact (bZ_f (by omega)).symm
          refine W.eq (congrArg (fun z => F0 m0 37 ls [.int (zI z)]) v9) ?_
          exact W.zret hx hb hr (zI_bool _) (fun t ht hW => ⟨rfl, ⟨by rw [ht]; exact hG, va_K.moved hW.alike hK, fun q hq => hA q (Nat.le_trans hS.1 (by rw [← ht]; exact hq))⟩, hS.F ht⟩) hS.2.2 dX3_holds_37
set_option maxHeartbeats 4000000 in
set_option maxRecDepth 100000 in
theorem m_X3_turnBehind (l : Launch) (D : va_G) (cI cJ : ClassId) (A : Nat → Prop) (ad : Nat → Nat → Nat) (al : Nat → Nat → Prop) (S : sT) (E : Nat → Int) (rt : Int) (hal : alS al S) (i : Nat) (hI : Inv S) (hi : (i : Int) < S 20 0 0) : Met l yX3_turnBehind wsX3_turnBehind ({ frames := 0, cells := 0, slots := 0, locals := 0 }) (va_Pc [.ref (ad 7 i), .int (zI (S 25 0 0))] (gCU D cI cJ A ad al (cC S E rt))) (gO (some (.int (zI (rturn S i)))) (gCU D cI cJ A ad al (cC S E rt)) A) 0 0 A := by
  refine Met.ofW (cc := cX3_turnBehind) (maxL := 2) (ret := (some .int)) (by decide) rfl ?_
  intro p e s m0 args below meth c s₁ B hml hv
  obtain ⟨rfl, hG, hK, hA⟩ := hv
  have hx := B.exec
  have hb := B.bytes
  have hr := B.returns
  have hts := atoms_spec (ws := wsX3_turnBehind) B.pre
  have hown : s.vm.findClass RX3 = some m0.cls := findClass_of_methodNamed B.named
  have hlocks := B.notSynchronized
  have hinX3 : ∀ w ∈ wsX30, w ∈ wsX3_turnBehind := by decide +kernel
  have hS : va_S A s.heap s.heap [] := va_S.rf
  have hl := lv_entry ([.ref (ad 7 i), .int (zI (S 25 0 0))]) (n := 2) (Nat.le_of_ble_eq_true rfl)
  rw [lg_entry_eq]
  generalize (lg_sl ([.ref (ad 7 i), .int (zI (S 25 0 0))]) ++ List.replicate (2 - (lg_sl ([.ref (ad 7 i), .int (zI (S 25 0 0))])).length) Slot.unset).toArray = ls at hl ⊢
  replace hl : lv_has ls 2 [(0, .ref (ad 7 i)), (1, .int (zI (S 25 0 0)))] := hl
  obtain ⟨hI5, hI25, hI20, hIM, hIL, hIR⟩ := id hI
  obtain ⟨hr1, hr2, hr3, hr4⟩ := id (hIR i hi)
  refine lv_iload_n hx hb dX3_turnBehind_0 rfl (lv_at hl 1 rfl) ?_
  refine lv_aload_n hx hb dX3_turnBehind_1 rfl (lv_at hl 0 rfl) ?_
  refine c_getV (Cn := RX3) (T := TX3) hx hb hts 7 hinX3 hown hK hG i 1 (hal 7 i (show (i : Int) < S 20 0 0 by omega)) (by decide) rfl (by decide) (hts (.fieldLink RX3 15 "LineEvents$Row" "from" "I") (by decide +kernel)) (cV_I (z := S 17 i 0) rfl (rfl)) dX3_turnBehind_2 ?_
  refine z_icmp_ge (tgt := 13) hx hb dX3_turnBehind_5 (by decide) ⟨by omega, by omega⟩ ⟨by omega, by omega⟩ (fun c_1 => ?_) (fun c_1 => ?_)
  · refine lv_iload_n hx hb dX3_turnBehind_13 rfl (lv_at hl 1 rfl) ?_
    refine lv_aload_n hx hb dX3_turnBehind_14 rfl (lv_at hl 0 rfl) ?_
    refine c_getV (Cn := RX3) (T := TX3) hx hb hts 7 hinX3 hown hK hG i 2 (hal 7 i (show (i : Int) < S 20 0 0 by omega)) (by decide) rfl (by decide) (hts (.fieldLink RX3 18 "LineEvents$Row" "to" "I") (by decide +kernel)) (cV_I (z := S 18 i 0) rfl (rfl)) dX3_turnBehind_15 ?_
    refine z_icmp_ge (tgt := 28) hx hb dX3_turnBehind_18 (by decide) ⟨by omega, by omega⟩ ⟨by omega, by omega⟩ (fun c_2 => ?_) (fun c_2 => ?_)
    · refine z_ldc (z := 1000000000) hx hb hown (hts (.constant RX3 28 (1000000000)) (by decide +kernel)) (by decide) dX3_turnBehind_28 ?_
      have v9 : 1000000000 = rturn S i := by unfold rturn; first | (exfalso; omega) | rw [if_pos (by omega)] | rw [if_neg (by omega), if_pos (by omega)] | rw [if_neg (by omega), if_neg (by omega)]
      refine W.eq (congrArg (fun z => F0 m0 30 ls [.int (zI z)]) v9) ?_
      exact W.iret hx hb hr (fun t ht hW => ⟨rfl, ⟨by rw [ht]; exact hG, va_K.moved hW.alike hK, fun q hq => hA q (Nat.le_trans hS.1 (by rw [← ht]; exact hq))⟩, hS.F ht⟩) hS.2.2 dX3_turnBehind_30
    · refine lv_aload_n hx hb dX3_turnBehind_21 rfl (lv_at hl 0 rfl) ?_
      refine c_getV (Cn := RX3) (T := TX3) hx hb hts 7 hinX3 hown hK hG i 2 (hal 7 i (show (i : Int) < S 20 0 0 by omega)) (by decide) rfl (by decide) (hts (.fieldLink RX3 18 "LineEvents$Row" "to" "I") (by decide +kernel)) (cV_I (z := S 18 i 0) rfl (rfl)) dX3_turnBehind_22 ?_
      refine lv_goto (tgt := 30) hx hb dX3_turnBehind_25 (by decide) ?_
      have v9 : S 18 i 0 = rturn S i := by unfold rturn; first | (exfalso; omega) | rw [if_pos (by omega)] | rw [if_neg (by omega), if_pos (by omega)] | rw [if_neg (by omega), if_neg (by omega)]
      refine W.eq (congrArg (fun z => F0 m0 30 ls [.int (zI z)]) v9) ?_
      exact W.iret hx hb hr (fun t ht hW => ⟨rfl, ⟨by rw [ht]; exact hG, va_K.moved hW.alike hK, fun q hq => hA q (Nat.le_trans hS.1 (by rw [← ht]; exact hq))⟩, hS.F ht⟩) hS.2.2 dX3_turnBehind_30
  · refine lv_aload_n hx hb dX3_turnBehind_8 rfl (lv_at hl 0 rfl) ?_
    refine c_getV (Cn := RX3) (T := TX3) hx hb hts 7 hinX3 hown hK hG i 1 (hal 7 i (show (i : Int) < S 20 0 0 by omega)) (by decide) rfl (by decide) (hts (.fieldLink RX3 15 "LineEvents$Row" "from" "I") (by decide +kernel)) (cV_I (z := S 17 i 0) rfl (rfl)) dX3_turnBehind_9 ?_
    have v9 : S 17 i 0 = rturn S i := by unfold rturn; first | (exfalso; omega) | rw [if_pos (by omega)] | rw [if_neg (by omega), if_pos (by omega)] | rw [if_neg (by omega), if_neg (by omega)]
    refine W.eq (congrArg (fun z => F0 m0 12 ls [.int (zI z)]) v9) ?_
    exact W.iret hx hb hr (fun t ht hW => ⟨rfl, ⟨by rw [ht]; exact hG, va_K.moved hW.alike hK, fun q hq => hA q (Nat.le_trans hS.1 (by rw [← ht]; exact hq))⟩, hS.F ht⟩) hS.2.2 dX3_turnBehind_12
set_option maxHeartbeats 4000000 in
set_option maxRecDepth 100000 in
theorem m_X4_rowCauseOf (l : Launch) (D : va_G) (cI cJ : ClassId) (A : Nat → Prop) (ad : Nat → Nat → Nat) (al : Nat → Nat → Prop) (S : sT) (E : Nat → Int) (rt : Int) (hal : alS al S) (m : Nat) (hI : Inv S) (hm : (m : Int) < 12) : Met l yX4_rowCauseOf wsX4_rowCauseOf ({ frames := 1, cells := 0, slots := 0, locals := 22 }) (va_Pc [.ref (ad 0 0), .int (zI (m : Int))] (gCU D cI cJ A ad al (cC S E rt))) (gO (some (.int (zI (rheld S m)))) (gCU D cI cJ A ad al (cC S E rt)) A) 0 0 A := by
  refine Met.ofW (cc := cX4_rowCauseOf) (maxL := 4) (ret := (some .int)) (by decide) rfl ?_
  intro p e s m0 args below meth c s₁ B hml hv
  obtain ⟨rfl, hG, hK, hA⟩ := hv
  have hx := B.exec
  have hb := B.bytes
  have hr := B.returns
  have hts := atoms_spec (ws := wsX4_rowCauseOf) B.pre
  have hown : s.vm.findClass RX4 = some m0.cls := findClass_of_methodNamed B.named
  have hlocks := B.notSynchronized
  have hinX3 : ∀ w ∈ wsX30, w ∈ wsX4_rowCauseOf := by decide +kernel
  have hinX4 : ∀ w ∈ wsX40, w ∈ wsX4_rowCauseOf := by decide +kernel
  have hS : va_S A s.heap s.heap [] := va_S.rf
  have hl := lv_entry ([.ref (ad 0 0), .int (zI (m : Int))]) (n := 4) (Nat.le_of_ble_eq_true rfl)
  rw [lg_entry_eq]
  generalize (lg_sl ([.ref (ad 0 0), .int (zI (m : Int))]) ++ List.replicate (4 - (lg_sl ([.ref (ad 0 0), .int (zI (m : Int))])).length) Slot.unset).toArray = ls at hl ⊢
  replace hl : lv_has ls 4 [(0, .ref (ad 0 0)), (1, .int (zI (m : Int)))] := hl
  obtain ⟨hI5, hI25, hI20, hIM, hIL, hIR⟩ := id hI
  rw [← crc_held m hI]
  refine lv_iconst (v := zI (-1)) hx hb dX4_rowCauseOf_0 rfl ?_
  refine lv_istore_n (lv' := [(2, .int (zI (-1))), (0, .ref (ad 0 0)), (1, .int (zI (m : Int)))]) hx hb dX4_rowCauseOf_1 rfl hl (by decide) rfl (fun ls hl => ?_)
  by_cases hn0 : S 20 0 0 = 0
  · refine lv_aload_n hx hb dX4_rowCauseOf_2 rfl (lv_at hl 1 rfl) ?_
    refine c_getV (Cn := RX4) (T := TX4) hx hb hts 0 hinX4 hown hK hG 0 4 (hal 0 0 rfl) (by decide) rfl (by decide) (hts (.fieldLink RX4 163 "LineEvents" "newestRow" "LLineEvents$Row;") (by decide +kernel)) (cV_N (t := 7) rfl (show S 20 0 0 - 1 < 0 by omega)) dX4_rowCauseOf_3 ?_
    refine lv_astore_nN (lv' := [(3, .null), (2, .int (zI (-1))), (0, .ref (ad 0 0)), (1, .int (zI (m : Int)))]) hx hb dX4_rowCauseOf_6 rfl hl (by decide) rfl (fun ls hl => ?_)
    refine lv_aload_nN hx hb dX4_rowCauseOf_7 rfl (lv_at hl 0 rfl) ?_
    refine lv_ifnullN (tgt := 36) hx hb dX4_rowCauseOf_8 (by decide) ?_
    refine lv_iload_n hx hb dX4_rowCauseOf_36 rfl (lv_at hl 1 rfl) ?_
    have v9 : (-1) = crc S m (S 20 0 0).toNat (-1) := by rw [hn0]; rfl
    refine W.eq (congrArg (fun z => F0 m0 37 ls [.int (zI z)]) v9) ?_
    exact W.iret hx hb hr (fun t ht hW => ⟨rfl, ⟨by rw [ht]; exact hG, va_K.moved hW.alike hK, fun q hq => hA q (Nat.le_trans hS.1 (by rw [← ht]; exact hq))⟩, hS.F ht⟩) hS.2.2 dX4_rowCauseOf_37
  · obtain ⟨i, hin9⟩ : ∃ i : Nat, (i : Int) + 1 = S 20 0 0 := ⟨(S 20 0 0 - 1).toNat, by omega⟩
    refine lv_aload_n hx hb dX4_rowCauseOf_2 rfl (lv_at hl 1 rfl) ?_
    refine c_getV (Cn := RX4) (T := TX4) hx hb hts 0 hinX4 hown hK hG 0 4 (hal 0 0 rfl) (by decide) rfl (by decide) (hts (.fieldLink RX4 163 "LineEvents" "newestRow" "LLineEvents$Row;") (by decide +kernel)) (cV_R (t := 7) (j := i) rfl (show S 20 0 0 - 1 = (i : Int) by omega)) dX4_rowCauseOf_3 ?_
    refine lv_astore_n (lv' := [(3, .ref (ad 7 i)), (2, .int (zI (-1))), (0, .ref (ad 0 0)), (1, .int (zI (m : Int)))]) hx hb dX4_rowCauseOf_6 rfl hl (by decide) rfl (fun ls hl => ?_)
    obtain ⟨q, hq0⟩ : ∃ z : Int, z = -1 := ⟨_, rfl⟩
    replace hl : lv_has ls 4 [(3, .ref (ad 7 i)), (2, .int (zI q)), (0, .ref (ad 0 0)), (1, .int (zI (m : Int)))] := by rw [hq0]; exact hl
    have hiS : (i : Int) < S 20 0 0 := by omega
    have hv9 : crc S m (i + 1) q = crc S m (S 20 0 0).toNat (-1) := by rw [hq0]; congr 1; omega
    clear hq0
    obtain ⟨H, hH0⟩ : ∃ H : Heap, H = s.heap := ⟨_, rfl⟩
    obtain ⟨locs, hL0⟩ : ∃ L : List Loc, L = [] := ⟨_, rfl⟩
    rw [← hH0, ← hL0]
    rw [← hH0] at hG
    replace hS : va_S A s.heap H locs := by rw [hH0, hL0]; exact hS
    clear hH0 hL0
    clear hin9
    induction i generalizing ls q H locs with
    | zero =>
      have hiS1 := hiS
      refine lv_aload_n hx hb dX4_rowCauseOf_7 rfl (lv_at hl 0 rfl) ?_
      refine lv_ifnull hx hb dX4_rowCauseOf_8 ?_
      refine lv_aload_n hx hb dX4_rowCauseOf_11 rfl (lv_at hl 0 rfl) ?_
      refine lv_iload_n hx hb dX4_rowCauseOf_12 rfl (lv_at hl 3 rfl) ?_
      refine lv_aload_n hx hb dX4_rowCauseOf_13 rfl (lv_at hl 2 rfl) ?_
      refine c_getV (Cn := RX4) (T := TX4) hx hb hts 0 hinX4 hown hK hG 0 1 (hal 0 0 rfl) (by decide) rfl (by decide) (hts (.fieldLink RX4 27 "LineEvents" "now" "I") (by decide +kernel)) (cV_I (z := S 25 0 0) rfl (rfl)) dX4_rowCauseOf_14 ?_
      refine c_callV (As := [.int (zI (m : Int)), .int (zI (S 25 0 0))]) (rest := []) (Cn := RX3) (T := TX3) ⟨hx, hb, hml, hown, hts⟩ 7 0 (m_X3_holds l D cI cJ A ad al S E rt hal 0 m (S 25 0 0) hI (by omega) hm ⟨by omega, by omega⟩) (cwV 2 hts gX4_rowCauseOf_X3_holds rfl rfl rfl (by decide +kernel) ⟨Nat.le_of_ble_eq_true rfl, Nat.le_of_ble_eq_true rfl⟩) (hal 7 0 (show ((0 : Nat) : Int) < S 20 0 0 by omega)) (by decide) rfl hK hG hS hA rfl hl.1 rfl (Nat.le_of_ble_eq_true rfl) dX4_rowCauseOf_17 ⟨Nat.zero_le _, Nat.zero_le _⟩ (fun t9 H locs ht9 hB hS => ?_)
      have hG := hB.1; rw [ht9] at hG; clear hB ht9
      refine z_ifb_eq (tgt := 28) hx hb dX4_rowCauseOf_20 (by decide) (fun c_1 => ?_) (fun c_1 => ?_)
      · refine lv_aload_n hx hb dX4_rowCauseOf_28 rfl (lv_at hl 0 rfl) ?_
        refine c_getV (Cn := RX3) (T := TX3) hx hb hts 7 hinX3 hown hK hG 0 4 (hal 7 0 (show ((0 : Nat) : Int) < S 20 0 0 by omega)) (by decide) rfl (by decide) (hts (.fieldLink RX4 180 "LineEvents$Row" "earlier" "LLineEvents$Row;") (by decide +kernel)) (cV_N (t := 7) rfl (neg_of (b := ((0 : Nat) : Int) - 1) (rfl) (by decide))) dX4_rowCauseOf_29 ?_
        refine lv_astore_nN (lv' := [(3, .null), (2, .int (zI q)), (0, .ref (ad 0 0)), (1, .int (zI (m : Int)))]) hx hb dX4_rowCauseOf_32 rfl hl (by decide) rfl (fun ls hl => ?_)
        refine lv_goto (tgt := 7) hx hb dX4_rowCauseOf_33 (by decide) ?_
        refine lv_aload_nN hx hb dX4_rowCauseOf_7 rfl (lv_at hl 0 rfl) ?_
        refine lv_ifnullN (tgt := 36) hx hb dX4_rowCauseOf_8 (by decide) ?_
        refine lv_iload_n hx hb dX4_rowCauseOf_36 rfl (lv_at hl 1 rfl) ?_
        have v9 : q = crc S m (S 20 0 0).toNat (-1) := by rw [← hv9, crc_s S m 0 q]; first | (rw [if_pos (by omega)]; rfl) | (rw [if_neg (by omega)]; rfl)
        refine W.eq (congrArg (fun z => F0 m0 37 ls [.int (zI z)]) v9) ?_
        exact W.iret hx hb hr (fun t ht hW => ⟨rfl, ⟨by rw [ht]; exact hG, va_K.moved hW.alike hK, fun q hq => hA q (Nat.le_trans hS.1 (by rw [← ht]; exact hq))⟩, hS.F ht⟩) hS.2.2 dX4_rowCauseOf_37
      · refine lv_aload_n hx hb dX4_rowCauseOf_23 rfl (lv_at hl 0 rfl) ?_
        refine c_getV (Cn := RX3) (T := TX3) hx hb hts 7 hinX3 hown hK hG 0 3 (hal 7 0 (show ((0 : Nat) : Int) < S 20 0 0 by omega)) (by decide) rfl (by decide) (hts (.fieldLink RX4 187 "LineEvents$Row" "cause" "I") (by decide +kernel)) (cV_I (z := S 19 0 0) rfl (rfl)) dX4_rowCauseOf_24 ?_
        refine lv_istore_n (lv' := [(2, .int (zI (S 19 0 0))), (3, .ref (ad 7 0)), (0, .ref (ad 0 0)), (1, .int (zI (m : Int)))]) hx hb dX4_rowCauseOf_27 rfl hl (by decide) rfl (fun ls hl => ?_)
        refine lv_aload_n hx hb dX4_rowCauseOf_28 rfl (lv_at hl 1 rfl) ?_
        refine c_getV (Cn := RX3) (T := TX3) hx hb hts 7 hinX3 hown hK hG 0 4 (hal 7 0 (show ((0 : Nat) : Int) < S 20 0 0 by omega)) (by decide) rfl (by decide) (hts (.fieldLink RX4 180 "LineEvents$Row" "earlier" "LLineEvents$Row;") (by decide +kernel)) (cV_N (t := 7) rfl (neg_of (b := ((0 : Nat) : Int) - 1) (rfl) (by decide))) dX4_rowCauseOf_29 ?_
        refine lv_astore_nN (lv' := [(3, .null), (2, .int (zI (S 19 0 0))), (0, .ref (ad 0 0)), (1, .int (zI (m : Int)))]) hx hb dX4_rowCauseOf_32 rfl hl (by decide) rfl (fun ls hl => ?_)
        refine lv_goto (tgt := 7) hx hb dX4_rowCauseOf_33 (by decide) ?_
        refine lv_aload_nN hx hb dX4_rowCauseOf_7 rfl (lv_at hl 0 rfl) ?_
        refine lv_ifnullN (tgt := 36) hx hb dX4_rowCauseOf_8 (by decide) ?_
        refine lv_iload_n hx hb dX4_rowCauseOf_36 rfl (lv_at hl 1 rfl) ?_
        have v9 : S 19 0 0 = crc S m (S 20 0 0).toNat (-1) := by rw [← hv9, crc_s S m 0 q]; first | (rw [if_pos (by omega)]; rfl) | (rw [if_neg (by omega)]; rfl)
        refine W.eq (congrArg (fun z => F0 m0 37 ls [.int (zI z)]) v9) ?_
        exact W.iret hx hb hr (fun t ht hW => ⟨rfl, ⟨by rw [ht]; exact hG, va_K.moved hW.alike hK, fun q hq => hA q (Nat.le_trans hS.1 (by rw [← ht]; exact hq))⟩, hS.F ht⟩) hS.2.2 dX4_rowCauseOf_37
    | succ i ih =>
      have hiS1 := hiS
      refine lv_aload_n hx hb dX4_rowCauseOf_7 rfl (lv_at hl 0 rfl) ?_
      refine lv_ifnull hx hb dX4_rowCauseOf_8 ?_
      refine lv_aload_n hx hb dX4_rowCauseOf_11 rfl (lv_at hl 0 rfl) ?_
      refine lv_iload_n hx hb dX4_rowCauseOf_12 rfl (lv_at hl 3 rfl) ?_
      refine lv_aload_n hx hb dX4_rowCauseOf_13 rfl (lv_at hl 2 rfl) ?_
      refine c_getV (Cn := RX4) (T := TX4) hx hb hts 0 hinX4 hown hK hG 0 1 (hal 0 0 rfl) (by decide) rfl (by decide) (hts (.fieldLink RX4 27 "LineEvents" "now" "I") (by decide +kernel)) (cV_I (z := S 25 0 0) rfl (rfl)) dX4_rowCauseOf_14 ?_
      refine c_callV (As := [.int (zI (m : Int)), .int (zI (S 25 0 0))]) (rest := []) (Cn := RX3) (T := TX3) ⟨hx, hb, hml, hown, hts⟩ 7 (i + 1) (m_X3_holds l D cI cJ A ad al S E rt hal (i + 1) m (S 25 0 0) hI (by omega) hm ⟨by omega, by omega⟩) (cwV 2 hts gX4_rowCauseOf_X3_holds rfl rfl rfl (by decide +kernel) ⟨Nat.le_of_ble_eq_true rfl, Nat.le_of_ble_eq_true rfl⟩) (hal 7 (i + 1) (show (((i + 1) : Nat) : Int) < S 20 0 0 by omega)) (by decide) rfl hK hG hS hA rfl hl.1 rfl (Nat.le_of_ble_eq_true rfl) dX4_rowCauseOf_17 ⟨Nat.zero_le _, Nat.zero_le _⟩ (fun t9 H locs ht9 hB hS => ?_)
      have hG := hB.1; rw [ht9] at hG; clear hB ht9
      refine z_ifb_eq (tgt := 28) hx hb dX4_rowCauseOf_20 (by decide) (fun c_2 => ?_) (fun c_2 => ?_)
      · refine lv_aload_n hx hb dX4_rowCauseOf_28 rfl (lv_at hl 0 rfl) ?_
        refine c_getV (Cn := RX3) (T := TX3) hx hb hts 7 hinX3 hown hK hG (i + 1) 4 (hal 7 (i + 1) (show (((i + 1) : Nat) : Int) < S 20 0 0 by omega)) (by decide) rfl (by decide) (hts (.fieldLink RX4 180 "LineEvents$Row" "earlier" "LLineEvents$Row;") (by decide +kernel)) (cV_R (t := 7) (j := i) rfl ((rfl).trans (show ((i + 1 : Nat) : Int) - 1 = (i : Int) by omega))) dX4_rowCauseOf_29 ?_
        refine lv_astore_n (lv' := [(3, .ref (ad 7 i)), (2, .int (zI q)), (0, .ref (ad 0 0)), (1, .int (zI (m : Int)))]) hx hb dX4_rowCauseOf_32 rfl hl (by decide) rfl (fun ls hl => ?_)
        refine lv_goto (tgt := 7) hx hb dX4_rowCauseOf_33 (by decide) ?_
        exact ih (ls := ls) (q := q) (H := H) (locs := locs) (hG := hG) (hS := hS) (hl := lv_sub hl [0, 1, 2, 3] rfl) (hiS := by omega) (hv9 := by rw [← hv9, crc_s S m (i + 1) q]; first | rw [if_pos (by omega)] | rw [if_neg (by omega)])
      · refine lv_aload_n hx hb dX4_rowCauseOf_23 rfl (lv_at hl 0 rfl) ?_
        refine c_getV (Cn := RX3) (T := TX3) hx hb hts 7 hinX3 hown hK hG (i + 1) 3 (hal 7 (i + 1) (show (((i + 1) : Nat) : Int) < S 20 0 0 by omega)) (by decide) rfl (by decide) (hts (.fieldLink RX4 187 "LineEvents$Row" "cause" "I") (by decide +kernel)) (cV_I (z := S 19 (i + 1) 0) rfl (rfl)) dX4_rowCauseOf_24 ?_
        refine lv_istore_n (lv' := [(2, .int (zI (S 19 (i + 1) 0))), (3, .ref (ad 7 (i + 1))), (0, .ref (ad 0 0)), (1, .int (zI (m : Int)))]) hx hb dX4_rowCauseOf_27 rfl hl (by decide) rfl (fun ls hl => ?_)
        refine lv_aload_n hx hb dX4_rowCauseOf_28 rfl (lv_at hl 1 rfl) ?_
        refine c_getV (Cn := RX3) (T := TX3) hx hb hts 7 hinX3 hown hK hG (i + 1) 4 (hal 7 (i + 1) (show (((i + 1) : Nat) : Int) < S 20 0 0 by omega)) (by decide) rfl (by decide) (hts (.fieldLink RX4 180 "LineEvents$Row" "earlier" "LLineEvents$Row;") (by decide +kernel)) (cV_R (t := 7) (j := i) rfl ((rfl).trans (show ((i + 1 : Nat) : Int) - 1 = (i : Int) by omega))) dX4_rowCauseOf_29 ?_
        refine lv_astore_n (lv' := [(3, .ref (ad 7 i)), (2, .int (zI (S 19 (i + 1) 0))), (0, .ref (ad 0 0)), (1, .int (zI (m : Int)))]) hx hb dX4_rowCauseOf_32 rfl hl (by decide) rfl (fun ls hl => ?_)
        refine lv_goto (tgt := 7) hx hb dX4_rowCauseOf_33 (by decide) ?_
        exact ih (ls := ls) (q := S 19 (i + 1) 0) (H := H) (locs := locs) (hG := hG) (hS := hS) (hl := lv_sub hl [0, 1, 2, 3] rfl) (hiS := by omega) (hv9 := by rw [← hv9, crc_s S m (i + 1) q]; first | rw [if_pos (by omega)] | rw [if_neg (by omega)])
theorem rready_B {S : sT} {b : Nat} (hI : Inv S) (hb : (b : Int) < S 5 0 0) : 0 ≤ rready S b ∧ rready S b ≤ 1000010001 := by
  have h1 := (hI.2.2.2.1 b (by have := hI.1; omega)).2.2.2
  have h2 := (hI.2.2.2.2.1 b hb).2.2.2.2
  have h9 := h1.2.2.2.1 (S 10 b 0).toNat (by have := h1.1; omega)
  have h25 := hI.2.1
  unfold rready
  split <;> omega
theorem cquiet_B {S : sT} {E : Nat → Int} {i : Nat} (hI : Inv S) (hi : (i : Int) < S 5 0 0) : -2000000000 ≤ cquiet S E i (S 25 0 0) ∧ cquiet S E i (S 25 0 0) ≤ 2000000000 := by
  have hM := hI.2.2.2.1 i (by have := hI.1; omega)
  have hL := hI.2.2.2.2.1 i hi
  have h25 := hI.2.1
  have h7 := hM.2.1
  have h8 := hM.2.2.1
  have h0 := hL.1
  have h1 := hL.2.1
  unfold cquiet
  split
  · omega
  · split
    · omega
    · split
      · split
        · omega
        · have := rready_B (b := (S 1 i 0).toNat) hI (by omega)
          omega
      · omega
set_option maxHeartbeats 4000000 in
set_option maxRecDepth 100000 in
theorem m_X4_quietTenths (l : Launch) (D : va_G) (cI cJ : ClassId) (A : Nat → Prop) (ad : Nat → Nat → Nat) (al : Nat → Nat → Prop) (S : sT) (E : Nat → Int) (rt : Int) (hal : alS al S)  (hI : Inv S) (hrt : 0 ≤ rt ∧ rt ≤ 1000000000) (hE : ∀ i : Nat, (i : Int) < S 5 0 0 → (-1 ≤ E i ∧ E i ≤ 9) ∧ (E i = -1 ∨ 1 ≤ E i)) : Met l yX4_quietTenths wsX4_quietTenths ({ frames := 3, cells := 0, slots := 0, locals := 62 }) (va_Pc [.ref (ad 0 0)] (gCU D cI cJ A ad al (cC S E rt))) (gO (some (.int (zI (cqa S E (S 25 0 0) (S 5 0 0).toNat (rt - S 25 0 0))))) (gCU D cI cJ A ad al (cC S E rt)) A) 0 0 A := by
  refine Met.ofW (cc := cX4_quietTenths) (maxL := 3) (ret := (some .int)) (by decide) rfl ?_
  intro p e s m0 args below meth c s₁ B hml hv
  obtain ⟨rfl, hG, hK, hA⟩ := hv
  have hx := B.exec
  have hb := B.bytes
  have hr := B.returns
  have hts := atoms_spec (ws := wsX4_quietTenths) B.pre
  have hown : s.vm.findClass RX4 = some m0.cls := findClass_of_methodNamed B.named
  have hlocks := B.notSynchronized
  have hinX0 : ∀ w ∈ wsX00, w ∈ wsX4_quietTenths := by decide +kernel
  have hinX2 : ∀ w ∈ wsX20, w ∈ wsX4_quietTenths := by decide +kernel
  have hinX4 : ∀ w ∈ wsX40, w ∈ wsX4_quietTenths := by decide +kernel
  have hS : va_S A s.heap s.heap [] := va_S.rf
  have hl := lv_entry ([.ref (ad 0 0)]) (n := 3) (Nat.le_of_ble_eq_true rfl)
  rw [lg_entry_eq]
  generalize (lg_sl ([.ref (ad 0 0)]) ++ List.replicate (3 - (lg_sl ([.ref (ad 0 0)])).length) Slot.unset).toArray = ls at hl ⊢
  replace hl : lv_has ls 3 [(0, .ref (ad 0 0))] := hl
  obtain ⟨hI5, hI25, hI20, hIM, hIL, hIR⟩ := id hI
  refine lv_aload_n hx hb dX4_quietTenths_0 rfl (lv_at hl 0 rfl) ?_
  refine c_getV (Cn := RX4) (T := TX4) hx hb hts 0 hinX4 hown hK hG 0 6 (hal 0 0 rfl) (by decide) rfl (by decide) (hts (.fieldLink RX4 83 "LineEvents" "rowsTurn" "I") (by decide +kernel)) (cV_I (z := rt) rfl (rfl)) dX4_quietTenths_1 ?_
  refine lv_aload_n hx hb dX4_quietTenths_4 rfl (lv_at hl 0 rfl) ?_
  refine c_getV (Cn := RX4) (T := TX4) hx hb hts 0 hinX4 hown hK hG 0 1 (hal 0 0 rfl) (by decide) rfl (by decide) (hts (.fieldLink RX4 27 "LineEvents" "now" "I") (by decide +kernel)) (cV_I (z := S 25 0 0) rfl (rfl)) dX4_quietTenths_5 ?_
  refine z_isub hx hb dX4_quietTenths_8 ?_
  refine lv_istore_n (lv' := [(1, .int (zI (rt - (S 25 0 0)))), (0, .ref (ad 0 0))]) hx hb dX4_quietTenths_9 rfl hl (by decide) rfl (fun ls hl => ?_)
  by_cases hn0 : S 5 0 0 = 0
  · refine lv_aload_n hx hb dX4_quietTenths_10 rfl (lv_at hl 1 rfl) ?_
    refine c_getV (Cn := RX4) (T := TX4) hx hb hts 0 hinX4 hown hK hG 0 2 (hal 0 0 rfl) (by decide) rfl (by decide) (hts (.fieldLink RX4 38 "LineEvents" "highest" "LLineEvents$Machine;") (by decide +kernel)) (cV_N (t := 2) rfl (show S 5 0 0 - 1 < 0 by omega)) dX4_quietTenths_11 ?_
    refine lv_astore_nN (lv' := [(2, .null), (1, .int (zI (rt - (S 25 0 0)))), (0, .ref (ad 0 0))]) hx hb dX4_quietTenths_14 rfl hl (by decide) rfl (fun ls hl => ?_)
    refine lv_aload_nN hx hb dX4_quietTenths_15 rfl (lv_at hl 0 rfl) ?_
    refine lv_ifnullN (tgt := 40) hx hb dX4_quietTenths_16 (by decide) ?_
    refine lv_iload_n hx hb dX4_quietTenths_40 rfl (lv_at hl 1 rfl) ?_
    have v9 : rt - (S 25 0 0) = cqa S E (S 25 0 0) (S 5 0 0).toNat (rt - S 25 0 0) := by rw [hn0]; rfl
    refine W.eq (congrArg (fun z => F0 m0 41 ls [.int (zI z)]) v9) ?_
    exact W.iret hx hb hr (fun t ht hW => ⟨rfl, ⟨by rw [ht]; exact hG, va_K.moved hW.alike hK, fun q hq => hA q (Nat.le_trans hS.1 (by rw [← ht]; exact hq))⟩, hS.F ht⟩) hS.2.2 dX4_quietTenths_41
  · obtain ⟨i, hin9⟩ : ∃ i : Nat, (i : Int) + 1 = S 5 0 0 := ⟨(S 5 0 0 - 1).toNat, by omega⟩
    refine lv_aload_n hx hb dX4_quietTenths_10 rfl (lv_at hl 1 rfl) ?_
    refine c_getV (Cn := RX4) (T := TX4) hx hb hts 0 hinX4 hown hK hG 0 2 (hal 0 0 rfl) (by decide) rfl (by decide) (hts (.fieldLink RX4 38 "LineEvents" "highest" "LLineEvents$Machine;") (by decide +kernel)) (cV_R (t := 2) (j := i) rfl (show S 5 0 0 - 1 = (i : Int) by omega)) dX4_quietTenths_11 ?_
    refine lv_astore_n (lv' := [(2, .ref (ad 2 i)), (1, .int (zI (rt - (S 25 0 0)))), (0, .ref (ad 0 0))]) hx hb dX4_quietTenths_14 rfl hl (by decide) rfl (fun ls hl => ?_)
    obtain ⟨q, hq0⟩ : ∃ z : Int, z = rt - S 25 0 0 := ⟨_, rfl⟩
    replace hl : lv_has ls 3 [(2, .ref (ad 2 i)), (1, .int (zI q)), (0, .ref (ad 0 0))] := by rw [hq0]; exact hl
    have hiS : (i : Int) < S 5 0 0 := by omega
    have hqB : -2000000000 ≤ q ∧ q ≤ 2000000000 := by omega
    have hv9 : cqa S E (S 25 0 0) (i + 1) q = cqa S E (S 25 0 0) (S 5 0 0).toNat (rt - S 25 0 0) := by rw [hq0]; congr 1; omega
    clear hq0
    obtain ⟨H, hH0⟩ : ∃ H : Heap, H = s.heap := ⟨_, rfl⟩
    obtain ⟨locs, hL0⟩ : ∃ L : List Loc, L = [] := ⟨_, rfl⟩
    rw [← hH0, ← hL0]
    rw [← hH0] at hG
    replace hS : va_S A s.heap H locs := by rw [hH0, hL0]; exact hS
    clear hH0 hL0
    clear hin9
    induction i generalizing ls q H locs with
    | zero =>
      have hiS1 := hiS
      refine lv_aload_n hx hb dX4_quietTenths_15 rfl (lv_at hl 0 rfl) ?_
      refine lv_ifnull hx hb dX4_quietTenths_16 ?_
      refine lv_iload_n hx hb dX4_quietTenths_19 rfl (lv_at hl 1 rfl) ?_
      refine lv_aload_n hx hb dX4_quietTenths_20 rfl (lv_at hl 0 rfl) ?_
      refine lv_aload_n hx hb dX4_quietTenths_21 rfl (lv_at hl 2 rfl) ?_
      refine c_getV (Cn := RX4) (T := TX4) hx hb hts 0 hinX4 hown hK hG 0 1 (hal 0 0 rfl) (by decide) rfl (by decide) (hts (.fieldLink RX4 27 "LineEvents" "now" "I") (by decide +kernel)) (cV_I (z := S 25 0 0) rfl (rfl)) dX4_quietTenths_22 ?_
      refine c_callV (As := [.int (zI (S 25 0 0))]) (rest := [.int (zI q)]) (Cn := RX2) (T := TX2) ⟨hx, hb, hml, hown, hts⟩ 2 0 (m_X2_quietTenths l D cI cJ A ad al S E rt hal 0 (S 25 0 0) hI (by omega) ⟨by omega, by omega⟩ (hE 0 (by omega)).1 (hE 0 (by omega)).2) (cwV 1 hts gX4_quietTenths_X2_quietTenths rfl rfl rfl (by decide +kernel) ⟨Nat.le_of_ble_eq_true rfl, Nat.le_of_ble_eq_true rfl⟩) (hal 2 0 (show ((0 : Nat) : Int) < S 5 0 0 by omega)) (by decide) rfl hK hG hS hA rfl hl.1 rfl (Nat.le_of_ble_eq_true rfl) dX4_quietTenths_25 ⟨Nat.zero_le _, Nat.zero_le _⟩ (fun t9 H locs ht9 hB hS => ?_)
      have hG := hB.1; rw [ht9] at hG; clear hB ht9
      have hcq := cquiet_B (S := S) (E := E) (i := 0) hI (by omega)
      refine z_min hx hb (by rw [hml]; exact hl.1.symm) hown (hts (.methodLink RX4 96 Lib.Math.min.name) (by decide +kernel)) (hts (.static Lib.Math.min.name) (by decide +kernel)) (hts (.initialized "java/lang/Math") (by decide +kernel)) (hts (.code Lib.Math.min.name Lib.Math.min.code 2 (some .int)) (by decide +kernel)) (Nat.le_of_ble_eq_true rfl) (Nat.le_of_ble_eq_true rfl) (Nat.zero_le _) (Nat.zero_le _) ⟨by omega, by omega⟩ ⟨by omega, by omega⟩ dX4_quietTenths_28 ?_
      refine lv_istore_n (lv' := [(1, .int (zI (min q (cquiet S E 0 (S 25 0 0))))), (2, .ref (ad 2 0)), (0, .ref (ad 0 0))]) hx hb dX4_quietTenths_31 rfl hl (by decide) rfl (fun ls hl => ?_)
      refine lv_aload_n hx hb dX4_quietTenths_32 rfl (lv_at hl 1 rfl) ?_
      refine c_getV (Cn := RX2) (T := TX2) hx hb hts 2 hinX2 hown hK hG 0 2 (hal 2 0 (show ((0 : Nat) : Int) < S 5 0 0 by omega)) (by decide) rfl (by decide) (hts (.fieldLink RX4 118 "LineEvents$Machine" "lower" "LLineEvents$Machine;") (by decide +kernel)) (cV_N (t := 2) rfl (neg_of (b := ((0 : Nat) : Int) - 1) (rfl) (by decide))) dX4_quietTenths_33 ?_
      refine lv_astore_nN (lv' := [(2, .null), (1, .int (zI (min q (cquiet S E 0 (S 25 0 0))))), (0, .ref (ad 0 0))]) hx hb dX4_quietTenths_36 rfl hl (by decide) rfl (fun ls hl => ?_)
      refine lv_goto (tgt := 15) hx hb dX4_quietTenths_37 (by decide) ?_
      refine lv_aload_nN hx hb dX4_quietTenths_15 rfl (lv_at hl 0 rfl) ?_
      refine lv_ifnullN (tgt := 40) hx hb dX4_quietTenths_16 (by decide) ?_
      refine lv_iload_n hx hb dX4_quietTenths_40 rfl (lv_at hl 1 rfl) ?_
      have v9 : min q (cquiet S E 0 (S 25 0 0)) = cqa S E (S 25 0 0) (S 5 0 0).toNat (rt - S 25 0 0) := by rw [← hv9]; rfl
      refine W.eq (congrArg (fun z => F0 m0 41 ls [.int (zI z)]) v9) ?_
      exact W.iret hx hb hr (fun t ht hW => ⟨rfl, ⟨by rw [ht]; exact hG, va_K.moved hW.alike hK, fun q hq => hA q (Nat.le_trans hS.1 (by rw [← ht]; exact hq))⟩, hS.F ht⟩) hS.2.2 dX4_quietTenths_41
    | succ i ih =>
      have hiS1 := hiS
      refine lv_aload_n hx hb dX4_quietTenths_15 rfl (lv_at hl 0 rfl) ?_
      refine lv_ifnull hx hb dX4_quietTenths_16 ?_
      refine lv_iload_n hx hb dX4_quietTenths_19 rfl (lv_at hl 1 rfl) ?_
      refine lv_aload_n hx hb dX4_quietTenths_20 rfl (lv_at hl 0 rfl) ?_
      refine lv_aload_n hx hb dX4_quietTenths_21 rfl (lv_at hl 2 rfl) ?_
      refine c_getV (Cn := RX4) (T := TX4) hx hb hts 0 hinX4 hown hK hG 0 1 (hal 0 0 rfl) (by decide) rfl (by decide) (hts (.fieldLink RX4 27 "LineEvents" "now" "I") (by decide +kernel)) (cV_I (z := S 25 0 0) rfl (rfl)) dX4_quietTenths_22 ?_
      refine c_callV (As := [.int (zI (S 25 0 0))]) (rest := [.int (zI q)]) (Cn := RX2) (T := TX2) ⟨hx, hb, hml, hown, hts⟩ 2 (i + 1) (m_X2_quietTenths l D cI cJ A ad al S E rt hal (i + 1) (S 25 0 0) hI (by omega) ⟨by omega, by omega⟩ (hE (i + 1) (by omega)).1 (hE (i + 1) (by omega)).2) (cwV 1 hts gX4_quietTenths_X2_quietTenths rfl rfl rfl (by decide +kernel) ⟨Nat.le_of_ble_eq_true rfl, Nat.le_of_ble_eq_true rfl⟩) (hal 2 (i + 1) (show (((i + 1) : Nat) : Int) < S 5 0 0 by omega)) (by decide) rfl hK hG hS hA rfl hl.1 rfl (Nat.le_of_ble_eq_true rfl) dX4_quietTenths_25 ⟨Nat.zero_le _, Nat.zero_le _⟩ (fun t9 H locs ht9 hB hS => ?_)
      have hG := hB.1; rw [ht9] at hG; clear hB ht9
      have hcq := cquiet_B (S := S) (E := E) (i := (i + 1)) hI (by omega)
      refine z_min hx hb (by rw [hml]; exact hl.1.symm) hown (hts (.methodLink RX4 96 Lib.Math.min.name) (by decide +kernel)) (hts (.static Lib.Math.min.name) (by decide +kernel)) (hts (.initialized "java/lang/Math") (by decide +kernel)) (hts (.code Lib.Math.min.name Lib.Math.min.code 2 (some .int)) (by decide +kernel)) (Nat.le_of_ble_eq_true rfl) (Nat.le_of_ble_eq_true rfl) (Nat.zero_le _) (Nat.zero_le _) ⟨by omega, by omega⟩ ⟨by omega, by omega⟩ dX4_quietTenths_28 ?_
      refine lv_istore_n (lv' := [(1, .int (zI (min q (cquiet S E (i + 1) (S 25 0 0))))), (2, .ref (ad 2 (i + 1))), (0, .ref (ad 0 0))]) hx hb dX4_quietTenths_31 rfl hl (by decide) rfl (fun ls hl => ?_)
      refine lv_aload_n hx hb dX4_quietTenths_32 rfl (lv_at hl 1 rfl) ?_
      refine c_getV (Cn := RX2) (T := TX2) hx hb hts 2 hinX2 hown hK hG (i + 1) 2 (hal 2 (i + 1) (show (((i + 1) : Nat) : Int) < S 5 0 0 by omega)) (by decide) rfl (by decide) (hts (.fieldLink RX4 118 "LineEvents$Machine" "lower" "LLineEvents$Machine;") (by decide +kernel)) (cV_R (t := 2) (j := i) rfl ((rfl).trans (show ((i + 1 : Nat) : Int) - 1 = (i : Int) by omega))) dX4_quietTenths_33 ?_
      refine lv_astore_n (lv' := [(2, .ref (ad 2 i)), (1, .int (zI (min q (cquiet S E (i + 1) (S 25 0 0))))), (0, .ref (ad 0 0))]) hx hb dX4_quietTenths_36 rfl hl (by decide) rfl (fun ls hl => ?_)
      refine lv_goto (tgt := 15) hx hb dX4_quietTenths_37 (by decide) ?_
      exact ih (ls := ls) (q := min q (cquiet S E (i + 1) (S 25 0 0))) (H := H) (locs := locs) (hG := hG) (hS := hS) (hl := lv_sub hl [0, 1, 2] rfl) (hiS := by omega) (hqB := by omega) (hv9 := by rw [← hv9]; rfl)
theorem cc_work {S : sT} {E : Nat → Int} {i : Nat} {z : Int} (h : ccause S E i z = 0) (hE : E i = -1 ∨ 1 ≤ E i) : S 7 i 0 < S 0 i 0 := by
  unfold ccause at h
  split at h
  · split at h
    · omega
    · split at h
      · omega
      · split at h
        · assumption
        · omega
  · omega
theorem spend_I {S : sT} {i : Nat} {c t : Int} (hI : Inv S) (hi : i < 12) (h7 : c = 0 → S 7 i 0 + t ≤ 1000010001) (ht : 0 ≤ t) : Inv (cspend S i c t) := by
  have h := (hI.2.2.2.1 i hi).2.1
  unfold cspend
  split
  · rename_i hc
    have := h7 hc
    exact Inv_7 (show Inv (su S 21 i c.toNat _) from hI) (by show 0 ≤ S 7 i 0 + t ∧ S 7 i 0 + t ≤ 1000010001; omega)
  · exact hI
set_option maxHeartbeats 4000000 in
set_option maxRecDepth 100000 in
theorem m_X4_passTime (l : Launch) (D : va_G) (cI cJ : ClassId) (A : Nat → Prop) (ad : Nat → Nat → Nat) (al : Nat → Nat → Prop) (S : sT) (E : Nat → Int) (rt : Int) (hal : alS al S) (t : Int) (hI : Inv S) (ht0 : 0 ≤ t ∧ t ≤ 100000) (hE : ∀ i : Nat, (i : Int) < S 5 0 0 → (-1 ≤ E i ∧ E i ≤ 9) ∧ (E i = -1 ∨ 1 ≤ E i)) (hW : ∀ i : Nat, (i : Int) < S 5 0 0 → ¬ S 6 i 0 = 0 → S 7 i 0 ≤ S 0 i 0) : Met l yX4_passTime wsX4_passTime ({ frames := 1, cells := 0, slots := 0, locals := 22 }) (va_Pc [.ref (ad 0 0), .int (zI t)] (gCU D cI cJ A ad al (cC S E rt))) (gO none (gCU D cI cJ A ad al (cC (su (cpass E (S 25 0 0) t (S 5 0 0).toNat S) 25 0 0 (S 25 0 0 + t)) E rt)) A) 0 0 A := by
  refine Met.ofW (cc := cX4_passTime) (maxL := 3) (ret := none) (by decide) rfl ?_
  intro p e s m0 args below meth c s₁ B hml hv
  obtain ⟨rfl, hG, hK, hA⟩ := hv
  have hx := B.exec
  have hb := B.bytes
  have hr := B.returns
  have hts := atoms_spec (ws := wsX4_passTime) B.pre
  have hown : s.vm.findClass RX4 = some m0.cls := findClass_of_methodNamed B.named
  have hlocks := B.notSynchronized
  have hinX2 : ∀ w ∈ wsX20, w ∈ wsX4_passTime := by decide +kernel
  have hinX4 : ∀ w ∈ wsX40, w ∈ wsX4_passTime := by decide +kernel
  have hS : va_S A s.heap s.heap [] := va_S.rf
  have hl := lv_entry ([.ref (ad 0 0), .int (zI t)]) (n := 3) (Nat.le_of_ble_eq_true rfl)
  rw [lg_entry_eq]
  generalize (lg_sl ([.ref (ad 0 0), .int (zI t)]) ++ List.replicate (3 - (lg_sl ([.ref (ad 0 0), .int (zI t)])).length) Slot.unset).toArray = ls at hl ⊢
  replace hl : lv_has ls 3 [(0, .ref (ad 0 0)), (1, .int (zI t))] := hl
  obtain ⟨hI5, hI25, hI20, hIM, hIL, hIR⟩ := id hI
  by_cases hn0 : S 5 0 0 = 0
  · refine lv_aload_n hx hb dX4_passTime_0 rfl (lv_at hl 0 rfl) ?_
    refine c_getV (Cn := RX4) (T := TX4) hx hb hts 0 hinX4 hown hK hG 0 2 (hal 0 0 rfl) (by decide) rfl (by decide) (hts (.fieldLink RX4 38 "LineEvents" "highest" "LLineEvents$Machine;") (by decide +kernel)) (cV_N (t := 2) rfl (show S 5 0 0 - 1 < 0 by omega)) dX4_passTime_1 ?_
    refine lv_astore_nN (lv' := [(2, .null), (0, .ref (ad 0 0)), (1, .int (zI t))]) hx hb dX4_passTime_4 rfl hl (by decide) rfl (fun ls hl => ?_)
    refine lv_aload_nN hx hb dX4_passTime_5 rfl (lv_at hl 0 rfl) ?_
    refine lv_ifnullN (tgt := 30) hx hb dX4_passTime_6 (by decide) ?_
    refine lv_aload_n hx hb dX4_passTime_30 rfl (lv_at hl 1 rfl) ?_
    refine lv_dup hx hb dX4_passTime_31 rfl ?_
    refine c_getV (Cn := RX4) (T := TX4) hx hb hts 0 hinX4 hown hK hG 0 1 (hal 0 0 rfl) (by decide) rfl (by decide) (hts (.fieldLink RX4 27 "LineEvents" "now" "I") (by decide +kernel)) (cV_I (z := S 25 0 0) rfl (rfl)) dX4_passTime_32 ?_
    refine lv_iload_n hx hb dX4_passTime_35 rfl (lv_at hl 2 rfl) ?_
    refine z_iadd hx hb dX4_passTime_36 ?_
    refine c_putV (Cn := RX4) (T := TX4) (z := (S 25 0 0) + t) hx hb hts 0 hinX4 tyX4 tyX4_ok nmX4 hown hK hG hS 0 1 (hal 0 0 rfl) (by decide) rfl (by decide) (hts (.fieldLink RX4 27 "LineEvents" "now" "I") (by decide +kernel)) (Or.inl rfl) (cV_I (z := (S 25 0 0) + t) rfl rfl) rfl rfl dX4_passTime_37 (fun H locs hG hS => ?_)
    have e9 : su (cC S E rt) 0 0 1 ((S 25 0 0) + t) = cC (su (cpass E (S 25 0 0) t (S 5 0 0).toNat S) 25 0 0 (S 25 0 0 + t)) E rt := by rw [hn0]; show _ = cC (su S 25 0 0 (S 25 0 0 + t)) E rt; rw [cC_25]
    rw [e9] at hG
    exact W.vret hx hb hr (fun t ht hW => ⟨rfl, ⟨by rw [ht]; exact hG, va_K.moved hW.alike hK, fun q hq => hA q (Nat.le_trans hS.1 (by rw [← ht]; exact hq))⟩, hS.F ht⟩) hS.2.2 dX4_passTime_40
  · obtain ⟨i, hin9⟩ : ∃ i : Nat, (i : Int) + 1 = S 5 0 0 := ⟨(S 5 0 0 - 1).toNat, by omega⟩
    refine lv_aload_n hx hb dX4_passTime_0 rfl (lv_at hl 0 rfl) ?_
    refine c_getV (Cn := RX4) (T := TX4) hx hb hts 0 hinX4 hown hK hG 0 2 (hal 0 0 rfl) (by decide) rfl (by decide) (hts (.fieldLink RX4 38 "LineEvents" "highest" "LLineEvents$Machine;") (by decide +kernel)) (cV_R (t := 2) (j := i) rfl (show S 5 0 0 - 1 = (i : Int) by omega)) dX4_passTime_1 ?_
    refine lv_astore_n (lv' := [(2, .ref (ad 2 i)), (0, .ref (ad 0 0)), (1, .int (zI t))]) hx hb dX4_passTime_4 rfl hl (by decide) rfl (fun ls hl => ?_)
    obtain ⟨U, hU0⟩ : ∃ U, U = S := ⟨S, rfl⟩
    have hUI : Inv U := by rw [hU0]; exact hI
    have hU5 : U 5 0 0 = S 5 0 0 := by rw [hU0]
    have hU25 : U 25 0 0 = S 25 0 0 := by rw [hU0]
    have halU : alS al U := by rw [hU0]; exact hal
    have hU7 : ∀ j : Nat, j ≤ i → U 7 j 0 = S 7 j 0 ∧ U 6 j 0 = S 6 j 0 ∧ U 8 j 0 = S 8 j 0 ∧ U 0 j 0 = S 0 j 0 := by rw [hU0]; exact fun _ _ => ⟨rfl, rfl, rfl, rfl⟩
    have hiS : (i : Int) < S 5 0 0 := by omega
    have hv9 : cpass E (S 25 0 0) t (i + 1) U = cpass E (S 25 0 0) t (S 5 0 0).toNat S := by rw [hU0]; congr 1; omega
    rw [← hU0] at hG
    clear hU0
    obtain ⟨H, hH0⟩ : ∃ H : Heap, H = s.heap := ⟨_, rfl⟩
    obtain ⟨locs, hL0⟩ : ∃ L : List Loc, L = [] := ⟨_, rfl⟩
    rw [← hH0, ← hL0]
    rw [← hH0] at hG
    replace hS : va_S A s.heap H locs := by rw [hH0, hL0]; exact hS
    clear hH0 hL0
    clear hin9
    induction i generalizing ls U H locs with
    | zero =>
      obtain ⟨hI5, hI25, hI20, hIM, hIL, hIR⟩ := id hUI
      have hUi : ((0 : Nat) : Int) < U 5 0 0 := by omega
      refine lv_aload_n hx hb dX4_passTime_5 rfl (lv_at hl 0 rfl) ?_
      refine lv_ifnull hx hb dX4_passTime_6 ?_
      refine lv_aload_n hx hb dX4_passTime_9 rfl (lv_at hl 0 rfl) ?_
      refine lv_aload_n hx hb dX4_passTime_10 rfl (lv_at hl 0 rfl) ?_
      refine lv_aload_n hx hb dX4_passTime_11 rfl (lv_at hl 1 rfl) ?_
      refine c_getV (Cn := RX4) (T := TX4) hx hb hts 0 hinX4 hown hK hG 0 1 (hal 0 0 rfl) (by decide) rfl (by decide) (hts (.fieldLink RX4 27 "LineEvents" "now" "I") (by decide +kernel)) (cV_I (z := U 25 0 0) rfl (rfl)) dX4_passTime_12 ?_
      refine c_callV (As := [.int (zI (U 25 0 0))]) (rest := [.ref (ad 2 0)]) (Cn := RX2) (T := TX2) ⟨hx, hb, hml, hown, hts⟩ 2 0 (m_X2_causeAt l D cI cJ A ad al U E rt halU 0 (U 25 0 0) hUI hUi ⟨by omega, by omega⟩ (hE 0 hiS).1) (cwV 1 hts gX4_passTime_X2_causeAt rfl rfl rfl (by decide +kernel) ⟨Nat.le_of_ble_eq_true rfl, Nat.le_of_ble_eq_true rfl⟩) (hal 2 0 (show ((0 : Nat) : Int) < S 5 0 0 by omega)) (by decide) rfl hK hG hS hA rfl hl.1 rfl (Nat.le_of_ble_eq_true rfl) dX4_passTime_15 ⟨Nat.zero_le _, Nat.zero_le _⟩ (fun t9 H locs ht9 hB hS => ?_)
      have hG := hB.1; rw [ht9] at hG; clear hB ht9
      have hcB : 0 ≤ ccause U E 0 (U 25 0 0) ∧ ccause U E 0 (U 25 0 0) < 12 := by have := hE 0 hiS; unfold ccause; repeat (split <;> try omega)
      refine lv_iload_n hx hb dX4_passTime_18 rfl (lv_at hl 2 rfl) ?_
      refine c_callV (As := [.int (zI (ccause U E 0 (U 25 0 0))), .int (zI t)]) (rest := []) (Cn := RX2) (T := TX2) ⟨hx, hb, hml, hown, hts⟩ 2 0 (m_X2_spend l D cI cJ A ad al U E rt halU 0 (ccause U E 0 (U 25 0 0)) t hUI hUi ⟨by omega, by omega⟩ ⟨by omega, by omega⟩ (fun q => ccause_0 q (hE 0 hiS).2)) (cwV 2 hts gX4_passTime_X2_spend rfl rfl rfl (by decide +kernel) ⟨Nat.le_of_ble_eq_true rfl, Nat.le_of_ble_eq_true rfl⟩) (hal 2 0 (show ((0 : Nat) : Int) < S 5 0 0 by omega)) (by decide) rfl hK hG hS hA rfl hl.1 rfl (Nat.le_of_ble_eq_true rfl) dX4_passTime_19 ⟨Nat.zero_le _, Nat.zero_le _⟩ (fun t9 H locs ht9 hB hS => ?_)
      have hG := hB.1; rw [ht9] at hG; clear hB ht9
      have hsI := spend_A (S := U) (i := 0) (c := ccause U E 0 (U 25 0 0)) (t := t)
      refine lv_aload_n hx hb dX4_passTime_22 rfl (lv_at hl 0 rfl) ?_
      refine c_getV (Cn := RX2) (T := TX2) hx hb hts 2 hinX2 hown hK hG 0 2 (hal 2 0 (show ((0 : Nat) : Int) < S 5 0 0 by omega)) (by decide) rfl (by decide) (hts (.fieldLink RX4 118 "LineEvents$Machine" "lower" "LLineEvents$Machine;") (by decide +kernel)) (cV_N (t := 2) rfl (neg_of (b := ((0 : Nat) : Int) - 1) (rfl) (by decide))) dX4_passTime_23 ?_
      refine lv_astore_nN (lv' := [(2, .null), (0, .ref (ad 0 0)), (1, .int (zI t))]) hx hb dX4_passTime_26 rfl hl (by decide) rfl (fun ls hl => ?_)
      refine lv_goto (tgt := 5) hx hb dX4_passTime_27 (by decide) ?_
      refine lv_aload_nN hx hb dX4_passTime_5 rfl (lv_at hl 0 rfl) ?_
      refine lv_ifnullN (tgt := 30) hx hb dX4_passTime_6 (by decide) ?_
      refine lv_aload_n hx hb dX4_passTime_30 rfl (lv_at hl 1 rfl) ?_
      refine lv_dup hx hb dX4_passTime_31 rfl ?_
      refine c_getV (Cn := RX4) (T := TX4) hx hb hts 0 hinX4 hown hK hG 0 1 (hal 0 0 rfl) (by decide) rfl (by decide) (hts (.fieldLink RX4 27 "LineEvents" "now" "I") (by decide +kernel)) (cV_I (z := (cspend U 0 (ccause U E 0 (U 25 0 0)) t) 25 0 0) rfl (rfl)) dX4_passTime_32 ?_
      refine lv_iload_n hx hb dX4_passTime_35 rfl (lv_at hl 2 rfl) ?_
      refine z_iadd hx hb dX4_passTime_36 ?_
      refine c_putV (Cn := RX4) (T := TX4) (z := ((cspend U 0 (ccause U E 0 (U 25 0 0)) t) 25 0 0) + t) hx hb hts 0 hinX4 tyX4 tyX4_ok nmX4 hown hK hG hS 0 1 (hal 0 0 rfl) (by decide) rfl (by decide) (hts (.fieldLink RX4 27 "LineEvents" "now" "I") (by decide +kernel)) (Or.inl rfl) (cV_I (z := ((cspend U 0 (ccause U E 0 (U 25 0 0)) t) 25 0 0) + t) rfl rfl) rfl rfl dX4_passTime_37 (fun H locs hG hS => ?_)
      have e9 : su (cC (cspend U 0 (ccause U E 0 (U 25 0 0)) t) E rt) 0 0 1 (((cspend U 0 (ccause U E 0 (U 25 0 0)) t) 25 0 0) + t) = cC (su (cpass E (S 25 0 0) t (S 5 0 0).toNat S) 25 0 0 (S 25 0 0 + t)) E rt := by rw [← hv9]; show _ = cC (su (cspend U 0 (ccause U E 0 (S 25 0 0)) t) 25 0 0 (S 25 0 0 + t)) E rt; rw [cC_25, hsI 25 (by decide) (by decide) 0 0, hU25]
      rw [e9] at hG
      exact W.vret hx hb hr (fun t ht hW => ⟨rfl, ⟨by rw [ht]; exact hG, va_K.moved hW.alike hK, fun q hq => hA q (Nat.le_trans hS.1 (by rw [← ht]; exact hq))⟩, hS.F ht⟩) hS.2.2 dX4_passTime_40
    | succ i ih =>
      obtain ⟨hI5, hI25, hI20, hIM, hIL, hIR⟩ := id hUI
      have hUi : (((i + 1) : Nat) : Int) < U 5 0 0 := by omega
      refine lv_aload_n hx hb dX4_passTime_5 rfl (lv_at hl 0 rfl) ?_
      refine lv_ifnull hx hb dX4_passTime_6 ?_
      refine lv_aload_n hx hb dX4_passTime_9 rfl (lv_at hl 0 rfl) ?_
      refine lv_aload_n hx hb dX4_passTime_10 rfl (lv_at hl 0 rfl) ?_
      refine lv_aload_n hx hb dX4_passTime_11 rfl (lv_at hl 1 rfl) ?_
      refine c_getV (Cn := RX4) (T := TX4) hx hb hts 0 hinX4 hown hK hG 0 1 (hal 0 0 rfl) (by decide) rfl (by decide) (hts (.fieldLink RX4 27 "LineEvents" "now" "I") (by decide +kernel)) (cV_I (z := U 25 0 0) rfl (rfl)) dX4_passTime_12 ?_
      refine c_callV (As := [.int (zI (U 25 0 0))]) (rest := [.ref (ad 2 (i + 1))]) (Cn := RX2) (T := TX2) ⟨hx, hb, hml, hown, hts⟩ 2 (i + 1) (m_X2_causeAt l D cI cJ A ad al U E rt halU (i + 1) (U 25 0 0) hUI hUi ⟨by omega, by omega⟩ (hE (i + 1) hiS).1) (cwV 1 hts gX4_passTime_X2_causeAt rfl rfl rfl (by decide +kernel) ⟨Nat.le_of_ble_eq_true rfl, Nat.le_of_ble_eq_true rfl⟩) (hal 2 (i + 1) (show (((i + 1) : Nat) : Int) < S 5 0 0 by omega)) (by decide) rfl hK hG hS hA rfl hl.1 rfl (Nat.le_of_ble_eq_true rfl) dX4_passTime_15 ⟨Nat.zero_le _, Nat.zero_le _⟩ (fun t9 H locs ht9 hB hS => ?_)
      have hG := hB.1; rw [ht9] at hG; clear hB ht9
      have hcB : 0 ≤ ccause U E (i + 1) (U 25 0 0) ∧ ccause U E (i + 1) (U 25 0 0) < 12 := by have := hE (i + 1) hiS; unfold ccause; repeat (split <;> try omega)
      refine lv_iload_n hx hb dX4_passTime_18 rfl (lv_at hl 2 rfl) ?_
      refine c_callV (As := [.int (zI (ccause U E (i + 1) (U 25 0 0))), .int (zI t)]) (rest := []) (Cn := RX2) (T := TX2) ⟨hx, hb, hml, hown, hts⟩ 2 (i + 1) (m_X2_spend l D cI cJ A ad al U E rt halU (i + 1) (ccause U E (i + 1) (U 25 0 0)) t hUI hUi ⟨by omega, by omega⟩ ⟨by omega, by omega⟩ (fun q => ccause_0 q (hE (i + 1) hiS).2)) (cwV 2 hts gX4_passTime_X2_spend rfl rfl rfl (by decide +kernel) ⟨Nat.le_of_ble_eq_true rfl, Nat.le_of_ble_eq_true rfl⟩) (hal 2 (i + 1) (show (((i + 1) : Nat) : Int) < S 5 0 0 by omega)) (by decide) rfl hK hG hS hA rfl hl.1 rfl (Nat.le_of_ble_eq_true rfl) dX4_passTime_19 ⟨Nat.zero_le _, Nat.zero_le _⟩ (fun t9 H locs ht9 hB hS => ?_)
      have hG := hB.1; rw [ht9] at hG; clear hB ht9
      have hsI := spend_A (S := U) (i := (i + 1)) (c := ccause U E (i + 1) (U 25 0 0)) (t := t)
      refine lv_aload_n hx hb dX4_passTime_22 rfl (lv_at hl 0 rfl) ?_
      refine c_getV (Cn := RX2) (T := TX2) hx hb hts 2 hinX2 hown hK hG (i + 1) 2 (hal 2 (i + 1) (show (((i + 1) : Nat) : Int) < S 5 0 0 by omega)) (by decide) rfl (by decide) (hts (.fieldLink RX4 118 "LineEvents$Machine" "lower" "LLineEvents$Machine;") (by decide +kernel)) (cV_R (t := 2) (j := i) rfl ((rfl).trans (show ((i + 1 : Nat) : Int) - 1 = (i : Int) by omega))) dX4_passTime_23 ?_
      refine lv_astore_n (lv' := [(2, .ref (ad 2 i)), (0, .ref (ad 0 0)), (1, .int (zI t))]) hx hb dX4_passTime_26 rfl hl (by decide) rfl (fun ls hl => ?_)
      refine lv_goto (tgt := 5) hx hb dX4_passTime_27 (by decide) ?_
      exact ih (ls := ls) (U := cspend U (i + 1) (ccause U E (i + 1) (U 25 0 0)) t) (H := H) (locs := locs) (hG := hG) (hS := hS) (hUI := spend_I hUI (by omega) (fun q => by have h1 := hU7 (i + 1) (Nat.le_refl _); have h3 := cc_work (z := U 25 0 0) q (hE (i + 1) hiS).2; have h4 := (hIL (i + 1) hUi).1; omega) (by omega)) (hU5 := by rw [hsI 5 (by decide) (by decide)]; exact hU5) (hU25 := by rw [hsI 25 (by decide) (by decide)]; exact hU25) (halU := alS_eq (hsI 5 (by decide) (by decide) 0 0) (fun _ => hsI 15 (by decide) (by decide) _ 0) (hsI 20 (by decide) (by decide) 0 0) halU) (hU7 := fun j hj => by rw [spend_7 (by omega), hsI 6 (by decide) (by decide), hsI 8 (by decide) (by decide), hsI 0 (by decide) (by decide)]; exact hU7 j (by omega)) (hiS := by omega) (hv9 := by rw [← hv9, hU25]; rfl) (hl := lv_sub hl [0, 1, 2] rfl)
