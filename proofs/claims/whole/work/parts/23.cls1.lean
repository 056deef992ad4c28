set_option maxHeartbeats 4000000 in
set_option maxRecDepth 100000 in
theorem m_X0_hasRoom (l : Launch) (D : va_G) (cI cJ : ClassId) (A : Nat → Prop) (ad : Nat → Nat → Nat) (al : Nat → Nat → Prop) (S : sT) (E : Nat → Int) (rt : Int) (hal : alS al S) (i : Nat) (hI : Inv S) (hi : (i : Int) < S 5 0 0) : Met l yX0_hasRoom wsX0_hasRoom ({ frames := 0, cells := 0, slots := 0, locals := 0 }) (va_Pc [.ref (ad 3 i)] (gCU D cI cJ A ad al (cC S E rt))) (gO (some (.int (zI (bZ (S 11 i 0 < S 3 i 0))))) (gCU D cI cJ A ad al (cC S E rt)) A) 0 0 A := by
  refine Met.ofW (cc := cX0_hasRoom) (maxL := 1) (ret := (some .boolean)) (by decide) rfl ?_
  intro p e s m0 args below meth c s₁ B hml hv
  obtain ⟨rfl, hG, hK, hA⟩ := hv
  have hx := B.exec
  have hb := B.bytes
  have hr := B.returns
  have hts := atoms_spec (ws := wsX0_hasRoom) B.pre
  have hown : s.vm.findClass RX0 = some m0.cls := findClass_of_methodNamed B.named
  have hlocks := B.notSynchronized
  have hinX0 : ∀ w ∈ wsX00, w ∈ wsX0_hasRoom := by decide +kernel
  have hS : va_S A s.heap s.heap [] := va_S.rf
  have hl := lv_entry ([.ref (ad 3 i)]) (n := 1) (Nat.le_of_ble_eq_true rfl)
  rw [lg_entry_eq]
  generalize (lg_sl ([.ref (ad 3 i)]) ++ List.replicate (1 - (lg_sl ([.ref (ad 3 i)])).length) Slot.unset).toArray = ls at hl ⊢
  replace hl : lv_has ls 1 [(0, .ref (ad 3 i))] := hl
  obtain ⟨hI5, hI25, hI20, hIM, hIL, hIR⟩ := id hI
  obtain ⟨hM6, hM7, hM8, hM10, hM11, hM15, hM9, hMf⟩ := id (hIM i (by omega))
  obtain ⟨hL0, hL1, hL2, hL3, hL4⟩ := id (hIL i hi)
  refine lv_aload_n hx hb dX0_hasRoom_0 rfl (lv_at hl 0 rfl) ?_
  refine c_getV (Cn := RX0) (T := TX0) hx hb hts 3 hinX0 hown hK hG i 4 (hal 3 i (show (i : Int) < S 5 0 0 by omega)) (by decide) rfl (by decide) (hts (.fieldLink RX0 19 "LineEvents$Buffer" "count" "I") (by decide +kernel)) (cV_I (z := S 11 i 0) rfl (rfl)) dX0_hasRoom_1 ?_
  refine lv_aload_n hx hb dX0_hasRoom_4 rfl (lv_at hl 0 rfl) ?_
  refine c_getV (Cn := RX0) (T := TX0) hx hb hts 3 hinX0 hown hK hG i 0 (hal 3 i (show (i : Int) < S 5 0 0 by omega)) (by decide) rfl (by decide) (hts (.fieldLink RX0 9 "LineEvents$Buffer" "room" "I") (by decide +kernel)) (cV_I (z := S 3 i 0) rfl (rfl)) dX0_hasRoom_5 ?_
  refine z_icmp_ge (tgt := 15) hx hb dX0_hasRoom_8 (by decide) ⟨by omega, by omega⟩ ⟨by omega, by omega⟩ (fun c_1 => ?_) (fun c_1 => ?_)
  · refine lv_iconst (v := zI 0) hx hb dX0_hasRoom_15 rfl ?_
    have v9 : 0 = bZ (S 11 i 0 < S 3 i 0) := by first | (exfalso; omega) | exact (bZ_t (by omega)).symm | exact (bZ_f (by omega)).symm
    refine W.eq (congrArg (fun z => F0 m0 16 ls [.int (zI z)]) v9) ?_
    exact W.zret hx hb hr (zI_bool _) (fun t ht hW => ⟨rfl, ⟨by rw [ht]; exact hG, va_K.moved hW.alike hK, fun q hq => hA q (Nat.le_trans hS.1 (by rw [← ht]; exact hq))⟩, hS.F ht⟩) hS.2.2 dX0_hasRoom_16
  · refine lv_iconst (v := zI 1) hx hb dX0_hasRoom_11 rfl ?_
    refine lv_goto (tgt := 16) hx hb dX0_hasRoom_12 (by decide) ?_
    have v9 : 1 = bZ (S 11 i 0 < S 3 i 0) := by first | (exfalso; omega) | exact (bZ_t (by omega)).symm | exact (bZ_f (by omega)).symm
    refine W.eq (congrArg (fun z => F0 m0 16 ls [.int (zI z)]) v9) ?_
    exact W.zret hx hb hr (zI_bool _) (fun t ht hW => ⟨rfl, ⟨by rw [ht]; exact hG, va_K.moved hW.alike hK, fun q hq => hA q (Nat.le_trans hS.1 (by rw [← ht]; exact hq))⟩, hS.F ht⟩) hS.2.2 dX0_hasRoom_16
set_option maxHeartbeats 4000000 in
set_option maxRecDepth 100000 in
theorem m_X0_add (l : Launch) (D : va_G) (cI cJ : ClassId) (A : Nat → Prop) (ad : Nat → Nat → Nat) (al : Nat → Nat → Prop) (S : sT) (E : Nat → Int) (rt : Int) (hal : alS al S) (i : Nat) (z : Int) (hI : Inv S) (hi : (i : Int) < S 5 0 0) : Met l yX0_add wsX0_add ({ frames := 0, cells := 0, slots := 0, locals := 0 }) (va_Pc [.ref (ad 3 i), .int (zI z)] (gCU D cI cJ A ad al (cC S E rt))) (gO none (gCU D cI cJ A ad al (cC (radd S i z) E rt)) A) 0 0 A := by
  refine Met.ofW (cc := cX0_add) (maxL := 2) (ret := none) (by decide) rfl ?_
  intro p e s m0 args below meth c s₁ B hml hv
  obtain ⟨rfl, hG, hK, hA⟩ := hv
  have hx := B.exec
  have hb := B.bytes
  have hr := B.returns
  have hts := atoms_spec (ws := wsX0_add) B.pre
  have hown : s.vm.findClass RX0 = some m0.cls := findClass_of_methodNamed B.named
  have hlocks := B.notSynchronized
  have hinX0 : ∀ w ∈ wsX00, w ∈ wsX0_add := by decide +kernel
  have hS : va_S A s.heap s.heap [] := va_S.rf
  have hl := lv_entry ([.ref (ad 3 i), .int (zI z)]) (n := 2) (Nat.le_of_ble_eq_true rfl)
  rw [lg_entry_eq]
  generalize (lg_sl ([.ref (ad 3 i), .int (zI z)]) ++ List.replicate (2 - (lg_sl ([.ref (ad 3 i), .int (zI z)])).length) Slot.unset).toArray = ls at hl ⊢
  replace hl : lv_has ls 2 [(0, .ref (ad 3 i)), (1, .int (zI z))] := hl
  obtain ⟨hI5, hI25, hI20, hIM, hIL, hIR⟩ := id hI
  obtain ⟨hM6, hM7, hM8, hM10, hM11, hM15, hM9, hMf⟩ := id (hIM i (by omega))
  obtain ⟨hL0, hL1, hL2, hL3, hL4⟩ := id (hIL i hi)
  refine lv_aload_n hx hb dX0_add_0 rfl (lv_at hl 0 rfl) ?_
  refine c_getV (Cn := RX0) (T := TX0) hx hb hts 3 hinX0 hown hK hG i 2 (hal 3 i (show (i : Int) < S 5 0 0 by omega)) (by decide) rfl (by decide) (hts (.fieldLink RX0 15 "LineEvents$Buffer" "came" "[I") (by decide +kernel)) (cV_R (t := 4) (j := i) rfl (rfl)) dX0_add_1 ?_
  refine lv_aload_n hx hb dX0_add_4 rfl (lv_at hl 0 rfl) ?_
  refine c_getV (Cn := RX0) (T := TX0) hx hb hts 3 hinX0 hown hK hG i 3 (hal 3 i (show (i : Int) < S 5 0 0 by omega)) (by decide) rfl (by decide) (hts (.fieldLink RX0 22 "LineEvents$Buffer" "first" "I") (by decide +kernel)) (cV_I (z := S 10 i 0) rfl (rfl)) dX0_add_5 ?_
  refine lv_aload_n hx hb dX0_add_8 rfl (lv_at hl 0 rfl) ?_
  refine c_getV (Cn := RX0) (T := TX0) hx hb hts 3 hinX0 hown hK hG i 4 (hal 3 i (show (i : Int) < S 5 0 0 by omega)) (by decide) rfl (by decide) (hts (.fieldLink RX0 19 "LineEvents$Buffer" "count" "I") (by decide +kernel)) (cV_I (z := S 11 i 0) rfl (rfl)) dX0_add_9 ?_
  refine z_iadd hx hb dX0_add_12 ?_
  refine lv_sipush (v := zI 1000) hx hb dX0_add_13 (by decide) ?_
  refine z_irem hx hb dX0_add_16 ⟨by omega, by omega⟩ ⟨by omega, by omega⟩ ?_
  refine lv_iload_n hx hb dX0_add_17 rfl (lv_at hl 1 rfl) ?_
  refine c_iast hx hb hK hG hS 4 i 1000 (hal 4 i (show (i : Int) < S 5 0 0 by omega)) (fun _ => rfl) (z := ((S 10 i 0) + (S 11 i 0)) % 1000) (by omega) (by omega) (by decide) (w := z) dX0_add_18 (fun H locs hG hS => ?_)
  refine lv_aload_n hx hb dX0_add_19 rfl (lv_at hl 0 rfl) ?_
  refine lv_dup hx hb dX0_add_20 rfl ?_
  refine c_getV (Cn := RX0) (T := TX0) hx hb hts 3 hinX0 hown hK hG i 4 (hal 3 i (show (i : Int) < S 5 0 0 by omega)) (by decide) rfl (by decide) (hts (.fieldLink RX0 19 "LineEvents$Buffer" "count" "I") (by decide +kernel)) (cV_I (z := S 11 i 0) rfl ((su_v (by decide)).trans (rfl))) dX0_add_21 ?_
  refine lv_iconst (v := zI 1) hx hb dX0_add_24 rfl ?_
  refine z_iadd hx hb dX0_add_25 ?_
  refine c_putV (Cn := RX0) (T := TX0) (z := (S 11 i 0) + 1) hx hb hts 3 hinX0 tyX0 tyX0_ok nmX0 hown hK hG hS i 4 (hal 3 i (show (i : Int) < S 5 0 0 by omega)) (by decide) rfl (by decide) (hts (.fieldLink RX0 19 "LineEvents$Buffer" "count" "I") (by decide +kernel)) (Or.inl rfl) (cV_I (z := (S 11 i 0) + 1) rfl rfl) rfl rfl dX0_add_26 (fun H locs hG hS => ?_)
  have e9 : su (su (cC S E rt) 4 i ((((S 10 i 0) + (S 11 i 0)) % 1000).toNat) (z)) 3 i 4 ((S 11 i 0) + 1) = cC (radd S i z) E rt := by unfold radd; rw [cC_11, cC_9]
  rw [e9] at hG
  exact W.vret hx hb hr (fun t ht hW => ⟨rfl, ⟨by rw [ht]; exact hG, va_K.moved hW.alike hK, fun q hq => hA q (Nat.le_trans hS.1 (by rw [← ht]; exact hq))⟩, hS.F ht⟩) hS.2.2 dX0_add_29
set_option maxHeartbeats 4000000 in
set_option maxRecDepth 100000 in
theorem m_X0_readyAt (l : Launch) (D : va_G) (cI cJ : ClassId) (A : Nat → Prop) (ad : Nat → Nat → Nat) (al : Nat → Nat → Prop) (S : sT) (E : Nat → Int) (rt : Int) (hal : alS al S) (i : Nat) (hI : Inv S) (hi : (i : Int) < S 5 0 0) : Met l yX0_readyAt wsX0_readyAt ({ frames := 1, cells := 0, slots := 0, locals := 21 }) (va_Pc [.ref (ad 3 i)] (gCU D cI cJ A ad al (cC S E rt))) (gO (some (.int (zI (rready S i)))) (gCU D cI cJ A ad al (cC S E rt)) A) 0 0 A := by
  refine Met.ofW (cc := cX0_readyAt) (maxL := 1) (ret := (some .int)) (by decide) rfl ?_
  intro p e s m0 args below meth c s₁ B hml hv
  obtain ⟨rfl, hG, hK, hA⟩ := hv
  have hx := B.exec
  have hb := B.bytes
  have hr := B.returns
  have hts := atoms_spec (ws := wsX0_readyAt) B.pre
  have hown : s.vm.findClass RX0 = some m0.cls := findClass_of_methodNamed B.named
  have hlocks := B.notSynchronized
  have hinX0 : ∀ w ∈ wsX00, w ∈ wsX0_readyAt := by decide +kernel
  have hS : va_S A s.heap s.heap [] := va_S.rf
  have hl := lv_entry ([.ref (ad 3 i)]) (n := 1) (Nat.le_of_ble_eq_true rfl)
  rw [lg_entry_eq]
  generalize (lg_sl ([.ref (ad 3 i)]) ++ List.replicate (1 - (lg_sl ([.ref (ad 3 i)])).length) Slot.unset).toArray = ls at hl ⊢
  replace hl : lv_has ls 1 [(0, .ref (ad 3 i))] := hl
  obtain ⟨hI5, hI25, hI20, hIM, hIL, hIR⟩ := id hI
  obtain ⟨hM6, hM7, hM8, hM10, hM11, hM15, hM9, hMf⟩ := id (hIM i (by omega))
  obtain ⟨hL0, hL1, hL2, hL3, hL4⟩ := id (hIL i hi)
  have h9q := hM9 (S 10 i 0).toNat (by omega)
  refine lv_aload_n hx hb dX0_readyAt_0 rfl (lv_at hl 0 rfl) ?_
  refine c_getV (Cn := RX0) (T := TX0) hx hb hts 3 hinX0 hown hK hG i 4 (hal 3 i (show (i : Int) < S 5 0 0 by omega)) (by decide) rfl (by decide) (hts (.fieldLink RX0 19 "LineEvents$Buffer" "count" "I") (by decide +kernel)) (cV_I (z := S 11 i 0) rfl (rfl)) dX0_readyAt_1 ?_
  refine z_if_le (tgt := 28) hx hb dX0_readyAt_4 (by decide) ⟨by omega, by omega⟩ (fun c_1 => ?_) (fun c_1 => ?_)
  · refine z_ldc (z := 1000000000) hx hb hown (hts (.constant RX0 34 (1000000000)) (by decide +kernel)) (by decide) dX0_readyAt_28 ?_
    have v9 : 1000000000 = rready S i := by unfold rready; first | rw [if_pos (by omega)] | rw [if_neg (by omega)]
    refine W.eq (congrArg (fun z => F0 m0 30 ls [.int (zI z)]) v9) ?_
    exact W.iret hx hb hr (fun t ht hW => ⟨rfl, ⟨by rw [ht]; exact hG, va_K.moved hW.alike hK, fun q hq => hA q (Nat.le_trans hS.1 (by rw [← ht]; exact hq))⟩, hS.F ht⟩) hS.2.2 dX0_readyAt_30
  · refine lv_aload_n hx hb dX0_readyAt_7 rfl (lv_at hl 0 rfl) ?_
    refine c_getV (Cn := RX0) (T := TX0) hx hb hts 3 hinX0 hown hK hG i 2 (hal 3 i (show (i : Int) < S 5 0 0 by omega)) (by decide) rfl (by decide) (hts (.fieldLink RX0 15 "LineEvents$Buffer" "came" "[I") (by decide +kernel)) (cV_R (t := 4) (j := i) rfl (rfl)) dX0_readyAt_8 ?_
    refine lv_aload_n hx hb dX0_readyAt_11 rfl (lv_at hl 0 rfl) ?_
    refine c_getV (Cn := RX0) (T := TX0) hx hb hts 3 hinX0 hown hK hG i 3 (hal 3 i (show (i : Int) < S 5 0 0 by omega)) (by decide) rfl (by decide) (hts (.fieldLink RX0 22 "LineEvents$Buffer" "first" "I") (by decide +kernel)) (cV_I (z := S 10 i 0) rfl (rfl)) dX0_readyAt_12 ?_
    refine c_iald hx hb hK hG 4 i 1000 (hal 4 i (show (i : Int) < S 5 0 0 by omega)) (fun _ => rfl) (z := S 10 i 0) (by omega) (by omega) (by decide) (w := S 9 i (S 10 i 0).toNat) (rfl) dX0_readyAt_15 ?_
    refine lv_iconst (v := zI 1) hx hb dX0_readyAt_16 rfl ?_
    refine lv_aload_n hx hb dX0_readyAt_17 rfl (lv_at hl 0 rfl) ?_
    refine c_getV (Cn := RX0) (T := TX0) hx hb hts 3 hinX0 hown hK hG i 1 (hal 3 i (show (i : Int) < S 5 0 0 by omega)) (by decide) rfl (by decide) (hts (.fieldLink RX0 25 "LineEvents$Buffer" "delay" "I") (by decide +kernel)) (cV_I (z := S 4 i 0) rfl (rfl)) dX0_readyAt_18 ?_
    refine z_max hx hb (by rw [hml]; exact hl.1.symm) hown (hts (.methodLink RX0 28 Lib.Math.max.name) (by decide +kernel)) (hts (.static Lib.Math.max.name) (by decide +kernel)) (hts (.initialized "java/lang/Math") (by decide +kernel)) (hts (.code Lib.Math.max.name Lib.Math.max.code 2 (some .int)) (by decide +kernel)) (Nat.le_of_ble_eq_true rfl) (Nat.le_of_ble_eq_true rfl) (Nat.zero_le _) (Nat.zero_le _) ⟨by decide, by decide⟩ ⟨by omega, by omega⟩ dX0_readyAt_21 ?_
    refine z_iadd hx hb dX0_readyAt_24 ?_
    refine lv_goto (tgt := 30) hx hb dX0_readyAt_25 (by decide) ?_
    have v9 : (S 9 i (S 10 i 0).toNat) + (max 1 (S 4 i 0)) = rready S i := by unfold rready; first | rw [if_pos (by omega)] | rw [if_neg (by omega)]
    refine W.eq (congrArg (fun z => F0 m0 30 ls [.int (zI z)]) v9) ?_
    exact W.iret hx hb hr (fun t ht hW => ⟨rfl, ⟨by rw [ht]; exact hG, va_K.moved hW.alike hK, fun q hq => hA q (Nat.le_trans hS.1 (by rw [← ht]; exact hq))⟩, hS.F ht⟩) hS.2.2 dX0_readyAt_30
set_option maxHeartbeats 4000000 in
set_option maxRecDepth 100000 in
theorem m_X0_isReady (l : Launch) (D : va_G) (cI cJ : ClassId) (A : Nat → Prop) (ad : Nat → Nat → Nat) (al : Nat → Nat → Prop) (S : sT) (E : Nat → Int) (rt : Int) (hal : alS al S) (i : Nat) (z : Int) (hI : Inv S) (hi : (i : Int) < S 5 0 0) (hz : zB z) : Met l yX0_isReady wsX0_isReady ({ frames := 2, cells := 0, slots := 0, locals := 41 }) (va_Pc [.ref (ad 3 i), .int (zI z)] (gCU D cI cJ A ad al (cC S E rt))) (gO (some (.int (zI (bZ (0 < S 11 i 0 ∧ rready S i ≤ z))))) (gCU D cI cJ A ad al (cC S E rt)) A) 0 0 A := by
  refine Met.ofW (cc := cX0_isReady) (maxL := 2) (ret := (some .boolean)) (by decide) rfl ?_
  intro p e s m0 args below meth c s₁ B hml hv
  obtain ⟨rfl, hG, hK, hA⟩ := hv
  have hx := B.exec
  have hb := B.bytes
  have hr := B.returns
  have hts := atoms_spec (ws := wsX0_isReady) B.pre
  have hown : s.vm.findClass RX0 = some m0.cls := findClass_of_methodNamed B.named
  have hlocks := B.notSynchronized
  have hinX0 : ∀ w ∈ wsX00, w ∈ wsX0_isReady := by decide +kernel
  have hS : va_S A s.heap s.heap [] := va_S.rf
  have hl := lv_entry ([.ref (ad 3 i), .int (zI z)]) (n := 2) (Nat.le_of_ble_eq_true rfl)
  rw [lg_entry_eq]
  generalize (lg_sl ([.ref (ad 3 i), .int (zI z)]) ++ List.replicate (2 - (lg_sl ([.ref (ad 3 i), .int (zI z)])).length) Slot.unset).toArray = ls at hl ⊢
  replace hl : lv_has ls 2 [(0, .ref (ad 3 i)), (1, .int (zI z))] := hl
  obtain ⟨hI5, hI25, hI20, hIM, hIL, hIR⟩ := id hI
  obtain ⟨hM6, hM7, hM8, hM10, hM11, hM15, hM9, hMf⟩ := id (hIM i (by omega))
  obtain ⟨hL0, hL1, hL2, hL3, hL4⟩ := id (hIL i hi)
  have h9q := hM9 (S 10 i 0).toNat (by omega)
  have hrd : 0 ≤ rready S i ∧ rready S i ≤ 1000000000 + 10001 := by unfold rready; split <;> omega
  refine lv_aload_n hx hb dX0_isReady_0 rfl (lv_at hl 0 rfl) ?_
  refine c_getV (Cn := RX0) (T := TX0) hx hb hts 3 hinX0 hown hK hG i 4 (hal 3 i (show (i : Int) < S 5 0 0 by omega)) (by decide) rfl (by decide) (hts (.fieldLink RX0 19 "LineEvents$Buffer" "count" "I") (by decide +kernel)) (cV_I (z := S 11 i 0) rfl (rfl)) dX0_isReady_1 ?_
  refine z_if_le (tgt := 19) hx hb dX0_isReady_4 (by decide) ⟨by omega, by omega⟩ (fun c_1 => ?_) (fun c_1 => ?_)
  · refine lv_iconst (v := zI 0) hx hb dX0_isReady_19 rfl ?_
    have v9 : 0 = bZ (0 < S 11 i 0 ∧ rready S i ≤ z) := by first | (exfalso; omega) | exact (bZ_t (by omega)).symm | exact (bZ_f (by omega)).symm
    refine W.eq (congrArg (fun z => F0 m0 20 ls [.int (zI z)]) v9) ?_
    exact W.zret hx hb hr (zI_bool _) (fun t ht hW => ⟨rfl, ⟨by rw [ht]; exact hG, va_K.moved hW.alike hK, fun q hq => hA q (Nat.le_trans hS.1 (by rw [← ht]; exact hq))⟩, hS.F ht⟩) hS.2.2 dX0_isReady_20
  · refine lv_iload_n hx hb dX0_isReady_7 rfl (lv_at hl 1 rfl) ?_
    refine lv_aload_n hx hb dX0_isReady_8 rfl (lv_at hl 0 rfl) ?_
    refine c_callV (As := []) (rest := [.int (zI z)]) (Cn := RX0) (T := TX0) ⟨hx, hb, hml, hown, hts⟩ 3 i (m_X0_readyAt l D cI cJ A ad al S E rt hal i hI hi) (cwV 0 hts gX0_isReady_X0_readyAt rfl rfl rfl (by decide +kernel) ⟨Nat.le_of_ble_eq_true rfl, Nat.le_of_ble_eq_true rfl⟩) (hal 3 i (show (i : Int) < S 5 0 0 by omega)) (by decide) rfl hK hG hS hA rfl hl.1 rfl (Nat.le_of_ble_eq_true rfl) dX0_isReady_9 ⟨Nat.zero_le _, Nat.zero_le _⟩ (fun t9 H locs ht9 hB hS => ?_)
    have hG := hB.1; rw [ht9] at hG; clear hB ht9
    refine z_icmp_lt (tgt := 19) hx hb dX0_isReady_12 (by decide) ⟨by omega, by omega⟩ ⟨by omega, by omega⟩ (fun c_2 => ?_) (fun c_2 => ?_)
    · refine lv_iconst (v := zI 0) hx hb dX0_isReady_19 rfl ?_
      have v9 : 0 = bZ (0 < S 11 i 0 ∧ rready S i ≤ z) := by first | (exfalso; omega) | exact (bZ_t (by omega)).symm | exact (bZ_f (by omega)).symm
      refine W.eq (congrArg (fun z => F0 m0 20 ls [.int (zI z)]) v9) ?_
      exact W.zret hx hb hr (zI_bool _) (fun t ht hW => ⟨rfl, ⟨by rw [ht]; exact hG, va_K.moved hW.alike hK, fun q hq => hA q (Nat.le_trans hS.1 (by rw [← ht]; exact hq))⟩, hS.F ht⟩) hS.2.2 dX0_isReady_20
    · refine lv_iconst (v := zI 1) hx hb dX0_isReady_15 rfl ?_
      refine lv_goto (tgt := 20) hx hb dX0_isReady_16 (by decide) ?_
      have v9 : 1 = bZ (0 < S 11 i 0 ∧ rready S i ≤ z) := by first | (exfalso; omega) | exact (bZ_t (by omega)).symm | exact (bZ_f (by omega)).symm
      refine W.eq (congrArg (fun z => F0 m0 20 ls [.int (zI z)]) v9) ?_
      exact W.zret hx hb hr (zI_bool _) (fun t ht hW => ⟨rfl, ⟨by rw [ht]; exact hG, va_K.moved hW.alike hK, fun q hq => hA q (Nat.le_trans hS.1 (by rw [← ht]; exact hq))⟩, hS.F ht⟩) hS.2.2 dX0_isReady_20
set_option maxHeartbeats 4000000 in
set_option maxRecDepth 100000 in
theorem m_X0_removeFirst (l : Launch) (D : va_G) (cI cJ : ClassId) (A : Nat → Prop) (ad : Nat → Nat → Nat) (al : Nat → Nat → Prop) (S : sT) (E : Nat → Int) (rt : Int) (hal : alS al S) (i : Nat) (hI : Inv S) (hi : (i : Int) < S 5 0 0) : Met l yX0_removeFirst wsX0_removeFirst ({ frames := 0, cells := 0, slots := 0, locals := 0 }) (va_Pc [.ref (ad 3 i)] (gCU D cI cJ A ad al (cC S E rt))) (gO none (gCU D cI cJ A ad al (cC (rpop S i) E rt)) A) 0 0 A := by
  refine Met.ofW (cc := cX0_removeFirst) (maxL := 1) (ret := none) (by decide) rfl ?_
  intro p e s m0 args below meth c s₁ B hml hv
  obtain ⟨rfl, hG, hK, hA⟩ := hv
  have hx := B.exec
  have hb := B.bytes
  have hr := B.returns
  have hts := atoms_spec (ws := wsX0_removeFirst) B.pre
  have hown : s.vm.findClass RX0 = some m0.cls := findClass_of_methodNamed B.named
  have hlocks := B.notSynchronized
  have hinX0 : ∀ w ∈ wsX00, w ∈ wsX0_removeFirst := by decide +kernel
  have hS : va_S A s.heap s.heap [] := va_S.rf
  have hl := lv_entry ([.ref (ad 3 i)]) (n := 1) (Nat.le_of_ble_eq_true rfl)
  rw [lg_entry_eq]
  generalize (lg_sl ([.ref (ad 3 i)]) ++ List.replicate (1 - (lg_sl ([.ref (ad 3 i)])).length) Slot.unset).toArray = ls at hl ⊢
  replace hl : lv_has ls 1 [(0, .ref (ad 3 i))] := hl
  obtain ⟨hI5, hI25, hI20, hIM, hIL, hIR⟩ := id hI
  obtain ⟨hM6, hM7, hM8, hM10, hM11, hM15, hM9, hMf⟩ := id (hIM i (by omega))
  obtain ⟨hL0, hL1, hL2, hL3, hL4⟩ := id (hIL i hi)
  refine lv_aload_n hx hb dX0_removeFirst_0 rfl (lv_at hl 0 rfl) ?_
  refine lv_aload_n hx hb dX0_removeFirst_1 rfl (lv_at hl 0 rfl) ?_
  refine c_getV (Cn := RX0) (T := TX0) hx hb hts 3 hinX0 hown hK hG i 3 (hal 3 i (show (i : Int) < S 5 0 0 by omega)) (by decide) rfl (by decide) (hts (.fieldLink RX0 22 "LineEvents$Buffer" "first" "I") (by decide +kernel)) (cV_I (z := S 10 i 0) rfl (rfl)) dX0_removeFirst_2 ?_
  refine lv_iconst (v := zI 1) hx hb dX0_removeFirst_5 rfl ?_
  refine z_iadd hx hb dX0_removeFirst_6 ?_
  refine lv_sipush (v := zI 1000) hx hb dX0_removeFirst_7 (by decide) ?_
  refine z_irem hx hb dX0_removeFirst_10 ⟨by omega, by omega⟩ ⟨by omega, by omega⟩ ?_
  refine c_putV (Cn := RX0) (T := TX0) (z := ((S 10 i 0) + 1) % 1000) hx hb hts 3 hinX0 tyX0 tyX0_ok nmX0 hown hK hG hS i 3 (hal 3 i (show (i : Int) < S 5 0 0 by omega)) (by decide) rfl (by decide) (hts (.fieldLink RX0 22 "LineEvents$Buffer" "first" "I") (by decide +kernel)) (Or.inl rfl) (cV_I (z := ((S 10 i 0) + 1) % 1000) rfl rfl) rfl rfl dX0_removeFirst_11 (fun H locs hG hS => ?_)
  refine lv_aload_n hx hb dX0_removeFirst_14 rfl (lv_at hl 0 rfl) ?_
  refine lv_dup hx hb dX0_removeFirst_15 rfl ?_
  refine c_getV (Cn := RX0) (T := TX0) hx hb hts 3 hinX0 hown hK hG i 4 (hal 3 i (show (i : Int) < S 5 0 0 by omega)) (by decide) rfl (by decide) (hts (.fieldLink RX0 19 "LineEvents$Buffer" "count" "I") (by decide +kernel)) (cV_I (z := S 11 i 0) rfl ((su_f (by decide)).trans (rfl))) dX0_removeFirst_16 ?_
  refine lv_iconst (v := zI 1) hx hb dX0_removeFirst_19 rfl ?_
  refine z_isub hx hb dX0_removeFirst_20 ?_
  refine c_putV (Cn := RX0) (T := TX0) (z := (S 11 i 0) - 1) hx hb hts 3 hinX0 tyX0 tyX0_ok nmX0 hown hK hG hS i 4 (hal 3 i (show (i : Int) < S 5 0 0 by omega)) (by decide) rfl (by decide) (hts (.fieldLink RX0 19 "LineEvents$Buffer" "count" "I") (by decide +kernel)) (Or.inl rfl) (cV_I (z := (S 11 i 0) - 1) rfl rfl) rfl rfl dX0_removeFirst_21 (fun H locs hG hS => ?_)
  have e9 : su (su (cC S E rt) 3 i 3 (((S 10 i 0) + 1) % 1000)) 3 i 4 ((S 11 i 0) - 1) = cC (rpop S i) E rt := by unfold rpop; rw [cC_11, cC_10]
  rw [e9] at hG
  exact W.vret hx hb hr (fun t ht hW => ⟨rfl, ⟨by rw [ht]; exact hG, va_K.moved hW.alike hK, fun q hq => hA q (Nat.le_trans hS.1 (by rw [← ht]; exact hq))⟩, hS.F ht⟩) hS.2.2 dX0_removeFirst_24
set_option maxHeartbeats 4000000 in
set_option maxRecDepth 100000 in
theorem m_X2_stands (l : Launch) (D : va_G) (cI cJ : ClassId) (A : Nat → Prop) (ad : Nat → Nat → Nat) (al : Nat → Nat → Prop) (S : sT) (E : Nat → Int) (rt : Int) (hal : alS al S) (i : Nat) (z : Int) (hI : Inv S) (hi : (i : Int) < S 5 0 0) (hz : zB z) (hE : -1 ≤ E i ∧ E i ≤ 9) : Met l yX2_stands wsX2_stands ({ frames := 0, cells := 0, slots := 0, locals := 0 }) (va_Pc [.ref (ad 2 i), .int (zI z)] (gCU D cI cJ A ad al (cC S E rt))) (gO (some (.int (zI (bZ (¬ E i = -1 ∨ z < S 8 i 0))))) (gCU D cI cJ A ad al (cC S E rt)) A) 0 0 A := by
  refine Met.ofW (cc := cX2_stands) (maxL := 2) (ret := (some .boolean)) (by decide) rfl ?_
  intro p e s m0 args below meth c s₁ B hml hv
  obtain ⟨rfl, hG, hK, hA⟩ := hv
  have hx := B.exec
  have hb := B.bytes
  have hr := B.returns
  have hts := atoms_spec (ws := wsX2_stands) B.pre
  have hown : s.vm.findClass RX2 = some m0.cls := findClass_of_methodNamed B.named
  have hlocks := B.notSynchronized
  have hinX2 : ∀ w ∈ wsX20, w ∈ wsX2_stands := by decide +kernel
  have hS : va_S A s.heap s.heap [] := va_S.rf
  have hl := lv_entry ([.ref (ad 2 i), .int (zI z)]) (n := 2) (Nat.le_of_ble_eq_true rfl)
  rw [lg_entry_eq]
  generalize (lg_sl ([.ref (ad 2 i), .int (zI z)]) ++ List.replicate (2 - (lg_sl ([.ref (ad 2 i), .int (zI z)])).length) Slot.unset).toArray = ls at hl ⊢
  replace hl : lv_has ls 2 [(0, .ref (ad 2 i)), (1, .int (zI z))] := hl
  obtain ⟨hI5, hI25, hI20, hIM, hIL, hIR⟩ := id hI
  obtain ⟨hM6, hM7, hM8, hM10, hM11, hM15, hM9, hMf⟩ := id (hIM i (by omega))
  obtain ⟨hL0, hL1, hL2, hL3, hL4⟩ := id (hIL i hi)
  refine lv_aload_n hx hb dX2_stands_0 rfl (lv_at hl 0 rfl) ?_
  refine c_getV (Cn := RX2) (T := TX2) hx hb hts 2 hinX2 hown hK hG i 9 (hal 2 i (show (i : Int) < S 5 0 0 by omega)) (by decide) rfl (by decide) (hts (.fieldLink RX2 18 "LineEvents$Machine" "rowCause" "I") (by decide +kernel)) (cV_I (z := E i) rfl (rfl)) dX2_stands_1 ?_
  refine lv_iconst (v := zI (-1)) hx hb dX2_stands_4 rfl ?_
  refine z_icmp_ne (tgt := 16) hx hb dX2_stands_5 (by decide) ⟨by omega, by omega⟩ ⟨by decide, by decide⟩ (fun c_1 => ?_) (fun c_1 => ?_)
  · refine lv_iconst (v := zI 1) hx hb dX2_stands_16 rfl ?_
    refine lv_goto (tgt := 21) hx hb dX2_stands_17 (by decide) ?_
    have v9 : 1 = bZ (¬ E i = -1 ∨ z < S 8 i 0) := by first | (exfalso; omega) | exact (bZ_t (by omega)).symm | exact (bZ_f (by omega)).symm
    refine W.eq (congrArg (fun z => F0 m0 21 ls [.int (zI z)]) v9) ?_
    exact W.zret hx hb hr (zI_bool _) (fun t ht hW => ⟨rfl, ⟨by rw [ht]; exact hG, va_K.moved hW.alike hK, fun q hq => hA q (Nat.le_trans hS.1 (by rw [← ht]; exact hq))⟩, hS.F ht⟩) hS.2.2 dX2_stands_21
  · refine lv_iload_n hx hb dX2_stands_8 rfl (lv_at hl 1 rfl) ?_
    refine lv_aload_n hx hb dX2_stands_9 rfl (lv_at hl 0 rfl) ?_
    refine c_getV (Cn := RX2) (T := TX2) hx hb hts 2 hinX2 hown hK hG i 10 (hal 2 i (show (i : Int) < S 5 0 0 by omega)) (by decide) rfl (by decide) (hts (.fieldLink RX2 54 "LineEvents$Machine" "faultEnd" "I") (by decide +kernel)) (cV_I (z := S 8 i 0) rfl (rfl)) dX2_stands_10 ?_
    refine z_icmp_ge (tgt := 20) hx hb dX2_stands_13 (by decide) ⟨by omega, by omega⟩ ⟨by omega, by omega⟩ (fun c_2 => ?_) (fun c_2 => ?_)
    · refine lv_iconst (v := zI 0) hx hb dX2_stands_20 rfl ?_
      have v9 : 0 = bZ (¬ E i = -1 ∨ z < S 8 i 0) := by first | (exfalso; omega) | exact (bZ_t (by omega)).symm | exact (bZ_f (by omega)).symm
      refine W.eq (congrArg (fun z => F0 m0 21 ls [.int (zI z)]) v9) ?_
      exact W.zret hx hb hr (zI_bool _) (fun t ht hW => ⟨rfl, ⟨by rw [ht]; exact hG, va_K.moved hW.alike hK, fun q hq => hA q (Nat.le_trans hS.1 (by rw [← ht]; exact hq))⟩, hS.F ht⟩) hS.2.2 dX2_stands_21
    · refine lv_iconst (v := zI 1) hx hb dX2_stands_16 rfl ?_
      refine lv_goto (tgt := 21) hx hb dX2_stands_17 (by decide) ?_
      have v9 : 1 = bZ (¬ E i = -1 ∨ z < S 8 i 0) := by first | (exfalso; omega) | exact (bZ_t (by omega)).symm | exact (bZ_f (by omega)).symm
      refine W.eq (congrArg (fun z => F0 m0 21 ls [.int (zI z)]) v9) ?_
      exact W.zret hx hb hr (zI_bool _) (fun t ht hW => ⟨rfl, ⟨by rw [ht]; exact hG, va_K.moved hW.alike hK, fun q hq => hA q (Nat.le_trans hS.1 (by rw [← ht]; exact hq))⟩, hS.F ht⟩) hS.2.2 dX2_stands_21
set_option maxHeartbeats 4000000 in
set_option maxRecDepth 100000 in
theorem m_X2_isDone (l : Launch) (D : va_G) (cI cJ : ClassId) (A : Nat → Prop) (ad : Nat → Nat → Nat) (al : Nat → Nat → Prop) (S : sT) (E : Nat → Int) (rt : Int) (hal : alS al S) (i : Nat) (hI : Inv S) (hi : (i : Int) < S 5 0 0) : Met l yX2_isDone wsX2_isDone ({ frames := 0, cells := 0, slots := 0, locals := 0 }) (va_Pc [.ref (ad 2 i)] (gCU D cI cJ A ad al (cC S E rt))) (gO (some (.int (zI (bZ (¬ S 6 i 0 = 0 ∧ S 0 i 0 ≤ S 7 i 0))))) (gCU D cI cJ A ad al (cC S E rt)) A) 0 0 A := by
  refine Met.ofW (cc := cX2_isDone) (maxL := 1) (ret := (some .boolean)) (by decide) rfl ?_
  intro p e s m0 args below meth c s₁ B hml hv
  obtain ⟨rfl, hG, hK, hA⟩ := hv
  have hx := B.exec
  have hb := B.bytes
  have hr := B.returns
  have hts := atoms_spec (ws := wsX2_isDone) B.pre
  have hown : s.vm.findClass RX2 = some m0.cls := findClass_of_methodNamed B.named
  have hlocks := B.notSynchronized
  have hinX2 : ∀ w ∈ wsX20, w ∈ wsX2_isDone := by decide +kernel
  have hS : va_S A s.heap s.heap [] := va_S.rf
  have hl := lv_entry ([.ref (ad 2 i)]) (n := 1) (Nat.le_of_ble_eq_true rfl)
  rw [lg_entry_eq]
  generalize (lg_sl ([.ref (ad 2 i)]) ++ List.replicate (1 - (lg_sl ([.ref (ad 2 i)])).length) Slot.unset).toArray = ls at hl ⊢
  replace hl : lv_has ls 1 [(0, .ref (ad 2 i))] := hl
  obtain ⟨hI5, hI25, hI20, hIM, hIL, hIR⟩ := id hI
  obtain ⟨hM6, hM7, hM8, hM10, hM11, hM15, hM9, hMf⟩ := id (hIM i (by omega))
  obtain ⟨hL0, hL1, hL2, hL3, hL4⟩ := id (hIL i hi)
  refine lv_aload_n hx hb dX2_isDone_0 rfl (lv_at hl 0 rfl) ?_
  refine c_getV (Cn := RX2) (T := TX2) hx hb hts 2 hinX2 hown hK hG i 11 (hal 2 i (show (i : Int) < S 5 0 0 by omega)) (by decide) rfl (by decide) (hts (.fieldLink RX2 57 "LineEvents$Machine" "hasBottle" "Z") (by decide +kernel)) (cV_I (z := bZ (¬ S 6 i 0 = 0)) rfl (rfl)) dX2_isDone_1 ?_
  refine z_ifb_eq (tgt := 22) hx hb dX2_isDone_4 (by decide) (fun c_1 => ?_) (fun c_1 => ?_)
  · refine lv_iconst (v := zI 0) hx hb dX2_isDone_22 rfl ?_
    have v9 : 0 = bZ (¬ S 6 i 0 = 0 ∧ S 0 i 0 ≤ S 7 i 0) := by first | (exfalso; omega) | exact (bZ_t (by omega)).symm | exact (bZ_f (by omega)).symm
    refine W.eq (congrArg (fun z => F0 m0 23 ls [.int (zI z)]) v9) ?_
    exact W.zret hx hb hr (zI_bool _) (fun t ht hW => ⟨rfl, ⟨by rw [ht]; exact hG, va_K.moved hW.alike hK, fun q hq => hA q (Nat.le_trans hS.1 (by rw [← ht]; exact hq))⟩, hS.F ht⟩) hS.2.2 dX2_isDone_23
  · have hbt : ¬ S 6 i 0 = 0 := c_1
    refine lv_aload_n hx hb dX2_isDone_7 rfl (lv_at hl 0 rfl) ?_
    refine c_getV (Cn := RX2) (T := TX2) hx hb hts 2 hinX2 hown hK hG i 12 (hal 2 i (show (i : Int) < S 5 0 0 by omega)) (by decide) rfl (by decide) (hts (.fieldLink RX2 61 "LineEvents$Machine" "worked" "I") (by decide +kernel)) (cV_I (z := S 7 i 0) rfl (if_neg hbt)) dX2_isDone_8 ?_
    refine lv_aload_n hx hb dX2_isDone_11 rfl (lv_at hl 0 rfl) ?_
    refine c_getV (Cn := RX2) (T := TX2) hx hb hts 2 hinX2 hown hK hG i 1 (hal 2 i (show (i : Int) < S 5 0 0 by omega)) (by decide) rfl (by decide) (hts (.fieldLink RX2 29 "LineEvents$Machine" "takes" "I") (by decide +kernel)) (cV_I (z := S 0 i 0) rfl (rfl)) dX2_isDone_12 ?_
    refine z_icmp_lt (tgt := 22) hx hb dX2_isDone_15 (by decide) ⟨by omega, by omega⟩ ⟨by omega, by omega⟩ (fun c_2 => ?_) (fun c_2 => ?_)
    · refine lv_iconst (v := zI 0) hx hb dX2_isDone_22 rfl ?_
      have v9 : 0 = bZ (¬ S 6 i 0 = 0 ∧ S 0 i 0 ≤ S 7 i 0) := by first | (exfalso; omega) | exact (bZ_t (by omega)).symm | exact (bZ_f (by omega)).symm
      refine W.eq (congrArg (fun z => F0 m0 23 ls [.int (zI z)]) v9) ?_
      exact W.zret hx hb hr (zI_bool _) (fun t ht hW => ⟨rfl, ⟨by rw [ht]; exact hG, va_K.moved hW.alike hK, fun q hq => hA q (Nat.le_trans hS.1 (by rw [← ht]; exact hq))⟩, hS.F ht⟩) hS.2.2 dX2_isDone_23
    · refine lv_iconst (v := zI 1) hx hb dX2_isDone_18 rfl ?_
      refine lv_goto (tgt := 23) hx hb dX2_isDone_19 (by decide) ?_
      have v9 : 1 = bZ (¬ S 6 i 0 = 0 ∧ S 0 i 0 ≤ S 7 i 0) := by first | (exfalso; omega) | exact (bZ_t (by omega)).symm | exact (bZ_f (by omega)).symm
      refine W.eq (congrArg (fun z => F0 m0 23 ls [.int (zI z)]) v9) ?_
      exact W.zret hx hb hr (zI_bool _) (fun t ht hW => ⟨rfl, ⟨by rw [ht]; exact hG, va_K.moved hW.alike hK, fun q hq => hA q (Nat.le_trans hS.1 (by rw [← ht]; exact hq))⟩, hS.F ht⟩) hS.2.2 dX2_isDone_23
set_option maxHeartbeats 4000000 in
set_option maxRecDepth 100000 in
theorem m_X2_putAway (l : Launch) (D : va_G) (cI cJ : ClassId) (A : Nat → Prop) (ad : Nat → Nat → Nat) (al : Nat → Nat → Prop) (S : sT) (E : Nat → Int) (rt : Int) (hal : alS al S) (i : Nat) (hI : Inv S) (hi : (i : Int) < S 5 0 0) : Met l yX2_putAway wsX2_putAway ({ frames := 0, cells := 0, slots := 0, locals := 0 }) (va_Pc [.ref (ad 2 i)] (gCU D cI cJ A ad al (cC S E rt))) (gO none (gCU D cI cJ A ad al (cC (su S 6 i 0 0) E rt)) A) 0 0 A := by
  refine Met.ofW (cc := cX2_putAway) (maxL := 1) (ret := none) (by decide) rfl ?_
  intro p e s m0 args below meth c s₁ B hml hv
  obtain ⟨rfl, hG, hK, hA⟩ := hv
  have hx := B.exec
  have hb := B.bytes
  have hr := B.returns
  have hts := atoms_spec (ws := wsX2_putAway) B.pre
  have hown : s.vm.findClass RX2 = some m0.cls := findClass_of_methodNamed B.named
  have hlocks := B.notSynchronized
  have hinX2 : ∀ w ∈ wsX20, w ∈ wsX2_putAway := by decide +kernel
  have hS : va_S A s.heap s.heap [] := va_S.rf
  have hl := lv_entry ([.ref (ad 2 i)]) (n := 1) (Nat.le_of_ble_eq_true rfl)
  rw [lg_entry_eq]
  generalize (lg_sl ([.ref (ad 2 i)]) ++ List.replicate (1 - (lg_sl ([.ref (ad 2 i)])).length) Slot.unset).toArray = ls at hl ⊢
  replace hl : lv_has ls 1 [(0, .ref (ad 2 i))] := hl
  obtain ⟨hI5, hI25, hI20, hIM, hIL, hIR⟩ := id hI
  obtain ⟨hM6, hM7, hM8, hM10, hM11, hM15, hM9, hMf⟩ := id (hIM i (by omega))
  obtain ⟨hL0, hL1, hL2, hL3, hL4⟩ := id (hIL i hi)
  refine lv_aload_n hx hb dX2_putAway_0 rfl (lv_at hl 0 rfl) ?_
  refine lv_iconst (v := zI 0) hx hb dX2_putAway_1 rfl ?_
  refine c_putV (Cn := RX2) (T := TX2) (z := 0) hx hb hts 2 hinX2 tyX2 tyX2_ok nmX2 hown hK hG hS i 11 (hal 2 i (show (i : Int) < S 5 0 0 by omega)) (by decide) rfl (by decide) (hts (.fieldLink RX2 57 "LineEvents$Machine" "hasBottle" "Z") (by decide +kernel)) (Or.inl rfl) (cV_I (z := 0) rfl rfl) (by decide +kernel) rfl dX2_putAway_2 (fun H locs hG hS => ?_)
  refine lv_aload_n hx hb dX2_putAway_5 rfl (lv_at hl 0 rfl) ?_
  refine lv_iconst (v := zI 0) hx hb dX2_putAway_6 rfl ?_
  refine c_putV (Cn := RX2) (T := TX2) (z := 0) hx hb hts 2 hinX2 tyX2 tyX2_ok nmX2 hown hK hG hS i 13 (hal 2 i (show (i : Int) < S 5 0 0 by omega)) (by decide) rfl (by decide) (hts (.fieldLink RX2 64 "LineEvents$Machine" "judged" "Z") (by decide +kernel)) (Or.inl rfl) (cV_I (z := 0) rfl rfl) (by decide +kernel) rfl dX2_putAway_7 (fun H locs hG hS => ?_)
  refine lv_aload_n hx hb dX2_putAway_10 rfl (lv_at hl 0 rfl) ?_
  refine lv_iconst (v := zI 0) hx hb dX2_putAway_11 rfl ?_
  refine c_putV (Cn := RX2) (T := TX2) (z := 0) hx hb hts 2 hinX2 tyX2 tyX2_ok nmX2 hown hK hG hS i 12 (hal 2 i (show (i : Int) < S 5 0 0 by omega)) (by decide) rfl (by decide) (hts (.fieldLink RX2 61 "LineEvents$Machine" "worked" "I") (by decide +kernel)) (Or.inl rfl) (cV_I (z := 0) rfl rfl) rfl rfl dX2_putAway_12 (fun H locs hG hS => ?_)
  have e9 : su (su (su (cC S E rt) 2 i 11 (0)) 2 i 13 (0)) 2 i 12 (0) = cC (su S 6 i 0 0) E rt := by rw [cC_6]; rfl
  rw [e9] at hG
  exact W.vret hx hb hr (fun t ht hW => ⟨rfl, ⟨by rw [ht]; exact hG, va_K.moved hW.alike hK, fun q hq => hA q (Nat.le_trans hS.1 (by rw [← ht]; exact hq))⟩, hS.F ht⟩) hS.2.2 dX2_putAway_15
set_option maxHeartbeats 4000000 in
set_option maxRecDepth 100000 in
theorem m_X2_causeAt (l : Launch) (D : va_G) (cI cJ : ClassId) (A : Nat → Prop) (ad : Nat → Nat → Nat) (al : Nat → Nat → Prop) (S : sT) (E : Nat → Int) (rt : Int) (hal : alS al S) (i : Nat) (z : Int) (hI : Inv S) (hi : (i : Int) < S 5 0 0) (hz : zB z) (hE : -1 ≤ E i ∧ E i ≤ 9) : Met l yX2_causeAt wsX2_causeAt ({ frames := 0, cells := 0, slots := 0, locals := 0 }) (va_Pc [.ref (ad 2 i), .int (zI z)] (gCU D cI cJ A ad al (cC S E rt))) (gO (some (.int (zI (ccause S E i z)))) (gCU D cI cJ A ad al (cC S E rt)) A) 0 0 A := by
  refine Met.ofW (cc := cX2_causeAt) (maxL := 2) (ret := (some .int)) (by decide) rfl ?_
  intro p e s m0 args below meth c s₁ B hml hv
  obtain ⟨rfl, hG, hK, hA⟩ := hv
  have hx := B.exec
  have hb := B.bytes
  have hr := B.returns
  have hts := atoms_spec (ws := wsX2_causeAt) B.pre
  have hown : s.vm.findClass RX2 = some m0.cls := findClass_of_methodNamed B.named
  have hlocks := B.notSynchronized
  have hinX2 : ∀ w ∈ wsX20, w ∈ wsX2_causeAt := by decide +kernel
  have hS : va_S A s.heap s.heap [] := va_S.rf
  have hl := lv_entry ([.ref (ad 2 i), .int (zI z)]) (n := 2) (Nat.le_of_ble_eq_true rfl)
  rw [lg_entry_eq]
  generalize (lg_sl ([.ref (ad 2 i), .int (zI z)]) ++ List.replicate (2 - (lg_sl ([.ref (ad 2 i), .int (zI z)])).length) Slot.unset).toArray = ls at hl ⊢
  replace hl : lv_has ls 2 [(0, .ref (ad 2 i)), (1, .int (zI z))] := hl
  obtain ⟨hI5, hI25, hI20, hIM, hIL, hIR⟩ := id hI
  obtain ⟨hM6, hM7, hM8, hM10, hM11, hM15, hM9, hMf⟩ := id (hIM i (by omega))
  obtain ⟨hL0, hL1, hL2, hL3, hL4⟩ := id (hIL i hi)
  refine lv_aload_n hx hb dX2_causeAt_0 rfl (lv_at hl 0 rfl) ?_
  refine c_getV (Cn := RX2) (T := TX2) hx hb hts 2 hinX2 hown hK hG i 9 (hal 2 i (show (i : Int) < S 5 0 0 by omega)) (by decide) rfl (by decide) (hts (.fieldLink RX2 18 "LineEvents$Machine" "rowCause" "I") (by decide +kernel)) (cV_I (z := E i) rfl (rfl)) dX2_causeAt_1 ?_
  refine lv_iconst (v := zI (-1)) hx hb dX2_causeAt_4 rfl ?_
  refine z_icmp_eq (tgt := 13) hx hb dX2_causeAt_5 (by decide) ⟨by omega, by omega⟩ ⟨by decide, by decide⟩ (fun c_1 => ?_) (fun c_1 => ?_)
  · refine lv_iload_n hx hb dX2_causeAt_13 rfl (lv_at hl 1 rfl) ?_
    refine lv_aload_n hx hb dX2_causeAt_14 rfl (lv_at hl 0 rfl) ?_
    refine c_getV (Cn := RX2) (T := TX2) hx hb hts 2 hinX2 hown hK hG i 10 (hal 2 i (show (i : Int) < S 5 0 0 by omega)) (by decide) rfl (by decide) (hts (.fieldLink RX2 54 "LineEvents$Machine" "faultEnd" "I") (by decide +kernel)) (cV_I (z := S 8 i 0) rfl (rfl)) dX2_causeAt_15 ?_
    refine z_icmp_ge (tgt := 23) hx hb dX2_causeAt_18 (by decide) ⟨by omega, by omega⟩ ⟨by omega, by omega⟩ (fun c_2 => ?_) (fun c_2 => ?_)
    · refine lv_aload_n hx hb dX2_causeAt_23 rfl (lv_at hl 0 rfl) ?_
      refine c_getV (Cn := RX2) (T := TX2) hx hb hts 2 hinX2 hown hK hG i 11 (hal 2 i (show (i : Int) < S 5 0 0 by omega)) (by decide) rfl (by decide) (hts (.fieldLink RX2 57 "LineEvents$Machine" "hasBottle" "Z") (by decide +kernel)) (cV_I (z := bZ (¬ S 6 i 0 = 0)) rfl (rfl)) dX2_causeAt_24 ?_
      refine z_ifb_ne (tgt := 33) hx hb dX2_causeAt_27 (by decide) (fun c_3 => ?_) (fun c_3 => ?_)
      · have hbt : ¬ S 6 i 0 = 0 := c_3
        refine lv_aload_n hx hb dX2_causeAt_33 rfl (lv_at hl 0 rfl) ?_
        refine c_getV (Cn := RX2) (T := TX2) hx hb hts 2 hinX2 hown hK hG i 12 (hal 2 i (show (i : Int) < S 5 0 0 by omega)) (by decide) rfl (by decide) (hts (.fieldLink RX2 61 "LineEvents$Machine" "worked" "I") (by decide +kernel)) (cV_I (z := S 7 i 0) rfl (if_neg hbt)) dX2_causeAt_34 ?_
        refine lv_aload_n hx hb dX2_causeAt_37 rfl (lv_at hl 0 rfl) ?_
        refine c_getV (Cn := RX2) (T := TX2) hx hb hts 2 hinX2 hown hK hG i 1 (hal 2 i (show (i : Int) < S 5 0 0 by omega)) (by decide) rfl (by decide) (hts (.fieldLink RX2 29 "LineEvents$Machine" "takes" "I") (by decide +kernel)) (cV_I (z := S 0 i 0) rfl (rfl)) dX2_causeAt_38 ?_
        refine z_icmp_ge (tgt := 48) hx hb dX2_causeAt_41 (by decide) ⟨by omega, by omega⟩ ⟨by omega, by omega⟩ (fun c_4 => ?_) (fun c_4 => ?_)
        · refine lv_bipush (v := zI 11) hx hb dX2_causeAt_48 (by decide) ?_
          have v9 : 11 = ccause S E i z := by unfold ccause; first | (exfalso; omega) | rw [if_neg (by omega)] | rw [if_pos (by omega), if_pos (by omega)] | rw [if_pos (by omega), if_neg (by omega), if_pos (by omega)] | rw [if_pos (by omega), if_neg (by omega), if_neg (by omega), if_pos (by omega)] | rw [if_pos (by omega), if_neg (by omega), if_neg (by omega), if_neg (by omega)]
          refine W.eq (congrArg (fun z => F0 m0 50 ls [.int (zI z)]) v9) ?_
          exact W.iret hx hb hr (fun t ht hW => ⟨rfl, ⟨by rw [ht]; exact hG, va_K.moved hW.alike hK, fun q hq => hA q (Nat.le_trans hS.1 (by rw [← ht]; exact hq))⟩, hS.F ht⟩) hS.2.2 dX2_causeAt_50
        · refine lv_iconst (v := zI 0) hx hb dX2_causeAt_44 rfl ?_
          refine lv_goto (tgt := 50) hx hb dX2_causeAt_45 (by decide) ?_
          have v9 : 0 = ccause S E i z := by unfold ccause; first | (exfalso; omega) | rw [if_neg (by omega)] | rw [if_pos (by omega), if_pos (by omega)] | rw [if_pos (by omega), if_neg (by omega), if_pos (by omega)] | rw [if_pos (by omega), if_neg (by omega), if_neg (by omega), if_pos (by omega)] | rw [if_pos (by omega), if_neg (by omega), if_neg (by omega), if_neg (by omega)]
          refine W.eq (congrArg (fun z => F0 m0 50 ls [.int (zI z)]) v9) ?_
          exact W.iret hx hb hr (fun t ht hW => ⟨rfl, ⟨by rw [ht]; exact hG, va_K.moved hW.alike hK, fun q hq => hA q (Nat.le_trans hS.1 (by rw [← ht]; exact hq))⟩, hS.F ht⟩) hS.2.2 dX2_causeAt_50
      · refine lv_bipush (v := zI 10) hx hb dX2_causeAt_30 (by decide) ?_
        have v9 : 10 = ccause S E i z := by unfold ccause; first | (exfalso; omega) | rw [if_neg (by omega)] | rw [if_pos (by omega), if_pos (by omega)] | rw [if_pos (by omega), if_neg (by omega), if_pos (by omega)] | rw [if_pos (by omega), if_neg (by omega), if_neg (by omega), if_pos (by omega)] | rw [if_pos (by omega), if_neg (by omega), if_neg (by omega), if_neg (by omega)]
        refine W.eq (congrArg (fun z => F0 m0 32 ls [.int (zI z)]) v9) ?_
        exact W.iret hx hb hr (fun t ht hW => ⟨rfl, ⟨by rw [ht]; exact hG, va_K.moved hW.alike hK, fun q hq => hA q (Nat.le_trans hS.1 (by rw [← ht]; exact hq))⟩, hS.F ht⟩) hS.2.2 dX2_causeAt_32
    · refine lv_iconst (v := zI 3) hx hb dX2_causeAt_21 rfl ?_
      have v9 : 3 = ccause S E i z := by unfold ccause; first | (exfalso; omega) | rw [if_neg (by omega)] | rw [if_pos (by omega), if_pos (by omega)] | rw [if_pos (by omega), if_neg (by omega), if_pos (by omega)] | rw [if_pos (by omega), if_neg (by omega), if_neg (by omega), if_pos (by omega)] | rw [if_pos (by omega), if_neg (by omega), if_neg (by omega), if_neg (by omega)]
      refine W.eq (congrArg (fun z => F0 m0 22 ls [.int (zI z)]) v9) ?_
      exact W.iret hx hb hr (fun t ht hW => ⟨rfl, ⟨by rw [ht]; exact hG, va_K.moved hW.alike hK, fun q hq => hA q (Nat.le_trans hS.1 (by rw [← ht]; exact hq))⟩, hS.F ht⟩) hS.2.2 dX2_causeAt_22
  · refine lv_aload_n hx hb dX2_causeAt_8 rfl (lv_at hl 0 rfl) ?_
    refine c_getV (Cn := RX2) (T := TX2) hx hb hts 2 hinX2 hown hK hG i 9 (hal 2 i (show (i : Int) < S 5 0 0 by omega)) (by decide) rfl (by decide) (hts (.fieldLink RX2 18 "LineEvents$Machine" "rowCause" "I") (by decide +kernel)) (cV_I (z := E i) rfl (rfl)) dX2_causeAt_9 ?_
    have v9 : E i = ccause S E i z := by unfold ccause; first | (exfalso; omega) | rw [if_neg (by omega)] | rw [if_pos (by omega), if_pos (by omega)] | rw [if_pos (by omega), if_neg (by omega), if_pos (by omega)] | rw [if_pos (by omega), if_neg (by omega), if_neg (by omega), if_pos (by omega)] | rw [if_pos (by omega), if_neg (by omega), if_neg (by omega), if_neg (by omega)]
    refine W.eq (congrArg (fun z => F0 m0 12 ls [.int (zI z)]) v9) ?_
    exact W.iret hx hb hr (fun t ht hW => ⟨rfl, ⟨by rw [ht]; exact hG, va_K.moved hW.alike hK, fun q hq => hA q (Nat.le_trans hS.1 (by rw [← ht]; exact hq))⟩, hS.F ht⟩) hS.2.2 dX2_causeAt_12
set_option maxHeartbeats 4000000 in
set_option maxRecDepth 100000 in
theorem m_X2_spend (l : Launch) (D : va_G) (cI cJ : ClassId) (A : Nat → Prop) (ad : Nat → Nat → Nat) (al : Nat → Nat → Prop) (S : sT) (E : Nat → Int) (rt : Int) (hal : alS al S) (i : Nat) (c0 t : Int) (hI : Inv S) (hi : (i : Int) < S 5 0 0) (hc0 : 0 ≤ c0 ∧ c0 < 12) (ht0 : zB t) (h60 : c0 = 0 → ¬ S 6 i 0 = 0) : Met l yX2_spend wsX2_spend ({ frames := 0, cells := 0, slots := 0, locals := 0 }) (va_Pc [.ref (ad 2 i), .int (zI c0), .int (zI t)] (gCU D cI cJ A ad al (cC S E rt))) (gO none (gCU D cI cJ A ad al (cC (cspend S i c0 t) E rt)) A) 0 0 A := by
  refine Met.ofW (cc := cX2_spend) (maxL := 3) (ret := none) (by decide) rfl ?_
  intro p e s m0 args below meth c s₁ B hml hv
  obtain ⟨rfl, hG, hK, hA⟩ := hv
  have hx := B.exec
  have hb := B.bytes
  have hr := B.returns
  have hts := atoms_spec (ws := wsX2_spend) B.pre
  have hown : s.vm.findClass RX2 = some m0.cls := findClass_of_methodNamed B.named
  have hlocks := B.notSynchronized
  have hinX2 : ∀ w ∈ wsX20, w ∈ wsX2_spend := by decide +kernel
  have hS : va_S A s.heap s.heap [] := va_S.rf
  have hl := lv_entry ([.ref (ad 2 i), .int (zI c0), .int (zI t)]) (n := 3) (Nat.le_of_ble_eq_true rfl)
  rw [lg_entry_eq]
  generalize (lg_sl ([.ref (ad 2 i), .int (zI c0), .int (zI t)]) ++ List.replicate (3 - (lg_sl ([.ref (ad 2 i), .int (zI c0), .int (zI t)])).length) Slot.unset).toArray = ls at hl ⊢
  replace hl : lv_has ls 3 [(0, .ref (ad 2 i)), (1, .int (zI c0)), (2, .int (zI t))] := hl
  obtain ⟨hI5, hI25, hI20, hIM, hIL, hIR⟩ := id hI
  obtain ⟨hM6, hM7, hM8, hM10, hM11, hM15, hM9, hMf⟩ := id (hIM i (by omega))
  obtain ⟨hL0, hL1, hL2, hL3, hL4⟩ := id (hIL i hi)
  refine lv_aload_n hx hb dX2_spend_0 rfl (lv_at hl 0 rfl) ?_
  refine c_getV (Cn := RX2) (T := TX2) hx hb hts 2 hinX2 hown hK hG i 15 (hal 2 i (show (i : Int) < S 5 0 0 by omega)) (by decide) rfl (by decide) (hts (.fieldLink RX2 22 "LineEvents$Machine" "times" "[J") (by decide +kernel)) (cV_R (t := 5) (j := i) rfl (rfl)) dX2_spend_1 ?_
  refine lv_iload_n hx hb dX2_spend_4 rfl (lv_at hl 1 rfl) ?_
  refine lv_dup2_11 hx hb dX2_spend_5 rfl rfl ?_
  refine c_lald hx hb hK hG i (hal 5 i (show (i : Int) < S 5 0 0 by omega)) (z := c0) (by omega) (by omega) (w := S 21 i (c0).toNat) (rfl) dX2_spend_6 ?_
  refine lv_iload_n hx hb dX2_spend_7 rfl (lv_at hl 2 rfl) ?_
  refine z_i2l hx hb dX2_spend_8 ⟨by omega, by omega⟩ ?_
  refine z_ladd hx hb dX2_spend_9 ?_
  refine c_last hx hb hK hG hS i (hal 5 i (show (i : Int) < S 5 0 0 by omega)) (z := c0) (by omega) (by omega) (w := (S 21 i (c0).toNat) + t) dX2_spend_10 (fun H locs hG hS => ?_)
  refine lv_iload_n hx hb dX2_spend_11 rfl (lv_at hl 1 rfl) ?_
  refine z_if_ne (tgt := 25) hx hb dX2_spend_12 (by decide) ⟨by omega, by omega⟩ (fun c_1 => ?_) (fun c_1 => ?_)
  · have e9 : su (cC S E rt) 5 i ((c0).toNat) ((S 21 i (c0).toNat) + t) = cC (cspend S i c0 t) E rt := by unfold cspend; first | rw [if_neg (by omega), cC_21] | rw [if_pos (by omega), cC_7, if_neg (show ¬ su S 21 i c0.toNat (S 21 i c0.toNat + t) 6 i 0 = 0 from h60 (by omega)), cC_21]
    rw [e9] at hG
    exact W.vret hx hb hr (fun t ht hW => ⟨rfl, ⟨by rw [ht]; exact hG, va_K.moved hW.alike hK, fun q hq => hA q (Nat.le_trans hS.1 (by rw [← ht]; exact hq))⟩, hS.F ht⟩) hS.2.2 dX2_spend_25
  · have hbt : ¬ S 6 i 0 = 0 := h60 (by omega)
    refine lv_aload_n hx hb dX2_spend_15 rfl (lv_at hl 0 rfl) ?_
    refine lv_dup hx hb dX2_spend_16 rfl ?_
    refine c_getV (Cn := RX2) (T := TX2) hx hb hts 2 hinX2 hown hK hG i 12 (hal 2 i (show (i : Int) < S 5 0 0 by omega)) (by decide) rfl (by decide) (hts (.fieldLink RX2 61 "LineEvents$Machine" "worked" "I") (by decide +kernel)) (cV_I (z := S 7 i 0) rfl ((su_v (by decide)).trans (if_neg hbt))) dX2_spend_17 ?_
    refine lv_iload_n hx hb dX2_spend_20 rfl (lv_at hl 2 rfl) ?_
    refine z_iadd hx hb dX2_spend_21 ?_
    refine c_putV (Cn := RX2) (T := TX2) (z := (S 7 i 0) + t) hx hb hts 2 hinX2 tyX2 tyX2_ok nmX2 hown hK hG hS i 12 (hal 2 i (show (i : Int) < S 5 0 0 by omega)) (by decide) rfl (by decide) (hts (.fieldLink RX2 61 "LineEvents$Machine" "worked" "I") (by decide +kernel)) (Or.inl rfl) (cV_I (z := (S 7 i 0) + t) rfl rfl) rfl rfl dX2_spend_22 (fun H locs hG hS => ?_)
    have e9 : su (su (cC S E rt) 5 i ((c0).toNat) ((S 21 i (c0).toNat) + t)) 2 i 12 ((S 7 i 0) + t) = cC (cspend S i c0 t) E rt := by unfold cspend; first | rw [if_neg (by omega), cC_21] | rw [if_pos (by omega), cC_7, if_neg (show ¬ su S 21 i c0.toNat (S 21 i c0.toNat + t) 6 i 0 = 0 from h60 (by omega)), cC_21]
    rw [e9] at hG
    exact W.vret hx hb hr (fun t ht hW => ⟨rfl, ⟨by rw [ht]; exact hG, va_K.moved hW.alike hK, fun q hq => hA q (Nat.le_trans hS.1 (by rw [← ht]; exact hq))⟩, hS.F ht⟩) hS.2.2 dX2_spend_25
set_option maxHeartbeats 4000000 in
set_option maxRecDepth 100000 in
theorem m_X4_within (l : Launch) (D : va_G) (cI cJ : ClassId) (A : Nat → Prop) (ad : Nat → Nat → Nat) (al : Nat → Nat → Prop) (S : sT) (E : Nat → Int) (rt : Int) (hal : alS al S) (a b c0 : Int) (ha : zB a) (hb0 : zB b) (hc0 : zB c0) : Met l yX4_within wsX4_within ({ frames := 0, cells := 0, slots := 0, locals := 0 }) (va_Pc [.int (zI a), .int (zI b), .int (zI c0)] (gCU D cI cJ A ad al (cC S E rt))) (gO (some (.int (zI (bZ (b ≤ a ∧ a ≤ c0))))) (gCU D cI cJ A ad al (cC S E rt)) A) 0 0 A := by
  refine Met.ofW (cc := cX4_within) (maxL := 3) (ret := (some .boolean)) (by decide) rfl ?_
  intro p e s m0 args below meth c s₁ B hml hv
  obtain ⟨rfl, hG, hK, hA⟩ := hv
  have hx := B.exec
  have hb := B.bytes
  have hr := B.returns
  have hts := atoms_spec (ws := wsX4_within) B.pre
  have hown : s.vm.findClass RX4 = some m0.cls := findClass_of_methodNamed B.named
  have hlocks := B.notSynchronized
  have hS : va_S A s.heap s.heap [] := va_S.rf
  have hl := lv_entry ([.int (zI a), .int (zI b), .int (zI c0)]) (n := 3) (Nat.le_of_ble_eq_true rfl)
  rw [lg_entry_eq]
  generalize (lg_sl ([.int (zI a), .int (zI b), .int (zI c0)]) ++ List.replicate (3 - (lg_sl ([.int (zI a), .int (zI b), .int (zI c0)])).length) Slot.unset).toArray = ls at hl ⊢
  replace hl : lv_has ls 3 [(0, .int (zI a)), (1, .int (zI b)), (2, .int (zI c0))] := hl
  refine lv_iload_n hx hb dX4_within_0 rfl (lv_at hl 0 rfl) ?_
  refine lv_iload_n hx hb dX4_within_1 rfl (lv_at hl 1 rfl) ?_
  refine z_icmp_lt (tgt := 14) hx hb dX4_within_2 (by decide) ⟨by omega, by omega⟩ ⟨by omega, by omega⟩ (fun c_1 => ?_) (fun c_1 => ?_)
  · refine lv_iconst (v := zI 0) hx hb dX4_within_14 rfl ?_
    have v9 : 0 = bZ (b ≤ a ∧ a ≤ c0) := by first | (exfalso; omega) | exact (bZ_t (by omega)).symm | exact (bZ_f (by omega)).symm
    refine W.eq (congrArg (fun z => F0 m0 15 ls [.int (zI z)]) v9) ?_
    exact W.zret hx hb hr (zI_bool _) (fun t ht hW => ⟨rfl, ⟨by rw [ht]; exact hG, va_K.moved hW.alike hK, fun q hq => hA q (Nat.le_trans hS.1 (by rw [← ht]; exact hq))⟩, hS.F ht⟩) hS.2.2 dX4_within_15
  · refine lv_iload_n hx hb dX4_within_5 rfl (lv_at hl 0 rfl) ?_
    refine lv_iload_n hx hb dX4_within_6 rfl (lv_at hl 2 rfl) ?_
    refine z_icmp_gt (tgt := 14) hx hb dX4_within_7 (by decide) ⟨by omega, by omega⟩ ⟨by omega, by omega⟩ (fun c_2 => ?_) (fun c_2 => ?_)
    · refine lv_iconst (v := zI 0) hx hb dX4_within_14 rfl ?_
      have v9 : 0 = bZ (b ≤ a ∧ a ≤ c0) := by first | (exfalso; omega) | exact (bZ_t (by omega)).symm | exact (bZ_f (by omega)).symm
      refine W.eq (congrArg (fun z => F0 m0 15 ls [.int (zI z)]) v9) ?_
      exact W.zret hx hb hr (zI_bool _) (fun t ht hW => ⟨rfl, ⟨by rw [ht]; exact hG, va_K.moved hW.alike hK, fun q hq => hA q (Nat.le_trans hS.1 (by rw [← ht]; exact hq))⟩, hS.F ht⟩) hS.2.2 dX4_within_15
    · refine lv_iconst (v := zI 1) hx hb dX4_within_10 rfl ?_
      refine lv_goto (tgt := 15) hx hb dX4_within_11 (by decide) ?_
      have v9 : 1 = bZ (b ≤ a ∧ a ≤ c0) := by first | (exfalso; omega) | exact (bZ_t (by omega)).symm | exact (bZ_f (by omega)).symm
      refine W.eq (congrArg (fun z => F0 m0 15 ls [.int (zI z)]) v9) ?_
      exact W.zret hx hb hr (zI_bool _) (fun t ht hW => ⟨rfl, ⟨by rw [ht]; exact hG, va_K.moved hW.alike hK, fun q hq => hA q (Nat.le_trans hS.1 (by rw [← ht]; exact hq))⟩, hS.F ht⟩) hS.2.2 dX4_within_15
set_option maxHeartbeats 4000000 in
set_option maxRecDepth 100000 in
theorem m_X4_isCause (l : Launch) (D : va_G) (cI cJ : ClassId) (A : Nat → Prop) (ad : Nat → Nat → Nat) (al : Nat → Nat → Prop) (S : sT) (E : Nat → Int) (rt : Int) (hal : alS al S) (z : Int) (hz : zB z) : Met l yX4_isCause wsX4_isCause ({ frames := 1, cells := 0, slots := 0, locals := 22 }) (va_Pc [.int (zI z)] (gCU D cI cJ A ad al (cC S E rt))) (gO (some (.int (zI (bZ (0 ≤ z ∧ z ≤ 11))))) (gCU D cI cJ A ad al (cC S E rt)) A) 0 0 A := by
  refine Met.ofW (cc := cX4_isCause) (maxL := 1) (ret := (some .boolean)) (by decide) rfl ?_
  intro p e s m0 args below meth c s₁ B hml hv
  obtain ⟨rfl, hG, hK, hA⟩ := hv
  have hx := B.exec
  have hb := B.bytes
  have hr := B.returns
  have hts := atoms_spec (ws := wsX4_isCause) B.pre
  have hown : s.vm.findClass RX4 = some m0.cls := findClass_of_methodNamed B.named
  have hlocks := B.notSynchronized
  have hS : va_S A s.heap s.heap [] := va_S.rf
  have hl := lv_entry ([.int (zI z)]) (n := 1) (Nat.le_of_ble_eq_true rfl)
  rw [lg_entry_eq]
  generalize (lg_sl ([.int (zI z)]) ++ List.replicate (1 - (lg_sl ([.int (zI z)])).length) Slot.unset).toArray = ls at hl ⊢
  replace hl : lv_has ls 1 [(0, .int (zI z))] := hl
  refine lv_iload_n hx hb dX4_isCause_0 rfl (lv_at hl 0 rfl) ?_
  refine lv_iconst (v := zI 0) hx hb dX4_isCause_1 rfl ?_
  refine lv_bipush (v := zI 11) hx hb dX4_isCause_2 (by decide) ?_
  refine c_callS (As := [.int (zI z), .int (zI 0), .int (zI 11)]) (rest := []) ⟨hx, hb, hml, hown, hts⟩ (m_X4_within l D cI cJ A ad al S E rt hal z 0 11 ⟨by omega, by omega⟩ ⟨by decide, by decide⟩ ⟨by decide, by decide⟩) (va_cwS 3 hts gX4_isCause_X4_within rfl rfl rfl (by decide +kernel) ⟨Nat.le_of_ble_eq_true rfl, Nat.le_of_ble_eq_true rfl⟩) hK hG hS hA rfl hl.1 rfl (Nat.le_of_ble_eq_true rfl) dX4_isCause_4 ⟨Nat.zero_le _, Nat.zero_le _⟩ (fun t9 H locs ht9 hB hS => ?_)
  have hG := hB.1; rw [ht9] at hG; clear hB ht9
  have v9 : bZ (0 ≤ z ∧ z ≤ 11) = bZ (0 ≤ z ∧ z ≤ 11) := by rfl
  refine W.eq (congrArg (fun z => F0 m0 7 ls [.int (zI z)]) v9) ?_
  exact W.zret hx hb hr (zI_bool _) (fun t ht hW => ⟨rfl, ⟨by rw [ht]; exact hG, va_K.moved hW.alike hK, fun q hq => hA q (Nat.le_trans hS.1 (by rw [← ht]; exact hq))⟩, hS.F ht⟩) hS.2.2 dX4_isCause_7
set_option maxHeartbeats 4000000 in
set_option maxRecDepth 100000 in
theorem m_X4_draw (l : Launch) (D : va_G) (cI cJ : ClassId) (A : Nat → Prop) (ad : Nat → Nat → Nat) (al : Nat → Nat → Prop) (S : sT) (E : Nat → Int) (rt : Int) (hal : alS al S) (b : Int) (hb0 : 0 < b ∧ b < 9223372036854775808) : Met l yX4_draw wsX4_draw ({ frames := 0, cells := 0, slots := 0, locals := 0 }) (va_Pc [.ref (ad 0 0), .long (zL b)] (gCU D cI cJ A ad al (cC S E rt))) (gO (some (.long (zL (rdv S b)))) (gCU D cI cJ A ad al (cC (rdraw S) E rt)) A) 0 0 A := by
  refine Met.ofW (cc := cX4_draw) (maxL := 3) (ret := (some .long)) (by decide) rfl ?_
  intro p e s m0 args below meth c s₁ B hml hv
  obtain ⟨rfl, hG, hK, hA⟩ := hv
  have hx := B.exec
  have hb := B.bytes
  have hr := B.returns
  have hts := atoms_spec (ws := wsX4_draw) B.pre
  have hown : s.vm.findClass RX4 = some m0.cls := findClass_of_methodNamed B.named
  have hlocks := B.notSynchronized
  have hinX4 : ∀ w ∈ wsX40, w ∈ wsX4_draw := by decide +kernel
  have hS : va_S A s.heap s.heap [] := va_S.rf
  have hl := lv_entry ([.ref (ad 0 0), .long (zL b)]) (n := 3) (Nat.le_of_ble_eq_true rfl)
  rw [lg_entry_eq]
  generalize (lg_sl ([.ref (ad 0 0), .long (zL b)]) ++ List.replicate (3 - (lg_sl ([.ref (ad 0 0), .long (zL b)])).length) Slot.unset).toArray = ls at hl ⊢
  replace hl : lv_has ls 3 [(0, .ref (ad 0 0)), (1, .long (zL b))] := hl
  refine lv_aload_n hx hb dX4_draw_0 rfl (lv_at hl 0 rfl) ?_
  refine lv_aload_n hx hb dX4_draw_1 rfl (lv_at hl 0 rfl) ?_
  refine c_getV (Cn := RX4) (T := TX4) hx hb hts 0 hinX4 hown hK hG 0 0 (hal 0 0 rfl) (by decide) rfl (by decide) (hts (.fieldLink RX4 13 "LineEvents" "drawn" "J") (by decide +kernel)) (cV_J (z := S 26 0 0) rfl (rfl)) dX4_draw_2 ?_
  refine z_ldc2 (z := 6364136223846793005) hx hb hown (hts (.constantLong RX4 243 (6364136223846793005)) (by decide +kernel)) (by decide) dX4_draw_5 ?_
  refine z_lmul hx hb dX4_draw_8 ?_
  refine z_ldc2 (z := 1442695040888963407) hx hb hown (hts (.constantLong RX4 245 (1442695040888963407)) (by decide +kernel)) (by decide) dX4_draw_9 ?_
  refine z_ladd hx hb dX4_draw_12 ?_
  refine c_putV (Cn := RX4) (T := TX4) (z := ((S 26 0 0) * 6364136223846793005) + 1442695040888963407) hx hb hts 0 hinX4 tyX4 tyX4_ok nmX4 hown hK hG hS 0 0 (hal 0 0 rfl) (by decide) rfl (by decide) (hts (.fieldLink RX4 13 "LineEvents" "drawn" "J") (by decide +kernel)) (Or.inl rfl) (cV_J (z := ((S 26 0 0) * 6364136223846793005) + 1442695040888963407) rfl rfl) rfl rfl dX4_draw_13 (fun H locs hG hS => ?_)
  refine lv_aload_n hx hb dX4_draw_16 rfl (lv_at hl 0 rfl) ?_
  refine c_getV (Cn := RX4) (T := TX4) hx hb hts 0 hinX4 hown hK hG 0 0 (hal 0 0 rfl) (by decide) rfl (by decide) (hts (.fieldLink RX4 13 "LineEvents" "drawn" "J") (by decide +kernel)) (cV_J (z := ((S 26 0 0) * 6364136223846793005) + 1442695040888963407) rfl ((su_same _ _ _ _ _))) dX4_draw_17 ?_
  refine lv_bipush (v := zI 33) hx hb dX4_draw_20 (by decide) ?_
  refine z_ush33 hx hb dX4_draw_22 ?_
  refine lv_lload_n hx hb dX4_draw_23 rfl (lv_at hl 1 rfl) ?_
  refine z_lrem hx hb dX4_draw_24 ⟨by omega, by omega⟩ ⟨by omega, by omega⟩ ?_
  have e9 : su (cC S E rt) 0 0 0 (((S 26 0 0) * 6364136223846793005) + 1442695040888963407) = cC (rdraw S) E rt := by unfold rdraw; rw [cC_26]
  rw [e9] at hG
  have v9 : ((((S 26 0 0) * 6364136223846793005) + 1442695040888963407) % 18446744073709551616 / 8589934592) % b = rdv S b := by rfl
  refine W.eq (congrArg (fun z => F0 m0 25 ls [.long (zL z)]) v9) ?_
  exact W.lret hx hb hr (fun t ht hW => ⟨rfl, ⟨by rw [ht]; exact hG, va_K.moved hW.alike hK, fun q hq => hA q (Nat.le_trans hS.1 (by rw [← ht]; exact hq))⟩, hS.F ht⟩) hS.2.2 dX4_draw_25
set_option maxHeartbeats 4000000 in
set_option maxRecDepth 100000 in
theorem m_X4_note (l : Launch) (D : va_G) (cI cJ : ClassId) (A : Nat → Prop) (ad : Nat → Nat → Nat) (al : Nat → Nat → Prop) (S : sT) (E : Nat → Int) (rt : Int) (hal : alS al S) (i : Nat) (kd : Int) (hi : (i : Int) < S 5 0 0) (he : 0 ≤ S 30 0 0 ∧ S 30 0 0 < 2147483647) : Met l yX4_note wsX4_note ({ frames := 0, cells := 0, slots := 0, locals := 0 }) (va_Pc [.ref (ad 0 0), .ref (ad 2 i), .int (zI kd)] (gCU D cI cJ A ad al (cC S E rt))) (gO none (gCU D cI cJ A ad al (cC (rnote S i kd) E rt)) A) 0 0 A := by
  refine Met.ofW (cc := cX4_note) (maxL := 4) (ret := none) (by decide) rfl ?_
  intro p e s m0 args below meth c s₁ B hml hv
  obtain ⟨rfl, hG, hK, hA⟩ := hv
  have hx := B.exec
  have hb := B.bytes
  have hr := B.returns
  have hts := atoms_spec (ws := wsX4_note) B.pre
  have hown : s.vm.findClass RX4 = some m0.cls := findClass_of_methodNamed B.named
  have hlocks := B.notSynchronized
  have hinX2 : ∀ w ∈ wsX20, w ∈ wsX4_note := by decide +kernel
  have hinX4 : ∀ w ∈ wsX40, w ∈ wsX4_note := by decide +kernel
  have hS : va_S A s.heap s.heap [] := va_S.rf
  have hl := lv_entry ([.ref (ad 0 0), .ref (ad 2 i), .int (zI kd)]) (n := 4) (Nat.le_of_ble_eq_true rfl)
  rw [lg_entry_eq]
  generalize (lg_sl ([.ref (ad 0 0), .ref (ad 2 i), .int (zI kd)]) ++ List.replicate (4 - (lg_sl ([.ref (ad 0 0), .ref (ad 2 i), .int (zI kd)])).length) Slot.unset).toArray = ls at hl ⊢
  replace hl : lv_has ls 4 [(0, .ref (ad 0 0)), (1, .ref (ad 2 i)), (2, .int (zI kd))] := hl
  refine lv_aload_n hx hb dX4_note_0 rfl (lv_at hl 0 rfl) ?_
  refine c_getV (Cn := RX4) (T := TX4) hx hb hts 0 hinX4 hown hK hG 0 8 (hal 0 0 rfl) (by decide) rfl (by decide) (hts (.fieldLink RX4 80 "LineEvents" "eventCount" "I") (by decide +kernel)) (cV_I (z := S 30 0 0) rfl (rfl)) dX4_note_1 ?_
  refine lv_sipush (v := zI 1000) hx hb dX4_note_4 (by decide) ?_
  refine z_icmp_ge (tgt := 48) hx hb dX4_note_7 (by decide) ⟨by omega, by omega⟩ ⟨by decide, by decide⟩ (fun c_1 => ?_) (fun c_1 => ?_)
  · refine lv_aload_n hx hb dX4_note_48 rfl (lv_at hl 0 rfl) ?_
    refine lv_dup hx hb dX4_note_49 rfl ?_
    refine c_getV (Cn := RX4) (T := TX4) hx hb hts 0 hinX4 hown hK hG 0 8 (hal 0 0 rfl) (by decide) rfl (by decide) (hts (.fieldLink RX4 80 "LineEvents" "eventCount" "I") (by decide +kernel)) (cV_I (z := S 30 0 0) rfl (rfl)) dX4_note_50 ?_
    refine lv_iconst (v := zI 1) hx hb dX4_note_53 rfl ?_
    refine z_iadd hx hb dX4_note_54 ?_
    refine c_putV (Cn := RX4) (T := TX4) (z := (S 30 0 0) + 1) hx hb hts 0 hinX4 tyX4 tyX4_ok nmX4 hown hK hG hS 0 8 (hal 0 0 rfl) (by decide) rfl (by decide) (hts (.fieldLink RX4 80 "LineEvents" "eventCount" "I") (by decide +kernel)) (Or.inl rfl) (cV_I (z := (S 30 0 0) + 1) rfl rfl) rfl rfl dX4_note_55 (fun H locs hG hS => ?_)
    have e9 : su (cC S E rt) 0 0 8 ((S 30 0 0) + 1) = cC (rnote S i kd) E rt := by unfold rnote; first | rw [if_neg (by omega), cC_30] | rw [if_pos (by omega), cC_30, cC_29, cC_28, cC_27, show (S 30 0 0 * 3).toNat = 3 * (S 30 0 0).toNat by omega, show (S 30 0 0 * 3 + 1).toNat = 3 * (S 30 0 0).toNat + 1 by omega, show (S 30 0 0 * 3 + 2).toNat = 3 * (S 30 0 0).toNat + 2 by omega]
    rw [e9] at hG
    exact W.vret hx hb hr (fun t ht hW => ⟨rfl, ⟨by rw [ht]; exact hG, va_K.moved hW.alike hK, fun q hq => hA q (Nat.le_trans hS.1 (by rw [← ht]; exact hq))⟩, hS.F ht⟩) hS.2.2 dX4_note_58
  · refine lv_aload_n hx hb dX4_note_10 rfl (lv_at hl 0 rfl) ?_
    refine c_getV (Cn := RX4) (T := TX4) hx hb hts 0 hinX4 hown hK hG 0 8 (hal 0 0 rfl) (by decide) rfl (by decide) (hts (.fieldLink RX4 80 "LineEvents" "eventCount" "I") (by decide +kernel)) (cV_I (z := S 30 0 0) rfl (rfl)) dX4_note_11 ?_
    refine lv_iconst (v := zI 3) hx hb dX4_note_14 rfl ?_
    refine z_imul hx hb dX4_note_15 ?_
    refine lv_istore_n (lv' := [(3, .int (zI ((S 30 0 0) * 3))), (0, .ref (ad 0 0)), (1, .ref (ad 2 i)), (2, .int (zI kd))]) hx hb dX4_note_16 rfl hl (by decide) rfl (fun ls hl => ?_)
    refine lv_aload_n hx hb dX4_note_17 rfl (lv_at hl 1 rfl) ?_
    refine c_getV (Cn := RX4) (T := TX4) hx hb hts 0 hinX4 hown hK hG 0 7 (hal 0 0 rfl) (by decide) rfl (by decide) (hts (.fieldLink RX4 9 "LineEvents" "events" "[I") (by decide +kernel)) (cV_R (t := 1) (j := 0) rfl (rfl)) dX4_note_18 ?_
    refine lv_iload_n hx hb dX4_note_21 rfl (lv_at hl 0 rfl) ?_
    refine lv_aload_n hx hb dX4_note_22 rfl (lv_at hl 1 rfl) ?_
    refine c_getV (Cn := RX4) (T := TX4) hx hb hts 0 hinX4 hown hK hG 0 1 (hal 0 0 rfl) (by decide) rfl (by decide) (hts (.fieldLink RX4 27 "LineEvents" "now" "I") (by decide +kernel)) (cV_I (z := S 25 0 0) rfl (rfl)) dX4_note_23 ?_
    refine c_iast hx hb hK hG hS 1 0 3000 (hal 1 0 rfl) (fun _ => rfl) (z := (S 30 0 0) * 3) (by omega) (by omega) (by decide) (w := S 25 0 0) dX4_note_26 (fun H locs hG hS => ?_)
    refine lv_aload_n hx hb dX4_note_27 rfl (lv_at hl 1 rfl) ?_
    refine c_getV (Cn := RX4) (T := TX4) hx hb hts 0 hinX4 hown hK hG 0 7 (hal 0 0 rfl) (by decide) rfl (by decide) (hts (.fieldLink RX4 9 "LineEvents" "events" "[I") (by decide +kernel)) (cV_R (t := 1) (j := 0) rfl ((su_v (by decide)).trans (rfl))) dX4_note_28 ?_
    refine lv_iload_n hx hb dX4_note_31 rfl (lv_at hl 0 rfl) ?_
    refine lv_iconst (v := zI 1) hx hb dX4_note_32 rfl ?_
    refine z_iadd hx hb dX4_note_33 ?_
    refine lv_aload_n hx hb dX4_note_34 rfl (lv_at hl 2 rfl) ?_
    refine c_getV (Cn := RX2) (T := TX2) hx hb hts 2 hinX2 hown hK hG i 0 (hal 2 i (show (i : Int) < S 5 0 0 by omega)) (by decide) rfl (by decide) (hts (.fieldLink RX4 45 "LineEvents$Machine" "number" "I") (by decide +kernel)) (cV_I (z := (i : Int)) rfl ((su_v (by decide)).trans (rfl))) dX4_note_35 ?_
    refine c_iast hx hb hK hG hS 1 0 3000 (hal 1 0 rfl) (fun _ => rfl) (z := ((S 30 0 0) * 3) + 1) (by omega) (by omega) (by decide) (w := (i : Int)) dX4_note_38 (fun H locs hG hS => ?_)
    refine lv_aload_n hx hb dX4_note_39 rfl (lv_at hl 1 rfl) ?_
    refine c_getV (Cn := RX4) (T := TX4) hx hb hts 0 hinX4 hown hK hG 0 7 (hal 0 0 rfl) (by decide) rfl (by decide) (hts (.fieldLink RX4 9 "LineEvents" "events" "[I") (by decide +kernel)) (cV_R (t := 1) (j := 0) rfl ((su_v (by decide)).trans ((su_v (by decide)).trans (rfl)))) dX4_note_40 ?_
    refine lv_iload_n hx hb dX4_note_43 rfl (lv_at hl 0 rfl) ?_
    refine lv_iconst (v := zI 2) hx hb dX4_note_44 rfl ?_
    refine z_iadd hx hb dX4_note_45 ?_
    refine lv_iload_n hx hb dX4_note_46 rfl (lv_at hl 3 rfl) ?_
    refine c_iast hx hb hK hG hS 1 0 3000 (hal 1 0 rfl) (fun _ => rfl) (z := ((S 30 0 0) * 3) + 2) (by omega) (by omega) (by decide) (w := kd) dX4_note_47 (fun H locs hG hS => ?_)
    refine lv_aload_n hx hb dX4_note_48 rfl (lv_at hl 1 rfl) ?_
    refine lv_dup hx hb dX4_note_49 rfl ?_
    refine c_getV (Cn := RX4) (T := TX4) hx hb hts 0 hinX4 hown hK hG 0 8 (hal 0 0 rfl) (by decide) rfl (by decide) (hts (.fieldLink RX4 80 "LineEvents" "eventCount" "I") (by decide +kernel)) (cV_I (z := S 30 0 0) rfl ((su_v (by decide)).trans ((su_v (by decide)).trans ((su_v (by decide)).trans (rfl))))) dX4_note_50 ?_
    refine lv_iconst (v := zI 1) hx hb dX4_note_53 rfl ?_
    refine z_iadd hx hb dX4_note_54 ?_
    refine c_putV (Cn := RX4) (T := TX4) (z := (S 30 0 0) + 1) hx hb hts 0 hinX4 tyX4 tyX4_ok nmX4 hown hK hG hS 0 8 (hal 0 0 rfl) (by decide) rfl (by decide) (hts (.fieldLink RX4 80 "LineEvents" "eventCount" "I") (by decide +kernel)) (Or.inl rfl) (cV_I (z := (S 30 0 0) + 1) rfl rfl) rfl rfl dX4_note_55 (fun H locs hG hS => ?_)
    have e9 : su (su (su (su (cC S E rt) 1 0 (((S 30 0 0) * 3).toNat) (S 25 0 0)) 1 0 ((((S 30 0 0) * 3) + 1).toNat) ((i : Int))) 1 0 ((((S 30 0 0) * 3) + 2).toNat) (kd)) 0 0 8 ((S 30 0 0) + 1) = cC (rnote S i kd) E rt := by unfold rnote; first | rw [if_neg (by omega), cC_30] | rw [if_pos (by omega), cC_30, cC_29, cC_28, cC_27, show (S 30 0 0 * 3).toNat = 3 * (S 30 0 0).toNat by omega, show (S 30 0 0 * 3 + 1).toNat = 3 * (S 30 0 0).toNat + 1 by omega, show (S 30 0 0 * 3 + 2).toNat = 3 * (S 30 0 0).toNat + 2 by omega]
    rw [e9] at hG
    exact W.vret hx hb hr (fun t ht hW => ⟨rfl, ⟨by rw [ht]; exact hG, va_K.moved hW.alike hK, fun q hq => hA q (Nat.le_trans hS.1 (by rw [← ht]; exact hq))⟩, hS.F ht⟩) hS.2.2 dX4_note_58
