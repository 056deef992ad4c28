set_option maxHeartbeats 4000000 in
set_option maxRecDepth 100000 in
theorem m_X0_hasRoom (l : Launch) (D : va_G) (cI cJ : ClassId) (A : Nat → Prop) (ad : Nat → Nat → Nat) (S : sT) (E : Nat → Int) (rt : Int) (i : Nat) (hI : Inv S) (hi : (i : Int) < S 5 0 0) : Met l yX0_hasRoom wsX0_hasRoom ({ frames := 0, cells := 0, slots := 0, locals := 0 }) (va_Pc [.ref (ad 3 i)] (gCU D cI cJ A ad (cAl S) (cC S E rt))) (gO (some (.int (zI (bZ (S 11 i 0 < S 3 i 0))))) (gCU D cI cJ A ad (cAl S) (cC S E rt)) A) 0 0 A := by
  refine Met.ofW (cc := cX0_hasRoom) (maxL := 1) (ret := (some .boolean)) (by decide) rfl ?_
  intro p e s m0 args below meth c s₁ B hml hv
  obtain ⟨rfl, hG, hK, hA⟩ := hv
  have hx := B.exec
  have hb := B.bytes
  have hr := B.returns
  have hts := atoms_spec (ws := wsX0_hasRoom) B.pre
  have hown : s.vm.findClass RX0 = some m0.cls := findClass_of_methodNamed B.named
  have hlocks := B.notSynchronized
  have hinX0 : ∀ w ∈ wsX00, w ∈ wsX0_hasRoom := by decide +kernel
  have hS : va_S A s.heap s.heap [] := va_S.rf
  have hl := lv_entry ([.ref (ad 3 i)]) (n := 1) (Nat.le_of_ble_eq_true rfl)
  rw [lg_entry_eq]
  generalize (lg_sl ([.ref (ad 3 i)]) ++ List.replicate (1 - (lg_sl ([.ref (ad 3 i)])).length) Slot.unset).toArray = ls at hl ⊢
  replace hl : lv_has ls 1 [(0, .ref (ad 3 i))] := hl
  obtain ⟨hI5, hI25, hI20, hIM, hIL, hIR⟩ := id hI
  obtain ⟨hM6, hM7, hM8, hM10, hM11, hM15, hM9, hMf⟩ := id (hIM i (by omega))
  obtain ⟨hL0, hL1, hL2, hL3, hL4⟩ := id (hIL i hi)
  refine lv_aload_n hx hb dX0_hasRoom_0 rfl (lv_at hl 0 rfl) ?_
  refine c_getV (Cn := RX0) (T := TX0) hx hb hts 3 hinX0 hown hK hG i 4 (show (i : Int) < S 5 0 0 by omega) (by decide) rfl (by decide) (hts (.fieldLink RX0 19 "LineEvents$Buffer" "count" "I") (by decide +kernel)) (cV_I (z := S 11 i 0) rfl (rfl)) dX0_hasRoom_1 ?_
  refine lv_aload_n hx hb dX0_hasRoom_4 rfl (lv_at hl 0 rfl) ?_
  refine c_getV (Cn := RX0) (T := TX0) hx hb hts 3 hinX0 hown hK hG i 0 (show (i : Int) < S 5 0 0 by omega) (by decide) rfl (by decide) (hts (.fieldLink RX0 9 "LineEvents$Buffer" "room" "I") (by decide +kernel)) (cV_I (z := S 3 i 0) rfl (rfl)) dX0_hasRoom_5 ?_
  refine z_icmp_ge (tgt := 15) hx hb dX0_hasRoom_8 (by decide) ⟨by omega, by omega⟩ ⟨by omega, by omega⟩ (fun c_1 => ?_) (fun c_1 => ?_)
  · refine lv_iconst (v := zI 0) hx hb dX0_hasRoom_15 rfl ?_
    have v9 : 0 = bZ (S 11 i 0 < S 3 i 0) := by first | (exfalso; omega) | exact (bZ_t (by omega)).symm | exact (bZ_f (by omega)).symm
    refine W.eq (congrArg (fun z => F0 m0 16 ls [.int (zI z)]) v9) ?_
    exact W.zret hx hb hr (zI_bool _) (fun t ht hW => ⟨rfl, ⟨by rw [ht]; exact hG, va_K.moved hW.alike hK, fun q hq => hA q (Nat.le_trans hS.1 (by rw [← ht]; exact hq))⟩, hS.F ht⟩) hS.2.2 dX0_hasRoom_16
  · refine lv_iconst (v := zI 1) hx hb dX0_hasRoom_11 rfl ?_
    refine lv_goto (tgt := 16) hx hb dX0_hasRoom_12 (by decide) ?_
    have v9 : 1 = bZ (S 11 i 0 < S 3 i 0) := by first | (exfalso; omega) | exact (bZ_t (by omega)).symm | exact (bZ_f (by omega)).symm
    refine W.eq (congrArg (fun z => F0 m0 16 ls [.int (zI z)]) v9) ?_
    exact W.zret hx hb hr (zI_bool _) (fun t ht hW => ⟨rfl, ⟨by rw [ht]; exact hG, va_K.moved hW.alike hK, fun q hq => hA q (Nat.le_trans hS.1 (by rw [← ht]; exact hq))⟩, hS.F ht⟩) hS.2.2 dX0_hasRoom_16
set_option maxHeartbeats 4000000 in
set_option maxRecDepth 100000 in
theorem m_X0_add (l : Launch) (D : va_G) (cI cJ : ClassId) (A : Nat → Prop) (ad : Nat → Nat → Nat) (S : sT) (E : Nat → Int) (rt : Int) (i : Nat) (z : Int) (hI : Inv S) (hi : (i : Int) < S 5 0 0) : Met l yX0_add wsX0_add ({ frames := 0, cells := 0, slots := 0, locals := 0 }) (va_Pc [.ref (ad 3 i), .int (zI z)] (gCU D cI cJ A ad (cAl S) (cC S E rt))) (gO none (gCU D cI cJ A ad (cAl S) (cC (radd S i z) E rt)) A) 0 0 A := by
  refine Met.ofW (cc := cX0_add) (maxL := 2) (ret := none) (by decide) rfl ?_
  intro p e s m0 args below meth c s₁ B hml hv
  obtain ⟨rfl, hG, hK, hA⟩ := hv
  have hx := B.exec
  have hb := B.bytes
  have hr := B.returns
  have hts := atoms_spec (ws := wsX0_add) B.pre
  have hown : s.vm.findClass RX0 = some m0.cls := findClass_of_methodNamed B.named
  have hlocks := B.notSynchronized
  have hinX0 : ∀ w ∈ wsX00, w ∈ wsX0_add := by decide +kernel
  have hS : va_S A s.heap s.heap [] := va_S.rf
  have hl := lv_entry ([.ref (ad 3 i), .int (zI z)]) (n := 2) (Nat.le_of_ble_eq_true rfl)
  rw [lg_entry_eq]
  generalize (lg_sl ([.ref (ad 3 i), .int (zI z)]) ++ List.replicate (2 - (lg_sl ([.ref (ad 3 i), .int (zI z)])).length) Slot.unset).toArray = ls at hl ⊢
  replace hl : lv_has ls 2 [(0, .ref (ad 3 i)), (1, .int (zI z))] := hl
  obtain ⟨hI5, hI25, hI20, hIM, hIL, hIR⟩ := id hI
  obtain ⟨hM6, hM7, hM8, hM10, hM11, hM15, hM9, hMf⟩ := id (hIM i (by omega))
  obtain ⟨hL0, hL1, hL2, hL3, hL4⟩ := id (hIL i hi)
  refine lv_aload_n hx hb dX0_add_0 rfl (lv_at hl 0 rfl) ?_
  refine c_getV (Cn := RX0) (T := TX0) hx hb hts 3 hinX0 hown hK hG i 2 (show (i : Int) < S 5 0 0 by omega) (by decide) rfl (by decide) (hts (.fieldLink RX0 15 "LineEvents$Buffer" "came" "[I") (by decide +kernel)) (cV_R (t := 4) (j := i) rfl (rfl)) dX0_add_1 ?_
  refine lv_aload_n hx hb dX0_add_4 rfl (lv_at hl 0 rfl) ?_
  refine c_getV (Cn := RX0) (T := TX0) hx hb hts 3 hinX0 hown hK hG i 3 (show (i : Int) < S 5 0 0 by omega) (by decide) rfl (by decide) (hts (.fieldLink RX0 22 "LineEvents$Buffer" "first" "I") (by decide +kernel)) (cV_I (z := S 10 i 0) rfl (rfl)) dX0_add_5 ?_
  refine lv_aload_n hx hb dX0_add_8 rfl (lv_at hl 0 rfl) ?_
  refine c_getV (Cn := RX0) (T := TX0) hx hb hts 3 hinX0 hown hK hG i 4 (show (i : Int) < S 5 0 0 by omega) (by decide) rfl (by decide) (hts (.fieldLink RX0 19 "LineEvents$Buffer" "count" "I") (by decide +kernel)) (cV_I (z := S 11 i 0) rfl (rfl)) dX0_add_9 ?_
  refine z_iadd hx hb dX0_add_12 ?_
  refine lv_sipush (v := zI 1000) hx hb dX0_add_13 (by decide) ?_
  refine z_irem hx hb dX0_add_16 ⟨by omega, by omega⟩ ⟨by omega, by omega⟩ ?_
  refine lv_iload_n hx hb dX0_add_17 rfl (lv_at hl 1 rfl) ?_
  refine c_iast hx hb hK hG hS 4 i 1000 (show (i : Int) < S 5 0 0 by omega) (fun _ => rfl) (z := ((S 10 i 0) + (S 11 i 0)) % 1000) (by omega) (by omega) (by decide) (w := z) dX0_add_18 (fun H locs hG hS => ?_)
  refine lv_aload_n hx hb dX0_add_19 rfl (lv_at hl 0 rfl) ?_
  refine lv_dup hx hb dX0_add_20 rfl ?_
  refine c_getV (Cn := RX0) (T := TX0) hx hb hts 3 hinX0 hown hK hG i 4 (show (i : Int) < S 5 0 0 by omega) (by decide) rfl (by decide) (hts (.fieldLink RX0 19 "LineEvents$Buffer" "count" "I") (by decide +kernel)) (cV_I (z := S 11 i 0) rfl ((su_v (by decide)).trans (rfl))) dX0_add_21 ?_
  refine lv_iconst (v := zI 1) hx hb dX0_add_24 rfl ?_
  refine z_iadd hx hb dX0_add_25 ?_
  refine c_putV (Cn := RX0) (T := TX0) (z := (S 11 i 0) + 1) hx hb hts 3 hinX0 tyX0 tyX0_ok nmX0 hown hK hG hS i 4 (show (i : Int) < S 5 0 0 by omega) (by decide) rfl (by decide) (hts (.fieldLink RX0 19 "LineEvents$Buffer" "count" "I") (by decide +kernel)) (Or.inl rfl) (cV_I (z := (S 11 i 0) + 1) rfl rfl) rfl rfl dX0_add_26 (fun H locs hG hS => ?_)
  have e9 : su (su (cC S E rt) 4 i ((((S 10 i 0) + (S 11 i 0)) % 1000).toNat) (z)) 3 i 4 ((S 11 i 0) + 1) = cC (radd S i z) E rt := by unfold radd; rw [cC_11, cC_9]
  rw [e9] at hG
  exact W.vret hx hb hr (fun t ht hW => ⟨rfl, ⟨by rw [ht]; exact hG, va_K.moved hW.alike hK, fun q hq => hA q (Nat.le_trans hS.1 (by rw [← ht]; exact hq))⟩, hS.F ht⟩) hS.2.2 dX0_add_29
set_option maxHeartbeats 4000000 in
set_option maxRecDepth 100000 in
theorem m_X0_readyAt (l : Launch) (D : va_G) (cI cJ : ClassId) (A : Nat → Prop) (ad : Nat → Nat → Nat) (S : sT) (E : Nat → Int) (rt : Int) (i : Nat) (hI : Inv S) (hi : (i : Int) < S 5 0 0) : Met l yX0_readyAt wsX0_readyAt ({ frames := 1, cells := 0, slots := 0, locals := 21 }) (va_Pc [.ref (ad 3 i)] (gCU D cI cJ A ad (cAl S) (cC S E rt))) (gO (some (.int (zI (rready S i)))) (gCU D cI cJ A ad (cAl S) (cC S E rt)) A) 0 0 A := by
  refine Met.ofW (cc := cX0_readyAt) (maxL := 1) (ret := (some .int)) (by decide) rfl ?_
  intro p e s m0 args below meth c s₁ B hml hv
  obtain ⟨rfl, hG, hK, hA⟩ := hv
  have hx := B.exec
  have hb := B.bytes
  have hr := B.returns
  have hts := atoms_spec (ws := wsX0_readyAt) B.pre
  have hown : s.vm.findClass RX0 = some m0.cls := findClass_of_methodNamed B.named
  have hlocks := B.notSynchronized
  have hinX0 : ∀ w ∈ wsX00, w ∈ wsX0_readyAt := by decide +kernel
  have hS : va_S A s.heap s.heap [] := va_S.rf
  have hl := lv_entry ([.ref (ad 3 i)]) (n := 1) (Nat.le_of_ble_eq_true rfl)
  rw [lg_entry_eq]
  generalize (lg_sl ([.ref (ad 3 i)]) ++ List.replicate (1 - (lg_sl ([.ref (ad 3 i)])).length) Slot.unset).toArray = ls at hl ⊢
  replace hl : lv_has ls 1 [(0, .ref (ad 3 i))] := hl
  obtain ⟨hI5, hI25, hI20, hIM, hIL, hIR⟩ := id hI
  obtain ⟨hM6, hM7, hM8, hM10, hM11, hM15, hM9, hMf⟩ := id (hIM i (by omega))
  obtain ⟨hL0, hL1, hL2, hL3, hL4⟩ := id (hIL i hi)
  have h9q := hM9 (S 10 i 0).toNat (by omega)
  refine lv_aload_n hx hb dX0_readyAt_0 rfl (lv_at hl 0 rfl) ?_
  refine c_getV (Cn := RX0) (T := TX0) hx hb hts 3 hinX0 hown hK hG i 4 (show (i : Int) < S 5 0 0 by omega) (by decide) rfl (by decide) (hts (.fieldLink RX0 19 "LineEvents$Buffer" "count" "I") (by decide +kernel)) (cV_I (z := S 11 i 0) rfl (rfl)) dX0_readyAt_1 ?_
  refine z_if_le (tgt := 28) hx hb dX0_readyAt_4 (by decide) ⟨by omega, by omega⟩ (fun c_1 => ?_) (fun c_1 => ?_)
  · refine z_ldc (z := 1000000000) hx hb hown (hts (.constant RX0 34 (1000000000)) (by decide +kernel)) (by decide) dX0_readyAt_28 ?_
    have v9 : 1000000000 = rready S i := by unfold rready; first | rw [if_pos (by omega)] | rw [if_neg (by omega)]
    refine W.eq (congrArg (fun z => F0 m0 30 ls [.int (zI z)]) v9) ?_
    exact W.iret hx hb hr (fun t ht hW => ⟨rfl, ⟨by rw [ht]; exact hG, va_K.moved hW.alike hK, fun q hq => hA q (Nat.le_trans hS.1 (by rw [← ht]; exact hq))⟩, hS.F ht⟩) hS.2.2 dX0_readyAt_30
  · refine lv_aload_n hx hb dX0_readyAt_7 rfl (lv_at hl 0 rfl) ?_
    refine c_getV (Cn := RX0) (T := TX0) hx hb hts 3 hinX0 hown hK hG i 2 (show (i : Int) < S 5 0 0 by omega) (by decide) rfl (by decide) (hts (.fieldLink RX0 15 "LineEvents$Buffer" "came" "[I") (by decide +kernel)) (cV_R (t := 4) (j := i) rfl (rfl)) dX0_readyAt_8 ?_
    refine lv_aload_n hx hb dX0_readyAt_11 rfl (lv_at hl 0 rfl) ?_
    refine c_getV (Cn := RX0) (T := TX0) hx hb hts 3 hinX0 hown hK hG i 3 (show (i : Int) < S 5 0 0 by omega) (by decide) rfl (by decide) (hts (.fieldLink RX0 22 "LineEvents$Buffer" "first" "I") (by decide +kernel)) (cV_I (z := S 10 i 0) rfl (rfl)) dX0_readyAt_12 ?_
    refine c_iald hx hb hK hG 4 i 1000 (show (i : Int) < S 5 0 0 by omega) (fun _ => rfl) (z := S 10 i 0) (by omega) (by omega) (by decide) (w := S 9 i (S 10 i 0).toNat) (rfl) dX0_readyAt_15 ?_
    refine lv_iconst (v := zI 1) hx hb dX0_readyAt_16 rfl ?_
    refine lv_aload_n hx hb dX0_readyAt_17 rfl (lv_at hl 0 rfl) ?_
    refine c_getV (Cn := RX0) (T := TX0) hx hb hts 3 hinX0 hown hK hG i 1 (show (i : Int) < S 5 0 0 by omega) (by decide) rfl (by decide) (hts (.fieldLink RX0 25 "LineEvents$Buffer" "delay" "I") (by decide +kernel)) (cV_I (z := S 4 i 0) rfl (rfl)) dX0_readyAt_18 ?_
    refine z_max hx hb (by rw [hml]; exact hl.1.symm) hown (hts (.methodLink RX0 28 Lib.Math.max.name) (by decide +kernel)) (hts (.static Lib.Math.max.name) (by decide +kernel)) (hts (.initialized "java/lang/Math") (by decide +kernel)) (hts (.code Lib.Math.max.name Lib.Math.max.code 2 (some .int)) (by decide +kernel)) (Nat.le_of_ble_eq_true rfl) (Nat.le_of_ble_eq_true rfl) (Nat.zero_le _) (Nat.zero_le _) ⟨by decide, by decide⟩ ⟨by omega, by omega⟩ dX0_readyAt_21 ?_
    refine z_iadd hx hb dX0_readyAt_24 ?_
    refine lv_goto (tgt := 30) hx hb dX0_readyAt_25 (by decide) ?_
    have v9 : (S 9 i (S 10 i 0).toNat) + (max 1 (S 4 i 0)) = rready S i := by unfold rready; first | rw [if_pos (by omega)] | rw [if_neg (by omega)]
    refine W.eq (congrArg (fun z => F0 m0 30 ls [.int (zI z)]) v9) ?_
    exact W.iret hx hb hr (fun t ht hW => ⟨rfl, ⟨by rw [ht]; exact hG, va_K.moved hW.alike hK, fun q hq => hA q (Nat.le_trans hS.1 (by rw [← ht]; exact hq))⟩, hS.F ht⟩) hS.2.2 dX0_readyAt_30
set_option maxHeartbeats 4000000 in
set_option maxRecDepth 100000 in
theorem m_X0_isReady (l : Launch) (D : va_G) (cI cJ : ClassId) (A : Nat → Prop) (ad : Nat → Nat → Nat) (S : sT) (E : Nat → Int) (rt : Int) (i : Nat) (z : Int) (hI : Inv S) (hi : (i : Int) < S 5 0 0) (hz : zB z) : Met l yX0_isReady wsX0_isReady ({ frames := 2, cells := 0, slots := 0, locals := 41 }) (va_Pc [.ref (ad 3 i), .int (zI z)] (gCU D cI cJ A ad (cAl S) (cC S E rt))) (gO (some (.int (zI (bZ (0 < S 11 i 0 ∧ rready S i ≤ z))))) (gCU D cI cJ A ad (cAl S) (cC S E rt)) A) 0 0 A := by
  refine Met.ofW (cc := cX0_isReady) (maxL := 2) (ret := (some .boolean)) (by decide) rfl ?_
  intro p e s m0 args below meth c s₁ B hml hv
  obtain ⟨rfl, hG, hK, hA⟩ := hv
  have hx := B.exec
  have hb := B.bytes
  have hr := B.returns
  have hts := atoms_spec (ws := wsX0_isReady) B.pre
  have hown : s.vm.findClass RX0 = some m0.cls := findClass_of_methodNamed B.named
  have hlocks := B.notSynchronized
  have hinX0 : ∀ w ∈ wsX00, w ∈ wsX0_isReady := by decide +kernel
  have hS : va_S A s.heap s.heap [] := va_S.rf
  have hl := lv_entry ([.ref (ad 3 i), .int (zI z)]) (n := 2) (Nat.le_of_ble_eq_true rfl)
  rw [lg_entry_eq]
  generalize (lg_sl ([.ref (ad 3 i), .int (zI z)]) ++ List.replicate (2 - (lg_sl ([.ref (ad 3 i), .int (zI z)])).length) Slot.unset).toArray = ls at hl ⊢
  replace hl : lv_has ls 2 [(0, .ref (ad 3 i)), (1, .int (zI z))] := hl
  obtain ⟨hI5, hI25, hI20, hIM, hIL, hIR⟩ := id hI
  obtain ⟨hM6, hM7, hM8, hM10, hM11, hM15, hM9, hMf⟩ := id (hIM i (by omega))
  obtain ⟨hL0, hL1, hL2, hL3, hL4⟩ := id (hIL i hi)
  have h9q := hM9 (S 10 i 0).toNat (by omega)
  have hrd : 0 ≤ rready S i ∧ rready S i ≤ 1000000000 + 10001 := by unfold rready; split <;> omega
  refine lv_aload_n hx hb dX0_isReady_0 rfl (lv_at hl 0 rfl) ?_
  refine c_getV (Cn := RX0) (T := TX0) hx hb hts 3 hinX0 hown hK hG i 4 (show (i : Int) < S 5 0 0 by omega) (by decide) rfl (by decide) (hts (.fieldLink RX0 19 "LineEvents$Buffer" "count" "I") (by decide +kernel)) (cV_I (z := S 11 i 0) rfl (rfl)) dX0_isReady_1 ?_
  refine z_if_le (tgt := 19) hx hb dX0_isReady_4 (by decide) ⟨by omega, by omega⟩ (fun c_1 => ?_) (fun c_1 => ?_)
  · refine lv_iconst (v := zI 0) hx hb dX0_isReady_19 rfl ?_
    have v9 : 0 = bZ (0 < S 11 i 0 ∧ rready S i ≤ z) := by first | (exfalso; omega) | exact (bZ_t (by omega)).symm | exact (bZ_f (by omega)).symm
    refine W.eq (congrArg (fun z => F0 m0 20 ls [.int (zI z)]) v9) ?_
    exact W.zret hx hb hr (zI_bool _) (fun t ht hW => ⟨rfl, ⟨by rw [ht]; exact hG, va_K.moved hW.alike hK, fun q hq => hA q (Nat.le_trans hS.1 (by rw [← ht]; exact hq))⟩, hS.F ht⟩) hS.2.2 dX0_isReady_20
  · refine lv_iload_n hx hb dX0_isReady_7 rfl (lv_at hl 1 rfl) ?_
    refine lv_aload_n hx hb dX0_isReady_8 rfl (lv_at hl 0 rfl) ?_
    refine c_callV (As := []) (rest := [.int (zI z)]) (Cn := RX0) (T := TX0) ⟨hx, hb, hml, hown, hts⟩ 3 i (m_X0_readyAt l D cI cJ A ad S E rt i hI hi) (cwV 0 hts gX0_isReady_X0_readyAt rfl rfl rfl (by decide +kernel) ⟨Nat.le_of_ble_eq_true rfl, Nat.le_of_ble_eq_true rfl⟩) (show (i : Int) < S 5 0 0 by omega) (by decide) rfl hK hG hS hA rfl hl.1 rfl (Nat.le_of_ble_eq_true rfl) dX0_isReady_9 ⟨Nat.zero_le _, Nat.zero_le _⟩ (fun t9 H locs ht9 hB hS => ?_)
    have hG := hB.1; rw [ht9] at hG; clear hB ht9
    refine z_icmp_lt (tgt := 19) hx hb dX0_isReady_12 (by decide) ⟨by omega, by omega⟩ ⟨by omega, by omega⟩ (fun c_2 => ?_) (fun c_2 => ?_)
    · refine lv_iconst (v := zI 0) hx hb dX0_isReady_19 rfl ?_
      have v9 : 0 = bZ (0 < S 11 i 0 ∧ rready S i ≤ z) := by first | (exfalso; omega) | exact (bZ_t (by omega)).symm | exact (bZ_f (by omega)).symm
      refine W.eq (congrArg (fun z => F0 m0 20 ls [.int (zI z)]) v9) ?_
      exact W.zret hx hb hr (zI_bool _) (fun t ht hW => ⟨rfl, ⟨by rw [ht]; exact hG, va_K.moved hW.alike hK, fun q hq => hA q (Nat.le_trans hS.1 (by rw [← ht]; exact hq))⟩, hS.F ht⟩) hS.2.2 dX0_isReady_20
    · refine lv_iconst (v := zI 1) hx hb dX0_isReady_15 rfl ?_
      refine lv_goto (tgt := 20) hx hb dX0_isReady_16 (by decide) ?_
      have v9 : 1 = bZ (0 < S 11 i 0 ∧ rready S i ≤ z) := by first | (exfalso; omega) | exact (bZ_t (by omega)).symm | exact (bZ_f (by omega)).symm
      refine W.eq (congrArg (fun z => F0 m0 20 ls [.int (zI z)]) v9) ?_
      exact W.zret hx hb hr (zI_bool _) (fun t ht hW => ⟨rfl, ⟨by rw [ht]; exact hG, va_K.moved hW.alike hK, fun q hq => hA q (Nat.le_trans hS.1 (by rw [← ht]; exact hq))⟩, hS.F ht⟩) hS.2.2 dX0_isReady_20
set_option maxHeartbeats 4000000 in
set_option maxRecDepth 100000 in
theorem m_X0_removeFirst (l : Launch) (D : va_G) (cI cJ : ClassId) (A : Nat → Prop) (ad : Nat → Nat → Nat) (S : sT) (E : Nat → Int) (rt : Int) (i : Nat) (hI : Inv S) (hi : (i : Int) < S 5 0 0) : Met l yX0_removeFirst wsX0_removeFirst ({ frames := 0, cells := 0, slots := 0, locals := 0 }) (va_Pc [.ref (ad 3 i)] (gCU D cI cJ A ad (cAl S) (cC S E rt))) (gO none (gCU D cI cJ A ad (cAl S) (cC (rpop S i) E rt)) A) 0 0 A := by
  refine Met.ofW (cc := cX0_removeFirst) (maxL := 1) (ret := none) (by decide) rfl ?_
  intro p e s m0 args below meth c s₁ B hml hv
  obtain ⟨rfl, hG, hK, hA⟩ := hv
  have hx := B.exec
  have hb := B.bytes
  have hr := B.returns
  have hts := atoms_spec (ws := wsX0_removeFirst) B.pre
  have hown : s.vm.findClass RX0 = some m0.cls := findClass_of_methodNamed B.named
  have hlocks := B.notSynchronized
  have hinX0 : ∀ w ∈ wsX00, w ∈ wsX0_removeFirst := by decide +kernel
  have hS : va_S A s.heap s.heap [] := va_S.rf
  have hl := lv_entry ([.ref (ad 3 i)]) (n := 1) (Nat.le_of_ble_eq_true rfl)
  rw [lg_entry_eq]
  generalize (lg_sl ([.ref (ad 3 i)]) ++ List.replicate (1 - (lg_sl ([.ref (ad 3 i)])).length) Slot.unset).toArray = ls at hl ⊢
  replace hl : lv_has ls 1 [(0, .ref (ad 3 i))] := hl
  obtain ⟨hI5, hI25, hI20, hIM, hIL, hIR⟩ := id hI
  obtain ⟨hM6, hM7, hM8, hM10, hM11, hM15, hM9, hMf⟩ := id (hIM i (by omega))
  obtain ⟨hL0, hL1, hL2, hL3, hL4⟩ := id (hIL i hi)
  refine lv_aload_n hx hb dX0_removeFirst_0 rfl (lv_at hl 0 rfl) ?_
  refine lv_aload_n hx hb dX0_removeFirst_1 rfl (lv_at hl 0 rfl) ?_
  refine c_getV (Cn := RX0) (T := TX0) hx hb hts 3 hinX0 hown hK hG i 3 (show (i : Int) < S 5 0 0 by omega) (by decide) rfl (by decide) (hts (.fieldLink RX0 22 "LineEvents$Buffer" "first" "I") (by decide +kernel)) (cV_I (z := S 10 i 0) rfl (rfl)) dX0_removeFirst_2 ?_
  refine lv_iconst (v := zI 1) hx hb dX0_removeFirst_5 rfl ?_
  refine z_iadd hx hb dX0_removeFirst_6 ?_
  refine lv_sipush (v := zI 1000) hx hb dX0_removeFirst_7 (by decide) ?_
  refine z_irem hx hb dX0_removeFirst_10 ⟨by omega, by omega⟩ ⟨by omega, by omega⟩ ?_
  refine c_putV (Cn := RX0) (T := TX0) (z := ((S 10 i 0) + 1) % 1000) hx hb hts 3 hinX0 tyX0 tyX0_ok nmX0 hown hK hG hS i 3 (show (i : Int) < S 5 0 0 by omega) (by decide) rfl (by decide) (hts (.fieldLink RX0 22 "LineEvents$Buffer" "first" "I") (by decide +kernel)) (Or.inl rfl) (cV_I (z := ((S 10 i 0) + 1) % 1000) rfl rfl) rfl rfl dX0_removeFirst_11 (fun H locs hG hS => ?_)
  refine lv_aload_n hx hb dX0_removeFirst_14 rfl (lv_at hl 0 rfl) ?_
  refine lv_dup hx hb dX0_removeFirst_15 rfl ?_
  refine c_getV (Cn := RX0) (T := TX0) hx hb hts 3 hinX0 hown hK hG i 4 (show (i : Int) < S 5 0 0 by omega) (by decide) rfl (by decide) (hts (.fieldLink RX0 19 "LineEvents$Buffer" "count" "I") (by decide +kernel)) (cV_I (z := S 11 i 0) rfl ((su_f (by decide)).trans (rfl))) dX0_removeFirst_16 ?_
  refine lv_iconst (v := zI 1) hx hb dX0_removeFirst_19 rfl ?_
  refine z_isub hx hb dX0_removeFirst_20 ?_
  refine c_putV (Cn := RX0) (T := TX0) (z := (S 11 i 0) - 1) hx hb hts 3 hinX0 tyX0 tyX0_ok nmX0 hown hK hG hS i 4 (show (i : Int) < S 5 0 0 by omega) (by decide) rfl (by decide) (hts (.fieldLink RX0 19 "LineEvents$Buffer" "count" "I") (by decide +kernel)) (Or.inl rfl) (cV_I (z := (S 11 i 0) - 1) rfl rfl) rfl rfl dX0_removeFirst_21 (fun H locs hG hS => ?_)
  have e9 : su (su (cC S E rt) 3 i 3 (((S 10 i 0) + 1) % 1000)) 3 i 4 ((S 11 i 0) - 1) = cC (rpop S i) E rt := by unfold rpop; rw [cC_11, cC_10]
  rw [e9] at hG
  exact W.vret hx hb hr (fun t ht hW => ⟨rfl, ⟨by rw [ht]; exact hG, va_K.moved hW.alike hK, fun q hq => hA q (Nat.le_trans hS.1 (by rw [← ht]; exact hq))⟩, hS.F ht⟩) hS.2.2 dX0_removeFirst_24
set_option maxHeartbeats 4000000 in
set_option maxRecDepth 100000 in
theorem m_X2_stands (l : Launch) (D : va_G) (cI cJ : ClassId) (A : Nat → Prop) (ad : Nat → Nat → Nat) (S : sT) (E : Nat → Int) (rt : Int) (i : Nat) (z : Int) (hI : Inv S) (hi : (i : Int) < S 5 0 0) (hz : zB z) (hE : -1 ≤ E i ∧ E i ≤ 9) : Met l yX2_stands wsX2_stands ({ frames := 0, cells := 0, slots := 0, locals := 0 }) (va_Pc [.ref (ad 2 i), .int (zI z)] (gCU D cI cJ A ad (cAl S) (cC S E rt))) (gO (some (.int (zI (bZ (¬ E i = -1 ∨ z < S 8 i 0))))) (gCU D cI cJ A ad (cAl S) (cC S E rt)) A) 0 0 A := by
  refine Met.ofW (cc := cX2_stands) (maxL := 2) (ret := (some .boolean)) (by decide) rfl ?_
  intro p e s m0 args below meth c s₁ B hml hv
  obtain ⟨rfl, hG, hK, hA⟩ := hv
  have hx := B.exec
  have hb := B.bytes
  have hr := B.returns
  have hts := atoms_spec (ws := wsX2_stands) B.pre
  have hown : s.vm.findClass RX2 = some m0.cls := findClass_of_methodNamed B.named
  have hlocks := B.notSynchronized
  have hinX2 : ∀ w ∈ wsX20, w ∈ wsX2_stands := by decide +kernel
  have hS : va_S A s.heap s.heap [] := va_S.rf
  have hl := lv_entry ([.ref (ad 2 i), .int (zI z)]) (n := 2) (Nat.le_of_ble_eq_true rfl)
  rw [lg_entry_eq]
  generalize (lg_sl ([.ref (ad 2 i), .int (zI z)]) ++ List.replicate (2 - (lg_sl ([.ref (ad 2 i), .int (zI z)])).length) Slot.unset).toArray = ls at hl ⊢
  replace hl : lv_has ls 2 [(0, .ref (ad 2 i)), (1, .int (zI z))] := hl
  obtain ⟨hI5, hI25, hI20, hIM, hIL, hIR⟩ := id hI
  obtain ⟨hM6, hM7, hM8, hM10, hM11, hM15, hM9, hMf⟩ := id (hIM i (by omega))
  obtain ⟨hL0, hL1, hL2, hL3, hL4⟩ := id (hIL i hi)
  refine lv_aload_n hx hb dX2_stands_0 rfl (lv_at hl 0 rfl) ?_
  refine c_getV (Cn := RX2) (T := TX2) hx hb hts 2 hinX2 hown hK hG i 9 (show (i : Int) < S 5 0 0 by omega) (by decide) rfl (by decide) (hts (.fieldLink RX2 18 "LineEvents$Machine" "rowCause" "I") (by decide +kernel)) (cV_I (z := E i) rfl (rfl)) dX2_stands_1 ?_
  refine lv_iconst (v := zI (-1)) hx hb dX2_stands_4 rfl ?_
  refine z_icmp_ne (tgt := 16) hx hb dX2_stands_5 (by decide) ⟨by omega, by omega⟩ ⟨by decide, by decide⟩ (fun c_1 => ?_) (fun c_1 => ?_)
  · refine lv_iconst (v := zI 1) hx hb dX2_stands_16 rfl ?_
    refine lv_goto (tgt := 21) hx hb dX2_stands_17 (by decide) ?_
    have v9 : 1 = bZ (¬ E i = -1 ∨ z < S 8 i 0) := by first | (exfalso; omega) | exact (bZ_t (by omega)).symm | exact (bZ_f (by omega)).symm
    refine W.eq (congrArg (fun z => F0 m0 21 ls [.int (zI z)]) v9) ?_
    exact W.zret hx hb hr (zI_bool _) (fun t ht hW => ⟨rfl, ⟨by rw [ht]; exact hG, va_K.moved hW.alike hK, fun q hq => hA q (Nat.le_trans hS.1 (by rw [← ht]; exact hq))⟩, hS.F ht⟩) hS.2.2 dX2_stands_21
  · refine lv_iload_n hx hb dX2_stands_8 rfl (lv_at hl 1 rfl) ?_
    refine lv_aload_n hx hb dX2_stands_9 rfl (lv_at hl 0 rfl) ?_
    refine c_getV (Cn := RX2) (T := TX2) hx hb hts 2 hinX2 hown hK hG i 10 (show (i : Int) < S 5 0 0 by omega) (by decide) rfl (by decide) (hts (.fieldLink RX2 54 "LineEvents$Machine" "faultEnd" "I") (by decide +kernel)) (cV_I (z := S 8 i 0) rfl (rfl)) dX2_stands_10 ?_
    refine z_icmp_ge (tgt := 20) hx hb dX2_stands_13 (by decide) ⟨by omega, by omega⟩ ⟨by omega, by omega⟩ (fun c_2 => ?_) (fun c_2 => ?_)
    · refine lv_iconst (v := zI 0) hx hb dX2_stands_20 rfl ?_
      have v9 : 0 = bZ (¬ E i = -1 ∨ z < S 8 i 0) := by first | (exfalso; omega) | exact (bZ_t (by omega)).symm | exact (bZ_f (by omega)).symm
      refine W.eq (congrArg (fun z => F0 m0 21 ls [.int (zI z)]) v9) ?_
      exact W.zret hx hb hr (zI_bool _) (fun t ht hW => ⟨rfl, ⟨by rw [ht]; exact hG, va_K.moved hW.alike hK, fun q hq => hA q (Nat.le_trans hS.1 (by rw [← ht]; exact hq))⟩, hS.F ht⟩) hS.2.2 dX2_stands_21
    · refine lv_iconst (v := zI 1) hx hb dX2_stands_16 rfl ?_
      refine lv_goto (tgt := 21) hx hb dX2_stands_17 (by decide) ?_
      have v9 : 1 = bZ (¬ E i = -1 ∨ z < S 8 i 0) := by first | (exfalso; omega) | exact (bZ_t (by omega)).symm | exact (bZ_f (by omega)).symm
      refine W.eq (congrArg (fun z => F0 m0 21 ls [.int (zI z)]) v9) ?_
      exact W.zret hx hb hr (zI_bool _) (fun t ht hW => ⟨rfl, ⟨by rw [ht]; exact hG, va_K.moved hW.alike hK, fun q hq => hA q (Nat.le_trans hS.1 (by rw [← ht]; exact hq))⟩, hS.F ht⟩) hS.2.2 dX2_stands_21
set_option maxHeartbeats 4000000 in
set_option maxRecDepth 100000 in
theorem m_X2_isDone (l : Launch) (D : va_G) (cI cJ : ClassId) (A : Nat → Prop) (ad : Nat → Nat → Nat) (S : sT) (E : Nat → Int) (rt : Int) (i : Nat) (hI : Inv S) (hi : (i : Int) < S 5 0 0) : Met l yX2_isDone wsX2_isDone ({ frames := 0, cells := 0, slots := 0, locals := 0 }) (va_Pc [.ref (ad 2 i)] (gCU D cI cJ A ad (cAl S) (cC S E rt))) (gO (some (.int (zI (bZ (¬ S 6 i 0 = 0 ∧ S 0 i 0 ≤ S 7 i 0))))) (gCU D cI cJ A ad (cAl S) (cC S E rt)) A) 0 0 A := by
  refine Met.ofW (cc := cX2_isDone) (maxL := 1) (ret := (some .boolean)) (by decide) rfl ?_
  intro p e s m0 args below meth c s₁ B hml hv
  obtain ⟨rfl, hG, hK, hA⟩ := hv
  have hx := B.exec
  have hb := B.bytes
  have hr := B.returns
  have hts := atoms_spec (ws := wsX2_isDone) B.pre
  have hown : s.vm.findClass RX2 = some m0.cls := findClass_of_methodNamed B.named
  have hlocks := B.notSynchronized
  have hinX2 : ∀ w ∈ wsX20, w ∈ wsX2_isDone := by decide +kernel
  have hS : va_S A s.heap s.heap [] := va_S.rf
  have hl := lv_entry ([.ref (ad 2 i)]) (n := 1) (Nat.le_of_ble_eq_true rfl)
  rw [lg_entry_eq]
  generalize (lg_sl ([.ref (ad 2 i)]) ++ List.replicate (1 - (lg_sl ([.ref (ad 2 i)])).length) Slot.unset).toArray = ls at hl ⊢
  replace hl : lv_has ls 1 [(0, .ref (ad 2 i))] := hl
  obtain ⟨hI5, hI25, hI20, hIM, hIL, hIR⟩ := id hI
  obtain ⟨hM6, hM7, hM8, hM10, hM11, hM15, hM9, hMf⟩ := id (hIM i (by omega))
  obtain ⟨hL0, hL1, hL2, hL3, hL4⟩ := id (hIL i hi)
  refine lv_aload_n hx hb dX2_isDone_0 rfl (lv_at hl 0 rfl) ?_
  refine c_getV (Cn := RX2) (T := TX2) hx hb hts 2 hinX2 hown hK hG i 11 (show (i : Int) < S 5 0 0 by omega) (by decide) rfl (by decide) (hts (.fieldLink RX2 57 "LineEvents$Machine" "hasBottle" "Z") (by decide +kernel)) (cV_I (z := bZ (¬ S 6 i 0 = 0)) rfl (rfl)) dX2_isDone_1 ?_
  refine z_ifb_eq (tgt := 22) hx hb dX2_isDone_4 (by decide) (fun c_1 => ?_) (fun c_1 => ?_)
  · refine lv_iconst (v := zI 0) hx hb dX2_isDone_22 rfl ?_
    have v9 : 0 = bZ (¬ S 6 i 0 = 0 ∧ S 0 i 0 ≤ S 7 i 0) := by first | (exfalso; omega) | exact (bZ_t (by rw [if_neg (by omega)] at *; omega)).symm | exact (bZ_f (by rw [if_neg (by omega)] at *; omega)).symm | exact (bZ_f (by omega)).symm
    refine W.eq (congrArg (fun z => F0 m0 23 ls [.int (zI z)]) v9) ?_
    exact W.zret hx hb hr (zI_bool _) (fun t ht hW => ⟨rfl, ⟨by rw [ht]; exact hG, va_K.moved hW.alike hK, fun q hq => hA q (Nat.le_trans hS.1 (by rw [← ht]; exact hq))⟩, hS.F ht⟩) hS.2.2 dX2_isDone_23
  · refine lv_aload_n hx hb dX2_isDone_7 rfl (lv_at hl 0 rfl) ?_
    refine c_getV (Cn := RX2) (T := TX2) hx hb hts 2 hinX2 hown hK hG i 12 (show (i : Int) < S 5 0 0 by omega) (by decide) rfl (by decide) (hts (.fieldLink RX2 61 "LineEvents$Machine" "worked" "I") (by decide +kernel)) (cV_I (z := if S 6 i 0 = 0 then 0 else S 7 i 0) rfl (rfl)) dX2_isDone_8 ?_
    refine lv_aload_n hx hb dX2_isDone_11 rfl (lv_at hl 0 rfl) ?_
    refine c_getV (Cn := RX2) (T := TX2) hx hb hts 2 hinX2 hown hK hG i 1 (show (i : Int) < S 5 0 0 by omega) (by decide) rfl (by decide) (hts (.fieldLink RX2 29 "LineEvents$Machine" "takes" "I") (by decide +kernel)) (cV_I (z := S 0 i 0) rfl (rfl)) dX2_isDone_12 ?_
    refine z_icmp_lt (tgt := 22) hx hb dX2_isDone_15 (by decide) (by split <;> exact ⟨by omega, by omega⟩) ⟨by omega, by omega⟩ (fun c_2 => ?_) (fun c_2 => ?_)
    · refine lv_iconst (v := zI 0) hx hb dX2_isDone_22 rfl ?_
      have v9 : 0 = bZ (¬ S 6 i 0 = 0 ∧ S 0 i 0 ≤ S 7 i 0) := by first | (exfalso; omega) | exact (bZ_t (by rw [if_neg (by omega)] at *; omega)).symm | exact (bZ_f (by rw [if_neg (by omega)] at *; omega)).symm | exact (bZ_f (by omega)).symm
      refine W.eq (congrArg (fun z => F0 m0 23 ls [.int (zI z)]) v9) ?_
      exact W.zret hx hb hr (zI_bool _) (fun t ht hW => ⟨rfl, ⟨by rw [ht]; exact hG, va_K.moved hW.alike hK, fun q hq => hA q (Nat.le_trans hS.1 (by rw [← ht]; exact hq))⟩, hS.F ht⟩) hS.2.2 dX2_isDone_23
    · refine lv_iconst (v := zI 1) hx hb dX2_isDone_18 rfl ?_
      refine lv_goto (tgt := 23) hx hb dX2_isDone_19 (by decide) ?_
      have v9 : 1 = bZ (¬ S 6 i 0 = 0 ∧ S 0 i 0 ≤ S 7 i 0) := by first | (exfalso; omega) | exact (bZ_t (by rw [if_neg (by omega)] at *; omega)).symm | exact (bZ_f (by rw [if_neg (by omega)] at *; omega)).symm | exact (bZ_f (by omega)).symm
      refine W.eq (congrArg (fun z => F0 m0 23 ls [.int (zI z)]) v9) ?_
      exact W.zret hx hb hr (zI_bool _) (fun t ht hW => ⟨rfl, ⟨by rw [ht]; exact hG, va_K.moved hW.alike hK, fun q hq => hA q (Nat.le_trans hS.1 (by rw [← ht]; exact hq))⟩, hS.F ht⟩) hS.2.2 dX2_isDone_23
set_option maxHeartbeats 4000000 in
set_option maxRecDepth 100000 in
theorem m_X2_putAway (l : Launch) (D : va_G) (cI cJ : ClassId) (A : Nat → Prop) (ad : Nat → Nat → Nat) (S : sT) (E : Nat → Int) (rt : Int) (i : Nat) (hI : Inv S) (hi : (i : Int) < S 5 0 0) : Met l yX2_putAway wsX2_putAway ({ frames := 0, cells := 0, slots := 0, locals := 0 }) (va_Pc [.ref (ad 2 i)] (gCU D cI cJ A ad (cAl S) (cC S E rt))) (gO none (gCU D cI cJ A ad (cAl S) (cC (su S 6 i 0 0) E rt)) A) 0 0 A := by
  refine Met.ofW (cc := cX2_putAway) (maxL := 1) (ret := none) (by decide) rfl ?_
  intro p e s m0 args below meth c s₁ B hml hv
  obtain ⟨rfl, hG, hK, hA⟩ := hv
  have hx := B.exec
  have hb := B.bytes
  have hr := B.returns
  have hts := atoms_spec (ws := wsX2_putAway) B.pre
  have hown : s.vm.findClass RX2 = some m0.cls := findClass_of_methodNamed B.named
  have hlocks := B.notSynchronized
  have hinX2 : ∀ w ∈ wsX20, w ∈ wsX2_putAway := by decide +kernel
  have hS : va_S A s.heap s.heap [] := va_S.rf
  have hl := lv_entry ([.ref (ad 2 i)]) (n := 1) (Nat.le_of_ble_eq_true rfl)
  rw [lg_entry_eq]
  generalize (lg_sl ([.ref (ad 2 i)]) ++ List.replicate (1 - (lg_sl ([.ref (ad 2 i)])).length) Slot.unset).toArray = ls at hl ⊢
  replace hl : lv_has ls 1 [(0, .ref (ad 2 i))] := hl
  obtain ⟨hI5, hI25, hI20, hIM, hIL, hIR⟩ := id hI
  obtain ⟨hM6, hM7, hM8, hM10, hM11, hM15, hM9, hMf⟩ := id (hIM i (by omega))
  obtain ⟨hL0, hL1, hL2, hL3, hL4⟩ := id (hIL i hi)
  refine lv_aload_n hx hb dX2_putAway_0 rfl (lv_at hl 0 rfl) ?_
  refine lv_iconst (v := zI 0) hx hb dX2_putAway_1 rfl ?_
  refine c_putV (Cn := RX2) (T := TX2) (z := 0) hx hb hts 2 hinX2 tyX2 tyX2_ok nmX2 hown hK hG hS i 11 (show (i : Int) < S 5 0 0 by omega) (by decide) rfl (by decide) (hts (.fieldLink RX2 57 "LineEvents$Machine" "hasBottle" "Z") (by decide +kernel)) (Or.inl rfl) (cV_I (z := 0) rfl rfl) (by decide +kernel) rfl dX2_putAway_2 (fun H locs hG hS => ?_)
  refine lv_aload_n hx hb dX2_putAway_5 rfl (lv_at hl 0 rfl) ?_
  refine lv_iconst (v := zI 0) hx hb dX2_putAway_6 rfl ?_
  refine c_putV (Cn := RX2) (T := TX2) (z := 0) hx hb hts 2 hinX2 tyX2 tyX2_ok nmX2 hown hK hG hS i 13 (show (i : Int) < S 5 0 0 by omega) (by decide) rfl (by decide) (hts (.fieldLink RX2 64 "LineEvents$Machine" "judged" "Z") (by decide +kernel)) (Or.inl rfl) (cV_I (z := 0) rfl rfl) (by decide +kernel) rfl dX2_putAway_7 (fun H locs hG hS => ?_)
  refine lv_aload_n hx hb dX2_putAway_10 rfl (lv_at hl 0 rfl) ?_
  refine lv_iconst (v := zI 0) hx hb dX2_putAway_11 rfl ?_
  refine c_putV (Cn := RX2) (T := TX2) (z := 0) hx hb hts 2 hinX2 tyX2 tyX2_ok nmX2 hown hK hG hS i 12 (show (i : Int) < S 5 0 0 by omega) (by decide) rfl (by decide) (hts (.fieldLink RX2 61 "LineEvents$Machine" "worked" "I") (by decide +kernel)) (Or.inl rfl) (cV_I (z := 0) rfl rfl) rfl rfl dX2_putAway_12 (fun H locs hG hS => ?_)
  have e9 : su (su (su (cC S E rt) 2 i 11 (0)) 2 i 13 (0)) 2 i 12 (0) = cC (su S 6 i 0 0) E rt := by rw [cC_6]; rfl
  rw [e9] at hG
  exact W.vret hx hb hr (fun t ht hW => ⟨rfl, ⟨by rw [ht]; exact hG, va_K.moved hW.alike hK, fun q hq => hA q (Nat.le_trans hS.1 (by rw [← ht]; exact hq))⟩, hS.F ht⟩) hS.2.2 dX2_putAway_15
set_option maxHeartbeats 4000000 in
set_option maxRecDepth 100000 in
theorem m_X2_causeAt (l : Launch) (D : va_G) (cI cJ : ClassId) (A : Nat → Prop) (ad : Nat → Nat → Nat) (S : sT) (E : Nat → Int) (rt : Int) (i : Nat) (z : Int) (hI : Inv S) (hi : (i : Int) < S 5 0 0) (hz : zB z) (hE : -1 ≤ E i ∧ E i ≤ 9) : Met l yX2_causeAt wsX2_causeAt ({ frames := 0, cells := 0, slots := 0, locals := 0 }) (va_Pc [.ref (ad 2 i), .int (zI z)] (gCU D cI cJ A ad (cAl S) (cC S E rt))) (gO (some (.int (zI (ccause S E i z)))) (gCU D cI cJ A ad (cAl S) (cC S E rt)) A) 0 0 A := by
  refine Met.ofW (cc := cX2_causeAt) (maxL := 2) (ret := (some .int)) (by decide) rfl ?_
  intro p e s m0 args below meth c s₁ B hml hv
  obtain ⟨rfl, hG, hK, hA⟩ := hv
  have hx := B.exec
  have hb := B.bytes
  have hr := B.returns
  have hts := atoms_spec (ws := wsX2_causeAt) B.pre
  have hown : s.vm.findClass RX2 = some m0.cls := findClass_of_methodNamed B.named
  have hlocks := B.notSynchronized
  have hinX2 : ∀ w ∈ wsX20, w ∈ wsX2_causeAt := by decide +kernel
  have hS : va_S A s.heap s.heap [] := va_S.rf
  have hl := lv_entry ([.ref (ad 2 i), .int (zI z)]) (n := 2) (Nat.le_of_ble_eq_true rfl)
  rw [lg_entry_eq]
  generalize (lg_sl ([.ref (ad 2 i), .int (zI z)]) ++ List.replicate (2 - (lg_sl ([.ref (ad 2 i), .int (zI z)])).length) Slot.unset).toArray = ls at hl ⊢
  replace hl : lv_has ls 2 [(0, .ref (ad 2 i)), (1, .int (zI z))] := hl
  obtain ⟨hI5, hI25, hI20, hIM, hIL, hIR⟩ := id hI
  obtain ⟨hM6, hM7, hM8, hM10, hM11, hM15, hM9, hMf⟩ := id (hIM i (by omega))
  obtain ⟨hL0, hL1, hL2, hL3, hL4⟩ := id (hIL i hi)
  refine lv_aload_n hx hb dX2_causeAt_0 rfl (lv_at hl 0 rfl) ?_
  refine c_getV (Cn := RX2) (T := TX2) hx hb hts 2 hinX2 hown hK hG i 9 (show (i : Int) < S 5 0 0 by omega) (by decide) rfl (by decide) (hts (.fieldLink RX2 18 "LineEvents$Machine" "rowCause" "I") (by decide +kernel)) (cV_I (z := E i) rfl (rfl)) dX2_causeAt_1 ?_
  refine lv_iconst (v := zI (-1)) hx hb dX2_causeAt_4 rfl ?_
  refine z_icmp_eq (tgt := 13) hx hb dX2_causeAt_5 (by decide) ⟨by omega, by omega⟩ ⟨by decide, by decide⟩ (fun c_1 => ?_) (fun c_1 => ?_)
  · refine lv_iload_n hx hb dX2_causeAt_13 rfl (lv_at hl 1 rfl) ?_
    refine lv_aload_n hx hb dX2_causeAt_14 rfl (lv_at hl 0 rfl) ?_
    refine c_getV (Cn := RX2) (T := TX2) hx hb hts 2 hinX2 hown hK hG i 10 (show (i : Int) < S 5 0 0 by omega) (by decide) rfl (by decide) (hts (.fieldLink RX2 54 "LineEvents$Machine" "faultEnd" "I") (by decide +kernel)) (cV_I (z := S 8 i 0) rfl (rfl)) dX2_causeAt_15 ?_
    refine z_icmp_ge (tgt := 23) hx hb dX2_causeAt_18 (by decide) ⟨by omega, by omega⟩ ⟨by omega, by omega⟩ (fun c_2 => ?_) (fun c_2 => ?_)
    · refine lv_aload_n hx hb dX2_causeAt_23 rfl (lv_at hl 0 rfl) ?_
      refine c_getV (Cn := RX2) (T := TX2) hx hb hts 2 hinX2 hown hK hG i 11 (show (i : Int) < S 5 0 0 by omega) (by decide) rfl (by decide) (hts (.fieldLink RX2 57 "LineEvents$Machine" "hasBottle" "Z") (by decide +kernel)) (cV_I (z := bZ (¬ S 6 i 0 = 0)) rfl (rfl)) dX2_causeAt_24 ?_
      refine z_ifb_ne (tgt := 33) hx hb dX2_causeAt_27 (by decide) (fun c_3 => ?_) (fun c_3 => ?_)
      · refine lv_aload_n hx hb dX2_causeAt_33 rfl (lv_at hl 0 rfl) ?_
        refine c_getV (Cn := RX2) (T := TX2) hx hb hts 2 hinX2 hown hK hG i 12 (show (i : Int) < S 5 0 0 by omega) (by decide) rfl (by decide) (hts (.fieldLink RX2 61 "LineEvents$Machine" "worked" "I") (by decide +kernel)) (cV_I (z := if S 6 i 0 = 0 then 0 else S 7 i 0) rfl (rfl)) dX2_causeAt_34 ?_
        refine lv_aload_n hx hb dX2_causeAt_37 rfl (lv_at hl 0 rfl) ?_
        refine c_getV (Cn := RX2) (T := TX2) hx hb hts 2 hinX2 hown hK hG i 1 (show (i : Int) < S 5 0 0 by omega) (by decide) rfl (by decide) (hts (.fieldLink RX2 29 "LineEvents$Machine" "takes" "I") (by decide +kernel)) (cV_I (z := S 0 i 0) rfl (rfl)) dX2_causeAt_38 ?_
        refine z_icmp_ge (tgt := 48) hx hb dX2_causeAt_41 (by decide) (by split <;> exact ⟨by omega, by omega⟩) ⟨by omega, by omega⟩ (fun c_4 => ?_) (fun c_4 => ?_)
        · refine lv_bipush (v := zI 11) hx hb dX2_causeAt_48 (by decide) ?_
          have v9 : 11 = ccause S E i z := by unfold ccause; first | (exfalso; omega) | rw [if_neg (by omega)] | rw [if_pos (by omega), if_pos (by omega)] | rw [if_pos (by omega), if_neg (by omega), if_pos (by omega)] | (rw [if_neg (by omega)] at *; rw [if_pos (by omega), if_neg (by omega), if_neg (by omega), if_pos (by omega)]) | (rw [if_neg (by omega)] at *; rw [if_pos (by omega), if_neg (by omega), if_neg (by omega), if_neg (by omega)])
          refine W.eq (congrArg (fun z => F0 m0 50 ls [.int (zI z)]) v9) ?_
          exact W.iret hx hb hr (fun t ht hW => ⟨rfl, ⟨by rw [ht]; exact hG, va_K.moved hW.alike hK, fun q hq => hA q (Nat.le_trans hS.1 (by rw [← ht]; exact hq))⟩, hS.F ht⟩) hS.2.2 dX2_causeAt_50
        · refine lv_iconst (v := zI 0) hx hb dX2_causeAt_44 rfl ?_
          refine lv_goto (tgt := 50) hx hb dX2_causeAt_45 (by decide) ?_
          have v9 : 0 = ccause S E i z := by unfold ccause; first | (exfalso; omega) | rw [if_neg (by omega)] | rw [if_pos (by omega), if_pos (by omega)] | rw [if_pos (by omega), if_neg (by omega), if_pos (by omega)] | (rw [if_neg (by omega)] at *; rw [if_pos (by omega), if_neg (by omega), if_neg (by omega), if_pos (by omega)]) | (rw [if_neg (by omega)] at *; rw [if_pos (by omega), if_neg (by omega), if_neg (by omega), if_neg (by omega)])
          refine W.eq (congrArg (fun z => F0 m0 50 ls [.int (zI z)]) v9) ?_
          exact W.iret hx hb hr (fun t ht hW => ⟨rfl, ⟨by rw [ht]; exact hG, va_K.moved hW.alike hK, fun q hq => hA q (Nat.le_trans hS.1 (by rw [← ht]; exact hq))⟩, hS.F ht⟩) hS.2.2 dX2_causeAt_50
      · refine lv_bipush (v := zI 10) hx hb dX2_causeAt_30 (by decide) ?_
        have v9 : 10 = ccause S E i z := by unfold ccause; first | (exfalso; omega) | rw [if_neg (by omega)] | rw [if_pos (by omega), if_pos (by omega)] | rw [if_pos (by omega), if_neg (by omega), if_pos (by omega)] | (rw [if_neg (by omega)] at *; rw [if_pos (by omega), if_neg (by omega), if_neg (by omega), if_pos (by omega)]) | (rw [if_neg (by omega)] at *; rw [if_pos (by omega), if_neg (by omega), if_neg (by omega), if_neg (by omega)])
        refine W.eq (congrArg (fun z => F0 m0 32 ls [.int (zI z)]) v9) ?_
        exact W.iret hx hb hr (fun t ht hW => ⟨rfl, ⟨by rw [ht]; exact hG, va_K.moved hW.alike hK, fun q hq => hA q (Nat.le_trans hS.1 (by rw [← ht]; exact hq))⟩, hS.F ht⟩) hS.2.2 dX2_causeAt_32
    · refine lv_iconst (v := zI 3) hx hb dX2_causeAt_21 rfl ?_
      have v9 : 3 = ccause S E i z := by unfold ccause; first | (exfalso; omega) | rw [if_neg (by omega)] | rw [if_pos (by omega), if_pos (by omega)] | rw [if_pos (by omega), if_neg (by omega), if_pos (by omega)] | (rw [if_neg (by omega)] at *; rw [if_pos (by omega), if_neg (by omega), if_neg (by omega), if_pos (by omega)]) | (rw [if_neg (by omega)] at *; rw [if_pos (by omega), if_neg (by omega), if_neg (by omega), if_neg (by omega)])
      refine W.eq (congrArg (fun z => F0 m0 22 ls [.int (zI z)]) v9) ?_
      exact W.iret hx hb hr (fun t ht hW => ⟨rfl, ⟨by rw [ht]; exact hG, va_K.moved hW.alike hK, fun q hq => hA q (Nat.le_trans hS.1 (by rw [← ht]; exact hq))⟩, hS.F ht⟩) hS.2.2 dX2_causeAt_22
  · refine lv_aload_n hx hb dX2_causeAt_8 rfl (lv_at hl 0 rfl) ?_
    refine c_getV (Cn := RX2) (T := TX2) hx hb hts 2 hinX2 hown hK hG i 9 (show (i : Int) < S 5 0 0 by omega) (by decide) rfl (by decide) (hts (.fieldLink RX2 18 "LineEvents$Machine" "rowCause" "I") (by decide +kernel)) (cV_I (z := E i) rfl (rfl)) dX2_causeAt_9 ?_
    have v9 : E i = ccause S E i z := by unfold ccause; first | (exfalso; omega) | rw [if_neg (by omega)] | rw [if_pos (by omega), if_pos (by omega)] | rw [if_pos (by omega), if_neg (by omega), if_pos (by omega)] | (rw [if_neg (by omega)] at *; rw [if_pos (by omega), if_neg (by omega), if_neg (by omega), if_pos (by omega)]) | (rw [if_neg (by omega)] at *; rw [if_pos (by omega), if_neg (by omega), if_neg (by omega), if_neg (by omega)])
    refine W.eq (congrArg (fun z => F0 m0 12 ls [.int (zI z)]) v9) ?_
    exact W.iret hx hb hr (fun t ht hW => ⟨rfl, ⟨by rw [ht]; exact hG, va_K.moved hW.alike hK, fun q hq => hA q (Nat.le_trans hS.1 (by rw [← ht]; exact hq))⟩, hS.F ht⟩) hS.2.2 dX2_causeAt_12
