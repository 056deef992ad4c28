set_option maxHeartbeats 4000000 in
set_option maxRecDepth 100000 in
theorem m_X4_find (l : Launch) (D : va_G) (cI cJ : ClassId) (A : Nat → Prop) (ad : Nat → Nat → Nat) (al : Nat → Nat → Prop) (S : sT) (E : Nat → Int) (rt : Int) (hal : alS al S) (z : Int) (hz : zB z) (hI : Inv S) : Met l yX4_find wsX4_find ({ frames := 0, cells := 0, slots := 0, locals := 0 }) (va_Pc [.ref (ad 0 0), .int (zI z)] (gCU D cI cJ A ad al (cC S E rt))) (gO (some (rf ad 2 (if 0 ≤ z ∧ z < S 5 0 0 then z else -1))) (gCU D cI cJ A ad al (cC S E rt)) A) 0 0 A := by
  refine Met.ofW (cc := cX4_find) (maxL := 3) (ret := (some (.object "LineEvents$Machine"))) (by decide) rfl ?_
  intro p e s m0 args below meth c s₁ B hml hv
  obtain ⟨rfl, hG, hK, hA⟩ := hv
  have hx := B.exec
  have hb := B.bytes
  have hr := B.returns
  have hts := atoms_spec (ws := wsX4_find) B.pre
  have hown : s.vm.findClass RX4 = some m0.cls := findClass_of_methodNamed B.named
  have hlocks := B.notSynchronized
  have hinX2 : ∀ w ∈ wsX20, w ∈ wsX4_find := by decide +kernel
  have hinX4 : ∀ w ∈ wsX40, w ∈ wsX4_find := by decide +kernel
  have hS : va_S A s.heap s.heap [] := va_S.rf
  have hl := lv_entry ([.ref (ad 0 0), .int (zI z)]) (n := 3) (Nat.le_of_ble_eq_true rfl)
  rw [lg_entry_eq]
  generalize (lg_sl ([.ref (ad 0 0), .int (zI z)]) ++ List.replicate (3 - (lg_sl ([.ref (ad 0 0), .int (zI z)])).length) Slot.unset).toArray = ls at hl ⊢
  replace hl : lv_has ls 3 [(0, .ref (ad 0 0)), (1, .int (zI z))] := hl
  obtain ⟨hI5, hI25, hI20, hIM, hIL, hIR⟩ := id hI
  by_cases hn0 : S 5 0 0 = 0
  · refine lv_aload_n hx hb dX4_find_0 rfl (lv_at hl 0 rfl) ?_
    refine c_getV (Cn := RX4) (T := TX4) hx hb hts 0 hinX4 hown hK hG 0 2 (hal 0 0 rfl) (by decide) rfl (by decide) (hts (.fieldLink RX4 38 "LineEvents" "highest" "LLineEvents$Machine;") (by decide +kernel)) (cV_N (t := 2) rfl (show S 5 0 0 - 1 < 0 by omega)) dX4_find_1 ?_
    refine lv_astore_nN (lv' := [(2, .null), (0, .ref (ad 0 0)), (1, .int (zI z))]) hx hb dX4_find_4 rfl hl (by decide) rfl (fun ls hl => ?_)
    refine lv_aload_nN hx hb dX4_find_5 rfl (lv_at hl 0 rfl) ?_
    refine lv_ifnullN (tgt := 27) hx hb dX4_find_6 (by decide) ?_
    refine lv_null hx hb dX4_find_27 ?_
    have v9 : .null = rf ad 2 (if 0 ≤ z ∧ z < S 5 0 0 then z else -1) := by rw [if_neg (by omega)]; exact (rf_n (by decide)).symm
    refine W.eq (congrArg (fun z => F0 m0 28 ls [z]) v9) ?_
    exact W.aret hx hb hr (Or.inl ⟨_, rfl⟩) (rf_or _ _ _) (fun t ht hW => ⟨rfl, ⟨by rw [ht]; exact hG, va_K.moved hW.alike hK, fun q hq => hA q (Nat.le_trans hS.1 (by rw [← ht]; exact hq))⟩, hS.F ht⟩) hS.2.2 dX4_find_28
  · obtain ⟨i, hin9⟩ : ∃ i : Nat, (i : Int) + 1 = S 5 0 0 := ⟨(S 5 0 0 - 1).toNat, by omega⟩
    refine lv_aload_n hx hb dX4_find_0 rfl (lv_at hl 0 rfl) ?_
    refine c_getV (Cn := RX4) (T := TX4) hx hb hts 0 hinX4 hown hK hG 0 2 (hal 0 0 rfl) (by decide) rfl (by decide) (hts (.fieldLink RX4 38 "LineEvents" "highest" "LLineEvents$Machine;") (by decide +kernel)) (cV_R (t := 2) (j := i) rfl (show S 5 0 0 - 1 = (i : Int) by omega)) dX4_find_1 ?_
    refine lv_astore_n (lv' := [(2, .ref (ad 2 i)), (0, .ref (ad 0 0)), (1, .int (zI z))]) hx hb dX4_find_4 rfl hl (by decide) rfl (fun ls hl => ?_)
    have hiS : (i : Int) < S 5 0 0 := by omega
    have hzi : z ≤ (i : Int) ∨ S 5 0 0 ≤ z := by omega
    clear hin9
    induction i generalizing ls  with
    | zero =>
      have hiS1 := hiS
      refine lv_aload_n hx hb dX4_find_5 rfl (lv_at hl 0 rfl) ?_
      refine lv_ifnull hx hb dX4_find_6 ?_
      refine lv_aload_n hx hb dX4_find_9 rfl (lv_at hl 0 rfl) ?_
      refine c_getV (Cn := RX2) (T := TX2) hx hb hts 2 hinX2 hown hK hG 0 0 (hal 2 0 (show ((0 : Nat) : Int) < S 5 0 0 by omega)) (by decide) rfl (by decide) (hts (.fieldLink RX4 45 "LineEvents$Machine" "number" "I") (by decide +kernel)) (cV_I (z := 0) rfl (rfl)) dX4_find_10 ?_
      refine lv_iload_n hx hb dX4_find_13 rfl (lv_at hl 2 rfl) ?_
      refine z_icmp_ne (tgt := 19) hx hb dX4_find_14 (by decide) ⟨by omega, by omega⟩ ⟨by omega, by omega⟩ (fun c_1 => ?_) (fun c_1 => ?_)
      · refine lv_aload_n hx hb dX4_find_19 rfl (lv_at hl 0 rfl) ?_
        refine c_getV (Cn := RX2) (T := TX2) hx hb hts 2 hinX2 hown hK hG 0 2 (hal 2 0 (show ((0 : Nat) : Int) < S 5 0 0 by omega)) (by decide) rfl (by decide) (hts (.fieldLink RX4 118 "LineEvents$Machine" "lower" "LLineEvents$Machine;") (by decide +kernel)) (cV_N (t := 2) rfl (neg_of (b := ((0 : Nat) : Int) - 1) (rfl) (by decide))) dX4_find_20 ?_
        refine lv_astore_nN (lv' := [(2, .null), (0, .ref (ad 0 0)), (1, .int (zI z))]) hx hb dX4_find_23 rfl hl (by decide) rfl (fun ls hl => ?_)
        refine lv_goto (tgt := 5) hx hb dX4_find_24 (by decide) ?_
        refine lv_aload_nN hx hb dX4_find_5 rfl (lv_at hl 0 rfl) ?_
        refine lv_ifnullN (tgt := 27) hx hb dX4_find_6 (by decide) ?_
        refine lv_null hx hb dX4_find_27 ?_
        have v9 : .null = rf ad 2 (if 0 ≤ z ∧ z < S 5 0 0 then z else -1) := by rw [if_neg (by omega)]; exact (rf_n (by decide)).symm
        refine W.eq (congrArg (fun z => F0 m0 28 ls [z]) v9) ?_
        exact W.aret hx hb hr (Or.inl ⟨_, rfl⟩) (rf_or _ _ _) (fun t ht hW => ⟨rfl, ⟨by rw [ht]; exact hG, va_K.moved hW.alike hK, fun q hq => hA q (Nat.le_trans hS.1 (by rw [← ht]; exact hq))⟩, hS.F ht⟩) hS.2.2 dX4_find_28
      · refine lv_aload_n hx hb dX4_find_17 rfl (lv_at hl 0 rfl) ?_
        have v9 : .ref (ad 2 0) = rf ad 2 (if 0 ≤ z ∧ z < S 5 0 0 then z else -1) := by rw [if_pos (by omega)]; exact (rf_s (by omega)).symm
        refine W.eq (congrArg (fun z => F0 m0 18 ls [z]) v9) ?_
        exact W.aret hx hb hr (Or.inl ⟨_, rfl⟩) (rf_or _ _ _) (fun t ht hW => ⟨rfl, ⟨by rw [ht]; exact hG, va_K.moved hW.alike hK, fun q hq => hA q (Nat.le_trans hS.1 (by rw [← ht]; exact hq))⟩, hS.F ht⟩) hS.2.2 dX4_find_18
    | succ i ih =>
      have hiS1 := hiS
      refine lv_aload_n hx hb dX4_find_5 rfl (lv_at hl 0 rfl) ?_
      refine lv_ifnull hx hb dX4_find_6 ?_
      refine lv_aload_n hx hb dX4_find_9 rfl (lv_at hl 0 rfl) ?_
      refine c_getV (Cn := RX2) (T := TX2) hx hb hts 2 hinX2 hown hK hG (i + 1) 0 (hal 2 (i + 1) (show (((i + 1) : Nat) : Int) < S 5 0 0 by omega)) (by decide) rfl (by decide) (hts (.fieldLink RX4 45 "LineEvents$Machine" "number" "I") (by decide +kernel)) (cV_I (z := (((i + 1) : Nat) : Int)) rfl (rfl)) dX4_find_10 ?_
      refine lv_iload_n hx hb dX4_find_13 rfl (lv_at hl 2 rfl) ?_
      refine z_icmp_ne (tgt := 19) hx hb dX4_find_14 (by decide) ⟨by omega, by omega⟩ ⟨by omega, by omega⟩ (fun c_2 => ?_) (fun c_2 => ?_)
      · refine lv_aload_n hx hb dX4_find_19 rfl (lv_at hl 0 rfl) ?_
        refine c_getV (Cn := RX2) (T := TX2) hx hb hts 2 hinX2 hown hK hG (i + 1) 2 (hal 2 (i + 1) (show (((i + 1) : Nat) : Int) < S 5 0 0 by omega)) (by decide) rfl (by decide) (hts (.fieldLink RX4 118 "LineEvents$Machine" "lower" "LLineEvents$Machine;") (by decide +kernel)) (cV_R (t := 2) (j := i) rfl ((rfl).trans (show ((i + 1 : Nat) : Int) - 1 = (i : Int) by omega))) dX4_find_20 ?_
        refine lv_astore_n (lv' := [(2, .ref (ad 2 i)), (0, .ref (ad 0 0)), (1, .int (zI z))]) hx hb dX4_find_23 rfl hl (by decide) rfl (fun ls hl => ?_)
        refine lv_goto (tgt := 5) hx hb dX4_find_24 (by decide) ?_
        exact ih (ls := ls) (hl := lv_sub hl [0, 1, 2] rfl) (hiS := by omega) (hzi := by omega)
      · refine lv_aload_n hx hb dX4_find_17 rfl (lv_at hl 0 rfl) ?_
        have v9 : .ref (ad 2 (i + 1)) = rf ad 2 (if 0 ≤ z ∧ z < S 5 0 0 then z else -1) := by rw [if_pos (by omega)]; exact (rf_s (by omega)).symm
        refine W.eq (congrArg (fun z => F0 m0 18 ls [z]) v9) ?_
        exact W.aret hx hb hr (Or.inl ⟨_, rfl⟩) (rf_or _ _ _) (fun t ht hW => ⟨rfl, ⟨by rw [ht]; exact hG, va_K.moved hW.alike hK, fun q hq => hA q (Nat.le_trans hS.1 (by rw [← ht]; exact hq))⟩, hS.F ht⟩) hS.2.2 dX4_find_18
set_option maxHeartbeats 4000000 in
set_option maxRecDepth 100000 in
theorem m_X4_made (l : Launch) (D : va_G) (cI cJ : ClassId) (A : Nat → Prop) (ad : Nat → Nat → Nat) (al : Nat → Nat → Prop) (S : sT) (E : Nat → Int) (rt : Int) (hal : alS al S)   : Met l yX4_made wsX4_made ({ frames := 0, cells := 0, slots := 0, locals := 0 }) (va_Pc [.ref (ad 0 0)] (gCU D cI cJ A ad al (cC S E rt))) (gO (some (.long (zL (S 24 0 0)))) (gCU D cI cJ A ad al (cC S E rt)) A) 0 0 A := by
  refine Met.ofW (cc := cX4_made) (maxL := 1) (ret := (some .long)) (by decide) rfl ?_
  intro p e s m0 args below meth c s₁ B hml hv
  obtain ⟨rfl, hG, hK, hA⟩ := hv
  have hx := B.exec
  have hb := B.bytes
  have hr := B.returns
  have hts := atoms_spec (ws := wsX4_made) B.pre
  have hown : s.vm.findClass RX4 = some m0.cls := findClass_of_methodNamed B.named
  have hlocks := B.notSynchronized
  have hinX4 : ∀ w ∈ wsX40, w ∈ wsX4_made := by decide +kernel
  have hS : va_S A s.heap s.heap [] := va_S.rf
  have hl := lv_entry ([.ref (ad 0 0)]) (n := 1) (Nat.le_of_ble_eq_true rfl)
  rw [lg_entry_eq]
  generalize (lg_sl ([.ref (ad 0 0)]) ++ List.replicate (1 - (lg_sl ([.ref (ad 0 0)])).length) Slot.unset).toArray = ls at hl ⊢
  replace hl : lv_has ls 1 [(0, .ref (ad 0 0))] := hl
  refine lv_aload_n hx hb dX4_made_0 rfl (lv_at hl 0 rfl) ?_
  refine c_getV (Cn := RX4) (T := TX4) hx hb hts 0 hinX4 hown hK hG 0 10 (hal 0 0 rfl) (by decide) rfl (by decide) (hts (.fieldLink RX4 109 "LineEvents" "madeCount" "J") (by decide +kernel)) (cV_J (z := S 24 0 0) rfl (rfl)) dX4_made_1 ?_
  have v9 : S 24 0 0 = S 24 0 0 := by rfl
  refine W.eq (congrArg (fun z => F0 m0 4 ls [.long (zL z)]) v9) ?_
  exact W.lret hx hb hr (fun t ht hW => ⟨rfl, ⟨by rw [ht]; exact hG, va_K.moved hW.alike hK, fun q hq => hA q (Nat.le_trans hS.1 (by rw [← ht]; exact hq))⟩, hS.F ht⟩) hS.2.2 dX4_made_4
theorem reventV_n {S : sT} {k q : Int} (h : ¬ (0 ≤ k ∧ k < S 30 0 0 ∧ k < 1000) ∨ ¬ (0 ≤ q ∧ q ≤ 2)) : reventV S k q = -1 := by
  unfold reventV
  by_cases hk : 0 ≤ k ∧ k < S 30 0 0 ∧ k < 1000
  · rw [if_pos hk, if_neg (by omega), if_neg (by omega), if_neg (by omega)]
  · rw [if_neg hk]
set_option maxHeartbeats 4000000 in
set_option maxRecDepth 100000 in
theorem m_X4_event (l : Launch) (D : va_G) (cI cJ : ClassId) (A : Nat → Prop) (ad : Nat → Nat → Nat) (al : Nat → Nat → Prop) (S : sT) (E : Nat → Int) (rt : Int) (hal : alS al S) (k q : Int) (hk0 : zB k) (hq0 : zB q) (he : 0 ≤ S 30 0 0 ∧ S 30 0 0 < 2147483647) : Met l yX4_event wsX4_event ({ frames := 1, cells := 0, slots := 0, locals := 22 }) (va_Pc [.ref (ad 0 0), .int (zI k), .int (zI q)] (gCU D cI cJ A ad al (cC S E rt))) (gO (some (.int (zI (reventV S k q)))) (gCU D cI cJ A ad al (cC S E rt)) A) 0 0 A := by
  refine Met.ofW (cc := cX4_event) (maxL := 3) (ret := (some .int)) (by decide) rfl ?_
  intro p e s m0 args below meth c s₁ B hml hv
  obtain ⟨rfl, hG, hK, hA⟩ := hv
  have hx := B.exec
  have hb := B.bytes
  have hr := B.returns
  have hts := atoms_spec (ws := wsX4_event) B.pre
  have hown : s.vm.findClass RX4 = some m0.cls := findClass_of_methodNamed B.named
  have hlocks := B.notSynchronized
  have hinX4 : ∀ w ∈ wsX40, w ∈ wsX4_event := by decide +kernel
  have hS : va_S A s.heap s.heap [] := va_S.rf
  have hl := lv_entry ([.ref (ad 0 0), .int (zI k), .int (zI q)]) (n := 3) (Nat.le_of_ble_eq_true rfl)
  rw [lg_entry_eq]
  generalize (lg_sl ([.ref (ad 0 0), .int (zI k), .int (zI q)]) ++ List.replicate (3 - (lg_sl ([.ref (ad 0 0), .int (zI k), .int (zI q)])).length) Slot.unset).toArray = ls at hl ⊢
  replace hl : lv_has ls 3 [(0, .ref (ad 0 0)), (1, .int (zI k)), (2, .int (zI q))] := hl
  refine lv_iload_n hx hb dX4_event_0 rfl (lv_at hl 1 rfl) ?_
  refine z_if_lt (tgt := 28) hx hb dX4_event_1 (by decide) ⟨by omega, by omega⟩ (fun c_1 => ?_) (fun c_1 => ?_)
  · refine lv_iconst (v := zI (-1)) hx hb dX4_event_28 rfl ?_
    have v9 : (-1) = reventV S k q := by exact (reventV_n (by omega)).symm
    refine W.eq (congrArg (fun z => F0 m0 29 ls [.int (zI z)]) v9) ?_
    exact W.iret hx hb hr (fun t ht hW => ⟨rfl, ⟨by rw [ht]; exact hG, va_K.moved hW.alike hK, fun q hq => hA q (Nat.le_trans hS.1 (by rw [← ht]; exact hq))⟩, hS.F ht⟩) hS.2.2 dX4_event_29
  · refine lv_iload_n hx hb dX4_event_4 rfl (lv_at hl 1 rfl) ?_
    refine lv_aload_n hx hb dX4_event_5 rfl (lv_at hl 0 rfl) ?_
    refine c_getV (Cn := RX4) (T := TX4) hx hb hts 0 hinX4 hown hK hG 0 8 (hal 0 0 rfl) (by decide) rfl (by decide) (hts (.fieldLink RX4 80 "LineEvents" "eventCount" "I") (by decide +kernel)) (cV_I (z := S 30 0 0) rfl (rfl)) dX4_event_6 ?_
    refine z_icmp_ge (tgt := 28) hx hb dX4_event_9 (by decide) ⟨by omega, by omega⟩ ⟨by omega, by omega⟩ (fun c_2 => ?_) (fun c_2 => ?_)
    · refine lv_iconst (v := zI (-1)) hx hb dX4_event_28 rfl ?_
      have v9 : (-1) = reventV S k q := by exact (reventV_n (by omega)).symm
      refine W.eq (congrArg (fun z => F0 m0 29 ls [.int (zI z)]) v9) ?_
      exact W.iret hx hb hr (fun t ht hW => ⟨rfl, ⟨by rw [ht]; exact hG, va_K.moved hW.alike hK, fun q hq => hA q (Nat.le_trans hS.1 (by rw [← ht]; exact hq))⟩, hS.F ht⟩) hS.2.2 dX4_event_29
    · refine lv_iload_n hx hb dX4_event_12 rfl (lv_at hl 1 rfl) ?_
      refine lv_sipush (v := zI 1000) hx hb dX4_event_13 (by decide) ?_
      refine z_icmp_ge (tgt := 28) hx hb dX4_event_16 (by decide) ⟨by omega, by omega⟩ ⟨by decide, by decide⟩ (fun c_3 => ?_) (fun c_3 => ?_)
      · refine lv_iconst (v := zI (-1)) hx hb dX4_event_28 rfl ?_
        have v9 : (-1) = reventV S k q := by exact (reventV_n (by omega)).symm
        refine W.eq (congrArg (fun z => F0 m0 29 ls [.int (zI z)]) v9) ?_
        exact W.iret hx hb hr (fun t ht hW => ⟨rfl, ⟨by rw [ht]; exact hG, va_K.moved hW.alike hK, fun q hq => hA q (Nat.le_trans hS.1 (by rw [← ht]; exact hq))⟩, hS.F ht⟩) hS.2.2 dX4_event_29
      · refine lv_iload_n hx hb dX4_event_19 rfl (lv_at hl 2 rfl) ?_
        refine lv_iconst (v := zI 0) hx hb dX4_event_20 rfl ?_
        refine lv_iconst (v := zI 2) hx hb dX4_event_21 rfl ?_
        refine c_callS (As := [.int (zI q), .int (zI 0), .int (zI 2)]) (rest := []) ⟨hx, hb, hml, hown, hts⟩ (m_X4_within l D cI cJ A ad al S E rt hal q 0 2 ⟨by omega, by omega⟩ ⟨by decide, by decide⟩ ⟨by decide, by decide⟩) (va_cwS 3 hts gX4_event_X4_within rfl rfl rfl (by decide +kernel) ⟨Nat.le_of_ble_eq_true rfl, Nat.le_of_ble_eq_true rfl⟩) hK hG hS hA rfl hl.1 rfl (Nat.le_of_ble_eq_true rfl) dX4_event_22 ⟨Nat.zero_le _, Nat.zero_le _⟩ (fun t9 H locs ht9 hB hS => ?_)
        have hG := hB.1; rw [ht9] at hG; clear hB ht9
        refine z_ifb_ne (tgt := 30) hx hb dX4_event_25 (by decide) (fun c_4 => ?_) (fun c_4 => ?_)
        · refine lv_aload_n hx hb dX4_event_30 rfl (lv_at hl 0 rfl) ?_
          refine c_getV (Cn := RX4) (T := TX4) hx hb hts 0 hinX4 hown hK hG 0 7 (hal 0 0 rfl) (by decide) rfl (by decide) (hts (.fieldLink RX4 9 "LineEvents" "events" "[I") (by decide +kernel)) (cV_R (t := 1) (j := 0) rfl (rfl)) dX4_event_31 ?_
          refine lv_iload_n hx hb dX4_event_34 rfl (lv_at hl 1 rfl) ?_
          refine lv_iconst (v := zI 3) hx hb dX4_event_35 rfl ?_
          refine z_imul hx hb dX4_event_36 ?_
          refine lv_iload_n hx hb dX4_event_37 rfl (lv_at hl 2 rfl) ?_
          refine z_iadd hx hb dX4_event_38 ?_
          refine c_iald hx hb hK hG 1 0 3000 (hal 1 0 rfl) (fun _ => rfl) (z := (k * 3) + q) (by omega) (by omega) (by decide) (w := evv S k q) (ev_at S E rt (by omega) (by omega)) dX4_event_39 ?_
          have v9 : evv S k q = reventV S k q := by unfold reventV; rw [if_pos (by omega)]; rfl
          refine W.eq (congrArg (fun z => F0 m0 40 ls [.int (zI z)]) v9) ?_
          exact W.iret hx hb hr (fun t ht hW => ⟨rfl, ⟨by rw [ht]; exact hG, va_K.moved hW.alike hK, fun q hq => hA q (Nat.le_trans hS.1 (by rw [← ht]; exact hq))⟩, hS.F ht⟩) hS.2.2 dX4_event_40
        · refine lv_iconst (v := zI (-1)) hx hb dX4_event_28 rfl ?_
          have v9 : (-1) = reventV S k q := by exact (reventV_n (by omega)).symm
          refine W.eq (congrArg (fun z => F0 m0 29 ls [.int (zI z)]) v9) ?_
          exact W.iret hx hb hr (fun t ht hW => ⟨rfl, ⟨by rw [ht]; exact hG, va_K.moved hW.alike hK, fun q hq => hA q (Nat.le_trans hS.1 (by rw [← ht]; exact hq))⟩, hS.F ht⟩) hS.2.2 dX4_event_29
theorem cins_s (S : sT) (n : Nat) (q : Int) : cins S (n + 1) q = cins S n (if S 6 n 0 = 0 then q + S 11 n 0 else q + S 11 n 0 + 1) := rfl
theorem cins_eq9 (S : sT) : cins S (S 5 0 0).toNat 0 = rwithin S := cins_eq S _ _
theorem ckl_s (S : sT) (n : Nat) (z : Int) : ckl S (n + 1) z = if zL (rsum S n 12 0 0) = zL (S 25 0 0) then ckl S n (z + S 22 n 0) else false := rfl
theorem ckl_eq9 (S : sT) : ckl S (S 5 0 0).toNat (S 24 0 0 + rwithin S) = rkeptV S := ckl_eq S _ _
set_option maxHeartbeats 4000000 in
set_option maxRecDepth 100000 in
theorem m_X4_inside (l : Launch) (D : va_G) (cI cJ : ClassId) (A : Nat → Prop) (ad : Nat → Nat → Nat) (al : Nat → Nat → Prop) (S : sT) (E : Nat → Int) (rt : Int) (hal : alS al S)  (hI : Inv S) : Met l yX4_inside wsX4_inside ({ frames := 0, cells := 0, slots := 0, locals := 0 }) (va_Pc [.ref (ad 0 0)] (gCU D cI cJ A ad al (cC S E rt))) (gO (some (.long (zL (rwithin S)))) (gCU D cI cJ A ad al (cC S E rt)) A) 0 0 A := by
  refine Met.ofW (cc := cX4_inside) (maxL := 4) (ret := (some .long)) (by decide) rfl ?_
  intro p e s m0 args below meth c s₁ B hml hv
  obtain ⟨rfl, hG, hK, hA⟩ := hv
  have hx := B.exec
  have hb := B.bytes
  have hr := B.returns
  have hts := atoms_spec (ws := wsX4_inside) B.pre
  have hown : s.vm.findClass RX4 = some m0.cls := findClass_of_methodNamed B.named
  have hlocks := B.notSynchronized
  have hinX0 : ∀ w ∈ wsX00, w ∈ wsX4_inside := by decide +kernel
  have hinX2 : ∀ w ∈ wsX20, w ∈ wsX4_inside := by decide +kernel
  have hinX4 : ∀ w ∈ wsX40, w ∈ wsX4_inside := by decide +kernel
  have hS : va_S A s.heap s.heap [] := va_S.rf
  have hl := lv_entry ([.ref (ad 0 0)]) (n := 4) (Nat.le_of_ble_eq_true rfl)
  rw [lg_entry_eq]
  generalize (lg_sl ([.ref (ad 0 0)]) ++ List.replicate (4 - (lg_sl ([.ref (ad 0 0)])).length) Slot.unset).toArray = ls at hl ⊢
  replace hl : lv_has ls 4 [(0, .ref (ad 0 0))] := hl
  obtain ⟨hI5, hI25, hI20, hIM, hIL, hIR⟩ := id hI
  refine lv_lconst (v := zL 0) hx hb dX4_inside_0 (by decide) ?_
  refine lv_lstore_n (lv' := [(1, .long (zL 0)), (0, .ref (ad 0 0))]) hx hb dX4_inside_1 rfl hl (by decide) rfl (fun ls hl => ?_)
  by_cases hn0 : S 5 0 0 = 0
  · refine lv_aload_n hx hb dX4_inside_2 rfl (lv_at hl 1 rfl) ?_
    refine c_getV (Cn := RX4) (T := TX4) hx hb hts 0 hinX4 hown hK hG 0 2 (hal 0 0 rfl) (by decide) rfl (by decide) (hts (.fieldLink RX4 38 "LineEvents" "highest" "LLineEvents$Machine;") (by decide +kernel)) (cV_N (t := 2) rfl (show S 5 0 0 - 1 < 0 by omega)) dX4_inside_3 ?_
    refine lv_astore_nN (lv' := [(3, .null), (1, .long (zL 0)), (0, .ref (ad 0 0))]) hx hb dX4_inside_6 rfl hl (by decide) rfl (fun ls hl => ?_)
    refine lv_aload_nN hx hb dX4_inside_7 rfl (lv_at hl 0 rfl) ?_
    refine lv_ifnullN (tgt := 41) hx hb dX4_inside_8 (by decide) ?_
    refine lv_lload_n hx hb dX4_inside_41 rfl (lv_at hl 1 rfl) ?_
    have v9 : 0 = rwithin S := by rw [← cins_eq9 S, hn0]; rfl
    refine W.eq (congrArg (fun z => F0 m0 42 ls [.long (zL z)]) v9) ?_
    exact W.lret hx hb hr (fun t ht hW => ⟨rfl, ⟨by rw [ht]; exact hG, va_K.moved hW.alike hK, fun q hq => hA q (Nat.le_trans hS.1 (by rw [← ht]; exact hq))⟩, hS.F ht⟩) hS.2.2 dX4_inside_42
  · obtain ⟨i, hin9⟩ : ∃ i : Nat, (i : Int) + 1 = S 5 0 0 := ⟨(S 5 0 0 - 1).toNat, by omega⟩
    refine lv_aload_n hx hb dX4_inside_2 rfl (lv_at hl 1 rfl) ?_
    refine c_getV (Cn := RX4) (T := TX4) hx hb hts 0 hinX4 hown hK hG 0 2 (hal 0 0 rfl) (by decide) rfl (by decide) (hts (.fieldLink RX4 38 "LineEvents" "highest" "LLineEvents$Machine;") (by decide +kernel)) (cV_R (t := 2) (j := i) rfl (show S 5 0 0 - 1 = (i : Int) by omega)) dX4_inside_3 ?_
    refine lv_astore_n (lv' := [(3, .ref (ad 2 i)), (1, .long (zL 0)), (0, .ref (ad 0 0))]) hx hb dX4_inside_6 rfl hl (by decide) rfl (fun ls hl => ?_)
    obtain ⟨q, hq0⟩ : ∃ z : Int, z = 0 := ⟨_, rfl⟩
    replace hl : lv_has ls 4 [(3, .ref (ad 2 i)), (1, .long (zL q)), (0, .ref (ad 0 0))] := by rw [hq0]; exact hl
    have hiS : (i : Int) < S 5 0 0 := by omega
    have hv9 : cins S (i + 1) q = cins S (S 5 0 0).toNat 0 := by rw [hq0]; congr 1; omega
    clear hq0
    clear hin9
    induction i generalizing ls q with
    | zero =>
      have hM11 := (hIM 0 (by omega)).2.2.2.2.1
      refine lv_aload_n hx hb dX4_inside_7 rfl (lv_at hl 0 rfl) ?_
      refine lv_ifnull hx hb dX4_inside_8 ?_
      refine lv_lload_n hx hb dX4_inside_11 rfl (lv_at hl 1 rfl) ?_
      refine lv_aload_n hx hb dX4_inside_12 rfl (lv_at hl 0 rfl) ?_
      refine c_getV (Cn := RX2) (T := TX2) hx hb hts 2 hinX2 hown hK hG 0 4 (hal 2 0 (show ((0 : Nat) : Int) < S 5 0 0 by omega)) (by decide) rfl (by decide) (hts (.fieldLink RX4 48 "LineEvents$Machine" "behind" "LLineEvents$Buffer;") (by decide +kernel)) (cV_R (t := 3) (j := 0) rfl (rfl)) dX4_inside_13 ?_
      refine c_getV (Cn := RX0) (T := TX0) hx hb hts 3 hinX0 hown hK hG 0 4 (hal 3 0 (show ((0 : Nat) : Int) < S 5 0 0 by omega)) (by decide) rfl (by decide) (hts (.fieldLink RX4 112 "LineEvents$Buffer" "count" "I") (by decide +kernel)) (cV_I (z := S 11 0 0) rfl (rfl)) dX4_inside_16 ?_
      refine z_i2l hx hb dX4_inside_19 ⟨by omega, by omega⟩ ?_
      refine z_ladd hx hb dX4_inside_20 ?_
      refine lv_lstore_n (lv' := [(1, .long (zL (q + (S 11 0 0)))), (3, .ref (ad 2 0)), (0, .ref (ad 0 0))]) hx hb dX4_inside_21 rfl hl (by decide) rfl (fun ls hl => ?_)
      refine lv_aload_n hx hb dX4_inside_22 rfl (lv_at hl 1 rfl) ?_
      refine c_getV (Cn := RX2) (T := TX2) hx hb hts 2 hinX2 hown hK hG 0 11 (hal 2 0 (show ((0 : Nat) : Int) < S 5 0 0 by omega)) (by decide) rfl (by decide) (hts (.fieldLink RX4 115 "LineEvents$Machine" "hasBottle" "Z") (by decide +kernel)) (cV_I (z := bZ (¬ S 6 0 0 = 0)) rfl (rfl)) dX4_inside_23 ?_
      refine z_ifb_eq (tgt := 33) hx hb dX4_inside_26 (by decide) (fun c_1 => ?_) (fun c_1 => ?_)
      · refine lv_aload_n hx hb dX4_inside_33 rfl (lv_at hl 1 rfl) ?_
        refine c_getV (Cn := RX2) (T := TX2) hx hb hts 2 hinX2 hown hK hG 0 2 (hal 2 0 (show ((0 : Nat) : Int) < S 5 0 0 by omega)) (by decide) rfl (by decide) (hts (.fieldLink RX4 118 "LineEvents$Machine" "lower" "LLineEvents$Machine;") (by decide +kernel)) (cV_N (t := 2) rfl (neg_of (b := ((0 : Nat) : Int) - 1) (rfl) (by decide))) dX4_inside_34 ?_
        refine lv_astore_nN (lv' := [(3, .null), (1, .long (zL (q + (S 11 0 0)))), (0, .ref (ad 0 0))]) hx hb dX4_inside_37 rfl hl (by decide) rfl (fun ls hl => ?_)
        refine lv_goto (tgt := 7) hx hb dX4_inside_38 (by decide) ?_
        refine lv_aload_nN hx hb dX4_inside_7 rfl (lv_at hl 0 rfl) ?_
        refine lv_ifnullN (tgt := 41) hx hb dX4_inside_8 (by decide) ?_
        refine lv_lload_n hx hb dX4_inside_41 rfl (lv_at hl 1 rfl) ?_
        have v9 : q + (S 11 0 0) = rwithin S := by rw [← cins_eq9 S, ← hv9, cins_s S 0 q]; first | (rw [if_pos (by omega)]; rfl) | (rw [if_neg (by omega)]; rfl)
        refine W.eq (congrArg (fun z => F0 m0 42 ls [.long (zL z)]) v9) ?_
        exact W.lret hx hb hr (fun t ht hW => ⟨rfl, ⟨by rw [ht]; exact hG, va_K.moved hW.alike hK, fun q hq => hA q (Nat.le_trans hS.1 (by rw [← ht]; exact hq))⟩, hS.F ht⟩) hS.2.2 dX4_inside_42
      · refine lv_lload_n hx hb dX4_inside_29 rfl (lv_at hl 0 rfl) ?_
        refine lv_lconst (v := zL 1) hx hb dX4_inside_30 (by decide) ?_
        refine z_ladd hx hb dX4_inside_31 ?_
        refine lv_lstore_n (lv' := [(1, .long (zL ((q + (S 11 0 0)) + 1))), (3, .ref (ad 2 0)), (0, .ref (ad 0 0))]) hx hb dX4_inside_32 rfl hl (by decide) rfl (fun ls hl => ?_)
        refine lv_aload_n hx hb dX4_inside_33 rfl (lv_at hl 1 rfl) ?_
        refine c_getV (Cn := RX2) (T := TX2) hx hb hts 2 hinX2 hown hK hG 0 2 (hal 2 0 (show ((0 : Nat) : Int) < S 5 0 0 by omega)) (by decide) rfl (by decide) (hts (.fieldLink RX4 118 "LineEvents$Machine" "lower" "LLineEvents$Machine;") (by decide +kernel)) (cV_N (t := 2) rfl (neg_of (b := ((0 : Nat) : Int) - 1) (rfl) (by decide))) dX4_inside_34 ?_
        refine lv_astore_nN (lv' := [(3, .null), (1, .long (zL ((q + (S 11 0 0)) + 1))), (0, .ref (ad 0 0))]) hx hb dX4_inside_37 rfl hl (by decide) rfl (fun ls hl => ?_)
        refine lv_goto (tgt := 7) hx hb dX4_inside_38 (by decide) ?_
        refine lv_aload_nN hx hb dX4_inside_7 rfl (lv_at hl 0 rfl) ?_
        refine lv_ifnullN (tgt := 41) hx hb dX4_inside_8 (by decide) ?_
        refine lv_lload_n hx hb dX4_inside_41 rfl (lv_at hl 1 rfl) ?_
        have v9 : (q + (S 11 0 0)) + 1 = rwithin S := by rw [← cins_eq9 S, ← hv9, cins_s S 0 q]; first | (rw [if_pos (by omega)]; rfl) | (rw [if_neg (by omega)]; rfl)
        refine W.eq (congrArg (fun z => F0 m0 42 ls [.long (zL z)]) v9) ?_
        exact W.lret hx hb hr (fun t ht hW => ⟨rfl, ⟨by rw [ht]; exact hG, va_K.moved hW.alike hK, fun q hq => hA q (Nat.le_trans hS.1 (by rw [← ht]; exact hq))⟩, hS.F ht⟩) hS.2.2 dX4_inside_42
    | succ i ih =>
      have hM11 := (hIM (i + 1) (by omega)).2.2.2.2.1
      refine lv_aload_n hx hb dX4_inside_7 rfl (lv_at hl 0 rfl) ?_
      refine lv_ifnull hx hb dX4_inside_8 ?_
      refine lv_lload_n hx hb dX4_inside_11 rfl (lv_at hl 1 rfl) ?_
      refine lv_aload_n hx hb dX4_inside_12 rfl (lv_at hl 0 rfl) ?_
      refine c_getV (Cn := RX2) (T := TX2) hx hb hts 2 hinX2 hown hK hG (i + 1) 4 (hal 2 (i + 1) (show (((i + 1) : Nat) : Int) < S 5 0 0 by omega)) (by decide) rfl (by decide) (hts (.fieldLink RX4 48 "LineEvents$Machine" "behind" "LLineEvents$Buffer;") (by decide +kernel)) (cV_R (t := 3) (j := (i + 1)) rfl (rfl)) dX4_inside_13 ?_
      refine c_getV (Cn := RX0) (T := TX0) hx hb hts 3 hinX0 hown hK hG (i + 1) 4 (hal 3 (i + 1) (show (((i + 1) : Nat) : Int) < S 5 0 0 by omega)) (by decide) rfl (by decide) (hts (.fieldLink RX4 112 "LineEvents$Buffer" "count" "I") (by decide +kernel)) (cV_I (z := S 11 (i + 1) 0) rfl (rfl)) dX4_inside_16 ?_
      refine z_i2l hx hb dX4_inside_19 ⟨by omega, by omega⟩ ?_
      refine z_ladd hx hb dX4_inside_20 ?_
      refine lv_lstore_n (lv' := [(1, .long (zL (q + (S 11 (i + 1) 0)))), (3, .ref (ad 2 (i + 1))), (0, .ref (ad 0 0))]) hx hb dX4_inside_21 rfl hl (by decide) rfl (fun ls hl => ?_)
      refine lv_aload_n hx hb dX4_inside_22 rfl (lv_at hl 1 rfl) ?_
      refine c_getV (Cn := RX2) (T := TX2) hx hb hts 2 hinX2 hown hK hG (i + 1) 11 (hal 2 (i + 1) (show (((i + 1) : Nat) : Int) < S 5 0 0 by omega)) (by decide) rfl (by decide) (hts (.fieldLink RX4 115 "LineEvents$Machine" "hasBottle" "Z") (by decide +kernel)) (cV_I (z := bZ (¬ S 6 (i + 1) 0 = 0)) rfl (rfl)) dX4_inside_23 ?_
      refine z_ifb_eq (tgt := 33) hx hb dX4_inside_26 (by decide) (fun c_2 => ?_) (fun c_2 => ?_)
      · refine lv_aload_n hx hb dX4_inside_33 rfl (lv_at hl 1 rfl) ?_
        refine c_getV (Cn := RX2) (T := TX2) hx hb hts 2 hinX2 hown hK hG (i + 1) 2 (hal 2 (i + 1) (show (((i + 1) : Nat) : Int) < S 5 0 0 by omega)) (by decide) rfl (by decide) (hts (.fieldLink RX4 118 "LineEvents$Machine" "lower" "LLineEvents$Machine;") (by decide +kernel)) (cV_R (t := 2) (j := i) rfl ((rfl).trans (show ((i + 1 : Nat) : Int) - 1 = (i : Int) by omega))) dX4_inside_34 ?_
        refine lv_astore_n (lv' := [(3, .ref (ad 2 i)), (1, .long (zL (q + (S 11 (i + 1) 0)))), (0, .ref (ad 0 0))]) hx hb dX4_inside_37 rfl hl (by decide) rfl (fun ls hl => ?_)
        refine lv_goto (tgt := 7) hx hb dX4_inside_38 (by decide) ?_
        exact ih (ls := ls) (q := q + (S 11 (i + 1) 0)) (hl := lv_sub hl [0, 1, 2] rfl) (hiS := by omega) (hv9 := by rw [← hv9, cins_s S (i + 1) q]; first | rw [if_pos (by omega)] | rw [if_neg (by omega)])
      · refine lv_lload_n hx hb dX4_inside_29 rfl (lv_at hl 0 rfl) ?_
        refine lv_lconst (v := zL 1) hx hb dX4_inside_30 (by decide) ?_
        refine z_ladd hx hb dX4_inside_31 ?_
        refine lv_lstore_n (lv' := [(1, .long (zL ((q + (S 11 (i + 1) 0)) + 1))), (3, .ref (ad 2 (i + 1))), (0, .ref (ad 0 0))]) hx hb dX4_inside_32 rfl hl (by decide) rfl (fun ls hl => ?_)
        refine lv_aload_n hx hb dX4_inside_33 rfl (lv_at hl 1 rfl) ?_
        refine c_getV (Cn := RX2) (T := TX2) hx hb hts 2 hinX2 hown hK hG (i + 1) 2 (hal 2 (i + 1) (show (((i + 1) : Nat) : Int) < S 5 0 0 by omega)) (by decide) rfl (by decide) (hts (.fieldLink RX4 118 "LineEvents$Machine" "lower" "LLineEvents$Machine;") (by decide +kernel)) (cV_R (t := 2) (j := i) rfl ((rfl).trans (show ((i + 1 : Nat) : Int) - 1 = (i : Int) by omega))) dX4_inside_34 ?_
        refine lv_astore_n (lv' := [(3, .ref (ad 2 i)), (1, .long (zL ((q + (S 11 (i + 1) 0)) + 1))), (0, .ref (ad 0 0))]) hx hb dX4_inside_37 rfl hl (by decide) rfl (fun ls hl => ?_)
        refine lv_goto (tgt := 7) hx hb dX4_inside_38 (by decide) ?_
        exact ih (ls := ls) (q := (q + (S 11 (i + 1) 0)) + 1) (hl := lv_sub hl [0, 1, 2] rfl) (hiS := by omega) (hv9 := by rw [← hv9, cins_s S (i + 1) q]; first | rw [if_pos (by omega)] | rw [if_neg (by omega)])
set_option maxHeartbeats 4000000 in
set_option maxRecDepth 100000 in
theorem m_X4_kept (l : Launch) (D : va_G) (cI cJ : ClassId) (A : Nat → Prop) (ad : Nat → Nat → Nat) (al : Nat → Nat → Prop) (S : sT) (E : Nat → Int) (rt : Int) (hal : alS al S)  (hI : Inv S) : Met l yX4_kept wsX4_kept ({ frames := 1, cells := 0, slots := 0, locals := 27 }) (va_Pc [.ref (ad 0 0)] (gCU D cI cJ A ad al (cC S E rt))) (gO (some (.int (zI (bZ (rkeptV S = true))))) (gCU D cI cJ A ad al (cC S E rt)) A) 0 0 A := by
  refine Met.ofW (cc := cX4_kept) (maxL := 4) (ret := (some .boolean)) (by decide) rfl ?_
  intro p e s m0 args below meth c s₁ B hml hv
  obtain ⟨rfl, hG, hK, hA⟩ := hv
  have hx := B.exec
  have hb := B.bytes
  have hr := B.returns
  have hts := atoms_spec (ws := wsX4_kept) B.pre
  have hown : s.vm.findClass RX4 = some m0.cls := findClass_of_methodNamed B.named
  have hlocks := B.notSynchronized
  have hinX0 : ∀ w ∈ wsX00, w ∈ wsX4_kept := by decide +kernel
  have hinX2 : ∀ w ∈ wsX20, w ∈ wsX4_kept := by decide +kernel
  have hinX4 : ∀ w ∈ wsX40, w ∈ wsX4_kept := by decide +kernel
  have hS : va_S A s.heap s.heap [] := va_S.rf
  have hl := lv_entry ([.ref (ad 0 0)]) (n := 4) (Nat.le_of_ble_eq_true rfl)
  rw [lg_entry_eq]
  generalize (lg_sl ([.ref (ad 0 0)]) ++ List.replicate (4 - (lg_sl ([.ref (ad 0 0)])).length) Slot.unset).toArray = ls at hl ⊢
  replace hl : lv_has ls 4 [(0, .ref (ad 0 0))] := hl
  obtain ⟨hI5, hI25, hI20, hIM, hIL, hIR⟩ := id hI
  refine lv_aload_n hx hb dX4_kept_0 rfl (lv_at hl 0 rfl) ?_
  refine c_getV (Cn := RX4) (T := TX4) hx hb hts 0 hinX4 hown hK hG 0 10 (hal 0 0 rfl) (by decide) rfl (by decide) (hts (.fieldLink RX4 109 "LineEvents" "madeCount" "J") (by decide +kernel)) (cV_J (z := S 24 0 0) rfl (rfl)) dX4_kept_1 ?_
  refine lv_aload_n hx hb dX4_kept_4 rfl (lv_at hl 0 rfl) ?_
  refine c_callV (As := []) (rest := [.long (zL (S 24 0 0))]) (Cn := RX4) (T := TX4) ⟨hx, hb, hml, hown, hts⟩ 0 0 (m_X4_inside l D cI cJ A ad al S E rt hal hI) (cwV 0 hts gX4_kept_X4_inside rfl rfl rfl (by decide +kernel) ⟨Nat.le_of_ble_eq_true rfl, Nat.le_of_ble_eq_true rfl⟩) (hal 0 0 rfl) (by decide) rfl hK hG hS hA rfl hl.1 rfl (Nat.le_of_ble_eq_true rfl) dX4_kept_5 ⟨Nat.zero_le _, Nat.zero_le _⟩ (fun t9 H locs ht9 hB hS => ?_)
  have hG := hB.1; rw [ht9] at hG; clear hB ht9
  refine z_ladd hx hb dX4_kept_8 ?_
  refine lv_lstore_n (lv' := [(1, .long (zL ((S 24 0 0) + (rwithin S)))), (0, .ref (ad 0 0))]) hx hb dX4_kept_9 rfl hl (by decide) rfl (fun ls hl => ?_)
  by_cases hn0 : S 5 0 0 = 0
  · refine lv_aload_n hx hb dX4_kept_10 rfl (lv_at hl 1 rfl) ?_
    refine c_getV (Cn := RX4) (T := TX4) hx hb hts 0 hinX4 hown hK hG 0 2 (hal 0 0 rfl) (by decide) rfl (by decide) (hts (.fieldLink RX4 38 "LineEvents" "highest" "LLineEvents$Machine;") (by decide +kernel)) (cV_N (t := 2) rfl (show S 5 0 0 - 1 < 0 by omega)) dX4_kept_11 ?_
    refine lv_astore_nN (lv' := [(3, .null), (1, .long (zL ((S 24 0 0) + (rwithin S)))), (0, .ref (ad 0 0))]) hx hb dX4_kept_14 rfl hl (by decide) rfl (fun ls hl => ?_)
    refine lv_aload_nN hx hb dX4_kept_15 rfl (lv_at hl 0 rfl) ?_
    refine lv_ifnullN (tgt := 49) hx hb dX4_kept_16 (by decide) ?_
    refine lv_lload_n hx hb dX4_kept_49 rfl (lv_at hl 1 rfl) ?_
    refine lv_aload_n hx hb dX4_kept_50 rfl (lv_at hl 2 rfl) ?_
    refine c_getV (Cn := RX4) (T := TX4) hx hb hts 0 hinX4 hown hK hG 0 9 (hal 0 0 rfl) (by decide) rfl (by decide) (hts (.fieldLink RX4 148 "LineEvents" "begunCount" "J") (by decide +kernel)) (cV_J (z := S 23 0 0) rfl (rfl)) dX4_kept_51 ?_
    refine W.lcmp hx hb dX4_kept_54 ?_
    refine z_lifr_ne (tgt := 62) hx hb dX4_kept_55 (by decide) (fun c_1 => ?_) (fun c_1 => ?_)
    · refine lv_iconst (v := zI 0) hx hb dX4_kept_62 rfl ?_
      have v9 : 0 = bZ (rkeptV S = true) := by exact (bZ_f (by rw [← ckl_eq9, hn0]; show ¬ decide (zL (S 24 0 0 + rwithin S) = zL (S 23 0 0)) = true; simp_all)).symm
      refine W.eq (congrArg (fun z => F0 m0 63 ls [.int (zI z)]) v9) ?_
      exact W.zret hx hb hr (zI_bool _) (fun t ht hW => ⟨rfl, ⟨by rw [ht]; exact hG, va_K.moved hW.alike hK, fun q hq => hA q (Nat.le_trans hS.1 (by rw [← ht]; exact hq))⟩, hS.F ht⟩) hS.2.2 dX4_kept_63
    · refine lv_iconst (v := zI 1) hx hb dX4_kept_58 rfl ?_
      refine lv_goto (tgt := 63) hx hb dX4_kept_59 (by decide) ?_
      have v9 : 1 = bZ (rkeptV S = true) := by exact (bZ_t (by rw [← ckl_eq9, hn0]; show decide (zL (S 24 0 0 + rwithin S) = zL (S 23 0 0)) = true; simp_all)).symm
      refine W.eq (congrArg (fun z => F0 m0 63 ls [.int (zI z)]) v9) ?_
      exact W.zret hx hb hr (zI_bool _) (fun t ht hW => ⟨rfl, ⟨by rw [ht]; exact hG, va_K.moved hW.alike hK, fun q hq => hA q (Nat.le_trans hS.1 (by rw [← ht]; exact hq))⟩, hS.F ht⟩) hS.2.2 dX4_kept_63
  · obtain ⟨i, hin9⟩ : ∃ i : Nat, (i : Int) + 1 = S 5 0 0 := ⟨(S 5 0 0 - 1).toNat, by omega⟩
    refine lv_aload_n hx hb dX4_kept_10 rfl (lv_at hl 1 rfl) ?_
    refine c_getV (Cn := RX4) (T := TX4) hx hb hts 0 hinX4 hown hK hG 0 2 (hal 0 0 rfl) (by decide) rfl (by decide) (hts (.fieldLink RX4 38 "LineEvents" "highest" "LLineEvents$Machine;") (by decide +kernel)) (cV_R (t := 2) (j := i) rfl (show S 5 0 0 - 1 = (i : Int) by omega)) dX4_kept_11 ?_
    refine lv_astore_n (lv' := [(3, .ref (ad 2 i)), (1, .long (zL ((S 24 0 0) + (rwithin S)))), (0, .ref (ad 0 0))]) hx hb dX4_kept_14 rfl hl (by decide) rfl (fun ls hl => ?_)
    obtain ⟨q, hq0⟩ : ∃ z : Int, z = S 24 0 0 + rwithin S := ⟨_, rfl⟩
    replace hl : lv_has ls 4 [(3, .ref (ad 2 i)), (1, .long (zL q)), (0, .ref (ad 0 0))] := by rw [hq0]; exact hl
    have hiS : (i : Int) < S 5 0 0 := by omega
    have hv9 : ckl S (i + 1) q = rkeptV S := by rw [← ckl_eq9, hq0]; congr 1; omega
    clear hq0
    clear hin9
    induction i generalizing ls q H locs with
    | zero =>
      have hiS1 := hiS
      refine lv_aload_n hx hb dX4_kept_15 rfl (lv_at hl 0 rfl) ?_
      refine lv_ifnull hx hb dX4_kept_16 ?_
      refine lv_lload_n hx hb dX4_kept_19 rfl (lv_at hl 1 rfl) ?_
      refine lv_aload_n hx hb dX4_kept_20 rfl (lv_at hl 0 rfl) ?_
      refine c_getV (Cn := RX2) (T := TX2) hx hb hts 2 hinX2 hown hK hG 0 14 (hal 2 0 (show ((0 : Nat) : Int) < S 5 0 0 by omega)) (by decide) rfl (by decide) (hts (.fieldLink RX4 137 "LineEvents$Machine" "rejectedCount" "J") (by decide +kernel)) (cV_J (z := S 22 0 0) rfl (rfl)) dX4_kept_21 ?_
      refine z_ladd hx hb dX4_kept_24 ?_
      refine lv_lstore_n (lv' := [(1, .long (zL (q + (S 22 0 0)))), (3, .ref (ad 2 0)), (0, .ref (ad 0 0))]) hx hb dX4_kept_25 rfl hl (by decide) rfl (fun ls hl => ?_)
      refine lv_aload_n hx hb dX4_kept_26 rfl (lv_at hl 1 rfl) ?_
      refine c_callV (As := []) (rest := []) (Cn := RX2) (T := TX2) ⟨hx, hb, hml, hown, hts⟩ 2 0 (m_X2_allTimes l D cI cJ A ad al S E rt hal 0 hI (by omega)) (cwV 0 hts gX4_kept_X2_allTimes rfl rfl rfl (by decide +kernel) ⟨Nat.le_of_ble_eq_true rfl, Nat.le_of_ble_eq_true rfl⟩) (hal 2 0 (show ((0 : Nat) : Int) < S 5 0 0 by omega)) (by decide) rfl hK hG hS hA rfl hl.1 rfl (Nat.le_of_ble_eq_true rfl) dX4_kept_27 ⟨Nat.zero_le _, Nat.zero_le _⟩ (fun t9 H locs ht9 hB hS => ?_)
      have hG := hB.1; rw [ht9] at hG; clear hB ht9
      refine lv_aload_n hx hb dX4_kept_30 rfl (lv_at hl 2 rfl) ?_
      refine c_getV (Cn := RX4) (T := TX4) hx hb hts 0 hinX4 hown hK hG 0 1 (hal 0 0 rfl) (by decide) rfl (by decide) (hts (.fieldLink RX4 27 "LineEvents" "now" "I") (by decide +kernel)) (cV_I (z := S 25 0 0) rfl (rfl)) dX4_kept_31 ?_
      refine z_i2l hx hb dX4_kept_34 ⟨by omega, by omega⟩ ?_
      refine W.lcmp hx hb dX4_kept_35 ?_
      refine z_lifr_eq (tgt := 41) hx hb dX4_kept_36 (by decide) (fun c_2 => ?_) (fun c_2 => ?_)
      · refine lv_aload_n hx hb dX4_kept_41 rfl (lv_at hl 1 rfl) ?_
        refine c_getV (Cn := RX2) (T := TX2) hx hb hts 2 hinX2 hown hK hG 0 2 (hal 2 0 (show ((0 : Nat) : Int) < S 5 0 0 by omega)) (by decide) rfl (by decide) (hts (.fieldLink RX4 118 "LineEvents$Machine" "lower" "LLineEvents$Machine;") (by decide +kernel)) (cV_N (t := 2) rfl (neg_of (b := ((0 : Nat) : Int) - 1) (rfl) (by decide))) dX4_kept_42 ?_
        refine lv_astore_nN (lv' := [(3, .null), (1, .long (zL (q + (S 22 0 0)))), (0, .ref (ad 0 0))]) hx hb dX4_kept_45 rfl hl (by decide) rfl (fun ls hl => ?_)
        refine lv_goto (tgt := 15) hx hb dX4_kept_46 (by decide) ?_
        refine lv_aload_nN hx hb dX4_kept_15 rfl (lv_at hl 0 rfl) ?_
        refine lv_ifnullN (tgt := 49) hx hb dX4_kept_16 (by decide) ?_
        refine lv_lload_n hx hb dX4_kept_49 rfl (lv_at hl 1 rfl) ?_
        refine lv_aload_n hx hb dX4_kept_50 rfl (lv_at hl 2 rfl) ?_
        refine c_getV (Cn := RX4) (T := TX4) hx hb hts 0 hinX4 hown hK hG 0 9 (hal 0 0 rfl) (by decide) rfl (by decide) (hts (.fieldLink RX4 148 "LineEvents" "begunCount" "J") (by decide +kernel)) (cV_J (z := S 23 0 0) rfl (rfl)) dX4_kept_51 ?_
        refine W.lcmp hx hb dX4_kept_54 ?_
        refine z_lifr_ne (tgt := 62) hx hb dX4_kept_55 (by decide) (fun c_3 => ?_) (fun c_3 => ?_)
        · refine lv_iconst (v := zI 0) hx hb dX4_kept_62 rfl ?_
          have v9 : 0 = bZ (rkeptV S = true) := by exact (bZ_f (by rw [← hv9, ckl_s S 0 q, if_pos (by assumption)]; show ¬ decide _ = true; simp_all [ckl])).symm
          refine W.eq (congrArg (fun z => F0 m0 63 ls [.int (zI z)]) v9) ?_
          exact W.zret hx hb hr (zI_bool _) (fun t ht hW => ⟨rfl, ⟨by rw [ht]; exact hG, va_K.moved hW.alike hK, fun q hq => hA q (Nat.le_trans hS.1 (by rw [← ht]; exact hq))⟩, hS.F ht⟩) hS.2.2 dX4_kept_63
        · refine lv_iconst (v := zI 1) hx hb dX4_kept_58 rfl ?_
          refine lv_goto (tgt := 63) hx hb dX4_kept_59 (by decide) ?_
          have v9 : 1 = bZ (rkeptV S = true) := by exact (bZ_t (by rw [← hv9, ckl_s S 0 q, if_pos (by assumption)]; show decide _ = true; simp_all [ckl])).symm
          refine W.eq (congrArg (fun z => F0 m0 63 ls [.int (zI z)]) v9) ?_
          exact W.zret hx hb hr (zI_bool _) (fun t ht hW => ⟨rfl, ⟨by rw [ht]; exact hG, va_K.moved hW.alike hK, fun q hq => hA q (Nat.le_trans hS.1 (by rw [← ht]; exact hq))⟩, hS.F ht⟩) hS.2.2 dX4_kept_63
      · refine lv_iconst (v := zI 0) hx hb dX4_kept_39 rfl ?_
        have v9 : 0 = bZ (rkeptV S = true) := by exact (bZ_f (by rw [← hv9, ckl_s, if_neg (by assumption)]; exact Bool.false_ne_true)).symm
        refine W.eq (congrArg (fun z => F0 m0 40 ls [.int (zI z)]) v9) ?_
        exact W.zret hx hb hr (zI_bool _) (fun t ht hW => ⟨rfl, ⟨by rw [ht]; exact hG, va_K.moved hW.alike hK, fun q hq => hA q (Nat.le_trans hS.1 (by rw [← ht]; exact hq))⟩, hS.F ht⟩) hS.2.2 dX4_kept_40
    | succ i ih =>
      have hiS1 := hiS
      refine lv_aload_n hx hb dX4_kept_15 rfl (lv_at hl 0 rfl) ?_
      refine lv_ifnull hx hb dX4_kept_16 ?_
      refine lv_lload_n hx hb dX4_kept_19 rfl (lv_at hl 1 rfl) ?_
      refine lv_aload_n hx hb dX4_kept_20 rfl (lv_at hl 0 rfl) ?_
      refine c_getV (Cn := RX2) (T := TX2) hx hb hts 2 hinX2 hown hK hG (i + 1) 14 (hal 2 (i + 1) (show (((i + 1) : Nat) : Int) < S 5 0 0 by omega)) (by decide) rfl (by decide) (hts (.fieldLink RX4 137 "LineEvents$Machine" "rejectedCount" "J") (by decide +kernel)) (cV_J (z := S 22 (i + 1) 0) rfl (rfl)) dX4_kept_21 ?_
      refine z_ladd hx hb dX4_kept_24 ?_
      refine lv_lstore_n (lv' := [(1, .long (zL (q + (S 22 (i + 1) 0)))), (3, .ref (ad 2 (i + 1))), (0, .ref (ad 0 0))]) hx hb dX4_kept_25 rfl hl (by decide) rfl (fun ls hl => ?_)
      refine lv_aload_n hx hb dX4_kept_26 rfl (lv_at hl 1 rfl) ?_
      refine c_callV (As := []) (rest := []) (Cn := RX2) (T := TX2) ⟨hx, hb, hml, hown, hts⟩ 2 (i + 1) (m_X2_allTimes l D cI cJ A ad al S E rt hal (i + 1) hI (by omega)) (cwV 0 hts gX4_kept_X2_allTimes rfl rfl rfl (by decide +kernel) ⟨Nat.le_of_ble_eq_true rfl, Nat.le_of_ble_eq_true rfl⟩) (hal 2 (i + 1) (show (((i + 1) : Nat) : Int) < S 5 0 0 by omega)) (by decide) rfl hK hG hS hA rfl hl.1 rfl (Nat.le_of_ble_eq_true rfl) dX4_kept_27 ⟨Nat.zero_le _, Nat.zero_le _⟩ (fun t9 H locs ht9 hB hS => ?_)
      have hG := hB.1; rw [ht9] at hG; clear hB ht9
      refine lv_aload_n hx hb dX4_kept_30 rfl (lv_at hl 2 rfl) ?_
      refine c_getV (Cn := RX4) (T := TX4) hx hb hts 0 hinX4 hown hK hG 0 1 (hal 0 0 rfl) (by decide) rfl (by decide) (hts (.fieldLink RX4 27 "LineEvents" "now" "I") (by decide +kernel)) (cV_I (z := S 25 0 0) rfl (rfl)) dX4_kept_31 ?_
      refine z_i2l hx hb dX4_kept_34 ⟨by omega, by omega⟩ ?_
      refine W.lcmp hx hb dX4_kept_35 ?_
      refine z_lifr_eq (tgt := 41) hx hb dX4_kept_36 (by decide) (fun c_4 => ?_) (fun c_4 => ?_)
      · refine lv_aload_n hx hb dX4_kept_41 rfl (lv_at hl 1 rfl) ?_
        refine c_getV (Cn := RX2) (T := TX2) hx hb hts 2 hinX2 hown hK hG (i + 1) 2 (hal 2 (i + 1) (show (((i + 1) : Nat) : Int) < S 5 0 0 by omega)) (by decide) rfl (by decide) (hts (.fieldLink RX4 118 "LineEvents$Machine" "lower" "LLineEvents$Machine;") (by decide +kernel)) (cV_R (t := 2) (j := i) rfl ((rfl).trans (show ((i + 1 : Nat) : Int) - 1 = (i : Int) by omega))) dX4_kept_42 ?_
        refine lv_astore_n (lv' := [(3, .ref (ad 2 i)), (1, .long (zL (q + (S 22 (i + 1) 0)))), (0, .ref (ad 0 0))]) hx hb dX4_kept_45 rfl hl (by decide) rfl (fun ls hl => ?_)
        refine lv_goto (tgt := 15) hx hb dX4_kept_46 (by decide) ?_
        exact ih (ls := ls) (q := q + (S 22 (i + 1) 0)) (H := H) (locs := locs) (hG := hG) (hS := hS) (hl := lv_sub hl [0, 1, 2] rfl) (hiS := by omega) (hv9 := by rw [← hv9, ckl_s S (i + 1) q, if_pos (by assumption)])
      · refine lv_iconst (v := zI 0) hx hb dX4_kept_39 rfl ?_
        have v9 : 0 = bZ (rkeptV S = true) := by exact (bZ_f (by rw [← hv9, ckl_s, if_neg (by assumption)]; exact Bool.false_ne_true)).symm
        refine W.eq (congrArg (fun z => F0 m0 40 ls [.int (zI z)]) v9) ?_
        exact W.zret hx hb hr (zI_bool _) (fun t ht hW => ⟨rfl, ⟨by rw [ht]; exact hG, va_K.moved hW.alike hK, fun q hq => hA q (Nat.le_trans hS.1 (by rw [← ht]; exact hq))⟩, hS.F ht⟩) hS.2.2 dX4_kept_40
