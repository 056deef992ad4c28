set_option maxHeartbeats 4000000 in
set_option maxRecDepth 100000 in
theorem m_X4_act (l : Launch) (D : va_G) (cI cJ : ClassId) (A : Nat → Prop) (ad : Nat → Nat → Nat) (al : Nat → Nat → Prop) (S : sT) (E : Nat → Int) (rt : Int) (hal : alS al S) (i : Nat) (hI : Inv S) (hi : (i : Int) < S 5 0 0) (he : 0 ≤ S 30 0 0 ∧ S 30 0 0 < 2147483000) (hC1 : ¬ S 6 i 0 = 0 → 0 ≤ S 7 i 0 ∧ S 7 i 0 ≤ S 0 i 0) (hC2 : S 6 i 0 = 2 → S 7 i 0 = S 0 i 0) (hE1 : E i = -1) (h8 : S 8 i 0 ≤ S 25 0 0) : Met l yX4_act wsX4_act ({ frames := 4, cells := 0, slots := 0, locals := 83 }) (va_Pc [.ref (ad 0 0), .ref (ad 2 i)] (gCU D cI cJ A ad al (cC S E rt))) (gO none (gCU D cI cJ A ad al (cC (rjj S i) E rt)) A) 0 0 A := by
  refine Met.ofW (cc := cX4_act) (maxL := 2) (ret := none) (by decide) rfl ?_
  intro p e s m0 args below meth c s₁ B hml hv
  obtain ⟨rfl, hG, hK, hA⟩ := hv
  have hx := B.exec
  have hb := B.bytes
  have hr := B.returns
  have hts := atoms_spec (ws := wsX4_act) B.pre
  have hown : s.vm.findClass RX4 = some m0.cls := findClass_of_methodNamed B.named
  have hlocks := B.notSynchronized
  have hinX0 : ∀ w ∈ wsX00, w ∈ wsX4_act := by decide +kernel
  have hinX1 : ∀ w ∈ wsX10, w ∈ wsX4_act := by decide +kernel
  have hinX2 : ∀ w ∈ wsX20, w ∈ wsX4_act := by decide +kernel
  have hinX4 : ∀ w ∈ wsX40, w ∈ wsX4_act := by decide +kernel
  have hS : va_S A s.heap s.heap [] := va_S.rf
  have hl := lv_entry ([.ref (ad 0 0), .ref (ad 2 i)]) (n := 2) (Nat.le_of_ble_eq_true rfl)
  rw [lg_entry_eq]
  generalize (lg_sl ([.ref (ad 0 0), .ref (ad 2 i)]) ++ List.replicate (2 - (lg_sl ([.ref (ad 0 0), .ref (ad 2 i)])).length) Slot.unset).toArray = ls at hl ⊢
  replace hl : lv_has ls 2 [(0, .ref (ad 0 0)), (1, .ref (ad 2 i))] := hl
  obtain ⟨hI5, hI25, hI20, hIM, hIL, hIR⟩ := id hI
  obtain ⟨hM6, hM7, hM8, hM10, hM11, hM15, hM9, hMf⟩ := id (hIM i (by omega))
  obtain ⟨hL0, hL1, hL2, hL3, hL4⟩ := id (hIL i hi)
  refine lv_aload_n hx hb dX4_act_0 rfl (lv_at hl 1 rfl) ?_
  refine c_callV (As := []) (rest := []) (Cn := RX2) (T := TX2) ⟨hx, hb, hml, hown, hts⟩ 2 i (m_X2_isDone l D cI cJ A ad al S E rt hal i hI hi) (cwV 0 hts gX4_act_X2_isDone rfl rfl rfl (by decide +kernel) ⟨Nat.le_of_ble_eq_true rfl, Nat.le_of_ble_eq_true rfl⟩) (hal 2 i (show (i : Int) < S 5 0 0 by omega)) (by decide) rfl hK hG hS hA rfl hl.1 rfl (Nat.le_of_ble_eq_true rfl) dX4_act_1 ⟨Nat.zero_le _, Nat.zero_le _⟩ (fun t9 H locs ht9 hB hS => ?_)
  have hG := hB.1; rw [ht9] at hG; clear hB ht9
  refine z_ifb_eq (tgt := 31) hx hb dX4_act_4 (by decide) (fun c_1 => ?_) (fun c_1 => ?_)
  · refine lv_aload_n hx hb dX4_act_31 rfl (lv_at hl 1 rfl) ?_
    refine c_getV (Cn := RX2) (T := TX2) hx hb hts 2 hinX2 hown hK hG i 13 (hal 2 i (show (i : Int) < S 5 0 0 by omega)) (by decide) rfl (by decide) (hts (.fieldLink RX4 201 "LineEvents$Machine" "judged" "Z") (by decide +kernel)) (cV_I (z := bZ (S 6 i 0 = 2)) rfl (rfl)) dX4_act_32 ?_
    refine z_ifb_eq (tgt := 43) hx hb dX4_act_35 (by decide) (fun c_2 => ?_) (fun c_2 => ?_)
    · refine lv_aload_n hx hb dX4_act_43 rfl (lv_at hl 1 rfl) ?_
      refine c_getV (Cn := RX2) (T := TX2) hx hb hts 2 hinX2 hown hK hG i 11 (hal 2 i (show (i : Int) < S 5 0 0 by omega)) (by decide) rfl (by decide) (hts (.fieldLink RX4 115 "LineEvents$Machine" "hasBottle" "Z") (by decide +kernel)) (cV_I (z := bZ (¬ S 6 i 0 = 0)) rfl (rfl)) dX4_act_44 ?_
      refine z_ifb_ne (tgt := 55) hx hb dX4_act_47 (by decide) (fun c_3 => ?_) (fun c_3 => ?_)
      · have e9 : cC S E rt = cC (rjj S i) E rt := by unfold rjj; rw [if_neg (show ¬ (S 6 i 0 = 1 ∧ S 7 i 0 = S 0 i 0) by omega)]; unfold rll; rw [if_neg (by omega)]; unfold rlt; rw [if_neg (by omega)]
        rw [e9] at hG
        exact W.vret hx hb hr (fun t ht hW => ⟨rfl, ⟨by rw [ht]; exact hG, va_K.moved hW.alike hK, fun q hq => hA q (Nat.le_trans hS.1 (by rw [← ht]; exact hq))⟩, hS.F ht⟩) hS.2.2 dX4_act_55
      · refine lv_aload_n hx hb dX4_act_50 rfl (lv_at hl 0 rfl) ?_
        refine lv_aload_n hx hb dX4_act_51 rfl (lv_at hl 1 rfl) ?_
        refine c_callV (As := [.ref (ad 2 i)]) (rest := []) (Cn := RX4) (T := TX4) ⟨hx, hb, hml, hown, hts⟩ 0 0 (m_X4_take l D cI cJ A ad al S E rt hal i hI hi ⟨by omega, by omega⟩ (by omega)) (cwV 1 hts gX4_act_X4_take rfl rfl rfl (by decide +kernel) ⟨Nat.le_of_ble_eq_true rfl, Nat.le_of_ble_eq_true rfl⟩) (hal 0 0 rfl) (by decide) rfl hK hG hS hA rfl hl.1 rfl (Nat.le_of_ble_eq_true rfl) dX4_act_52 ⟨Nat.zero_le _, Nat.zero_le _⟩ (fun t9 H locs ht9 hB hS => ?_)
        have hG := hB.1; rw [ht9] at hG; clear hB ht9
        have e9 : cC (rtake S i) E rt = cC (rjj S i) E rt := by unfold rjj; rw [if_neg (show ¬ (S 6 i 0 = 1 ∧ S 7 i 0 = S 0 i 0) by omega)]; unfold rll; rw [if_neg (by omega)]; unfold rlt; rw [if_pos (by omega)]
        rw [e9] at hG
        exact W.vret hx hb hr (fun t ht hW => ⟨rfl, ⟨by rw [ht]; exact hG, va_K.moved hW.alike hK, fun q hq => hA q (Nat.le_trans hS.1 (by rw [← ht]; exact hq))⟩, hS.F ht⟩) hS.2.2 dX4_act_55
    · refine lv_aload_n hx hb dX4_act_38 rfl (lv_at hl 0 rfl) ?_
      refine lv_aload_n hx hb dX4_act_39 rfl (lv_at hl 1 rfl) ?_
      refine c_callV (As := [.ref (ad 2 i)]) (rest := []) (Cn := RX4) (T := TX4) ⟨hx, hb, hml, hown, hts⟩ 0 0 (m_X4_leave l D cI cJ A ad al S E rt hal i hI hi ⟨by omega, by omega⟩) (cwV 1 hts gX4_act_X4_leave rfl rfl rfl (by decide +kernel) ⟨Nat.le_of_ble_eq_true rfl, Nat.le_of_ble_eq_true rfl⟩) (hal 0 0 rfl) (by decide) rfl hK hG hS hA rfl hl.1 rfl (Nat.le_of_ble_eq_true rfl) dX4_act_40 ⟨Nat.zero_le _, Nat.zero_le _⟩ (fun t9 H locs ht9 hB hS => ?_)
      have hG := hB.1; rw [ht9] at hG; clear hB ht9
      have hlI := leave_I hI hi
      have hl30 := leave_30 (S := S) (m := i)
      have hl5 : rleave S i 5 0 0 = S 5 0 0 := leave_v (by decide)
      have halU : alS al (rleave S i) := alS_eq (leave_v (by decide)) (fun _ => leave_v (by decide)) (leave_v (by decide)) hal
      obtain ⟨U, hU⟩ : ∃ U, U = rleave S i := ⟨_, rfl⟩
      rw [← hU] at hG hlI hl30 hl5 halU
      have hU6 := (hlI.2.2.2.1 i (by omega)).1
      have hUi : (i : Int) < U 5 0 0 := by omega
      refine lv_aload_n hx hb dX4_act_43 rfl (lv_at hl 1 rfl) ?_
      refine c_getV (Cn := RX2) (T := TX2) hx hb hts 2 hinX2 hown hK hG i 11 (hal 2 i (show (i : Int) < S 5 0 0 by omega)) (by decide) rfl (by decide) (hts (.fieldLink RX4 115 "LineEvents$Machine" "hasBottle" "Z") (by decide +kernel)) (cV_I (z := bZ (¬ U 6 i 0 = 0)) rfl (rfl)) dX4_act_44 ?_
      refine z_ifb_ne (tgt := 55) hx hb dX4_act_47 (by decide) (fun c_4 => ?_) (fun c_4 => ?_)
      · have e9 : cC U E rt = cC (rjj S i) E rt := by unfold rjj; rw [if_neg (show ¬ (S 6 i 0 = 1 ∧ S 7 i 0 = S 0 i 0) by omega)]; unfold rll; rw [if_pos (by omega), ← hU]; unfold rlt; rw [if_neg (by omega)]
        rw [e9] at hG
        exact W.vret hx hb hr (fun t ht hW => ⟨rfl, ⟨by rw [ht]; exact hG, va_K.moved hW.alike hK, fun q hq => hA q (Nat.le_trans hS.1 (by rw [← ht]; exact hq))⟩, hS.F ht⟩) hS.2.2 dX4_act_55
      · refine lv_aload_n hx hb dX4_act_50 rfl (lv_at hl 0 rfl) ?_
        refine lv_aload_n hx hb dX4_act_51 rfl (lv_at hl 1 rfl) ?_
        refine c_callV (As := [.ref (ad 2 i)]) (rest := []) (Cn := RX4) (T := TX4) ⟨hx, hb, hml, hown, hts⟩ 0 0 (m_X4_take l D cI cJ A ad al U E rt halU i hlI hUi ⟨by omega, by omega⟩ (by omega)) (cwV 1 hts gX4_act_X4_take rfl rfl rfl (by decide +kernel) ⟨Nat.le_of_ble_eq_true rfl, Nat.le_of_ble_eq_true rfl⟩) (hal 0 0 rfl) (by decide) rfl hK hG hS hA rfl hl.1 rfl (Nat.le_of_ble_eq_true rfl) dX4_act_52 ⟨Nat.zero_le _, Nat.zero_le _⟩ (fun t9 H locs ht9 hB hS => ?_)
        have hG := hB.1; rw [ht9] at hG; clear hB ht9
        have e9 : cC (rtake U i) E rt = cC (rjj S i) E rt := by unfold rjj; rw [if_neg (show ¬ (S 6 i 0 = 1 ∧ S 7 i 0 = S 0 i 0) by omega)]; unfold rll; rw [if_pos (by omega), ← hU]; unfold rlt; rw [if_pos (by omega)]
        rw [e9] at hG
        exact W.vret hx hb hr (fun t ht hW => ⟨rfl, ⟨by rw [ht]; exact hG, va_K.moved hW.alike hK, fun q hq => hA q (Nat.le_trans hS.1 (by rw [← ht]; exact hq))⟩, hS.F ht⟩) hS.2.2 dX4_act_55
  · refine lv_aload_n hx hb dX4_act_7 rfl (lv_at hl 1 rfl) ?_
    refine c_getV (Cn := RX2) (T := TX2) hx hb hts 2 hinX2 hown hK hG i 13 (hal 2 i (show (i : Int) < S 5 0 0 by omega)) (by decide) rfl (by decide) (hts (.fieldLink RX4 201 "LineEvents$Machine" "judged" "Z") (by decide +kernel)) (cV_I (z := bZ (S 6 i 0 = 2)) rfl (rfl)) dX4_act_8 ?_
    refine z_ifb_ne (tgt := 31) hx hb dX4_act_11 (by decide) (fun c_5 => ?_) (fun c_5 => ?_)
    · refine lv_aload_n hx hb dX4_act_31 rfl (lv_at hl 1 rfl) ?_
      refine c_getV (Cn := RX2) (T := TX2) hx hb hts 2 hinX2 hown hK hG i 13 (hal 2 i (show (i : Int) < S 5 0 0 by omega)) (by decide) rfl (by decide) (hts (.fieldLink RX4 201 "LineEvents$Machine" "judged" "Z") (by decide +kernel)) (cV_I (z := bZ (S 6 i 0 = 2)) rfl (rfl)) dX4_act_32 ?_
      refine z_ifb_eq (tgt := 43) hx hb dX4_act_35 (by decide) (fun c_6 => ?_) (fun c_6 => ?_)
      · refine lv_aload_n hx hb dX4_act_43 rfl (lv_at hl 1 rfl) ?_
        refine c_getV (Cn := RX2) (T := TX2) hx hb hts 2 hinX2 hown hK hG i 11 (hal 2 i (show (i : Int) < S 5 0 0 by omega)) (by decide) rfl (by decide) (hts (.fieldLink RX4 115 "LineEvents$Machine" "hasBottle" "Z") (by decide +kernel)) (cV_I (z := bZ (¬ S 6 i 0 = 0)) rfl (rfl)) dX4_act_44 ?_
        refine z_ifb_ne (tgt := 55) hx hb dX4_act_47 (by decide) (fun c_7 => ?_) (fun c_7 => ?_)
        · have e9 : cC S E rt = cC (rjj S i) E rt := by unfold rjj; rw [if_neg (show ¬ (S 6 i 0 = 1 ∧ S 7 i 0 = S 0 i 0) by omega)]; unfold rll; rw [if_neg (by omega)]; unfold rlt; rw [if_neg (by omega)]
          rw [e9] at hG
          exact W.vret hx hb hr (fun t ht hW => ⟨rfl, ⟨by rw [ht]; exact hG, va_K.moved hW.alike hK, fun q hq => hA q (Nat.le_trans hS.1 (by rw [← ht]; exact hq))⟩, hS.F ht⟩) hS.2.2 dX4_act_55
        · refine lv_aload_n hx hb dX4_act_50 rfl (lv_at hl 0 rfl) ?_
          refine lv_aload_n hx hb dX4_act_51 rfl (lv_at hl 1 rfl) ?_
          refine c_callV (As := [.ref (ad 2 i)]) (rest := []) (Cn := RX4) (T := TX4) ⟨hx, hb, hml, hown, hts⟩ 0 0 (m_X4_take l D cI cJ A ad al S E rt hal i hI hi ⟨by omega, by omega⟩ (by omega)) (cwV 1 hts gX4_act_X4_take rfl rfl rfl (by decide +kernel) ⟨Nat.le_of_ble_eq_true rfl, Nat.le_of_ble_eq_true rfl⟩) (hal 0 0 rfl) (by decide) rfl hK hG hS hA rfl hl.1 rfl (Nat.le_of_ble_eq_true rfl) dX4_act_52 ⟨Nat.zero_le _, Nat.zero_le _⟩ (fun t9 H locs ht9 hB hS => ?_)
          have hG := hB.1; rw [ht9] at hG; clear hB ht9
          have e9 : cC (rtake S i) E rt = cC (rjj S i) E rt := by unfold rjj; rw [if_neg (show ¬ (S 6 i 0 = 1 ∧ S 7 i 0 = S 0 i 0) by omega)]; unfold rll; rw [if_neg (by omega)]; unfold rlt; rw [if_pos (by omega)]
          rw [e9] at hG
          exact W.vret hx hb hr (fun t ht hW => ⟨rfl, ⟨by rw [ht]; exact hG, va_K.moved hW.alike hK, fun q hq => hA q (Nat.le_trans hS.1 (by rw [← ht]; exact hq))⟩, hS.F ht⟩) hS.2.2 dX4_act_55
      · refine lv_aload_n hx hb dX4_act_38 rfl (lv_at hl 0 rfl) ?_
        refine lv_aload_n hx hb dX4_act_39 rfl (lv_at hl 1 rfl) ?_
        refine c_callV (As := [.ref (ad 2 i)]) (rest := []) (Cn := RX4) (T := TX4) ⟨hx, hb, hml, hown, hts⟩ 0 0 (m_X4_leave l D cI cJ A ad al S E rt hal i hI hi ⟨by omega, by omega⟩) (cwV 1 hts gX4_act_X4_leave rfl rfl rfl (by decide +kernel) ⟨Nat.le_of_ble_eq_true rfl, Nat.le_of_ble_eq_true rfl⟩) (hal 0 0 rfl) (by decide) rfl hK hG hS hA rfl hl.1 rfl (Nat.le_of_ble_eq_true rfl) dX4_act_40 ⟨Nat.zero_le _, Nat.zero_le _⟩ (fun t9 H locs ht9 hB hS => ?_)
        have hG := hB.1; rw [ht9] at hG; clear hB ht9
        have hlI := leave_I hI hi
        have hl30 := leave_30 (S := S) (m := i)
        have hl5 : rleave S i 5 0 0 = S 5 0 0 := leave_v (by decide)
        have halU : alS al (rleave S i) := alS_eq (leave_v (by decide)) (fun _ => leave_v (by decide)) (leave_v (by decide)) hal
        obtain ⟨U, hU⟩ : ∃ U, U = rleave S i := ⟨_, rfl⟩
        rw [← hU] at hG hlI hl30 hl5 halU
        have hU6 := (hlI.2.2.2.1 i (by omega)).1
        have hUi : (i : Int) < U 5 0 0 := by omega
        refine lv_aload_n hx hb dX4_act_43 rfl (lv_at hl 1 rfl) ?_
        refine c_getV (Cn := RX2) (T := TX2) hx hb hts 2 hinX2 hown hK hG i 11 (hal 2 i (show (i : Int) < S 5 0 0 by omega)) (by decide) rfl (by decide) (hts (.fieldLink RX4 115 "LineEvents$Machine" "hasBottle" "Z") (by decide +kernel)) (cV_I (z := bZ (¬ U 6 i 0 = 0)) rfl (rfl)) dX4_act_44 ?_
        refine z_ifb_ne (tgt := 55) hx hb dX4_act_47 (by decide) (fun c_8 => ?_) (fun c_8 => ?_)
        · have e9 : cC U E rt = cC (rjj S i) E rt := by unfold rjj; rw [if_neg (show ¬ (S 6 i 0 = 1 ∧ S 7 i 0 = S 0 i 0) by omega)]; unfold rll; rw [if_pos (by omega), ← hU]; unfold rlt; rw [if_neg (by omega)]
          rw [e9] at hG
          exact W.vret hx hb hr (fun t ht hW => ⟨rfl, ⟨by rw [ht]; exact hG, va_K.moved hW.alike hK, fun q hq => hA q (Nat.le_trans hS.1 (by rw [← ht]; exact hq))⟩, hS.F ht⟩) hS.2.2 dX4_act_55
        · refine lv_aload_n hx hb dX4_act_50 rfl (lv_at hl 0 rfl) ?_
          refine lv_aload_n hx hb dX4_act_51 rfl (lv_at hl 1 rfl) ?_
          refine c_callV (As := [.ref (ad 2 i)]) (rest := []) (Cn := RX4) (T := TX4) ⟨hx, hb, hml, hown, hts⟩ 0 0 (m_X4_take l D cI cJ A ad al U E rt halU i hlI hUi ⟨by omega, by omega⟩ (by omega)) (cwV 1 hts gX4_act_X4_take rfl rfl rfl (by decide +kernel) ⟨Nat.le_of_ble_eq_true rfl, Nat.le_of_ble_eq_true rfl⟩) (hal 0 0 rfl) (by decide) rfl hK hG hS hA rfl hl.1 rfl (Nat.le_of_ble_eq_true rfl) dX4_act_52 ⟨Nat.zero_le _, Nat.zero_le _⟩ (fun t9 H locs ht9 hB hS => ?_)
          have hG := hB.1; rw [ht9] at hG; clear hB ht9
          have e9 : cC (rtake U i) E rt = cC (rjj S i) E rt := by unfold rjj; rw [if_neg (show ¬ (S 6 i 0 = 1 ∧ S 7 i 0 = S 0 i 0) by omega)]; unfold rll; rw [if_pos (by omega), ← hU]; unfold rlt; rw [if_pos (by omega)]
          rw [e9] at hG
          exact W.vret hx hb hr (fun t ht hW => ⟨rfl, ⟨by rw [ht]; exact hG, va_K.moved hW.alike hK, fun q hq => hA q (Nat.le_trans hS.1 (by rw [← ht]; exact hq))⟩, hS.F ht⟩) hS.2.2 dX4_act_55
    · refine lv_aload_n hx hb dX4_act_14 rfl (lv_at hl 0 rfl) ?_
      refine lv_aload_n hx hb dX4_act_15 rfl (lv_at hl 1 rfl) ?_
      refine c_callV (As := [.ref (ad 2 i)]) (rest := []) (Cn := RX4) (T := TX4) ⟨hx, hb, hml, hown, hts⟩ 0 0 (m_X4_judge l D cI cJ A ad al S E rt hal i hI hi ⟨by omega, by omega⟩ (by omega)) (cwV 1 hts gX4_act_X4_judge rfl rfl rfl (by decide +kernel) ⟨Nat.le_of_ble_eq_true rfl, Nat.le_of_ble_eq_true rfl⟩) (hal 0 0 rfl) (by decide) rfl hK hG hS hA rfl hl.1 rfl (Nat.le_of_ble_eq_true rfl) dX4_act_16 ⟨Nat.zero_le _, Nat.zero_le _⟩ (fun t9 H locs ht9 hB hS => ?_)
      have hG := hB.1; rw [ht9] at hG; clear hB ht9
      have hjI := judge_I (m := i) hI (by omega)
      have hj30 := judge_30 (S := S) (m := i)
      have hj5 : (rjudge S i).1 5 0 0 = S 5 0 0 := judge_v (by decide)
      have hj25 : (rjudge S i).1 25 0 0 = S 25 0 0 := judge_v (by decide)
      have hjs := judge_st (S := S) (m := i) h8
      have halT : alS al (rjudge S i).1 := alS_eq (judge_v (by decide)) (fun _ => judge_v (by decide)) (judge_v (by decide)) hal
      obtain ⟨T, hT⟩ : ∃ T, T = (rjudge S i).1 := ⟨_, rfl⟩
      rw [← hT] at hG hjI hj30 hj5 hj25 hjs halT
      have hT6 := (hjI.2.2.2.1 i (by omega)).1
      have hT8 := (hjI.2.2.2.1 i (by omega)).2.2.1
      have hTi : (i : Int) < T 5 0 0 := by omega
      refine lv_aload_n hx hb dX4_act_19 rfl (lv_at hl 1 rfl) ?_
      refine lv_aload_n hx hb dX4_act_20 rfl (lv_at hl 0 rfl) ?_
      refine c_getV (Cn := RX4) (T := TX4) hx hb hts 0 hinX4 hown hK hG 0 1 (hal 0 0 rfl) (by decide) rfl (by decide) (hts (.fieldLink RX4 27 "LineEvents" "now" "I") (by decide +kernel)) (cV_I (z := T 25 0 0) rfl (rfl)) dX4_act_21 ?_
      refine c_callV (As := [.int (zI (T 25 0 0))]) (rest := []) (Cn := RX2) (T := TX2) ⟨hx, hb, hml, hown, hts⟩ 2 i (m_X2_stands l D cI cJ A ad al T E rt halT i (T 25 0 0) hjI hTi ⟨by omega, by omega⟩ ⟨by omega, by omega⟩) (cwV 1 hts gX4_act_X2_stands rfl rfl rfl (by decide +kernel) ⟨Nat.le_of_ble_eq_true rfl, Nat.le_of_ble_eq_true rfl⟩) (hal 2 i (show (i : Int) < S 5 0 0 by omega)) (by decide) rfl hK hG hS hA rfl hl.1 rfl (Nat.le_of_ble_eq_true rfl) dX4_act_24 ⟨Nat.zero_le _, Nat.zero_le _⟩ (fun t9 H locs ht9 hB hS => ?_)
      have hG := hB.1; rw [ht9] at hG; clear hB ht9
      refine z_ifb_eq (tgt := 31) hx hb dX4_act_27 (by decide) (fun c_9 => ?_) (fun c_9 => ?_)
      · have hjb : ¬ (rjudge S i).2 = true := fun q => c_9 (Or.inr (by have := hjs.1.mpr q; omega))
        refine lv_aload_n hx hb dX4_act_31 rfl (lv_at hl 1 rfl) ?_
        refine c_getV (Cn := RX2) (T := TX2) hx hb hts 2 hinX2 hown hK hG i 13 (hal 2 i (show (i : Int) < S 5 0 0 by omega)) (by decide) rfl (by decide) (hts (.fieldLink RX4 201 "LineEvents$Machine" "judged" "Z") (by decide +kernel)) (cV_I (z := bZ (T 6 i 0 = 2)) rfl (rfl)) dX4_act_32 ?_
        refine z_ifb_eq (tgt := 43) hx hb dX4_act_35 (by decide) (fun c_10 => ?_) (fun c_10 => ?_)
        · refine lv_aload_n hx hb dX4_act_43 rfl (lv_at hl 1 rfl) ?_
          refine c_getV (Cn := RX2) (T := TX2) hx hb hts 2 hinX2 hown hK hG i 11 (hal 2 i (show (i : Int) < S 5 0 0 by omega)) (by decide) rfl (by decide) (hts (.fieldLink RX4 115 "LineEvents$Machine" "hasBottle" "Z") (by decide +kernel)) (cV_I (z := bZ (¬ T 6 i 0 = 0)) rfl (rfl)) dX4_act_44 ?_
          refine z_ifb_ne (tgt := 55) hx hb dX4_act_47 (by decide) (fun c_11 => ?_) (fun c_11 => ?_)
          · have e9 : cC T E rt = cC (rjj S i) E rt := by unfold rjj; rw [if_pos (show S 6 i 0 = 1 ∧ S 7 i 0 = S 0 i 0 by omega)]; first | rw [if_pos hjb, hT] | (rw [if_neg hjb, ← hT]; unfold rll; rw [if_neg (by omega)]; unfold rlt; rw [if_neg (by omega)])
            rw [e9] at hG
            exact W.vret hx hb hr (fun t ht hW => ⟨rfl, ⟨by rw [ht]; exact hG, va_K.moved hW.alike hK, fun q hq => hA q (Nat.le_trans hS.1 (by rw [← ht]; exact hq))⟩, hS.F ht⟩) hS.2.2 dX4_act_55
          · refine lv_aload_n hx hb dX4_act_50 rfl (lv_at hl 0 rfl) ?_
            refine lv_aload_n hx hb dX4_act_51 rfl (lv_at hl 1 rfl) ?_
            refine c_callV (As := [.ref (ad 2 i)]) (rest := []) (Cn := RX4) (T := TX4) ⟨hx, hb, hml, hown, hts⟩ 0 0 (m_X4_take l D cI cJ A ad al T E rt halT i hjI hTi ⟨by omega, by omega⟩ (by omega)) (cwV 1 hts gX4_act_X4_take rfl rfl rfl (by decide +kernel) ⟨Nat.le_of_ble_eq_true rfl, Nat.le_of_ble_eq_true rfl⟩) (hal 0 0 rfl) (by decide) rfl hK hG hS hA rfl hl.1 rfl (Nat.le_of_ble_eq_true rfl) dX4_act_52 ⟨Nat.zero_le _, Nat.zero_le _⟩ (fun t9 H locs ht9 hB hS => ?_)
            have hG := hB.1; rw [ht9] at hG; clear hB ht9
            have e9 : cC (rtake T i) E rt = cC (rjj S i) E rt := by unfold rjj; rw [if_pos (show S 6 i 0 = 1 ∧ S 7 i 0 = S 0 i 0 by omega)]; rw [if_neg hjb, ← hT]; unfold rll; rw [if_neg (by omega)]; unfold rlt; rw [if_pos (by omega)]
            rw [e9] at hG
            exact W.vret hx hb hr (fun t ht hW => ⟨rfl, ⟨by rw [ht]; exact hG, va_K.moved hW.alike hK, fun q hq => hA q (Nat.le_trans hS.1 (by rw [← ht]; exact hq))⟩, hS.F ht⟩) hS.2.2 dX4_act_55
        · refine lv_aload_n hx hb dX4_act_38 rfl (lv_at hl 0 rfl) ?_
          refine lv_aload_n hx hb dX4_act_39 rfl (lv_at hl 1 rfl) ?_
          refine c_callV (As := [.ref (ad 2 i)]) (rest := []) (Cn := RX4) (T := TX4) ⟨hx, hb, hml, hown, hts⟩ 0 0 (m_X4_leave l D cI cJ A ad al T E rt halT i hjI hTi ⟨by omega, by omega⟩) (cwV 1 hts gX4_act_X4_leave rfl rfl rfl (by decide +kernel) ⟨Nat.le_of_ble_eq_true rfl, Nat.le_of_ble_eq_true rfl⟩) (hal 0 0 rfl) (by decide) rfl hK hG hS hA rfl hl.1 rfl (Nat.le_of_ble_eq_true rfl) dX4_act_40 ⟨Nat.zero_le _, Nat.zero_le _⟩ (fun t9 H locs ht9 hB hS => ?_)
          have hG := hB.1; rw [ht9] at hG; clear hB ht9
          have hlI := leave_I hjI hTi
          have hl30 := leave_30 (S := T) (m := i)
          have hl5 : rleave T i 5 0 0 = T 5 0 0 := leave_v (by decide)
          have halU : alS al (rleave T i) := alS_eq (leave_v (by decide)) (fun _ => leave_v (by decide)) (leave_v (by decide)) halT
          obtain ⟨U, hU⟩ : ∃ U, U = rleave T i := ⟨_, rfl⟩
          rw [← hU] at hG hlI hl30 hl5 halU
          have hU6 := (hlI.2.2.2.1 i (by omega)).1
          have hUi : (i : Int) < U 5 0 0 := by omega
          refine lv_aload_n hx hb dX4_act_43 rfl (lv_at hl 1 rfl) ?_
          refine c_getV (Cn := RX2) (T := TX2) hx hb hts 2 hinX2 hown hK hG i 11 (hal 2 i (show (i : Int) < S 5 0 0 by omega)) (by decide) rfl (by decide) (hts (.fieldLink RX4 115 "LineEvents$Machine" "hasBottle" "Z") (by decide +kernel)) (cV_I (z := bZ (¬ U 6 i 0 = 0)) rfl (rfl)) dX4_act_44 ?_
          refine z_ifb_ne (tgt := 55) hx hb dX4_act_47 (by decide) (fun c_12 => ?_) (fun c_12 => ?_)
          · have e9 : cC U E rt = cC (rjj S i) E rt := by unfold rjj; rw [if_pos (show S 6 i 0 = 1 ∧ S 7 i 0 = S 0 i 0 by omega)]; rw [if_neg hjb, ← hT]; unfold rll; rw [if_pos (by omega), ← hU]; unfold rlt; rw [if_neg (by omega)]
            rw [e9] at hG
            exact W.vret hx hb hr (fun t ht hW => ⟨rfl, ⟨by rw [ht]; exact hG, va_K.moved hW.alike hK, fun q hq => hA q (Nat.le_trans hS.1 (by rw [← ht]; exact hq))⟩, hS.F ht⟩) hS.2.2 dX4_act_55
          · refine lv_aload_n hx hb dX4_act_50 rfl (lv_at hl 0 rfl) ?_
            refine lv_aload_n hx hb dX4_act_51 rfl (lv_at hl 1 rfl) ?_
            refine c_callV (As := [.ref (ad 2 i)]) (rest := []) (Cn := RX4) (T := TX4) ⟨hx, hb, hml, hown, hts⟩ 0 0 (m_X4_take l D cI cJ A ad al U E rt halU i hlI hUi ⟨by omega, by omega⟩ (by omega)) (cwV 1 hts gX4_act_X4_take rfl rfl rfl (by decide +kernel) ⟨Nat.le_of_ble_eq_true rfl, Nat.le_of_ble_eq_true rfl⟩) (hal 0 0 rfl) (by decide) rfl hK hG hS hA rfl hl.1 rfl (Nat.le_of_ble_eq_true rfl) dX4_act_52 ⟨Nat.zero_le _, Nat.zero_le _⟩ (fun t9 H locs ht9 hB hS => ?_)
            have hG := hB.1; rw [ht9] at hG; clear hB ht9
            have e9 : cC (rtake U i) E rt = cC (rjj S i) E rt := by unfold rjj; rw [if_pos (show S 6 i 0 = 1 ∧ S 7 i 0 = S 0 i 0 by omega)]; rw [if_neg hjb, ← hT]; unfold rll; rw [if_pos (by omega), ← hU]; unfold rlt; rw [if_pos (by omega)]
            rw [e9] at hG
            exact W.vret hx hb hr (fun t ht hW => ⟨rfl, ⟨by rw [ht]; exact hG, va_K.moved hW.alike hK, fun q hq => hA q (Nat.le_trans hS.1 (by rw [← ht]; exact hq))⟩, hS.F ht⟩) hS.2.2 dX4_act_55
      · have hjb : (rjudge S i).2 = true := hjs.1.mp (by omega)
        have e9 : cC T E rt = cC (rjj S i) E rt := by unfold rjj; rw [if_pos (show S 6 i 0 = 1 ∧ S 7 i 0 = S 0 i 0 by omega)]; first | rw [if_pos hjb, hT] | (rw [if_neg hjb, ← hT]; unfold rll; rw [if_neg (by omega)]; unfold rlt; rw [if_neg (by omega)])
        rw [e9] at hG
        exact W.vret hx hb hr (fun t ht hW => ⟨rfl, ⟨by rw [ht]; exact hG, va_K.moved hW.alike hK, fun q hq => hA q (Nat.le_trans hS.1 (by rw [← ht]; exact hq))⟩, hS.F ht⟩) hS.2.2 dX4_act_30
set_option maxHeartbeats 4000000 in
set_option maxRecDepth 100000 in
theorem m_X4_actAll (l : Launch) (D : va_G) (cI cJ : ClassId) (A : Nat → Prop) (ad : Nat → Nat → Nat) (al : Nat → Nat → Prop) (S : sT) (E : Nat → Int) (rt : Int) (hal : alS al S)  (hI : Inv S) (hC : InvC S) (hE : ∀ j : Nat, (j : Int) < S 5 0 0 → E j = rheld S j) (he : 0 ≤ S 30 0 0 ∧ S 30 0 0 < 2147482000) : Met l yX4_actAll wsX4_actAll ({ frames := 5, cells := 0, slots := 0, locals := 104 }) (va_Pc [.ref (ad 0 0)] (gCU D cI cJ A ad al (cC S E rt))) (gO none (gCU D cI cJ A ad al (cC (ractA (S 5 0 0).toNat S) E rt)) A) 0 0 A := by
  refine Met.ofW (cc := cX4_actAll) (maxL := 2) (ret := none) (by decide) rfl ?_
  intro p e s m0 args below meth c s₁ B hml hv
  obtain ⟨rfl, hG, hK, hA⟩ := hv
  have hx := B.exec
  have hb := B.bytes
  have hr := B.returns
  have hts := atoms_spec (ws := wsX4_actAll) B.pre
  have hown : s.vm.findClass RX4 = some m0.cls := findClass_of_methodNamed B.named
  have hlocks := B.notSynchronized
  have hinX0 : ∀ w ∈ wsX00, w ∈ wsX4_actAll := by decide +kernel
  have hinX1 : ∀ w ∈ wsX10, w ∈ wsX4_actAll := by decide +kernel
  have hinX2 : ∀ w ∈ wsX20, w ∈ wsX4_actAll := by decide +kernel
  have hinX4 : ∀ w ∈ wsX40, w ∈ wsX4_actAll := by decide +kernel
  have hS : va_S A s.heap s.heap [] := va_S.rf
  have hl := lv_entry ([.ref (ad 0 0)]) (n := 2) (Nat.le_of_ble_eq_true rfl)
  rw [lg_entry_eq]
  generalize (lg_sl ([.ref (ad 0 0)]) ++ List.replicate (2 - (lg_sl ([.ref (ad 0 0)])).length) Slot.unset).toArray = ls at hl ⊢
  replace hl : lv_has ls 2 [(0, .ref (ad 0 0))] := hl
  obtain ⟨hI5, hI25, hI20, hIM, hIL, hIR⟩ := id hI
  by_cases hn0 : S 5 0 0 = 0
  · refine lv_aload_n hx hb dX4_actAll_0 rfl (lv_at hl 0 rfl) ?_
    refine c_getV (Cn := RX4) (T := TX4) hx hb hts 0 hinX4 hown hK hG 0 2 (hal 0 0 rfl) (by decide) rfl (by decide) (hts (.fieldLink RX4 38 "LineEvents" "highest" "LLineEvents$Machine;") (by decide +kernel)) (cV_N (t := 2) rfl (show S 5 0 0 - 1 < 0 by omega)) dX4_actAll_1 ?_
    refine lv_astore_nN (lv' := [(1, .null), (0, .ref (ad 0 0))]) hx hb dX4_actAll_4 rfl hl (by decide) rfl (fun ls hl => ?_)
    refine lv_aload_nN hx hb dX4_actAll_5 rfl (lv_at hl 0 rfl) ?_
    refine lv_ifnullN (tgt := 33) hx hb dX4_actAll_6 (by decide) ?_
    have e9 : cC S E rt = cC (ractA (S 5 0 0).toNat S) E rt := by rw [hn0]; rfl
    rw [e9] at hG
    exact W.vret hx hb hr (fun t ht hW => ⟨rfl, ⟨by rw [ht]; exact hG, va_K.moved hW.alike hK, fun q hq => hA q (Nat.le_trans hS.1 (by rw [← ht]; exact hq))⟩, hS.F ht⟩) hS.2.2 dX4_actAll_33
  · obtain ⟨i, hin9⟩ : ∃ i : Nat, (i : Int) + 1 = S 5 0 0 := ⟨(S 5 0 0 - 1).toNat, by omega⟩
    refine lv_aload_n hx hb dX4_actAll_0 rfl (lv_at hl 0 rfl) ?_
    refine c_getV (Cn := RX4) (T := TX4) hx hb hts 0 hinX4 hown hK hG 0 2 (hal 0 0 rfl) (by decide) rfl (by decide) (hts (.fieldLink RX4 38 "LineEvents" "highest" "LLineEvents$Machine;") (by decide +kernel)) (cV_R (t := 2) (j := i) rfl (by have := hin9; show S 5 0 0 - 1 = (i : Int); omega)) dX4_actAll_1 ?_
    refine lv_astore_n (lv' := [(1, .ref (ad 2 i)), (0, .ref (ad 0 0))]) hx hb dX4_actAll_4 rfl hl (by decide) rfl (fun ls hl => ?_)
    obtain ⟨U, hU0⟩ : ∃ U, U = S := ⟨S, rfl⟩
    have hUI : Inv U := by rw [hU0]; exact hI
    have hUC : InvC U := by rw [hU0]; exact hC
    have hU5 : U 5 0 0 = S 5 0 0 := by rw [hU0]
    have hU30 : 0 ≤ U 30 0 0 ∧ U 30 0 0 + 3 * ((i : Int) + 1) ≤ 2147482900 := by rw [hU0]; omega
    have halU : alS al U := by rw [hU0]; exact hal
    have hUE : ∀ j : Nat, (j : Int) < S 5 0 0 → rheld U j = E j := by rw [hU0]; exact fun j hj => (hE j hj).symm
    have hA9 : ractA (i + 1) U = ractA (S 5 0 0).toNat S := by rw [hU0]; congr 1; omega
    have hiS : (i : Int) < S 5 0 0 := by omega
    rw [← hU0] at hG
    clear hU0 hin9
    obtain ⟨H, hH0⟩ : ∃ H : Heap, H = s.heap := ⟨_, rfl⟩
    obtain ⟨locs, hL0⟩ : ∃ L : List Loc, L = [] := ⟨_, rfl⟩
    rw [← hH0, ← hL0]
    rw [← hH0] at hG
    replace hS : va_S A s.heap H locs := by rw [hH0, hL0]; exact hS
    clear hH0 hL0
    induction i generalizing ls U H locs with
    | zero =>
      obtain ⟨hI5, hI25, hI20, hIM, hIL, hIR⟩ := id hUI
      have hUi : ((0 : Nat) : Int) < U 5 0 0 := by omega
      have hEi := hUE 0 hiS
      have hhB := held_B (S := U) 0 hUI
      have hM8 := (hIM 0 (by omega)).2.2.1
      refine lv_aload_n hx hb dX4_actAll_5 rfl (lv_at hl 0 rfl) ?_
      refine lv_ifnull hx hb dX4_actAll_6 ?_
      refine lv_aload_n hx hb dX4_actAll_9 rfl (lv_at hl 0 rfl) ?_
      refine lv_aload_n hx hb dX4_actAll_10 rfl (lv_at hl 1 rfl) ?_
      refine c_getV (Cn := RX4) (T := TX4) hx hb hts 0 hinX4 hown hK hG 0 1 (hal 0 0 rfl) (by decide) rfl (by decide) (hts (.fieldLink RX4 27 "LineEvents" "now" "I") (by decide +kernel)) (cV_I (z := U 25 0 0) rfl (rfl)) dX4_actAll_11 ?_
      refine c_callV (As := [.int (zI (U 25 0 0))]) (rest := []) (Cn := RX2) (T := TX2) ⟨hx, hb, hml, hown, hts⟩ 2 0 (m_X2_stands l D cI cJ A ad al U E rt halU 0 (U 25 0 0) hUI hUi ⟨by omega, by omega⟩ ⟨by omega, by omega⟩) (cwV 1 hts gX4_actAll_X2_stands rfl rfl rfl (by decide +kernel) ⟨Nat.le_of_ble_eq_true rfl, Nat.le_of_ble_eq_true rfl⟩) (hal 2 0 (show ((0 : Nat) : Int) < S 5 0 0 by omega)) (by decide) rfl hK hG hS hA rfl hl.1 rfl (Nat.le_of_ble_eq_true rfl) dX4_actAll_14 ⟨Nat.zero_le _, Nat.zero_le _⟩ (fun t9 H locs ht9 hB hS => ?_)
      have hG := hB.1; rw [ht9] at hG; clear hB ht9
      refine z_ifb_ne (tgt := 25) hx hb dX4_actAll_17 (by decide) (fun c_1 => ?_) (fun c_1 => ?_)
      · have e7 : cC U E rt = cC (ract U 0) E rt := by unfold ract; rw [if_neg (by omega)]
        refine lv_aload_n hx hb dX4_actAll_25 rfl (lv_at hl 0 rfl) ?_
        refine c_getV (Cn := RX2) (T := TX2) hx hb hts 2 hinX2 hown hK hG 0 2 (hal 2 0 (show ((0 : Nat) : Int) < S 5 0 0 by omega)) (by decide) rfl (by decide) (hts (.fieldLink RX4 118 "LineEvents$Machine" "lower" "LLineEvents$Machine;") (by decide +kernel)) (cV_N (t := 2) rfl (show ((0 : Nat) : Int) - 1 < 0 by decide)) dX4_actAll_26 ?_
        refine lv_astore_nN (lv' := [(1, .null), (0, .ref (ad 0 0))]) hx hb dX4_actAll_29 rfl hl (by decide) rfl (fun ls hl => ?_)
        refine lv_goto (tgt := 5) hx hb dX4_actAll_30 (by decide) ?_
        refine lv_aload_nN hx hb dX4_actAll_5 rfl (lv_at hl 0 rfl) ?_
        refine lv_ifnullN (tgt := 33) hx hb dX4_actAll_6 (by decide) ?_
        have e9 : cC U E rt = cC (ractA (S 5 0 0).toNat S) E rt := by rw [← hA9]; exact e7
        rw [e9] at hG
        exact W.vret hx hb hr (fun t ht hW => ⟨rfl, ⟨by rw [ht]; exact hG, va_K.moved hW.alike hK, fun q hq => hA q (Nat.le_trans hS.1 (by rw [← ht]; exact hq))⟩, hS.F ht⟩) hS.2.2 dX4_actAll_33
      · refine lv_aload_n hx hb dX4_actAll_20 rfl (lv_at hl 1 rfl) ?_
        refine lv_aload_n hx hb dX4_actAll_21 rfl (lv_at hl 0 rfl) ?_
        refine c_callV (As := [.ref (ad 2 0)]) (rest := []) (Cn := RX4) (T := TX4) ⟨hx, hb, hml, hown, hts⟩ 0 0 (m_X4_act l D cI cJ A ad al U E rt halU 0 hUI hUi ⟨by omega, by omega⟩ (fun q => (hUC 0 hUi).1 q) (fun q => (hUC 0 hUi).2.1 q) (by omega) (by omega)) (cwV 1 hts gX4_actAll_X4_act rfl rfl rfl (by decide +kernel) ⟨Nat.le_of_ble_eq_true rfl, Nat.le_of_ble_eq_true rfl⟩) (hal 0 0 rfl) (by decide) rfl hK hG hS hA rfl hl.1 rfl (Nat.le_of_ble_eq_true rfl) dX4_actAll_22 ⟨Nat.zero_le _, Nat.zero_le _⟩ (fun t9 H locs ht9 hB hS => ?_)
        have hG := hB.1; rw [ht9] at hG; clear hB ht9
        have e7 : cC (rjj U 0) E rt = cC (ract U 0) E rt := by unfold ract; rw [if_pos (by omega)]
        refine lv_aload_n hx hb dX4_actAll_25 rfl (lv_at hl 0 rfl) ?_
        refine c_getV (Cn := RX2) (T := TX2) hx hb hts 2 hinX2 hown hK hG 0 2 (hal 2 0 (show ((0 : Nat) : Int) < S 5 0 0 by omega)) (by decide) rfl (by decide) (hts (.fieldLink RX4 118 "LineEvents$Machine" "lower" "LLineEvents$Machine;") (by decide +kernel)) (cV_N (t := 2) rfl (show ((0 : Nat) : Int) - 1 < 0 by decide)) dX4_actAll_26 ?_
        refine lv_astore_nN (lv' := [(1, .null), (0, .ref (ad 0 0))]) hx hb dX4_actAll_29 rfl hl (by decide) rfl (fun ls hl => ?_)
        refine lv_goto (tgt := 5) hx hb dX4_actAll_30 (by decide) ?_
        refine lv_aload_nN hx hb dX4_actAll_5 rfl (lv_at hl 0 rfl) ?_
        refine lv_ifnullN (tgt := 33) hx hb dX4_actAll_6 (by decide) ?_
        have e9 : cC (rjj U 0) E rt = cC (ractA (S 5 0 0).toNat S) E rt := by rw [← hA9]; exact e7
        rw [e9] at hG
        exact W.vret hx hb hr (fun t ht hW => ⟨rfl, ⟨by rw [ht]; exact hG, va_K.moved hW.alike hK, fun q hq => hA q (Nat.le_trans hS.1 (by rw [← ht]; exact hq))⟩, hS.F ht⟩) hS.2.2 dX4_actAll_33
    | succ i ih =>
      obtain ⟨hI5, hI25, hI20, hIM, hIL, hIR⟩ := id hUI
      have hUi : (((i + 1) : Nat) : Int) < U 5 0 0 := by omega
      have hEi := hUE (i + 1) hiS
      have hhB := held_B (S := U) (i + 1) hUI
      have hM8 := (hIM (i + 1) (by omega)).2.2.1
      refine lv_aload_n hx hb dX4_actAll_5 rfl (lv_at hl 0 rfl) ?_
      refine lv_ifnull hx hb dX4_actAll_6 ?_
      refine lv_aload_n hx hb dX4_actAll_9 rfl (lv_at hl 0 rfl) ?_
      refine lv_aload_n hx hb dX4_actAll_10 rfl (lv_at hl 1 rfl) ?_
      refine c_getV (Cn := RX4) (T := TX4) hx hb hts 0 hinX4 hown hK hG 0 1 (hal 0 0 rfl) (by decide) rfl (by decide) (hts (.fieldLink RX4 27 "LineEvents" "now" "I") (by decide +kernel)) (cV_I (z := U 25 0 0) rfl (rfl)) dX4_actAll_11 ?_
      refine c_callV (As := [.int (zI (U 25 0 0))]) (rest := []) (Cn := RX2) (T := TX2) ⟨hx, hb, hml, hown, hts⟩ 2 (i + 1) (m_X2_stands l D cI cJ A ad al U E rt halU (i + 1) (U 25 0 0) hUI hUi ⟨by omega, by omega⟩ ⟨by omega, by omega⟩) (cwV 1 hts gX4_actAll_X2_stands rfl rfl rfl (by decide +kernel) ⟨Nat.le_of_ble_eq_true rfl, Nat.le_of_ble_eq_true rfl⟩) (hal 2 (i + 1) (show (((i + 1) : Nat) : Int) < S 5 0 0 by omega)) (by decide) rfl hK hG hS hA rfl hl.1 rfl (Nat.le_of_ble_eq_true rfl) dX4_actAll_14 ⟨Nat.zero_le _, Nat.zero_le _⟩ (fun t9 H locs ht9 hB hS => ?_)
      have hG := hB.1; rw [ht9] at hG; clear hB ht9
      refine z_ifb_ne (tgt := 25) hx hb dX4_actAll_17 (by decide) (fun c_2 => ?_) (fun c_2 => ?_)
      · have e7 : cC U E rt = cC (ract U (i + 1)) E rt := by unfold ract; rw [if_neg (by omega)]
        refine lv_aload_n hx hb dX4_actAll_25 rfl (lv_at hl 0 rfl) ?_
        refine c_getV (Cn := RX2) (T := TX2) hx hb hts 2 hinX2 hown hK hG (i + 1) 2 (hal 2 (i + 1) (show (((i + 1) : Nat) : Int) < S 5 0 0 by omega)) (by decide) rfl (by decide) (hts (.fieldLink RX4 118 "LineEvents$Machine" "lower" "LLineEvents$Machine;") (by decide +kernel)) (cV_R (t := 2) (j := i) rfl (show ((i + 1 : Nat) : Int) - 1 = (i : Int) by omega)) dX4_actAll_26 ?_
        refine lv_astore_n (lv' := [(1, .ref (ad 2 i)), (0, .ref (ad 0 0))]) hx hb dX4_actAll_29 rfl hl (by decide) rfl (fun ls hl => ?_)
        refine lv_goto (tgt := 5) hx hb dX4_actAll_30 (by decide) ?_
        have ha9 := act_I (m := i + 1) hUI hUi
        rw [e7] at hG
        exact ih (ls := ls) (U := ract U (i + 1)) (H := H) (locs := locs) (hG := hG) (hS := hS) (hUI := ha9.1) (hUC := InvC_act hUI hUC hUi) (hU5 := by omega) (hU30 := by omega) (halU := alS_eq (act_v (by decide)) (fun _ => act_v (by decide)) (act_v (by decide)) halU) (hUE := fun j hj => by rw [act_held]; exact hUE j hj) (hA9 := by rw [← hA9]; rfl) (hiS := by omega) (hl := lv_sub hl [0, 1] rfl)
      · refine lv_aload_n hx hb dX4_actAll_20 rfl (lv_at hl 1 rfl) ?_
        refine lv_aload_n hx hb dX4_actAll_21 rfl (lv_at hl 0 rfl) ?_
        refine c_callV (As := [.ref (ad 2 (i + 1))]) (rest := []) (Cn := RX4) (T := TX4) ⟨hx, hb, hml, hown, hts⟩ 0 0 (m_X4_act l D cI cJ A ad al U E rt halU (i + 1) hUI hUi ⟨by omega, by omega⟩ (fun q => (hUC (i + 1) hUi).1 q) (fun q => (hUC (i + 1) hUi).2.1 q) (by omega) (by omega)) (cwV 1 hts gX4_actAll_X4_act rfl rfl rfl (by decide +kernel) ⟨Nat.le_of_ble_eq_true rfl, Nat.le_of_ble_eq_true rfl⟩) (hal 0 0 rfl) (by decide) rfl hK hG hS hA rfl hl.1 rfl (Nat.le_of_ble_eq_true rfl) dX4_actAll_22 ⟨Nat.zero_le _, Nat.zero_le _⟩ (fun t9 H locs ht9 hB hS => ?_)
        have hG := hB.1; rw [ht9] at hG; clear hB ht9
        have e7 : cC (rjj U (i + 1)) E rt = cC (ract U (i + 1)) E rt := by unfold ract; rw [if_pos (by omega)]
        refine lv_aload_n hx hb dX4_actAll_25 rfl (lv_at hl 0 rfl) ?_
        refine c_getV (Cn := RX2) (T := TX2) hx hb hts 2 hinX2 hown hK hG (i + 1) 2 (hal 2 (i + 1) (show (((i + 1) : Nat) : Int) < S 5 0 0 by omega)) (by decide) rfl (by decide) (hts (.fieldLink RX4 118 "LineEvents$Machine" "lower" "LLineEvents$Machine;") (by decide +kernel)) (cV_R (t := 2) (j := i) rfl (show ((i + 1 : Nat) : Int) - 1 = (i : Int) by omega)) dX4_actAll_26 ?_
        refine lv_astore_n (lv' := [(1, .ref (ad 2 i)), (0, .ref (ad 0 0))]) hx hb dX4_actAll_29 rfl hl (by decide) rfl (fun ls hl => ?_)
        refine lv_goto (tgt := 5) hx hb dX4_actAll_30 (by decide) ?_
        have ha9 := act_I (m := i + 1) hUI hUi
        rw [e7] at hG
        exact ih (ls := ls) (U := ract U (i + 1)) (H := H) (locs := locs) (hG := hG) (hS := hS) (hUI := ha9.1) (hUC := InvC_act hUI hUC hUi) (hU5 := by omega) (hU30 := by omega) (halU := alS_eq (act_v (by decide)) (fun _ => act_v (by decide)) (act_v (by decide)) halU) (hUE := fun j hj => by rw [act_held]; exact hUE j hj) (hA9 := by rw [← hA9]; rfl) (hiS := by omega) (hl := lv_sub hl [0, 1] rfl)
