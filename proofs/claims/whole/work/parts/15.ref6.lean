set_option maxHeartbeats 4000000 in
set_option maxRecDepth 100000 in
theorem m_X5_machine (l : Launch) (D : va_G) (cI cJ : ClassId) (A : Nat → Prop) (ad : Nat → Nat → Nat) (S : Nat → Nat → Nat → Int) (t a : Int) (ht0 : zB t) (ha0 : zB a) (hI : Inv S) : Met l yX5_machine wsX5_machine ({ frames := 1, cells := 0, slots := 0, locals := 21 }) (va_Pc [.ref (ad 32 0), .int (zI t), .int (zI a)] (gRU D cI cJ A ad S)) (gO (some (.int (zI (rmachV (su S 31 0 0 0) t a)))) (gRU D cI cJ A ad (rmachS (su S 31 0 0 0) t a)) A) 0 0 A := by
  refine Met.ofW (cc := cX5_machine) (maxL := 5) (ret := (some .int)) (by decide) rfl ?_
  intro p e s m0 args below meth c s₁ B hml hv
  obtain ⟨rfl, hG, hK⟩ := hv
  have hx := B.exec
  have hb := B.bytes
  have hr := B.returns
  have hts := atoms_spec (ws := wsX5_machine) B.pre
  have hown : s.vm.findClass RX5 = some m0.cls := findClass_of_methodNamed B.named
  have hlocks := B.notSynchronized
  have hin : ∀ w ∈ wsX50, w ∈ wsX5_machine := by decide +kernel
  have hS : va_S A s.heap s.heap [] := va_S.rf
  have hl := lv_entry ([.ref (ad 32 0), .int (zI t), .int (zI a)]) (n := 5) (Nat.le_of_ble_eq_true rfl)
  rw [lg_entry_eq]
  generalize (lg_sl ([.ref (ad 32 0), .int (zI t), .int (zI a)]) ++ List.replicate (5 - (lg_sl ([.ref (ad 32 0), .int (zI t), .int (zI a)])).length) Slot.unset).toArray = ls at hl ⊢
  replace hl : lv_has ls 5 [(0, .ref (ad 32 0)), (1, .int (zI t)), (2, .int (zI a))] := hl
  refine lv_aload_n hx hb dX5_machine_0 rfl (lv_at hl 0 rfl) ?_
  refine lv_iconst (v := zI 0) hx hb dX5_machine_1 rfl ?_
  refine r_putI hx hb hts hin hown hK hG hS 31 (by decide) rfl (hts (.fieldLink RX5 87 "LineEventsModel" "thrown" "I") (by decide +kernel)) rfl rfl (z := 0) dX5_machine_2 (fun H locs hG hS => ?_)
  generalize hS0 : su S 31 0 0 0 = S0 at hG ⊢
  have hI0 : Inv S0 := by rw [← hS0]; exact hI
  obtain ⟨hI5, hI25, hI20, hIM, hIL, hIR⟩ := id hI0
  refine lv_aload_n hx hb dX5_machine_5 rfl (lv_at hl 0 rfl) ?_
  refine r_getI hx hb hts hin hown hK hG 25 (by decide) rfl (hts (.fieldLink RX5 94 "LineEventsModel" "now" "I") (by decide +kernel)) (z := S0 25 0 0) (rfl) dX5_machine_6 ?_
  refine z_if_ne (tgt := 51) hx hb dX5_machine_9 (by decide) ⟨by omega, by omega⟩ (fun c_1 => ?_) (fun c_1 => ?_)
  · refine lv_iconst (v := zI 0) hx hb dX5_machine_51 rfl ?_
    refine lv_istore_n (lv' := [(3, .int (zI 0)), (0, .ref (ad 32 0)), (1, .int (zI t)), (2, .int (zI a))]) hx hb dX5_machine_52 rfl hl (by decide) rfl (fun ls hl => ?_)
    refine lv_iload_n hx hb dX5_machine_53 rfl (lv_at hl 0 rfl) ?_
    refine z_if_ne (tgt := 59) hx hb dX5_machine_54 (by decide) ⟨by decide, by decide⟩ (fun q => absurd q (by decide)) (fun _ => ?_)
    refine lv_iconst (v := zI (-1)) hx hb dX5_machine_57 rfl ?_
    have e9 : S0 = rmachS S0 t a := by unfold rmachS; first | (exfalso; omega) | rw [if_neg (by omega)] | rw [if_pos (by omega), if_pos (by omega)] | rw [if_pos (by omega), if_neg (by omega), if_pos (by omega)] | rw [if_pos (by omega), if_neg (by omega), if_neg (by omega)] | rw [if_pos (by omega), if_neg (by omega)]
    rw [e9] at hG
    have v9 : (-1) = rmachV S0 t a := by unfold rmachV; first | (exfalso; omega) | rw [if_neg (by omega)] | rw [if_pos (by omega), if_pos (by omega)] | rw [if_pos (by omega), if_neg (by omega), if_pos (by omega)] | rw [if_pos (by omega), if_neg (by omega), if_neg (by omega)] | rw [if_pos (by omega), if_neg (by omega)]
    refine W.eq (congrArg (fun z => F0 m0 58 ls [.int (zI z)]) v9) ?_
    exact W.iret hx hb hr (fun t ht hW => ⟨rfl, ⟨by rw [ht]; exact hG, va_K.moved hW.alike hK⟩, hS.F ht⟩) hS.2.2 dX5_machine_58
  · refine lv_iload_n hx hb dX5_machine_12 rfl (lv_at hl 1 rfl) ?_
    refine lv_iconst (v := zI 1) hx hb dX5_machine_13 rfl ?_
    refine z_icmp_lt (tgt := 51) hx hb dX5_machine_14 (by decide) ⟨by omega, by omega⟩ ⟨by decide, by decide⟩ (fun c_3 => ?_) (fun c_3 => ?_)
    · refine lv_iconst (v := zI 0) hx hb dX5_machine_51 rfl ?_
      refine lv_istore_n (lv' := [(3, .int (zI 0)), (0, .ref (ad 32 0)), (1, .int (zI t)), (2, .int (zI a))]) hx hb dX5_machine_52 rfl hl (by decide) rfl (fun ls hl => ?_)
      refine lv_iload_n hx hb dX5_machine_53 rfl (lv_at hl 0 rfl) ?_
      refine z_if_ne (tgt := 59) hx hb dX5_machine_54 (by decide) ⟨by decide, by decide⟩ (fun q => absurd q (by decide)) (fun _ => ?_)
      refine lv_iconst (v := zI (-1)) hx hb dX5_machine_57 rfl ?_
      have e9 : S0 = rmachS S0 t a := by unfold rmachS; first | (exfalso; omega) | rw [if_neg (by omega)] | rw [if_pos (by omega), if_pos (by omega)] | rw [if_pos (by omega), if_neg (by omega), if_pos (by omega)] | rw [if_pos (by omega), if_neg (by omega), if_neg (by omega)] | rw [if_pos (by omega), if_neg (by omega)]
      rw [e9] at hG
      have v9 : (-1) = rmachV S0 t a := by unfold rmachV; first | (exfalso; omega) | rw [if_neg (by omega)] | rw [if_pos (by omega), if_pos (by omega)] | rw [if_pos (by omega), if_neg (by omega), if_pos (by omega)] | rw [if_pos (by omega), if_neg (by omega), if_neg (by omega)] | rw [if_pos (by omega), if_neg (by omega)]
      refine W.eq (congrArg (fun z => F0 m0 58 ls [.int (zI z)]) v9) ?_
      exact W.iret hx hb hr (fun t ht hW => ⟨rfl, ⟨by rw [ht]; exact hG, va_K.moved hW.alike hK⟩, hS.F ht⟩) hS.2.2 dX5_machine_58
    · refine lv_iload_n hx hb dX5_machine_17 rfl (lv_at hl 1 rfl) ?_
      refine lv_sipush (v := zI 10000) hx hb dX5_machine_18 (by decide) ?_
      refine z_icmp_gt (tgt := 51) hx hb dX5_machine_21 (by decide) ⟨by omega, by omega⟩ ⟨by decide, by decide⟩ (fun c_5 => ?_) (fun c_5 => ?_)
      · refine lv_iconst (v := zI 0) hx hb dX5_machine_51 rfl ?_
        refine lv_istore_n (lv' := [(3, .int (zI 0)), (0, .ref (ad 32 0)), (1, .int (zI t)), (2, .int (zI a))]) hx hb dX5_machine_52 rfl hl (by decide) rfl (fun ls hl => ?_)
        refine lv_iload_n hx hb dX5_machine_53 rfl (lv_at hl 0 rfl) ?_
        refine z_if_ne (tgt := 59) hx hb dX5_machine_54 (by decide) ⟨by decide, by decide⟩ (fun q => absurd q (by decide)) (fun _ => ?_)
        refine lv_iconst (v := zI (-1)) hx hb dX5_machine_57 rfl ?_
        have e9 : S0 = rmachS S0 t a := by unfold rmachS; first | (exfalso; omega) | rw [if_neg (by omega)] | rw [if_pos (by omega), if_pos (by omega)] | rw [if_pos (by omega), if_neg (by omega), if_pos (by omega)] | rw [if_pos (by omega), if_neg (by omega), if_neg (by omega)] | rw [if_pos (by omega), if_neg (by omega)]
        rw [e9] at hG
        have v9 : (-1) = rmachV S0 t a := by unfold rmachV; first | (exfalso; omega) | rw [if_neg (by omega)] | rw [if_pos (by omega), if_pos (by omega)] | rw [if_pos (by omega), if_neg (by omega), if_pos (by omega)] | rw [if_pos (by omega), if_neg (by omega), if_neg (by omega)] | rw [if_pos (by omega), if_neg (by omega)]
        refine W.eq (congrArg (fun z => F0 m0 58 ls [.int (zI z)]) v9) ?_
        exact W.iret hx hb hr (fun t ht hW => ⟨rfl, ⟨by rw [ht]; exact hG, va_K.moved hW.alike hK⟩, hS.F ht⟩) hS.2.2 dX5_machine_58
      · refine lv_iload_n hx hb dX5_machine_24 rfl (lv_at hl 2 rfl) ?_
        refine lv_iconst (v := zI (-1)) hx hb dX5_machine_25 rfl ?_
        refine z_icmp_eq (tgt := 47) hx hb dX5_machine_26 (by decide) ⟨by omega, by omega⟩ ⟨by decide, by decide⟩ (fun c_7 => ?_) (fun c_7 => ?_)
        · refine lv_iconst (v := zI 1) hx hb dX5_machine_47 rfl ?_
          refine lv_goto (tgt := 52) hx hb dX5_machine_48 (by decide) ?_
          refine lv_istore_n (lv' := [(3, .int (zI 1)), (0, .ref (ad 32 0)), (1, .int (zI t)), (2, .int (zI a))]) hx hb dX5_machine_52 rfl hl (by decide) rfl (fun ls hl => ?_)
          refine lv_iload_n hx hb dX5_machine_53 rfl (lv_at hl 0 rfl) ?_
          refine z_if_ne (tgt := 59) hx hb dX5_machine_54 (by decide) ⟨by decide, by decide⟩ (fun _ => ?_) (fun q => absurd q (by decide))
          refine lv_aload_n hx hb dX5_machine_59 rfl (lv_at hl 1 rfl) ?_
          refine r_getI hx hb hts hin hown hK hG 5 (by decide) rfl (hts (.fieldLink RX5 91 "LineEventsModel" "machines" "I") (by decide +kernel)) (z := S0 5 0 0) (rfl) dX5_machine_60 ?_
          refine lv_bipush (v := zI 12) hx hb dX5_machine_63 (by decide) ?_
          refine z_icmp_ne (tgt := 71) hx hb dX5_machine_65 (by decide) ⟨by omega, by omega⟩ ⟨by decide, by decide⟩ (fun c_9 => ?_) (fun c_9 => ?_)
          · refine lv_aload_n hx hb dX5_machine_71 rfl (lv_at hl 1 rfl) ?_
            refine r_getI hx hb hts hin hown hK hG 5 (by decide) rfl (hts (.fieldLink RX5 91 "LineEventsModel" "machines" "I") (by decide +kernel)) (z := S0 5 0 0) (rfl) dX5_machine_72 ?_
            refine lv_istore (lv' := [(4, .int (zI (S0 5 0 0))), (3, .int (zI 1)), (0, .ref (ad 32 0)), (1, .int (zI t)), (2, .int (zI a))]) hx hb dX5_machine_75 hl (by decide) rfl (fun ls hl => ?_)
            refine lv_aload_n hx hb dX5_machine_77 rfl (lv_at hl 2 rfl) ?_
            refine r_getA hx hb hts hin hown hK hG 0 (by decide) (by decide) (hts (.fieldLink RX5 9 "LineEventsModel" "takes" "[I") (by decide +kernel)) dX5_machine_78 ?_
            refine lv_iload hx hb dX5_machine_81 (lv_at hl 0 rfl) ?_
            refine lv_iload_n hx hb dX5_machine_83 rfl (lv_at hl 3 rfl) ?_
            refine r_iast hx hb hK hG hS 0 (by decide) rfl (S0 5 0 0).toNat 0 (by simp only [show rW 0 = 1 from rfl]; omega) (by simp only [show rN 0 = 12 from rfl]; omega) (by simp only [show rW 0 = 1 from rfl]; omega) (w := t) dX5_machine_84 (fun H locs hG hS => ?_)
            refine lv_aload_n hx hb dX5_machine_85 rfl (lv_at hl 2 rfl) ?_
            refine r_getA hx hb hts hin hown hK hG 1 (by decide) (by decide) (hts (.fieldLink RX5 13 "LineEventsModel" "before" "[I") (by decide +kernel)) dX5_machine_86 ?_
            refine lv_iload hx hb dX5_machine_89 (lv_at hl 0 rfl) ?_
            refine lv_iload_n hx hb dX5_machine_91 rfl (lv_at hl 4 rfl) ?_
            refine r_iast hx hb hK hG hS 1 (by decide) rfl (S0 5 0 0).toNat 0 (by simp only [show rW 1 = 1 from rfl]; omega) (by simp only [show rN 1 = 12 from rfl]; omega) (by simp only [show rW 1 = 1 from rfl]; omega) (w := a) dX5_machine_92 (fun H locs hG hS => ?_)
            refine lv_aload_n hx hb dX5_machine_93 rfl (lv_at hl 2 rfl) ?_
            refine r_getA hx hb hts hin hown hK hG 2 (by decide) (by decide) (hts (.fieldLink RX5 16 "LineEventsModel" "behind" "[I") (by decide +kernel)) dX5_machine_94 ?_
            refine lv_iload hx hb dX5_machine_97 (lv_at hl 0 rfl) ?_
            refine lv_iconst (v := zI (-1)) hx hb dX5_machine_99 rfl ?_
            refine r_iast hx hb hK hG hS 2 (by decide) rfl (S0 5 0 0).toNat 0 (by simp only [show rW 2 = 1 from rfl]; omega) (by simp only [show rN 2 = 12 from rfl]; omega) (by simp only [show rW 2 = 1 from rfl]; omega) (w := (-1)) dX5_machine_100 (fun H locs hG hS => ?_)
            refine lv_aload_n hx hb dX5_machine_101 rfl (lv_at hl 2 rfl) ?_
            refine r_getA hx hb hts hin hown hK hG 3 (by decide) (by decide) (hts (.fieldLink RX5 19 "LineEventsModel" "room" "[I") (by decide +kernel)) dX5_machine_102 ?_
            refine lv_iload hx hb dX5_machine_105 (lv_at hl 0 rfl) ?_
            refine lv_iconst (v := zI 1) hx hb dX5_machine_107 rfl ?_
            refine r_iast hx hb hK hG hS 3 (by decide) rfl (S0 5 0 0).toNat 0 (by simp only [show rW 3 = 1 from rfl]; omega) (by simp only [show rN 3 = 12 from rfl]; omega) (by simp only [show rW 3 = 1 from rfl]; omega) (w := 1) dX5_machine_108 (fun H locs hG hS => ?_)
            refine lv_aload_n hx hb dX5_machine_109 rfl (lv_at hl 2 rfl) ?_
            refine r_getA hx hb hts hin hown hK hG 4 (by decide) (by decide) (hts (.fieldLink RX5 22 "LineEventsModel" "delay" "[I") (by decide +kernel)) dX5_machine_110 ?_
            refine lv_iload hx hb dX5_machine_113 (lv_at hl 0 rfl) ?_
            refine lv_iconst (v := zI 0) hx hb dX5_machine_115 rfl ?_
            refine r_iast hx hb hK hG hS 4 (by decide) rfl (S0 5 0 0).toNat 0 (by simp only [show rW 4 = 1 from rfl]; omega) (by simp only [show rN 4 = 12 from rfl]; omega) (by simp only [show rW 4 = 1 from rfl]; omega) (w := 0) dX5_machine_116 (fun H locs hG hS => ?_)
            refine lv_iload_n hx hb dX5_machine_117 rfl (lv_at hl 4 rfl) ?_
            refine lv_iconst (v := zI (-1)) hx hb dX5_machine_118 rfl ?_
            refine z_icmp_eq (tgt := 130) hx hb dX5_machine_119 (by decide) ⟨by omega, by omega⟩ ⟨by decide, by decide⟩ (fun c_10 => ?_) (fun c_10 => ?_)
            · refine lv_aload_n hx hb dX5_machine_130 rfl (lv_at hl 2 rfl) ?_
              refine lv_dup hx hb dX5_machine_131 rfl ?_
              refine r_getI hx hb hts hin hown hK hG 5 (by decide) rfl (hts (.fieldLink RX5 91 "LineEventsModel" "machines" "I") (by decide +kernel)) (z := S0 5 0 0) (by simp [su]) dX5_machine_132 ?_
              refine lv_iconst (v := zI 1) hx hb dX5_machine_135 rfl ?_
              refine z_iadd hx hb dX5_machine_136 ?_
              refine r_putI hx hb hts hin hown hK hG hS 5 (by decide) rfl (hts (.fieldLink RX5 91 "LineEventsModel" "machines" "I") (by decide +kernel)) rfl rfl (z := (S0 5 0 0) + 1) dX5_machine_137 (fun H locs hG hS => ?_)
              refine lv_iload hx hb dX5_machine_140 (lv_at hl 0 rfl) ?_
              have e9 : su (su (su (su (su (su S0 0 (S0 5 0 0).toNat 0 (t)) 1 (S0 5 0 0).toNat 0 (a)) 2 (S0 5 0 0).toNat 0 ((-1))) 3 (S0 5 0 0).toNat 0 (1)) 4 (S0 5 0 0).toNat 0 (0)) 5 0 0 ((S0 5 0 0) + 1) = rmachS S0 t a := by unfold rmachS; first | (exfalso; omega) | rw [if_neg (by omega)] | rw [if_pos (by omega), if_pos (by omega)] | rw [if_pos (by omega), if_neg (by omega), if_pos (by omega)] | rw [if_pos (by omega), if_neg (by omega), if_neg (by omega)] | rw [if_pos (by omega), if_neg (by omega)]
              rw [e9] at hG
              have v9 : S0 5 0 0 = rmachV S0 t a := by unfold rmachV; first | (exfalso; omega) | rw [if_neg (by omega)] | rw [if_pos (by omega), if_pos (by omega)] | rw [if_pos (by omega), if_neg (by omega), if_pos (by omega)] | rw [if_pos (by omega), if_neg (by omega), if_neg (by omega)] | rw [if_pos (by omega), if_neg (by omega)]
              refine W.eq (congrArg (fun z => F0 m0 142 ls [.int (zI z)]) v9) ?_
              exact W.iret hx hb hr (fun t ht hW => ⟨rfl, ⟨by rw [ht]; exact hG, va_K.moved hW.alike hK⟩, hS.F ht⟩) hS.2.2 dX5_machine_142
            · refine lv_aload_n hx hb dX5_machine_122 rfl (lv_at hl 2 rfl) ?_
              refine r_getA hx hb hts hin hown hK hG 2 (by decide) (by decide) (hts (.fieldLink RX5 16 "LineEventsModel" "behind" "[I") (by decide +kernel)) dX5_machine_123 ?_
              refine lv_iload_n hx hb dX5_machine_126 rfl (lv_at hl 4 rfl) ?_
              refine lv_iload hx hb dX5_machine_127 (lv_at hl 0 rfl) ?_
              refine r_iast hx hb hK hG hS 2 (by decide) rfl (a).toNat 0 (by simp only [show rW 2 = 1 from rfl]; omega) (by simp only [show rN 2 = 12 from rfl]; omega) (by simp only [show rW 2 = 1 from rfl]; omega) (w := S0 5 0 0) dX5_machine_129 (fun H locs hG hS => ?_)
              refine lv_aload_n hx hb dX5_machine_130 rfl (lv_at hl 2 rfl) ?_
              refine lv_dup hx hb dX5_machine_131 rfl ?_
              refine r_getI hx hb hts hin hown hK hG 5 (by decide) rfl (hts (.fieldLink RX5 91 "LineEventsModel" "machines" "I") (by decide +kernel)) (z := S0 5 0 0) (by simp [su]) dX5_machine_132 ?_
              refine lv_iconst (v := zI 1) hx hb dX5_machine_135 rfl ?_
              refine z_iadd hx hb dX5_machine_136 ?_
              refine r_putI hx hb hts hin hown hK hG hS 5 (by decide) rfl (hts (.fieldLink RX5 91 "LineEventsModel" "machines" "I") (by decide +kernel)) rfl rfl (z := (S0 5 0 0) + 1) dX5_machine_137 (fun H locs hG hS => ?_)
              refine lv_iload hx hb dX5_machine_140 (lv_at hl 0 rfl) ?_
              have e9 : su (su (su (su (su (su (su S0 0 (S0 5 0 0).toNat 0 (t)) 1 (S0 5 0 0).toNat 0 (a)) 2 (S0 5 0 0).toNat 0 ((-1))) 3 (S0 5 0 0).toNat 0 (1)) 4 (S0 5 0 0).toNat 0 (0)) 2 (a).toNat 0 (S0 5 0 0)) 5 0 0 ((S0 5 0 0) + 1) = rmachS S0 t a := by unfold rmachS; first | (exfalso; omega) | rw [if_neg (by omega)] | rw [if_pos (by omega), if_pos (by omega)] | rw [if_pos (by omega), if_neg (by omega), if_pos (by omega)] | rw [if_pos (by omega), if_neg (by omega), if_neg (by omega)] | rw [if_pos (by omega), if_neg (by omega)]
              rw [e9] at hG
              have v9 : S0 5 0 0 = rmachV S0 t a := by unfold rmachV; first | (exfalso; omega) | rw [if_neg (by omega)] | rw [if_pos (by omega), if_pos (by omega)] | rw [if_pos (by omega), if_neg (by omega), if_pos (by omega)] | rw [if_pos (by omega), if_neg (by omega), if_neg (by omega)] | rw [if_pos (by omega), if_neg (by omega)]
              refine W.eq (congrArg (fun z => F0 m0 142 ls [.int (zI z)]) v9) ?_
              exact W.iret hx hb hr (fun t ht hW => ⟨rfl, ⟨by rw [ht]; exact hG, va_K.moved hW.alike hK⟩, hS.F ht⟩) hS.2.2 dX5_machine_142
          · refine lv_bipush (v := zI (-2)) hx hb dX5_machine_68 (by decide) ?_
            have e9 : S0 = rmachS S0 t a := by unfold rmachS; first | (exfalso; omega) | rw [if_neg (by omega)] | rw [if_pos (by omega), if_pos (by omega)] | rw [if_pos (by omega), if_neg (by omega), if_pos (by omega)] | rw [if_pos (by omega), if_neg (by omega), if_neg (by omega)] | rw [if_pos (by omega), if_neg (by omega)]
            rw [e9] at hG
            have v9 : (-2) = rmachV S0 t a := by unfold rmachV; first | (exfalso; omega) | rw [if_neg (by omega)] | rw [if_pos (by omega), if_pos (by omega)] | rw [if_pos (by omega), if_neg (by omega), if_pos (by omega)] | rw [if_pos (by omega), if_neg (by omega), if_neg (by omega)] | rw [if_pos (by omega), if_neg (by omega)]
            refine W.eq (congrArg (fun z => F0 m0 70 ls [.int (zI z)]) v9) ?_
            exact W.iret hx hb hr (fun t ht hW => ⟨rfl, ⟨by rw [ht]; exact hG, va_K.moved hW.alike hK⟩, hS.F ht⟩) hS.2.2 dX5_machine_70
        · refine lv_aload_n hx hb dX5_machine_29 rfl (lv_at hl 0 rfl) ?_
          refine lv_iload_n hx hb dX5_machine_30 rfl (lv_at hl 2 rfl) ?_
          refine r_callV (As := [.int (zI a)]) (rest := []) ⟨hx, hb, hml, hown, hts⟩ (m_X5_isMachine l D cI cJ A ad S0 a ha0 hI5) (cwV 1 hts gX5_machine_X5_isMachine rfl rfl rfl (by decide +kernel) ⟨Nat.le_of_ble_eq_true rfl, Nat.le_of_ble_eq_true rfl⟩) hK hG hS rfl hl.1 rfl (Nat.le_of_ble_eq_true rfl) dX5_machine_31 ⟨Nat.zero_le _, Nat.zero_le _⟩ (fun H locs hG hS => ?_)
          refine z_ifb_eq (tgt := 51) hx hb dX5_machine_34 (by decide) (fun c_11 => ?_) (fun c_11 => ?_)
          · refine lv_iconst (v := zI 0) hx hb dX5_machine_51 rfl ?_
            refine lv_istore_n (lv' := [(3, .int (zI 0)), (0, .ref (ad 32 0)), (1, .int (zI t)), (2, .int (zI a))]) hx hb dX5_machine_52 rfl hl (by decide) rfl (fun ls hl => ?_)
            refine lv_iload_n hx hb dX5_machine_53 rfl (lv_at hl 0 rfl) ?_
            refine z_if_ne (tgt := 59) hx hb dX5_machine_54 (by decide) ⟨by decide, by decide⟩ (fun q => absurd q (by decide)) (fun _ => ?_)
            refine lv_iconst (v := zI (-1)) hx hb dX5_machine_57 rfl ?_
            have e9 : S0 = rmachS S0 t a := by unfold rmachS; first | (exfalso; omega) | rw [if_neg (by omega)] | rw [if_pos (by omega), if_pos (by omega)] | rw [if_pos (by omega), if_neg (by omega), if_pos (by omega)] | rw [if_pos (by omega), if_neg (by omega), if_neg (by omega)] | rw [if_pos (by omega), if_neg (by omega)]
            rw [e9] at hG
            have v9 : (-1) = rmachV S0 t a := by unfold rmachV; first | (exfalso; omega) | rw [if_neg (by omega)] | rw [if_pos (by omega), if_pos (by omega)] | rw [if_pos (by omega), if_neg (by omega), if_pos (by omega)] | rw [if_pos (by omega), if_neg (by omega), if_neg (by omega)] | rw [if_pos (by omega), if_neg (by omega)]
            refine W.eq (congrArg (fun z => F0 m0 58 ls [.int (zI z)]) v9) ?_
            exact W.iret hx hb hr (fun t ht hW => ⟨rfl, ⟨by rw [ht]; exact hG, va_K.moved hW.alike hK⟩, hS.F ht⟩) hS.2.2 dX5_machine_58
          · obtain ⟨hL0, hL1, hL2, hL3, hL4⟩ := id (hIL a.toNat (by omega))
            refine lv_aload_n hx hb dX5_machine_37 rfl (lv_at hl 0 rfl) ?_
            refine r_getA hx hb hts hin hown hK hG 2 (by decide) (by decide) (hts (.fieldLink RX5 16 "LineEventsModel" "behind" "[I") (by decide +kernel)) dX5_machine_38 ?_
            refine lv_iload_n hx hb dX5_machine_41 rfl (lv_at hl 2 rfl) ?_
            refine r_iald hx hb hK hG 2 (by decide) rfl (a).toNat 0 (by simp only [show rW 2 = 1 from rfl]; omega) (by simp only [show rN 2 = 12 from rfl]; omega) (by simp only [show rW 2 = 1 from rfl]; omega) (w := S0 2 (a).toNat 0) (rfl) dX5_machine_42 ?_
            refine lv_iconst (v := zI (-1)) hx hb dX5_machine_43 rfl ?_
            refine z_icmp_ne (tgt := 51) hx hb dX5_machine_44 (by decide) ⟨by omega, by omega⟩ ⟨by decide, by decide⟩ (fun c_13 => ?_) (fun c_13 => ?_)
            · refine lv_iconst (v := zI 0) hx hb dX5_machine_51 rfl ?_
              refine lv_istore_n (lv' := [(3, .int (zI 0)), (0, .ref (ad 32 0)), (1, .int (zI t)), (2, .int (zI a))]) hx hb dX5_machine_52 rfl hl (by decide) rfl (fun ls hl => ?_)
              refine lv_iload_n hx hb dX5_machine_53 rfl (lv_at hl 0 rfl) ?_
              refine z_if_ne (tgt := 59) hx hb dX5_machine_54 (by decide) ⟨by decide, by decide⟩ (fun q => absurd q (by decide)) (fun _ => ?_)
              refine lv_iconst (v := zI (-1)) hx hb dX5_machine_57 rfl ?_
              have e9 : S0 = rmachS S0 t a := by unfold rmachS; first | (exfalso; omega) | rw [if_neg (by omega)] | rw [if_pos (by omega), if_pos (by omega)] | rw [if_pos (by omega), if_neg (by omega), if_pos (by omega)] | rw [if_pos (by omega), if_neg (by omega), if_neg (by omega)] | rw [if_pos (by omega), if_neg (by omega)]
              rw [e9] at hG
              have v9 : (-1) = rmachV S0 t a := by unfold rmachV; first | (exfalso; omega) | rw [if_neg (by omega)] | rw [if_pos (by omega), if_pos (by omega)] | rw [if_pos (by omega), if_neg (by omega), if_pos (by omega)] | rw [if_pos (by omega), if_neg (by omega), if_neg (by omega)] | rw [if_pos (by omega), if_neg (by omega)]
              refine W.eq (congrArg (fun z => F0 m0 58 ls [.int (zI z)]) v9) ?_
              exact W.iret hx hb hr (fun t ht hW => ⟨rfl, ⟨by rw [ht]; exact hG, va_K.moved hW.alike hK⟩, hS.F ht⟩) hS.2.2 dX5_machine_58
            · refine lv_iconst (v := zI 1) hx hb dX5_machine_47 rfl ?_
              refine lv_goto (tgt := 52) hx hb dX5_machine_48 (by decide) ?_
              refine lv_istore_n (lv' := [(3, .int (zI 1)), (0, .ref (ad 32 0)), (1, .int (zI t)), (2, .int (zI a))]) hx hb dX5_machine_52 rfl hl (by decide) rfl (fun ls hl => ?_)
              refine lv_iload_n hx hb dX5_machine_53 rfl (lv_at hl 0 rfl) ?_
              refine z_if_ne (tgt := 59) hx hb dX5_machine_54 (by decide) ⟨by decide, by decide⟩ (fun _ => ?_) (fun q => absurd q (by decide))
              refine lv_aload_n hx hb dX5_machine_59 rfl (lv_at hl 1 rfl) ?_
              refine r_getI hx hb hts hin hown hK hG 5 (by decide) rfl (hts (.fieldLink RX5 91 "LineEventsModel" "machines" "I") (by decide +kernel)) (z := S0 5 0 0) (rfl) dX5_machine_60 ?_
              refine lv_bipush (v := zI 12) hx hb dX5_machine_63 (by decide) ?_
              refine z_icmp_ne (tgt := 71) hx hb dX5_machine_65 (by decide) ⟨by omega, by omega⟩ ⟨by decide, by decide⟩ (fun c_16 => ?_) (fun c_16 => ?_)
              · refine lv_aload_n hx hb dX5_machine_71 rfl (lv_at hl 1 rfl) ?_
                refine r_getI hx hb hts hin hown hK hG 5 (by decide) rfl (hts (.fieldLink RX5 91 "LineEventsModel" "machines" "I") (by decide +kernel)) (z := S0 5 0 0) (rfl) dX5_machine_72 ?_
                refine lv_istore (lv' := [(4, .int (zI (S0 5 0 0))), (3, .int (zI 1)), (0, .ref (ad 32 0)), (1, .int (zI t)), (2, .int (zI a))]) hx hb dX5_machine_75 hl (by decide) rfl (fun ls hl => ?_)
                refine lv_aload_n hx hb dX5_machine_77 rfl (lv_at hl 2 rfl) ?_
                refine r_getA hx hb hts hin hown hK hG 0 (by decide) (by decide) (hts (.fieldLink RX5 9 "LineEventsModel" "takes" "[I") (by decide +kernel)) dX5_machine_78 ?_
                refine lv_iload hx hb dX5_machine_81 (lv_at hl 0 rfl) ?_
                refine lv_iload_n hx hb dX5_machine_83 rfl (lv_at hl 3 rfl) ?_
                refine r_iast hx hb hK hG hS 0 (by decide) rfl (S0 5 0 0).toNat 0 (by simp only [show rW 0 = 1 from rfl]; omega) (by simp only [show rN 0 = 12 from rfl]; omega) (by simp only [show rW 0 = 1 from rfl]; omega) (w := t) dX5_machine_84 (fun H locs hG hS => ?_)
                refine lv_aload_n hx hb dX5_machine_85 rfl (lv_at hl 2 rfl) ?_
                refine r_getA hx hb hts hin hown hK hG 1 (by decide) (by decide) (hts (.fieldLink RX5 13 "LineEventsModel" "before" "[I") (by decide +kernel)) dX5_machine_86 ?_
                refine lv_iload hx hb dX5_machine_89 (lv_at hl 0 rfl) ?_
                refine lv_iload_n hx hb dX5_machine_91 rfl (lv_at hl 4 rfl) ?_
                refine r_iast hx hb hK hG hS 1 (by decide) rfl (S0 5 0 0).toNat 0 (by simp only [show rW 1 = 1 from rfl]; omega) (by simp only [show rN 1 = 12 from rfl]; omega) (by simp only [show rW 1 = 1 from rfl]; omega) (w := a) dX5_machine_92 (fun H locs hG hS => ?_)
                refine lv_aload_n hx hb dX5_machine_93 rfl (lv_at hl 2 rfl) ?_
                refine r_getA hx hb hts hin hown hK hG 2 (by decide) (by decide) (hts (.fieldLink RX5 16 "LineEventsModel" "behind" "[I") (by decide +kernel)) dX5_machine_94 ?_
                refine lv_iload hx hb dX5_machine_97 (lv_at hl 0 rfl) ?_
                refine lv_iconst (v := zI (-1)) hx hb dX5_machine_99 rfl ?_
                refine r_iast hx hb hK hG hS 2 (by decide) rfl (S0 5 0 0).toNat 0 (by simp only [show rW 2 = 1 from rfl]; omega) (by simp only [show rN 2 = 12 from rfl]; omega) (by simp only [show rW 2 = 1 from rfl]; omega) (w := (-1)) dX5_machine_100 (fun H locs hG hS => ?_)
                refine lv_aload_n hx hb dX5_machine_101 rfl (lv_at hl 2 rfl) ?_
                refine r_getA hx hb hts hin hown hK hG 3 (by decide) (by decide) (hts (.fieldLink RX5 19 "LineEventsModel" "room" "[I") (by decide +kernel)) dX5_machine_102 ?_
                refine lv_iload hx hb dX5_machine_105 (lv_at hl 0 rfl) ?_
                refine lv_iconst (v := zI 1) hx hb dX5_machine_107 rfl ?_
                refine r_iast hx hb hK hG hS 3 (by decide) rfl (S0 5 0 0).toNat 0 (by simp only [show rW 3 = 1 from rfl]; omega) (by simp only [show rN 3 = 12 from rfl]; omega) (by simp only [show rW 3 = 1 from rfl]; omega) (w := 1) dX5_machine_108 (fun H locs hG hS => ?_)
                refine lv_aload_n hx hb dX5_machine_109 rfl (lv_at hl 2 rfl) ?_
                refine r_getA hx hb hts hin hown hK hG 4 (by decide) (by decide) (hts (.fieldLink RX5 22 "LineEventsModel" "delay" "[I") (by decide +kernel)) dX5_machine_110 ?_
                refine lv_iload hx hb dX5_machine_113 (lv_at hl 0 rfl) ?_
                refine lv_iconst (v := zI 0) hx hb dX5_machine_115 rfl ?_
                refine r_iast hx hb hK hG hS 4 (by decide) rfl (S0 5 0 0).toNat 0 (by simp only [show rW 4 = 1 from rfl]; omega) (by simp only [show rN 4 = 12 from rfl]; omega) (by simp only [show rW 4 = 1 from rfl]; omega) (w := 0) dX5_machine_116 (fun H locs hG hS => ?_)
                refine lv_iload_n hx hb dX5_machine_117 rfl (lv_at hl 4 rfl) ?_
                refine lv_iconst (v := zI (-1)) hx hb dX5_machine_118 rfl ?_
                refine z_icmp_eq (tgt := 130) hx hb dX5_machine_119 (by decide) ⟨by omega, by omega⟩ ⟨by decide, by decide⟩ (fun c_17 => ?_) (fun c_17 => ?_)
                · refine lv_aload_n hx hb dX5_machine_130 rfl (lv_at hl 2 rfl) ?_
                  refine lv_dup hx hb dX5_machine_131 rfl ?_
                  refine r_getI hx hb hts hin hown hK hG 5 (by decide) rfl (hts (.fieldLink RX5 91 "LineEventsModel" "machines" "I") (by decide +kernel)) (z := S0 5 0 0) (by simp [su]) dX5_machine_132 ?_
                  refine lv_iconst (v := zI 1) hx hb dX5_machine_135 rfl ?_
                  refine z_iadd hx hb dX5_machine_136 ?_
                  refine r_putI hx hb hts hin hown hK hG hS 5 (by decide) rfl (hts (.fieldLink RX5 91 "LineEventsModel" "machines" "I") (by decide +kernel)) rfl rfl (z := (S0 5 0 0) + 1) dX5_machine_137 (fun H locs hG hS => ?_)
                  refine lv_iload hx hb dX5_machine_140 (lv_at hl 0 rfl) ?_
                  have e9 : su (su (su (su (su (su S0 0 (S0 5 0 0).toNat 0 (t)) 1 (S0 5 0 0).toNat 0 (a)) 2 (S0 5 0 0).toNat 0 ((-1))) 3 (S0 5 0 0).toNat 0 (1)) 4 (S0 5 0 0).toNat 0 (0)) 5 0 0 ((S0 5 0 0) + 1) = rmachS S0 t a := by unfold rmachS; first | (exfalso; omega) | rw [if_neg (by omega)] | rw [if_pos (by omega), if_pos (by omega)] | rw [if_pos (by omega), if_neg (by omega), if_pos (by omega)] | rw [if_pos (by omega), if_neg (by omega), if_neg (by omega)] | rw [if_pos (by omega), if_neg (by omega)]
                  rw [e9] at hG
                  have v9 : S0 5 0 0 = rmachV S0 t a := by unfold rmachV; first | (exfalso; omega) | rw [if_neg (by omega)] | rw [if_pos (by omega), if_pos (by omega)] | rw [if_pos (by omega), if_neg (by omega), if_pos (by omega)] | rw [if_pos (by omega), if_neg (by omega), if_neg (by omega)] | rw [if_pos (by omega), if_neg (by omega)]
                  refine W.eq (congrArg (fun z => F0 m0 142 ls [.int (zI z)]) v9) ?_
                  exact W.iret hx hb hr (fun t ht hW => ⟨rfl, ⟨by rw [ht]; exact hG, va_K.moved hW.alike hK⟩, hS.F ht⟩) hS.2.2 dX5_machine_142
                · refine lv_aload_n hx hb dX5_machine_122 rfl (lv_at hl 2 rfl) ?_
                  refine r_getA hx hb hts hin hown hK hG 2 (by decide) (by decide) (hts (.fieldLink RX5 16 "LineEventsModel" "behind" "[I") (by decide +kernel)) dX5_machine_123 ?_
                  refine lv_iload_n hx hb dX5_machine_126 rfl (lv_at hl 4 rfl) ?_
                  refine lv_iload hx hb dX5_machine_127 (lv_at hl 0 rfl) ?_
                  refine r_iast hx hb hK hG hS 2 (by decide) rfl (a).toNat 0 (by simp only [show rW 2 = 1 from rfl]; omega) (by simp only [show rN 2 = 12 from rfl]; omega) (by simp only [show rW 2 = 1 from rfl]; omega) (w := S0 5 0 0) dX5_machine_129 (fun H locs hG hS => ?_)
                  refine lv_aload_n hx hb dX5_machine_130 rfl (lv_at hl 2 rfl) ?_
                  refine lv_dup hx hb dX5_machine_131 rfl ?_
                  refine r_getI hx hb hts hin hown hK hG 5 (by decide) rfl (hts (.fieldLink RX5 91 "LineEventsModel" "machines" "I") (by decide +kernel)) (z := S0 5 0 0) (by simp [su]) dX5_machine_132 ?_
                  refine lv_iconst (v := zI 1) hx hb dX5_machine_135 rfl ?_
                  refine z_iadd hx hb dX5_machine_136 ?_
                  refine r_putI hx hb hts hin hown hK hG hS 5 (by decide) rfl (hts (.fieldLink RX5 91 "LineEventsModel" "machines" "I") (by decide +kernel)) rfl rfl (z := (S0 5 0 0) + 1) dX5_machine_137 (fun H locs hG hS => ?_)
                  refine lv_iload hx hb dX5_machine_140 (lv_at hl 0 rfl) ?_
                  have e9 : su (su (su (su (su (su (su S0 0 (S0 5 0 0).toNat 0 (t)) 1 (S0 5 0 0).toNat 0 (a)) 2 (S0 5 0 0).toNat 0 ((-1))) 3 (S0 5 0 0).toNat 0 (1)) 4 (S0 5 0 0).toNat 0 (0)) 2 (a).toNat 0 (S0 5 0 0)) 5 0 0 ((S0 5 0 0) + 1) = rmachS S0 t a := by unfold rmachS; first | (exfalso; omega) | rw [if_neg (by omega)] | rw [if_pos (by omega), if_pos (by omega)] | rw [if_pos (by omega), if_neg (by omega), if_pos (by omega)] | rw [if_pos (by omega), if_neg (by omega), if_neg (by omega)] | rw [if_pos (by omega), if_neg (by omega)]
                  rw [e9] at hG
                  have v9 : S0 5 0 0 = rmachV S0 t a := by unfold rmachV; first | (exfalso; omega) | rw [if_neg (by omega)] | rw [if_pos (by omega), if_pos (by omega)] | rw [if_pos (by omega), if_neg (by omega), if_pos (by omega)] | rw [if_pos (by omega), if_neg (by omega), if_neg (by omega)] | rw [if_pos (by omega), if_neg (by omega)]
                  refine W.eq (congrArg (fun z => F0 m0 142 ls [.int (zI z)]) v9) ?_
                  exact W.iret hx hb hr (fun t ht hW => ⟨rfl, ⟨by rw [ht]; exact hG, va_K.moved hW.alike hK⟩, hS.F ht⟩) hS.2.2 dX5_machine_142
              · refine lv_bipush (v := zI (-2)) hx hb dX5_machine_68 (by decide) ?_
                have e9 : S0 = rmachS S0 t a := by unfold rmachS; first | (exfalso; omega) | rw [if_neg (by omega)] | rw [if_pos (by omega), if_pos (by omega)] | rw [if_pos (by omega), if_neg (by omega), if_pos (by omega)] | rw [if_pos (by omega), if_neg (by omega), if_neg (by omega)] | rw [if_pos (by omega), if_neg (by omega)]
                rw [e9] at hG
                have v9 : (-2) = rmachV S0 t a := by unfold rmachV; first | (exfalso; omega) | rw [if_neg (by omega)] | rw [if_pos (by omega), if_pos (by omega)] | rw [if_pos (by omega), if_neg (by omega), if_pos (by omega)] | rw [if_pos (by omega), if_neg (by omega), if_neg (by omega)] | rw [if_pos (by omega), if_neg (by omega)]
                refine W.eq (congrArg (fun z => F0 m0 70 ls [.int (zI z)]) v9) ?_
                exact W.iret hx hb hr (fun t ht hW => ⟨rfl, ⟨by rw [ht]; exact hG, va_K.moved hW.alike hK⟩, hS.F ht⟩) hS.2.2 dX5_machine_70
set_option maxHeartbeats 4000000 in
set_option maxRecDepth 100000 in
theorem m_X5_buffer (l : Launch) (D : va_G) (cI cJ : ClassId) (A : Nat → Prop) (ad : Nat → Nat → Nat) (S : Nat → Nat → Nat → Int) (z r d : Int) (hz0 : zB z) (hr0 : zB r) (hd0 : zB d) (hI : Inv S) : Met l yX5_buffer wsX5_buffer ({ frames := 1, cells := 0, slots := 0, locals := 21 }) (va_Pc [.ref (ad 32 0), .int (zI z), .int (zI r), .int (zI d)] (gRU D cI cJ A ad S)) (gO (some (.int (zI (rbufV (su S 31 0 0 0) z r d)))) (gRU D cI cJ A ad (rbufS (su S 31 0 0 0) z r d)) A) 0 0 A := by
  refine Met.ofW (cc := cX5_buffer) (maxL := 5) (ret := (some .int)) (by decide) rfl ?_
  intro p e s m0 args below meth c s₁ B hml hv
  obtain ⟨rfl, hG, hK⟩ := hv
  have hx := B.exec
  have hb := B.bytes
  have hr := B.returns
  have hts := atoms_spec (ws := wsX5_buffer) B.pre
  have hown : s.vm.findClass RX5 = some m0.cls := findClass_of_methodNamed B.named
  have hlocks := B.notSynchronized
  have hin : ∀ w ∈ wsX50, w ∈ wsX5_buffer := by decide +kernel
  have hS : va_S A s.heap s.heap [] := va_S.rf
  have hl := lv_entry ([.ref (ad 32 0), .int (zI z), .int (zI r), .int (zI d)]) (n := 5) (Nat.le_of_ble_eq_true rfl)
  rw [lg_entry_eq]
  generalize (lg_sl ([.ref (ad 32 0), .int (zI z), .int (zI r), .int (zI d)]) ++ List.replicate (5 - (lg_sl ([.ref (ad 32 0), .int (zI z), .int (zI r), .int (zI d)])).length) Slot.unset).toArray = ls at hl ⊢
  replace hl : lv_has ls 5 [(0, .ref (ad 32 0)), (1, .int (zI z)), (2, .int (zI r)), (3, .int (zI d))] := hl
  refine lv_aload_n hx hb dX5_buffer_0 rfl (lv_at hl 0 rfl) ?_
  refine lv_iconst (v := zI 0) hx hb dX5_buffer_1 rfl ?_
  refine r_putI hx hb hts hin hown hK hG hS 31 (by decide) rfl (hts (.fieldLink RX5 87 "LineEventsModel" "thrown" "I") (by decide +kernel)) rfl rfl (z := 0) dX5_buffer_2 (fun H locs hG hS => ?_)
  generalize hS0 : su S 31 0 0 0 = S0 at hG ⊢
  have hI0 : Inv S0 := by rw [← hS0]; exact hI
  obtain ⟨hI5, hI25, hI20, hIM, hIL, hIR⟩ := id hI0
  refine lv_aload_n hx hb dX5_buffer_5 rfl (lv_at hl 0 rfl) ?_
  refine r_getI hx hb hts hin hown hK hG 25 (by decide) rfl (hts (.fieldLink RX5 94 "LineEventsModel" "now" "I") (by decide +kernel)) (z := S0 25 0 0) (rfl) dX5_buffer_6 ?_
  refine z_if_gt (tgt := 43) hx hb dX5_buffer_9 (by decide) ⟨by omega, by omega⟩ (fun c_1 => ?_) (fun c_1 => ?_)
  · refine lv_iconst (v := zI (-1)) hx hb dX5_buffer_43 rfl ?_
    have e9 : S0 = rbufS S0 z r d := by unfold rbufS; first | (exfalso; omega) | rw [if_neg (by omega)] | rw [if_pos (by omega)]
    rw [e9] at hG
    have v9 : (-1) = rbufV S0 z r d := by unfold rbufV; first | (exfalso; omega) | rw [if_neg (by omega)] | rw [if_pos (by omega)]
    refine W.eq (congrArg (fun z => F0 m0 44 ls [.int (zI z)]) v9) ?_
    exact W.iret hx hb hr (fun t ht hW => ⟨rfl, ⟨by rw [ht]; exact hG, va_K.moved hW.alike hK⟩, hS.F ht⟩) hS.2.2 dX5_buffer_44
  · refine lv_aload_n hx hb dX5_buffer_12 rfl (lv_at hl 0 rfl) ?_
    refine lv_iload_n hx hb dX5_buffer_13 rfl (lv_at hl 1 rfl) ?_
    refine r_callV (As := [.int (zI z)]) (rest := []) ⟨hx, hb, hml, hown, hts⟩ (m_X5_isMachine l D cI cJ A ad S0 z hz0 hI5) (cwV 1 hts gX5_buffer_X5_isMachine rfl rfl rfl (by decide +kernel) ⟨Nat.le_of_ble_eq_true rfl, Nat.le_of_ble_eq_true rfl⟩) hK hG hS rfl hl.1 rfl (Nat.le_of_ble_eq_true rfl) dX5_buffer_14 ⟨Nat.zero_le _, Nat.zero_le _⟩ (fun H locs hG hS => ?_)
    refine z_ifb_eq (tgt := 43) hx hb dX5_buffer_17 (by decide) (fun c_2 => ?_) (fun c_2 => ?_)
    · refine lv_iconst (v := zI (-1)) hx hb dX5_buffer_43 rfl ?_
      have e9 : S0 = rbufS S0 z r d := by unfold rbufS; first | (exfalso; omega) | rw [if_neg (by omega)] | rw [if_pos (by omega)]
      rw [e9] at hG
      have v9 : (-1) = rbufV S0 z r d := by unfold rbufV; first | (exfalso; omega) | rw [if_neg (by omega)] | rw [if_pos (by omega)]
      refine W.eq (congrArg (fun z => F0 m0 44 ls [.int (zI z)]) v9) ?_
      exact W.iret hx hb hr (fun t ht hW => ⟨rfl, ⟨by rw [ht]; exact hG, va_K.moved hW.alike hK⟩, hS.F ht⟩) hS.2.2 dX5_buffer_44
    · obtain ⟨hL0, hL1, hL2, hL3, hL4⟩ := id (hIL z.toNat (by omega))
      refine lv_iload_n hx hb dX5_buffer_20 rfl (lv_at hl 2 rfl) ?_
      refine lv_iconst (v := zI 1) hx hb dX5_buffer_21 rfl ?_
      refine z_icmp_lt (tgt := 43) hx hb dX5_buffer_22 (by decide) ⟨by omega, by omega⟩ ⟨by decide, by decide⟩ (fun c_3 => ?_) (fun c_3 => ?_)
      · refine lv_iconst (v := zI (-1)) hx hb dX5_buffer_43 rfl ?_
        have e9 : S0 = rbufS S0 z r d := by unfold rbufS; first | (exfalso; omega) | rw [if_neg (by omega)] | rw [if_pos (by omega)]
        rw [e9] at hG
        have v9 : (-1) = rbufV S0 z r d := by unfold rbufV; first | (exfalso; omega) | rw [if_neg (by omega)] | rw [if_pos (by omega)]
        refine W.eq (congrArg (fun z => F0 m0 44 ls [.int (zI z)]) v9) ?_
        exact W.iret hx hb hr (fun t ht hW => ⟨rfl, ⟨by rw [ht]; exact hG, va_K.moved hW.alike hK⟩, hS.F ht⟩) hS.2.2 dX5_buffer_44
      · refine lv_iload_n hx hb dX5_buffer_25 rfl (lv_at hl 2 rfl) ?_
        refine lv_sipush (v := zI 1000) hx hb dX5_buffer_26 (by decide) ?_
        refine z_icmp_gt (tgt := 43) hx hb dX5_buffer_29 (by decide) ⟨by omega, by omega⟩ ⟨by decide, by decide⟩ (fun c_4 => ?_) (fun c_4 => ?_)
        · refine lv_iconst (v := zI (-1)) hx hb dX5_buffer_43 rfl ?_
          have e9 : S0 = rbufS S0 z r d := by unfold rbufS; first | (exfalso; omega) | rw [if_neg (by omega)] | rw [if_pos (by omega)]
          rw [e9] at hG
          have v9 : (-1) = rbufV S0 z r d := by unfold rbufV; first | (exfalso; omega) | rw [if_neg (by omega)] | rw [if_pos (by omega)]
          refine W.eq (congrArg (fun z => F0 m0 44 ls [.int (zI z)]) v9) ?_
          exact W.iret hx hb hr (fun t ht hW => ⟨rfl, ⟨by rw [ht]; exact hG, va_K.moved hW.alike hK⟩, hS.F ht⟩) hS.2.2 dX5_buffer_44
        · refine lv_iload_n hx hb dX5_buffer_32 rfl (lv_at hl 3 rfl) ?_
          refine z_if_lt (tgt := 43) hx hb dX5_buffer_33 (by decide) ⟨by omega, by omega⟩ (fun c_5 => ?_) (fun c_5 => ?_)
          · refine lv_iconst (v := zI (-1)) hx hb dX5_buffer_43 rfl ?_
            have e9 : S0 = rbufS S0 z r d := by unfold rbufS; first | (exfalso; omega) | rw [if_neg (by omega)] | rw [if_pos (by omega)]
            rw [e9] at hG
            have v9 : (-1) = rbufV S0 z r d := by unfold rbufV; first | (exfalso; omega) | rw [if_neg (by omega)] | rw [if_pos (by omega)]
            refine W.eq (congrArg (fun z => F0 m0 44 ls [.int (zI z)]) v9) ?_
            exact W.iret hx hb hr (fun t ht hW => ⟨rfl, ⟨by rw [ht]; exact hG, va_K.moved hW.alike hK⟩, hS.F ht⟩) hS.2.2 dX5_buffer_44
          · refine lv_iload_n hx hb dX5_buffer_36 rfl (lv_at hl 3 rfl) ?_
            refine lv_sipush (v := zI 10000) hx hb dX5_buffer_37 (by decide) ?_
            refine z_icmp_le (tgt := 45) hx hb dX5_buffer_40 (by decide) ⟨by omega, by omega⟩ ⟨by decide, by decide⟩ (fun c_6 => ?_) (fun c_6 => ?_)
            · refine lv_aload_n hx hb dX5_buffer_45 rfl (lv_at hl 0 rfl) ?_
              refine r_getA hx hb hts hin hown hK hG 3 (by decide) (by decide) (hts (.fieldLink RX5 19 "LineEventsModel" "room" "[I") (by decide +kernel)) dX5_buffer_46 ?_
              refine lv_iload_n hx hb dX5_buffer_49 rfl (lv_at hl 1 rfl) ?_
              refine r_iald hx hb hK hG 3 (by decide) rfl (z).toNat 0 (by simp only [show rW 3 = 1 from rfl]; omega) (by simp only [show rN 3 = 12 from rfl]; omega) (by simp only [show rW 3 = 1 from rfl]; omega) (w := S0 3 (z).toNat 0) (rfl) dX5_buffer_50 ?_
              refine lv_istore (lv' := [(4, .int (zI (S0 3 (z).toNat 0))), (0, .ref (ad 32 0)), (1, .int (zI z)), (2, .int (zI r)), (3, .int (zI d))]) hx hb dX5_buffer_51 hl (by decide) rfl (fun ls hl => ?_)
              refine lv_aload_n hx hb dX5_buffer_53 rfl (lv_at hl 1 rfl) ?_
              refine r_getA hx hb hts hin hown hK hG 3 (by decide) (by decide) (hts (.fieldLink RX5 19 "LineEventsModel" "room" "[I") (by decide +kernel)) dX5_buffer_54 ?_
              refine lv_iload_n hx hb dX5_buffer_57 rfl (lv_at hl 2 rfl) ?_
              refine lv_iload_n hx hb dX5_buffer_58 rfl (lv_at hl 3 rfl) ?_
              refine r_iast hx hb hK hG hS 3 (by decide) rfl (z).toNat 0 (by simp only [show rW 3 = 1 from rfl]; omega) (by simp only [show rN 3 = 12 from rfl]; omega) (by simp only [show rW 3 = 1 from rfl]; omega) (w := r) dX5_buffer_59 (fun H locs hG hS => ?_)
              refine lv_aload_n hx hb dX5_buffer_60 rfl (lv_at hl 1 rfl) ?_
              refine r_getA hx hb hts hin hown hK hG 4 (by decide) (by decide) (hts (.fieldLink RX5 22 "LineEventsModel" "delay" "[I") (by decide +kernel)) dX5_buffer_61 ?_
              refine lv_iload_n hx hb dX5_buffer_64 rfl (lv_at hl 2 rfl) ?_
              refine lv_iload_n hx hb dX5_buffer_65 rfl (lv_at hl 4 rfl) ?_
              refine r_iast hx hb hK hG hS 4 (by decide) rfl (z).toNat 0 (by simp only [show rW 4 = 1 from rfl]; omega) (by simp only [show rN 4 = 12 from rfl]; omega) (by simp only [show rW 4 = 1 from rfl]; omega) (w := d) dX5_buffer_66 (fun H locs hG hS => ?_)
              refine lv_iload hx hb dX5_buffer_67 (lv_at hl 0 rfl) ?_
              have e9 : su (su S0 3 (z).toNat 0 (r)) 4 (z).toNat 0 (d) = rbufS S0 z r d := by unfold rbufS; first | (exfalso; omega) | rw [if_neg (by omega)] | rw [if_pos (by omega)]
              rw [e9] at hG
              have v9 : S0 3 (z).toNat 0 = rbufV S0 z r d := by unfold rbufV; first | (exfalso; omega) | rw [if_neg (by omega)] | rw [if_pos (by omega)]
              refine W.eq (congrArg (fun z => F0 m0 69 ls [.int (zI z)]) v9) ?_
              exact W.iret hx hb hr (fun t ht hW => ⟨rfl, ⟨by rw [ht]; exact hG, va_K.moved hW.alike hK⟩, hS.F ht⟩) hS.2.2 dX5_buffer_69
            · refine lv_iconst (v := zI (-1)) hx hb dX5_buffer_43 rfl ?_
              have e9 : S0 = rbufS S0 z r d := by unfold rbufS; first | (exfalso; omega) | rw [if_neg (by omega)] | rw [if_pos (by omega)]
              rw [e9] at hG
              have v9 : (-1) = rbufV S0 z r d := by unfold rbufV; first | (exfalso; omega) | rw [if_neg (by omega)] | rw [if_pos (by omega)]
              refine W.eq (congrArg (fun z => F0 m0 44 ls [.int (zI z)]) v9) ?_
              exact W.iret hx hb hr (fun t ht hW => ⟨rfl, ⟨by rw [ht]; exact hG, va_K.moved hW.alike hK⟩, hS.F ht⟩) hS.2.2 dX5_buffer_44
set_option maxHeartbeats 4000000 in
set_option maxRecDepth 100000 in
theorem m_X5_fault (l : Launch) (D : va_G) (cI cJ : ClassId) (A : Nat → Prop) (ad : Nat → Nat → Nat) (S : Nat → Nat → Nat → Int) (z ab be t : Int) (hz0 : zB z) (hab0 : zC ab) (hbe0 : zC be) (ht0 : zB t) (hI : Inv S) : Met l yX5_fault wsX5_fault ({ frames := 1, cells := 0, slots := 0, locals := 21 }) (va_Pc [.ref (ad 32 0), .int (zI z), .long (zL ab), .long (zL be), .int (zI t)] (gRU D cI cJ A ad S)) (gO (some (.int (zI (bZ ((su S 31 0 0 0) 25 0 0 ≤ 0 ∧ (0 ≤ z ∧ z < (su S 31 0 0 0) 5 0 0) ∧ (1 ≤ be ∧ be ≤ 1000000) ∧ (0 ≤ ab ∧ ab ≤ be) ∧ (0 ≤ t ∧ t ≤ 100000) ∧ ¬ (su S 31 0 0 0) 15 z.toNat 0 = 4))))) (gRU D cI cJ A ad (rfaultS (su S 31 0 0 0) z ab be t)) A) 0 0 A := by
  refine Met.ofW (cc := cX5_fault) (maxL := 8) (ret := (some .boolean)) (by decide) rfl ?_
  intro p e s m0 args below meth c s₁ B hml hv
  obtain ⟨rfl, hG, hK⟩ := hv
  have hx := B.exec
  have hb := B.bytes
  have hr := B.returns
  have hts := atoms_spec (ws := wsX5_fault) B.pre
  have hown : s.vm.findClass RX5 = some m0.cls := findClass_of_methodNamed B.named
  have hlocks := B.notSynchronized
  have hin : ∀ w ∈ wsX50, w ∈ wsX5_fault := by decide +kernel
  have hS : va_S A s.heap s.heap [] := va_S.rf
  have hl := lv_entry ([.ref (ad 32 0), .int (zI z), .long (zL ab), .long (zL be), .int (zI t)]) (n := 8) (Nat.le_of_ble_eq_true rfl)
  rw [lg_entry_eq]
  generalize (lg_sl ([.ref (ad 32 0), .int (zI z), .long (zL ab), .long (zL be), .int (zI t)]) ++ List.replicate (8 - (lg_sl ([.ref (ad 32 0), .int (zI z), .long (zL ab), .long (zL be), .int (zI t)])).length) Slot.unset).toArray = ls at hl ⊢
  replace hl : lv_has ls 8 [(0, .ref (ad 32 0)), (1, .int (zI z)), (2, .long (zL ab)), (4, .long (zL be)), (6, .int (zI t))] := hl
  refine lv_aload_n hx hb dX5_fault_0 rfl (lv_at hl 0 rfl) ?_
  refine lv_iconst (v := zI 0) hx hb dX5_fault_1 rfl ?_
  refine r_putI hx hb hts hin hown hK hG hS 31 (by decide) rfl (hts (.fieldLink RX5 87 "LineEventsModel" "thrown" "I") (by decide +kernel)) rfl rfl (z := 0) dX5_fault_2 (fun H locs hG hS => ?_)
  generalize hS0 : su S 31 0 0 0 = S0 at hG ⊢
  have hI0 : Inv S0 := by rw [← hS0]; exact hI
  obtain ⟨hI5, hI25, hI20, hIM, hIL, hIR⟩ := id hI0
  refine lv_aload_n hx hb dX5_fault_5 rfl (lv_at hl 0 rfl) ?_
  refine r_getI hx hb hts hin hown hK hG 25 (by decide) rfl (hts (.fieldLink RX5 94 "LineEventsModel" "now" "I") (by decide +kernel)) (z := S0 25 0 0) (rfl) dX5_fault_6 ?_
  refine z_if_gt (tgt := 71) hx hb dX5_fault_9 (by decide) ⟨by omega, by omega⟩ (fun c_1 => ?_) (fun c_1 => ?_)
  · refine lv_iconst (v := zI 0) hx hb dX5_fault_71 rfl ?_
    have e9 : S0 = rfaultS S0 z ab be t := by unfold rfaultS; first | (exfalso; omega) | rw [if_neg (by omega)] | rw [if_pos (by omega)]
    rw [e9] at hG
    have v9 : 0 = bZ (S0 25 0 0 ≤ 0 ∧ (0 ≤ z ∧ z < S0 5 0 0) ∧ (1 ≤ be ∧ be ≤ 1000000) ∧ (0 ≤ ab ∧ ab ≤ be) ∧ (0 ≤ t ∧ t ≤ 100000) ∧ ¬ S0 15 z.toNat 0 = 4) := by first | (exfalso; omega) | exact (bZ_t (by omega)).symm | exact (bZ_f (by omega)).symm
    refine W.eq (congrArg (fun z => F0 m0 72 ls [.int (zI z)]) v9) ?_
    exact W.zret hx hb hr (zI_bool _) (fun t ht hW => ⟨rfl, ⟨by rw [ht]; exact hG, va_K.moved hW.alike hK⟩, hS.F ht⟩) hS.2.2 dX5_fault_72
  · refine lv_aload_n hx hb dX5_fault_12 rfl (lv_at hl 0 rfl) ?_
    refine lv_iload_n hx hb dX5_fault_13 rfl (lv_at hl 1 rfl) ?_
    refine r_callV (As := [.int (zI z)]) (rest := []) ⟨hx, hb, hml, hown, hts⟩ (m_X5_isMachine l D cI cJ A ad S0 z hz0 hI5) (cwV 1 hts gX5_fault_X5_isMachine rfl rfl rfl (by decide +kernel) ⟨Nat.le_of_ble_eq_true rfl, Nat.le_of_ble_eq_true rfl⟩) hK hG hS rfl hl.1 rfl (Nat.le_of_ble_eq_true rfl) dX5_fault_14 ⟨Nat.zero_le _, Nat.zero_le _⟩ (fun H locs hG hS => ?_)
    refine z_ifb_eq (tgt := 71) hx hb dX5_fault_17 (by decide) (fun c_2 => ?_) (fun c_2 => ?_)
    · refine lv_iconst (v := zI 0) hx hb dX5_fault_71 rfl ?_
      have e9 : S0 = rfaultS S0 z ab be t := by unfold rfaultS; first | (exfalso; omega) | rw [if_neg (by omega)] | rw [if_pos (by omega)]
      rw [e9] at hG
      have v9 : 0 = bZ (S0 25 0 0 ≤ 0 ∧ (0 ≤ z ∧ z < S0 5 0 0) ∧ (1 ≤ be ∧ be ≤ 1000000) ∧ (0 ≤ ab ∧ ab ≤ be) ∧ (0 ≤ t ∧ t ≤ 100000) ∧ ¬ S0 15 z.toNat 0 = 4) := by first | (exfalso; omega) | exact (bZ_t (by omega)).symm | exact (bZ_f (by omega)).symm
      refine W.eq (congrArg (fun z => F0 m0 72 ls [.int (zI z)]) v9) ?_
      exact W.zret hx hb hr (zI_bool _) (fun t ht hW => ⟨rfl, ⟨by rw [ht]; exact hG, va_K.moved hW.alike hK⟩, hS.F ht⟩) hS.2.2 dX5_fault_72
    · obtain ⟨hM6, hM7, hM8, hM10, hM11, hM15, hM9, hMf⟩ := id (hIM z.toNat (by omega))
      refine lv_lload hx hb dX5_fault_20 (lv_at hl 3 rfl) ?_
      refine lv_lconst (v := zL 1) hx hb dX5_fault_22 (by decide) ?_
      refine W.lcmp hx hb dX5_fault_23 ?_
      refine z_lif_lt (tgt := 71) hx hb dX5_fault_24 (by decide) hbe0 ⟨by decide, by decide⟩ (fun c_3 => ?_) (fun c_3 => ?_)
      · refine lv_iconst (v := zI 0) hx hb dX5_fault_71 rfl ?_
        have e9 : S0 = rfaultS S0 z ab be t := by unfold rfaultS; first | (exfalso; omega) | rw [if_neg (by omega)] | rw [if_pos (by omega)]
        rw [e9] at hG
        have v9 : 0 = bZ (S0 25 0 0 ≤ 0 ∧ (0 ≤ z ∧ z < S0 5 0 0) ∧ (1 ≤ be ∧ be ≤ 1000000) ∧ (0 ≤ ab ∧ ab ≤ be) ∧ (0 ≤ t ∧ t ≤ 100000) ∧ ¬ S0 15 z.toNat 0 = 4) := by first | (exfalso; omega) | exact (bZ_t (by omega)).symm | exact (bZ_f (by omega)).symm
        refine W.eq (congrArg (fun z => F0 m0 72 ls [.int (zI z)]) v9) ?_
        exact W.zret hx hb hr (zI_bool _) (fun t ht hW => ⟨rfl, ⟨by rw [ht]; exact hG, va_K.moved hW.alike hK⟩, hS.F ht⟩) hS.2.2 dX5_fault_72
      · refine lv_lload hx hb dX5_fault_27 (lv_at hl 3 rfl) ?_
        refine z_ldc2 (z := 1000000) hx hb hown (hts (.constantLong RX5 101 (1000000)) (by decide +kernel)) (by decide) dX5_fault_29 ?_
        refine W.lcmp hx hb dX5_fault_32 ?_
        refine z_lif_gt (tgt := 71) hx hb dX5_fault_33 (by decide) hbe0 ⟨by decide, by decide⟩ (fun c_4 => ?_) (fun c_4 => ?_)
        · refine lv_iconst (v := zI 0) hx hb dX5_fault_71 rfl ?_
          have e9 : S0 = rfaultS S0 z ab be t := by unfold rfaultS; first | (exfalso; omega) | rw [if_neg (by omega)] | rw [if_pos (by omega)]
          rw [e9] at hG
          have v9 : 0 = bZ (S0 25 0 0 ≤ 0 ∧ (0 ≤ z ∧ z < S0 5 0 0) ∧ (1 ≤ be ∧ be ≤ 1000000) ∧ (0 ≤ ab ∧ ab ≤ be) ∧ (0 ≤ t ∧ t ≤ 100000) ∧ ¬ S0 15 z.toNat 0 = 4) := by first | (exfalso; omega) | exact (bZ_t (by omega)).symm | exact (bZ_f (by omega)).symm
          refine W.eq (congrArg (fun z => F0 m0 72 ls [.int (zI z)]) v9) ?_
          exact W.zret hx hb hr (zI_bool _) (fun t ht hW => ⟨rfl, ⟨by rw [ht]; exact hG, va_K.moved hW.alike hK⟩, hS.F ht⟩) hS.2.2 dX5_fault_72
        · refine lv_lload_n hx hb dX5_fault_36 rfl (lv_at hl 2 rfl) ?_
          refine lv_lconst (v := zL 0) hx hb dX5_fault_37 (by decide) ?_
          refine W.lcmp hx hb dX5_fault_38 ?_
          refine z_lif_lt (tgt := 71) hx hb dX5_fault_39 (by decide) hab0 ⟨by decide, by decide⟩ (fun c_5 => ?_) (fun c_5 => ?_)
          · refine lv_iconst (v := zI 0) hx hb dX5_fault_71 rfl ?_
            have e9 : S0 = rfaultS S0 z ab be t := by unfold rfaultS; first | (exfalso; omega) | rw [if_neg (by omega)] | rw [if_pos (by omega)]
            rw [e9] at hG
            have v9 : 0 = bZ (S0 25 0 0 ≤ 0 ∧ (0 ≤ z ∧ z < S0 5 0 0) ∧ (1 ≤ be ∧ be ≤ 1000000) ∧ (0 ≤ ab ∧ ab ≤ be) ∧ (0 ≤ t ∧ t ≤ 100000) ∧ ¬ S0 15 z.toNat 0 = 4) := by first | (exfalso; omega) | exact (bZ_t (by omega)).symm | exact (bZ_f (by omega)).symm
            refine W.eq (congrArg (fun z => F0 m0 72 ls [.int (zI z)]) v9) ?_
            exact W.zret hx hb hr (zI_bool _) (fun t ht hW => ⟨rfl, ⟨by rw [ht]; exact hG, va_K.moved hW.alike hK⟩, hS.F ht⟩) hS.2.2 dX5_fault_72
          · refine lv_lload_n hx hb dX5_fault_42 rfl (lv_at hl 2 rfl) ?_
            refine lv_lload hx hb dX5_fault_43 (lv_at hl 3 rfl) ?_
            refine W.lcmp hx hb dX5_fault_45 ?_
            refine z_lif_gt (tgt := 71) hx hb dX5_fault_46 (by decide) hab0 hbe0 (fun c_6 => ?_) (fun c_6 => ?_)
            · refine lv_iconst (v := zI 0) hx hb dX5_fault_71 rfl ?_
              have e9 : S0 = rfaultS S0 z ab be t := by unfold rfaultS; first | (exfalso; omega) | rw [if_neg (by omega)] | rw [if_pos (by omega)]
              rw [e9] at hG
              have v9 : 0 = bZ (S0 25 0 0 ≤ 0 ∧ (0 ≤ z ∧ z < S0 5 0 0) ∧ (1 ≤ be ∧ be ≤ 1000000) ∧ (0 ≤ ab ∧ ab ≤ be) ∧ (0 ≤ t ∧ t ≤ 100000) ∧ ¬ S0 15 z.toNat 0 = 4) := by first | (exfalso; omega) | exact (bZ_t (by omega)).symm | exact (bZ_f (by omega)).symm
              refine W.eq (congrArg (fun z => F0 m0 72 ls [.int (zI z)]) v9) ?_
              exact W.zret hx hb hr (zI_bool _) (fun t ht hW => ⟨rfl, ⟨by rw [ht]; exact hG, va_K.moved hW.alike hK⟩, hS.F ht⟩) hS.2.2 dX5_fault_72
            · refine lv_iload hx hb dX5_fault_49 (lv_at hl 4 rfl) ?_
              refine z_if_lt (tgt := 71) hx hb dX5_fault_51 (by decide) ⟨by omega, by omega⟩ (fun c_7 => ?_) (fun c_7 => ?_)
              · refine lv_iconst (v := zI 0) hx hb dX5_fault_71 rfl ?_
                have e9 : S0 = rfaultS S0 z ab be t := by unfold rfaultS; first | (exfalso; omega) | rw [if_neg (by omega)] | rw [if_pos (by omega)]
                rw [e9] at hG
                have v9 : 0 = bZ (S0 25 0 0 ≤ 0 ∧ (0 ≤ z ∧ z < S0 5 0 0) ∧ (1 ≤ be ∧ be ≤ 1000000) ∧ (0 ≤ ab ∧ ab ≤ be) ∧ (0 ≤ t ∧ t ≤ 100000) ∧ ¬ S0 15 z.toNat 0 = 4) := by first | (exfalso; omega) | exact (bZ_t (by omega)).symm | exact (bZ_f (by omega)).symm
                refine W.eq (congrArg (fun z => F0 m0 72 ls [.int (zI z)]) v9) ?_
                exact W.zret hx hb hr (zI_bool _) (fun t ht hW => ⟨rfl, ⟨by rw [ht]; exact hG, va_K.moved hW.alike hK⟩, hS.F ht⟩) hS.2.2 dX5_fault_72
              · refine lv_iload hx hb dX5_fault_54 (lv_at hl 4 rfl) ?_
                refine z_ldc (z := 100000) hx hb hown (hts (.constant RX5 103 (100000)) (by decide +kernel)) (by decide) dX5_fault_56 ?_
                refine z_icmp_gt (tgt := 71) hx hb dX5_fault_58 (by decide) ⟨by omega, by omega⟩ ⟨by decide, by decide⟩ (fun c_8 => ?_) (fun c_8 => ?_)
                · refine lv_iconst (v := zI 0) hx hb dX5_fault_71 rfl ?_
                  have e9 : S0 = rfaultS S0 z ab be t := by unfold rfaultS; first | (exfalso; omega) | rw [if_neg (by omega)] | rw [if_pos (by omega)]
                  rw [e9] at hG
                  have v9 : 0 = bZ (S0 25 0 0 ≤ 0 ∧ (0 ≤ z ∧ z < S0 5 0 0) ∧ (1 ≤ be ∧ be ≤ 1000000) ∧ (0 ≤ ab ∧ ab ≤ be) ∧ (0 ≤ t ∧ t ≤ 100000) ∧ ¬ S0 15 z.toNat 0 = 4) := by first | (exfalso; omega) | exact (bZ_t (by omega)).symm | exact (bZ_f (by omega)).symm
                  refine W.eq (congrArg (fun z => F0 m0 72 ls [.int (zI z)]) v9) ?_
                  exact W.zret hx hb hr (zI_bool _) (fun t ht hW => ⟨rfl, ⟨by rw [ht]; exact hG, va_K.moved hW.alike hK⟩, hS.F ht⟩) hS.2.2 dX5_fault_72
                · refine lv_aload_n hx hb dX5_fault_61 rfl (lv_at hl 0 rfl) ?_
                  refine r_getA hx hb hts hin hown hK hG 15 (by decide) (by decide) (hts (.fieldLink RX5 53 "LineEventsModel" "faults" "[I") (by decide +kernel)) dX5_fault_62 ?_
                  refine lv_iload_n hx hb dX5_fault_65 rfl (lv_at hl 1 rfl) ?_
                  refine r_iald hx hb hK hG 15 (by decide) rfl (z).toNat 0 (by simp only [show rW 15 = 1 from rfl]; omega) (by simp only [show rN 15 = 12 from rfl]; omega) (by simp only [show rW 15 = 1 from rfl]; omega) (w := S0 15 (z).toNat 0) (rfl) dX5_fault_66 ?_
                  refine lv_iconst (v := zI 4) hx hb dX5_fault_67 rfl ?_
                  refine z_icmp_ne (tgt := 73) hx hb dX5_fault_68 (by decide) ⟨by omega, by omega⟩ ⟨by decide, by decide⟩ (fun c_9 => ?_) (fun c_9 => ?_)
                  · refine lv_iload_n hx hb dX5_fault_73 rfl (lv_at hl 1 rfl) ?_
                    refine lv_iconst (v := zI 4) hx hb dX5_fault_74 rfl ?_
                    refine z_imul hx hb dX5_fault_75 ?_
                    refine lv_aload_n hx hb dX5_fault_76 rfl (lv_at hl 0 rfl) ?_
                    refine r_getA hx hb hts hin hown hK hG 15 (by decide) (by decide) (hts (.fieldLink RX5 53 "LineEventsModel" "faults" "[I") (by decide +kernel)) dX5_fault_77 ?_
                    refine lv_iload_n hx hb dX5_fault_80 rfl (lv_at hl 1 rfl) ?_
                    refine r_iald hx hb hK hG 15 (by decide) rfl (z).toNat 0 (by simp only [show rW 15 = 1 from rfl]; omega) (by simp only [show rN 15 = 12 from rfl]; omega) (by simp only [show rW 15 = 1 from rfl]; omega) (w := S0 15 (z).toNat 0) (rfl) dX5_fault_81 ?_
                    refine z_iadd hx hb dX5_fault_82 ?_
                    refine lv_istore (lv' := [(7, .int (zI ((z * 4) + (S0 15 (z).toNat 0)))), (0, .ref (ad 32 0)), (1, .int (zI z)), (2, .long (zL ab)), (4, .long (zL be)), (6, .int (zI t))]) hx hb dX5_fault_83 hl (by decide) rfl (fun ls hl => ?_)
                    refine lv_aload_n hx hb dX5_fault_85 rfl (lv_at hl 1 rfl) ?_
                    refine r_getA hx hb hts hin hown hK hG 12 (by decide) (by decide) (hts (.fieldLink RX5 43 "LineEventsModel" "faultAbove" "[J") (by decide +kernel)) dX5_fault_86 ?_
                    refine lv_iload hx hb dX5_fault_89 (lv_at hl 0 rfl) ?_
                    refine lv_lload_n hx hb dX5_fault_91 rfl (lv_at hl 3 rfl) ?_
                    refine r_last hx hb hK hG hS 12 (by decide) rfl (z).toNat (S0 15 (z).toNat 0).toNat (by simp only [show rW 12 = 4 from rfl]; omega) (by simp only [show rN 12 = 12 from rfl]; omega) (by simp only [show rW 12 = 4 from rfl]; omega) (w := ab) dX5_fault_92 (fun H locs hG hS => ?_)
                    refine lv_aload_n hx hb dX5_fault_93 rfl (lv_at hl 1 rfl) ?_
                    refine r_getA hx hb hts hin hown hK hG 13 (by decide) (by decide) (hts (.fieldLink RX5 47 "LineEventsModel" "faultBelow" "[J") (by decide +kernel)) dX5_fault_94 ?_
                    refine lv_iload hx hb dX5_fault_97 (lv_at hl 0 rfl) ?_
                    refine lv_lload hx hb dX5_fault_99 (lv_at hl 4 rfl) ?_
                    refine r_last hx hb hK hG hS 13 (by decide) rfl (z).toNat (S0 15 (z).toNat 0).toNat (by simp only [show rW 13 = 4 from rfl]; omega) (by simp only [show rN 13 = 12 from rfl]; omega) (by simp only [show rW 13 = 4 from rfl]; omega) (w := be) dX5_fault_101 (fun H locs hG hS => ?_)
                    refine lv_aload_n hx hb dX5_fault_102 rfl (lv_at hl 1 rfl) ?_
                    refine r_getA hx hb hts hin hown hK hG 14 (by decide) (by decide) (hts (.fieldLink RX5 50 "LineEventsModel" "faultTenths" "[I") (by decide +kernel)) dX5_fault_103 ?_
                    refine lv_iload hx hb dX5_fault_106 (lv_at hl 0 rfl) ?_
                    refine lv_iload hx hb dX5_fault_108 (lv_at hl 5 rfl) ?_
                    refine r_iast hx hb hK hG hS 14 (by decide) rfl (z).toNat (S0 15 (z).toNat 0).toNat (by simp only [show rW 14 = 4 from rfl]; omega) (by simp only [show rN 14 = 12 from rfl]; omega) (by simp only [show rW 14 = 4 from rfl]; omega) (w := t) dX5_fault_110 (fun H locs hG hS => ?_)
                    refine lv_aload_n hx hb dX5_fault_111 rfl (lv_at hl 1 rfl) ?_
                    refine r_getA hx hb hts hin hown hK hG 15 (by decide) (by decide) (hts (.fieldLink RX5 53 "LineEventsModel" "faults" "[I") (by decide +kernel)) dX5_fault_112 ?_
                    refine lv_iload_n hx hb dX5_fault_115 rfl (lv_at hl 2 rfl) ?_
                    refine lv_dup2_11 hx hb dX5_fault_116 rfl rfl ?_
                    refine r_iald hx hb hK hG 15 (by decide) rfl (z).toNat 0 (by simp only [show rW 15 = 1 from rfl]; omega) (by simp only [show rN 15 = 12 from rfl]; omega) (by simp only [show rW 15 = 1 from rfl]; omega) (w := S0 15 (z).toNat 0) (by simp [su]) dX5_fault_117 ?_
                    refine lv_iconst (v := zI 1) hx hb dX5_fault_118 rfl ?_
                    refine z_iadd hx hb dX5_fault_119 ?_
                    refine r_iast hx hb hK hG hS 15 (by decide) rfl (z).toNat 0 (by simp only [show rW 15 = 1 from rfl]; omega) (by simp only [show rN 15 = 12 from rfl]; omega) (by simp only [show rW 15 = 1 from rfl]; omega) (w := (S0 15 (z).toNat 0) + 1) dX5_fault_120 (fun H locs hG hS => ?_)
                    refine lv_iconst (v := zI 1) hx hb dX5_fault_121 rfl ?_
                    have e9 : su (su (su (su S0 12 (z).toNat (S0 15 (z).toNat 0).toNat (ab)) 13 (z).toNat (S0 15 (z).toNat 0).toNat (be)) 14 (z).toNat (S0 15 (z).toNat 0).toNat (t)) 15 (z).toNat 0 ((S0 15 (z).toNat 0) + 1) = rfaultS S0 z ab be t := by unfold rfaultS; first | (exfalso; omega) | rw [if_neg (by omega)] | rw [if_pos (by omega)]
                    rw [e9] at hG
                    have v9 : 1 = bZ (S0 25 0 0 ≤ 0 ∧ (0 ≤ z ∧ z < S0 5 0 0) ∧ (1 ≤ be ∧ be ≤ 1000000) ∧ (0 ≤ ab ∧ ab ≤ be) ∧ (0 ≤ t ∧ t ≤ 100000) ∧ ¬ S0 15 z.toNat 0 = 4) := by first | (exfalso; omega) | exact (bZ_t (by omega)).symm | exact (bZ_f (by omega)).symm
                    refine W.eq (congrArg (fun z => F0 m0 122 ls [.int (zI z)]) v9) ?_
                    exact W.zret hx hb hr (zI_bool _) (fun t ht hW => ⟨rfl, ⟨by rw [ht]; exact hG, va_K.moved hW.alike hK⟩, hS.F ht⟩) hS.2.2 dX5_fault_122
                  · refine lv_iconst (v := zI 0) hx hb dX5_fault_71 rfl ?_
                    have e9 : S0 = rfaultS S0 z ab be t := by unfold rfaultS; first | (exfalso; omega) | rw [if_neg (by omega)] | rw [if_pos (by omega)]
                    rw [e9] at hG
                    have v9 : 0 = bZ (S0 25 0 0 ≤ 0 ∧ (0 ≤ z ∧ z < S0 5 0 0) ∧ (1 ≤ be ∧ be ≤ 1000000) ∧ (0 ≤ ab ∧ ab ≤ be) ∧ (0 ≤ t ∧ t ≤ 100000) ∧ ¬ S0 15 z.toNat 0 = 4) := by first | (exfalso; omega) | exact (bZ_t (by omega)).symm | exact (bZ_f (by omega)).symm
                    refine W.eq (congrArg (fun z => F0 m0 72 ls [.int (zI z)]) v9) ?_
                    exact W.zret hx hb hr (zI_bool _) (fun t ht hW => ⟨rfl, ⟨by rw [ht]; exact hG, va_K.moved hW.alike hK⟩, hS.F ht⟩) hS.2.2 dX5_fault_72
set_option maxHeartbeats 4000000 in
set_option maxRecDepth 100000 in
theorem m_X5_told (l : Launch) (D : va_G) (cI cJ : ClassId) (A : Nat → Prop) (ad : Nat → Nat → Nat) (S : Nat → Nat → Nat → Int) (mm f tt cs : Int) (hf0 : zB f) (htt0 : zC tt) (hI : Inv S) : Met l yX5_told wsX5_told ({ frames := 0, cells := 0, slots := 0, locals := 0 }) (va_Pc [.ref (ad 32 0), .int (zI mm), .int (zI f), .long (zL tt), .int (zI cs)] (gRU D cI cJ A ad S)) (gO (some (.int (zI (bZ (S 25 0 0 ≤ f ∧ f < tt ∧ tt ≤ 1000000000 ∧ ¬ S 20 0 0 = 64))))) (gRU D cI cJ A ad (rtoldS S mm f tt cs)) A) 0 0 A := by
  refine Met.ofW (cc := cX5_told) (maxL := 6) (ret := (some .boolean)) (by decide) rfl ?_
  intro p e s m0 args below meth c s₁ B hml hv
  obtain ⟨rfl, hG, hK⟩ := hv
  have hx := B.exec
  have hb := B.bytes
  have hr := B.returns
  have hts := atoms_spec (ws := wsX5_told) B.pre
  have hown : s.vm.findClass RX5 = some m0.cls := findClass_of_methodNamed B.named
  have hlocks := B.notSynchronized
  have hin : ∀ w ∈ wsX50, w ∈ wsX5_told := by decide +kernel
  have hS : va_S A s.heap s.heap [] := va_S.rf
  have hl := lv_entry ([.ref (ad 32 0), .int (zI mm), .int (zI f), .long (zL tt), .int (zI cs)]) (n := 6) (Nat.le_of_ble_eq_true rfl)
  rw [lg_entry_eq]
  generalize (lg_sl ([.ref (ad 32 0), .int (zI mm), .int (zI f), .long (zL tt), .int (zI cs)]) ++ List.replicate (6 - (lg_sl ([.ref (ad 32 0), .int (zI mm), .int (zI f), .long (zL tt), .int (zI cs)])).length) Slot.unset).toArray = ls at hl ⊢
  replace hl : lv_has ls 6 [(0, .ref (ad 32 0)), (1, .int (zI mm)), (2, .int (zI f)), (3, .long (zL tt)), (5, .int (zI cs))] := hl
  obtain ⟨hI5, hI25, hI20, hIM, hIL, hIR⟩ := id hI
  refine lv_iload_n hx hb dX5_told_0 rfl (lv_at hl 2 rfl) ?_
  refine lv_aload_n hx hb dX5_told_1 rfl (lv_at hl 0 rfl) ?_
  refine r_getI hx hb hts hin hown hK hG 25 (by decide) rfl (hts (.fieldLink RX5 94 "LineEventsModel" "now" "I") (by decide +kernel)) (z := S 25 0 0) (rfl) dX5_told_2 ?_
  refine z_icmp_lt (tgt := 32) hx hb dX5_told_5 (by decide) ⟨by omega, by omega⟩ ⟨by omega, by omega⟩ (fun c_1 => ?_) (fun c_1 => ?_)
  · refine lv_iconst (v := zI 0) hx hb dX5_told_32 rfl ?_
    have e9 : S = rtoldS S mm f tt cs := by unfold rtoldS; first | (exfalso; omega) | rw [if_neg (by omega)] | rw [if_pos (by omega)]
    rw [e9] at hG
    have v9 : 0 = bZ (S 25 0 0 ≤ f ∧ f < tt ∧ tt ≤ 1000000000 ∧ ¬ S 20 0 0 = 64) := by first | (exfalso; omega) | exact (bZ_t (by omega)).symm | exact (bZ_f (by omega)).symm
    refine W.eq (congrArg (fun z => F0 m0 33 ls [.int (zI z)]) v9) ?_
    exact W.zret hx hb hr (zI_bool _) (fun t ht hW => ⟨rfl, ⟨by rw [ht]; exact hG, va_K.moved hW.alike hK⟩, hS.F ht⟩) hS.2.2 dX5_told_33
  · refine lv_lload_n hx hb dX5_told_8 rfl (lv_at hl 3 rfl) ?_
    refine lv_iload_n hx hb dX5_told_9 rfl (lv_at hl 2 rfl) ?_
    refine z_i2l hx hb dX5_told_10 ⟨by omega, by omega⟩ ?_
    refine W.lcmp hx hb dX5_told_11 ?_
    refine z_lif_le (tgt := 32) hx hb dX5_told_12 (by decide) htt0 ⟨by omega, by omega⟩ (fun c_2 => ?_) (fun c_2 => ?_)
    · refine lv_iconst (v := zI 0) hx hb dX5_told_32 rfl ?_
      have e9 : S = rtoldS S mm f tt cs := by unfold rtoldS; first | (exfalso; omega) | rw [if_neg (by omega)] | rw [if_pos (by omega)]
      rw [e9] at hG
      have v9 : 0 = bZ (S 25 0 0 ≤ f ∧ f < tt ∧ tt ≤ 1000000000 ∧ ¬ S 20 0 0 = 64) := by first | (exfalso; omega) | exact (bZ_t (by omega)).symm | exact (bZ_f (by omega)).symm
      refine W.eq (congrArg (fun z => F0 m0 33 ls [.int (zI z)]) v9) ?_
      exact W.zret hx hb hr (zI_bool _) (fun t ht hW => ⟨rfl, ⟨by rw [ht]; exact hG, va_K.moved hW.alike hK⟩, hS.F ht⟩) hS.2.2 dX5_told_33
    · refine lv_lload_n hx hb dX5_told_15 rfl (lv_at hl 3 rfl) ?_
      refine z_ldc2 (z := 1000000000) hx hb hown (hts (.constantLong RX5 104 (1000000000)) (by decide +kernel)) (by decide) dX5_told_16 ?_
      refine W.lcmp hx hb dX5_told_19 ?_
      refine z_lif_gt (tgt := 32) hx hb dX5_told_20 (by decide) htt0 ⟨by decide, by decide⟩ (fun c_3 => ?_) (fun c_3 => ?_)
      · refine lv_iconst (v := zI 0) hx hb dX5_told_32 rfl ?_
        have e9 : S = rtoldS S mm f tt cs := by unfold rtoldS; first | (exfalso; omega) | rw [if_neg (by omega)] | rw [if_pos (by omega)]
        rw [e9] at hG
        have v9 : 0 = bZ (S 25 0 0 ≤ f ∧ f < tt ∧ tt ≤ 1000000000 ∧ ¬ S 20 0 0 = 64) := by first | (exfalso; omega) | exact (bZ_t (by omega)).symm | exact (bZ_f (by omega)).symm
        refine W.eq (congrArg (fun z => F0 m0 33 ls [.int (zI z)]) v9) ?_
        exact W.zret hx hb hr (zI_bool _) (fun t ht hW => ⟨rfl, ⟨by rw [ht]; exact hG, va_K.moved hW.alike hK⟩, hS.F ht⟩) hS.2.2 dX5_told_33
      · refine lv_aload_n hx hb dX5_told_23 rfl (lv_at hl 0 rfl) ?_
        refine r_getI hx hb hts hin hown hK hG 20 (by decide) rfl (hts (.fieldLink RX5 106 "LineEventsModel" "rows" "I") (by decide +kernel)) (z := S 20 0 0) (rfl) dX5_told_24 ?_
        refine lv_bipush (v := zI 64) hx hb dX5_told_27 (by decide) ?_
        refine z_icmp_ne (tgt := 34) hx hb dX5_told_29 (by decide) ⟨by omega, by omega⟩ ⟨by decide, by decide⟩ (fun c_4 => ?_) (fun c_4 => ?_)
        · refine lv_aload_n hx hb dX5_told_34 rfl (lv_at hl 0 rfl) ?_
          refine r_getA hx hb hts hin hown hK hG 16 (by decide) (by decide) (hts (.fieldLink RX5 56 "LineEventsModel" "rowMachine" "[I") (by decide +kernel)) dX5_told_35 ?_
          refine lv_aload_n hx hb dX5_told_38 rfl (lv_at hl 0 rfl) ?_
          refine r_getI hx hb hts hin hown hK hG 20 (by decide) rfl (hts (.fieldLink RX5 106 "LineEventsModel" "rows" "I") (by decide +kernel)) (z := S 20 0 0) (rfl) dX5_told_39 ?_
          refine lv_iload_n hx hb dX5_told_42 rfl (lv_at hl 1 rfl) ?_
          refine r_iast hx hb hK hG hS 16 (by decide) rfl (S 20 0 0).toNat 0 (by simp only [show rW 16 = 1 from rfl]; omega) (by simp only [show rN 16 = 64 from rfl]; omega) (by simp only [show rW 16 = 1 from rfl]; omega) (w := mm) dX5_told_43 (fun H locs hG hS => ?_)
          refine lv_aload_n hx hb dX5_told_44 rfl (lv_at hl 0 rfl) ?_
          refine r_getA hx hb hts hin hown hK hG 17 (by decide) (by decide) (hts (.fieldLink RX5 59 "LineEventsModel" "rowFrom" "[I") (by decide +kernel)) dX5_told_45 ?_
          refine lv_aload_n hx hb dX5_told_48 rfl (lv_at hl 0 rfl) ?_
          refine r_getI hx hb hts hin hown hK hG 20 (by decide) rfl (hts (.fieldLink RX5 106 "LineEventsModel" "rows" "I") (by decide +kernel)) (z := S 20 0 0) (by simp [su]) dX5_told_49 ?_
          refine lv_iload_n hx hb dX5_told_52 rfl (lv_at hl 2 rfl) ?_
          refine r_iast hx hb hK hG hS 17 (by decide) rfl (S 20 0 0).toNat 0 (by simp only [show rW 17 = 1 from rfl]; omega) (by simp only [show rN 17 = 64 from rfl]; omega) (by simp only [show rW 17 = 1 from rfl]; omega) (w := f) dX5_told_53 (fun H locs hG hS => ?_)
          refine lv_aload_n hx hb dX5_told_54 rfl (lv_at hl 0 rfl) ?_
          refine r_getA hx hb hts hin hown hK hG 18 (by decide) (by decide) (hts (.fieldLink RX5 62 "LineEventsModel" "rowTo" "[I") (by decide +kernel)) dX5_told_55 ?_
          refine lv_aload_n hx hb dX5_told_58 rfl (lv_at hl 0 rfl) ?_
          refine r_getI hx hb hts hin hown hK hG 20 (by decide) rfl (hts (.fieldLink RX5 106 "LineEventsModel" "rows" "I") (by decide +kernel)) (z := S 20 0 0) (by simp [su]) dX5_told_59 ?_
          refine lv_lload_n hx hb dX5_told_62 rfl (lv_at hl 3 rfl) ?_
          refine z_l2i hx hb dX5_told_63 ?_
          refine r_iast hx hb hK hG hS 18 (by decide) rfl (S 20 0 0).toNat 0 (by simp only [show rW 18 = 1 from rfl]; omega) (by simp only [show rN 18 = 64 from rfl]; omega) (by simp only [show rW 18 = 1 from rfl]; omega) (w := tt) dX5_told_64 (fun H locs hG hS => ?_)
          refine lv_aload_n hx hb dX5_told_65 rfl (lv_at hl 0 rfl) ?_
          refine r_getA hx hb hts hin hown hK hG 19 (by decide) (by decide) (hts (.fieldLink RX5 65 "LineEventsModel" "rowCause" "[I") (by decide +kernel)) dX5_told_66 ?_
          refine lv_aload_n hx hb dX5_told_69 rfl (lv_at hl 0 rfl) ?_
          refine r_getI hx hb hts hin hown hK hG 20 (by decide) rfl (hts (.fieldLink RX5 106 "LineEventsModel" "rows" "I") (by decide +kernel)) (z := S 20 0 0) (by simp [su]) dX5_told_70 ?_
          refine lv_iload hx hb dX5_told_73 (lv_at hl 4 rfl) ?_
          refine r_iast hx hb hK hG hS 19 (by decide) rfl (S 20 0 0).toNat 0 (by simp only [show rW 19 = 1 from rfl]; omega) (by simp only [show rN 19 = 64 from rfl]; omega) (by simp only [show rW 19 = 1 from rfl]; omega) (w := cs) dX5_told_75 (fun H locs hG hS => ?_)
          refine lv_aload_n hx hb dX5_told_76 rfl (lv_at hl 0 rfl) ?_
          refine lv_dup hx hb dX5_told_77 rfl ?_
          refine r_getI hx hb hts hin hown hK hG 20 (by decide) rfl (hts (.fieldLink RX5 106 "LineEventsModel" "rows" "I") (by decide +kernel)) (z := S 20 0 0) (by simp [su]) dX5_told_78 ?_
          refine lv_iconst (v := zI 1) hx hb dX5_told_81 rfl ?_
          refine z_iadd hx hb dX5_told_82 ?_
          refine r_putI hx hb hts hin hown hK hG hS 20 (by decide) rfl (hts (.fieldLink RX5 106 "LineEventsModel" "rows" "I") (by decide +kernel)) rfl rfl (z := (S 20 0 0) + 1) dX5_told_83 (fun H locs hG hS => ?_)
          refine lv_iconst (v := zI 1) hx hb dX5_told_86 rfl ?_
          have e9 : su (su (su (su (su S 16 (S 20 0 0).toNat 0 (mm)) 17 (S 20 0 0).toNat 0 (f)) 18 (S 20 0 0).toNat 0 (tt)) 19 (S 20 0 0).toNat 0 (cs)) 20 0 0 ((S 20 0 0) + 1) = rtoldS S mm f tt cs := by unfold rtoldS; first | (exfalso; omega) | rw [if_neg (by omega)] | rw [if_pos (by omega)]
          rw [e9] at hG
          have v9 : 1 = bZ (S 25 0 0 ≤ f ∧ f < tt ∧ tt ≤ 1000000000 ∧ ¬ S 20 0 0 = 64) := by first | (exfalso; omega) | exact (bZ_t (by omega)).symm | exact (bZ_f (by omega)).symm
          refine W.eq (congrArg (fun z => F0 m0 87 ls [.int (zI z)]) v9) ?_
          exact W.zret hx hb hr (zI_bool _) (fun t ht hW => ⟨rfl, ⟨by rw [ht]; exact hG, va_K.moved hW.alike hK⟩, hS.F ht⟩) hS.2.2 dX5_told_87
        · refine lv_iconst (v := zI 0) hx hb dX5_told_32 rfl ?_
          have e9 : S = rtoldS S mm f tt cs := by unfold rtoldS; first | (exfalso; omega) | rw [if_neg (by omega)] | rw [if_pos (by omega)]
          rw [e9] at hG
          have v9 : 0 = bZ (S 25 0 0 ≤ f ∧ f < tt ∧ tt ≤ 1000000000 ∧ ¬ S 20 0 0 = 64) := by first | (exfalso; omega) | exact (bZ_t (by omega)).symm | exact (bZ_f (by omega)).symm
          refine W.eq (congrArg (fun z => F0 m0 33 ls [.int (zI z)]) v9) ?_
          exact W.zret hx hb hr (zI_bool _) (fun t ht hW => ⟨rfl, ⟨by rw [ht]; exact hG, va_K.moved hW.alike hK⟩, hS.F ht⟩) hS.2.2 dX5_told_33
set_option maxHeartbeats 4000000 in
set_option maxRecDepth 100000 in
theorem m_X5_row (l : Launch) (D : va_G) (cI cJ : ClassId) (A : Nat → Prop) (ad : Nat → Nat → Nat) (S : Nat → Nat → Nat → Int) (z f t cs : Int) (hz0 : zB z) (hf0 : zB f) (ht0 : zB t) (hc0 : zB cs) (hI : Inv S) : Met l yX5_row wsX5_row ({ frames := 1, cells := 0, slots := 0, locals := 25 }) (va_Pc [.ref (ad 32 0), .int (zI z), .int (zI f), .int (zI t), .int (zI cs)] (gRU D cI cJ A ad S)) (gO (some (.int (zI (bZ (((0 ≤ z ∧ z < (su S 31 0 0 0) 5 0 0) ∧ 4 ≤ cs ∧ cs ≤ 9) ∧ ((su S 31 0 0 0) 25 0 0 ≤ f ∧ f < t ∧ t ≤ 1000000000 ∧ ¬ (su S 31 0 0 0) 20 0 0 = 64)))))) (gRU D cI cJ A ad (rrowS (su S 31 0 0 0) z f t cs)) A) 0 0 A := by
  refine Met.ofW (cc := cX5_row) (maxL := 5) (ret := (some .boolean)) (by decide) rfl ?_
  intro p e s m0 args below meth c s₁ B hml hv
  obtain ⟨rfl, hG, hK⟩ := hv
  have hx := B.exec
  have hb := B.bytes
  have hr := B.returns
  have hts := atoms_spec (ws := wsX5_row) B.pre
  have hown : s.vm.findClass RX5 = some m0.cls := findClass_of_methodNamed B.named
  have hlocks := B.notSynchronized
  have hin : ∀ w ∈ wsX50, w ∈ wsX5_row := by decide +kernel
  have hS : va_S A s.heap s.heap [] := va_S.rf
  have hl := lv_entry ([.ref (ad 32 0), .int (zI z), .int (zI f), .int (zI t), .int (zI cs)]) (n := 5) (Nat.le_of_ble_eq_true rfl)
  rw [lg_entry_eq]
  generalize (lg_sl ([.ref (ad 32 0), .int (zI z), .int (zI f), .int (zI t), .int (zI cs)]) ++ List.replicate (5 - (lg_sl ([.ref (ad 32 0), .int (zI z), .int (zI f), .int (zI t), .int (zI cs)])).length) Slot.unset).toArray = ls at hl ⊢
  replace hl : lv_has ls 5 [(0, .ref (ad 32 0)), (1, .int (zI z)), (2, .int (zI f)), (3, .int (zI t)), (4, .int (zI cs))] := hl
  refine lv_aload_n hx hb dX5_row_0 rfl (lv_at hl 0 rfl) ?_
  refine lv_iconst (v := zI 0) hx hb dX5_row_1 rfl ?_
  refine r_putI hx hb hts hin hown hK hG hS 31 (by decide) rfl (hts (.fieldLink RX5 87 "LineEventsModel" "thrown" "I") (by decide +kernel)) rfl rfl (z := 0) dX5_row_2 (fun H locs hG hS => ?_)
  generalize hS0 : su S 31 0 0 0 = S0 at hG ⊢
  have hI0 : Inv S0 := by rw [← hS0]; exact hI
  obtain ⟨hI5, hI25, hI20, hIM, hIL, hIR⟩ := id hI0
  refine lv_aload_n hx hb dX5_row_5 rfl (lv_at hl 0 rfl) ?_
  refine lv_iload_n hx hb dX5_row_6 rfl (lv_at hl 1 rfl) ?_
  refine r_callV (As := [.int (zI z)]) (rest := []) ⟨hx, hb, hml, hown, hts⟩ (m_X5_isMachine l D cI cJ A ad S0 z hz0 hI5) (cwV 1 hts gX5_row_X5_isMachine rfl rfl rfl (by decide +kernel) ⟨Nat.le_of_ble_eq_true rfl, Nat.le_of_ble_eq_true rfl⟩) hK hG hS rfl hl.1 rfl (Nat.le_of_ble_eq_true rfl) dX5_row_7 ⟨Nat.zero_le _, Nat.zero_le _⟩ (fun H locs hG hS => ?_)
  refine z_ifb_eq (tgt := 43) hx hb dX5_row_10 (by decide) (fun c_1 => ?_) (fun c_1 => ?_)
  · refine lv_iconst (v := zI 0) hx hb dX5_row_43 rfl ?_
    have e9 : S0 = rrowS S0 z f t cs := by unfold rrowS; first | rw [if_neg (by omega)] | rw [if_pos (by omega)]
    rw [e9] at hG
    have v9 : 0 = bZ (((0 ≤ z ∧ z < S0 5 0 0) ∧ 4 ≤ cs ∧ cs ≤ 9) ∧ (S0 25 0 0 ≤ f ∧ f < t ∧ t ≤ 1000000000 ∧ ¬ S0 20 0 0 = 64)) := by first | (exfalso; omega) | exact (bZ_t (by omega)).symm | exact (bZ_f (by omega)).symm
    refine W.eq (congrArg (fun z => F0 m0 44 ls [.int (zI z)]) v9) ?_
    exact W.zret hx hb hr (zI_bool _) (fun t ht hW => ⟨rfl, ⟨by rw [ht]; exact hG, va_K.moved hW.alike hK⟩, hS.F ht⟩) hS.2.2 dX5_row_44
  · refine lv_iload hx hb dX5_row_13 (lv_at hl 4 rfl) ?_
    refine lv_iconst (v := zI 4) hx hb dX5_row_15 rfl ?_
    refine z_icmp_lt (tgt := 43) hx hb dX5_row_16 (by decide) ⟨by omega, by omega⟩ ⟨by decide, by decide⟩ (fun c_2 => ?_) (fun c_2 => ?_)
    · refine lv_iconst (v := zI 0) hx hb dX5_row_43 rfl ?_
      have e9 : S0 = rrowS S0 z f t cs := by unfold rrowS; first | rw [if_neg (by omega)] | rw [if_pos (by omega)]
      rw [e9] at hG
      have v9 : 0 = bZ (((0 ≤ z ∧ z < S0 5 0 0) ∧ 4 ≤ cs ∧ cs ≤ 9) ∧ (S0 25 0 0 ≤ f ∧ f < t ∧ t ≤ 1000000000 ∧ ¬ S0 20 0 0 = 64)) := by first | (exfalso; omega) | exact (bZ_t (by omega)).symm | exact (bZ_f (by omega)).symm
      refine W.eq (congrArg (fun z => F0 m0 44 ls [.int (zI z)]) v9) ?_
      exact W.zret hx hb hr (zI_bool _) (fun t ht hW => ⟨rfl, ⟨by rw [ht]; exact hG, va_K.moved hW.alike hK⟩, hS.F ht⟩) hS.2.2 dX5_row_44
    · refine lv_iload hx hb dX5_row_19 (lv_at hl 4 rfl) ?_
      refine lv_bipush (v := zI 9) hx hb dX5_row_21 (by decide) ?_
      refine z_icmp_gt (tgt := 43) hx hb dX5_row_23 (by decide) ⟨by omega, by omega⟩ ⟨by decide, by decide⟩ (fun c_3 => ?_) (fun c_3 => ?_)
      · refine lv_iconst (v := zI 0) hx hb dX5_row_43 rfl ?_
        have e9 : S0 = rrowS S0 z f t cs := by unfold rrowS; first | rw [if_neg (by omega)] | rw [if_pos (by omega)]
        rw [e9] at hG
        have v9 : 0 = bZ (((0 ≤ z ∧ z < S0 5 0 0) ∧ 4 ≤ cs ∧ cs ≤ 9) ∧ (S0 25 0 0 ≤ f ∧ f < t ∧ t ≤ 1000000000 ∧ ¬ S0 20 0 0 = 64)) := by first | (exfalso; omega) | exact (bZ_t (by omega)).symm | exact (bZ_f (by omega)).symm
        refine W.eq (congrArg (fun z => F0 m0 44 ls [.int (zI z)]) v9) ?_
        exact W.zret hx hb hr (zI_bool _) (fun t ht hW => ⟨rfl, ⟨by rw [ht]; exact hG, va_K.moved hW.alike hK⟩, hS.F ht⟩) hS.2.2 dX5_row_44
      · refine lv_aload_n hx hb dX5_row_26 rfl (lv_at hl 0 rfl) ?_
        refine lv_iload_n hx hb dX5_row_27 rfl (lv_at hl 1 rfl) ?_
        refine lv_iload_n hx hb dX5_row_28 rfl (lv_at hl 2 rfl) ?_
        refine lv_iload_n hx hb dX5_row_29 rfl (lv_at hl 3 rfl) ?_
        refine z_i2l hx hb dX5_row_30 ⟨by omega, by omega⟩ ?_
        refine lv_iload hx hb dX5_row_31 (lv_at hl 4 rfl) ?_
        refine r_callV (As := [.int (zI z), .int (zI f), .long (zL t), .int (zI cs)]) (rest := []) ⟨hx, hb, hml, hown, hts⟩ (m_X5_told l D cI cJ A ad S0 z f t cs ⟨by omega, by omega⟩ ⟨by omega, by omega⟩ hI0) (cwV 4 hts gX5_row_X5_told rfl rfl rfl (by decide +kernel) ⟨Nat.le_of_ble_eq_true rfl, Nat.le_of_ble_eq_true rfl⟩) hK hG hS rfl hl.1 rfl (Nat.le_of_ble_eq_true rfl) dX5_row_33 ⟨Nat.zero_le _, Nat.zero_le _⟩ (fun H locs hG hS => ?_)
        refine z_ifb_eq (tgt := 43) hx hb dX5_row_36 (by decide) (fun c_4 => ?_) (fun c_4 => ?_)
        · refine lv_iconst (v := zI 0) hx hb dX5_row_43 rfl ?_
          have e9 : rtoldS S0 z f t cs = rrowS S0 z f t cs := by unfold rrowS; first | rw [if_neg (by omega)] | rw [if_pos (by omega)]
          rw [e9] at hG
          have v9 : 0 = bZ (((0 ≤ z ∧ z < S0 5 0 0) ∧ 4 ≤ cs ∧ cs ≤ 9) ∧ (S0 25 0 0 ≤ f ∧ f < t ∧ t ≤ 1000000000 ∧ ¬ S0 20 0 0 = 64)) := by first | (exfalso; omega) | exact (bZ_t (by omega)).symm | exact (bZ_f (by omega)).symm
          refine W.eq (congrArg (fun z => F0 m0 44 ls [.int (zI z)]) v9) ?_
          exact W.zret hx hb hr (zI_bool _) (fun t ht hW => ⟨rfl, ⟨by rw [ht]; exact hG, va_K.moved hW.alike hK⟩, hS.F ht⟩) hS.2.2 dX5_row_44
        · refine lv_iconst (v := zI 1) hx hb dX5_row_39 rfl ?_
          refine lv_goto (tgt := 44) hx hb dX5_row_40 (by decide) ?_
          have e9 : rtoldS S0 z f t cs = rrowS S0 z f t cs := by unfold rrowS; first | rw [if_neg (by omega)] | rw [if_pos (by omega)]
          rw [e9] at hG
          have v9 : 1 = bZ (((0 ≤ z ∧ z < S0 5 0 0) ∧ 4 ≤ cs ∧ cs ≤ 9) ∧ (S0 25 0 0 ≤ f ∧ f < t ∧ t ≤ 1000000000 ∧ ¬ S0 20 0 0 = 64)) := by first | (exfalso; omega) | exact (bZ_t (by omega)).symm | exact (bZ_f (by omega)).symm
          refine W.eq (congrArg (fun z => F0 m0 44 ls [.int (zI z)]) v9) ?_
          exact W.zret hx hb hr (zI_bool _) (fun t ht hW => ⟨rfl, ⟨by rw [ht]; exact hG, va_K.moved hW.alike hK⟩, hS.F ht⟩) hS.2.2 dX5_row_44
set_option maxHeartbeats 4000000 in
set_option maxRecDepth 100000 in
theorem m_X5_change (l : Launch) (D : va_G) (cI cJ : ClassId) (A : Nat → Prop) (ad : Nat → Nat → Nat) (S : Nat → Nat → Nat → Int) (f t : Int) (hf0 : zB f) (ht0 : zB t) (hI : Inv S) : Met l yX5_change wsX5_change ({ frames := 1, cells := 0, slots := 0, locals := 25 }) (va_Pc [.ref (ad 32 0), .int (zI f), .int (zI t)] (gRU D cI cJ A ad S)) (gO (some (.int (zI (bZ ((1 ≤ t ∧ t ≤ 1000000) ∧ ((su S 31 0 0 0) 25 0 0 ≤ f ∧ f < (f + t) ∧ (f + t) ≤ 1000000000 ∧ ¬ (su S 31 0 0 0) 20 0 0 = 64)))))) (gRU D cI cJ A ad (rchangeS (su S 31 0 0 0) f t)) A) 0 0 A := by
  refine Met.ofW (cc := cX5_change) (maxL := 3) (ret := (some .boolean)) (by decide) rfl ?_
  intro p e s m0 args below meth c s₁ B hml hv
  obtain ⟨rfl, hG, hK⟩ := hv
  have hx := B.exec
  have hb := B.bytes
  have hr := B.returns
  have hts := atoms_spec (ws := wsX5_change) B.pre
  have hown : s.vm.findClass RX5 = some m0.cls := findClass_of_methodNamed B.named
  have hlocks := B.notSynchronized
  have hin : ∀ w ∈ wsX50, w ∈ wsX5_change := by decide +kernel
  have hS : va_S A s.heap s.heap [] := va_S.rf
  have hl := lv_entry ([.ref (ad 32 0), .int (zI f), .int (zI t)]) (n := 3) (Nat.le_of_ble_eq_true rfl)
  rw [lg_entry_eq]
  generalize (lg_sl ([.ref (ad 32 0), .int (zI f), .int (zI t)]) ++ List.replicate (3 - (lg_sl ([.ref (ad 32 0), .int (zI f), .int (zI t)])).length) Slot.unset).toArray = ls at hl ⊢
  replace hl : lv_has ls 3 [(0, .ref (ad 32 0)), (1, .int (zI f)), (2, .int (zI t))] := hl
  refine lv_aload_n hx hb dX5_change_0 rfl (lv_at hl 0 rfl) ?_
  refine lv_iconst (v := zI 0) hx hb dX5_change_1 rfl ?_
  refine r_putI hx hb hts hin hown hK hG hS 31 (by decide) rfl (hts (.fieldLink RX5 87 "LineEventsModel" "thrown" "I") (by decide +kernel)) rfl rfl (z := 0) dX5_change_2 (fun H locs hG hS => ?_)
  generalize hS0 : su S 31 0 0 0 = S0 at hG ⊢
  have hI0 : Inv S0 := by rw [← hS0]; exact hI
  obtain ⟨hI5, hI25, hI20, hIM, hIL, hIR⟩ := id hI0
  refine lv_iload_n hx hb dX5_change_5 rfl (lv_at hl 2 rfl) ?_
  refine lv_iconst (v := zI 1) hx hb dX5_change_6 rfl ?_
  refine z_icmp_lt (tgt := 35) hx hb dX5_change_7 (by decide) ⟨by omega, by omega⟩ ⟨by decide, by decide⟩ (fun c_1 => ?_) (fun c_1 => ?_)
  · refine lv_iconst (v := zI 0) hx hb dX5_change_35 rfl ?_
    have e9 : S0 = rchangeS S0 f t := by unfold rchangeS; first | rw [if_neg (by omega)] | rw [if_pos (by omega)]
    rw [e9] at hG
    have v9 : 0 = bZ ((1 ≤ t ∧ t ≤ 1000000) ∧ (S0 25 0 0 ≤ f ∧ f < (f + t) ∧ (f + t) ≤ 1000000000 ∧ ¬ S0 20 0 0 = 64)) := by first | (exfalso; omega) | exact (bZ_t (by omega)).symm | exact (bZ_f (by omega)).symm
    refine W.eq (congrArg (fun z => F0 m0 36 ls [.int (zI z)]) v9) ?_
    exact W.zret hx hb hr (zI_bool _) (fun t ht hW => ⟨rfl, ⟨by rw [ht]; exact hG, va_K.moved hW.alike hK⟩, hS.F ht⟩) hS.2.2 dX5_change_36
  · refine lv_iload_n hx hb dX5_change_10 rfl (lv_at hl 2 rfl) ?_
    refine z_ldc (z := 1000000) hx hb hown (hts (.constant RX5 113 (1000000)) (by decide +kernel)) (by decide) dX5_change_11 ?_
    refine z_icmp_gt (tgt := 35) hx hb dX5_change_13 (by decide) ⟨by omega, by omega⟩ ⟨by decide, by decide⟩ (fun c_2 => ?_) (fun c_2 => ?_)
    · refine lv_iconst (v := zI 0) hx hb dX5_change_35 rfl ?_
      have e9 : S0 = rchangeS S0 f t := by unfold rchangeS; first | rw [if_neg (by omega)] | rw [if_pos (by omega)]
      rw [e9] at hG
      have v9 : 0 = bZ ((1 ≤ t ∧ t ≤ 1000000) ∧ (S0 25 0 0 ≤ f ∧ f < (f + t) ∧ (f + t) ≤ 1000000000 ∧ ¬ S0 20 0 0 = 64)) := by first | (exfalso; omega) | exact (bZ_t (by omega)).symm | exact (bZ_f (by omega)).symm
      refine W.eq (congrArg (fun z => F0 m0 36 ls [.int (zI z)]) v9) ?_
      exact W.zret hx hb hr (zI_bool _) (fun t ht hW => ⟨rfl, ⟨by rw [ht]; exact hG, va_K.moved hW.alike hK⟩, hS.F ht⟩) hS.2.2 dX5_change_36
    · refine lv_aload_n hx hb dX5_change_16 rfl (lv_at hl 0 rfl) ?_
      refine lv_iconst (v := zI (-1)) hx hb dX5_change_17 rfl ?_
      refine lv_iload_n hx hb dX5_change_18 rfl (lv_at hl 1 rfl) ?_
      refine lv_iload_n hx hb dX5_change_19 rfl (lv_at hl 1 rfl) ?_
      refine z_i2l hx hb dX5_change_20 ⟨by omega, by omega⟩ ?_
      refine lv_iload_n hx hb dX5_change_21 rfl (lv_at hl 2 rfl) ?_
      refine z_i2l hx hb dX5_change_22 ⟨by omega, by omega⟩ ?_
      refine z_ladd hx hb dX5_change_23 ?_
      refine lv_iconst (v := zI 1) hx hb dX5_change_24 rfl ?_
      refine r_callV (As := [.int (zI (-1)), .int (zI f), .long (zL (f + t)), .int (zI 1)]) (rest := []) ⟨hx, hb, hml, hown, hts⟩ (m_X5_told l D cI cJ A ad S0 (-1) f (f + t) 1 ⟨by omega, by omega⟩ ⟨by omega, by omega⟩ hI0) (cwV 4 hts gX5_change_X5_told rfl rfl rfl (by decide +kernel) ⟨Nat.le_of_ble_eq_true rfl, Nat.le_of_ble_eq_true rfl⟩) hK hG hS rfl hl.1 rfl (Nat.le_of_ble_eq_true rfl) dX5_change_25 ⟨Nat.zero_le _, Nat.zero_le _⟩ (fun H locs hG hS => ?_)
      refine z_ifb_eq (tgt := 35) hx hb dX5_change_28 (by decide) (fun c_3 => ?_) (fun c_3 => ?_)
      · refine lv_iconst (v := zI 0) hx hb dX5_change_35 rfl ?_
        have e9 : rtoldS S0 (-1) f (f + t) 1 = rchangeS S0 f t := by unfold rchangeS; first | rw [if_neg (by omega)] | rw [if_pos (by omega)]
        rw [e9] at hG
        have v9 : 0 = bZ ((1 ≤ t ∧ t ≤ 1000000) ∧ (S0 25 0 0 ≤ f ∧ f < (f + t) ∧ (f + t) ≤ 1000000000 ∧ ¬ S0 20 0 0 = 64)) := by first | (exfalso; omega) | exact (bZ_t (by omega)).symm | exact (bZ_f (by omega)).symm
        refine W.eq (congrArg (fun z => F0 m0 36 ls [.int (zI z)]) v9) ?_
        exact W.zret hx hb hr (zI_bool _) (fun t ht hW => ⟨rfl, ⟨by rw [ht]; exact hG, va_K.moved hW.alike hK⟩, hS.F ht⟩) hS.2.2 dX5_change_36
      · refine lv_iconst (v := zI 1) hx hb dX5_change_31 rfl ?_
        refine lv_goto (tgt := 36) hx hb dX5_change_32 (by decide) ?_
        have e9 : rtoldS S0 (-1) f (f + t) 1 = rchangeS S0 f t := by unfold rchangeS; first | rw [if_neg (by omega)] | rw [if_pos (by omega)]
        rw [e9] at hG
        have v9 : 1 = bZ ((1 ≤ t ∧ t ≤ 1000000) ∧ (S0 25 0 0 ≤ f ∧ f < (f + t) ∧ (f + t) ≤ 1000000000 ∧ ¬ S0 20 0 0 = 64)) := by first | (exfalso; omega) | exact (bZ_t (by omega)).symm | exact (bZ_f (by omega)).symm
        refine W.eq (congrArg (fun z => F0 m0 36 ls [.int (zI z)]) v9) ?_
        exact W.zret hx hb hr (zI_bool _) (fun t ht hW => ⟨rfl, ⟨by rw [ht]; exact hG, va_K.moved hW.alike hK⟩, hS.F ht⟩) hS.2.2 dX5_change_36
set_option maxHeartbeats 4000000 in
set_option maxRecDepth 100000 in
theorem m_X5_rest (l : Launch) (D : va_G) (cI cJ : ClassId) (A : Nat → Prop) (ad : Nat → Nat → Nat) (S : Nat → Nat → Nat → Int) (f t : Int) (hf0 : zB f) (ht0 : zB t) (hI : Inv S) : Met l yX5_rest wsX5_rest ({ frames := 1, cells := 0, slots := 0, locals := 25 }) (va_Pc [.ref (ad 32 0), .int (zI f), .int (zI t)] (gRU D cI cJ A ad S)) (gO (some (.int (zI (bZ ((su S 31 0 0 0) 25 0 0 ≤ f ∧ f < t ∧ t ≤ 1000000000 ∧ ¬ (su S 31 0 0 0) 20 0 0 = 64))))) (gRU D cI cJ A ad (rtoldS (su S 31 0 0 0) (-1) f t 2)) A) 0 0 A := by
  refine Met.ofW (cc := cX5_rest) (maxL := 3) (ret := (some .boolean)) (by decide) rfl ?_
  intro p e s m0 args below meth c s₁ B hml hv
  obtain ⟨rfl, hG, hK⟩ := hv
  have hx := B.exec
  have hb := B.bytes
  have hr := B.returns
  have hts := atoms_spec (ws := wsX5_rest) B.pre
  have hown : s.vm.findClass RX5 = some m0.cls := findClass_of_methodNamed B.named
  have hlocks := B.notSynchronized
  have hin : ∀ w ∈ wsX50, w ∈ wsX5_rest := by decide +kernel
  have hS : va_S A s.heap s.heap [] := va_S.rf
  have hl := lv_entry ([.ref (ad 32 0), .int (zI f), .int (zI t)]) (n := 3) (Nat.le_of_ble_eq_true rfl)
  rw [lg_entry_eq]
  generalize (lg_sl ([.ref (ad 32 0), .int (zI f), .int (zI t)]) ++ List.replicate (3 - (lg_sl ([.ref (ad 32 0), .int (zI f), .int (zI t)])).length) Slot.unset).toArray = ls at hl ⊢
  replace hl : lv_has ls 3 [(0, .ref (ad 32 0)), (1, .int (zI f)), (2, .int (zI t))] := hl
  refine lv_aload_n hx hb dX5_rest_0 rfl (lv_at hl 0 rfl) ?_
  refine lv_iconst (v := zI 0) hx hb dX5_rest_1 rfl ?_
  refine r_putI hx hb hts hin hown hK hG hS 31 (by decide) rfl (hts (.fieldLink RX5 87 "LineEventsModel" "thrown" "I") (by decide +kernel)) rfl rfl (z := 0) dX5_rest_2 (fun H locs hG hS => ?_)
  generalize hS0 : su S 31 0 0 0 = S0 at hG ⊢
  have hI0 : Inv S0 := by rw [← hS0]; exact hI
  obtain ⟨hI5, hI25, hI20, hIM, hIL, hIR⟩ := id hI0
  refine lv_aload_n hx hb dX5_rest_5 rfl (lv_at hl 0 rfl) ?_
  refine lv_iconst (v := zI (-1)) hx hb dX5_rest_6 rfl ?_
  refine lv_iload_n hx hb dX5_rest_7 rfl (lv_at hl 1 rfl) ?_
  refine lv_iload_n hx hb dX5_rest_8 rfl (lv_at hl 2 rfl) ?_
  refine z_i2l hx hb dX5_rest_9 ⟨by omega, by omega⟩ ?_
  refine lv_iconst (v := zI 2) hx hb dX5_rest_10 rfl ?_
  refine r_callV (As := [.int (zI (-1)), .int (zI f), .long (zL t), .int (zI 2)]) (rest := []) ⟨hx, hb, hml, hown, hts⟩ (m_X5_told l D cI cJ A ad S0 (-1) f t 2 ⟨by omega, by omega⟩ ⟨by omega, by omega⟩ hI0) (cwV 4 hts gX5_rest_X5_told rfl rfl rfl (by decide +kernel) ⟨Nat.le_of_ble_eq_true rfl, Nat.le_of_ble_eq_true rfl⟩) hK hG hS rfl hl.1 rfl (Nat.le_of_ble_eq_true rfl) dX5_rest_11 ⟨Nat.zero_le _, Nat.zero_le _⟩ (fun H locs hG hS => ?_)
  have v9 : bZ ((S0 25 0 0 ≤ f ∧ f < t ∧ t ≤ 1000000000 ∧ ¬ S0 20 0 0 = 64)) = bZ (S0 25 0 0 ≤ f ∧ f < t ∧ t ≤ 1000000000 ∧ ¬ S0 20 0 0 = 64) := by rfl
  refine W.eq (congrArg (fun z => F0 m0 14 ls [.int (zI z)]) v9) ?_
  exact W.zret hx hb hr (zI_bool _) (fun t ht hW => ⟨rfl, ⟨by rw [ht]; exact hG, va_K.moved hW.alike hK⟩, hS.F ht⟩) hS.2.2 dX5_rest_14
set_option maxHeartbeats 4000000 in
set_option maxRecDepth 100000 in
theorem m_X5_event (l : Launch) (D : va_G) (cI cJ : ClassId) (A : Nat → Prop) (ad : Nat → Nat → Nat) (S : Nat → Nat → Nat → Int) (k q : Int) (hk0 : zB k) (hq0 : zB q) (he : 0 ≤ S 30 0 0 ∧ S 30 0 0 < 2147483647) (hI : Inv S) : Met l yX5_event wsX5_event ({ frames := 0, cells := 0, slots := 0, locals := 0 }) (va_Pc [.ref (ad 32 0), .int (zI k), .int (zI q)] (gRU D cI cJ A ad S)) (gO (some (.int (zI (reventV (su S 31 0 0 0) k q)))) (gRU D cI cJ A ad ((su S 31 0 0 0))) A) 0 0 A := by
  refine Met.ofW (cc := cX5_event) (maxL := 3) (ret := (some .int)) (by decide) rfl ?_
  intro p e s m0 args below meth c s₁ B hml hv
  obtain ⟨rfl, hG, hK⟩ := hv
  have hx := B.exec
  have hb := B.bytes
  have hr := B.returns
  have hts := atoms_spec (ws := wsX5_event) B.pre
  have hown : s.vm.findClass RX5 = some m0.cls := findClass_of_methodNamed B.named
  have hlocks := B.notSynchronized
  have hin : ∀ w ∈ wsX50, w ∈ wsX5_event := by decide +kernel
  have hS : va_S A s.heap s.heap [] := va_S.rf
  have hl := lv_entry ([.ref (ad 32 0), .int (zI k), .int (zI q)]) (n := 3) (Nat.le_of_ble_eq_true rfl)
  rw [lg_entry_eq]
  generalize (lg_sl ([.ref (ad 32 0), .int (zI k), .int (zI q)]) ++ List.replicate (3 - (lg_sl ([.ref (ad 32 0), .int (zI k), .int (zI q)])).length) Slot.unset).toArray = ls at hl ⊢
  replace hl : lv_has ls 3 [(0, .ref (ad 32 0)), (1, .int (zI k)), (2, .int (zI q))] := hl
  refine lv_aload_n hx hb dX5_event_0 rfl (lv_at hl 0 rfl) ?_
  refine lv_iconst (v := zI 0) hx hb dX5_event_1 rfl ?_
  refine r_putI hx hb hts hin hown hK hG hS 31 (by decide) rfl (hts (.fieldLink RX5 87 "LineEventsModel" "thrown" "I") (by decide +kernel)) rfl rfl (z := 0) dX5_event_2 (fun H locs hG hS => ?_)
  generalize hS0 : su S 31 0 0 0 = S0 at hG ⊢
  have hI0 : Inv S0 := by rw [← hS0]; exact hI
  obtain ⟨hI5, hI25, hI20, hIM, hIL, hIR⟩ := id hI0
  have he0 : 0 ≤ S0 30 0 0 ∧ S0 30 0 0 < 2147483647 := by rw [← hS0]; exact he
  refine lv_iload_n hx hb dX5_event_5 rfl (lv_at hl 1 rfl) ?_
  refine z_if_lt (tgt := 24) hx hb dX5_event_6 (by decide) ⟨by omega, by omega⟩ (fun c_1 => ?_) (fun c_1 => ?_)
  · refine lv_iconst (v := zI (-1)) hx hb dX5_event_24 rfl ?_
    have v9 : (-1) = reventV S0 k q := by unfold reventV; first | (exfalso; omega) | rw [if_neg (by omega)] | rw [if_pos (by omega), if_pos (by omega)] | rw [if_pos (by omega), if_neg (by omega), if_pos (by omega)] | rw [if_pos (by omega), if_neg (by omega), if_neg (by omega), if_pos (by omega)] | rw [if_pos (by omega), if_neg (by omega), if_neg (by omega), if_neg (by omega)]
    refine W.eq (congrArg (fun z => F0 m0 25 ls [.int (zI z)]) v9) ?_
    exact W.iret hx hb hr (fun t ht hW => ⟨rfl, ⟨by rw [ht]; exact hG, va_K.moved hW.alike hK⟩, hS.F ht⟩) hS.2.2 dX5_event_25
  · refine lv_iload_n hx hb dX5_event_9 rfl (lv_at hl 1 rfl) ?_
    refine lv_aload_n hx hb dX5_event_10 rfl (lv_at hl 0 rfl) ?_
    refine r_getI hx hb hts hin hown hK hG 30 (by decide) rfl (hts (.fieldLink RX5 114 "LineEventsModel" "events" "I") (by decide +kernel)) (z := S0 30 0 0) (rfl) dX5_event_11 ?_
    refine z_icmp_ge (tgt := 24) hx hb dX5_event_14 (by decide) ⟨by omega, by omega⟩ ⟨by omega, by omega⟩ (fun c_2 => ?_) (fun c_2 => ?_)
    · refine lv_iconst (v := zI (-1)) hx hb dX5_event_24 rfl ?_
      have v9 : (-1) = reventV S0 k q := by unfold reventV; first | (exfalso; omega) | rw [if_neg (by omega)] | rw [if_pos (by omega), if_pos (by omega)] | rw [if_pos (by omega), if_neg (by omega), if_pos (by omega)] | rw [if_pos (by omega), if_neg (by omega), if_neg (by omega), if_pos (by omega)] | rw [if_pos (by omega), if_neg (by omega), if_neg (by omega), if_neg (by omega)]
      refine W.eq (congrArg (fun z => F0 m0 25 ls [.int (zI z)]) v9) ?_
      exact W.iret hx hb hr (fun t ht hW => ⟨rfl, ⟨by rw [ht]; exact hG, va_K.moved hW.alike hK⟩, hS.F ht⟩) hS.2.2 dX5_event_25
    · refine lv_iload_n hx hb dX5_event_17 rfl (lv_at hl 1 rfl) ?_
      refine lv_sipush (v := zI 1000) hx hb dX5_event_18 (by decide) ?_
      refine z_icmp_lt (tgt := 26) hx hb dX5_event_21 (by decide) ⟨by omega, by omega⟩ ⟨by decide, by decide⟩ (fun c_3 => ?_) (fun c_3 => ?_)
      · refine lv_iload_n hx hb dX5_event_26 rfl (lv_at hl 2 rfl) ?_
        refine z_if_ne (tgt := 39) hx hb dX5_event_27 (by decide) ⟨by omega, by omega⟩ (fun c_4 => ?_) (fun c_4 => ?_)
        · refine lv_iload_n hx hb dX5_event_39 rfl (lv_at hl 2 rfl) ?_
          refine lv_iconst (v := zI 1) hx hb dX5_event_40 rfl ?_
          refine z_icmp_ne (tgt := 53) hx hb dX5_event_41 (by decide) ⟨by omega, by omega⟩ ⟨by decide, by decide⟩ (fun c_5 => ?_) (fun c_5 => ?_)
          · refine lv_iload_n hx hb dX5_event_53 rfl (lv_at hl 2 rfl) ?_
            refine lv_iconst (v := zI 2) hx hb dX5_event_54 rfl ?_
            refine z_icmp_ne (tgt := 67) hx hb dX5_event_55 (by decide) ⟨by omega, by omega⟩ ⟨by decide, by decide⟩ (fun c_6 => ?_) (fun c_6 => ?_)
            · refine lv_iconst (v := zI (-1)) hx hb dX5_event_67 rfl ?_
              have v9 : (-1) = reventV S0 k q := by unfold reventV; first | (exfalso; omega) | rw [if_neg (by omega)] | rw [if_pos (by omega), if_pos (by omega)] | rw [if_pos (by omega), if_neg (by omega), if_pos (by omega)] | rw [if_pos (by omega), if_neg (by omega), if_neg (by omega), if_pos (by omega)] | rw [if_pos (by omega), if_neg (by omega), if_neg (by omega), if_neg (by omega)]
              refine W.eq (congrArg (fun z => F0 m0 68 ls [.int (zI z)]) v9) ?_
              exact W.iret hx hb hr (fun t ht hW => ⟨rfl, ⟨by rw [ht]; exact hG, va_K.moved hW.alike hK⟩, hS.F ht⟩) hS.2.2 dX5_event_68
            · refine lv_aload_n hx hb dX5_event_58 rfl (lv_at hl 0 rfl) ?_
              refine r_getA hx hb hts hin hown hK hG 29 (by decide) (by decide) (hts (.fieldLink RX5 80 "LineEventsModel" "eventKind" "[I") (by decide +kernel)) dX5_event_59 ?_
              refine lv_iload_n hx hb dX5_event_62 rfl (lv_at hl 1 rfl) ?_
              refine r_iald hx hb hK hG 29 (by decide) rfl (k).toNat 0 (by simp only [show rW 29 = 1 from rfl]; omega) (by simp only [show rN 29 = 1000 from rfl]; omega) (by simp only [show rW 29 = 1 from rfl]; omega) (w := S0 29 (k).toNat 0) (rfl) dX5_event_63 ?_
              refine lv_goto (tgt := 68) hx hb dX5_event_64 (by decide) ?_
              have v9 : S0 29 (k).toNat 0 = reventV S0 k q := by unfold reventV; first | (exfalso; omega) | rw [if_neg (by omega)] | rw [if_pos (by omega), if_pos (by omega)] | rw [if_pos (by omega), if_neg (by omega), if_pos (by omega)] | rw [if_pos (by omega), if_neg (by omega), if_neg (by omega), if_pos (by omega)] | rw [if_pos (by omega), if_neg (by omega), if_neg (by omega), if_neg (by omega)]
              refine W.eq (congrArg (fun z => F0 m0 68 ls [.int (zI z)]) v9) ?_
              exact W.iret hx hb hr (fun t ht hW => ⟨rfl, ⟨by rw [ht]; exact hG, va_K.moved hW.alike hK⟩, hS.F ht⟩) hS.2.2 dX5_event_68
          · refine lv_aload_n hx hb dX5_event_44 rfl (lv_at hl 0 rfl) ?_
            refine r_getA hx hb hts hin hown hK hG 28 (by decide) (by decide) (hts (.fieldLink RX5 77 "LineEventsModel" "eventMachine" "[I") (by decide +kernel)) dX5_event_45 ?_
            refine lv_iload_n hx hb dX5_event_48 rfl (lv_at hl 1 rfl) ?_
            refine r_iald hx hb hK hG 28 (by decide) rfl (k).toNat 0 (by simp only [show rW 28 = 1 from rfl]; omega) (by simp only [show rN 28 = 1000 from rfl]; omega) (by simp only [show rW 28 = 1 from rfl]; omega) (w := S0 28 (k).toNat 0) (rfl) dX5_event_49 ?_
            refine lv_goto (tgt := 68) hx hb dX5_event_50 (by decide) ?_
            have v9 : S0 28 (k).toNat 0 = reventV S0 k q := by unfold reventV; first | (exfalso; omega) | rw [if_neg (by omega)] | rw [if_pos (by omega), if_pos (by omega)] | rw [if_pos (by omega), if_neg (by omega), if_pos (by omega)] | rw [if_pos (by omega), if_neg (by omega), if_neg (by omega), if_pos (by omega)] | rw [if_pos (by omega), if_neg (by omega), if_neg (by omega), if_neg (by omega)]
            refine W.eq (congrArg (fun z => F0 m0 68 ls [.int (zI z)]) v9) ?_
            exact W.iret hx hb hr (fun t ht hW => ⟨rfl, ⟨by rw [ht]; exact hG, va_K.moved hW.alike hK⟩, hS.F ht⟩) hS.2.2 dX5_event_68
        · refine lv_aload_n hx hb dX5_event_30 rfl (lv_at hl 0 rfl) ?_
          refine r_getA hx hb hts hin hown hK hG 27 (by decide) (by decide) (hts (.fieldLink RX5 74 "LineEventsModel" "eventAt" "[I") (by decide +kernel)) dX5_event_31 ?_
          refine lv_iload_n hx hb dX5_event_34 rfl (lv_at hl 1 rfl) ?_
          refine r_iald hx hb hK hG 27 (by decide) rfl (k).toNat 0 (by simp only [show rW 27 = 1 from rfl]; omega) (by simp only [show rN 27 = 1000 from rfl]; omega) (by simp only [show rW 27 = 1 from rfl]; omega) (w := S0 27 (k).toNat 0) (rfl) dX5_event_35 ?_
          refine lv_goto (tgt := 68) hx hb dX5_event_36 (by decide) ?_
          have v9 : S0 27 (k).toNat 0 = reventV S0 k q := by unfold reventV; first | (exfalso; omega) | rw [if_neg (by omega)] | rw [if_pos (by omega), if_pos (by omega)] | rw [if_pos (by omega), if_neg (by omega), if_pos (by omega)] | rw [if_pos (by omega), if_neg (by omega), if_neg (by omega), if_pos (by omega)] | rw [if_pos (by omega), if_neg (by omega), if_neg (by omega), if_neg (by omega)]
          refine W.eq (congrArg (fun z => F0 m0 68 ls [.int (zI z)]) v9) ?_
          exact W.iret hx hb hr (fun t ht hW => ⟨rfl, ⟨by rw [ht]; exact hG, va_K.moved hW.alike hK⟩, hS.F ht⟩) hS.2.2 dX5_event_68
      · refine lv_iconst (v := zI (-1)) hx hb dX5_event_24 rfl ?_
        have v9 : (-1) = reventV S0 k q := by unfold reventV; first | (exfalso; omega) | rw [if_neg (by omega)] | rw [if_pos (by omega), if_pos (by omega)] | rw [if_pos (by omega), if_neg (by omega), if_pos (by omega)] | rw [if_pos (by omega), if_neg (by omega), if_neg (by omega), if_pos (by omega)] | rw [if_pos (by omega), if_neg (by omega), if_neg (by omega), if_neg (by omega)]
        refine W.eq (congrArg (fun z => F0 m0 25 ls [.int (zI z)]) v9) ?_
        exact W.iret hx hb hr (fun t ht hW => ⟨rfl, ⟨by rw [ht]; exact hG, va_K.moved hW.alike hK⟩, hS.F ht⟩) hS.2.2 dX5_event_25
set_option maxHeartbeats 4000000 in
set_option maxRecDepth 100000 in
theorem m_X5_made (l : Launch) (D : va_G) (cI cJ : ClassId) (A : Nat → Prop) (ad : Nat → Nat → Nat) (S : Nat → Nat → Nat → Int)   (hI : Inv S) : Met l yX5_made wsX5_made ({ frames := 0, cells := 0, slots := 0, locals := 0 }) (va_Pc [.ref (ad 32 0)] (gRU D cI cJ A ad S)) (gO (some (.long (zL ((su S 31 0 0 0) 24 0 0)))) (gRU D cI cJ A ad ((su S 31 0 0 0))) A) 0 0 A := by
  refine Met.ofW (cc := cX5_made) (maxL := 1) (ret := (some .long)) (by decide) rfl ?_
  intro p e s m0 args below meth c s₁ B hml hv
  obtain ⟨rfl, hG, hK⟩ := hv
  have hx := B.exec
  have hb := B.bytes
  have hr := B.returns
  have hts := atoms_spec (ws := wsX5_made) B.pre
  have hown : s.vm.findClass RX5 = some m0.cls := findClass_of_methodNamed B.named
  have hlocks := B.notSynchronized
  have hin : ∀ w ∈ wsX50, w ∈ wsX5_made := by decide +kernel
  have hS : va_S A s.heap s.heap [] := va_S.rf
  have hl := lv_entry ([.ref (ad 32 0)]) (n := 1) (Nat.le_of_ble_eq_true rfl)
  rw [lg_entry_eq]
  generalize (lg_sl ([.ref (ad 32 0)]) ++ List.replicate (1 - (lg_sl ([.ref (ad 32 0)])).length) Slot.unset).toArray = ls at hl ⊢
  replace hl : lv_has ls 1 [(0, .ref (ad 32 0))] := hl
  refine lv_aload_n hx hb dX5_made_0 rfl (lv_at hl 0 rfl) ?_
  refine lv_iconst (v := zI 0) hx hb dX5_made_1 rfl ?_
  refine r_putI hx hb hts hin hown hK hG hS 31 (by decide) rfl (hts (.fieldLink RX5 87 "LineEventsModel" "thrown" "I") (by decide +kernel)) rfl rfl (z := 0) dX5_made_2 (fun H locs hG hS => ?_)
  generalize hS0 : su S 31 0 0 0 = S0 at hG ⊢
  have hI0 : Inv S0 := by rw [← hS0]; exact hI
  obtain ⟨hI5, hI25, hI20, hIM, hIL, hIR⟩ := id hI0
  refine lv_aload_n hx hb dX5_made_5 rfl (lv_at hl 0 rfl) ?_
  refine r_getJ hx hb hts hin hown hK hG 24 (by decide) rfl (hts (.fieldLink RX5 129 "LineEventsModel" "made" "J") (by decide +kernel)) (z := S0 24 0 0) (rfl) dX5_made_6 ?_
  have v9 : S0 24 0 0 = S0 24 0 0 := by rfl
  refine W.eq (congrArg (fun z => F0 m0 9 ls [.long (zL z)]) v9) ?_
  exact W.lret hx hb hr (fun t ht hW => ⟨rfl, ⟨by rw [ht]; exact hG, va_K.moved hW.alike hK⟩, hS.F ht⟩) hS.2.2 dX5_made_9
set_option maxHeartbeats 4000000 in
set_option maxRecDepth 100000 in
theorem m_X5_lost (l : Launch) (D : va_G) (cI cJ : ClassId) (A : Nat → Prop) (ad : Nat → Nat → Nat) (S : Nat → Nat → Nat → Int) (z cs : Int) (hz0 : zB z) (hc0 : zB cs) (hI : Inv S) : Met l yX5_lost wsX5_lost ({ frames := 1, cells := 0, slots := 0, locals := 21 }) (va_Pc [.ref (ad 32 0), .int (zI z), .int (zI cs)] (gRU D cI cJ A ad S)) (gO (some (.long (rlostV S z cs))) (gRU D cI cJ A ad (rtM S z)) A) 0 0 A := by
  refine Met.ofW (cc := cX5_lost) (maxL := 3) (ret := (some .long)) (by decide) rfl ?_
  intro p e s m0 args below meth c s₁ B hml hv
  obtain ⟨rfl, hG, hK⟩ := hv
  have hx := B.exec
  have hb := B.bytes
  have hr := B.returns
  have hts := atoms_spec (ws := wsX5_lost) B.pre
  have hown : s.vm.findClass RX5 = some m0.cls := findClass_of_methodNamed B.named
  have hlocks := B.notSynchronized
  have hin : ∀ w ∈ wsX50, w ∈ wsX5_lost := by decide +kernel
  have hS : va_S A s.heap s.heap [] := va_S.rf
  have hl := lv_entry ([.ref (ad 32 0), .int (zI z), .int (zI cs)]) (n := 3) (Nat.le_of_ble_eq_true rfl)
  rw [lg_entry_eq]
  generalize (lg_sl ([.ref (ad 32 0), .int (zI z), .int (zI cs)]) ++ List.replicate (3 - (lg_sl ([.ref (ad 32 0), .int (zI z), .int (zI cs)])).length) Slot.unset).toArray = ls at hl ⊢
  replace hl : lv_has ls 3 [(0, .ref (ad 32 0)), (1, .int (zI z)), (2, .int (zI cs))] := hl
  obtain ⟨hI5, hI25, hI20, hIM, hIL, hIR⟩ := id hI
  refine lv_aload_n hx hb dX5_lost_0 rfl (lv_at hl 0 rfl) ?_
  refine lv_aload_n hx hb dX5_lost_1 rfl (lv_at hl 0 rfl) ?_
  refine lv_iload_n hx hb dX5_lost_2 rfl (lv_at hl 1 rfl) ?_
  refine r_callV (As := [.int (zI z)]) (rest := [.ref (ad 32 0)]) ⟨hx, hb, hml, hown, hts⟩ (m_X5_isMachine l D cI cJ A ad S z hz0 hI5) (cwV 1 hts gX5_lost_X5_isMachine rfl rfl rfl (by decide +kernel) ⟨Nat.le_of_ble_eq_true rfl, Nat.le_of_ble_eq_true rfl⟩) hK hG hS rfl hl.1 rfl (Nat.le_of_ble_eq_true rfl) dX5_lost_3 ⟨Nat.zero_le _, Nat.zero_le _⟩ (fun H locs hG hS => ?_)
  refine z_ifb_eq (tgt := 13) hx hb dX5_lost_6 (by decide) (fun c_1 => ?_) (fun c_1 => ?_)
  · refine lv_iconst (v := zI 1) hx hb dX5_lost_13 rfl ?_
    refine r_putI hx hb hts hin hown hK hG hS 31 (by decide) rfl (hts (.fieldLink RX5 87 "LineEventsModel" "thrown" "I") (by decide +kernel)) rfl rfl (z := 1) dX5_lost_14 (fun H locs hG hS => ?_)
    refine lv_aload_n hx hb dX5_lost_17 rfl (lv_at hl 0 rfl) ?_
    refine r_getI hx hb hts hin hown hK hG 31 (by decide) rfl (hts (.fieldLink RX5 87 "LineEventsModel" "thrown" "I") (by decide +kernel)) (z := 1) (by simp [su]) dX5_lost_18 ?_
    refine lv_iconst (v := zI 1) hx hb dX5_lost_21 rfl ?_
    refine z_icmp_eq (tgt := 35) hx hb dX5_lost_22 (by decide) ⟨by decide, by decide⟩ ⟨by decide, by decide⟩ (fun _ => ?_) (fun q => absurd q (by decide))
    refine z_ldc2 (z := (-1)) hx hb hown (hts (.constantLong RX5 159 (-1)) (by decide +kernel)) (by decide) dX5_lost_35 ?_
    refine lv_goto (tgt := 60) hx hb dX5_lost_38 (by decide) ?_
    have e9 : su S 31 0 0 (1) = rtM S z := by unfold rtM; first | (exfalso; omega) | rw [if_neg (by omega)] | rw [if_pos (by omega)]
    rw [e9] at hG
    have v9 : zL (-1) = rlostV S z cs := by unfold rlostV; first | (exfalso; omega) | rw [if_neg (by omega)] | rw [if_pos (by omega)]
    refine W.eq (congrArg (fun z => F0 m0 60 ls [.long z]) v9) ?_
    exact W.lret hx hb hr (fun t ht hW => ⟨rfl, ⟨by rw [ht]; exact hG, va_K.moved hW.alike hK⟩, hS.F ht⟩) hS.2.2 dX5_lost_60
  · obtain ⟨hL0, hL1, hL2, hL3, hL4⟩ := id (hIL z.toNat (by omega))
    refine lv_iconst (v := zI 0) hx hb dX5_lost_9 rfl ?_
    refine lv_goto (tgt := 14) hx hb dX5_lost_10 (by decide) ?_
    refine r_putI hx hb hts hin hown hK hG hS 31 (by decide) rfl (hts (.fieldLink RX5 87 "LineEventsModel" "thrown" "I") (by decide +kernel)) rfl rfl (z := 0) dX5_lost_14 (fun H locs hG hS => ?_)
    refine lv_aload_n hx hb dX5_lost_17 rfl (lv_at hl 0 rfl) ?_
    refine r_getI hx hb hts hin hown hK hG 31 (by decide) rfl (hts (.fieldLink RX5 87 "LineEventsModel" "thrown" "I") (by decide +kernel)) (z := 0) (by simp [su]) dX5_lost_18 ?_
    refine lv_iconst (v := zI 1) hx hb dX5_lost_21 rfl ?_
    refine z_icmp_eq (tgt := 35) hx hb dX5_lost_22 (by decide) ⟨by decide, by decide⟩ ⟨by decide, by decide⟩ (fun q => absurd q (by decide)) (fun _ => ?_)
    refine lv_iload_n hx hb dX5_lost_25 rfl (lv_at hl 2 rfl) ?_
    refine z_if_lt (tgt := 35) hx hb dX5_lost_26 (by decide) ⟨by omega, by omega⟩ (fun c_4 => ?_) (fun c_4 => ?_)
    · refine z_ldc2 (z := (-1)) hx hb hown (hts (.constantLong RX5 159 (-1)) (by decide +kernel)) (by decide) dX5_lost_35 ?_
      refine lv_goto (tgt := 60) hx hb dX5_lost_38 (by decide) ?_
      have e9 : su S 31 0 0 (0) = rtM S z := by unfold rtM; first | (exfalso; omega) | rw [if_neg (by omega)] | rw [if_pos (by omega)]
      rw [e9] at hG
      have v9 : zL (-1) = rlostV S z cs := by unfold rlostV; first | (exfalso; omega) | rw [if_neg (by omega)] | rw [if_pos (by omega)]
      refine W.eq (congrArg (fun z => F0 m0 60 ls [.long z]) v9) ?_
      exact W.lret hx hb hr (fun t ht hW => ⟨rfl, ⟨by rw [ht]; exact hG, va_K.moved hW.alike hK⟩, hS.F ht⟩) hS.2.2 dX5_lost_60
    · refine lv_iload_n hx hb dX5_lost_29 rfl (lv_at hl 2 rfl) ?_
      refine lv_bipush (v := zI 12) hx hb dX5_lost_30 (by decide) ?_
      refine z_icmp_lt (tgt := 41) hx hb dX5_lost_32 (by decide) ⟨by omega, by omega⟩ ⟨by decide, by decide⟩ (fun c_5 => ?_) (fun c_5 => ?_)
      · refine lv_aload_n hx hb dX5_lost_41 rfl (lv_at hl 0 rfl) ?_
        refine r_getA hx hb hts hin hown hK hG 21 (by decide) (by decide) (hts (.fieldLink RX5 68 "LineEventsModel" "times" "[J") (by decide +kernel)) dX5_lost_42 ?_
        refine lv_iload_n hx hb dX5_lost_45 rfl (lv_at hl 1 rfl) ?_
        refine lv_bipush (v := zI 12) hx hb dX5_lost_46 (by decide) ?_
        refine z_imul hx hb dX5_lost_48 ?_
        refine lv_iload_n hx hb dX5_lost_49 rfl (lv_at hl 2 rfl) ?_
        refine z_iadd hx hb dX5_lost_50 ?_
        refine r_lald hx hb hK hG 21 (by decide) rfl (z).toNat (cs).toNat (by simp only [show rW 21 = 12 from rfl]; omega) (by simp only [show rN 21 = 12 from rfl]; omega) (by simp only [show rW 21 = 12 from rfl]; omega) (w := S 21 (z).toNat (cs).toNat) (by simp [su]) dX5_lost_51 ?_
        refine lv_aload_n hx hb dX5_lost_52 rfl (lv_at hl 0 rfl) ?_
        refine r_getA hx hb hts hin hown hK hG 0 (by decide) (by decide) (hts (.fieldLink RX5 9 "LineEventsModel" "takes" "[I") (by decide +kernel)) dX5_lost_53 ?_
        refine lv_iload_n hx hb dX5_lost_56 rfl (lv_at hl 1 rfl) ?_
        refine r_iald hx hb hK hG 0 (by decide) rfl (z).toNat 0 (by simp only [show rW 0 = 1 from rfl]; omega) (by simp only [show rN 0 = 12 from rfl]; omega) (by simp only [show rW 0 = 1 from rfl]; omega) (w := S 0 (z).toNat 0) (by simp [su]) dX5_lost_57 ?_
        refine z_i2l hx hb dX5_lost_58 ⟨by omega, by omega⟩ ?_
        refine z_ldiv hx hb dX5_lost_59 ⟨by omega, by omega⟩ ?_
        have e9 : su S 31 0 0 (0) = rtM S z := by unfold rtM; first | (exfalso; omega) | rw [if_neg (by omega)] | rw [if_pos (by omega)]
        rw [e9] at hG
        have v9 : zL (S 21 (z).toNat (cs).toNat) / zL (S 0 (z).toNat 0) = rlostV S z cs := by unfold rlostV; first | (exfalso; omega) | rw [if_neg (by omega)] | rw [if_pos (by omega)]
        refine W.eq (congrArg (fun z => F0 m0 60 ls [.long z]) v9) ?_
        exact W.lret hx hb hr (fun t ht hW => ⟨rfl, ⟨by rw [ht]; exact hG, va_K.moved hW.alike hK⟩, hS.F ht⟩) hS.2.2 dX5_lost_60
      · refine z_ldc2 (z := (-1)) hx hb hown (hts (.constantLong RX5 159 (-1)) (by decide +kernel)) (by decide) dX5_lost_35 ?_
        refine lv_goto (tgt := 60) hx hb dX5_lost_38 (by decide) ?_
        have e9 : su S 31 0 0 (0) = rtM S z := by unfold rtM; first | (exfalso; omega) | rw [if_neg (by omega)] | rw [if_pos (by omega)]
        rw [e9] at hG
        have v9 : zL (-1) = rlostV S z cs := by unfold rlostV; first | (exfalso; omega) | rw [if_neg (by omega)] | rw [if_pos (by omega)]
        refine W.eq (congrArg (fun z => F0 m0 60 ls [.long z]) v9) ?_
        exact W.lret hx hb hr (fun t ht hW => ⟨rfl, ⟨by rw [ht]; exact hG, va_K.moved hW.alike hK⟩, hS.F ht⟩) hS.2.2 dX5_lost_60
set_option maxHeartbeats 4000000 in
set_option maxRecDepth 100000 in
theorem m_X5_rejected (l : Launch) (D : va_G) (cI cJ : ClassId) (A : Nat → Prop) (ad : Nat → Nat → Nat) (S : Nat → Nat → Nat → Int) (z : Int) (hz0 : zB z) (hI : Inv S) : Met l yX5_rejected wsX5_rejected ({ frames := 1, cells := 0, slots := 0, locals := 21 }) (va_Pc [.ref (ad 32 0), .int (zI z)] (gRU D cI cJ A ad S)) (gO (some (.long (zL (rrejV S z)))) (gRU D cI cJ A ad (rtM S z)) A) 0 0 A := by
  refine Met.ofW (cc := cX5_rejected) (maxL := 2) (ret := (some .long)) (by decide) rfl ?_
  intro p e s m0 args below meth c s₁ B hml hv
  obtain ⟨rfl, hG, hK⟩ := hv
  have hx := B.exec
  have hb := B.bytes
  have hr := B.returns
  have hts := atoms_spec (ws := wsX5_rejected) B.pre
  have hown : s.vm.findClass RX5 = some m0.cls := findClass_of_methodNamed B.named
  have hlocks := B.notSynchronized
  have hin : ∀ w ∈ wsX50, w ∈ wsX5_rejected := by decide +kernel
  have hS : va_S A s.heap s.heap [] := va_S.rf
  have hl := lv_entry ([.ref (ad 32 0), .int (zI z)]) (n := 2) (Nat.le_of_ble_eq_true rfl)
  rw [lg_entry_eq]
  generalize (lg_sl ([.ref (ad 32 0), .int (zI z)]) ++ List.replicate (2 - (lg_sl ([.ref (ad 32 0), .int (zI z)])).length) Slot.unset).toArray = ls at hl ⊢
  replace hl : lv_has ls 2 [(0, .ref (ad 32 0)), (1, .int (zI z))] := hl
  obtain ⟨hI5, hI25, hI20, hIM, hIL, hIR⟩ := id hI
  refine lv_aload_n hx hb dX5_rejected_0 rfl (lv_at hl 0 rfl) ?_
  refine lv_aload_n hx hb dX5_rejected_1 rfl (lv_at hl 0 rfl) ?_
  refine lv_iload_n hx hb dX5_rejected_2 rfl (lv_at hl 1 rfl) ?_
  refine r_callV (As := [.int (zI z)]) (rest := [.ref (ad 32 0)]) ⟨hx, hb, hml, hown, hts⟩ (m_X5_isMachine l D cI cJ A ad S z hz0 hI5) (cwV 1 hts gX5_rejected_X5_isMachine rfl rfl rfl (by decide +kernel) ⟨Nat.le_of_ble_eq_true rfl, Nat.le_of_ble_eq_true rfl⟩) hK hG hS rfl hl.1 rfl (Nat.le_of_ble_eq_true rfl) dX5_rejected_3 ⟨Nat.zero_le _, Nat.zero_le _⟩ (fun H locs hG hS => ?_)
  refine z_ifb_eq (tgt := 13) hx hb dX5_rejected_6 (by decide) (fun c_1 => ?_) (fun c_1 => ?_)
  · refine lv_iconst (v := zI 1) hx hb dX5_rejected_13 rfl ?_
    refine r_putI hx hb hts hin hown hK hG hS 31 (by decide) rfl (hts (.fieldLink RX5 87 "LineEventsModel" "thrown" "I") (by decide +kernel)) rfl rfl (z := 1) dX5_rejected_14 (fun H locs hG hS => ?_)
    refine lv_aload_n hx hb dX5_rejected_17 rfl (lv_at hl 0 rfl) ?_
    refine r_getI hx hb hts hin hown hK hG 31 (by decide) rfl (hts (.fieldLink RX5 87 "LineEventsModel" "thrown" "I") (by decide +kernel)) (z := 1) (by simp [su]) dX5_rejected_18 ?_
    refine lv_iconst (v := zI 1) hx hb dX5_rejected_21 rfl ?_
    refine z_icmp_ne (tgt := 31) hx hb dX5_rejected_22 (by decide) ⟨by decide, by decide⟩ ⟨by decide, by decide⟩ (fun q => absurd q (by decide)) (fun _ => ?_)
    refine z_ldc2 (z := (-1)) hx hb hown (hts (.constantLong RX5 159 (-1)) (by decide +kernel)) (by decide) dX5_rejected_25 ?_
    refine lv_goto (tgt := 37) hx hb dX5_rejected_28 (by decide) ?_
    have e9 : su S 31 0 0 (1) = rtM S z := by unfold rtM; first | (exfalso; omega) | rw [if_neg (by omega)] | rw [if_pos (by omega)]
    rw [e9] at hG
    have v9 : (-1) = rrejV S z := by unfold rrejV; first | (exfalso; omega) | rw [if_neg (by omega)] | rw [if_pos (by omega)]
    refine W.eq (congrArg (fun z => F0 m0 37 ls [.long (zL z)]) v9) ?_
    exact W.lret hx hb hr (fun t ht hW => ⟨rfl, ⟨by rw [ht]; exact hG, va_K.moved hW.alike hK⟩, hS.F ht⟩) hS.2.2 dX5_rejected_37
  · refine lv_iconst (v := zI 0) hx hb dX5_rejected_9 rfl ?_
    refine lv_goto (tgt := 14) hx hb dX5_rejected_10 (by decide) ?_
    refine r_putI hx hb hts hin hown hK hG hS 31 (by decide) rfl (hts (.fieldLink RX5 87 "LineEventsModel" "thrown" "I") (by decide +kernel)) rfl rfl (z := 0) dX5_rejected_14 (fun H locs hG hS => ?_)
    refine lv_aload_n hx hb dX5_rejected_17 rfl (lv_at hl 0 rfl) ?_
    refine r_getI hx hb hts hin hown hK hG 31 (by decide) rfl (hts (.fieldLink RX5 87 "LineEventsModel" "thrown" "I") (by decide +kernel)) (z := 0) (by simp [su]) dX5_rejected_18 ?_
    refine lv_iconst (v := zI 1) hx hb dX5_rejected_21 rfl ?_
    refine z_icmp_ne (tgt := 31) hx hb dX5_rejected_22 (by decide) ⟨by decide, by decide⟩ ⟨by decide, by decide⟩ (fun _ => ?_) (fun q => absurd q (by decide))
    refine lv_aload_n hx hb dX5_rejected_31 rfl (lv_at hl 0 rfl) ?_
    refine r_getA hx hb hts hin hown hK hG 22 (by decide) (by decide) (hts (.fieldLink RX5 71 "LineEventsModel" "rejects" "[J") (by decide +kernel)) dX5_rejected_32 ?_
    refine lv_iload_n hx hb dX5_rejected_35 rfl (lv_at hl 1 rfl) ?_
    refine r_lald hx hb hK hG 22 (by decide) rfl (z).toNat 0 (by simp only [show rW 22 = 1 from rfl]; omega) (by simp only [show rN 22 = 12 from rfl]; omega) (by simp only [show rW 22 = 1 from rfl]; omega) (w := S 22 (z).toNat 0) (by simp [su]) dX5_rejected_36 ?_
    have e9 : su S 31 0 0 (0) = rtM S z := by unfold rtM; first | (exfalso; omega) | rw [if_neg (by omega)] | rw [if_pos (by omega)]
    rw [e9] at hG
    have v9 : S 22 (z).toNat 0 = rrejV S z := by unfold rrejV; first | (exfalso; omega) | rw [if_neg (by omega)] | rw [if_pos (by omega)]
    refine W.eq (congrArg (fun z => F0 m0 37 ls [.long (zL z)]) v9) ?_
    exact W.lret hx hb hr (fun t ht hW => ⟨rfl, ⟨by rw [ht]; exact hG, va_K.moved hW.alike hK⟩, hS.F ht⟩) hS.2.2 dX5_rejected_37
set_option maxHeartbeats 4000000 in
set_option maxRecDepth 100000 in
theorem m_X5_time (l : Launch) (D : va_G) (cI cJ : ClassId) (A : Nat → Prop) (ad : Nat → Nat → Nat) (S : Nat → Nat → Nat → Int) (z cs : Int) (hz0 : zB z) (hc0 : zB cs) (hI : Inv S) : Met l yX5_time wsX5_time ({ frames := 1, cells := 0, slots := 0, locals := 21 }) (va_Pc [.ref (ad 32 0), .int (zI z), .int (zI cs)] (gRU D cI cJ A ad S)) (gO (some (.long (zL (rtimeV S z cs)))) (gRU D cI cJ A ad (rtM S z)) A) 0 0 A := by
  refine Met.ofW (cc := cX5_time) (maxL := 3) (ret := (some .long)) (by decide) rfl ?_
  intro p e s m0 args below meth c s₁ B hml hv
  obtain ⟨rfl, hG, hK⟩ := hv
  have hx := B.exec
  have hb := B.bytes
  have hr := B.returns
  have hts := atoms_spec (ws := wsX5_time) B.pre
  have hown : s.vm.findClass RX5 = some m0.cls := findClass_of_methodNamed B.named
  have hlocks := B.notSynchronized
  have hin : ∀ w ∈ wsX50, w ∈ wsX5_time := by decide +kernel
  have hS : va_S A s.heap s.heap [] := va_S.rf
  have hl := lv_entry ([.ref (ad 32 0), .int (zI z), .int (zI cs)]) (n := 3) (Nat.le_of_ble_eq_true rfl)
  rw [lg_entry_eq]
  generalize (lg_sl ([.ref (ad 32 0), .int (zI z), .int (zI cs)]) ++ List.replicate (3 - (lg_sl ([.ref (ad 32 0), .int (zI z), .int (zI cs)])).length) Slot.unset).toArray = ls at hl ⊢
  replace hl : lv_has ls 3 [(0, .ref (ad 32 0)), (1, .int (zI z)), (2, .int (zI cs))] := hl
  obtain ⟨hI5, hI25, hI20, hIM, hIL, hIR⟩ := id hI
  refine lv_aload_n hx hb dX5_time_0 rfl (lv_at hl 0 rfl) ?_
  refine lv_aload_n hx hb dX5_time_1 rfl (lv_at hl 0 rfl) ?_
  refine lv_iload_n hx hb dX5_time_2 rfl (lv_at hl 1 rfl) ?_
  refine r_callV (As := [.int (zI z)]) (rest := [.ref (ad 32 0)]) ⟨hx, hb, hml, hown, hts⟩ (m_X5_isMachine l D cI cJ A ad S z hz0 hI5) (cwV 1 hts gX5_time_X5_isMachine rfl rfl rfl (by decide +kernel) ⟨Nat.le_of_ble_eq_true rfl, Nat.le_of_ble_eq_true rfl⟩) hK hG hS rfl hl.1 rfl (Nat.le_of_ble_eq_true rfl) dX5_time_3 ⟨Nat.zero_le _, Nat.zero_le _⟩ (fun H locs hG hS => ?_)
  refine z_ifb_eq (tgt := 13) hx hb dX5_time_6 (by decide) (fun c_1 => ?_) (fun c_1 => ?_)
  · refine lv_iconst (v := zI 1) hx hb dX5_time_13 rfl ?_
    refine r_putI hx hb hts hin hown hK hG hS 31 (by decide) rfl (hts (.fieldLink RX5 87 "LineEventsModel" "thrown" "I") (by decide +kernel)) rfl rfl (z := 1) dX5_time_14 (fun H locs hG hS => ?_)
    refine lv_aload_n hx hb dX5_time_17 rfl (lv_at hl 0 rfl) ?_
    refine r_getI hx hb hts hin hown hK hG 31 (by decide) rfl (hts (.fieldLink RX5 87 "LineEventsModel" "thrown" "I") (by decide +kernel)) (z := 1) (by simp [su]) dX5_time_18 ?_
    refine lv_iconst (v := zI 1) hx hb dX5_time_21 rfl ?_
    refine z_icmp_eq (tgt := 35) hx hb dX5_time_22 (by decide) ⟨by decide, by decide⟩ ⟨by decide, by decide⟩ (fun _ => ?_) (fun q => absurd q (by decide))
    refine z_ldc2 (z := (-1)) hx hb hown (hts (.constantLong RX5 159 (-1)) (by decide +kernel)) (by decide) dX5_time_35 ?_
    refine lv_goto (tgt := 52) hx hb dX5_time_38 (by decide) ?_
    have e9 : su S 31 0 0 (1) = rtM S z := by unfold rtM; first | (exfalso; omega) | rw [if_neg (by omega)] | rw [if_pos (by omega)]
    rw [e9] at hG
    have v9 : (-1) = rtimeV S z cs := by unfold rtimeV; first | (exfalso; omega) | rw [if_neg (by omega)] | rw [if_pos (by omega)]
    refine W.eq (congrArg (fun z => F0 m0 52 ls [.long (zL z)]) v9) ?_
    exact W.lret hx hb hr (fun t ht hW => ⟨rfl, ⟨by rw [ht]; exact hG, va_K.moved hW.alike hK⟩, hS.F ht⟩) hS.2.2 dX5_time_52
  · refine lv_iconst (v := zI 0) hx hb dX5_time_9 rfl ?_
    refine lv_goto (tgt := 14) hx hb dX5_time_10 (by decide) ?_
    refine r_putI hx hb hts hin hown hK hG hS 31 (by decide) rfl (hts (.fieldLink RX5 87 "LineEventsModel" "thrown" "I") (by decide +kernel)) rfl rfl (z := 0) dX5_time_14 (fun H locs hG hS => ?_)
    refine lv_aload_n hx hb dX5_time_17 rfl (lv_at hl 0 rfl) ?_
    refine r_getI hx hb hts hin hown hK hG 31 (by decide) rfl (hts (.fieldLink RX5 87 "LineEventsModel" "thrown" "I") (by decide +kernel)) (z := 0) (by simp [su]) dX5_time_18 ?_
    refine lv_iconst (v := zI 1) hx hb dX5_time_21 rfl ?_
    refine z_icmp_eq (tgt := 35) hx hb dX5_time_22 (by decide) ⟨by decide, by decide⟩ ⟨by decide, by decide⟩ (fun q => absurd q (by decide)) (fun _ => ?_)
    refine lv_iload_n hx hb dX5_time_25 rfl (lv_at hl 2 rfl) ?_
    refine z_if_lt (tgt := 35) hx hb dX5_time_26 (by decide) ⟨by omega, by omega⟩ (fun c_4 => ?_) (fun c_4 => ?_)
    · refine z_ldc2 (z := (-1)) hx hb hown (hts (.constantLong RX5 159 (-1)) (by decide +kernel)) (by decide) dX5_time_35 ?_
      refine lv_goto (tgt := 52) hx hb dX5_time_38 (by decide) ?_
      have e9 : su S 31 0 0 (0) = rtM S z := by unfold rtM; first | (exfalso; omega) | rw [if_neg (by omega)] | rw [if_pos (by omega)]
      rw [e9] at hG
      have v9 : (-1) = rtimeV S z cs := by unfold rtimeV; first | (exfalso; omega) | rw [if_neg (by omega)] | rw [if_pos (by omega)]
      refine W.eq (congrArg (fun z => F0 m0 52 ls [.long (zL z)]) v9) ?_
      exact W.lret hx hb hr (fun t ht hW => ⟨rfl, ⟨by rw [ht]; exact hG, va_K.moved hW.alike hK⟩, hS.F ht⟩) hS.2.2 dX5_time_52
    · refine lv_iload_n hx hb dX5_time_29 rfl (lv_at hl 2 rfl) ?_
      refine lv_bipush (v := zI 12) hx hb dX5_time_30 (by decide) ?_
      refine z_icmp_lt (tgt := 41) hx hb dX5_time_32 (by decide) ⟨by omega, by omega⟩ ⟨by decide, by decide⟩ (fun c_5 => ?_) (fun c_5 => ?_)
      · refine lv_aload_n hx hb dX5_time_41 rfl (lv_at hl 0 rfl) ?_
        refine r_getA hx hb hts hin hown hK hG 21 (by decide) (by decide) (hts (.fieldLink RX5 68 "LineEventsModel" "times" "[J") (by decide +kernel)) dX5_time_42 ?_
        refine lv_iload_n hx hb dX5_time_45 rfl (lv_at hl 1 rfl) ?_
        refine lv_bipush (v := zI 12) hx hb dX5_time_46 (by decide) ?_
        refine z_imul hx hb dX5_time_48 ?_
        refine lv_iload_n hx hb dX5_time_49 rfl (lv_at hl 2 rfl) ?_
        refine z_iadd hx hb dX5_time_50 ?_
        refine r_lald hx hb hK hG 21 (by decide) rfl (z).toNat (cs).toNat (by simp only [show rW 21 = 12 from rfl]; omega) (by simp only [show rN 21 = 12 from rfl]; omega) (by simp only [show rW 21 = 12 from rfl]; omega) (w := S 21 (z).toNat (cs).toNat) (by simp [su]) dX5_time_51 ?_
        have e9 : su S 31 0 0 (0) = rtM S z := by unfold rtM; first | (exfalso; omega) | rw [if_neg (by omega)] | rw [if_pos (by omega)]
        rw [e9] at hG
        have v9 : S 21 (z).toNat (cs).toNat = rtimeV S z cs := by unfold rtimeV; first | (exfalso; omega) | rw [if_neg (by omega)] | rw [if_pos (by omega)]
        refine W.eq (congrArg (fun z => F0 m0 52 ls [.long (zL z)]) v9) ?_
        exact W.lret hx hb hr (fun t ht hW => ⟨rfl, ⟨by rw [ht]; exact hG, va_K.moved hW.alike hK⟩, hS.F ht⟩) hS.2.2 dX5_time_52
      · refine z_ldc2 (z := (-1)) hx hb hown (hts (.constantLong RX5 159 (-1)) (by decide +kernel)) (by decide) dX5_time_35 ?_
        refine lv_goto (tgt := 52) hx hb dX5_time_38 (by decide) ?_
        have e9 : su S 31 0 0 (0) = rtM S z := by unfold rtM; first | (exfalso; omega) | rw [if_neg (by omega)] | rw [if_pos (by omega)]
        rw [e9] at hG
        have v9 : (-1) = rtimeV S z cs := by unfold rtimeV; first | (exfalso; omega) | rw [if_neg (by omega)] | rw [if_pos (by omega)]
        refine W.eq (congrArg (fun z => F0 m0 52 ls [.long (zL z)]) v9) ?_
        exact W.lret hx hb hr (fun t ht hW => ⟨rfl, ⟨by rw [ht]; exact hG, va_K.moved hW.alike hK⟩, hS.F ht⟩) hS.2.2 dX5_time_52
