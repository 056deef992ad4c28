set_option maxHeartbeats 4000000 in
set_option maxRecDepth 100000 in
theorem m_X5_run (l : Launch) (D : va_G) (cI cJ : ClassId) (A : Nat → Prop) (ad : Nat → Nat → Nat) (S : Nat → Nat → Nat → Int) (t : Int) (ht : zB t) (hI : Inv S) (h7 : ∀ i, i < 12 → S 7 i 0 ≤ S 25 0 0) : Met l yX5_run wsX5_run ({ frames := 3, cells := 0, slots := 0, locals := 68 }) (va_Pc [.ref (ad 32 0), .int (zI t)] (gRU D cI cJ A ad S)) (gO (some (.int (zI (rrunV (su S 31 0 0 0) t)))) (gRU D cI cJ A ad (rrunS (su S 31 0 0 0) t)) A) 0 0 A := by
  refine Met.ofW (cc := cX5_run) (maxL := 5) (ret := (some .int)) (by decide) rfl ?_
  intro p e s m0 args below meth c s₁ B hml hv
  obtain ⟨rfl, hG, hK⟩ := hv
  have hx := B.exec
  have hb := B.bytes
  have hr := B.returns
  have hts := atoms_spec (ws := wsX5_run) B.pre
  have hown : s.vm.findClass RX5 = some m0.cls := findClass_of_methodNamed B.named
  have hlocks := B.notSynchronized
  have hin : ∀ w ∈ wsX50, w ∈ wsX5_run := by decide +kernel
  have hS : va_S A s.heap s.heap [] := va_S.rf
  have hl := lv_entry ([.ref (ad 32 0), .int (zI t)]) (n := 5) (Nat.le_of_ble_eq_true rfl)
  rw [lg_entry_eq]
  generalize (lg_sl ([.ref (ad 32 0), .int (zI t)]) ++ List.replicate (5 - (lg_sl ([.ref (ad 32 0), .int (zI t)])).length) Slot.unset).toArray = ls at hl ⊢
  replace hl : lv_has ls 5 [(0, .ref (ad 32 0)), (1, .int (zI t))] := hl
  refine lv_aload_n hx hb dX5_run_0 rfl (lv_at hl 0 rfl) ?_
  refine lv_iconst (v := zI 0) hx hb dX5_run_1 rfl ?_
  refine r_putI hx hb hts hin hown hK hG hS 31 (by decide) rfl (hts (.fieldLink RX5 87 "LineEventsModel" "thrown" "I") (by decide +kernel)) rfl rfl (z := 0) dX5_run_2 (fun H locs hG hS => ?_)
  generalize hS0 : su S 31 0 0 0 = S0 at hG ⊢
  have hI0 : Inv S0 := by rw [← hS0]; exact hI
  have h70 : ∀ i, i < 12 → S0 7 i 0 ≤ S0 25 0 0 := by rw [← hS0]; exact h7
  clear hS0
  obtain ⟨hI5, hI25, hI20, hIM, hIL, hIR⟩ := id hI0
  refine lv_iload_n hx hb dX5_run_5 rfl (lv_at hl 1 rfl) ?_
  refine z_if_lt (tgt := 30) hx hb dX5_run_6 (by decide) ⟨by omega, by omega⟩ (fun c_1 => ?_) (fun c_1 => ?_)
  · refine lv_iconst (v := zI (-1)) hx hb dX5_run_30 rfl ?_
    have e9 : S0 = rrunS S0 t := by unfold rrunS; rw [if_neg (by omega)]
    rw [e9] at hG
    have v9 : (-1) = rrunV S0 t := by unfold rrunV; rw [if_neg (by omega)]
    refine W.eq (congrArg (fun z => F0 m0 31 ls [.int (zI z)]) v9) ?_
    exact W.iret hx hb hr (fun t ht hW => ⟨rfl, ⟨by rw [ht]; exact hG, va_K.moved hW.alike hK⟩, hS.F ht⟩) hS.2.2 dX5_run_31
  · refine lv_iload_n hx hb dX5_run_9 rfl (lv_at hl 1 rfl) ?_
    refine z_ldc (z := 100000) hx hb hown (hts (.constant RX5 103 (100000)) (by decide +kernel)) (by decide) dX5_run_10 ?_
    refine z_icmp_gt (tgt := 30) hx hb dX5_run_12 (by decide) ⟨by omega, by omega⟩ ⟨by decide, by decide⟩ (fun c_2 => ?_) (fun c_2 => ?_)
    · refine lv_iconst (v := zI (-1)) hx hb dX5_run_30 rfl ?_
      have e9 : S0 = rrunS S0 t := by unfold rrunS; rw [if_neg (by omega)]
      rw [e9] at hG
      have v9 : (-1) = rrunV S0 t := by unfold rrunV; rw [if_neg (by omega)]
      refine W.eq (congrArg (fun z => F0 m0 31 ls [.int (zI z)]) v9) ?_
      exact W.iret hx hb hr (fun t ht hW => ⟨rfl, ⟨by rw [ht]; exact hG, va_K.moved hW.alike hK⟩, hS.F ht⟩) hS.2.2 dX5_run_31
    · refine lv_aload_n hx hb dX5_run_15 rfl (lv_at hl 0 rfl) ?_
      refine r_getI hx hb hts hin hown hK hG 25 (by decide) rfl (hts (.fieldLink RX5 94 "LineEventsModel" "now" "I") (by decide +kernel)) (z := S0 25 0 0) (rfl) dX5_run_16 ?_
      refine z_i2l hx hb dX5_run_19 ⟨by omega, by omega⟩ ?_
      refine lv_iload_n hx hb dX5_run_20 rfl (lv_at hl 1 rfl) ?_
      refine z_i2l hx hb dX5_run_21 ⟨by omega, by omega⟩ ?_
      refine z_ladd hx hb dX5_run_22 ?_
      refine z_ldc2 (z := 1000000000) hx hb hown (hts (.constantLong RX5 104 (1000000000)) (by decide +kernel)) (by decide) dX5_run_23 ?_
      refine W.lcmp hx hb dX5_run_26 ?_
      refine z_lif_le (tgt := 32) hx hb dX5_run_27 (by decide) ⟨by omega, by omega⟩ ⟨by decide, by decide⟩ (fun c_3 => ?_) (fun c_3 => ?_)
      · refine lv_aload_n hx hb dX5_run_32 rfl (lv_at hl 0 rfl) ?_
        refine lv_iconst (v := zI 0) hx hb dX5_run_33 rfl ?_
        refine r_putI hx hb hts hin hown hK hG hS 30 (by decide) rfl (hts (.fieldLink RX5 114 "LineEventsModel" "events" "I") (by decide +kernel)) rfl rfl (z := 0) dX5_run_34 (fun H locs hG hS => ?_)
        refine lv_iconst (v := zI 0) hx hb dX5_run_37 rfl ?_
        refine lv_istore_n (lv' := [(2, .int (zI 0)), (0, .ref (ad 32 0)), (1, .int (zI t))]) hx hb dX5_run_38 rfl hl (by decide) rfl (fun ls hl => ?_)
        generalize hT0 : su S0 30 0 0 0 = T at hG
        have hTI : Inv T := by rw [← hT0]; exact hI0
        have hT7 : ∀ i, i < 12 → T 7 i 0 ≤ T 25 0 0 := by rw [← hT0]; exact h70
        obtain ⟨R0, hR0⟩ : ∃ R, R = rrunL t.toNat (su S0 30 0 0 0) := ⟨_, rfl⟩
        have hfS : rrunS S0 t = R0 := by unfold rrunS; rw [if_pos (by omega), hR0]
        have hfV : rrunV S0 t = R0 30 0 0 := by unfold rrunV; rw [if_pos (by omega), hR0]
        rw [hfS, hfV]
        obtain ⟨k, hk0⟩ : ∃ k : Nat, k = 0 := ⟨0, rfl⟩
        have hT25 : 0 ≤ T 25 0 0 ∧ T 25 0 0 + t ≤ 1000000000 + k := by rw [← hT0, show su S0 30 0 0 0 25 0 0 = S0 25 0 0 from rfl]; omega
        have hT30 : 0 ≤ T 30 0 0 ∧ T 30 0 0 ≤ 36 * (k : Int) := by rw [← hT0, show su S0 30 0 0 0 30 0 0 = 0 from rfl]; omega
        replace hl : lv_has ls 5 [(2, .int (zI (k : Int))), (0, .ref (ad 32 0)), (1, .int (zI t))] := by subst hk0; exact hl
        obtain ⟨n, hn⟩ : ∃ n : Nat, (k : Int) + n = t := ⟨t.toNat, by omega⟩
        have hv9 : rrunL n T = R0 := by rw [hR0, ← hT0]; congr 1; omega
        clear hk0 hR0 hfS hfV hT0 hI0 h70 hI5 hI25 hI20 hIM hIL hIR h7 hI
        induction n generalizing k ls T H locs with
        | zero =>
          obtain ⟨hI5, hI25, hI20, hIM, hIL, hIR⟩ := id hTI
          refine lv_iload_n hx hb dX5_run_39 rfl (lv_at hl 0 rfl) ?_
          refine lv_iload_n hx hb dX5_run_40 rfl (lv_at hl 2 rfl) ?_
          refine z_icmp_ge (tgt := 140) hx hb dX5_run_41 (by decide) ⟨by omega, by omega⟩ ⟨by omega, by omega⟩ (fun c_4 => ?_) (fun c_4 => ?_)
          · refine lv_aload_n hx hb dX5_run_140 rfl (lv_at hl 1 rfl) ?_
            refine r_getI hx hb hts hin hown hK hG 30 (by decide) rfl (hts (.fieldLink RX5 114 "LineEventsModel" "events" "I") (by decide +kernel)) (z := T 30 0 0) (rfl) dX5_run_141 ?_
            have e9 : T = R0 := by rw [← hv9]; rfl
            rw [e9] at hG
            have v9 : T 30 0 0 = R0 30 0 0 := by rw [← hv9]; rfl
            refine W.eq (congrArg (fun z => F0 m0 144 ls [.int (zI z)]) v9) ?_
            exact W.iret hx hb hr (fun t ht hW => ⟨rfl, ⟨by rw [ht]; exact hG, va_K.moved hW.alike hK⟩, hS.F ht⟩) hS.2.2 dX5_run_144
          · exfalso; omega
        | succ n iho =>
          obtain ⟨hI5, hI25, hI20, hIM, hIL, hIR⟩ := id hTI
          refine lv_iload_n hx hb dX5_run_39 rfl (lv_at hl 0 rfl) ?_
          refine lv_iload_n hx hb dX5_run_40 rfl (lv_at hl 2 rfl) ?_
          refine z_icmp_ge (tgt := 140) hx hb dX5_run_41 (by decide) ⟨by omega, by omega⟩ ⟨by omega, by omega⟩ (fun c_5 => ?_) (fun c_5 => ?_)
          · exfalso; omega
          · refine lv_aload_n hx hb dX5_run_44 rfl (lv_at hl 1 rfl) ?_
            refine r_getI hx hb hts hin hown hK hG 5 (by decide) rfl (hts (.fieldLink RX5 91 "LineEventsModel" "machines" "I") (by decide +kernel)) (z := T 5 0 0) (rfl) dX5_run_45 ?_
            refine lv_iconst (v := zI 1) hx hb dX5_run_48 rfl ?_
            refine z_isub hx hb dX5_run_49 ?_
            refine lv_istore_n (lv' := [(3, .int (zI ((T 5 0 0) - 1))), (2, .int (zI (k : Int))), (0, .ref (ad 32 0)), (1, .int (zI t))]) hx hb dX5_run_50 rfl hl (by decide) rfl (fun ls hl => ?_)
            obtain ⟨A1, hA1⟩ : ∃ A, A = ractA (T 5 0 0).toNat T := ⟨_, rfl⟩
            obtain ⟨U, hU0⟩ : ∃ U, U = T := ⟨T, rfl⟩
            obtain ⟨i, hi⟩ : ∃ i : Nat, (i : Int) = T 5 0 0 := ⟨(T 5 0 0).toNat, by omega⟩
            have hA : ractA i U = A1 := by rw [hA1, hU0]; congr 1; omega
            have hUI : Inv U := by rw [hU0]; exact hTI
            have hU5 : U 5 0 0 = T 5 0 0 := by rw [hU0]
            have hU25 : U 25 0 0 = T 25 0 0 := by rw [hU0]
            have hU7 : ∀ i, i < 12 → U 7 i 0 ≤ U 25 0 0 := by rw [hU0]; exact hT7
            have hU30 : 0 ≤ U 30 0 0 ∧ U 30 0 0 + 3 * (i : Int) ≤ T 30 0 0 + 36 := by rw [hU0]; omega
            have hi12 : i ≤ 12 := by omega
            have hiU : (i : Int) ≤ U 5 0 0 := by omega
            replace hl : lv_has ls 5 [(3, .int (zI ((i : Int) - 1))), (2, .int (zI (k : Int))), (0, .ref (ad 32 0)), (1, .int (zI t))] := by rw [hi]; exact hl
            rw [← hU0] at hG
            clear hU0 hi
            induction i generalizing ls U H locs with
            | zero =>
              refine lv_iload_n hx hb dX5_run_51 rfl (lv_at hl 0 rfl) ?_
              refine z_if_lt (tgt := 66) hx hb dX5_run_52 (by decide) ⟨by omega, by omega⟩ (fun c_6 => ?_) (fun c_6 => ?_)
              · refine lv_iconst (v := zI 0) hx hb dX5_run_66 rfl ?_
                refine lv_istore_n (lv' := [(3, .int (zI 0)), (2, .int (zI (k : Int))), (0, .ref (ad 32 0)), (1, .int (zI t))]) hx hb dX5_run_67 rfl hl (by decide) rfl (fun ls hl => ?_)
                have hUA : U = A1 := hA
                obtain ⟨B1, hB1⟩ : ∃ B, B = rtmA (T 5 0 0).toNat 0 A1 := ⟨_, rfl⟩
                obtain ⟨V, hV0⟩ : ∃ V, V = U := ⟨U, rfl⟩
                obtain ⟨j, hj0⟩ : ∃ j : Nat, j = 0 := ⟨0, rfl⟩
                obtain ⟨r, hr0⟩ : ∃ r : Nat, (j : Int) + r = T 5 0 0 := ⟨(T 5 0 0).toNat, by omega⟩
                have hB : rtmA r j V = B1 := by rw [hB1, hV0, hUA, hj0]; congr 1; omega
                have hVI : Inv V := by rw [hV0]; exact hUI
                have hV5 : V 5 0 0 = T 5 0 0 := by rw [hV0]; exact hU5
                have hV25 : V 25 0 0 = T 25 0 0 := by rw [hV0]; exact hU25
                have hV30 : 0 ≤ V 30 0 0 ∧ V 30 0 0 ≤ T 30 0 0 + 36 := by rw [hV0]; omega
                have hV7 : ∀ i, j ≤ i → i < 12 → V 7 i 0 ≤ V 25 0 0 := by rw [hV0]; exact fun i _ h => hU7 i h
                have hV8 : ∀ i, i < 12 → V 7 i 0 ≤ V 25 0 0 + 1 := by rw [hV0]; exact fun i h => by have := hU7 i h; omega
                replace hl : lv_has ls 5 [(3, .int (zI (j : Int))), (2, .int (zI (k : Int))), (0, .ref (ad 32 0)), (1, .int (zI t))] := by subst hj0; exact hl
                rw [← hV0] at hG
                clear hV0 hj0 hUA hA hUI hU5 hU25 hU30 hU7 hiU
                induction r generalizing j ls V H locs with
                | zero =>
                  refine lv_iload_n hx hb dX5_run_68 rfl (lv_at hl 0 rfl) ?_
                  refine lv_aload_n hx hb dX5_run_69 rfl (lv_at hl 2 rfl) ?_
                  refine r_getI hx hb hts hin hown hK hG 5 (by decide) rfl (hts (.fieldLink RX5 91 "LineEventsModel" "machines" "I") (by decide +kernel)) (z := V 5 0 0) (rfl) dX5_run_70 ?_
                  refine z_icmp_ge (tgt := 124) hx hb dX5_run_73 (by decide) ⟨by omega, by omega⟩ ⟨by omega, by omega⟩ (fun c_7 => ?_) (fun c_7 => ?_)
                  · refine lv_aload_n hx hb dX5_run_124 rfl (lv_at hl 2 rfl) ?_
                    refine lv_dup hx hb dX5_run_125 rfl ?_
                    refine r_getI hx hb hts hin hown hK hG 25 (by decide) rfl (hts (.fieldLink RX5 94 "LineEventsModel" "now" "I") (by decide +kernel)) (z := V 25 0 0) (rfl) dX5_run_126 ?_
                    refine lv_iconst (v := zI 1) hx hb dX5_run_129 rfl ?_
                    refine z_iadd hx hb dX5_run_130 ?_
                    refine r_putI hx hb hts hin hown hK hG hS 25 (by decide) rfl (hts (.fieldLink RX5 94 "LineEventsModel" "now" "I") (by decide +kernel)) rfl rfl (z := (V 25 0 0) + 1) dX5_run_131 (fun H locs hG hS => ?_)
                    refine lv_iinc (v := zI ((k : Int) + 1)) (lv' := [(2, .int (zI ((k : Int) + 1))), (3, .int (zI (j : Int))), (0, .ref (ad 32 0)), (1, .int (zI t))]) hx hb dX5_run_134 hl (k := 1) rfl (by rw [show Int32.ofInt 1 = zI 1 from rfl, zI_add]) (by decide) rfl (fun ls hl => ?_)
                    refine lv_goto (tgt := 39) hx hb dX5_run_137 (by decide) ?_
                    exact iho (k := k + 1) (ls := ls) (T := rtick V) (H := H) (locs := locs) (hG := hG) (hS := hS) (hTI := tick_I hVI (by omega)) (hT7 := fun i hi => by have := hV8 i hi; show V 7 i 0 ≤ V 25 0 0 + 1; omega) (hT25 := by show 0 ≤ V 25 0 0 + 1 ∧ V 25 0 0 + 1 + t ≤ 1000000000 + ((k + 1 : Nat) : Int); omega) (hT30 := by show 0 ≤ V 30 0 0 ∧ V 30 0 0 ≤ 36 * ((k + 1 : Nat) : Int); omega) (hl := lv_sub hl [0, 2, 3] rfl) (hn := by omega) (hv9 := by rw [← hv9, rrunL, rinst, ← hA1, ← hB1, ← hB]; rfl)
                  · exfalso; omega
                | succ r ih2 =>
                  refine lv_iload_n hx hb dX5_run_68 rfl (lv_at hl 0 rfl) ?_
                  refine lv_aload_n hx hb dX5_run_69 rfl (lv_at hl 2 rfl) ?_
                  refine r_getI hx hb hts hin hown hK hG 5 (by decide) rfl (hts (.fieldLink RX5 91 "LineEventsModel" "machines" "I") (by decide +kernel)) (z := V 5 0 0) (rfl) dX5_run_70 ?_
                  refine z_icmp_ge (tgt := 124) hx hb dX5_run_73 (by decide) ⟨by omega, by omega⟩ ⟨by omega, by omega⟩ (fun c_8 => ?_) (fun c_8 => ?_)
                  · exfalso; omega
                  · refine lv_aload_n hx hb dX5_run_76 rfl (lv_at hl 2 rfl) ?_
                    refine lv_iload_n hx hb dX5_run_77 rfl (lv_at hl 0 rfl) ?_
                    refine r_callV (As := [.int (zI (j : Int))]) (rest := []) ⟨hx, hb, hml, hown, hts⟩ (m_X5_causeOf l D cI cJ A ad V j hVI (by omega)) (cwV 1 hts gX5_run_X5_causeOf rfl rfl rfl (by decide +kernel) ⟨Nat.le_of_ble_eq_true rfl, Nat.le_of_ble_eq_true rfl⟩) hK hG hS rfl hl.1 rfl (Nat.le_of_ble_eq_true rfl) dX5_run_78 ⟨Nat.zero_le _, Nat.zero_le _⟩ (fun H locs hG hS => ?_)
                    have hc9 := cause_B j hVI
                    have hV7j := (hVI.2.2.2.1 j (by omega)).2.1
                    refine lv_istore (lv' := [(4, .int (zI (rcause V j))), (3, .int (zI (j : Int))), (2, .int (zI (k : Int))), (0, .ref (ad 32 0)), (1, .int (zI t))]) hx hb dX5_run_81 hl (by decide) rfl (fun ls hl => ?_)
                    refine lv_aload_n hx hb dX5_run_83 rfl (lv_at hl 3 rfl) ?_
                    refine r_getA hx hb hts hin hown hK hG 21 (by decide) (by decide) (hts (.fieldLink RX5 68 "LineEventsModel" "times" "[J") (by decide +kernel)) dX5_run_84 ?_
                    refine lv_iload_n hx hb dX5_run_87 rfl (lv_at hl 1 rfl) ?_
                    refine lv_bipush (v := zI 12) hx hb dX5_run_88 (by decide) ?_
                    refine z_imul hx hb dX5_run_90 ?_
                    refine lv_iload hx hb dX5_run_91 (lv_at hl 0 rfl) ?_
                    refine z_iadd hx hb dX5_run_93 ?_
                    refine lv_dup2_11 hx hb dX5_run_94 rfl rfl ?_
                    refine r_lald hx hb hK hG 21 (by decide) rfl j (rcause V j).toNat (by simp only [show rW 21 = 12 from rfl]; omega) (by simp only [show rN 21 = 12 from rfl]; omega) (by simp only [show rW 21 = 12 from rfl]; omega) (w := V 21 j (rcause V j).toNat) (rfl) dX5_run_95 ?_
                    refine lv_lconst (v := zL 1) hx hb dX5_run_96 (by decide) ?_
                    refine z_ladd hx hb dX5_run_97 ?_
                    refine r_last hx hb hK hG hS 21 (by decide) rfl j (rcause V j).toNat (by simp only [show rW 21 = 12 from rfl]; omega) (by simp only [show rN 21 = 12 from rfl]; omega) (by simp only [show rW 21 = 12 from rfl]; omega) (w := (V 21 j (rcause V j).toNat) + 1) dX5_run_98 (fun H locs hG hS => ?_)
                    refine lv_aload_n hx hb dX5_run_99 rfl (lv_at hl 3 rfl) ?_
                    refine r_getA hx hb hts hin hown hK hG 7 (by decide) (by decide) (hts (.fieldLink RX5 28 "LineEventsModel" "worked" "[I") (by decide +kernel)) dX5_run_100 ?_
                    refine lv_iload_n hx hb dX5_run_103 rfl (lv_at hl 1 rfl) ?_
                    refine lv_dup2_11 hx hb dX5_run_104 rfl rfl ?_
                    refine r_iald hx hb hK hG 7 (by decide) rfl j 0 (by simp only [show rW 7 = 1 from rfl]; omega) (by simp only [show rN 7 = 12 from rfl]; omega) (by simp only [show rW 7 = 1 from rfl]; omega) (w := V 7 j 0) (by simp [su]) dX5_run_105 ?_
                    refine lv_iload hx hb dX5_run_106 (lv_at hl 0 rfl) ?_
                    refine z_if_ne (tgt := 115) hx hb dX5_run_108 (by decide) ⟨by omega, by omega⟩ (fun c_9 => ?_) (fun c_9 => ?_)
                    · refine lv_iconst (v := zI 0) hx hb dX5_run_115 rfl ?_
                      refine z_iadd hx hb dX5_run_116 ?_
                      refine r_iast hx hb hK hG hS 7 (by decide) rfl j 0 (by simp only [show rW 7 = 1 from rfl]; omega) (by simp only [show rN 7 = 12 from rfl]; omega) (by simp only [show rW 7 = 1 from rfl]; omega) (w := (V 7 j 0) + 0) dX5_run_117 (fun H locs hG hS => ?_)
                      refine lv_iinc (v := zI ((j : Int) + 1)) (lv' := [(3, .int (zI ((j : Int) + 1))), (4, .int (zI (rcause V j))), (2, .int (zI (k : Int))), (0, .ref (ad 32 0)), (1, .int (zI t))]) hx hb dX5_run_118 hl (k := 1) rfl (by rw [show Int32.ofInt 1 = zI 1 from rfl, zI_add]) (by decide) rfl (fun ls hl => ?_)
                      refine lv_goto (tgt := 68) hx hb dX5_run_121 (by decide) ?_
                      have e9 : su (su V 21 j (rcause V j).toNat ((V 21 j (rcause V j).toNat) + 1)) 7 j 0 ((V 7 j 0) + 0) = rtm V j := by unfold rtm; first | rw [if_pos (by omega)] | rw [if_neg (by omega)]
                      rw [e9] at hG
                      exact ih2 (j := j + 1) (ls := ls) (V := rtm V j) (H := H) (locs := locs) (hG := hG) (hS := hS) (hr0 := by omega) (hB := by rw [← hB, rtmA]) (hVI := tm_I hVI (by omega) (hV7 j (Nat.le_refl j) (by omega))) (hV5 := by rw [tm_v (by decide)]; exact hV5) (hV25 := by rw [tm_v (by decide)]; exact hV25) (hV30 := by rw [tm_v (by decide)]; exact hV30) (hV7 := fun i h1 h2 => by rw [tm_7 (by omega), tm_v (by decide)]; exact hV7 i (by omega) h2) (hV8 := fun i h2 => tm_8 i (fun q => hV7 i (by omega) h2) (hV8 i h2)) (hl := lv_sub hl [0, 2, 3, 4] rfl)
                    · refine lv_iconst (v := zI 1) hx hb dX5_run_111 rfl ?_
                      refine lv_goto (tgt := 116) hx hb dX5_run_112 (by decide) ?_
                      refine z_iadd hx hb dX5_run_116 ?_
                      refine r_iast hx hb hK hG hS 7 (by decide) rfl j 0 (by simp only [show rW 7 = 1 from rfl]; omega) (by simp only [show rN 7 = 12 from rfl]; omega) (by simp only [show rW 7 = 1 from rfl]; omega) (w := (V 7 j 0) + 1) dX5_run_117 (fun H locs hG hS => ?_)
                      refine lv_iinc (v := zI ((j : Int) + 1)) (lv' := [(3, .int (zI ((j : Int) + 1))), (4, .int (zI (rcause V j))), (2, .int (zI (k : Int))), (0, .ref (ad 32 0)), (1, .int (zI t))]) hx hb dX5_run_118 hl (k := 1) rfl (by rw [show Int32.ofInt 1 = zI 1 from rfl, zI_add]) (by decide) rfl (fun ls hl => ?_)
                      refine lv_goto (tgt := 68) hx hb dX5_run_121 (by decide) ?_
                      have e9 : su (su V 21 j (rcause V j).toNat ((V 21 j (rcause V j).toNat) + 1)) 7 j 0 ((V 7 j 0) + 1) = rtm V j := by unfold rtm; first | rw [if_pos (by omega)] | rw [if_neg (by omega)]
                      rw [e9] at hG
                      exact ih2 (j := j + 1) (ls := ls) (V := rtm V j) (H := H) (locs := locs) (hG := hG) (hS := hS) (hr0 := by omega) (hB := by rw [← hB, rtmA]) (hVI := tm_I hVI (by omega) (hV7 j (Nat.le_refl j) (by omega))) (hV5 := by rw [tm_v (by decide)]; exact hV5) (hV25 := by rw [tm_v (by decide)]; exact hV25) (hV30 := by rw [tm_v (by decide)]; exact hV30) (hV7 := fun i h1 h2 => by rw [tm_7 (by omega), tm_v (by decide)]; exact hV7 i (by omega) h2) (hV8 := fun i h2 => tm_8 i (fun q => hV7 i (by omega) h2) (hV8 i h2)) (hl := lv_sub hl [0, 2, 3, 4] rfl)
              · exfalso; omega
            | succ i ih1 =>
              replace hl : lv_has ls 5 [(3, .int (zI (i : Int))), (2, .int (zI (k : Int))), (0, .ref (ad 32 0)), (1, .int (zI t))] := by
                have e3 : ((i + 1 : Nat) : Int) - 1 = (i : Int) := by omega
                rw [e3] at hl; exact hl
              refine lv_iload_n hx hb dX5_run_51 rfl (lv_at hl 0 rfl) ?_
              refine z_if_lt (tgt := 66) hx hb dX5_run_52 (by decide) ⟨by omega, by omega⟩ (fun c_10 => ?_) (fun c_10 => ?_)
              · exfalso; omega
              · refine lv_aload_n hx hb dX5_run_55 rfl (lv_at hl 2 rfl) ?_
                refine lv_iload_n hx hb dX5_run_56 rfl (lv_at hl 0 rfl) ?_
                refine r_callV (As := [.int (zI (i : Int))]) (rest := []) ⟨hx, hb, hml, hown, hts⟩ (m_X5_act l D cI cJ A ad U i hUI (by omega) ⟨by omega, by omega⟩) (cwV 1 hts gX5_run_X5_act rfl rfl rfl (by decide +kernel) ⟨Nat.le_of_ble_eq_true rfl, Nat.le_of_ble_eq_true rfl⟩) hK hG hS rfl hl.1 rfl (Nat.le_of_ble_eq_true rfl) dX5_run_57 ⟨Nat.zero_le _, Nat.zero_le _⟩ (fun H locs hG hS => ?_)
                refine lv_iinc (v := zI ((i : Int) + (-1))) (lv' := [(3, .int (zI ((i : Int) + (-1)))), (2, .int (zI (k : Int))), (0, .ref (ad 32 0)), (1, .int (zI t))]) hx hb dX5_run_60 hl (k := 0) rfl (by rw [show Int32.ofInt (-1) = zI (-1) from rfl, zI_add]) (by decide) rfl (fun ls hl => ?_)
                refine lv_goto (tgt := 51) hx hb dX5_run_63 (by decide) ?_
                have ha9 := act_I (m := i) hUI (by omega)
                have ha25 : ract U i 25 0 0 = U 25 0 0 := act_v (by decide)
                exact ih1 (ls := ls) (U := ract U i) (H := H) (locs := locs) (hG := hG) (hS := hS) (hA := by rw [← hA, ractA]) (hUI := ha9.1) (hU5 := by omega) (hU25 := by omega) (hU7 := fun j hj => by have h1 := act_7 (S := U) (m := i) (i := j); have h2 := hU7 j hj; omega) (hU30 := by omega) (hi12 := by omega) (hiU := by omega) (hl := lv_sub hl [0, 1, 2, 3] rfl)
      · refine lv_iconst (v := zI (-1)) hx hb dX5_run_30 rfl ?_
        have e9 : S0 = rrunS S0 t := by unfold rrunS; rw [if_neg (by omega)]
        rw [e9] at hG
        have v9 : (-1) = rrunV S0 t := by unfold rrunV; rw [if_neg (by omega)]
        refine W.eq (congrArg (fun z => F0 m0 31 ls [.int (zI z)]) v9) ?_
        exact W.iret hx hb hr (fun t ht hW => ⟨rfl, ⟨by rw [ht]; exact hG, va_K.moved hW.alike hK⟩, hS.F ht⟩) hS.2.2 dX5_run_31
