set_option maxHeartbeats 4000000 in
set_option maxRecDepth 100000 in
theorem m_X5_held (l : Launch) (D : va_G) (cI cJ : ClassId) (A : Nat → Prop) (ad : Nat → Nat → Nat) (S : Nat → Nat → Nat → Int) (m : Nat) (hI : Inv S) (hm : (m : Int) < S 5 0 0) : Met l yX5_held wsX5_held ({ frames := 0, cells := 0, slots := 0, locals := 0 }) (va_Pc [.ref (ad 32 0), .int (zI (m : Int))] (gRU D cI cJ A ad S)) (gO (some (.int (zI (rheld S m)))) (gRU D cI cJ A ad (S)) A) 0 0 A := by
  refine Met.ofW (cc := cX5_held) (maxL := 3) (ret := (some .int)) (by decide) rfl ?_
  intro p e s m0 args below meth c s₁ B hml hv
  obtain ⟨rfl, hG, hK⟩ := hv
  have hx := B.exec
  have hb := B.bytes
  have hr := B.returns
  have hts := atoms_spec (ws := wsX5_held) B.pre
  have hown : s.vm.findClass RX5 = some m0.cls := findClass_of_methodNamed B.named
  have hlocks := B.notSynchronized
  have hin : ∀ w ∈ wsX50, w ∈ wsX5_held := by decide +kernel
  have hS : va_S A s.heap s.heap [] := va_S.rf
  have hl := lv_entry ([.ref (ad 32 0), .int (zI (m : Int))]) (n := 3) (Nat.le_of_ble_eq_true rfl)
  rw [lg_entry_eq]
  generalize (lg_sl ([.ref (ad 32 0), .int (zI (m : Int))]) ++ List.replicate (3 - (lg_sl ([.ref (ad 32 0), .int (zI (m : Int))])).length) Slot.unset).toArray = ls at hl ⊢
  replace hl : lv_has ls 3 [(0, .ref (ad 32 0)), (1, .int (zI (m : Int)))] := hl
  obtain ⟨hI5, hI25, hI20, hIM, hIL, hIR⟩ := hI
  have hm12 : m < 12 := by omega
  refine lv_iconst (v := zI 0) hx hb dX5_held_0 rfl ?_
  refine lv_istore_n (lv' := [(2, .int (zI 0)), (0, .ref (ad 32 0)), (1, .int (zI (m : Int)))]) hx hb dX5_held_1 rfl hl (by decide) rfl (fun ls hl => ?_)
  obtain ⟨k, hk0⟩ : ∃ k : Nat, k = 0 := ⟨0, rfl⟩
  replace hl : lv_has ls 3 [(2, .int (zI (k : Int))), (0, .ref (ad 32 0)), (1, .int (zI (m : Int)))] := by subst hk0; exact hl
  obtain ⟨n, hn⟩ : ∃ n : Nat, (k : Int) + n = S 20 0 0 := ⟨(S 20 0 0).toNat, by omega⟩
  have hv9 : rhl S m n k = rheld S m := by subst hk0; unfold rheld; congr 1; omega
  clear hk0
  induction n generalizing k ls with
  | zero =>
    refine lv_iload_n hx hb dX5_held_2 rfl (lv_at hl 0 rfl) ?_
    refine lv_aload_n hx hb dX5_held_3 rfl (lv_at hl 1 rfl) ?_
    refine r_getI hx hb hts hin hown hK hG 20 (by decide) rfl (hts (.fieldLink RX5 106 "LineEventsModel" "rows" "I") (by decide +kernel)) (z := S 20 0 0) (rfl) dX5_held_4 ?_
    refine z_icmp_ge (tgt := 69) hx hb dX5_held_7 (by decide) ⟨by omega, by omega⟩ ⟨by omega, by omega⟩ (fun c_1 => ?_) (fun c_1 => ?_)
    · refine lv_iconst (v := zI (-1)) hx hb dX5_held_69 rfl ?_
      have v9 : (-1) = rheld S m := by first | (rw [← hv9]; rfl) | (exfalso; omega)
      refine W.eq (congrArg (fun z => F0 m0 70 ls [.int (zI z)]) v9) ?_
      exact W.iret hx hb hr (fun t ht hW => ⟨rfl, ⟨by rw [ht]; exact hG, va_K.moved hW.alike hK⟩, hS.F ht⟩) hS.2.2 dX5_held_70
    · exfalso; omega
  | succ n ih =>
    refine lv_iload_n hx hb dX5_held_2 rfl (lv_at hl 0 rfl) ?_
    refine lv_aload_n hx hb dX5_held_3 rfl (lv_at hl 1 rfl) ?_
    refine r_getI hx hb hts hin hown hK hG 20 (by decide) rfl (hts (.fieldLink RX5 106 "LineEventsModel" "rows" "I") (by decide +kernel)) (z := S 20 0 0) (rfl) dX5_held_4 ?_
    refine z_icmp_ge (tgt := 69) hx hb dX5_held_7 (by decide) ⟨by omega, by omega⟩ ⟨by omega, by omega⟩ (fun c_2 => ?_) (fun c_2 => ?_)
    · exfalso; omega
    · obtain ⟨hr1, hr2, hr3, hr4⟩ := hIR k (by omega)
      refine lv_aload_n hx hb dX5_held_10 rfl (lv_at hl 1 rfl) ?_
      refine r_getA hx hb hts hin hown hK hG 16 (by decide) (by decide) (hts (.fieldLink RX5 56 "LineEventsModel" "rowMachine" "[I") (by decide +kernel)) dX5_held_11 ?_
      refine lv_iload_n hx hb dX5_held_14 rfl (lv_at hl 0 rfl) ?_
      refine r_iald hx hb hK hG 16 (by decide) rfl k 0 (by simp only [show rW 16 = 1 from rfl]; omega) (by simp only [show rN 16 = 64 from rfl]; omega) (by simp only [show rW 16 = 1 from rfl]; omega) (w := S 16 k 0) (rfl) dX5_held_15 ?_
      refine lv_iconst (v := zI (-1)) hx hb dX5_held_16 rfl ?_
      refine z_icmp_eq (tgt := 30) hx hb dX5_held_17 (by decide) ⟨by omega, by omega⟩ ⟨by decide, by decide⟩ (fun c_3 => ?_) (fun c_3 => ?_)
      · refine lv_aload_n hx hb dX5_held_30 rfl (lv_at hl 1 rfl) ?_
        refine r_getA hx hb hts hin hown hK hG 17 (by decide) (by decide) (hts (.fieldLink RX5 59 "LineEventsModel" "rowFrom" "[I") (by decide +kernel)) dX5_held_31 ?_
        refine lv_iload_n hx hb dX5_held_34 rfl (lv_at hl 0 rfl) ?_
        refine r_iald hx hb hK hG 17 (by decide) rfl k 0 (by simp only [show rW 17 = 1 from rfl]; omega) (by simp only [show rN 17 = 64 from rfl]; omega) (by simp only [show rW 17 = 1 from rfl]; omega) (w := S 17 k 0) (rfl) dX5_held_35 ?_
        refine lv_aload_n hx hb dX5_held_36 rfl (lv_at hl 1 rfl) ?_
        refine r_getI hx hb hts hin hown hK hG 25 (by decide) rfl (hts (.fieldLink RX5 94 "LineEventsModel" "now" "I") (by decide +kernel)) (z := S 25 0 0) (rfl) dX5_held_37 ?_
        refine z_icmp_gt (tgt := 63) hx hb dX5_held_40 (by decide) ⟨by omega, by omega⟩ ⟨by omega, by omega⟩ (fun c_4 => ?_) (fun c_4 => ?_)
        · refine lv_iinc (v := zI ((k : Int) + 1)) (lv' := [(2, .int (zI ((k : Int) + 1))), (0, .ref (ad 32 0)), (1, .int (zI (m : Int)))]) hx hb dX5_held_63 hl (k := 0) rfl (by rw [show Int32.ofInt 1 = zI 1 from rfl, zI_add]) (by decide) rfl (fun ls hl => ?_)
          refine lv_goto (tgt := 2) hx hb dX5_held_66 (by decide) ?_
          exact ih (k := k + 1) (ls := ls) (hl := lv_sub hl [0, 1, 2] rfl) (hn := by omega) (hv9 := by rw [← hv9, rhl, if_neg (by omega)])
        · refine lv_aload_n hx hb dX5_held_43 rfl (lv_at hl 1 rfl) ?_
          refine r_getI hx hb hts hin hown hK hG 25 (by decide) rfl (hts (.fieldLink RX5 94 "LineEventsModel" "now" "I") (by decide +kernel)) (z := S 25 0 0) (rfl) dX5_held_44 ?_
          refine lv_aload_n hx hb dX5_held_47 rfl (lv_at hl 1 rfl) ?_
          refine r_getA hx hb hts hin hown hK hG 18 (by decide) (by decide) (hts (.fieldLink RX5 62 "LineEventsModel" "rowTo" "[I") (by decide +kernel)) dX5_held_48 ?_
          refine lv_iload_n hx hb dX5_held_51 rfl (lv_at hl 0 rfl) ?_
          refine r_iald hx hb hK hG 18 (by decide) rfl k 0 (by simp only [show rW 18 = 1 from rfl]; omega) (by simp only [show rN 18 = 64 from rfl]; omega) (by simp only [show rW 18 = 1 from rfl]; omega) (w := S 18 k 0) (rfl) dX5_held_52 ?_
          refine z_icmp_ge (tgt := 63) hx hb dX5_held_53 (by decide) ⟨by omega, by omega⟩ ⟨by omega, by omega⟩ (fun c_5 => ?_) (fun c_5 => ?_)
          · refine lv_iinc (v := zI ((k : Int) + 1)) (lv' := [(2, .int (zI ((k : Int) + 1))), (0, .ref (ad 32 0)), (1, .int (zI (m : Int)))]) hx hb dX5_held_63 hl (k := 0) rfl (by rw [show Int32.ofInt 1 = zI 1 from rfl, zI_add]) (by decide) rfl (fun ls hl => ?_)
            refine lv_goto (tgt := 2) hx hb dX5_held_66 (by decide) ?_
            exact ih (k := k + 1) (ls := ls) (hl := lv_sub hl [0, 1, 2] rfl) (hn := by omega) (hv9 := by rw [← hv9, rhl, if_neg (by omega)])
          · refine lv_aload_n hx hb dX5_held_56 rfl (lv_at hl 1 rfl) ?_
            refine r_getA hx hb hts hin hown hK hG 19 (by decide) (by decide) (hts (.fieldLink RX5 65 "LineEventsModel" "rowCause" "[I") (by decide +kernel)) dX5_held_57 ?_
            refine lv_iload_n hx hb dX5_held_60 rfl (lv_at hl 0 rfl) ?_
            refine r_iald hx hb hK hG 19 (by decide) rfl k 0 (by simp only [show rW 19 = 1 from rfl]; omega) (by simp only [show rN 19 = 64 from rfl]; omega) (by simp only [show rW 19 = 1 from rfl]; omega) (w := S 19 k 0) (rfl) dX5_held_61 ?_
            have v9 : S 19 k 0 = rheld S m := by first | (rw [← hv9, rhl, if_pos (by omega)]) | (exfalso; omega)
            refine W.eq (congrArg (fun z => F0 m0 62 ls [.int (zI z)]) v9) ?_
            exact W.iret hx hb hr (fun t ht hW => ⟨rfl, ⟨by rw [ht]; exact hG, va_K.moved hW.alike hK⟩, hS.F ht⟩) hS.2.2 dX5_held_62
      · refine lv_aload_n hx hb dX5_held_20 rfl (lv_at hl 1 rfl) ?_
        refine r_getA hx hb hts hin hown hK hG 16 (by decide) (by decide) (hts (.fieldLink RX5 56 "LineEventsModel" "rowMachine" "[I") (by decide +kernel)) dX5_held_21 ?_
        refine lv_iload_n hx hb dX5_held_24 rfl (lv_at hl 0 rfl) ?_
        refine r_iald hx hb hK hG 16 (by decide) rfl k 0 (by simp only [show rW 16 = 1 from rfl]; omega) (by simp only [show rN 16 = 64 from rfl]; omega) (by simp only [show rW 16 = 1 from rfl]; omega) (w := S 16 k 0) (rfl) dX5_held_25 ?_
        refine lv_iload_n hx hb dX5_held_26 rfl (lv_at hl 2 rfl) ?_
        refine z_icmp_ne (tgt := 63) hx hb dX5_held_27 (by decide) ⟨by omega, by omega⟩ ⟨by omega, by omega⟩ (fun c_6 => ?_) (fun c_6 => ?_)
        · refine lv_iinc (v := zI ((k : Int) + 1)) (lv' := [(2, .int (zI ((k : Int) + 1))), (0, .ref (ad 32 0)), (1, .int (zI (m : Int)))]) hx hb dX5_held_63 hl (k := 0) rfl (by rw [show Int32.ofInt 1 = zI 1 from rfl, zI_add]) (by decide) rfl (fun ls hl => ?_)
          refine lv_goto (tgt := 2) hx hb dX5_held_66 (by decide) ?_
          exact ih (k := k + 1) (ls := ls) (hl := lv_sub hl [0, 1, 2] rfl) (hn := by omega) (hv9 := by rw [← hv9, rhl, if_neg (by omega)])
        · refine lv_aload_n hx hb dX5_held_30 rfl (lv_at hl 1 rfl) ?_
          refine r_getA hx hb hts hin hown hK hG 17 (by decide) (by decide) (hts (.fieldLink RX5 59 "LineEventsModel" "rowFrom" "[I") (by decide +kernel)) dX5_held_31 ?_
          refine lv_iload_n hx hb dX5_held_34 rfl (lv_at hl 0 rfl) ?_
          refine r_iald hx hb hK hG 17 (by decide) rfl k 0 (by simp only [show rW 17 = 1 from rfl]; omega) (by simp only [show rN 17 = 64 from rfl]; omega) (by simp only [show rW 17 = 1 from rfl]; omega) (w := S 17 k 0) (rfl) dX5_held_35 ?_
          refine lv_aload_n hx hb dX5_held_36 rfl (lv_at hl 1 rfl) ?_
          refine r_getI hx hb hts hin hown hK hG 25 (by decide) rfl (hts (.fieldLink RX5 94 "LineEventsModel" "now" "I") (by decide +kernel)) (z := S 25 0 0) (rfl) dX5_held_37 ?_
          refine z_icmp_gt (tgt := 63) hx hb dX5_held_40 (by decide) ⟨by omega, by omega⟩ ⟨by omega, by omega⟩ (fun c_7 => ?_) (fun c_7 => ?_)
          · refine lv_iinc (v := zI ((k : Int) + 1)) (lv' := [(2, .int (zI ((k : Int) + 1))), (0, .ref (ad 32 0)), (1, .int (zI (m : Int)))]) hx hb dX5_held_63 hl (k := 0) rfl (by rw [show Int32.ofInt 1 = zI 1 from rfl, zI_add]) (by decide) rfl (fun ls hl => ?_)
            refine lv_goto (tgt := 2) hx hb dX5_held_66 (by decide) ?_
            exact ih (k := k + 1) (ls := ls) (hl := lv_sub hl [0, 1, 2] rfl) (hn := by omega) (hv9 := by rw [← hv9, rhl, if_neg (by omega)])
          · refine lv_aload_n hx hb dX5_held_43 rfl (lv_at hl 1 rfl) ?_
            refine r_getI hx hb hts hin hown hK hG 25 (by decide) rfl (hts (.fieldLink RX5 94 "LineEventsModel" "now" "I") (by decide +kernel)) (z := S 25 0 0) (rfl) dX5_held_44 ?_
            refine lv_aload_n hx hb dX5_held_47 rfl (lv_at hl 1 rfl) ?_
            refine r_getA hx hb hts hin hown hK hG 18 (by decide) (by decide) (hts (.fieldLink RX5 62 "LineEventsModel" "rowTo" "[I") (by decide +kernel)) dX5_held_48 ?_
            refine lv_iload_n hx hb dX5_held_51 rfl (lv_at hl 0 rfl) ?_
            refine r_iald hx hb hK hG 18 (by decide) rfl k 0 (by simp only [show rW 18 = 1 from rfl]; omega) (by simp only [show rN 18 = 64 from rfl]; omega) (by simp only [show rW 18 = 1 from rfl]; omega) (w := S 18 k 0) (rfl) dX5_held_52 ?_
            refine z_icmp_ge (tgt := 63) hx hb dX5_held_53 (by decide) ⟨by omega, by omega⟩ ⟨by omega, by omega⟩ (fun c_8 => ?_) (fun c_8 => ?_)
            · refine lv_iinc (v := zI ((k : Int) + 1)) (lv' := [(2, .int (zI ((k : Int) + 1))), (0, .ref (ad 32 0)), (1, .int (zI (m : Int)))]) hx hb dX5_held_63 hl (k := 0) rfl (by rw [show Int32.ofInt 1 = zI 1 from rfl, zI_add]) (by decide) rfl (fun ls hl => ?_)
              refine lv_goto (tgt := 2) hx hb dX5_held_66 (by decide) ?_
              exact ih (k := k + 1) (ls := ls) (hl := lv_sub hl [0, 1, 2] rfl) (hn := by omega) (hv9 := by rw [← hv9, rhl, if_neg (by omega)])
            · refine lv_aload_n hx hb dX5_held_56 rfl (lv_at hl 1 rfl) ?_
              refine r_getA hx hb hts hin hown hK hG 19 (by decide) (by decide) (hts (.fieldLink RX5 65 "LineEventsModel" "rowCause" "[I") (by decide +kernel)) dX5_held_57 ?_
              refine lv_iload_n hx hb dX5_held_60 rfl (lv_at hl 0 rfl) ?_
              refine r_iald hx hb hK hG 19 (by decide) rfl k 0 (by simp only [show rW 19 = 1 from rfl]; omega) (by simp only [show rN 19 = 64 from rfl]; omega) (by simp only [show rW 19 = 1 from rfl]; omega) (w := S 19 k 0) (rfl) dX5_held_61 ?_
              have v9 : S 19 k 0 = rheld S m := by first | (rw [← hv9, rhl, if_pos (by omega)]) | (exfalso; omega)
              refine W.eq (congrArg (fun z => F0 m0 62 ls [.int (zI z)]) v9) ?_
              exact W.iret hx hb hr (fun t ht hW => ⟨rfl, ⟨by rw [ht]; exact hG, va_K.moved hW.alike hK⟩, hS.F ht⟩) hS.2.2 dX5_held_62
