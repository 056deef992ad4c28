set_option maxHeartbeats 4000000 in
set_option maxRecDepth 100000 in
theorem m_X5_within (l : Launch) (D : va_G) (cI cJ : ClassId) (A : Nat → Prop) (ad : Nat → Nat → Nat) (S : Nat → Nat → Nat → Int)  (hI : Inv S) : Met l yX5_within wsX5_within ({ frames := 0, cells := 0, slots := 0, locals := 0 }) (va_Pc [.ref (ad 32 0)] (gRU D cI cJ A ad S)) (gO (some (.long (zL (rwithin S)))) (gRU D cI cJ A ad (S)) A) 0 0 A := by
  refine Met.ofW (cc := cX5_within) (maxL := 4) (ret := (some .long)) (by decide) rfl ?_
  intro p e s m0 args below meth c s₁ B hml hv
  obtain ⟨rfl, hG, hK⟩ := hv
  have hx := B.exec
  have hb := B.bytes
  have hr := B.returns
  have hts := atoms_spec (ws := wsX5_within) B.pre
  have hown : s.vm.findClass RX5 = some m0.cls := findClass_of_methodNamed B.named
  have hlocks := B.notSynchronized
  have hin : ∀ w ∈ wsX50, w ∈ wsX5_within := by decide +kernel
  have hS : va_S A s.heap s.heap [] := va_S.rf
  have hl := lv_entry ([.ref (ad 32 0)]) (n := 4) (Nat.le_of_ble_eq_true rfl)
  rw [lg_entry_eq]
  generalize (lg_sl ([.ref (ad 32 0)]) ++ List.replicate (4 - (lg_sl ([.ref (ad 32 0)])).length) Slot.unset).toArray = ls at hl ⊢
  replace hl : lv_has ls 4 [(0, .ref (ad 32 0))] := hl
  obtain ⟨hI5, hI25, hI20, hIM, hIL, hIR⟩ := id hI
  refine lv_lconst (v := zL 0) hx hb dX5_within_0 (by decide) ?_
  refine lv_lstore_n (lv' := [(1, .long (zL 0)), (0, .ref (ad 32 0))]) hx hb dX5_within_1 rfl hl (by decide) rfl (fun ls hl => ?_)
  refine lv_iconst (v := zI 0) hx hb dX5_within_2 rfl ?_
  refine lv_istore_n (lv' := [(3, .int (zI 0)), (1, .long (zL 0)), (0, .ref (ad 32 0))]) hx hb dX5_within_3 rfl hl (by decide) rfl (fun ls hl => ?_)
  obtain ⟨k, hk0⟩ : ∃ k : Nat, k = 0 := ⟨0, rfl⟩
  obtain ⟨z, hz0⟩ : ∃ z : Int, z = 0 := ⟨0, rfl⟩
  replace hl : lv_has ls 4 [(3, .int (zI (k : Int))), (1, .long (zL z)), (0, .ref (ad 32 0))] := by subst hk0; subst hz0; exact hl
  obtain ⟨n, hn⟩ : ∃ n : Nat, (k : Int) + n = S 5 0 0 := ⟨(S 5 0 0).toNat, by omega⟩
  have hv9 : rwth S n k z = rwithin S := by subst hk0; subst hz0; unfold rwithin; congr 1; omega
  clear hk0 hz0
  induction n generalizing k ls z with
  | zero =>
    refine lv_iload_n hx hb dX5_within_4 rfl (lv_at hl 0 rfl) ?_
    refine lv_aload_n hx hb dX5_within_5 rfl (lv_at hl 2 rfl) ?_
    refine r_getI hx hb hts hin hown hK hG 5 (by decide) rfl (hts (.fieldLink RX5 91 "LineEventsModel" "machines" "I") (by decide +kernel)) (z := S 5 0 0) (rfl) dX5_within_6 ?_
    refine z_icmp_ge (tgt := 43) hx hb dX5_within_9 (by decide) ⟨by omega, by omega⟩ ⟨by omega, by omega⟩ (fun c_1 => ?_) (fun c_1 => ?_)
    · refine lv_lload_n hx hb dX5_within_43 rfl (lv_at hl 1 rfl) ?_
      have v9 : z = rwithin S := by rw [← hv9]; rfl
      refine W.eq (congrArg (fun z => F0 m0 44 ls [.long (zL z)]) v9) ?_
      exact W.lret hx hb hr (fun t ht hW => ⟨rfl, ⟨by rw [ht]; exact hG, va_K.moved hW.alike hK⟩, hS.F ht⟩) hS.2.2 dX5_within_44
    · exfalso; omega
  | succ n ih =>
    refine lv_iload_n hx hb dX5_within_4 rfl (lv_at hl 0 rfl) ?_
    refine lv_aload_n hx hb dX5_within_5 rfl (lv_at hl 2 rfl) ?_
    refine r_getI hx hb hts hin hown hK hG 5 (by decide) rfl (hts (.fieldLink RX5 91 "LineEventsModel" "machines" "I") (by decide +kernel)) (z := S 5 0 0) (rfl) dX5_within_6 ?_
    refine z_icmp_ge (tgt := 43) hx hb dX5_within_9 (by decide) ⟨by omega, by omega⟩ ⟨by omega, by omega⟩ (fun c_2 => ?_) (fun c_2 => ?_)
    · exfalso; omega
    · obtain ⟨hM6, hM7, hM8, hM10, hM11, hM15, hM9, hMf⟩ := id (hIM k (by omega))
      refine lv_lload_n hx hb dX5_within_12 rfl (lv_at hl 1 rfl) ?_
      refine lv_aload_n hx hb dX5_within_13 rfl (lv_at hl 2 rfl) ?_
      refine r_getA hx hb hts hin hown hK hG 11 (by decide) (by decide) (hts (.fieldLink RX5 40 "LineEventsModel" "many" "[I") (by decide +kernel)) dX5_within_14 ?_
      refine lv_iload_n hx hb dX5_within_17 rfl (lv_at hl 0 rfl) ?_
      refine r_iald hx hb hK hG 11 (by decide) rfl k 0 (by simp only [show rW 11 = 1 from rfl]; omega) (by simp only [show rN 11 = 12 from rfl]; omega) (by simp only [show rW 11 = 1 from rfl]; omega) (w := S 11 k 0) (rfl) dX5_within_18 ?_
      refine lv_aload_n hx hb dX5_within_19 rfl (lv_at hl 2 rfl) ?_
      refine r_getA hx hb hts hin hown hK hG 6 (by decide) (by decide) (hts (.fieldLink RX5 25 "LineEventsModel" "bottle" "[I") (by decide +kernel)) dX5_within_20 ?_
      refine lv_iload_n hx hb dX5_within_23 rfl (lv_at hl 0 rfl) ?_
      refine r_iald hx hb hK hG 6 (by decide) rfl k 0 (by simp only [show rW 6 = 1 from rfl]; omega) (by simp only [show rN 6 = 12 from rfl]; omega) (by simp only [show rW 6 = 1 from rfl]; omega) (w := S 6 k 0) (rfl) dX5_within_24 ?_
      refine z_if_ne (tgt := 32) hx hb dX5_within_25 (by decide) ⟨by omega, by omega⟩ (fun c_3 => ?_) (fun c_3 => ?_)
      · refine lv_iconst (v := zI 1) hx hb dX5_within_32 rfl ?_
        refine z_iadd hx hb dX5_within_33 ?_
        refine z_i2l hx hb dX5_within_34 ⟨by omega, by omega⟩ ?_
        refine z_ladd hx hb dX5_within_35 ?_
        refine lv_lstore_n (lv' := [(1, .long (zL (z + ((S 11 k 0) + 1)))), (3, .int (zI (k : Int))), (0, .ref (ad 32 0))]) hx hb dX5_within_36 rfl hl (by decide) rfl (fun ls hl => ?_)
        refine lv_iinc (v := zI ((k : Int) + 1)) (lv' := [(3, .int (zI ((k : Int) + 1))), (1, .long (zL (z + ((S 11 k 0) + 1)))), (0, .ref (ad 32 0))]) hx hb dX5_within_37 hl (k := 1) rfl (by rw [show Int32.ofInt 1 = zI 1 from rfl, zI_add]) (by decide) rfl (fun ls hl => ?_)
        refine lv_goto (tgt := 4) hx hb dX5_within_40 (by decide) ?_
        exact ih (k := k + 1) (ls := ls) (z := z + ((S 11 k 0) + 1)) (hl := lv_sub hl [0, 1, 2] rfl) (hn := by omega) (hv9 := by rw [← hv9, rwth]; first | rw [if_pos (by omega)] | rw [if_neg (by omega)])
      · refine lv_iconst (v := zI 0) hx hb dX5_within_28 rfl ?_
        refine lv_goto (tgt := 33) hx hb dX5_within_29 (by decide) ?_
        refine z_iadd hx hb dX5_within_33 ?_
        refine z_i2l hx hb dX5_within_34 ⟨by omega, by omega⟩ ?_
        refine z_ladd hx hb dX5_within_35 ?_
        refine lv_lstore_n (lv' := [(1, .long (zL (z + ((S 11 k 0) + 0)))), (3, .int (zI (k : Int))), (0, .ref (ad 32 0))]) hx hb dX5_within_36 rfl hl (by decide) rfl (fun ls hl => ?_)
        refine lv_iinc (v := zI ((k : Int) + 1)) (lv' := [(3, .int (zI ((k : Int) + 1))), (1, .long (zL (z + ((S 11 k 0) + 0)))), (0, .ref (ad 32 0))]) hx hb dX5_within_37 hl (k := 1) rfl (by rw [show Int32.ofInt 1 = zI 1 from rfl, zI_add]) (by decide) rfl (fun ls hl => ?_)
        refine lv_goto (tgt := 4) hx hb dX5_within_40 (by decide) ?_
        exact ih (k := k + 1) (ls := ls) (z := z + ((S 11 k 0) + 0)) (hl := lv_sub hl [0, 1, 2] rfl) (hn := by omega) (hv9 := by rw [← hv9, rwth]; first | rw [if_pos (by omega)] | rw [if_neg (by omega)])
set_option maxHeartbeats 4000000 in
set_option maxRecDepth 100000 in
theorem m_X5_inside (l : Launch) (D : va_G) (cI cJ : ClassId) (A : Nat → Prop) (ad : Nat → Nat → Nat) (S : Nat → Nat → Nat → Int)   (hI : Inv S) : Met l yX5_inside wsX5_inside ({ frames := 1, cells := 0, slots := 0, locals := 23 }) (va_Pc [.ref (ad 32 0)] (gRU D cI cJ A ad S)) (gO (some (.long (zL (rwithin (su S 31 0 0 0))))) (gRU D cI cJ A ad ((su S 31 0 0 0))) A) 0 0 A := by
  refine Met.ofW (cc := cX5_inside) (maxL := 1) (ret := (some .long)) (by decide) rfl ?_
  intro p e s m0 args below meth c s₁ B hml hv
  obtain ⟨rfl, hG, hK⟩ := hv
  have hx := B.exec
  have hb := B.bytes
  have hr := B.returns
  have hts := atoms_spec (ws := wsX5_inside) B.pre
  have hown : s.vm.findClass RX5 = some m0.cls := findClass_of_methodNamed B.named
  have hlocks := B.notSynchronized
  have hin : ∀ w ∈ wsX50, w ∈ wsX5_inside := by decide +kernel
  have hS : va_S A s.heap s.heap [] := va_S.rf
  have hl := lv_entry ([.ref (ad 32 0)]) (n := 1) (Nat.le_of_ble_eq_true rfl)
  rw [lg_entry_eq]
  generalize (lg_sl ([.ref (ad 32 0)]) ++ List.replicate (1 - (lg_sl ([.ref (ad 32 0)])).length) Slot.unset).toArray = ls at hl ⊢
  replace hl : lv_has ls 1 [(0, .ref (ad 32 0))] := hl
  refine lv_aload_n hx hb dX5_inside_0 rfl (lv_at hl 0 rfl) ?_
  refine lv_iconst (v := zI 0) hx hb dX5_inside_1 rfl ?_
  refine r_putI hx hb hts hin hown hK hG hS 31 (by decide) rfl (hts (.fieldLink RX5 87 "LineEventsModel" "thrown" "I") (by decide +kernel)) rfl rfl (z := 0) dX5_inside_2 (fun H locs hG hS => ?_)
  generalize hS0 : su S 31 0 0 0 = S0 at hG ⊢
  have hI0 : Inv S0 := by rw [← hS0]; exact hI
  obtain ⟨hI5, hI25, hI20, hIM, hIL, hIR⟩ := id hI0
  refine lv_aload_n hx hb dX5_inside_5 rfl (lv_at hl 0 rfl) ?_
  refine r_callV (As := []) (rest := []) ⟨hx, hb, hml, hown, hts⟩ (m_X5_within l D cI cJ A ad S0 hI0) (cwV 0 hts gX5_inside_X5_within rfl rfl rfl (by decide +kernel) ⟨Nat.le_of_ble_eq_true rfl, Nat.le_of_ble_eq_true rfl⟩) hK hG hS rfl hl.1 rfl (Nat.le_of_ble_eq_true rfl) dX5_inside_6 ⟨Nat.zero_le _, Nat.zero_le _⟩ (fun H locs hG hS => ?_)
  have v9 : rwithin S0 = rwithin S0 := by rfl
  refine W.eq (congrArg (fun z => F0 m0 9 ls [.long (zL z)]) v9) ?_
  exact W.lret hx hb hr (fun t ht hW => ⟨rfl, ⟨by rw [ht]; exact hG, va_K.moved hW.alike hK⟩, hS.F ht⟩) hS.2.2 dX5_inside_9
set_option maxHeartbeats 4000000 in
set_option maxRecDepth 100000 in
theorem m_X5_kept (l : Launch) (D : va_G) (cI cJ : ClassId) (A : Nat → Prop) (ad : Nat → Nat → Nat) (S : Nat → Nat → Nat → Int)  (hI : Inv S) : Met l yX5_kept wsX5_kept ({ frames := 1, cells := 0, slots := 0, locals := 23 }) (va_Pc [.ref (ad 32 0)] (gRU D cI cJ A ad S)) (gO (some (.int (zI (bZ (rkeptV (su S 31 0 0 0) = true))))) (gRU D cI cJ A ad (su S 31 0 0 0)) A) 0 0 A := by
  refine Met.ofW (cc := cX5_kept) (maxL := 8) (ret := (some .boolean)) (by decide) rfl ?_
  intro p e s m0 args below meth c s₁ B hml hv
  obtain ⟨rfl, hG, hK⟩ := hv
  have hx := B.exec
  have hb := B.bytes
  have hr := B.returns
  have hts := atoms_spec (ws := wsX5_kept) B.pre
  have hown : s.vm.findClass RX5 = some m0.cls := findClass_of_methodNamed B.named
  have hlocks := B.notSynchronized
  have hin : ∀ w ∈ wsX50, w ∈ wsX5_kept := by decide +kernel
  have hS : va_S A s.heap s.heap [] := va_S.rf
  have hl := lv_entry ([.ref (ad 32 0)]) (n := 8) (Nat.le_of_ble_eq_true rfl)
  rw [lg_entry_eq]
  generalize (lg_sl ([.ref (ad 32 0)]) ++ List.replicate (8 - (lg_sl ([.ref (ad 32 0)])).length) Slot.unset).toArray = ls at hl ⊢
  replace hl : lv_has ls 8 [(0, .ref (ad 32 0))] := hl
  refine lv_aload_n hx hb dX5_kept_0 rfl (lv_at hl 0 rfl) ?_
  refine lv_iconst (v := zI 0) hx hb dX5_kept_1 rfl ?_
  refine r_putI hx hb hts hin hown hK hG hS 31 (by decide) rfl (hts (.fieldLink RX5 87 "LineEventsModel" "thrown" "I") (by decide +kernel)) rfl rfl (z := 0) dX5_kept_2 (fun H locs hG hS => ?_)
  generalize hS0 : su S 31 0 0 0 = S0 at hG ⊢
  have hI0 : Inv S0 := by rw [← hS0]; exact hI
  obtain ⟨hI5, hI25, hI20, hIM, hIL, hIR⟩ := id hI0
  refine lv_aload_n hx hb dX5_kept_5 rfl (lv_at hl 0 rfl) ?_
  refine r_getJ hx hb hts hin hown hK hG 24 (by decide) rfl (hts (.fieldLink RX5 129 "LineEventsModel" "made" "J") (by decide +kernel)) (z := S0 24 0 0) (rfl) dX5_kept_6 ?_
  refine lv_aload_n hx hb dX5_kept_9 rfl (lv_at hl 0 rfl) ?_
  refine r_callV (As := []) (rest := [.long (zL (S0 24 0 0))]) ⟨hx, hb, hml, hown, hts⟩ (m_X5_within l D cI cJ A ad S0 hI0) (cwV 0 hts gX5_kept_X5_within rfl rfl rfl (by decide +kernel) ⟨Nat.le_of_ble_eq_true rfl, Nat.le_of_ble_eq_true rfl⟩) hK hG hS rfl hl.1 rfl (Nat.le_of_ble_eq_true rfl) dX5_kept_10 ⟨Nat.zero_le _, Nat.zero_le _⟩ (fun H locs hG hS => ?_)
  refine z_ladd hx hb dX5_kept_13 ?_
  refine lv_lstore_n (lv' := [(1, .long (zL ((S0 24 0 0) + (rwithin S0)))), (0, .ref (ad 32 0))]) hx hb dX5_kept_14 rfl hl (by decide) rfl (fun ls hl => ?_)
  refine lv_iconst (v := zI 1) hx hb dX5_kept_15 rfl ?_
  refine lv_istore_n (lv' := [(3, .int (zI 1)), (1, .long (zL ((S0 24 0 0) + (rwithin S0)))), (0, .ref (ad 32 0))]) hx hb dX5_kept_16 rfl hl (by decide) rfl (fun ls hl => ?_)
  refine lv_iconst (v := zI 0) hx hb dX5_kept_17 rfl ?_
  refine lv_istore (lv' := [(4, .int (zI 0)), (3, .int (zI 1)), (1, .long (zL ((S0 24 0 0) + (rwithin S0)))), (0, .ref (ad 32 0))]) hx hb dX5_kept_18 hl (by decide) rfl (fun ls hl => ?_)
  obtain ⟨k, hk0⟩ : ∃ k : Nat, k = 0 := ⟨0, rfl⟩
  obtain ⟨z, hz0⟩ : ∃ z : Int, z = S0 24 0 0 + rwithin S0 := ⟨_, rfl⟩
  obtain ⟨rb, hrb0⟩ : ∃ b : Bool, b = true := ⟨true, rfl⟩
  replace hl : lv_has ls 8 [(4, .int (zI (k : Int))), (3, .int (zI (bZ (rb = true)))), (1, .long (zL z)), (0, .ref (ad 32 0))] := by subst hk0; subst hz0; subst hrb0; exact hl
  obtain ⟨n, hn⟩ : ∃ n : Nat, (k : Int) + n = S0 5 0 0 := ⟨(S0 5 0 0).toNat, by omega⟩
  obtain ⟨K0, hK0⟩ : ∃ K, K = rkl S0 (S0 5 0 0).toNat 0 (S0 24 0 0 + rwithin S0) true := ⟨_, rfl⟩
  have hfin : rkeptV S0 = rkf S0 K0 := by rw [hK0]; rfl
  rw [hfin]
  have hv9 : rkl S0 n k z rb = K0 := by rw [hK0, hk0, hz0, hrb0]; congr 1; omega
  clear hk0 hz0 hrb0 hK0 hfin
  induction n generalizing k ls z rb with
  | zero =>
    refine lv_iload hx hb dX5_kept_20 (lv_at hl 0 rfl) ?_
    refine lv_aload_n hx hb dX5_kept_22 rfl (lv_at hl 3 rfl) ?_
    refine r_getI hx hb hts hin hown hK hG 5 (by decide) rfl (hts (.fieldLink RX5 91 "LineEventsModel" "machines" "I") (by decide +kernel)) (z := S0 5 0 0) (rfl) dX5_kept_23 ?_
    refine z_icmp_ge (tgt := 103) hx hb dX5_kept_26 (by decide) ⟨by omega, by omega⟩ ⟨by omega, by omega⟩ (fun c_1 => ?_) (fun c_1 => ?_)
    · refine lv_iload_n hx hb dX5_kept_103 rfl (lv_at hl 1 rfl) ?_
      refine z_ifb_eq (tgt := 120) hx hb dX5_kept_104 (by decide) (fun c_2 => ?_) (fun c_2 => ?_)
      · refine lv_iconst (v := zI 0) hx hb dX5_kept_120 rfl ?_
        have v9 : 0 = bZ (rkf S0 K0 = true) := by exact (bZ_f (by rw [← hv9, rkl]; unfold rkf; simp_all)).symm
        refine W.eq (congrArg (fun z => F0 m0 121 ls [.int (zI z)]) v9) ?_
        exact W.zret hx hb hr (zI_bool _) (fun t ht hW => ⟨rfl, ⟨by rw [ht]; exact hG, va_K.moved hW.alike hK⟩, hS.F ht⟩) hS.2.2 dX5_kept_121
      · refine lv_lload_n hx hb dX5_kept_107 rfl (lv_at hl 2 rfl) ?_
        refine lv_aload_n hx hb dX5_kept_108 rfl (lv_at hl 3 rfl) ?_
        refine r_getJ hx hb hts hin hown hK hG 23 (by decide) rfl (hts (.fieldLink RX5 132 "LineEventsModel" "begun" "J") (by decide +kernel)) (z := S0 23 0 0) (rfl) dX5_kept_109 ?_
        refine W.lcmp hx hb dX5_kept_112 ?_
        refine z_lifr_ne (tgt := 120) hx hb dX5_kept_113 (by decide) (fun c_3 => ?_) (fun c_3 => ?_)
        · refine lv_iconst (v := zI 0) hx hb dX5_kept_120 rfl ?_
          have v9 : 0 = bZ (rkf S0 K0 = true) := by exact (bZ_f (by rw [← hv9, rkl]; unfold rkf; simp_all)).symm
          refine W.eq (congrArg (fun z => F0 m0 121 ls [.int (zI z)]) v9) ?_
          exact W.zret hx hb hr (zI_bool _) (fun t ht hW => ⟨rfl, ⟨by rw [ht]; exact hG, va_K.moved hW.alike hK⟩, hS.F ht⟩) hS.2.2 dX5_kept_121
        · refine lv_iconst (v := zI 1) hx hb dX5_kept_116 rfl ?_
          refine lv_goto (tgt := 121) hx hb dX5_kept_117 (by decide) ?_
          have v9 : 1 = bZ (rkf S0 K0 = true) := by exact (bZ_t (by rw [← hv9, rkl]; unfold rkf; simp_all)).symm
          refine W.eq (congrArg (fun z => F0 m0 121 ls [.int (zI z)]) v9) ?_
          exact W.zret hx hb hr (zI_bool _) (fun t ht hW => ⟨rfl, ⟨by rw [ht]; exact hG, va_K.moved hW.alike hK⟩, hS.F ht⟩) hS.2.2 dX5_kept_121
    · exfalso; omega
  | succ n iho =>
    refine lv_iload hx hb dX5_kept_20 (lv_at hl 0 rfl) ?_
    refine lv_aload_n hx hb dX5_kept_22 rfl (lv_at hl 3 rfl) ?_
    refine r_getI hx hb hts hin hown hK hG 5 (by decide) rfl (hts (.fieldLink RX5 91 "LineEventsModel" "machines" "I") (by decide +kernel)) (z := S0 5 0 0) (rfl) dX5_kept_23 ?_
    refine z_icmp_ge (tgt := 103) hx hb dX5_kept_26 (by decide) ⟨by omega, by omega⟩ ⟨by omega, by omega⟩ (fun c_4 => ?_) (fun c_4 => ?_)
    · exfalso; omega
    · refine lv_lload_n hx hb dX5_kept_29 rfl (lv_at hl 2 rfl) ?_
      refine lv_aload_n hx hb dX5_kept_30 rfl (lv_at hl 3 rfl) ?_
      refine r_getA hx hb hts hin hown hK hG 22 (by decide) (by decide) (hts (.fieldLink RX5 71 "LineEventsModel" "rejects" "[J") (by decide +kernel)) dX5_kept_31 ?_
      refine lv_iload hx hb dX5_kept_34 (lv_at hl 0 rfl) ?_
      refine r_lald hx hb hK hG 22 (by decide) rfl k 0 (by simp only [show rW 22 = 1 from rfl]; omega) (by simp only [show rN 22 = 12 from rfl]; omega) (by simp only [show rW 22 = 1 from rfl]; omega) (w := S0 22 k 0) (rfl) dX5_kept_36 ?_
      refine z_ladd hx hb dX5_kept_37 ?_
      refine lv_lstore_n (lv' := [(1, .long (zL (z + (S0 22 k 0)))), (4, .int (zI (k : Int))), (3, .int (zI (bZ (rb = true)))), (0, .ref (ad 32 0))]) hx hb dX5_kept_38 rfl hl (by decide) rfl (fun ls hl => ?_)
      refine lv_lconst (v := zL 0) hx hb dX5_kept_39 (by decide) ?_
      refine lv_lstore (lv' := [(5, .long (zL 0)), (1, .long (zL (z + (S0 22 k 0)))), (4, .int (zI (k : Int))), (3, .int (zI (bZ (rb = true)))), (0, .ref (ad 32 0))]) hx hb dX5_kept_40 hl (by decide) rfl (fun ls hl => ?_)
      refine lv_iconst (v := zI 0) hx hb dX5_kept_42 rfl ?_
      refine lv_istore (lv' := [(7, .int (zI 0)), (5, .long (zL 0)), (1, .long (zL (z + (S0 22 k 0)))), (4, .int (zI (k : Int))), (3, .int (zI (bZ (rb = true)))), (0, .ref (ad 32 0))]) hx hb dX5_kept_43 hl (by decide) rfl (fun ls hl => ?_)
      obtain ⟨j, hj0⟩ : ∃ k : Nat, k = 0 := ⟨0, rfl⟩
      obtain ⟨q, hq0⟩ : ∃ z : Int, z = 0 := ⟨0, rfl⟩
      replace hl : lv_has ls 8 [(7, .int (zI (j : Int))), (5, .long (zL q)), (1, .long (zL (z + (S0 22 k 0)))), (4, .int (zI (k : Int))), (3, .int (zI (bZ (rb = true)))), (0, .ref (ad 32 0))] := by subst hj0; subst hq0; exact hl
      obtain ⟨r, hr0⟩ : ∃ n : Nat, (j : Int) + n = 12 := ⟨12, by omega⟩
      have hs9 : rsum S0 k r j q = rsum S0 k 12 0 0 := by subst hj0; subst hq0; congr 1; omega
      clear hj0 hq0
      induction r generalizing j ls q with
      | zero =>
        replace hs9 : q = rsum S0 k 12 0 0 := hs9
        refine lv_iload hx hb dX5_kept_45 (lv_at hl 0 rfl) ?_
        refine lv_bipush (v := zI 12) hx hb dX5_kept_47 (by decide) ?_
        refine z_icmp_ge (tgt := 76) hx hb dX5_kept_49 (by decide) ⟨by omega, by omega⟩ ⟨by decide, by decide⟩ (fun c_5 => ?_) (fun c_5 => ?_)
        · refine lv_iload_n hx hb dX5_kept_76 rfl (lv_at hl 4 rfl) ?_
          refine z_ifb_eq (tgt := 95) hx hb dX5_kept_77 (by decide) (fun c_6 => ?_) (fun c_6 => ?_)
          · refine lv_iconst (v := zI 0) hx hb dX5_kept_95 rfl ?_
            refine lv_istore_n (lv' := [(3, .int (zI 0)), (7, .int (zI (j : Int))), (5, .long (zL q)), (1, .long (zL (z + (S0 22 k 0)))), (4, .int (zI (k : Int))), (0, .ref (ad 32 0))]) hx hb dX5_kept_96 rfl hl (by decide) rfl (fun ls hl => ?_)
            refine lv_iinc (v := zI ((k : Int) + 1)) (lv' := [(4, .int (zI ((k : Int) + 1))), (3, .int (zI 0)), (7, .int (zI (j : Int))), (5, .long (zL q)), (1, .long (zL (z + (S0 22 k 0)))), (0, .ref (ad 32 0))]) hx hb dX5_kept_97 hl (k := 4) rfl (by rw [show Int32.ofInt 1 = zI 1 from rfl, zI_add]) (by decide) rfl (fun ls hl => ?_)
            refine lv_goto (tgt := 20) hx hb dX5_kept_100 (by decide) ?_
            have hb9 : (rb && decide (zL (rsum S0 k 12 0 0) = zL (S0 25 0 0))) = false := by rw [← hs9]; simp_all
            replace hl : lv_has ls 8 [(4, .int (zI ((k + 1 : Nat) : Int))), (3, .int (zI (bZ ((rb && decide (zL (rsum S0 k 12 0 0) = zL (S0 25 0 0))) = true)))), (1, .long (zL (z + (S0 22 k 0)))), (0, .ref (ad 32 0))] := by rw [hb9]; exact lv_sub hl [0, 1, 4, 5] rfl
            exact iho (k := k + 1) (ls := ls) (z := z + (S0 22 k 0)) (rb := (rb && decide (zL (rsum S0 k 12 0 0) = zL (S0 25 0 0)))) (hl := hl) (hn := by omega) (hv9 := by rw [← hv9, rkl])
          · refine lv_lload hx hb dX5_kept_80 (lv_at hl 1 rfl) ?_
            refine lv_aload_n hx hb dX5_kept_82 rfl (lv_at hl 5 rfl) ?_
            refine r_getI hx hb hts hin hown hK hG 25 (by decide) rfl (hts (.fieldLink RX5 94 "LineEventsModel" "now" "I") (by decide +kernel)) (z := S0 25 0 0) (rfl) dX5_kept_83 ?_
            refine z_i2l hx hb dX5_kept_86 ⟨by omega, by omega⟩ ?_
            refine W.lcmp hx hb dX5_kept_87 ?_
            refine z_lifr_ne (tgt := 95) hx hb dX5_kept_88 (by decide) (fun c_7 => ?_) (fun c_7 => ?_)
            · refine lv_iconst (v := zI 0) hx hb dX5_kept_95 rfl ?_
              refine lv_istore_n (lv' := [(3, .int (zI 0)), (7, .int (zI (j : Int))), (5, .long (zL q)), (1, .long (zL (z + (S0 22 k 0)))), (4, .int (zI (k : Int))), (0, .ref (ad 32 0))]) hx hb dX5_kept_96 rfl hl (by decide) rfl (fun ls hl => ?_)
              refine lv_iinc (v := zI ((k : Int) + 1)) (lv' := [(4, .int (zI ((k : Int) + 1))), (3, .int (zI 0)), (7, .int (zI (j : Int))), (5, .long (zL q)), (1, .long (zL (z + (S0 22 k 0)))), (0, .ref (ad 32 0))]) hx hb dX5_kept_97 hl (k := 4) rfl (by rw [show Int32.ofInt 1 = zI 1 from rfl, zI_add]) (by decide) rfl (fun ls hl => ?_)
              refine lv_goto (tgt := 20) hx hb dX5_kept_100 (by decide) ?_
              have hb9 : (rb && decide (zL (rsum S0 k 12 0 0) = zL (S0 25 0 0))) = false := by rw [← hs9]; simp_all
              replace hl : lv_has ls 8 [(4, .int (zI ((k + 1 : Nat) : Int))), (3, .int (zI (bZ ((rb && decide (zL (rsum S0 k 12 0 0) = zL (S0 25 0 0))) = true)))), (1, .long (zL (z + (S0 22 k 0)))), (0, .ref (ad 32 0))] := by rw [hb9]; exact lv_sub hl [0, 1, 4, 5] rfl
              exact iho (k := k + 1) (ls := ls) (z := z + (S0 22 k 0)) (rb := (rb && decide (zL (rsum S0 k 12 0 0) = zL (S0 25 0 0)))) (hl := hl) (hn := by omega) (hv9 := by rw [← hv9, rkl])
            · refine lv_iconst (v := zI 1) hx hb dX5_kept_91 rfl ?_
              refine lv_goto (tgt := 96) hx hb dX5_kept_92 (by decide) ?_
              refine lv_istore_n (lv' := [(3, .int (zI 1)), (7, .int (zI (j : Int))), (5, .long (zL q)), (1, .long (zL (z + (S0 22 k 0)))), (4, .int (zI (k : Int))), (0, .ref (ad 32 0))]) hx hb dX5_kept_96 rfl hl (by decide) rfl (fun ls hl => ?_)
              refine lv_iinc (v := zI ((k : Int) + 1)) (lv' := [(4, .int (zI ((k : Int) + 1))), (3, .int (zI 1)), (7, .int (zI (j : Int))), (5, .long (zL q)), (1, .long (zL (z + (S0 22 k 0)))), (0, .ref (ad 32 0))]) hx hb dX5_kept_97 hl (k := 4) rfl (by rw [show Int32.ofInt 1 = zI 1 from rfl, zI_add]) (by decide) rfl (fun ls hl => ?_)
              refine lv_goto (tgt := 20) hx hb dX5_kept_100 (by decide) ?_
              have hb9 : (rb && decide (zL (rsum S0 k 12 0 0) = zL (S0 25 0 0))) = true := by rw [← hs9]; simp_all
              replace hl : lv_has ls 8 [(4, .int (zI ((k + 1 : Nat) : Int))), (3, .int (zI (bZ ((rb && decide (zL (rsum S0 k 12 0 0) = zL (S0 25 0 0))) = true)))), (1, .long (zL (z + (S0 22 k 0)))), (0, .ref (ad 32 0))] := by rw [hb9]; exact lv_sub hl [0, 1, 4, 5] rfl
              exact iho (k := k + 1) (ls := ls) (z := z + (S0 22 k 0)) (rb := (rb && decide (zL (rsum S0 k 12 0 0) = zL (S0 25 0 0)))) (hl := hl) (hn := by omega) (hv9 := by rw [← hv9, rkl])
        · exfalso; omega
      | succ r ih2 =>
        refine lv_iload hx hb dX5_kept_45 (lv_at hl 0 rfl) ?_
        refine lv_bipush (v := zI 12) hx hb dX5_kept_47 (by decide) ?_
        refine z_icmp_ge (tgt := 76) hx hb dX5_kept_49 (by decide) ⟨by omega, by omega⟩ ⟨by decide, by decide⟩ (fun c_8 => ?_) (fun c_8 => ?_)
        · exfalso; omega
        · refine lv_lload hx hb dX5_kept_52 (lv_at hl 1 rfl) ?_
          refine lv_aload_n hx hb dX5_kept_54 rfl (lv_at hl 5 rfl) ?_
          refine r_getA hx hb hts hin hown hK hG 21 (by decide) (by decide) (hts (.fieldLink RX5 68 "LineEventsModel" "times" "[J") (by decide +kernel)) dX5_kept_55 ?_
          refine lv_iload hx hb dX5_kept_58 (lv_at hl 3 rfl) ?_
          refine lv_bipush (v := zI 12) hx hb dX5_kept_60 (by decide) ?_
          refine z_imul hx hb dX5_kept_62 ?_
          refine lv_iload hx hb dX5_kept_63 (lv_at hl 0 rfl) ?_
          refine z_iadd hx hb dX5_kept_65 ?_
          refine r_lald hx hb hK hG 21 (by decide) rfl k j (by simp only [show rW 21 = 12 from rfl]; omega) (by simp only [show rN 21 = 12 from rfl]; omega) (by simp only [show rW 21 = 12 from rfl]; omega) (w := S0 21 k j) (rfl) dX5_kept_66 ?_
          refine z_ladd hx hb dX5_kept_67 ?_
          refine lv_lstore (lv' := [(5, .long (zL (q + (S0 21 k j)))), (7, .int (zI (j : Int))), (1, .long (zL (z + (S0 22 k 0)))), (4, .int (zI (k : Int))), (3, .int (zI (bZ (rb = true)))), (0, .ref (ad 32 0))]) hx hb dX5_kept_68 hl (by decide) rfl (fun ls hl => ?_)
          refine lv_iinc (v := zI ((j : Int) + 1)) (lv' := [(7, .int (zI ((j : Int) + 1))), (5, .long (zL (q + (S0 21 k j)))), (1, .long (zL (z + (S0 22 k 0)))), (4, .int (zI (k : Int))), (3, .int (zI (bZ (rb = true)))), (0, .ref (ad 32 0))]) hx hb dX5_kept_70 hl (k := 1) rfl (by rw [show Int32.ofInt 1 = zI 1 from rfl, zI_add]) (by decide) rfl (fun ls hl => ?_)
          refine lv_goto (tgt := 45) hx hb dX5_kept_73 (by decide) ?_
          exact ih2 (j := j + 1) (ls := ls) (q := q + (S0 21 k j)) (hl := lv_sub hl [0, 1, 2, 3, 4, 5] rfl) (hr0 := by omega) (hs9 := by rw [← hs9, rsum])
