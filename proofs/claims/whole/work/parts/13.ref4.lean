set_option maxHeartbeats 4000000 in
set_option maxRecDepth 100000 in
theorem m_X5_judge (l : Launch) (D : va_G) (cI cJ : ClassId) (A : Nat → Prop) (ad : Nat → Nat → Nat) (S : Nat → Nat → Nat → Int) (m : Nat) (hI : Inv S) (hm : (m : Int) < S 5 0 0) (he : 0 ≤ S 30 0 0 ∧ S 30 0 0 < 2147483647) : Met l yX5_judge wsX5_judge ({ frames := 1, cells := 0, slots := 0, locals := 22 }) (va_Pc [.ref (ad 32 0), .int (zI (m : Int))] (gRU D cI cJ A ad S)) (gO (some (.int (zI (bZ ((rjudge S m).2 = true))))) (gRU D cI cJ A ad ((rjudge S m).1)) A) 0 0 A := by
  refine Met.ofW (cc := cX5_judge) (maxL := 6) (ret := (some .boolean)) (by decide) rfl ?_
  intro p e s m0 args below meth c s₁ B hml hv
  obtain ⟨rfl, hG, hK⟩ := hv
  have hx := B.exec
  have hb := B.bytes
  have hr := B.returns
  have hts := atoms_spec (ws := wsX5_judge) B.pre
  have hown : s.vm.findClass RX5 = some m0.cls := findClass_of_methodNamed B.named
  have hlocks := B.notSynchronized
  have hin : ∀ w ∈ wsX50, w ∈ wsX5_judge := by decide +kernel
  have hS : va_S A s.heap s.heap [] := va_S.rf
  have hl := lv_entry ([.ref (ad 32 0), .int (zI (m : Int))]) (n := 6) (Nat.le_of_ble_eq_true rfl)
  rw [lg_entry_eq]
  generalize (lg_sl ([.ref (ad 32 0), .int (zI (m : Int))]) ++ List.replicate (6 - (lg_sl ([.ref (ad 32 0), .int (zI (m : Int))])).length) Slot.unset).toArray = ls at hl ⊢
  replace hl : lv_has ls 6 [(0, .ref (ad 32 0)), (1, .int (zI (m : Int)))] := hl
  obtain ⟨hI5, hI25, hI20, hIM, hIL, hIR⟩ := id hI
  have hm12 : m < 12 := by omega
  obtain ⟨hM6, hM7, hM8, hM10, hM11, hM15, hM9, hMf⟩ := id (hIM m hm12)
  obtain ⟨hL0, hL1, hL2, hL3, hL4⟩ := id (hIL m hm)
  refine lv_aload_n hx hb dX5_judge_0 rfl (lv_at hl 0 rfl) ?_
  refine r_getA hx hb hts hin hown hK hG 6 (by decide) (by decide) (hts (.fieldLink RX5 25 "LineEventsModel" "bottle" "[I") (by decide +kernel)) dX5_judge_1 ?_
  refine lv_iload_n hx hb dX5_judge_4 rfl (lv_at hl 1 rfl) ?_
  refine lv_iconst (v := zI 2) hx hb dX5_judge_5 rfl ?_
  refine r_iast hx hb hK hG hS 6 (by decide) rfl m 0 (by simp only [show rW 6 = 1 from rfl]; omega) (by simp only [show rN 6 = 12 from rfl]; omega) (by simp only [show rW 6 = 1 from rfl]; omega) (w := 2) dX5_judge_6 (fun H locs hG hS => ?_)
  refine lv_iconst (v := zI 0) hx hb dX5_judge_7 rfl ?_
  refine lv_istore_n (lv' := [(2, .int (zI 0)), (0, .ref (ad 32 0)), (1, .int (zI (m : Int)))]) hx hb dX5_judge_8 rfl hl (by decide) rfl (fun ls hl => ?_)
  refine lv_iconst (v := zI 0) hx hb dX5_judge_9 rfl ?_
  refine lv_istore_n (lv' := [(3, .int (zI 0)), (2, .int (zI 0)), (0, .ref (ad 32 0)), (1, .int (zI (m : Int)))]) hx hb dX5_judge_10 rfl hl (by decide) rfl (fun ls hl => ?_)
  generalize hT0 : su S 6 m 0 2 = T at hG
  have hTI : Inv T := by rw [← hT0]; exact Inv_6 hI (by omega)
  have hTm : (m : Int) < T 5 0 0 := by rw [← hT0]; exact hm
  have hTe : 0 ≤ T 30 0 0 ∧ T 30 0 0 < 2147483647 := by rw [← hT0]; exact he
  obtain ⟨J0, hJ0⟩ : ∃ J, J = rjl m (S 15 m 0).toNat 0 (su S 6 m 0 2) 0 := ⟨_, rfl⟩
  have hfin : rjudge S m = rjfin m J0 := by rw [hJ0]; rfl
  rw [hfin]
  obtain ⟨k, hk0⟩ : ∃ k : Nat, k = 0 := ⟨0, rfl⟩
  obtain ⟨lg, hlg0⟩ : ∃ z : Int, z = 0 := ⟨0, rfl⟩
  have hlg : 0 ≤ lg ∧ lg ≤ 100000 := by omega
  replace hl : lv_has ls 6 [(3, .int (zI (k : Int))), (2, .int (zI lg)), (0, .ref (ad 32 0)), (1, .int (zI (m : Int)))] := by subst hk0; subst hlg0; exact hl
  obtain ⟨n, hn⟩ : ∃ n : Nat, (k : Int) + n = T 15 m 0 := ⟨(S 15 m 0).toNat, by rw [← hT0, show su S 6 m 0 2 15 m 0 = S 15 m 0 from rfl]; omega⟩
  have hv9 : rjl m n k T lg = J0 := by
    have e1 : n = (S 15 m 0).toNat := by rw [← hT0, show su S 6 m 0 2 15 m 0 = S 15 m 0 from rfl] at hn; omega
    rw [hJ0, ← hT0, e1, hk0, hlg0]
  clear hk0 hlg0 hT0 hJ0 hfin
  clear hI hM6 hM7 hM8 hM10 hM11 hM15 hM9 hMf hL0 hL1 hL2 hL3 hL4 hIM hIL hIR hI5 hI25 hI20
  induction n generalizing k ls T lg H locs with
  | zero =>
    obtain ⟨hI5, hI25, hI20, hIM, hIL, hIR⟩ := id hTI
    obtain ⟨hM6, hM7, hM8, hM10, hM11, hM15, hM9, hMf⟩ := id (hIM m hm12)
    refine lv_iload_n hx hb dX5_judge_11 rfl (lv_at hl 0 rfl) ?_
    refine lv_aload_n hx hb dX5_judge_12 rfl (lv_at hl 2 rfl) ?_
    refine r_getA hx hb hts hin hown hK hG 15 (by decide) (by decide) (hts (.fieldLink RX5 53 "LineEventsModel" "faults" "[I") (by decide +kernel)) dX5_judge_13 ?_
    refine lv_iload_n hx hb dX5_judge_16 rfl (lv_at hl 3 rfl) ?_
    refine r_iald hx hb hK hG 15 (by decide) rfl m 0 (by simp only [show rW 15 = 1 from rfl]; omega) (by simp only [show rN 15 = 12 from rfl]; omega) (by simp only [show rW 15 = 1 from rfl]; omega) (w := T 15 m 0) (rfl) dX5_judge_17 ?_
    refine z_icmp_ge (tgt := 131) hx hb dX5_judge_18 (by decide) ⟨by omega, by omega⟩ ⟨by omega, by omega⟩ (fun c_1 => ?_) (fun c_1 => ?_)
    · refine lv_iload_n hx hb dX5_judge_131 rfl (lv_at hl 1 rfl) ?_
      refine z_if_le (tgt := 153) hx hb dX5_judge_132 (by decide) ⟨by omega, by omega⟩ (fun c_2 => ?_) (fun c_2 => ?_)
      · refine lv_iload_n hx hb dX5_judge_153 rfl (lv_at hl 1 rfl) ?_
        refine z_if_le (tgt := 161) hx hb dX5_judge_154 (by decide) ⟨by omega, by omega⟩ (fun c_3 => ?_) (fun c_3 => ?_)
        · refine lv_iconst (v := zI 0) hx hb dX5_judge_161 rfl ?_
          have e9 : T = (rjfin m J0).1 := by rw [← hv9, rjl]; unfold rjfin; rw [if_neg Bool.false_ne_true, if_neg (show ¬ 0 < lg by omega)]
          rw [e9] at hG
          have v9 : 0 = bZ ((rjfin m J0).2 = true) := by first | exact (bZ_f (by rw [← hv9, rjl]; unfold rjfin; rw [if_neg Bool.false_ne_true, if_neg (show ¬ 0 < lg by omega)]; exact Bool.false_ne_true)).symm | (exfalso; omega)
          refine W.eq (congrArg (fun z => F0 m0 162 ls [.int (zI z)]) v9) ?_
          exact W.zret hx hb hr (zI_bool _) (fun t ht hW => ⟨rfl, ⟨by rw [ht]; exact hG, va_K.moved hW.alike hK⟩, hS.F ht⟩) hS.2.2 dX5_judge_162
        · refine lv_iconst (v := zI 1) hx hb dX5_judge_157 rfl ?_
          refine lv_goto (tgt := 162) hx hb dX5_judge_158 (by decide) ?_
          have e9 : T = (rjfin m J0).1 := by rw [← hv9, rjl]; unfold rjfin; rw [if_neg Bool.false_ne_true, if_neg (show ¬ 0 < lg by omega)]
          rw [e9] at hG
          have v9 : 1 = bZ ((rjfin m J0).2 = true) := by first | exact (bZ_f (by rw [← hv9, rjl]; unfold rjfin; rw [if_neg Bool.false_ne_true, if_neg (show ¬ 0 < lg by omega)]; exact Bool.false_ne_true)).symm | (exfalso; omega)
          refine W.eq (congrArg (fun z => F0 m0 162 ls [.int (zI z)]) v9) ?_
          exact W.zret hx hb hr (zI_bool _) (fun t ht hW => ⟨rfl, ⟨by rw [ht]; exact hG, va_K.moved hW.alike hK⟩, hS.F ht⟩) hS.2.2 dX5_judge_162
      · refine lv_aload_n hx hb dX5_judge_135 rfl (lv_at hl 2 rfl) ?_
        refine r_getA hx hb hts hin hown hK hG 8 (by decide) (by decide) (hts (.fieldLink RX5 31 "LineEventsModel" "faultEnd" "[I") (by decide +kernel)) dX5_judge_136 ?_
        refine lv_iload_n hx hb dX5_judge_139 rfl (lv_at hl 3 rfl) ?_
        refine lv_aload_n hx hb dX5_judge_140 rfl (lv_at hl 2 rfl) ?_
        refine r_getI hx hb hts hin hown hK hG 25 (by decide) rfl (hts (.fieldLink RX5 94 "LineEventsModel" "now" "I") (by decide +kernel)) (z := T 25 0 0) (rfl) dX5_judge_141 ?_
        refine lv_iload_n hx hb dX5_judge_144 rfl (lv_at hl 1 rfl) ?_
        refine z_iadd hx hb dX5_judge_145 ?_
        refine r_iast hx hb hK hG hS 8 (by decide) rfl m 0 (by simp only [show rW 8 = 1 from rfl]; omega) (by simp only [show rN 8 = 12 from rfl]; omega) (by simp only [show rW 8 = 1 from rfl]; omega) (w := (T 25 0 0) + lg) dX5_judge_146 (fun H locs hG hS => ?_)
        refine lv_aload_n hx hb dX5_judge_147 rfl (lv_at hl 2 rfl) ?_
        refine lv_iload_n hx hb dX5_judge_148 rfl (lv_at hl 3 rfl) ?_
        refine lv_iconst (v := zI 3) hx hb dX5_judge_149 rfl ?_
        refine r_callV (As := [.int (zI (m : Int)), .int (zI 3)]) (rest := []) ⟨hx, hb, hml, hown, hts⟩ (m_X5_note l D cI cJ A ad (su T 8 m 0 ((T 25 0 0) + lg)) m 3 (by simpa [su] using hTe)) (cwV 2 hts gX5_judge_X5_note rfl rfl rfl (by decide +kernel) ⟨Nat.le_of_ble_eq_true rfl, Nat.le_of_ble_eq_true rfl⟩) hK hG hS rfl hl.1 rfl (Nat.le_of_ble_eq_true rfl) dX5_judge_150 ⟨Nat.zero_le _, Nat.zero_le _⟩ (fun H locs hG hS => ?_)
        refine lv_iload_n hx hb dX5_judge_153 rfl (lv_at hl 1 rfl) ?_
        refine z_if_le (tgt := 161) hx hb dX5_judge_154 (by decide) ⟨by omega, by omega⟩ (fun c_4 => ?_) (fun c_4 => ?_)
        · refine lv_iconst (v := zI 0) hx hb dX5_judge_161 rfl ?_
          have e9 : rnote (su T 8 m 0 ((T 25 0 0) + lg)) m 3 = (rjfin m J0).1 := by rw [← hv9, rjl]; unfold rjfin; rw [if_neg Bool.false_ne_true, if_pos (show 0 < lg by omega)]
          rw [e9] at hG
          have v9 : 0 = bZ ((rjfin m J0).2 = true) := by first | exact (bZ_t (by rw [← hv9, rjl]; unfold rjfin; rw [if_neg Bool.false_ne_true, if_pos (show 0 < lg by omega)])).symm | (exfalso; omega)
          refine W.eq (congrArg (fun z => F0 m0 162 ls [.int (zI z)]) v9) ?_
          exact W.zret hx hb hr (zI_bool _) (fun t ht hW => ⟨rfl, ⟨by rw [ht]; exact hG, va_K.moved hW.alike hK⟩, hS.F ht⟩) hS.2.2 dX5_judge_162
        · refine lv_iconst (v := zI 1) hx hb dX5_judge_157 rfl ?_
          refine lv_goto (tgt := 162) hx hb dX5_judge_158 (by decide) ?_
          have e9 : rnote (su T 8 m 0 ((T 25 0 0) + lg)) m 3 = (rjfin m J0).1 := by rw [← hv9, rjl]; unfold rjfin; rw [if_neg Bool.false_ne_true, if_pos (show 0 < lg by omega)]
          rw [e9] at hG
          have v9 : 1 = bZ ((rjfin m J0).2 = true) := by first | exact (bZ_t (by rw [← hv9, rjl]; unfold rjfin; rw [if_neg Bool.false_ne_true, if_pos (show 0 < lg by omega)])).symm | (exfalso; omega)
          refine W.eq (congrArg (fun z => F0 m0 162 ls [.int (zI z)]) v9) ?_
          exact W.zret hx hb hr (zI_bool _) (fun t ht hW => ⟨rfl, ⟨by rw [ht]; exact hG, va_K.moved hW.alike hK⟩, hS.F ht⟩) hS.2.2 dX5_judge_162
    · exfalso; omega
  | succ n ih =>
    obtain ⟨hI5, hI25, hI20, hIM, hIL, hIR⟩ := id hTI
    obtain ⟨hM6, hM7, hM8, hM10, hM11, hM15, hM9, hMf⟩ := id (hIM m hm12)
    refine lv_iload_n hx hb dX5_judge_11 rfl (lv_at hl 0 rfl) ?_
    refine lv_aload_n hx hb dX5_judge_12 rfl (lv_at hl 2 rfl) ?_
    refine r_getA hx hb hts hin hown hK hG 15 (by decide) (by decide) (hts (.fieldLink RX5 53 "LineEventsModel" "faults" "[I") (by decide +kernel)) dX5_judge_13 ?_
    refine lv_iload_n hx hb dX5_judge_16 rfl (lv_at hl 3 rfl) ?_
    refine r_iald hx hb hK hG 15 (by decide) rfl m 0 (by simp only [show rW 15 = 1 from rfl]; omega) (by simp only [show rN 15 = 12 from rfl]; omega) (by simp only [show rW 15 = 1 from rfl]; omega) (w := T 15 m 0) (rfl) dX5_judge_17 ?_
    refine z_icmp_ge (tgt := 131) hx hb dX5_judge_18 (by decide) ⟨by omega, by omega⟩ ⟨by omega, by omega⟩ (fun c_5 => ?_) (fun c_5 => ?_)
    · exfalso; omega
    · obtain ⟨hf12, hf13, hf14, hf1⟩ := hMf k (by omega)
      refine lv_iload_n hx hb dX5_judge_21 rfl (lv_at hl 3 rfl) ?_
      refine lv_iconst (v := zI 4) hx hb dX5_judge_22 rfl ?_
      refine z_imul hx hb dX5_judge_23 ?_
      refine lv_iload_n hx hb dX5_judge_24 rfl (lv_at hl 0 rfl) ?_
      refine z_iadd hx hb dX5_judge_25 ?_
      refine lv_istore (lv' := [(4, .int (zI (((m : Int) * 4) + (k : Int)))), (3, .int (zI (k : Int))), (2, .int (zI lg)), (0, .ref (ad 32 0)), (1, .int (zI (m : Int)))]) hx hb dX5_judge_26 hl (by decide) rfl (fun ls hl => ?_)
      refine lv_aload_n hx hb dX5_judge_28 rfl (lv_at hl 3 rfl) ?_
      refine lv_aload_n hx hb dX5_judge_29 rfl (lv_at hl 3 rfl) ?_
      refine r_getA hx hb hts hin hown hK hG 13 (by decide) (by decide) (hts (.fieldLink RX5 47 "LineEventsModel" "faultBelow" "[J") (by decide +kernel)) dX5_judge_30 ?_
      refine lv_iload hx hb dX5_judge_33 (lv_at hl 0 rfl) ?_
      refine r_lald hx hb hK hG 13 (by decide) rfl m k (by simp only [show rW 13 = 4 from rfl]; omega) (by simp only [show rN 13 = 12 from rfl]; omega) (by simp only [show rW 13 = 4 from rfl]; omega) (w := T 13 m k) (rfl) dX5_judge_35 ?_
      refine r_callV (As := [.long (zL (T 13 m k))]) (rest := []) ⟨hx, hb, hml, hown, hts⟩ (m_X5_draw l D cI cJ A ad T (T 13 m k) ⟨by omega, by omega⟩) (cwV 1 hts gX5_judge_X5_draw rfl rfl rfl (by decide +kernel) ⟨Nat.le_of_ble_eq_true rfl, Nat.le_of_ble_eq_true rfl⟩) hK hG hS rfl hl.1 rfl (Nat.le_of_ble_eq_true rfl) dX5_judge_36 ⟨Nat.zero_le _, Nat.zero_le _⟩ (fun H locs hG hS => ?_)
      replace hG : gR D cI cJ A ad (su T 26 0 0 (T 26 0 0 * 6364136223846793005 + 1442695040888963407)) H := hG
      have hd9 := rdv_B T (b := T 13 m k) (by omega)
      refine lv_aload_n hx hb dX5_judge_39 rfl (lv_at hl 3 rfl) ?_
      refine r_getA hx hb hts hin hown hK hG 12 (by decide) (by decide) (hts (.fieldLink RX5 43 "LineEventsModel" "faultAbove" "[J") (by decide +kernel)) dX5_judge_40 ?_
      refine lv_iload hx hb dX5_judge_43 (lv_at hl 0 rfl) ?_
      refine r_lald hx hb hK hG 12 (by decide) rfl m k (by simp only [show rW 12 = 4 from rfl]; omega) (by simp only [show rN 12 = 12 from rfl]; omega) (by simp only [show rW 12 = 4 from rfl]; omega) (w := T 12 m k) (by simp [su]) dX5_judge_45 ?_
      refine W.lcmp hx hb dX5_judge_46 ?_
      refine z_lif_ge (tgt := 54) hx hb dX5_judge_47 (by decide) ⟨by omega, by omega⟩ ⟨by omega, by omega⟩ (fun c_6 => ?_) (fun c_6 => ?_)
      · refine lv_iconst (v := zI 0) hx hb dX5_judge_54 rfl ?_
        refine lv_istore (lv' := [(5, .int (zI 0)), (4, .int (zI (((m : Int) * 4) + (k : Int)))), (3, .int (zI (k : Int))), (2, .int (zI lg)), (0, .ref (ad 32 0)), (1, .int (zI (m : Int)))]) hx hb dX5_judge_55 hl (by decide) rfl (fun ls hl => ?_)
        refine lv_iload hx hb dX5_judge_57 (lv_at hl 0 rfl) ?_
        refine z_if_eq (tgt := 97) hx hb dX5_judge_59 (by decide) ⟨by decide, by decide⟩ (fun _ => ?_) (fun q => absurd q (by decide))
        refine lv_iload hx hb dX5_judge_97 (lv_at hl 0 rfl) ?_
        refine z_if_eq (tgt := 123) hx hb dX5_judge_99 (by decide) ⟨by decide, by decide⟩ (fun _ => ?_) (fun q => absurd q (by decide))
        refine lv_iload_n hx hb dX5_judge_123 rfl (lv_at hl 3 rfl) ?_
        refine lv_istore_n (lv' := [(2, .int (zI lg)), (5, .int (zI 0)), (4, .int (zI (((m : Int) * 4) + (k : Int)))), (3, .int (zI (k : Int))), (0, .ref (ad 32 0)), (1, .int (zI (m : Int)))]) hx hb dX5_judge_124 rfl hl (by decide) rfl (fun ls hl => ?_)
        refine lv_iinc (v := zI ((k : Int) + 1)) (lv' := [(3, .int (zI ((k : Int) + 1))), (2, .int (zI lg)), (5, .int (zI 0)), (4, .int (zI (((m : Int) * 4) + (k : Int)))), (0, .ref (ad 32 0)), (1, .int (zI (m : Int)))]) hx hb dX5_judge_125 hl (k := 3) rfl (by rw [show Int32.ofInt 1 = zI 1 from rfl, zI_add]) (by decide) rfl (fun ls hl => ?_)
        refine lv_goto (tgt := 11) hx hb dX5_judge_128 (by decide) ?_
        exact ih (k := k + 1) (ls := ls) (T := rdraw T) (lg := lg) (H := H) (locs := locs) (hG := hG) (hS := hS) (hTI := hTI) (hTm := hTm) (hTe := hTe) (hlg := by omega) (hl := lv_sub hl [0, 1, 4, 5] rfl) (hn := by rw [show rdraw T 15 m 0 = T 15 m 0 from rfl]; omega) (hv9 := by rw [← hv9, rjl]; first | rw [if_neg (by omega)] | rw [if_pos (by omega), if_neg (by omega), if_pos (by omega)] | rw [if_pos (by omega), if_neg (by omega), if_neg (by omega)])
      · refine lv_iconst (v := zI 1) hx hb dX5_judge_50 rfl ?_
        refine lv_goto (tgt := 55) hx hb dX5_judge_51 (by decide) ?_
        refine lv_istore (lv' := [(5, .int (zI 1)), (4, .int (zI (((m : Int) * 4) + (k : Int)))), (3, .int (zI (k : Int))), (2, .int (zI lg)), (0, .ref (ad 32 0)), (1, .int (zI (m : Int)))]) hx hb dX5_judge_55 hl (by decide) rfl (fun ls hl => ?_)
        refine lv_iload hx hb dX5_judge_57 (lv_at hl 0 rfl) ?_
        refine z_if_eq (tgt := 97) hx hb dX5_judge_59 (by decide) ⟨by decide, by decide⟩ (fun q => absurd q (by decide)) (fun _ => ?_)
        refine lv_aload_n hx hb dX5_judge_62 rfl (lv_at hl 4 rfl) ?_
        refine r_getA hx hb hts hin hown hK hG 14 (by decide) (by decide) (hts (.fieldLink RX5 50 "LineEventsModel" "faultTenths" "[I") (by decide +kernel)) dX5_judge_63 ?_
        refine lv_iload hx hb dX5_judge_66 (lv_at hl 1 rfl) ?_
        refine r_iald hx hb hK hG 14 (by decide) rfl m k (by simp only [show rW 14 = 4 from rfl]; omega) (by simp only [show rN 14 = 12 from rfl]; omega) (by simp only [show rW 14 = 4 from rfl]; omega) (w := T 14 m k) (by simp [su]) dX5_judge_68 ?_
        refine z_if_ne (tgt := 97) hx hb dX5_judge_69 (by decide) ⟨by omega, by omega⟩ (fun c_10 => ?_) (fun c_10 => ?_)
        · refine lv_iload hx hb dX5_judge_97 (lv_at hl 0 rfl) ?_
          refine z_if_eq (tgt := 123) hx hb dX5_judge_99 (by decide) ⟨by decide, by decide⟩ (fun q => absurd q (by decide)) (fun _ => ?_)
          refine lv_aload_n hx hb dX5_judge_102 rfl (lv_at hl 4 rfl) ?_
          refine r_getA hx hb hts hin hown hK hG 14 (by decide) (by decide) (hts (.fieldLink RX5 50 "LineEventsModel" "faultTenths" "[I") (by decide +kernel)) dX5_judge_103 ?_
          refine lv_iload hx hb dX5_judge_106 (lv_at hl 1 rfl) ?_
          refine r_iald hx hb hK hG 14 (by decide) rfl m k (by simp only [show rW 14 = 4 from rfl]; omega) (by simp only [show rN 14 = 12 from rfl]; omega) (by simp only [show rW 14 = 4 from rfl]; omega) (w := T 14 m k) (by simp [su]) dX5_judge_108 ?_
          refine lv_iload_n hx hb dX5_judge_109 rfl (lv_at hl 3 rfl) ?_
          refine z_icmp_le (tgt := 123) hx hb dX5_judge_110 (by decide) ⟨by omega, by omega⟩ ⟨by omega, by omega⟩ (fun c_12 => ?_) (fun c_12 => ?_)
          · refine lv_iload_n hx hb dX5_judge_123 rfl (lv_at hl 3 rfl) ?_
            refine lv_istore_n (lv' := [(2, .int (zI lg)), (5, .int (zI 1)), (4, .int (zI (((m : Int) * 4) + (k : Int)))), (3, .int (zI (k : Int))), (0, .ref (ad 32 0)), (1, .int (zI (m : Int)))]) hx hb dX5_judge_124 rfl hl (by decide) rfl (fun ls hl => ?_)
            refine lv_iinc (v := zI ((k : Int) + 1)) (lv' := [(3, .int (zI ((k : Int) + 1))), (2, .int (zI lg)), (5, .int (zI 1)), (4, .int (zI (((m : Int) * 4) + (k : Int)))), (0, .ref (ad 32 0)), (1, .int (zI (m : Int)))]) hx hb dX5_judge_125 hl (k := 3) rfl (by rw [show Int32.ofInt 1 = zI 1 from rfl, zI_add]) (by decide) rfl (fun ls hl => ?_)
            refine lv_goto (tgt := 11) hx hb dX5_judge_128 (by decide) ?_
            exact ih (k := k + 1) (ls := ls) (T := rdraw T) (lg := lg) (H := H) (locs := locs) (hG := hG) (hS := hS) (hTI := hTI) (hTm := hTm) (hTe := hTe) (hlg := by omega) (hl := lv_sub hl [0, 1, 4, 5] rfl) (hn := by rw [show rdraw T 15 m 0 = T 15 m 0 from rfl]; omega) (hv9 := by rw [← hv9, rjl]; first | rw [if_neg (by omega)] | rw [if_pos (by omega), if_neg (by omega), if_pos (by omega)] | rw [if_pos (by omega), if_neg (by omega), if_neg (by omega)])
          · refine lv_aload_n hx hb dX5_judge_113 rfl (lv_at hl 4 rfl) ?_
            refine r_getA hx hb hts hin hown hK hG 14 (by decide) (by decide) (hts (.fieldLink RX5 50 "LineEventsModel" "faultTenths" "[I") (by decide +kernel)) dX5_judge_114 ?_
            refine lv_iload hx hb dX5_judge_117 (lv_at hl 1 rfl) ?_
            refine r_iald hx hb hK hG 14 (by decide) rfl m k (by simp only [show rW 14 = 4 from rfl]; omega) (by simp only [show rN 14 = 12 from rfl]; omega) (by simp only [show rW 14 = 4 from rfl]; omega) (w := T 14 m k) (by simp [su]) dX5_judge_119 ?_
            refine lv_goto (tgt := 124) hx hb dX5_judge_120 (by decide) ?_
            refine lv_istore_n (lv' := [(2, .int (zI (T 14 m k))), (5, .int (zI 1)), (4, .int (zI (((m : Int) * 4) + (k : Int)))), (3, .int (zI (k : Int))), (0, .ref (ad 32 0)), (1, .int (zI (m : Int)))]) hx hb dX5_judge_124 rfl hl (by decide) rfl (fun ls hl => ?_)
            refine lv_iinc (v := zI ((k : Int) + 1)) (lv' := [(3, .int (zI ((k : Int) + 1))), (2, .int (zI (T 14 m k))), (5, .int (zI 1)), (4, .int (zI (((m : Int) * 4) + (k : Int)))), (0, .ref (ad 32 0)), (1, .int (zI (m : Int)))]) hx hb dX5_judge_125 hl (k := 3) rfl (by rw [show Int32.ofInt 1 = zI 1 from rfl, zI_add]) (by decide) rfl (fun ls hl => ?_)
            refine lv_goto (tgt := 11) hx hb dX5_judge_128 (by decide) ?_
            exact ih (k := k + 1) (ls := ls) (T := rdraw T) (lg := T 14 m k) (H := H) (locs := locs) (hG := hG) (hS := hS) (hTI := hTI) (hTm := hTm) (hTe := hTe) (hlg := by omega) (hl := lv_sub hl [0, 1, 4, 5] rfl) (hn := by rw [show rdraw T 15 m 0 = T 15 m 0 from rfl]; omega) (hv9 := by rw [← hv9, rjl]; first | rw [if_neg (by omega)] | rw [if_pos (by omega), if_neg (by omega), if_pos (by omega)] | rw [if_pos (by omega), if_neg (by omega), if_neg (by omega)])
        · refine lv_aload_n hx hb dX5_judge_72 rfl (lv_at hl 4 rfl) ?_
          refine r_getA hx hb hts hin hown hK hG 6 (by decide) (by decide) (hts (.fieldLink RX5 25 "LineEventsModel" "bottle" "[I") (by decide +kernel)) dX5_judge_73 ?_
          refine lv_iload_n hx hb dX5_judge_76 rfl (lv_at hl 5 rfl) ?_
          refine lv_iconst (v := zI 0) hx hb dX5_judge_77 rfl ?_
          refine r_iast hx hb hK hG hS 6 (by decide) rfl m 0 (by simp only [show rW 6 = 1 from rfl]; omega) (by simp only [show rN 6 = 12 from rfl]; omega) (by simp only [show rW 6 = 1 from rfl]; omega) (w := 0) dX5_judge_78 (fun H locs hG hS => ?_)
          refine lv_aload_n hx hb dX5_judge_79 rfl (lv_at hl 4 rfl) ?_
          refine r_getA hx hb hts hin hown hK hG 22 (by decide) (by decide) (hts (.fieldLink RX5 71 "LineEventsModel" "rejects" "[J") (by decide +kernel)) dX5_judge_80 ?_
          refine lv_iload_n hx hb dX5_judge_83 rfl (lv_at hl 5 rfl) ?_
          refine lv_dup2_11 hx hb dX5_judge_84 rfl rfl ?_
          refine r_lald hx hb hK hG 22 (by decide) rfl m 0 (by simp only [show rW 22 = 1 from rfl]; omega) (by simp only [show rN 22 = 12 from rfl]; omega) (by simp only [show rW 22 = 1 from rfl]; omega) (w := T 22 m 0) (by simp [su]) dX5_judge_85 ?_
          refine lv_lconst (v := zL 1) hx hb dX5_judge_86 (by decide) ?_
          refine z_ladd hx hb dX5_judge_87 ?_
          refine r_last hx hb hK hG hS 22 (by decide) rfl m 0 (by simp only [show rW 22 = 1 from rfl]; omega) (by simp only [show rN 22 = 12 from rfl]; omega) (by simp only [show rW 22 = 1 from rfl]; omega) (w := (T 22 m 0) + 1) dX5_judge_88 (fun H locs hG hS => ?_)
          refine lv_aload_n hx hb dX5_judge_89 rfl (lv_at hl 4 rfl) ?_
          refine lv_iload_n hx hb dX5_judge_90 rfl (lv_at hl 5 rfl) ?_
          refine lv_iconst (v := zI 2) hx hb dX5_judge_91 rfl ?_
          refine r_callV (As := [.int (zI (m : Int)), .int (zI 2)]) (rest := []) ⟨hx, hb, hml, hown, hts⟩ (m_X5_note l D cI cJ A ad (su (su (su T 26 0 0 (T 26 0 0 * 6364136223846793005 + 1442695040888963407)) 6 m 0 (0)) 22 m 0 ((T 22 m 0) + 1)) m 2 (by simpa [su] using hTe)) (cwV 2 hts gX5_judge_X5_note rfl rfl rfl (by decide +kernel) ⟨Nat.le_of_ble_eq_true rfl, Nat.le_of_ble_eq_true rfl⟩) hK hG hS rfl hl.1 rfl (Nat.le_of_ble_eq_true rfl) dX5_judge_92 ⟨Nat.zero_le _, Nat.zero_le _⟩ (fun H locs hG hS => ?_)
          refine lv_iconst (v := zI 0) hx hb dX5_judge_95 rfl ?_
          have e9 : rnote (su (su (su T 26 0 0 (T 26 0 0 * 6364136223846793005 + 1442695040888963407)) 6 m 0 (0)) 22 m 0 ((T 22 m 0) + 1)) m 2 = (rjfin m J0).1 := by rw [← hv9, rjl, if_pos (by omega), if_pos (by omega)]; rfl
          rw [e9] at hG
          have v9 : 0 = bZ ((rjfin m J0).2 = true) := by exact (bZ_f (by rw [← hv9, rjl, if_pos (by omega), if_pos (by omega)]; exact Bool.false_ne_true)).symm
          refine W.eq (congrArg (fun z => F0 m0 96 ls [.int (zI z)]) v9) ?_
          exact W.zret hx hb hr (zI_bool _) (fun t ht hW => ⟨rfl, ⟨by rw [ht]; exact hG, va_K.moved hW.alike hK⟩, hS.F ht⟩) hS.2.2 dX5_judge_96
set_option maxHeartbeats 4000000 in
set_option maxRecDepth 100000 in
theorem m_X5_causeOf (l : Launch) (D : va_G) (cI cJ : ClassId) (A : Nat → Prop) (ad : Nat → Nat → Nat) (S : Nat → Nat → Nat → Int) (m : Nat) (hI : Inv S) (hm : (m : Int) < S 5 0 0) : Met l yX5_causeOf wsX5_causeOf ({ frames := 1, cells := 0, slots := 0, locals := 22 }) (va_Pc [.ref (ad 32 0), .int (zI (m : Int))] (gRU D cI cJ A ad S)) (gO (some (.int (zI (rcause S m)))) (gRU D cI cJ A ad (S)) A) 0 0 A := by
  refine Met.ofW (cc := cX5_causeOf) (maxL := 3) (ret := (some .int)) (by decide) rfl ?_
  intro p e s m0 args below meth c s₁ B hml hv
  obtain ⟨rfl, hG, hK⟩ := hv
  have hx := B.exec
  have hb := B.bytes
  have hr := B.returns
  have hts := atoms_spec (ws := wsX5_causeOf) B.pre
  have hown : s.vm.findClass RX5 = some m0.cls := findClass_of_methodNamed B.named
  have hlocks := B.notSynchronized
  have hin : ∀ w ∈ wsX50, w ∈ wsX5_causeOf := by decide +kernel
  have hS : va_S A s.heap s.heap [] := va_S.rf
  have hl := lv_entry ([.ref (ad 32 0), .int (zI (m : Int))]) (n := 3) (Nat.le_of_ble_eq_true rfl)
  rw [lg_entry_eq]
  generalize (lg_sl ([.ref (ad 32 0), .int (zI (m : Int))]) ++ List.replicate (3 - (lg_sl ([.ref (ad 32 0), .int (zI (m : Int))])).length) Slot.unset).toArray = ls at hl ⊢
  replace hl : lv_has ls 3 [(0, .ref (ad 32 0)), (1, .int (zI (m : Int)))] := hl
  obtain ⟨hI5, hI25, hI20, hIM, hIL, hIR⟩ := id hI
  have hm12 : m < 12 := by omega
  obtain ⟨hM6, hM7, hM8, hM10, hM11, hM15, hM9, hMf⟩ := id (hIM m hm12)
  obtain ⟨hL0, hL1, hL2, hL3, hL4⟩ := id (hIL m hm)
  refine lv_aload_n hx hb dX5_causeOf_0 rfl (lv_at hl 0 rfl) ?_
  refine lv_iload_n hx hb dX5_causeOf_1 rfl (lv_at hl 1 rfl) ?_
  refine r_callV (As := [.int (zI (m : Int))]) (rest := []) ⟨hx, hb, hml, hown, hts⟩ (m_X5_held l D cI cJ A ad S m hI hm) (cwV 1 hts gX5_causeOf_X5_held rfl rfl rfl (by decide +kernel) ⟨Nat.le_of_ble_eq_true rfl, Nat.le_of_ble_eq_true rfl⟩) hK hG hS rfl hl.1 rfl (Nat.le_of_ble_eq_true rfl) dX5_causeOf_2 ⟨Nat.zero_le _, Nat.zero_le _⟩ (fun H locs hG hS => ?_)
  have hh9 := held_B m hI
  refine lv_istore_n (lv' := [(2, .int (zI (rheld S m))), (0, .ref (ad 32 0)), (1, .int (zI (m : Int)))]) hx hb dX5_causeOf_5 rfl hl (by decide) rfl (fun ls hl => ?_)
  refine lv_iload_n hx hb dX5_causeOf_6 rfl (lv_at hl 0 rfl) ?_
  refine lv_iconst (v := zI (-1)) hx hb dX5_causeOf_7 rfl ?_
  refine z_icmp_eq (tgt := 13) hx hb dX5_causeOf_8 (by decide) ⟨by omega, by omega⟩ ⟨by decide, by decide⟩ (fun c_1 => ?_) (fun c_1 => ?_)
  · refine lv_aload_n hx hb dX5_causeOf_13 rfl (lv_at hl 1 rfl) ?_
    refine r_getA hx hb hts hin hown hK hG 8 (by decide) (by decide) (hts (.fieldLink RX5 31 "LineEventsModel" "faultEnd" "[I") (by decide +kernel)) dX5_causeOf_14 ?_
    refine lv_iload_n hx hb dX5_causeOf_17 rfl (lv_at hl 2 rfl) ?_
    refine r_iald hx hb hK hG 8 (by decide) rfl m 0 (by simp only [show rW 8 = 1 from rfl]; omega) (by simp only [show rN 8 = 12 from rfl]; omega) (by simp only [show rW 8 = 1 from rfl]; omega) (w := S 8 m 0) (rfl) dX5_causeOf_18 ?_
    refine lv_aload_n hx hb dX5_causeOf_19 rfl (lv_at hl 1 rfl) ?_
    refine r_getI hx hb hts hin hown hK hG 25 (by decide) rfl (hts (.fieldLink RX5 94 "LineEventsModel" "now" "I") (by decide +kernel)) (z := S 25 0 0) (rfl) dX5_causeOf_20 ?_
    refine z_icmp_le (tgt := 28) hx hb dX5_causeOf_23 (by decide) ⟨by omega, by omega⟩ ⟨by omega, by omega⟩ (fun c_2 => ?_) (fun c_2 => ?_)
    · refine lv_aload_n hx hb dX5_causeOf_28 rfl (lv_at hl 1 rfl) ?_
      refine r_getA hx hb hts hin hown hK hG 6 (by decide) (by decide) (hts (.fieldLink RX5 25 "LineEventsModel" "bottle" "[I") (by decide +kernel)) dX5_causeOf_29 ?_
      refine lv_iload_n hx hb dX5_causeOf_32 rfl (lv_at hl 2 rfl) ?_
      refine r_iald hx hb hK hG 6 (by decide) rfl m 0 (by simp only [show rW 6 = 1 from rfl]; omega) (by simp only [show rN 6 = 12 from rfl]; omega) (by simp only [show rW 6 = 1 from rfl]; omega) (w := S 6 m 0) (rfl) dX5_causeOf_33 ?_
      refine lv_iconst (v := zI 1) hx hb dX5_causeOf_34 rfl ?_
      refine z_icmp_ne (tgt := 42) hx hb dX5_causeOf_35 (by decide) ⟨by omega, by omega⟩ ⟨by decide, by decide⟩ (fun c_3 => ?_) (fun c_3 => ?_)
      · refine lv_aload_n hx hb dX5_causeOf_42 rfl (lv_at hl 1 rfl) ?_
        refine r_getA hx hb hts hin hown hK hG 6 (by decide) (by decide) (hts (.fieldLink RX5 25 "LineEventsModel" "bottle" "[I") (by decide +kernel)) dX5_causeOf_43 ?_
        refine lv_iload_n hx hb dX5_causeOf_46 rfl (lv_at hl 2 rfl) ?_
        refine r_iald hx hb hK hG 6 (by decide) rfl m 0 (by simp only [show rW 6 = 1 from rfl]; omega) (by simp only [show rN 6 = 12 from rfl]; omega) (by simp only [show rW 6 = 1 from rfl]; omega) (w := S 6 m 0) (rfl) dX5_causeOf_47 ?_
        refine lv_iconst (v := zI 2) hx hb dX5_causeOf_48 rfl ?_
        refine z_icmp_ne (tgt := 57) hx hb dX5_causeOf_49 (by decide) ⟨by omega, by omega⟩ ⟨by decide, by decide⟩ (fun c_4 => ?_) (fun c_4 => ?_)
        · refine lv_bipush (v := zI 10) hx hb dX5_causeOf_57 (by decide) ?_
          have v9 : 10 = rcause S m := by unfold rcause; first | rw [if_neg (by omega)] | rw [if_pos (by omega), if_pos (by omega)] | rw [if_pos (by omega), if_neg (by omega), if_pos (by omega)] | rw [if_pos (by omega), if_neg (by omega), if_neg (by omega), if_pos (by omega)] | rw [if_pos (by omega), if_neg (by omega), if_neg (by omega), if_neg (by omega)]
          refine W.eq (congrArg (fun z => F0 m0 59 ls [.int (zI z)]) v9) ?_
          exact W.iret hx hb hr (fun t ht hW => ⟨rfl, ⟨by rw [ht]; exact hG, va_K.moved hW.alike hK⟩, hS.F ht⟩) hS.2.2 dX5_causeOf_59
        · refine lv_bipush (v := zI 11) hx hb dX5_causeOf_52 (by decide) ?_
          refine lv_goto (tgt := 59) hx hb dX5_causeOf_54 (by decide) ?_
          have v9 : 11 = rcause S m := by unfold rcause; first | rw [if_neg (by omega)] | rw [if_pos (by omega), if_pos (by omega)] | rw [if_pos (by omega), if_neg (by omega), if_pos (by omega)] | rw [if_pos (by omega), if_neg (by omega), if_neg (by omega), if_pos (by omega)] | rw [if_pos (by omega), if_neg (by omega), if_neg (by omega), if_neg (by omega)]
          refine W.eq (congrArg (fun z => F0 m0 59 ls [.int (zI z)]) v9) ?_
          exact W.iret hx hb hr (fun t ht hW => ⟨rfl, ⟨by rw [ht]; exact hG, va_K.moved hW.alike hK⟩, hS.F ht⟩) hS.2.2 dX5_causeOf_59
      · refine lv_iconst (v := zI 0) hx hb dX5_causeOf_38 rfl ?_
        refine lv_goto (tgt := 59) hx hb dX5_causeOf_39 (by decide) ?_
        have v9 : 0 = rcause S m := by unfold rcause; first | rw [if_neg (by omega)] | rw [if_pos (by omega), if_pos (by omega)] | rw [if_pos (by omega), if_neg (by omega), if_pos (by omega)] | rw [if_pos (by omega), if_neg (by omega), if_neg (by omega), if_pos (by omega)] | rw [if_pos (by omega), if_neg (by omega), if_neg (by omega), if_neg (by omega)]
        refine W.eq (congrArg (fun z => F0 m0 59 ls [.int (zI z)]) v9) ?_
        exact W.iret hx hb hr (fun t ht hW => ⟨rfl, ⟨by rw [ht]; exact hG, va_K.moved hW.alike hK⟩, hS.F ht⟩) hS.2.2 dX5_causeOf_59
    · refine lv_iconst (v := zI 3) hx hb dX5_causeOf_26 rfl ?_
      have v9 : 3 = rcause S m := by unfold rcause; first | rw [if_neg (by omega)] | rw [if_pos (by omega), if_pos (by omega)] | rw [if_pos (by omega), if_neg (by omega), if_pos (by omega)] | rw [if_pos (by omega), if_neg (by omega), if_neg (by omega), if_pos (by omega)] | rw [if_pos (by omega), if_neg (by omega), if_neg (by omega), if_neg (by omega)]
      refine W.eq (congrArg (fun z => F0 m0 27 ls [.int (zI z)]) v9) ?_
      exact W.iret hx hb hr (fun t ht hW => ⟨rfl, ⟨by rw [ht]; exact hG, va_K.moved hW.alike hK⟩, hS.F ht⟩) hS.2.2 dX5_causeOf_27
  · refine lv_iload_n hx hb dX5_causeOf_11 rfl (lv_at hl 0 rfl) ?_
    have v9 : rheld S m = rcause S m := by unfold rcause; first | rw [if_neg (by omega)] | rw [if_pos (by omega), if_pos (by omega)] | rw [if_pos (by omega), if_neg (by omega), if_pos (by omega)] | rw [if_pos (by omega), if_neg (by omega), if_neg (by omega), if_pos (by omega)] | rw [if_pos (by omega), if_neg (by omega), if_neg (by omega), if_neg (by omega)]
    refine W.eq (congrArg (fun z => F0 m0 12 ls [.int (zI z)]) v9) ?_
    exact W.iret hx hb hr (fun t ht hW => ⟨rfl, ⟨by rw [ht]; exact hG, va_K.moved hW.alike hK⟩, hS.F ht⟩) hS.2.2 dX5_causeOf_12
set_option maxHeartbeats 4000000 in
set_option maxRecDepth 100000 in
theorem m_X5_act (l : Launch) (D : va_G) (cI cJ : ClassId) (A : Nat → Prop) (ad : Nat → Nat → Nat) (S : Nat → Nat → Nat → Int) (m : Nat) (hI : Inv S) (hm : (m : Int) < S 5 0 0) (he : 0 ≤ S 30 0 0 ∧ S 30 0 0 < 2147483000) : Met l yX5_act wsX5_act ({ frames := 2, cells := 0, slots := 0, locals := 47 }) (va_Pc [.ref (ad 32 0), .int (zI (m : Int))] (gRU D cI cJ A ad S)) (gO none (gRU D cI cJ A ad (ract S m)) A) 0 0 A := by
  refine Met.ofW (cc := cX5_act) (maxL := 2) (ret := none) (by decide) rfl ?_
  intro p e s m0 args below meth c s₁ B hml hv
  obtain ⟨rfl, hG, hK⟩ := hv
  have hx := B.exec
  have hb := B.bytes
  have hr := B.returns
  have hts := atoms_spec (ws := wsX5_act) B.pre
  have hown : s.vm.findClass RX5 = some m0.cls := findClass_of_methodNamed B.named
  have hlocks := B.notSynchronized
  have hin : ∀ w ∈ wsX50, w ∈ wsX5_act := by decide +kernel
  have hS : va_S A s.heap s.heap [] := va_S.rf
  have hl := lv_entry ([.ref (ad 32 0), .int (zI (m : Int))]) (n := 2) (Nat.le_of_ble_eq_true rfl)
  rw [lg_entry_eq]
  generalize (lg_sl ([.ref (ad 32 0), .int (zI (m : Int))]) ++ List.replicate (2 - (lg_sl ([.ref (ad 32 0), .int (zI (m : Int))])).length) Slot.unset).toArray = ls at hl ⊢
  replace hl : lv_has ls 2 [(0, .ref (ad 32 0)), (1, .int (zI (m : Int)))] := hl
  obtain ⟨hI5, hI25, hI20, hIM, hIL, hIR⟩ := id hI
  have hm12 : m < 12 := by omega
  obtain ⟨hM6, hM7, hM8, hM10, hM11, hM15, hM9, hMf⟩ := id (hIM m hm12)
  obtain ⟨hL0, hL1, hL2, hL3, hL4⟩ := id (hIL m hm)
  refine lv_aload_n hx hb dX5_act_0 rfl (lv_at hl 0 rfl) ?_
  refine lv_iload_n hx hb dX5_act_1 rfl (lv_at hl 1 rfl) ?_
  refine r_callV (As := [.int (zI (m : Int))]) (rest := []) ⟨hx, hb, hml, hown, hts⟩ (m_X5_held l D cI cJ A ad S m hI hm) (cwV 1 hts gX5_act_X5_held rfl rfl rfl (by decide +kernel) ⟨Nat.le_of_ble_eq_true rfl, Nat.le_of_ble_eq_true rfl⟩) hK hG hS rfl hl.1 rfl (Nat.le_of_ble_eq_true rfl) dX5_act_2 ⟨Nat.zero_le _, Nat.zero_le _⟩ (fun H locs hG hS => ?_)
  have hh9 := held_B m hI
  refine lv_iconst (v := zI (-1)) hx hb dX5_act_5 rfl ?_
  refine z_icmp_ne (tgt := 22) hx hb dX5_act_6 (by decide) ⟨by omega, by omega⟩ ⟨by decide, by decide⟩ (fun c_1 => ?_) (fun c_1 => ?_)
  · have e9 : S = ract S m := by unfold ract; first | rw [if_neg (by omega)] | (rw [if_pos (by omega)]; unfold rjj; rw [if_neg (by omega)]; unfold rll; rw [if_neg (by omega)]; unfold rlt; rw [if_neg (by omega)])
    rw [e9] at hG
    exact W.vret hx hb hr (fun t ht hW => ⟨rfl, ⟨by rw [ht]; exact hG, va_K.moved hW.alike hK⟩, hS.F ht⟩) hS.2.2 dX5_act_22
  · refine lv_aload_n hx hb dX5_act_9 rfl (lv_at hl 0 rfl) ?_
    refine r_getA hx hb hts hin hown hK hG 8 (by decide) (by decide) (hts (.fieldLink RX5 31 "LineEventsModel" "faultEnd" "[I") (by decide +kernel)) dX5_act_10 ?_
    refine lv_iload_n hx hb dX5_act_13 rfl (lv_at hl 1 rfl) ?_
    refine r_iald hx hb hK hG 8 (by decide) rfl m 0 (by simp only [show rW 8 = 1 from rfl]; omega) (by simp only [show rN 8 = 12 from rfl]; omega) (by simp only [show rW 8 = 1 from rfl]; omega) (w := S 8 m 0) (rfl) dX5_act_14 ?_
    refine lv_aload_n hx hb dX5_act_15 rfl (lv_at hl 0 rfl) ?_
    refine r_getI hx hb hts hin hown hK hG 25 (by decide) rfl (hts (.fieldLink RX5 94 "LineEventsModel" "now" "I") (by decide +kernel)) (z := S 25 0 0) (rfl) dX5_act_16 ?_
    refine z_icmp_le (tgt := 23) hx hb dX5_act_19 (by decide) ⟨by omega, by omega⟩ ⟨by omega, by omega⟩ (fun c_2 => ?_) (fun c_2 => ?_)
    · refine lv_aload_n hx hb dX5_act_23 rfl (lv_at hl 0 rfl) ?_
      refine r_getA hx hb hts hin hown hK hG 6 (by decide) (by decide) (hts (.fieldLink RX5 25 "LineEventsModel" "bottle" "[I") (by decide +kernel)) dX5_act_24 ?_
      refine lv_iload_n hx hb dX5_act_27 rfl (lv_at hl 1 rfl) ?_
      refine r_iald hx hb hK hG 6 (by decide) rfl m 0 (by simp only [show rW 6 = 1 from rfl]; omega) (by simp only [show rN 6 = 12 from rfl]; omega) (by simp only [show rW 6 = 1 from rfl]; omega) (w := S 6 m 0) (rfl) dX5_act_28 ?_
      refine lv_iconst (v := zI 1) hx hb dX5_act_29 rfl ?_
      refine z_icmp_ne (tgt := 57) hx hb dX5_act_30 (by decide) ⟨by omega, by omega⟩ ⟨by decide, by decide⟩ (fun c_3 => ?_) (fun c_3 => ?_)
      · refine lv_aload_n hx hb dX5_act_57 rfl (lv_at hl 0 rfl) ?_
        refine r_getA hx hb hts hin hown hK hG 6 (by decide) (by decide) (hts (.fieldLink RX5 25 "LineEventsModel" "bottle" "[I") (by decide +kernel)) dX5_act_58 ?_
        refine lv_iload_n hx hb dX5_act_61 rfl (lv_at hl 1 rfl) ?_
        refine r_iald hx hb hK hG 6 (by decide) rfl m 0 (by simp only [show rW 6 = 1 from rfl]; omega) (by simp only [show rN 6 = 12 from rfl]; omega) (by simp only [show rW 6 = 1 from rfl]; omega) (w := S 6 m 0) (rfl) dX5_act_62 ?_
        refine lv_iconst (v := zI 2) hx hb dX5_act_63 rfl ?_
        refine z_icmp_ne (tgt := 72) hx hb dX5_act_64 (by decide) ⟨by omega, by omega⟩ ⟨by decide, by decide⟩ (fun c_4 => ?_) (fun c_4 => ?_)
        · refine lv_aload_n hx hb dX5_act_72 rfl (lv_at hl 0 rfl) ?_
          refine r_getA hx hb hts hin hown hK hG 6 (by decide) (by decide) (hts (.fieldLink RX5 25 "LineEventsModel" "bottle" "[I") (by decide +kernel)) dX5_act_73 ?_
          refine lv_iload_n hx hb dX5_act_76 rfl (lv_at hl 1 rfl) ?_
          refine r_iald hx hb hK hG 6 (by decide) rfl m 0 (by simp only [show rW 6 = 1 from rfl]; omega) (by simp only [show rN 6 = 12 from rfl]; omega) (by simp only [show rW 6 = 1 from rfl]; omega) (w := S 6 m 0) (rfl) dX5_act_77 ?_
          refine z_if_ne (tgt := 86) hx hb dX5_act_78 (by decide) ⟨by omega, by omega⟩ (fun c_5 => ?_) (fun c_5 => ?_)
          · have e9 : S = ract S m := by unfold ract; first | rw [if_neg (by omega)] | (rw [if_pos (by omega)]; unfold rjj; rw [if_neg (by omega)]; unfold rll; rw [if_neg (by omega)]; unfold rlt; rw [if_neg (by omega)])
            rw [e9] at hG
            exact W.vret hx hb hr (fun t ht hW => ⟨rfl, ⟨by rw [ht]; exact hG, va_K.moved hW.alike hK⟩, hS.F ht⟩) hS.2.2 dX5_act_86
          · refine lv_aload_n hx hb dX5_act_81 rfl (lv_at hl 0 rfl) ?_
            refine lv_iload_n hx hb dX5_act_82 rfl (lv_at hl 1 rfl) ?_
            refine r_callV (As := [.int (zI (m : Int))]) (rest := []) ⟨hx, hb, hml, hown, hts⟩ (m_X5_take l D cI cJ A ad S m hI (by omega) ⟨by omega, by omega⟩) (cwV 1 hts gX5_act_X5_take rfl rfl rfl (by decide +kernel) ⟨Nat.le_of_ble_eq_true rfl, Nat.le_of_ble_eq_true rfl⟩) hK hG hS rfl hl.1 rfl (Nat.le_of_ble_eq_true rfl) dX5_act_83 ⟨Nat.zero_le _, Nat.zero_le _⟩ (fun H locs hG hS => ?_)
            have e9 : rtake S m = ract S m := by unfold ract; rw [if_pos (by omega)]; unfold rjj; rw [if_neg (by omega)]; unfold rll; rw [if_neg (by omega)]; unfold rlt; rw [if_pos (by omega)]
            rw [e9] at hG
            exact W.vret hx hb hr (fun t ht hW => ⟨rfl, ⟨by rw [ht]; exact hG, va_K.moved hW.alike hK⟩, hS.F ht⟩) hS.2.2 dX5_act_86
        · refine lv_aload_n hx hb dX5_act_67 rfl (lv_at hl 0 rfl) ?_
          refine lv_iload_n hx hb dX5_act_68 rfl (lv_at hl 1 rfl) ?_
          refine r_callV (As := [.int (zI (m : Int))]) (rest := []) ⟨hx, hb, hml, hown, hts⟩ (m_X5_leave l D cI cJ A ad S m hI hm ⟨by omega, by omega⟩) (cwV 1 hts gX5_act_X5_leave rfl rfl rfl (by decide +kernel) ⟨Nat.le_of_ble_eq_true rfl, Nat.le_of_ble_eq_true rfl⟩) hK hG hS rfl hl.1 rfl (Nat.le_of_ble_eq_true rfl) dX5_act_69 ⟨Nat.zero_le _, Nat.zero_le _⟩ (fun H locs hG hS => ?_)
          have hlI := leave_I hI hm
          have hl30 := leave_30 (S := S) (m := m)
          have hl5 : rleave S m 5 0 0 = S 5 0 0 := leave_v (by decide)
          obtain ⟨U, hU⟩ : ∃ U, U = rleave S m := ⟨_, rfl⟩
          rw [← hU] at hG hlI hl30 hl5
          have hU6 := (hlI.2.2.2.1 m hm12).1
          refine lv_aload_n hx hb dX5_act_72 rfl (lv_at hl 0 rfl) ?_
          refine r_getA hx hb hts hin hown hK hG 6 (by decide) (by decide) (hts (.fieldLink RX5 25 "LineEventsModel" "bottle" "[I") (by decide +kernel)) dX5_act_73 ?_
          refine lv_iload_n hx hb dX5_act_76 rfl (lv_at hl 1 rfl) ?_
          refine r_iald hx hb hK hG 6 (by decide) rfl m 0 (by simp only [show rW 6 = 1 from rfl]; omega) (by simp only [show rN 6 = 12 from rfl]; omega) (by simp only [show rW 6 = 1 from rfl]; omega) (w := U 6 m 0) (rfl) dX5_act_77 ?_
          refine z_if_ne (tgt := 86) hx hb dX5_act_78 (by decide) ⟨by omega, by omega⟩ (fun c_6 => ?_) (fun c_6 => ?_)
          · have e9 : U = ract S m := by unfold ract; rw [if_pos (by omega)]; unfold rjj; rw [if_neg (by omega)]; unfold rll; rw [if_pos (by omega), ← hU]; unfold rlt; rw [if_neg (by omega)]
            rw [e9] at hG
            exact W.vret hx hb hr (fun t ht hW => ⟨rfl, ⟨by rw [ht]; exact hG, va_K.moved hW.alike hK⟩, hS.F ht⟩) hS.2.2 dX5_act_86
          · refine lv_aload_n hx hb dX5_act_81 rfl (lv_at hl 0 rfl) ?_
            refine lv_iload_n hx hb dX5_act_82 rfl (lv_at hl 1 rfl) ?_
            refine r_callV (As := [.int (zI (m : Int))]) (rest := []) ⟨hx, hb, hml, hown, hts⟩ (m_X5_take l D cI cJ A ad U m hlI (by omega) ⟨by omega, by omega⟩) (cwV 1 hts gX5_act_X5_take rfl rfl rfl (by decide +kernel) ⟨Nat.le_of_ble_eq_true rfl, Nat.le_of_ble_eq_true rfl⟩) hK hG hS rfl hl.1 rfl (Nat.le_of_ble_eq_true rfl) dX5_act_83 ⟨Nat.zero_le _, Nat.zero_le _⟩ (fun H locs hG hS => ?_)
            have e9 : rtake U m = ract S m := by unfold ract; rw [if_pos (by omega)]; unfold rjj; rw [if_neg (by omega)]; unfold rll; rw [if_pos (by omega), ← hU]; unfold rlt; rw [if_pos (by omega)]
            rw [e9] at hG
            exact W.vret hx hb hr (fun t ht hW => ⟨rfl, ⟨by rw [ht]; exact hG, va_K.moved hW.alike hK⟩, hS.F ht⟩) hS.2.2 dX5_act_86
      · refine lv_aload_n hx hb dX5_act_33 rfl (lv_at hl 0 rfl) ?_
        refine r_getA hx hb hts hin hown hK hG 7 (by decide) (by decide) (hts (.fieldLink RX5 28 "LineEventsModel" "worked" "[I") (by decide +kernel)) dX5_act_34 ?_
        refine lv_iload_n hx hb dX5_act_37 rfl (lv_at hl 1 rfl) ?_
        refine r_iald hx hb hK hG 7 (by decide) rfl m 0 (by simp only [show rW 7 = 1 from rfl]; omega) (by simp only [show rN 7 = 12 from rfl]; omega) (by simp only [show rW 7 = 1 from rfl]; omega) (w := S 7 m 0) (rfl) dX5_act_38 ?_
        refine lv_aload_n hx hb dX5_act_39 rfl (lv_at hl 0 rfl) ?_
        refine r_getA hx hb hts hin hown hK hG 0 (by decide) (by decide) (hts (.fieldLink RX5 9 "LineEventsModel" "takes" "[I") (by decide +kernel)) dX5_act_40 ?_
        refine lv_iload_n hx hb dX5_act_43 rfl (lv_at hl 1 rfl) ?_
        refine r_iald hx hb hK hG 0 (by decide) rfl m 0 (by simp only [show rW 0 = 1 from rfl]; omega) (by simp only [show rN 0 = 12 from rfl]; omega) (by simp only [show rW 0 = 1 from rfl]; omega) (w := S 0 m 0) (rfl) dX5_act_44 ?_
        refine z_icmp_ne (tgt := 57) hx hb dX5_act_45 (by decide) ⟨by omega, by omega⟩ ⟨by omega, by omega⟩ (fun c_7 => ?_) (fun c_7 => ?_)
        · refine lv_aload_n hx hb dX5_act_57 rfl (lv_at hl 0 rfl) ?_
          refine r_getA hx hb hts hin hown hK hG 6 (by decide) (by decide) (hts (.fieldLink RX5 25 "LineEventsModel" "bottle" "[I") (by decide +kernel)) dX5_act_58 ?_
          refine lv_iload_n hx hb dX5_act_61 rfl (lv_at hl 1 rfl) ?_
          refine r_iald hx hb hK hG 6 (by decide) rfl m 0 (by simp only [show rW 6 = 1 from rfl]; omega) (by simp only [show rN 6 = 12 from rfl]; omega) (by simp only [show rW 6 = 1 from rfl]; omega) (w := S 6 m 0) (rfl) dX5_act_62 ?_
          refine lv_iconst (v := zI 2) hx hb dX5_act_63 rfl ?_
          refine z_icmp_ne (tgt := 72) hx hb dX5_act_64 (by decide) ⟨by omega, by omega⟩ ⟨by decide, by decide⟩ (fun c_8 => ?_) (fun c_8 => ?_)
          · refine lv_aload_n hx hb dX5_act_72 rfl (lv_at hl 0 rfl) ?_
            refine r_getA hx hb hts hin hown hK hG 6 (by decide) (by decide) (hts (.fieldLink RX5 25 "LineEventsModel" "bottle" "[I") (by decide +kernel)) dX5_act_73 ?_
            refine lv_iload_n hx hb dX5_act_76 rfl (lv_at hl 1 rfl) ?_
            refine r_iald hx hb hK hG 6 (by decide) rfl m 0 (by simp only [show rW 6 = 1 from rfl]; omega) (by simp only [show rN 6 = 12 from rfl]; omega) (by simp only [show rW 6 = 1 from rfl]; omega) (w := S 6 m 0) (rfl) dX5_act_77 ?_
            refine z_if_ne (tgt := 86) hx hb dX5_act_78 (by decide) ⟨by omega, by omega⟩ (fun c_9 => ?_) (fun c_9 => ?_)
            · have e9 : S = ract S m := by unfold ract; first | rw [if_neg (by omega)] | (rw [if_pos (by omega)]; unfold rjj; rw [if_neg (by omega)]; unfold rll; rw [if_neg (by omega)]; unfold rlt; rw [if_neg (by omega)])
              rw [e9] at hG
              exact W.vret hx hb hr (fun t ht hW => ⟨rfl, ⟨by rw [ht]; exact hG, va_K.moved hW.alike hK⟩, hS.F ht⟩) hS.2.2 dX5_act_86
            · refine lv_aload_n hx hb dX5_act_81 rfl (lv_at hl 0 rfl) ?_
              refine lv_iload_n hx hb dX5_act_82 rfl (lv_at hl 1 rfl) ?_
              refine r_callV (As := [.int (zI (m : Int))]) (rest := []) ⟨hx, hb, hml, hown, hts⟩ (m_X5_take l D cI cJ A ad S m hI (by omega) ⟨by omega, by omega⟩) (cwV 1 hts gX5_act_X5_take rfl rfl rfl (by decide +kernel) ⟨Nat.le_of_ble_eq_true rfl, Nat.le_of_ble_eq_true rfl⟩) hK hG hS rfl hl.1 rfl (Nat.le_of_ble_eq_true rfl) dX5_act_83 ⟨Nat.zero_le _, Nat.zero_le _⟩ (fun H locs hG hS => ?_)
              have e9 : rtake S m = ract S m := by unfold ract; rw [if_pos (by omega)]; unfold rjj; rw [if_neg (by omega)]; unfold rll; rw [if_neg (by omega)]; unfold rlt; rw [if_pos (by omega)]
              rw [e9] at hG
              exact W.vret hx hb hr (fun t ht hW => ⟨rfl, ⟨by rw [ht]; exact hG, va_K.moved hW.alike hK⟩, hS.F ht⟩) hS.2.2 dX5_act_86
          · refine lv_aload_n hx hb dX5_act_67 rfl (lv_at hl 0 rfl) ?_
            refine lv_iload_n hx hb dX5_act_68 rfl (lv_at hl 1 rfl) ?_
            refine r_callV (As := [.int (zI (m : Int))]) (rest := []) ⟨hx, hb, hml, hown, hts⟩ (m_X5_leave l D cI cJ A ad S m hI hm ⟨by omega, by omega⟩) (cwV 1 hts gX5_act_X5_leave rfl rfl rfl (by decide +kernel) ⟨Nat.le_of_ble_eq_true rfl, Nat.le_of_ble_eq_true rfl⟩) hK hG hS rfl hl.1 rfl (Nat.le_of_ble_eq_true rfl) dX5_act_69 ⟨Nat.zero_le _, Nat.zero_le _⟩ (fun H locs hG hS => ?_)
            have hlI := leave_I hI hm
            have hl30 := leave_30 (S := S) (m := m)
            have hl5 : rleave S m 5 0 0 = S 5 0 0 := leave_v (by decide)
            obtain ⟨U, hU⟩ : ∃ U, U = rleave S m := ⟨_, rfl⟩
            rw [← hU] at hG hlI hl30 hl5
            have hU6 := (hlI.2.2.2.1 m hm12).1
            refine lv_aload_n hx hb dX5_act_72 rfl (lv_at hl 0 rfl) ?_
            refine r_getA hx hb hts hin hown hK hG 6 (by decide) (by decide) (hts (.fieldLink RX5 25 "LineEventsModel" "bottle" "[I") (by decide +kernel)) dX5_act_73 ?_
            refine lv_iload_n hx hb dX5_act_76 rfl (lv_at hl 1 rfl) ?_
            refine r_iald hx hb hK hG 6 (by decide) rfl m 0 (by simp only [show rW 6 = 1 from rfl]; omega) (by simp only [show rN 6 = 12 from rfl]; omega) (by simp only [show rW 6 = 1 from rfl]; omega) (w := U 6 m 0) (rfl) dX5_act_77 ?_
            refine z_if_ne (tgt := 86) hx hb dX5_act_78 (by decide) ⟨by omega, by omega⟩ (fun c_10 => ?_) (fun c_10 => ?_)
            · have e9 : U = ract S m := by unfold ract; rw [if_pos (by omega)]; unfold rjj; rw [if_neg (by omega)]; unfold rll; rw [if_pos (by omega), ← hU]; unfold rlt; rw [if_neg (by omega)]
              rw [e9] at hG
              exact W.vret hx hb hr (fun t ht hW => ⟨rfl, ⟨by rw [ht]; exact hG, va_K.moved hW.alike hK⟩, hS.F ht⟩) hS.2.2 dX5_act_86
            · refine lv_aload_n hx hb dX5_act_81 rfl (lv_at hl 0 rfl) ?_
              refine lv_iload_n hx hb dX5_act_82 rfl (lv_at hl 1 rfl) ?_
              refine r_callV (As := [.int (zI (m : Int))]) (rest := []) ⟨hx, hb, hml, hown, hts⟩ (m_X5_take l D cI cJ A ad U m hlI (by omega) ⟨by omega, by omega⟩) (cwV 1 hts gX5_act_X5_take rfl rfl rfl (by decide +kernel) ⟨Nat.le_of_ble_eq_true rfl, Nat.le_of_ble_eq_true rfl⟩) hK hG hS rfl hl.1 rfl (Nat.le_of_ble_eq_true rfl) dX5_act_83 ⟨Nat.zero_le _, Nat.zero_le _⟩ (fun H locs hG hS => ?_)
              have e9 : rtake U m = ract S m := by unfold ract; rw [if_pos (by omega)]; unfold rjj; rw [if_neg (by omega)]; unfold rll; rw [if_pos (by omega), ← hU]; unfold rlt; rw [if_pos (by omega)]
              rw [e9] at hG
              exact W.vret hx hb hr (fun t ht hW => ⟨rfl, ⟨by rw [ht]; exact hG, va_K.moved hW.alike hK⟩, hS.F ht⟩) hS.2.2 dX5_act_86
        · refine lv_aload_n hx hb dX5_act_48 rfl (lv_at hl 0 rfl) ?_
          refine lv_iload_n hx hb dX5_act_49 rfl (lv_at hl 1 rfl) ?_
          refine r_callV (As := [.int (zI (m : Int))]) (rest := []) ⟨hx, hb, hml, hown, hts⟩ (m_X5_judge l D cI cJ A ad S m hI hm ⟨by omega, by omega⟩) (cwV 1 hts gX5_act_X5_judge rfl rfl rfl (by decide +kernel) ⟨Nat.le_of_ble_eq_true rfl, Nat.le_of_ble_eq_true rfl⟩) hK hG hS rfl hl.1 rfl (Nat.le_of_ble_eq_true rfl) dX5_act_50 ⟨Nat.zero_le _, Nat.zero_le _⟩ (fun H locs hG hS => ?_)
          have hjI := judge_I (m := m) hI hm12
          have hj30 := judge_30 (S := S) (m := m)
          have hj5 : (rjudge S m).1 5 0 0 = S 5 0 0 := judge_v (by decide)
          obtain ⟨T, hT⟩ : ∃ T, T = (rjudge S m).1 := ⟨_, rfl⟩
          rw [← hT] at hG hjI hj30 hj5
          have hT6 := (hjI.2.2.2.1 m hm12).1
          refine z_ifb_eq (tgt := 57) hx hb dX5_act_53 (by decide) (fun c_11 => ?_) (fun c_11 => ?_)
          · refine lv_aload_n hx hb dX5_act_57 rfl (lv_at hl 0 rfl) ?_
            refine r_getA hx hb hts hin hown hK hG 6 (by decide) (by decide) (hts (.fieldLink RX5 25 "LineEventsModel" "bottle" "[I") (by decide +kernel)) dX5_act_58 ?_
            refine lv_iload_n hx hb dX5_act_61 rfl (lv_at hl 1 rfl) ?_
            refine r_iald hx hb hK hG 6 (by decide) rfl m 0 (by simp only [show rW 6 = 1 from rfl]; omega) (by simp only [show rN 6 = 12 from rfl]; omega) (by simp only [show rW 6 = 1 from rfl]; omega) (w := T 6 m 0) (rfl) dX5_act_62 ?_
            refine lv_iconst (v := zI 2) hx hb dX5_act_63 rfl ?_
            refine z_icmp_ne (tgt := 72) hx hb dX5_act_64 (by decide) ⟨by omega, by omega⟩ ⟨by decide, by decide⟩ (fun c_12 => ?_) (fun c_12 => ?_)
            · refine lv_aload_n hx hb dX5_act_72 rfl (lv_at hl 0 rfl) ?_
              refine r_getA hx hb hts hin hown hK hG 6 (by decide) (by decide) (hts (.fieldLink RX5 25 "LineEventsModel" "bottle" "[I") (by decide +kernel)) dX5_act_73 ?_
              refine lv_iload_n hx hb dX5_act_76 rfl (lv_at hl 1 rfl) ?_
              refine r_iald hx hb hK hG 6 (by decide) rfl m 0 (by simp only [show rW 6 = 1 from rfl]; omega) (by simp only [show rN 6 = 12 from rfl]; omega) (by simp only [show rW 6 = 1 from rfl]; omega) (w := T 6 m 0) (rfl) dX5_act_77 ?_
              refine z_if_ne (tgt := 86) hx hb dX5_act_78 (by decide) ⟨by omega, by omega⟩ (fun c_13 => ?_) (fun c_13 => ?_)
              · have e9 : T = ract S m := by unfold ract; rw [if_pos (by omega)]; unfold rjj; rw [if_pos (by omega)]; first | rw [if_pos (by assumption), hT] | (rw [if_neg (by assumption), ← hT]; unfold rll; rw [if_neg (by omega)]; unfold rlt; rw [if_neg (by omega)])
                rw [e9] at hG
                exact W.vret hx hb hr (fun t ht hW => ⟨rfl, ⟨by rw [ht]; exact hG, va_K.moved hW.alike hK⟩, hS.F ht⟩) hS.2.2 dX5_act_86
              · refine lv_aload_n hx hb dX5_act_81 rfl (lv_at hl 0 rfl) ?_
                refine lv_iload_n hx hb dX5_act_82 rfl (lv_at hl 1 rfl) ?_
                refine r_callV (As := [.int (zI (m : Int))]) (rest := []) ⟨hx, hb, hml, hown, hts⟩ (m_X5_take l D cI cJ A ad T m hjI (by omega) ⟨by omega, by omega⟩) (cwV 1 hts gX5_act_X5_take rfl rfl rfl (by decide +kernel) ⟨Nat.le_of_ble_eq_true rfl, Nat.le_of_ble_eq_true rfl⟩) hK hG hS rfl hl.1 rfl (Nat.le_of_ble_eq_true rfl) dX5_act_83 ⟨Nat.zero_le _, Nat.zero_le _⟩ (fun H locs hG hS => ?_)
                have e9 : rtake T m = ract S m := by unfold ract; rw [if_pos (by omega)]; unfold rjj; rw [if_pos (by omega)]; rw [if_neg (by assumption), ← hT]; unfold rll; rw [if_neg (by omega)]; unfold rlt; rw [if_pos (by omega)]
                rw [e9] at hG
                exact W.vret hx hb hr (fun t ht hW => ⟨rfl, ⟨by rw [ht]; exact hG, va_K.moved hW.alike hK⟩, hS.F ht⟩) hS.2.2 dX5_act_86
            · refine lv_aload_n hx hb dX5_act_67 rfl (lv_at hl 0 rfl) ?_
              refine lv_iload_n hx hb dX5_act_68 rfl (lv_at hl 1 rfl) ?_
              refine r_callV (As := [.int (zI (m : Int))]) (rest := []) ⟨hx, hb, hml, hown, hts⟩ (m_X5_leave l D cI cJ A ad T m hjI (by omega) ⟨by omega, by omega⟩) (cwV 1 hts gX5_act_X5_leave rfl rfl rfl (by decide +kernel) ⟨Nat.le_of_ble_eq_true rfl, Nat.le_of_ble_eq_true rfl⟩) hK hG hS rfl hl.1 rfl (Nat.le_of_ble_eq_true rfl) dX5_act_69 ⟨Nat.zero_le _, Nat.zero_le _⟩ (fun H locs hG hS => ?_)
              have hlI := leave_I hjI (m := m) (by omega)
              have hl30 := leave_30 (S := T) (m := m)
              have hl5 : rleave T m 5 0 0 = T 5 0 0 := leave_v (by decide)
              obtain ⟨U, hU⟩ : ∃ U, U = rleave T m := ⟨_, rfl⟩
              rw [← hU] at hG hlI hl30 hl5
              have hU6 := (hlI.2.2.2.1 m hm12).1
              refine lv_aload_n hx hb dX5_act_72 rfl (lv_at hl 0 rfl) ?_
              refine r_getA hx hb hts hin hown hK hG 6 (by decide) (by decide) (hts (.fieldLink RX5 25 "LineEventsModel" "bottle" "[I") (by decide +kernel)) dX5_act_73 ?_
              refine lv_iload_n hx hb dX5_act_76 rfl (lv_at hl 1 rfl) ?_
              refine r_iald hx hb hK hG 6 (by decide) rfl m 0 (by simp only [show rW 6 = 1 from rfl]; omega) (by simp only [show rN 6 = 12 from rfl]; omega) (by simp only [show rW 6 = 1 from rfl]; omega) (w := U 6 m 0) (rfl) dX5_act_77 ?_
              refine z_if_ne (tgt := 86) hx hb dX5_act_78 (by decide) ⟨by omega, by omega⟩ (fun c_14 => ?_) (fun c_14 => ?_)
              · have e9 : U = ract S m := by unfold ract; rw [if_pos (by omega)]; unfold rjj; rw [if_pos (by omega)]; rw [if_neg (by assumption), ← hT]; unfold rll; rw [if_pos (by omega), ← hU]; unfold rlt; rw [if_neg (by omega)]
                rw [e9] at hG
                exact W.vret hx hb hr (fun t ht hW => ⟨rfl, ⟨by rw [ht]; exact hG, va_K.moved hW.alike hK⟩, hS.F ht⟩) hS.2.2 dX5_act_86
              · refine lv_aload_n hx hb dX5_act_81 rfl (lv_at hl 0 rfl) ?_
                refine lv_iload_n hx hb dX5_act_82 rfl (lv_at hl 1 rfl) ?_
                refine r_callV (As := [.int (zI (m : Int))]) (rest := []) ⟨hx, hb, hml, hown, hts⟩ (m_X5_take l D cI cJ A ad U m hlI (by omega) ⟨by omega, by omega⟩) (cwV 1 hts gX5_act_X5_take rfl rfl rfl (by decide +kernel) ⟨Nat.le_of_ble_eq_true rfl, Nat.le_of_ble_eq_true rfl⟩) hK hG hS rfl hl.1 rfl (Nat.le_of_ble_eq_true rfl) dX5_act_83 ⟨Nat.zero_le _, Nat.zero_le _⟩ (fun H locs hG hS => ?_)
                have e9 : rtake U m = ract S m := by unfold ract; rw [if_pos (by omega)]; unfold rjj; rw [if_pos (by omega)]; rw [if_neg (by assumption), ← hT]; unfold rll; rw [if_pos (by omega), ← hU]; unfold rlt; rw [if_pos (by omega)]
                rw [e9] at hG
                exact W.vret hx hb hr (fun t ht hW => ⟨rfl, ⟨by rw [ht]; exact hG, va_K.moved hW.alike hK⟩, hS.F ht⟩) hS.2.2 dX5_act_86
          · have e9 : T = ract S m := by unfold ract; rw [if_pos (by omega)]; unfold rjj; rw [if_pos (by omega)]; first | rw [if_pos (by assumption), hT] | (rw [if_neg (by assumption), ← hT]; unfold rll; rw [if_neg (by omega)]; unfold rlt; rw [if_neg (by omega)])
            rw [e9] at hG
            exact W.vret hx hb hr (fun t ht hW => ⟨rfl, ⟨by rw [ht]; exact hG, va_K.moved hW.alike hK⟩, hS.F ht⟩) hS.2.2 dX5_act_56
    · have e9 : S = ract S m := by unfold ract; first | rw [if_neg (by omega)] | (rw [if_pos (by omega)]; unfold rjj; rw [if_neg (by omega)]; unfold rll; rw [if_neg (by omega)]; unfold rlt; rw [if_neg (by omega)])
      rw [e9] at hG
      exact W.vret hx hb hr (fun t ht hW => ⟨rfl, ⟨by rw [ht]; exact hG, va_K.moved hW.alike hK⟩, hS.F ht⟩) hS.2.2 dX5_act_22
