theorem rjl_s (m n k : Nat) (S : sT) (lg : Int) : rjl m (n + 1) k S lg = if rdv S (S 13 m k) < S 12 m k then (if S 14 m k = 0 then (rdraw S, lg, true) else rjl m n (k + 1) (rdraw S) (if lg < S 14 m k then S 14 m k else lg)) else rjl m n (k + 1) (rdraw S) lg := rfl
theorem rej_fin (i : Nat) (X : sT) (lg : Int) : (rjfin i (su X 6 i 0 2, lg, true)).1 = rnote (su (su X 6 i 0 0) 22 i 0 (X 22 i 0 + 1)) i 2 := by
  unfold rjfin
  rw [if_pos rfl]
  dsimp only
  rw [su_su, su_v (by decide)]
set_option maxHeartbeats 4000000 in
set_option maxRecDepth 100000 in
theorem m_X4_judge (l : Launch) (D : va_G) (cI cJ : ClassId) (A : Nat → Prop) (ad : Nat → Nat → Nat) (al : Nat → Nat → Prop) (S : sT) (E : Nat → Int) (rt : Int) (hal : alS al S) (i : Nat) (hI : Inv S) (hi : (i : Int) < S 5 0 0) (he : 0 ≤ S 30 0 0 ∧ S 30 0 0 < 2147483647) (h61 : S 6 i 0 = 1) : Met l yX4_judge wsX4_judge ({ frames := 2, cells := 0, slots := 0, locals := 44 }) (va_Pc [.ref (ad 0 0), .ref (ad 2 i)] (gCU D cI cJ A ad al (cC S E rt))) (gO none (gCU D cI cJ A ad al (cC ((rjudge S i).1) E rt)) A) 0 0 A := by
  refine Met.ofW (cc := cX4_judge) (maxL := 4) (ret := none) (by decide) rfl ?_
  intro p e s m0 args below meth c s₁ B hml hv
  obtain ⟨rfl, hG, hK, hA⟩ := hv
  have hx := B.exec
  have hb := B.bytes
  have hr := B.returns
  have hts := atoms_spec (ws := wsX4_judge) B.pre
  have hown : s.vm.findClass RX4 = some m0.cls := findClass_of_methodNamed B.named
  have hlocks := B.notSynchronized
  have hinX1 : ∀ w ∈ wsX10, w ∈ wsX4_judge := by decide +kernel
  have hinX2 : ∀ w ∈ wsX20, w ∈ wsX4_judge := by decide +kernel
  have hinX4 : ∀ w ∈ wsX40, w ∈ wsX4_judge := by decide +kernel
  have hS : va_S A s.heap s.heap [] := va_S.rf
  have hl := lv_entry ([.ref (ad 0 0), .ref (ad 2 i)]) (n := 4) (Nat.le_of_ble_eq_true rfl)
  rw [lg_entry_eq]
  generalize (lg_sl ([.ref (ad 0 0), .ref (ad 2 i)]) ++ List.replicate (4 - (lg_sl ([.ref (ad 0 0), .ref (ad 2 i)])).length) Slot.unset).toArray = ls at hl ⊢
  replace hl : lv_has ls 4 [(0, .ref (ad 0 0)), (1, .ref (ad 2 i))] := hl
  obtain ⟨hI5, hI25, hI20, hIM, hIL, hIR⟩ := id hI
  obtain ⟨hM6, hM7, hM8, hM10, hM11, hM15, hM9, hMf⟩ := id (hIM i (by omega))
  obtain ⟨hL0, hL1, hL2, hL3, hL4⟩ := id (hIL i hi)
  refine lv_iconst (v := zI 0) hx hb dX4_judge_0 rfl ?_
  refine lv_istore_n (lv' := [(2, .int (zI 0)), (0, .ref (ad 0 0)), (1, .ref (ad 2 i))]) hx hb dX4_judge_1 rfl hl (by decide) rfl (fun ls hl => ?_)
  obtain ⟨J0, hJ0⟩ : ∃ J, J = rjl i (S 15 i 0).toNat 0 S 0 := ⟨_, rfl⟩
  have hfin : rjudge S i = rjfin i (su J0.1 6 i 0 2, J0.2) := by unfold rjudge; rw [rjl_6, hJ0]
  rw [hfin]
  obtain ⟨T, hT0⟩ : ∃ T, T = S := ⟨S, rfl⟩
  have hTI : Inv T := by rw [hT0]; exact hI
  have hTi : (i : Int) < T 5 0 0 := by rw [hT0]; exact hi
  have hTe : 0 ≤ T 30 0 0 ∧ T 30 0 0 < 2147483647 := by rw [hT0]; exact he
  have halT : alS al T := by rw [hT0]; exact hal
  have hT15 : T 15 i 0 = S 15 i 0 := by rw [hT0]
  have hT6 : T 6 i 0 = 1 := by rw [hT0]; exact h61
  obtain ⟨lg, hlg0⟩ : ∃ z : Int, z = 0 := ⟨0, rfl⟩
  have hlg : 0 ≤ lg ∧ lg ≤ 100000 := by omega
  rw [← hT0] at hG
  obtain ⟨k, hk0⟩ : ∃ k : Nat, k = 0 := ⟨0, rfl⟩
  by_cases h15 : T 15 i 0 = 0
  · have hv9 : rjl i 0 k T lg = J0 := by rw [hJ0, ← hT15, h15, hT0, hk0, hlg0]; rfl
    refine lv_aload_n hx hb dX4_judge_2 rfl (lv_at hl 2 rfl) ?_
    refine c_getV (Cn := RX2) (T := TX2) hx hb hts 2 hinX2 hown hK hG i 6 (hal 2 i (show (i : Int) < S 5 0 0 by omega)) (by decide) rfl (by decide) (hts (.fieldLink RX4 213 "LineEvents$Machine" "firstFault" "LLineEvents$Fault;") (by decide +kernel)) (cV_N (t := 6) rfl (show (if T 15 i 0 = 0 then (-1 : Int) else 4 * (i : Int)) < 0 by rw [if_pos h15]; decide)) dX4_judge_3 ?_
    refine lv_astore_nN (lv' := [(3, .null), (2, .int (zI 0)), (0, .ref (ad 0 0)), (1, .ref (ad 2 i))]) hx hb dX4_judge_6 rfl hl (by decide) rfl (fun ls hl => ?_)
    refine lv_aload_nN hx hb dX4_judge_7 rfl (lv_at hl 0 rfl) ?_
    refine lv_ifnullN (tgt := 57) hx hb dX4_judge_8 (by decide) ?_
    have hvx : (T, lg, false) = J0 := hv9
    have hI25T := hTI.2.1
    refine lv_aload_n hx hb dX4_judge_57 rfl (lv_at hl 3 rfl) ?_
    refine lv_iconst (v := zI 1) hx hb dX4_judge_58 rfl ?_
    refine c_putV (Cn := RX2) (T := TX2) (z := 1) hx hb hts 2 hinX2 tyX2 tyX2_ok nmX2 hown hK hG hS i 13 (hal 2 i (show (i : Int) < S 5 0 0 by omega)) (by decide) rfl (by decide) (hts (.fieldLink RX4 201 "LineEvents$Machine" "judged" "Z") (by decide +kernel)) (Or.inl rfl) (cV_I (z := 1) rfl rfl) (by decide +kernel) rfl dX4_judge_59 (fun H locs hG hS => ?_)
    refine lv_iload_n hx hb dX4_judge_62 rfl (lv_at hl 1 rfl) ?_
    refine z_if_le (tgt := 82) hx hb dX4_judge_63 (by decide) ⟨by decide, by decide⟩ (fun _ => ?_) (fun q => absurd q (by decide))
    have e9 : su (cC T E rt) 2 i 13 (1) = cC (rjfin i (su J0.1 6 i 0 2, J0.2)).1 E rt := by rw [← hvx]; unfold rjfin; rw [if_neg Bool.false_ne_true, if_neg (show ¬ 0 < lg by omega)]; exact (cC_jd T E rt i hT6).symm
    rw [e9] at hG
    exact W.vret hx hb hr (fun t ht hW => ⟨rfl, ⟨by rw [ht]; exact hG, va_K.moved hW.alike hK, fun q hq => hA q (Nat.le_trans hS.1 (by rw [← ht]; exact hq))⟩, hS.F ht⟩) hS.2.2 dX4_judge_82
  · have hk4 : k < 4 := by omega
    refine lv_aload_n hx hb dX4_judge_2 rfl (lv_at hl 2 rfl) ?_
    refine c_getV (Cn := RX2) (T := TX2) hx hb hts 2 hinX2 hown hK hG i 6 (hal 2 i (show (i : Int) < S 5 0 0 by omega)) (by decide) rfl (by decide) (hts (.fieldLink RX4 213 "LineEvents$Machine" "firstFault" "LLineEvents$Fault;") (by decide +kernel)) (cV_R (t := 6) (j := (4 * i + k)) rfl ((if_neg (show ¬ T 15 i 0 = 0 from h15)).trans (by rw [hk0]; omega))) dX4_judge_3 ?_
    refine lv_astore_n (lv' := [(3, .ref (ad 6 (4 * i + k))), (2, .int (zI 0)), (0, .ref (ad 0 0)), (1, .ref (ad 2 i))]) hx hb dX4_judge_6 rfl hl (by decide) rfl (fun ls hl => ?_)
    replace hl : lv_has ls 4 [(3, .ref (ad 6 (4 * i + k))), (2, .int (zI lg)), (0, .ref (ad 0 0)), (1, .ref (ad 2 i))] := by rw [hlg0]; exact hl
    obtain ⟨n, hn⟩ : ∃ n : Nat, (k : Int) + n + 1 = T 15 i 0 := ⟨(T 15 i 0).toNat - 1, by omega⟩
    have hv9 : rjl i (n + 1) k T lg = J0 := by rw [hJ0, ← hT15, hk0, hlg0, hT0]; congr 1; rw [hT0] at hn; omega
    clear hJ0 hfin hT0 hlg0 hk0 h15
    obtain ⟨H, hH0⟩ : ∃ H : Heap, H = s.heap := ⟨_, rfl⟩
    obtain ⟨locs, hL0⟩ : ∃ L : List Loc, L = [] := ⟨_, rfl⟩
    rw [← hH0, ← hL0]
    rw [← hH0] at hG
    replace hS : va_S A s.heap H locs := by rw [hH0, hL0]; exact hS
    clear hH0 hL0
    induction n generalizing k ls T lg H locs with
    | zero =>
      obtain ⟨hI5, hI25, hI20, hIM, hIL, hIR⟩ := id hTI
      obtain ⟨hM6, hM7, hM8, hM10, hM11, hM15, hM9, hMf⟩ := id (hIM i (by omega))
      obtain ⟨hf12, hf13, hf14, hf1⟩ := hMf k hk4
      refine lv_aload_n hx hb dX4_judge_7 rfl (lv_at hl 0 rfl) ?_
      refine lv_ifnull hx hb dX4_judge_8 ?_
      refine lv_aload_n hx hb dX4_judge_11 rfl (lv_at hl 2 rfl) ?_
      refine lv_aload_n hx hb dX4_judge_12 rfl (lv_at hl 0 rfl) ?_
      refine c_getV (Cn := RX1) (T := TX1) hx hb hts 6 hinX1 hown hK hG (4 * i + k) 1 (hal 6 (4 * i + k) (cAl_f hi (show (k : Int) < S 15 i 0 by omega) hk4)) (by decide) rfl (by decide) (hts (.fieldLink RX4 217 "LineEvents$Fault" "below" "J") (by decide +kernel)) (cV_J (z := T 13 i k) rfl (cF_1 T E rt hk4)) dX4_judge_13 ?_
      refine c_callV (As := [.long (zL (T 13 i k))]) (rest := []) (Cn := RX4) (T := TX4) ⟨hx, hb, hml, hown, hts⟩ 0 0 (m_X4_draw l D cI cJ A ad al T E rt halT (T 13 i k) ⟨by omega, by omega⟩) (cwV 1 hts gX4_judge_X4_draw rfl rfl rfl (by decide +kernel) ⟨Nat.le_of_ble_eq_true rfl, Nat.le_of_ble_eq_true rfl⟩) (hal 0 0 rfl) (by decide) rfl hK hG hS hA rfl hl.1 rfl (Nat.le_of_ble_eq_true rfl) dX4_judge_16 ⟨Nat.zero_le _, Nat.zero_le _⟩ (fun t9 H locs ht9 hB hS => ?_)
      have hG := hB.1; rw [ht9] at hG; clear hB ht9
      have hd9 := rdv_B T (b := T 13 i k) (by omega)
      refine lv_aload_n hx hb dX4_judge_19 rfl (lv_at hl 0 rfl) ?_
      refine c_getV (Cn := RX1) (T := TX1) hx hb hts 6 hinX1 hown hK hG (4 * i + k) 0 (hal 6 (4 * i + k) (cAl_f hi (show (k : Int) < S 15 i 0 by omega) hk4)) (by decide) rfl (by decide) (hts (.fieldLink RX4 224 "LineEvents$Fault" "above" "J") (by decide +kernel)) (cV_J (z := T 12 i k) rfl (cF_0 (rdraw T) E rt hk4)) dX4_judge_20 ?_
      refine W.lcmp hx hb dX4_judge_23 ?_
      refine z_lif_ge (tgt := 49) hx hb dX4_judge_24 (by decide) ⟨by omega, by omega⟩ ⟨by omega, by omega⟩ (fun c_2 => ?_) (fun c_2 => ?_)
      · refine lv_aload_n hx hb dX4_judge_49 rfl (lv_at hl 0 rfl) ?_
        refine c_getV (Cn := RX1) (T := TX1) hx hb hts 6 hinX1 hown hK hG (4 * i + k) 3 (hal 6 (4 * i + k) (cAl_f hi (show (k : Int) < S 15 i 0 by omega) hk4)) (by decide) rfl (by decide) (hts (.fieldLink RX4 233 "LineEvents$Fault" "next" "LLineEvents$Fault;") (by decide +kernel)) (cV_N (t := 6) rfl (by rw [cF_3 (rdraw T) E rt hk4, if_neg (show ¬ ((k : Int) + 1 < rdraw T 15 i 0) from (show ¬ ((k : Int) + 1 < T 15 i 0) by omega))]; decide)) dX4_judge_50 ?_
        refine lv_astore_nN (lv' := [(3, .null), (2, .int (zI lg)), (0, .ref (ad 0 0)), (1, .ref (ad 2 i))]) hx hb dX4_judge_53 rfl hl (by decide) rfl (fun ls hl => ?_)
        refine lv_goto (tgt := 7) hx hb dX4_judge_54 (by decide) ?_
        refine lv_aload_nN hx hb dX4_judge_7 rfl (lv_at hl 0 rfl) ?_
        refine lv_ifnullN (tgt := 57) hx hb dX4_judge_8 (by decide) ?_
        have hvx : (rdraw T, lg, false) = J0 := by rw [← hv9, rjl]; first | (rw [if_neg (by omega)]; rfl) | (rw [if_pos (by omega), if_neg (by omega), show max lg (T 14 i k) = (if lg < T 14 i k then T 14 i k else lg) by split <;> omega]; rfl)
        obtain ⟨lg2, hlg2⟩ : ∃ z : Int, z = lg := ⟨_, rfl⟩
        have hlgB : 0 ≤ lg2 ∧ lg2 ≤ 100000 := by rw [hlg2]; omega
        replace hl : lv_has ls 4 [(3, .null), (2, .int (zI lg2)), (0, .ref (ad 0 0)), (1, .ref (ad 2 i))] := by rw [hlg2]; exact hl
        rw [← hlg2] at hvx
        clear hlg hlg2 hv9 hd9
        generalize lg2 = lg at hl hvx hlgB
        have hTI2 : Inv (rdraw T) := hTI
        have hTi2 : (i : Int) < rdraw T 5 0 0 := hTi
        have hTe2 : 0 ≤ rdraw T 30 0 0 ∧ rdraw T 30 0 0 < 2147483647 := hTe
        have halT2 : alS al (rdraw T) := halT
        have hT62 : rdraw T 6 i 0 = 1 := hT6
        have h252 : 0 ≤ rdraw T 25 0 0 ∧ rdraw T 25 0 0 ≤ 1000000000 := hI25
        clear hTI hTi hTe halT hT6 hT15 hM6 hM7 hM8 hM10 hM11 hM15 hM9 hMf hf12 hf13 hf14 hf1 hn hI5 hI25 hI20 hIM hIL hIR
        generalize rdraw T = T at hG hvx hTI2 hTi2 hTe2 halT2 hT62 h252
        have hTI := hTI2
        have hTi := hTi2
        have hTe := hTe2
        have halT := halT2
        have hT6 := hT62
        have hlg := hlgB
        refine lv_aload_n hx hb dX4_judge_57 rfl (lv_at hl 3 rfl) ?_
        refine lv_iconst (v := zI 1) hx hb dX4_judge_58 rfl ?_
        refine c_putV (Cn := RX2) (T := TX2) (z := 1) hx hb hts 2 hinX2 tyX2 tyX2_ok nmX2 hown hK hG hS i 13 (hal 2 i (show (i : Int) < S 5 0 0 by omega)) (by decide) rfl (by decide) (hts (.fieldLink RX4 201 "LineEvents$Machine" "judged" "Z") (by decide +kernel)) (Or.inl rfl) (cV_I (z := 1) rfl rfl) (by decide +kernel) rfl dX4_judge_59 (fun H locs hG hS => ?_)
        refine lv_iload_n hx hb dX4_judge_62 rfl (lv_at hl 1 rfl) ?_
        refine z_if_le (tgt := 82) hx hb dX4_judge_63 (by decide) ⟨by omega, by omega⟩ (fun c_3 => ?_) (fun c_3 => ?_)
        · have e9 : su (cC T E rt) 2 i 13 (1) = cC (rjfin i (su J0.1 6 i 0 2, J0.2)).1 E rt := by rw [← hvx]; unfold rjfin; rw [if_neg Bool.false_ne_true, if_neg (show ¬ 0 < lg by omega)]; exact (cC_jd T E rt i hT6).symm
          rw [e9] at hG
          exact W.vret hx hb hr (fun t ht hW => ⟨rfl, ⟨by rw [ht]; exact hG, va_K.moved hW.alike hK, fun q hq => hA q (Nat.le_trans hS.1 (by rw [← ht]; exact hq))⟩, hS.F ht⟩) hS.2.2 dX4_judge_82
        · refine lv_aload_n hx hb dX4_judge_66 rfl (lv_at hl 3 rfl) ?_
          refine lv_aload_n hx hb dX4_judge_67 rfl (lv_at hl 2 rfl) ?_
          refine c_getV (Cn := RX4) (T := TX4) hx hb hts 0 hinX4 hown hK hG 0 1 (hal 0 0 rfl) (by decide) rfl (by decide) (hts (.fieldLink RX4 27 "LineEvents" "now" "I") (by decide +kernel)) (cV_I (z := T 25 0 0) rfl ((su_v (by decide)).trans (rfl))) dX4_judge_68 ?_
          refine lv_iload_n hx hb dX4_judge_71 rfl (lv_at hl 1 rfl) ?_
          refine z_iadd hx hb dX4_judge_72 ?_
          refine c_putV (Cn := RX2) (T := TX2) (z := (T 25 0 0) + lg) hx hb hts 2 hinX2 tyX2 tyX2_ok nmX2 hown hK hG hS i 10 (hal 2 i (show (i : Int) < S 5 0 0 by omega)) (by decide) rfl (by decide) (hts (.fieldLink RX4 236 "LineEvents$Machine" "faultEnd" "I") (by decide +kernel)) (Or.inl rfl) (cV_I (z := (T 25 0 0) + lg) rfl rfl) rfl rfl dX4_judge_73 (fun H locs hG hS => ?_)
          refine lv_aload_n hx hb dX4_judge_76 rfl (lv_at hl 2 rfl) ?_
          refine lv_aload_n hx hb dX4_judge_77 rfl (lv_at hl 3 rfl) ?_
          refine lv_iconst (v := zI 3) hx hb dX4_judge_78 rfl ?_
          have e8 : su (su (cC T E rt) 2 i 13 (1)) 2 i 10 ((T 25 0 0) + lg) = cC (su (su T 6 i 0 2) 8 i 0 (T 25 0 0 + lg)) E rt := by rw [cC_8, cC_jd T E rt i hT6]
          rw [e8] at hG; clear e8
          refine c_callV (As := [.ref (ad 2 i), .int (zI 3)]) (rest := []) (Cn := RX4) (T := TX4) ⟨hx, hb, hml, hown, hts⟩ 0 0 (m_X4_note l D cI cJ A ad al (su (su T 6 i 0 2) 8 i 0 (T 25 0 0 + lg)) E rt halT i 3 hTi hTe) (cwV 2 hts gX4_judge_X4_note rfl rfl rfl (by decide +kernel) ⟨Nat.le_of_ble_eq_true rfl, Nat.le_of_ble_eq_true rfl⟩) (hal 0 0 rfl) (by decide) rfl hK hG hS hA rfl hl.1 rfl (Nat.le_of_ble_eq_true rfl) dX4_judge_79 ⟨Nat.zero_le _, Nat.zero_le _⟩ (fun t9 H locs ht9 hB hS => ?_)
          have hG := hB.1; rw [ht9] at hG; clear hB ht9
          have e9 : cC (rnote (su (su T 6 i 0 2) 8 i 0 (T 25 0 0 + lg)) i 3) E rt = cC (rjfin i (su J0.1 6 i 0 2, J0.2)).1 E rt := by rw [← hvx]; unfold rjfin; rw [if_neg Bool.false_ne_true, if_pos (show 0 < lg by omega)]; rfl
          rw [e9] at hG
          exact W.vret hx hb hr (fun t ht hW => ⟨rfl, ⟨by rw [ht]; exact hG, va_K.moved hW.alike hK, fun q hq => hA q (Nat.le_trans hS.1 (by rw [← ht]; exact hq))⟩, hS.F ht⟩) hS.2.2 dX4_judge_82
      · refine lv_aload_n hx hb dX4_judge_27 rfl (lv_at hl 0 rfl) ?_
        refine c_getV (Cn := RX1) (T := TX1) hx hb hts 6 hinX1 hown hK hG (4 * i + k) 2 (hal 6 (4 * i + k) (cAl_f hi (show (k : Int) < S 15 i 0 by omega) hk4)) (by decide) rfl (by decide) (hts (.fieldLink RX4 227 "LineEvents$Fault" "tenths" "I") (by decide +kernel)) (cV_I (z := T 14 i k) rfl (cF_2 (rdraw T) E rt hk4)) dX4_judge_28 ?_
        refine z_if_ne (tgt := 40) hx hb dX4_judge_31 (by decide) ⟨by omega, by omega⟩ (fun c_4 => ?_) (fun c_4 => ?_)
        · refine lv_iload_n hx hb dX4_judge_40 rfl (lv_at hl 1 rfl) ?_
          refine lv_aload_n hx hb dX4_judge_41 rfl (lv_at hl 0 rfl) ?_
          refine c_getV (Cn := RX1) (T := TX1) hx hb hts 6 hinX1 hown hK hG (4 * i + k) 2 (hal 6 (4 * i + k) (cAl_f hi (show (k : Int) < S 15 i 0 by omega) hk4)) (by decide) rfl (by decide) (hts (.fieldLink RX4 227 "LineEvents$Fault" "tenths" "I") (by decide +kernel)) (cV_I (z := T 14 i k) rfl (cF_2 (rdraw T) E rt hk4)) dX4_judge_42 ?_
          refine z_max hx hb (by rw [hml]; exact hl.1.symm) hown (hts (.methodLink RX4 102 Lib.Math.max.name) (by decide +kernel)) (hts (.static Lib.Math.max.name) (by decide +kernel)) (hts (.initialized "java/lang/Math") (by decide +kernel)) (hts (.code Lib.Math.max.name Lib.Math.max.code 2 (some .int)) (by decide +kernel)) (Nat.le_of_ble_eq_true rfl) (Nat.le_of_ble_eq_true rfl) (Nat.zero_le _) (Nat.zero_le _) ⟨by omega, by omega⟩ ⟨by omega, by omega⟩ dX4_judge_45 ?_
          refine lv_istore_n (lv' := [(2, .int (zI (max lg (T 14 i k)))), (3, .ref (ad 6 (4 * i + k))), (0, .ref (ad 0 0)), (1, .ref (ad 2 i))]) hx hb dX4_judge_48 rfl hl (by decide) rfl (fun ls hl => ?_)
          refine lv_aload_n hx hb dX4_judge_49 rfl (lv_at hl 1 rfl) ?_
          refine c_getV (Cn := RX1) (T := TX1) hx hb hts 6 hinX1 hown hK hG (4 * i + k) 3 (hal 6 (4 * i + k) (cAl_f hi (show (k : Int) < S 15 i 0 by omega) hk4)) (by decide) rfl (by decide) (hts (.fieldLink RX4 233 "LineEvents$Fault" "next" "LLineEvents$Fault;") (by decide +kernel)) (cV_N (t := 6) rfl (by rw [cF_3 (rdraw T) E rt hk4, if_neg (show ¬ ((k : Int) + 1 < rdraw T 15 i 0) from (show ¬ ((k : Int) + 1 < T 15 i 0) by omega))]; decide)) dX4_judge_50 ?_
          refine lv_astore_nN (lv' := [(3, .null), (2, .int (zI (max lg (T 14 i k)))), (0, .ref (ad 0 0)), (1, .ref (ad 2 i))]) hx hb dX4_judge_53 rfl hl (by decide) rfl (fun ls hl => ?_)
          refine lv_goto (tgt := 7) hx hb dX4_judge_54 (by decide) ?_
          refine lv_aload_nN hx hb dX4_judge_7 rfl (lv_at hl 0 rfl) ?_
          refine lv_ifnullN (tgt := 57) hx hb dX4_judge_8 (by decide) ?_
          have hvx : (rdraw T, max lg (T 14 i k), false) = J0 := by rw [← hv9, rjl]; first | (rw [if_neg (by omega)]; rfl) | (rw [if_pos (by omega), if_neg (by omega), show max lg (T 14 i k) = (if lg < T 14 i k then T 14 i k else lg) by split <;> omega]; rfl)
          obtain ⟨lg2, hlg2⟩ : ∃ z : Int, z = max lg (T 14 i k) := ⟨_, rfl⟩
          have hlgB : 0 ≤ lg2 ∧ lg2 ≤ 100000 := by rw [hlg2]; omega
          replace hl : lv_has ls 4 [(3, .null), (2, .int (zI lg2)), (0, .ref (ad 0 0)), (1, .ref (ad 2 i))] := by rw [hlg2]; exact hl
          rw [← hlg2] at hvx
          clear hlg hlg2 hv9 hd9
          generalize lg2 = lg at hl hvx hlgB
          have hTI2 : Inv (rdraw T) := hTI
          have hTi2 : (i : Int) < rdraw T 5 0 0 := hTi
          have hTe2 : 0 ≤ rdraw T 30 0 0 ∧ rdraw T 30 0 0 < 2147483647 := hTe
          have halT2 : alS al (rdraw T) := halT
          have hT62 : rdraw T 6 i 0 = 1 := hT6
          have h252 : 0 ≤ rdraw T 25 0 0 ∧ rdraw T 25 0 0 ≤ 1000000000 := hI25
          clear hTI hTi hTe halT hT6 hT15 hM6 hM7 hM8 hM10 hM11 hM15 hM9 hMf hf12 hf13 hf14 hf1 hn hI5 hI25 hI20 hIM hIL hIR
          generalize rdraw T = T at hG hvx hTI2 hTi2 hTe2 halT2 hT62 h252
          have hTI := hTI2
          have hTi := hTi2
          have hTe := hTe2
          have halT := halT2
          have hT6 := hT62
          have hlg := hlgB
          refine lv_aload_n hx hb dX4_judge_57 rfl (lv_at hl 3 rfl) ?_
          refine lv_iconst (v := zI 1) hx hb dX4_judge_58 rfl ?_
          refine c_putV (Cn := RX2) (T := TX2) (z := 1) hx hb hts 2 hinX2 tyX2 tyX2_ok nmX2 hown hK hG hS i 13 (hal 2 i (show (i : Int) < S 5 0 0 by omega)) (by decide) rfl (by decide) (hts (.fieldLink RX4 201 "LineEvents$Machine" "judged" "Z") (by decide +kernel)) (Or.inl rfl) (cV_I (z := 1) rfl rfl) (by decide +kernel) rfl dX4_judge_59 (fun H locs hG hS => ?_)
          refine lv_iload_n hx hb dX4_judge_62 rfl (lv_at hl 1 rfl) ?_
          refine z_if_le (tgt := 82) hx hb dX4_judge_63 (by decide) ⟨by omega, by omega⟩ (fun c_5 => ?_) (fun c_5 => ?_)
          · have e9 : su (cC T E rt) 2 i 13 (1) = cC (rjfin i (su J0.1 6 i 0 2, J0.2)).1 E rt := by rw [← hvx]; unfold rjfin; rw [if_neg Bool.false_ne_true, if_neg (show ¬ 0 < lg by omega)]; exact (cC_jd T E rt i hT6).symm
            rw [e9] at hG
            exact W.vret hx hb hr (fun t ht hW => ⟨rfl, ⟨by rw [ht]; exact hG, va_K.moved hW.alike hK, fun q hq => hA q (Nat.le_trans hS.1 (by rw [← ht]; exact hq))⟩, hS.F ht⟩) hS.2.2 dX4_judge_82
          · refine lv_aload_n hx hb dX4_judge_66 rfl (lv_at hl 3 rfl) ?_
            refine lv_aload_n hx hb dX4_judge_67 rfl (lv_at hl 2 rfl) ?_
            refine c_getV (Cn := RX4) (T := TX4) hx hb hts 0 hinX4 hown hK hG 0 1 (hal 0 0 rfl) (by decide) rfl (by decide) (hts (.fieldLink RX4 27 "LineEvents" "now" "I") (by decide +kernel)) (cV_I (z := T 25 0 0) rfl ((su_v (by decide)).trans (rfl))) dX4_judge_68 ?_
            refine lv_iload_n hx hb dX4_judge_71 rfl (lv_at hl 1 rfl) ?_
            refine z_iadd hx hb dX4_judge_72 ?_
            refine c_putV (Cn := RX2) (T := TX2) (z := (T 25 0 0) + lg) hx hb hts 2 hinX2 tyX2 tyX2_ok nmX2 hown hK hG hS i 10 (hal 2 i (show (i : Int) < S 5 0 0 by omega)) (by decide) rfl (by decide) (hts (.fieldLink RX4 236 "LineEvents$Machine" "faultEnd" "I") (by decide +kernel)) (Or.inl rfl) (cV_I (z := (T 25 0 0) + lg) rfl rfl) rfl rfl dX4_judge_73 (fun H locs hG hS => ?_)
            refine lv_aload_n hx hb dX4_judge_76 rfl (lv_at hl 2 rfl) ?_
            refine lv_aload_n hx hb dX4_judge_77 rfl (lv_at hl 3 rfl) ?_
            refine lv_iconst (v := zI 3) hx hb dX4_judge_78 rfl ?_
            have e8 : su (su (cC T E rt) 2 i 13 (1)) 2 i 10 ((T 25 0 0) + lg) = cC (su (su T 6 i 0 2) 8 i 0 (T 25 0 0 + lg)) E rt := by rw [cC_8, cC_jd T E rt i hT6]
            rw [e8] at hG; clear e8
            refine c_callV (As := [.ref (ad 2 i), .int (zI 3)]) (rest := []) (Cn := RX4) (T := TX4) ⟨hx, hb, hml, hown, hts⟩ 0 0 (m_X4_note l D cI cJ A ad al (su (su T 6 i 0 2) 8 i 0 (T 25 0 0 + lg)) E rt halT i 3 hTi hTe) (cwV 2 hts gX4_judge_X4_note rfl rfl rfl (by decide +kernel) ⟨Nat.le_of_ble_eq_true rfl, Nat.le_of_ble_eq_true rfl⟩) (hal 0 0 rfl) (by decide) rfl hK hG hS hA rfl hl.1 rfl (Nat.le_of_ble_eq_true rfl) dX4_judge_79 ⟨Nat.zero_le _, Nat.zero_le _⟩ (fun t9 H locs ht9 hB hS => ?_)
            have hG := hB.1; rw [ht9] at hG; clear hB ht9
            have e9 : cC (rnote (su (su T 6 i 0 2) 8 i 0 (T 25 0 0 + lg)) i 3) E rt = cC (rjfin i (su J0.1 6 i 0 2, J0.2)).1 E rt := by rw [← hvx]; unfold rjfin; rw [if_neg Bool.false_ne_true, if_pos (show 0 < lg by omega)]; rfl
            rw [e9] at hG
            exact W.vret hx hb hr (fun t ht hW => ⟨rfl, ⟨by rw [ht]; exact hG, va_K.moved hW.alike hK, fun q hq => hA q (Nat.le_trans hS.1 (by rw [← ht]; exact hq))⟩, hS.F ht⟩) hS.2.2 dX4_judge_82
        · refine lv_aload_n hx hb dX4_judge_34 rfl (lv_at hl 2 rfl) ?_
          refine lv_aload_n hx hb dX4_judge_35 rfl (lv_at hl 3 rfl) ?_
          refine c_callV (As := [.ref (ad 2 i)]) (rest := []) (Cn := RX4) (T := TX4) ⟨hx, hb, hml, hown, hts⟩ 0 0 (m_X4_reject l D cI cJ A ad al (rdraw T) E rt halT i hTI hTi hTe) (cwV 1 hts gX4_judge_X4_reject rfl rfl rfl (by decide +kernel) ⟨Nat.le_of_ble_eq_true rfl, Nat.le_of_ble_eq_true rfl⟩) (hal 0 0 rfl) (by decide) rfl hK hG hS hA rfl hl.1 rfl (Nat.le_of_ble_eq_true rfl) dX4_judge_36 ⟨Nat.zero_le _, Nat.zero_le _⟩ (fun t9 H locs ht9 hB hS => ?_)
          have hG := hB.1; rw [ht9] at hG; clear hB ht9
          have e9 : cC (rnote (su (su (rdraw T) 6 i 0 0) 22 i 0 ((rdraw T) 22 i 0 + 1)) i 2) E rt = cC (rjfin i (su J0.1 6 i 0 2, J0.2)).1 E rt := by rw [← hv9, rjl_s, if_pos (by omega), if_pos (by omega)]; exact congrArg (fun X => cC X E rt) (rej_fin i (rdraw T) lg).symm
          rw [e9] at hG
          exact W.vret hx hb hr (fun t ht hW => ⟨rfl, ⟨by rw [ht]; exact hG, va_K.moved hW.alike hK, fun q hq => hA q (Nat.le_trans hS.1 (by rw [← ht]; exact hq))⟩, hS.F ht⟩) hS.2.2 dX4_judge_39
    | succ n ih =>
      obtain ⟨hI5, hI25, hI20, hIM, hIL, hIR⟩ := id hTI
      obtain ⟨hM6, hM7, hM8, hM10, hM11, hM15, hM9, hMf⟩ := id (hIM i (by omega))
      obtain ⟨hf12, hf13, hf14, hf1⟩ := hMf k hk4
      refine lv_aload_n hx hb dX4_judge_7 rfl (lv_at hl 0 rfl) ?_
      refine lv_ifnull hx hb dX4_judge_8 ?_
      refine lv_aload_n hx hb dX4_judge_11 rfl (lv_at hl 2 rfl) ?_
      refine lv_aload_n hx hb dX4_judge_12 rfl (lv_at hl 0 rfl) ?_
      refine c_getV (Cn := RX1) (T := TX1) hx hb hts 6 hinX1 hown hK hG (4 * i + k) 1 (hal 6 (4 * i + k) (cAl_f hi (show (k : Int) < S 15 i 0 by omega) hk4)) (by decide) rfl (by decide) (hts (.fieldLink RX4 217 "LineEvents$Fault" "below" "J") (by decide +kernel)) (cV_J (z := T 13 i k) rfl (cF_1 T E rt hk4)) dX4_judge_13 ?_
      refine c_callV (As := [.long (zL (T 13 i k))]) (rest := []) (Cn := RX4) (T := TX4) ⟨hx, hb, hml, hown, hts⟩ 0 0 (m_X4_draw l D cI cJ A ad al T E rt halT (T 13 i k) ⟨by omega, by omega⟩) (cwV 1 hts gX4_judge_X4_draw rfl rfl rfl (by decide +kernel) ⟨Nat.le_of_ble_eq_true rfl, Nat.le_of_ble_eq_true rfl⟩) (hal 0 0 rfl) (by decide) rfl hK hG hS hA rfl hl.1 rfl (Nat.le_of_ble_eq_true rfl) dX4_judge_16 ⟨Nat.zero_le _, Nat.zero_le _⟩ (fun t9 H locs ht9 hB hS => ?_)
      have hG := hB.1; rw [ht9] at hG; clear hB ht9
      have hd9 := rdv_B T (b := T 13 i k) (by omega)
      refine lv_aload_n hx hb dX4_judge_19 rfl (lv_at hl 0 rfl) ?_
      refine c_getV (Cn := RX1) (T := TX1) hx hb hts 6 hinX1 hown hK hG (4 * i + k) 0 (hal 6 (4 * i + k) (cAl_f hi (show (k : Int) < S 15 i 0 by omega) hk4)) (by decide) rfl (by decide) (hts (.fieldLink RX4 224 "LineEvents$Fault" "above" "J") (by decide +kernel)) (cV_J (z := T 12 i k) rfl (cF_0 (rdraw T) E rt hk4)) dX4_judge_20 ?_
      refine W.lcmp hx hb dX4_judge_23 ?_
      refine z_lif_ge (tgt := 49) hx hb dX4_judge_24 (by decide) ⟨by omega, by omega⟩ ⟨by omega, by omega⟩ (fun c_6 => ?_) (fun c_6 => ?_)
      · refine lv_aload_n hx hb dX4_judge_49 rfl (lv_at hl 0 rfl) ?_
        refine c_getV (Cn := RX1) (T := TX1) hx hb hts 6 hinX1 hown hK hG (4 * i + k) 3 (hal 6 (4 * i + k) (cAl_f hi (show (k : Int) < S 15 i 0 by omega) hk4)) (by decide) rfl (by decide) (hts (.fieldLink RX4 233 "LineEvents$Fault" "next" "LLineEvents$Fault;") (by decide +kernel)) (cV_R (t := 6) (j := (4 * i + (k + 1))) rfl ((cF_3 (rdraw T) E rt hk4).trans (if_pos (show (k : Int) + 1 < T 15 i 0 by omega)))) dX4_judge_50 ?_
        refine lv_astore_n (lv' := [(3, .ref (ad 6 (4 * i + (k + 1)))), (2, .int (zI lg)), (0, .ref (ad 0 0)), (1, .ref (ad 2 i))]) hx hb dX4_judge_53 rfl hl (by decide) rfl (fun ls hl => ?_)
        refine lv_goto (tgt := 7) hx hb dX4_judge_54 (by decide) ?_
        exact ih (k := k + 1) (ls := ls) (T := rdraw T) (lg := lg) (H := H) (locs := locs) (hG := hG) (hS := hS) (hTI := hTI) (hTi := hTi) (hTe := hTe) (halT := halT) (hT15 := hT15) (hT6 := hT6) (hlg := by omega) (hk4 := by omega) (hl := lv_sub hl [0, 1, 2, 3] rfl) (hn := by rw [show rdraw T 15 i 0 = T 15 i 0 from rfl]; omega) (hv9 := by rw [← hv9, rjl_s i (n + 1) k T lg]; first | rw [if_neg (by omega)] | rw [if_pos (by omega), if_neg (by omega), show max lg (T 14 i k) = (if lg < T 14 i k then T 14 i k else lg) by split <;> omega])
      · refine lv_aload_n hx hb dX4_judge_27 rfl (lv_at hl 0 rfl) ?_
        refine c_getV (Cn := RX1) (T := TX1) hx hb hts 6 hinX1 hown hK hG (4 * i + k) 2 (hal 6 (4 * i + k) (cAl_f hi (show (k : Int) < S 15 i 0 by omega) hk4)) (by decide) rfl (by decide) (hts (.fieldLink RX4 227 "LineEvents$Fault" "tenths" "I") (by decide +kernel)) (cV_I (z := T 14 i k) rfl (cF_2 (rdraw T) E rt hk4)) dX4_judge_28 ?_
        refine z_if_ne (tgt := 40) hx hb dX4_judge_31 (by decide) ⟨by omega, by omega⟩ (fun c_7 => ?_) (fun c_7 => ?_)
        · refine lv_iload_n hx hb dX4_judge_40 rfl (lv_at hl 1 rfl) ?_
          refine lv_aload_n hx hb dX4_judge_41 rfl (lv_at hl 0 rfl) ?_
          refine c_getV (Cn := RX1) (T := TX1) hx hb hts 6 hinX1 hown hK hG (4 * i + k) 2 (hal 6 (4 * i + k) (cAl_f hi (show (k : Int) < S 15 i 0 by omega) hk4)) (by decide) rfl (by decide) (hts (.fieldLink RX4 227 "LineEvents$Fault" "tenths" "I") (by decide +kernel)) (cV_I (z := T 14 i k) rfl (cF_2 (rdraw T) E rt hk4)) dX4_judge_42 ?_
          refine z_max hx hb (by rw [hml]; exact hl.1.symm) hown (hts (.methodLink RX4 102 Lib.Math.max.name) (by decide +kernel)) (hts (.static Lib.Math.max.name) (by decide +kernel)) (hts (.initialized "java/lang/Math") (by decide +kernel)) (hts (.code Lib.Math.max.name Lib.Math.max.code 2 (some .int)) (by decide +kernel)) (Nat.le_of_ble_eq_true rfl) (Nat.le_of_ble_eq_true rfl) (Nat.zero_le _) (Nat.zero_le _) ⟨by omega, by omega⟩ ⟨by omega, by omega⟩ dX4_judge_45 ?_
          refine lv_istore_n (lv' := [(2, .int (zI (max lg (T 14 i k)))), (3, .ref (ad 6 (4 * i + k))), (0, .ref (ad 0 0)), (1, .ref (ad 2 i))]) hx hb dX4_judge_48 rfl hl (by decide) rfl (fun ls hl => ?_)
          refine lv_aload_n hx hb dX4_judge_49 rfl (lv_at hl 1 rfl) ?_
          refine c_getV (Cn := RX1) (T := TX1) hx hb hts 6 hinX1 hown hK hG (4 * i + k) 3 (hal 6 (4 * i + k) (cAl_f hi (show (k : Int) < S 15 i 0 by omega) hk4)) (by decide) rfl (by decide) (hts (.fieldLink RX4 233 "LineEvents$Fault" "next" "LLineEvents$Fault;") (by decide +kernel)) (cV_R (t := 6) (j := (4 * i + (k + 1))) rfl ((cF_3 (rdraw T) E rt hk4).trans (if_pos (show (k : Int) + 1 < T 15 i 0 by omega)))) dX4_judge_50 ?_
          refine lv_astore_n (lv' := [(3, .ref (ad 6 (4 * i + (k + 1)))), (2, .int (zI (max lg (T 14 i k)))), (0, .ref (ad 0 0)), (1, .ref (ad 2 i))]) hx hb dX4_judge_53 rfl hl (by decide) rfl (fun ls hl => ?_)
          refine lv_goto (tgt := 7) hx hb dX4_judge_54 (by decide) ?_
          exact ih (k := k + 1) (ls := ls) (T := rdraw T) (lg := max lg (T 14 i k)) (H := H) (locs := locs) (hG := hG) (hS := hS) (hTI := hTI) (hTi := hTi) (hTe := hTe) (halT := halT) (hT15 := hT15) (hT6 := hT6) (hlg := by omega) (hk4 := by omega) (hl := lv_sub hl [0, 1, 2, 3] rfl) (hn := by rw [show rdraw T 15 i 0 = T 15 i 0 from rfl]; omega) (hv9 := by rw [← hv9, rjl_s i (n + 1) k T lg]; first | rw [if_neg (by omega)] | rw [if_pos (by omega), if_neg (by omega), show max lg (T 14 i k) = (if lg < T 14 i k then T 14 i k else lg) by split <;> omega])
        · refine lv_aload_n hx hb dX4_judge_34 rfl (lv_at hl 2 rfl) ?_
          refine lv_aload_n hx hb dX4_judge_35 rfl (lv_at hl 3 rfl) ?_
          refine c_callV (As := [.ref (ad 2 i)]) (rest := []) (Cn := RX4) (T := TX4) ⟨hx, hb, hml, hown, hts⟩ 0 0 (m_X4_reject l D cI cJ A ad al (rdraw T) E rt halT i hTI hTi hTe) (cwV 1 hts gX4_judge_X4_reject rfl rfl rfl (by decide +kernel) ⟨Nat.le_of_ble_eq_true rfl, Nat.le_of_ble_eq_true rfl⟩) (hal 0 0 rfl) (by decide) rfl hK hG hS hA rfl hl.1 rfl (Nat.le_of_ble_eq_true rfl) dX4_judge_36 ⟨Nat.zero_le _, Nat.zero_le _⟩ (fun t9 H locs ht9 hB hS => ?_)
          have hG := hB.1; rw [ht9] at hG; clear hB ht9
          have e9 : cC (rnote (su (su (rdraw T) 6 i 0 0) 22 i 0 ((rdraw T) 22 i 0 + 1)) i 2) E rt = cC (rjfin i (su J0.1 6 i 0 2, J0.2)).1 E rt := by rw [← hv9, rjl_s, if_pos (by omega), if_pos (by omega)]; exact congrArg (fun X => cC X E rt) (rej_fin i (rdraw T) lg).symm
          rw [e9] at hG
          exact W.vret hx hb hr (fun t ht hW => ⟨rfl, ⟨by rw [ht]; exact hG, va_K.moved hW.alike hK, fun q hq => hA q (Nat.le_trans hS.1 (by rw [← ht]; exact hq))⟩, hS.F ht⟩) hS.2.2 dX4_judge_39
