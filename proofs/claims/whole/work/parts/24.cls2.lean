set_option maxHeartbeats 4000000 in
set_option maxRecDepth 100000 in
theorem m_X2_allTimes (l : Launch) (D : va_G) (cI cJ : ClassId) (A : Nat → Prop) (ad : Nat → Nat → Nat) (al : Nat → Nat → Prop) (S : sT) (E : Nat → Int) (rt : Int) (hal : alS al S) (i : Nat) (hI : Inv S) (hi : (i : Int) < S 5 0 0) : Met l yX2_allTimes wsX2_allTimes ({ frames := 0, cells := 0, slots := 0, locals := 0 }) (va_Pc [.ref (ad 2 i)] (gCU D cI cJ A ad al (cC S E rt))) (gO (some (.long (zL (rsum S i 12 0 0)))) (gCU D cI cJ A ad al (cC S E rt)) A) 0 0 A := by
  refine Met.ofW (cc := cX2_allTimes) (maxL := 8) (ret := (some .long)) (by decide) rfl ?_
  intro p e s m0 args below meth c s₁ B hml hv
  obtain ⟨rfl, hG, hK, hA⟩ := hv
  have hx := B.exec
  have hb := B.bytes
  have hr := B.returns
  have hts := atoms_spec (ws := wsX2_allTimes) B.pre
  have hown : s.vm.findClass RX2 = some m0.cls := findClass_of_methodNamed B.named
  have hlocks := B.notSynchronized
  have hinX2 : ∀ w ∈ wsX20, w ∈ wsX2_allTimes := by decide +kernel
  have hS : va_S A s.heap s.heap [] := va_S.rf
  have hl := lv_entry ([.ref (ad 2 i)]) (n := 8) (Nat.le_of_ble_eq_true rfl)
  rw [lg_entry_eq]
  generalize (lg_sl ([.ref (ad 2 i)]) ++ List.replicate (8 - (lg_sl ([.ref (ad 2 i)])).length) Slot.unset).toArray = ls at hl ⊢
  replace hl : lv_has ls 8 [(0, .ref (ad 2 i))] := hl
  obtain ⟨hI5, hI25, hI20, hIM, hIL, hIR⟩ := id hI
  obtain ⟨hM6, hM7, hM8, hM10, hM11, hM15, hM9, hMf⟩ := id (hIM i (by omega))
  obtain ⟨hL0, hL1, hL2, hL3, hL4⟩ := id (hIL i hi)
  refine lv_lconst (v := zL 0) hx hb dX2_allTimes_0 (by decide) ?_
  refine lv_lstore_n (lv' := [(1, .long (zL 0)), (0, .ref (ad 2 i))]) hx hb dX2_allTimes_1 rfl hl (by decide) rfl (fun ls hl => ?_)
  refine lv_aload_n hx hb dX2_allTimes_2 rfl (lv_at hl 1 rfl) ?_
  refine c_getV (Cn := RX2) (T := TX2) hx hb hts 2 hinX2 hown hK hG i 15 (hal 2 i (show (i : Int) < S 5 0 0 by omega)) (by decide) rfl (by decide) (hts (.fieldLink RX2 22 "LineEvents$Machine" "times" "[J") (by decide +kernel)) (cV_R (t := 5) (j := i) rfl (rfl)) dX2_allTimes_3 ?_
  refine lv_astore_n (lv' := [(3, .ref (ad 5 i)), (1, .long (zL 0)), (0, .ref (ad 2 i))]) hx hb dX2_allTimes_6 rfl hl (by decide) rfl (fun ls hl => ?_)
  refine lv_aload_n hx hb dX2_allTimes_7 rfl (lv_at hl 0 rfl) ?_
  refine c_alen hx hb hK hG i (hal 5 i (show (i : Int) < S 5 0 0 by omega)) dX2_allTimes_8 ?_
  refine lv_istore (lv' := [(4, .int (zI 12)), (3, .ref (ad 5 i)), (1, .long (zL 0)), (0, .ref (ad 2 i))]) hx hb dX2_allTimes_9 hl (by decide) rfl (fun ls hl => ?_)
  refine lv_iconst (v := zI 0) hx hb dX2_allTimes_11 rfl ?_
  refine lv_istore (lv' := [(5, .int (zI 0)), (4, .int (zI 12)), (3, .ref (ad 5 i)), (1, .long (zL 0)), (0, .ref (ad 2 i))]) hx hb dX2_allTimes_12 hl (by decide) rfl (fun ls hl => ?_)
  obtain ⟨k, hk0⟩ : ∃ k : Nat, k = 0 := ⟨0, rfl⟩
  obtain ⟨q, hq0⟩ : ∃ z : Int, z = 0 := ⟨0, rfl⟩
  replace hl : lv_has ls 8 [(5, .int (zI (k : Int))), (4, .int (zI 12)), (3, .ref (ad 5 i)), (1, .long (zL q)), (0, .ref (ad 2 i))] := by subst hk0; subst hq0; exact hl
  obtain ⟨n, hn⟩ : ∃ n : Nat, (k : Int) + n = 12 := ⟨12, by omega⟩
  have hv9 : rsum S i n k q = rsum S i 12 0 0 := by subst hk0; subst hq0; congr 1; omega
  clear hk0 hq0
  induction n generalizing k ls q with
  | zero =>
    refine lv_iload hx hb dX2_allTimes_14 (lv_at hl 0 rfl) ?_
    refine lv_iload hx hb dX2_allTimes_16 (lv_at hl 1 rfl) ?_
    refine z_icmp_ge (tgt := 38) hx hb dX2_allTimes_18 (by decide) ⟨by omega, by omega⟩ ⟨by decide, by decide⟩ (fun c_1 => ?_) (fun c_1 => ?_)
    · refine lv_lload_n hx hb dX2_allTimes_38 rfl (lv_at hl 3 rfl) ?_
      have v9 : q = rsum S i 12 0 0 := by rw [← hv9]; rfl
      refine W.eq (congrArg (fun z => F0 m0 39 ls [.long (zL z)]) v9) ?_
      exact W.lret hx hb hr (fun t ht hW => ⟨rfl, ⟨by rw [ht]; exact hG, va_K.moved hW.alike hK, fun q hq => hA q (Nat.le_trans hS.1 (by rw [← ht]; exact hq))⟩, hS.F ht⟩) hS.2.2 dX2_allTimes_39
    · exfalso; omega
  | succ n ih =>
    refine lv_iload hx hb dX2_allTimes_14 (lv_at hl 0 rfl) ?_
    refine lv_iload hx hb dX2_allTimes_16 (lv_at hl 1 rfl) ?_
    refine z_icmp_ge (tgt := 38) hx hb dX2_allTimes_18 (by decide) ⟨by omega, by omega⟩ ⟨by decide, by decide⟩ (fun c_2 => ?_) (fun c_2 => ?_)
    · exfalso; omega
    · refine lv_aload_n hx hb dX2_allTimes_21 rfl (lv_at hl 2 rfl) ?_
      refine lv_iload hx hb dX2_allTimes_22 (lv_at hl 0 rfl) ?_
      refine c_lald hx hb hK hG i (hal 5 i (show (i : Int) < S 5 0 0 by omega)) (z := (k : Int)) (by omega) (by omega) (w := S 21 i k) (rfl) dX2_allTimes_24 ?_
      refine lv_lstore (lv' := [(6, .long (zL (S 21 i k))), (5, .int (zI (k : Int))), (4, .int (zI 12)), (3, .ref (ad 5 i)), (1, .long (zL q)), (0, .ref (ad 2 i))]) hx hb dX2_allTimes_25 hl (by decide) rfl (fun ls hl => ?_)
      refine lv_lload_n hx hb dX2_allTimes_27 rfl (lv_at hl 4 rfl) ?_
      refine lv_lload hx hb dX2_allTimes_28 (lv_at hl 0 rfl) ?_
      refine z_ladd hx hb dX2_allTimes_30 ?_
      refine lv_lstore_n (lv' := [(1, .long (zL (q + (S 21 i k)))), (6, .long (zL (S 21 i k))), (5, .int (zI (k : Int))), (4, .int (zI 12)), (3, .ref (ad 5 i)), (0, .ref (ad 2 i))]) hx hb dX2_allTimes_31 rfl hl (by decide) rfl (fun ls hl => ?_)
      refine lv_iinc (v := zI ((k : Int) + 1)) (lv' := [(5, .int (zI ((k : Int) + 1))), (1, .long (zL (q + (S 21 i k)))), (6, .long (zL (S 21 i k))), (4, .int (zI 12)), (3, .ref (ad 5 i)), (0, .ref (ad 2 i))]) hx hb dX2_allTimes_32 hl (k := 2) rfl (by rw [show Int32.ofInt 1 = zI 1 from rfl, zI_add]) (by decide) rfl (fun ls hl => ?_)
      refine lv_goto (tgt := 14) hx hb dX2_allTimes_35 (by decide) ?_
      exact ih (k := k + 1) (ls := ls) (q := q + (S 21 i k)) (hl := lv_sub hl [0, 3, 4, 1, 5] rfl) (hn := by omega) (hv9 := by rw [← hv9, rsum])
theorem ccause_0 {S : sT} {E : Nat → Int} {i : Nat} {z : Int} (h : ccause S E i z = 0) (hE : E i = -1 ∨ 1 ≤ E i) : ¬ S 6 i 0 = 0 := by
  unfold ccause at h
  split at h
  · split at h
    · omega
    · split at h
      · omega
      · assumption
  · omega
set_option maxHeartbeats 4000000 in
set_option maxRecDepth 100000 in
theorem m_X2_quietTenths (l : Launch) (D : va_G) (cI cJ : ClassId) (A : Nat → Prop) (ad : Nat → Nat → Nat) (al : Nat → Nat → Prop) (S : sT) (E : Nat → Int) (rt : Int) (hal : alS al S) (i : Nat) (z : Int) (hI : Inv S) (hi : (i : Int) < S 5 0 0) (hz : 0 ≤ z ∧ z ≤ 1000000000) (hE : -1 ≤ E i ∧ E i ≤ 9) (hE1 : E i = -1 ∨ 1 ≤ E i) : Met l yX2_quietTenths wsX2_quietTenths ({ frames := 2, cells := 0, slots := 0, locals := 41 }) (va_Pc [.ref (ad 2 i), .int (zI z)] (gCU D cI cJ A ad al (cC S E rt))) (gO (some (.int (zI (cquiet S E i z)))) (gCU D cI cJ A ad al (cC S E rt)) A) 0 0 A := by
  refine Met.ofW (cc := cX2_quietTenths) (maxL := 2) (ret := (some .int)) (by decide) rfl ?_
  intro p e s m0 args below meth c s₁ B hml hv
  obtain ⟨rfl, hG, hK, hA⟩ := hv
  have hx := B.exec
  have hb := B.bytes
  have hr := B.returns
  have hts := atoms_spec (ws := wsX2_quietTenths) B.pre
  have hown : s.vm.findClass RX2 = some m0.cls := findClass_of_methodNamed B.named
  have hlocks := B.notSynchronized
  have hinX0 : ∀ w ∈ wsX00, w ∈ wsX2_quietTenths := by decide +kernel
  have hinX2 : ∀ w ∈ wsX20, w ∈ wsX2_quietTenths := by decide +kernel
  have hS : va_S A s.heap s.heap [] := va_S.rf
  have hl := lv_entry ([.ref (ad 2 i), .int (zI z)]) (n := 2) (Nat.le_of_ble_eq_true rfl)
  rw [lg_entry_eq]
  generalize (lg_sl ([.ref (ad 2 i), .int (zI z)]) ++ List.replicate (2 - (lg_sl ([.ref (ad 2 i), .int (zI z)])).length) Slot.unset).toArray = ls at hl ⊢
  replace hl : lv_has ls 2 [(0, .ref (ad 2 i)), (1, .int (zI z))] := hl
  obtain ⟨hI5, hI25, hI20, hIM, hIL, hIR⟩ := id hI
  obtain ⟨hM6, hM7, hM8, hM10, hM11, hM15, hM9, hMf⟩ := id (hIM i (by omega))
  obtain ⟨hL0, hL1, hL2, hL3, hL4⟩ := id (hIL i hi)
  have hz : zB z := ⟨by omega, by omega⟩
  refine lv_aload_n hx hb dX2_quietTenths_0 rfl (lv_at hl 0 rfl) ?_
  refine lv_iload_n hx hb dX2_quietTenths_1 rfl (lv_at hl 1 rfl) ?_
  refine c_callV (As := [.int (zI z)]) (rest := []) (Cn := RX2) (T := TX2) ⟨hx, hb, hml, hown, hts⟩ 2 i (m_X2_causeAt l D cI cJ A ad al S E rt hal i z hI hi hz hE) (cwV 1 hts gX2_quietTenths_X2_causeAt rfl rfl rfl (by decide +kernel) ⟨Nat.le_of_ble_eq_true rfl, Nat.le_of_ble_eq_true rfl⟩) (hal 2 i (show (i : Int) < S 5 0 0 by omega)) (by decide) rfl hK hG hS hA rfl hl.1 rfl (Nat.le_of_ble_eq_true rfl) dX2_quietTenths_2 ⟨Nat.zero_le _, Nat.zero_le _⟩ (fun t9 H locs ht9 hB hS => ?_)
  have hG := hB.1; rw [ht9] at hG; clear hB ht9
  obtain ⟨cz, hcz⟩ : ∃ q, q = ccause S E i z := ⟨_, rfl⟩
  rw [← hcz]
  have hczB : 0 ≤ cz ∧ cz ≤ 11 := by rw [hcz]; unfold ccause; repeat (split <;> try omega)
  have hct : (zI cz).toInt = cz := zI_toInt (by omega) (by omega)
  by_cases hq0 : cz = 0
  · refine lv_lookup (off := 35) (tgt := 40) hx hb dX2_quietTenths_5 (by decide) (by rw [hct, hq0]; decide) (by decide) ?_
    refine lv_aload_n hx hb dX2_quietTenths_40 rfl (lv_at hl 0 rfl) ?_
    refine c_getV (Cn := RX2) (T := TX2) hx hb hts 2 hinX2 hown hK hG i 1 (hal 2 i (show (i : Int) < S 5 0 0 by omega)) (by decide) rfl (by decide) (hts (.fieldLink RX2 29 "LineEvents$Machine" "takes" "I") (by decide +kernel)) (cV_I (z := S 0 i 0) rfl (rfl)) dX2_quietTenths_41 ?_
    refine lv_aload_n hx hb dX2_quietTenths_44 rfl (lv_at hl 0 rfl) ?_
    refine c_getV (Cn := RX2) (T := TX2) hx hb hts 2 hinX2 hown hK hG i 12 (hal 2 i (show (i : Int) < S 5 0 0 by omega)) (by decide) rfl (by decide) (hts (.fieldLink RX2 61 "LineEvents$Machine" "worked" "I") (by decide +kernel)) (cV_I (z := S 7 i 0) rfl (if_neg (ccause_0 (by rw [← hcz]; exact hq0) hE1))) dX2_quietTenths_45 ?_
    refine z_isub hx hb dX2_quietTenths_48 ?_
    have v9 : (S 0 i 0) - (S 7 i 0) = cquiet S E i z := by unfold cquiet; rw [if_pos (hcz ▸ hq0)]
    refine W.eq (congrArg (fun z => F0 m0 49 ls [.int (zI z)]) v9) ?_
    exact W.iret hx hb hr (fun t ht hW => ⟨rfl, ⟨by rw [ht]; exact hG, va_K.moved hW.alike hK, fun q hq => hA q (Nat.le_trans hS.1 (by rw [← ht]; exact hq))⟩, hS.F ht⟩) hS.2.2 dX2_quietTenths_49
  by_cases hq3 : cz = 3
  · refine lv_lookup (off := 45) (tgt := 50) hx hb dX2_quietTenths_5 (by decide) (by rw [hct, hq3]; decide) (by decide) ?_
    refine lv_aload_n hx hb dX2_quietTenths_50 rfl (lv_at hl 0 rfl) ?_
    refine c_getV (Cn := RX2) (T := TX2) hx hb hts 2 hinX2 hown hK hG i 10 (hal 2 i (show (i : Int) < S 5 0 0 by omega)) (by decide) rfl (by decide) (hts (.fieldLink RX2 54 "LineEvents$Machine" "faultEnd" "I") (by decide +kernel)) (cV_I (z := S 8 i 0) rfl (rfl)) dX2_quietTenths_51 ?_
    refine lv_iload_n hx hb dX2_quietTenths_54 rfl (lv_at hl 1 rfl) ?_
    refine z_isub hx hb dX2_quietTenths_55 ?_
    have v9 : (S 8 i 0) - z = cquiet S E i z := by unfold cquiet; rw [← hcz, if_neg (by omega), if_pos (by omega)]
    refine W.eq (congrArg (fun z => F0 m0 56 ls [.int (zI z)]) v9) ?_
    exact W.iret hx hb hr (fun t ht hW => ⟨rfl, ⟨by rw [ht]; exact hG, va_K.moved hW.alike hK, fun q hq => hA q (Nat.le_trans hS.1 (by rw [← ht]; exact hq))⟩, hS.F ht⟩) hS.2.2 dX2_quietTenths_56
  by_cases hq10 : cz = 10
  · refine lv_lookup (off := 52) (tgt := 57) hx hb dX2_quietTenths_5 (by decide) (by rw [hct, hq10]; decide) (by decide) ?_
    refine lv_aload_n hx hb dX2_quietTenths_57 rfl (lv_at hl 0 rfl) ?_
    refine c_getV (Cn := RX2) (T := TX2) hx hb hts 2 hinX2 hown hK hG i 3 (hal 2 i (show (i : Int) < S 5 0 0 by omega)) (by decide) rfl (by decide) (hts (.fieldLink RX2 36 "LineEvents$Machine" "before" "LLineEvents$Buffer;") (by decide +kernel)) (cV_F (t := 3) (z := S 1 i 0) rfl (rfl)) dX2_quietTenths_58 ?_
    refine z_ifnonnull (ad := ad) (t := 3) (tgt := 68) hx hb dX2_quietTenths_61 (by decide) (fun c_1 => ?_) (fun c_1 => ?_)
    · obtain ⟨b, hb9⟩ : ∃ b : Nat, S 1 i 0 = (b : Int) := ⟨(S 1 i 0).toNat, by omega⟩
      have hbn : (b : Int) < S 5 0 0 := by omega
      obtain ⟨hB6, hB7, hB8, hB10, hB11, hB15, hB9, hBf⟩ := id (hIM b (by omega))
      obtain ⟨hC0, hC1, hC2, hC3, hC4⟩ := id (hIL b hbn)
      have hq9 := hB9 (S 10 b 0).toNat (by omega)
      have hrd : 0 ≤ rready S b ∧ rready S b ≤ 1000000000 + 10001 := by unfold rready; split <;> omega
      refine lv_aload_n hx hb dX2_quietTenths_68 rfl (lv_at hl 0 rfl) ?_
      refine c_getV (Cn := RX2) (T := TX2) hx hb hts 2 hinX2 hown hK hG i 3 (hal 2 i (show (i : Int) < S 5 0 0 by omega)) (by decide) rfl (by decide) (hts (.fieldLink RX2 36 "LineEvents$Machine" "before" "LLineEvents$Buffer;") (by decide +kernel)) (cV_R (t := 3) (j := b) rfl (hb9)) dX2_quietTenths_69 ?_
      refine c_callV (As := []) (rest := []) (Cn := RX0) (T := TX0) ⟨hx, hb, hml, hown, hts⟩ 3 b (m_X0_readyAt l D cI cJ A ad al S E rt hal b hI hbn) (cwV 0 hts gX2_quietTenths_X0_readyAt rfl rfl rfl (by decide +kernel) ⟨Nat.le_of_ble_eq_true rfl, Nat.le_of_ble_eq_true rfl⟩) (hal 3 b (show (b : Int) < S 5 0 0 by omega)) (by decide) rfl hK hG hS hA rfl hl.1 rfl (Nat.le_of_ble_eq_true rfl) dX2_quietTenths_72 ⟨Nat.zero_le _, Nat.zero_le _⟩ (fun t9 H locs ht9 hB hS => ?_)
      have hG := hB.1; rw [ht9] at hG; clear hB ht9
      refine lv_iload_n hx hb dX2_quietTenths_75 rfl (lv_at hl 1 rfl) ?_
      refine z_isub hx hb dX2_quietTenths_76 ?_
      have v9 : (rready S b) - z = cquiet S E i z := by unfold cquiet; rw [← hcz, if_neg (by omega), if_neg (by omega), if_pos (by omega)]; rw [if_neg (by omega), hb9]; rfl
      refine W.eq (congrArg (fun z => F0 m0 77 ls [.int (zI z)]) v9) ?_
      exact W.iret hx hb hr (fun t ht hW => ⟨rfl, ⟨by rw [ht]; exact hG, va_K.moved hW.alike hK, fun q hq => hA q (Nat.le_trans hS.1 (by rw [← ht]; exact hq))⟩, hS.F ht⟩) hS.2.2 dX2_quietTenths_77
    · refine lv_iconst (v := zI 0) hx hb dX2_quietTenths_64 rfl ?_
      refine lv_goto (tgt := 77) hx hb dX2_quietTenths_65 (by decide) ?_
      have v9 : 0 = cquiet S E i z := by unfold cquiet; rw [← hcz, if_neg (by omega), if_neg (by omega), if_pos (by omega)]; rw [if_pos (by omega)]
      refine W.eq (congrArg (fun z => F0 m0 77 ls [.int (zI z)]) v9) ?_
      exact W.iret hx hb hr (fun t ht hW => ⟨rfl, ⟨by rw [ht]; exact hG, va_K.moved hW.alike hK, fun q hq => hA q (Nat.le_trans hS.1 (by rw [← ht]; exact hq))⟩, hS.F ht⟩) hS.2.2 dX2_quietTenths_77
  · refine lv_lookup (off := 73) (tgt := 78) hx hb dX2_quietTenths_5 (by decide) (by rw [hct]; simp [Op.lookupswitch.offset]; omega) (by decide) ?_
    refine z_ldc (z := 1000000000) hx hb hown (hts (.constant RX2 75 (1000000000)) (by decide +kernel)) (by decide) dX2_quietTenths_78 ?_
    have v9 : 1000000000 = cquiet S E i z := by unfold cquiet; rw [← hcz, if_neg (by omega), if_neg (by omega), if_neg (by omega)]
    refine W.eq (congrArg (fun z => F0 m0 80 ls [.int (zI z)]) v9) ?_
    exact W.iret hx hb hr (fun t ht hW => ⟨rfl, ⟨by rw [ht]; exact hG, va_K.moved hW.alike hK, fun q hq => hA q (Nat.le_trans hS.1 (by rw [← ht]; exact hq))⟩, hS.F ht⟩) hS.2.2 dX2_quietTenths_80
set_option maxHeartbeats 4000000 in
set_option maxRecDepth 100000 in
theorem m_X4_reject (l : Launch) (D : va_G) (cI cJ : ClassId) (A : Nat → Prop) (ad : Nat → Nat → Nat) (al : Nat → Nat → Prop) (S : sT) (E : Nat → Int) (rt : Int) (hal : alS al S) (i : Nat) (hI : Inv S) (hi : (i : Int) < S 5 0 0) (he : 0 ≤ S 30 0 0 ∧ S 30 0 0 < 2147483647) : Met l yX4_reject wsX4_reject ({ frames := 1, cells := 0, slots := 0, locals := 23 }) (va_Pc [.ref (ad 0 0), .ref (ad 2 i)] (gCU D cI cJ A ad al (cC S E rt))) (gO none (gCU D cI cJ A ad al (cC (rnote (su (su S 6 i 0 0) 22 i 0 (S 22 i 0 + 1)) i 2) E rt)) A) 0 0 A := by
  refine Met.ofW (cc := cX4_reject) (maxL := 2) (ret := none) (by decide) rfl ?_
  intro p e s m0 args below meth c s₁ B hml hv
  obtain ⟨rfl, hG, hK, hA⟩ := hv
  have hx := B.exec
  have hb := B.bytes
  have hr := B.returns
  have hts := atoms_spec (ws := wsX4_reject) B.pre
  have hown : s.vm.findClass RX4 = some m0.cls := findClass_of_methodNamed B.named
  have hlocks := B.notSynchronized
  have hinX2 : ∀ w ∈ wsX20, w ∈ wsX4_reject := by decide +kernel
  have hinX4 : ∀ w ∈ wsX40, w ∈ wsX4_reject := by decide +kernel
  have hS : va_S A s.heap s.heap [] := va_S.rf
  have hl := lv_entry ([.ref (ad 0 0), .ref (ad 2 i)]) (n := 2) (Nat.le_of_ble_eq_true rfl)
  rw [lg_entry_eq]
  generalize (lg_sl ([.ref (ad 0 0), .ref (ad 2 i)]) ++ List.replicate (2 - (lg_sl ([.ref (ad 0 0), .ref (ad 2 i)])).length) Slot.unset).toArray = ls at hl ⊢
  replace hl : lv_has ls 2 [(0, .ref (ad 0 0)), (1, .ref (ad 2 i))] := hl
  obtain ⟨hI5, hI25, hI20, hIM, hIL, hIR⟩ := id hI
  obtain ⟨hM6, hM7, hM8, hM10, hM11, hM15, hM9, hMf⟩ := id (hIM i (by omega))
  obtain ⟨hL0, hL1, hL2, hL3, hL4⟩ := id (hIL i hi)
  refine lv_aload_n hx hb dX4_reject_0 rfl (lv_at hl 1 rfl) ?_
  refine c_callV (As := []) (rest := []) (Cn := RX2) (T := TX2) ⟨hx, hb, hml, hown, hts⟩ 2 i (m_X2_putAway l D cI cJ A ad al S E rt hal i hI hi) (cwV 0 hts gX4_reject_X2_putAway rfl rfl rfl (by decide +kernel) ⟨Nat.le_of_ble_eq_true rfl, Nat.le_of_ble_eq_true rfl⟩) (hal 2 i (show (i : Int) < S 5 0 0 by omega)) (by decide) rfl hK hG hS hA rfl hl.1 rfl (Nat.le_of_ble_eq_true rfl) dX4_reject_1 ⟨Nat.zero_le _, Nat.zero_le _⟩ (fun t9 H locs ht9 hB hS => ?_)
  have hG := hB.1; rw [ht9] at hG; clear hB ht9
  refine lv_aload_n hx hb dX4_reject_4 rfl (lv_at hl 1 rfl) ?_
  refine lv_dup hx hb dX4_reject_5 rfl ?_
  refine c_getV (Cn := RX2) (T := TX2) hx hb hts 2 hinX2 hown hK hG i 14 (hal 2 i (show (i : Int) < S 5 0 0 by omega)) (by decide) rfl (by decide) (hts (.fieldLink RX4 137 "LineEvents$Machine" "rejectedCount" "J") (by decide +kernel)) (cV_J (z := (su S 6 i 0 0) 22 i 0) rfl (rfl)) dX4_reject_6 ?_
  refine lv_lconst (v := zL 1) hx hb dX4_reject_9 (by decide) ?_
  refine z_ladd hx hb dX4_reject_10 ?_
  refine c_putV (Cn := RX2) (T := TX2) (z := ((su S 6 i 0 0) 22 i 0) + 1) hx hb hts 2 hinX2 tyX2 tyX2_ok nmX2 hown hK hG hS i 14 (hal 2 i (show (i : Int) < S 5 0 0 by omega)) (by decide) rfl (by decide) (hts (.fieldLink RX4 137 "LineEvents$Machine" "rejectedCount" "J") (by decide +kernel)) (Or.inl rfl) (cV_J (z := ((su S 6 i 0 0) 22 i 0) + 1) rfl rfl) rfl rfl dX4_reject_11 (fun H locs hG hS => ?_)
  refine lv_aload_n hx hb dX4_reject_14 rfl (lv_at hl 0 rfl) ?_
  refine lv_aload_n hx hb dX4_reject_15 rfl (lv_at hl 1 rfl) ?_
  refine lv_iconst (v := zI 2) hx hb dX4_reject_16 rfl ?_
  have e8 : su (cC (su S 6 i 0 0) E rt) 2 i 14 (((su S 6 i 0 0) 22 i 0) + 1) = cC (su (su S 6 i 0 0) 22 i 0 ((su S 6 i 0 0) 22 i 0 + 1)) E rt := by rw [cC_22]
  rw [e8] at hG; clear e8
  refine c_callV (As := [.ref (ad 2 i), .int (zI 2)]) (rest := []) (Cn := RX4) (T := TX4) ⟨hx, hb, hml, hown, hts⟩ 0 0 (m_X4_note l D cI cJ A ad al (su (su S 6 i 0 0) 22 i 0 ((su S 6 i 0 0) 22 i 0 + 1)) E rt (alS_eq (S := S) rfl (fun _ => rfl) rfl hal) i 2 hi he) (cwV 2 hts gX4_reject_X4_note rfl rfl rfl (by decide +kernel) ⟨Nat.le_of_ble_eq_true rfl, Nat.le_of_ble_eq_true rfl⟩) (hal 0 0 rfl) (by decide) rfl hK hG hS hA rfl hl.1 rfl (Nat.le_of_ble_eq_true rfl) dX4_reject_17 ⟨Nat.zero_le _, Nat.zero_le _⟩ (fun t9 H locs ht9 hB hS => ?_)
  have hG := hB.1; rw [ht9] at hG; clear hB ht9
  have e9 : cC (rnote (su (su S 6 i 0 0) 22 i 0 ((su S 6 i 0 0) 22 i 0 + 1)) i 2) E rt = cC (rnote (su (su S 6 i 0 0) 22 i 0 (S 22 i 0 + 1)) i 2) E rt := by rfl
  rw [e9] at hG
  exact W.vret hx hb hr (fun t ht hW => ⟨rfl, ⟨by rw [ht]; exact hG, va_K.moved hW.alike hK, fun q hq => hA q (Nat.le_trans hS.1 (by rw [← ht]; exact hq))⟩, hS.F ht⟩) hS.2.2 dX4_reject_20
set_option maxHeartbeats 4000000 in
set_option maxRecDepth 100000 in
theorem m_X4_leave (l : Launch) (D : va_G) (cI cJ : ClassId) (A : Nat → Prop) (ad : Nat → Nat → Nat) (al : Nat → Nat → Prop) (S : sT) (E : Nat → Int) (rt : Int) (hal : alS al S) (i : Nat) (hI : Inv S) (hi : (i : Int) < S 5 0 0) (he : 0 ≤ S 30 0 0 ∧ S 30 0 0 < 2147483647) : Met l yX4_leave wsX4_leave ({ frames := 1, cells := 0, slots := 0, locals := 23 }) (va_Pc [.ref (ad 0 0), .ref (ad 2 i)] (gCU D cI cJ A ad al (cC S E rt))) (gO none (gCU D cI cJ A ad al (cC (rleave S i) E rt)) A) 0 0 A := by
  refine Met.ofW (cc := cX4_leave) (maxL := 2) (ret := none) (by decide) rfl ?_
  intro p e s m0 args below meth c s₁ B hml hv
  obtain ⟨rfl, hG, hK, hA⟩ := hv
  have hx := B.exec
  have hb := B.bytes
  have hr := B.returns
  have hts := atoms_spec (ws := wsX4_leave) B.pre
  have hown : s.vm.findClass RX4 = some m0.cls := findClass_of_methodNamed B.named
  have hlocks := B.notSynchronized
  have hinX0 : ∀ w ∈ wsX00, w ∈ wsX4_leave := by decide +kernel
  have hinX2 : ∀ w ∈ wsX20, w ∈ wsX4_leave := by decide +kernel
  have hinX4 : ∀ w ∈ wsX40, w ∈ wsX4_leave := by decide +kernel
  have hS : va_S A s.heap s.heap [] := va_S.rf
  have hl := lv_entry ([.ref (ad 0 0), .ref (ad 2 i)]) (n := 2) (Nat.le_of_ble_eq_true rfl)
  rw [lg_entry_eq]
  generalize (lg_sl ([.ref (ad 0 0), .ref (ad 2 i)]) ++ List.replicate (2 - (lg_sl ([.ref (ad 0 0), .ref (ad 2 i)])).length) Slot.unset).toArray = ls at hl ⊢
  replace hl : lv_has ls 2 [(0, .ref (ad 0 0)), (1, .ref (ad 2 i))] := hl
  obtain ⟨hI5, hI25, hI20, hIM, hIL, hIR⟩ := id hI
  obtain ⟨hM6, hM7, hM8, hM10, hM11, hM15, hM9, hMf⟩ := id (hIM i (by omega))
  obtain ⟨hL0, hL1, hL2, hL3, hL4⟩ := id (hIL i hi)
  refine lv_aload_n hx hb dX4_leave_0 rfl (lv_at hl 1 rfl) ?_
  refine c_getV (Cn := RX2) (T := TX2) hx hb hts 2 hinX2 hown hK hG i 5 (hal 2 i (show (i : Int) < S 5 0 0 by omega)) (by decide) rfl (by decide) (hts (.fieldLink RX4 21 "LineEvents$Machine" "followed" "Z") (by decide +kernel)) (cV_I (z := bZ (¬ S 2 i 0 = -1)) rfl (rfl)) dX4_leave_1 ?_
  refine z_ifb_ne (tgt := 20) hx hb dX4_leave_4 (by decide) (fun c_1 => ?_) (fun c_1 => ?_)
  · refine lv_aload_n hx hb dX4_leave_20 rfl (lv_at hl 1 rfl) ?_
    refine c_getV (Cn := RX2) (T := TX2) hx hb hts 2 hinX2 hown hK hG i 4 (hal 2 i (show (i : Int) < S 5 0 0 by omega)) (by decide) rfl (by decide) (hts (.fieldLink RX4 48 "LineEvents$Machine" "behind" "LLineEvents$Buffer;") (by decide +kernel)) (cV_R (t := 3) (j := i) rfl (rfl)) dX4_leave_21 ?_
    refine c_callV (As := []) (rest := []) (Cn := RX0) (T := TX0) ⟨hx, hb, hml, hown, hts⟩ 3 i (m_X0_hasRoom l D cI cJ A ad al S E rt hal i hI hi) (cwV 0 hts gX4_leave_X0_hasRoom rfl rfl rfl (by decide +kernel) ⟨Nat.le_of_ble_eq_true rfl, Nat.le_of_ble_eq_true rfl⟩) (hal 3 i (show (i : Int) < S 5 0 0 by omega)) (by decide) rfl hK hG hS hA rfl hl.1 rfl (Nat.le_of_ble_eq_true rfl) dX4_leave_24 ⟨Nat.zero_le _, Nat.zero_le _⟩ (fun t9 H locs ht9 hB hS => ?_)
    have hG := hB.1; rw [ht9] at hG; clear hB ht9
    refine z_ifb_eq (tgt := 44) hx hb dX4_leave_27 (by decide) (fun c_2 => ?_) (fun c_2 => ?_)
    · have e9 : cC S E rt = cC (rleave S i) E rt := by unfold rleave; first | rw [if_pos (by omega)] | (rw [if_neg (by omega), if_pos (by omega)]; rfl) | rw [if_neg (by omega), if_neg (by omega)]
      rw [e9] at hG
      exact W.vret hx hb hr (fun t ht hW => ⟨rfl, ⟨by rw [ht]; exact hG, va_K.moved hW.alike hK, fun q hq => hA q (Nat.le_trans hS.1 (by rw [← ht]; exact hq))⟩, hS.F ht⟩) hS.2.2 dX4_leave_44
    · refine lv_aload_n hx hb dX4_leave_30 rfl (lv_at hl 1 rfl) ?_
      refine c_getV (Cn := RX2) (T := TX2) hx hb hts 2 hinX2 hown hK hG i 4 (hal 2 i (show (i : Int) < S 5 0 0 by omega)) (by decide) rfl (by decide) (hts (.fieldLink RX4 48 "LineEvents$Machine" "behind" "LLineEvents$Buffer;") (by decide +kernel)) (cV_R (t := 3) (j := i) rfl (rfl)) dX4_leave_31 ?_
      refine lv_aload_n hx hb dX4_leave_34 rfl (lv_at hl 0 rfl) ?_
      refine c_getV (Cn := RX4) (T := TX4) hx hb hts 0 hinX4 hown hK hG 0 1 (hal 0 0 rfl) (by decide) rfl (by decide) (hts (.fieldLink RX4 27 "LineEvents" "now" "I") (by decide +kernel)) (cV_I (z := S 25 0 0) rfl (rfl)) dX4_leave_35 ?_
      refine c_callV (As := [.int (zI (S 25 0 0))]) (rest := []) (Cn := RX0) (T := TX0) ⟨hx, hb, hml, hown, hts⟩ 3 i (m_X0_add l D cI cJ A ad al S E rt hal i (S 25 0 0) hI hi) (cwV 1 hts gX4_leave_X0_add rfl rfl rfl (by decide +kernel) ⟨Nat.le_of_ble_eq_true rfl, Nat.le_of_ble_eq_true rfl⟩) (hal 3 i (show (i : Int) < S 5 0 0 by omega)) (by decide) rfl hK hG hS hA rfl hl.1 rfl (Nat.le_of_ble_eq_true rfl) dX4_leave_38 ⟨Nat.zero_le _, Nat.zero_le _⟩ (fun t9 H locs ht9 hB hS => ?_)
      have hG := hB.1; rw [ht9] at hG; clear hB ht9
      have hI2 : Inv (radd S i (S 25 0 0)) := Inv_11 (Inv_9 hI (by omega)) (by omega)
      refine lv_goto (tgt := 45) hx hb dX4_leave_41 (by decide) ?_
      refine lv_aload_n hx hb dX4_leave_45 rfl (lv_at hl 1 rfl) ?_
      refine c_callV (As := []) (rest := []) (Cn := RX2) (T := TX2) ⟨hx, hb, hml, hown, hts⟩ 2 i (m_X2_putAway l D cI cJ A ad al (radd S i (S 25 0 0)) E rt (alS_eq (S := S) rfl (fun _ => rfl) rfl hal) i hI2 hi) (cwV 0 hts gX4_leave_X2_putAway rfl rfl rfl (by decide +kernel) ⟨Nat.le_of_ble_eq_true rfl, Nat.le_of_ble_eq_true rfl⟩) (hal 2 i (show (i : Int) < S 5 0 0 by omega)) (by decide) rfl hK hG hS hA rfl hl.1 rfl (Nat.le_of_ble_eq_true rfl) dX4_leave_46 ⟨Nat.zero_le _, Nat.zero_le _⟩ (fun t9 H locs ht9 hB hS => ?_)
      have hG := hB.1; rw [ht9] at hG; clear hB ht9
      refine lv_aload_n hx hb dX4_leave_49 rfl (lv_at hl 0 rfl) ?_
      refine lv_aload_n hx hb dX4_leave_50 rfl (lv_at hl 1 rfl) ?_
      refine lv_iconst (v := zI 1) hx hb dX4_leave_51 rfl ?_
      refine c_callV (As := [.ref (ad 2 i), .int (zI 1)]) (rest := []) (Cn := RX4) (T := TX4) ⟨hx, hb, hml, hown, hts⟩ 0 0 (m_X4_note l D cI cJ A ad al (su (radd S i (S 25 0 0)) 6 i 0 0) E rt (alS_eq (S := S) rfl (fun _ => rfl) rfl hal) i 1 hi he) (cwV 2 hts gX4_leave_X4_note rfl rfl rfl (by decide +kernel) ⟨Nat.le_of_ble_eq_true rfl, Nat.le_of_ble_eq_true rfl⟩) (hal 0 0 rfl) (by decide) rfl hK hG hS hA rfl hl.1 rfl (Nat.le_of_ble_eq_true rfl) dX4_leave_52 ⟨Nat.zero_le _, Nat.zero_le _⟩ (fun t9 H locs ht9 hB hS => ?_)
      have hG := hB.1; rw [ht9] at hG; clear hB ht9
      have e9 : cC (rnote (su (radd S i (S 25 0 0)) 6 i 0 0) i 1) E rt = cC (rleave S i) E rt := by unfold rleave; first | rw [if_pos (by omega)] | (rw [if_neg (by omega), if_pos (by omega)]; rfl) | rw [if_neg (by omega), if_neg (by omega)]
      rw [e9] at hG
      exact W.vret hx hb hr (fun t ht hW => ⟨rfl, ⟨by rw [ht]; exact hG, va_K.moved hW.alike hK, fun q hq => hA q (Nat.le_trans hS.1 (by rw [← ht]; exact hq))⟩, hS.F ht⟩) hS.2.2 dX4_leave_55
  · refine lv_aload_n hx hb dX4_leave_7 rfl (lv_at hl 0 rfl) ?_
    refine lv_dup hx hb dX4_leave_8 rfl ?_
    refine c_getV (Cn := RX4) (T := TX4) hx hb hts 0 hinX4 hown hK hG 0 10 (hal 0 0 rfl) (by decide) rfl (by decide) (hts (.fieldLink RX4 109 "LineEvents" "madeCount" "J") (by decide +kernel)) (cV_J (z := S 24 0 0) rfl (rfl)) dX4_leave_9 ?_
    refine lv_lconst (v := zL 1) hx hb dX4_leave_12 (by decide) ?_
    refine z_ladd hx hb dX4_leave_13 ?_
    refine c_putV (Cn := RX4) (T := TX4) (z := (S 24 0 0) + 1) hx hb hts 0 hinX4 tyX4 tyX4_ok nmX4 hown hK hG hS 0 10 (hal 0 0 rfl) (by decide) rfl (by decide) (hts (.fieldLink RX4 109 "LineEvents" "madeCount" "J") (by decide +kernel)) (Or.inl rfl) (cV_J (z := (S 24 0 0) + 1) rfl rfl) rfl rfl dX4_leave_14 (fun H locs hG hS => ?_)
    refine lv_goto (tgt := 45) hx hb dX4_leave_17 (by decide) ?_
    refine lv_aload_n hx hb dX4_leave_45 rfl (lv_at hl 1 rfl) ?_
    have e8 : su (cC S E rt) 0 0 10 ((S 24 0 0) + 1) = cC (su S 24 0 0 (S 24 0 0 + 1)) E rt := by rw [cC_24]
    rw [e8] at hG; clear e8
    refine c_callV (As := []) (rest := []) (Cn := RX2) (T := TX2) ⟨hx, hb, hml, hown, hts⟩ 2 i (m_X2_putAway l D cI cJ A ad al (su S 24 0 0 (S 24 0 0 + 1)) E rt (alS_eq (S := S) rfl (fun _ => rfl) rfl hal) i (show Inv (su S 24 0 0 _) from hI) hi) (cwV 0 hts gX4_leave_X2_putAway rfl rfl rfl (by decide +kernel) ⟨Nat.le_of_ble_eq_true rfl, Nat.le_of_ble_eq_true rfl⟩) (hal 2 i (show (i : Int) < S 5 0 0 by omega)) (by decide) rfl hK hG hS hA rfl hl.1 rfl (Nat.le_of_ble_eq_true rfl) dX4_leave_46 ⟨Nat.zero_le _, Nat.zero_le _⟩ (fun t9 H locs ht9 hB hS => ?_)
    have hG := hB.1; rw [ht9] at hG; clear hB ht9
    refine lv_aload_n hx hb dX4_leave_49 rfl (lv_at hl 0 rfl) ?_
    refine lv_aload_n hx hb dX4_leave_50 rfl (lv_at hl 1 rfl) ?_
    refine lv_iconst (v := zI 1) hx hb dX4_leave_51 rfl ?_
    refine c_callV (As := [.ref (ad 2 i), .int (zI 1)]) (rest := []) (Cn := RX4) (T := TX4) ⟨hx, hb, hml, hown, hts⟩ 0 0 (m_X4_note l D cI cJ A ad al (su (su S 24 0 0 (S 24 0 0 + 1)) 6 i 0 0) E rt (alS_eq (S := S) rfl (fun _ => rfl) rfl hal) i 1 hi he) (cwV 2 hts gX4_leave_X4_note rfl rfl rfl (by decide +kernel) ⟨Nat.le_of_ble_eq_true rfl, Nat.le_of_ble_eq_true rfl⟩) (hal 0 0 rfl) (by decide) rfl hK hG hS hA rfl hl.1 rfl (Nat.le_of_ble_eq_true rfl) dX4_leave_52 ⟨Nat.zero_le _, Nat.zero_le _⟩ (fun t9 H locs ht9 hB hS => ?_)
    have hG := hB.1; rw [ht9] at hG; clear hB ht9
    have e9 : cC (rnote (su (su S 24 0 0 (S 24 0 0 + 1)) 6 i 0 0) i 1) E rt = cC (rleave S i) E rt := by unfold rleave; first | rw [if_pos (by omega)] | (rw [if_neg (by omega), if_pos (by omega)]; rfl) | rw [if_neg (by omega), if_neg (by omega)]
    rw [e9] at hG
    exact W.vret hx hb hr (fun t ht hW => ⟨rfl, ⟨by rw [ht]; exact hG, va_K.moved hW.alike hK, fun q hq => hA q (Nat.le_trans hS.1 (by rw [← ht]; exact hq))⟩, hS.F ht⟩) hS.2.2 dX4_leave_55
set_option maxHeartbeats 4000000 in
set_option maxRecDepth 100000 in
theorem m_X4_take (l : Launch) (D : va_G) (cI cJ : ClassId) (A : Nat → Prop) (ad : Nat → Nat → Nat) (al : Nat → Nat → Prop) (S : sT) (E : Nat → Int) (rt : Int) (hal : alS al S) (i : Nat) (hI : Inv S) (hi : (i : Int) < S 5 0 0) (he : 0 ≤ S 30 0 0 ∧ S 30 0 0 < 2147483647) (h60 : S 6 i 0 = 0) : Met l yX4_take wsX4_take ({ frames := 3, cells := 0, slots := 0, locals := 62 }) (va_Pc [.ref (ad 0 0), .ref (ad 2 i)] (gCU D cI cJ A ad al (cC S E rt))) (gO none (gCU D cI cJ A ad al (cC (rtake S i) E rt)) A) 0 0 A := by
  refine Met.ofW (cc := cX4_take) (maxL := 2) (ret := none) (by decide) rfl ?_
  intro p e s m0 args below meth c s₁ B hml hv
  obtain ⟨rfl, hG, hK, hA⟩ := hv
  have hx := B.exec
  have hb := B.bytes
  have hr := B.returns
  have hts := atoms_spec (ws := wsX4_take) B.pre
  have hown : s.vm.findClass RX4 = some m0.cls := findClass_of_methodNamed B.named
  have hlocks := B.notSynchronized
  have hinX0 : ∀ w ∈ wsX00, w ∈ wsX4_take := by decide +kernel
  have hinX2 : ∀ w ∈ wsX20, w ∈ wsX4_take := by decide +kernel
  have hinX4 : ∀ w ∈ wsX40, w ∈ wsX4_take := by decide +kernel
  have hS : va_S A s.heap s.heap [] := va_S.rf
  have hl := lv_entry ([.ref (ad 0 0), .ref (ad 2 i)]) (n := 2) (Nat.le_of_ble_eq_true rfl)
  rw [lg_entry_eq]
  generalize (lg_sl ([.ref (ad 0 0), .ref (ad 2 i)]) ++ List.replicate (2 - (lg_sl ([.ref (ad 0 0), .ref (ad 2 i)])).length) Slot.unset).toArray = ls at hl ⊢
  replace hl : lv_has ls 2 [(0, .ref (ad 0 0)), (1, .ref (ad 2 i))] := hl
  obtain ⟨hI5, hI25, hI20, hIM, hIL, hIR⟩ := id hI
  obtain ⟨hM6, hM7, hM8, hM10, hM11, hM15, hM9, hMf⟩ := id (hIM i (by omega))
  obtain ⟨hL0, hL1, hL2, hL3, hL4⟩ := id (hIL i hi)
  refine lv_aload_n hx hb dX4_take_0 rfl (lv_at hl 1 rfl) ?_
  refine c_getV (Cn := RX2) (T := TX2) hx hb hts 2 hinX2 hown hK hG i 3 (hal 2 i (show (i : Int) < S 5 0 0 by omega)) (by decide) rfl (by decide) (hts (.fieldLink RX4 256 "LineEvents$Machine" "before" "LLineEvents$Buffer;") (by decide +kernel)) (cV_F (t := 3) (z := S 1 i 0) rfl (rfl)) dX4_take_1 ?_
  refine z_ifnonnull (ad := ad) (t := 3) (tgt := 20) hx hb dX4_take_4 (by decide) (fun c_1 => ?_) (fun c_1 => ?_)
  · obtain ⟨b, hb9⟩ : ∃ b : Nat, S 1 i 0 = (b : Int) := ⟨(S 1 i 0).toNat, by omega⟩
    have hbn : (b : Int) < S 5 0 0 := by omega
    obtain ⟨hB6, hB7, hB8, hB10, hB11, hB15, hB9, hBf⟩ := id (hIM b (by omega))
    obtain ⟨hC0, hC1, hC2, hC3, hC4⟩ := id (hIL b hbn)
    have hq9 := hB9 (S 10 b 0).toNat (by omega)
    have hrd : (0 < S 11 b 0 ∧ rready S b ≤ S 25 0 0) ↔ ¬ (S 25 0 0 ≤ rat S b ∨ S 25 0 0 - rat S b < S 4 b 0) := by unfold rready rat; by_cases h0 : S 11 b 0 = 0 <;> simp only [h0, if_true, if_false] <;> (try rw [if_pos (by omega)]) <;> omega
    refine lv_aload_n hx hb dX4_take_20 rfl (lv_at hl 1 rfl) ?_
    refine c_getV (Cn := RX2) (T := TX2) hx hb hts 2 hinX2 hown hK hG i 3 (hal 2 i (show (i : Int) < S 5 0 0 by omega)) (by decide) rfl (by decide) (hts (.fieldLink RX4 256 "LineEvents$Machine" "before" "LLineEvents$Buffer;") (by decide +kernel)) (cV_R (t := 3) (j := b) rfl (hb9)) dX4_take_21 ?_
    refine lv_aload_n hx hb dX4_take_24 rfl (lv_at hl 0 rfl) ?_
    refine c_getV (Cn := RX4) (T := TX4) hx hb hts 0 hinX4 hown hK hG 0 1 (hal 0 0 rfl) (by decide) rfl (by decide) (hts (.fieldLink RX4 27 "LineEvents" "now" "I") (by decide +kernel)) (cV_I (z := S 25 0 0) rfl (rfl)) dX4_take_25 ?_
    refine c_callV (As := [.int (zI (S 25 0 0))]) (rest := []) (Cn := RX0) (T := TX0) ⟨hx, hb, hml, hown, hts⟩ 3 b (m_X0_isReady l D cI cJ A ad al S E rt hal b (S 25 0 0) hI hbn ⟨by omega, by omega⟩) (cwV 1 hts gX4_take_X0_isReady rfl rfl rfl (by decide +kernel) ⟨Nat.le_of_ble_eq_true rfl, Nat.le_of_ble_eq_true rfl⟩) (hal 3 b (show (b : Int) < S 5 0 0 by omega)) (by decide) rfl hK hG hS hA rfl hl.1 rfl (Nat.le_of_ble_eq_true rfl) dX4_take_28 ⟨Nat.zero_le _, Nat.zero_le _⟩ (fun t9 H locs ht9 hB hS => ?_)
    have hG := hB.1; rw [ht9] at hG; clear hB ht9
    refine z_ifb_eq (tgt := 44) hx hb dX4_take_31 (by decide) (fun c_2 => ?_) (fun c_2 => ?_)
    · have e9 : cC S E rt = cC (rtake S i) E rt := by unfold rtake; rw [if_neg (by omega), hb9]; simp only [Int.toNat_natCast]; rw [if_pos (Classical.byContradiction fun q => absurd (hrd.mpr q) (by assumption))]
      rw [e9] at hG
      exact W.vret hx hb hr (fun t ht hW => ⟨rfl, ⟨by rw [ht]; exact hG, va_K.moved hW.alike hK, fun q hq => hA q (Nat.le_trans hS.1 (by rw [← ht]; exact hq))⟩, hS.F ht⟩) hS.2.2 dX4_take_44
    · refine lv_aload_n hx hb dX4_take_34 rfl (lv_at hl 1 rfl) ?_
      refine c_getV (Cn := RX2) (T := TX2) hx hb hts 2 hinX2 hown hK hG i 3 (hal 2 i (show (i : Int) < S 5 0 0 by omega)) (by decide) rfl (by decide) (hts (.fieldLink RX4 256 "LineEvents$Machine" "before" "LLineEvents$Buffer;") (by decide +kernel)) (cV_R (t := 3) (j := b) rfl (hb9)) dX4_take_35 ?_
      refine c_callV (As := []) (rest := []) (Cn := RX0) (T := TX0) ⟨hx, hb, hml, hown, hts⟩ 3 b (m_X0_removeFirst l D cI cJ A ad al S E rt hal b hI hbn) (cwV 0 hts gX4_take_X0_removeFirst rfl rfl rfl (by decide +kernel) ⟨Nat.le_of_ble_eq_true rfl, Nat.le_of_ble_eq_true rfl⟩) (hal 3 b (show (b : Int) < S 5 0 0 by omega)) (by decide) rfl hK hG hS hA rfl hl.1 rfl (Nat.le_of_ble_eq_true rfl) dX4_take_38 ⟨Nat.zero_le _, Nat.zero_le _⟩ (fun t9 H locs ht9 hB hS => ?_)
      have hG := hB.1; rw [ht9] at hG; clear hB ht9
      refine lv_goto (tgt := 45) hx hb dX4_take_41 (by decide) ?_
      refine lv_aload_n hx hb dX4_take_45 rfl (lv_at hl 1 rfl) ?_
      refine lv_iconst (v := zI 1) hx hb dX4_take_46 rfl ?_
      refine c_putV (Cn := RX2) (T := TX2) (z := 1) hx hb hts 2 hinX2 tyX2 tyX2_ok nmX2 hown hK hG hS i 11 (hal 2 i (show (i : Int) < S 5 0 0 by omega)) (by decide) rfl (by decide) (hts (.fieldLink RX4 115 "LineEvents$Machine" "hasBottle" "Z") (by decide +kernel)) (Or.inl rfl) (cV_I (z := 1) rfl rfl) (by decide +kernel) rfl dX4_take_47 (fun H locs hG hS => ?_)
      refine lv_aload_n hx hb dX4_take_50 rfl (lv_at hl 0 rfl) ?_
      refine lv_aload_n hx hb dX4_take_51 rfl (lv_at hl 1 rfl) ?_
      refine lv_iconst (v := zI 0) hx hb dX4_take_52 rfl ?_
      have e8 : su (cC (rpop S b) E rt) 2 i 11 (1) = cC (su (su (rpop S b) 6 i 0 1) 7 i 0 0) E rt := by rw [cC_tk _ _ _ _ (show rpop S b 6 i 0 = 0 from h60)]
      rw [e8] at hG; clear e8
      refine c_callV (As := [.ref (ad 2 i), .int (zI 0)]) (rest := []) (Cn := RX4) (T := TX4) ⟨hx, hb, hml, hown, hts⟩ 0 0 (m_X4_note l D cI cJ A ad al (su (su (rpop S b) 6 i 0 1) 7 i 0 0) E rt (alS_eq (S := S) rfl (fun _ => rfl) rfl hal) i 0 hi he) (cwV 2 hts gX4_take_X4_note rfl rfl rfl (by decide +kernel) ⟨Nat.le_of_ble_eq_true rfl, Nat.le_of_ble_eq_true rfl⟩) (hal 0 0 rfl) (by decide) rfl hK hG hS hA rfl hl.1 rfl (Nat.le_of_ble_eq_true rfl) dX4_take_53 ⟨Nat.zero_le _, Nat.zero_le _⟩ (fun t9 H locs ht9 hB hS => ?_)
      have hG := hB.1; rw [ht9] at hG; clear hB ht9
      have e9 : cC (rnote (su (su (rpop S b) 6 i 0 1) 7 i 0 0) i 0) E rt = cC (rtake S i) E rt := by unfold rtake; rw [if_neg (by omega), hb9]; simp only [Int.toNat_natCast]; rw [if_neg (hrd.mp (by assumption))]; rfl
      rw [e9] at hG
      exact W.vret hx hb hr (fun t ht hW => ⟨rfl, ⟨by rw [ht]; exact hG, va_K.moved hW.alike hK, fun q hq => hA q (Nat.le_trans hS.1 (by rw [← ht]; exact hq))⟩, hS.F ht⟩) hS.2.2 dX4_take_56
  · have hb1 : S 1 i 0 = -1 := by omega
    refine lv_aload_n hx hb dX4_take_7 rfl (lv_at hl 0 rfl) ?_
    refine lv_dup hx hb dX4_take_8 rfl ?_
    refine c_getV (Cn := RX4) (T := TX4) hx hb hts 0 hinX4 hown hK hG 0 9 (hal 0 0 rfl) (by decide) rfl (by decide) (hts (.fieldLink RX4 148 "LineEvents" "begunCount" "J") (by decide +kernel)) (cV_J (z := S 23 0 0) rfl (rfl)) dX4_take_9 ?_
    refine lv_lconst (v := zL 1) hx hb dX4_take_12 (by decide) ?_
    refine z_ladd hx hb dX4_take_13 ?_
    refine c_putV (Cn := RX4) (T := TX4) (z := (S 23 0 0) + 1) hx hb hts 0 hinX4 tyX4 tyX4_ok nmX4 hown hK hG hS 0 9 (hal 0 0 rfl) (by decide) rfl (by decide) (hts (.fieldLink RX4 148 "LineEvents" "begunCount" "J") (by decide +kernel)) (Or.inl rfl) (cV_J (z := (S 23 0 0) + 1) rfl rfl) rfl rfl dX4_take_14 (fun H locs hG hS => ?_)
    refine lv_goto (tgt := 45) hx hb dX4_take_17 (by decide) ?_
    refine lv_aload_n hx hb dX4_take_45 rfl (lv_at hl 1 rfl) ?_
    refine lv_iconst (v := zI 1) hx hb dX4_take_46 rfl ?_
    refine c_putV (Cn := RX2) (T := TX2) (z := 1) hx hb hts 2 hinX2 tyX2 tyX2_ok nmX2 hown hK hG hS i 11 (hal 2 i (show (i : Int) < S 5 0 0 by omega)) (by decide) rfl (by decide) (hts (.fieldLink RX4 115 "LineEvents$Machine" "hasBottle" "Z") (by decide +kernel)) (Or.inl rfl) (cV_I (z := 1) rfl rfl) (by decide +kernel) rfl dX4_take_47 (fun H locs hG hS => ?_)
    refine lv_aload_n hx hb dX4_take_50 rfl (lv_at hl 0 rfl) ?_
    refine lv_aload_n hx hb dX4_take_51 rfl (lv_at hl 1 rfl) ?_
    refine lv_iconst (v := zI 0) hx hb dX4_take_52 rfl ?_
    have e8 : su (su (cC S E rt) 0 0 9 ((S 23 0 0) + 1)) 2 i 11 (1) = cC (su (su (su S 23 0 0 (S 23 0 0 + 1)) 6 i 0 1) 7 i 0 0) E rt := by rw [cC_tk _ _ _ _ (show su S 23 0 0 (S 23 0 0 + 1) 6 i 0 = 0 from h60), cC_23]
    rw [e8] at hG; clear e8
    refine c_callV (As := [.ref (ad 2 i), .int (zI 0)]) (rest := []) (Cn := RX4) (T := TX4) ⟨hx, hb, hml, hown, hts⟩ 0 0 (m_X4_note l D cI cJ A ad al (su (su (su S 23 0 0 (S 23 0 0 + 1)) 6 i 0 1) 7 i 0 0) E rt (alS_eq (S := S) rfl (fun _ => rfl) rfl hal) i 0 hi he) (cwV 2 hts gX4_take_X4_note rfl rfl rfl (by decide +kernel) ⟨Nat.le_of_ble_eq_true rfl, Nat.le_of_ble_eq_true rfl⟩) (hal 0 0 rfl) (by decide) rfl hK hG hS hA rfl hl.1 rfl (Nat.le_of_ble_eq_true rfl) dX4_take_53 ⟨Nat.zero_le _, Nat.zero_le _⟩ (fun t9 H locs ht9 hB hS => ?_)
    have hG := hB.1; rw [ht9] at hG; clear hB ht9
    have e9 : cC (rnote (su (su (su S 23 0 0 (S 23 0 0 + 1)) 6 i 0 1) 7 i 0 0) i 0) E rt = cC (rtake S i) E rt := by unfold rtake; rw [if_pos hb1]
    rw [e9] at hG
    exact W.vret hx hb hr (fun t ht hW => ⟨rfl, ⟨by rw [ht]; exact hG, va_K.moved hW.alike hK, fun q hq => hA q (Nat.le_trans hS.1 (by rw [← ht]; exact hq))⟩, hS.F ht⟩) hS.2.2 dX4_take_56
