theorem rturn_B {S : sT} {k : Nat} (hI : Inv S) (hk : (k : Int) < S 20 0 0) : S 25 0 0 ≤ rturn S k ∧ rturn S k ≤ 1000000000 := by
  have h := hI.2.2.2.2.2 k hk
  have h25 := hI.2.1
  have h1 := h.2.1
  have h2 := h.2.2.1
  unfold rturn
  split
  · omega
  · split <;> omega
set_option maxHeartbeats 4000000 in
set_option maxRecDepth 100000 in
theorem m_X4_lookAtRows (l : Launch) (D : va_G) (cI cJ : ClassId) (A : Nat → Prop) (ad : Nat → Nat → Nat) (al : Nat → Nat → Prop) (S : sT) (E : Nat → Int) (rt : Int) (hal : alS al S)  (hI : Inv S) : Met l yX4_lookAtRows wsX4_lookAtRows ({ frames := 2, cells := 0, slots := 0, locals := 45 }) (va_Pc [.ref (ad 0 0)] (gCU D cI cJ A ad al (cC S E rt))) (gO none (gCU D cI cJ A ad al (cC S (clook S (S 5 0 0).toNat E) (crt S (S 20 0 0).toNat 1000000000))) A) 0 0 A := by
  refine Met.ofW (cc := cX4_lookAtRows) (maxL := 2) (ret := none) (by decide) rfl ?_
  intro p e s m0 args below meth c s₁ B hml hv
  obtain ⟨rfl, hG, hK, hA⟩ := hv
  have hx := B.exec
  have hb := B.bytes
  have hr := B.returns
  have hts := atoms_spec (ws := wsX4_lookAtRows) B.pre
  have hown : s.vm.findClass RX4 = some m0.cls := findClass_of_methodNamed B.named
  have hlocks := B.notSynchronized
  have hinX2 : ∀ w ∈ wsX20, w ∈ wsX4_lookAtRows := by decide +kernel
  have hinX3 : ∀ w ∈ wsX30, w ∈ wsX4_lookAtRows := by decide +kernel
  have hinX4 : ∀ w ∈ wsX40, w ∈ wsX4_lookAtRows := by decide +kernel
  have hS : va_S A s.heap s.heap [] := va_S.rf
  have hl := lv_entry ([.ref (ad 0 0)]) (n := 2) (Nat.le_of_ble_eq_true rfl)
  rw [lg_entry_eq]
  generalize (lg_sl ([.ref (ad 0 0)]) ++ List.replicate (2 - (lg_sl ([.ref (ad 0 0)])).length) Slot.unset).toArray = ls at hl ⊢
  replace hl : lv_has ls 2 [(0, .ref (ad 0 0))] := hl
  obtain ⟨hI5, hI25, hI20, hIM, hIL, hIR⟩ := id hI
  by_cases hn0 : S 5 0 0 = 0
  · refine lv_aload_n hx hb dX4_lookAtRows_0 rfl (lv_at hl 0 rfl) ?_
    refine c_getV (Cn := RX4) (T := TX4) hx hb hts 0 hinX4 hown hK hG 0 2 (hal 0 0 rfl) (by decide) rfl (by decide) (hts (.fieldLink RX4 38 "LineEvents" "highest" "LLineEvents$Machine;") (by decide +kernel)) (cV_N (t := 2) rfl (show S 5 0 0 - 1 < 0 by omega)) dX4_lookAtRows_1 ?_
    refine lv_astore_nN (lv' := [(1, .null), (0, .ref (ad 0 0))]) hx hb dX4_lookAtRows_4 rfl hl (by decide) rfl (fun ls hl => ?_)
    refine lv_aload_nN hx hb dX4_lookAtRows_5 rfl (lv_at hl 0 rfl) ?_
    refine lv_ifnullN (tgt := 29) hx hb dX4_lookAtRows_6 (by decide) ?_
    have e8 : cC S E rt = cC S (clook S (S 5 0 0).toNat E) rt := by rw [hn0]; rfl
    rw [e8] at hG; clear e8
    refine lv_aload_n hx hb dX4_lookAtRows_29 rfl (lv_at hl 1 rfl) ?_
    refine z_ldc (z := 1000000000) hx hb hown (hts (.constant RX4 79 (1000000000)) (by decide +kernel)) (by decide) dX4_lookAtRows_30 ?_
    refine c_putV (Cn := RX4) (T := TX4) (z := 1000000000) hx hb hts 0 hinX4 tyX4 tyX4_ok nmX4 hown hK hG hS 0 6 (hal 0 0 rfl) (by decide) rfl (by decide) (hts (.fieldLink RX4 83 "LineEvents" "rowsTurn" "I") (by decide +kernel)) (Or.inl rfl) (cV_I (z := 1000000000) rfl rfl) rfl rfl dX4_lookAtRows_32 (fun H locs hG hS => ?_)
    by_cases hn02 : S 20 0 0 = 0
    · refine lv_aload_n hx hb dX4_lookAtRows_35 rfl (lv_at hl 1 rfl) ?_
      refine c_getV (Cn := RX4) (T := TX4) hx hb hts 0 hinX4 hown hK hG 0 4 (hal 0 0 rfl) (by decide) rfl (by decide) (hts (.fieldLink RX4 163 "LineEvents" "newestRow" "LLineEvents$Row;") (by decide +kernel)) (cV_N (t := 7) rfl (show S 20 0 0 - 1 < 0 by omega)) dX4_lookAtRows_36 ?_
      refine lv_astore_nN (lv' := [(1, .null), (0, .ref (ad 0 0))]) hx hb dX4_lookAtRows_39 rfl hl (by decide) rfl (fun ls hl => ?_)
      refine lv_aload_nN hx hb dX4_lookAtRows_40 rfl (lv_at hl 0 rfl) ?_
      refine lv_ifnullN (tgt := 71) hx hb dX4_lookAtRows_41 (by decide) ?_
      have e9 : su (cC S (clook S (S 5 0 0).toNat E) rt) 0 0 6 (1000000000) = cC S (clook S (S 5 0 0).toNat E) (crt S (S 20 0 0).toNat 1000000000) := by rw [hn02]; exact (cC_rt S (clook S (S 5 0 0).toNat E) rt 1000000000).symm
      rw [e9] at hG
      exact W.vret hx hb hr (fun t ht hW => ⟨rfl, ⟨by rw [ht]; exact hG, va_K.moved hW.alike hK, fun q hq => hA q (Nat.le_trans hS.1 (by rw [← ht]; exact hq))⟩, hS.F ht⟩) hS.2.2 dX4_lookAtRows_71
    · obtain ⟨k, hin92⟩ : ∃ i : Nat, (i : Int) + 1 = S 20 0 0 := ⟨(S 20 0 0 - 1).toNat, by omega⟩
      refine lv_aload_n hx hb dX4_lookAtRows_35 rfl (lv_at hl 1 rfl) ?_
      refine c_getV (Cn := RX4) (T := TX4) hx hb hts 0 hinX4 hown hK hG 0 4 (hal 0 0 rfl) (by decide) rfl (by decide) (hts (.fieldLink RX4 163 "LineEvents" "newestRow" "LLineEvents$Row;") (by decide +kernel)) (cV_R (t := 7) (j := k) rfl (show S 20 0 0 - 1 = (k : Int) by omega)) dX4_lookAtRows_36 ?_
      refine lv_astore_n (lv' := [(1, .ref (ad 7 k)), (0, .ref (ad 0 0))]) hx hb dX4_lookAtRows_39 rfl hl (by decide) rfl (fun ls hl => ?_)
      have e8 : su (cC S (clook S (S 5 0 0).toNat E) rt) 0 0 6 (1000000000) = cC S (clook S (S 5 0 0).toNat E) 1000000000 := (cC_rt S (clook S (S 5 0 0).toNat E) rt 1000000000).symm
      rw [e8] at hG; clear e8
      obtain ⟨r, hr0⟩ : ∃ z : Int, z = 1000000000 := ⟨_, rfl⟩
      have hrR : 0 ≤ r ∧ r ≤ 1000000000 := by omega
      have hkS : (k : Int) < S 20 0 0 := by omega
      have hv8 : crt S (k + 1) r = crt S (S 20 0 0).toNat 1000000000 := by rw [hr0]; congr 1; omega
      rw [← hr0] at hG
      clear hr0
      clear hin92
      induction k generalizing ls r H locs with
      | zero =>
        have hkS1 := hkS
        refine lv_aload_n hx hb dX4_lookAtRows_40 rfl (lv_at hl 0 rfl) ?_
        refine lv_ifnull hx hb dX4_lookAtRows_41 ?_
        refine lv_aload_n hx hb dX4_lookAtRows_44 rfl (lv_at hl 1 rfl) ?_
        refine lv_aload_n hx hb dX4_lookAtRows_45 rfl (lv_at hl 1 rfl) ?_
        refine c_getV (Cn := RX4) (T := TX4) hx hb hts 0 hinX4 hown hK hG 0 6 (hal 0 0 rfl) (by decide) rfl (by decide) (hts (.fieldLink RX4 83 "LineEvents" "rowsTurn" "I") (by decide +kernel)) (cV_I (z := r) rfl (rfl)) dX4_lookAtRows_46 ?_
        refine lv_aload_n hx hb dX4_lookAtRows_49 rfl (lv_at hl 0 rfl) ?_
        refine lv_aload_n hx hb dX4_lookAtRows_50 rfl (lv_at hl 1 rfl) ?_
        refine c_getV (Cn := RX4) (T := TX4) hx hb hts 0 hinX4 hown hK hG 0 1 (hal 0 0 rfl) (by decide) rfl (by decide) (hts (.fieldLink RX4 27 "LineEvents" "now" "I") (by decide +kernel)) (cV_I (z := S 25 0 0) rfl (rfl)) dX4_lookAtRows_51 ?_
        refine c_callV (As := [.int (zI (S 25 0 0))]) (rest := [.int (zI r), .ref (ad 0 0)]) (Cn := RX3) (T := TX3) ⟨hx, hb, hml, hown, hts⟩ 7 0 (m_X3_turnBehind l D cI cJ A ad al S (clook S (S 5 0 0).toNat E) r hal 0 hI (by omega)) (cwV 1 hts gX4_lookAtRows_X3_turnBehind rfl rfl rfl (by decide +kernel) ⟨Nat.le_of_ble_eq_true rfl, Nat.le_of_ble_eq_true rfl⟩) (hal 7 0 (show ((0 : Nat) : Int) < S 20 0 0 by omega)) (by decide) rfl hK hG hS hA rfl hl.1 rfl (Nat.le_of_ble_eq_true rfl) dX4_lookAtRows_54 ⟨Nat.zero_le _, Nat.zero_le _⟩ (fun t9 H locs ht9 hB hS => ?_)
        have hG := hB.1; rw [ht9] at hG; clear hB ht9
        have hrB := rturn_B (S := S) (k := 0) hI (by omega)
        refine z_min hx hb (by rw [hml]; exact hl.1.symm) hown (hts (.methodLink RX4 96 Lib.Math.min.name) (by decide +kernel)) (hts (.static Lib.Math.min.name) (by decide +kernel)) (hts (.initialized "java/lang/Math") (by decide +kernel)) (hts (.code Lib.Math.min.name Lib.Math.min.code 2 (some .int)) (by decide +kernel)) (Nat.le_of_ble_eq_true rfl) (Nat.le_of_ble_eq_true rfl) (Nat.zero_le _) (Nat.zero_le _) ⟨by omega, by omega⟩ ⟨by omega, by omega⟩ dX4_lookAtRows_57 ?_
        refine c_putV (Cn := RX4) (T := TX4) (z := min r (rturn S 0)) hx hb hts 0 hinX4 tyX4 tyX4_ok nmX4 hown hK hG hS 0 6 (hal 0 0 rfl) (by decide) rfl (by decide) (hts (.fieldLink RX4 83 "LineEvents" "rowsTurn" "I") (by decide +kernel)) (Or.inl rfl) (cV_I (z := min r (rturn S 0)) rfl rfl) rfl rfl dX4_lookAtRows_60 (fun H locs hG hS => ?_)
        refine lv_aload_n hx hb dX4_lookAtRows_63 rfl (lv_at hl 0 rfl) ?_
        refine c_getV (Cn := RX3) (T := TX3) hx hb hts 7 hinX3 hown hK hG 0 4 (hal 7 0 (show ((0 : Nat) : Int) < S 20 0 0 by omega)) (by decide) rfl (by decide) (hts (.fieldLink RX4 180 "LineEvents$Row" "earlier" "LLineEvents$Row;") (by decide +kernel)) (cV_N (t := 7) rfl (neg_of (b := ((0 : Nat) : Int) - 1) ((su_v (by decide)).trans (rfl)) (by decide))) dX4_lookAtRows_64 ?_
        refine lv_astore_nN (lv' := [(1, .null), (0, .ref (ad 0 0))]) hx hb dX4_lookAtRows_67 rfl hl (by decide) rfl (fun ls hl => ?_)
        refine lv_goto (tgt := 40) hx hb dX4_lookAtRows_68 (by decide) ?_
        refine lv_aload_nN hx hb dX4_lookAtRows_40 rfl (lv_at hl 0 rfl) ?_
        refine lv_ifnullN (tgt := 71) hx hb dX4_lookAtRows_41 (by decide) ?_
        have e9 : su (cC S (clook S (S 5 0 0).toNat E) r) 0 0 6 (min r (rturn S 0)) = cC S (clook S (S 5 0 0).toNat E) (crt S (S 20 0 0).toNat 1000000000) := by rw [← hv8]; exact (cC_rt S (clook S (S 5 0 0).toNat E) r (min r (rturn S 0))).symm
        rw [e9] at hG
        exact W.vret hx hb hr (fun t ht hW => ⟨rfl, ⟨by rw [ht]; exact hG, va_K.moved hW.alike hK, fun q hq => hA q (Nat.le_trans hS.1 (by rw [← ht]; exact hq))⟩, hS.F ht⟩) hS.2.2 dX4_lookAtRows_71
      | succ k ih2 =>
        have hkS1 := hkS
        refine lv_aload_n hx hb dX4_lookAtRows_40 rfl (lv_at hl 0 rfl) ?_
        refine lv_ifnull hx hb dX4_lookAtRows_41 ?_
        refine lv_aload_n hx hb dX4_lookAtRows_44 rfl (lv_at hl 1 rfl) ?_
        refine lv_aload_n hx hb dX4_lookAtRows_45 rfl (lv_at hl 1 rfl) ?_
        refine c_getV (Cn := RX4) (T := TX4) hx hb hts 0 hinX4 hown hK hG 0 6 (hal 0 0 rfl) (by decide) rfl (by decide) (hts (.fieldLink RX4 83 "LineEvents" "rowsTurn" "I") (by decide +kernel)) (cV_I (z := r) rfl (rfl)) dX4_lookAtRows_46 ?_
        refine lv_aload_n hx hb dX4_lookAtRows_49 rfl (lv_at hl 0 rfl) ?_
        refine lv_aload_n hx hb dX4_lookAtRows_50 rfl (lv_at hl 1 rfl) ?_
        refine c_getV (Cn := RX4) (T := TX4) hx hb hts 0 hinX4 hown hK hG 0 1 (hal 0 0 rfl) (by decide) rfl (by decide) (hts (.fieldLink RX4 27 "LineEvents" "now" "I") (by decide +kernel)) (cV_I (z := S 25 0 0) rfl (rfl)) dX4_lookAtRows_51 ?_
        refine c_callV (As := [.int (zI (S 25 0 0))]) (rest := [.int (zI r), .ref (ad 0 0)]) (Cn := RX3) (T := TX3) ⟨hx, hb, hml, hown, hts⟩ 7 (k + 1) (m_X3_turnBehind l D cI cJ A ad al S (clook S (S 5 0 0).toNat E) r hal (k + 1) hI (by omega)) (cwV 1 hts gX4_lookAtRows_X3_turnBehind rfl rfl rfl (by decide +kernel) ⟨Nat.le_of_ble_eq_true rfl, Nat.le_of_ble_eq_true rfl⟩) (hal 7 (k + 1) (show (((k + 1) : Nat) : Int) < S 20 0 0 by omega)) (by decide) rfl hK hG hS hA rfl hl.1 rfl (Nat.le_of_ble_eq_true rfl) dX4_lookAtRows_54 ⟨Nat.zero_le _, Nat.zero_le _⟩ (fun t9 H locs ht9 hB hS => ?_)
        have hG := hB.1; rw [ht9] at hG; clear hB ht9
        have hrB := rturn_B (S := S) (k := (k + 1)) hI (by omega)
        refine z_min hx hb (by rw [hml]; exact hl.1.symm) hown (hts (.methodLink RX4 96 Lib.Math.min.name) (by decide +kernel)) (hts (.static Lib.Math.min.name) (by decide +kernel)) (hts (.initialized "java/lang/Math") (by decide +kernel)) (hts (.code Lib.Math.min.name Lib.Math.min.code 2 (some .int)) (by decide +kernel)) (Nat.le_of_ble_eq_true rfl) (Nat.le_of_ble_eq_true rfl) (Nat.zero_le _) (Nat.zero_le _) ⟨by omega, by omega⟩ ⟨by omega, by omega⟩ dX4_lookAtRows_57 ?_
        refine c_putV (Cn := RX4) (T := TX4) (z := min r (rturn S (k + 1))) hx hb hts 0 hinX4 tyX4 tyX4_ok nmX4 hown hK hG hS 0 6 (hal 0 0 rfl) (by decide) rfl (by decide) (hts (.fieldLink RX4 83 "LineEvents" "rowsTurn" "I") (by decide +kernel)) (Or.inl rfl) (cV_I (z := min r (rturn S (k + 1))) rfl rfl) rfl rfl dX4_lookAtRows_60 (fun H locs hG hS => ?_)
        refine lv_aload_n hx hb dX4_lookAtRows_63 rfl (lv_at hl 0 rfl) ?_
        refine c_getV (Cn := RX3) (T := TX3) hx hb hts 7 hinX3 hown hK hG (k + 1) 4 (hal 7 (k + 1) (show (((k + 1) : Nat) : Int) < S 20 0 0 by omega)) (by decide) rfl (by decide) (hts (.fieldLink RX4 180 "LineEvents$Row" "earlier" "LLineEvents$Row;") (by decide +kernel)) (cV_R (t := 7) (j := k) rfl (((su_v (by decide)).trans (rfl)).trans (show ((k + 1 : Nat) : Int) - 1 = (k : Int) by omega))) dX4_lookAtRows_64 ?_
        refine lv_astore_n (lv' := [(1, .ref (ad 7 k)), (0, .ref (ad 0 0))]) hx hb dX4_lookAtRows_67 rfl hl (by decide) rfl (fun ls hl => ?_)
        refine lv_goto (tgt := 40) hx hb dX4_lookAtRows_68 (by decide) ?_
        have e8 : su (cC S (clook S (S 5 0 0).toNat E) r) 0 0 6 (min r (rturn S (k + 1))) = cC S (clook S (S 5 0 0).toNat E) (min r (rturn S (k + 1))) := (cC_rt S (clook S (S 5 0 0).toNat E) r (min r (rturn S (k + 1)))).symm
        rw [e8] at hG; clear e8
        exact ih2 (ls := ls) (r := min r (rturn S (k + 1))) (H := H) (locs := locs) (hG := hG) (hS := hS) (hl := lv_sub hl [0, 1] rfl) (hrR := by omega) (hkS := by omega) (hv8 := by rw [← hv8]; rfl)
  · obtain ⟨i, hin9⟩ : ∃ i : Nat, (i : Int) + 1 = S 5 0 0 := ⟨(S 5 0 0 - 1).toNat, by omega⟩
    refine lv_aload_n hx hb dX4_lookAtRows_0 rfl (lv_at hl 0 rfl) ?_
    refine c_getV (Cn := RX4) (T := TX4) hx hb hts 0 hinX4 hown hK hG 0 2 (hal 0 0 rfl) (by decide) rfl (by decide) (hts (.fieldLink RX4 38 "LineEvents" "highest" "LLineEvents$Machine;") (by decide +kernel)) (cV_R (t := 2) (j := i) rfl (show S 5 0 0 - 1 = (i : Int) by omega)) dX4_lookAtRows_1 ?_
    refine lv_astore_n (lv' := [(1, .ref (ad 2 i)), (0, .ref (ad 0 0))]) hx hb dX4_lookAtRows_4 rfl hl (by decide) rfl (fun ls hl => ?_)
    obtain ⟨F, hF0⟩ : ∃ F, F = E := ⟨E, rfl⟩
    have hiS : (i : Int) < S 5 0 0 := by omega
    have hv9 : clook S (i + 1) F = clook S (S 5 0 0).toNat E := by rw [hF0]; congr 1; omega
    rw [← hF0] at hG
    clear hF0
    obtain ⟨H, hH0⟩ : ∃ H : Heap, H = s.heap := ⟨_, rfl⟩
    obtain ⟨locs, hL0⟩ : ∃ L : List Loc, L = [] := ⟨_, rfl⟩
    rw [← hH0, ← hL0]
    rw [← hH0] at hG
    replace hS : va_S A s.heap H locs := by rw [hH0, hL0]; exact hS
    clear hH0 hL0
    clear hin9
    induction i generalizing ls F H locs with
    | zero =>
      have hiS1 := hiS
      refine lv_aload_n hx hb dX4_lookAtRows_5 rfl (lv_at hl 0 rfl) ?_
      refine lv_ifnull hx hb dX4_lookAtRows_6 ?_
      refine lv_aload_n hx hb dX4_lookAtRows_9 rfl (lv_at hl 0 rfl) ?_
      refine lv_aload_n hx hb dX4_lookAtRows_10 rfl (lv_at hl 1 rfl) ?_
      refine lv_aload_n hx hb dX4_lookAtRows_11 rfl (lv_at hl 0 rfl) ?_
      refine c_getV (Cn := RX2) (T := TX2) hx hb hts 2 hinX2 hown hK hG 0 0 (hal 2 0 (show ((0 : Nat) : Int) < S 5 0 0 by omega)) (by decide) rfl (by decide) (hts (.fieldLink RX4 45 "LineEvents$Machine" "number" "I") (by decide +kernel)) (cV_I (z := 0) rfl (rfl)) dX4_lookAtRows_12 ?_
      refine c_callV (As := [.int (zI 0)]) (rest := [.ref (ad 2 0)]) (Cn := RX4) (T := TX4) ⟨hx, hb, hml, hown, hts⟩ 0 0 (m_X4_rowCauseOf l D cI cJ A ad al S F rt hal 0 hI (by omega)) (cwV 1 hts gX4_lookAtRows_X4_rowCauseOf rfl rfl rfl (by decide +kernel) ⟨Nat.le_of_ble_eq_true rfl, Nat.le_of_ble_eq_true rfl⟩) (hal 0 0 rfl) (by decide) rfl hK hG hS hA rfl hl.1 rfl (Nat.le_of_ble_eq_true rfl) dX4_lookAtRows_15 ⟨Nat.zero_le _, Nat.zero_le _⟩ (fun t9 H locs ht9 hB hS => ?_)
      have hG := hB.1; rw [ht9] at hG; clear hB ht9
      refine c_putV (Cn := RX2) (T := TX2) (z := rheld S 0) hx hb hts 2 hinX2 tyX2 tyX2_ok nmX2 hown hK hG hS 0 9 (hal 2 0 (show ((0 : Nat) : Int) < S 5 0 0 by omega)) (by decide) rfl (by decide) (hts (.fieldLink RX4 174 "LineEvents$Machine" "rowCause" "I") (by decide +kernel)) (Or.inl rfl) (cV_I (z := rheld S 0) rfl rfl) rfl rfl dX4_lookAtRows_18 (fun H locs hG hS => ?_)
      refine lv_aload_n hx hb dX4_lookAtRows_21 rfl (lv_at hl 0 rfl) ?_
      refine c_getV (Cn := RX2) (T := TX2) hx hb hts 2 hinX2 hown hK hG 0 2 (hal 2 0 (show ((0 : Nat) : Int) < S 5 0 0 by omega)) (by decide) rfl (by decide) (hts (.fieldLink RX4 118 "LineEvents$Machine" "lower" "LLineEvents$Machine;") (by decide +kernel)) (cV_N (t := 2) rfl (neg_of (b := ((0 : Nat) : Int) - 1) ((su_f (by decide)).trans (rfl)) (by decide))) dX4_lookAtRows_22 ?_
      refine lv_astore_nN (lv' := [(1, .null), (0, .ref (ad 0 0))]) hx hb dX4_lookAtRows_25 rfl hl (by decide) rfl (fun ls hl => ?_)
      refine lv_goto (tgt := 5) hx hb dX4_lookAtRows_26 (by decide) ?_
      refine lv_aload_nN hx hb dX4_lookAtRows_5 rfl (lv_at hl 0 rfl) ?_
      refine lv_ifnullN (tgt := 29) hx hb dX4_lookAtRows_6 (by decide) ?_
      have e8 : su (cC S F rt) 2 0 9 (rheld S 0) = cC S (va_up F 0 (rheld S 0)) rt := (cC_E S F rt 0 (rheld S 0)).symm
      rw [e8] at hG; clear e8
      have e8 : cC S (va_up F 0 (rheld S 0)) rt = cC S (clook S (S 5 0 0).toNat E) rt := by rw [← hv9]; rfl
      rw [e8] at hG; clear e8
      refine lv_aload_n hx hb dX4_lookAtRows_29 rfl (lv_at hl 1 rfl) ?_
      refine z_ldc (z := 1000000000) hx hb hown (hts (.constant RX4 79 (1000000000)) (by decide +kernel)) (by decide) dX4_lookAtRows_30 ?_
      refine c_putV (Cn := RX4) (T := TX4) (z := 1000000000) hx hb hts 0 hinX4 tyX4 tyX4_ok nmX4 hown hK hG hS 0 6 (hal 0 0 rfl) (by decide) rfl (by decide) (hts (.fieldLink RX4 83 "LineEvents" "rowsTurn" "I") (by decide +kernel)) (Or.inl rfl) (cV_I (z := 1000000000) rfl rfl) rfl rfl dX4_lookAtRows_32 (fun H locs hG hS => ?_)
      by_cases hn02 : S 20 0 0 = 0
      · refine lv_aload_n hx hb dX4_lookAtRows_35 rfl (lv_at hl 1 rfl) ?_
        refine c_getV (Cn := RX4) (T := TX4) hx hb hts 0 hinX4 hown hK hG 0 4 (hal 0 0 rfl) (by decide) rfl (by decide) (hts (.fieldLink RX4 163 "LineEvents" "newestRow" "LLineEvents$Row;") (by decide +kernel)) (cV_N (t := 7) rfl (show S 20 0 0 - 1 < 0 by omega)) dX4_lookAtRows_36 ?_
        refine lv_astore_nN (lv' := [(1, .null), (0, .ref (ad 0 0))]) hx hb dX4_lookAtRows_39 rfl hl (by decide) rfl (fun ls hl => ?_)
        refine lv_aload_nN hx hb dX4_lookAtRows_40 rfl (lv_at hl 0 rfl) ?_
        refine lv_ifnullN (tgt := 71) hx hb dX4_lookAtRows_41 (by decide) ?_
        have e9 : su (cC S (clook S (S 5 0 0).toNat E) rt) 0 0 6 (1000000000) = cC S (clook S (S 5 0 0).toNat E) (crt S (S 20 0 0).toNat 1000000000) := by rw [hn02]; exact (cC_rt S (clook S (S 5 0 0).toNat E) rt 1000000000).symm
        rw [e9] at hG
        exact W.vret hx hb hr (fun t ht hW => ⟨rfl, ⟨by rw [ht]; exact hG, va_K.moved hW.alike hK, fun q hq => hA q (Nat.le_trans hS.1 (by rw [← ht]; exact hq))⟩, hS.F ht⟩) hS.2.2 dX4_lookAtRows_71
      · obtain ⟨k, hin92⟩ : ∃ i : Nat, (i : Int) + 1 = S 20 0 0 := ⟨(S 20 0 0 - 1).toNat, by omega⟩
        refine lv_aload_n hx hb dX4_lookAtRows_35 rfl (lv_at hl 1 rfl) ?_
        refine c_getV (Cn := RX4) (T := TX4) hx hb hts 0 hinX4 hown hK hG 0 4 (hal 0 0 rfl) (by decide) rfl (by decide) (hts (.fieldLink RX4 163 "LineEvents" "newestRow" "LLineEvents$Row;") (by decide +kernel)) (cV_R (t := 7) (j := k) rfl (show S 20 0 0 - 1 = (k : Int) by omega)) dX4_lookAtRows_36 ?_
        refine lv_astore_n (lv' := [(1, .ref (ad 7 k)), (0, .ref (ad 0 0))]) hx hb dX4_lookAtRows_39 rfl hl (by decide) rfl (fun ls hl => ?_)
        have e8 : su (cC S (clook S (S 5 0 0).toNat E) rt) 0 0 6 (1000000000) = cC S (clook S (S 5 0 0).toNat E) 1000000000 := (cC_rt S (clook S (S 5 0 0).toNat E) rt 1000000000).symm
        rw [e8] at hG; clear e8
        obtain ⟨r, hr0⟩ : ∃ z : Int, z = 1000000000 := ⟨_, rfl⟩
        have hrR : 0 ≤ r ∧ r ≤ 1000000000 := by omega
        have hkS : (k : Int) < S 20 0 0 := by omega
        have hv8 : crt S (k + 1) r = crt S (S 20 0 0).toNat 1000000000 := by rw [hr0]; congr 1; omega
        rw [← hr0] at hG
        clear hr0
        clear hin92
        induction k generalizing ls r H locs with
        | zero =>
          have hkS1 := hkS
          refine lv_aload_n hx hb dX4_lookAtRows_40 rfl (lv_at hl 0 rfl) ?_
          refine lv_ifnull hx hb dX4_lookAtRows_41 ?_
          refine lv_aload_n hx hb dX4_lookAtRows_44 rfl (lv_at hl 1 rfl) ?_
          refine lv_aload_n hx hb dX4_lookAtRows_45 rfl (lv_at hl 1 rfl) ?_
          refine c_getV (Cn := RX4) (T := TX4) hx hb hts 0 hinX4 hown hK hG 0 6 (hal 0 0 rfl) (by decide) rfl (by decide) (hts (.fieldLink RX4 83 "LineEvents" "rowsTurn" "I") (by decide +kernel)) (cV_I (z := r) rfl (rfl)) dX4_lookAtRows_46 ?_
          refine lv_aload_n hx hb dX4_lookAtRows_49 rfl (lv_at hl 0 rfl) ?_
          refine lv_aload_n hx hb dX4_lookAtRows_50 rfl (lv_at hl 1 rfl) ?_
          refine c_getV (Cn := RX4) (T := TX4) hx hb hts 0 hinX4 hown hK hG 0 1 (hal 0 0 rfl) (by decide) rfl (by decide) (hts (.fieldLink RX4 27 "LineEvents" "now" "I") (by decide +kernel)) (cV_I (z := S 25 0 0) rfl (rfl)) dX4_lookAtRows_51 ?_
          refine c_callV (As := [.int (zI (S 25 0 0))]) (rest := [.int (zI r), .ref (ad 0 0)]) (Cn := RX3) (T := TX3) ⟨hx, hb, hml, hown, hts⟩ 7 0 (m_X3_turnBehind l D cI cJ A ad al S (clook S (S 5 0 0).toNat E) r hal 0 hI (by omega)) (cwV 1 hts gX4_lookAtRows_X3_turnBehind rfl rfl rfl (by decide +kernel) ⟨Nat.le_of_ble_eq_true rfl, Nat.le_of_ble_eq_true rfl⟩) (hal 7 0 (show ((0 : Nat) : Int) < S 20 0 0 by omega)) (by decide) rfl hK hG hS hA rfl hl.1 rfl (Nat.le_of_ble_eq_true rfl) dX4_lookAtRows_54 ⟨Nat.zero_le _, Nat.zero_le _⟩ (fun t9 H locs ht9 hB hS => ?_)
          have hG := hB.1; rw [ht9] at hG; clear hB ht9
          have hrB := rturn_B (S := S) (k := 0) hI (by omega)
          refine z_min hx hb (by rw [hml]; exact hl.1.symm) hown (hts (.methodLink RX4 96 Lib.Math.min.name) (by decide +kernel)) (hts (.static Lib.Math.min.name) (by decide +kernel)) (hts (.initialized "java/lang/Math") (by decide +kernel)) (hts (.code Lib.Math.min.name Lib.Math.min.code 2 (some .int)) (by decide +kernel)) (Nat.le_of_ble_eq_true rfl) (Nat.le_of_ble_eq_true rfl) (Nat.zero_le _) (Nat.zero_le _) ⟨by omega, by omega⟩ ⟨by omega, by omega⟩ dX4_lookAtRows_57 ?_
          refine c_putV (Cn := RX4) (T := TX4) (z := min r (rturn S 0)) hx hb hts 0 hinX4 tyX4 tyX4_ok nmX4 hown hK hG hS 0 6 (hal 0 0 rfl) (by decide) rfl (by decide) (hts (.fieldLink RX4 83 "LineEvents" "rowsTurn" "I") (by decide +kernel)) (Or.inl rfl) (cV_I (z := min r (rturn S 0)) rfl rfl) rfl rfl dX4_lookAtRows_60 (fun H locs hG hS => ?_)
          refine lv_aload_n hx hb dX4_lookAtRows_63 rfl (lv_at hl 0 rfl) ?_
          refine c_getV (Cn := RX3) (T := TX3) hx hb hts 7 hinX3 hown hK hG 0 4 (hal 7 0 (show ((0 : Nat) : Int) < S 20 0 0 by omega)) (by decide) rfl (by decide) (hts (.fieldLink RX4 180 "LineEvents$Row" "earlier" "LLineEvents$Row;") (by decide +kernel)) (cV_N (t := 7) rfl (neg_of (b := ((0 : Nat) : Int) - 1) ((su_v (by decide)).trans (rfl)) (by decide))) dX4_lookAtRows_64 ?_
          refine lv_astore_nN (lv' := [(1, .null), (0, .ref (ad 0 0))]) hx hb dX4_lookAtRows_67 rfl hl (by decide) rfl (fun ls hl => ?_)
          refine lv_goto (tgt := 40) hx hb dX4_lookAtRows_68 (by decide) ?_
          refine lv_aload_nN hx hb dX4_lookAtRows_40 rfl (lv_at hl 0 rfl) ?_
          refine lv_ifnullN (tgt := 71) hx hb dX4_lookAtRows_41 (by decide) ?_
          have e9 : su (cC S (clook S (S 5 0 0).toNat E) r) 0 0 6 (min r (rturn S 0)) = cC S (clook S (S 5 0 0).toNat E) (crt S (S 20 0 0).toNat 1000000000) := by rw [← hv8]; exact (cC_rt S (clook S (S 5 0 0).toNat E) r (min r (rturn S 0))).symm
          rw [e9] at hG
          exact W.vret hx hb hr (fun t ht hW => ⟨rfl, ⟨by rw [ht]; exact hG, va_K.moved hW.alike hK, fun q hq => hA q (Nat.le_trans hS.1 (by rw [← ht]; exact hq))⟩, hS.F ht⟩) hS.2.2 dX4_lookAtRows_71
        | succ k ih2 =>
          have hkS1 := hkS
          refine lv_aload_n hx hb dX4_lookAtRows_40 rfl (lv_at hl 0 rfl) ?_
          refine lv_ifnull hx hb dX4_lookAtRows_41 ?_
          refine lv_aload_n hx hb dX4_lookAtRows_44 rfl (lv_at hl 1 rfl) ?_
          refine lv_aload_n hx hb dX4_lookAtRows_45 rfl (lv_at hl 1 rfl) ?_
          refine c_getV (Cn := RX4) (T := TX4) hx hb hts 0 hinX4 hown hK hG 0 6 (hal 0 0 rfl) (by decide) rfl (by decide) (hts (.fieldLink RX4 83 "LineEvents" "rowsTurn" "I") (by decide +kernel)) (cV_I (z := r) rfl (rfl)) dX4_lookAtRows_46 ?_
          refine lv_aload_n hx hb dX4_lookAtRows_49 rfl (lv_at hl 0 rfl) ?_
          refine lv_aload_n hx hb dX4_lookAtRows_50 rfl (lv_at hl 1 rfl) ?_
          refine c_getV (Cn := RX4) (T := TX4) hx hb hts 0 hinX4 hown hK hG 0 1 (hal 0 0 rfl) (by decide) rfl (by decide) (hts (.fieldLink RX4 27 "LineEvents" "now" "I") (by decide +kernel)) (cV_I (z := S 25 0 0) rfl (rfl)) dX4_lookAtRows_51 ?_
          refine c_callV (As := [.int (zI (S 25 0 0))]) (rest := [.int (zI r), .ref (ad 0 0)]) (Cn := RX3) (T := TX3) ⟨hx, hb, hml, hown, hts⟩ 7 (k + 1) (m_X3_turnBehind l D cI cJ A ad al S (clook S (S 5 0 0).toNat E) r hal (k + 1) hI (by omega)) (cwV 1 hts gX4_lookAtRows_X3_turnBehind rfl rfl rfl (by decide +kernel) ⟨Nat.le_of_ble_eq_true rfl, Nat.le_of_ble_eq_true rfl⟩) (hal 7 (k + 1) (show (((k + 1) : Nat) : Int) < S 20 0 0 by omega)) (by decide) rfl hK hG hS hA rfl hl.1 rfl (Nat.le_of_ble_eq_true rfl) dX4_lookAtRows_54 ⟨Nat.zero_le _, Nat.zero_le _⟩ (fun t9 H locs ht9 hB hS => ?_)
          have hG := hB.1; rw [ht9] at hG; clear hB ht9
          have hrB := rturn_B (S := S) (k := (k + 1)) hI (by omega)
          refine z_min hx hb (by rw [hml]; exact hl.1.symm) hown (hts (.methodLink RX4 96 Lib.Math.min.name) (by decide +kernel)) (hts (.static Lib.Math.min.name) (by decide +kernel)) (hts (.initialized "java/lang/Math") (by decide +kernel)) (hts (.code Lib.Math.min.name Lib.Math.min.code 2 (some .int)) (by decide +kernel)) (Nat.le_of_ble_eq_true rfl) (Nat.le_of_ble_eq_true rfl) (Nat.zero_le _) (Nat.zero_le _) ⟨by omega, by omega⟩ ⟨by omega, by omega⟩ dX4_lookAtRows_57 ?_
          refine c_putV (Cn := RX4) (T := TX4) (z := min r (rturn S (k + 1))) hx hb hts 0 hinX4 tyX4 tyX4_ok nmX4 hown hK hG hS 0 6 (hal 0 0 rfl) (by decide) rfl (by decide) (hts (.fieldLink RX4 83 "LineEvents" "rowsTurn" "I") (by decide +kernel)) (Or.inl rfl) (cV_I (z := min r (rturn S (k + 1))) rfl rfl) rfl rfl dX4_lookAtRows_60 (fun H locs hG hS => ?_)
          refine lv_aload_n hx hb dX4_lookAtRows_63 rfl (lv_at hl 0 rfl) ?_
          refine c_getV (Cn := RX3) (T := TX3) hx hb hts 7 hinX3 hown hK hG (k + 1) 4 (hal 7 (k + 1) (show (((k + 1) : Nat) : Int) < S 20 0 0 by omega)) (by decide) rfl (by decide) (hts (.fieldLink RX4 180 "LineEvents$Row" "earlier" "LLineEvents$Row;") (by decide +kernel)) (cV_R (t := 7) (j := k) rfl (((su_v (by decide)).trans (rfl)).trans (show ((k + 1 : Nat) : Int) - 1 = (k : Int) by omega))) dX4_lookAtRows_64 ?_
          refine lv_astore_n (lv' := [(1, .ref (ad 7 k)), (0, .ref (ad 0 0))]) hx hb dX4_lookAtRows_67 rfl hl (by decide) rfl (fun ls hl => ?_)
          refine lv_goto (tgt := 40) hx hb dX4_lookAtRows_68 (by decide) ?_
          have e8 : su (cC S (clook S (S 5 0 0).toNat E) r) 0 0 6 (min r (rturn S (k + 1))) = cC S (clook S (S 5 0 0).toNat E) (min r (rturn S (k + 1))) := (cC_rt S (clook S (S 5 0 0).toNat E) r (min r (rturn S (k + 1)))).symm
          rw [e8] at hG; clear e8
          exact ih2 (ls := ls) (r := min r (rturn S (k + 1))) (H := H) (locs := locs) (hG := hG) (hS := hS) (hl := lv_sub hl [0, 1] rfl) (hrR := by omega) (hkS := by omega) (hv8 := by rw [← hv8]; rfl)
    | succ i ih =>
      have hiS1 := hiS
      refine lv_aload_n hx hb dX4_lookAtRows_5 rfl (lv_at hl 0 rfl) ?_
      refine lv_ifnull hx hb dX4_lookAtRows_6 ?_
      refine lv_aload_n hx hb dX4_lookAtRows_9 rfl (lv_at hl 0 rfl) ?_
      refine lv_aload_n hx hb dX4_lookAtRows_10 rfl (lv_at hl 1 rfl) ?_
      refine lv_aload_n hx hb dX4_lookAtRows_11 rfl (lv_at hl 0 rfl) ?_
      refine c_getV (Cn := RX2) (T := TX2) hx hb hts 2 hinX2 hown hK hG (i + 1) 0 (hal 2 (i + 1) (show (((i + 1) : Nat) : Int) < S 5 0 0 by omega)) (by decide) rfl (by decide) (hts (.fieldLink RX4 45 "LineEvents$Machine" "number" "I") (by decide +kernel)) (cV_I (z := (((i + 1) : Nat) : Int)) rfl (rfl)) dX4_lookAtRows_12 ?_
      refine c_callV (As := [.int (zI (((i + 1) : Nat) : Int))]) (rest := [.ref (ad 2 (i + 1))]) (Cn := RX4) (T := TX4) ⟨hx, hb, hml, hown, hts⟩ 0 0 (m_X4_rowCauseOf l D cI cJ A ad al S F rt hal (i + 1) hI (by omega)) (cwV 1 hts gX4_lookAtRows_X4_rowCauseOf rfl rfl rfl (by decide +kernel) ⟨Nat.le_of_ble_eq_true rfl, Nat.le_of_ble_eq_true rfl⟩) (hal 0 0 rfl) (by decide) rfl hK hG hS hA rfl hl.1 rfl (Nat.le_of_ble_eq_true rfl) dX4_lookAtRows_15 ⟨Nat.zero_le _, Nat.zero_le _⟩ (fun t9 H locs ht9 hB hS => ?_)
      have hG := hB.1; rw [ht9] at hG; clear hB ht9
      refine c_putV (Cn := RX2) (T := TX2) (z := rheld S (i + 1)) hx hb hts 2 hinX2 tyX2 tyX2_ok nmX2 hown hK hG hS (i + 1) 9 (hal 2 (i + 1) (show (((i + 1) : Nat) : Int) < S 5 0 0 by omega)) (by decide) rfl (by decide) (hts (.fieldLink RX4 174 "LineEvents$Machine" "rowCause" "I") (by decide +kernel)) (Or.inl rfl) (cV_I (z := rheld S (i + 1)) rfl rfl) rfl rfl dX4_lookAtRows_18 (fun H locs hG hS => ?_)
      refine lv_aload_n hx hb dX4_lookAtRows_21 rfl (lv_at hl 0 rfl) ?_
      refine c_getV (Cn := RX2) (T := TX2) hx hb hts 2 hinX2 hown hK hG (i + 1) 2 (hal 2 (i + 1) (show (((i + 1) : Nat) : Int) < S 5 0 0 by omega)) (by decide) rfl (by decide) (hts (.fieldLink RX4 118 "LineEvents$Machine" "lower" "LLineEvents$Machine;") (by decide +kernel)) (cV_R (t := 2) (j := i) rfl (((su_f (by decide)).trans (rfl)).trans (show ((i + 1 : Nat) : Int) - 1 = (i : Int) by omega))) dX4_lookAtRows_22 ?_
      refine lv_astore_n (lv' := [(1, .ref (ad 2 i)), (0, .ref (ad 0 0))]) hx hb dX4_lookAtRows_25 rfl hl (by decide) rfl (fun ls hl => ?_)
      refine lv_goto (tgt := 5) hx hb dX4_lookAtRows_26 (by decide) ?_
      have e8 : su (cC S F rt) 2 (i + 1) 9 (rheld S (i + 1)) = cC S (va_up F (i + 1) (rheld S (i + 1))) rt := (cC_E S F rt (i + 1) (rheld S (i + 1))).symm
      rw [e8] at hG; clear e8
      exact ih (ls := ls) (F := va_up F (i + 1) (rheld S (i + 1))) (H := H) (locs := locs) (hG := hG) (hS := hS) (hl := lv_sub hl [0, 1] rfl) (hiS := by omega) (hv9 := by rw [← hv9]; rfl)
