theorem cqt_B {A : sT} {F : Nat → Int} {r : Int} (hI : Inv A) (hr : 0 ≤ r ∧ r ≤ 1000000000) : -2000000000 ≤ cqt A F r ∧ cqt A F r ≤ 2000000000 := by
  have key : ∀ (n : Nat) (q : Int), (n : Int) ≤ A 5 0 0 → -2000000000 ≤ q ∧ q ≤ 2000000000 → -2000000000 ≤ cqa A F (A 25 0 0) n q ∧ cqa A F (A 25 0 0) n q ≤ 2000000000 := by
    intro n
    induction n with
    | zero => intro q _ h; exact h
    | succ n ih =>
      intro q hn h
      have hc := cquiet_B (E := F) (i := n) hI (by omega)
      exact ih _ (by omega) (by omega)
  have h5 := hI.1
  have h25 := hI.2.1
  exact key _ _ (by omega) (by omega)
set_option maxHeartbeats 4000000 in
set_option maxRecDepth 100000 in
theorem m_X4_run (l : Launch) (D : va_G) (cI cJ : ClassId) (A : Nat → Prop) (ad : Nat → Nat → Nat) (al : Nat → Nat → Prop) (S : sT) (E : Nat → Int) (rt : Int) (hal : alS al S) (t : Int) (ht0 : zB t) (hI : Inv S) (hC : InvC S) (hB : InvB S) (hV : Cv S E rt) : Met l yX4_run wsX4_run ({ frames := 6, cells := 0, slots := 0, locals := 125 }) (va_Pc [.ref (ad 0 0), .int (zI t)] (gCU D cI cJ A ad al (cC S E rt))) (gO (some (.int (zI (rrunV S t)))) (fun U => ∃ (F : Nat → Int) (r : Int), Cv (rrunS S t) F r ∧ InvC (rrunS S t) ∧ InvB (rrunS S t) ∧ gCU D cI cJ A ad al (cC (rrunS S t) F r) U) A) 0 0 A := by
  refine Met.ofW (cc := cX4_run) (maxL := 4) (ret := (some .int)) (by decide) rfl ?_
  intro p e s m0 args below meth c s₁ B hml hv
  obtain ⟨rfl, hG, hK, hA⟩ := hv
  have hx := B.exec
  have hb := B.bytes
  have hr := B.returns
  have hts := atoms_spec (ws := wsX4_run) B.pre
  have hown : s.vm.findClass RX4 = some m0.cls := findClass_of_methodNamed B.named
  have hlocks := B.notSynchronized
  have hinX0 : ∀ w ∈ wsX00, w ∈ wsX4_run := by decide +kernel
  have hinX1 : ∀ w ∈ wsX10, w ∈ wsX4_run := by decide +kernel
  have hinX2 : ∀ w ∈ wsX20, w ∈ wsX4_run := by decide +kernel
  have hinX3 : ∀ w ∈ wsX30, w ∈ wsX4_run := by decide +kernel
  have hinX4 : ∀ w ∈ wsX40, w ∈ wsX4_run := by decide +kernel
  have hS : va_S A s.heap s.heap [] := va_S.rf
  have hl := lv_entry ([.ref (ad 0 0), .int (zI t)]) (n := 4) (Nat.le_of_ble_eq_true rfl)
  rw [lg_entry_eq]
  generalize (lg_sl ([.ref (ad 0 0), .int (zI t)]) ++ List.replicate (4 - (lg_sl ([.ref (ad 0 0), .int (zI t)])).length) Slot.unset).toArray = ls at hl ⊢
  replace hl : lv_has ls 4 [(0, .ref (ad 0 0)), (1, .int (zI t))] := hl
  obtain ⟨hI5, hI25, hI20, hIM, hIL, hIR⟩ := id hI
  refine lv_iload_n hx hb dX4_run_0 rfl (lv_at hl 1 rfl) ?_
  refine lv_iconst (v := zI 0) hx hb dX4_run_1 rfl ?_
  refine z_ldc (z := 100000) hx hb hown (hts (.constant RX4 65 (100000)) (by decide +kernel)) (by decide) dX4_run_2 ?_
  refine c_callS (As := [.int (zI t), .int (zI 0), .int (zI 100000)]) (rest := []) ⟨hx, hb, hml, hown, hts⟩ (m_X4_within l D cI cJ A ad al S E rt hal t 0 100000 ⟨by omega, by omega⟩ ⟨by decide, by decide⟩ ⟨by decide, by decide⟩) (va_cwS 3 hts gX4_run_X4_within rfl rfl rfl (by decide +kernel) ⟨Nat.le_of_ble_eq_true rfl, Nat.le_of_ble_eq_true rfl⟩) hK hG hS hA rfl hl.1 rfl (Nat.le_of_ble_eq_true rfl) dX4_run_4 ⟨Nat.zero_le _, Nat.zero_le _⟩ (fun t9 H locs ht9 hB hS => ?_)
  have hG := hB.1; rw [ht9] at hG; clear hB ht9
  refine z_ifb_eq (tgt := 21) hx hb dX4_run_7 (by decide) (fun c_1 => ?_) (fun c_1 => ?_)
  · refine lv_iconst (v := zI (-1)) hx hb dX4_run_21 rfl ?_
    have hfS : rrunS S t = S := by unfold rrunS; rw [if_neg (by omega)]
    have hfV : rrunV S t = -1 := by unfold rrunV; rw [if_neg (by omega)]
    rw [hfS, hfV]
    exact W.iret hx hb hr (fun t ht hW => ⟨rfl, ⟨E, rt, hV, hC, hB, by rw [ht]; exact hG, va_K.moved hW.alike hK, fun q hq => hA q (Nat.le_trans hS.1 (by rw [← ht]; exact hq))⟩, hS.F ht⟩) hS.2.2 dX4_run_22
  · refine lv_iload_n hx hb dX4_run_10 rfl (lv_at hl 1 rfl) ?_
    refine z_ldc (z := 1000000000) hx hb hown (hts (.constant RX4 79 (1000000000)) (by decide +kernel)) (by decide) dX4_run_11 ?_
    refine lv_aload_n hx hb dX4_run_13 rfl (lv_at hl 0 rfl) ?_
    refine c_getV (Cn := RX4) (T := TX4) hx hb hts 0 hinX4 hown hK hG 0 1 (hal 0 0 rfl) (by decide) rfl (by decide) (hts (.fieldLink RX4 27 "LineEvents" "now" "I") (by decide +kernel)) (cV_I (z := S 25 0 0) rfl (rfl)) dX4_run_14 ?_
    refine z_isub hx hb dX4_run_17 ?_
    refine z_icmp_le (tgt := 23) hx hb dX4_run_18 (by decide) ⟨by omega, by omega⟩ ⟨by omega, by omega⟩ (fun c_2 => ?_) (fun c_2 => ?_)
    · refine lv_aload_n hx hb dX4_run_23 rfl (lv_at hl 0 rfl) ?_
      refine lv_iconst (v := zI 0) hx hb dX4_run_24 rfl ?_
      refine c_putV (Cn := RX4) (T := TX4) (z := 0) hx hb hts 0 hinX4 tyX4 tyX4_ok nmX4 hown hK hG hS 0 8 (hal 0 0 rfl) (by decide) rfl (by decide) (hts (.fieldLink RX4 80 "LineEvents" "eventCount" "I") (by decide +kernel)) (Or.inl rfl) (cV_I (z := 0) rfl rfl) rfl rfl dX4_run_25 (fun H locs hG hS => ?_)
      refine lv_iload_n hx hb dX4_run_28 rfl (lv_at hl 1 rfl) ?_
      refine lv_istore_n (lv' := [(2, .int (zI t)), (0, .ref (ad 0 0)), (1, .int (zI t))]) hx hb dX4_run_29 rfl hl (by decide) rfl (fun ls hl => ?_)
      have e8 : su (cC S E rt) 0 0 8 (0) = cC (su S 30 0 0 0) E rt := (cC_30 S E rt 0).symm
      rw [e8] at hG; clear e8
      obtain ⟨T, hT0⟩ : ∃ T, T = su S 30 0 0 0 := ⟨_, rfl⟩
      have hTI : Inv T := by rw [hT0]; exact hI
      have hTC : InvC T := by rw [hT0]; exact hC
      have hTB : InvB T := by rw [hT0]; exact hB
      have hTV : Cv T E rt := by rw [hT0]; exact Cv_eq (S := S) rfl rfl rfl (fun v k hv => su_v (by simp only [List.mem_cons, List.not_mem_nil, or_false] at hv; omega)) hV
      have halT : alS al T := by rw [hT0]; exact hal
      rw [← hT0] at hG
      obtain ⟨lf, hlf0⟩ : ∃ z : Int, z = t := ⟨t, rfl⟩
      have hT25 : T 25 0 0 + lf ≤ 1000000000 := by rw [hT0, show su S 30 0 0 0 25 0 0 = S 25 0 0 from rfl]; omega
      have hT30 : 0 ≤ T 30 0 0 ∧ T 30 0 0 ≤ 36 * (100000 - lf) := by rw [hT0, show su S 30 0 0 0 30 0 0 = 0 from rfl]; omega
      have hlfB : 0 ≤ lf ∧ lf ≤ 100000 := by omega
      obtain ⟨R0, hR0⟩ : ∃ R, R = rrunL t.toNat (su S 30 0 0 0) := ⟨_, rfl⟩
      have hfS : rrunS S t = R0 := by unfold rrunS; rw [if_pos (by omega), hR0]
      have hfV : rrunV S t = R0 30 0 0 := by unfold rrunV; rw [if_pos (by omega), hR0]
      rw [hfS, hfV]
      have hv9 : rrunL lf.toNat T = R0 := by rw [hR0, hT0, hlf0]
      replace hl : lv_has ls 4 [(2, .int (zI lf)), (0, .ref (ad 0 0)), (1, .int (zI t))] := by rw [hlf0]; exact hl
      obtain ⟨n, hn⟩ : ∃ n : Nat, lf.toNat ≤ n := ⟨_, Nat.le_refl _⟩
      clear hT0 hlf0 hR0 hfS hfV hV
      obtain ⟨F, hF0⟩ : ∃ F, F = E := ⟨E, rfl⟩
      obtain ⟨r, hr0⟩ : ∃ r, r = rt := ⟨rt, rfl⟩
      rw [← hF0, ← hr0] at hG hTV
      clear hF0 hr0
      induction n generalizing ls T F r lf H locs with
      | zero =>
        obtain ⟨hI5, hI25, hI20, hIM, hIL, hIR⟩ := id hTI
        have hrB := hTV.1
        refine lv_iload_n hx hb dX4_run_30 rfl (lv_at hl 0 rfl) ?_
        refine z_if_le (tgt := 78) hx hb dX4_run_31 (by decide) ⟨by omega, by omega⟩ (fun c_3 => ?_) (fun c_3 => ?_)
        · refine lv_aload_n hx hb dX4_run_78 rfl (lv_at hl 1 rfl) ?_
          refine c_getV (Cn := RX4) (T := TX4) hx hb hts 0 hinX4 hown hK hG 0 8 (hal 0 0 rfl) (by decide) rfl (by decide) (hts (.fieldLink RX4 80 "LineEvents" "eventCount" "I") (by decide +kernel)) (cV_I (z := T 30 0 0) rfl (rfl)) dX4_run_79 ?_
          have hT9 : T = R0 := by rw [← hv9, show lf.toNat = 0 by omega]; rfl
          refine W.eq (congrArg (fun z => F0 m0 82 ls [.int (zI z)]) (show T 30 0 0 = R0 30 0 0 by rw [hT9])) ?_
          rw [hT9] at hG hTV hTC hTB
          exact W.iret hx hb hr (fun t ht hW => ⟨rfl, ⟨F, r, hTV, hTC, hTB, by rw [ht]; exact hG, va_K.moved hW.alike hK, fun q hq => hA q (Nat.le_trans hS.1 (by rw [← ht]; exact hq))⟩, hS.F ht⟩) hS.2.2 dX4_run_82
        · exfalso; omega
      | succ n ih =>
        obtain ⟨hI5, hI25, hI20, hIM, hIL, hIR⟩ := id hTI
        have hrB := hTV.1
        refine lv_iload_n hx hb dX4_run_30 rfl (lv_at hl 0 rfl) ?_
        refine z_if_le (tgt := 78) hx hb dX4_run_31 (by decide) ⟨by omega, by omega⟩ (fun c_4 => ?_) (fun c_4 => ?_)
        · refine lv_aload_n hx hb dX4_run_78 rfl (lv_at hl 1 rfl) ?_
          refine c_getV (Cn := RX4) (T := TX4) hx hb hts 0 hinX4 hown hK hG 0 8 (hal 0 0 rfl) (by decide) rfl (by decide) (hts (.fieldLink RX4 80 "LineEvents" "eventCount" "I") (by decide +kernel)) (cV_I (z := T 30 0 0) rfl (rfl)) dX4_run_79 ?_
          have hT9 : T = R0 := by rw [← hv9, show lf.toNat = 0 by omega]; rfl
          refine W.eq (congrArg (fun z => F0 m0 82 ls [.int (zI z)]) (show T 30 0 0 = R0 30 0 0 by rw [hT9])) ?_
          rw [hT9] at hG hTV hTC hTB
          exact W.iret hx hb hr (fun t ht hW => ⟨rfl, ⟨F, r, hTV, hTC, hTB, by rw [ht]; exact hG, va_K.moved hW.alike hK, fun q hq => hA q (Nat.le_trans hS.1 (by rw [← ht]; exact hq))⟩, hS.F ht⟩) hS.2.2 dX4_run_82
        · refine lv_aload_n hx hb dX4_run_34 rfl (lv_at hl 1 rfl) ?_
          refine c_getV (Cn := RX4) (T := TX4) hx hb hts 0 hinX4 hown hK hG 0 1 (hal 0 0 rfl) (by decide) rfl (by decide) (hts (.fieldLink RX4 27 "LineEvents" "now" "I") (by decide +kernel)) (cV_I (z := T 25 0 0) rfl (rfl)) dX4_run_35 ?_
          refine lv_aload_n hx hb dX4_run_38 rfl (lv_at hl 1 rfl) ?_
          refine c_getV (Cn := RX4) (T := TX4) hx hb hts 0 hinX4 hown hK hG 0 6 (hal 0 0 rfl) (by decide) rfl (by decide) (hts (.fieldLink RX4 83 "LineEvents" "rowsTurn" "I") (by decide +kernel)) (cV_I (z := r) rfl (rfl)) dX4_run_39 ?_
          refine z_icmp_lt (tgt := 49) hx hb dX4_run_42 (by decide) ⟨by omega, by omega⟩ ⟨by omega, by omega⟩ (fun c_5 => ?_) (fun c_5 => ?_)
          · have hrr : T 25 0 0 < r := c_5
            refine lv_aload_n hx hb dX4_run_49 rfl (lv_at hl 1 rfl) ?_
            refine c_callV (As := []) (rest := []) (Cn := RX4) (T := TX4) ⟨hx, hb, hml, hown, hts⟩ 0 0 (m_X4_actAll l D cI cJ A ad al T F r halT hTI hTC (fun j hj => by have h1 := hTV.2.2 (T 25 0 0) (by omega) hrr j hj; rw [← h1]; exact (rheld_eq (S := T) j (fun v k hv => su_v (by simp only [List.mem_cons, List.not_mem_nil, or_false] at hv; omega)) (su_same T 25 0 0 _) (su_v (by decide)))) ⟨by omega, by omega⟩) (cwV 0 hts gX4_run_X4_actAll rfl rfl rfl (by decide +kernel) ⟨Nat.le_of_ble_eq_true rfl, Nat.le_of_ble_eq_true rfl⟩) (hal 0 0 rfl) (by decide) rfl hK hG hS hA rfl hl.1 rfl (Nat.le_of_ble_eq_true rfl) dX4_run_50 ⟨Nat.zero_le _, Nat.zero_le _⟩ (fun t9 H locs ht9 hB hS => ?_)
            have hG := hB.1; rw [ht9] at hG; clear hB ht9
            have hAI := actA_I (T 5 0 0).toNat T hTI (by omega)
            have hAC := actA_C (T 5 0 0).toNat T hTI hTC (by omega)
            have hA25 : (ractA (T 5 0 0).toNat T) 25 0 0 = T 25 0 0 := actA_v _ _ (by decide)
            have halA : alS al (ractA (T 5 0 0).toNat T) := alS_eq (actA_v _ _ (by decide)) (fun _ => actA_v _ _ (by decide)) (actA_v _ _ (by decide)) halT
            have hst := step_ok (lf := lf) hTI hTC hTB hTV hrr (by omega) (by omega)
            have hAE : ∀ i : Nat, (i : Int) < (ractA (T 5 0 0).toNat T) 5 0 0 → (-1 ≤ F i ∧ F i ≤ 9) ∧ (F i = -1 ∨ 1 ≤ F i) := fun i hi => hTV.2.1 i (by omega)
            obtain ⟨A9, hA9⟩ : ∃ A, A = (ractA (T 5 0 0).toNat T) := ⟨_, rfl⟩
            rw [← hA9] at hG hAI hAC hA25 halA hst hAE
            refine lv_iconst (v := zI 1) hx hb dX4_run_53 rfl ?_
            refine lv_iload_n hx hb dX4_run_54 rfl (lv_at hl 0 rfl) ?_
            refine lv_aload_n hx hb dX4_run_55 rfl (lv_at hl 1 rfl) ?_
            refine c_callV (As := []) (rest := [.int (zI lf), .int (zI 1)]) (Cn := RX4) (T := TX4) ⟨hx, hb, hml, hown, hts⟩ 0 0 (m_X4_quietTenths l D cI cJ A ad al A9 F r halA hAI.1 hTV.1 hAE) (cwV 0 hts gX4_run_X4_quietTenths rfl rfl rfl (by decide +kernel) ⟨Nat.le_of_ble_eq_true rfl, Nat.le_of_ble_eq_true rfl⟩) (hal 0 0 rfl) (by decide) rfl hK hG hS hA rfl hl.1 rfl (Nat.le_of_ble_eq_true rfl) dX4_run_56 ⟨Nat.zero_le _, Nat.zero_le _⟩ (fun t9 H locs ht9 hB hS => ?_)
            have hG := hB.1; rw [ht9] at hG; clear hB ht9
            obtain ⟨q9, hq9⟩ : ∃ q, q = cqt A9 F r := ⟨_, rfl⟩
            rw [show cqa A9 F (A9 25 0 0) (A9 5 0 0).toNat (r - A9 25 0 0) = cqt A9 F r from rfl]
            rw [← hq9] at hst ⊢
            have hqB : -2000000000 ≤ q9 ∧ q9 ≤ 2000000000 := by rw [hq9]; exact cqt_B hAI.1 hTV.1
            refine z_min hx hb (by rw [hml]; exact hl.1.symm) hown (hts (.methodLink RX4 96 Lib.Math.min.name) (by decide +kernel)) (hts (.static Lib.Math.min.name) (by decide +kernel)) (hts (.initialized "java/lang/Math") (by decide +kernel)) (hts (.code Lib.Math.min.name Lib.Math.min.code 2 (some .int)) (by decide +kernel)) (Nat.le_of_ble_eq_true rfl) (Nat.le_of_ble_eq_true rfl) (Nat.zero_le _) (Nat.zero_le _) ⟨by omega, by omega⟩ ⟨by omega, by omega⟩ dX4_run_59 ?_
            refine z_max hx hb (by rw [hml]; exact hl.1.symm) hown (hts (.methodLink RX4 102 Lib.Math.max.name) (by decide +kernel)) (hts (.static Lib.Math.max.name) (by decide +kernel)) (hts (.initialized "java/lang/Math") (by decide +kernel)) (hts (.code Lib.Math.max.name Lib.Math.max.code 2 (some .int)) (by decide +kernel)) (Nat.le_of_ble_eq_true rfl) (Nat.le_of_ble_eq_true rfl) (Nat.zero_le _) (Nat.zero_le _) ⟨by decide, by decide⟩ ⟨by omega, by omega⟩ dX4_run_62 ?_
            refine lv_istore_n (lv' := [(3, .int (zI (max 1 (min lf q9)))), (2, .int (zI lf)), (0, .ref (ad 0 0)), (1, .int (zI t))]) hx hb dX4_run_65 rfl hl (by decide) rfl (fun ls hl => ?_)
            refine lv_aload_n hx hb dX4_run_66 rfl (lv_at hl 2 rfl) ?_
            refine lv_iload_n hx hb dX4_run_67 rfl (lv_at hl 0 rfl) ?_
            refine c_callV (As := [.int (zI (max 1 (min lf q9)))]) (rest := []) (Cn := RX4) (T := TX4) ⟨hx, hb, hml, hown, hts⟩ 0 0 (m_X4_passTime l D cI cJ A ad al A9 F r halA (max 1 (min lf q9)) hAI.1 ⟨by omega, by omega⟩ hAE (fun i hi h6 => ((hAC i hi).1 h6).2)) (cwV 1 hts gX4_run_X4_passTime rfl rfl rfl (by decide +kernel) ⟨Nat.le_of_ble_eq_true rfl, Nat.le_of_ble_eq_true rfl⟩) (hal 0 0 rfl) (by decide) rfl hK hG hS hA rfl hl.1 rfl (Nat.le_of_ble_eq_true rfl) dX4_run_68 ⟨Nat.zero_le _, Nat.zero_le _⟩ (fun t9 H locs ht9 hB hS => ?_)
            have hG := hB.1; rw [ht9] at hG; clear hB ht9
            refine lv_iload_n hx hb dX4_run_71 rfl (lv_at hl 1 rfl) ?_
            refine lv_iload_n hx hb dX4_run_72 rfl (lv_at hl 0 rfl) ?_
            refine z_isub hx hb dX4_run_73 ?_
            refine lv_istore_n (lv' := [(2, .int (zI (lf - (max 1 (min lf q9))))), (3, .int (zI (max 1 (min lf q9)))), (0, .ref (ad 0 0)), (1, .int (zI t))]) hx hb dX4_run_74 rfl hl (by decide) rfl (fun ls hl => ?_)
            refine lv_goto (tgt := 30) hx hb dX4_run_75 (by decide) ?_
            exact ih (ls := ls) (T := cps A9 F (max 1 (min lf q9))) (F := F) (r := r) (lf := lf - max 1 (min lf q9)) (H := H) (locs := locs) (hG := hG) (hS := hS) (hTI := hst.2.1) (hTC := hst.2.2.1) (hTB := hst.2.2.2.1) (hTV := hst.2.2.2.2) (halT := alS_eq (cps_v (by decide)) (fun _ => cps_v (by decide)) (cps_v (by decide)) halA) (hT25 := by show A9 25 0 0 + (max 1 (min lf q9)) + (lf - max 1 (min lf q9)) ≤ 1000000000; omega) (hT30 := by rw [cps_v (by decide)]; omega) (hlfB := by omega) (hl := lv_sub hl [0, 2, 3] rfl) (hn := by omega) (hv9 := by rw [hst.1, ← rrunL_add, ← hv9]; congr 1; omega)
          · refine lv_aload_n hx hb dX4_run_45 rfl (lv_at hl 1 rfl) ?_
            refine c_callV (As := []) (rest := []) (Cn := RX4) (T := TX4) ⟨hx, hb, hml, hown, hts⟩ 0 0 (m_X4_lookAtRows l D cI cJ A ad al T F r halT hTI) (cwV 0 hts gX4_run_X4_lookAtRows rfl rfl rfl (by decide +kernel) ⟨Nat.le_of_ble_eq_true rfl, Nat.le_of_ble_eq_true rfl⟩) (hal 0 0 rfl) (by decide) rfl hK hG hS hA rfl hl.1 rfl (Nat.le_of_ble_eq_true rfl) dX4_run_46 ⟨Nat.zero_le _, Nat.zero_le _⟩ (fun t9 H locs ht9 hB hS => ?_)
            have hG := hB.1; rw [ht9] at hG; clear hB ht9
            obtain ⟨hVl, hrl⟩ := look_ok F hTI (by omega)
            generalize clook T (T 5 0 0).toNat F = F at hG hVl
            generalize crt T (T 20 0 0).toNat 1000000000 = r at hG hVl hrl
            have hTV := hVl
            have hrr := hrl
            refine lv_aload_n hx hb dX4_run_49 rfl (lv_at hl 1 rfl) ?_
            refine c_callV (As := []) (rest := []) (Cn := RX4) (T := TX4) ⟨hx, hb, hml, hown, hts⟩ 0 0 (m_X4_actAll l D cI cJ A ad al T F r halT hTI hTC (fun j hj => by have h1 := hTV.2.2 (T 25 0 0) (by omega) hrr j hj; rw [← h1]; exact (rheld_eq (S := T) j (fun v k hv => su_v (by simp only [List.mem_cons, List.not_mem_nil, or_false] at hv; omega)) (su_same T 25 0 0 _) (su_v (by decide)))) ⟨by omega, by omega⟩) (cwV 0 hts gX4_run_X4_actAll rfl rfl rfl (by decide +kernel) ⟨Nat.le_of_ble_eq_true rfl, Nat.le_of_ble_eq_true rfl⟩) (hal 0 0 rfl) (by decide) rfl hK hG hS hA rfl hl.1 rfl (Nat.le_of_ble_eq_true rfl) dX4_run_50 ⟨Nat.zero_le _, Nat.zero_le _⟩ (fun t9 H locs ht9 hB hS => ?_)
            have hG := hB.1; rw [ht9] at hG; clear hB ht9
            have hAI := actA_I (T 5 0 0).toNat T hTI (by omega)
            have hAC := actA_C (T 5 0 0).toNat T hTI hTC (by omega)
            have hA25 : (ractA (T 5 0 0).toNat T) 25 0 0 = T 25 0 0 := actA_v _ _ (by decide)
            have halA : alS al (ractA (T 5 0 0).toNat T) := alS_eq (actA_v _ _ (by decide)) (fun _ => actA_v _ _ (by decide)) (actA_v _ _ (by decide)) halT
            have hst := step_ok (lf := lf) hTI hTC hTB hTV hrr (by omega) (by omega)
            have hAE : ∀ i : Nat, (i : Int) < (ractA (T 5 0 0).toNat T) 5 0 0 → (-1 ≤ F i ∧ F i ≤ 9) ∧ (F i = -1 ∨ 1 ≤ F i) := fun i hi => hTV.2.1 i (by omega)
            obtain ⟨A9, hA9⟩ : ∃ A, A = (ractA (T 5 0 0).toNat T) := ⟨_, rfl⟩
            rw [← hA9] at hG hAI hAC hA25 halA hst hAE
            refine lv_iconst (v := zI 1) hx hb dX4_run_53 rfl ?_
            refine lv_iload_n hx hb dX4_run_54 rfl (lv_at hl 0 rfl) ?_
            refine lv_aload_n hx hb dX4_run_55 rfl (lv_at hl 1 rfl) ?_
            refine c_callV (As := []) (rest := [.int (zI lf), .int (zI 1)]) (Cn := RX4) (T := TX4) ⟨hx, hb, hml, hown, hts⟩ 0 0 (m_X4_quietTenths l D cI cJ A ad al A9 F r halA hAI.1 hTV.1 hAE) (cwV 0 hts gX4_run_X4_quietTenths rfl rfl rfl (by decide +kernel) ⟨Nat.le_of_ble_eq_true rfl, Nat.le_of_ble_eq_true rfl⟩) (hal 0 0 rfl) (by decide) rfl hK hG hS hA rfl hl.1 rfl (Nat.le_of_ble_eq_true rfl) dX4_run_56 ⟨Nat.zero_le _, Nat.zero_le _⟩ (fun t9 H locs ht9 hB hS => ?_)
            have hG := hB.1; rw [ht9] at hG; clear hB ht9
            obtain ⟨q9, hq9⟩ : ∃ q, q = cqt A9 F r := ⟨_, rfl⟩
            rw [show cqa A9 F (A9 25 0 0) (A9 5 0 0).toNat (r - A9 25 0 0) = cqt A9 F r from rfl]
            rw [← hq9] at hst ⊢
            have hqB : -2000000000 ≤ q9 ∧ q9 ≤ 2000000000 := by rw [hq9]; exact cqt_B hAI.1 hTV.1
            refine z_min hx hb (by rw [hml]; exact hl.1.symm) hown (hts (.methodLink RX4 96 Lib.Math.min.name) (by decide +kernel)) (hts (.static Lib.Math.min.name) (by decide +kernel)) (hts (.initialized "java/lang/Math") (by decide +kernel)) (hts (.code Lib.Math.min.name Lib.Math.min.code 2 (some .int)) (by decide +kernel)) (Nat.le_of_ble_eq_true rfl) (Nat.le_of_ble_eq_true rfl) (Nat.zero_le _) (Nat.zero_le _) ⟨by omega, by omega⟩ ⟨by omega, by omega⟩ dX4_run_59 ?_
            refine z_max hx hb (by rw [hml]; exact hl.1.symm) hown (hts (.methodLink RX4 102 Lib.Math.max.name) (by decide +kernel)) (hts (.static Lib.Math.max.name) (by decide +kernel)) (hts (.initialized "java/lang/Math") (by decide +kernel)) (hts (.code Lib.Math.max.name Lib.Math.max.code 2 (some .int)) (by decide +kernel)) (Nat.le_of_ble_eq_true rfl) (Nat.le_of_ble_eq_true rfl) (Nat.zero_le _) (Nat.zero_le _) ⟨by decide, by decide⟩ ⟨by omega, by omega⟩ dX4_run_62 ?_
            refine lv_istore_n (lv' := [(3, .int (zI (max 1 (min lf q9)))), (2, .int (zI lf)), (0, .ref (ad 0 0)), (1, .int (zI t))]) hx hb dX4_run_65 rfl hl (by decide) rfl (fun ls hl => ?_)
            refine lv_aload_n hx hb dX4_run_66 rfl (lv_at hl 2 rfl) ?_
            refine lv_iload_n hx hb dX4_run_67 rfl (lv_at hl 0 rfl) ?_
            refine c_callV (As := [.int (zI (max 1 (min lf q9)))]) (rest := []) (Cn := RX4) (T := TX4) ⟨hx, hb, hml, hown, hts⟩ 0 0 (m_X4_passTime l D cI cJ A ad al A9 F r halA (max 1 (min lf q9)) hAI.1 ⟨by omega, by omega⟩ hAE (fun i hi h6 => ((hAC i hi).1 h6).2)) (cwV 1 hts gX4_run_X4_passTime rfl rfl rfl (by decide +kernel) ⟨Nat.le_of_ble_eq_true rfl, Nat.le_of_ble_eq_true rfl⟩) (hal 0 0 rfl) (by decide) rfl hK hG hS hA rfl hl.1 rfl (Nat.le_of_ble_eq_true rfl) dX4_run_68 ⟨Nat.zero_le _, Nat.zero_le _⟩ (fun t9 H locs ht9 hB hS => ?_)
            have hG := hB.1; rw [ht9] at hG; clear hB ht9
            refine lv_iload_n hx hb dX4_run_71 rfl (lv_at hl 1 rfl) ?_
            refine lv_iload_n hx hb dX4_run_72 rfl (lv_at hl 0 rfl) ?_
            refine z_isub hx hb dX4_run_73 ?_
            refine lv_istore_n (lv' := [(2, .int (zI (lf - (max 1 (min lf q9))))), (3, .int (zI (max 1 (min lf q9)))), (0, .ref (ad 0 0)), (1, .int (zI t))]) hx hb dX4_run_74 rfl hl (by decide) rfl (fun ls hl => ?_)
            refine lv_goto (tgt := 30) hx hb dX4_run_75 (by decide) ?_
            exact ih (ls := ls) (T := cps A9 F (max 1 (min lf q9))) (F := F) (r := r) (lf := lf - max 1 (min lf q9)) (H := H) (locs := locs) (hG := hG) (hS := hS) (hTI := hst.2.1) (hTC := hst.2.2.1) (hTB := hst.2.2.2.1) (hTV := hst.2.2.2.2) (halT := alS_eq (cps_v (by decide)) (fun _ => cps_v (by decide)) (cps_v (by decide)) halA) (hT25 := by show A9 25 0 0 + (max 1 (min lf q9)) + (lf - max 1 (min lf q9)) ≤ 1000000000; omega) (hT30 := by rw [cps_v (by decide)]; omega) (hlfB := by omega) (hl := lv_sub hl [0, 2, 3] rfl) (hn := by omega) (hv9 := by rw [hst.1, ← rrunL_add, ← hv9]; congr 1; omega)
    · refine lv_iconst (v := zI (-1)) hx hb dX4_run_21 rfl ?_
      have hfS : rrunS S t = S := by unfold rrunS; rw [if_neg (by omega)]
      have hfV : rrunV S t = -1 := by unfold rrunV; rw [if_neg (by omega)]
      rw [hfS, hfV]
      exact W.iret hx hb hr (fun t ht hW => ⟨rfl, ⟨E, rt, hV, hC, hB, by rw [ht]; exact hG, va_K.moved hW.alike hK, fun q hq => hA q (Nat.le_trans hS.1 (by rw [← ht]; exact hq))⟩, hS.F ht⟩) hS.2.2 dX4_run_22
