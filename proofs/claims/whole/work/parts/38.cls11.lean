theorem cl_row (S : sT) (E : Nat → Int) (rt : Int) (k : Nat) (mm f t cs z : Int) (hk9 : S 20 0 0 = (k : Int)) (hz : z = (k : Int) - 1) : ∀ K j, cAl (su (su (su (su (su S 16 k 0 mm) 17 k 0 f) 18 k 0 t) 19 k 0 cs) 20 0 0 (S 20 0 0 + 1)) K j → alU (cAl S) 7 k K j ∧ ((K = 1 ∨ K = 4 ∨ K = 5 → cC (su (su (su (su (su S 16 k 0 mm) 17 k 0 f) 18 k 0 t) 19 k 0 cs) 20 0 0 (S 20 0 0 + 1)) E (S 25 0 0) K j = (su (su (su (su (su (su (su (su (cn (cC S E rt) 7 k) 7 k 0 mm) 7 k 1 f) 7 k 2 t) 7 k 3 cs) 7 k 4 (z)) 0 0 4 (k : Int)) 0 0 5 (S 20 0 0 + 1)) 0 0 6 (S 25 0 0)) K j) ∧ ∀ g, g < cNf K → cC (su (su (su (su (su S 16 k 0 mm) 17 k 0 f) 18 k 0 t) 19 k 0 cs) 20 0 0 (S 20 0 0 + 1)) E (S 25 0 0) K j g = (su (su (su (su (su (su (su (su (cn (cC S E rt) 7 k) 7 k 0 mm) 7 k 1 f) 7 k 2 t) 7 k 3 cs) 7 k 4 (z)) 0 0 4 (k : Int)) 0 0 5 (S 20 0 0 + 1)) 0 0 6 (S 25 0 0)) K j g) := by
  intro K j hk
  rcases K with _ | _ | _ | _ | _ | _ | _ | _ | K
  · have hj : j = 0 := hk
    subst hj
    refine ⟨Or.inl hk, fun q => absurd q (by omega), fun g hg => ?_⟩
    have hg : g < 11 := hg
    rcases g with _ | _ | _ | _ | _ | _ | _ | _ | _ | _ | _ | g <;> first | rfl | (exfalso; omega) | (simp [cC, cX, su, cn]; done) | (simp [cC, cX, su, cn]; omega)
  · exact ⟨Or.inl hk, fun _ => by funext g; simp [cC, su, cn, show ¬ (27 + g % 3 = 16) by omega, show ¬ (27 + g % 3 = 17) by omega, show ¬ (27 + g % 3 = 18) by omega, show ¬ (27 + g % 3 = 19) by omega, show ¬ (27 + g % 3 = 20) by omega], fun g hg => absurd hg (by simp [cNf])⟩
  · refine ⟨Or.inl hk, fun q => absurd q (by omega), fun g hg => ?_⟩
    have hg : g < 16 := hg
    rcases g with _ | _ | _ | _ | _ | _ | _ | _ | _ | _ | _ | _ | _ | _ | _ | _ | g <;> first | rfl | (exfalso; omega)
  · refine ⟨Or.inl hk, fun q => absurd q (by omega), fun g hg => ?_⟩
    have hg : g < 5 := hg
    rcases g with _ | _ | _ | _ | _ | g <;> first | rfl | (exfalso; omega)
  · exact ⟨Or.inl hk, fun _ => rfl, fun g hg => absurd hg (by simp [cNf])⟩
  · exact ⟨Or.inl hk, fun _ => rfl, fun g hg => absurd hg (by simp [cNf])⟩
  · refine ⟨Or.inl hk, fun q => absurd q (by omega), fun g hg => ?_⟩
    have hg : g < 4 := hg
    rcases g with _ | _ | _ | _ | g <;> first | rfl | (exfalso; omega)
  · have hk1 : (j : Int) < S 20 0 0 + 1 := hk
    refine ⟨?_, fun q => absurd q (by omega), fun g hg => ?_⟩
    · by_cases hj : j = k
      · exact Or.inr ⟨rfl, hj⟩
      · exact Or.inl (show (j : Int) < S 20 0 0 by omega)
    · have hg : g < 5 := hg
      by_cases hj : j = k
      · subst hj
        rcases g with _ | _ | _ | _ | _ | g <;> first | rfl | (exfalso; omega) | (simp [cC, cR, su, cn]; done) | (simp [cC, cR, su, cn]; omega)
      · rcases g with _ | _ | _ | _ | _ | g <;> first | rfl | (exfalso; omega) | (simp [cC, cR, su, cn, hj]; done)
  · exact False.elim hk
theorem nr_row (S : sT) (E : Nat → Int) (rt : Int) (k : Nat) (hk9 : S 20 0 0 = (k : Int)) : nr (cC S E rt) (cAl S) 7 k := by
  intro K j hk g hg hc
  rcases K with _ | _ | _ | _ | _ | _ | _ | _ | K
  · have hj : j = 0 := hk
    subst hj
    have hg : g < 11 := hg
    rcases g with _ | _ | _ | _ | _ | _ | _ | _ | _ | _ | _ | g
    all_goals first | (exfalso; omega) | exact absurd hc (by decide) | skip
    show S 20 0 0 - 1 < 0 ∨ (S 20 0 0 - 1).toNat ≠ k
    omega
  · exact absurd hg (by simp [cNf])
  · have hg : g < 16 := hg
    rcases g with _ | _ | _ | _ | _ | _ | _ | _ | _ | _ | _ | _ | _ | _ | _ | _ | g <;> first | (exfalso; omega) | exact absurd hc (by decide)
  · have hg : g < 5 := hg
    rcases g with _ | _ | _ | _ | _ | g <;> first | (exfalso; omega) | exact absurd hc (by decide)
  · exact absurd hg (by simp [cNf])
  · exact absurd hg (by simp [cNf])
  · have hg : g < 4 := hg
    rcases g with _ | _ | _ | _ | g <;> first | (exfalso; omega) | exact absurd hc (by decide)
  · have hg : g < 5 := hg
    have hj : (j : Int) < S 20 0 0 := hk
    rcases g with _ | _ | _ | _ | _ | g
    all_goals first | (exfalso; omega) | exact absurd hc (by decide) | skip
    show (j : Int) - 1 < 0 ∨ ((j : Int) - 1).toNat ≠ k
    omega
  · exact False.elim hk
set_option maxHeartbeats 4000000 in
set_option maxRecDepth 100000 in
theorem m_X4_addRow (l : Launch) (D : va_G) (cI cJ : ClassId) (A : Nat → Prop) (ad : Nat → Nat → Nat) (al : Nat → Nat → Prop) (S : sT) (E : Nat → Int) (rt mm f t cs : Int) (hal0 : al = cAl S) (hf0 : zB f) (ht0 : zB t) (hI : Inv S) : Met l yX4_addRow wsX4_addRow ({ frames := 2, cells := 1, slots := 5, locals := 45 }) (va_Pc [.ref (ad 0 0), .int (zI mm), .int (zI f), .int (zI t), .int (zI cs)] (gCU D cI cJ A ad al (cC S E rt))) (gO (some (.int (zI (bZ (S 25 0 0 ≤ f ∧ f < t ∧ t ≤ 1000000000 ∧ ¬ S 20 0 0 = 64))))) (fun U => ∃ ad1 : Nat → Nat → Nat, ad1 0 0 = ad 0 0 ∧ gCU D cI cJ A ad1 (cAl (rtoldS S mm f t cs)) (cC (rtoldS S mm f t cs) E (if S 25 0 0 ≤ f ∧ f < t ∧ t ≤ 1000000000 ∧ ¬ S 20 0 0 = 64 then S 25 0 0 else rt)) U) A) 1 5 A := by
  refine Met.ofW (cc := cX4_addRow) (maxL := 5) (ret := (some .boolean)) (by decide) rfl ?_
  intro p e s m0 args below meth c s₁ B hml hv
  obtain ⟨rfl, hG, hK, hA⟩ := hv
  have hx := B.exec
  have hb := B.bytes
  have hr := B.returns
  have hts := atoms_spec (ws := wsX4_addRow) B.pre
  have hown : s.vm.findClass RX4 = some m0.cls := findClass_of_methodNamed B.named
  have hlocks := B.notSynchronized
  have hinX3 : ∀ w ∈ wsX30, w ∈ wsX4_addRow := by decide +kernel
  have hinX4 : ∀ w ∈ wsX40, w ∈ wsX4_addRow := by decide +kernel
  have hS : va_S A s.heap s.heap [] := va_S.rf
  have hl := lv_entry ([.ref (ad 0 0), .int (zI mm), .int (zI f), .int (zI t), .int (zI cs)]) (n := 5) (Nat.le_of_ble_eq_true rfl)
  rw [lg_entry_eq]
  generalize (lg_sl ([.ref (ad 0 0), .int (zI mm), .int (zI f), .int (zI t), .int (zI cs)]) ++ List.replicate (5 - (lg_sl ([.ref (ad 0 0), .int (zI mm), .int (zI f), .int (zI t), .int (zI cs)])).length) Slot.unset).toArray = ls at hl ⊢
  replace hl : lv_has ls 5 [(0, .ref (ad 0 0)), (1, .int (zI mm)), (2, .int (zI f)), (3, .int (zI t)), (4, .int (zI cs))] := hl
  have hal : alS al S := by rw [hal0]; exact fun _ _ h => h
  obtain ⟨hI5, hI25, hI20, hIM, hIL, hIR⟩ := id hI
  refine lv_aload_n hx hb dX4_addRow_0 rfl (lv_at hl 0 rfl) ?_
  refine c_getV (Cn := RX4) (T := TX4) hx hb hts 0 hinX4 hown hK hG 0 5 (hal 0 0 rfl) (by decide) rfl (by decide) (hts (.fieldLink RX4 158 "LineEvents" "rowCount" "I") (by decide +kernel)) (cV_I (z := S 20 0 0) rfl (rfl)) dX4_addRow_1 ?_
  refine lv_bipush (v := zI 64) hx hb dX4_addRow_4 (by decide) ?_
  refine z_icmp_ge (tgt := 28) hx hb dX4_addRow_6 (by decide) ⟨by omega, by omega⟩ ⟨by decide, by decide⟩ (fun c_1 => ?_) (fun c_1 => ?_)
  · refine lv_iconst (v := zI 0) hx hb dX4_addRow_28 rfl ?_
    have v9 : 0 = bZ (S 25 0 0 ≤ f ∧ f < t ∧ t ≤ 1000000000 ∧ ¬ S 20 0 0 = 64) := by first | (exfalso; omega) | exact (bZ_t (by omega)).symm | exact (bZ_f (by omega)).symm
    refine W.eq (congrArg (fun z => F0 m0 29 ls [.int (zI z)]) v9) ?_
    have e8 : rtoldS S mm f t cs = S := by unfold rtoldS; rw [if_neg (by omega)]
    have e7 : (if S 25 0 0 ≤ f ∧ f < t ∧ t ≤ 1000000000 ∧ ¬ S 20 0 0 = 64 then S 25 0 0 else rt) = rt := if_neg (by omega)
    rw [e8, e7]
    rw [hal0] at hG
    refine W.widen (Nat.le_of_ble_eq_true rfl) (Nat.le_of_ble_eq_true rfl) (k := 1) (n := 5) ?_
    exact W.zret hx hb hr (zI_bool _) (fun t ht hW => ⟨rfl, ⟨ad, rfl, ⟨by rw [ht]; exact hG, va_K.moved hW.alike hK, fun q hq => hA q (Nat.le_trans hS.1 (by rw [← ht]; exact hq))⟩⟩, hS.F ht⟩) hS.2.2 dX4_addRow_29
  · refine lv_iload_n hx hb dX4_addRow_9 rfl (lv_at hl 2 rfl) ?_
    refine lv_aload_n hx hb dX4_addRow_10 rfl (lv_at hl 0 rfl) ?_
    refine c_getV (Cn := RX4) (T := TX4) hx hb hts 0 hinX4 hown hK hG 0 1 (hal 0 0 rfl) (by decide) rfl (by decide) (hts (.fieldLink RX4 27 "LineEvents" "now" "I") (by decide +kernel)) (cV_I (z := S 25 0 0) rfl (rfl)) dX4_addRow_11 ?_
    refine z_icmp_lt (tgt := 28) hx hb dX4_addRow_14 (by decide) ⟨by omega, by omega⟩ ⟨by omega, by omega⟩ (fun c_2 => ?_) (fun c_2 => ?_)
    · refine lv_iconst (v := zI 0) hx hb dX4_addRow_28 rfl ?_
      have v9 : 0 = bZ (S 25 0 0 ≤ f ∧ f < t ∧ t ≤ 1000000000 ∧ ¬ S 20 0 0 = 64) := by first | (exfalso; omega) | exact (bZ_t (by omega)).symm | exact (bZ_f (by omega)).symm
      refine W.eq (congrArg (fun z => F0 m0 29 ls [.int (zI z)]) v9) ?_
      have e8 : rtoldS S mm f t cs = S := by unfold rtoldS; rw [if_neg (by omega)]
      have e7 : (if S 25 0 0 ≤ f ∧ f < t ∧ t ≤ 1000000000 ∧ ¬ S 20 0 0 = 64 then S 25 0 0 else rt) = rt := if_neg (by omega)
      rw [e8, e7]
      rw [hal0] at hG
      refine W.widen (Nat.le_of_ble_eq_true rfl) (Nat.le_of_ble_eq_true rfl) (k := 1) (n := 5) ?_
      exact W.zret hx hb hr (zI_bool _) (fun t ht hW => ⟨rfl, ⟨ad, rfl, ⟨by rw [ht]; exact hG, va_K.moved hW.alike hK, fun q hq => hA q (Nat.le_trans hS.1 (by rw [← ht]; exact hq))⟩⟩, hS.F ht⟩) hS.2.2 dX4_addRow_29
    · refine lv_iload_n hx hb dX4_addRow_17 rfl (lv_at hl 3 rfl) ?_
      refine lv_iload_n hx hb dX4_addRow_18 rfl (lv_at hl 2 rfl) ?_
      refine z_icmp_le (tgt := 28) hx hb dX4_addRow_19 (by decide) ⟨by omega, by omega⟩ ⟨by omega, by omega⟩ (fun c_3 => ?_) (fun c_3 => ?_)
      · refine lv_iconst (v := zI 0) hx hb dX4_addRow_28 rfl ?_
        have v9 : 0 = bZ (S 25 0 0 ≤ f ∧ f < t ∧ t ≤ 1000000000 ∧ ¬ S 20 0 0 = 64) := by first | (exfalso; omega) | exact (bZ_t (by omega)).symm | exact (bZ_f (by omega)).symm
        refine W.eq (congrArg (fun z => F0 m0 29 ls [.int (zI z)]) v9) ?_
        have e8 : rtoldS S mm f t cs = S := by unfold rtoldS; rw [if_neg (by omega)]
        have e7 : (if S 25 0 0 ≤ f ∧ f < t ∧ t ≤ 1000000000 ∧ ¬ S 20 0 0 = 64 then S 25 0 0 else rt) = rt := if_neg (by omega)
        rw [e8, e7]
        rw [hal0] at hG
        refine W.widen (Nat.le_of_ble_eq_true rfl) (Nat.le_of_ble_eq_true rfl) (k := 1) (n := 5) ?_
        exact W.zret hx hb hr (zI_bool _) (fun t ht hW => ⟨rfl, ⟨ad, rfl, ⟨by rw [ht]; exact hG, va_K.moved hW.alike hK, fun q hq => hA q (Nat.le_trans hS.1 (by rw [← ht]; exact hq))⟩⟩, hS.F ht⟩) hS.2.2 dX4_addRow_29
      · refine lv_iload_n hx hb dX4_addRow_22 rfl (lv_at hl 3 rfl) ?_
        refine z_ldc (z := 1000000000) hx hb hown (hts (.constant RX4 79 (1000000000)) (by decide +kernel)) (by decide) dX4_addRow_23 ?_
        refine z_icmp_le (tgt := 30) hx hb dX4_addRow_25 (by decide) ⟨by omega, by omega⟩ ⟨by decide, by decide⟩ (fun c_4 => ?_) (fun c_4 => ?_)
        · obtain ⟨k, hk9⟩ : ∃ k : Nat, S 20 0 0 = (k : Int) := ⟨(S 20 0 0).toNat, by omega⟩
          by_cases h200 : S 20 0 0 = 0
          · have h200b := h200
            refine lv_aload_n hx hb dX4_addRow_30 rfl (lv_at hl 0 rfl) ?_
            have h7k : ¬ al 7 k := by rw [hal0]; intro q; have q2 : (k : Int) < S 20 0 0 := q; omega
            have hr7 : nr (cC S E rt) al 7 k := by rw [hal0]; exact nr_row S E rt k hk9
            refine c_new hx hb hts 7 k hinX3 tyX3 tyX3_ok hown (hts (.classLink RX4 161 RX3) (by decide +kernel)) (hts (.instantiable RX3 5) (by decide +kernel)) (hts (.initialized RX3) (by decide +kernel)) hK hG hS hA (by decide) rfl dfX3 (Nat.le_of_ble_eq_true rfl) (Nat.le_of_ble_eq_true rfl) (C' := cn (cC S E rt) 7 k) h7k hr7 (fun k j hk => cn_o (fun q => h7k (by rw [← q.1, ← q.2]; exact hk))) (fun f _ => cn_s _ _ _ f) dX4_addRow_31 (fun q9 H hG hS => ?_)
            generalize had5 : adU ad 7 k q9 = ad5 at hG ⊢
            have hq5 : ∀ k8 i8, ¬ (k8 = 7 ∧ i8 = k) → ad5 k8 i8 = ad k8 i8 := fun k8 i8 h => by rw [← had5]; exact adU_ne h
            have r6 : ad5 0 0 = ad 0 0 := hq5 0 0 (fun q => absurd q.1 (by decide))
            replace hl : lv_has ls 5 [(0, .ref (ad5 0 0)), (1, .int (zI mm)), (2, .int (zI f)), (3, .int (zI t)), (4, .int (zI cs))] := by rw [r6]; exact hl
            refine W.eq (g2 := F0 m0 34 ls [.ref (ad5 7 k), .ref (ad5 0 0)]) (by rw [r6]; try rfl) ?_
            refine lv_dup hx hb dX4_addRow_34 rfl ?_
            refine lv_iload_n hx hb dX4_addRow_35 rfl (lv_at hl 1 rfl) ?_
            refine lv_iload_n hx hb dX4_addRow_36 rfl (lv_at hl 2 rfl) ?_
            refine lv_iload_n hx hb dX4_addRow_37 rfl (lv_at hl 3 rfl) ?_
            refine lv_iload hx hb dX4_addRow_38 (lv_at hl 4 rfl) ?_
            refine lv_aload_n hx hb dX4_addRow_40 rfl (lv_at hl 0 rfl) ?_
            have hv9 : (cn (cC S E rt) 7 k) 0 0 4 = -1 := by show S 20 0 0 - 1 = _; omega
            refine c_getV (Cn := RX4) (T := TX4) hx hb hts 0 hinX4 hown hK hG 0 4 (Or.inl (hal 0 0 rfl)) (by decide) rfl (by decide) (hts (.fieldLink RX4 163 "LineEvents" "newestRow" "LLineEvents$Row;") (by decide +kernel)) (cV_N (t := 7) rfl (by rw [hv9]; decide)) dX4_addRow_41 ?_
            refine c_callI (As := [.int (zI mm), .int (zI f), .int (zI t), .int (zI cs), .null]) (rest := [.ref (ad5 7 k), .ref (ad5 0 0)]) ⟨hx, hb, hml, hown, hts⟩ (ad5 7 k) (m_X3_initN l D cI cJ A ad5 (alU al 7 k) (cn (cC S E rt) 7 k) k mm f t cs (Or.inr ⟨rfl, rfl⟩)) (cwI 5 hts gX4_addRow_X3_init rfl rfl rfl (hts (.initialized RX3) (by decide +kernel)) (hts (.methodLink RX4 167 yX3_init) (by decide +kernel)) (hts (.instanceMethod yX3_init) (by decide +kernel)) rfl (by decide +kernel) ⟨Nat.le_of_ble_eq_true rfl, Nat.le_of_ble_eq_true rfl⟩) (⟨gCU_blind, fun U hU hW => ⟨rfl, by rw [hU]; exact hG, va_K.moved hW.alike hK, fun q hq => hA q (Nat.le_trans hS.1 (by rw [← hU]; exact hq))⟩⟩) hS rfl hl.1 rfl (Nat.le_of_ble_eq_true rfl) dX4_addRow_44 ⟨Nat.le_of_ble_eq_true rfl, Nat.le_of_ble_eq_true rfl⟩ (fun t9 H locs ht9 hB hS => ?_)
            have hG := hB.1; rw [ht9] at hG; clear hB ht9
            refine c_putV (Cn := RX4) (T := TX4) (z := (k : Int)) hx hb hts 0 hinX4 tyX4 tyX4_ok nmX4 hown hK hG hS 0 4 (Or.inl (hal 0 0 rfl)) (by decide) rfl (by decide) (hts (.fieldLink RX4 163 "LineEvents" "newestRow" "LLineEvents$Row;") (by decide +kernel)) (Or.inl rfl) (cV_R (t := 7) (j := k) rfl rfl) rfl rfl dX4_addRow_47 (fun H locs hG hS => ?_)
            refine lv_aload_n hx hb dX4_addRow_50 rfl (lv_at hl 0 rfl) ?_
            refine lv_dup hx hb dX4_addRow_51 rfl ?_
            refine c_getV (Cn := RX4) (T := TX4) hx hb hts 0 hinX4 hown hK hG 0 5 (Or.inl (hal 0 0 rfl)) (by decide) rfl (by decide) (hts (.fieldLink RX4 158 "LineEvents" "rowCount" "I") (by decide +kernel)) (cV_I (z := S 20 0 0) rfl ((su_f (by decide)).trans (rfl))) dX4_addRow_52 ?_
            refine lv_iconst (v := zI 1) hx hb dX4_addRow_55 rfl ?_
            refine z_iadd hx hb dX4_addRow_56 ?_
            refine c_putV (Cn := RX4) (T := TX4) (z := (S 20 0 0) + 1) hx hb hts 0 hinX4 tyX4 tyX4_ok nmX4 hown hK hG hS 0 5 (Or.inl (hal 0 0 rfl)) (by decide) rfl (by decide) (hts (.fieldLink RX4 158 "LineEvents" "rowCount" "I") (by decide +kernel)) (Or.inl rfl) (cV_I (z := (S 20 0 0) + 1) rfl rfl) rfl rfl dX4_addRow_57 (fun H locs hG hS => ?_)
            refine lv_aload_n hx hb dX4_addRow_60 rfl (lv_at hl 0 rfl) ?_
            refine lv_aload_n hx hb dX4_addRow_61 rfl (lv_at hl 0 rfl) ?_
            refine c_getV (Cn := RX4) (T := TX4) hx hb hts 0 hinX4 hown hK hG 0 1 (Or.inl (hal 0 0 rfl)) (by decide) rfl (by decide) (hts (.fieldLink RX4 27 "LineEvents" "now" "I") (by decide +kernel)) (cV_I (z := S 25 0 0) rfl ((su_f (by decide)).trans ((su_f (by decide)).trans (rfl)))) dX4_addRow_62 ?_
            refine c_putV (Cn := RX4) (T := TX4) (z := S 25 0 0) hx hb hts 0 hinX4 tyX4 tyX4_ok nmX4 hown hK hG hS 0 6 (Or.inl (hal 0 0 rfl)) (by decide) rfl (by decide) (hts (.fieldLink RX4 83 "LineEvents" "rowsTurn" "I") (by decide +kernel)) (Or.inl rfl) (cV_I (z := S 25 0 0) rfl rfl) rfl rfl dX4_addRow_65 (fun H locs hG hS => ?_)
            refine lv_iconst (v := zI 1) hx hb dX4_addRow_68 rfl ?_
            have v9 : 1 = bZ (S 25 0 0 ≤ f ∧ f < t ∧ t ≤ 1000000000 ∧ ¬ S 20 0 0 = 64) := by first | (exfalso; omega) | exact (bZ_t (by omega)).symm | exact (bZ_f (by omega)).symm
            refine W.eq (congrArg (fun z => F0 m0 69 ls [.int (zI z)]) v9) ?_
            have e8 : rtoldS S mm f t cs = (su (su (su (su (su S 16 k 0 mm) 17 k 0 f) 18 k 0 t) 19 k 0 cs) 20 0 0 (S 20 0 0 + 1)) := by unfold rtoldS; rw [if_pos (by omega), show (S 20 0 0).toNat = k by omega]
            have e7 : (if S 25 0 0 ≤ f ∧ f < t ∧ t ≤ 1000000000 ∧ ¬ S 20 0 0 = 64 then S 25 0 0 else rt) = S 25 0 0 := if_pos (by omega)
            rw [e8, e7]
            rw [hal0] at hG
            have hcl := cl_row S E rt k mm f t cs (-1) hk9 (by omega)
            have hG := gC_eqf (gC_al hG (fun k j h => (hcl k j h).1)) (fun k j h => (hcl k j h).2)
            exact W.zret hx hb hr (zI_bool _) (fun t ht hW => ⟨rfl, ⟨ad5, hq5 0 0 (fun q => absurd q.1 (by decide)), ⟨by rw [ht]; exact hG, va_K.moved hW.alike hK, fun q hq => hA q (Nat.le_trans hS.1 (by rw [← ht]; exact hq))⟩⟩, hS.F ht⟩) hS.2.2 dX4_addRow_69
          · have h200b := h200
            obtain ⟨j9, hj9⟩ : ∃ j : Nat, k = j + 1 := ⟨k - 1, by omega⟩
            refine lv_aload_n hx hb dX4_addRow_30 rfl (lv_at hl 0 rfl) ?_
            have h7k : ¬ al 7 k := by rw [hal0]; intro q; have q2 : (k : Int) < S 20 0 0 := q; omega
            have hr7 : nr (cC S E rt) al 7 k := by rw [hal0]; exact nr_row S E rt k hk9
            refine c_new hx hb hts 7 k hinX3 tyX3 tyX3_ok hown (hts (.classLink RX4 161 RX3) (by decide +kernel)) (hts (.instantiable RX3 5) (by decide +kernel)) (hts (.initialized RX3) (by decide +kernel)) hK hG hS hA (by decide) rfl dfX3 (Nat.le_of_ble_eq_true rfl) (Nat.le_of_ble_eq_true rfl) (C' := cn (cC S E rt) 7 k) h7k hr7 (fun k j hk => cn_o (fun q => h7k (by rw [← q.1, ← q.2]; exact hk))) (fun f _ => cn_s _ _ _ f) dX4_addRow_31 (fun q9 H hG hS => ?_)
            generalize had7 : adU ad 7 k q9 = ad7 at hG ⊢
            have hq7 : ∀ k8 i8, ¬ (k8 = 7 ∧ i8 = k) → ad7 k8 i8 = ad k8 i8 := fun k8 i8 h => by rw [← had7]; exact adU_ne h
            have r8 : ad7 0 0 = ad 0 0 := hq7 0 0 (fun q => absurd q.1 (by decide))
            replace hl : lv_has ls 5 [(0, .ref (ad7 0 0)), (1, .int (zI mm)), (2, .int (zI f)), (3, .int (zI t)), (4, .int (zI cs))] := by rw [r8]; exact hl
            refine W.eq (g2 := F0 m0 34 ls [.ref (ad7 7 k), .ref (ad7 0 0)]) (by rw [r8]; try rfl) ?_
            refine lv_dup hx hb dX4_addRow_34 rfl ?_
            refine lv_iload_n hx hb dX4_addRow_35 rfl (lv_at hl 1 rfl) ?_
            refine lv_iload_n hx hb dX4_addRow_36 rfl (lv_at hl 2 rfl) ?_
            refine lv_iload_n hx hb dX4_addRow_37 rfl (lv_at hl 3 rfl) ?_
            refine lv_iload hx hb dX4_addRow_38 (lv_at hl 4 rfl) ?_
            refine lv_aload_n hx hb dX4_addRow_40 rfl (lv_at hl 0 rfl) ?_
            have hv9 : (cn (cC S E rt) 7 k) 0 0 4 = (j9 : Int) := by show S 20 0 0 - 1 = _; omega
            refine c_getV (Cn := RX4) (T := TX4) hx hb hts 0 hinX4 hown hK hG 0 4 (Or.inl (hal 0 0 rfl)) (by decide) rfl (by decide) (hts (.fieldLink RX4 163 "LineEvents" "newestRow" "LLineEvents$Row;") (by decide +kernel)) (cV_R (t := 7) (j := j9) rfl hv9) dX4_addRow_41 ?_
            refine c_callI (As := [.int (zI mm), .int (zI f), .int (zI t), .int (zI cs), .ref (ad7 7 j9)]) (rest := [.ref (ad7 7 k), .ref (ad7 0 0)]) ⟨hx, hb, hml, hown, hts⟩ (ad7 7 k) (m_X3_initR l D cI cJ A ad7 (alU al 7 k) (cn (cC S E rt) 7 k) k j9 mm f t cs (Or.inr ⟨rfl, rfl⟩)) (cwI 5 hts gX4_addRow_X3_init rfl rfl rfl (hts (.initialized RX3) (by decide +kernel)) (hts (.methodLink RX4 167 yX3_init) (by decide +kernel)) (hts (.instanceMethod yX3_init) (by decide +kernel)) rfl (by decide +kernel) ⟨Nat.le_of_ble_eq_true rfl, Nat.le_of_ble_eq_true rfl⟩) (⟨gCU_blind, fun U hU hW => ⟨rfl, by rw [hU]; exact hG, va_K.moved hW.alike hK, fun q hq => hA q (Nat.le_trans hS.1 (by rw [← hU]; exact hq))⟩⟩) hS rfl hl.1 rfl (Nat.le_of_ble_eq_true rfl) dX4_addRow_44 ⟨Nat.le_of_ble_eq_true rfl, Nat.le_of_ble_eq_true rfl⟩ (fun t9 H locs ht9 hB hS => ?_)
            have hG := hB.1; rw [ht9] at hG; clear hB ht9
            refine c_putV (Cn := RX4) (T := TX4) (z := (k : Int)) hx hb hts 0 hinX4 tyX4 tyX4_ok nmX4 hown hK hG hS 0 4 (Or.inl (hal 0 0 rfl)) (by decide) rfl (by decide) (hts (.fieldLink RX4 163 "LineEvents" "newestRow" "LLineEvents$Row;") (by decide +kernel)) (Or.inl rfl) (cV_R (t := 7) (j := k) rfl rfl) rfl rfl dX4_addRow_47 (fun H locs hG hS => ?_)
            refine lv_aload_n hx hb dX4_addRow_50 rfl (lv_at hl 0 rfl) ?_
            refine lv_dup hx hb dX4_addRow_51 rfl ?_
            refine c_getV (Cn := RX4) (T := TX4) hx hb hts 0 hinX4 hown hK hG 0 5 (Or.inl (hal 0 0 rfl)) (by decide) rfl (by decide) (hts (.fieldLink RX4 158 "LineEvents" "rowCount" "I") (by decide +kernel)) (cV_I (z := S 20 0 0) rfl ((su_f (by decide)).trans (rfl))) dX4_addRow_52 ?_
            refine lv_iconst (v := zI 1) hx hb dX4_addRow_55 rfl ?_
            refine z_iadd hx hb dX4_addRow_56 ?_
            refine c_putV (Cn := RX4) (T := TX4) (z := (S 20 0 0) + 1) hx hb hts 0 hinX4 tyX4 tyX4_ok nmX4 hown hK hG hS 0 5 (Or.inl (hal 0 0 rfl)) (by decide) rfl (by decide) (hts (.fieldLink RX4 158 "LineEvents" "rowCount" "I") (by decide +kernel)) (Or.inl rfl) (cV_I (z := (S 20 0 0) + 1) rfl rfl) rfl rfl dX4_addRow_57 (fun H locs hG hS => ?_)
            refine lv_aload_n hx hb dX4_addRow_60 rfl (lv_at hl 0 rfl) ?_
            refine lv_aload_n hx hb dX4_addRow_61 rfl (lv_at hl 0 rfl) ?_
            refine c_getV (Cn := RX4) (T := TX4) hx hb hts 0 hinX4 hown hK hG 0 1 (Or.inl (hal 0 0 rfl)) (by decide) rfl (by decide) (hts (.fieldLink RX4 27 "LineEvents" "now" "I") (by decide +kernel)) (cV_I (z := S 25 0 0) rfl ((su_f (by decide)).trans ((su_f (by decide)).trans (rfl)))) dX4_addRow_62 ?_
            refine c_putV (Cn := RX4) (T := TX4) (z := S 25 0 0) hx hb hts 0 hinX4 tyX4 tyX4_ok nmX4 hown hK hG hS 0 6 (Or.inl (hal 0 0 rfl)) (by decide) rfl (by decide) (hts (.fieldLink RX4 83 "LineEvents" "rowsTurn" "I") (by decide +kernel)) (Or.inl rfl) (cV_I (z := S 25 0 0) rfl rfl) rfl rfl dX4_addRow_65 (fun H locs hG hS => ?_)
            refine lv_iconst (v := zI 1) hx hb dX4_addRow_68 rfl ?_
            have v9 : 1 = bZ (S 25 0 0 ≤ f ∧ f < t ∧ t ≤ 1000000000 ∧ ¬ S 20 0 0 = 64) := by first | (exfalso; omega) | exact (bZ_t (by omega)).symm | exact (bZ_f (by omega)).symm
            refine W.eq (congrArg (fun z => F0 m0 69 ls [.int (zI z)]) v9) ?_
            have e8 : rtoldS S mm f t cs = (su (su (su (su (su S 16 k 0 mm) 17 k 0 f) 18 k 0 t) 19 k 0 cs) 20 0 0 (S 20 0 0 + 1)) := by unfold rtoldS; rw [if_pos (by omega), show (S 20 0 0).toNat = k by omega]
            have e7 : (if S 25 0 0 ≤ f ∧ f < t ∧ t ≤ 1000000000 ∧ ¬ S 20 0 0 = 64 then S 25 0 0 else rt) = S 25 0 0 := if_pos (by omega)
            rw [e8, e7]
            rw [hal0] at hG
            have hcl := cl_row S E rt k mm f t cs (j9 : Int) hk9 (by omega)
            have hG := gC_eqf (gC_al hG (fun k j h => (hcl k j h).1)) (fun k j h => (hcl k j h).2)
            exact W.zret hx hb hr (zI_bool _) (fun t ht hW => ⟨rfl, ⟨ad7, hq7 0 0 (fun q => absurd q.1 (by decide)), ⟨by rw [ht]; exact hG, va_K.moved hW.alike hK, fun q hq => hA q (Nat.le_trans hS.1 (by rw [← ht]; exact hq))⟩⟩, hS.F ht⟩) hS.2.2 dX4_addRow_69
        · refine lv_iconst (v := zI 0) hx hb dX4_addRow_28 rfl ?_
          have v9 : 0 = bZ (S 25 0 0 ≤ f ∧ f < t ∧ t ≤ 1000000000 ∧ ¬ S 20 0 0 = 64) := by first | (exfalso; omega) | exact (bZ_t (by omega)).symm | exact (bZ_f (by omega)).symm
          refine W.eq (congrArg (fun z => F0 m0 29 ls [.int (zI z)]) v9) ?_
          have e8 : rtoldS S mm f t cs = S := by unfold rtoldS; rw [if_neg (by omega)]
          have e7 : (if S 25 0 0 ≤ f ∧ f < t ∧ t ≤ 1000000000 ∧ ¬ S 20 0 0 = 64 then S 25 0 0 else rt) = rt := if_neg (by omega)
          rw [e8, e7]
          rw [hal0] at hG
          refine W.widen (Nat.le_of_ble_eq_true rfl) (Nat.le_of_ble_eq_true rfl) (k := 1) (n := 5) ?_
          exact W.zret hx hb hr (zI_bool _) (fun t ht hW => ⟨rfl, ⟨ad, rfl, ⟨by rw [ht]; exact hG, va_K.moved hW.alike hK, fun q hq => hA q (Nat.le_trans hS.1 (by rw [← ht]; exact hq))⟩⟩, hS.F ht⟩) hS.2.2 dX4_addRow_29
set_option maxHeartbeats 4000000 in
set_option maxRecDepth 100000 in
theorem m_X4_row (l : Launch) (D : va_G) (cI cJ : ClassId) (A : Nat → Prop) (ad : Nat → Nat → Nat) (al : Nat → Nat → Prop) (S : sT) (E : Nat → Int) (rt z f t cs : Int) (hal0 : al = cAl S) (hz0 : zB z) (hf0 : zB f) (ht0 : zB t) (hc0 : zB cs) (hI : Inv S) : Met l yX4_row wsX4_row ({ frames := 3, cells := 1, slots := 5, locals := 69 }) (va_Pc [.ref (ad 0 0), .int (zI z), .int (zI f), .int (zI t), .int (zI cs)] (gCU D cI cJ A ad al (cC S E rt))) (gO (some (.int (zI (bZ (((0 ≤ z ∧ z < S 5 0 0) ∧ 4 ≤ cs ∧ cs ≤ 9) ∧ (S 25 0 0 ≤ f ∧ f < t ∧ t ≤ 1000000000 ∧ ¬ S 20 0 0 = 64)))))) (fun U => ∃ ad1 : Nat → Nat → Nat, ad1 0 0 = ad 0 0 ∧ gCU D cI cJ A ad1 (cAl (rrowS S z f t cs)) (cC (rrowS S z f t cs) E (if ((0 ≤ z ∧ z < S 5 0 0) ∧ 4 ≤ cs ∧ cs ≤ 9) ∧ (S 25 0 0 ≤ f ∧ f < t ∧ t ≤ 1000000000 ∧ ¬ S 20 0 0 = 64) then S 25 0 0 else rt)) U) A) 1 5 A := by
  refine Met.ofW (cc := cX4_row) (maxL := 5) (ret := (some .boolean)) (by decide) rfl ?_
  intro p e s m0 args below meth c s₁ B hml hv
  obtain ⟨rfl, hG, hK, hA⟩ := hv
  have hx := B.exec
  have hb := B.bytes
  have hr := B.returns
  have hts := atoms_spec (ws := wsX4_row) B.pre
  have hown : s.vm.findClass RX4 = some m0.cls := findClass_of_methodNamed B.named
  have hlocks := B.notSynchronized
  have hinX2 : ∀ w ∈ wsX20, w ∈ wsX4_row := by decide +kernel
  have hinX3 : ∀ w ∈ wsX30, w ∈ wsX4_row := by decide +kernel
  have hinX4 : ∀ w ∈ wsX40, w ∈ wsX4_row := by decide +kernel
  have hS : va_S A s.heap s.heap [] := va_S.rf
  have hl := lv_entry ([.ref (ad 0 0), .int (zI z), .int (zI f), .int (zI t), .int (zI cs)]) (n := 5) (Nat.le_of_ble_eq_true rfl)
  rw [lg_entry_eq]
  generalize (lg_sl ([.ref (ad 0 0), .int (zI z), .int (zI f), .int (zI t), .int (zI cs)]) ++ List.replicate (5 - (lg_sl ([.ref (ad 0 0), .int (zI z), .int (zI f), .int (zI t), .int (zI cs)])).length) Slot.unset).toArray = ls at hl ⊢
  replace hl : lv_has ls 5 [(0, .ref (ad 0 0)), (1, .int (zI z)), (2, .int (zI f)), (3, .int (zI t)), (4, .int (zI cs))] := hl
  have hal : alS al S := by rw [hal0]; exact fun _ _ h => h
  obtain ⟨hI5, hI25, hI20, hIM, hIL, hIR⟩ := id hI
  refine lv_aload_n hx hb dX4_row_0 rfl (lv_at hl 0 rfl) ?_
  refine lv_iload_n hx hb dX4_row_1 rfl (lv_at hl 1 rfl) ?_
  refine c_callV (As := [.int (zI z)]) (rest := []) (Cn := RX4) (T := TX4) ⟨hx, hb, hml, hown, hts⟩ 0 0 (m_X4_find l D cI cJ A ad al S E rt hal z hz0 hI) (cwV 1 hts gX4_row_X4_find rfl rfl rfl (by decide +kernel) ⟨Nat.le_of_ble_eq_true rfl, Nat.le_of_ble_eq_true rfl⟩) (hal 0 0 rfl) (by decide) rfl hK hG hS hA rfl hl.1 rfl (Nat.le_of_ble_eq_true rfl) dX4_row_2 ⟨Nat.zero_le _, Nat.zero_le _⟩ (fun t9 H locs ht9 hB hS => ?_)
  have hG := hB.1; rw [ht9] at hG; clear hB ht9
  by_cases hz9 : 0 ≤ z ∧ z < S 5 0 0
  · obtain ⟨i, hi9⟩ : ∃ i : Nat, z = (i : Int) := ⟨z.toNat, by omega⟩
    have hi : (i : Int) < S 5 0 0 := by omega
    obtain ⟨hM6, hM7, hM8, hM10, hM11, hM15, hM9, hMf⟩ := id (hIM i (by omega))
    obtain ⟨hL0, hL1, hL2, hL3, hL4⟩ := id (hIL i hi)
    refine W.eq (g2 := F0 m0 5 ls [.ref (ad 2 i)]) (by rw [if_pos hz9, rf_s hi9]; try rfl) ?_
    refine lv_ifnull hx hb dX4_row_5 ?_
    refine lv_iload hx hb dX4_row_8 (lv_at hl 4 rfl) ?_
    refine lv_iconst (v := zI 4) hx hb dX4_row_10 rfl ?_
    refine lv_bipush (v := zI 9) hx hb dX4_row_11 (by decide) ?_
    refine c_callS (As := [.int (zI cs), .int (zI 4), .int (zI 9)]) (rest := []) ⟨hx, hb, hml, hown, hts⟩ (m_X4_within l D cI cJ A ad al S E rt hal cs 4 9 ⟨by omega, by omega⟩ ⟨by decide, by decide⟩ ⟨by decide, by decide⟩) (va_cwS 3 hts gX4_row_X4_within rfl rfl rfl (by decide +kernel) ⟨Nat.le_of_ble_eq_true rfl, Nat.le_of_ble_eq_true rfl⟩) hK hG hS hA rfl hl.1 rfl (Nat.le_of_ble_eq_true rfl) dX4_row_13 ⟨Nat.zero_le _, Nat.zero_le _⟩ (fun t9 H locs ht9 hB hS => ?_)
    have hG := hB.1; rw [ht9] at hG; clear hB ht9
    refine z_ifb_eq (tgt := 35) hx hb dX4_row_16 (by decide) (fun c_1 => ?_) (fun c_1 => ?_)
    · refine lv_iconst (v := zI 0) hx hb dX4_row_35 rfl ?_
      have v9 : 0 = bZ (((0 ≤ z ∧ z < S 5 0 0) ∧ 4 ≤ cs ∧ cs ≤ 9) ∧ (S 25 0 0 ≤ f ∧ f < t ∧ t ≤ 1000000000 ∧ ¬ S 20 0 0 = 64)) := by first | (exfalso; omega) | exact (bZ_t (by omega)).symm | exact (bZ_f (by omega)).symm
      refine W.eq (congrArg (fun z => F0 m0 36 ls [.int (zI z)]) v9) ?_
      have e8 : rrowS S z f t cs = S := by unfold rrowS; rw [if_neg (by omega)]
      have e7 : (if ((0 ≤ z ∧ z < S 5 0 0) ∧ 4 ≤ cs ∧ cs ≤ 9) ∧ (S 25 0 0 ≤ f ∧ f < t ∧ t ≤ 1000000000 ∧ ¬ S 20 0 0 = 64) then S 25 0 0 else rt) = rt := if_neg (by omega)
      rw [e8, e7]
      rw [hal0] at hG
      refine W.widen (Nat.le_of_ble_eq_true rfl) (Nat.le_of_ble_eq_true rfl) (k := 1) (n := 5) ?_
      exact W.zret hx hb hr (zI_bool _) (fun t ht hW => ⟨rfl, ⟨ad, rfl, ⟨by rw [ht]; exact hG, va_K.moved hW.alike hK, fun q hq => hA q (Nat.le_trans hS.1 (by rw [← ht]; exact hq))⟩⟩, hS.F ht⟩) hS.2.2 dX4_row_36
    · refine lv_aload_n hx hb dX4_row_19 rfl (lv_at hl 0 rfl) ?_
      refine lv_iload_n hx hb dX4_row_20 rfl (lv_at hl 1 rfl) ?_
      refine lv_iload_n hx hb dX4_row_21 rfl (lv_at hl 2 rfl) ?_
      refine lv_iload_n hx hb dX4_row_22 rfl (lv_at hl 3 rfl) ?_
      refine lv_iload hx hb dX4_row_23 (lv_at hl 4 rfl) ?_
      refine c_callV (As := [.int (zI z), .int (zI f), .int (zI t), .int (zI cs)]) (rest := []) (Cn := RX4) (T := TX4) ⟨hx, hb, hml, hown, hts⟩ 0 0 (m_X4_addRow l D cI cJ A ad al S E rt z f t cs hal0 ⟨by omega, by omega⟩ ⟨by omega, by omega⟩ hI) (cwV 4 hts gX4_row_X4_addRow rfl rfl rfl (by decide +kernel) ⟨Nat.le_of_ble_eq_true rfl, Nat.le_of_ble_eq_true rfl⟩) (hal 0 0 rfl) (by decide) rfl hK hG hS hA rfl hl.1 rfl (Nat.le_of_ble_eq_true rfl) dX4_row_25 ⟨Nat.le_of_ble_eq_true rfl, Nat.le_of_ble_eq_true rfl⟩ (fun t9 H locs ht9 hB hS => ?_)
      obtain ⟨ad1, hq1, hG, -, -⟩ := hB; rw [ht9] at hG; clear ht9
      have r2 : ad1 0 0 = ad 0 0 := hq1
      replace hl : lv_has ls 5 [(0, .ref (ad1 0 0)), (1, .int (zI z)), (2, .int (zI f)), (3, .int (zI t)), (4, .int (zI cs))] := by rw [r2]; exact hl
      refine z_ifb_eq (tgt := 35) hx hb dX4_row_28 (by decide) (fun c_3 => ?_) (fun c_3 => ?_)
      · refine lv_iconst (v := zI 0) hx hb dX4_row_35 rfl ?_
        have v9 : 0 = bZ (((0 ≤ z ∧ z < S 5 0 0) ∧ 4 ≤ cs ∧ cs ≤ 9) ∧ (S 25 0 0 ≤ f ∧ f < t ∧ t ≤ 1000000000 ∧ ¬ S 20 0 0 = 64)) := by first | (exfalso; omega) | exact (bZ_t (by omega)).symm | exact (bZ_f (by omega)).symm
        refine W.eq (congrArg (fun z => F0 m0 36 ls [.int (zI z)]) v9) ?_
        have e8 : rrowS S z f t cs = rtoldS S z f t cs := by unfold rrowS; rw [if_pos (by omega)]
        have e7 : (if ((0 ≤ z ∧ z < S 5 0 0) ∧ 4 ≤ cs ∧ cs ≤ 9) ∧ (S 25 0 0 ≤ f ∧ f < t ∧ t ≤ 1000000000 ∧ ¬ S 20 0 0 = 64) then S 25 0 0 else rt) = (if S 25 0 0 ≤ f ∧ f < t ∧ t ≤ 1000000000 ∧ ¬ S 20 0 0 = 64 then S 25 0 0 else rt) := by first | rw [if_pos (by omega), if_pos (by omega)] | rw [if_neg (by omega), if_neg (by omega)]
        rw [e8, e7]
        exact W.zret hx hb hr (zI_bool _) (fun t ht hW => ⟨rfl, ⟨ad1, hq1, ⟨by rw [ht]; exact hG, va_K.moved hW.alike hK, fun q hq => hA q (Nat.le_trans hS.1 (by rw [← ht]; exact hq))⟩⟩, hS.F ht⟩) hS.2.2 dX4_row_36
      · refine lv_iconst (v := zI 1) hx hb dX4_row_31 rfl ?_
        refine lv_goto (tgt := 36) hx hb dX4_row_32 (by decide) ?_
        have v9 : 1 = bZ (((0 ≤ z ∧ z < S 5 0 0) ∧ 4 ≤ cs ∧ cs ≤ 9) ∧ (S 25 0 0 ≤ f ∧ f < t ∧ t ≤ 1000000000 ∧ ¬ S 20 0 0 = 64)) := by first | (exfalso; omega) | exact (bZ_t (by omega)).symm | exact (bZ_f (by omega)).symm
        refine W.eq (congrArg (fun z => F0 m0 36 ls [.int (zI z)]) v9) ?_
        have e8 : rrowS S z f t cs = rtoldS S z f t cs := by unfold rrowS; rw [if_pos (by omega)]
        have e7 : (if ((0 ≤ z ∧ z < S 5 0 0) ∧ 4 ≤ cs ∧ cs ≤ 9) ∧ (S 25 0 0 ≤ f ∧ f < t ∧ t ≤ 1000000000 ∧ ¬ S 20 0 0 = 64) then S 25 0 0 else rt) = (if S 25 0 0 ≤ f ∧ f < t ∧ t ≤ 1000000000 ∧ ¬ S 20 0 0 = 64 then S 25 0 0 else rt) := by first | rw [if_pos (by omega), if_pos (by omega)] | rw [if_neg (by omega), if_neg (by omega)]
        rw [e8, e7]
        exact W.zret hx hb hr (zI_bool _) (fun t ht hW => ⟨rfl, ⟨ad1, hq1, ⟨by rw [ht]; exact hG, va_K.moved hW.alike hK, fun q hq => hA q (Nat.le_trans hS.1 (by rw [← ht]; exact hq))⟩⟩, hS.F ht⟩) hS.2.2 dX4_row_36
  · refine W.eq (g2 := F0 m0 5 ls [.null]) (by rw [if_neg hz9, rf_n (by decide)]; try rfl) ?_
    refine lv_ifnullN (tgt := 35) hx hb dX4_row_5 (by decide) ?_
    refine lv_iconst (v := zI 0) hx hb dX4_row_35 rfl ?_
    have v9 : 0 = bZ (((0 ≤ z ∧ z < S 5 0 0) ∧ 4 ≤ cs ∧ cs ≤ 9) ∧ (S 25 0 0 ≤ f ∧ f < t ∧ t ≤ 1000000000 ∧ ¬ S 20 0 0 = 64)) := by first | (exfalso; omega) | exact (bZ_t (by omega)).symm | exact (bZ_f (by omega)).symm
    refine W.eq (congrArg (fun z => F0 m0 36 ls [.int (zI z)]) v9) ?_
    have e8 : rrowS S z f t cs = S := by unfold rrowS; rw [if_neg (by omega)]
    have e7 : (if ((0 ≤ z ∧ z < S 5 0 0) ∧ 4 ≤ cs ∧ cs ≤ 9) ∧ (S 25 0 0 ≤ f ∧ f < t ∧ t ≤ 1000000000 ∧ ¬ S 20 0 0 = 64) then S 25 0 0 else rt) = rt := if_neg (by omega)
    rw [e8, e7]
    rw [hal0] at hG
    refine W.widen (Nat.le_of_ble_eq_true rfl) (Nat.le_of_ble_eq_true rfl) (k := 1) (n := 5) ?_
    exact W.zret hx hb hr (zI_bool _) (fun t ht hW => ⟨rfl, ⟨ad, rfl, ⟨by rw [ht]; exact hG, va_K.moved hW.alike hK, fun q hq => hA q (Nat.le_trans hS.1 (by rw [← ht]; exact hq))⟩⟩, hS.F ht⟩) hS.2.2 dX4_row_36
set_option maxHeartbeats 4000000 in
set_option maxRecDepth 100000 in
theorem m_X4_change (l : Launch) (D : va_G) (cI cJ : ClassId) (A : Nat → Prop) (ad : Nat → Nat → Nat) (al : Nat → Nat → Prop) (S : sT) (E : Nat → Int) (rt f t : Int) (hal0 : al = cAl S) (hf0 : zB f) (ht0 : zB t) (hI : Inv S) : Met l yX4_change wsX4_change ({ frames := 3, cells := 1, slots := 5, locals := 69 }) (va_Pc [.ref (ad 0 0), .int (zI f), .int (zI t)] (gCU D cI cJ A ad al (cC S E rt))) (gO (some (.int (zI (bZ ((1 ≤ t ∧ t ≤ 1000000) ∧ (S 25 0 0 ≤ f ∧ f < (f + t) ∧ (f + t) ≤ 1000000000 ∧ ¬ S 20 0 0 = 64)))))) (fun U => ∃ ad1 : Nat → Nat → Nat, ad1 0 0 = ad 0 0 ∧ gCU D cI cJ A ad1 (cAl (rchangeS S f t)) (cC (rchangeS S f t) E (if (1 ≤ t ∧ t ≤ 1000000) ∧ (S 25 0 0 ≤ f ∧ f < (f + t) ∧ (f + t) ≤ 1000000000 ∧ ¬ S 20 0 0 = 64) then S 25 0 0 else rt)) U) A) 1 5 A := by
  refine Met.ofW (cc := cX4_change) (maxL := 3) (ret := (some .boolean)) (by decide) rfl ?_
  intro p e s m0 args below meth c s₁ B hml hv
  obtain ⟨rfl, hG, hK, hA⟩ := hv
  have hx := B.exec
  have hb := B.bytes
  have hr := B.returns
  have hts := atoms_spec (ws := wsX4_change) B.pre
  have hown : s.vm.findClass RX4 = some m0.cls := findClass_of_methodNamed B.named
  have hlocks := B.notSynchronized
  have hinX3 : ∀ w ∈ wsX30, w ∈ wsX4_change := by decide +kernel
  have hinX4 : ∀ w ∈ wsX40, w ∈ wsX4_change := by decide +kernel
  have hS : va_S A s.heap s.heap [] := va_S.rf
  have hl := lv_entry ([.ref (ad 0 0), .int (zI f), .int (zI t)]) (n := 3) (Nat.le_of_ble_eq_true rfl)
  rw [lg_entry_eq]
  generalize (lg_sl ([.ref (ad 0 0), .int (zI f), .int (zI t)]) ++ List.replicate (3 - (lg_sl ([.ref (ad 0 0), .int (zI f), .int (zI t)])).length) Slot.unset).toArray = ls at hl ⊢
  replace hl : lv_has ls 3 [(0, .ref (ad 0 0)), (1, .int (zI f)), (2, .int (zI t))] := hl
  have hal : alS al S := by rw [hal0]; exact fun _ _ h => h
  obtain ⟨hI5, hI25, hI20, hIM, hIL, hIR⟩ := id hI
  refine lv_iload_n hx hb dX4_change_0 rfl (lv_at hl 2 rfl) ?_
  refine lv_iconst (v := zI 1) hx hb dX4_change_1 rfl ?_
  refine z_ldc (z := 1000000) hx hb hown (hts (.constant RX4 140 (1000000)) (by decide +kernel)) (by decide) dX4_change_2 ?_
  refine c_callS (As := [.int (zI t), .int (zI 1), .int (zI 1000000)]) (rest := []) ⟨hx, hb, hml, hown, hts⟩ (m_X4_within l D cI cJ A ad al S E rt hal t 1 1000000 ⟨by omega, by omega⟩ ⟨by decide, by decide⟩ ⟨by decide, by decide⟩) (va_cwS 3 hts gX4_change_X4_within rfl rfl rfl (by decide +kernel) ⟨Nat.le_of_ble_eq_true rfl, Nat.le_of_ble_eq_true rfl⟩) hK hG hS hA rfl hl.1 rfl (Nat.le_of_ble_eq_true rfl) dX4_change_4 ⟨Nat.zero_le _, Nat.zero_le _⟩ (fun t9 H locs ht9 hB hS => ?_)
  have hG := hB.1; rw [ht9] at hG; clear hB ht9
  refine z_ifb_eq (tgt := 35) hx hb dX4_change_7 (by decide) (fun c_1 => ?_) (fun c_1 => ?_)
  · refine lv_iconst (v := zI 0) hx hb dX4_change_35 rfl ?_
    have v9 : 0 = bZ ((1 ≤ t ∧ t ≤ 1000000) ∧ (S 25 0 0 ≤ f ∧ f < (f + t) ∧ (f + t) ≤ 1000000000 ∧ ¬ S 20 0 0 = 64)) := by first | (exfalso; omega) | exact (bZ_t (by omega)).symm | exact (bZ_f (by omega)).symm
    refine W.eq (congrArg (fun z => F0 m0 36 ls [.int (zI z)]) v9) ?_
    have e8 : rchangeS S f t = S := by unfold rchangeS rtoldS; first | rw [if_neg (by omega)] | rw [if_pos (by omega), if_neg (by omega)]
    have e7 : (if (1 ≤ t ∧ t ≤ 1000000) ∧ (S 25 0 0 ≤ f ∧ f < (f + t) ∧ (f + t) ≤ 1000000000 ∧ ¬ S 20 0 0 = 64) then S 25 0 0 else rt) = rt := if_neg (by omega)
    rw [e8, e7]
    rw [hal0] at hG
    refine W.widen (Nat.le_of_ble_eq_true rfl) (Nat.le_of_ble_eq_true rfl) (k := 1) (n := 5) ?_
    exact W.zret hx hb hr (zI_bool _) (fun t ht hW => ⟨rfl, ⟨ad, rfl, ⟨by rw [ht]; exact hG, va_K.moved hW.alike hK, fun q hq => hA q (Nat.le_trans hS.1 (by rw [← ht]; exact hq))⟩⟩, hS.F ht⟩) hS.2.2 dX4_change_36
  · refine lv_iload_n hx hb dX4_change_10 rfl (lv_at hl 1 rfl) ?_
    refine z_ldc (z := 1000000000) hx hb hown (hts (.constant RX4 79 (1000000000)) (by decide +kernel)) (by decide) dX4_change_11 ?_
    refine lv_iload_n hx hb dX4_change_13 rfl (lv_at hl 2 rfl) ?_
    refine z_isub hx hb dX4_change_14 ?_
    refine z_icmp_gt (tgt := 35) hx hb dX4_change_15 (by decide) ⟨by omega, by omega⟩ ⟨by omega, by omega⟩ (fun c_2 => ?_) (fun c_2 => ?_)
    · refine lv_iconst (v := zI 0) hx hb dX4_change_35 rfl ?_
      have v9 : 0 = bZ ((1 ≤ t ∧ t ≤ 1000000) ∧ (S 25 0 0 ≤ f ∧ f < (f + t) ∧ (f + t) ≤ 1000000000 ∧ ¬ S 20 0 0 = 64)) := by first | (exfalso; omega) | exact (bZ_t (by omega)).symm | exact (bZ_f (by omega)).symm
      refine W.eq (congrArg (fun z => F0 m0 36 ls [.int (zI z)]) v9) ?_
      have e8 : rchangeS S f t = S := by unfold rchangeS rtoldS; first | rw [if_neg (by omega)] | rw [if_pos (by omega), if_neg (by omega)]
      have e7 : (if (1 ≤ t ∧ t ≤ 1000000) ∧ (S 25 0 0 ≤ f ∧ f < (f + t) ∧ (f + t) ≤ 1000000000 ∧ ¬ S 20 0 0 = 64) then S 25 0 0 else rt) = rt := if_neg (by omega)
      rw [e8, e7]
      rw [hal0] at hG
      refine W.widen (Nat.le_of_ble_eq_true rfl) (Nat.le_of_ble_eq_true rfl) (k := 1) (n := 5) ?_
      exact W.zret hx hb hr (zI_bool _) (fun t ht hW => ⟨rfl, ⟨ad, rfl, ⟨by rw [ht]; exact hG, va_K.moved hW.alike hK, fun q hq => hA q (Nat.le_trans hS.1 (by rw [← ht]; exact hq))⟩⟩, hS.F ht⟩) hS.2.2 dX4_change_36
    · refine lv_aload_n hx hb dX4_change_18 rfl (lv_at hl 0 rfl) ?_
      refine lv_iconst (v := zI (-1)) hx hb dX4_change_19 rfl ?_
      refine lv_iload_n hx hb dX4_change_20 rfl (lv_at hl 1 rfl) ?_
      refine lv_iload_n hx hb dX4_change_21 rfl (lv_at hl 1 rfl) ?_
      refine lv_iload_n hx hb dX4_change_22 rfl (lv_at hl 2 rfl) ?_
      refine z_iadd hx hb dX4_change_23 ?_
      refine lv_iconst (v := zI 1) hx hb dX4_change_24 rfl ?_
      refine c_callV (As := [.int (zI (-1)), .int (zI f), .int (zI (f + t)), .int (zI 1)]) (rest := []) (Cn := RX4) (T := TX4) ⟨hx, hb, hml, hown, hts⟩ 0 0 (m_X4_addRow l D cI cJ A ad al S E rt (-1) f (f + t) 1 hal0 ⟨by omega, by omega⟩ ⟨by omega, by omega⟩ hI) (cwV 4 hts gX4_change_X4_addRow rfl rfl rfl (by decide +kernel) ⟨Nat.le_of_ble_eq_true rfl, Nat.le_of_ble_eq_true rfl⟩) (hal 0 0 rfl) (by decide) rfl hK hG hS hA rfl hl.1 rfl (Nat.le_of_ble_eq_true rfl) dX4_change_25 ⟨Nat.le_of_ble_eq_true rfl, Nat.le_of_ble_eq_true rfl⟩ (fun t9 H locs ht9 hB hS => ?_)
      obtain ⟨ad1, hq1, hG, -, -⟩ := hB; rw [ht9] at hG; clear ht9
      have r3 : ad1 0 0 = ad 0 0 := hq1
      replace hl : lv_has ls 3 [(0, .ref (ad1 0 0)), (1, .int (zI f)), (2, .int (zI t))] := by rw [r3]; exact hl
      refine z_ifb_eq (tgt := 35) hx hb dX4_change_28 (by decide) (fun c_4 => ?_) (fun c_4 => ?_)
      · refine lv_iconst (v := zI 0) hx hb dX4_change_35 rfl ?_
        have v9 : 0 = bZ ((1 ≤ t ∧ t ≤ 1000000) ∧ (S 25 0 0 ≤ f ∧ f < (f + t) ∧ (f + t) ≤ 1000000000 ∧ ¬ S 20 0 0 = 64)) := by first | (exfalso; omega) | exact (bZ_t (by omega)).symm | exact (bZ_f (by omega)).symm
        refine W.eq (congrArg (fun z => F0 m0 36 ls [.int (zI z)]) v9) ?_
        have e8 : rchangeS S f t = rtoldS S (-1) f (f + t) 1 := by unfold rchangeS; rw [if_pos (by omega)]
        have e7 : (if (1 ≤ t ∧ t ≤ 1000000) ∧ (S 25 0 0 ≤ f ∧ f < (f + t) ∧ (f + t) ≤ 1000000000 ∧ ¬ S 20 0 0 = 64) then S 25 0 0 else rt) = (if S 25 0 0 ≤ f ∧ f < (f + t) ∧ (f + t) ≤ 1000000000 ∧ ¬ S 20 0 0 = 64 then S 25 0 0 else rt) := by first | rw [if_pos (by omega), if_pos (by omega)] | rw [if_neg (by omega), if_neg (by omega)]
        rw [e8, e7]
        exact W.zret hx hb hr (zI_bool _) (fun t ht hW => ⟨rfl, ⟨ad1, hq1, ⟨by rw [ht]; exact hG, va_K.moved hW.alike hK, fun q hq => hA q (Nat.le_trans hS.1 (by rw [← ht]; exact hq))⟩⟩, hS.F ht⟩) hS.2.2 dX4_change_36
      · refine lv_iconst (v := zI 1) hx hb dX4_change_31 rfl ?_
        refine lv_goto (tgt := 36) hx hb dX4_change_32 (by decide) ?_
        have v9 : 1 = bZ ((1 ≤ t ∧ t ≤ 1000000) ∧ (S 25 0 0 ≤ f ∧ f < (f + t) ∧ (f + t) ≤ 1000000000 ∧ ¬ S 20 0 0 = 64)) := by first | (exfalso; omega) | exact (bZ_t (by omega)).symm | exact (bZ_f (by omega)).symm
        refine W.eq (congrArg (fun z => F0 m0 36 ls [.int (zI z)]) v9) ?_
        have e8 : rchangeS S f t = rtoldS S (-1) f (f + t) 1 := by unfold rchangeS; rw [if_pos (by omega)]
        have e7 : (if (1 ≤ t ∧ t ≤ 1000000) ∧ (S 25 0 0 ≤ f ∧ f < (f + t) ∧ (f + t) ≤ 1000000000 ∧ ¬ S 20 0 0 = 64) then S 25 0 0 else rt) = (if S 25 0 0 ≤ f ∧ f < (f + t) ∧ (f + t) ≤ 1000000000 ∧ ¬ S 20 0 0 = 64 then S 25 0 0 else rt) := by first | rw [if_pos (by omega), if_pos (by omega)] | rw [if_neg (by omega), if_neg (by omega)]
        rw [e8, e7]
        exact W.zret hx hb hr (zI_bool _) (fun t ht hW => ⟨rfl, ⟨ad1, hq1, ⟨by rw [ht]; exact hG, va_K.moved hW.alike hK, fun q hq => hA q (Nat.le_trans hS.1 (by rw [← ht]; exact hq))⟩⟩, hS.F ht⟩) hS.2.2 dX4_change_36
set_option maxHeartbeats 4000000 in
set_option maxRecDepth 100000 in
theorem m_X4_rest (l : Launch) (D : va_G) (cI cJ : ClassId) (A : Nat → Prop) (ad : Nat → Nat → Nat) (al : Nat → Nat → Prop) (S : sT) (E : Nat → Int) (rt f t : Int) (hal0 : al = cAl S) (hf0 : zB f) (ht0 : zB t) (hI : Inv S) : Met l yX4_rest wsX4_rest ({ frames := 3, cells := 1, slots := 5, locals := 69 }) (va_Pc [.ref (ad 0 0), .int (zI f), .int (zI t)] (gCU D cI cJ A ad al (cC S E rt))) (gO (some (.int (zI (bZ (S 25 0 0 ≤ f ∧ f < t ∧ t ≤ 1000000000 ∧ ¬ S 20 0 0 = 64))))) (fun U => ∃ ad1 : Nat → Nat → Nat, ad1 0 0 = ad 0 0 ∧ gCU D cI cJ A ad1 (cAl (rtoldS S (-1) f t 2)) (cC (rtoldS S (-1) f t 2) E (if S 25 0 0 ≤ f ∧ f < t ∧ t ≤ 1000000000 ∧ ¬ S 20 0 0 = 64 then S 25 0 0 else rt)) U) A) 1 5 A := by
  refine Met.ofW (cc := cX4_rest) (maxL := 3) (ret := (some .boolean)) (by decide) rfl ?_
  intro p e s m0 args below meth c s₁ B hml hv
  obtain ⟨rfl, hG, hK, hA⟩ := hv
  have hx := B.exec
  have hb := B.bytes
  have hr := B.returns
  have hts := atoms_spec (ws := wsX4_rest) B.pre
  have hown : s.vm.findClass RX4 = some m0.cls := findClass_of_methodNamed B.named
  have hlocks := B.notSynchronized
  have hinX3 : ∀ w ∈ wsX30, w ∈ wsX4_rest := by decide +kernel
  have hinX4 : ∀ w ∈ wsX40, w ∈ wsX4_rest := by decide +kernel
  have hS : va_S A s.heap s.heap [] := va_S.rf
  have hl := lv_entry ([.ref (ad 0 0), .int (zI f), .int (zI t)]) (n := 3) (Nat.le_of_ble_eq_true rfl)
  rw [lg_entry_eq]
  generalize (lg_sl ([.ref (ad 0 0), .int (zI f), .int (zI t)]) ++ List.replicate (3 - (lg_sl ([.ref (ad 0 0), .int (zI f), .int (zI t)])).length) Slot.unset).toArray = ls at hl ⊢
  replace hl : lv_has ls 3 [(0, .ref (ad 0 0)), (1, .int (zI f)), (2, .int (zI t))] := hl
  have hal : alS al S := by rw [hal0]; exact fun _ _ h => h
  obtain ⟨hI5, hI25, hI20, hIM, hIL, hIR⟩ := id hI
  refine lv_aload_n hx hb dX4_rest_0 rfl (lv_at hl 0 rfl) ?_
  refine lv_iconst (v := zI (-1)) hx hb dX4_rest_1 rfl ?_
  refine lv_iload_n hx hb dX4_rest_2 rfl (lv_at hl 1 rfl) ?_
  refine lv_iload_n hx hb dX4_rest_3 rfl (lv_at hl 2 rfl) ?_
  refine lv_iconst (v := zI 2) hx hb dX4_rest_4 rfl ?_
  refine c_callV (As := [.int (zI (-1)), .int (zI f), .int (zI t), .int (zI 2)]) (rest := []) (Cn := RX4) (T := TX4) ⟨hx, hb, hml, hown, hts⟩ 0 0 (m_X4_addRow l D cI cJ A ad al S E rt (-1) f t 2 hal0 ⟨by omega, by omega⟩ ⟨by omega, by omega⟩ hI) (cwV 4 hts gX4_rest_X4_addRow rfl rfl rfl (by decide +kernel) ⟨Nat.le_of_ble_eq_true rfl, Nat.le_of_ble_eq_true rfl⟩) (hal 0 0 rfl) (by decide) rfl hK hG hS hA rfl hl.1 rfl (Nat.le_of_ble_eq_true rfl) dX4_rest_5 ⟨Nat.le_of_ble_eq_true rfl, Nat.le_of_ble_eq_true rfl⟩ (fun t9 H locs ht9 hB hS => ?_)
  obtain ⟨ad1, hq1, hG, -, -⟩ := hB; rw [ht9] at hG; clear ht9
  have r1 : ad1 0 0 = ad 0 0 := hq1
  replace hl : lv_has ls 3 [(0, .ref (ad1 0 0)), (1, .int (zI f)), (2, .int (zI t))] := by rw [r1]; exact hl
  have v9 : bZ (S 25 0 0 ≤ f ∧ f < t ∧ t ≤ 1000000000 ∧ ¬ S 20 0 0 = 64) = bZ (S 25 0 0 ≤ f ∧ f < t ∧ t ≤ 1000000000 ∧ ¬ S 20 0 0 = 64) := by rfl
  refine W.eq (congrArg (fun z => F0 m0 8 ls [.int (zI z)]) v9) ?_
  exact W.zret hx hb hr (zI_bool _) (fun t ht hW => ⟨rfl, ⟨ad1, hq1, ⟨by rw [ht]; exact hG, va_K.moved hW.alike hK, fun q hq => hA q (Nat.le_trans hS.1 (by rw [← ht]; exact hq))⟩⟩, hS.F ht⟩) hS.2.2 dX4_rest_8
