set_option maxHeartbeats 4000000 in
set_option maxRecDepth 100000 in
theorem m_X4_runN (l : Launch) (D : va_G) (cI cJ : ClassId) (A : Nat → Prop) (ad : Nat → Nat → Nat) (al : Nat → Nat → Prop) (S : sT) (E : Nat → Int) (rt : Int) (hal : alS al S) (t : Int) (ht0 : zB t) (ht1 : t ≤ 0 ∨ ¬ (0 ≤ t ∧ t ≤ 100000 ∧ S 25 0 0 + t ≤ 1000000000)) (hI : Inv S) : Met l yX4_run wsX4_run ({ frames := 1, cells := 0, slots := 0, locals := 22 }) (va_Pc [.ref (ad 0 0), .int (zI t)] (gCU D cI cJ A ad al (cC S E rt))) (gO (some (.int (zI (rrunV S t)))) (gCU D cI cJ A ad al (cC (rrunS S t) E rt)) A) 0 0 A := by
  refine Met.ofW (cc := cX4_run) (maxL := 4) (ret := (some .int)) (by decide) rfl ?_
  intro p e s m0 args below meth c s₁ B hml hv
  obtain ⟨rfl, hG, hK, hA⟩ := hv
  have hx := B.exec
  have hb := B.bytes
  have hr := B.returns
  have hts := atoms_spec (ws := wsX4_run) B.pre
  have hown : s.vm.findClass RX4 = some m0.cls := findClass_of_methodNamed B.named
  have hlocks := B.notSynchronized
  have hinX0 : ∀ w ∈ wsX00, w ∈ wsX4_run := by decide +kernel
  have hinX1 : ∀ w ∈ wsX10, w ∈ wsX4_run := by decide +kernel
  have hinX2 : ∀ w ∈ wsX20, w ∈ wsX4_run := by decide +kernel
  have hinX3 : ∀ w ∈ wsX30, w ∈ wsX4_run := by decide +kernel
  have hinX4 : ∀ w ∈ wsX40, w ∈ wsX4_run := by decide +kernel
  have hS : va_S A s.heap s.heap [] := va_S.rf
  have hl := lv_entry ([.ref (ad 0 0), .int (zI t)]) (n := 4) (Nat.le_of_ble_eq_true rfl)
  rw [lg_entry_eq]
  generalize (lg_sl ([.ref (ad 0 0), .int (zI t)]) ++ List.replicate (4 - (lg_sl ([.ref (ad 0 0), .int (zI t)])).length) Slot.unset).toArray = ls at hl ⊢
  replace hl : lv_has ls 4 [(0, .ref (ad 0 0)), (1, .int (zI t))] := hl
  obtain ⟨hI5, hI25, hI20, hIM, hIL, hIR⟩ := id hI
  refine lv_iload_n hx hb dX4_run_0 rfl (lv_at hl 1 rfl) ?_
  refine lv_iconst (v := zI 0) hx hb dX4_run_1 rfl ?_
  refine z_ldc (z := 100000) hx hb hown (hts (.constant RX4 65 (100000)) (by decide +kernel)) (by decide) dX4_run_2 ?_
  refine c_callS (As := [.int (zI t), .int (zI 0), .int (zI 100000)]) (rest := []) ⟨hx, hb, hml, hown, hts⟩ (m_X4_within l D cI cJ A ad al S E rt hal t 0 100000 ⟨by omega, by omega⟩ ⟨by decide, by decide⟩ ⟨by decide, by decide⟩) (va_cwS 3 hts gX4_run_X4_within rfl rfl rfl (by decide +kernel) ⟨Nat.le_of_ble_eq_true rfl, Nat.le_of_ble_eq_true rfl⟩) hK hG hS hA rfl hl.1 rfl (Nat.le_of_ble_eq_true rfl) dX4_run_4 ⟨Nat.zero_le _, Nat.zero_le _⟩ (fun t9 H locs ht9 hB hS => ?_)
  have hG := hB.1; rw [ht9] at hG; clear hB ht9
  refine z_ifb_eq (tgt := 21) hx hb dX4_run_7 (by decide) (fun c_1 => ?_) (fun c_1 => ?_)
  · refine lv_iconst (v := zI (-1)) hx hb dX4_run_21 rfl ?_
    have e9 : cC S E rt = cC (rrunS S t) E rt := by unfold rrunS; rw [if_neg (by omega)]
    rw [e9] at hG
    have v9 : (-1) = rrunV S t := by unfold rrunV; rw [if_neg (by omega)]
    refine W.eq (congrArg (fun z => F0 m0 22 ls [.int (zI z)]) v9) ?_
    exact W.iret hx hb hr (fun t ht hW => ⟨rfl, ⟨by rw [ht]; exact hG, va_K.moved hW.alike hK, fun q hq => hA q (Nat.le_trans hS.1 (by rw [← ht]; exact hq))⟩, hS.F ht⟩) hS.2.2 dX4_run_22
  · refine lv_iload_n hx hb dX4_run_10 rfl (lv_at hl 1 rfl) ?_
    refine z_ldc (z := 1000000000) hx hb hown (hts (.constant RX4 79 (1000000000)) (by decide +kernel)) (by decide) dX4_run_11 ?_
    refine lv_aload_n hx hb dX4_run_13 rfl (lv_at hl 0 rfl) ?_
    refine c_getV (Cn := RX4) (T := TX4) hx hb hts 0 hinX4 hown hK hG 0 1 (hal 0 0 rfl) (by decide) rfl (by decide) (hts (.fieldLink RX4 27 "LineEvents" "now" "I") (by decide +kernel)) (cV_I (z := S 25 0 0) rfl (rfl)) dX4_run_14 ?_
    refine z_isub hx hb dX4_run_17 ?_
    refine z_icmp_le (tgt := 23) hx hb dX4_run_18 (by decide) ⟨by omega, by omega⟩ ⟨by omega, by omega⟩ (fun c_2 => ?_) (fun c_2 => ?_)
    · refine lv_aload_n hx hb dX4_run_23 rfl (lv_at hl 0 rfl) ?_
      refine lv_iconst (v := zI 0) hx hb dX4_run_24 rfl ?_
      refine c_putV (Cn := RX4) (T := TX4) (z := 0) hx hb hts 0 hinX4 tyX4 tyX4_ok nmX4 hown hK hG hS 0 8 (hal 0 0 rfl) (by decide) rfl (by decide) (hts (.fieldLink RX4 80 "LineEvents" "eventCount" "I") (by decide +kernel)) (Or.inl rfl) (cV_I (z := 0) rfl rfl) rfl rfl dX4_run_25 (fun H locs hG hS => ?_)
      refine lv_iload_n hx hb dX4_run_28 rfl (lv_at hl 1 rfl) ?_
      refine lv_istore_n (lv' := [(2, .int (zI t)), (0, .ref (ad 0 0)), (1, .int (zI t))]) hx hb dX4_run_29 rfl hl (by decide) rfl (fun ls hl => ?_)
      refine lv_iload_n hx hb dX4_run_30 rfl (lv_at hl 0 rfl) ?_
      refine z_if_le (tgt := 78) hx hb dX4_run_31 (by decide) ⟨by omega, by omega⟩ (fun c_3 => ?_) (fun c_3 => ?_)
      · refine lv_aload_n hx hb dX4_run_78 rfl (lv_at hl 1 rfl) ?_
        refine c_getV (Cn := RX4) (T := TX4) hx hb hts 0 hinX4 hown hK hG 0 8 (hal 0 0 rfl) (by decide) rfl (by decide) (hts (.fieldLink RX4 80 "LineEvents" "eventCount" "I") (by decide +kernel)) (cV_I (z := 0) rfl ((su_same _ _ _ _ _))) dX4_run_79 ?_
        have e9 : su (cC S E rt) 0 0 8 (0) = cC (rrunS S t) E rt := by unfold rrunS; rw [if_pos (by omega), show t.toNat = 0 by omega, show rrunL 0 (su S 30 0 0 0) = su S 30 0 0 0 from rfl, cC_30]
        rw [e9] at hG
        have v9 : 0 = rrunV S t := by unfold rrunV; rw [if_pos (by omega), show t.toNat = 0 by omega]; rfl
        refine W.eq (congrArg (fun z => F0 m0 82 ls [.int (zI z)]) v9) ?_
        exact W.iret hx hb hr (fun t ht hW => ⟨rfl, ⟨by rw [ht]; exact hG, va_K.moved hW.alike hK, fun q hq => hA q (Nat.le_trans hS.1 (by rw [← ht]; exact hq))⟩, hS.F ht⟩) hS.2.2 dX4_run_82
      · exact absurd ht1 (by omega)
    · refine lv_iconst (v := zI (-1)) hx hb dX4_run_21 rfl ?_
      have e9 : cC S E rt = cC (rrunS S t) E rt := by unfold rrunS; rw [if_neg (by omega)]
      rw [e9] at hG
      have v9 : (-1) = rrunV S t := by unfold rrunV; rw [if_neg (by omega)]
      refine W.eq (congrArg (fun z => F0 m0 22 ls [.int (zI z)]) v9) ?_
      exact W.iret hx hb hr (fun t ht hW => ⟨rfl, ⟨by rw [ht]; exact hG, va_K.moved hW.alike hK, fun q hq => hA q (Nat.le_trans hS.1 (by rw [← ht]; exact hq))⟩, hS.F ht⟩) hS.2.2 dX4_run_22
/-! What holds between the law's calls, of the reference's state S, the row causes E kept, the turn rt -/
def Fr (S : sT) (rt : Int) : Prop := S 25 0 0 = 0 → rt = 0 ∧ ∀ i : Nat, (S 6 i 0 = 0 ∧ S 8 i 0 = 0 ∧ S 10 i 0 = 0 ∧ S 11 i 0 = 0 ∧ S 22 i 0 = 0) ∧ (∀ q, S 9 i q = 0) ∧ (∀ q, S 21 i q = 0) ∧ (S 5 0 0 ≤ (i : Int) → S 15 i 0 = 0)
def LI (S : sT) (E : Nat → Int) (rt : Int) : Prop := Inv S ∧ InvC S ∧ InvB S ∧ Cv S E rt ∧ Fr S rt ∧ (∀ i, i < 12 → S 7 i 0 ≤ S 25 0 0) ∧ (0 ≤ S 30 0 0 ∧ S 30 0 0 < 2147483647)
theorem LI_31 {S : sT} {E : Nat → Int} {rt : Int} (z : Int) (h : LI S E rt) : LI (su S 31 0 0 z) E rt := by
  obtain ⟨h1, h2, h3, h4, h5, h6, h7⟩ := h
  refine ⟨h1, h2, h3, Cv_eq (S := S) rfl rfl rfl (fun v k hv => ?_) h4, h5, h6, h7⟩
  exact su_v (by rintro rfl; revert hv; decide)
theorem LI_30 {S : sT} {E : Nat → Int} {rt : Int} (h : LI S E rt) : LI (su S 30 0 0 0) E rt := by
  obtain ⟨h1, h2, h3, h4, h5, h6, h7⟩ := h
  refine ⟨h1, h2, h3, Cv_eq (S := S) rfl rfl rfl (fun v k hv => ?_) h4, h5, h6, ?_⟩
  · exact su_v (by rintro rfl; revert hv; decide)
  · show (0 : Int) ≤ 0 ∧ (0 : Int) < 2147483647
    omega
theorem LI_rS0 (z : Int) (E : Nat → Int) : LI (rS0 z) E 0 := by
  have e : ∀ v i j, v ≠ 26 → rS0 z v i j = 0 := fun v i j h => by unfold rS0; rw [su_v h]
  refine ⟨⟨⟨?_, ?_⟩, ⟨?_, ?_⟩, ⟨?_, ?_⟩, fun i hi => ?_, fun i hi => ?_, fun k hk => ?_⟩, fun i hi => ?_, fun i hi => ?_, ⟨⟨by omega, by omega⟩, fun i hi => ?_, fun t h1 h2 => ?_⟩, fun _ => ⟨rfl, fun i => ?_⟩, fun i hi => ?_, ?_⟩
  · rw [e 5 0 0 (by decide)]; omega
  · rw [e 5 0 0 (by decide)]; omega
  · rw [e 25 0 0 (by decide)]; omega
  · rw [e 25 0 0 (by decide)]; omega
  · rw [e 20 0 0 (by decide)]; omega
  · rw [e 20 0 0 (by decide)]; omega
  · unfold InvM
    rw [e 6 i 0 (by decide), e 7 i 0 (by decide), e 8 i 0 (by decide), e 10 i 0 (by decide), e 11 i 0 (by decide), e 15 i 0 (by decide), e 25 0 0 (by decide)]
    refine ⟨by omega, by omega, by omega, by omega, by omega, by omega, fun q _ => ?_, fun j _ => ?_⟩
    · rw [e 9 i q (by decide)]; omega
    · rw [e 12 i j (by decide), e 13 i j (by decide), e 14 i j (by decide)]; omega
  · rw [e 5 0 0 (by decide)] at hi; omega
  · rw [e 20 0 0 (by decide)] at hk; omega
  · rw [e 5 0 0 (by decide)] at hi; omega
  · rw [e 5 0 0 (by decide)] at hi; omega
  · rw [e 5 0 0 (by decide)] at hi; omega
  · rw [e 25 0 0 (by decide)] at h1; omega
  · exact ⟨⟨e _ _ _ (by decide), e _ _ _ (by decide), e _ _ _ (by decide), e _ _ _ (by decide), e _ _ _ (by decide)⟩, fun q => e _ _ _ (by decide), fun q => e _ _ _ (by decide), fun _ => e _ _ _ (by decide)⟩
  · rw [e 7 i 0 (by decide), e 25 0 0 (by decide)]; omega
  · rw [e 30 0 0 (by decide)]; omega
theorem LI_mach {S : sT} {E : Nat → Int} {rt : Int} (t a : Int) (h : LI S E rt) : LI (rmachS S t a) (if rmachV S t a = S 5 0 0 then va_up E (S 5 0 0).toNat (-1) else E) rt := by
  have h0 := h
  obtain ⟨⟨h5, h25, h20, hM, hL, hR⟩, hC, hB, hV, hF, h7, h30⟩ := h
  unfold rmachS rmachV
  by_cases hc : S 25 0 0 = 0 ∧ 1 ≤ t ∧ t ≤ 10000 ∧ (a = -1 ∨ (0 ≤ a ∧ a < S 5 0 0 ∧ S 2 a.toNat 0 = -1))
  · rw [if_pos hc, if_pos hc]
    by_cases h12 : S 5 0 0 = 12
    · rw [if_pos h12, if_pos h12, if_neg (by omega)]; exact h0
    · rw [if_neg h12, if_neg h12, if_pos rfl]
      obtain ⟨hr0, hFi⟩ := hF hc.1
      obtain ⟨k, hk⟩ : ∃ k : Nat, S 5 0 0 = (k : Int) := ⟨(S 5 0 0).toNat, by omega⟩
      have hkt : (S 5 0 0).toNat = k := by omega
      have key : ∀ S1 : sT, (∀ v, v ∉ [0, 1, 2, 3, 4, 5] → S1 v = S v) → S1 5 0 0 = (k : Int) + 1 → (S1 0 k 0 = t ∧ S1 1 k 0 = a ∧ S1 2 k 0 = -1 ∧ S1 3 k 0 = 1 ∧ S1 4 k 0 = 0) → (∀ i, i ≠ k → S1 0 i 0 = S 0 i 0 ∧ S1 1 i 0 = S 1 i 0 ∧ S1 3 i 0 = S 3 i 0 ∧ S1 4 i 0 = S 4 i 0 ∧ S1 2 i 0 = if (i : Int) = a then (k : Int) else S 2 i 0) → LI S1 (va_up E k (-1)) rt := by
        intro S1 ho s5 sk si
        have o6 := ho 6 (by decide); have o7 := ho 7 (by decide); have o8 := ho 8 (by decide); have o9 := ho 9 (by decide); have o10 := ho 10 (by decide); have o11 := ho 11 (by decide)
        have o12 := ho 12 (by decide); have o13 := ho 13 (by decide); have o14 := ho 14 (by decide); have o15 := ho 15 (by decide); have o16 := ho 16 (by decide); have o17 := ho 17 (by decide)
        have o18 := ho 18 (by decide); have o19 := ho 19 (by decide); have o20 := ho 20 (by decide); have o21 := ho 21 (by decide); have o22 := ho 22 (by decide); have o25 := ho 25 (by decide); have o30 := ho 30 (by decide)
        refine ⟨⟨by omega, by rw [o25]; exact h25, by rw [o20]; exact h20, fun i hi => ?_, fun i hi => ?_, fun j hj => ?_⟩, fun i hi => ?_, fun j hj hn => ?_, ⟨hV.1, fun i hi => ?_, fun u h1 h2 => ?_⟩, fun _ => ⟨hr0, fun i => ?_⟩, fun i hi => ?_, by rw [o30]; exact h30⟩
        · have := hM i hi
          unfold InvM at this ⊢
          rw [o6, o7, o8, o9, o10, o11, o12, o13, o14, o15, o25]
          exact this
        · unfold InvL
          by_cases hik : i = k
          · subst hik
            rw [sk.1, sk.2.1, sk.2.2.1, sk.2.2.2.1, sk.2.2.2.2]
            refine ⟨by omega, ?_, Or.inl rfl, by omega, by omega⟩
            rcases hc.2.2.2 with q | q
            · exact Or.inl q
            · exact Or.inr ⟨q.1, by omega⟩
          · obtain ⟨s0, s1, s3, s4, s2⟩ := si i hik
            have hL' := hL i (by omega)
            unfold InvL at hL'
            rw [s0, s1, s3, s4, s2, s5]
            refine ⟨hL'.1, hL'.2.1, ?_, hL'.2.2.2.1, hL'.2.2.2.2⟩
            split
            · exact Or.inr ⟨by omega, by omega⟩
            · rcases hL'.2.2.1 with q | q
              · exact Or.inl q
              · exact Or.inr ⟨q.1, by omega⟩
        · have hR' := hR j (by rw [o20] at hj; exact hj)
          unfold InvR at hR' ⊢
          rw [o16, o17, o18, o19, s5]
          refine ⟨?_, hR'.2⟩
          rcases hR'.1 with q | q
          · exact Or.inl q
          · exact Or.inr ⟨q.1, by omega⟩
        · have f := (hFi i).1
          rw [o6, o7, o8, o25]
          refine ⟨fun q => absurd f.1 q, fun q => by rw [f.1] at q; exact absurd q (by decide), fun q => ?_⟩
          rw [f.2.1, hc.1] at q
          exact absurd q (by decide)
        · by_cases hjk : j = k
          · subst hjk
            rw [sk.2.1] at hn ⊢
            rcases hc.2.2.2 with q | q
            · exact absurd q hn
            · have hne : a.toNat ≠ j := by omega
              rw [(si a.toNat hne).2.2.2.2, if_pos (by omega)]
          · obtain ⟨s0, s1, s3, s4, s2⟩ := si j hjk
            rw [s1] at hn ⊢
            have hL' := hL j (by omega)
            have hb : 0 ≤ S 1 j 0 ∧ S 1 j 0 < j := by
              rcases hL'.2.1 with q | q
              · exact absurd q hn
              · exact q
            have hne : (S 1 j 0).toNat ≠ k := by omega
            have hB' := hB j (by omega) hn
            rw [(si _ hne).2.2.2.2]
            split
            · rename_i q
              exfalso
              have e1 : a.toNat = (S 1 j 0).toNat := by omega
              rcases hc.2.2.2 with q2 | q2
              · omega
              · rw [e1] at q2; omega
            · exact hB'
        · by_cases hik : i = k
          · subst hik
            rw [show va_up E i (-1) i = -1 by simp [va_up]]
            omega
          · rw [show va_up E k (-1) i = E i by simp [va_up, hik]]
            exact hV.2.1 i (by omega)
        · rw [o25] at h1; omega
        · have f := hFi i
          rw [o6, o8, o9, o10, o11, o15, o21, o22, s5]
          exact ⟨f.1, f.2.1, f.2.2.1, fun q => f.2.2.2 (by omega)⟩
        · rw [o7, o25]; exact h7 i hi
      rw [hkt]
      split
      · rename_i ha
        refine key _ (fun v hv => ?_) ?_ ⟨?_, ?_, ?_, ?_, ?_⟩ (fun i hik => ?_)
        · simp only [List.mem_cons, List.not_mem_nil, or_false, not_or] at hv
          funext i j
          simp [su, hv]
        · simp [su, hk]
        · simp [su]
        · simp [su]
        · simp [su]
        · simp [su]
        · simp [su]
        · have : ¬ (i : Int) = a := by omega
          simp [su, hik, this]
      · rename_i ha
        have ha2 : 0 ≤ a ∧ a < (k : Int) := by rcases hc.2.2.2 with q | q; exact absurd q ha; omega
        have ha3 : a.toNat ≠ k := by omega
        refine key _ (fun v hv => ?_) ?_ ⟨?_, ?_, ?_, ?_, ?_⟩ (fun i hik => ?_)
        · simp only [List.mem_cons, List.not_mem_nil, or_false, not_or] at hv
          funext i j
          simp [su, hv]
        · simp [su, hk]
        · simp [su]
        · simp [su]
        · have : ¬ k = a.toNat := by omega
          simp [su, this]
        · simp [su]
        · simp [su]
        · by_cases hia : (i : Int) = a
          · have h9 : a.toNat = i := by omega
            rw [if_pos hia]
            simp [su, hik, h9, hk]
          · have : ¬ i = a.toNat := by omega
            simp [su, hik, hia, this]
  · rw [if_neg hc, if_neg hc, if_neg (by omega)]; exact h0
theorem LI_buf {S : sT} {E : Nat → Int} {rt : Int} (m r d : Int) (h : LI S E rt) : LI (rbufS S m r d) E rt := by
  have h0 := h
  obtain ⟨⟨h5, h25, h20, hM, hL, hR⟩, hC, hB, hV, hF, h7, h30⟩ := h
  unfold rbufS
  split
  · rename_i hc
    refine ⟨⟨h5, h25, h20, hM, fun i hi => ?_, hR⟩, hC, hB, Cv_eq (S := S) rfl rfl rfl (fun v k hv => ?_) hV, hF, h7, h30⟩
    · have := hL i hi
      unfold InvL at this ⊢
      rw [show (su (su S 3 m.toNat 0 r) 4 m.toNat 0 d) 3 i 0 = if i = m.toNat then r else S 3 i 0 from by simp [su], show (su (su S 3 m.toNat 0 r) 4 m.toNat 0 d) 4 i 0 = if i = m.toNat then d else S 4 i 0 from by simp [su]]
      refine ⟨this.1, this.2.1, this.2.2.1, ?_, ?_⟩
      · split
        · omega
        · exact this.2.2.2.1
      · split
        · omega
        · exact this.2.2.2.2
    · simp only [List.mem_cons, List.not_mem_nil, or_false] at hv
      rw [su_v (by omega), su_v (by omega)]
  · exact h0
theorem LI_fault {S : sT} {E : Nat → Int} {rt : Int} (m a b t : Int) (h : LI S E rt) : LI (rfaultS S m a b t) E rt := by
  have h0 := h
  obtain ⟨⟨h5, h25, h20, hM, hL, hR⟩, hC, hB, hV, hF, h7, h30⟩ := h
  unfold rfaultS
  split
  · rename_i hc
    obtain ⟨k, hk⟩ : ∃ k : Nat, m.toNat = k := ⟨_, rfl⟩
    rw [hk] at hc ⊢
    have hk12 : k < 12 := by omega
    obtain ⟨n, hn⟩ : ∃ n : Nat, (S 15 k 0).toNat = n := ⟨_, rfl⟩
    have h15 := (hM k hk12).2.2.2.2.2.1
    have hnk : S 15 k 0 = (n : Int) := by omega
    rw [hn]
    refine ⟨⟨h5, h25, h20, fun i hi => ?_, hL, hR⟩, hC, hB, Cv_eq (S := S) rfl rfl rfl (fun v k hv => ?_) hV, fun hz => ?_, h7, h30⟩
    · obtain ⟨a1, a2, a3, a4, a5, a6, a7, a8⟩ := hM i hi
      refine ⟨a1, a2, a3, a4, a5, ?_, a7, fun j hj => ?_⟩
      · show 0 ≤ (su (su (su (su S 12 k n a) 13 k n b) 14 k n t) 15 k 0 (S 15 k 0 + 1)) 15 i 0 ∧ (su (su (su (su S 12 k n a) 13 k n b) 14 k n t) 15 k 0 (S 15 k 0 + 1)) 15 i 0 ≤ 4
        rw [show (su (su (su (su S 12 k n a) 13 k n b) 14 k n t) 15 k 0 (S 15 k 0 + 1)) 15 i 0 = if i = k then S 15 k 0 + 1 else S 15 i 0 from by simp [su]]
        split
        · omega
        · exact a6
      · have b8 := a8 j hj
        rw [show (su (su (su (su S 12 k n a) 13 k n b) 14 k n t) 15 k 0 (S 15 k 0 + 1)) 15 i 0 = if i = k then S 15 k 0 + 1 else S 15 i 0 from by simp [su],
          show (su (su (su (su S 12 k n a) 13 k n b) 14 k n t) 15 k 0 (S 15 k 0 + 1)) 12 i j = if i = k ∧ j = n then a else S 12 i j from by simp [su],
          show (su (su (su (su S 12 k n a) 13 k n b) 14 k n t) 15 k 0 (S 15 k 0 + 1)) 13 i j = if i = k ∧ j = n then b else S 13 i j from by simp [su],
          show (su (su (su (su S 12 k n a) 13 k n b) 14 k n t) 15 k 0 (S 15 k 0 + 1)) 14 i j = if i = k ∧ j = n then t else S 14 i j from by simp [su]]
        by_cases hij : i = k ∧ j = n
        · rw [if_pos hij, if_pos hij, if_pos hij]; omega
        · rw [if_neg hij, if_neg hij, if_neg hij]
          refine ⟨b8.1, b8.2.1, b8.2.2.1, fun q => b8.2.2.2 ?_⟩
          by_cases hik : i = k
          · subst hik
            rw [if_pos rfl] at q
            have : j ≠ n := fun z => hij ⟨rfl, z⟩
            omega
          · rw [if_neg hik] at q; exact q
    · simp only [List.mem_cons, List.not_mem_nil, or_false] at hv
      rw [su_v (by omega), su_v (by omega), su_v (by omega), su_v (by omega)]
    · obtain ⟨f1, f2⟩ := hF hz
      refine ⟨f1, fun i => ⟨(f2 i).1, (f2 i).2.1, (f2 i).2.2.1, fun q => ?_⟩⟩
      have q2 : S 5 0 0 ≤ (i : Int) := q
      rw [show (su (su (su (su S 12 k n a) 13 k n b) 14 k n t) 15 k 0 (S 15 k 0 + 1)) 15 i 0 = if i = k then S 15 k 0 + 1 else S 15 i 0 from by simp [su], if_neg (by omega)]
      exact (f2 i).2.2.2 q2
  · exact h0
theorem LI_told {S : sT} {E : Nat → Int} {rt : Int} (m f t c : Int) (h : LI S E rt) (hm : m = -1 ∨ (0 ≤ m ∧ m < S 5 0 0)) (hc0 : 1 ≤ c ∧ c ≤ 9) : LI (rtoldS S m f t c) E (if S 25 0 0 ≤ f ∧ f < t ∧ t ≤ 1000000000 ∧ ¬ S 20 0 0 = 64 then S 25 0 0 else rt) := by
  have h0 := h
  obtain ⟨⟨h5, h25, h20, hM, hL, hR⟩, hC, hB, hV, hF, h7, h30⟩ := h
  unfold rtoldS
  by_cases hc : S 25 0 0 ≤ f ∧ f < t ∧ t ≤ 1000000000 ∧ ¬ S 20 0 0 = 64
  · rw [if_pos hc, if_pos hc]
    obtain ⟨n, hn⟩ : ∃ n : Nat, (S 20 0 0).toNat = n := ⟨_, rfl⟩
    rw [hn]
    refine ⟨⟨h5, h25, ?_, hM, hL, fun k hk => ?_⟩, hC, hB, ⟨h25, hV.2.1, fun u h1 h2 => ?_⟩, fun hz => ⟨hz, (hF hz).2⟩, h7, h30⟩
    · show 0 ≤ S 20 0 0 + 1 ∧ S 20 0 0 + 1 ≤ 64
      omega
    · have hk2 : (k : Int) < S 20 0 0 + 1 := hk
      unfold InvR
      rw [show (su (su (su (su (su S 16 n 0 m) 17 n 0 f) 18 n 0 t) 19 n 0 c) 20 0 0 (S 20 0 0 + 1)) 16 k 0 = if k = n then m else S 16 k 0 from by simp [su],
        show (su (su (su (su (su S 16 n 0 m) 17 n 0 f) 18 n 0 t) 19 n 0 c) 20 0 0 (S 20 0 0 + 1)) 17 k 0 = if k = n then f else S 17 k 0 from by simp [su],
        show (su (su (su (su (su S 16 n 0 m) 17 n 0 f) 18 n 0 t) 19 n 0 c) 20 0 0 (S 20 0 0 + 1)) 18 k 0 = if k = n then t else S 18 k 0 from by simp [su],
        show (su (su (su (su (su S 16 n 0 m) 17 n 0 f) 18 n 0 t) 19 n 0 c) 20 0 0 (S 20 0 0 + 1)) 19 k 0 = if k = n then c else S 19 k 0 from by simp [su],
        show (su (su (su (su (su S 16 n 0 m) 17 n 0 f) 18 n 0 t) 19 n 0 c) 20 0 0 (S 20 0 0 + 1)) 5 0 0 = S 5 0 0 from rfl]
      by_cases hkn : k = n
      · rw [if_pos hkn, if_pos hkn, if_pos hkn, if_pos hkn]
        exact ⟨hm, by omega, by omega, hc0⟩
      · rw [if_neg hkn, if_neg hkn, if_neg hkn, if_neg hkn]
        exact hR k (by omega)
    · have : S 25 0 0 ≤ u := h1
      omega
  · rw [if_neg hc, if_neg hc]; exact h0
theorem LI_row {S : sT} {E : Nat → Int} {rt : Int} (m f t c : Int) (h : LI S E rt) : LI (rrowS S m f t c) E (if ((0 ≤ m ∧ m < S 5 0 0) ∧ 4 ≤ c ∧ c ≤ 9) ∧ (S 25 0 0 ≤ f ∧ f < t ∧ t ≤ 1000000000 ∧ ¬ S 20 0 0 = 64) then S 25 0 0 else rt) := by
  unfold rrowS
  by_cases hc : (0 ≤ m ∧ m < S 5 0 0) ∧ 4 ≤ c ∧ c ≤ 9
  · have h1 := LI_told m f t c h (Or.inr hc.1) (by omega)
    rw [if_pos hc]
    by_cases h2 : S 25 0 0 ≤ f ∧ f < t ∧ t ≤ 1000000000 ∧ ¬ S 20 0 0 = 64
    · rw [if_pos h2] at h1; rw [if_pos ⟨hc, h2⟩]; exact h1
    · rw [if_neg h2] at h1; rw [if_neg (fun q => h2 q.2)]; exact h1
  · rw [if_neg hc, if_neg (fun q => hc q.1)]; exact h
theorem LI_change {S : sT} {E : Nat → Int} {rt : Int} (f t : Int) (h : LI S E rt) : LI (rchangeS S f t) E (if (1 ≤ t ∧ t ≤ 1000000) ∧ (S 25 0 0 ≤ f ∧ f < (f + t) ∧ (f + t) ≤ 1000000000 ∧ ¬ S 20 0 0 = 64) then S 25 0 0 else rt) := by
  unfold rchangeS
  by_cases hc : 1 ≤ t ∧ t ≤ 1000000
  · have h1 := LI_told (-1) f (f + t) 1 h (Or.inl rfl) (by omega)
    rw [if_pos hc]
    by_cases h2 : S 25 0 0 ≤ f ∧ f < (f + t) ∧ (f + t) ≤ 1000000000 ∧ ¬ S 20 0 0 = 64
    · rw [if_pos h2] at h1; rw [if_pos ⟨hc, h2⟩]; exact h1
    · rw [if_neg h2] at h1; rw [if_neg (fun q => h2 q.2)]; exact h1
  · rw [if_neg hc, if_neg (fun q => hc q.1)]; exact h
theorem actA_7 : ∀ (k : Nat) (S : sT) (i : Nat), ractA k S 7 i 0 = S 7 i 0 ∨ ractA k S 7 i 0 = 0
  | 0, _, _ => Or.inl rfl
  | k + 1, S, i => by
    show ractA k (ract S k) 7 i 0 = S 7 i 0 ∨ ractA k (ract S k) 7 i 0 = 0
    rcases actA_7 k (ract S k) i with h | h
    · rcases act_7 (S := S) (m := k) (i := i) with h2 | h2
      · exact Or.inl (h.trans h2)
      · exact Or.inr (h.trans h2)
    · exact Or.inr h
theorem tmA_I : ∀ (n m : Nat) (S : sT), Inv S → n + m ≤ 12 → (∀ i, m ≤ i → i < 12 → S 7 i 0 ≤ S 25 0 0) → (∀ i, i < 12 → S 7 i 0 ≤ S 25 0 0 + 1) → Inv (rtmA n m S) ∧ rtmA n m S 25 0 0 = S 25 0 0 ∧ rtmA n m S 30 0 0 = S 30 0 0 ∧ ∀ i, i < 12 → rtmA n m S 7 i 0 ≤ S 25 0 0 + 1
  | 0, _, S, hI, _, _, h8 => ⟨hI, rfl, rfl, h8⟩
  | n + 1, m, S, hI, hm, h7, h8 => by
    have h1 := tm_I hI (m := m) (by omega) (h7 m (Nat.le_refl m) (by omega))
    have e25 : rtm S m 25 0 0 = S 25 0 0 := tm_v (by decide)
    have e30 : rtm S m 30 0 0 = S 30 0 0 := tm_v (by decide)
    have h2 := tmA_I n (m + 1) (rtm S m) h1 (by omega) (fun i hi hi2 => by rw [tm_7 (by omega), e25]; exact h7 i (by omega) hi2) (fun i hi => tm_8 i (fun q => h7 i (by omega) hi) (h8 i hi))
    show Inv (rtmA n (m + 1) (rtm S m)) ∧ rtmA n (m + 1) (rtm S m) 25 0 0 = S 25 0 0 ∧ rtmA n (m + 1) (rtm S m) 30 0 0 = S 30 0 0 ∧ ∀ i, i < 12 → rtmA n (m + 1) (rtm S m) 7 i 0 ≤ S 25 0 0 + 1
    rw [e25, e30] at h2
    exact h2
theorem inst_I {S : sT} (hI : Inv S) (h25 : S 25 0 0 < 1000000000) (h7 : ∀ i, i < 12 → S 7 i 0 ≤ S 25 0 0) : Inv (rinst S) ∧ (∀ i, i < 12 → rinst S 7 i 0 ≤ rinst S 25 0 0) ∧ rinst S 25 0 0 = S 25 0 0 + 1 ∧ S 30 0 0 ≤ rinst S 30 0 0 ∧ rinst S 30 0 0 ≤ S 30 0 0 + 36 := by
  have h5 := hI.1
  have hb := hI.2.1
  obtain ⟨hA1, hA2, hA3, hA4⟩ := actA_I (S 5 0 0).toNat S hI (by omega)
  have e25 : ractA (S 5 0 0).toNat S 25 0 0 = S 25 0 0 := actA_v _ _ (by decide)
  have a7 : ∀ i, i < 12 → ractA (S 5 0 0).toNat S 7 i 0 ≤ ractA (S 5 0 0).toNat S 25 0 0 := fun i hi => by
    have := h7 i hi
    rw [e25]
    rcases actA_7 (S 5 0 0).toNat S i with q | q <;> rw [q] <;> omega
  obtain ⟨t1, t2, t3, t4⟩ := tmA_I (S 5 0 0).toNat 0 (ractA (S 5 0 0).toNat S) hA1 (by omega) (fun i _ hi => a7 i hi) (fun i hi => by have := a7 i hi; omega)
  have k1 : Inv (rinst S) := tick_I t1 (by rw [t2, e25]; exact h25)
  have k25 : rinst S 25 0 0 = S 25 0 0 + 1 := by
    show rtmA (S 5 0 0).toNat 0 (ractA (S 5 0 0).toNat S) 25 0 0 + 1 = _
    rw [t2, e25]
  refine ⟨k1, fun i hi => ?_, k25, ?_, ?_⟩
  · have := t4 i hi
    rw [k25]
    show rtmA (S 5 0 0).toNat 0 (ractA (S 5 0 0).toNat S) 7 i 0 ≤ _
    rw [e25] at this
    exact this
  · show S 30 0 0 ≤ rtmA (S 5 0 0).toNat 0 (ractA (S 5 0 0).toNat S) 30 0 0
    rw [t3]; omega
  · show rtmA (S 5 0 0).toNat 0 (ractA (S 5 0 0).toNat S) 30 0 0 ≤ _
    rw [t3]; omega
theorem runL_I : ∀ (n : Nat) (S : sT), Inv S → S 25 0 0 + n ≤ 1000000000 → (∀ i, i < 12 → S 7 i 0 ≤ S 25 0 0) → Inv (rrunL n S) ∧ (∀ i, i < 12 → rrunL n S 7 i 0 ≤ rrunL n S 25 0 0) ∧ rrunL n S 25 0 0 = S 25 0 0 + n ∧ S 30 0 0 ≤ rrunL n S 30 0 0 ∧ rrunL n S 30 0 0 ≤ S 30 0 0 + 36 * n
  | 0, S, hI, _, h7 => ⟨hI, h7, by show S 25 0 0 = S 25 0 0 + ((0 : Nat) : Int); omega, by show S 30 0 0 ≤ S 30 0 0; omega, by show S 30 0 0 ≤ S 30 0 0 + 36 * ((0 : Nat) : Int); omega⟩
  | n + 1, S, hI, h25, h7 => by
    obtain ⟨i1, i2, i3, i4, i5⟩ := inst_I hI (by omega) h7
    obtain ⟨j1, j2, j3, j4, j5⟩ := runL_I n (rinst S) i1 (by omega) i2
    refine ⟨j1, j2, ?_, ?_, ?_⟩
    · show rrunL n (rinst S) 25 0 0 = _
      rw [j3, i3]; push_cast; omega
    · show S 30 0 0 ≤ rrunL n (rinst S) 30 0 0
      omega
    · show rrunL n (rinst S) 30 0 0 ≤ _
      push_cast; omega
theorem LI_runN {S : sT} {E : Nat → Int} {rt t : Int} (h : LI S E rt) (ht : t ≤ 0 ∨ ¬ (0 ≤ t ∧ t ≤ 100000 ∧ S 25 0 0 + t ≤ 1000000000)) : LI (rrunS S t) E rt := by
  unfold rrunS
  split
  · rename_i hc
    rw [show t.toNat = 0 by omega]
    exact LI_30 h
  · exact h
theorem LI_run {S : sT} {E F : Nat → Int} {rt r t : Int} (h : LI S E rt) (ht : 1 ≤ t ∧ t ≤ 100000 ∧ S 25 0 0 + t ≤ 1000000000) (hV : Cv (rrunS S t) F r) (hC : InvC (rrunS S t)) (hB : InvB (rrunS S t)) : LI (rrunS S t) F r := by
  obtain ⟨hI, -, -, -, -, h7, -⟩ := h
  have hI25 := hI.2.1
  have e : rrunS S t = rrunL t.toNat (su S 30 0 0 0) := by unfold rrunS; rw [if_pos (by omega)]
  obtain ⟨j1, j2, j3, j4, j5⟩ := runL_I t.toNat (su S 30 0 0 0) hI (by show S 25 0 0 + (t.toNat : Int) ≤ _; omega) h7
  rw [← e] at j1 j2 j3 j4 j5
  have e30 : su S 30 0 0 0 30 0 0 = 0 := rfl
  have e25 : su S 30 0 0 0 25 0 0 = S 25 0 0 := rfl
  rw [e25] at j3
  rw [e30] at j4 j5
  exact ⟨j1, hC, hB, hV, fun hz => by exfalso; omega, j2, by omega, by omega⟩
