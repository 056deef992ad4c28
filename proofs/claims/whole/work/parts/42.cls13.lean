set_option maxHeartbeats 4000000 in
set_option maxRecDepth 100000 in
theorem m_X4_findP (l : Launch) (D : va_G) (cI cJ : ClassId) (A : Nat → Prop) (ad : Nat → Nat → Nat) (al : Nat → Nat → Prop) (S : sT) (E : Nat → Int) (rt : Int) (hal : alS al S) (z : Int) (hz : zB z) (hI : Inv S) : Met l yX4_find wsX4_find ({ frames := 0, cells := 0, slots := 0, locals := 0 }) (va_Pc [.ref (ad 0 0), .int (zI z)] (gCU D cI cJ A ad al (cC S E rt))) (gO (some (rf ad 2 (if 0 ≤ z ∧ z < S 5 0 0 then z else -1))) (gCU D cI cJ A ad al (cC S E rt)) A) 0 0 (fun _ => False) := by
  refine Met.ofW (cc := cX4_find) (maxL := 3) (ret := (some (.object "LineEvents$Machine"))) (by decide) rfl ?_
  intro p e s m0 args below meth c s₁ B hml hv
  obtain ⟨rfl, hG, hK, hA⟩ := hv
  have hx := B.exec
  have hb := B.bytes
  have hr := B.returns
  have hts := atoms_spec (ws := wsX4_find) B.pre
  have hown : s.vm.findClass RX4 = some m0.cls := findClass_of_methodNamed B.named
  have hlocks := B.notSynchronized
  have hinX2 : ∀ w ∈ wsX20, w ∈ wsX4_find := by decide +kernel
  have hinX4 : ∀ w ∈ wsX40, w ∈ wsX4_find := by decide +kernel
  have hS : va_S A s.heap s.heap [] := va_S.rf
  have hl := lv_entry ([.ref (ad 0 0), .int (zI z)]) (n := 3) (Nat.le_of_ble_eq_true rfl)
  rw [lg_entry_eq]
  generalize (lg_sl ([.ref (ad 0 0), .int (zI z)]) ++ List.replicate (3 - (lg_sl ([.ref (ad 0 0), .int (zI z)])).length) Slot.unset).toArray = ls at hl ⊢
  replace hl : lv_has ls 3 [(0, .ref (ad 0 0)), (1, .int (zI z))] := hl
  obtain ⟨hI5, hI25, hI20, hIM, hIL, hIR⟩ := id hI
  by_cases hn0 : S 5 0 0 = 0
  · refine lv_aload_n hx hb dX4_find_0 rfl (lv_at hl 0 rfl) ?_
    refine c_getV (Cn := RX4) (T := TX4) hx hb hts 0 hinX4 hown hK hG 0 2 (hal 0 0 rfl) (by decide) rfl (by decide) (hts (.fieldLink RX4 38 "LineEvents" "highest" "LLineEvents$Machine;") (by decide +kernel)) (cV_N (t := 2) rfl (show S 5 0 0 - 1 < 0 by omega)) dX4_find_1 ?_
    refine lv_astore_nN (lv' := [(2, .null), (0, .ref (ad 0 0)), (1, .int (zI z))]) hx hb dX4_find_4 rfl hl (by decide) rfl (fun ls hl => ?_)
    refine lv_aload_nN hx hb dX4_find_5 rfl (lv_at hl 0 rfl) ?_
    refine lv_ifnullN (tgt := 27) hx hb dX4_find_6 (by decide) ?_
    refine lv_null hx hb dX4_find_27 ?_
    have v9 : .null = rf ad 2 (if 0 ≤ z ∧ z < S 5 0 0 then z else -1) := by rw [if_neg (by omega)]; exact (rf_n (by decide)).symm
    refine W.eq (congrArg (fun z => F0 m0 28 ls [z]) v9) ?_
    exact W.aret hx hb hr (Or.inl ⟨_, rfl⟩) (rf_or _ _ _) (fun t ht hW => ⟨rfl, ⟨by rw [ht]; exact hG, va_K.moved hW.alike hK, fun q hq => hA q (Nat.le_trans hS.1 (by rw [← ht]; exact hq))⟩, hS.F ht⟩) (fun _ h => nomatch h) dX4_find_28
  · obtain ⟨i, hin9⟩ : ∃ i : Nat, (i : Int) + 1 = S 5 0 0 := ⟨(S 5 0 0 - 1).toNat, by omega⟩
    refine lv_aload_n hx hb dX4_find_0 rfl (lv_at hl 0 rfl) ?_
    refine c_getV (Cn := RX4) (T := TX4) hx hb hts 0 hinX4 hown hK hG 0 2 (hal 0 0 rfl) (by decide) rfl (by decide) (hts (.fieldLink RX4 38 "LineEvents" "highest" "LLineEvents$Machine;") (by decide +kernel)) (cV_R (t := 2) (j := i) rfl (show S 5 0 0 - 1 = (i : Int) by omega)) dX4_find_1 ?_
    refine lv_astore_n (lv' := [(2, .ref (ad 2 i)), (0, .ref (ad 0 0)), (1, .int (zI z))]) hx hb dX4_find_4 rfl hl (by decide) rfl (fun ls hl => ?_)
    have hiS : (i : Int) < S 5 0 0 := by omega
    have hzi : z ≤ (i : Int) ∨ S 5 0 0 ≤ z := by omega
    clear hin9
    induction i generalizing ls  with
    | zero =>
      have hiS1 := hiS
      refine lv_aload_n hx hb dX4_find_5 rfl (lv_at hl 0 rfl) ?_
      refine lv_ifnull hx hb dX4_find_6 ?_
      refine lv_aload_n hx hb dX4_find_9 rfl (lv_at hl 0 rfl) ?_
      refine c_getV (Cn := RX2) (T := TX2) hx hb hts 2 hinX2 hown hK hG 0 0 (hal 2 0 (show ((0 : Nat) : Int) < S 5 0 0 by omega)) (by decide) rfl (by decide) (hts (.fieldLink RX4 45 "LineEvents$Machine" "number" "I") (by decide +kernel)) (cV_I (z := 0) rfl (rfl)) dX4_find_10 ?_
      refine lv_iload_n hx hb dX4_find_13 rfl (lv_at hl 2 rfl) ?_
      refine z_icmp_ne (tgt := 19) hx hb dX4_find_14 (by decide) ⟨by omega, by omega⟩ ⟨by omega, by omega⟩ (fun c_1 => ?_) (fun c_1 => ?_)
      · refine lv_aload_n hx hb dX4_find_19 rfl (lv_at hl 0 rfl) ?_
        refine c_getV (Cn := RX2) (T := TX2) hx hb hts 2 hinX2 hown hK hG 0 2 (hal 2 0 (show ((0 : Nat) : Int) < S 5 0 0 by omega)) (by decide) rfl (by decide) (hts (.fieldLink RX4 118 "LineEvents$Machine" "lower" "LLineEvents$Machine;") (by decide +kernel)) (cV_N (t := 2) rfl (neg_of (b := ((0 : Nat) : Int) - 1) (rfl) (by decide))) dX4_find_20 ?_
        refine lv_astore_nN (lv' := [(2, .null), (0, .ref (ad 0 0)), (1, .int (zI z))]) hx hb dX4_find_23 rfl hl (by decide) rfl (fun ls hl => ?_)
        refine lv_goto (tgt := 5) hx hb dX4_find_24 (by decide) ?_
        refine lv_aload_nN hx hb dX4_find_5 rfl (lv_at hl 0 rfl) ?_
        refine lv_ifnullN (tgt := 27) hx hb dX4_find_6 (by decide) ?_
        refine lv_null hx hb dX4_find_27 ?_
        have v9 : .null = rf ad 2 (if 0 ≤ z ∧ z < S 5 0 0 then z else -1) := by rw [if_neg (by omega)]; exact (rf_n (by decide)).symm
        refine W.eq (congrArg (fun z => F0 m0 28 ls [z]) v9) ?_
        exact W.aret hx hb hr (Or.inl ⟨_, rfl⟩) (rf_or _ _ _) (fun t ht hW => ⟨rfl, ⟨by rw [ht]; exact hG, va_K.moved hW.alike hK, fun q hq => hA q (Nat.le_trans hS.1 (by rw [← ht]; exact hq))⟩, hS.F ht⟩) (fun _ h => nomatch h) dX4_find_28
      · refine lv_aload_n hx hb dX4_find_17 rfl (lv_at hl 0 rfl) ?_
        have v9 : .ref (ad 2 0) = rf ad 2 (if 0 ≤ z ∧ z < S 5 0 0 then z else -1) := by rw [if_pos (by omega)]; exact (rf_s (by omega)).symm
        refine W.eq (congrArg (fun z => F0 m0 18 ls [z]) v9) ?_
        exact W.aret hx hb hr (Or.inl ⟨_, rfl⟩) (rf_or _ _ _) (fun t ht hW => ⟨rfl, ⟨by rw [ht]; exact hG, va_K.moved hW.alike hK, fun q hq => hA q (Nat.le_trans hS.1 (by rw [← ht]; exact hq))⟩, hS.F ht⟩) (fun _ h => nomatch h) dX4_find_18
    | succ i ih =>
      have hiS1 := hiS
      refine lv_aload_n hx hb dX4_find_5 rfl (lv_at hl 0 rfl) ?_
      refine lv_ifnull hx hb dX4_find_6 ?_
      refine lv_aload_n hx hb dX4_find_9 rfl (lv_at hl 0 rfl) ?_
      refine c_getV (Cn := RX2) (T := TX2) hx hb hts 2 hinX2 hown hK hG (i + 1) 0 (hal 2 (i + 1) (show (((i + 1) : Nat) : Int) < S 5 0 0 by omega)) (by decide) rfl (by decide) (hts (.fieldLink RX4 45 "LineEvents$Machine" "number" "I") (by decide +kernel)) (cV_I (z := (((i + 1) : Nat) : Int)) rfl (rfl)) dX4_find_10 ?_
      refine lv_iload_n hx hb dX4_find_13 rfl (lv_at hl 2 rfl) ?_
      refine z_icmp_ne (tgt := 19) hx hb dX4_find_14 (by decide) ⟨by omega, by omega⟩ ⟨by omega, by omega⟩ (fun c_2 => ?_) (fun c_2 => ?_)
      · refine lv_aload_n hx hb dX4_find_19 rfl (lv_at hl 0 rfl) ?_
        refine c_getV (Cn := RX2) (T := TX2) hx hb hts 2 hinX2 hown hK hG (i + 1) 2 (hal 2 (i + 1) (show (((i + 1) : Nat) : Int) < S 5 0 0 by omega)) (by decide) rfl (by decide) (hts (.fieldLink RX4 118 "LineEvents$Machine" "lower" "LLineEvents$Machine;") (by decide +kernel)) (cV_R (t := 2) (j := i) rfl ((rfl).trans (show ((i + 1 : Nat) : Int) - 1 = (i : Int) by omega))) dX4_find_20 ?_
        refine lv_astore_n (lv' := [(2, .ref (ad 2 i)), (0, .ref (ad 0 0)), (1, .int (zI z))]) hx hb dX4_find_23 rfl hl (by decide) rfl (fun ls hl => ?_)
        refine lv_goto (tgt := 5) hx hb dX4_find_24 (by decide) ?_
        exact ih (ls := ls) (hl := lv_sub hl [0, 1, 2] rfl) (hiS := by omega) (hzi := by omega)
      · refine lv_aload_n hx hb dX4_find_17 rfl (lv_at hl 0 rfl) ?_
        have v9 : .ref (ad 2 (i + 1)) = rf ad 2 (if 0 ≤ z ∧ z < S 5 0 0 then z else -1) := by rw [if_pos (by omega)]; exact (rf_s (by omega)).symm
        refine W.eq (congrArg (fun z => F0 m0 18 ls [z]) v9) ?_
        exact W.aret hx hb hr (Or.inl ⟨_, rfl⟩) (rf_or _ _ _) (fun t ht hW => ⟨rfl, ⟨by rw [ht]; exact hG, va_K.moved hW.alike hK, fun q hq => hA q (Nat.le_trans hS.1 (by rw [← ht]; exact hq))⟩, hS.F ht⟩) (fun _ h => nomatch h) dX4_find_18
section CP
variable {p : Program} {l : Launch} {e : Env} {R : Room} {s : State} {m : MethodId} {args : Array Value} {below : List Frame} {meth : Method} {c : Code} {H : Heap} {locs : List Loc} {cells slots : Nat} {Q : State → Prop}
variable {cc : ByteArray} {pc : Nat} {ls : Array Slot} {rest : List Value} {D : va_G} {cI cJ : ClassId} {A : Nat → Prop} {H0 : Heap} {ad : Nat → Nat → Nat} {al : Nat → Nat → Prop} {C : sT} {Ts : List Cond} {index : Nat} {own Cn : String} {T : u_T}
theorem c_callVP {y : MethodName} {bytes : ByteArray} {maxL nL mc ms n : Nat} {ret : Option FieldType} {ws : List Cond} {rm : Room} {As st0 : List Value} {v : Option Value} {B : State → Prop} (F : CallFix p m c cc nL s args Ts own) (kb ib : Nat) (hM : Met l y ws rm (va_Pc (.ref (ad kb ib) :: As) (gCU D cI cJ A ad al C)) (gO v B A) mc ms (fun _ => False)) (cw : CallW R s args own Cn index y bytes maxL ret ws rm mc ms n) (hal : al kb ib) (hkb : kb ≠ 1 ∧ kb ≠ 4 ∧ kb ≠ 5) (hcl : vwCl[cCl kb]? = some (Cn, T, cNf kb)) (hK : va_K D vwCl [(cI, .int), (cJ, .long)] s) (hG : gC D cI cJ A ad al C H) (hS : va_S A H0 H locs) (hA : ∀ q, H0.size ≤ q → A q)
    (hn : As.length = n) (hsize : ls.size = nL) (hst : st0 = As.reverse ++ .ref (ad kb ib) :: rest) (hW : (rest.map fun v => v.category).sum ≤ 8) (hdg : decode cc pc = .ok (.invokevirtual index, 3)) (hf : cells + mc ≤ R.cells ∧ slots + ms ≤ R.slots)
    (kk : ∀ (t : State) (H1 : Heap), t.heap = H1 → B t → va_S A H0 H1 locs → W p l e R s m args below meth c H1 locs (cells + mc) (slots + ms) Q (F0 m (pc + 3) ls (v.toList ++ rest))) : W p l e R s m args below meth c H locs cells slots Q (F0 m pc ls st0) := by
  intro T9 hT X
  obtain ⟨v', st₀, t, T', L, h0, X', hL, e1, e2, ⟨hv, hb, hz, hk⟩, st⟩ := (va_runV (As := As) (rest := rest) F hM cw ⟨gCU_blind, va_recv hK (hG.one hal (cE_obj hkb)) (ci := cCl kb) (q0 := 0) hcl rfl, fun U hU hW => ⟨rfl, by rw [hU]; exact hG, va_K.moved hW.alike hK, fun q hq => hA q (Nat.le_trans hS.1 (by rw [← hU]; exact hq))⟩⟩ rfl hn hsize hst (lv_room hW) hdg hf) T9 hT X
  cases hv
  have hL0 : L = [] := by
    cases L with
    | nil => rfl
    | cons a r => exact (hL a List.mem_cons_self).elim
  subst hL0
  rw [List.append_nil] at X'
  rw [h0] at hz hk
  obtain ⟨t2, a1, b1⟩ := kk t T'.heap e1.symm hb ⟨Nat.le_trans hS.1 (by rw [e1]; exact hz), fun q h1 h2 => by rw [e1, hk q (Nat.lt_of_lt_of_le h1 hS.1) h2]; exact hS.2.1 q h1 h2, hS.2.2⟩ T' rfl X'
  exact ⟨t2, st t2 a1, b1⟩
theorem gCT_blind {B : State → Prop} (hB : ∀ (U : State) (g : JFrame) (mk : MethodId) (a : Array Value), B U → B (U.calling g mk a)) {as : List Value} : FrameBlind (va_Pc as B) := fun a U g mk q => ⟨q.1, hB U g mk a q.2⟩
end CP
def gCT (D : va_G) (cI cJ : ClassId) (A : Nat → Prop) (ad : Nat → Nat → Nat) (al : Nat → Nat → Prop) (C : sT) (U : State) : Prop := gCU D cI cJ A ad al C U ∧ tP A U
theorem gCT_bl {D : va_G} {cI cJ : ClassId} {A : Nat → Prop} {ad : Nat → Nat → Nat} {al : Nat → Nat → Prop} {C : sT} {as : List Value} : FrameBlind (va_Pc as (gCT D cI cJ A ad al C)) := fun a U g mk q =>
  ⟨q.1, (gCU_blind a U g mk ⟨q.1, q.2.1⟩).2, q.2.2.same (U := U.calling g mk a) rfl rfl⟩
set_option maxHeartbeats 4000000 in
set_option maxRecDepth 100000 in
theorem m_X4_known (l : Launch) (D : va_G) (cI cJ : ClassId) (A : Nat → Prop) (ad : Nat → Nat → Nat) (al : Nat → Nat → Prop) (S : sT) (E : Nat → Int) (rt : Int) (hal : alS al S) (z : Int) (i : Nat) (hz0 : zB z) (hI : Inv S) (hi9 : z = (i : Int)) (hi : (i : Int) < S 5 0 0) : Met l yX4_known wsX4_known ({ frames := 1, cells := 0, slots := 0, locals := 22 }) (va_Pc [.ref (ad 0 0), .int (zI z)] (gCU D cI cJ A ad al (cC S E rt))) (gO (some (rf ad 2 (i : Int))) (gCU D cI cJ A ad al (cC S E rt)) A) 0 0 A := by
  refine Met.ofW (cc := cX4_known) (maxL := 3) (ret := (some (.object "LineEvents$Machine"))) (by decide) rfl ?_
  intro p e s m0 args below meth c s₁ B hml hv
  obtain ⟨rfl, hG, hK, hA⟩ := hv
  have hx := B.exec
  have hb := B.bytes
  have hr := B.returns
  have hts := atoms_spec (ws := wsX4_known) B.pre
  have hown : s.vm.findClass RX4 = some m0.cls := findClass_of_methodNamed B.named
  have hlocks := B.notSynchronized
  have hinX2 : ∀ w ∈ wsX20, w ∈ wsX4_known := by decide +kernel
  have hinX4 : ∀ w ∈ wsX40, w ∈ wsX4_known := by decide +kernel
  have hS : va_S A s.heap s.heap [] := va_S.rf
  have hl := lv_entry ([.ref (ad 0 0), .int (zI z)]) (n := 3) (Nat.le_of_ble_eq_true rfl)
  rw [lg_entry_eq]
  generalize (lg_sl ([.ref (ad 0 0), .int (zI z)]) ++ List.replicate (3 - (lg_sl ([.ref (ad 0 0), .int (zI z)])).length) Slot.unset).toArray = ls at hl ⊢
  replace hl : lv_has ls 3 [(0, .ref (ad 0 0)), (1, .int (zI z))] := hl
  obtain ⟨hI5, hI25, hI20, hIM, hIL, hIR⟩ := id hI
  refine lv_aload_n hx hb dX4_known_0 rfl (lv_at hl 0 rfl) ?_
  refine lv_iload_n hx hb dX4_known_1 rfl (lv_at hl 1 rfl) ?_
  refine c_callV (As := [.int (zI z)]) (rest := []) (Cn := RX4) (T := TX4) ⟨hx, hb, hml, hown, hts⟩ 0 0 (m_X4_find l D cI cJ A ad al S E rt hal z hz0 hI) (cwV 1 hts gX4_known_X4_find rfl rfl rfl (by decide +kernel) ⟨Nat.le_of_ble_eq_true rfl, Nat.le_of_ble_eq_true rfl⟩) (hal 0 0 rfl) (by decide) rfl hK hG hS hA rfl hl.1 rfl (Nat.le_of_ble_eq_true rfl) dX4_known_2 ⟨Nat.zero_le _, Nat.zero_le _⟩ (fun t9 H locs ht9 hB hS => ?_)
  have hG := hB.1; rw [ht9] at hG; clear hB ht9
  refine W.eq (g2 := F0 m0 5 ls [.ref (ad 2 i)]) (by rw [if_pos (by omega), rf_s hi9]; try rfl) ?_
  refine lv_astore_n (lv' := [(2, .ref (ad 2 i)), (0, .ref (ad 0 0)), (1, .int (zI z))]) hx hb dX4_known_5 rfl hl (by decide) rfl (fun ls hl => ?_)
  refine lv_aload_n hx hb dX4_known_6 rfl (lv_at hl 0 rfl) ?_
  refine lv_ifnonnull (tgt := 20) hx hb dX4_known_7 (by decide) ?_
  refine lv_aload_n hx hb dX4_known_20 rfl (lv_at hl 0 rfl) ?_
  have v9 : .ref (ad 2 i) = rf ad 2 (i : Int) := by exact (rf_s rfl).symm
  refine W.eq (congrArg (fun z => F0 m0 21 ls [z]) v9) ?_
  exact W.aret hx hb hr (Or.inl ⟨_, rfl⟩) (rf_or _ _ _) (fun t ht hW => ⟨rfl, ⟨by rw [ht]; exact hG, va_K.moved hW.alike hK, fun q hq => hA q (Nat.le_trans hS.1 (by rw [← ht]; exact hq))⟩, hS.F ht⟩) hS.2.2 dX4_known_21
set_option maxHeartbeats 4000000 in
theorem t_X4_known (l : Launch) (hlt : l.stackTraces = false) (D : va_G) (cI cJ : ClassId) (A : Nat → Prop) (ad : Nat → Nat → Nat) (al : Nat → Nat → Prop) (S : sT) (E : Nat → Int) (rt : Int) (hal : alS al S) (z : Int) (hz0 : zB z) (hI : Inv S) (hno : ¬ (0 ≤ z ∧ z < S 5 0 0)) : tMet l yX4_known wsX4_known ({ frames := 7, cells := 1, slots := 6, locals := 97 }) (va_Pc [.ref (ad 0 0), .int (zI z)] (gCT D cI cJ A ad al (cC S E rt))) (gCU D cI cJ A ad al (cC S E rt)) A 1 6 := by
  refine tMet.ofW (cc := cX4_known) (maxL := 3) (ret := some (.object "LineEvents$Machine")) (by decide) rfl ?_
  intro p e s m0 args below meth c s₁ B hml hex hv
  obtain ⟨rfl, ⟨hG, hK, hA⟩, hP⟩ := hv
  have hx := B.exec
  have hb := B.bytes
  have hts := atoms_spec (ws := wsX4_known) B.pre
  have hown : s.vm.findClass RX4 = some m0.cls := findClass_of_methodNamed B.named
  have hlocks := B.notSynchronized
  have hG0 := hG
  have hS : va_S A s.heap s.heap [] := va_S.rf
  have hl := lv_entry ([.ref (ad 0 0), .int (zI z)]) (n := 3) (Nat.le_of_ble_eq_true rfl)
  rw [lg_entry_eq]
  generalize (lg_sl ([.ref (ad 0 0), .int (zI z)]) ++ List.replicate (3 - (lg_sl ([.ref (ad 0 0), .int (zI z)])).length) Slot.unset).toArray = ls at hl ⊢
  replace hl : lv_has ls 3 [(0, .ref (ad 0 0)), (1, .int (zI z))] := hl
  refine lv_aload_n hx hb dX4_known_0 rfl (lv_at hl 0 rfl) ?_
  refine lv_iload_n hx hb dX4_known_1 rfl (lv_at hl 1 rfl) ?_
  refine c_callVP (As := [.int (zI z)]) (rest := []) (Cn := RX4) (T := TX4) ⟨hx, hb, hml, hown, hts⟩ 0 0 (m_X4_findP l D cI cJ A ad al S E rt hal z hz0 hI) (cwV 1 hts gX4_known_X4_find rfl rfl rfl (by decide +kernel) ⟨Nat.le_of_ble_eq_true rfl, Nat.le_of_ble_eq_true rfl⟩) (hal 0 0 rfl) (by decide) rfl hK hG hS hA rfl hl.1 rfl (Nat.le_of_ble_eq_true rfl) dX4_known_2 ⟨Nat.zero_le _, Nat.zero_le _⟩ (fun t9 H ht9 hB hS => ?_)
  refine W.eq (g2 := F0 m0 5 ls [.null]) (by rw [if_neg hno, rf_n (by decide)]; try rfl) ?_
  refine lv_astore_nN (lv' := [(2, .null), (0, .ref (ad 0 0)), (1, .int (zI z))]) hx hb dX4_known_5 rfl hl (by decide) rfl (fun ls hl => ?_)
  refine lv_aload_nN hx hb dX4_known_6 rfl (lv_at hl 0 rfl) ?_
  refine lv_ifnonnullN hx hb dX4_known_7 ?_
  exact t_throw hx hb hlt hown hP (hl.1.trans hml.symm) dX4_known_10 dX4_known_13 dX4_known_14 dX4_known_16 dX4_known_19 hex (Nat.le_of_ble_eq_true rfl) (Nat.le_of_ble_eq_true rfl) (Nat.le_of_ble_eq_true rfl) (Nat.le_of_ble_eq_true rfl) hlocks hS.1
    (fun t hW h1 h2 => ⟨hG0.kept (fun q hq _ => h2 q hq), va_K.moved hW.alike hK, fun q hq => hA q (Nat.le_trans h1 hq)⟩)
set_option maxHeartbeats 4000000 in
set_option maxRecDepth 100000 in
theorem m_X4_lost (l : Launch) (D : va_G) (cI cJ : ClassId) (A : Nat → Prop) (ad : Nat → Nat → Nat) (al : Nat → Nat → Prop) (S : sT) (E : Nat → Int) (rt : Int) (hal : alS al S) (z cs : Int) (i : Nat) (hz0 : zB z) (hI : Inv S) (hi9 : z = (i : Int)) (hi : (i : Int) < S 5 0 0) (hc0 : zB cs) : Met l yX4_lost wsX4_lost ({ frames := 2, cells := 0, slots := 0, locals := 44 }) (va_Pc [.ref (ad 0 0), .int (zI z), .int (zI cs)] (gCU D cI cJ A ad al (cC S E rt))) (gO (some (.long (rlostV S z cs))) (gCU D cI cJ A ad al (cC S E rt)) A) 0 0 A := by
  refine Met.ofW (cc := cX4_lost) (maxL := 4) (ret := (some .long)) (by decide) rfl ?_
  intro p e s m0 args below meth c s₁ B hml hv
  obtain ⟨rfl, hG, hK, hA⟩ := hv
  have hx := B.exec
  have hb := B.bytes
  have hr := B.returns
  have hts := atoms_spec (ws := wsX4_lost) B.pre
  have hown : s.vm.findClass RX4 = some m0.cls := findClass_of_methodNamed B.named
  have hlocks := B.notSynchronized
  have hinX2 : ∀ w ∈ wsX20, w ∈ wsX4_lost := by decide +kernel
  have hinX4 : ∀ w ∈ wsX40, w ∈ wsX4_lost := by decide +kernel
  have hS : va_S A s.heap s.heap [] := va_S.rf
  have hl := lv_entry ([.ref (ad 0 0), .int (zI z), .int (zI cs)]) (n := 4) (Nat.le_of_ble_eq_true rfl)
  rw [lg_entry_eq]
  generalize (lg_sl ([.ref (ad 0 0), .int (zI z), .int (zI cs)]) ++ List.replicate (4 - (lg_sl ([.ref (ad 0 0), .int (zI z), .int (zI cs)])).length) Slot.unset).toArray = ls at hl ⊢
  replace hl : lv_has ls 4 [(0, .ref (ad 0 0)), (1, .int (zI z)), (2, .int (zI cs))] := hl
  obtain ⟨hI5, hI25, hI20, hIM, hIL, hIR⟩ := id hI
  obtain ⟨hL0, hL1, hL2, hL3, hL4⟩ := id (hIL i hi)
  refine lv_aload_n hx hb dX4_lost_0 rfl (lv_at hl 0 rfl) ?_
  refine lv_iload_n hx hb dX4_lost_1 rfl (lv_at hl 1 rfl) ?_
  refine c_callV (As := [.int (zI z)]) (rest := []) (Cn := RX4) (T := TX4) ⟨hx, hb, hml, hown, hts⟩ 0 0 (m_X4_known l D cI cJ A ad al S E rt hal z i hz0 hI hi9 hi) (cwV 1 hts gX4_lost_X4_known rfl rfl rfl (by decide +kernel) ⟨Nat.le_of_ble_eq_true rfl, Nat.le_of_ble_eq_true rfl⟩) (hal 0 0 rfl) (by decide) rfl hK hG hS hA rfl hl.1 rfl (Nat.le_of_ble_eq_true rfl) dX4_lost_2 ⟨Nat.zero_le _, Nat.zero_le _⟩ (fun t9 H locs ht9 hB hS => ?_)
  have hG := hB.1; rw [ht9] at hG; clear hB ht9
  refine W.eq (g2 := F0 m0 5 ls [.ref (ad 2 i)]) (by rw [rf_s rfl]; try rfl) ?_
  refine lv_astore_n (lv' := [(3, .ref (ad 2 i)), (0, .ref (ad 0 0)), (1, .int (zI z)), (2, .int (zI cs))]) hx hb dX4_lost_5 rfl hl (by decide) rfl (fun ls hl => ?_)
  refine lv_iload_n hx hb dX4_lost_6 rfl (lv_at hl 3 rfl) ?_
  refine c_callS (As := [.int (zI cs)]) (rest := []) ⟨hx, hb, hml, hown, hts⟩ (m_X4_isCause l D cI cJ A ad al S E rt hal cs ⟨by omega, by omega⟩) (va_cwS 1 hts gX4_lost_X4_isCause rfl rfl rfl (by decide +kernel) ⟨Nat.le_of_ble_eq_true rfl, Nat.le_of_ble_eq_true rfl⟩) hK hG hS hA rfl hl.1 rfl (Nat.le_of_ble_eq_true rfl) dX4_lost_7 ⟨Nat.zero_le _, Nat.zero_le _⟩ (fun t9 H locs ht9 hB hS => ?_)
  have hG := hB.1; rw [ht9] at hG; clear hB ht9
  refine z_ifb_eq (tgt := 28) hx hb dX4_lost_10 (by decide) (fun c_1 => ?_) (fun c_1 => ?_)
  · refine z_ldc2 (z := (-1)) hx hb hown (hts (.constantLong RX4 135 (-1)) (by decide +kernel)) (by decide) dX4_lost_28 ?_
    have v9 : zL (-1) = rlostV S z cs := by unfold rlostV; rw [if_neg (by omega)]
    refine W.eq (congrArg (fun z => F0 m0 31 ls [.long z]) v9) ?_
    exact W.lret hx hb hr (fun t ht hW => ⟨rfl, ⟨by rw [ht]; exact hG, va_K.moved hW.alike hK, fun q hq => hA q (Nat.le_trans hS.1 (by rw [← ht]; exact hq))⟩, hS.F ht⟩) hS.2.2 dX4_lost_31
  · refine lv_aload_n hx hb dX4_lost_13 rfl (lv_at hl 0 rfl) ?_
    refine c_getV (Cn := RX2) (T := TX2) hx hb hts 2 hinX2 hown hK hG i 15 (hal 2 i (show (i : Int) < S 5 0 0 by omega)) (by decide) rfl (by decide) (hts (.fieldLink RX4 128 "LineEvents$Machine" "times" "[J") (by decide +kernel)) (cV_R (t := 5) (j := i) rfl (rfl)) dX4_lost_14 ?_
    refine lv_iload_n hx hb dX4_lost_17 rfl (lv_at hl 3 rfl) ?_
    refine c_lald hx hb hK hG i (hal 5 i (show (i : Int) < S 5 0 0 by omega)) (z := cs) (by omega) (by omega) (w := S 21 i (cs).toNat) (rfl) dX4_lost_18 ?_
    refine lv_aload_n hx hb dX4_lost_19 rfl (lv_at hl 0 rfl) ?_
    refine c_getV (Cn := RX2) (T := TX2) hx hb hts 2 hinX2 hown hK hG i 1 (hal 2 i (show (i : Int) < S 5 0 0 by omega)) (by decide) rfl (by decide) (hts (.fieldLink RX4 132 "LineEvents$Machine" "takes" "I") (by decide +kernel)) (cV_I (z := S 0 i 0) rfl (rfl)) dX4_lost_20 ?_
    refine z_i2l hx hb dX4_lost_23 ⟨by omega, by omega⟩ ?_
    refine z_ldiv hx hb dX4_lost_24 ⟨by omega, by omega⟩ ?_
    refine lv_goto (tgt := 31) hx hb dX4_lost_25 (by decide) ?_
    have v9 : zL (S 21 i (cs).toNat) / zL (S 0 i 0) = rlostV S z cs := by unfold rlostV; rw [if_pos (by omega), show z.toNat = i by omega]
    refine W.eq (congrArg (fun z => F0 m0 31 ls [.long z]) v9) ?_
    exact W.lret hx hb hr (fun t ht hW => ⟨rfl, ⟨by rw [ht]; exact hG, va_K.moved hW.alike hK, fun q hq => hA q (Nat.le_trans hS.1 (by rw [← ht]; exact hq))⟩, hS.F ht⟩) hS.2.2 dX4_lost_31
set_option maxHeartbeats 4000000 in
set_option maxRecDepth 100000 in
theorem m_X4_rejected (l : Launch) (D : va_G) (cI cJ : ClassId) (A : Nat → Prop) (ad : Nat → Nat → Nat) (al : Nat → Nat → Prop) (S : sT) (E : Nat → Int) (rt : Int) (hal : alS al S) (z : Int) (i : Nat) (hz0 : zB z) (hI : Inv S) (hi9 : z = (i : Int)) (hi : (i : Int) < S 5 0 0) : Met l yX4_rejected wsX4_rejected ({ frames := 2, cells := 0, slots := 0, locals := 44 }) (va_Pc [.ref (ad 0 0), .int (zI z)] (gCU D cI cJ A ad al (cC S E rt))) (gO (some (.long (zL (rrejV S z)))) (gCU D cI cJ A ad al (cC S E rt)) A) 0 0 A := by
  refine Met.ofW (cc := cX4_rejected) (maxL := 2) (ret := (some .long)) (by decide) rfl ?_
  intro p e s m0 args below meth c s₁ B hml hv
  obtain ⟨rfl, hG, hK, hA⟩ := hv
  have hx := B.exec
  have hb := B.bytes
  have hr := B.returns
  have hts := atoms_spec (ws := wsX4_rejected) B.pre
  have hown : s.vm.findClass RX4 = some m0.cls := findClass_of_methodNamed B.named
  have hlocks := B.notSynchronized
  have hinX2 : ∀ w ∈ wsX20, w ∈ wsX4_rejected := by decide +kernel
  have hinX4 : ∀ w ∈ wsX40, w ∈ wsX4_rejected := by decide +kernel
  have hS : va_S A s.heap s.heap [] := va_S.rf
  have hl := lv_entry ([.ref (ad 0 0), .int (zI z)]) (n := 2) (Nat.le_of_ble_eq_true rfl)
  rw [lg_entry_eq]
  generalize (lg_sl ([.ref (ad 0 0), .int (zI z)]) ++ List.replicate (2 - (lg_sl ([.ref (ad 0 0), .int (zI z)])).length) Slot.unset).toArray = ls at hl ⊢
  replace hl : lv_has ls 2 [(0, .ref (ad 0 0)), (1, .int (zI z))] := hl
  obtain ⟨hI5, hI25, hI20, hIM, hIL, hIR⟩ := id hI
  obtain ⟨hL0, hL1, hL2, hL3, hL4⟩ := id (hIL i hi)
  refine lv_aload_n hx hb dX4_rejected_0 rfl (lv_at hl 0 rfl) ?_
  refine lv_iload_n hx hb dX4_rejected_1 rfl (lv_at hl 1 rfl) ?_
  refine c_callV (As := [.int (zI z)]) (rest := []) (Cn := RX4) (T := TX4) ⟨hx, hb, hml, hown, hts⟩ 0 0 (m_X4_known l D cI cJ A ad al S E rt hal z i hz0 hI hi9 hi) (cwV 1 hts gX4_rejected_X4_known rfl rfl rfl (by decide +kernel) ⟨Nat.le_of_ble_eq_true rfl, Nat.le_of_ble_eq_true rfl⟩) (hal 0 0 rfl) (by decide) rfl hK hG hS hA rfl hl.1 rfl (Nat.le_of_ble_eq_true rfl) dX4_rejected_2 ⟨Nat.zero_le _, Nat.zero_le _⟩ (fun t9 H locs ht9 hB hS => ?_)
  have hG := hB.1; rw [ht9] at hG; clear hB ht9
  refine W.eq (g2 := F0 m0 5 ls [.ref (ad 2 i)]) (by rw [rf_s rfl]; try rfl) ?_
  refine c_getV (Cn := RX2) (T := TX2) hx hb hts 2 hinX2 hown hK hG i 14 (hal 2 i (show (i : Int) < S 5 0 0 by omega)) (by decide) rfl (by decide) (hts (.fieldLink RX4 137 "LineEvents$Machine" "rejectedCount" "J") (by decide +kernel)) (cV_J (z := S 22 i 0) rfl (rfl)) dX4_rejected_5 ?_
  have v9 : S 22 i 0 = rrejV S z := by unfold rrejV; rw [if_pos (by omega), show z.toNat = i by omega]
  refine W.eq (congrArg (fun z => F0 m0 8 ls [.long (zL z)]) v9) ?_
  exact W.lret hx hb hr (fun t ht hW => ⟨rfl, ⟨by rw [ht]; exact hG, va_K.moved hW.alike hK, fun q hq => hA q (Nat.le_trans hS.1 (by rw [← ht]; exact hq))⟩, hS.F ht⟩) hS.2.2 dX4_rejected_8
set_option maxHeartbeats 4000000 in
set_option maxRecDepth 100000 in
theorem m_X4_time (l : Launch) (D : va_G) (cI cJ : ClassId) (A : Nat → Prop) (ad : Nat → Nat → Nat) (al : Nat → Nat → Prop) (S : sT) (E : Nat → Int) (rt : Int) (hal : alS al S) (z cs : Int) (i : Nat) (hz0 : zB z) (hI : Inv S) (hi9 : z = (i : Int)) (hi : (i : Int) < S 5 0 0) (hc0 : zB cs) : Met l yX4_time wsX4_time ({ frames := 2, cells := 0, slots := 0, locals := 44 }) (va_Pc [.ref (ad 0 0), .int (zI z), .int (zI cs)] (gCU D cI cJ A ad al (cC S E rt))) (gO (some (.long (zL (rtimeV S z cs)))) (gCU D cI cJ A ad al (cC S E rt)) A) 0 0 A := by
  refine Met.ofW (cc := cX4_time) (maxL := 4) (ret := (some .long)) (by decide) rfl ?_
  intro p e s m0 args below meth c s₁ B hml hv
  obtain ⟨rfl, hG, hK, hA⟩ := hv
  have hx := B.exec
  have hb := B.bytes
  have hr := B.returns
  have hts := atoms_spec (ws := wsX4_time) B.pre
  have hown : s.vm.findClass RX4 = some m0.cls := findClass_of_methodNamed B.named
  have hlocks := B.notSynchronized
  have hinX2 : ∀ w ∈ wsX20, w ∈ wsX4_time := by decide +kernel
  have hinX4 : ∀ w ∈ wsX40, w ∈ wsX4_time := by decide +kernel
  have hS : va_S A s.heap s.heap [] := va_S.rf
  have hl := lv_entry ([.ref (ad 0 0), .int (zI z), .int (zI cs)]) (n := 4) (Nat.le_of_ble_eq_true rfl)
  rw [lg_entry_eq]
  generalize (lg_sl ([.ref (ad 0 0), .int (zI z), .int (zI cs)]) ++ List.replicate (4 - (lg_sl ([.ref (ad 0 0), .int (zI z), .int (zI cs)])).length) Slot.unset).toArray = ls at hl ⊢
  replace hl : lv_has ls 4 [(0, .ref (ad 0 0)), (1, .int (zI z)), (2, .int (zI cs))] := hl
  obtain ⟨hI5, hI25, hI20, hIM, hIL, hIR⟩ := id hI
  obtain ⟨hL0, hL1, hL2, hL3, hL4⟩ := id (hIL i hi)
  refine lv_aload_n hx hb dX4_time_0 rfl (lv_at hl 0 rfl) ?_
  refine lv_iload_n hx hb dX4_time_1 rfl (lv_at hl 1 rfl) ?_
  refine c_callV (As := [.int (zI z)]) (rest := []) (Cn := RX4) (T := TX4) ⟨hx, hb, hml, hown, hts⟩ 0 0 (m_X4_known l D cI cJ A ad al S E rt hal z i hz0 hI hi9 hi) (cwV 1 hts gX4_time_X4_known rfl rfl rfl (by decide +kernel) ⟨Nat.le_of_ble_eq_true rfl, Nat.le_of_ble_eq_true rfl⟩) (hal 0 0 rfl) (by decide) rfl hK hG hS hA rfl hl.1 rfl (Nat.le_of_ble_eq_true rfl) dX4_time_2 ⟨Nat.zero_le _, Nat.zero_le _⟩ (fun t9 H locs ht9 hB hS => ?_)
  have hG := hB.1; rw [ht9] at hG; clear hB ht9
  refine W.eq (g2 := F0 m0 5 ls [.ref (ad 2 i)]) (by rw [rf_s rfl]; try rfl) ?_
  refine lv_astore_n (lv' := [(3, .ref (ad 2 i)), (0, .ref (ad 0 0)), (1, .int (zI z)), (2, .int (zI cs))]) hx hb dX4_time_5 rfl hl (by decide) rfl (fun ls hl => ?_)
  refine lv_iload_n hx hb dX4_time_6 rfl (lv_at hl 3 rfl) ?_
  refine c_callS (As := [.int (zI cs)]) (rest := []) ⟨hx, hb, hml, hown, hts⟩ (m_X4_isCause l D cI cJ A ad al S E rt hal cs ⟨by omega, by omega⟩) (va_cwS 1 hts gX4_time_X4_isCause rfl rfl rfl (by decide +kernel) ⟨Nat.le_of_ble_eq_true rfl, Nat.le_of_ble_eq_true rfl⟩) hK hG hS hA rfl hl.1 rfl (Nat.le_of_ble_eq_true rfl) dX4_time_7 ⟨Nat.zero_le _, Nat.zero_le _⟩ (fun t9 H locs ht9 hB hS => ?_)
  have hG := hB.1; rw [ht9] at hG; clear hB ht9
  refine z_ifb_eq (tgt := 22) hx hb dX4_time_10 (by decide) (fun c_1 => ?_) (fun c_1 => ?_)
  · refine z_ldc2 (z := (-1)) hx hb hown (hts (.constantLong RX4 135 (-1)) (by decide +kernel)) (by decide) dX4_time_22 ?_
    have v9 : (-1) = rtimeV S z cs := by unfold rtimeV; rw [if_neg (by omega)]
    refine W.eq (congrArg (fun z => F0 m0 25 ls [.long (zL z)]) v9) ?_
    exact W.lret hx hb hr (fun t ht hW => ⟨rfl, ⟨by rw [ht]; exact hG, va_K.moved hW.alike hK, fun q hq => hA q (Nat.le_trans hS.1 (by rw [← ht]; exact hq))⟩, hS.F ht⟩) hS.2.2 dX4_time_25
  · refine lv_aload_n hx hb dX4_time_13 rfl (lv_at hl 0 rfl) ?_
    refine c_getV (Cn := RX2) (T := TX2) hx hb hts 2 hinX2 hown hK hG i 15 (hal 2 i (show (i : Int) < S 5 0 0 by omega)) (by decide) rfl (by decide) (hts (.fieldLink RX4 128 "LineEvents$Machine" "times" "[J") (by decide +kernel)) (cV_R (t := 5) (j := i) rfl (rfl)) dX4_time_14 ?_
    refine lv_iload_n hx hb dX4_time_17 rfl (lv_at hl 3 rfl) ?_
    refine c_lald hx hb hK hG i (hal 5 i (show (i : Int) < S 5 0 0 by omega)) (z := cs) (by omega) (by omega) (w := S 21 i (cs).toNat) (rfl) dX4_time_18 ?_
    refine lv_goto (tgt := 25) hx hb dX4_time_19 (by decide) ?_
    have v9 : S 21 i (cs).toNat = rtimeV S z cs := by unfold rtimeV; rw [if_pos (by omega), show z.toNat = i by omega]
    refine W.eq (congrArg (fun z => F0 m0 25 ls [.long (zL z)]) v9) ?_
    exact W.lret hx hb hr (fun t ht hW => ⟨rfl, ⟨by rw [ht]; exact hG, va_K.moved hW.alike hK, fun q hq => hA q (Nat.le_trans hS.1 (by rw [← ht]; exact hq))⟩, hS.F ht⟩) hS.2.2 dX4_time_25
set_option maxHeartbeats 4000000 in
theorem t_X4_lost (l : Launch) (hlt : l.stackTraces = false) (D : va_G) (cI cJ : ClassId) (A : Nat → Prop) (ad : Nat → Nat → Nat) (al : Nat → Nat → Prop) (S : sT) (E : Nat → Int) (rt : Int) (hal : alS al S) (z cs : Int) (hz0 : zB z) (hI : Inv S) (hno : ¬ (0 ≤ z ∧ z < S 5 0 0)) : tMet l yX4_lost wsX4_lost ({ frames := 8, cells := 1, slots := 6, locals := 119 }) (va_Pc [.ref (ad 0 0), .int (zI z), .int (zI cs)] (gCT D cI cJ A ad al (cC S E rt))) (gCU D cI cJ A ad al (cC S E rt)) A 1 6 := by
  refine tMet.ofW (cc := cX4_lost) (maxL := 4) (ret := some .long) (by decide) rfl ?_
  intro p e s m0 args below meth c s₁ B hml hex hv
  obtain ⟨rfl, ⟨hG, hK, hA⟩, hP⟩ := hv
  have hx := B.exec
  have hb := B.bytes
  have hts := atoms_spec (ws := wsX4_lost) B.pre
  have hown : s.vm.findClass RX4 = some m0.cls := findClass_of_methodNamed B.named
  have hlocks := B.notSynchronized
  have hl := lv_entry ([.ref (ad 0 0), .int (zI z), .int (zI cs)]) (n := 4) (Nat.le_of_ble_eq_true rfl)
  rw [lg_entry_eq]
  generalize (lg_sl ([.ref (ad 0 0), .int (zI z), .int (zI cs)]) ++ List.replicate (4 - (lg_sl ([.ref (ad 0 0), .int (zI z), .int (zI cs)])).length) Slot.unset).toArray = ls at hl ⊢
  replace hl : lv_has ls 4 [(0, .ref (ad 0 0)), (1, .int (zI z)), (2, .int (zI cs))] := hl
  refine lv_aload_n hx hb dX4_lost_0 rfl (lv_at hl 0 rfl) ?_
  refine lv_iload_n hx hb dX4_lost_1 rfl (lv_at hl 1 rfl) ?_
  exact t_out (As := [.int (zI z)]) (rest := []) (C := RX4) (b := ad 0 0) ⟨hx, hb, hml, hown, hts⟩ (t_X4_known l hlt D cI cJ A ad al S E rt hal z hz0 hI hno) (cwV 1 hts gX4_lost_X4_known rfl rfl rfl (by decide +kernel) ⟨Nat.le_of_ble_eq_true rfl, Nat.le_of_ble_eq_true rfl⟩)
    ⟨gCT_bl, va_recv hK (hG.one (hal 0 0 rfl) (cE_obj (by decide))) (ci := cCl 0) (q0 := 0) (q := (RX4, TX4, 11)) rfl rfl, fun U hU hW => ⟨rfl, ⟨by rw [hU]; exact hG, va_K.moved hW.alike hK, fun q hq => hA q (by rw [← hU]; exact hq)⟩, hP.warm hW (fun a _ _ => by rw [hU]) (fun _ _ q => q)⟩⟩
    rfl hl.1 rfl (Nat.le_of_ble_eq_true rfl) dX4_lost_2 ⟨Nat.le_of_ble_eq_true rfl, Nat.le_of_ble_eq_true rfl⟩ hex hlocks (fun t U hB hU hW => ⟨by rw [hU]; exact hB.1, va_K.moved hW hK, fun q hq => hB.2.2 q (by rw [← hU]; exact hq)⟩)
set_option maxHeartbeats 4000000 in
theorem t_X4_rejected (l : Launch) (hlt : l.stackTraces = false) (D : va_G) (cI cJ : ClassId) (A : Nat → Prop) (ad : Nat → Nat → Nat) (al : Nat → Nat → Prop) (S : sT) (E : Nat → Int) (rt : Int) (hal : alS al S) (z : Int) (hz0 : zB z) (hI : Inv S) (hno : ¬ (0 ≤ z ∧ z < S 5 0 0)) : tMet l yX4_rejected wsX4_rejected ({ frames := 8, cells := 1, slots := 6, locals := 119 }) (va_Pc [.ref (ad 0 0), .int (zI z)] (gCT D cI cJ A ad al (cC S E rt))) (gCU D cI cJ A ad al (cC S E rt)) A 1 6 := by
  refine tMet.ofW (cc := cX4_rejected) (maxL := 2) (ret := some .long) (by decide) rfl ?_
  intro p e s m0 args below meth c s₁ B hml hex hv
  obtain ⟨rfl, ⟨hG, hK, hA⟩, hP⟩ := hv
  have hx := B.exec
  have hb := B.bytes
  have hts := atoms_spec (ws := wsX4_rejected) B.pre
  have hown : s.vm.findClass RX4 = some m0.cls := findClass_of_methodNamed B.named
  have hlocks := B.notSynchronized
  have hl := lv_entry ([.ref (ad 0 0), .int (zI z)]) (n := 2) (Nat.le_of_ble_eq_true rfl)
  rw [lg_entry_eq]
  generalize (lg_sl ([.ref (ad 0 0), .int (zI z)]) ++ List.replicate (2 - (lg_sl ([.ref (ad 0 0), .int (zI z)])).length) Slot.unset).toArray = ls at hl ⊢
  replace hl : lv_has ls 2 [(0, .ref (ad 0 0)), (1, .int (zI z))] := hl
  refine lv_aload_n hx hb dX4_rejected_0 rfl (lv_at hl 0 rfl) ?_
  refine lv_iload_n hx hb dX4_rejected_1 rfl (lv_at hl 1 rfl) ?_
  exact t_out (As := [.int (zI z)]) (rest := []) (C := RX4) (b := ad 0 0) ⟨hx, hb, hml, hown, hts⟩ (t_X4_known l hlt D cI cJ A ad al S E rt hal z hz0 hI hno) (cwV 1 hts gX4_rejected_X4_known rfl rfl rfl (by decide +kernel) ⟨Nat.le_of_ble_eq_true rfl, Nat.le_of_ble_eq_true rfl⟩)
    ⟨gCT_bl, va_recv hK (hG.one (hal 0 0 rfl) (cE_obj (by decide))) (ci := cCl 0) (q0 := 0) (q := (RX4, TX4, 11)) rfl rfl, fun U hU hW => ⟨rfl, ⟨by rw [hU]; exact hG, va_K.moved hW.alike hK, fun q hq => hA q (by rw [← hU]; exact hq)⟩, hP.warm hW (fun a _ _ => by rw [hU]) (fun _ _ q => q)⟩⟩
    rfl hl.1 rfl (Nat.le_of_ble_eq_true rfl) dX4_rejected_2 ⟨Nat.le_of_ble_eq_true rfl, Nat.le_of_ble_eq_true rfl⟩ hex hlocks (fun t U hB hU hW => ⟨by rw [hU]; exact hB.1, va_K.moved hW hK, fun q hq => hB.2.2 q (by rw [← hU]; exact hq)⟩)
set_option maxHeartbeats 4000000 in
theorem t_X4_time (l : Launch) (hlt : l.stackTraces = false) (D : va_G) (cI cJ : ClassId) (A : Nat → Prop) (ad : Nat → Nat → Nat) (al : Nat → Nat → Prop) (S : sT) (E : Nat → Int) (rt : Int) (hal : alS al S) (z cs : Int) (hz0 : zB z) (hI : Inv S) (hno : ¬ (0 ≤ z ∧ z < S 5 0 0)) : tMet l yX4_time wsX4_time ({ frames := 8, cells := 1, slots := 6, locals := 119 }) (va_Pc [.ref (ad 0 0), .int (zI z), .int (zI cs)] (gCT D cI cJ A ad al (cC S E rt))) (gCU D cI cJ A ad al (cC S E rt)) A 1 6 := by
  refine tMet.ofW (cc := cX4_time) (maxL := 4) (ret := some .long) (by decide) rfl ?_
  intro p e s m0 args below meth c s₁ B hml hex hv
  obtain ⟨rfl, ⟨hG, hK, hA⟩, hP⟩ := hv
  have hx := B.exec
  have hb := B.bytes
  have hts := atoms_spec (ws := wsX4_time) B.pre
  have hown : s.vm.findClass RX4 = some m0.cls := findClass_of_methodNamed B.named
  have hlocks := B.notSynchronized
  have hl := lv_entry ([.ref (ad 0 0), .int (zI z), .int (zI cs)]) (n := 4) (Nat.le_of_ble_eq_true rfl)
  rw [lg_entry_eq]
  generalize (lg_sl ([.ref (ad 0 0), .int (zI z), .int (zI cs)]) ++ List.replicate (4 - (lg_sl ([.ref (ad 0 0), .int (zI z), .int (zI cs)])).length) Slot.unset).toArray = ls at hl ⊢
  replace hl : lv_has ls 4 [(0, .ref (ad 0 0)), (1, .int (zI z)), (2, .int (zI cs))] := hl
  refine lv_aload_n hx hb dX4_time_0 rfl (lv_at hl 0 rfl) ?_
  refine lv_iload_n hx hb dX4_time_1 rfl (lv_at hl 1 rfl) ?_
  exact t_out (As := [.int (zI z)]) (rest := []) (C := RX4) (b := ad 0 0) ⟨hx, hb, hml, hown, hts⟩ (t_X4_known l hlt D cI cJ A ad al S E rt hal z hz0 hI hno) (cwV 1 hts gX4_time_X4_known rfl rfl rfl (by decide +kernel) ⟨Nat.le_of_ble_eq_true rfl, Nat.le_of_ble_eq_true rfl⟩)
    ⟨gCT_bl, va_recv hK (hG.one (hal 0 0 rfl) (cE_obj (by decide))) (ci := cCl 0) (q0 := 0) (q := (RX4, TX4, 11)) rfl rfl, fun U hU hW => ⟨rfl, ⟨by rw [hU]; exact hG, va_K.moved hW.alike hK, fun q hq => hA q (by rw [← hU]; exact hq)⟩, hP.warm hW (fun a _ _ => by rw [hU]) (fun _ _ q => q)⟩⟩
    rfl hl.1 rfl (Nat.le_of_ble_eq_true rfl) dX4_time_2 ⟨Nat.le_of_ble_eq_true rfl, Nat.le_of_ble_eq_true rfl⟩ hex hlocks (fun t U hB hU hW => ⟨by rw [hU]; exact hB.1, va_K.moved hW hK, fun q hq => hB.2.2 q (by rw [← hU]; exact hq)⟩)
