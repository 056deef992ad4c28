/-! The law's own array of one long; calls with a smaller region -/
def oE (cJ : ClassId) (z : Int64) : va_E := .inl (cJ, 1, .inr (.inl (fun _ => z)))
def lO (D : va_G) (cI cJ : ClassId) (A : Nat → Prop) (ad : Nat → Nat → Nat) (al : Nat → Nat → Prop) (C : sT) (o : Nat) (z : Int64) (U : State) : Prop := gCU D cI cJ A ad al C U ∧ va_at D vwCl (o, oE cJ z) U.heap ∧ A o ∧ ∀ k i, al k i → ad k i ≠ o
section LH
variable {p : Program} {l : Launch} {e : Env} {R : Room} {s : State} {m : MethodId} {args : Array Value} {below : List Frame} {meth : Method} {c : Code} {H : Heap} {locs : List Loc} {cells slots : Nat} {Q : State → Prop}
variable {cc : ByteArray} {pc : Nat} {ls : Array Slot} {rest : List Value} {D : va_G} {cI cJ : ClassId} {A A1 : Nat → Prop} {H0 : Heap} {tys : List (ClassId × FieldType)}
theorem o_P {o : Nat} {x : va_E} (h : va_at D vwCl (o, x) H) : va_P D vwCl [(o, x)] H := by
  intro j q hq
  match j, hq with
  | 0, hq => cases hq; exact h
  | j + 1, hq => simp at hq
theorem o_lald (hexec : p.tables.exec = Jvm.exec) (hb : c.code = cc) (hK : va_K D vwCl [(cI, .int), (cJ, .long)] s) {o : Nat} {z : Int64} (hO : va_at D vwCl (o, oE cJ z) H) (hdg : decode cc pc = .ok (.laload, 1))
    (kk : W p l e R s m args below meth c H locs cells slots Q (F0 m (pc + 1) ls (.long z :: rest))) : W p l e R s m args below meth c H locs cells slots Q (F0 m pc ls (.int (zI 0) :: .ref o :: rest)) :=
  va_lald hexec hb hK (o_P hO) 0 1 rfl rfl (zI_in (a := 0) (n := 1) (by decide) (by decide) (by decide)) hdg kk
theorem o_last (hexec : p.tables.exec = Jvm.exec) (hb : c.code = cc) (hK : va_K D vwCl [(cI, .int), (cJ, .long)] s) {o : Nat} {z x : Int64} (hO : va_at D vwCl (o, oE cJ z) H) (hS : va_S A H0 H locs) (hA : A o) (hdg : decode cc pc = .ok (.lastore, 1))
    (kk : ∀ (H1 : Heap) (locs1 : List Loc), va_at D vwCl (o, oE cJ x) H1 → H1.size = H.size → (∀ q : Nat, q ≠ o → H1[q]? = H[q]?) → va_S A H0 H1 locs1 → W p l e R s m args below meth c H1 locs1 cells slots Q (F0 m (pc + 1) ls rest)) : W p l e R s m args below meth c H locs cells slots Q (F0 m pc ls (.long x :: .int (zI 0) :: .ref o :: rest)) := by
  refine W.last hexec hb hO ((hK.2 1 _ rfl).1 1 (fun _ => .long z)) (fun q => by cases q) (by show ¬ (zI 0 < 0 ∨ (arrV _ _ _).slots.size ≤ _); rw [arrV_size]; exact zI_in (a := 0) (n := 1) (by decide) (by decide) (by decide)) rfl rfl hdg fun H1 e1 z1 oq => ?_
  refine kk H1 _ ?_ z1 oq (hS.put z1 oq hA)
  show H1[o]? = some (vp_cell _ _)
  rw [e1]
  dsimp only
  rw [vp_cell_l, vp_cell_l, arrV_store, zI_cl (by decide) (by decide)]
  congr 1
theorem g_callA {v : Option Value} {B : State → Prop} {st0 : List Value} {mc ms : Nat} {a : Array Value} (hr : va_Run p l e R s m args below meth c H locs cells slots mc ms (F0 m pc ls st0) rest (gO v B A1 a) A1) (hS : va_S A H0 H locs) (hsub : ∀ q, A1 q → A q)
    (kk : ∀ (t : State) (H1 : Heap) (locs1 : List Loc), t.heap = H1 → s.vm.Alike t.vm → B t → H.size ≤ H1.size → (∀ q : Nat, q < H.size → ¬ A1 q → H1[q]? = H[q]?) → va_S A H0 H1 locs1 → W p l e R s m args below meth c H1 locs1 (cells + mc) (slots + ms) Q (F0 m (pc + 3) ls (v.toList ++ rest))) : W p l e R s m args below meth c H locs cells slots Q (F0 m pc ls st0) := by
  intro T hT X
  obtain ⟨v', st₀, t, T', L, h0, X', hL, e1, e2, ⟨hv, hb, hz, hk⟩, st⟩ := hr T hT X
  cases hv
  rw [h0] at hz hk
  obtain ⟨t2, a1, b1⟩ := kk t T'.heap (locs ++ L) e1.symm (by rw [← e2]; exact X'.warmed.alike) hb (by rw [e1]; exact hz) (fun q h1 h2 => by rw [e1]; exact hk q h1 h2)
    ⟨Nat.le_trans hS.1 (by rw [e1]; exact hz), fun q h1 h2 => by rw [e1, hk q (Nat.lt_of_lt_of_le h1 hS.1) (fun h3 => h2 (hsub q h3))]; exact hS.2.1 q h1 h2, fun q hq => by
      rcases List.mem_append.mp hq with h | h
      · exact hS.2.2 q h
      · exact hsub _ (hL q h)⟩ T' rfl X'
  exact ⟨t2, st t2 a1, b1⟩
theorem t_catch {y : MethodName} {ws Ts : List Cond} {rm : Room} {Pc : Array Value → State → Prop} {B : State → Prop} {mc ms n nL index : Nat} {bytes : ByteArray} {maxL : Nat} {ret : Option FieldType} {own C : String} {b : Addr} {As st0 : List Value} {x : ExceptionTableEntry}
    (F : CallFix p m c cc nL s args Ts own) (hM : tMet l y ws rm Pc B A1 mc ms) (cw : CallW R s args own C index y bytes maxL ret ws rm mc ms n) (hp : PreV s H C b Pc As)
    (hn : As.length = n) (hsize : ls.size = nL) (hst : st0 = As.reverse ++ .ref b :: rest) (hW : (rest.map fun v => v.category).sum ≤ 8) (hdg : decode cc pc = .ok (.invokevirtual index, 3)) (hf : cells + mc ≤ R.cells ∧ slots + ms ≤ R.slots)
    (ht : c.exceptionTable.toList = [x]) (hx : covers x pc = true) (h0 : x.catchType ≠ 0) (hlink : (Cond.classLink own x.catchType RJx00060).before args s = true) (hcast : (Cond.castable RJx00060 RJx00060).before args s = true) (hS : va_S A H0 H locs) (hsub : ∀ q, A1 q → A q)
    (kk : ∀ (q : Nat) (t : State) (H1 : Heap) (locs1 : List Loc), t.heap = H1 → s.vm.Alike t.vm → B t → H.size ≤ H1.size → (∀ q : Nat, q < H.size → ¬ A1 q → H1[q]? = H[q]?) → va_S A H0 H1 locs1 → W p l e R s m args below meth c H1 locs1 (cells + mc) (slots + ms) Q (F0 m x.handlerPc ls [.ref q])) : W p l e R s m args below meth c H locs cells slots Q (F0 m pc ls st0) := by
  intro T hT X
  obtain ⟨q, ce, t, T', L, X2, e1, hal, hL, hce, hcv, hcl, hB, hF, st⟩ := t_runV F hM cw hp hn hsize hst hW hdg hf hT X
  obtain ⟨vm', X3, st3⟩ := t_caught (pc := pc) (ls := ls) (rest := rest) X2 F.2.2.2.1 ht hx h0 hlink hcast hce hcv hcl
  obtain ⟨t2, a1, b1⟩ := kk q t T'.heap (locs ++ L) e1.symm hal hB hF.1 hF.2
    ⟨Nat.le_trans hS.1 hF.1, fun z h1 h2 => by rw [hF.2 z (Nat.lt_of_lt_of_le h1 hS.1) (fun h3 => h2 (hsub z h3))]; exact hS.2.1 z h1 h2, fun z hz => by
      rcases List.mem_append.mp hz with h | h
      · exact hS.2.2 z h
      · exact hsub _ (hL z h)⟩ (T'.setVm vm') rfl X3
  exact ⟨t2, st.trans (st3 t2 a1), b1⟩
end LH
theorem lO_bl {D : va_G} {cI cJ : ClassId} {A : Nat → Prop} {ad : Nat → Nat → Nat} {al : Nat → Nat → Prop} {C : sT} {o : Nat} {z : Int64} {as : List Value} : FrameBlind (va_Pc as (lO D cI cJ A ad al C o z)) := fun a U g mk q =>
  ⟨q.1, (gCU_blind a U g mk ⟨q.1, q.2.1⟩).2, q.2.2⟩
theorem lOT_bl {D : va_G} {cI cJ : ClassId} {A : Nat → Prop} {ad : Nat → Nat → Nat} {al : Nat → Nat → Prop} {C : sT} {o : Nat} {z : Int64} {as : List Value} : FrameBlind (va_Pc as (fun U => lO D cI cJ A ad al C o z U ∧ tP A U)) := fun a U g mk q =>
  ⟨q.1, (lO_bl a U g mk ⟨q.1, q.2.1⟩).2, q.2.2.same (U := U.calling g mk a) rfl rfl⟩
theorem gQ.re {D : va_G} {A A' : Nat → Prop} {ad : Nat → Nat → Nat} {al : Nat → Nat → Prop} {E : Nat → Nat → va_E} {H : Heap} (h : gQ D A ad al E H) (hA : ∀ k i, al k i → A' (ad k i)) : gQ D A' ad al E H := ⟨h.1, hA, h.2.2⟩
set_option maxHeartbeats 4000000 in
theorem m_L_lost (l : Launch) (D : va_G) (cI cJ : ClassId) (A : Nat → Prop) (ad : Nat → Nat → Nat) (al : Nat → Nat → Prop) (S : sT) (E : Nat → Int) (rt : Int) (hal : alS al S) (z cs : Int) (i o : Nat) (z0 : Int64) (hz0 : zB z) (hI : Inv S) (hi9 : z = (i : Int)) (hi : (i : Int) < S 5 0 0) (hc0 : zB cs) : Met l yL_lost wsL_lost ({ frames := 3, cells := 0, slots := 0, locals := 67 }) (va_Pc [.ref (ad 0 0), .int (zI z), .int (zI cs), .ref o] (lO D cI cJ A ad al (cC S E rt) o z0)) (gO (some (.int (zI 0))) (lO D cI cJ A ad al (cC S E rt) o (rlostV S z cs)) A) 0 0 A := by
  refine va_MetW (hh := [(0, 9, 12, 13)]) (cc := cL_lost) (maxL := 5) (ret := some .int) (by decide) rfl ?_
  intro p e s m0 args below meth c s₁ B hml hv
  obtain ⟨rfl, ⟨⟨hG, hK, hA⟩, hO, hAo, hne⟩⟩ := hv
  have hx := B.exec
  have hb := B.bytes
  have hr := B.returns
  have hts := atoms_spec (ws := wsL_lost) B.pre
  have hown : s.vm.findClass RL = some m0.cls := findClass_of_methodNamed B.named
  have hlocks := B.notSynchronized
  have hS : va_S A s.heap s.heap [] := va_S.rf
  have hol : o < s.heap.size := hO.lt
  have hG1 : gC D cI cJ (fun q => A q ∧ q ≠ o) ad al (cC S E rt) s.heap := gQ.re hG (fun k i h => ⟨hG.2.1 k i h, hne k i h⟩)
  have hl := lv_entry ([.ref (ad 0 0), .int (zI z), .int (zI cs), .ref o]) (n := 5) (Nat.le_of_ble_eq_true rfl)
  rw [lg_entry_eq]
  generalize (lg_sl ([.ref (ad 0 0), .int (zI z), .int (zI cs), .ref o]) ++ List.replicate (5 - (lg_sl ([.ref (ad 0 0), .int (zI z), .int (zI cs), .ref o])).length) Slot.unset).toArray = ls at hl ⊢
  replace hl : lv_has ls 5 [(0, .ref (ad 0 0)), (1, .int (zI z)), (2, .int (zI cs)), (3, .ref o)] := hl
  refine lv_aload_n hx hb dL_lost_0 rfl (lv_at hl 3 rfl) ?_
  refine lv_iconst (v := zI 0) hx hb dL_lost_1 rfl ?_
  refine lv_aload_n hx hb dL_lost_2 rfl (lv_at hl 0 rfl) ?_
  refine lv_iload_n hx hb dL_lost_3 rfl (lv_at hl 1 rfl) ?_
  refine lv_iload_n hx hb dL_lost_4 rfl (lv_at hl 2 rfl) ?_
  refine g_callA (va_runV (As := [.int (zI z), .int (zI cs)]) (rest := [.int (zI 0), .ref o]) ⟨hx, hb, hml, hown, hts⟩ (m_X4_lost l D cI cJ (fun q => A q ∧ q ≠ o) ad al S E rt hal z cs i hz0 hI hi9 hi hc0) (cwV 2 hts gL_lost_X4_lost rfl rfl rfl (by decide +kernel) ⟨Nat.le_of_ble_eq_true rfl, Nat.le_of_ble_eq_true rfl⟩) ⟨gCU_blind, va_recv hK (hG1.one (hal 0 0 rfl) (cE_obj (by decide))) (ci := cCl 0) (q0 := 0) (q := (RX4, TX4, 11)) rfl rfl, fun U hU hW => ⟨rfl, by rw [hU]; exact hG1, va_K.moved hW.alike hK, fun q hq => ⟨hA q (by rw [← hU]; exact hq), fun h => by rw [hU, h] at hq; omega⟩⟩⟩ rfl rfl hl.1 rfl (lv_room (Nat.le_of_ble_eq_true rfl)) dL_lost_5 ⟨Nat.zero_le _, Nat.zero_le _⟩) hS (fun q h => h.1) (fun t9 H locs ht9 hal9 hB hsz hk hS => ?_)
  have hG2 := hB.1
  rw [ht9] at hG2
  have hO2 : va_at D vwCl (o, oE cJ z0) H := hO.kept (hk o hol (fun h => h.2 rfl))
  refine o_last hx hb hK hO2 hS hAo dL_lost_8 (fun H1 locs hO3 hz1 hk1 hS => ?_)
  have hG3 : gC D cI cJ A ad al (cC S E rt) H1 := ⟨fun k i h => (hG2.1 k i h).kept (hk1 _ (hne k i h)), hG.2.1, hG.2.2⟩
  refine lv_goto (tgt := 16) hx hb dL_lost_9 (by decide) ?_
  refine lv_iconst (v := zI 0) hx hb dL_lost_16 rfl ?_
  exact W.iret hx hb hr (fun t ht hW => ⟨rfl, ⟨⟨by rw [ht]; exact hG3, va_K.moved hW.alike hK, fun q hq => hA q (Nat.le_trans hS.1 (by rw [← ht]; exact hq))⟩, by rw [ht]; exact hO3, hAo, hne⟩, hS.F ht⟩) hS.2.2 dL_lost_17
set_option maxHeartbeats 4000000 in
theorem t_L_lost (l : Launch) (hlt : l.stackTraces = false) (D : va_G) (cI cJ : ClassId) (A : Nat → Prop) (ad : Nat → Nat → Nat) (al : Nat → Nat → Prop) (S : sT) (E : Nat → Int) (rt : Int) (hal : alS al S) (z cs : Int) (o : Nat) (z0 : Int64) (hz0 : zB z) (hI : Inv S) (hno : ¬ (0 ≤ z ∧ z < S 5 0 0)) : Met l yL_lost wsL_lost ({ frames := 9, cells := 1, slots := 6, locals := 142 }) (va_Pc [.ref (ad 0 0), .int (zI z), .int (zI cs), .ref o] (fun U => lO D cI cJ A ad al (cC S E rt) o z0 U ∧ tP A U)) (gO (some (.int (zI 1))) (lO D cI cJ A ad al (cC S E rt) o z0) A) 1 6 A := by
  refine va_MetW (hh := [(0, 9, 12, 13)]) (cc := cL_lost) (maxL := 5) (ret := some .int) (by decide) rfl ?_
  intro p e s m0 args below meth c s₁ B hml hv
  obtain ⟨rfl, ⟨⟨hG, hK, hA⟩, hO, hAo, hne⟩, hP⟩ := hv
  have hx := B.exec
  have hb := B.bytes
  have hr := B.returns
  have hts := atoms_spec (ws := wsL_lost) B.pre
  have hown : s.vm.findClass RL = some m0.cls := findClass_of_methodNamed B.named
  have hlocks := B.notSynchronized
  have hS : va_S A s.heap s.heap [] := va_S.rf
  have hol : o < s.heap.size := hO.lt
  have hG1 : gC D cI cJ (fun q => A q ∧ q ≠ o) ad al (cC S E rt) s.heap := gQ.re hG (fun k i h => ⟨hG.2.1 k i h, hne k i h⟩)
  have hl := lv_entry ([.ref (ad 0 0), .int (zI z), .int (zI cs), .ref o]) (n := 5) (Nat.le_of_ble_eq_true rfl)
  rw [lg_entry_eq]
  generalize (lg_sl ([.ref (ad 0 0), .int (zI z), .int (zI cs), .ref o]) ++ List.replicate (5 - (lg_sl ([.ref (ad 0 0), .int (zI z), .int (zI cs), .ref o])).length) Slot.unset).toArray = ls at hl ⊢
  replace hl : lv_has ls 5 [(0, .ref (ad 0 0)), (1, .int (zI z)), (2, .int (zI cs)), (3, .ref o)] := hl
  refine lv_aload_n hx hb dL_lost_0 rfl (lv_at hl 3 rfl) ?_
  refine lv_iconst (v := zI 0) hx hb dL_lost_1 rfl ?_
  refine lv_aload_n hx hb dL_lost_2 rfl (lv_at hl 0 rfl) ?_
  refine lv_iload_n hx hb dL_lost_3 rfl (lv_at hl 1 rfl) ?_
  refine lv_iload_n hx hb dL_lost_4 rfl (lv_at hl 2 rfl) ?_
  have htab : c.exceptionTable.toList = [⟨0, 9, 12, 13⟩] := by
    obtain ⟨m9, meth9, c9, hn9, h1, h2, -, -, h6, -⟩ := Cond.codeWith_spec (hts (.codeWith yL_lost cL_lost 5 (some .int) [(0, 9, 12, 13)]) List.mem_cons_self)
    cases Option.some.inj (hn9.symm.trans B.named)
    cases Option.some.inj (h1.symm.trans B.method)
    cases Option.some.inj (h2.symm.trans (Stand.of_body B).code)
    rw [← table_eq c.exceptionTable.toList, h6]
    rfl
  have hP1 : tP (fun q => A q ∧ q ≠ o) s := hP.warm (State.WarmedH.refl s) (fun _ _ _ => rfl) (fun _ _ q => q.1)
  refine t_catch (As := [.int (zI z), .int (zI cs)]) (rest := [.int (zI 0), .ref o]) (C := RX4) (b := ad 0 0) (x := ⟨0, 9, 12, 13⟩) ⟨hx, hb, hml, hown, hts⟩ (t_X4_lost l hlt D cI cJ (fun q => A q ∧ q ≠ o) ad al S E rt hal z cs hz0 hI hno) (cwV 2 hts gL_lost_X4_lost rfl rfl rfl (by decide +kernel) ⟨Nat.le_of_ble_eq_true rfl, Nat.le_of_ble_eq_true rfl⟩) ⟨gCT_bl, va_recv hK (hG1.one (hal 0 0 rfl) (cE_obj (by decide))) (ci := cCl 0) (q0 := 0) (q := (RX4, TX4, 11)) rfl rfl, fun U hU hW => ⟨rfl, ⟨by rw [hU]; exact hG1, va_K.moved hW.alike hK, fun q hq => ⟨hA q (by rw [← hU]; exact hq), fun h => by rw [hU, h] at hq; omega⟩⟩, hP1.warm hW (fun a _ _ => by rw [hU]) (fun _ _ q => q)⟩⟩ rfl hl.1 rfl (Nat.le_of_ble_eq_true rfl) dL_lost_5 ⟨Nat.le_of_ble_eq_true rfl, Nat.le_of_ble_eq_true rfl⟩ htab (by decide) (by decide) (va_Nw.use rfl (hP.1 (.classLink RL 13 RJx00060) (by decide +kernel))) (va_Nw.use rfl (hP.1 (.castable RJx00060 RJx00060) (by decide +kernel))) hS (fun q h => h.1) (fun q9 t9 H locs ht9 hal9 hB hsz hk hS => ?_)
  have hG2 := hB.1
  rw [ht9] at hG2
  have hO2 : va_at D vwCl (o, oE cJ z0) H := hO.kept (hk o hol (fun h => h.2 rfl))
  have hG3 : gC D cI cJ A ad al (cC S E rt) H := gQ.re hG2 (fun k i h => hG.2.1 k i h)
  refine lv_astore (lv' := [(4, .ref q9), (0, .ref (ad 0 0)), (1, .int (zI z)), (2, .int (zI cs)), (3, .ref o)]) hx hb dL_lost_12 hl (by decide) rfl (fun ls hl => ?_)
  refine lv_iconst (v := zI 1) hx hb dL_lost_14 rfl ?_
  exact W.iret hx hb hr (fun t ht hW => ⟨rfl, ⟨⟨by rw [ht]; exact hG3, va_K.moved hW.alike hK, fun q hq => hA q (Nat.le_trans hS.1 (by rw [← ht]; exact hq))⟩, by rw [ht]; exact hO2, hAo, hne⟩, hS.F ht⟩) hS.2.2 dL_lost_15
set_option maxHeartbeats 4000000 in
theorem m_L_rejected (l : Launch) (D : va_G) (cI cJ : ClassId) (A : Nat → Prop) (ad : Nat → Nat → Nat) (al : Nat → Nat → Prop) (S : sT) (E : Nat → Int) (rt : Int) (hal : alS al S) (z : Int) (i o : Nat) (z0 : Int64) (hz0 : zB z) (hI : Inv S) (hi9 : z = (i : Int)) (hi : (i : Int) < S 5 0 0) : Met l yL_rejected wsL_rejected ({ frames := 3, cells := 0, slots := 0, locals := 65 }) (va_Pc [.ref (ad 0 0), .int (zI z), .ref o] (lO D cI cJ A ad al (cC S E rt) o z0)) (gO (some (.int (zI 0))) (lO D cI cJ A ad al (cC S E rt) o (zL (rrejV S z))) A) 0 0 A := by
  refine va_MetW (hh := [(0, 8, 11, 13)]) (cc := cL_rejected) (maxL := 4) (ret := some .int) (by decide) rfl ?_
  intro p e s m0 args below meth c s₁ B hml hv
  obtain ⟨rfl, ⟨⟨hG, hK, hA⟩, hO, hAo, hne⟩⟩ := hv
  have hx := B.exec
  have hb := B.bytes
  have hr := B.returns
  have hts := atoms_spec (ws := wsL_rejected) B.pre
  have hown : s.vm.findClass RL = some m0.cls := findClass_of_methodNamed B.named
  have hlocks := B.notSynchronized
  have hS : va_S A s.heap s.heap [] := va_S.rf
  have hol : o < s.heap.size := hO.lt
  have hG1 : gC D cI cJ (fun q => A q ∧ q ≠ o) ad al (cC S E rt) s.heap := gQ.re hG (fun k i h => ⟨hG.2.1 k i h, hne k i h⟩)
  have hl := lv_entry ([.ref (ad 0 0), .int (zI z), .ref o]) (n := 4) (Nat.le_of_ble_eq_true rfl)
  rw [lg_entry_eq]
  generalize (lg_sl ([.ref (ad 0 0), .int (zI z), .ref o]) ++ List.replicate (4 - (lg_sl ([.ref (ad 0 0), .int (zI z), .ref o])).length) Slot.unset).toArray = ls at hl ⊢
  replace hl : lv_has ls 4 [(0, .ref (ad 0 0)), (1, .int (zI z)), (2, .ref o)] := hl
  refine lv_aload_n hx hb dL_rejected_0 rfl (lv_at hl 2 rfl) ?_
  refine lv_iconst (v := zI 0) hx hb dL_rejected_1 rfl ?_
  refine lv_aload_n hx hb dL_rejected_2 rfl (lv_at hl 0 rfl) ?_
  refine lv_iload_n hx hb dL_rejected_3 rfl (lv_at hl 1 rfl) ?_
  refine g_callA (va_runV (As := [.int (zI z)]) (rest := [.int (zI 0), .ref o]) ⟨hx, hb, hml, hown, hts⟩ (m_X4_rejected l D cI cJ (fun q => A q ∧ q ≠ o) ad al S E rt hal z i hz0 hI hi9 hi) (cwV 1 hts gL_rejected_X4_rejected rfl rfl rfl (by decide +kernel) ⟨Nat.le_of_ble_eq_true rfl, Nat.le_of_ble_eq_true rfl⟩) ⟨gCU_blind, va_recv hK (hG1.one (hal 0 0 rfl) (cE_obj (by decide))) (ci := cCl 0) (q0 := 0) (q := (RX4, TX4, 11)) rfl rfl, fun U hU hW => ⟨rfl, by rw [hU]; exact hG1, va_K.moved hW.alike hK, fun q hq => ⟨hA q (by rw [← hU]; exact hq), fun h => by rw [hU, h] at hq; omega⟩⟩⟩ rfl rfl hl.1 rfl (lv_room (Nat.le_of_ble_eq_true rfl)) dL_rejected_4 ⟨Nat.zero_le _, Nat.zero_le _⟩) hS (fun q h => h.1) (fun t9 H locs ht9 hal9 hB hsz hk hS => ?_)
  have hG2 := hB.1
  rw [ht9] at hG2
  have hO2 : va_at D vwCl (o, oE cJ z0) H := hO.kept (hk o hol (fun h => h.2 rfl))
  refine o_last hx hb hK hO2 hS hAo dL_rejected_7 (fun H1 locs hO3 hz1 hk1 hS => ?_)
  have hG3 : gC D cI cJ A ad al (cC S E rt) H1 := ⟨fun k i h => (hG2.1 k i h).kept (hk1 _ (hne k i h)), hG.2.1, hG.2.2⟩
  refine lv_goto (tgt := 14) hx hb dL_rejected_8 (by decide) ?_
  refine lv_iconst (v := zI 0) hx hb dL_rejected_14 rfl ?_
  exact W.iret hx hb hr (fun t ht hW => ⟨rfl, ⟨⟨by rw [ht]; exact hG3, va_K.moved hW.alike hK, fun q hq => hA q (Nat.le_trans hS.1 (by rw [← ht]; exact hq))⟩, by rw [ht]; exact hO3, hAo, hne⟩, hS.F ht⟩) hS.2.2 dL_rejected_15
set_option maxHeartbeats 4000000 in
theorem t_L_rejected (l : Launch) (hlt : l.stackTraces = false) (D : va_G) (cI cJ : ClassId) (A : Nat → Prop) (ad : Nat → Nat → Nat) (al : Nat → Nat → Prop) (S : sT) (E : Nat → Int) (rt : Int) (hal : alS al S) (z : Int) (o : Nat) (z0 : Int64) (hz0 : zB z) (hI : Inv S) (hno : ¬ (0 ≤ z ∧ z < S 5 0 0)) : Met l yL_rejected wsL_rejected ({ frames := 9, cells := 1, slots := 6, locals := 142 }) (va_Pc [.ref (ad 0 0), .int (zI z), .ref o] (fun U => lO D cI cJ A ad al (cC S E rt) o z0 U ∧ tP A U)) (gO (some (.int (zI 1))) (lO D cI cJ A ad al (cC S E rt) o z0) A) 1 6 A := by
  refine va_MetW (hh := [(0, 8, 11, 13)]) (cc := cL_rejected) (maxL := 4) (ret := some .int) (by decide) rfl ?_
  intro p e s m0 args below meth c s₁ B hml hv
  obtain ⟨rfl, ⟨⟨hG, hK, hA⟩, hO, hAo, hne⟩, hP⟩ := hv
  have hx := B.exec
  have hb := B.bytes
  have hr := B.returns
  have hts := atoms_spec (ws := wsL_rejected) B.pre
  have hown : s.vm.findClass RL = some m0.cls := findClass_of_methodNamed B.named
  have hlocks := B.notSynchronized
  have hS : va_S A s.heap s.heap [] := va_S.rf
  have hol : o < s.heap.size := hO.lt
  have hG1 : gC D cI cJ (fun q => A q ∧ q ≠ o) ad al (cC S E rt) s.heap := gQ.re hG (fun k i h => ⟨hG.2.1 k i h, hne k i h⟩)
  have hl := lv_entry ([.ref (ad 0 0), .int (zI z), .ref o]) (n := 4) (Nat.le_of_ble_eq_true rfl)
  rw [lg_entry_eq]
  generalize (lg_sl ([.ref (ad 0 0), .int (zI z), .ref o]) ++ List.replicate (4 - (lg_sl ([.ref (ad 0 0), .int (zI z), .ref o])).length) Slot.unset).toArray = ls at hl ⊢
  replace hl : lv_has ls 4 [(0, .ref (ad 0 0)), (1, .int (zI z)), (2, .ref o)] := hl
  refine lv_aload_n hx hb dL_rejected_0 rfl (lv_at hl 2 rfl) ?_
  refine lv_iconst (v := zI 0) hx hb dL_rejected_1 rfl ?_
  refine lv_aload_n hx hb dL_rejected_2 rfl (lv_at hl 0 rfl) ?_
  refine lv_iload_n hx hb dL_rejected_3 rfl (lv_at hl 1 rfl) ?_
  have htab : c.exceptionTable.toList = [⟨0, 8, 11, 13⟩] := by
    obtain ⟨m9, meth9, c9, hn9, h1, h2, -, -, h6, -⟩ := Cond.codeWith_spec (hts (.codeWith yL_rejected cL_rejected 4 (some .int) [(0, 8, 11, 13)]) List.mem_cons_self)
    cases Option.some.inj (hn9.symm.trans B.named)
    cases Option.some.inj (h1.symm.trans B.method)
    cases Option.some.inj (h2.symm.trans (Stand.of_body B).code)
    rw [← table_eq c.exceptionTable.toList, h6]
    rfl
  have hP1 : tP (fun q => A q ∧ q ≠ o) s := hP.warm (State.WarmedH.refl s) (fun _ _ _ => rfl) (fun _ _ q => q.1)
  refine t_catch (As := [.int (zI z)]) (rest := [.int (zI 0), .ref o]) (C := RX4) (b := ad 0 0) (x := ⟨0, 8, 11, 13⟩) ⟨hx, hb, hml, hown, hts⟩ (t_X4_rejected l hlt D cI cJ (fun q => A q ∧ q ≠ o) ad al S E rt hal z hz0 hI hno) (cwV 1 hts gL_rejected_X4_rejected rfl rfl rfl (by decide +kernel) ⟨Nat.le_of_ble_eq_true rfl, Nat.le_of_ble_eq_true rfl⟩) ⟨gCT_bl, va_recv hK (hG1.one (hal 0 0 rfl) (cE_obj (by decide))) (ci := cCl 0) (q0 := 0) (q := (RX4, TX4, 11)) rfl rfl, fun U hU hW => ⟨rfl, ⟨by rw [hU]; exact hG1, va_K.moved hW.alike hK, fun q hq => ⟨hA q (by rw [← hU]; exact hq), fun h => by rw [hU, h] at hq; omega⟩⟩, hP1.warm hW (fun a _ _ => by rw [hU]) (fun _ _ q => q)⟩⟩ rfl hl.1 rfl (Nat.le_of_ble_eq_true rfl) dL_rejected_4 ⟨Nat.le_of_ble_eq_true rfl, Nat.le_of_ble_eq_true rfl⟩ htab (by decide) (by decide) (va_Nw.use rfl (hP.1 (.classLink RL 13 RJx00060) (by decide +kernel))) (va_Nw.use rfl (hP.1 (.castable RJx00060 RJx00060) (by decide +kernel))) hS (fun q h => h.1) (fun q9 t9 H locs ht9 hal9 hB hsz hk hS => ?_)
  have hG2 := hB.1
  rw [ht9] at hG2
  have hO2 : va_at D vwCl (o, oE cJ z0) H := hO.kept (hk o hol (fun h => h.2 rfl))
  have hG3 : gC D cI cJ A ad al (cC S E rt) H := gQ.re hG2 (fun k i h => hG.2.1 k i h)
  refine lv_astore_n (lv' := [(3, .ref q9), (0, .ref (ad 0 0)), (1, .int (zI z)), (2, .ref o)]) hx hb dL_rejected_11 rfl hl (by decide) rfl (fun ls hl => ?_)
  refine lv_iconst (v := zI 1) hx hb dL_rejected_12 rfl ?_
  exact W.iret hx hb hr (fun t ht hW => ⟨rfl, ⟨⟨by rw [ht]; exact hG3, va_K.moved hW.alike hK, fun q hq => hA q (Nat.le_trans hS.1 (by rw [← ht]; exact hq))⟩, by rw [ht]; exact hO2, hAo, hne⟩, hS.F ht⟩) hS.2.2 dL_rejected_13
set_option maxHeartbeats 4000000 in
theorem m_L_time (l : Launch) (D : va_G) (cI cJ : ClassId) (A : Nat → Prop) (ad : Nat → Nat → Nat) (al : Nat → Nat → Prop) (S : sT) (E : Nat → Int) (rt : Int) (hal : alS al S) (z cs : Int) (i o : Nat) (z0 : Int64) (hz0 : zB z) (hI : Inv S) (hi9 : z = (i : Int)) (hi : (i : Int) < S 5 0 0) (hc0 : zB cs) : Met l yL_time wsL_time ({ frames := 3, cells := 0, slots := 0, locals := 67 }) (va_Pc [.ref (ad 0 0), .int (zI z), .int (zI cs), .ref o] (lO D cI cJ A ad al (cC S E rt) o z0)) (gO (some (.int (zI 0))) (lO D cI cJ A ad al (cC S E rt) o (zL (rtimeV S z cs))) A) 0 0 A := by
  refine va_MetW (hh := [(0, 9, 12, 13)]) (cc := cL_time) (maxL := 5) (ret := some .int) (by decide) rfl ?_
  intro p e s m0 args below meth c s₁ B hml hv
  obtain ⟨rfl, ⟨⟨hG, hK, hA⟩, hO, hAo, hne⟩⟩ := hv
  have hx := B.exec
  have hb := B.bytes
  have hr := B.returns
  have hts := atoms_spec (ws := wsL_time) B.pre
  have hown : s.vm.findClass RL = some m0.cls := findClass_of_methodNamed B.named
  have hlocks := B.notSynchronized
  have hS : va_S A s.heap s.heap [] := va_S.rf
  have hol : o < s.heap.size := hO.lt
  have hG1 : gC D cI cJ (fun q => A q ∧ q ≠ o) ad al (cC S E rt) s.heap := gQ.re hG (fun k i h => ⟨hG.2.1 k i h, hne k i h⟩)
  have hl := lv_entry ([.ref (ad 0 0), .int (zI z), .int (zI cs), .ref o]) (n := 5) (Nat.le_of_ble_eq_true rfl)
  rw [lg_entry_eq]
  generalize (lg_sl ([.ref (ad 0 0), .int (zI z), .int (zI cs), .ref o]) ++ List.replicate (5 - (lg_sl ([.ref (ad 0 0), .int (zI z), .int (zI cs), .ref o])).length) Slot.unset).toArray = ls at hl ⊢
  replace hl : lv_has ls 5 [(0, .ref (ad 0 0)), (1, .int (zI z)), (2, .int (zI cs)), (3, .ref o)] := hl
  refine lv_aload_n hx hb dL_time_0 rfl (lv_at hl 3 rfl) ?_
  refine lv_iconst (v := zI 0) hx hb dL_time_1 rfl ?_
  refine lv_aload_n hx hb dL_time_2 rfl (lv_at hl 0 rfl) ?_
  refine lv_iload_n hx hb dL_time_3 rfl (lv_at hl 1 rfl) ?_
  refine lv_iload_n hx hb dL_time_4 rfl (lv_at hl 2 rfl) ?_
  refine g_callA (va_runV (As := [.int (zI z), .int (zI cs)]) (rest := [.int (zI 0), .ref o]) ⟨hx, hb, hml, hown, hts⟩ (m_X4_time l D cI cJ (fun q => A q ∧ q ≠ o) ad al S E rt hal z cs i hz0 hI hi9 hi hc0) (cwV 2 hts gL_time_X4_time rfl rfl rfl (by decide +kernel) ⟨Nat.le_of_ble_eq_true rfl, Nat.le_of_ble_eq_true rfl⟩) ⟨gCU_blind, va_recv hK (hG1.one (hal 0 0 rfl) (cE_obj (by decide))) (ci := cCl 0) (q0 := 0) (q := (RX4, TX4, 11)) rfl rfl, fun U hU hW => ⟨rfl, by rw [hU]; exact hG1, va_K.moved hW.alike hK, fun q hq => ⟨hA q (by rw [← hU]; exact hq), fun h => by rw [hU, h] at hq; omega⟩⟩⟩ rfl rfl hl.1 rfl (lv_room (Nat.le_of_ble_eq_true rfl)) dL_time_5 ⟨Nat.zero_le _, Nat.zero_le _⟩) hS (fun q h => h.1) (fun t9 H locs ht9 hal9 hB hsz hk hS => ?_)
  have hG2 := hB.1
  rw [ht9] at hG2
  have hO2 : va_at D vwCl (o, oE cJ z0) H := hO.kept (hk o hol (fun h => h.2 rfl))
  refine o_last hx hb hK hO2 hS hAo dL_time_8 (fun H1 locs hO3 hz1 hk1 hS => ?_)
  have hG3 : gC D cI cJ A ad al (cC S E rt) H1 := ⟨fun k i h => (hG2.1 k i h).kept (hk1 _ (hne k i h)), hG.2.1, hG.2.2⟩
  refine lv_goto (tgt := 16) hx hb dL_time_9 (by decide) ?_
  refine lv_iconst (v := zI 0) hx hb dL_time_16 rfl ?_
  exact W.iret hx hb hr (fun t ht hW => ⟨rfl, ⟨⟨by rw [ht]; exact hG3, va_K.moved hW.alike hK, fun q hq => hA q (Nat.le_trans hS.1 (by rw [← ht]; exact hq))⟩, by rw [ht]; exact hO3, hAo, hne⟩, hS.F ht⟩) hS.2.2 dL_time_17
set_option maxHeartbeats 4000000 in
theorem t_L_time (l : Launch) (hlt : l.stackTraces = false) (D : va_G) (cI cJ : ClassId) (A : Nat → Prop) (ad : Nat → Nat → Nat) (al : Nat → Nat → Prop) (S : sT) (E : Nat → Int) (rt : Int) (hal : alS al S) (z cs : Int) (o : Nat) (z0 : Int64) (hz0 : zB z) (hI : Inv S) (hno : ¬ (0 ≤ z ∧ z < S 5 0 0)) : Met l yL_time wsL_time ({ frames := 9, cells := 1, slots := 6, locals := 142 }) (va_Pc [.ref (ad 0 0), .int (zI z), .int (zI cs), .ref o] (fun U => lO D cI cJ A ad al (cC S E rt) o z0 U ∧ tP A U)) (gO (some (.int (zI 1))) (lO D cI cJ A ad al (cC S E rt) o z0) A) 1 6 A := by
  refine va_MetW (hh := [(0, 9, 12, 13)]) (cc := cL_time) (maxL := 5) (ret := some .int) (by decide) rfl ?_
  intro p e s m0 args below meth c s₁ B hml hv
  obtain ⟨rfl, ⟨⟨hG, hK, hA⟩, hO, hAo, hne⟩, hP⟩ := hv
  have hx := B.exec
  have hb := B.bytes
  have hr := B.returns
  have hts := atoms_spec (ws := wsL_time) B.pre
  have hown : s.vm.findClass RL = some m0.cls := findClass_of_methodNamed B.named
  have hlocks := B.notSynchronized
  have hS : va_S A s.heap s.heap [] := va_S.rf
  have hol : o < s.heap.size := hO.lt
  have hG1 : gC D cI cJ (fun q => A q ∧ q ≠ o) ad al (cC S E rt) s.heap := gQ.re hG (fun k i h => ⟨hG.2.1 k i h, hne k i h⟩)
  have hl := lv_entry ([.ref (ad 0 0), .int (zI z), .int (zI cs), .ref o]) (n := 5) (Nat.le_of_ble_eq_true rfl)
  rw [lg_entry_eq]
  generalize (lg_sl ([.ref (ad 0 0), .int (zI z), .int (zI cs), .ref o]) ++ List.replicate (5 - (lg_sl ([.ref (ad 0 0), .int (zI z), .int (zI cs), .ref o])).length) Slot.unset).toArray = ls at hl ⊢
  replace hl : lv_has ls 5 [(0, .ref (ad 0 0)), (1, .int (zI z)), (2, .int (zI cs)), (3, .ref o)] := hl
  refine lv_aload_n hx hb dL_time_0 rfl (lv_at hl 3 rfl) ?_
  refine lv_iconst (v := zI 0) hx hb dL_time_1 rfl ?_
  refine lv_aload_n hx hb dL_time_2 rfl (lv_at hl 0 rfl) ?_
  refine lv_iload_n hx hb dL_time_3 rfl (lv_at hl 1 rfl) ?_
  refine lv_iload_n hx hb dL_time_4 rfl (lv_at hl 2 rfl) ?_
  have htab : c.exceptionTable.toList = [⟨0, 9, 12, 13⟩] := by
    obtain ⟨m9, meth9, c9, hn9, h1, h2, -, -, h6, -⟩ := Cond.codeWith_spec (hts (.codeWith yL_time cL_time 5 (some .int) [(0, 9, 12, 13)]) List.mem_cons_self)
    cases Option.some.inj (hn9.symm.trans B.named)
    cases Option.some.inj (h1.symm.trans B.method)
    cases Option.some.inj (h2.symm.trans (Stand.of_body B).code)
    rw [← table_eq c.exceptionTable.toList, h6]
    rfl
  have hP1 : tP (fun q => A q ∧ q ≠ o) s := hP.warm (State.WarmedH.refl s) (fun _ _ _ => rfl) (fun _ _ q => q.1)
  refine t_catch (As := [.int (zI z), .int (zI cs)]) (rest := [.int (zI 0), .ref o]) (C := RX4) (b := ad 0 0) (x := ⟨0, 9, 12, 13⟩) ⟨hx, hb, hml, hown, hts⟩ (t_X4_time l hlt D cI cJ (fun q => A q ∧ q ≠ o) ad al S E rt hal z cs hz0 hI hno) (cwV 2 hts gL_time_X4_time rfl rfl rfl (by decide +kernel) ⟨Nat.le_of_ble_eq_true rfl, Nat.le_of_ble_eq_true rfl⟩) ⟨gCT_bl, va_recv hK (hG1.one (hal 0 0 rfl) (cE_obj (by decide))) (ci := cCl 0) (q0 := 0) (q := (RX4, TX4, 11)) rfl rfl, fun U hU hW => ⟨rfl, ⟨by rw [hU]; exact hG1, va_K.moved hW.alike hK, fun q hq => ⟨hA q (by rw [← hU]; exact hq), fun h => by rw [hU, h] at hq; omega⟩⟩, hP1.warm hW (fun a _ _ => by rw [hU]) (fun _ _ q => q)⟩⟩ rfl hl.1 rfl (Nat.le_of_ble_eq_true rfl) dL_time_5 ⟨Nat.le_of_ble_eq_true rfl, Nat.le_of_ble_eq_true rfl⟩ htab (by decide) (by decide) (va_Nw.use rfl (hP.1 (.classLink RL 13 RJx00060) (by decide +kernel))) (va_Nw.use rfl (hP.1 (.castable RJx00060 RJx00060) (by decide +kernel))) hS (fun q h => h.1) (fun q9 t9 H locs ht9 hal9 hB hsz hk hS => ?_)
  have hG2 := hB.1
  rw [ht9] at hG2
  have hO2 : va_at D vwCl (o, oE cJ z0) H := hO.kept (hk o hol (fun h => h.2 rfl))
  have hG3 : gC D cI cJ A ad al (cC S E rt) H := gQ.re hG2 (fun k i h => hG.2.1 k i h)
  refine lv_astore (lv' := [(4, .ref q9), (0, .ref (ad 0 0)), (1, .int (zI z)), (2, .int (zI cs)), (3, .ref o)]) hx hb dL_time_12 hl (by decide) rfl (fun ls hl => ?_)
  refine lv_iconst (v := zI 1) hx hb dL_time_14 rfl ?_
  exact W.iret hx hb hr (fun t ht hW => ⟨rfl, ⟨⟨by rw [ht]; exact hG3, va_K.moved hW.alike hK, fun q hq => hA q (Nat.le_trans hS.1 (by rw [← ht]; exact hq))⟩, by rw [ht]; exact hO2, hAo, hne⟩, hS.F ht⟩) hS.2.2 dL_time_15
