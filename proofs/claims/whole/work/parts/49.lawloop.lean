/-! The law's own cell, its loop, its start -/
def cellV (L : Nat) (xs : Nat → Int32) : Int := if 0 < L then (xs 0).toInt else 0
theorem cellV_B (L : Nat) (xs : Nat → Int32) : zB (cellV L xs) := by
  unfold cellV
  split
  · exact zI_B _
  · exact ⟨by omega, by omega⟩
def lXU (b L : Nat) (xs : Nat → Int32) (U : State) : Prop := va_X b L xs U U.heap ∧ b < U.heap.size
theorem lXU_bl {b L : Nat} {xs : Nat → Int32} {as : List Value} : FrameBlind (va_Pc as (lXU b L xs)) := fun a U g mk q =>
  ⟨q.1, va_X.moved (u := U) (U := U.calling g mk a) (Vm.Alike.refl U.vm) q.2.1, q.2.2⟩
set_option maxHeartbeats 4000000 in
theorem m_L_cell (l : Launch) (b L : Nat) (xs : Nat → Int32) (hL : L ≤ 3585) : Met l yL_cell wsL_cell ({ frames := 0, cells := 0, slots := 0, locals := 0 }) (va_Pc [.ref b, .int (zI 0)] (lXU b L xs)) (gO (some (.int (zI (cellV L xs)))) (fun _ => True) (fun _ => False)) 0 0 (fun _ => False) := by
  refine Met.ofW (cc := cL_cell) (maxL := 2) (ret := (some .int)) (by decide) rfl ?_
  intro p e s m0 args below meth c s₁ B hml hv
  obtain ⟨rfl, hX, hbl⟩ := hv
  have hx := B.exec
  have hb := B.bytes
  have hr := B.returns
  have hlocks := B.notSynchronized
  have hS : va_S (fun _ => False) s.heap s.heap [] := va_S.rf
  have hl := lv_entry ([.ref b, .int (zI 0)]) (n := 2) (Nat.le_of_ble_eq_true rfl)
  rw [lg_entry_eq]
  generalize (lg_sl ([.ref b, .int (zI 0)]) ++ List.replicate (2 - (lg_sl ([.ref b, .int (zI 0)])).length) Slot.unset).toArray = ls at hl ⊢
  replace hl : lv_has ls 2 [(0, .ref b), (1, .int (zI 0))] := hl
  refine lv_iload_n hx hb dL_cell_0 rfl (lv_at hl 1 rfl) ?_
  refine lv_aload_n hx hb dL_cell_1 rfl (lv_at hl 0 rfl) ?_
  refine va_slen hx hb hX hbl (fun h => h) hS dL_cell_2 ?_
  rw [show Int32.ofNat L = zI (L : Int) from rfl]
  refine z_icmp_ge (tgt := 12) hx hb dL_cell_3 (by decide) ⟨by decide, by decide⟩ ⟨by omega, by omega⟩ (fun c1 => ?_) (fun c1 => ?_)
  · refine lv_iconst (v := zI 0) hx hb dL_cell_12 rfl ?_
    have e : (0 : Int) = cellV L xs := by unfold cellV; rw [if_neg (by omega)]
    refine W.eq (congrArg (fun z => F0 m0 13 ls [.int (zI z)]) e) ?_
    exact W.iret hx hb hr (fun t ht hW => ⟨rfl, trivial, hS.F ht⟩) hS.2.2 dL_cell_13
  · refine lv_aload_n hx hb dL_cell_6 rfl (lv_at hl 0 rfl) ?_
    refine lv_iload_n hx hb dL_cell_7 rfl (lv_at hl 1 rfl) ?_
    refine l_r0 hx hb hX hbl (fun h => h) hS hL (i := 0) (by omega) dL_cell_8 ?_
    refine lv_goto (tgt := 13) hx hb dL_cell_9 (by decide) ?_
    have e : xs 0 = zI (cellV L xs) := by unfold cellV; rw [if_pos (by omega), zI_of]
    refine W.eq (congrArg (fun z => F0 m0 13 ls [.int z]) e) ?_
    exact W.iret hx hb hr (fun t ht hW => ⟨rfl, trivial, hS.F ht⟩) hS.2.2 dL_cell_13
section LL
variable {p : Program} {l : Launch} {e : Env} {s : State} {m : MethodId} {below : List Frame} {meth : Method} {c : Code} {D : va_G} {cI cJ : ClassId} {b L : Nat} {xs : Nat → Int32} {a0 b0 o : Nat}
set_option maxHeartbeats 4000000 in
set_option maxRecDepth 100000 in
theorem l_loop (Z : lZ p l s m c D cI cJ b L xs) (hr : meth.sig.returnType = ret) (hlocks : meth.locks = false) : ∀ (n : Nat) (H : Heap) (locs : List Loc) (ls : Array Slot) (i cells slots : Nat), L ≤ i + 6 + 7 * n → i ≤ 4000 → cells + 4 * n ≤ room_1.cells → slots + 1033 * n ≤ room_1.slots → lI D cI cJ s.heap.size a0 b0 o H → va_S (lA0 s.heap.size) s.heap H locs → lv_has ls 8 (lLs b a0 b0 o (i : Int)) →
    W p l e room_1 s m #[Value.ref b] below meth c H locs cells slots (lw_Z below #[Value.ref b] s) (F0 m 35 ls []) := by
  intro n
  induction n with
  | zero =>
    intro H locs ls i cells slots hn hi hc hs hI hS hl
    obtain ⟨hx, hb, hml, hown, hts, hK, hNw, hP, hX, hbl, hL, hlt⟩ := Z
    have hbA : ¬ lA0 s.heap.size b := by unfold lA0; omega
    refine lv_iload hx hb dL_law_35 (lv_at hl 0 rfl) ?_
    refine lv_aload_n hx hb dL_law_37 rfl (lv_at hl 1 rfl) ?_
    refine va_slen hx hb hX hbl hbA hS dL_law_38 ?_
    rw [show Int32.ofNat L = zI (L : Int) from rfl]
    refine lv_bipush (v := zI 7) hx hb dL_law_39 (by decide) ?_
    refine z_isub hx hb dL_law_41 ?_
    refine z_icmp_gt (tgt := 770) hx hb dL_law_42 (by decide) ⟨by omega, by omega⟩ ⟨by omega, by omega⟩ (fun c1 => ?_) (fun c1 => by exfalso; omega)
    refine lv_iconst (v := zI 1) hx hb dL_law_770 rfl ?_
    refine va_forget (fun q hq => hS.2.2 q hq) ?_
    refine W.widen (k := 601024) (n := 7293000) (by have : room_1.cells = 601024 := rfl; omega) (by have : room_1.slots = 7293000 := rfl; omega) ?_
    exact lw_ret hx hb hr hlocks dL_law_771
  | succ n ih =>
    intro H locs ls i cells slots hn hi hc hs hI hS hl
    have Z0 := Z
    obtain ⟨hx, hb, hml, hown, hts, hK, hNw, hP, hX, hbl, hL, hlt⟩ := Z
    have hbA : ¬ lA0 s.heap.size b := by unfold lA0; omega
    refine lv_iload hx hb dL_law_35 (lv_at hl 0 rfl) ?_
    refine lv_aload_n hx hb dL_law_37 rfl (lv_at hl 1 rfl) ?_
    refine va_slen hx hb hX hbl hbA hS dL_law_38 ?_
    rw [show Int32.ofNat L = zI (L : Int) from rfl]
    refine lv_bipush (v := zI 7) hx hb dL_law_39 (by decide) ?_
    refine z_isub hx hb dL_law_41 ?_
    refine z_icmp_gt (tgt := 770) hx hb dL_law_42 (by decide) ⟨by omega, by omega⟩ ⟨by omega, by omega⟩ (fun c1 => ?_) (fun c1 => ?_)
    · refine lv_iconst (v := zI 1) hx hb dL_law_770 rfl ?_
      refine va_forget (fun q hq => hS.2.2 q hq) ?_
      refine W.widen (k := 601024) (n := 7293000) (by have : room_1.cells = 601024 := rfl; omega) (by have : room_1.slots = 7293000 := rfl; omega) ?_
      exact lw_ret hx hb hr hlocks dL_law_771
    · have hi7 : i + 7 ≤ L := by omega
      have hf : cells + 4 ≤ room_1.cells ∧ slots + 1033 ≤ room_1.slots := ⟨by omega, by omega⟩
      have kl : lK p l e s m below meth c (lw_Z below #[Value.ref b] s) D cI cJ b a0 b0 o i cells slots := fun H1 locs1 ls1 h1 h2 h3 => ih H1 locs1 ls1 (i + 7) (cells + 4) (slots + 1033) (by omega) (by omega) (by omega) (by omega) h1 h2 h3
      refine l_ra hx hb (lv_at hl 1 rfl) (lv_at hl 0 rfl) dL_law_45 dL_law_46 ?_
      refine l_r0 hx hb hX hbl hbA hS hL (i := i) (by omega) dL_law_48 ?_
      refine lv_bipush (v := zI 15) hx hb dL_law_49 (by decide) ?_
      refine lv_iand hx hb dL_law_51 ?_
      generalize xs i &&& zI 15 = w
      by_cases hw : w.toInt < 0 ∨ 13 < w.toInt
      · refine lv_tableOut (tgt := 764) hx hb dL_law_52 hw (by decide) ?_
        exact l_end Z0 hI hS hl hi7 (by omega) (by omega) kl
      · have hw2 : w.toInt = 0 ∨ w.toInt = 1 ∨ w.toInt = 2 ∨ w.toInt = 3 ∨ w.toInt = 4 ∨ w.toInt = 5 ∨ w.toInt = 6 ∨ w.toInt = 7 ∨ w.toInt = 8 ∨ w.toInt = 9 ∨ w.toInt = 10 ∨ w.toInt = 11 ∨ w.toInt = 12 ∨ w.toInt = 13 := by omega
        rcases hw2 with h9 | h9 | h9 | h9 | h9 | h9 | h9 | h9 | h9 | h9 | h9 | h9 | h9 | h9
        · refine lv_tableIn (off := 72) (tgt := 124) hx hb dL_law_52 (by omega) (by omega) (by rw [h9]; rfl) (by decide) ?_
          exact k_machine Z0 hI hS hl hi7 hf kl
        · refine lv_tableIn (off := 109) (tgt := 161) hx hb dL_law_52 (by omega) (by omega) (by rw [h9]; rfl) (by decide) ?_
          exact k_buffer Z0 hI hS hl hi7 hf kl
        · refine lv_tableIn (off := 158) (tgt := 210) hx hb dL_law_52 (by omega) (by omega) (by rw [h9]; rfl) (by decide) ?_
          exact k_fault Z0 hI hS hl hi7 hf kl
        · refine lv_tableIn (off := 285) (tgt := 337) hx hb dL_law_52 (by omega) (by omega) (by rw [h9]; rfl) (by decide) ?_
          exact k_row Z0 hI hS hl hi7 hf kl
        · refine lv_tableIn (off := 346) (tgt := 398) hx hb dL_law_52 (by omega) (by omega) (by rw [h9]; rfl) (by decide) ?_
          exact k_run Z0 hI hS hl hi7 hf kl
        · refine lv_tableIn (off := 371) (tgt := 423) hx hb dL_law_52 (by omega) (by omega) (by rw [h9]; rfl) (by decide) ?_
          exact k_event Z0 hI hS hl hi7 hf kl
        · refine lv_tableIn (off := 408) (tgt := 460) hx hb dL_law_52 (by omega) (by omega) (by rw [h9]; rfl) (by decide) ?_
          exact k_made Z0 hI hS hl hi7 hf kl
        · refine lv_tableIn (off := 422) (tgt := 474) hx hb dL_law_52 (by omega) (by omega) (by rw [h9]; rfl) (by decide) ?_
          exact k_inside Z0 hI hS hl hi7 hf kl
        · refine lv_tableIn (off := 436) (tgt := 488) hx hb dL_law_52 (by omega) (by omega) (by rw [h9]; rfl) (by decide) ?_
          exact k_lost Z0 hI hS hl hi7 hf kl
        · refine lv_tableIn (off := 503) (tgt := 555) hx hb dL_law_52 (by omega) (by omega) (by rw [h9]; rfl) (by decide) ?_
          exact k_rejected Z0 hI hS hl hi7 hf kl
        · refine lv_tableIn (off := 558) (tgt := 610) hx hb dL_law_52 (by omega) (by omega) (by rw [h9]; rfl) (by decide) ?_
          exact k_change Z0 hI hS hl hi7 hf kl
        · refine lv_tableIn (off := 595) (tgt := 647) hx hb dL_law_52 (by omega) (by omega) (by rw [h9]; rfl) (by decide) ?_
          exact k_rest Z0 hI hS hl hi7 hf kl
        · refine lv_tableIn (off := 632) (tgt := 684) hx hb dL_law_52 (by omega) (by omega) (by rw [h9]; rfl) (by decide) ?_
          exact k_time Z0 hI hS hl hi7 hf kl
        · refine lv_tableIn (off := 699) (tgt := 751) hx hb dL_law_52 (by omega) (by omega) (by rw [h9]; rfl) (by decide) ?_
          exact k_kept Z0 hI hS hl hi7 hf kl
end LL
theorem l_known {s : State} {b : Nat} (hts : ∀ w ∈ lw_tbl, w.before #[Value.ref b] s = true) : ∃ (D : va_G) (cI cJ : ClassId), va_K D vwCl [(cI, .int), (cJ, .long)] s := by
  obtain ⟨c0, i0, h0⟩ := u_known (C := RJx00060) (T := TJx00060) (N := 6) (n := 6) hts inJx00060 (hts (.instantiable RJx00060 6) (by decide +kernel))
  obtain ⟨c1, i1, h1⟩ := u_known (C := RX0) (T := TX0) (N := 5) (n := 5) hts inX0 (hts (.instantiable RX0 5) (by decide +kernel))
  obtain ⟨c2, i2, h2⟩ := u_known (C := RX1) (T := TX1) (N := 4) (n := 4) hts inX1 (hts (.instantiable RX1 4) (by decide +kernel))
  obtain ⟨c3, i3, h3⟩ := u_known (C := RX2) (T := TX2) (N := 16) (n := 16) hts inX2 (hts (.instantiable RX2 16) (by decide +kernel))
  obtain ⟨c4, i4, h4⟩ := u_known (C := RX3) (T := TX3) (N := 5) (n := 5) hts inX3 (hts (.instantiable RX3 5) (by decide +kernel))
  obtain ⟨c5, i5, h5⟩ := u_known (C := RX4) (T := TX4) (N := 11) (n := 11) hts inX4 (hts (.instantiable RX4 11) (by decide +kernel))
  obtain ⟨c6, i6, h6⟩ := u_known (C := RX5) (T := TX5) (N := 32) (n := 32) hts inX5 (hts (.instantiable RX5 32) (by decide +kernel))
  obtain ⟨cI, kI, pI, a1, a2, a3⟩ := Cond.arrayClass_spec (hts (.arrayClass .int) (by decide +kernel))
  obtain ⟨cJ, kJ, pJ, b1, b2, b3⟩ := Cond.arrayClass_spec (hts (.arrayClass .long) (by decide +kernel))
  refine ⟨(fun k => [c0, c1, c2, c3, c4, c5, c6].getD k 0, fun k => [i0, i1, i2, i3, i4, i5, i6].getD k i0), cI, cJ, fun k q hq => ?_, fun k q hq => ?_⟩
  · match k, hq with
    | 0, hq => cases hq; exact h0
    | 1, hq => cases hq; exact h1
    | 2, hq => cases hq; exact h2
    | 3, hq => cases hq; exact h3
    | 4, hq => cases hq; exact h4
    | 5, hq => cases hq; exact h5
    | 6, hq => cases hq; exact h6
    | k + 7, hq => simp at hq
  · match k, hq with
    | 0, hq => cases hq; exact ⟨fun n z => ⟨fun k h => (by cases h), kI, a2, pI, a3⟩, a1⟩
    | 1, hq => cases hq; exact ⟨fun n z => ⟨fun k h => (by cases h), kJ, b2, pJ, b3⟩, b1⟩
    | k + 2, hq => simp at hq
theorem tWs_in : ∀ w ∈ tWs, w ∈ lw_tbl := by decide +kernel
theorem l_tP {s : State} {b : Nat} (hts : ∀ w ∈ lw_tbl, w.before #[Value.ref b] s = true) (hgv : (Jvm.Cond.and given_1 narrow_1).before #[Value.ref b] s = true) : tP (lA0 s.heap.size) s := by
  have hs := flat_of_before _ hgv
  have hA : ∀ a : Nat, a < s.heap.size → ¬ lA0 s.heap.size a := fun a h => by unfold lA0; omega
  refine ⟨fun w hw => va_Nw.of (tWs_ok w hw).1 (hts w (tWs_in w hw)), tZ.of (hts _ (by decide +kernel)) (hs _ (by decide +kernel)) hA, tZ.of (hts _ (by decide +kernel)) (hs _ (by decide +kernel)) hA, ?_⟩
  have hex : (Cond.exactly (.string "LineEvents" 153) "java/lang/String").before #[Value.ref b] s = true := hs _ (by decide +kernel)
  obtain ⟨a, c, cA, kA, q1, q2⟩ := Cond.exactly_spec (args := #[Value.ref b]) (first := s) (o := none) (s := s) (idx := []) (t := .string "LineEvents" 153) (cls := "java/lang/String") hex
  exact ⟨a, vk_R.of (hts (.stringRef RX4 153 "no such machine") (by decide +kernel)) q1⟩
section QO
variable {p : Program} {l : Launch} {e : Env} {R : Room} {s : State} {m : MethodId} {args : Array Value} {below : List Frame} {meth : Method} {H : Heap} {locs : List Loc} {cells slots : Nat} {Q : State → Prop}
variable {cc : ByteArray} {pc : Nat} {ls : Array Slot} {rest : List Value} {D : va_G} {A : Nat → Prop} {tys : List (ClassId × FieldType)} {H0 : Heap} {ad : Nat → Nat → Nat} {al : Nat → Nat → Prop} {E : Nat → Nat → va_E}
/-- an object is made; the old cells stay -/
theorem q_newO {c0 : Code} (hexec : p.tables.exec = Jvm.exec) (hb : c0.code = cc) {own C : String} {T : u_T} {N ci index : Nat} {Ts : List Cond} (hts : ∀ w ∈ Ts, w.before args s = true) (hin : ∀ w ∈ u_ws C T N, w ∈ Ts) (ty : Nat → FieldType) (hty : ∀ k, k < N → parseFieldDescriptor (T k).2.2.1 = some (ty k)) (hown : s.vm.findClass own = some m.cls) (hcl : (Cond.classLink own index C).before args s = true) (hinst : (Cond.instantiable C N).before args s = true) (hini : (Cond.initialized C).before args s = true)
    (hK : va_K D vwCl tys s) (hG : gQ D A ad al E H) (hS : va_S A H0 H locs) (hA : ∀ q, H0.size ≤ q → A q) (hc : vwCl[ci]? = some (C, T, N)) {fs : List Value} (hfs : ∀ j, j < N → defaultValue (ty j) = vp_V fs j) (hcells : cells + 1 ≤ R.cells) (hslots : slots + N ≤ R.slots) (hdg : decode cc pc = .ok (.new index, 3)) (k i : Nat)
    {ad' : Nat → Nat → Nat} {al' : Nat → Nat → Prop} {E' : Nat → Nat → va_E} (hal : ∀ k' i', al' k' i' → al k' i' ∨ (k' = k ∧ i' = i)) (had : ∀ k' i', al k' i' → ad' k' i' = ad k' i') (hq : ad' k i = H.size) (hne : ∀ k' i', al k' i' → E' k' i' = E k' i') (he' : E' k i = .inr (ci, fs))
    (kk : ∀ (H1 : Heap), gQ D A ad' al' E' H1 → va_S A H0 H1 locs → H1.size = H.size + 1 → (∀ q : Nat, q < H.size → H1[q]? = H[q]?) → W p l e R s m args below meth c0 H1 locs (cells + 1) (slots + N) Q (F0 m (pc + 3) ls (.ref H.size :: rest))) : W p l e R s m args below meth c0 H locs cells slots Q (F0 m pc ls rest) := by
  have hKn := hK.1 ci _ hc
  refine W.newcK hexec hb hown hcl hinst hini rfl hdg hcells hslots hKn.2.1 rfl fun H1 kC hkC e1 z1 o1 => ?_
  exact kk H1 (hG.grow (k := k) (i := i) hal had hq (hA _ hS.1) hne (by rw [he']; exact ⟨_, hc, (u_born ty hts hin hKn hkC e1 hty).to hfs⟩) o1) ⟨Nat.le_trans hS.1 (by omega), fun x h1 h2 => (o1 x (Nat.lt_of_lt_of_le h1 hS.1)).trans (hS.2.1 x h1 h2), hS.2.2⟩ z1 o1
end QO
theorem dfX5 : ∀ j, j < 32 → defaultValue (tyX5 j) = vp_V ((List.range 32).map (rO (fun _ _ => 0) 0)) j := fun j hj => by
  rcases j with _ | _ | _ | _ | _ | _ | _ | _ | _ | _ | _ | _ | _ | _ | _ | _ | _ | _ | _ | _ | _ | _ | _ | _ | _ | _ | _ | _ | _ | _ | _ | _ | j <;> first | rfl | (exfalso; omega)
theorem cC_rS0 (z : Int) (E : Nat → Int) : ∀ k i, cAl (rS0 z) k i → alU (alU (fun _ _ => False) 0 0) 1 0 k i ∧ ((k = 1 ∨ k = 4 ∨ k = 5 → cC (rS0 z) E 0 k i = (su (su (cz (cn (fun _ _ _ => 0) 0 0) 1 0) 0 0 7 0) 0 0 0 z) k i) ∧ ∀ f, f < cNf k → cC (rS0 z) E 0 k i f = (su (su (cz (cn (fun _ _ _ => 0) 0 0) 1 0) 0 0 7 0) 0 0 0 z) k i f) := by
  intro k i h
  have e5 : rS0 z 5 0 0 = 0 := rfl
  have e20 : rS0 z 20 0 0 = 0 := rfl
  rcases k with _ | _ | _ | _ | _ | _ | _ | _ | k
  · have hi : i = 0 := h
    subst hi
    refine ⟨Or.inl (Or.inr ⟨rfl, rfl⟩), fun q => absurd q (by omega), fun f hf => ?_⟩
    rcases f with _ | _ | _ | _ | _ | _ | _ | _ | _ | _ | _ | f <;> first | rfl | (exfalso; simp [cNf] at hf; omega)
  · have hi : i = 0 := h
    subst hi
    refine ⟨Or.inr ⟨rfl, rfl⟩, fun _ => ?_, fun f hf => absurd hf (by simp [cNf])⟩
    funext f
    show rS0 z (27 + f % 3) (f / 3) 0 = _
    have e : rS0 z (27 + f % 3) (f / 3) 0 = 0 := by unfold rS0; rw [su_v (by omega)]
    rw [e]
    rfl
  · exact absurd (show (i : Int) < rS0 z 5 0 0 from h) (by rw [e5]; omega)
  · exact absurd (show (i : Int) < rS0 z 5 0 0 from h) (by rw [e5]; omega)
  · exact absurd (show (i : Int) < rS0 z 5 0 0 from h) (by rw [e5]; omega)
  · exact absurd (show (i : Int) < rS0 z 5 0 0 from h) (by rw [e5]; omega)
  · exact absurd (show ((i / 4 : Nat) : Int) < rS0 z 5 0 0 from h.1) (by rw [e5]; omega)
  · exact absurd (show (i : Int) < rS0 z 20 0 0 from h) (by rw [e20]; omega)
  · exact h.elim

set_option maxHeartbeats 4000000 in
set_option maxRecDepth 100000 in
theorem whole_start {p : Program} {e : Env} {s : State} {m : MethodId} {below : List Frame} {meth : Method} {c : Code} (l : Launch) (hlt : l.stackTraces = false) {b L : Nat} {xs : Nat → Int32} (hL : L ≤ 3585) (C0 : lw_At p s m meth c b L xs) : W p l e room_1 s m #[Value.ref b] below meth c s.heap [] 0 0 (lw_Z below #[Value.ref b] s) (entryFrame m ([Value.ref b] : List Value).toArray 8) := by
  obtain ⟨hx, hb, hr, hml, hown, hts0, hX, hbl, hlocks, hgv⟩ := id C0
  have hts : ∀ w ∈ wsL_law, w.before #[Value.ref b] s = true := fun w h => hts0 w (wsL_law_in w h)
  obtain ⟨D, cI, cJ, hK⟩ := l_known hts0
  have hP := l_tP hts0 hgv
  have hNw : va_Nw (.methodLinkNest RX2 11 yX0_init "LineEvents") s := va_Nw.of rfl (hts0 (.methodLinkNest RX2 11 yX0_init "LineEvents") (by decide +kernel))
  have Z : lZ p l s m c D cI cJ b L xs := ⟨hx, hb, hml, hown, hts, hK, hNw, hP, hX, hbl, hL, hlt⟩
  have hA : ∀ q, s.heap.size ≤ q → lA0 s.heap.size q := fun _ h => h
  have hbA : ¬ lA0 s.heap.size b := by unfold lA0; omega
  have hS : va_S (lA0 s.heap.size) s.heap s.heap [] := va_S.rf
  have hG : gC D cI cJ (lA0 s.heap.size) (fun _ _ => 0) (fun _ _ => False) (fun _ _ _ => 0) s.heap := ⟨fun _ _ h => h.elim, fun _ _ h => h.elim, fun _ _ _ _ h => h.elim⟩
  have hl := lv_entry ([.ref b]) (n := 8) (Nat.le_of_ble_eq_true rfl)
  rw [lg_entry_eq]
  generalize (lg_sl ([.ref b]) ++ List.replicate (8 - (lg_sl ([.ref b])).length) Slot.unset).toArray = ls at hl ⊢
  replace hl : lv_has ls 8 [(0, .ref b)] := hl
  refine c_new hx hb hts 0 0 inlX4 tyX4 tyX4_ok hown (hts (.classLink RL 8 RX4) (by decide +kernel)) (hts (.instantiable RX4 11) (by decide +kernel)) (hts (.initialized RX4) (by decide +kernel)) hK hG hS hA (by decide) rfl dfX4 (Nat.le_of_ble_eq_true rfl) (Nat.le_of_ble_eq_true rfl) (C' := cn (fun _ _ _ => 0) 0 0) (fun h => h) (fun _ _ h => h.elim) (fun _ _ h => h.elim) (fun f _ => cn_s _ _ _ f) dL_law_0 (fun q9 H hG hS => ?_)
  generalize adU (fun _ _ => 0) 0 0 q9 = ad at hG ⊢
  refine lv_dup hx hb dL_law_3 rfl ?_
  refine lv_aload_n hx hb dL_law_4 rfl (lv_at hl 0 rfl) ?_
  refine lv_iconst (v := zI 0) hx hb dL_law_5 rfl ?_
  refine g_callA (va_runS (As := [.ref b, .int (zI 0)]) (rest := [.ref (ad 0 0), .ref (ad 0 0)]) ⟨hx, hb, hml, hown, hts⟩ (m_L_cell l b L xs hL) (va_cwS 2 hts gL_law_L_cell rfl rfl rfl (by decide +kernel) ⟨Nat.le_of_ble_eq_true rfl, Nat.le_of_ble_eq_true rfl⟩) ⟨lXU_bl, fun U hU hW => ⟨rfl, by rw [hU]; exact (hX.moved hW.alike).kept (hS.2.1 b hbl hbA), by rw [hU]; exact Nat.lt_of_lt_of_le hbl hS.1⟩⟩ rfl rfl hl.1 rfl (lv_room (Nat.le_of_ble_eq_true rfl)) dL_law_6 ⟨Nat.le_of_ble_eq_true rfl, Nat.le_of_ble_eq_true rfl⟩) hS (fun q h => h.elim) (fun t9 H1 locs9 ht9 hal9 hB hsz hk hS => ?_)
  replace hG := hG.kept (H1 := H1) (fun q h1 _ => hk q h1 (fun h => h))
  clear hk hB hsz ht9 hal9
  refine z_i2l hx hb dL_law_9 (cellV_B L xs) ?_
  refine c_callI (As := [.long (zL (cellV L xs))]) (rest := [.ref (ad 0 0)]) ⟨hx, hb, hml, hown, hts⟩ (ad 0 0) (m_X4_init l D cI cJ (lA0 s.heap.size) ad (alU (fun _ _ => False) 0 0) (cn (fun _ _ _ => 0) 0 0) (cellV L xs) (Or.inr ⟨rfl, rfl⟩) (fun h => h.elim (fun h => h) (fun h => absurd h.1 (by decide))) (nr_cn (fun _ _ h => h.elim))) (cwI 1 hts gL_law_X4_init rfl rfl rfl (hts (.initialized RX4) (by decide +kernel)) (hts (.methodLink RL 28 yX4_init) (by decide +kernel)) (hts (.instanceMethod yX4_init) (by decide +kernel)) rfl (by decide +kernel) ⟨Nat.le_of_ble_eq_true rfl, Nat.le_of_ble_eq_true rfl⟩) ⟨gCU_blind, fun U hU hW => ⟨rfl, by rw [hU]; exact hG, va_K.moved hW.alike hK, fun q hq => hA q (Nat.le_trans hS.1 (by rw [← hU]; exact hq))⟩⟩ hS rfl hl.1 rfl (Nat.le_of_ble_eq_true rfl) dL_law_10 ⟨Nat.le_of_ble_eq_true rfl, Nat.le_of_ble_eq_true rfl⟩ (fun t9 H locs8 ht9 hB hS8 => ?_)
  obtain ⟨ad1, had1, hG1, -, -⟩ := hB
  rw [ht9] at hG1
  have h00 : ad1 0 0 = ad 0 0 := had1 0 0 (by decide)
  have hG2 : gC D cI cJ (lA0 s.heap.size) ad1 (cAl (rS0 (cellV L xs))) (cC (rS0 (cellV L xs)) (fun _ => 0) 0) H := gC_eqf (gC_al hG1 (fun k j h => (cC_rS0 (cellV L xs) (fun _ => 0) k j h).1)) (fun k j h => (cC_rS0 (cellV L xs) (fun _ => 0) k j h).2)
  clear hG1 hG ht9 had1
  refine lv_astore_n (lv' := [(1, .ref (ad 0 0)), (0, .ref b)]) hx hb dL_law_13 rfl hl (by decide) rfl (fun ls hl => ?_)
  generalize ad 0 0 = a0 at h00 hl
  have hE : gQ D (lA0 s.heap.size) (fun _ _ => 0) (fun _ _ => False) (fun k _ => rX cI cJ (fun _ _ => 0) 0 k) H := ⟨fun _ _ h => h.elim, fun _ _ h => h.elim, fun _ _ _ _ h => h.elim⟩
  have hup : ∀ q k, k = 32 ∨ k < 32 → rX cI cJ (adU (fun _ _ => 0) 32 0 q) 0 k = rX cI cJ (fun _ _ => 0) 0 k := fun q k hk => rX_up (by decide) hk
  refine q_newO (ci := 6) (fs := (List.range 32).map (rO (fun _ _ => 0) 0)) hx hb hts inlX5 tyX5 tyX5_ok hown (hts (.classLink RL 31 RX5) (by decide +kernel)) (hts (.instantiable RX5 32) (by decide +kernel)) (hts (.initialized RX5) (by decide +kernel)) hK hE hS8 hA rfl dfX5 (Nat.le_of_ble_eq_true rfl) (Nat.le_of_ble_eq_true rfl) dL_law_14 32 0 (ad' := adU (fun _ _ => 0) 32 0 H.size) (al' := rB 0) (E' := fun k _ => rX cI cJ (adU (fun _ _ => 0) 32 0 H.size) 0 k) (fun k i h => by rcases h with ⟨h0, h1 | h1⟩; exact Or.inr ⟨h1, h0⟩; omega) (fun _ _ h => h.elim) (by unfold adU; rw [if_pos ⟨rfl, rfl⟩]) (fun _ _ h => h.elim) (by rw [hup _ _ (Or.inl rfl), rX_obj]) (fun H5 hR5 hS hz5 hk5 => ?_)
  have hR6 : rZ D cI cJ (fun q => H.size ≤ q) H.size 0 H5 := ⟨adU (fun _ _ => 0) 32 0 H.size, by unfold adU; rw [if_pos ⟨rfl, rfl⟩], gQ.re hR5 (fun k i h => by rcases h with ⟨h0, h1 | h1⟩; (rw [h0, h1]; unfold adU; rw [if_pos ⟨rfl, rfl⟩]; exact Nat.le_refl _); omega)⟩
  refine lv_dup hx hb dL_law_17 rfl ?_
  refine lv_aload_n hx hb dL_law_18 rfl (lv_at hl 1 rfl) ?_
  refine lv_iconst (v := zI 0) hx hb dL_law_19 rfl ?_
  refine g_callA (va_runS (As := [.ref b, .int (zI 0)]) (rest := [.ref H.size, .ref H.size]) ⟨hx, hb, hml, hown, hts⟩ (m_L_cell l b L xs hL) (va_cwS 2 hts gL_law_L_cell rfl rfl rfl (by decide +kernel) ⟨Nat.le_of_ble_eq_true rfl, Nat.le_of_ble_eq_true rfl⟩) ⟨lXU_bl, fun U hU hW => ⟨rfl, by rw [hU]; exact (hX.moved hW.alike).kept (hS.2.1 b hbl hbA), by rw [hU]; exact Nat.lt_of_lt_of_le hbl hS.1⟩⟩ rfl rfl hl.1 rfl (lv_room (Nat.le_of_ble_eq_true rfl)) dL_law_20 ⟨Nat.le_of_ble_eq_true rfl, Nat.le_of_ble_eq_true rfl⟩) hS (fun q h => h.elim) (fun t9 H7 locs9 ht9 hal9 hB hsz hk hS => ?_)
  have hk7 : ∀ q : Nat, q < H5.size → H7[q]? = H5[q]? := fun q h => hk q h (fun h => h)
  have hz7 : H5.size ≤ H7.size := hsz
  clear hk hB hsz ht9 hal9
  have hR8 : rZ D cI cJ (fun q => H.size ≤ q) H.size 0 H7 := by obtain ⟨a9, h9, g9⟩ := hR6; exact ⟨a9, h9, g9.kept (fun q h1 _ => hk7 q h1)⟩
  refine z_i2l hx hb dL_law_23 (cellV_B L xs) ?_
  have hS0 : s.heap.size ≤ H.size := hS8.1
  refine g_callA (va_runI (b := H.size) (As := [.long (zL (cellV L xs))]) (rest := [.ref H.size]) ⟨hx, hb, hml, hown, hts⟩ (m_X5_init l D cI cJ (fun q => H.size ≤ q) H.size (cellV L xs)) (cwI 1 hts gL_law_X5_init rfl rfl rfl (hts (.initialized RX5) (by decide +kernel)) (hts (.methodLink RL 33 yX5_init) (by decide +kernel)) (hts (.instanceMethod yX5_init) (by decide +kernel)) rfl (by decide +kernel) ⟨Nat.le_of_ble_eq_true rfl, Nat.le_of_ble_eq_true rfl⟩) ⟨rZU_blind, fun U hU hW => ⟨rfl, by rw [hU]; exact hR8, va_K.moved hW.alike hK, fun q hq => by rw [hU] at hq; omega⟩⟩ rfl rfl hl.1 rfl (lv_room (Nat.le_of_ble_eq_true rfl)) dL_law_24 ⟨Nat.le_of_ble_eq_true rfl, Nat.le_of_ble_eq_true rfl⟩) hS (fun q h => hA q (Nat.le_trans hS0 h)) (fun t9 H9 locs9 ht9 hal9 hB hz9 hk9 hS => ?_)
  obtain ⟨br, hbr, hRR, -⟩ := hB
  rw [ht9] at hRR
  have hk10 : ∀ q : Nat, q < H.size → H9[q]? = H[q]? := fun q h => ((hk9 q (by omega) (by omega)).trans (hk7 q (by omega))).trans (hk5 q h)
  have hG3 := hG2.kept (H1 := H9) (fun q h1 _ => hk10 q h1)
  have hlt3 : ∀ k i, cAl (rS0 (cellV L xs)) k i → ad1 k i < H.size := fun k i h => (hG2.1 k i h).lt
  refine lv_astore_n (lv' := [(2, .ref H.size), (1, .ref a0), (0, .ref b)]) hx hb dL_law_27 rfl hl (by decide) rfl (fun ls hl => ?_)
  refine lv_iconst (v := zI 1) hx hb dL_law_28 rfl ?_
  refine va_newaK hx hb (atype := .long) (hts (.arrayClass .long) (by decide +kernel)) rfl dL_law_29 rfl (n := zI 1) (N := 1) (by decide) (by decide) (by decide) (Nat.le_of_ble_eq_true rfl) (Nat.le_of_ble_eq_true rfl) rfl fun H2 cB e1 z1 o1 hAr hNm => ?_
  have hcB : cB = cJ := Option.some.inj (hNm.symm.trans (hK.2 1 _ rfl).2)
  subst hcB
  refine W.eq (g2 := F0 m 31 ls [.ref H9.size]) rfl ?_
  have hO : va_at D vwCl (H9.size, oE cB (zL 0)) H2 := by show H2[H9.size]? = some (vp_cell _ _); rw [e1]; rfl
  have hlt4 : ∀ k i, rA k i → br k i < H9.size := fun k i h => (hRR.1 k i h).lt
  have hWW : lW D cI cB (lA0 s.heap.size) ad1 (rS0 (cellV L xs)) (fun _ => 0) 0 br (rS0 (cellV L xs)) H9.size (zL 0) H2 := by
    refine ⟨hG3.kept (fun q h1 _ => o1 q h1), gQ.re (gQ.kept hRR (fun q h1 _ => o1 q h1)) (fun k i h => hA _ (Nat.le_trans hS0 (hRR.2.1 k i h))), hO, hA _ (Nat.le_trans hS0 (by omega)), fun k i h => ?_, fun k i h => ?_, fun k i k' i' h h2 => ?_⟩
    · have := hlt3 k i h; omega
    · have := hlt4 k i h; omega
    · have := hlt3 k i h; have h3 : H.size ≤ br k' i' := hRR.2.1 k' i' h2; omega
  have hS2 : va_S (lA0 s.heap.size) s.heap H2 locs9 := ⟨Nat.le_trans hS.1 (by omega), fun x h1 h2 => (o1 x (Nat.lt_of_lt_of_le h1 hS.1)).trans (hS.2.1 x h1 h2), hS.2.2⟩
  refine lv_astore_n (lv' := [(3, .ref H9.size), (2, .ref H.size), (1, .ref a0), (0, .ref b)]) hx hb dL_law_31 rfl hl (by decide) rfl (fun ls hl => ?_)
  refine lv_iconst (v := zI ((1 : Nat) : Int)) hx hb dL_law_32 rfl ?_
  refine lv_istore (lv' := [(4, .int (zI ((1 : Nat) : Int))), (3, .ref H9.size), (2, .ref H.size), (1, .ref a0), (0, .ref b)]) hx hb dL_law_33 hl (by decide) rfl (fun ls hl => ?_)
  exact l_loop Z hr hlocks 512 H2 locs9 ls 1 _ _ (by omega) (by decide) (Nat.le_of_ble_eq_true rfl) (Nat.le_of_ble_eq_true rfl) ⟨ad1, br, rS0 (cellV L xs), fun _ => 0, 0, zL 0, h00, hbr, LI_rS0 _ _, hWW⟩ hS2 (lv_sub hl [0, 4, 3, 2, 1] rfl)
