/-! The class's cells: kind 0 the object, 1 its events, 2 machines, 3 buffers, 4 came, 5 times, 6 faults (4 i + j), 7 rows. C k i f: what field (or place) f holds; references by the number of what they point to, -1: null -/
def cT : Nat → Nat → Nat
  | 0, 0 => 1 | 0, 2 => 4 | 0, 4 => 9 | 0, 7 => 3 | 0, 9 => 1 | 0, 10 => 1
  | 2, 2 => 4 | 2, 3 => 5 | 2, 4 => 5 | 2, 6 => 8 | 2, 7 => 8 | 2, 14 => 1 | 2, 15 => 7
  | 3, 2 => 6
  | 6, 0 => 1 | 6, 1 => 1 | 6, 3 => 8
  | 7, 4 => 9
  | _, _ => 0
def cNf : Nat → Nat
  | 0 => 11 | 2 => 16 | 3 => 5 | 6 => 4 | 7 => 5 | _ => 0
def cCl : Nat → Nat
  | 0 => 5 | 2 => 3 | 3 => 1 | 6 => 2 | 7 => 4 | _ => 0
def cV (ad : Nat → Nat → Nat) (k f : Nat) (z : Int) : Value := if cT k f = 0 then .int (zI z) else if cT k f = 1 then .long (zL z) else rf ad (cT k f - 2) z
def cFs (ad : Nat → Nat → Nat) (k : Nat) (g : Nat → Int) : List Value := (List.range (cNf k)).map (fun f => cV ad k f (g f))
def cE (cI cJ : ClassId) (ad : Nat → Nat → Nat) (k : Nat) (g : Nat → Int) : va_E :=
  if k = 1 then .inl (cI, 3000, .inl (fun t => zI (g t))) else if k = 4 then .inl (cI, 1000, .inl (fun t => zI (g t))) else if k = 5 then .inl (cJ, 12, .inr (.inl (fun t => zL (g t)))) else .inr (cCl k, cFs ad k g)
def gC (D : va_G) (cI cJ : ClassId) (A : Nat → Prop) (ad : Nat → Nat → Nat) (al : Nat → Nat → Prop) (C : sT) (H : Heap) : Prop := gQ D A ad al (fun k i => cE cI cJ ad k (C k i)) H
def gCU (D : va_G) (cI cJ : ClassId) (A : Nat → Prop) (ad : Nat → Nat → Nat) (al : Nat → Nat → Prop) (C : sT) (U : State) : Prop := gC D cI cJ A ad al C U.heap ∧ va_K D vwCl [(cI, .int), (cJ, .long)] U ∧ ∀ q, U.heap.size ≤ q → A q
theorem su_f {S : sT} {v i j : Nat} {z : Int} {v' i' j' : Nat} (h : j' ≠ j) : su S v i j z v' i' j' = S v' i' j' := by unfold su; rw [if_neg (fun q => h q.2.2)]
theorem su_vi {S : sT} {v i j : Nat} {z : Int} {v' i' : Nat} (h : ¬ (v' = v ∧ i' = i)) : su S v i j z v' i' = S v' i' := by funext j'; unfold su; rw [if_neg (fun q => h ⟨q.1, q.2.1⟩)]
theorem cFs_get {ad : Nat → Nat → Nat} {k f : Nat} {g : Nat → Int} (h : f < cNf k) : (cFs ad k g)[f]? = some (cV ad k f (g f)) := by
  unfold cFs; rw [List.getElem?_map, List.getElem?_range h]; rfl
theorem cFs_len {ad : Nat → Nat → Nat} {k : Nat} {g : Nat → Int} : (cFs ad k g).length = cNf k := by simp [cFs]
theorem cFs_set {ad : Nat → Nat → Nat} {C : sT} {k i f : Nat} {z : Int} (h : f < cNf k) : cFs ad k (su C k i f z k i) = (cFs ad k (C k i)).set f (cV ad k f z) := by
  apply List.ext_getElem?
  intro j
  by_cases hj : j = f
  · subst hj
    rw [cFs_get h, List.getElem?_set_self (by rw [cFs_len]; exact h), su_same]
  · rw [List.getElem?_set_ne (Ne.symm hj)]
    by_cases hl : j < cNf k
    · rw [cFs_get hl, cFs_get hl, su_f hj]
    · rw [List.getElem?_eq_none (by rw [cFs_len]; omega), List.getElem?_eq_none (by rw [cFs_len]; omega)]
theorem cE_obj {cI cJ : ClassId} {ad : Nat → Nat → Nat} {k : Nat} {g : Nat → Int} (h : k ≠ 1 ∧ k ≠ 4 ∧ k ≠ 5) : cE cI cJ ad k g = .inr (cCl k, cFs ad k g) := by
  unfold cE; rw [if_neg h.1, if_neg h.2.1, if_neg h.2.2]
theorem gCU_blind {D : va_G} {cI cJ : ClassId} {A : Nat → Prop} {ad : Nat → Nat → Nat} {al : Nat → Nat → Prop} {C : sT} {as : List Value} : FrameBlind (va_Pc as (gCU D cI cJ A ad al C)) := fun a U g mk q => by
  obtain ⟨q0, qP, qK, qA⟩ := q
  exact ⟨q0, qP, va_K.moved (u := U) (U := U.calling g mk a) (Vm.Alike.refl U.vm) qK, qA⟩
section CW
variable {p : Program} {l : Launch} {e : Env} {R : Room} {s : State} {m : MethodId} {args : Array Value} {below : List Frame} {meth : Method} {c : Code} {H : Heap} {locs : List Loc} {cells slots : Nat} {Q : State → Prop}
variable {cc : ByteArray} {pc : Nat} {ls : Array Slot} {rest : List Value} {D : va_G} {cI cJ : ClassId} {A : Nat → Prop} {H0 : Heap} {ad : Nat → Nat → Nat} {al : Nat → Nat → Prop} {C : sT} {Ts : List Cond} {index : Nat} {own Cn : String} {T : u_T}
theorem c_getV (hexec : p.tables.exec = Jvm.exec) (hb : c.code = cc) (hts : ∀ w ∈ Ts, w.before args s = true) (k : Nat) (hin : ∀ w ∈ u_ws Cn T (cNf k), w ∈ Ts) (hown : s.vm.findClass own = some m.cls) (hK : va_K D vwCl [(cI, .int), (cJ, .long)] s) (hG : gC D cI cJ A ad al C H) (i f : Nat) (hal : al k i) (hk : k ≠ 1 ∧ k ≠ 4 ∧ k ≠ 5) (hc : vwCl[cCl k]? = some (Cn, T, cNf k)) (hf : f < cNf k) (hlink : (Cond.fieldLink own index (T f).1 (T f).2.1 (T f).2.2.1).before args s = true) {v : Value} (hv : cV ad k f (C k i f) = v) (hdg : decode cc pc = .ok (.getfield index, 3))
    (kk : W p l e R s m args below meth c H locs cells slots Q (F0 m (pc + 3) ls (v :: rest))) : W p l e R s m args below meth c H locs cells slots Q (F0 m pc ls (.ref (ad k i) :: rest)) :=
  q_get hexec hb hts hin hown hK hG hal (cE_obj hk) hc f hf hlink (by rw [cFs_get hf, hv]) hdg kk
theorem cV_I {k f : Nat} {z w : Int} (ht : cT k f = 0) (h : w = z) : cV ad k f w = .int (zI z) := by unfold cV; rw [if_pos ht, h]
theorem cV_J {k f : Nat} {z w : Int} (ht : cT k f = 1) (h : w = z) : cV ad k f w = .long (zL z) := by unfold cV; rw [if_neg (by omega), if_pos ht, h]
theorem cV_F {k f t : Nat} {z w : Int} (ht : cT k f = t + 2) (h : w = z) : cV ad k f w = rf ad t z := by unfold cV; rw [if_neg (by omega), if_neg (by omega), h, ht]; rfl
theorem cV_R {k f t j : Nat} {w : Int} (ht : cT k f = t + 2) (h : w = (j : Int)) : cV ad k f w = .ref (ad t j) := by rw [cV_F ht h]; exact rf_s rfl
theorem cV_N {k f t : Nat} {w : Int} (ht : cT k f = t + 2) (h : w < 0) : cV ad k f w = .null := by rw [cV_F ht rfl]; exact rf_n h
theorem c_putV (hexec : p.tables.exec = Jvm.exec) (hb : c.code = cc) (hts : ∀ w ∈ Ts, w.before args s = true) (k : Nat) (hin : ∀ w ∈ u_ws Cn T (cNf k), w ∈ Ts) (ty0 : Nat → FieldType) (hty : ∀ j, j < cNf k → parseFieldDescriptor (T j).2.2.1 = some (ty0 j)) (hnm : ∀ a, a < cNf k → ∀ b, b < cNf k → a ≠ b → (T a).2.1 ≠ (T b).2.1) (hown : s.vm.findClass own = some m.cls) (hK : va_K D vwCl [(cI, .int), (cJ, .long)] s) (hG : gC D cI cJ A ad al C H) (hS0 : va_S A H0 H locs) (i f : Nat) (hal : al k i) (hk : k ≠ 1 ∧ k ≠ 4 ∧ k ≠ 5) (hc : vwCl[cCl k]? = some (Cn, T, cNf k)) (hf : f < cNf k) (hlink : (Cond.fieldLink own index (T f).1 (T f).2.1 (T f).2.2.1).before args s = true) (hfin : (T f).2.2.2 = false ∨ ((T f).2.2.2 = true ∧ meth.name = "<init>" ∧ (T f).1 = own)) {v : Value} {z : Int} (hv : cV ad k f z = v) (hn : narrow (ty0 f) v = v) (hfit : fits (ty0 f) v = true)
    (hdg : decode cc pc = .ok (.putfield index, 3)) (kk : ∀ (H1 : Heap) (locs1 : List Loc), gC D cI cJ A ad al (su C k i f z) H1 → va_S A H0 H1 locs1 → W p l e R s m args below meth c H1 locs1 cells slots Q (F0 m (pc + 3) ls rest)) : W p l e R s m args below meth c H locs cells slots Q (F0 m pc ls (v :: .ref (ad k i) :: rest)) :=
  q_put hexec hb hts hin ty0 hty hnm hown hK hG hS0 hal (cE_obj hk) hc f hf hlink hfin (hty f hf) hn hfit (by rw [cFs_len]; exact hf)
    (E' := fun k' i' => cE cI cJ ad k' (su C k i f z k' i')) (fun k' i' _ hne => by rw [su_vi hne]) (by rw [cE_obj hk, cFs_set hf, hv]) hdg kk
theorem c_iald (hexec : p.tables.exec = Jvm.exec) (hb : c.code = cc) (hK : va_K D vwCl [(cI, .int), (cJ, .long)] s) (hG : gC D cI cJ A ad al C H) (k i N : Nat) (hal : al k i) (hE : ∀ g : Nat → Int, cE cI cJ ad k g = .inl (cI, N, .inl (fun t => zI (g t)))) {z : Int} (h0 : 0 ≤ z) (h1 : z < N) (hn : N < 2147483648) {w : Int} (hw : C k i z.toNat = w) (hdg : decode cc pc = .ok (.iaload, 1))
    (kk : W p l e R s m args below meth c H locs cells slots Q (F0 m (pc + 1) ls (.int (zI w) :: rest))) : W p l e R s m args below meth c H locs cells slots Q (F0 m pc ls (.int (zI z) :: .ref (ad k i) :: rest)) :=
  q_iald hexec hb hK hG 0 hal (hE _) rfl h0 h1 hn (v := zI w) (by rw [hw]) hdg kk
theorem c_lald (hexec : p.tables.exec = Jvm.exec) (hb : c.code = cc) (hK : va_K D vwCl [(cI, .int), (cJ, .long)] s) (hG : gC D cI cJ A ad al C H) (i : Nat) (hal : al 5 i) {z : Int} (h0 : 0 ≤ z) (h1 : z < 12) {w : Int} (hw : C 5 i z.toNat = w) (hdg : decode cc pc = .ok (.laload, 1))
    (kk : W p l e R s m args below meth c H locs cells slots Q (F0 m (pc + 1) ls (.long (zL w) :: rest))) : W p l e R s m args below meth c H locs cells slots Q (F0 m pc ls (.int (zI z) :: .ref (ad 5 i) :: rest)) :=
  q_lald hexec hb hK hG 1 hal (cA := cJ) (n := 12) (f := fun t => zL (C 5 i t)) rfl rfl h0 h1 (by decide) (v := zL w) (by rw [hw]) hdg kk
theorem c_iast (hexec : p.tables.exec = Jvm.exec) (hb : c.code = cc) (hK : va_K D vwCl [(cI, .int), (cJ, .long)] s) (hG : gC D cI cJ A ad al C H) (hS : va_S A H0 H locs) (k i N : Nat) (hal : al k i) (hE : ∀ g : Nat → Int, cE cI cJ ad k g = .inl (cI, N, .inl (fun t => zI (g t)))) {z : Int} (h0 : 0 ≤ z) (h1 : z < N) (hn : N < 2147483648) {w : Int} (hdg : decode cc pc = .ok (.iastore, 1))
    (kk : ∀ (H1 : Heap) (locs1 : List Loc), gC D cI cJ A ad al (su C k i z.toNat w) H1 → va_S A H0 H1 locs1 → W p l e R s m args below meth c H1 locs1 cells slots Q (F0 m (pc + 1) ls rest)) : W p l e R s m args below meth c H locs cells slots Q (F0 m pc ls (.int (zI w) :: .int (zI z) :: .ref (ad k i) :: rest)) :=
  q_iast hexec hb hK hG hS 0 hal (hE _) rfl h0 h1 hn (E' := fun k' i' => cE cI cJ ad k' (su C k i z.toNat w k' i')) (fun k' i' _ hne => by rw [su_vi hne]) (hE _) (fun j _ => by
    show zI (su C k i z.toNat w k i j) = _
    unfold su
    by_cases h : j = z.toNat
    · rw [if_pos ⟨rfl, rfl, h⟩, if_pos h]
    · rw [if_neg (fun q => h q.2.2), if_neg h]) hdg kk
theorem c_last (hexec : p.tables.exec = Jvm.exec) (hb : c.code = cc) (hK : va_K D vwCl [(cI, .int), (cJ, .long)] s) (hG : gC D cI cJ A ad al C H) (hS : va_S A H0 H locs) (i : Nat) (hal : al 5 i) {z : Int} (h0 : 0 ≤ z) (h1 : z < 12) {w : Int} (hdg : decode cc pc = .ok (.lastore, 1))
    (kk : ∀ (H1 : Heap) (locs1 : List Loc), gC D cI cJ A ad al (su C 5 i z.toNat w) H1 → va_S A H0 H1 locs1 → W p l e R s m args below meth c H1 locs1 cells slots Q (F0 m (pc + 1) ls rest)) : W p l e R s m args below meth c H locs cells slots Q (F0 m pc ls (.long (zL w) :: .int (zI z) :: .ref (ad 5 i) :: rest)) :=
  q_last hexec hb hK hG hS 1 hal (cA := cJ) (n := 12) (f := fun t => zL (C 5 i t)) rfl rfl h0 h1 (by decide) (E' := fun k' i' => cE cI cJ ad k' (su C 5 i z.toNat w k' i')) (fun k' i' _ hne => by rw [su_vi hne]) (f' := fun t => zL (su C 5 i z.toNat w 5 i t)) rfl (fun j _ => by
    show zL (su C 5 i z.toNat w 5 i j) = _
    unfold su
    by_cases h : j = z.toNat
    · rw [if_pos ⟨rfl, rfl, h⟩, if_pos h]
    · rw [if_neg (fun q => h q.2.2), if_neg h]) hdg kk
theorem c_alen (hexec : p.tables.exec = Jvm.exec) (hb : c.code = cc) (hK : va_K D vwCl [(cI, .int), (cJ, .long)] s) (hG : gC D cI cJ A ad al C H) (i : Nat) (hal : al 5 i) (hdg : decode cc pc = .ok (.arraylength, 1))
    (kk : W p l e R s m args below meth c H locs cells slots Q (F0 m (pc + 1) ls (.int (zI 12) :: rest))) : W p l e R s m args below meth c H locs cells slots Q (F0 m pc ls (.ref (ad 5 i) :: rest)) :=
  q_alen hexec hb hK hG 1 hal (cA := cJ) (x := (12, .inr (.inl (fun t => zL (C 5 i t))))) rfl (ty := .long) rfl rfl hdg kk
/-- a call of one of the class's own methods; a static one -/
theorem c_callV {y : MethodName} {bytes : ByteArray} {maxL nL mc ms n : Nat} {ret : Option FieldType} {ws : List Cond} {rm : Room} {As st0 : List Value} {v : Option Value} {B : State → Prop} (F : CallFix p m c cc nL s args Ts own) (kb ib : Nat) (hM : Met l y ws rm (va_Pc (.ref (ad kb ib) :: As) (gCU D cI cJ A ad al C)) (gO v B A) mc ms A) (cw : CallW R s args own Cn index y bytes maxL ret ws rm mc ms n) (hal : al kb ib) (hkb : kb ≠ 1 ∧ kb ≠ 4 ∧ kb ≠ 5) (hcl : vwCl[cCl kb]? = some (Cn, T, cNf kb)) (hK : va_K D vwCl [(cI, .int), (cJ, .long)] s) (hG : gC D cI cJ A ad al C H) (hS : va_S A H0 H locs) (hA : ∀ q, H0.size ≤ q → A q)
    (hn : As.length = n) (hsize : ls.size = nL) (hst : st0 = As.reverse ++ .ref (ad kb ib) :: rest) (hW : (rest.map fun v => v.category).sum ≤ 8) (hdg : decode cc pc = .ok (.invokevirtual index, 3)) (hf : cells + mc ≤ R.cells ∧ slots + ms ≤ R.slots)
    (kk : ∀ (t : State) (H1 : Heap) (locs1 : List Loc), t.heap = H1 → B t → va_S A H0 H1 locs1 → W p l e R s m args below meth c H1 locs1 (cells + mc) (slots + ms) Q (F0 m (pc + 3) ls (v.toList ++ rest))) : W p l e R s m args below meth c H locs cells slots Q (F0 m pc ls st0) :=
  g_call (va_runV (As := As) (rest := rest) F hM cw ⟨gCU_blind, va_recv hK (hG.one hal (cE_obj hkb)) (ci := cCl kb) (q0 := 0) hcl rfl, fun U hU hW => ⟨rfl, by rw [hU]; exact hG, va_K.moved hW.alike hK, fun q hq => hA q (Nat.le_trans hS.1 (by rw [← hU]; exact hq))⟩⟩ rfl hn hsize hst (lv_room hW) hdg hf) hS (fun t H1 locs1 ht hvm hB _ hS1 => kk t H1 locs1 ht hB hS1)
theorem c_callS {y : MethodName} {bytes : ByteArray} {maxL nL mc ms n : Nat} {ret : Option FieldType} {ws : List Cond} {rm : Room} {As st0 : List Value} {v : Option Value} {B : State → Prop} (F : CallFix p m c cc nL s args Ts own) (hM : Met l y ws rm (va_Pc As (gCU D cI cJ A ad al C)) (gO v B A) mc ms A) (cw : CallB R s args own index y bytes maxL ret ws rm mc ms n ∧ (Cond.static y).before args s = true) (hK : va_K D vwCl [(cI, .int), (cJ, .long)] s) (hG : gC D cI cJ A ad al C H) (hS : va_S A H0 H locs) (hA : ∀ q, H0.size ≤ q → A q)
    (hn : As.length = n) (hsize : ls.size = nL) (hst : st0 = As.reverse ++ rest) (hW : (rest.map fun v => v.category).sum ≤ 8) (hdg : decode cc pc = .ok (.invokestatic index, 3)) (hf : cells + mc ≤ R.cells ∧ slots + ms ≤ R.slots)
    (kk : ∀ (t : State) (H1 : Heap) (locs1 : List Loc), t.heap = H1 → B t → va_S A H0 H1 locs1 → W p l e R s m args below meth c H1 locs1 (cells + mc) (slots + ms) Q (F0 m (pc + 3) ls (v.toList ++ rest))) : W p l e R s m args below meth c H locs cells slots Q (F0 m pc ls st0) :=
  g_call (va_runS (As := As) (rest := rest) F hM cw ⟨gCU_blind, fun U hU hW => ⟨rfl, by rw [hU]; exact hG, va_K.moved hW.alike hK, fun q hq => hA q (Nat.le_trans hS.1 (by rw [← hU]; exact hq))⟩⟩ rfl hn hsize hst (lv_room hW) hdg hf) hS (fun t H1 locs1 ht hvm hB _ hS1 => kk t H1 locs1 ht hB hS1)
end CW
