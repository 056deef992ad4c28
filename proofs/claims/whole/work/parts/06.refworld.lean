/-! The reference's cells. S v i j: v is the field's number (its arrays by row and place) -/
def rK (v : Nat) : Nat := if v = 5 ∨ v = 20 ∨ v = 25 ∨ v = 30 ∨ v = 31 then 2 else if v = 23 ∨ v = 24 ∨ v = 26 then 3 else if v = 12 ∨ v = 13 ∨ v = 21 ∨ v = 22 then 1 else 0
def rW (v : Nat) : Nat := if v = 9 then 1000 else if v = 12 ∨ v = 13 ∨ v = 14 then 4 else if v = 21 then 12 else 1
def rN (v : Nat) : Nat := if v = 16 ∨ v = 17 ∨ v = 18 ∨ v = 19 then 64 else if v = 27 ∨ v = 28 ∨ v = 29 then 1000 else 12
def rF (ad : Nat → Nat → Nat) (S : Nat → Nat → Nat → Int) (v : Nat) : Value := if rK v = 2 then .int (zI (S v 0 0)) else if rK v = 3 then .long (zL (S v 0 0)) else .ref (ad v 0)
def rE (cI cJ : ClassId) (ad : Nat → Nat → Nat) (S : Nat → Nat → Nat → Int) (k : Nat) : va_E :=
  if k = 32 then .inr (6, (List.range 32).map (rF ad S)) else if rK k = 1 then .inl (cJ, rN k * rW k, .inr (.inl (fun t => zL (S k (t / rW k) (t % rW k))))) else .inl (cI, rN k * rW k, .inl (fun t => zI (S k (t / rW k) (t % rW k))))
def rA (k i : Nat) : Prop := i = 0 ∧ (k = 32 ∨ (k < 32 ∧ rK k < 2))
def gR (D : va_G) (cI cJ : ClassId) (A : Nat → Prop) (ad : Nat → Nat → Nat) (S : Nat → Nat → Nat → Int) (H : Heap) : Prop := gQ D A ad rA (fun k _ => rE cI cJ ad S k) H
def gRU (D : va_G) (cI cJ : ClassId) (A : Nat → Prop) (ad : Nat → Nat → Nat) (S : Nat → Nat → Nat → Int) (U : State) : Prop := gR D cI cJ A ad S U.heap ∧ va_K D vwCl [(cI, .int), (cJ, .long)] U
def su (S : Nat → Nat → Nat → Int) (v i j : Nat) (z : Int) : Nat → Nat → Nat → Int := fun v' i' j' => if v' = v ∧ i' = i ∧ j' = j then z else S v' i' j'
theorem rN_B (v : Nat) : rN v * rW v < 2147483648 := by
  have h1 : rN v ≤ 1000 := by unfold rN; (repeat' split) <;> omega
  have h2 : rW v ≤ 1000 := by unfold rW; (repeat' split) <;> omega
  exact Nat.lt_of_le_of_lt (Nat.mul_le_mul h1 h2) (by omega)
theorem rW_pos (v : Nat) : 0 < rW v := by unfold rW; (repeat' split) <;> omega
theorem rE_obj (cI cJ : ClassId) (ad : Nat → Nat → Nat) (S : Nat → Nat → Nat → Int) : rE cI cJ ad S 32 = .inr (6, (List.range 32).map (rF ad S)) := if_pos rfl
theorem rE_I {cI cJ : ClassId} {ad : Nat → Nat → Nat} {S : Nat → Nat → Nat → Int} {v : Nat} (h : v < 32) (h0 : rK v = 0) : rE cI cJ ad S v = .inl (cI, rN v * rW v, .inl (fun t => zI (S v (t / rW v) (t % rW v)))) := by
  unfold rE; rw [if_neg (by omega), if_neg (by omega)]
theorem rE_J {cI cJ : ClassId} {ad : Nat → Nat → Nat} {S : Nat → Nat → Nat → Int} {v : Nat} (h : v < 32) (h0 : rK v = 1) : rE cI cJ ad S v = .inl (cJ, rN v * rW v, .inr (.inl (fun t => zL (S v (t / rW v) (t % rW v))))) := by
  unfold rE; rw [if_neg (by omega), if_pos (by omega)]
theorem rE_other {cI cJ : ClassId} {ad : Nat → Nat → Nat} {S : Nat → Nat → Nat → Int} {v i j : Nat} {z : Int} {k : Nat} (h : k ≠ v) (hk : k < 32) : rE cI cJ ad (su S v i j z) k = rE cI cJ ad S k := by
  unfold rE
  have e : ∀ a b, su S v i j z k a b = S k a b := fun a b => by unfold su; rw [if_neg (fun q => h q.1)]
  have hk2 : ¬ k = 32 := by omega
  simp only [e, hk2, if_false]
theorem rE_arr {cI cJ : ClassId} {ad : Nat → Nat → Nat} {S : Nat → Nat → Nat → Int} {v i j : Nat} {z : Int} (hv : rK v < 2) : rE cI cJ ad (su S v i j z) 32 = rE cI cJ ad S 32 := by
  rw [rE_obj, rE_obj]
  congr 2
  apply List.map_congr_left
  intro f _
  unfold rF
  by_cases h : f = v
  · subst h
    rw [if_neg (by omega), if_neg (by omega), if_neg (by omega), if_neg (by omega)]
  · have e : su S v i j z f 0 0 = S f 0 0 := by unfold su; rw [if_neg (fun q => h q.1)]
    rw [e]
theorem rF_get {ad : Nat → Nat → Nat} {S : Nat → Nat → Nat → Int} {v : Nat} (h : v < 32) : ((List.range 32).map (rF ad S))[v]? = some (rF ad S v) := by
  rw [List.getElem?_map, List.getElem?_range h]; rfl
theorem rF_set {ad : Nat → Nat → Nat} {S : Nat → Nat → Nat → Int} {v : Nat} {z : Int} (h : v < 32) : (List.range 32).map (rF ad (su S v 0 0 z)) = ((List.range 32).map (rF ad S)).set v (rF ad (su S v 0 0 z) v) := by
  apply List.ext_getElem?
  intro j
  by_cases hj : j = v
  · subst hj
    rw [rF_get h, List.getElem?_set_self (by simpa using h)]
  · rw [List.getElem?_set_ne (Ne.symm hj)]
    by_cases hl : j < 32
    · rw [rF_get hl, rF_get hl]
      have e : su S v 0 0 z j 0 0 = S j 0 0 := by unfold su; rw [if_neg (fun q => hj q.1)]
      unfold rF
      rw [e]
    · rw [List.getElem?_eq_none (by simpa using hl), List.getElem?_eq_none (by simpa using hl)]
theorem su_cell {v i j w : Nat} {n : Nat} (hw : 0 < w) (hj : j < w) (q : Nat) : (q / w = i ∧ q % w = j) ↔ q = i * w + j := by
  constructor
  · rintro ⟨rfl, rfl⟩
    have := Nat.div_add_mod q w
    rw [Nat.mul_comm] at this
    omega
  · rintro rfl
    constructor
    · rw [Nat.mul_comm, Nat.mul_add_div hw, Nat.div_eq_of_lt hj]; omega
    · rw [Nat.mul_comm, Nat.mul_add_mod, Nat.mod_eq_of_lt hj]
theorem gRU_blind {D : va_G} {cI cJ : ClassId} {A : Nat → Prop} {ad : Nat → Nat → Nat} {S : Nat → Nat → Nat → Int} {as : List Value} : FrameBlind (va_Pc as (gRU D cI cJ A ad S)) := fun a U g mk q => by
  obtain ⟨q0, qP, qK⟩ := q
  exact ⟨q0, qP, va_K.moved (u := U) (U := U.calling g mk a) (Vm.Alike.refl U.vm) qK⟩
section RW
variable {p : Program} {l : Launch} {e : Env} {R : Room} {s : State} {m : MethodId} {args : Array Value} {below : List Frame} {meth : Method} {c : Code} {H : Heap} {locs : List Loc} {cells slots : Nat} {Q : State → Prop}
variable {cc : ByteArray} {pc : Nat} {ls : Array Slot} {rest : List Value} {D : va_G} {cI cJ : ClassId} {A : Nat → Prop} {H0 : Heap} {ad : Nat → Nat → Nat} {S : Nat → Nat → Nat → Int} {Ts : List Cond} {index : Nat}
theorem r_getI (hexec : p.tables.exec = Jvm.exec) (hb : c.code = cc) (hts : ∀ w ∈ Ts, w.before args s = true) (hin : ∀ w ∈ wsX50, w ∈ Ts) (hown : s.vm.findClass RX5 = some m.cls) (hK : va_K D vwCl [(cI, .int), (cJ, .long)] s) (hG : gR D cI cJ A ad S H) (v : Nat) (hv : v < 32) (hk : rK v = 2) (hlink : (Cond.fieldLink RX5 index (TX5 v).1 (TX5 v).2.1 (TX5 v).2.2.1).before args s = true) {z : Int} (hz : S v 0 0 = z) (hdg : decode cc pc = .ok (.getfield index, 3))
    (kk : W p l e R s m args below meth c H locs cells slots Q (F0 m (pc + 3) ls (.int (zI z) :: rest))) : W p l e R s m args below meth c H locs cells slots Q (F0 m pc ls (.ref (ad 32 0) :: rest)) :=
  q_get hexec hb hts hin hown hK hG (k := 32) (i := 0) ⟨rfl, Or.inl rfl⟩ (rE_obj cI cJ ad S) rfl v hv hlink (rF_get hv) hdg (by unfold rF; rw [if_pos hk, hz]; exact kk)
theorem r_getJ (hexec : p.tables.exec = Jvm.exec) (hb : c.code = cc) (hts : ∀ w ∈ Ts, w.before args s = true) (hin : ∀ w ∈ wsX50, w ∈ Ts) (hown : s.vm.findClass RX5 = some m.cls) (hK : va_K D vwCl [(cI, .int), (cJ, .long)] s) (hG : gR D cI cJ A ad S H) (v : Nat) (hv : v < 32) (hk : rK v = 3) (hlink : (Cond.fieldLink RX5 index (TX5 v).1 (TX5 v).2.1 (TX5 v).2.2.1).before args s = true) {z : Int} (hz : S v 0 0 = z) (hdg : decode cc pc = .ok (.getfield index, 3))
    (kk : W p l e R s m args below meth c H locs cells slots Q (F0 m (pc + 3) ls (.long (zL z) :: rest))) : W p l e R s m args below meth c H locs cells slots Q (F0 m pc ls (.ref (ad 32 0) :: rest)) :=
  q_get hexec hb hts hin hown hK hG (k := 32) (i := 0) ⟨rfl, Or.inl rfl⟩ (rE_obj cI cJ ad S) rfl v hv hlink (rF_get hv) hdg (by unfold rF; rw [if_neg (by omega), if_pos hk, hz]; exact kk)
theorem r_getA (hexec : p.tables.exec = Jvm.exec) (hb : c.code = cc) (hts : ∀ w ∈ Ts, w.before args s = true) (hin : ∀ w ∈ wsX50, w ∈ Ts) (hown : s.vm.findClass RX5 = some m.cls) (hK : va_K D vwCl [(cI, .int), (cJ, .long)] s) (hG : gR D cI cJ A ad S H) (v : Nat) (hv : v < 32) (hk : rK v < 2) (hlink : (Cond.fieldLink RX5 index (TX5 v).1 (TX5 v).2.1 (TX5 v).2.2.1).before args s = true) (hdg : decode cc pc = .ok (.getfield index, 3))
    (kk : W p l e R s m args below meth c H locs cells slots Q (F0 m (pc + 3) ls (.ref (ad v 0) :: rest))) : W p l e R s m args below meth c H locs cells slots Q (F0 m pc ls (.ref (ad 32 0) :: rest)) :=
  q_get hexec hb hts hin hown hK hG (k := 32) (i := 0) ⟨rfl, Or.inl rfl⟩ (rE_obj cI cJ ad S) rfl v hv hlink (rF_get hv) hdg (by unfold rF; rw [if_neg (by omega), if_neg (by omega)]; exact kk)
theorem r_putI (hexec : p.tables.exec = Jvm.exec) (hb : c.code = cc) (hts : ∀ w ∈ Ts, w.before args s = true) (hin : ∀ w ∈ wsX50, w ∈ Ts) (hown : s.vm.findClass RX5 = some m.cls) (hK : va_K D vwCl [(cI, .int), (cJ, .long)] s) (hG : gR D cI cJ A ad S H) (hS0 : va_S A H0 H locs) (v : Nat) (hv : v < 32) (hk : rK v = 2) (hlink : (Cond.fieldLink RX5 index (TX5 v).1 (TX5 v).2.1 (TX5 v).2.2.1).before args s = true) (hfin : (TX5 v).2.2.2 = false) (hd : tyX5 v = .int) {z : Int} (hdg : decode cc pc = .ok (.putfield index, 3))
    (kk : ∀ (H1 : Heap) (locs1 : List Loc), gR D cI cJ A ad (su S v 0 0 z) H1 → va_S A H0 H1 locs1 → W p l e R s m args below meth c H1 locs1 cells slots Q (F0 m (pc + 3) ls rest)) : W p l e R s m args below meth c H locs cells slots Q (F0 m pc ls (.int (zI z) :: .ref (ad 32 0) :: rest)) :=
  q_put hexec hb hts hin tyX5 tyX5_ok nmX5 hown hK hG hS0 (k := 32) (i := 0) ⟨rfl, Or.inl rfl⟩ (rE_obj cI cJ ad S) rfl v hv hlink (Or.inl hfin) (hd ▸ tyX5_ok v hv) rfl rfl (by simpa using hv)
    (E' := fun k _ => rE cI cJ ad (su S v 0 0 z) k) (fun k' i' ha hne => rE_other (fun q => by subst q; rcases ha.2 with h | h <;> omega) (by rcases ha with ⟨h1, h2 | h2⟩ <;> omega)) (by rw [rE_obj, rF_set hv]; congr 3; unfold rF; rw [if_pos hk]; simp [su]) hdg kk
theorem r_putJ (hexec : p.tables.exec = Jvm.exec) (hb : c.code = cc) (hts : ∀ w ∈ Ts, w.before args s = true) (hin : ∀ w ∈ wsX50, w ∈ Ts) (hown : s.vm.findClass RX5 = some m.cls) (hK : va_K D vwCl [(cI, .int), (cJ, .long)] s) (hG : gR D cI cJ A ad S H) (hS0 : va_S A H0 H locs) (v : Nat) (hv : v < 32) (hk : rK v = 3) (hlink : (Cond.fieldLink RX5 index (TX5 v).1 (TX5 v).2.1 (TX5 v).2.2.1).before args s = true) (hfin : (TX5 v).2.2.2 = false) (hd : tyX5 v = .long) {z : Int} (hdg : decode cc pc = .ok (.putfield index, 3))
    (kk : ∀ (H1 : Heap) (locs1 : List Loc), gR D cI cJ A ad (su S v 0 0 z) H1 → va_S A H0 H1 locs1 → W p l e R s m args below meth c H1 locs1 cells slots Q (F0 m (pc + 3) ls rest)) : W p l e R s m args below meth c H locs cells slots Q (F0 m pc ls (.long (zL z) :: .ref (ad 32 0) :: rest)) :=
  q_put hexec hb hts hin tyX5 tyX5_ok nmX5 hown hK hG hS0 (k := 32) (i := 0) ⟨rfl, Or.inl rfl⟩ (rE_obj cI cJ ad S) rfl v hv hlink (Or.inl hfin) (hd ▸ tyX5_ok v hv) rfl rfl (by simpa using hv)
    (E' := fun k _ => rE cI cJ ad (su S v 0 0 z) k) (fun k' i' ha hne => rE_other (fun q => by subst q; rcases ha.2 with h | h <;> omega) (by rcases ha with ⟨h1, h2 | h2⟩ <;> omega)) (by rw [rE_obj, rF_set hv]; congr 3; unfold rF; rw [if_neg (by omega), if_pos hk]; simp [su]) hdg kk
theorem r_iald (hexec : p.tables.exec = Jvm.exec) (hb : c.code = cc) (hK : va_K D vwCl [(cI, .int), (cJ, .long)] s) (hG : gR D cI cJ A ad S H) (v : Nat) (hv : v < 32) (hk : rK v = 0) (i j : Nat) {z : Int} (hz : z = i * rW v + j) (hi : i < rN v) (hj : j < rW v) {w : Int} (hw : S v i j = w) (hdg : decode cc pc = .ok (.iaload, 1))
    (kk : W p l e R s m args below meth c H locs cells slots Q (F0 m (pc + 1) ls (.int (zI w) :: rest))) : W p l e R s m args below meth c H locs cells slots Q (F0 m pc ls (.int (zI z) :: .ref (ad v 0) :: rest)) := by
  have hzt : z.toNat = i * rW v + j := by rw [hz]; exact Int.toNat_natCast (i * rW v + j)
  have hlt : i * rW v + j < rN v * rW v := by
    have := Nat.mul_le_mul_right (rW v) (Nat.succ_le_of_lt hi)
    rw [Nat.succ_mul] at this
    omega
  refine q_iald hexec hb hK hG 0 (k := v) (i := 0) ⟨rfl, Or.inr ⟨hv, by omega⟩⟩ (rE_I hv hk) rfl (by omega) (by omega) (rN_B v) (v := zI w) ?_ hdg kk
  rw [hzt]
  have h2 := (su_cell (v := v) (n := 0) (i := i) (j := j) (rW_pos v) hj (i * rW v + j)).mpr rfl
  rw [h2.1, h2.2, hw]
theorem r_lald (hexec : p.tables.exec = Jvm.exec) (hb : c.code = cc) (hK : va_K D vwCl [(cI, .int), (cJ, .long)] s) (hG : gR D cI cJ A ad S H) (v : Nat) (hv : v < 32) (hk : rK v = 1) (i j : Nat) {z : Int} (hz : z = i * rW v + j) (hi : i < rN v) (hj : j < rW v) {w : Int} (hw : S v i j = w) (hdg : decode cc pc = .ok (.laload, 1))
    (kk : W p l e R s m args below meth c H locs cells slots Q (F0 m (pc + 1) ls (.long (zL w) :: rest))) : W p l e R s m args below meth c H locs cells slots Q (F0 m pc ls (.int (zI z) :: .ref (ad v 0) :: rest)) := by
  have hzt : z.toNat = i * rW v + j := by rw [hz]; exact Int.toNat_natCast (i * rW v + j)
  have hlt : i * rW v + j < rN v * rW v := by
    have := Nat.mul_le_mul_right (rW v) (Nat.succ_le_of_lt hi)
    rw [Nat.succ_mul] at this
    omega
  refine q_lald hexec hb hK hG 1 (k := v) (i := 0) ⟨rfl, Or.inr ⟨hv, by omega⟩⟩ (rE_J hv hk) rfl (by omega) (by omega) (rN_B v) (v := zL w) ?_ hdg kk
  rw [hzt]
  have h2 := (su_cell (v := v) (n := 0) (i := i) (j := j) (rW_pos v) hj (i * rW v + j)).mpr rfl
  rw [h2.1, h2.2, hw]
theorem r_iast (hexec : p.tables.exec = Jvm.exec) (hb : c.code = cc) (hK : va_K D vwCl [(cI, .int), (cJ, .long)] s) (hG : gR D cI cJ A ad S H) (hS : va_S A H0 H locs) (v : Nat) (hv : v < 32) (hk : rK v = 0) (i j : Nat) {z : Int} (hz : z = i * rW v + j) (hi : i < rN v) (hj : j < rW v) {w : Int} (hdg : decode cc pc = .ok (.iastore, 1))
    (kk : ∀ (H1 : Heap) (locs1 : List Loc), gR D cI cJ A ad (su S v i j w) H1 → va_S A H0 H1 locs1 → W p l e R s m args below meth c H1 locs1 cells slots Q (F0 m (pc + 1) ls rest)) : W p l e R s m args below meth c H locs cells slots Q (F0 m pc ls (.int (zI w) :: .int (zI z) :: .ref (ad v 0) :: rest)) := by
  have hzt : z.toNat = i * rW v + j := by rw [hz]; exact Int.toNat_natCast (i * rW v + j)
  have hlt : i * rW v + j < rN v * rW v := by
    have := Nat.mul_le_mul_right (rW v) (Nat.succ_le_of_lt hi)
    rw [Nat.succ_mul] at this
    omega
  refine q_iast hexec hb hK hG hS 0 (k := v) (i := 0) ⟨rfl, Or.inr ⟨hv, by omega⟩⟩ (rE_I hv hk) rfl (by omega) (by omega) (rN_B v)
    (E' := fun k _ => rE cI cJ ad (su S v i j w) k) (fun k' i' ha hne => ?_) (rE_I hv hk) (fun q _ => ?_) hdg kk
  · rcases ha with ⟨rfl, rfl | h⟩
    · exact rE_arr (by omega)
    · exact rE_other (fun q => hne ⟨q, rfl⟩) h.1
  · rw [hzt]
    show zI (su S v i j w v (q / rW v) (q % rW v)) = _
    have h2 := su_cell (v := v) (n := 0) (i := i) (j := j) (rW_pos v) hj q
    unfold su
    by_cases h : q = i * rW v + j
    · rw [if_pos ⟨rfl, h2.mpr h⟩, if_pos h]
    · rw [if_neg (fun z => h (h2.mp z.2)), if_neg h]
theorem r_last (hexec : p.tables.exec = Jvm.exec) (hb : c.code = cc) (hK : va_K D vwCl [(cI, .int), (cJ, .long)] s) (hG : gR D cI cJ A ad S H) (hS : va_S A H0 H locs) (v : Nat) (hv : v < 32) (hk : rK v = 1) (i j : Nat) {z : Int} (hz : z = i * rW v + j) (hi : i < rN v) (hj : j < rW v) {w : Int} (hdg : decode cc pc = .ok (.lastore, 1))
    (kk : ∀ (H1 : Heap) (locs1 : List Loc), gR D cI cJ A ad (su S v i j w) H1 → va_S A H0 H1 locs1 → W p l e R s m args below meth c H1 locs1 cells slots Q (F0 m (pc + 1) ls rest)) : W p l e R s m args below meth c H locs cells slots Q (F0 m pc ls (.long (zL w) :: .int (zI z) :: .ref (ad v 0) :: rest)) := by
  have hzt : z.toNat = i * rW v + j := by rw [hz]; exact Int.toNat_natCast (i * rW v + j)
  have hlt : i * rW v + j < rN v * rW v := by
    have := Nat.mul_le_mul_right (rW v) (Nat.succ_le_of_lt hi)
    rw [Nat.succ_mul] at this
    omega
  refine q_last hexec hb hK hG hS 1 (k := v) (i := 0) ⟨rfl, Or.inr ⟨hv, by omega⟩⟩ (rE_J hv hk) rfl (by omega) (by omega) (rN_B v)
    (E' := fun k _ => rE cI cJ ad (su S v i j w) k) (fun k' i' ha hne => ?_) (rE_J hv hk) (fun q _ => ?_) hdg kk
  · rcases ha with ⟨rfl, rfl | h⟩
    · exact rE_arr (by omega)
    · exact rE_other (fun q => hne ⟨q, rfl⟩) h.1
  · rw [hzt]
    show zL (su S v i j w v (q / rW v) (q % rW v)) = _
    have h2 := su_cell (v := v) (n := 0) (i := i) (j := j) (rW_pos v) hj q
    unfold su
    by_cases h : q = i * rW v + j
    · rw [if_pos ⟨rfl, h2.mpr h⟩, if_pos h]
    · rw [if_neg (fun z => h (h2.mp z.2)), if_neg h]
/-- a call of one of the reference's own methods -/
theorem r_callV {y : MethodName} {bytes : ByteArray} {maxL nL mc ms n : Nat} {ret : Option FieldType} {ws : List Cond} {rm : Room} {own : String} {As st0 : List Value} {v : Option Value} {S' : Nat → Nat → Nat → Int} (F : CallFix p m c cc nL s args Ts own) (hM : Met l y ws rm (va_Pc (.ref (ad 32 0) :: As) (gRU D cI cJ A ad S)) (gO v (gRU D cI cJ A ad S') A) mc ms A) (cw : CallW R s args own RX5 index y bytes maxL ret ws rm mc ms n) (hK : va_K D vwCl [(cI, .int), (cJ, .long)] s) (hG : gR D cI cJ A ad S H) (hS : va_S A H0 H locs)
    (hn : As.length = n) (hsize : ls.size = nL) (hst : st0 = As.reverse ++ .ref (ad 32 0) :: rest) (hW : (rest.map fun v => v.category).sum ≤ 8) (hdg : decode cc pc = .ok (.invokevirtual index, 3)) (hf : cells + mc ≤ R.cells ∧ slots + ms ≤ R.slots)
    (kk : ∀ (H1 : Heap) (locs1 : List Loc), gR D cI cJ A ad S' H1 → va_S A H0 H1 locs1 → W p l e R s m args below meth c H1 locs1 (cells + mc) (slots + ms) Q (F0 m (pc + 3) ls (v.toList ++ rest))) : W p l e R s m args below meth c H locs cells slots Q (F0 m pc ls st0) := by
  refine g_call (va_runV (As := As) (rest := rest) F hM cw ⟨gRU_blind, va_recv hK (hG.one (k := 32) (i := 0) ⟨rfl, Or.inl rfl⟩ (rE_obj cI cJ ad S)) (ci := 6) (q0 := 0) rfl rfl, fun U hU hW => ⟨rfl, by rw [hU]; exact hG, va_K.moved hW.alike hK⟩⟩ rfl hn hsize hst (lv_room hW) hdg hf) hS (fun t H1 locs1 ht hvm hB _ hS1 => ?_)
  refine kk H1 locs1 ?_ hS1
  have := hB.1
  rw [ht] at this
  exact this
end RW
