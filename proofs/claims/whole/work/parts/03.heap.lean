/-! The heap as a family of cells: kind k, number i; ad: the address, al: which are there, E: what they hold -/
def gQ (D : va_G) (A : Nat → Prop) (ad : Nat → Nat → Nat) (al : Nat → Nat → Prop) (E : Nat → Nat → va_E) (H : Heap) : Prop :=
  (∀ k i, al k i → va_at D vwCl (ad k i, E k i) H) ∧ (∀ k i, al k i → A (ad k i)) ∧ ∀ k i k' i', al k i → al k' i' → ad k' i' = ad k i → k' = k ∧ i' = i
theorem gQ.one {D : va_G} {A : Nat → Prop} {ad : Nat → Nat → Nat} {al : Nat → Nat → Prop} {E : Nat → Nat → va_E} {H : Heap} (h : gQ D A ad al E H) {k i : Nat} (hal : al k i) {e : va_E} (he : E k i = e) : va_P D vwCl [(ad k i, e)] H := by
  subst he
  intro j q hq
  match j, hq with
  | 0, hq => cases hq; exact h.1 k i hal
  | j + 1, hq => simp at hq
theorem gQ.store {D : va_G} {A : Nat → Prop} {ad : Nat → Nat → Nat} {al : Nat → Nat → Prop} {E E' : Nat → Nat → va_E} {H H1 : Heap} (h : gQ D A ad al E H) {k i : Nat} (hal : al k i)
    (hne : ∀ k' i', al k' i' → ¬ (k' = k ∧ i' = i) → E' k' i' = E k' i') (he : va_at D vwCl (ad k i, E' k i) H1) (oq : ∀ q : Nat, q ≠ ad k i → H1[q]? = H[q]?) : gQ D A ad al E' H1 := by
  refine ⟨fun k' i' h' => ?_, h.2.1, h.2.2⟩
  by_cases hc : k' = k ∧ i' = i
  · obtain ⟨rfl, rfl⟩ := hc
    exact he
  · rw [hne k' i' h' hc]
    exact (h.1 k' i' h').kept (oq _ (fun z => hc (h.2.2 k i k' i' hal h' z)))
theorem gQ.kept {D : va_G} {A : Nat → Prop} {ad : Nat → Nat → Nat} {al : Nat → Nat → Prop} {E : Nat → Nat → va_E} {H H1 : Heap} (h : gQ D A ad al E H) (hk : ∀ q : Nat, q < H.size → A q → H1[q]? = H[q]?) : gQ D A ad al E H1 :=
  ⟨fun k i h' => (h.1 k i h').kept (hk _ (h.1 k i h').lt (h.2.1 k i h')), h.2.1, h.2.2⟩
theorem gQ.congr {D : va_G} {A : Nat → Prop} {ad : Nat → Nat → Nat} {al : Nat → Nat → Prop} {E E' : Nat → Nat → va_E} {H : Heap} (h : gQ D A ad al E H) (he : ∀ k i, al k i → E' k i = E k i) : gQ D A ad al E' H :=
  ⟨fun k i h' => by rw [he k i h']; exact h.1 k i h', h.2.1, h.2.2⟩
theorem gQ.grow {D : va_G} {A : Nat → Prop} {ad ad' : Nat → Nat → Nat} {al al' : Nat → Nat → Prop} {E E' : Nat → Nat → va_E} {H H1 : Heap} (h : gQ D A ad al E H) {k i : Nat}
    (hal : ∀ k' i', al' k' i' → al k' i' ∨ (k' = k ∧ i' = i)) (had : ∀ k' i', al k' i' → ad' k' i' = ad k' i') (hq : ad' k i = H.size) (hA : A H.size)
    (hne : ∀ k' i', al k' i' → E' k' i' = E k' i') (he : va_at D vwCl (H.size, E' k i) H1) (oq : ∀ q : Nat, q < H.size → H1[q]? = H[q]?) : gQ D A ad' al' E' H1 := by
  have lt : ∀ k' i', al k' i' → ad k' i' < H.size := fun k' i' h' => (h.1 k' i' h').lt
  refine ⟨fun k' i' h' => ?_, fun k' i' h' => ?_, fun a b c d h1 h2 hz => ?_⟩
  · rcases hal k' i' h' with h2 | ⟨rfl, rfl⟩
    · rw [hne k' i' h2, had k' i' h2]
      exact (h.1 k' i' h2).kept (oq _ (lt _ _ h2))
    · rw [hq]; exact he
  · rcases hal k' i' h' with h2 | ⟨rfl, rfl⟩
    · rw [had k' i' h2]; exact h.2.1 k' i' h2
    · rw [hq]; exact hA
  · rcases hal a b h1 with h3 | ⟨rfl, rfl⟩ <;> rcases hal c d h2 with h4 | ⟨rfl, rfl⟩
    · rw [had a b h3, had c d h4] at hz
      exact h.2.2 a b c d h3 h4 hz
    · rw [had a b h3, hq] at hz
      have := lt a b h3
      omega
    · rw [had c d h4, hq] at hz
      have := lt c d h4
      omega
    · exact ⟨rfl, rfl⟩
/-- a method's answer and the world behind it -/
def gO (v : Option Value) (B : State → Prop) (A : Nat → Prop) : Array Value → State → Outcome → State → Prop := fun _ st oc t => oc = .returned v ∧ B t ∧ va_F A st t
section GQ
variable {p : Program} {l : Launch} {e : Env} {R : Room} {s : State} {m : MethodId} {args : Array Value} {below : List Frame} {meth : Method} {c : Code} {H : Heap} {locs : List Loc} {cells slots : Nat} {Q : State → Prop}
variable {cc : ByteArray} {pc : Nat} {ls : Array Slot} {rest : List Value} {D : va_G} {A : Nat → Prop} {tys : List (ClassId × FieldType)} {H0 : Heap} {ad : Nat → Nat → Nat} {al : Nat → Nat → Prop} {E : Nat → Nat → va_E}
theorem g_call {v : Option Value} {B : State → Prop} {st0 : List Value} {mc ms : Nat} {a : Array Value} (hr : va_Run p l e R s m args below meth c H locs cells slots mc ms (F0 m pc ls st0) rest (gO v B A a) A) (hS : va_S A H0 H locs)
    (kk : ∀ (t : State) (H1 : Heap) (locs1 : List Loc), t.heap = H1 → s.vm.Alike t.vm → B t → (∀ q : Nat, q < H.size → ¬ A q → H1[q]? = H[q]?) → va_S A H0 H1 locs1 → W p l e R s m args below meth c H1 locs1 (cells + mc) (slots + ms) Q (F0 m (pc + 3) ls (v.toList ++ rest))) : W p l e R s m args below meth c H locs cells slots Q (F0 m pc ls st0) := by
  intro T hT X
  obtain ⟨v', st₀, t, T', L, h0, X', hL, e1, e2, ⟨hv, hb, hz, hk⟩, st⟩ := hr T hT X
  cases hv
  rw [h0] at hz hk
  obtain ⟨t2, a1, b1⟩ := kk t T'.heap (locs ++ L) e1.symm (by rw [← e2]; exact X'.warmed.alike) hb (fun q h1 h2 => by rw [e1]; exact hk q h1 h2)
    ⟨Nat.le_trans hS.1 (by rw [e1]; exact hz), fun q h1 h2 => by rw [e1, hk q (Nat.lt_of_lt_of_le h1 hS.1) h2]; exact hS.2.1 q h1 h2, fun q hq => by
      rcases List.mem_append.mp hq with h | h
      · exact hS.2.2 q h
      · exact hL q h⟩ T' rfl X'
  exact ⟨t2, st t2 a1, b1⟩
/-- a field is read -/
theorem q_get (hexec : p.tables.exec = Jvm.exec) (hb : c.code = cc) {own C : String} {T : u_T} {N ci index : Nat} {Ts : List Cond} (hts : ∀ w ∈ Ts, w.before args s = true) (hin : ∀ w ∈ u_ws C T N, w ∈ Ts) (hown : s.vm.findClass own = some m.cls) (hK : va_K D vwCl tys s) (hG : gQ D A ad al E H) {k i : Nat} (hal : al k i) {fs : List Value} (he : E k i = .inr (ci, fs)) (hc : vwCl[ci]? = some (C, T, N)) (f : Nat) (hf : f < N) (hlink : (Cond.fieldLink own index (T f).1 (T f).2.1 (T f).2.2.1).before args s = true) {v : Value} (hv : fs[f]? = some v) (hdg : decode cc pc = .ok (.getfield index, 3))
    (kk : W p l e R s m args below meth c H locs cells slots Q (F0 m (pc + 3) ls (v :: rest))) : W p l e R s m args below meth c H locs cells slots Q (F0 m pc ls (.ref (ad k i) :: rest)) :=
  va_get hexec hb hts hin hown hK (hG.one hal he) 0 rfl hc f hf hlink (fun _ h => h) hv hdg kk
/-- a field is written -/
theorem q_put (hexec : p.tables.exec = Jvm.exec) (hb : c.code = cc) {own C : String} {T : u_T} {N ci index : Nat} {Ts : List Cond} (hts : ∀ w ∈ Ts, w.before args s = true) (hin : ∀ w ∈ u_ws C T N, w ∈ Ts) (ty0 : Nat → FieldType) (hty : ∀ k, k < N → parseFieldDescriptor (T k).2.2.1 = some (ty0 k)) (hnm : ∀ a, a < N → ∀ b, b < N → a ≠ b → (T a).2.1 ≠ (T b).2.1) (hown : s.vm.findClass own = some m.cls) (hK : va_K D vwCl tys s) (hG : gQ D A ad al E H) (hS0 : va_S A H0 H locs) {k i : Nat} (hal : al k i) {fs : List Value} (he : E k i = .inr (ci, fs)) (hc : vwCl[ci]? = some (C, T, N)) (f : Nat) (hf : f < N) (hlink : (Cond.fieldLink own index (T f).1 (T f).2.1 (T f).2.2.1).before args s = true) (hfin : (T f).2.2.2 = false ∨ ((T f).2.2.2 = true ∧ meth.name = "<init>" ∧ (T f).1 = own)) {ty : FieldType} {v : Value} (hd : parseFieldDescriptor (T f).2.2.1 = some ty) (hn : narrow ty v = v) (hfit : fits ty v = true) (hl : f < fs.length)
    {E' : Nat → Nat → va_E} (hne : ∀ k' i', al k' i' → ¬ (k' = k ∧ i' = i) → E' k' i' = E k' i') (he' : E' k i = .inr (ci, fs.set f v))
    (hdg : decode cc pc = .ok (.putfield index, 3)) (kk : ∀ (H1 : Heap) (locs1 : List Loc), gQ D A ad al E' H1 → va_S A H0 H1 locs1 → W p l e R s m args below meth c H1 locs1 cells slots Q (F0 m (pc + 3) ls rest)) : W p l e R s m args below meth c H locs cells slots Q (F0 m pc ls (v :: .ref (ad k i) :: rest)) := by
  have hap := va_apart (own := own) hts hin ty0 hty hnm hK hc
  have hat := hG.1 k i hal
  rw [he] at hat
  obtain ⟨r, h1, cell, q1, q2, q3, q4⟩ := hat
  have hr : r = (C, T, N) := Option.some.inj (h1.symm.trans hc)
  subst hr
  obtain ⟨hS, hfc, kC, hkC, hkind⟩ := hK.1 ci _ hc
  obtain ⟨cf, kf, fi, fd, hi, hsl⟩ := hS f hf
  have hlay := hts _ (hin _ (u_in_lay hf))
  have hst := (u_facts hfc hkC (u_lays hts hin hf) hi).1
  have fin : ∀ (H' : Heap), H'[ad k i]? = some (cell.setSlot (D.2 ci f) v) → H'.size = H.size → (∀ q : Nat, q ≠ ad k i → H'[q]? = H[q]?) → W p l e R s m args below meth c H' (locs ++ [⟨ad k i, D.2 ci f⟩]) cells slots Q (F0 m (pc + 3) ls rest) := fun H' e1 e2 e3 =>
    kk H' _ (hG.store hal hne (by rw [he']; exact ⟨_, hc, t_OB.to (V := updV (vp_V fs) f v) ⟨_, e1, q2, q3, t_set q4 hap hf v⟩ (fun j _ => vp_updV_set hl v j)⟩) e3) (hS0.put e2 e3 (hG.2.1 k i hal))
  rcases hfin with hfin | ⟨hfin, hin2, hdecl⟩
  · unfold u_lay at hlay
    rw [if_neg (by rw [hfin]; decide)] at hlay
    have h6 := u_store hfc hkC hkind hlay hi hd hn hfit
    refine W.putK hexec hb (f := fd) ⟨hown, hlink, ⟨_, _, _, hi⟩, hst⟩ (by rw [q2]; exact h6) q1 q3 (by rw [hsl]; exact k2_hasslot (q4 f hf)) rfl rfl hdg fun H' e1 e2 e3 => ?_
    rw [hsl] at e1 ⊢
    exact fin H' e1 e2 e3
  · unfold u_lay at hlay
    rw [if_pos hfin] at hlay
    have hcf : m.cls = cf := by
      obtain ⟨_, _, c', _, _, _, -, -, hf', -, -, -, hown2, -⟩ := Cond.laysFinal_spec hlay
      have e1 : c' = cf := by have := hi.symm.trans hf'; simp at this; exact this.1.symm
      rw [hdecl] at hown2
      rw [← e1]; exact Option.some.inj (hown.symm.trans hown2)
    have h6 := u_fits hfc hkC hkind (Or.inr hlay) hi hd hn hfit
    refine W.putFinK hexec hb hown hlink hi hst hcf hin2 (by rw [q2]; exact h6) q1 q3 (by rw [hsl]; exact k2_hasslot (q4 f hf)) rfl rfl hdg fun H' e1 e2 e3 => ?_
    rw [hsl] at e1 ⊢
    exact fin H' e1 e2 e3
/-- an int array is read, written; a long array is read, written; a length -/
theorem q_iald (hexec : p.tables.exec = Jvm.exec) (hb : c.code = cc) (hK : va_K D vwCl tys s) (hG : gQ D A ad al E H) (t0 : Nat) {k i : Nat} (hal : al k i) {cA : ClassId} {n : Nat} {f : Nat → Int32} (he : E k i = .inl (cA, n, .inl f)) (ht : tys[t0]? = some (cA, .int)) {z : Int} (h0 : 0 ≤ z) (h1 : z < n) (hn : n < 2147483648) {v : Int32} (hv : f z.toNat = v) (hdg : decode cc pc = .ok (.iaload, 1))
    (kk : W p l e R s m args below meth c H locs cells slots Q (F0 m (pc + 1) ls (.int v :: rest))) : W p l e R s m args below meth c H locs cells slots Q (F0 m pc ls (.int (zI z) :: .ref (ad k i) :: rest)) :=
  va_iald hexec hb hK (hG.one hal he) 0 t0 rfl ht (zI_in h0 h1 hn) hdg (by rw [zI_cl h0 (by omega), hv]; exact kk)
theorem q_lald (hexec : p.tables.exec = Jvm.exec) (hb : c.code = cc) (hK : va_K D vwCl tys s) (hG : gQ D A ad al E H) (t0 : Nat) {k i : Nat} (hal : al k i) {cA : ClassId} {n : Nat} {f : Nat → Int64} (he : E k i = .inl (cA, n, .inr (.inl f))) (ht : tys[t0]? = some (cA, .long)) {z : Int} (h0 : 0 ≤ z) (h1 : z < n) (hn : n < 2147483648) {v : Int64} (hv : f z.toNat = v) (hdg : decode cc pc = .ok (.laload, 1))
    (kk : W p l e R s m args below meth c H locs cells slots Q (F0 m (pc + 1) ls (.long v :: rest))) : W p l e R s m args below meth c H locs cells slots Q (F0 m pc ls (.int (zI z) :: .ref (ad k i) :: rest)) :=
  va_lald hexec hb hK (hG.one hal he) 0 t0 rfl ht (zI_in h0 h1 hn) hdg (by rw [zI_cl h0 (by omega), hv]; exact kk)
theorem q_alen (hexec : p.tables.exec = Jvm.exec) (hb : c.code = cc) (hK : va_K D vwCl tys s) (hG : gQ D A ad al E H) (t0 : Nat) {k i : Nat} (hal : al k i) {cA : ClassId} {x : vp_A} (he : E k i = .inl (cA, x)) {ty : FieldType} (ht : tys[t0]? = some (cA, ty)) {z : Int} (hz : (x.1 : Int) = z) (hdg : decode cc pc = .ok (.arraylength, 1))
    (kk : W p l e R s m args below meth c H locs cells slots Q (F0 m (pc + 1) ls (.int (zI z) :: rest))) : W p l e R s m args below meth c H locs cells slots Q (F0 m pc ls (.ref (ad k i) :: rest)) :=
  va_alen hexec hb hK (hG.one hal he) 0 t0 rfl ht (v := zI z) (by rw [← hz]; rfl) hdg kk
theorem q_iast (hexec : p.tables.exec = Jvm.exec) (hb : c.code = cc) (hK : va_K D vwCl tys s) (hG : gQ D A ad al E H) (hS : va_S A H0 H locs) (t0 : Nat) {k i : Nat} (hal : al k i) {cA : ClassId} {n : Nat} {f : Nat → Int32} (he : E k i = .inl (cA, n, .inl f)) (ht : tys[t0]? = some (cA, .int)) {z : Int} (h0 : 0 ≤ z) (h1 : z < n) (hn : n < 2147483648) {x : Int32}
    {E' : Nat → Nat → va_E} (hne : ∀ k' i', al k' i' → ¬ (k' = k ∧ i' = i) → E' k' i' = E k' i') {f' : Nat → Int32} (he' : E' k i = .inl (cA, n, .inl f')) (hf' : ∀ j : Nat, j < n → f' j = if j = z.toNat then x else f j) (hdg : decode cc pc = .ok (.iastore, 1))
    (kk : ∀ (H1 : Heap) (locs1 : List Loc), gQ D A ad al E' H1 → va_S A H0 H1 locs1 → W p l e R s m args below meth c H1 locs1 cells slots Q (F0 m (pc + 1) ls rest)) : W p l e R s m args below meth c H locs cells slots Q (F0 m pc ls (.int x :: .int (zI z) :: .ref (ad k i) :: rest)) := by
  have hat := hG.1 k i hal
  rw [he] at hat
  refine W.iast hexec hb hat ((hK.2 t0 _ ht).1 n (fun j => .int (f j))) (fun q => by cases q) (by show ¬ (zI z < 0 ∨ (arrV _ _ _).slots.size ≤ _); rw [arrV_size]; exact zI_in h0 h1 hn) rfl rfl hdg fun H1 e1 z1 oq => ?_
  refine kk H1 _ (hG.store hal hne ?_ oq) (hS.put z1 oq (hG.2.1 k i hal))
  rw [he']
  show H1[ad k i]? = some (vp_cell _ _)
  rw [e1, vp_cell_i, vp_cell_i, arrV_store, zI_cl h0 (by omega)]
  congr 1
  unfold arrV
  congr 1
  congr 1
  funext q
  have hq := hf' q.val q.isLt
  simp only [updV]
  rw [hq]
  by_cases h : q.val = z.toNat <;> simp [h]
theorem q_last (hexec : p.tables.exec = Jvm.exec) (hb : c.code = cc) (hK : va_K D vwCl tys s) (hG : gQ D A ad al E H) (hS : va_S A H0 H locs) (t0 : Nat) {k i : Nat} (hal : al k i) {cA : ClassId} {n : Nat} {f : Nat → Int64} (he : E k i = .inl (cA, n, .inr (.inl f))) (ht : tys[t0]? = some (cA, .long)) {z : Int} (h0 : 0 ≤ z) (h1 : z < n) (hn : n < 2147483648) {x : Int64}
    {E' : Nat → Nat → va_E} (hne : ∀ k' i', al k' i' → ¬ (k' = k ∧ i' = i) → E' k' i' = E k' i') {f' : Nat → Int64} (he' : E' k i = .inl (cA, n, .inr (.inl f'))) (hf' : ∀ j : Nat, j < n → f' j = if j = z.toNat then x else f j) (hdg : decode cc pc = .ok (.lastore, 1))
    (kk : ∀ (H1 : Heap) (locs1 : List Loc), gQ D A ad al E' H1 → va_S A H0 H1 locs1 → W p l e R s m args below meth c H1 locs1 cells slots Q (F0 m (pc + 1) ls rest)) : W p l e R s m args below meth c H locs cells slots Q (F0 m pc ls (.long x :: .int (zI z) :: .ref (ad k i) :: rest)) := by
  have hat := hG.1 k i hal
  rw [he] at hat
  refine W.last hexec hb hat ((hK.2 t0 _ ht).1 n (fun j => .long (f j))) (fun q => by cases q) (by show ¬ (zI z < 0 ∨ (arrV _ _ _).slots.size ≤ _); rw [arrV_size]; exact zI_in h0 h1 hn) rfl rfl hdg fun H1 e1 z1 oq => ?_
  refine kk H1 _ (hG.store hal hne ?_ oq) (hS.put z1 oq (hG.2.1 k i hal))
  rw [he']
  show H1[ad k i]? = some (vp_cell _ _)
  rw [e1, vp_cell_l, vp_cell_l, arrV_store, zI_cl h0 (by omega)]
  congr 1
  unfold arrV
  congr 1
  congr 1
  funext q
  have hq := hf' q.val q.isLt
  simp only [updV]
  rw [hq]
  by_cases h : q.val = z.toNat <;> simp [h]
/-- an object is made; an array is made -/
theorem q_new {c0 : Code} (hexec : p.tables.exec = Jvm.exec) (hb : c0.code = cc) {own C : String} {T : u_T} {N ci index : Nat} {Ts : List Cond} (hts : ∀ w ∈ Ts, w.before args s = true) (hin : ∀ w ∈ u_ws C T N, w ∈ Ts) (ty : Nat → FieldType) (hty : ∀ k, k < N → parseFieldDescriptor (T k).2.2.1 = some (ty k)) (hown : s.vm.findClass own = some m.cls) (hcl : (Cond.classLink own index C).before args s = true) (hinst : (Cond.instantiable C N).before args s = true) (hini : (Cond.initialized C).before args s = true)
    (hK : va_K D vwCl tys s) (hG : gQ D A ad al E H) (hS : va_S A H0 H locs) (hA : ∀ q, H0.size ≤ q → A q) (hc : vwCl[ci]? = some (C, T, N)) {fs : List Value} (hfs : ∀ j, j < N → defaultValue (ty j) = vp_V fs j) (hcells : cells + 1 ≤ R.cells) (hslots : slots + N ≤ R.slots) (hdg : decode cc pc = .ok (.new index, 3)) (k i : Nat)
    {ad' : Nat → Nat → Nat → Nat} {al' : Nat → Nat → Prop} {E' : Nat → Nat → Nat → va_E} (hal : ∀ k' i', al' k' i' → al k' i' ∨ (k' = k ∧ i' = i)) (had : ∀ q k' i', al k' i' → ad' q k' i' = ad k' i') (hq : ∀ q, ad' q k i = q) (hne : ∀ q k' i', al k' i' → E' q k' i' = E k' i') (he' : ∀ q, E' q k i = .inr (ci, fs))
    (kk : ∀ (q : Nat) (H1 : Heap), gQ D A (ad' q) al' (E' q) H1 → va_S A H0 H1 locs → W p l e R s m args below meth c0 H1 locs (cells + 1) (slots + N) Q (F0 m (pc + 3) ls (.ref (ad' q k i) :: rest))) : W p l e R s m args below meth c0 H locs cells slots Q (F0 m pc ls rest) := by
  have hKn := hK.1 ci _ hc
  refine W.newcK hexec hb hown hcl hinst hini rfl hdg hcells hslots hKn.2.1 rfl fun H1 kC hkC e1 z1 o1 => ?_
  have h := kk H.size H1 (hG.grow (k := k) (i := i) hal (had _) (hq _) (hA _ hS.1) (hne _) (by rw [he']; exact ⟨_, hc, (u_born ty hts hin hKn hkC e1 hty).to hfs⟩) o1) ⟨Nat.le_trans hS.1 (by omega), fun x h1 h2 => (o1 x (Nat.lt_of_lt_of_le h1 hS.1)).trans (hS.2.1 x h1 h2), hS.2.2⟩
  rw [hq] at h
  exact h
theorem q_newa (hexec : p.tables.exec = Jvm.exec) (hb : c.code = cc) {atype : ArrayType} (harr : (Cond.arrayClass (newarray.typeOf atype)).before args s = true) {ty : FieldType} (hty : newarray.typeOf atype = ty) (hK : va_K D vwCl tys s) (hG : gQ D A ad al E H) (hS : va_S A H0 H locs) (hA : ∀ q, H0.size ≤ q → A q) (t0 : Nat) {cA : ClassId} (ht : tys[t0]? = some (cA, ty)) (hob : ∀ C, ty ≠ .object C)
    {n : Int32} {N' : Nat} {a0 : vp_A} (ha : vp_cell cA a0 = arrV cA N' (fun _ => defaultValue ty)) (hn : ¬ n < 0) (hN : n.toNatClampNeg = N') (hbytes : N' * componentBytes ty ≤ 536870912) (hcells : cells + 1 ≤ R.cells) (hslots : slots + N' ≤ R.slots) (hdg : decode cc pc = .ok (.newarray atype, 2)) (k i : Nat)
    {ad' : Nat → Nat → Nat → Nat} {al' : Nat → Nat → Prop} {E' : Nat → Nat → Nat → va_E} (hal : ∀ k' i', al' k' i' → al k' i' ∨ (k' = k ∧ i' = i)) (had : ∀ q k' i', al k' i' → ad' q k' i' = ad k' i') (hq : ∀ q, ad' q k i = q) (hne : ∀ q k' i', al k' i' → E' q k' i' = E k' i') (he' : ∀ q, E' q k i = .inl (cA, a0))
    (kk : ∀ (q : Nat) (H1 : Heap), gQ D A (ad' q) al' (E' q) H1 → va_S A H0 H1 locs → W p l e R s m args below meth c H1 locs (cells + 1) (slots + N') Q (F0 m (pc + 2) ls (.ref (ad' q k i) :: rest))) : W p l e R s m args below meth c H locs cells slots Q (F0 m pc ls (.int n :: rest)) := by
  subst hty
  refine va_newaK hexec hb harr rfl hdg rfl hn hN hbytes hcells hslots rfl fun H1 cB e1 z1 o1 hAr hNm => ?_
  have hcAB : cB = cA := by
    have h1 := (hK.2 t0 _ ht).2
    have h2 : s.vm.findClass ("[" ++ (newarray.typeOf atype).toString) = some cA := by
      revert h1
      unfold va_RA
      split
      · rename_i C heq
        exact fun _ => absurd heq (hob C)
      · exact fun h => h
    exact Option.some.inj (hNm.symm.trans h2)
  subst hcAB
  have h := kk H.size H1 (hG.grow (k := k) (i := i) hal (had _) (hq _) (hA _ hS.1) (hne _) (by rw [he']; show H1[H.size]? = some (vp_cell _ _); rw [ha]; exact e1) o1) ⟨Nat.le_trans hS.1 (by omega), fun x h1 h2 => (o1 x (Nat.lt_of_lt_of_le h1 hS.1)).trans (hS.2.1 x h1 h2), hS.2.2⟩
  rw [hq] at h
  exact h
end GQ
