/-! New cells of the class -/
def adU (ad : Nat → Nat → Nat) (K J q : Nat) : Nat → Nat → Nat := fun k j => if k = K ∧ j = J then q else ad k j
def alU (al : Nat → Nat → Prop) (K J : Nat) : Nat → Nat → Prop := fun k j => al k j ∨ (k = K ∧ j = J)
theorem gQ.al {D : va_G} {A : Nat → Prop} {ad : Nat → Nat → Nat} {al al' : Nat → Nat → Prop} {E : Nat → Nat → va_E} {H : Heap} (h : gQ D A ad al E H) (hl : ∀ k i, al' k i → al k i) : gQ D A ad al' E H :=
  ⟨fun k i h' => h.1 k i (hl k i h'), fun k i h' => h.2.1 k i (hl k i h'), fun a b c d h1 h2 => h.2.2 a b c d (hl _ _ h1) (hl _ _ h2)⟩
theorem rf_up {ad : Nat → Nat → Nat} {K J q t : Nat} {z : Int} (h : t = K → z < 0 ∨ z.toNat ≠ J) : rf (adU ad K J q) t z = rf ad t z := by
  unfold rf
  by_cases hz : z < 0
  · rw [if_pos hz, if_pos hz]
  · rw [if_neg hz, if_neg hz]
    unfold adU
    rw [if_neg (fun q => (h q.1).elim (fun h1 => hz h1) (fun h1 => h1 q.2))]
theorem cE_up {cI cJ : ClassId} {ad : Nat → Nat → Nat} {K J q k : Nat} {g : Nat → Int} (h : ∀ f, f < cNf k → cT k f = K + 2 → g f < 0 ∨ (g f).toNat ≠ J) : cE cI cJ (adU ad K J q) k g = cE cI cJ ad k g := by
  unfold cE
  have e : cFs (adU ad K J q) k g = cFs ad k g := by
    unfold cFs
    apply List.map_congr_left
    intro f hf
    have hf := List.mem_range.mp hf
    unfold cV
    by_cases h0 : cT k f = 0
    · rw [if_pos h0, if_pos h0]
    · by_cases h1 : cT k f = 1
      · rw [if_neg h0, if_pos h1, if_neg h0, if_pos h1]
      · rw [if_neg h0, if_neg h1, if_neg h0, if_neg h1]
        exact rf_up (fun q => h f hf (by omega))
  rw [e]
def cV0 (k f : Nat) : Value := if cT k f = 0 then .int (zI 0) else if cT k f = 1 then .long (zL 0) else .null
theorem cFs_0 {ad : Nat → Nat → Nat} {k : Nat} {g : Nat → Int} (h : ∀ f, f < cNf k → g f = if 2 ≤ cT k f then -1 else 0) : cFs ad k g = (List.range (cNf k)).map (cV0 k) := by
  unfold cFs
  apply List.map_congr_left
  intro f hf
  rw [h f (List.mem_range.mp hf)]
  unfold cV cV0
  by_cases h0 : cT k f = 0
  · rw [if_pos h0, if_pos h0, if_neg (by omega)]
  · by_cases h1 : cT k f = 1
    · rw [if_neg h0, if_pos h1, if_neg h0, if_pos h1, if_neg (by omega)]
    · rw [if_neg h0, if_neg h1, if_neg h0, if_neg h1, if_pos (by omega)]
      exact rf_n (by decide)
section CN
variable {p : Program} {l : Launch} {e : Env} {R : Room} {s : State} {m : MethodId} {args : Array Value} {below : List Frame} {meth : Method} {c : Code} {H : Heap} {locs : List Loc} {cells slots : Nat} {Q : State → Prop}
variable {cc : ByteArray} {pc : Nat} {ls : Array Slot} {rest : List Value} {D : va_G} {cI cJ : ClassId} {A : Nat → Prop} {H0 : Heap} {ad : Nat → Nat → Nat} {al : Nat → Nat → Prop} {C : sT} {Ts : List Cond} {index : Nat} {own Cn : String} {T : u_T}
theorem c_new (hexec : p.tables.exec = Jvm.exec) (hb : c.code = cc) (hts : ∀ w ∈ Ts, w.before args s = true) (K J : Nat) (hin : ∀ w ∈ u_ws Cn T (cNf K), w ∈ Ts) (ty : Nat → FieldType) (hty : ∀ k, k < cNf K → parseFieldDescriptor (T k).2.2.1 = some (ty k)) (hown : s.vm.findClass own = some m.cls) (hcl : (Cond.classLink own index Cn).before args s = true) (hinst : (Cond.instantiable Cn (cNf K)).before args s = true) (hini : (Cond.initialized Cn).before args s = true)
    (hK : va_K D vwCl [(cI, .int), (cJ, .long)] s) (hG : gC D cI cJ A ad al C H) (hS : va_S A H0 H locs) (hA : ∀ q, H0.size ≤ q → A q) (hk : K ≠ 1 ∧ K ≠ 4 ∧ K ≠ 5) (hc : vwCl[cCl K]? = some (Cn, T, cNf K)) (hfs : ∀ j, j < cNf K → defaultValue (ty j) = vp_V ((List.range (cNf K)).map (cV0 K)) j) (hcells : cells + 1 ≤ R.cells) (hslots : slots + cNf K ≤ R.slots)
    {C' : sT} (hno : ¬ al K J) (href : ∀ k i, al k i → ∀ f, f < cNf k → cT k f = K + 2 → C k i f < 0 ∨ (C k i f).toNat ≠ J) (hne : ∀ k i, al k i → C' k i = C k i) (h0 : ∀ f, f < cNf K → C' K J f = if 2 ≤ cT K f then -1 else 0) (hdg : decode cc pc = .ok (.new index, 3))
    (kk : ∀ (q : Nat) (H1 : Heap), gC D cI cJ A (adU ad K J q) (alU al K J) C' H1 → va_S A H0 H1 locs → W p l e R s m args below meth c H1 locs (cells + 1) (slots + cNf K) Q (F0 m (pc + 3) ls (.ref (adU ad K J q K J) :: rest))) : W p l e R s m args below meth c H locs cells slots Q (F0 m pc ls rest) :=
  q_new hexec hb hts hin ty hty hown hcl hinst hini hK hG hS hA hc hfs hcells hslots hdg K J (ad' := fun q => adU ad K J q) (al' := alU al K J) (E' := fun q k i => cE cI cJ (adU ad K J q) k (C' k i)) (fun _ _ h => h) (fun q k i h => by unfold adU; rw [if_neg (fun z => hno (by rw [← z.1, ← z.2]; exact h))]) (fun q => by unfold adU; rw [if_pos ⟨rfl, rfl⟩]) (fun q k i h => by rw [hne k i h]; exact cE_up (href k i h)) (fun q => by rw [cE_obj hk, cFs_0 h0]) kk
theorem c_newaI (hexec : p.tables.exec = Jvm.exec) (hb : c.code = cc) (harr : (Cond.arrayClass .int).before args s = true) (hK : va_K D vwCl [(cI, .int), (cJ, .long)] s) (hG : gC D cI cJ A ad al C H) (hS : va_S A H0 H locs) (hA : ∀ q, H0.size ≤ q → A q) (K J N : Nat) (hE : ∀ (ad : Nat → Nat → Nat) (g : Nat → Int), cE cI cJ ad K g = .inl (cI, N, .inl (fun t => zI (g t)))) (hN : N * 4 ≤ 536870912) (hcells : cells + 1 ≤ R.cells) (hslots : slots + N ≤ R.slots)
    {C' : sT} (hno : ¬ al K J) (href : ∀ k i, al k i → ∀ f, f < cNf k → cT k f = K + 2 → C k i f < 0 ∨ (C k i f).toNat ≠ J) (hne : ∀ k i, al k i → C' k i = C k i) (h0 : C' K J = fun _ => 0) (hdg : decode cc pc = .ok (.newarray .int, 2))
    (kk : ∀ (q : Nat) (H1 : Heap), gC D cI cJ A (adU ad K J q) (alU al K J) C' H1 → va_S A H0 H1 locs → W p l e R s m args below meth c H1 locs (cells + 1) (slots + N) Q (F0 m (pc + 2) ls (.ref (adU ad K J q K J) :: rest))) : W p l e R s m args below meth c H locs cells slots Q (F0 m pc ls (.int (zI N) :: rest)) :=
  q_newa hexec hb (atype := .int) harr (ty := .int) rfl hK hG hS hA 0 rfl (fun _ h => by cases h) (n := zI N) (N' := N) (a0 := (N, .inl (fun _ => zI 0))) rfl (fun q => by have := (zI_lt (a := (N : Int)) (b := 0) ⟨by omega, by omega⟩ ⟨by omega, by omega⟩).mp q; omega) (by rw [zI_cl (by omega) (by omega)]; simp) hN hcells hslots hdg K J (ad' := fun q => adU ad K J q) (al' := alU al K J) (E' := fun q k i => cE cI cJ (adU ad K J q) k (C' k i)) (fun _ _ h => h) (fun q k i h => by unfold adU; rw [if_neg (fun z => hno (by rw [← z.1, ← z.2]; exact h))]) (fun q => by unfold adU; rw [if_pos ⟨rfl, rfl⟩]) (fun q k i h => by rw [hne k i h]; exact cE_up (href k i h)) (fun q => by rw [h0, hE]) kk
theorem c_newaJ (hexec : p.tables.exec = Jvm.exec) (hb : c.code = cc) (harr : (Cond.arrayClass .long).before args s = true) (hK : va_K D vwCl [(cI, .int), (cJ, .long)] s) (hG : gC D cI cJ A ad al C H) (hS : va_S A H0 H locs) (hA : ∀ q, H0.size ≤ q → A q) (J : Nat) (hcells : cells + 1 ≤ R.cells) (hslots : slots + 12 ≤ R.slots)
    {C' : sT} (hno : ¬ al 5 J) (href : ∀ k i, al k i → ∀ f, f < cNf k → cT k f = 5 + 2 → C k i f < 0 ∨ (C k i f).toNat ≠ J) (hne : ∀ k i, al k i → C' k i = C k i) (h0 : C' 5 J = fun _ => 0) (hdg : decode cc pc = .ok (.newarray .long, 2))
    (kk : ∀ (q : Nat) (H1 : Heap), gC D cI cJ A (adU ad 5 J q) (alU al 5 J) C' H1 → va_S A H0 H1 locs → W p l e R s m args below meth c H1 locs (cells + 1) (slots + 12) Q (F0 m (pc + 2) ls (.ref (adU ad 5 J q 5 J) :: rest))) : W p l e R s m args below meth c H locs cells slots Q (F0 m pc ls (.int (zI 12) :: rest)) :=
  q_newa hexec hb (atype := .long) harr (ty := .long) rfl hK hG hS hA 1 rfl (fun _ h => by cases h) (n := zI 12) (N' := 12) (a0 := (12, .inr (.inl (fun _ => zL 0)))) rfl (by decide) (by decide) (by decide) hcells hslots hdg 5 J (ad' := fun q => adU ad 5 J q) (al' := alU al 5 J) (E' := fun q k i => cE cI cJ (adU ad 5 J q) k (C' k i)) (fun _ _ h => h) (fun q k i h => by unfold adU; rw [if_neg (fun z => hno (by rw [← z.1, ← z.2]; exact h))]) (fun q => by unfold adU; rw [if_pos ⟨rfl, rfl⟩]) (fun q k i h => by rw [hne k i h]; exact cE_up (href k i h)) (fun q => by rw [h0]; rfl) kk
/-- a constructor's call -/
theorem c_callI {y : MethodName} {bytes : ByteArray} {maxL nL mc ms n : Nat} {ws : List Cond} {rm : Room} {As st0 : List Value} {B : State → Prop} {Pc : Array Value → State → Prop} (F : CallFix p m c cc nL s args Ts own) (b : Nat) (hM : Met l y ws rm Pc (gO none B A) mc ms A) (cw : CallB R s args own index y bytes maxL none ws rm mc ms n ∧ y.name = "<init>" ∧ (Cond.instanceMethod y).before args s = true) (hp : PreS s H Pc (.ref b :: As)) (hS : va_S A H0 H locs)
    (hn : As.length = n) (hsize : ls.size = nL) (hst : st0 = As.reverse ++ .ref b :: rest) (hW : (rest.map fun v => v.category).sum ≤ 8) (hdg : decode cc pc = .ok (.invokespecial index, 3)) (hf : cells + mc ≤ R.cells ∧ slots + ms ≤ R.slots)
    (kk : ∀ (t : State) (H1 : Heap) (locs1 : List Loc), t.heap = H1 → B t → va_S A H0 H1 locs1 → W p l e R s m args below meth c H1 locs1 (cells + mc) (slots + ms) Q (F0 m (pc + 3) ls rest)) : W p l e R s m args below meth c H locs cells slots Q (F0 m pc ls st0) :=
  g_call (va_runI (As := As) (rest := rest) F hM cw hp rfl hn hsize hst (lv_room hW) hdg hf) hS (fun t H1 locs1 ht hvm hB _ hS1 => kk t H1 locs1 ht hB hS1)
theorem c_callIN {y : MethodName} {bytes : ByteArray} {maxL nL mc ms n : Nat} {ws : List Cond} {rm : Room} {As st0 : List Value} {B : State → Prop} {Pc : Array Value → State → Prop} {host : String} (F : CallFix p m c cc nL s args Ts own) (b : Nat) (hM : Met l y ws rm Pc (gO none B A) mc ms A) (cw : va_CN R s args own index y host bytes maxL none ws rm mc ms n ∧ y.name = "<init>" ∧ (Cond.instanceMethod y).before args s = true) (hp : PreS s H Pc (.ref b :: As)) (hS : va_S A H0 H locs)
    (hn : As.length = n) (hsize : ls.size = nL) (hst : st0 = As.reverse ++ .ref b :: rest) (hW : (rest.map fun v => v.category).sum ≤ 8) (hdg : decode cc pc = .ok (.invokespecial index, 3)) (hf : cells + mc ≤ R.cells ∧ slots + ms ≤ R.slots)
    (kk : ∀ (t : State) (H1 : Heap) (locs1 : List Loc), t.heap = H1 → B t → va_S A H0 H1 locs1 → W p l e R s m args below meth c H1 locs1 (cells + mc) (slots + ms) Q (F0 m (pc + 3) ls rest)) : W p l e R s m args below meth c H locs cells slots Q (F0 m pc ls st0) :=
  g_call (va_runIN (As := As) (rest := rest) F hM cw hp rfl hn hsize hst (lv_room hW) hdg hf) hS (fun t H1 locs1 ht hvm hB _ hS1 => kk t H1 locs1 ht hB hS1)
end CN
