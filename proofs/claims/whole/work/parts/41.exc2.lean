/-! What a throw stands on: words of the tables, two statics of Throwable, the message's String -/
section TP
def tNames : List String := ["java/lang/IndexOutOfBoundsException", "java/lang/RuntimeException", "java/lang/Exception"]
def tAt : List Cond := Bundle.ownAtoms RX4 155 RJx00060 tNames
def tWs : List Cond := [.classLink RX4 151 RJx00060, .initialized RJx00060, .classLink RL 13 RJx00060, .castable RJx00060 RJx00060, .instantiable RJx00060 6] ++ tAt.filter (fun w => w.onTables)
def tok : Cond → Bool
  | .castable .. => true
  | .declares _ => true
  | w => w.onTables && w.keeps
theorem tWs_ok : ∀ w ∈ tWs, w.onTables = true ∧ tok w = true := by decide +kernel
def tU : Cond := .isRef (.static Bundle.tN "UNASSIGNED_STACK" Bundle.steD)
def tN0 : Cond := .isRef (.static Bundle.tN "SUPPRESSED_SENTINEL" Bundle.listD)
def tUl : Cond := .laysStatic Bundle.tN "UNASSIGNED_STACK" Bundle.steD
def tNl : Cond := .laysStatic Bundle.tN "SUPPRESSED_SENTINEL" Bundle.listD
theorem tAt_ok : ∀ w ∈ tAt, w.onTables = true ∨ w = tU ∨ w = tN0 ∨ w = tUl ∨ w = tNl := by decide +kernel
theorem tok_warm {w : Cond} {s U : State} (ho : w.onTables = true ∧ tok w = true) (hW : s.WarmedH U.vm) (hZ : va_Nw w s) : va_Nw w U := by
  obtain ⟨h1, h2⟩ := ho
  cases w <;> first | exact va_Nw.warmC hW hZ | exact va_Nw.warmD hW hZ | exact word_at hW (Or.inl h2) hZ
/-- a static field of Throwable, in a cell that nobody writes -/
def tZ (n d : String) (A : Nat → Prop) (U : State) (H : Heap) : Prop := ∃ (c : ClassId) (k : Class) (i : Nat) (f : Field) (a : Nat) (cell : Cell) (v : Value), U.vm.findClass Bundle.tN = some c ∧ U.fieldFound? Bundle.tN n d = some (c, k, i, f) ∧ f.isStatic = true ∧ k.statics = some a ∧ H[a]? = some cell ∧ cell.vm.isStatics = true ∧ cell.cls = c ∧ f.slot < cell.slots.size ∧ k.staticTypes[f.slot]? = some f.type ∧ cell.slots[f.slot]? = some v ∧ v.isRef = true ∧ ¬ A a
theorem tZ.of {n d : String} {A : Nat → Prop} {s : State} {args : Array Value} (hl : (Cond.laysStatic Bundle.tN n d).before args s = true) (hr : (Cond.isRef (.static Bundle.tN n d)).before args s = true) (hA : ∀ a : Nat, a < s.heap.size → ¬ A a) : tZ n d A s s.heap := by
  obtain ⟨c, k, i, f, a, cell, h1, h2, h3, h4, h5, h6, h7, h8, h9⟩ := Cond.laysStatic_spec hl
  obtain ⟨u, hu⟩ := Cond.staticRefV h2 h3 h4 h5 h6 hr
  exact ⟨c, k, i, f, a, cell, u.v, h1, h2, h3, h4, h5, h6, h7, h8, h9, hu, u.ok, hA a (Array.getElem?_eq_some_iff.mp h5).1⟩
theorem tZ.moved {n d : String} {A A' : Nat → Prop} {u U : State} {H H1 : Heap} (h : tZ n d A u H) (hvm : u.vm.Alike U.vm) (hk : ∀ a : Nat, a < H.size → ¬ A a → H1[a]? = H[a]?) (hA : ∀ a, a < H.size → A' a → A a) : tZ n d A' U H1 := by
  obtain ⟨c, k, i, f, a, cell, v, h1, h2, h3, h4, h5, h6, h7, h8, h9, h10, h11, h12⟩ := h
  obtain ⟨k', hi', he⟩ := State.fieldFound?_setVm hvm h2
  have hlt := (Array.getElem?_eq_some_iff.mp h5).1
  exact ⟨c, k', i, f, a, cell, v, by rw [hvm.findClass]; exact h1, hi', h3, by rw [he]; exact h4, by rw [hk a hlt h12]; exact h5, h6, h7, h8, by rw [he]; exact h9, h10, h11, fun q => h12 (hA a hlt q)⟩
theorem tZ.lays {n d : String} {A : Nat → Prop} {s : State} {args : Array Value} (h : tZ n d A s s.heap) : (Cond.laysStatic Bundle.tN n d).before args s = true := by
  obtain ⟨c, k, i, f, a, cell, v, h1, h2, h3, h4, h5, h6, h7, h8, h9, -⟩ := h
  exact Cond.laysStatic_of h1 h2 h3 h4 h5 h6 h7 h8 h9
theorem tZ.ref {n d : String} {A : Nat → Prop} {s : State} {args : Array Value} (h : tZ n d A s s.heap) : (Cond.isRef (.static Bundle.tN n d)).before args s = true := by
  obtain ⟨c, k, i, f, a, cell, v, h1, h2, h3, h4, h5, h6, h7, h8, h9, h10, h11, -⟩ := h
  have he : (Term.static Bundle.tN n d).eval args s none [] s = some v := by
    simp [Term.eval, State.fieldNamed?, h2, h3, h4, h5, h6, h10]
  simp only [Cond.before, Cond.holds, Cond.value, he]
  cases v <;> simp_all [Value.isRef]
def tP (A : Nat → Prop) (U : State) : Prop := (∀ w ∈ tWs, va_Nw w U) ∧ tZ "UNASSIGNED_STACK" Bundle.steD A U U.heap ∧ tZ "SUPPRESSED_SENTINEL" Bundle.listD A U U.heap ∧ ∃ a, vk_R RX4 153 "no such machine" a U
theorem tP.warm {A A' : Nat → Prop} {s U : State} (h : tP A s) (hW : s.WarmedH U.vm) (hk : ∀ a : Nat, a < s.heap.size → ¬ A a → U.heap[a]? = s.heap[a]?) (hA : ∀ a, a < s.heap.size → A' a → A a) : tP A' U := by
  obtain ⟨h1, h2, h3, a, h4⟩ := h
  exact ⟨fun w hw => tok_warm (tWs_ok w hw) hW (h1 w hw), h2.moved hW.alike hk hA, h3.moved hW.alike hk hA, a, vk_R.warm hW h4⟩
theorem tP.same {A : Nat → Prop} {s U : State} (h : tP A s) (hv : U.vm = s.vm) (hh : U.heap = s.heap) : tP A U := by
  refine h.warm (by rw [hv]; exact State.WarmedH.refl s) (fun a _ _ => by rw [hh]) (fun _ _ q => q)
theorem tP.words {A : Nat → Prop} {s : State} {args : Array Value} (h : tP A s) : ∀ w ∈ tAt, w.before args s = true := by
  intro w hw
  rcases tAt_ok w hw with h1 | rfl | rfl | rfl | rfl
  · exact va_Nw.use h1 (h.1 w (List.mem_append_right _ (List.mem_filter.mpr ⟨hw, h1⟩)))
  · exact h.2.1.ref
  · exact h.2.2.1.ref
  · exact h.2.1.lays
  · exact h.2.2.1.lays
theorem t_frame {s U : State} {k n : Nat} (h : s.sameButNew ({ U with vm := s.vm } : State) [] k n) : s.heap.size ≤ U.heap.size ∧ ∀ q : Nat, q < s.heap.size → U.heap[q]? = s.heap[q]? := by
  obtain ⟨-, h2, -, -, -, h6⟩ := h
  refine ⟨h2, fun q hq => ?_⟩
  obtain ⟨c9, e1, e2, -, e4⟩ := h6 q _ (Array.getElem?_eq_getElem hq)
  have hs : c9.slots = (s.heap[q]).slots := Array.ext_getElem? fun i => e4 i (fun hm => nomatch hm)
  rw [hs] at e2
  rw [Array.getElem?_eq_getElem hq]
  exact (show U.heap[q]? = some c9 from e1).trans (congrArg some e2)
variable {p : Program} {l : Launch} {e : Env} {R : Room} {s : State} {m : MethodId} {args : Array Value} {below : List Frame} {meth : Method} {c : Code} {T : State} {H : Heap} {locs : List Loc} {cells slots : Nat} {Q : State → Prop}
/-- 'throw new ArrayIndexOutOfBoundsException("no such machine")' -/
theorem t_throw {cc : ByteArray} {pc : Nat} {ls : Array Slot} {A : Nat → Prop} {B : State → Prop} (hexec : p.tables.exec = Jvm.exec) (hb : c.code = cc) (hl : l.stackTraces = false) (hown : s.vm.findClass RX4 = some m.cls) (hP : tP A s) (hsize : ls.size = c.maxLocals)
    (d0 : decode cc pc = .ok (.new 151, 3)) (d3 : decode cc (pc + 3) = .ok (.dup, 1)) (d4 : decode cc (pc + 4) = .ok (.ldc 153, 2)) (d6 : decode cc (pc + 6) = .ok (.invokespecial 155, 3)) (d9 : decode cc (pc + 9) = .ok (.athrow, 1))
    (hno : c.exceptionTable.toList = []) (hRf : 6 < R.frames) (hRl : 97 ≤ R.locals) (hRc : 1 ≤ R.cells) (hRs : 6 ≤ R.slots) (hlocks : meth.locks = false) (hH : s.heap.size ≤ H.size)
    (hB : ∀ t : State, s.WarmedH t.vm → s.heap.size ≤ t.heap.size → (∀ q : Nat, q < s.heap.size → t.heap[q]? = s.heap[q]?) → B t) : W p l e R s m args below meth c H [] 0 0 (tEnd below B A args s 1 6) (F0 m pc ls []) := by
  intro T hT X
  have htr : e.platform.stackTraces = false := (show e.platform.stackTraces = l.stackTraces by rw [X.admits.platform]).trans hl
  have hw : ∀ w ∈ tAt, w.before args s = true := hP.words
  have hin : ∀ w ∈ tWs, w.before args s = true := fun w h9 => va_Nw.use (tWs_ok w h9).1 (hP.1 w h9)
  obtain ⟨sa, hsa1, hsa2⟩ := hP.2.2.2
  obtain ⟨vm₁, cX, kX, hfX, hkX, -, -, X₁, st1⟩ := X.newCold hexec (own := RX4) (C := RJx00060) (index := 151) (n := 6) hown (hin _ (by decide +kernel)) (hin _ (by decide +kernel)) (hin _ (by decide +kernel)) (g := F0 m pc ls []) rfl (by rw [hb]; exact d0) (by omega) (by omega)
  generalize hT1 : (T.setVm vm₁).pushCell { cls := cX, slots := kX.instanceTypes.map defaultValue, vm := .none } = T1 at X₁ st1
  have hcell : T1.heap[T.heap.size]? = some (freshCell cX kX) := by rw [← hT1]; exact State.heap_pushCell_size _ _
  have d3' : decode c.code (pc + 3) = .ok (.dup, 1) := by rw [hb]; exact d3
  obtain ⟨U, hsteps, hrun, hend, hWd, hsame, ce, hce, hO⟩ := X₁.ctorThrowS hexec htr (own := RX4) (cls := RJx00060) (names := tNames) (ic := 155) hown (by decide +kernel) (by decide +kernel) hw (fun x hx => nomatch hx) hfX hkX hcell (by rw [hT]; exact hH) (msg := .ref sa) rfl
    (g := F0 m (pc + 6) ls [.ref sa, .ref T.heap.size, .ref T.heap.size]) rfl hsize rfl rfl (rest := []) rfl (by rw [hb]; exact d6) (by rw [hb]; exact d9) (fun x hx => by rw [hno] at hx; cases hx) hRf (show 2 * 0 + (1 + 0) + (13 * (3 + 1) + 42) ≤ R.locals by omega) hlocks
  have hfr := t_frame hsame
  refine ⟨U, ?_, .threw T.heap.size, hrun, hend, T.heap.size, ce, [], rfl, hce, hO.vm, hO.cls, hB U hWd hfr.1 hfr.2, ⟨hfr.1, fun q h1 _ => hfr.2 q h1⟩, hWd, hsame, fun z hz => nomatch hz⟩
  refine st1 _ ?_
  show Steps p.tables e below (T1.setTop { method := m, pc := pc + 3, locals := ls, stack := [.ref T.heap.size], locked := none }) _
  jvm_step X₁.here [X₁.here.top, hexec, d3', Value.category]
  exact X₁.ldcString hexec (own := RX4) (text := "no such machine") (index := 153) (a := sa) hown (vk_R.same (u := s) (U := s) rfl ⟨hsa1, hsa2⟩).1 hsa2 (g := F0 m (pc + 4) ls [.ref T.heap.size, .ref T.heap.size]) rfl (by rw [hb]; exact d4) _ hsteps
/-- the only row of the table catches it -/
theorem t_find {f : JFrame} {a : Addr} {mth : Method} {code : Code} {x : ExceptionTableEntry} {k0 : ClassId} {cell : Cell} (hm : s.vm.method? f.method = some mth) (hc : mth.code = some code) (ht : code.exceptionTable.toList = [x]) (hx : covers x f.pc = true) (h0 : x.catchType ≠ 0)
    (hl : s.vm.ClassLinks e.platform f.method.cls x.catchType k0) (hcell : s.heap[a]? = some cell) (hobj : ∀ k, cell.vm ≠ .statics k) (hk : ∃ k, s.vm.classes[cell.cls]? = some k) (hk0 : ∃ k, s.vm.classes[k0]? = some k) (hfit : s.vm.assignable cell.cls k0 = true)
    (Q : Handler → Pre) (E : CtlPost) (d : Bool) (acts : List Action) : wp (findHandler f a) Q E e d acts s ↔ Q (.found x.handlerPc) d acts (s.setVm (s.vm.noted f.method.cls x.catchType (.cls k0))) := by
  have hal : s.vm.Alike (s.vm.noted f.method.cls x.catchType (.cls k0)) := (Vm.Alike.refl s.vm).noted _ _ _
  obtain ⟨ha, hto⟩ := (resolveClass_links e.toSetting hl).op (op := VmOp.resolveClass f.method.cls x.catchType) rfl
  obtain ⟨k1, hk1⟩ := hk
  obtain ⟨k2, hk2⟩ := hk0
  obtain ⟨k1', hk1', -⟩ := hal.2.2 _ _ hk1
  obtain ⟨k2', hk2', -⟩ := hal.2.2 _ _ hk2
  have hf9 : (s.vm.noted f.method.cls x.catchType (.cls k0)).assignable cell.cls k0 = true := by rw [hal.assignable]; exact hfit
  simp only [covers] at hx
  rw [W.findHandler_eq hm hc, ht]
  simp [findHandler.go, hx, h0, ha, hto, hcell, hobj, hk1', hk2', hf9, VmOp.dirties, VmOp.acts]
theorem t_caught {own : String} {x : ExceptionTableEntry} {q : Addr} {ce : Cell} {pc : Nat} {ls : Array Slot} {rest : List Value} (X : Stand p l e R s m args below meth c T locs cells slots) (hown : s.vm.findClass own = some m.cls) (ht : c.exceptionTable.toList = [x]) (hx : covers x pc = true) (h0 : x.catchType ≠ 0)
    (hlink : (Cond.classLink own x.catchType RJx00060).before args s = true) (hcast : (Cond.castable RJx00060 RJx00060).before args s = true) (hcell : T.heap[q]? = some ce) (hv : ce.vm = .none) (hcl : s.vm.findClass RJx00060 = some ce.cls) :
    ∃ vm', Stand p l e R s m args below meth c (T.setVm vm') locs cells slots ∧ ∀ target, Steps p.tables e below ((T.setVm vm').setTop (F0 m x.handlerPc ls [.ref q])) target → Steps p.tables e below ((T.setTop (F0 m pc ls rest)).pushFrame (.throwing q)) target := by
  have hpl : e.platform.magicAccessors = ({} : Platform).magicAccessors := by rw [X.admits.platform]
  obtain ⟨c3, c4, hc3, hc4, hasg⟩ := Cond.castable_spec hcast
  cases Option.some.inj (hc3.symm.trans hcl)
  obtain ⟨c5, hc5, hcl5⟩ := Cond.classLink_spec hown hlink e.platform hpl
  cases Option.some.inj (hc4.symm.trans hc5)
  obtain ⟨dk, _, _, kt, hd, _, _, _, _, hkt, _, hop⟩ := hcl5.here
  have hW' : s.WarmedH (T.vm.noted m.cls x.catchType (.cls c4)) := X.warmed.noted hd hop (State.rightAt_cls hcl5)
  have hal := X.warmed.alike
  obtain ⟨kt', hkt', -⟩ := hal.2.2 _ _ hkt
  obtain ⟨k9, hk9, -⟩ := Vm.findClass_spec hcl
  obtain ⟨k9', hk9', -⟩ := hal.2.2 _ _ hk9
  refine ⟨_, X.noted hW', fun target hrest => ?_⟩
  have hfind : ∀ (Q : Handler → Pre) (E : CtlPost) (d : Bool) (acts : List Action), wp (findHandler (F0 m pc ls rest) q) Q E e d acts ((T.setTop (F0 m pc ls rest)).pushFrame (.throwing q)) ↔ Q (.found x.handlerPc) d acts (((T.setTop (F0 m pc ls rest)).pushFrame (.throwing q)).setVm (T.vm.noted m.cls x.catchType (.cls c4))) :=
    fun Q E d acts => t_find (s := (T.setTop (F0 m pc ls rest)).pushFrame (.throwing q)) (f := F0 m pc ls rest) (mth := meth) (code := c) X.method' X.code ht hx h0 (X.warmed.classLinks hcl5) hcell (fun k h => by rw [hv] at h; cases h) ⟨k9', hk9'⟩ ⟨kt', hkt'⟩ (by rw [← hasg]; exact hal.assignable _ _) Q E d acts
  have hat : At T (F0 m pc ls rest).method c below := X.here
  obtain ⟨hgo, hw⟩ := hat.throwing q
  refine Steps.head hgo hw ?_
  rw [stepThread_throwing (frames_entered hat.top _)]
  have hst : (stepThrowing e ((T.setTop (F0 m pc ls rest)).pushFrame (.throwing q)) q (.java (F0 m pc ls rest) :: T.frames.tail)).Is ((((T.setTop (F0 m pc ls rest)).pushFrame (.throwing q)).setVm (T.vm.noted m.cls x.catchType (.cls c4))).setFrames (.java { F0 m pc ls rest with pc := x.handlerPc, stack := [.ref q] } :: T.frames.tail)) [] := by
    simp only [stepThrowing, searchFrame, vmDo]
    generalize hr : Sem.go _ e false [] _ = res
    obtain ⟨as, rfl, ha⟩ := Sem.eq_ok_of hr (a := Handler.found x.handlerPc) (s' := ((T.setTop (F0 m pc ls rest)).pushFrame (.throwing q)).setVm (T.vm.noted m.cls x.catchType (.cls c4))) (acts' := []) (by simp [hfind _ _ _ _])
    exact ⟨rfl, ha⟩
  rw [hst.1]
  obtain ⟨g0, hg0⟩ := Option.isSome_iff_exists.mp hat.top
  obtain ⟨r, hr⟩ := State.topJava?_eq_some.mp hg0
  have hr' : (T.setVm (T.vm.noted m.cls x.catchType (.cls c4))).frames = .java g0 :: r := hr
  rw [State.setTop_of_frames _ hr'] at hrest
  have hmv : ∀ (u : State) (vm' : Vm) (F1 F2 : List Frame), ((u.setFrames F1).setVm vm').setFrames F2 = (u.setVm vm').setFrames F2 := fun u vm' F1 F2 => by
    rw [show (u.setFrames F1).setVm vm' = (u.setVm vm').setFrames F1 from rfl, State.setFrames_setFrames]
  rw [hr, List.tail_cons, State.pushFrame, hmv, State.setTop_of_frames _ hr, hmv]
  exact hrest
end TP
