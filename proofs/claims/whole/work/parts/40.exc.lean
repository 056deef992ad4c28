/-! A method that throws the one exception that the class throws; its caller lets it through, or catches it -/
section TX
def tQ (B : State → Prop) (A : Nat → Prop) (mc ms : Nat) : Array Value → State → Outcome → State → Prop := fun _ st o t =>
  ∃ (q : Addr) (ce : Cell) (L : List Loc), o = .threw q ∧ t.heap[q]? = some ce ∧ ce.vm = .none ∧ st.vm.findClass RJx00060 = some ce.cls ∧ B t ∧ va_F A st t ∧ st.WarmedH t.vm ∧ st.sameButNew ({ t with vm := st.vm } : State) L mc ms ∧ ∀ z ∈ L, A z.base
def tMet (l : Launch) (y : MethodName) (ws : List Cond) (rm : Room) (Pc : Array Value → State → Prop) (B : State → Prop) (A : Nat → Prop) (mc ms : Nat) : Prop :=
  MetFree l y (headSpec ws rm) Pc (fun _ _ _ _ _ => True) (tQ B A mc ms)
def tEnd (below : List Frame) (B : State → Prop) (A : Nat → Prop) (args : Array Value) (s : State) (mc ms : Nat) : State → Prop := fun t => ∃ o, t.status = .running ∧ Ended t below o ∧ tQ B A mc ms args s o t
theorem tMet.ofW {l : Launch} {y : MethodName} {ws ws' : List Cond} {rm : Room} {Pc : Array Value → State → Prop} {B : State → Prop} {A : Nat → Prop} {mc ms : Nat} {cc : ByteArray} {maxL : Nat} {ret : Option FieldType}
    (hy : plainName y.cls = true) (hw : ws = Cond.code y cc maxL ret :: ws')
    (body : ∀ p e s m args below meth c s₁, BodyLoose p l y (headSpec ws rm) cc maxL ret e s m args below meth c s₁ → c.maxLocals = maxL → c.exceptionTable.toList = [] → Pc args s →
      W p l e (headSpec ws rm).room s m args below meth c s.heap [] 0 0 (tEnd below B A args s mc ms) (entryFrame m args maxL)) : tMet l y ws rm Pc B A mc ms := by
  refine MetFree.of_bodyS (code := cc) (maxLocals := maxL) (ret := ret) hy (fun args s m h hn => ?_) (fun p e s m args below meth c s₁ B9 hml hP _ => ?_)
  · obtain ⟨meth, c, h1, h2, h3, h4, h5, h6, -, -⟩ := Cond.code_spec hn (atoms_spec (ws := ws) h _ (by rw [hw]; exact List.mem_cons_self))
    exact ⟨meth, c, h1, h2, h3, h4, h5, h6⟩
  · have hno : c.exceptionTable.toList = [] := by
      rw [Array.isEmpty_iff.mp (B9.noHandlers (atoms_spec (ws := ws) B9.pre _ (by rw [hw]; exact List.mem_cons_self)))]
    obtain ⟨t, a1, o, b1, b2, b3⟩ := body p e s m args below meth c s₁ B9 hml hno hP s₁ (by rw [B9.state]; rfl) (Stand.of_body B9)
    exact ⟨t, o, a1, b1, b2, b3⟩
variable {p : Program} {l : Launch} {e : Env} {R : Room} {s : State} {m : MethodId} {args : Array Value} {below : List Frame} {meth : Method} {c : Code} {T : State} {H : Heap} {locs : List Loc} {cells slots : Nat} {Q : State → Prop}
/-- the callee's throw, as its caller sees it -/
theorem t_goes {y : MethodName} {ws : List Cond} {rm : Room} {Pc : Array Value → State → Prop} {B : State → Prop} {A : Nat → Prop} {mc ms : Nat} {bytes : ByteArray} {maxL : Nat} {ret : Option FieldType} {g : JFrame} {ig : Instr} {len : Nat} {mk : MethodId} {a : Array Value}
    (X : Stand p l e R s m args below meth c T locs cells slots) (hM : tMet l y ws rm Pc B A mc ms) (hg : g.method = m) (hsize : g.locals.size = c.maxLocals) (hdg : decode c.code g.pc = .ok (ig, len)) (hW : 2 * g.monitorRoom + (g.stack.map fun v => v.category).sum ≤ 8) (hn : T.methodNamed? y = some mk)
    (hrc : rm.cells = mc) (hrs : rm.slots = ms) (hfr : rm.frames + 1 ≤ R.frames) (hlo : 8 + (maxL + 11) + rm.locals ≤ R.locals) (hws : ∀ w ∈ ws, w.before a T = true) (hcode : (Cond.code y bytes maxL ret).before a T = true) (hini : (Cond.initialized y.cls).before a T = true)
    (hc : cells + mc ≤ R.cells) (hs : slots + ms ≤ R.slots) (hP : Pc a (T.calling g mk a)) :
    ∃ (q : Addr) (ce : Cell) (t T' : State) (L : List Loc), Stand p l e R s m args below meth c T' (locs ++ L) (cells + mc) (slots + ms) ∧ T'.heap = t.heap ∧ T'.vm = t.vm ∧ (∀ z ∈ L, A z.base) ∧ t.heap[q]? = some ce ∧ ce.vm = .none ∧ T.vm.findClass RJx00060 = some ce.cls ∧ B t ∧ va_F A T t ∧
      Steps p.tables e below (doInvoke e (T.setTop g) [] mk a).1 ((T'.setTop g).pushFrame (.throwing q)) := by
  subst hg
  have hat : At T g.method c below := X.here
  obtain ⟨mY, cY, hmY, hcY, -, hlY, -, -, -, -⟩ := Cond.code_spec hn hcode
  obtain ⟨kY, hkY, -⟩ := className_of_methodNamed hn
  have happ : (headSpec ws rm).appliesLoose y e.platform (T.calling g mk a) = true :=
    Spec.appliesLoose_calling hat hdg hn hkY (Cond.initialized_spec (findClass_of_methodNamed hn) hkY hini)
      (X.room_calling (g := g) (R' := rm) hsize hmY hcY hfr (by rw [hlY]; omega) (by rw [hrc]; exact hc) (by rw [hrs]; exact hs)) (atoms_intro hws)
  obtain ⟨mid, hmid⟩ := hat.above
  obtain ⟨o, t, hsteps, -, hend, q, ce, L, rfl, hce, hcv, hcl, hB, hF, hWt, hsm, hL⟩ := Steps.callFree hM p X.admits X.cas X.clock (acts := []) (mid := .java g :: mid) (by rw [State.frames_setTop' g hat.top, hmid]; rfl) happ hP trivial
  rw [State.frames_setTop' g hat.top] at hend
  obtain ⟨g0, hg0⟩ := Option.isSome_iff_exists.mp hat.top
  obtain ⟨r, hr⟩ := State.topJava?_eq_some.mp hg0
  obtain ⟨e2, q2, q3, q4, q5, q6⟩ := hsm
  have hWT : T.WarmedH t.vm := hWt
  refine ⟨q, ce, t, ({ T with heap := t.heap, slotsUsed := t.slotsUsed } : State).setVm t.vm, L,
    ⟨X.admits, X.cas, X.clock, X.frames, X.room, X.hears, X.method, X.code, (hat.setHeapUsed t.heap t.slotsUsed).setVm hWT.alike, X.tail, State.WarmedH.trans X.warmed hWT, X.limits, X.bytes, ?_⟩, rfl, rfl, hL, hce, hcv, hcl, hB, hF, ?_⟩
  · have hsame : T.sameButNew ({ T with heap := t.heap, slotsUsed := t.slotsUsed } : State) L mc ms := by
      obtain ⟨z, hz, -⟩ := State.frames_cons hr
      refine ⟨?_, q2, q3, q4, q5, q6⟩
      show ({ T with heap := t.heap, slotsUsed := t.slotsUsed } : State) = { T.setFrames T.frames with heap := t.heap, slotsUsed := t.slotsUsed }
      rw [State.setFrames_self hz]
    exact X.same.trans (hsame.setVm s.vm)
  · have hr' : (({ T with heap := t.heap, slotsUsed := t.slotsUsed } : State).setVm t.vm).frames = .java g0 :: r := hr
    have hf9 : t.frames = .throwing q :: .java g :: T.frames.tail := hend
    have ht : t = ((({ T with heap := t.heap, slotsUsed := t.slotsUsed } : State).setVm t.vm).setTop g).pushFrame (.throwing q) := by
      have h9 : t = ({ t with vm := (T.calling g mk a).vm } : State).setVm t.vm := rfl
      have e3 : t = ({ (T.calling g mk a).setFrames t.frames with heap := t.heap, slotsUsed := t.slotsUsed } : State).setVm t.vm := by
        have e4 := h9
        have e5 : ({ t with vm := (T.calling g mk a).vm } : State) = { (T.calling g mk a).setFrames t.frames with heap := t.heap, slotsUsed := t.slotsUsed } := e2
        rw [e5] at e4
        exact e4
      refine e3.trans ?_
      rw [hf9, State.calling_eq hat.top, State.setFrames_setFrames, State.pushFrame, State.frames_setTop _ hr', State.setTop_of_frames _ hr', State.setFrames_setFrames, hr]
      rfl
    rw [← ht]
    exact hsteps
/-- a virtual call of a method that throws -/
theorem t_runV {y : MethodName} {ws Ts : List Cond} {rm : Room} {Pc : Array Value → State → Prop} {B : State → Prop} {A : Nat → Prop} {mc ms n nL index pc : Nat} {bytes cc : ByteArray} {maxL : Nat} {ret : Option FieldType} {own C : String} {b : Addr} {As rest st0 : List Value} {ls : Array Slot}
    (F : CallFix p m c cc nL s args Ts own) (hM : tMet l y ws rm Pc B A mc ms) (cw : CallW R s args own C index y bytes maxL ret ws rm mc ms n) (hp : PreV s H C b Pc As)
    (hn : As.length = n) (hsize : ls.size = nL) (hst : st0 = As.reverse ++ .ref b :: rest) (hW : (rest.map fun v => v.category).sum ≤ 8) (hdg : decode cc pc = .ok (.invokevirtual index, 3)) (hf : cells + mc ≤ R.cells ∧ slots + ms ≤ R.slots)
    (hT : T.heap = H) (X : Stand p l e R s m args below meth c T locs cells slots) :
    ∃ (q : Addr) (ce : Cell) (t T' : State) (L : List Loc), Stand p l e R s m args below meth c T' (locs ++ L) (cells + mc) (slots + ms) ∧ T'.heap = t.heap ∧ s.vm.Alike t.vm ∧ (∀ z ∈ L, A z.base) ∧ T'.heap[q]? = some ce ∧ ce.vm = .none ∧ s.vm.findClass RJx00060 = some ce.cls ∧ B t ∧
      (H.size ≤ T'.heap.size ∧ ∀ z : Nat, z < H.size → ¬ A z → T'.heap[z]? = H[z]?) ∧ Steps p.tables e below (T.setTop (F0 m pc ls st0)) ((T'.setTop (F0 m pc ls rest)).pushFrame (.throwing q)) := by
  obtain ⟨⟨hrc, hrs, hfr, hlo, hws, -, hcode, hini, hy, hlen, hl⟩, hin, hse⟩ := cw
  obtain ⟨hx, hb, hml, ho, -⟩ := F
  obtain ⟨hbl, ⟨cellB, hcB, hoB, hclB⟩, hPc⟩ := hp
  obtain ⟨mk, mM, hnamed, hmM, hstM, habM⟩ := Cond.instanceMethod_spec hin
  obtain ⟨mM', cM, hmM', -, -, -, -, -, -, hsigM⟩ := Cond.code_spec hnamed hcode
  cases hmM.symm.trans hmM'
  obtain ⟨c2, r2, m2, q1, q2, q3, q4, kP, hkP, hkPi⟩ := Cond.selects_spec hse
  cases hclB.symm.trans q1
  cases (State.methodFound?_of_named hnamed hy).symm.trans q2
  cases hnamed.symm.trans q3
  obtain ⟨vm₁, X₁, hstep⟩ := X.invokevirtual hx ho hl hnamed hmM hstM hkP hkPi hy (a := b) (cell := cellB) (by rw [hT]; exact hcB) (fun z h => by rw [h] at hoB; cases hoB)
    (by rw [Launch.admits_selectMethod X.admits]; exact q4) hmM habM hkP hkPi (g := F0 m pc ls st0) rfl (argsL := As) (rest := rest) (hn.trans (hlen _ hsigM)) hst (by rw [hb]; exact hdg)
  have hW1 : s.WarmedH vm₁ := X₁.warmed
  obtain ⟨q, ce, t, T', L, X2, e1, e2, hL, hce, hcv, hcl, hB, hF, st⟩ := t_goes (g := F0 m pc ls rest) (bytes := bytes) (maxL := maxL) (ret := ret) (a := (Value.ref b :: As).toArray) X₁ hM rfl (hsize.trans hml.symm) (by rw [hb]; exact hdg) (lv_room hW) (X₁.named hnamed) hrc hrs hfr hlo
    (fun w hw => hws w hw _ (T.setVm vm₁) hW1) (word_at (U := T.setVm vm₁) hW1 (Or.inl rfl) hcode) (word_at (U := T.setVm vm₁) hW1 (Or.inl rfl) hini) hf.1 hf.2 (hbl _ _ _ _ (hPc (T.setVm vm₁) hT hW1))
  have hcl' : vm₁.findClass RJx00060 = some ce.cls := hcl
  rw [hW1.alike.findClass] at hcl'
  have hF' : va_F A T t := hF
  refine ⟨q, ce, t, T', L, X2, e1, by rw [← e2]; exact X2.warmed.alike, hL, by rw [e1]; exact hce, hcv, hcl', hB, ?_, hstep _ fun acts => by rw [doInvoke_state]; exact st⟩
  rw [← hT, e1]
  exact hF'
/-- it goes on to the caller's caller -/
theorem t_out {y : MethodName} {ws Ts : List Cond} {rm : Room} {Pc : Array Value → State → Prop} {B B' : State → Prop} {A : Nat → Prop} {mc ms n nL index pc : Nat} {bytes cc : ByteArray} {maxL : Nat} {ret : Option FieldType} {own C : String} {b : Addr} {As rest st0 : List Value} {ls : Array Slot}
    (F : CallFix p m c cc nL s args Ts own) (hM : tMet l y ws rm Pc B A mc ms) (cw : CallW R s args own C index y bytes maxL ret ws rm mc ms n) (hp : PreV s s.heap C b Pc As)
    (hn : As.length = n) (hsize : ls.size = nL) (hst : st0 = As.reverse ++ .ref b :: rest) (hW : (rest.map fun v => v.category).sum ≤ 8) (hdg : decode cc pc = .ok (.invokevirtual index, 3)) (hf : mc ≤ R.cells ∧ ms ≤ R.slots)
    (hno : c.exceptionTable.toList = []) (hlocks : meth.locks = false) (hB : ∀ t U : State, B t → U.heap = t.heap → s.vm.Alike U.vm → B' U) : W p l e R s m args below meth c s.heap [] 0 0 (tEnd below B' A args s mc ms) (F0 m pc ls st0) := by
  intro T hT X
  obtain ⟨q, ce, t, T', L, X2, e1, -, hL, hce, hcv, hcl, hBt, hF, st⟩ := t_runV F hM cw hp hn hsize hst hW hdg (cells := 0) (slots := 0) ⟨by omega, by omega⟩ hT X
  rw [Nat.zero_add, Nat.zero_add, List.nil_append] at X2
  obtain ⟨st2, hrun, hend, hWd, hsm⟩ := X2.leaveThrown q (g := F0 m pc ls rest) rfl rfl rfl (fun x hx => by rw [hno] at hx; cases hx) hlocks
  exact ⟨_, st.trans st2, .threw q, hrun, hend, q, ce, L, rfl, hce, hcv, hcl, hB t _ hBt e1 hWd.alike, hF, hWd, hsm, hL⟩
end TX
