/-! The law's world: the class's cells, the reference's cells, the law's own array of one long -/
def lW (D : va_G) (cI cJ : ClassId) (A : Nat → Prop) (ad : Nat → Nat → Nat) (Sc : sT) (E : Nat → Int) (rt : Int) (br : Nat → Nat → Nat) (Sr : sT) (o : Nat) (z : Int64) (H : Heap) : Prop :=
  gC D cI cJ A ad (cAl Sc) (cC Sc E rt) H ∧ gR D cI cJ A br Sr H ∧ va_at D vwCl (o, oE cJ z) H ∧ A o ∧ (∀ k i, cAl Sc k i → ad k i ≠ o) ∧ (∀ k i, rA k i → br k i ≠ o) ∧ ∀ k i k' i', cAl Sc k i → rA k' i' → ad k i ≠ br k' i'
def lA1 (A : Nat → Prop) (br : Nat → Nat → Nat) (o : Nat) : Nat → Prop := fun q => A q ∧ q ≠ o ∧ ∀ k i, rA k i → q ≠ br k i
def lA2 (A : Nat → Prop) (ad : Nat → Nat → Nat) (Sc : sT) (o : Nat) : Nat → Prop := fun q => A q ∧ q ≠ o ∧ ∀ k i, cAl Sc k i → q ≠ ad k i
def lA3 (A : Nat → Prop) (br : Nat → Nat → Nat) : Nat → Prop := fun q => A q ∧ ∀ k i, rA k i → q ≠ br k i
section LWW
variable {D : va_G} {cI cJ : ClassId} {A : Nat → Prop} {ad ad1 : Nat → Nat → Nat} {Sc S1 : sT} {E E1 : Nat → Int} {rt rt1 : Int} {br : Nat → Nat → Nat} {Sr : sT} {o : Nat} {z z1 : Int64} {H H1 : Heap}
theorem lW.c (h : lW D cI cJ A ad Sc E rt br Sr o z H) (hA : ∀ q, H.size ≤ q → A q) : gC D cI cJ (lA1 A br o) ad (cAl Sc) (cC Sc E rt) H ∧ ∀ q, H.size ≤ q → lA1 A br o q := by
  obtain ⟨h1, h2, h3, h4, h5, h6, h7⟩ := h
  refine ⟨gQ.re h1 (fun k i ha => ⟨h1.2.1 k i ha, h5 k i ha, fun k' i' hr => h7 k i k' i' ha hr⟩), fun q hq => ⟨hA q hq, fun e => ?_, fun k i hr e => ?_⟩⟩
  · have := h3.lt
    dsimp only at this
    omega
  · have := (h2.1 k i hr).lt
    dsimp only at this
    omega
theorem lW.backC (h : lW D cI cJ A ad Sc E rt br Sr o z H) (hG : gC D cI cJ (lA1 A br o) ad1 (cAl S1) (cC S1 E1 rt1) H1) (hk : ∀ q : Nat, q < H.size → ¬ lA1 A br o q → H1[q]? = H[q]?) : lW D cI cJ A ad1 S1 E1 rt1 br Sr o z H1 := by
  obtain ⟨h1, h2, h3, h4, h5, h6, h7⟩ := h
  exact ⟨gQ.re hG (fun k i ha => (hG.2.1 k i ha).1), ⟨fun k i hr => (h2.1 k i hr).kept (hk _ (h2.1 k i hr).lt (fun q => q.2.2 k i hr rfl)), h2.2⟩, h3.kept (hk o h3.lt (fun q => q.2.1 rfl)), h4, fun k i ha => (hG.2.1 k i ha).2.1, h6, fun k i k' i' ha hr => (hG.2.1 k i ha).2.2 k' i' hr⟩
theorem lW.r (h : lW D cI cJ A ad Sc E rt br Sr o z H) : gR D cI cJ (lA2 A ad Sc o) br Sr H := by
  obtain ⟨h1, h2, h3, h4, h5, h6, h7⟩ := h
  exact gQ.re h2 (fun k i ha => ⟨h2.2.1 k i ha, h6 k i ha, fun k' i' hr => Ne.symm (h7 k' i' k i hr ha)⟩)
theorem lW.backR (h : lW D cI cJ A ad Sc E rt br Sr o z H) (hG : gR D cI cJ (lA2 A ad Sc o) br S1 H1) (hk : ∀ q : Nat, q < H.size → ¬ lA2 A ad Sc o q → H1[q]? = H[q]?) : lW D cI cJ A ad Sc E rt br S1 o z H1 := by
  obtain ⟨h1, h2, h3, h4, h5, h6, h7⟩ := h
  exact ⟨⟨fun k i hr => (h1.1 k i hr).kept (hk _ (h1.1 k i hr).lt (fun q => q.2.2 k i hr rfl)), h1.2⟩, gQ.re hG (fun k i ha => (hG.2.1 k i ha).1), h3.kept (hk o h3.lt (fun q => q.2.1 rfl)), h4, h5, h6, h7⟩
theorem lW.oo (h : lW D cI cJ A ad Sc E rt br Sr o z H) (hA : ∀ q, H.size ≤ q → A q) : gC D cI cJ (lA3 A br) ad (cAl Sc) (cC Sc E rt) H ∧ lA3 A br o ∧ (∀ k i, cAl Sc k i → ad k i ≠ o) ∧ ∀ q, H.size ≤ q → lA3 A br q := by
  obtain ⟨h1, h2, h3, h4, h5, h6, h7⟩ := h
  refine ⟨gQ.re h1 (fun k i ha => ⟨h1.2.1 k i ha, fun k' i' hr => h7 k i k' i' ha hr⟩), ⟨h4, fun k i hr => Ne.symm (h6 k i hr)⟩, h5, fun q hq => ⟨hA q hq, fun k i hr e => ?_⟩⟩
  have := (h2.1 k i hr).lt
  dsimp only at this
  omega
theorem lW.backO (h : lW D cI cJ A ad Sc E rt br Sr o z H) (hG : gC D cI cJ (lA3 A br) ad (cAl Sc) (cC Sc E rt) H1) (hO : va_at D vwCl (o, oE cJ z1) H1) (hk : ∀ q : Nat, q < H.size → ¬ lA3 A br q → H1[q]? = H[q]?) : lW D cI cJ A ad Sc E rt br Sr o z1 H1 := by
  obtain ⟨h1, h2, h3, h4, h5, h6, h7⟩ := h
  exact ⟨gQ.re hG (fun k i ha => (hG.2.1 k i ha).1), ⟨fun k i hr => (h2.1 k i hr).kept (hk _ (h2.1 k i hr).lt (fun q => q.2 k i hr rfl)), h2.2⟩, hO, h4, h5, h6, h7⟩
theorem lW_31 (w : Int) (h : lW D cI cJ A ad Sc E rt br Sr o z H) : lW D cI cJ A ad (su Sc 31 0 0 w) E rt br Sr o z H := by
  have e : cAl (su Sc 31 0 0 w) = cAl Sc := by funext k i; unfold cAl; split <;> rfl
  unfold lW
  rw [cC_31, e]
  exact h
end LWW
section LR
variable {p : Program} {l : Launch} {e : Env} {R : Room} {s : State} {m : MethodId} {args : Array Value} {below : List Frame} {meth : Method} {c : Code} {H : Heap} {locs : List Loc} {cells slots : Nat} {Q : State → Prop}
variable {cc : ByteArray} {pc : Nat} {ls : Array Slot} {rest : List Value} {D : va_G} {cI cJ : ClassId} {A : Nat → Prop} {H0 : Heap} {Ts : List Cond} {index : Nat}
variable {y : MethodName} {bytes : ByteArray} {maxL nL mc ms n : Nat} {ret : Option FieldType} {ws ws' : List Cond} {rm : Room} {As st0 : List Value} {v : Value}
variable {ad br : Nat → Nat → Nat} {Sc Sr S1 : sT} {E : Nat → Int} {rt : Int} {o : Nat} {z z1 : Int64}
/-- a static method with a table of handlers is called -/
theorem l_runW {Pc : Array Value → State → Prop} {Qc : Array Value → State → Outcome → State → Prop} {free : Addr → Prop} {own : String} {hh : List (Nat × Nat × Nat × Nat)} {g : JFrame} (S : CallFix p m c cc nL s args Ts own) (hM : Met l y ws rm Pc Qc mc ms free) (hT : GoodIn Ts (va_wsS own index y ws)) (hw : ws = Cond.codeWith y bytes maxL ret hh :: ws') (hrc : rm.cells = mc) (hrs : rm.slots = ms)
    (hd : y.cls ≠ "java/lang/invoke/MethodHandle" ∧ y.cls ≠ "java/lang/invoke/VarHandle" ∧ (parseMethodDescriptor y.desc).map (fun d => d.parameters.length) = some n) (hR : rm.frames + 1 ≤ R.frames ∧ 8 + (maxL + 11) + rm.locals ≤ R.locals) (hp : PreS s H Pc As)
    (hg : g.method = m) (hn : As.length = n) (hsize : g.locals.size = nL) (hstack : g.stack = As.reverse ++ rest) (hW : 2 * g.monitorRoom + (rest.map fun v => v.category).sum ≤ 8) (hdg : decode cc g.pc = .ok (.invokestatic index, 3)) (hf : cells + mc ≤ R.cells ∧ slots + ms ≤ R.slots) :
    va_Run p l e R s m args below meth c H locs cells slots mc ms g rest (Qc As.toArray) free := by
  obtain ⟨hx, hb, hml, ho, ht⟩ := S
  have ok : ∀ w ∈ va_wsS own index y ws, w.before args s = true := fun w h => ht w (hT w h).1
  have hl := ok (.methodLink own index y) (by simp [va_wsS])
  have hstt := ok (.static y) (by simp [va_wsS])
  have hini := ok (.initialized y.cls) (by simp [va_wsS])
  have hcode := ok (.codeWith y bytes maxL ret hh) (by simp [va_wsS, hw])
  have hGw : GoodIn Ts ws := fun w h => hT w (by unfold va_wsS; exact List.mem_append_right _ h)
  have hK : Back l R p e below s args y 3 8 (PreOf R mc ms Pc) (PostOf Qc mc ms free) := va_backW (bytes := bytes) (maxL := maxL) (ret := ret) (hh := hh) hM hp.1 hrc hrs hR.1 hR.2 (pay_in ht hGw) (by rw [hw]; exact List.mem_cons_self) (fun a' U hW => word_at hW (Or.inl (by first | rfl | simp [Cond.onTables, Cond.keeps, Cond.steady])) hini)
  obtain ⟨mk, methM, cM, hnamed, hmethM, -, -, -, -, -, -, hsigM⟩ := Cond.codeWith_spec hcode
  have hstatic : methM.isStatic = true := Cond.static_spec hnamed hmethM hstt
  obtain ⟨kP, hkP, -⟩ := className_of_methodNamed hnamed
  have hinitP : kP.init = .initialized := Cond.initialized_spec (findClass_of_methodNamed hnamed) hkP hini
  have hlen : As.length = methM.sig.parameters.length := by
    have h2 := hd.2.2
    rw [hsigM] at h2
    exact hn.trans (Option.some.inj h2).symm
  intro T hT0 X
  obtain ⟨vm₁, X₁, hstep₁⟩ := X.invokestatic hx ho hl hnamed hmethM hstatic hkP hinitP ⟨hd.1, hd.2.1⟩ (g := g) hg (argsL := As) (rest := rest) hlen hstack (by rw [hb]; exact hdg)
  obtain ⟨v, ⟨U', l2, c2, s2⟩, X', ⟨g', mk', t, L, e1, e2, hq, h1, hL, h2, h3⟩, hsteps⟩ := hK m meth c ⟨T.setVm vm₁, locs, cells, slots⟩ { g with stack := rest } (.invokestatic index) mk As.toArray X₁ hg (hsize.trans hml.symm) (by rw [hb]; exact hdg) hW (X₁.named hnamed) ⟨hf.1, hf.2, hp.2 (T.setVm vm₁) hT0 X₁.warmed⟩
  dsimp only [Pt.U, Pt.locs, Pt.cells, Pt.slots] at X' e1 e2 h1 h2 h3 hsteps
  subst h1; subst h2; subst h3
  exact ⟨v, (T.setVm vm₁).calling g' mk' As.toArray, t, U', L, hT0, X', hL, e1, e2, hq, fun target h => hstep₁ _ fun acts => by rw [doInvoke_state]; exact hsteps.trans h⟩
/-- the class is called -/
theorem l_c {Pc B : State → Prop} {X : (Nat → Int) → Int → Prop} (F : CallFix p m c cc nL s args Ts RL) (hM : Met l y ws rm (va_Pc (.ref (ad 0 0) :: As) Pc) (gO (some v) B (lA1 A br o)) mc ms (lA1 A br o)) (cw : CallW R s args RL RX4 index y bytes maxL ret ws rm mc ms n) (hbl : FrameBlind (va_Pc (.ref (ad 0 0) :: As) Pc))
    (hpre : ∀ U : State, s.WarmedH U.vm → gCU D cI cJ (lA1 A br o) ad (cAl Sc) (cC Sc E rt) U → Pc U) (hpost : ∀ U : State, B U → ∃ (ad1 : Nat → Nat → Nat) (E1 : Nat → Int) (rt1 : Int), ad1 0 0 = ad 0 0 ∧ X E1 rt1 ∧ gCU D cI cJ (lA1 A br o) ad1 (cAl S1) (cC S1 E1 rt1) U)
    (hK : va_K D vwCl [(cI, .int), (cJ, .long)] s) (hA : ∀ q, H0.size ≤ q → A q) (hG : lW D cI cJ A ad Sc E rt br Sr o z H) (hS : va_S A H0 H locs)
    (hn : As.length = n) (hsize : ls.size = nL) (hst : st0 = As.reverse ++ .ref (ad 0 0) :: rest) (hW : (rest.map fun v => v.category).sum ≤ 8) (hdg : decode cc pc = .ok (.invokevirtual index, 3)) (hf : cells + mc ≤ R.cells ∧ slots + ms ≤ R.slots)
    (kk : ∀ (ad1 : Nat → Nat → Nat) (E1 : Nat → Int) (rt1 : Int) (H1 : Heap) (locs1 : List Loc), ad1 0 0 = ad 0 0 → X E1 rt1 → lW D cI cJ A ad1 S1 E1 rt1 br Sr o z H1 → va_S A H0 H1 locs1 → W p l e R s m args below meth c H1 locs1 (cells + mc) (slots + ms) Q (F0 m (pc + 3) ls (v :: rest))) : W p l e R s m args below meth c H locs cells slots Q (F0 m pc ls st0) := by
  obtain ⟨hC, hC2⟩ := hG.c (fun q hq => hA q (Nat.le_trans hS.1 hq))
  refine g_callA (va_runV (As := As) (rest := rest) F hM cw ⟨hbl, va_recv hK (hC.one (k := 0) (i := 0) (show (0 : Nat) = 0 from rfl) (cE_obj (by decide))) (ci := cCl 0) (q0 := 0) (q := (RX4, TX4, 11)) rfl rfl, fun U hU hW => ⟨rfl, hpre U hW ⟨by rw [hU]; exact hC, va_K.moved hW.alike hK, fun q hq => hC2 q (by rw [← hU]; exact hq)⟩⟩⟩ rfl hn hsize hst (lv_room hW) hdg hf) hS (fun q h => h.1) (fun t9 H1 locs1 ht9 hal9 hB hsz hk hS1 => ?_)
  obtain ⟨ad1, E1, rt1, h0, hX, hG1, -, -⟩ := hpost _ hB
  rw [ht9] at hG1
  exact kk ad1 E1 rt1 H1 locs1 h0 hX (hG.backC hG1 hk) hS1
/-- the reference is called -/
theorem l_r (F : CallFix p m c cc nL s args Ts RL) (hM : Met l y ws rm (va_Pc (.ref (br 32 0) :: As) (gRU D cI cJ (lA2 A ad Sc o) br Sr)) (gO (some v) (gRU D cI cJ (lA2 A ad Sc o) br S1) (lA2 A ad Sc o)) 0 0 (lA2 A ad Sc o)) (cw : CallW R s args RL RX5 index y bytes maxL ret ws rm 0 0 n)
    (hK : va_K D vwCl [(cI, .int), (cJ, .long)] s) (hG : lW D cI cJ A ad Sc E rt br Sr o z H) (hS : va_S A H0 H locs)
    (hn : As.length = n) (hsize : ls.size = nL) (hst : st0 = As.reverse ++ .ref (br 32 0) :: rest) (hW : (rest.map fun v => v.category).sum ≤ 8) (hdg : decode cc pc = .ok (.invokevirtual index, 3)) (hf : cells ≤ R.cells ∧ slots ≤ R.slots)
    (kk : ∀ (H1 : Heap) (locs1 : List Loc), lW D cI cJ A ad Sc E rt br S1 o z H1 → va_S A H0 H1 locs1 → W p l e R s m args below meth c H1 locs1 cells slots Q (F0 m (pc + 3) ls (v :: rest))) : W p l e R s m args below meth c H locs cells slots Q (F0 m pc ls st0) := by
  have hR := hG.r
  refine g_callA (mc := 0) (ms := 0) (va_runV (As := As) (rest := rest) F hM cw ⟨gRU_blind, va_recv hK (hR.one (k := 32) (i := 0) ⟨rfl, Or.inl rfl⟩ (rE_obj cI cJ br Sr)) (ci := 6) (q0 := 0) rfl rfl, fun U hU hW => ⟨rfl, by rw [hU]; exact hR, va_K.moved hW.alike hK⟩⟩ rfl hn hsize hst (lv_room hW) hdg hf) hS (fun q h => h.1) (fun t9 H1 locs1 ht9 hal9 hB hsz hk hS1 => ?_)
  have hG1 := hB.1
  rw [ht9] at hG1
  exact kk H1 locs1 (hG.backR hG1 hk) hS1
/-- one of the law's own helpers is called -/
theorem l_o {Pc : State → Prop} {hh : List (Nat × Nat × Nat × Nat)} (F : CallFix p m c cc nL s args Ts RL) (hM : Met l y ws rm (va_Pc As Pc) (gO (some v) (lO D cI cJ (lA3 A br) ad (cAl Sc) (cC Sc E rt) o z1) (lA3 A br)) mc ms (lA3 A br)) (hT : GoodIn Ts (va_wsS RL index y ws)) (hw : ws = Cond.codeWith y bytes maxL ret hh :: ws') (hrc : rm.cells = mc) (hrs : rm.slots = ms)
    (hd : y.cls ≠ "java/lang/invoke/MethodHandle" ∧ y.cls ≠ "java/lang/invoke/VarHandle" ∧ (parseMethodDescriptor y.desc).map (fun d => d.parameters.length) = some n) (hR : rm.frames + 1 ≤ R.frames ∧ 8 + (maxL + 11) + rm.locals ≤ R.locals) (hbl : FrameBlind (va_Pc As Pc))
    (hpre : ∀ U : State, U.heap = H → s.WarmedH U.vm → lO D cI cJ (lA3 A br) ad (cAl Sc) (cC Sc E rt) o z U → Pc U)
    (hK : va_K D vwCl [(cI, .int), (cJ, .long)] s) (hA : ∀ q, H0.size ≤ q → A q) (hG : lW D cI cJ A ad Sc E rt br Sr o z H) (hS : va_S A H0 H locs)
    (hn : As.length = n) (hsize : ls.size = nL) (hst : st0 = As.reverse ++ rest) (hW : (rest.map fun v => v.category).sum ≤ 8) (hdg : decode cc pc = .ok (.invokestatic index, 3)) (hf : cells + mc ≤ R.cells ∧ slots + ms ≤ R.slots)
    (kk : ∀ (H1 : Heap) (locs1 : List Loc), lW D cI cJ A ad Sc E rt br Sr o z1 H1 → va_S A H0 H1 locs1 → W p l e R s m args below meth c H1 locs1 (cells + mc) (slots + ms) Q (F0 m (pc + 3) ls (v :: rest))) : W p l e R s m args below meth c H locs cells slots Q (F0 m pc ls st0) := by
  obtain ⟨hC, hAo, hne, hC2⟩ := hG.oo (fun q hq => hA q (Nat.le_trans hS.1 hq))
  refine g_callA (l_runW (As := As) (rest := rest) F hM hT hw hrc hrs hd hR ⟨hbl, fun U hU hW => ⟨rfl, hpre U hU hW ⟨⟨by rw [hU]; exact hC, va_K.moved hW.alike hK, fun q hq => hC2 q (by rw [← hU]; exact hq)⟩, by rw [hU]; exact hG.2.2.1, hAo, hne⟩⟩⟩ rfl hn hsize hst (lv_room hW) hdg hf) hS (fun q h => h.1) (fun t9 H1 locs1 ht9 hal9 hB hsz hk hS1 => ?_)
  obtain ⟨⟨hG1, -, -⟩, hO1, -, -⟩ := hB
  rw [ht9] at hG1 hO1
  exact kk H1 locs1 (hG.backO hG1 hO1 hk) hS1
/-- a number of the script is read: its row and its place go onto the stack; then it comes -/
theorem l_ra (hexec : p.tables.exec = Jvm.exec) (hb : c.code = cc) {b : Nat} {i : Int} (h0 : ls[0]? = some (.val (.ref b))) (h4 : ls[4]? = some (.val (.int (zI i)))) (d0 : decode cc pc = .ok (.aload_n 0, 1)) (d1 : decode cc (pc + 1) = .ok (.iload 4, 2))
    (kk : W p l e R s m args below meth c H locs cells slots Q (F0 m (pc + 1 + 2) ls (.int (zI i) :: .ref b :: rest))) : W p l e R s m args below meth c H locs cells slots Q (F0 m pc ls rest) :=
  lv_aload_n hexec hb d0 rfl h0 (lv_iload hexec hb d1 h4 kk)
theorem l_rb (hexec : p.tables.exec = Jvm.exec) (hb : c.code = cc) {b L : Nat} {xs : Nat → Int32} (hX : va_X b L xs s H0) (hbl : b < H0.size) (hbA : ¬ A b) (hS : va_S A H0 H locs) (hL : L ≤ 3585) {i k : Nat} (hik : i + k < L) {y : Int} (hy : (xs (i + k)).toInt = y) (d3 : decode cc pc = .ok (.iadd, 1)) (d4 : decode cc (pc + 1) = .ok (.iaload, 1))
    (kk : W p l e R s m args below meth c H locs cells slots Q (F0 m (pc + 1 + 1) ls (.int (zI y) :: rest))) : W p l e R s m args below meth c H locs cells slots Q (F0 m pc ls (.int (zI (k : Int)) :: .int (zI (i : Int)) :: .ref b :: rest)) := by
  refine z_iadd hexec hb d3 (va_sld hexec hb hX hbl hbA hS (zI_in (by omega) (by omega) (by omega)) d4 ?_)
  rw [← hy, zI_of] at kk
  rw [zI_cl (by omega) (by omega), show ((i : Int) + (k : Int)).toNat = i + k by omega]
  exact kk
theorem l_r0 (hexec : p.tables.exec = Jvm.exec) (hb : c.code = cc) {b L : Nat} {xs : Nat → Int32} (hX : va_X b L xs s H0) (hbl : b < H0.size) (hbA : ¬ A b) (hS : va_S A H0 H locs) (hL : L ≤ 3585) {i : Nat} (hik : i < L) (d4 : decode cc pc = .ok (.iaload, 1))
    (kk : W p l e R s m args below meth c H locs cells slots Q (F0 m (pc + 1) ls (.int (xs i) :: rest))) : W p l e R s m args below meth c H locs cells slots Q (F0 m pc ls (.int (zI (i : Int)) :: .ref b :: rest)) := by
  refine va_sld hexec hb hX hbl hbA hS (zI_in (by omega) (by omega) (by omega)) d4 ?_
  rw [zI_cl (by omega) (by omega), show ((i : Int)).toNat = i by omega]
  exact kk
end LR
theorem zI_B (x : Int32) : zB x.toInt := ⟨zI_lo x, zI_hi x⟩
theorem zL_C (x : Int64) : zC x.toInt := ⟨zL_lo x, zL_hi x⟩
