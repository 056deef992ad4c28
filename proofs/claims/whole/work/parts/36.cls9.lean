def cz (C : sT) (K J : Nat) : sT := fun k i f => if k = K ∧ i = J then 0 else C k i f
theorem cz_o {C : sT} {K J k i : Nat} (h : ¬ (k = K ∧ i = J)) : cz C K J k i = C k i := by funext f; unfold cz; rw [if_neg h]
theorem cz_s (C : sT) (K J : Nat) : cz C K J K J = fun _ => 0 := by funext f; unfold cz; rw [if_pos ⟨rfl, rfl⟩]
def cn (C : sT) (K J : Nat) : sT := fun k i f => if k = K ∧ i = J then (if 2 ≤ cT K f then -1 else 0) else C k i f
theorem cn_o {C : sT} {K J k i : Nat} (h : ¬ (k = K ∧ i = J)) : cn C K J k i = C k i := by funext f; unfold cn; rw [if_neg h]
theorem cn_s (C : sT) (K J f : Nat) : cn C K J K J f = if 2 ≤ cT K f then -1 else 0 := by unfold cn; rw [if_pos ⟨rfl, rfl⟩]
theorem adU_ne {ad : Nat → Nat → Nat} {K J q k j : Nat} (h : ¬ (k = K ∧ j = J)) : adU ad K J q k j = ad k j := by unfold adU; rw [if_neg h]
theorem rf_ad {ad ad1 : Nat → Nat → Nat} {t : Nat} {z : Int} (h : ∀ j, ad1 t j = ad t j) : rf ad1 t z = rf ad t z := by unfold rf; rw [h]
theorem gCN_blind {w : Cond} (hw : w.onTables = true) {D : va_G} {cI cJ : ClassId} {A : Nat → Prop} {ad : Nat → Nat → Nat} {al : Nat → Nat → Prop} {C : sT} {as : List Value} : FrameBlind (va_Pc as (fun U => gCU D cI cJ A ad al C U ∧ va_Nw w U)) := fun a U g mk q => by
  obtain ⟨q0, ⟨qP, qK, qA⟩, qN⟩ := q
  exact ⟨q0, ⟨qP, va_K.moved (u := U) (U := U.calling g mk a) (Vm.Alike.refl U.vm) qK, qA⟩, va_Nw.same (u := U) (U := U.calling g mk a) hw rfl qN⟩
theorem gC_eq {D : va_G} {cI cJ : ClassId} {A : Nat → Prop} {ad : Nat → Nat → Nat} {al : Nat → Nat → Prop} {C C' : sT} {H : Heap} (h : gC D cI cJ A ad al C H) (he : ∀ k i, al k i → C' k i = C k i) : gC D cI cJ A ad al C' H := h.congr (fun k i q => by rw [he k i q])
theorem cFs_eq {ad : Nat → Nat → Nat} {k : Nat} {g g' : Nat → Int} (h : ∀ f, f < cNf k → g' f = g f) : cFs ad k g' = cFs ad k g := by
  unfold cFs
  apply List.map_congr_left
  intro f hf
  rw [h f (List.mem_range.mp hf)]
theorem gC_eqf {D : va_G} {cI cJ : ClassId} {A : Nat → Prop} {ad : Nat → Nat → Nat} {al : Nat → Nat → Prop} {C C' : sT} {H : Heap} (h : gC D cI cJ A ad al C H) (he : ∀ k i, al k i → (k = 1 ∨ k = 4 ∨ k = 5 → C' k i = C k i) ∧ ∀ f, f < cNf k → C' k i f = C k i f) : gC D cI cJ A ad al C' H := h.congr (fun k i q => by
  by_cases hk : k = 1 ∨ k = 4 ∨ k = 5
  · rw [(he k i q).1 hk]
  · rw [cE_obj (by omega), cE_obj (by omega), cFs_eq (he k i q).2])
theorem gC_al {D : va_G} {cI cJ : ClassId} {A : Nat → Prop} {ad : Nat → Nat → Nat} {al al' : Nat → Nat → Prop} {C : sT} {H : Heap} (h : gC D cI cJ A ad al C H) (he : ∀ k i, al' k i → al k i) : gC D cI cJ A ad al' C H := gQ.al h he
set_option maxHeartbeats 4000000 in
set_option maxRecDepth 100000 in
theorem m_X1_init (l : Launch) (D : va_G) (cI cJ : ClassId) (A : Nat → Prop) (ad : Nat → Nat → Nat) (al : Nat → Nat → Prop) (C : sT) (x : Nat) (a b t : Int) (hx6 : al 6 x) : Met l yX1_init wsX1_init ({ frames := 1, cells := 0, slots := 0, locals := 20 }) (va_Pc [.ref (ad 6 x), .long (zL a), .long (zL b), .int (zI t)] (gCU D cI cJ A ad al C)) (gO none (gCU D cI cJ A ad al (su (su (su C 6 x 0 a) 6 x 1 b) 6 x 2 t)) A) 0 0 A := by
  refine Met.ofW (cc := cX1_init) (maxL := 6) (ret := none) (by decide) rfl ?_
  intro p e s m0 args below meth c s₁ B hml hv
  obtain ⟨rfl, hG, hK, hA⟩ := hv
  have hx := B.exec
  have hb := B.bytes
  have hr := B.returns
  have hts := atoms_spec (ws := wsX1_init) B.pre
  have hown : s.vm.findClass RX1 = some m0.cls := findClass_of_methodNamed B.named
  have hlocks := B.notSynchronized
  have hinX1 : ∀ w ∈ wsX10, w ∈ wsX1_init := by decide +kernel
  have hin0 : meth.name = "<init>" := (name_of_methodNamed B.named B.method).1
  have hS : va_S A s.heap s.heap [] := va_S.rf
  have hl := lv_entry ([.ref (ad 6 x), .long (zL a), .long (zL b), .int (zI t)]) (n := 6) (Nat.le_of_ble_eq_true rfl)
  rw [lg_entry_eq]
  generalize (lg_sl ([.ref (ad 6 x), .long (zL a), .long (zL b), .int (zI t)]) ++ List.replicate (6 - (lg_sl ([.ref (ad 6 x), .long (zL a), .long (zL b), .int (zI t)])).length) Slot.unset).toArray = ls at hl ⊢
  replace hl : lv_has ls 6 [(0, .ref (ad 6 x)), (1, .long (zL a)), (3, .long (zL b)), (5, .int (zI t))] := hl
  refine lv_aload_n hx hb dX1_init_0 rfl (lv_at hl 0 rfl) ?_
  refine W.objInit hx hb hown (hts (.methodLink RX1 1 objectInit) (by decide +kernel)) (hts (.instanceMethod objectInit) (by decide +kernel)) (hts (.code objectInit ⟨#[0xb1]⟩ 1 none) (by decide +kernel)) rfl (by rw [hml]; exact hl.1) rfl dX1_init_1 (Nat.le_of_ble_eq_true rfl) (Nat.le_of_ble_eq_true rfl) ?_
  refine W.eq (g2 := F0 m0 4 ls []) rfl ?_
  refine lv_aload_n hx hb dX1_init_4 rfl (lv_at hl 0 rfl) ?_
  refine lv_lload_n hx hb dX1_init_5 rfl (lv_at hl 1 rfl) ?_
  refine c_putV (Cn := RX1) (T := TX1) (z := a) hx hb hts 6 hinX1 tyX1 tyX1_ok nmX1 hown hK hG hS x 0 hx6 (by decide) rfl (by decide) (hts (.fieldLink RX1 7 "LineEvents$Fault" "above" "J") (by decide +kernel)) (Or.inr ⟨rfl, hin0, rfl⟩) (cV_J (z := a) rfl rfl) rfl rfl dX1_init_6 (fun H locs hG hS => ?_)
  refine lv_aload_n hx hb dX1_init_9 rfl (lv_at hl 0 rfl) ?_
  refine lv_lload_n hx hb dX1_init_10 rfl (lv_at hl 2 rfl) ?_
  refine c_putV (Cn := RX1) (T := TX1) (z := b) hx hb hts 6 hinX1 tyX1 tyX1_ok nmX1 hown hK hG hS x 1 hx6 (by decide) rfl (by decide) (hts (.fieldLink RX1 13 "LineEvents$Fault" "below" "J") (by decide +kernel)) (Or.inr ⟨rfl, hin0, rfl⟩) (cV_J (z := b) rfl rfl) rfl rfl dX1_init_11 (fun H locs hG hS => ?_)
  refine lv_aload_n hx hb dX1_init_14 rfl (lv_at hl 0 rfl) ?_
  refine lv_iload hx hb dX1_init_15 (lv_at hl 3 rfl) ?_
  refine c_putV (Cn := RX1) (T := TX1) (z := t) hx hb hts 6 hinX1 tyX1 tyX1_ok nmX1 hown hK hG hS x 2 hx6 (by decide) rfl (by decide) (hts (.fieldLink RX1 16 "LineEvents$Fault" "tenths" "I") (by decide +kernel)) (Or.inr ⟨rfl, hin0, rfl⟩) (cV_I (z := t) rfl rfl) rfl rfl dX1_init_17 (fun H locs hG hS => ?_)
  exact W.vret hx hb hr (fun t ht hW => ⟨rfl, ⟨by rw [ht]; exact hG, va_K.moved hW.alike hK, fun q hq => hA q (Nat.le_trans hS.1 (by rw [← ht]; exact hq))⟩, hS.F ht⟩) hS.2.2 dX1_init_20
set_option maxHeartbeats 4000000 in
set_option maxRecDepth 100000 in
theorem m_X3_initN (l : Launch) (D : va_G) (cI cJ : ClassId) (A : Nat → Prop) (ad : Nat → Nat → Nat) (al : Nat → Nat → Prop) (C : sT) (x : Nat) (a b t c9 : Int) (hx7 : al 7 x) : Met l yX3_init wsX3_init ({ frames := 1, cells := 0, slots := 0, locals := 20 }) (va_Pc [.ref (ad 7 x), .int (zI a), .int (zI b), .int (zI t), .int (zI c9), .null] (gCU D cI cJ A ad al C)) (gO none (gCU D cI cJ A ad al (su (su (su (su (su C 7 x 0 a) 7 x 1 b) 7 x 2 t) 7 x 3 c9) 7 x 4 (-1))) A) 0 0 A := by
  refine Met.ofW (cc := cX3_init) (maxL := 6) (ret := none) (by decide) rfl ?_
  intro p e s m0 args below meth c s₁ B hml hv
  obtain ⟨rfl, hG, hK, hA⟩ := hv
  have hx := B.exec
  have hb := B.bytes
  have hr := B.returns
  have hts := atoms_spec (ws := wsX3_init) B.pre
  have hown : s.vm.findClass RX3 = some m0.cls := findClass_of_methodNamed B.named
  have hlocks := B.notSynchronized
  have hinX3 : ∀ w ∈ wsX30, w ∈ wsX3_init := by decide +kernel
  have hin0 : meth.name = "<init>" := (name_of_methodNamed B.named B.method).1
  have hS : va_S A s.heap s.heap [] := va_S.rf
  have hl := lv_entry ([.ref (ad 7 x), .int (zI a), .int (zI b), .int (zI t), .int (zI c9), .null]) (n := 6) (Nat.le_of_ble_eq_true rfl)
  rw [lg_entry_eq]
  generalize (lg_sl ([.ref (ad 7 x), .int (zI a), .int (zI b), .int (zI t), .int (zI c9), .null]) ++ List.replicate (6 - (lg_sl ([.ref (ad 7 x), .int (zI a), .int (zI b), .int (zI t), .int (zI c9), .null])).length) Slot.unset).toArray = ls at hl ⊢
  replace hl : lv_has ls 6 [(0, .ref (ad 7 x)), (1, .int (zI a)), (2, .int (zI b)), (3, .int (zI t)), (4, .int (zI c9)), (5, .null)] := hl
  refine lv_aload_n hx hb dX3_init_0 rfl (lv_at hl 0 rfl) ?_
  refine W.objInit hx hb hown (hts (.methodLink RX3 3 objectInit) (by decide +kernel)) (hts (.instanceMethod objectInit) (by decide +kernel)) (hts (.code objectInit ⟨#[0xb1]⟩ 1 none) (by decide +kernel)) rfl (by rw [hml]; exact hl.1) rfl dX3_init_1 (Nat.le_of_ble_eq_true rfl) (Nat.le_of_ble_eq_true rfl) ?_
  refine W.eq (g2 := F0 m0 4 ls []) rfl ?_
  refine lv_aload_n hx hb dX3_init_4 rfl (lv_at hl 0 rfl) ?_
  refine lv_iload_n hx hb dX3_init_5 rfl (lv_at hl 1 rfl) ?_
  refine c_putV (Cn := RX3) (T := TX3) (z := a) hx hb hts 7 hinX3 tyX3 tyX3_ok nmX3 hown hK hG hS x 0 hx7 (by decide) rfl (by decide) (hts (.fieldLink RX3 9 "LineEvents$Row" "machine" "I") (by decide +kernel)) (Or.inr ⟨rfl, hin0, rfl⟩) (cV_I (z := a) rfl rfl) rfl rfl dX3_init_6 (fun H locs hG hS => ?_)
  refine lv_aload_n hx hb dX3_init_9 rfl (lv_at hl 0 rfl) ?_
  refine lv_iload_n hx hb dX3_init_10 rfl (lv_at hl 2 rfl) ?_
  refine c_putV (Cn := RX3) (T := TX3) (z := b) hx hb hts 7 hinX3 tyX3 tyX3_ok nmX3 hown hK hG hS x 1 hx7 (by decide) rfl (by decide) (hts (.fieldLink RX3 15 "LineEvents$Row" "from" "I") (by decide +kernel)) (Or.inr ⟨rfl, hin0, rfl⟩) (cV_I (z := b) rfl rfl) rfl rfl dX3_init_11 (fun H locs hG hS => ?_)
  refine lv_aload_n hx hb dX3_init_14 rfl (lv_at hl 0 rfl) ?_
  refine lv_iload_n hx hb dX3_init_15 rfl (lv_at hl 3 rfl) ?_
  refine c_putV (Cn := RX3) (T := TX3) (z := t) hx hb hts 7 hinX3 tyX3 tyX3_ok nmX3 hown hK hG hS x 2 hx7 (by decide) rfl (by decide) (hts (.fieldLink RX3 18 "LineEvents$Row" "to" "I") (by decide +kernel)) (Or.inr ⟨rfl, hin0, rfl⟩) (cV_I (z := t) rfl rfl) rfl rfl dX3_init_16 (fun H locs hG hS => ?_)
  refine lv_aload_n hx hb dX3_init_19 rfl (lv_at hl 0 rfl) ?_
  refine lv_iload hx hb dX3_init_20 (lv_at hl 4 rfl) ?_
  refine c_putV (Cn := RX3) (T := TX3) (z := c9) hx hb hts 7 hinX3 tyX3 tyX3_ok nmX3 hown hK hG hS x 3 hx7 (by decide) rfl (by decide) (hts (.fieldLink RX3 21 "LineEvents$Row" "cause" "I") (by decide +kernel)) (Or.inr ⟨rfl, hin0, rfl⟩) (cV_I (z := c9) rfl rfl) rfl rfl dX3_init_22 (fun H locs hG hS => ?_)
  refine lv_aload_n hx hb dX3_init_25 rfl (lv_at hl 0 rfl) ?_
  refine lv_aloadN hx hb dX3_init_26 (lv_at hl 5 rfl) ?_
  refine c_putV (Cn := RX3) (T := TX3) (z := (-1)) hx hb hts 7 hinX3 tyX3 tyX3_ok nmX3 hown hK hG hS x 4 hx7 (by decide) rfl (by decide) (hts (.fieldLink RX3 24 "LineEvents$Row" "earlier" "LLineEvents$Row;") (by decide +kernel)) (Or.inr ⟨rfl, hin0, rfl⟩) (cV_N (t := 7) rfl (by decide)) rfl rfl dX3_init_28 (fun H locs hG hS => ?_)
  exact W.vret hx hb hr (fun t ht hW => ⟨rfl, ⟨by rw [ht]; exact hG, va_K.moved hW.alike hK, fun q hq => hA q (Nat.le_trans hS.1 (by rw [← ht]; exact hq))⟩, hS.F ht⟩) hS.2.2 dX3_init_31
set_option maxHeartbeats 4000000 in
set_option maxRecDepth 100000 in
theorem m_X3_initR (l : Launch) (D : va_G) (cI cJ : ClassId) (A : Nat → Prop) (ad : Nat → Nat → Nat) (al : Nat → Nat → Prop) (C : sT) (x j9 : Nat) (a b t c9 : Int) (hx7 : al 7 x) : Met l yX3_init wsX3_init ({ frames := 1, cells := 0, slots := 0, locals := 20 }) (va_Pc [.ref (ad 7 x), .int (zI a), .int (zI b), .int (zI t), .int (zI c9), .ref (ad 7 j9)] (gCU D cI cJ A ad al C)) (gO none (gCU D cI cJ A ad al (su (su (su (su (su C 7 x 0 a) 7 x 1 b) 7 x 2 t) 7 x 3 c9) 7 x 4 (j9))) A) 0 0 A := by
  refine Met.ofW (cc := cX3_init) (maxL := 6) (ret := none) (by decide) rfl ?_
  intro p e s m0 args below meth c s₁ B hml hv
  obtain ⟨rfl, hG, hK, hA⟩ := hv
  have hx := B.exec
  have hb := B.bytes
  have hr := B.returns
  have hts := atoms_spec (ws := wsX3_init) B.pre
  have hown : s.vm.findClass RX3 = some m0.cls := findClass_of_methodNamed B.named
  have hlocks := B.notSynchronized
  have hinX3 : ∀ w ∈ wsX30, w ∈ wsX3_init := by decide +kernel
  have hin0 : meth.name = "<init>" := (name_of_methodNamed B.named B.method).1
  have hS : va_S A s.heap s.heap [] := va_S.rf
  have hl := lv_entry ([.ref (ad 7 x), .int (zI a), .int (zI b), .int (zI t), .int (zI c9), .ref (ad 7 j9)]) (n := 6) (Nat.le_of_ble_eq_true rfl)
  rw [lg_entry_eq]
  generalize (lg_sl ([.ref (ad 7 x), .int (zI a), .int (zI b), .int (zI t), .int (zI c9), .ref (ad 7 j9)]) ++ List.replicate (6 - (lg_sl ([.ref (ad 7 x), .int (zI a), .int (zI b), .int (zI t), .int (zI c9), .ref (ad 7 j9)])).length) Slot.unset).toArray = ls at hl ⊢
  replace hl : lv_has ls 6 [(0, .ref (ad 7 x)), (1, .int (zI a)), (2, .int (zI b)), (3, .int (zI t)), (4, .int (zI c9)), (5, .ref (ad 7 j9))] := hl
  refine lv_aload_n hx hb dX3_init_0 rfl (lv_at hl 0 rfl) ?_
  refine W.objInit hx hb hown (hts (.methodLink RX3 3 objectInit) (by decide +kernel)) (hts (.instanceMethod objectInit) (by decide +kernel)) (hts (.code objectInit ⟨#[0xb1]⟩ 1 none) (by decide +kernel)) rfl (by rw [hml]; exact hl.1) rfl dX3_init_1 (Nat.le_of_ble_eq_true rfl) (Nat.le_of_ble_eq_true rfl) ?_
  refine W.eq (g2 := F0 m0 4 ls []) rfl ?_
  refine lv_aload_n hx hb dX3_init_4 rfl (lv_at hl 0 rfl) ?_
  refine lv_iload_n hx hb dX3_init_5 rfl (lv_at hl 1 rfl) ?_
  refine c_putV (Cn := RX3) (T := TX3) (z := a) hx hb hts 7 hinX3 tyX3 tyX3_ok nmX3 hown hK hG hS x 0 hx7 (by decide) rfl (by decide) (hts (.fieldLink RX3 9 "LineEvents$Row" "machine" "I") (by decide +kernel)) (Or.inr ⟨rfl, hin0, rfl⟩) (cV_I (z := a) rfl rfl) rfl rfl dX3_init_6 (fun H locs hG hS => ?_)
  refine lv_aload_n hx hb dX3_init_9 rfl (lv_at hl 0 rfl) ?_
  refine lv_iload_n hx hb dX3_init_10 rfl (lv_at hl 2 rfl) ?_
  refine c_putV (Cn := RX3) (T := TX3) (z := b) hx hb hts 7 hinX3 tyX3 tyX3_ok nmX3 hown hK hG hS x 1 hx7 (by decide) rfl (by decide) (hts (.fieldLink RX3 15 "LineEvents$Row" "from" "I") (by decide +kernel)) (Or.inr ⟨rfl, hin0, rfl⟩) (cV_I (z := b) rfl rfl) rfl rfl dX3_init_11 (fun H locs hG hS => ?_)
  refine lv_aload_n hx hb dX3_init_14 rfl (lv_at hl 0 rfl) ?_
  refine lv_iload_n hx hb dX3_init_15 rfl (lv_at hl 3 rfl) ?_
  refine c_putV (Cn := RX3) (T := TX3) (z := t) hx hb hts 7 hinX3 tyX3 tyX3_ok nmX3 hown hK hG hS x 2 hx7 (by decide) rfl (by decide) (hts (.fieldLink RX3 18 "LineEvents$Row" "to" "I") (by decide +kernel)) (Or.inr ⟨rfl, hin0, rfl⟩) (cV_I (z := t) rfl rfl) rfl rfl dX3_init_16 (fun H locs hG hS => ?_)
  refine lv_aload_n hx hb dX3_init_19 rfl (lv_at hl 0 rfl) ?_
  refine lv_iload hx hb dX3_init_20 (lv_at hl 4 rfl) ?_
  refine c_putV (Cn := RX3) (T := TX3) (z := c9) hx hb hts 7 hinX3 tyX3 tyX3_ok nmX3 hown hK hG hS x 3 hx7 (by decide) rfl (by decide) (hts (.fieldLink RX3 21 "LineEvents$Row" "cause" "I") (by decide +kernel)) (Or.inr ⟨rfl, hin0, rfl⟩) (cV_I (z := c9) rfl rfl) rfl rfl dX3_init_22 (fun H locs hG hS => ?_)
  refine lv_aload_n hx hb dX3_init_25 rfl (lv_at hl 0 rfl) ?_
  refine lv_aload hx hb dX3_init_26 (lv_at hl 5 rfl) ?_
  refine c_putV (Cn := RX3) (T := TX3) (z := (j9 : Int)) hx hb hts 7 hinX3 tyX3 tyX3_ok nmX3 hown hK hG hS x 4 hx7 (by decide) rfl (by decide) (hts (.fieldLink RX3 24 "LineEvents$Row" "earlier" "LLineEvents$Row;") (by decide +kernel)) (Or.inr ⟨rfl, hin0, rfl⟩) (cV_R (t := 7) (j := j9) rfl rfl) rfl rfl dX3_init_28 (fun H locs hG hS => ?_)
  exact W.vret hx hb hr (fun t ht hW => ⟨rfl, ⟨by rw [ht]; exact hG, va_K.moved hW.alike hK, fun q hq => hA q (Nat.le_trans hS.1 (by rw [← ht]; exact hq))⟩, hS.F ht⟩) hS.2.2 dX3_init_31
/-- no cell that is there points to the cell of kind t and number J -/
def nr (C : sT) (al : Nat → Nat → Prop) (t J : Nat) : Prop := ∀ k j, al k j → ∀ f, f < cNf k → cT k f = t + 2 → C k j f < 0 ∨ (C k j f).toNat ≠ J
theorem nr_su {C : sT} {al : Nat → Nat → Prop} {t J K I f' : Nat} {z : Int} (h : nr C al t J) (hz : cT K f' = t + 2 → z < 0 ∨ z.toNat ≠ J) : nr (su C K I f' z) al t J := by
  intro k j hk f hf hc
  by_cases hkj : k = K ∧ j = I ∧ f = f'
  · obtain ⟨rfl, rfl, rfl⟩ := hkj
    rw [su_same]; exact hz hc
  · rw [show su C K I f' z k j f = C k j f from if_neg hkj]
    exact h k j hk f hf hc
theorem nr_cn {C : sT} {al : Nat → Nat → Prop} {t J K I : Nat} (h : nr C al t J) : nr (cn C K I) (alU al K I) t J := by
  intro k j hk f hf hc
  by_cases hkj : k = K ∧ j = I
  · obtain ⟨rfl, rfl⟩ := hkj
    rw [cn_s, if_pos (by omega)]; exact Or.inl (by decide)
  · rw [cn_o hkj]
    exact h k j (hk.resolve_right hkj) f hf hc
theorem nr_cz {C : sT} {al : Nat → Nat → Prop} {t J K I : Nat} (h : nr C al t J) (h0 : cNf K = 0) : nr (cz C K I) (alU al K I) t J := by
  intro k j hk f hf hc
  by_cases hkj : k = K ∧ j = I
  · obtain ⟨rfl, rfl⟩ := hkj
    omega
  · rw [cz_o hkj]
    exact h k j (hk.resolve_right hkj) f hf hc
theorem dfX0 : ∀ j, j < cNf 3 → defaultValue (tyX0 j) = vp_V ((List.range (cNf 3)).map (cV0 3)) j := fun j hj => by
  rcases j with _ | _ | _ | _ | _ | j <;> first | rfl | (exfalso; simp [cNf] at hj; omega)
theorem dfX1 : ∀ j, j < cNf 6 → defaultValue (tyX1 j) = vp_V ((List.range (cNf 6)).map (cV0 6)) j := fun j hj => by
  rcases j with _ | _ | _ | _ | j <;> first | rfl | (exfalso; simp [cNf] at hj; omega)
theorem dfX3 : ∀ j, j < cNf 7 → defaultValue (tyX3 j) = vp_V ((List.range (cNf 7)).map (cV0 7)) j := fun j hj => by
  rcases j with _ | _ | _ | _ | _ | j <;> first | rfl | (exfalso; simp [cNf] at hj; omega)
theorem dfX2 : ∀ j, j < cNf 2 → defaultValue (tyX2 j) = vp_V ((List.range (cNf 2)).map (cV0 2)) j := fun j hj => by
  rcases j with _ | _ | _ | _ | _ | _ | _ | _ | _ | _ | _ | _ | _ | _ | _ | _ | j <;> first | rfl | (exfalso; simp [cNf] at hj; omega)
theorem dfX4 : ∀ j, j < cNf 0 → defaultValue (tyX4 j) = vp_V ((List.range (cNf 0)).map (cV0 0)) j := fun j hj => by
  rcases j with _ | _ | _ | _ | _ | _ | _ | _ | _ | _ | _ | j <;> first | rfl | (exfalso; simp [cNf] at hj; omega)
set_option maxHeartbeats 4000000 in
set_option maxRecDepth 100000 in
theorem m_X0_init (l : Launch) (D : va_G) (cI cJ : ClassId) (A : Nat → Prop) (ad : Nat → Nat → Nat) (al : Nat → Nat → Prop) (C : sT) (i : Nat) (h3 : al 3 i) (h4 : ¬ al 4 i) (hr4 : nr C al 4 i) : Met l yX0_init wsX0_init ({ frames := 1, cells := 1, slots := 1000, locals := 20 }) (va_Pc [.ref (ad 3 i)] (gCU D cI cJ A ad al C)) (gO none (fun U => ∃ ad1 : Nat → Nat → Nat, (∀ k j, ¬ (k = 4 ∧ j = i) → ad1 k j = ad k j) ∧ gCU D cI cJ A ad1 (alU al 4 i) (su (cz (su C 3 i 0 1) 4 i) 3 i 2 (i : Int)) U) A) 1 1000 A := by
  refine Met.ofW (cc := cX0_init) (maxL := 1) (ret := none) (by decide) rfl ?_
  intro p e s m0 args below meth c s₁ B hml hv
  obtain ⟨rfl, hG, hK, hA⟩ := hv
  have hx := B.exec
  have hb := B.bytes
  have hr := B.returns
  have hts := atoms_spec (ws := wsX0_init) B.pre
  have hown : s.vm.findClass RX0 = some m0.cls := findClass_of_methodNamed B.named
  have hlocks := B.notSynchronized
  have hinX0 : ∀ w ∈ wsX00, w ∈ wsX0_init := by decide +kernel
  have hin0 : meth.name = "<init>" := (name_of_methodNamed B.named B.method).1
  have hS : va_S A s.heap s.heap [] := va_S.rf
  have hl := lv_entry ([.ref (ad 3 i)]) (n := 1) (Nat.le_of_ble_eq_true rfl)
  rw [lg_entry_eq]
  generalize (lg_sl ([.ref (ad 3 i)]) ++ List.replicate (1 - (lg_sl ([.ref (ad 3 i)])).length) Slot.unset).toArray = ls at hl ⊢
  replace hl : lv_has ls 1 [(0, .ref (ad 3 i))] := hl
  refine lv_aload_n hx hb dX0_init_0 rfl (lv_at hl 0 rfl) ?_
  refine W.objInit hx hb hown (hts (.methodLink RX0 3 objectInit) (by decide +kernel)) (hts (.instanceMethod objectInit) (by decide +kernel)) (hts (.code objectInit ⟨#[0xb1]⟩ 1 none) (by decide +kernel)) rfl (by rw [hml]; exact hl.1) rfl dX0_init_1 (Nat.le_of_ble_eq_true rfl) (Nat.le_of_ble_eq_true rfl) ?_
  refine W.eq (g2 := F0 m0 4 ls []) rfl ?_
  refine lv_aload_n hx hb dX0_init_4 rfl (lv_at hl 0 rfl) ?_
  refine lv_iconst (v := zI 1) hx hb dX0_init_5 rfl ?_
  refine c_putV (Cn := RX0) (T := TX0) (z := 1) hx hb hts 3 hinX0 tyX0 tyX0_ok nmX0 hown hK hG hS i 0 h3 (by decide) rfl (by decide) (hts (.fieldLink RX0 9 "LineEvents$Buffer" "room" "I") (by decide +kernel)) (Or.inl rfl) (cV_I (z := 1) rfl rfl) rfl rfl dX0_init_6 (fun H locs hG hS => ?_)
  refine lv_aload_n hx hb dX0_init_9 rfl (lv_at hl 0 rfl) ?_
  refine lv_sipush (v := zI 1000) hx hb dX0_init_10 (by decide) ?_
  refine c_newaI hx hb (hts (.arrayClass .int) (by decide +kernel)) hK hG hS hA 4 i 1000 (fun _ _ => rfl) (by decide) (Nat.le_of_ble_eq_true rfl) (Nat.le_of_ble_eq_true rfl) (C' := cz (su C 3 i 0 1) 4 i) h4 (nr_su hr4 (fun q => absurd q (by decide))) (fun k j hk => cz_o (fun q => h4 (by rw [← q.1, ← q.2]; exact hk))) (cz_s _ _ _) dX0_init_13 (fun q9 H hG hS => ?_)
  generalize had1 : adU ad 4 i q9 = ad1 at hG ⊢
  have hq1 : ∀ k8 i8, ¬ (k8 = 4 ∧ i8 = i) → ad1 k8 i8 = ad k8 i8 := fun k8 i8 h => by rw [← had1]; exact adU_ne h
  have r2 : ad1 3 i = ad 3 i := hq1 3 i (fun q => absurd q.1 (by decide))
  replace hl : lv_has ls 1 [(0, .ref (ad1 3 i))] := by rw [r2]; exact hl
  refine W.eq (g2 := F0 m0 15 ls [.ref (ad1 4 i), .ref (ad1 3 i)]) (by rw [r2]; try rfl) ?_
  refine c_putV (Cn := RX0) (T := TX0) (z := (i : Int)) hx hb hts 3 hinX0 tyX0 tyX0_ok nmX0 hown hK hG hS i 2 (Or.inl h3) (by decide) rfl (by decide) (hts (.fieldLink RX0 15 "LineEvents$Buffer" "came" "[I") (by decide +kernel)) (Or.inr ⟨rfl, hin0, rfl⟩) (cV_R (t := 4) (j := i) rfl rfl) rfl rfl dX0_init_15 (fun H locs hG hS => ?_)
  exact W.vret hx hb hr (fun t ht hW => ⟨rfl, ⟨ad1, hq1, ⟨by rw [ht]; exact hG, va_K.moved hW.alike hK, fun q hq => hA q (Nat.le_trans hS.1 (by rw [← ht]; exact hq))⟩⟩, hS.F ht⟩) hS.2.2 dX0_init_18
set_option maxHeartbeats 4000000 in
set_option maxRecDepth 100000 in
theorem m_X2_initNN (l : Launch) (D : va_G) (cI cJ : ClassId) (A : Nat → Prop) (ad : Nat → Nat → Nat) (al : Nat → Nat → Prop) (C : sT) (i : Nat) (t : Int) (h2 : al 2 i) (h3 : ¬ al 3 i) (h4 : ¬ al 4 i) (h5 : ¬ al 5 i) (hr3 : nr C al 3 i) (hr4 : nr C al 4 i) (hr5 : nr C al 5 i) : Met l yX2_init wsX2_init ({ frames := 2, cells := 3, slots := 1017, locals := 40 }) (va_Pc [.ref (ad 2 i), .int (zI (i : Int)), .int (zI t), .null, .null] (fun U => gCU D cI cJ A ad al C U ∧ va_Nw (.methodLinkNest RX2 11 yX0_init "LineEvents") U)) (gO none (fun U => ∃ ad1 : Nat → Nat → Nat, (∀ k j, ¬ ((k = 3 ∨ k = 4 ∨ k = 5) ∧ j = i) → ad1 k j = ad k j) ∧ gCU D cI cJ A ad1 (alU (alU (alU al 3 i) 4 i) 5 i) (su (su (su (su (su (cz (su (su (su (cz (su (cn C 3 i) 3 i 0 1) 4 i) 3 i 2 (i : Int)) 2 i 4 (i : Int)) 2 i 9 (-1)) 5 i) 2 i 15 (i : Int)) 2 i 0 (i : Int)) 2 i 1 t) 2 i 2 (-1)) 2 i 3 (-1)) U) A) 3 1017 A := by
  refine Met.ofW (cc := cX2_init) (maxL := 5) (ret := none) (by decide) rfl ?_
  intro p e s m0 args below meth c s₁ B hml hv
  obtain ⟨rfl, ⟨hG, hK, hA⟩, hNw⟩ := hv
  have hx := B.exec
  have hb := B.bytes
  have hr := B.returns
  have hts := atoms_spec (ws := wsX2_init) B.pre
  have hown : s.vm.findClass RX2 = some m0.cls := findClass_of_methodNamed B.named
  have hlocks := B.notSynchronized
  have hinX0 : ∀ w ∈ wsX00, w ∈ wsX2_init := by decide +kernel
  have hinX2 : ∀ w ∈ wsX20, w ∈ wsX2_init := by decide +kernel
  have hin0 : meth.name = "<init>" := (name_of_methodNamed B.named B.method).1
  have hS : va_S A s.heap s.heap [] := va_S.rf
  have hl := lv_entry ([.ref (ad 2 i), .int (zI (i : Int)), .int (zI t), .null, .null]) (n := 5) (Nat.le_of_ble_eq_true rfl)
  rw [lg_entry_eq]
  generalize (lg_sl ([.ref (ad 2 i), .int (zI (i : Int)), .int (zI t), .null, .null]) ++ List.replicate (5 - (lg_sl ([.ref (ad 2 i), .int (zI (i : Int)), .int (zI t), .null, .null])).length) Slot.unset).toArray = ls at hl ⊢
  replace hl : lv_has ls 5 [(0, .ref (ad 2 i)), (1, .int (zI (i : Int))), (2, .int (zI t)), (3, .null), (4, .null)] := hl
  refine lv_aload_n hx hb dX2_init_0 rfl (lv_at hl 0 rfl) ?_
  refine W.objInit hx hb hown (hts (.methodLink RX2 3 objectInit) (by decide +kernel)) (hts (.instanceMethod objectInit) (by decide +kernel)) (hts (.code objectInit ⟨#[0xb1]⟩ 1 none) (by decide +kernel)) rfl (by rw [hml]; exact hl.1) rfl dX2_init_1 (Nat.le_of_ble_eq_true rfl) (Nat.le_of_ble_eq_true rfl) ?_
  refine W.eq (g2 := F0 m0 4 ls []) rfl ?_
  refine lv_aload_n hx hb dX2_init_4 rfl (lv_at hl 0 rfl) ?_
  refine c_new hx hb hts 3 i hinX0 tyX0 tyX0_ok hown (hts (.classLink RX2 9 RX0) (by decide +kernel)) (hts (.instantiable RX0 5) (by decide +kernel)) (hts (.initialized RX0) (by decide +kernel)) hK hG hS hA (by decide) rfl dfX0 (Nat.le_of_ble_eq_true rfl) (Nat.le_of_ble_eq_true rfl) (C' := cn C 3 i) h3 hr3 (fun k j hk => cn_o (fun q => h3 (by rw [← q.1, ← q.2]; exact hk))) (fun f _ => cn_s _ _ _ f) dX2_init_5 (fun q9 H hG hS => ?_)
  generalize had1 : adU ad 3 i q9 = ad1 at hG ⊢
  have hq1 : ∀ k8 i8, ¬ (k8 = 3 ∧ i8 = i) → ad1 k8 i8 = ad k8 i8 := fun k8 i8 h => by rw [← had1]; exact adU_ne h
  have r2 : ad1 2 i = ad 2 i := hq1 2 i (fun q => absurd q.1 (by decide))
  replace hl : lv_has ls 5 [(0, .ref (ad1 2 i)), (1, .int (zI (i : Int))), (2, .int (zI t)), (3, .null), (4, .null)] := by rw [r2]; exact hl
  refine W.eq (g2 := F0 m0 8 ls [.ref (ad1 3 i), .ref (ad1 2 i)]) (by rw [r2]; try rfl) ?_
  refine lv_dup hx hb dX2_init_8 rfl ?_
  have h4b : ¬ alU al 3 i 4 i := fun q => q.elim h4 (fun q => absurd q.1 (by decide))
  refine c_callIN (As := []) (rest := [.ref (ad1 3 i), .ref (ad1 2 i)]) ⟨hx, hb, hml, hown, hts⟩ (ad1 3 i) (m_X0_init l D cI cJ A ad1 (alU al 3 i) (cn C 3 i) i (Or.inr ⟨rfl, rfl⟩) h4b (nr_cn hr4)) (⟨va_cnB 0 hts gX2_init_X0_init_n11 rfl rfl rfl hNw (hts (.initialized RX0) (by decide +kernel)) (by decide +kernel) ⟨Nat.le_of_ble_eq_true rfl, Nat.le_of_ble_eq_true rfl⟩, rfl, hts (.instanceMethod yX0_init) (by decide +kernel)⟩) (⟨gCU_blind, fun U hU hW => ⟨rfl, by rw [hU]; exact hG, va_K.moved hW.alike hK, fun q hq => hA q (Nat.le_trans hS.1 (by rw [← hU]; exact hq))⟩⟩) hS rfl hl.1 rfl (Nat.le_of_ble_eq_true rfl) dX2_init_9 ⟨Nat.le_of_ble_eq_true rfl, Nat.le_of_ble_eq_true rfl⟩ (fun t9 H locs ht9 hB hS => ?_)
  obtain ⟨ad3, hq3, hG, -, -⟩ := hB
  rw [ht9] at hG; clear ht9
  have r4 : ad3 2 i = ad1 2 i := hq3 2 i (fun q => absurd q.1 (by decide))
  have r5 : ad3 3 i = ad1 3 i := hq3 3 i (fun q => absurd q.1 (by decide))
  replace hl : lv_has ls 5 [(0, .ref (ad3 2 i)), (1, .int (zI (i : Int))), (2, .int (zI t)), (3, .null), (4, .null)] := by rw [r4]; exact hl
  refine W.eq (g2 := F0 m0 12 ls [.ref (ad3 3 i), .ref (ad3 2 i)]) (by rw [r4, r5]; try rfl) ?_
  refine c_putV (Cn := RX2) (T := TX2) (z := (i : Int)) hx hb hts 2 hinX2 tyX2 tyX2_ok nmX2 hown hK hG hS i 4 (Or.inl (Or.inl h2)) (by decide) rfl (by decide) (hts (.fieldLink RX2 12 "LineEvents$Machine" "behind" "LLineEvents$Buffer;") (by decide +kernel)) (Or.inr ⟨rfl, hin0, rfl⟩) (cV_R (t := 3) (j := i) rfl rfl) rfl rfl dX2_init_12 (fun H locs hG hS => ?_)
  refine lv_aload_n hx hb dX2_init_15 rfl (lv_at hl 0 rfl) ?_
  refine lv_iconst (v := zI (-1)) hx hb dX2_init_16 rfl ?_
  refine c_putV (Cn := RX2) (T := TX2) (z := (-1)) hx hb hts 2 hinX2 tyX2 tyX2_ok nmX2 hown hK hG hS i 9 (Or.inl (Or.inl h2)) (by decide) rfl (by decide) (hts (.fieldLink RX2 18 "LineEvents$Machine" "rowCause" "I") (by decide +kernel)) (Or.inl rfl) (cV_I (z := (-1)) rfl rfl) rfl rfl dX2_init_17 (fun H locs hG hS => ?_)
  refine lv_aload_n hx hb dX2_init_20 rfl (lv_at hl 0 rfl) ?_
  refine lv_bipush (v := zI 12) hx hb dX2_init_21 (by decide) ?_
  have h5b : ¬ alU (alU al 3 i) 4 i 5 i := fun q => q.elim (fun q => q.elim h5 (fun q => absurd q.1 (by decide))) (fun q => absurd q.1 (by decide))
  have hr5b : nr (su (su (su (cz (su (cn C 3 i) 3 i 0 1) 4 i) 3 i 2 (i : Int)) 2 i 4 ((i : Int))) 2 i 9 ((-1))) (alU (alU al 3 i) 4 i) 5 i := nr_su (nr_su (nr_su (nr_cz (nr_su (nr_cn hr5) (fun q => absurd q (by decide))) rfl) (fun q => absurd q (by decide))) (fun q => absurd q (by decide))) (fun q => absurd q (by decide))
  refine c_newaJ hx hb (hts (.arrayClass .long) (by decide +kernel)) hK hG hS hA i (Nat.le_of_ble_eq_true rfl) (Nat.le_of_ble_eq_true rfl) (C' := cz (su (su (su (cz (su (cn C 3 i) 3 i 0 1) 4 i) 3 i 2 (i : Int)) 2 i 4 ((i : Int))) 2 i 9 ((-1))) 5 i) h5b hr5b (fun k j hk => cz_o (fun q => h5b (by have h9 := hk; rw [q.1, q.2] at h9; exact h9))) (cz_s _ _ _) dX2_init_23 (fun q9 H hG hS => ?_)
  generalize had6 : adU ad3 5 i q9 = ad6 at hG ⊢
  have hq6 : ∀ k8 i8, ¬ (k8 = 5 ∧ i8 = i) → ad6 k8 i8 = ad3 k8 i8 := fun k8 i8 h => by rw [← had6]; exact adU_ne h
  have r7 : ad6 2 i = ad3 2 i := hq6 2 i (fun q => absurd q.1 (by decide))
  replace hl : lv_has ls 5 [(0, .ref (ad6 2 i)), (1, .int (zI (i : Int))), (2, .int (zI t)), (3, .null), (4, .null)] := by rw [r7]; exact hl
  refine W.eq (g2 := F0 m0 25 ls [.ref (ad6 5 i), .ref (ad6 2 i)]) (by rw [r7]; try rfl) ?_
  refine c_putV (Cn := RX2) (T := TX2) (z := (i : Int)) hx hb hts 2 hinX2 tyX2 tyX2_ok nmX2 hown hK hG hS i 15 (Or.inl (Or.inl (Or.inl h2))) (by decide) rfl (by decide) (hts (.fieldLink RX2 22 "LineEvents$Machine" "times" "[J") (by decide +kernel)) (Or.inr ⟨rfl, hin0, rfl⟩) (cV_R (t := 5) (j := i) rfl rfl) rfl rfl dX2_init_25 (fun H locs hG hS => ?_)
  refine lv_aload_n hx hb dX2_init_28 rfl (lv_at hl 0 rfl) ?_
  refine lv_iload_n hx hb dX2_init_29 rfl (lv_at hl 1 rfl) ?_
  refine c_putV (Cn := RX2) (T := TX2) (z := (i : Int)) hx hb hts 2 hinX2 tyX2 tyX2_ok nmX2 hown hK hG hS i 0 (Or.inl (Or.inl (Or.inl h2))) (by decide) rfl (by decide) (hts (.fieldLink RX2 26 "LineEvents$Machine" "number" "I") (by decide +kernel)) (Or.inr ⟨rfl, hin0, rfl⟩) (cV_I (z := (i : Int)) rfl rfl) rfl rfl dX2_init_30 (fun H locs hG hS => ?_)
  refine lv_aload_n hx hb dX2_init_33 rfl (lv_at hl 0 rfl) ?_
  refine lv_iload_n hx hb dX2_init_34 rfl (lv_at hl 2 rfl) ?_
  refine c_putV (Cn := RX2) (T := TX2) (z := t) hx hb hts 2 hinX2 tyX2 tyX2_ok nmX2 hown hK hG hS i 1 (Or.inl (Or.inl (Or.inl h2))) (by decide) rfl (by decide) (hts (.fieldLink RX2 29 "LineEvents$Machine" "takes" "I") (by decide +kernel)) (Or.inr ⟨rfl, hin0, rfl⟩) (cV_I (z := t) rfl rfl) rfl rfl dX2_init_35 (fun H locs hG hS => ?_)
  refine lv_aload_n hx hb dX2_init_38 rfl (lv_at hl 0 rfl) ?_
  refine lv_aload_nN hx hb dX2_init_39 rfl (lv_at hl 3 rfl) ?_
  refine c_putV (Cn := RX2) (T := TX2) (z := (-1)) hx hb hts 2 hinX2 tyX2 tyX2_ok nmX2 hown hK hG hS i 2 (Or.inl (Or.inl (Or.inl h2))) (by decide) rfl (by decide) (hts (.fieldLink RX2 32 "LineEvents$Machine" "lower" "LLineEvents$Machine;") (by decide +kernel)) (Or.inr ⟨rfl, hin0, rfl⟩) (cV_N (t := 2) rfl (by decide)) rfl rfl dX2_init_40 (fun H locs hG hS => ?_)
  refine lv_aload_n hx hb dX2_init_43 rfl (lv_at hl 0 rfl) ?_
  refine lv_aloadN hx hb dX2_init_44 (lv_at hl 4 rfl) ?_
  refine lv_ifnonnullN hx hb dX2_init_46 ?_
  refine lv_null hx hb dX2_init_49 ?_
  refine lv_goto (tgt := 58) hx hb dX2_init_50 (by decide) ?_
  refine c_putV (Cn := RX2) (T := TX2) (z := (-1)) hx hb hts 2 hinX2 tyX2 tyX2_ok nmX2 hown hK hG hS i 3 (Or.inl (Or.inl (Or.inl h2))) (by decide) rfl (by decide) (hts (.fieldLink RX2 36 "LineEvents$Machine" "before" "LLineEvents$Buffer;") (by decide +kernel)) (Or.inr ⟨rfl, hin0, rfl⟩) (cV_N (t := 3) rfl (by decide)) rfl rfl dX2_init_58 (fun H locs hG hS => ?_)
  exact W.vret hx hb hr (fun t ht hW => ⟨rfl, ⟨ad6, fun k j h => by rw [hq6 k j (by omega), hq3 k j (by omega), hq1 k j (by omega)], ⟨by rw [ht]; exact hG, va_K.moved hW.alike hK, fun q hq => hA q (Nat.le_trans hS.1 (by rw [← ht]; exact hq))⟩⟩, hS.F ht⟩) hS.2.2 dX2_init_61
set_option maxHeartbeats 4000000 in
set_option maxRecDepth 100000 in
theorem m_X2_initRN (l : Launch) (D : va_G) (cI cJ : ClassId) (A : Nat → Prop) (ad : Nat → Nat → Nat) (al : Nat → Nat → Prop) (C : sT) (i j2 : Nat) (t : Int) (h2 : al 2 i) (h3 : ¬ al 3 i) (h4 : ¬ al 4 i) (h5 : ¬ al 5 i) (hr3 : nr C al 3 i) (hr4 : nr C al 4 i) (hr5 : nr C al 5 i) : Met l yX2_init wsX2_init ({ frames := 2, cells := 3, slots := 1017, locals := 40 }) (va_Pc [.ref (ad 2 i), .int (zI (i : Int)), .int (zI t), .ref (ad 2 j2), .null] (fun U => gCU D cI cJ A ad al C U ∧ va_Nw (.methodLinkNest RX2 11 yX0_init "LineEvents") U)) (gO none (fun U => ∃ ad1 : Nat → Nat → Nat, (∀ k j, ¬ ((k = 3 ∨ k = 4 ∨ k = 5) ∧ j = i) → ad1 k j = ad k j) ∧ gCU D cI cJ A ad1 (alU (alU (alU al 3 i) 4 i) 5 i) (su (su (su (su (su (cz (su (su (su (cz (su (cn C 3 i) 3 i 0 1) 4 i) 3 i 2 (i : Int)) 2 i 4 (i : Int)) 2 i 9 (-1)) 5 i) 2 i 15 (i : Int)) 2 i 0 (i : Int)) 2 i 1 t) 2 i 2 (j2)) 2 i 3 (-1)) U) A) 3 1017 A := by
  refine Met.ofW (cc := cX2_init) (maxL := 5) (ret := none) (by decide) rfl ?_
  intro p e s m0 args below meth c s₁ B hml hv
  obtain ⟨rfl, ⟨hG, hK, hA⟩, hNw⟩ := hv
  have hx := B.exec
  have hb := B.bytes
  have hr := B.returns
  have hts := atoms_spec (ws := wsX2_init) B.pre
  have hown : s.vm.findClass RX2 = some m0.cls := findClass_of_methodNamed B.named
  have hlocks := B.notSynchronized
  have hinX0 : ∀ w ∈ wsX00, w ∈ wsX2_init := by decide +kernel
  have hinX2 : ∀ w ∈ wsX20, w ∈ wsX2_init := by decide +kernel
  have hin0 : meth.name = "<init>" := (name_of_methodNamed B.named B.method).1
  have hS : va_S A s.heap s.heap [] := va_S.rf
  have hl := lv_entry ([.ref (ad 2 i), .int (zI (i : Int)), .int (zI t), .ref (ad 2 j2), .null]) (n := 5) (Nat.le_of_ble_eq_true rfl)
  rw [lg_entry_eq]
  generalize (lg_sl ([.ref (ad 2 i), .int (zI (i : Int)), .int (zI t), .ref (ad 2 j2), .null]) ++ List.replicate (5 - (lg_sl ([.ref (ad 2 i), .int (zI (i : Int)), .int (zI t), .ref (ad 2 j2), .null])).length) Slot.unset).toArray = ls at hl ⊢
  replace hl : lv_has ls 5 [(0, .ref (ad 2 i)), (1, .int (zI (i : Int))), (2, .int (zI t)), (3, .ref (ad 2 j2)), (4, .null)] := hl
  refine lv_aload_n hx hb dX2_init_0 rfl (lv_at hl 0 rfl) ?_
  refine W.objInit hx hb hown (hts (.methodLink RX2 3 objectInit) (by decide +kernel)) (hts (.instanceMethod objectInit) (by decide +kernel)) (hts (.code objectInit ⟨#[0xb1]⟩ 1 none) (by decide +kernel)) rfl (by rw [hml]; exact hl.1) rfl dX2_init_1 (Nat.le_of_ble_eq_true rfl) (Nat.le_of_ble_eq_true rfl) ?_
  refine W.eq (g2 := F0 m0 4 ls []) rfl ?_
  refine lv_aload_n hx hb dX2_init_4 rfl (lv_at hl 0 rfl) ?_
  refine c_new hx hb hts 3 i hinX0 tyX0 tyX0_ok hown (hts (.classLink RX2 9 RX0) (by decide +kernel)) (hts (.instantiable RX0 5) (by decide +kernel)) (hts (.initialized RX0) (by decide +kernel)) hK hG hS hA (by decide) rfl dfX0 (Nat.le_of_ble_eq_true rfl) (Nat.le_of_ble_eq_true rfl) (C' := cn C 3 i) h3 hr3 (fun k j hk => cn_o (fun q => h3 (by rw [← q.1, ← q.2]; exact hk))) (fun f _ => cn_s _ _ _ f) dX2_init_5 (fun q9 H hG hS => ?_)
  generalize had1 : adU ad 3 i q9 = ad1 at hG ⊢
  have hq1 : ∀ k8 i8, ¬ (k8 = 3 ∧ i8 = i) → ad1 k8 i8 = ad k8 i8 := fun k8 i8 h => by rw [← had1]; exact adU_ne h
  have r2 : ad1 2 i = ad 2 i := hq1 2 i (fun q => absurd q.1 (by decide))
  have r3 : ad1 2 j2 = ad 2 j2 := hq1 2 j2 (fun q => absurd q.1 (by decide))
  replace hl : lv_has ls 5 [(0, .ref (ad1 2 i)), (1, .int (zI (i : Int))), (2, .int (zI t)), (3, .ref (ad1 2 j2)), (4, .null)] := by rw [r2, r3]; exact hl
  refine W.eq (g2 := F0 m0 8 ls [.ref (ad1 3 i), .ref (ad1 2 i)]) (by rw [r2]; try rfl) ?_
  refine lv_dup hx hb dX2_init_8 rfl ?_
  have h4b : ¬ alU al 3 i 4 i := fun q => q.elim h4 (fun q => absurd q.1 (by decide))
  refine c_callIN (As := []) (rest := [.ref (ad1 3 i), .ref (ad1 2 i)]) ⟨hx, hb, hml, hown, hts⟩ (ad1 3 i) (m_X0_init l D cI cJ A ad1 (alU al 3 i) (cn C 3 i) i (Or.inr ⟨rfl, rfl⟩) h4b (nr_cn hr4)) (⟨va_cnB 0 hts gX2_init_X0_init_n11 rfl rfl rfl hNw (hts (.initialized RX0) (by decide +kernel)) (by decide +kernel) ⟨Nat.le_of_ble_eq_true rfl, Nat.le_of_ble_eq_true rfl⟩, rfl, hts (.instanceMethod yX0_init) (by decide +kernel)⟩) (⟨gCU_blind, fun U hU hW => ⟨rfl, by rw [hU]; exact hG, va_K.moved hW.alike hK, fun q hq => hA q (Nat.le_trans hS.1 (by rw [← hU]; exact hq))⟩⟩) hS rfl hl.1 rfl (Nat.le_of_ble_eq_true rfl) dX2_init_9 ⟨Nat.le_of_ble_eq_true rfl, Nat.le_of_ble_eq_true rfl⟩ (fun t9 H locs ht9 hB hS => ?_)
  obtain ⟨ad4, hq4, hG, -, -⟩ := hB
  rw [ht9] at hG; clear ht9
  have r5 : ad4 2 i = ad1 2 i := hq4 2 i (fun q => absurd q.1 (by decide))
  have r6 : ad4 2 j2 = ad1 2 j2 := hq4 2 j2 (fun q => absurd q.1 (by decide))
  have r7 : ad4 3 i = ad1 3 i := hq4 3 i (fun q => absurd q.1 (by decide))
  replace hl : lv_has ls 5 [(0, .ref (ad4 2 i)), (1, .int (zI (i : Int))), (2, .int (zI t)), (3, .ref (ad4 2 j2)), (4, .null)] := by rw [r5, r6]; exact hl
  refine W.eq (g2 := F0 m0 12 ls [.ref (ad4 3 i), .ref (ad4 2 i)]) (by rw [r5, r7]; try rfl) ?_
  refine c_putV (Cn := RX2) (T := TX2) (z := (i : Int)) hx hb hts 2 hinX2 tyX2 tyX2_ok nmX2 hown hK hG hS i 4 (Or.inl (Or.inl h2)) (by decide) rfl (by decide) (hts (.fieldLink RX2 12 "LineEvents$Machine" "behind" "LLineEvents$Buffer;") (by decide +kernel)) (Or.inr ⟨rfl, hin0, rfl⟩) (cV_R (t := 3) (j := i) rfl rfl) rfl rfl dX2_init_12 (fun H locs hG hS => ?_)
  refine lv_aload_n hx hb dX2_init_15 rfl (lv_at hl 0 rfl) ?_
  refine lv_iconst (v := zI (-1)) hx hb dX2_init_16 rfl ?_
  refine c_putV (Cn := RX2) (T := TX2) (z := (-1)) hx hb hts 2 hinX2 tyX2 tyX2_ok nmX2 hown hK hG hS i 9 (Or.inl (Or.inl h2)) (by decide) rfl (by decide) (hts (.fieldLink RX2 18 "LineEvents$Machine" "rowCause" "I") (by decide +kernel)) (Or.inl rfl) (cV_I (z := (-1)) rfl rfl) rfl rfl dX2_init_17 (fun H locs hG hS => ?_)
  refine lv_aload_n hx hb dX2_init_20 rfl (lv_at hl 0 rfl) ?_
  refine lv_bipush (v := zI 12) hx hb dX2_init_21 (by decide) ?_
  have h5b : ¬ alU (alU al 3 i) 4 i 5 i := fun q => q.elim (fun q => q.elim h5 (fun q => absurd q.1 (by decide))) (fun q => absurd q.1 (by decide))
  have hr5b : nr (su (su (su (cz (su (cn C 3 i) 3 i 0 1) 4 i) 3 i 2 (i : Int)) 2 i 4 ((i : Int))) 2 i 9 ((-1))) (alU (alU al 3 i) 4 i) 5 i := nr_su (nr_su (nr_su (nr_cz (nr_su (nr_cn hr5) (fun q => absurd q (by decide))) rfl) (fun q => absurd q (by decide))) (fun q => absurd q (by decide))) (fun q => absurd q (by decide))
  refine c_newaJ hx hb (hts (.arrayClass .long) (by decide +kernel)) hK hG hS hA i (Nat.le_of_ble_eq_true rfl) (Nat.le_of_ble_eq_true rfl) (C' := cz (su (su (su (cz (su (cn C 3 i) 3 i 0 1) 4 i) 3 i 2 (i : Int)) 2 i 4 ((i : Int))) 2 i 9 ((-1))) 5 i) h5b hr5b (fun k j hk => cz_o (fun q => h5b (by have h9 := hk; rw [q.1, q.2] at h9; exact h9))) (cz_s _ _ _) dX2_init_23 (fun q9 H hG hS => ?_)
  generalize had8 : adU ad4 5 i q9 = ad8 at hG ⊢
  have hq8 : ∀ k8 i8, ¬ (k8 = 5 ∧ i8 = i) → ad8 k8 i8 = ad4 k8 i8 := fun k8 i8 h => by rw [← had8]; exact adU_ne h
  have r9 : ad8 2 i = ad4 2 i := hq8 2 i (fun q => absurd q.1 (by decide))
  have r10 : ad8 2 j2 = ad4 2 j2 := hq8 2 j2 (fun q => absurd q.1 (by decide))
  replace hl : lv_has ls 5 [(0, .ref (ad8 2 i)), (1, .int (zI (i : Int))), (2, .int (zI t)), (3, .ref (ad8 2 j2)), (4, .null)] := by rw [r9, r10]; exact hl
  refine W.eq (g2 := F0 m0 25 ls [.ref (ad8 5 i), .ref (ad8 2 i)]) (by rw [r9]; try rfl) ?_
  refine c_putV (Cn := RX2) (T := TX2) (z := (i : Int)) hx hb hts 2 hinX2 tyX2 tyX2_ok nmX2 hown hK hG hS i 15 (Or.inl (Or.inl (Or.inl h2))) (by decide) rfl (by decide) (hts (.fieldLink RX2 22 "LineEvents$Machine" "times" "[J") (by decide +kernel)) (Or.inr ⟨rfl, hin0, rfl⟩) (cV_R (t := 5) (j := i) rfl rfl) rfl rfl dX2_init_25 (fun H locs hG hS => ?_)
  refine lv_aload_n hx hb dX2_init_28 rfl (lv_at hl 0 rfl) ?_
  refine lv_iload_n hx hb dX2_init_29 rfl (lv_at hl 1 rfl) ?_
  refine c_putV (Cn := RX2) (T := TX2) (z := (i : Int)) hx hb hts 2 hinX2 tyX2 tyX2_ok nmX2 hown hK hG hS i 0 (Or.inl (Or.inl (Or.inl h2))) (by decide) rfl (by decide) (hts (.fieldLink RX2 26 "LineEvents$Machine" "number" "I") (by decide +kernel)) (Or.inr ⟨rfl, hin0, rfl⟩) (cV_I (z := (i : Int)) rfl rfl) rfl rfl dX2_init_30 (fun H locs hG hS => ?_)
  refine lv_aload_n hx hb dX2_init_33 rfl (lv_at hl 0 rfl) ?_
  refine lv_iload_n hx hb dX2_init_34 rfl (lv_at hl 2 rfl) ?_
  refine c_putV (Cn := RX2) (T := TX2) (z := t) hx hb hts 2 hinX2 tyX2 tyX2_ok nmX2 hown hK hG hS i 1 (Or.inl (Or.inl (Or.inl h2))) (by decide) rfl (by decide) (hts (.fieldLink RX2 29 "LineEvents$Machine" "takes" "I") (by decide +kernel)) (Or.inr ⟨rfl, hin0, rfl⟩) (cV_I (z := t) rfl rfl) rfl rfl dX2_init_35 (fun H locs hG hS => ?_)
  refine lv_aload_n hx hb dX2_init_38 rfl (lv_at hl 0 rfl) ?_
  refine lv_aload_n hx hb dX2_init_39 rfl (lv_at hl 3 rfl) ?_
  refine c_putV (Cn := RX2) (T := TX2) (z := (j2 : Int)) hx hb hts 2 hinX2 tyX2 tyX2_ok nmX2 hown hK hG hS i 2 (Or.inl (Or.inl (Or.inl h2))) (by decide) rfl (by decide) (hts (.fieldLink RX2 32 "LineEvents$Machine" "lower" "LLineEvents$Machine;") (by decide +kernel)) (Or.inr ⟨rfl, hin0, rfl⟩) (cV_R (t := 2) (j := j2) rfl rfl) rfl rfl dX2_init_40 (fun H locs hG hS => ?_)
  refine lv_aload_n hx hb dX2_init_43 rfl (lv_at hl 0 rfl) ?_
  refine lv_aloadN hx hb dX2_init_44 (lv_at hl 4 rfl) ?_
  refine lv_ifnonnullN hx hb dX2_init_46 ?_
  refine lv_null hx hb dX2_init_49 ?_
  refine lv_goto (tgt := 58) hx hb dX2_init_50 (by decide) ?_
  refine c_putV (Cn := RX2) (T := TX2) (z := (-1)) hx hb hts 2 hinX2 tyX2 tyX2_ok nmX2 hown hK hG hS i 3 (Or.inl (Or.inl (Or.inl h2))) (by decide) rfl (by decide) (hts (.fieldLink RX2 36 "LineEvents$Machine" "before" "LLineEvents$Buffer;") (by decide +kernel)) (Or.inr ⟨rfl, hin0, rfl⟩) (cV_N (t := 3) rfl (by decide)) rfl rfl dX2_init_58 (fun H locs hG hS => ?_)
  exact W.vret hx hb hr (fun t ht hW => ⟨rfl, ⟨ad8, fun k j h => by rw [hq8 k j (by omega), hq4 k j (by omega), hq1 k j (by omega)], ⟨by rw [ht]; exact hG, va_K.moved hW.alike hK, fun q hq => hA q (Nat.le_trans hS.1 (by rw [← ht]; exact hq))⟩⟩, hS.F ht⟩) hS.2.2 dX2_init_61
set_option maxHeartbeats 4000000 in
set_option maxRecDepth 100000 in
theorem m_X2_initRR (l : Launch) (D : va_G) (cI cJ : ClassId) (A : Nat → Prop) (ad : Nat → Nat → Nat) (al : Nat → Nat → Prop) (C : sT) (i j2 j : Nat) (t : Int) (h2 : al 2 i) (h3 : ¬ al 3 i) (h4 : ¬ al 4 i) (h5 : ¬ al 5 i) (hr3 : nr C al 3 i) (hr4 : nr C al 4 i) (hr5 : nr C al 5 i) (h2j : al 2 j) (hji : ¬ j = i) (hb4 : C 2 j 4 = (j : Int)) : Met l yX2_init wsX2_init ({ frames := 2, cells := 3, slots := 1017, locals := 40 }) (va_Pc [.ref (ad 2 i), .int (zI (i : Int)), .int (zI t), .ref (ad 2 j2), .ref (ad 2 j)] (fun U => gCU D cI cJ A ad al C U ∧ va_Nw (.methodLinkNest RX2 11 yX0_init "LineEvents") U)) (gO none (fun U => ∃ ad1 : Nat → Nat → Nat, (∀ k j, ¬ ((k = 3 ∨ k = 4 ∨ k = 5) ∧ j = i) → ad1 k j = ad k j) ∧ gCU D cI cJ A ad1 (alU (alU (alU al 3 i) 4 i) 5 i) (su (su (su (su (su (cz (su (su (su (cz (su (cn C 3 i) 3 i 0 1) 4 i) 3 i 2 (i : Int)) 2 i 4 (i : Int)) 2 i 9 (-1)) 5 i) 2 i 15 (i : Int)) 2 i 0 (i : Int)) 2 i 1 t) 2 i 2 (j2)) 2 i 3 (j)) U) A) 3 1017 A := by
  refine Met.ofW (cc := cX2_init) (maxL := 5) (ret := none) (by decide) rfl ?_
  intro p e s m0 args below meth c s₁ B hml hv
  obtain ⟨rfl, ⟨hG, hK, hA⟩, hNw⟩ := hv
  have hx := B.exec
  have hb := B.bytes
  have hr := B.returns
  have hts := atoms_spec (ws := wsX2_init) B.pre
  have hown : s.vm.findClass RX2 = some m0.cls := findClass_of_methodNamed B.named
  have hlocks := B.notSynchronized
  have hinX0 : ∀ w ∈ wsX00, w ∈ wsX2_init := by decide +kernel
  have hinX2 : ∀ w ∈ wsX20, w ∈ wsX2_init := by decide +kernel
  have hin0 : meth.name = "<init>" := (name_of_methodNamed B.named B.method).1
  have hS : va_S A s.heap s.heap [] := va_S.rf
  have hl := lv_entry ([.ref (ad 2 i), .int (zI (i : Int)), .int (zI t), .ref (ad 2 j2), .ref (ad 2 j)]) (n := 5) (Nat.le_of_ble_eq_true rfl)
  rw [lg_entry_eq]
  generalize (lg_sl ([.ref (ad 2 i), .int (zI (i : Int)), .int (zI t), .ref (ad 2 j2), .ref (ad 2 j)]) ++ List.replicate (5 - (lg_sl ([.ref (ad 2 i), .int (zI (i : Int)), .int (zI t), .ref (ad 2 j2), .ref (ad 2 j)])).length) Slot.unset).toArray = ls at hl ⊢
  replace hl : lv_has ls 5 [(0, .ref (ad 2 i)), (1, .int (zI (i : Int))), (2, .int (zI t)), (3, .ref (ad 2 j2)), (4, .ref (ad 2 j))] := hl
  refine lv_aload_n hx hb dX2_init_0 rfl (lv_at hl 0 rfl) ?_
  refine W.objInit hx hb hown (hts (.methodLink RX2 3 objectInit) (by decide +kernel)) (hts (.instanceMethod objectInit) (by decide +kernel)) (hts (.code objectInit ⟨#[0xb1]⟩ 1 none) (by decide +kernel)) rfl (by rw [hml]; exact hl.1) rfl dX2_init_1 (Nat.le_of_ble_eq_true rfl) (Nat.le_of_ble_eq_true rfl) ?_
  refine W.eq (g2 := F0 m0 4 ls []) rfl ?_
  refine lv_aload_n hx hb dX2_init_4 rfl (lv_at hl 0 rfl) ?_
  refine c_new hx hb hts 3 i hinX0 tyX0 tyX0_ok hown (hts (.classLink RX2 9 RX0) (by decide +kernel)) (hts (.instantiable RX0 5) (by decide +kernel)) (hts (.initialized RX0) (by decide +kernel)) hK hG hS hA (by decide) rfl dfX0 (Nat.le_of_ble_eq_true rfl) (Nat.le_of_ble_eq_true rfl) (C' := cn C 3 i) h3 hr3 (fun k j hk => cn_o (fun q => h3 (by rw [← q.1, ← q.2]; exact hk))) (fun f _ => cn_s _ _ _ f) dX2_init_5 (fun q9 H hG hS => ?_)
  generalize had1 : adU ad 3 i q9 = ad1 at hG ⊢
  have hq1 : ∀ k8 i8, ¬ (k8 = 3 ∧ i8 = i) → ad1 k8 i8 = ad k8 i8 := fun k8 i8 h => by rw [← had1]; exact adU_ne h
  have r2 : ad1 2 i = ad 2 i := hq1 2 i (fun q => absurd q.1 (by decide))
  have r3 : ad1 2 j2 = ad 2 j2 := hq1 2 j2 (fun q => absurd q.1 (by decide))
  have r4 : ad1 2 j = ad 2 j := hq1 2 j (fun q => absurd q.1 (by decide))
  replace hl : lv_has ls 5 [(0, .ref (ad1 2 i)), (1, .int (zI (i : Int))), (2, .int (zI t)), (3, .ref (ad1 2 j2)), (4, .ref (ad1 2 j))] := by rw [r2, r3, r4]; exact hl
  refine W.eq (g2 := F0 m0 8 ls [.ref (ad1 3 i), .ref (ad1 2 i)]) (by rw [r2]; try rfl) ?_
  refine lv_dup hx hb dX2_init_8 rfl ?_
  have h4b : ¬ alU al 3 i 4 i := fun q => q.elim h4 (fun q => absurd q.1 (by decide))
  refine c_callIN (As := []) (rest := [.ref (ad1 3 i), .ref (ad1 2 i)]) ⟨hx, hb, hml, hown, hts⟩ (ad1 3 i) (m_X0_init l D cI cJ A ad1 (alU al 3 i) (cn C 3 i) i (Or.inr ⟨rfl, rfl⟩) h4b (nr_cn hr4)) (⟨va_cnB 0 hts gX2_init_X0_init_n11 rfl rfl rfl hNw (hts (.initialized RX0) (by decide +kernel)) (by decide +kernel) ⟨Nat.le_of_ble_eq_true rfl, Nat.le_of_ble_eq_true rfl⟩, rfl, hts (.instanceMethod yX0_init) (by decide +kernel)⟩) (⟨gCU_blind, fun U hU hW => ⟨rfl, by rw [hU]; exact hG, va_K.moved hW.alike hK, fun q hq => hA q (Nat.le_trans hS.1 (by rw [← hU]; exact hq))⟩⟩) hS rfl hl.1 rfl (Nat.le_of_ble_eq_true rfl) dX2_init_9 ⟨Nat.le_of_ble_eq_true rfl, Nat.le_of_ble_eq_true rfl⟩ (fun t9 H locs ht9 hB hS => ?_)
  obtain ⟨ad5, hq5, hG, -, -⟩ := hB
  rw [ht9] at hG; clear ht9
  have r6 : ad5 2 i = ad1 2 i := hq5 2 i (fun q => absurd q.1 (by decide))
  have r7 : ad5 2 j2 = ad1 2 j2 := hq5 2 j2 (fun q => absurd q.1 (by decide))
  have r8 : ad5 2 j = ad1 2 j := hq5 2 j (fun q => absurd q.1 (by decide))
  have r9 : ad5 3 i = ad1 3 i := hq5 3 i (fun q => absurd q.1 (by decide))
  replace hl : lv_has ls 5 [(0, .ref (ad5 2 i)), (1, .int (zI (i : Int))), (2, .int (zI t)), (3, .ref (ad5 2 j2)), (4, .ref (ad5 2 j))] := by rw [r6, r7, r8]; exact hl
  refine W.eq (g2 := F0 m0 12 ls [.ref (ad5 3 i), .ref (ad5 2 i)]) (by rw [r6, r9]; try rfl) ?_
  refine c_putV (Cn := RX2) (T := TX2) (z := (i : Int)) hx hb hts 2 hinX2 tyX2 tyX2_ok nmX2 hown hK hG hS i 4 (Or.inl (Or.inl h2)) (by decide) rfl (by decide) (hts (.fieldLink RX2 12 "LineEvents$Machine" "behind" "LLineEvents$Buffer;") (by decide +kernel)) (Or.inr ⟨rfl, hin0, rfl⟩) (cV_R (t := 3) (j := i) rfl rfl) rfl rfl dX2_init_12 (fun H locs hG hS => ?_)
  refine lv_aload_n hx hb dX2_init_15 rfl (lv_at hl 0 rfl) ?_
  refine lv_iconst (v := zI (-1)) hx hb dX2_init_16 rfl ?_
  refine c_putV (Cn := RX2) (T := TX2) (z := (-1)) hx hb hts 2 hinX2 tyX2 tyX2_ok nmX2 hown hK hG hS i 9 (Or.inl (Or.inl h2)) (by decide) rfl (by decide) (hts (.fieldLink RX2 18 "LineEvents$Machine" "rowCause" "I") (by decide +kernel)) (Or.inl rfl) (cV_I (z := (-1)) rfl rfl) rfl rfl dX2_init_17 (fun H locs hG hS => ?_)
  refine lv_aload_n hx hb dX2_init_20 rfl (lv_at hl 0 rfl) ?_
  refine lv_bipush (v := zI 12) hx hb dX2_init_21 (by decide) ?_
  have h5b : ¬ alU (alU al 3 i) 4 i 5 i := fun q => q.elim (fun q => q.elim h5 (fun q => absurd q.1 (by decide))) (fun q => absurd q.1 (by decide))
  have hr5b : nr (su (su (su (cz (su (cn C 3 i) 3 i 0 1) 4 i) 3 i 2 (i : Int)) 2 i 4 ((i : Int))) 2 i 9 ((-1))) (alU (alU al 3 i) 4 i) 5 i := nr_su (nr_su (nr_su (nr_cz (nr_su (nr_cn hr5) (fun q => absurd q (by decide))) rfl) (fun q => absurd q (by decide))) (fun q => absurd q (by decide))) (fun q => absurd q (by decide))
  refine c_newaJ hx hb (hts (.arrayClass .long) (by decide +kernel)) hK hG hS hA i (Nat.le_of_ble_eq_true rfl) (Nat.le_of_ble_eq_true rfl) (C' := cz (su (su (su (cz (su (cn C 3 i) 3 i 0 1) 4 i) 3 i 2 (i : Int)) 2 i 4 ((i : Int))) 2 i 9 ((-1))) 5 i) h5b hr5b (fun k j hk => cz_o (fun q => h5b (by have h9 := hk; rw [q.1, q.2] at h9; exact h9))) (cz_s _ _ _) dX2_init_23 (fun q9 H hG hS => ?_)
  generalize had10 : adU ad5 5 i q9 = ad10 at hG ⊢
  have hq10 : ∀ k8 i8, ¬ (k8 = 5 ∧ i8 = i) → ad10 k8 i8 = ad5 k8 i8 := fun k8 i8 h => by rw [← had10]; exact adU_ne h
  have r11 : ad10 2 i = ad5 2 i := hq10 2 i (fun q => absurd q.1 (by decide))
  have r12 : ad10 2 j2 = ad5 2 j2 := hq10 2 j2 (fun q => absurd q.1 (by decide))
  have r13 : ad10 2 j = ad5 2 j := hq10 2 j (fun q => absurd q.1 (by decide))
  replace hl : lv_has ls 5 [(0, .ref (ad10 2 i)), (1, .int (zI (i : Int))), (2, .int (zI t)), (3, .ref (ad10 2 j2)), (4, .ref (ad10 2 j))] := by rw [r11, r12, r13]; exact hl
  refine W.eq (g2 := F0 m0 25 ls [.ref (ad10 5 i), .ref (ad10 2 i)]) (by rw [r11]; try rfl) ?_
  refine c_putV (Cn := RX2) (T := TX2) (z := (i : Int)) hx hb hts 2 hinX2 tyX2 tyX2_ok nmX2 hown hK hG hS i 15 (Or.inl (Or.inl (Or.inl h2))) (by decide) rfl (by decide) (hts (.fieldLink RX2 22 "LineEvents$Machine" "times" "[J") (by decide +kernel)) (Or.inr ⟨rfl, hin0, rfl⟩) (cV_R (t := 5) (j := i) rfl rfl) rfl rfl dX2_init_25 (fun H locs hG hS => ?_)
  refine lv_aload_n hx hb dX2_init_28 rfl (lv_at hl 0 rfl) ?_
  refine lv_iload_n hx hb dX2_init_29 rfl (lv_at hl 1 rfl) ?_
  refine c_putV (Cn := RX2) (T := TX2) (z := (i : Int)) hx hb hts 2 hinX2 tyX2 tyX2_ok nmX2 hown hK hG hS i 0 (Or.inl (Or.inl (Or.inl h2))) (by decide) rfl (by decide) (hts (.fieldLink RX2 26 "LineEvents$Machine" "number" "I") (by decide +kernel)) (Or.inr ⟨rfl, hin0, rfl⟩) (cV_I (z := (i : Int)) rfl rfl) rfl rfl dX2_init_30 (fun H locs hG hS => ?_)
  refine lv_aload_n hx hb dX2_init_33 rfl (lv_at hl 0 rfl) ?_
  refine lv_iload_n hx hb dX2_init_34 rfl (lv_at hl 2 rfl) ?_
  refine c_putV (Cn := RX2) (T := TX2) (z := t) hx hb hts 2 hinX2 tyX2 tyX2_ok nmX2 hown hK hG hS i 1 (Or.inl (Or.inl (Or.inl h2))) (by decide) rfl (by decide) (hts (.fieldLink RX2 29 "LineEvents$Machine" "takes" "I") (by decide +kernel)) (Or.inr ⟨rfl, hin0, rfl⟩) (cV_I (z := t) rfl rfl) rfl rfl dX2_init_35 (fun H locs hG hS => ?_)
  refine lv_aload_n hx hb dX2_init_38 rfl (lv_at hl 0 rfl) ?_
  refine lv_aload_n hx hb dX2_init_39 rfl (lv_at hl 3 rfl) ?_
  refine c_putV (Cn := RX2) (T := TX2) (z := (j2 : Int)) hx hb hts 2 hinX2 tyX2 tyX2_ok nmX2 hown hK hG hS i 2 (Or.inl (Or.inl (Or.inl h2))) (by decide) rfl (by decide) (hts (.fieldLink RX2 32 "LineEvents$Machine" "lower" "LLineEvents$Machine;") (by decide +kernel)) (Or.inr ⟨rfl, hin0, rfl⟩) (cV_R (t := 2) (j := j2) rfl rfl) rfl rfl dX2_init_40 (fun H locs hG hS => ?_)
  refine lv_aload_n hx hb dX2_init_43 rfl (lv_at hl 0 rfl) ?_
  refine lv_aload hx hb dX2_init_44 (lv_at hl 4 rfl) ?_
  refine lv_ifnonnull (tgt := 53) hx hb dX2_init_46 (by decide) ?_
  refine lv_aload hx hb dX2_init_53 (lv_at hl 4 rfl) ?_
  have hv9 : (su (su (su (su (cz (su (su (su (cz (su (cn C 3 i) 3 i 0 1) 4 i) 3 i 2 (i : Int)) 2 i 4 ((i : Int))) 2 i 9 ((-1))) 5 i) 2 i 15 ((i : Int))) 2 i 0 ((i : Int))) 2 i 1 (t)) 2 i 2 ((j2 : Int))) 2 j 4 = (j : Int) := by simp [su, cz, cn, hji, hb4]
  refine c_getV (Cn := RX2) (T := TX2) hx hb hts 2 hinX2 hown hK hG j 4 (Or.inl (Or.inl (Or.inl h2j))) (by decide) rfl (by decide) (hts (.fieldLink RX2 12 "LineEvents$Machine" "behind" "LLineEvents$Buffer;") (by decide +kernel)) (cV_R (t := 3) (j := j) rfl hv9) dX2_init_55 ?_
  refine c_putV (Cn := RX2) (T := TX2) (z := (j : Int)) hx hb hts 2 hinX2 tyX2 tyX2_ok nmX2 hown hK hG hS i 3 (Or.inl (Or.inl (Or.inl h2))) (by decide) rfl (by decide) (hts (.fieldLink RX2 36 "LineEvents$Machine" "before" "LLineEvents$Buffer;") (by decide +kernel)) (Or.inr ⟨rfl, hin0, rfl⟩) (cV_R (t := 3) (j := j) rfl rfl) rfl rfl dX2_init_58 (fun H locs hG hS => ?_)
  exact W.vret hx hb hr (fun t ht hW => ⟨rfl, ⟨ad10, fun k j h => by rw [hq10 k j (by omega), hq5 k j (by omega), hq1 k j (by omega)], ⟨by rw [ht]; exact hG, va_K.moved hW.alike hK, fun q hq => hA q (Nat.le_trans hS.1 (by rw [← ht]; exact hq))⟩⟩, hS.F ht⟩) hS.2.2 dX2_init_61
set_option maxHeartbeats 4000000 in
set_option maxRecDepth 100000 in
theorem m_X4_init (l : Launch) (D : va_G) (cI cJ : ClassId) (A : Nat → Prop) (ad : Nat → Nat → Nat) (al : Nat → Nat → Prop) (C : sT) (z : Int) (h0 : al 0 0) (h1 : ¬ al 1 0) (hr1 : nr C al 1 0) : Met l yX4_init wsX4_init ({ frames := 1, cells := 1, slots := 3000, locals := 20 }) (va_Pc [.ref (ad 0 0), .long (zL z)] (gCU D cI cJ A ad al C)) (gO none (fun U => ∃ ad1 : Nat → Nat → Nat, (∀ k j, ¬ (k = 1 ∧ j = 0) → ad1 k j = ad k j) ∧ gCU D cI cJ A ad1 (alU al 1 0) (su (su (cz C 1 0) 0 0 7 0) 0 0 0 z) U) A) 1 3000 A := by
  refine Met.ofW (cc := cX4_init) (maxL := 3) (ret := none) (by decide) rfl ?_
  intro p e s m0 args below meth c s₁ B hml hv
  obtain ⟨rfl, hG, hK, hA⟩ := hv
  have hx := B.exec
  have hb := B.bytes
  have hr := B.returns
  have hts := atoms_spec (ws := wsX4_init) B.pre
  have hown : s.vm.findClass RX4 = some m0.cls := findClass_of_methodNamed B.named
  have hlocks := B.notSynchronized
  have hinX4 : ∀ w ∈ wsX40, w ∈ wsX4_init := by decide +kernel
  have hin0 : meth.name = "<init>" := (name_of_methodNamed B.named B.method).1
  have hS : va_S A s.heap s.heap [] := va_S.rf
  have hl := lv_entry ([.ref (ad 0 0), .long (zL z)]) (n := 3) (Nat.le_of_ble_eq_true rfl)
  rw [lg_entry_eq]
  generalize (lg_sl ([.ref (ad 0 0), .long (zL z)]) ++ List.replicate (3 - (lg_sl ([.ref (ad 0 0), .long (zL z)])).length) Slot.unset).toArray = ls at hl ⊢
  replace hl : lv_has ls 3 [(0, .ref (ad 0 0)), (1, .long (zL z))] := hl
  refine lv_aload_n hx hb dX4_init_0 rfl (lv_at hl 0 rfl) ?_
  refine W.objInit hx hb hown (hts (.methodLink RX4 1 objectInit) (by decide +kernel)) (hts (.instanceMethod objectInit) (by decide +kernel)) (hts (.code objectInit ⟨#[0xb1]⟩ 1 none) (by decide +kernel)) rfl (by rw [hml]; exact hl.1) rfl dX4_init_1 (Nat.le_of_ble_eq_true rfl) (Nat.le_of_ble_eq_true rfl) ?_
  refine W.eq (g2 := F0 m0 4 ls []) rfl ?_
  refine lv_aload_n hx hb dX4_init_4 rfl (lv_at hl 0 rfl) ?_
  refine lv_sipush (v := zI 3000) hx hb dX4_init_5 (by decide) ?_
  refine c_newaI hx hb (hts (.arrayClass .int) (by decide +kernel)) hK hG hS hA 1 0 3000 (fun _ _ => rfl) (by decide) (Nat.le_of_ble_eq_true rfl) (Nat.le_of_ble_eq_true rfl) (C' := cz C 1 0) h1 hr1 (fun k j hk => cz_o (fun q => h1 (by rw [← q.1, ← q.2]; exact hk))) (cz_s _ _ _) dX4_init_8 (fun q9 H hG hS => ?_)
  generalize had1 : adU ad 1 0 q9 = ad1 at hG ⊢
  have hq1 : ∀ k8 i8, ¬ (k8 = 1 ∧ i8 = 0) → ad1 k8 i8 = ad k8 i8 := fun k8 i8 h => by rw [← had1]; exact adU_ne h
  have r2 : ad1 0 0 = ad 0 0 := hq1 0 0 (fun q => absurd q.1 (by decide))
  replace hl : lv_has ls 3 [(0, .ref (ad1 0 0)), (1, .long (zL z))] := by rw [r2]; exact hl
  refine W.eq (g2 := F0 m0 10 ls [.ref (ad1 1 0), .ref (ad1 0 0)]) (by rw [r2]; try rfl) ?_
  refine c_putV (Cn := RX4) (T := TX4) (z := 0) hx hb hts 0 hinX4 tyX4 tyX4_ok nmX4 hown hK hG hS 0 7 (Or.inl h0) (by decide) rfl (by decide) (hts (.fieldLink RX4 9 "LineEvents" "events" "[I") (by decide +kernel)) (Or.inr ⟨rfl, hin0, rfl⟩) (cV_R (t := 1) (j := 0) rfl rfl) rfl rfl dX4_init_10 (fun H locs hG hS => ?_)
  refine lv_aload_n hx hb dX4_init_13 rfl (lv_at hl 0 rfl) ?_
  refine lv_lload_n hx hb dX4_init_14 rfl (lv_at hl 1 rfl) ?_
  refine c_putV (Cn := RX4) (T := TX4) (z := z) hx hb hts 0 hinX4 tyX4 tyX4_ok nmX4 hown hK hG hS 0 0 (Or.inl h0) (by decide) rfl (by decide) (hts (.fieldLink RX4 13 "LineEvents" "drawn" "J") (by decide +kernel)) (Or.inl rfl) (cV_J (z := z) rfl rfl) rfl rfl dX4_init_15 (fun H locs hG hS => ?_)
  exact W.vret hx hb hr (fun t ht hW => ⟨rfl, ⟨ad1, hq1, ⟨by rw [ht]; exact hG, va_K.moved hW.alike hK, fun q hq => hA q (Nat.le_trans hS.1 (by rw [← ht]; exact hq))⟩⟩, hS.F ht⟩) hS.2.2 dX4_init_18
