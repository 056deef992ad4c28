set_option maxHeartbeats 4000000 in
set_option maxRecDepth 100000 in
theorem m_X1_init (l : Launch) (D : va_G) (cI cJ : ClassId) (A : Nat → Prop) (ad : Nat → Nat → Nat) (al : Nat → Nat → Prop) (C : sT) (x : Nat) (a b t : Int) (hx6 : al 6 x) : Met l yX1_init wsX1_init ({ frames := 1, cells := 0, slots := 0, locals := 20 }) (va_Pc [.ref (ad 6 x), .long (zL a), .long (zL b), .int (zI t)] (gCU D cI cJ A ad al C)) (gO none (gCU D cI cJ A ad al (su (su (su C 6 x 0 a) 6 x 1 b) 6 x 2 t)) A) 0 0 A := by
  refine Met.ofW (cc := cX1_init) (maxL := 6) (ret := none) (by decide) rfl ?_
  intro p e s m0 args below meth c s₁ B hml hv
  obtain ⟨rfl, hG, hK, hA⟩ := hv
  have hx := B.exec
  have hb := B.bytes
  have hr := B.returns
  have hts := atoms_spec (ws := wsX1_init) B.pre
  have hown : s.vm.findClass RX1 = some m0.cls := findClass_of_methodNamed B.named
  have hlocks := B.notSynchronized
  have hinX1 : ∀ w ∈ wsX10, w ∈ wsX1_init := by decide +kernel
  have hin0 : meth.name = "<init>" := (name_of_methodNamed B.named B.method).1
  have hS : va_S A s.heap s.heap [] := va_S.rf
  have hl := lv_entry ([.ref (ad 6 x), .long (zL a), .long (zL b), .int (zI t)]) (n := 6) (Nat.le_of_ble_eq_true rfl)
  rw [lg_entry_eq]
  generalize (lg_sl ([.ref (ad 6 x), .long (zL a), .long (zL b), .int (zI t)]) ++ List.replicate (6 - (lg_sl ([.ref (ad 6 x), .long (zL a), .long (zL b), .int (zI t)])).length) Slot.unset).toArray = ls at hl ⊢
  replace hl : lv_has ls 6 [(0, .ref (ad 6 x)), (1, .long (zL a)), (3, .long (zL b)), (5, .int (zI t))] := hl
  refine lv_aload_n hx hb dX1_init_0 rfl (lv_at hl 0 rfl) ?_
  refine W.objInit hx hb hown (hts (.methodLink RX1 1 objectInit) (by decide +kernel)) (hts (.instanceMethod objectInit) (by decide +kernel)) (hts (.code objectInit ⟨#[0xb1]⟩ 1 none) (by decide +kernel)) rfl (by rw [hml]; exact hl.1) rfl dX1_init_1 (Nat.le_of_ble_eq_true rfl) (Nat.le_of_ble_eq_true rfl) ?_
  refine W.eq (g2 := F0 m0 4 ls []) rfl ?_
  refine lv_aload_n hx hb dX1_init_4 rfl (lv_at hl 0 rfl) ?_
  refine lv_lload_n hx hb dX1_init_5 rfl (lv_at hl 1 rfl) ?_
  refine c_putV (Cn := RX1) (T := TX1) (z := a) hx hb hts 6 hinX1 tyX1 tyX1_ok nmX1 hown hK hG hS x 0 hx6 (by decide) rfl (by decide) (hts (.fieldLink RX1 7 "LineEvents$Fault" "above" "J") (by decide +kernel)) (Or.inr ⟨rfl, hin0, rfl⟩) (cV_J (z := a) rfl rfl) rfl rfl dX1_init_6 (fun H locs hG hS => ?_)
  refine lv_aload_n hx hb dX1_init_9 rfl (lv_at hl 0 rfl) ?_
  refine lv_lload_n hx hb dX1_init_10 rfl (lv_at hl 2 rfl) ?_
  refine c_putV (Cn := RX1) (T := TX1) (z := b) hx hb hts 6 hinX1 tyX1 tyX1_ok nmX1 hown hK hG hS x 1 hx6 (by decide) rfl (by decide) (hts (.fieldLink RX1 13 "LineEvents$Fault" "below" "J") (by decide +kernel)) (Or.inr ⟨rfl, hin0, rfl⟩) (cV_J (z := b) rfl rfl) rfl rfl dX1_init_11 (fun H locs hG hS => ?_)
  refine lv_aload_n hx hb dX1_init_14 rfl (lv_at hl 0 rfl) ?_
  refine lv_iload hx hb dX1_init_15 (lv_at hl 3 rfl) ?_
  refine c_putV (Cn := RX1) (T := TX1) (z := t) hx hb hts 6 hinX1 tyX1 tyX1_ok nmX1 hown hK hG hS x 2 hx6 (by decide) rfl (by decide) (hts (.fieldLink RX1 16 "LineEvents$Fault" "tenths" "I") (by decide +kernel)) (Or.inr ⟨rfl, hin0, rfl⟩) (cV_I (z := t) rfl rfl) rfl rfl dX1_init_17 (fun H locs hG hS => ?_)
  exact W.vret hx hb hr (fun t ht hW => ⟨rfl, ⟨by rw [ht]; exact hG, va_K.moved hW.alike hK, fun q hq => hA q (Nat.le_trans hS.1 (by rw [← ht]; exact hq))⟩, hS.F ht⟩) hS.2.2 dX1_init_20
set_option maxHeartbeats 4000000 in
set_option maxRecDepth 100000 in
theorem m_X3_init (l : Launch) (D : va_G) (cI cJ : ClassId) (A : Nat → Prop) (ad : Nat → Nat → Nat) (al : Nat → Nat → Prop) (C : sT) (x : Nat) (a b t c9 e9 : Int) (hx7 : al 7 x) : Met l yX3_init wsX3_init ({ frames := 1, cells := 0, slots := 0, locals := 20 }) (va_Pc [.ref (ad 7 x), .int (zI a), .int (zI b), .int (zI t), .int (zI c9), rf ad 7 e9] (gCU D cI cJ A ad al C)) (gO none (gCU D cI cJ A ad al (su (su (su (su (su C 7 x 0 a) 7 x 1 b) 7 x 2 t) 7 x 3 c9) 7 x 4 e9)) A) 0 0 A := by
  refine Met.ofW (cc := cX3_init) (maxL := 6) (ret := none) (by decide) rfl ?_
  intro p e s m0 args below meth c s₁ B hml hv
  obtain ⟨rfl, hG, hK, hA⟩ := hv
  have hx := B.exec
  have hb := B.bytes
  have hr := B.returns
  have hts := atoms_spec (ws := wsX3_init) B.pre
  have hown : s.vm.findClass RX3 = some m0.cls := findClass_of_methodNamed B.named
  have hlocks := B.notSynchronized
  have hinX3 : ∀ w ∈ wsX30, w ∈ wsX3_init := by decide +kernel
  have hin0 : meth.name = "<init>" := (name_of_methodNamed B.named B.method).1
  have hS : va_S A s.heap s.heap [] := va_S.rf
  have hl := lv_entry ([.ref (ad 7 x), .int (zI a), .int (zI b), .int (zI t), .int (zI c9), rf ad 7 e9]) (n := 6) (Nat.le_of_ble_eq_true rfl)
  rw [lg_entry_eq]
  generalize (lg_sl ([.ref (ad 7 x), .int (zI a), .int (zI b), .int (zI t), .int (zI c9), rf ad 7 e9]) ++ List.replicate (6 - (lg_sl ([.ref (ad 7 x), .int (zI a), .int (zI b), .int (zI t), .int (zI c9), rf ad 7 e9])).length) Slot.unset).toArray = ls at hl ⊢
  replace hl : lv_has ls 6 [(0, .ref (ad 7 x)), (1, .int (zI a)), (2, .int (zI b)), (3, .int (zI t)), (4, .int (zI c9)), (5, rf ad 7 e9)] := hl
  by_cases he9 : e9 < 0
  · replace hl : lv_has ls 6 [(0, .ref (ad 7 x)), (1, .int (zI a)), (2, .int (zI b)), (3, .int (zI t)), (4, .int (zI c9)), (5, .null)] := by rw [rf_n he9] at hl; exact hl
    refine lv_aload_n hx hb dX3_init_0 rfl (lv_at hl 0 rfl) ?_
    refine W.objInit hx hb hown (hts (.methodLink RX3 3 objectInit) (by decide +kernel)) (hts (.instanceMethod objectInit) (by decide +kernel)) (hts (.code objectInit ⟨#[0xb1]⟩ 1 none) (by decide +kernel)) rfl (by rw [hml]; exact hl.1) rfl dX3_init_1 (Nat.le_of_ble_eq_true rfl) (Nat.le_of_ble_eq_true rfl) ?_
    refine W.eq (g2 := F0 m0 4 ls []) rfl ?_
    refine lv_aload_n hx hb dX3_init_4 rfl (lv_at hl 0 rfl) ?_
    refine lv_iload_n hx hb dX3_init_5 rfl (lv_at hl 1 rfl) ?_
    refine c_putV (Cn := RX3) (T := TX3) (z := a) hx hb hts 7 hinX3 tyX3 tyX3_ok nmX3 hown hK hG hS x 0 hx7 (by decide) rfl (by decide) (hts (.fieldLink RX3 9 "LineEvents$Row" "machine" "I") (by decide +kernel)) (Or.inr ⟨rfl, hin0, rfl⟩) (cV_I (z := a) rfl rfl) rfl rfl dX3_init_6 (fun H locs hG hS => ?_)
    refine lv_aload_n hx hb dX3_init_9 rfl (lv_at hl 0 rfl) ?_
    refine lv_iload_n hx hb dX3_init_10 rfl (lv_at hl 2 rfl) ?_
    refine c_putV (Cn := RX3) (T := TX3) (z := b) hx hb hts 7 hinX3 tyX3 tyX3_ok nmX3 hown hK hG hS x 1 hx7 (by decide) rfl (by decide) (hts (.fieldLink RX3 15 "LineEvents$Row" "from" "I") (by decide +kernel)) (Or.inr ⟨rfl, hin0, rfl⟩) (cV_I (z := b) rfl rfl) rfl rfl dX3_init_11 (fun H locs hG hS => ?_)
    refine lv_aload_n hx hb dX3_init_14 rfl (lv_at hl 0 rfl) ?_
    refine lv_iload_n hx hb dX3_init_15 rfl (lv_at hl 3 rfl) ?_
    refine c_putV (Cn := RX3) (T := TX3) (z := t) hx hb hts 7 hinX3 tyX3 tyX3_ok nmX3 hown hK hG hS x 2 hx7 (by decide) rfl (by decide) (hts (.fieldLink RX3 18 "LineEvents$Row" "to" "I") (by decide +kernel)) (Or.inr ⟨rfl, hin0, rfl⟩) (cV_I (z := t) rfl rfl) rfl rfl dX3_init_16 (fun H locs hG hS => ?_)
    refine lv_aload_n hx hb dX3_init_19 rfl (lv_at hl 0 rfl) ?_
    refine lv_iload hx hb dX3_init_20 (lv_at hl 4 rfl) ?_
    refine c_putV (Cn := RX3) (T := TX3) (z := c9) hx hb hts 7 hinX3 tyX3 tyX3_ok nmX3 hown hK hG hS x 3 hx7 (by decide) rfl (by decide) (hts (.fieldLink RX3 21 "LineEvents$Row" "cause" "I") (by decide +kernel)) (Or.inr ⟨rfl, hin0, rfl⟩) (cV_I (z := c9) rfl rfl) rfl rfl dX3_init_22 (fun H locs hG hS => ?_)
    refine lv_aload_n hx hb dX3_init_25 rfl (lv_at hl 0 rfl) ?_
    refine lv_aloadN hx hb dX3_init_26 (lv_at hl 5 rfl) ?_
    refine c_putV (Cn := RX3) (T := TX3) (z := e9) hx hb hts 7 hinX3 tyX3 tyX3_ok nmX3 hown hK hG hS x 4 hx7 (by decide) rfl (by decide) (hts (.fieldLink RX3 24 "LineEvents$Row" "earlier" "LLineEvents$Row;") (by decide +kernel)) (Or.inr ⟨rfl, hin0, rfl⟩) (cV_N (t := 7) rfl he9) rfl rfl dX3_init_28 (fun H locs hG hS => ?_)
    exact W.vret hx hb hr (fun t ht hW => ⟨rfl, ⟨by rw [ht]; exact hG, va_K.moved hW.alike hK, fun q hq => hA q (Nat.le_trans hS.1 (by rw [← ht]; exact hq))⟩, hS.F ht⟩) hS.2.2 dX3_init_31
  · obtain ⟨j9, hj9⟩ : ∃ j : Nat, e9 = (j : Int) := ⟨e9.toNat, by omega⟩
    replace hl : lv_has ls 6 [(0, .ref (ad 7 x)), (1, .int (zI a)), (2, .int (zI b)), (3, .int (zI t)), (4, .int (zI c9)), (5, .ref (ad 7 j9))] := by rw [rf_s hj9] at hl; exact hl
    refine lv_aload_n hx hb dX3_init_0 rfl (lv_at hl 0 rfl) ?_
    refine W.objInit hx hb hown (hts (.methodLink RX3 3 objectInit) (by decide +kernel)) (hts (.instanceMethod objectInit) (by decide +kernel)) (hts (.code objectInit ⟨#[0xb1]⟩ 1 none) (by decide +kernel)) rfl (by rw [hml]; exact hl.1) rfl dX3_init_1 (Nat.le_of_ble_eq_true rfl) (Nat.le_of_ble_eq_true rfl) ?_
    refine W.eq (g2 := F0 m0 4 ls []) rfl ?_
    refine lv_aload_n hx hb dX3_init_4 rfl (lv_at hl 0 rfl) ?_
    refine lv_iload_n hx hb dX3_init_5 rfl (lv_at hl 1 rfl) ?_
    refine c_putV (Cn := RX3) (T := TX3) (z := a) hx hb hts 7 hinX3 tyX3 tyX3_ok nmX3 hown hK hG hS x 0 hx7 (by decide) rfl (by decide) (hts (.fieldLink RX3 9 "LineEvents$Row" "machine" "I") (by decide +kernel)) (Or.inr ⟨rfl, hin0, rfl⟩) (cV_I (z := a) rfl rfl) rfl rfl dX3_init_6 (fun H locs hG hS => ?_)
    refine lv_aload_n hx hb dX3_init_9 rfl (lv_at hl 0 rfl) ?_
    refine lv_iload_n hx hb dX3_init_10 rfl (lv_at hl 2 rfl) ?_
    refine c_putV (Cn := RX3) (T := TX3) (z := b) hx hb hts 7 hinX3 tyX3 tyX3_ok nmX3 hown hK hG hS x 1 hx7 (by decide) rfl (by decide) (hts (.fieldLink RX3 15 "LineEvents$Row" "from" "I") (by decide +kernel)) (Or.inr ⟨rfl, hin0, rfl⟩) (cV_I (z := b) rfl rfl) rfl rfl dX3_init_11 (fun H locs hG hS => ?_)
    refine lv_aload_n hx hb dX3_init_14 rfl (lv_at hl 0 rfl) ?_
    refine lv_iload_n hx hb dX3_init_15 rfl (lv_at hl 3 rfl) ?_
    refine c_putV (Cn := RX3) (T := TX3) (z := t) hx hb hts 7 hinX3 tyX3 tyX3_ok nmX3 hown hK hG hS x 2 hx7 (by decide) rfl (by decide) (hts (.fieldLink RX3 18 "LineEvents$Row" "to" "I") (by decide +kernel)) (Or.inr ⟨rfl, hin0, rfl⟩) (cV_I (z := t) rfl rfl) rfl rfl dX3_init_16 (fun H locs hG hS => ?_)
    refine lv_aload_n hx hb dX3_init_19 rfl (lv_at hl 0 rfl) ?_
    refine lv_iload hx hb dX3_init_20 (lv_at hl 4 rfl) ?_
    refine c_putV (Cn := RX3) (T := TX3) (z := c9) hx hb hts 7 hinX3 tyX3 tyX3_ok nmX3 hown hK hG hS x 3 hx7 (by decide) rfl (by decide) (hts (.fieldLink RX3 21 "LineEvents$Row" "cause" "I") (by decide +kernel)) (Or.inr ⟨rfl, hin0, rfl⟩) (cV_I (z := c9) rfl rfl) rfl rfl dX3_init_22 (fun H locs hG hS => ?_)
    refine lv_aload_n hx hb dX3_init_25 rfl (lv_at hl 0 rfl) ?_
    refine lv_aload hx hb dX3_init_26 (lv_at hl 5 rfl) ?_
    refine c_putV (Cn := RX3) (T := TX3) (z := e9) hx hb hts 7 hinX3 tyX3 tyX3_ok nmX3 hown hK hG hS x 4 hx7 (by decide) rfl (by decide) (hts (.fieldLink RX3 24 "LineEvents$Row" "earlier" "LLineEvents$Row;") (by decide +kernel)) (Or.inr ⟨rfl, hin0, rfl⟩) (cV_R (t := 7) (j := j9) rfl hj9) rfl rfl dX3_init_28 (fun H locs hG hS => ?_)
    exact W.vret hx hb hr (fun t ht hW => ⟨rfl, ⟨by rw [ht]; exact hG, va_K.moved hW.alike hK, fun q hq => hA q (Nat.le_trans hS.1 (by rw [← ht]; exact hq))⟩, hS.F ht⟩) hS.2.2 dX3_init_31
def cz (C : sT) (K J : Nat) : sT := fun k i f => if k = K ∧ i = J then 0 else C k i f
theorem cz_o {C : sT} {K J k i : Nat} (h : ¬ (k = K ∧ i = J)) : cz C K J k i = C k i := by funext f; unfold cz; rw [if_neg h]
theorem cz_s (C : sT) (K J : Nat) : cz C K J K J = fun _ => 0 := by funext f; unfold cz; rw [if_pos ⟨rfl, rfl⟩]
set_option maxHeartbeats 4000000 in
set_option maxRecDepth 100000 in
theorem m_X0_init (l : Launch) (D : va_G) (cI cJ : ClassId) (A : Nat → Prop) (ad : Nat → Nat → Nat) (al : Nat → Nat → Prop) (C : sT) (i : Nat) (h3 : al 3 i) (h4 : ¬ al 4 i) (hr4 : ∀ k j, al k j → ∀ f, f < cNf k → cT k f = 4 + 2 → C k j f < 0 ∨ (C k j f).toNat ≠ i) : Met l yX0_init wsX0_init ({ frames := 1, cells := 1, slots := 1000, locals := 20 }) (va_Pc [.ref (ad 3 i)] (gCU D cI cJ A ad al C)) (gO none (fun U => ∃ q, gCU D cI cJ A (adU ad 4 i q) (alU al 4 i) (su (cz (su C 3 i 0 1) 4 i) 3 i 2 (i : Int)) U) A) 1 1000 A := by
  refine Met.ofW (cc := cX0_init) (maxL := 1) (ret := none) (by decide) rfl ?_
  intro p e s m0 args below meth c s₁ B hml hv
  obtain ⟨rfl, hG, hK, hA⟩ := hv
  have hx := B.exec
  have hb := B.bytes
  have hr := B.returns
  have hts := atoms_spec (ws := wsX0_init) B.pre
  have hown : s.vm.findClass RX0 = some m0.cls := findClass_of_methodNamed B.named
  have hlocks := B.notSynchronized
  have hinX0 : ∀ w ∈ wsX00, w ∈ wsX0_init := by decide +kernel
  have hin0 : meth.name = "<init>" := (name_of_methodNamed B.named B.method).1
  have hS : va_S A s.heap s.heap [] := va_S.rf
  have hl := lv_entry ([.ref (ad 3 i)]) (n := 1) (Nat.le_of_ble_eq_true rfl)
  rw [lg_entry_eq]
  generalize (lg_sl ([.ref (ad 3 i)]) ++ List.replicate (1 - (lg_sl ([.ref (ad 3 i)])).length) Slot.unset).toArray = ls at hl ⊢
  replace hl : lv_has ls 1 [(0, .ref (ad 3 i))] := hl
  refine lv_aload_n hx hb dX0_init_0 rfl (lv_at hl 0 rfl) ?_
  refine W.objInit hx hb hown (hts (.methodLink RX0 3 objectInit) (by decide +kernel)) (hts (.instanceMethod objectInit) (by decide +kernel)) (hts (.code objectInit ⟨#[0xb1]⟩ 1 none) (by decide +kernel)) rfl (by rw [hml]; exact hl.1) rfl dX0_init_1 (Nat.le_of_ble_eq_true rfl) (Nat.le_of_ble_eq_true rfl) ?_
  refine W.eq (g2 := F0 m0 4 ls []) rfl ?_
  refine lv_aload_n hx hb dX0_init_4 rfl (lv_at hl 0 rfl) ?_
  refine lv_iconst (v := zI 1) hx hb dX0_init_5 rfl ?_
  refine c_putV (Cn := RX0) (T := TX0) (z := 1) hx hb hts 3 hinX0 tyX0 tyX0_ok nmX0 hown hK hG hS i 0 h3 (by decide) rfl (by decide) (hts (.fieldLink RX0 9 "LineEvents$Buffer" "room" "I") (by decide +kernel)) (Or.inl rfl) (cV_I (z := 1) rfl rfl) rfl rfl dX0_init_6 (fun H locs hG hS => ?_)
  refine lv_aload_n hx hb dX0_init_9 rfl (lv_at hl 0 rfl) ?_
  refine lv_sipush (v := zI 1000) hx hb dX0_init_10 (by decide) ?_
  refine c_newaI hx hb (hts (.arrayClass .int) (by decide +kernel)) hK hG hS hA 4 i 1000 (fun _ _ => rfl) (by decide) (Nat.le_of_ble_eq_true rfl) (Nat.le_of_ble_eq_true rfl) (C' := cz (su C 3 i 0 1) 4 i) h4 (fun k j hk f hf hc => by by_cases hkj : k = 3 ∧ j = i ∧ f = 0; · obtain ⟨rfl, rfl, rfl⟩ := hkj; exact absurd hc (by decide)
      rw [show su C 3 i 0 1 k j f = C k j f from if_neg hkj]; exact hr4 k j hk f hf hc) (fun k j hk => cz_o (fun q => h4 (by rw [← q.1, ← q.2]; exact hk))) (cz_s _ _ _) dX0_init_13 (fun q4 H hG hS => ?_)
  refine c_putV (ad := adU ad 4 i q4) (Cn := RX0) (T := TX0) (z := (i : Int)) (v := .ref (adU ad 4 i q4 4 i)) hx hb hts 3 hinX0 tyX0 tyX0_ok nmX0 hown hK hG hS i 2 (Or.inl h3) (by decide) rfl (by decide) (hts (.fieldLink RX0 15 "LineEvents$Buffer" "came" "[I") (by decide +kernel)) (Or.inr ⟨rfl, hin0, rfl⟩) (cV_R (t := 4) (j := i) rfl rfl) rfl rfl dX0_init_15 (fun H locs hG hS => ?_)
  exact W.vret hx hb hr (fun t ht hW => ⟨rfl, ⟨q4, ⟨by rw [ht]; exact hG, va_K.moved hW.alike hK, fun q hq => hA q (Nat.le_trans hS.1 (by rw [← ht]; exact hq))⟩⟩, hS.F ht⟩) hS.2.2 dX0_init_18
