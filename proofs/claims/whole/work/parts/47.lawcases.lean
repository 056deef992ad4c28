/-! The law's loop: what holds at its head; its cases -/
def lA0 (B : Nat) : Nat → Prop := fun q => B ≤ q
def lZ (p : Program) (l : Launch) (s : State) (m : MethodId) (c : Code) (D : va_G) (cI cJ : ClassId) (b L : Nat) (xs : Nat → Int32) : Prop :=
  p.tables.exec = Jvm.exec ∧ c.code = cL_law ∧ c.maxLocals = 8 ∧ s.vm.findClass RL = some m.cls ∧ (∀ w ∈ wsL_law, w.before #[Value.ref b] s = true) ∧ va_K D vwCl [(cI, .int), (cJ, .long)] s ∧ va_Nw (.methodLinkNest RX2 11 yX0_init "LineEvents") s ∧ tP (lA0 s.heap.size) s ∧ va_X b L xs s s.heap ∧ b < s.heap.size ∧ L ≤ 3585 ∧ l.stackTraces = false
def lI (D : va_G) (cI cJ : ClassId) (B a0 b0 o : Nat) (H : Heap) : Prop := ∃ (ad br : Nat → Nat → Nat) (S : sT) (E : Nat → Int) (rt : Int) (z : Int64), ad 0 0 = a0 ∧ br 32 0 = b0 ∧ LI S E rt ∧ lW D cI cJ (lA0 B) ad S E rt br S o z H
def lLs (b a0 b0 o : Nat) (i : Int) : List (Nat × Value) := [(4, .int (zI i)), (0, .ref b), (1, .ref a0), (2, .ref b0), (3, .ref o)]
def lK (p : Program) (l : Launch) (e : Env) (s : State) (m : MethodId) (below : List Frame) (meth : Method) (c : Code) (Q : State → Prop) (D : va_G) (cI cJ : ClassId) (b a0 b0 o i cells slots : Nat) : Prop :=
  ∀ (H1 : Heap) (locs1 : List Loc) (ls1 : Array Slot), lI D cI cJ s.heap.size a0 b0 o H1 → va_S (lA0 s.heap.size) s.heap H1 locs1 → lv_has ls1 8 (lLs b a0 b0 o ((i + 7 : Nat) : Int)) → W p l e room_1 s m #[Value.ref b] below meth c H1 locs1 (cells + 4) (slots + 1033) Q (F0 m 35 ls1 [])
theorem cAl_eq {S T : sT} (h5 : T 5 0 0 = S 5 0 0) (h15 : ∀ i, T 15 i 0 = S 15 i 0) (h20 : T 20 0 0 = S 20 0 0) : cAl T = cAl S := by
  funext k i
  unfold cAl
  split <;> first | rfl | rw [h5, h15] | rw [h5] | rw [h20]
theorem cAl_buf (S : sT) (m r d : Int) : cAl (rbufS S m r d) = cAl S := by
  refine cAl_eq ?_ (fun i => ?_) ?_ <;> (unfold rbufS; split <;> rfl)
theorem tmA_v : ∀ (n m : Nat) (S : sT) {v i j : Nat}, v ≠ 21 ∧ v ≠ 7 → rtmA n m S v i j = S v i j
  | 0, _, _, _, _, _, _ => rfl
  | n + 1, m, S, v, i, j, h => (tmA_v n (m + 1) (rtm S m) h).trans (tm_v h)
theorem inst_v {S : sT} {v i j : Nat} (h : v ∉ [6, 7, 8, 9, 10, 11, 21, 22, 23, 24, 25, 26, 27, 28, 29, 30]) : rinst S v i j = S v i j := by
  simp only [List.mem_cons, List.not_mem_nil, or_false, not_or] at h
  unfold rinst rtick
  rw [su_v (by omega), tmA_v _ _ _ (by omega)]
  exact actA_v _ _ (by simp only [List.mem_cons, List.not_mem_nil, or_false, not_or]; omega)
theorem runL_v : ∀ (n : Nat) (S : sT) {v i j : Nat}, v ∉ [6, 7, 8, 9, 10, 11, 21, 22, 23, 24, 25, 26, 27, 28, 29, 30] → rrunL n S v i j = S v i j
  | 0, _, _, _, _, _ => rfl
  | n + 1, S, v, i, j, h => (runL_v n (rinst S) h).trans (inst_v h)
theorem cAl_run (S : sT) (t : Int) : cAl (rrunS S t) = cAl S := by
  refine cAl_eq ?_ (fun i => ?_) ?_ <;> (unfold rrunS; split <;> first | rfl | (rw [runL_v _ _ (by decide)]; rfl))
section LE
variable {p : Program} {l : Launch} {e : Env} {s : State} {m : MethodId} {below : List Frame} {meth : Method} {c : Code} {H : Heap} {locs : List Loc} {cells slots : Nat} {Q : State → Prop} {ls : Array Slot} {D : va_G} {cI cJ : ClassId} {b L : Nat} {xs : Nat → Int32} {a0 b0 o i : Nat}
/-- an iteration's end -/
theorem l_end (Z : lZ p l s m c D cI cJ b L xs) (hI : lI D cI cJ s.heap.size a0 b0 o H) (hS : va_S (lA0 s.heap.size) s.heap H locs) (hl : lv_has ls 8 (lLs b a0 b0 o (i : Int))) (hi : i + 7 ≤ L) {c1 s1 : Nat} (hc : c1 ≤ cells + 4) (hs : s1 ≤ slots + 1033) (kl : lK p l e s m below meth c Q D cI cJ b a0 b0 o i cells slots) : W p l e room_1 s m #[Value.ref b] below meth c H locs c1 s1 Q (F0 m 764 ls []) := by
  obtain ⟨hx, hb, hml, hown, hts, hK, hNw, hP, hX, hbl, hL, hlt⟩ := Z
  refine W.widen hc hs ?_
  refine lv_iinc (v := zI ((i + 7 : Nat) : Int)) (lv' := lLs b a0 b0 o ((i + 7 : Nat) : Int)) hx hb dL_law_764 hl (k := 0) rfl (by rw [show zI ((i + 7 : Nat) : Int) = zI (i : Int) + zI 7 by rw [zI_add]; rfl]; rfl) (by decide) rfl (fun ls hl => ?_)
  refine lv_goto (tgt := 35) hx hb dL_law_767 (by decide) ?_
  exact kl H locs ls hI hS hl

set_option maxHeartbeats 4000000 in
theorem k_machine (Z : lZ p l s m c D cI cJ b L xs) (hI : lI D cI cJ s.heap.size a0 b0 o H) (hS : va_S (lA0 s.heap.size) s.heap H locs) (hl : lv_has ls 8 (lLs b a0 b0 o (i : Int))) (hi : i + 7 ≤ L) (hf : cells + 4 ≤ room_1.cells ∧ slots + 1033 ≤ room_1.slots) (kl : lK p l e s m below meth c Q D cI cJ b a0 b0 o i cells slots) : W p l e room_1 s m #[Value.ref b] below meth c H locs cells slots Q (F0 m 124 ls []) := by
  have Z0 := Z
  obtain ⟨hx, hb, hml, hown, hts, hK, hNw, hP, hX, hbl, hL, hlt⟩ := Z
  obtain ⟨ad, br, S, E, rt, z, rfl, rfl, hLI, hG⟩ := hI
  have hA : ∀ q, s.heap.size ≤ q → lA0 s.heap.size q := fun _ h => h
  have hbA : ¬ lA0 s.heap.size b := by unfold lA0; omega
  have hI0 := hLI.1
  obtain ⟨y1, hy1⟩ : ∃ y, (xs (i + 1)).toInt = y := ⟨_, rfl⟩
  have y1B : zB y1 := hy1 ▸ zI_B (xs (i + 1))
  obtain ⟨y2, hy2⟩ : ∃ y, (xs (i + 2)).toInt = y := ⟨_, rfl⟩
  have y2B : zB y2 := hy2 ▸ zI_B (xs (i + 2))
  have hLJ := LI_31 0 hLI
  replace hG := lW_31 0 hG
  obtain ⟨hIJ, hCJ, hBJ, hVJ, hFJ, h7J, h30J⟩ := id hLJ
  have hfr : ∀ k : Nat, (su S 31 0 0 0) 25 0 0 = 0 ∧ (su S 31 0 0 0) 5 0 0 = (k : Int) → (su S 31 0 0 0) 6 k 0 = 0 ∧ (su S 31 0 0 0) 8 k 0 = 0 ∧ (su S 31 0 0 0) 10 k 0 = 0 ∧ (su S 31 0 0 0) 11 k 0 = 0 ∧ (su S 31 0 0 0) 22 k 0 = 0 ∧ (su S 31 0 0 0) 15 k 0 = 0 ∧ (∀ q, (su S 31 0 0 0) 9 k q = 0) ∧ ∀ q, (su S 31 0 0 0) 21 k q = 0 := fun k hk => by
    have f := (hFJ hk.1).2 k
    exact ⟨f.1.1, f.1.2.1, f.1.2.2.1, f.1.2.2.2.1, f.1.2.2.2.2, f.2.2.2 (Int.le_of_eq hk.2), f.2.1, f.2.2.1⟩
  refine lv_aload_n hx hb dL_law_124 rfl (lv_at hl 2 rfl) ?_
  refine l_ra hx hb (lv_at hl 1 rfl) (lv_at hl 0 rfl) dL_law_125 dL_law_126 ?_
  refine lv_iconst (v := zI ((1 : Nat) : Int)) hx hb dL_law_128 rfl ?_
  refine l_rb hx hb hX hbl hbA hS hL (i := i) (k := 1) (by omega) (y := y1) hy1 dL_law_129 dL_law_130 ?_
  refine l_ra hx hb (lv_at hl 1 rfl) (lv_at hl 0 rfl) dL_law_131 dL_law_132 ?_
  refine lv_iconst (v := zI ((2 : Nat) : Int)) hx hb dL_law_134 rfl ?_
  refine l_rb hx hb hX hbl hbA hS hL (i := i) (k := 2) (by omega) (y := y2) hy2 dL_law_135 dL_law_136 ?_
  refine l_c (As := [.int (zI y1), .int (zI y2)]) (rest := []) (S1 := (rmachS (su S 31 0 0 0) y1 y2)) (X := fun E1 rt1 => LI (rmachS (su S 31 0 0 0) y1 y2) E1 rt1) ⟨hx, hb, hml, hown, hts⟩ (m_X4_machine l D cI cJ (lA1 (lA0 s.heap.size) br o) ad (cAl (su S 31 0 0 0)) (su S 31 0 0 0) E rt y1 y2 rfl y1B y2B hIJ hfr) (cwV 2 hts gL_law_X4_machine rfl rfl rfl (by decide +kernel) ⟨Nat.le_of_ble_eq_true rfl, Nat.le_of_ble_eq_true rfl⟩) (gCN_blind rfl) (fun U hW hU => ⟨hU, va_Nw.warmM hW hNw⟩) (fun U ⟨ad1, h0, hg⟩ => ⟨ad1, _, _, h0, LI_mach y1 y2 hLJ, hg⟩) hK hA hG hS rfl hl.1 rfl (Nat.le_of_ble_eq_true rfl) dL_law_137 ⟨by omega, by omega⟩ (fun ad1 E1 rt1 H locs h00 hL1 hG hS => ?_)
  refine lv_aload_n hx hb dL_law_140 rfl (lv_at hl 3 rfl) ?_
  refine l_ra hx hb (lv_at hl 1 rfl) (lv_at hl 0 rfl) dL_law_141 dL_law_142 ?_
  refine lv_iconst (v := zI ((1 : Nat) : Int)) hx hb dL_law_144 rfl ?_
  refine l_rb hx hb hX hbl hbA hS hL (i := i) (k := 1) (by omega) (y := y1) hy1 dL_law_145 dL_law_146 ?_
  refine l_ra hx hb (lv_at hl 1 rfl) (lv_at hl 0 rfl) dL_law_147 dL_law_148 ?_
  refine lv_iconst (v := zI ((2 : Nat) : Int)) hx hb dL_law_150 rfl ?_
  refine l_rb hx hb hX hbl hbA hS hL (i := i) (k := 2) (by omega) (y := y2) hy2 dL_law_151 dL_law_152 ?_
  refine l_r (As := [.int (zI y1), .int (zI y2)]) (rest := [.int (zI (rmachV (su S 31 0 0 0) y1 y2))]) (S1 := (rmachS (su S 31 0 0 0) y1 y2)) ⟨hx, hb, hml, hown, hts⟩ (m_X5_machine l D cI cJ (lA2 (lA0 s.heap.size) ad1 (rmachS (su S 31 0 0 0) y1 y2) o) br S y1 y2 y1B y2B hI0) (cwV 2 hts gL_law_X5_machine rfl rfl rfl (by decide +kernel) ⟨Nat.le_of_ble_eq_true rfl, Nat.le_of_ble_eq_true rfl⟩) hK hG hS rfl hl.1 rfl (Nat.le_of_ble_eq_true rfl) dL_law_153 ⟨by omega, by omega⟩ (fun H locs hG hS => ?_)
  refine lv_icmp_eq (tgt := 764) hx hb dL_law_156 (by decide) (fun _ => ?_) (fun h => absurd rfl h)
  exact l_end Z0 ⟨ad1, br, (rmachS (su S 31 0 0 0) y1 y2), E1, rt1, _, h00, rfl, hL1, hG⟩ hS hl hi (by omega) (by omega) kl
set_option maxHeartbeats 4000000 in
theorem k_buffer (Z : lZ p l s m c D cI cJ b L xs) (hI : lI D cI cJ s.heap.size a0 b0 o H) (hS : va_S (lA0 s.heap.size) s.heap H locs) (hl : lv_has ls 8 (lLs b a0 b0 o (i : Int))) (hi : i + 7 ≤ L) (hf : cells + 4 ≤ room_1.cells ∧ slots + 1033 ≤ room_1.slots) (kl : lK p l e s m below meth c Q D cI cJ b a0 b0 o i cells slots) : W p l e room_1 s m #[Value.ref b] below meth c H locs cells slots Q (F0 m 161 ls []) := by
  have Z0 := Z
  obtain ⟨hx, hb, hml, hown, hts, hK, hNw, hP, hX, hbl, hL, hlt⟩ := Z
  obtain ⟨ad, br, S, E, rt, z, rfl, rfl, hLI, hG⟩ := hI
  have hA : ∀ q, s.heap.size ≤ q → lA0 s.heap.size q := fun _ h => h
  have hbA : ¬ lA0 s.heap.size b := by unfold lA0; omega
  have hI0 := hLI.1
  obtain ⟨y1, hy1⟩ : ∃ y, (xs (i + 1)).toInt = y := ⟨_, rfl⟩
  have y1B : zB y1 := hy1 ▸ zI_B (xs (i + 1))
  obtain ⟨y2, hy2⟩ : ∃ y, (xs (i + 2)).toInt = y := ⟨_, rfl⟩
  have y2B : zB y2 := hy2 ▸ zI_B (xs (i + 2))
  obtain ⟨y3, hy3⟩ : ∃ y, (xs (i + 3)).toInt = y := ⟨_, rfl⟩
  have y3B : zB y3 := hy3 ▸ zI_B (xs (i + 3))
  have hLJ := LI_31 0 hLI
  replace hG := lW_31 0 hG
  obtain ⟨hIJ, hCJ, hBJ, hVJ, hFJ, h7J, h30J⟩ := id hLJ
  refine lv_aload_n hx hb dL_law_161 rfl (lv_at hl 2 rfl) ?_
  refine l_ra hx hb (lv_at hl 1 rfl) (lv_at hl 0 rfl) dL_law_162 dL_law_163 ?_
  refine lv_iconst (v := zI ((1 : Nat) : Int)) hx hb dL_law_165 rfl ?_
  refine l_rb hx hb hX hbl hbA hS hL (i := i) (k := 1) (by omega) (y := y1) hy1 dL_law_166 dL_law_167 ?_
  refine l_ra hx hb (lv_at hl 1 rfl) (lv_at hl 0 rfl) dL_law_168 dL_law_169 ?_
  refine lv_iconst (v := zI ((2 : Nat) : Int)) hx hb dL_law_171 rfl ?_
  refine l_rb hx hb hX hbl hbA hS hL (i := i) (k := 2) (by omega) (y := y2) hy2 dL_law_172 dL_law_173 ?_
  refine l_ra hx hb (lv_at hl 1 rfl) (lv_at hl 0 rfl) dL_law_174 dL_law_175 ?_
  refine lv_iconst (v := zI ((3 : Nat) : Int)) hx hb dL_law_177 rfl ?_
  refine l_rb hx hb hX hbl hbA hS hL (i := i) (k := 3) (by omega) (y := y3) hy3 dL_law_178 dL_law_179 ?_
  refine l_c (As := [.int (zI y1), .int (zI y2), .int (zI y3)]) (rest := []) (S1 := (rbufS (su S 31 0 0 0) y1 y2 y3)) (X := fun E1 rt1 => LI (rbufS (su S 31 0 0 0) y1 y2 y3) E1 rt1) ⟨hx, hb, hml, hown, hts⟩ (m_X4_buffer l D cI cJ (lA1 (lA0 s.heap.size) br o) ad (cAl (su S 31 0 0 0)) (su S 31 0 0 0) E rt (fun _ _ h => h) y1 y2 y3 y1B y2B y3B hIJ) (cwV 3 hts gL_law_X4_buffer rfl rfl rfl (by decide +kernel) ⟨Nat.le_of_ble_eq_true rfl, Nat.le_of_ble_eq_true rfl⟩) gCU_blind (fun U hW hU => hU) (fun U hU => ⟨ad, E, rt, rfl, LI_buf y1 y2 y3 hLJ, by rw [cAl_buf]; exact hU⟩) hK hA hG hS rfl hl.1 rfl (Nat.le_of_ble_eq_true rfl) dL_law_180 ⟨by omega, by omega⟩ (fun ad1 E1 rt1 H locs h00 hL1 hG hS => ?_)
  refine lv_aload_n hx hb dL_law_183 rfl (lv_at hl 3 rfl) ?_
  refine l_ra hx hb (lv_at hl 1 rfl) (lv_at hl 0 rfl) dL_law_184 dL_law_185 ?_
  refine lv_iconst (v := zI ((1 : Nat) : Int)) hx hb dL_law_187 rfl ?_
  refine l_rb hx hb hX hbl hbA hS hL (i := i) (k := 1) (by omega) (y := y1) hy1 dL_law_188 dL_law_189 ?_
  refine l_ra hx hb (lv_at hl 1 rfl) (lv_at hl 0 rfl) dL_law_190 dL_law_191 ?_
  refine lv_iconst (v := zI ((2 : Nat) : Int)) hx hb dL_law_193 rfl ?_
  refine l_rb hx hb hX hbl hbA hS hL (i := i) (k := 2) (by omega) (y := y2) hy2 dL_law_194 dL_law_195 ?_
  refine l_ra hx hb (lv_at hl 1 rfl) (lv_at hl 0 rfl) dL_law_196 dL_law_197 ?_
  refine lv_iconst (v := zI ((3 : Nat) : Int)) hx hb dL_law_199 rfl ?_
  refine l_rb hx hb hX hbl hbA hS hL (i := i) (k := 3) (by omega) (y := y3) hy3 dL_law_200 dL_law_201 ?_
  refine l_r (As := [.int (zI y1), .int (zI y2), .int (zI y3)]) (rest := [.int (zI (rbufV (su S 31 0 0 0) y1 y2 y3))]) (S1 := (rbufS (su S 31 0 0 0) y1 y2 y3)) ⟨hx, hb, hml, hown, hts⟩ (m_X5_buffer l D cI cJ (lA2 (lA0 s.heap.size) ad1 (rbufS (su S 31 0 0 0) y1 y2 y3) o) br S y1 y2 y3 y1B y2B y3B hI0) (cwV 3 hts gL_law_X5_buffer rfl rfl rfl (by decide +kernel) ⟨Nat.le_of_ble_eq_true rfl, Nat.le_of_ble_eq_true rfl⟩) hK hG hS rfl hl.1 rfl (Nat.le_of_ble_eq_true rfl) dL_law_202 ⟨by omega, by omega⟩ (fun H locs hG hS => ?_)
  refine lv_icmp_eq (tgt := 764) hx hb dL_law_205 (by decide) (fun _ => ?_) (fun h => absurd rfl h)
  exact l_end Z0 ⟨ad1, br, (rbufS (su S 31 0 0 0) y1 y2 y3), E1, rt1, _, h00, rfl, hL1, hG⟩ hS hl hi (by omega) (by omega) kl
set_option maxHeartbeats 4000000 in
theorem k_fault (Z : lZ p l s m c D cI cJ b L xs) (hI : lI D cI cJ s.heap.size a0 b0 o H) (hS : va_S (lA0 s.heap.size) s.heap H locs) (hl : lv_has ls 8 (lLs b a0 b0 o (i : Int))) (hi : i + 7 ≤ L) (hf : cells + 4 ≤ room_1.cells ∧ slots + 1033 ≤ room_1.slots) (kl : lK p l e s m below meth c Q D cI cJ b a0 b0 o i cells slots) : W p l e room_1 s m #[Value.ref b] below meth c H locs cells slots Q (F0 m 210 ls []) := by
  have Z0 := Z
  obtain ⟨hx, hb, hml, hown, hts, hK, hNw, hP, hX, hbl, hL, hlt⟩ := Z
  obtain ⟨ad, br, S, E, rt, z, rfl, rfl, hLI, hG⟩ := hI
  have hA : ∀ q, s.heap.size ≤ q → lA0 s.heap.size q := fun _ h => h
  have hbA : ¬ lA0 s.heap.size b := by unfold lA0; omega
  have hI0 := hLI.1
  obtain ⟨y1, hy1⟩ : ∃ y, (xs (i + 1)).toInt = y := ⟨_, rfl⟩
  have y1B : zB y1 := hy1 ▸ zI_B (xs (i + 1))
  obtain ⟨y2, hy2⟩ : ∃ y, (xs (i + 2)).toInt = y := ⟨_, rfl⟩
  have y2B : zB y2 := hy2 ▸ zI_B (xs (i + 2))
  obtain ⟨y3, hy3⟩ : ∃ y, (xs (i + 3)).toInt = y := ⟨_, rfl⟩
  have y3B : zB y3 := hy3 ▸ zI_B (xs (i + 3))
  obtain ⟨y4, hy4⟩ : ∃ y, (xs (i + 4)).toInt = y := ⟨_, rfl⟩
  have y4B : zB y4 := hy4 ▸ zI_B (xs (i + 4))
  obtain ⟨y5, hy5⟩ : ∃ y, (xs (i + 5)).toInt = y := ⟨_, rfl⟩
  have y5B : zB y5 := hy5 ▸ zI_B (xs (i + 5))
  obtain ⟨y6, hy6⟩ : ∃ y, (xs (i + 6)).toInt = y := ⟨_, rfl⟩
  have y6B : zB y6 := hy6 ▸ zI_B (xs (i + 6))
  have hLJ := LI_31 0 hLI
  replace hG := lW_31 0 hG
  obtain ⟨hIJ, hCJ, hBJ, hVJ, hFJ, h7J, h30J⟩ := id hLJ
  obtain ⟨ab, hab, habC⟩ : ∃ ab : Int, (zL y2 <<< ((zI 32).toInt64 &&& 63)) ||| (zL y3 &&& zL 4294967295) = zL ab ∧ zC ab := ⟨_, (zL_of _).symm, zL_C _⟩
  obtain ⟨be, hbe, hbeC⟩ : ∃ be : Int, (zL y4 <<< ((zI 32).toInt64 &&& 63)) ||| (zL y5 &&& zL 4294967295) = zL be ∧ zC be := ⟨_, (zL_of _).symm, zL_C _⟩
  refine lv_aload_n hx hb dL_law_210 rfl (lv_at hl 2 rfl) ?_
  refine l_ra hx hb (lv_at hl 1 rfl) (lv_at hl 0 rfl) dL_law_211 dL_law_212 ?_
  refine lv_iconst (v := zI ((1 : Nat) : Int)) hx hb dL_law_214 rfl ?_
  refine l_rb hx hb hX hbl hbA hS hL (i := i) (k := 1) (by omega) (y := y1) hy1 dL_law_215 dL_law_216 ?_
  refine l_ra hx hb (lv_at hl 1 rfl) (lv_at hl 0 rfl) dL_law_217 dL_law_218 ?_
  refine lv_iconst (v := zI ((2 : Nat) : Int)) hx hb dL_law_220 rfl ?_
  refine l_rb hx hb hX hbl hbA hS hL (i := i) (k := 2) (by omega) (y := y2) hy2 dL_law_221 dL_law_222 ?_
  refine z_i2l hx hb dL_law_223 y2B ?_
  refine lv_bipush (v := zI 32) hx hb dL_law_224 (by decide) ?_
  refine lv_lshl hx hb dL_law_226 rfl ?_
  refine l_ra hx hb (lv_at hl 1 rfl) (lv_at hl 0 rfl) dL_law_227 dL_law_228 ?_
  refine lv_iconst (v := zI ((3 : Nat) : Int)) hx hb dL_law_230 rfl ?_
  refine l_rb hx hb hX hbl hbA hS hL (i := i) (k := 3) (by omega) (y := y3) hy3 dL_law_231 dL_law_232 ?_
  refine z_i2l hx hb dL_law_233 y3B ?_
  refine z_ldc2 (z := 4294967295) hx hb hown (hts (.constantLong RL 44 (4294967295)) (by decide +kernel)) (by decide) dL_law_234 ?_
  refine lv_land hx hb dL_law_237 ?_
  refine lv_lor hx hb dL_law_238 ?_
  rw [hab]
  refine l_ra hx hb (lv_at hl 1 rfl) (lv_at hl 0 rfl) dL_law_239 dL_law_240 ?_
  refine lv_iconst (v := zI ((4 : Nat) : Int)) hx hb dL_law_242 rfl ?_
  refine l_rb hx hb hX hbl hbA hS hL (i := i) (k := 4) (by omega) (y := y4) hy4 dL_law_243 dL_law_244 ?_
  refine z_i2l hx hb dL_law_245 y4B ?_
  refine lv_bipush (v := zI 32) hx hb dL_law_246 (by decide) ?_
  refine lv_lshl hx hb dL_law_248 rfl ?_
  refine l_ra hx hb (lv_at hl 1 rfl) (lv_at hl 0 rfl) dL_law_249 dL_law_250 ?_
  refine lv_iconst (v := zI ((5 : Nat) : Int)) hx hb dL_law_252 rfl ?_
  refine l_rb hx hb hX hbl hbA hS hL (i := i) (k := 5) (by omega) (y := y5) hy5 dL_law_253 dL_law_254 ?_
  refine z_i2l hx hb dL_law_255 y5B ?_
  refine z_ldc2 (z := 4294967295) hx hb hown (hts (.constantLong RL 44 (4294967295)) (by decide +kernel)) (by decide) dL_law_256 ?_
  refine lv_land hx hb dL_law_259 ?_
  refine lv_lor hx hb dL_law_260 ?_
  rw [hbe]
  refine l_ra hx hb (lv_at hl 1 rfl) (lv_at hl 0 rfl) dL_law_261 dL_law_262 ?_
  refine lv_bipush (v := zI ((6 : Nat) : Int)) hx hb dL_law_264 (by decide) ?_
  refine l_rb hx hb hX hbl hbA hS hL (i := i) (k := 6) (by omega) (y := y6) hy6 dL_law_266 dL_law_267 ?_
  refine l_c (As := [.int (zI y1), .long (zL ab), .long (zL be), .int (zI y6)]) (rest := []) (S1 := (rfaultS (su S 31 0 0 0) y1 ab be y6)) (X := fun E1 rt1 => LI (rfaultS (su S 31 0 0 0) y1 ab be y6) E1 rt1) ⟨hx, hb, hml, hown, hts⟩ (m_X4_fault l D cI cJ (lA1 (lA0 s.heap.size) br o) ad (cAl (su S 31 0 0 0)) (su S 31 0 0 0) E rt y1 ab be y6 rfl y1B habC hbeC y6B hIJ) (cwV 4 hts gL_law_X4_fault rfl rfl rfl (by decide +kernel) ⟨Nat.le_of_ble_eq_true rfl, Nat.le_of_ble_eq_true rfl⟩) gCU_blind (fun U hW hU => hU) (fun U ⟨ad1, h0, hg⟩ => ⟨ad1, _, _, h0, LI_fault y1 ab be y6 hLJ, hg⟩) hK hA hG hS rfl hl.1 rfl (Nat.le_of_ble_eq_true rfl) dL_law_268 ⟨by omega, by omega⟩ (fun ad1 E1 rt1 H locs h00 hL1 hG hS => ?_)
  refine lv_aload_n hx hb dL_law_271 rfl (lv_at hl 3 rfl) ?_
  refine l_ra hx hb (lv_at hl 1 rfl) (lv_at hl 0 rfl) dL_law_272 dL_law_273 ?_
  refine lv_iconst (v := zI ((1 : Nat) : Int)) hx hb dL_law_275 rfl ?_
  refine l_rb hx hb hX hbl hbA hS hL (i := i) (k := 1) (by omega) (y := y1) hy1 dL_law_276 dL_law_277 ?_
  refine l_ra hx hb (lv_at hl 1 rfl) (lv_at hl 0 rfl) dL_law_278 dL_law_279 ?_
  refine lv_iconst (v := zI ((2 : Nat) : Int)) hx hb dL_law_281 rfl ?_
  refine l_rb hx hb hX hbl hbA hS hL (i := i) (k := 2) (by omega) (y := y2) hy2 dL_law_282 dL_law_283 ?_
  refine z_i2l hx hb dL_law_284 y2B ?_
  refine lv_bipush (v := zI 32) hx hb dL_law_285 (by decide) ?_
  refine lv_lshl hx hb dL_law_287 rfl ?_
  refine l_ra hx hb (lv_at hl 1 rfl) (lv_at hl 0 rfl) dL_law_288 dL_law_289 ?_
  refine lv_iconst (v := zI ((3 : Nat) : Int)) hx hb dL_law_291 rfl ?_
  refine l_rb hx hb hX hbl hbA hS hL (i := i) (k := 3) (by omega) (y := y3) hy3 dL_law_292 dL_law_293 ?_
  refine z_i2l hx hb dL_law_294 y3B ?_
  refine z_ldc2 (z := 4294967295) hx hb hown (hts (.constantLong RL 44 (4294967295)) (by decide +kernel)) (by decide) dL_law_295 ?_
  refine lv_land hx hb dL_law_298 ?_
  refine lv_lor hx hb dL_law_299 ?_
  rw [hab]
  refine l_ra hx hb (lv_at hl 1 rfl) (lv_at hl 0 rfl) dL_law_300 dL_law_301 ?_
  refine lv_iconst (v := zI ((4 : Nat) : Int)) hx hb dL_law_303 rfl ?_
  refine l_rb hx hb hX hbl hbA hS hL (i := i) (k := 4) (by omega) (y := y4) hy4 dL_law_304 dL_law_305 ?_
  refine z_i2l hx hb dL_law_306 y4B ?_
  refine lv_bipush (v := zI 32) hx hb dL_law_307 (by decide) ?_
  refine lv_lshl hx hb dL_law_309 rfl ?_
  refine l_ra hx hb (lv_at hl 1 rfl) (lv_at hl 0 rfl) dL_law_310 dL_law_311 ?_
  refine lv_iconst (v := zI ((5 : Nat) : Int)) hx hb dL_law_313 rfl ?_
  refine l_rb hx hb hX hbl hbA hS hL (i := i) (k := 5) (by omega) (y := y5) hy5 dL_law_314 dL_law_315 ?_
  refine z_i2l hx hb dL_law_316 y5B ?_
  refine z_ldc2 (z := 4294967295) hx hb hown (hts (.constantLong RL 44 (4294967295)) (by decide +kernel)) (by decide) dL_law_317 ?_
  refine lv_land hx hb dL_law_320 ?_
  refine lv_lor hx hb dL_law_321 ?_
  rw [hbe]
  refine l_ra hx hb (lv_at hl 1 rfl) (lv_at hl 0 rfl) dL_law_322 dL_law_323 ?_
  refine lv_bipush (v := zI ((6 : Nat) : Int)) hx hb dL_law_325 (by decide) ?_
  refine l_rb hx hb hX hbl hbA hS hL (i := i) (k := 6) (by omega) (y := y6) hy6 dL_law_327 dL_law_328 ?_
  refine l_r (As := [.int (zI y1), .long (zL ab), .long (zL be), .int (zI y6)]) (rest := [.int (zI (bZ ((su S 31 0 0 0) 25 0 0 ≤ 0 ∧ (0 ≤ y1 ∧ y1 < (su S 31 0 0 0) 5 0 0) ∧ (1 ≤ be ∧ be ≤ 1000000) ∧ (0 ≤ ab ∧ ab ≤ be) ∧ (0 ≤ y6 ∧ y6 ≤ 100000) ∧ ¬ (su S 31 0 0 0) 15 y1.toNat 0 = 4)))]) (S1 := (rfaultS (su S 31 0 0 0) y1 ab be y6)) ⟨hx, hb, hml, hown, hts⟩ (m_X5_fault l D cI cJ (lA2 (lA0 s.heap.size) ad1 (rfaultS (su S 31 0 0 0) y1 ab be y6) o) br S y1 ab be y6 y1B habC hbeC y6B hI0) (cwV 4 hts gL_law_X5_fault rfl rfl rfl (by decide +kernel) ⟨Nat.le_of_ble_eq_true rfl, Nat.le_of_ble_eq_true rfl⟩) hK hG hS rfl hl.1 rfl (Nat.le_of_ble_eq_true rfl) dL_law_329 ⟨by omega, by omega⟩ (fun H locs hG hS => ?_)
  refine lv_icmp_eq (tgt := 764) hx hb dL_law_332 (by decide) (fun _ => ?_) (fun h => absurd rfl h)
  exact l_end Z0 ⟨ad1, br, (rfaultS (su S 31 0 0 0) y1 ab be y6), E1, rt1, _, h00, rfl, hL1, hG⟩ hS hl hi (by omega) (by omega) kl
set_option maxHeartbeats 4000000 in
theorem k_row (Z : lZ p l s m c D cI cJ b L xs) (hI : lI D cI cJ s.heap.size a0 b0 o H) (hS : va_S (lA0 s.heap.size) s.heap H locs) (hl : lv_has ls 8 (lLs b a0 b0 o (i : Int))) (hi : i + 7 ≤ L) (hf : cells + 4 ≤ room_1.cells ∧ slots + 1033 ≤ room_1.slots) (kl : lK p l e s m below meth c Q D cI cJ b a0 b0 o i cells slots) : W p l e room_1 s m #[Value.ref b] below meth c H locs cells slots Q (F0 m 337 ls []) := by
  have Z0 := Z
  obtain ⟨hx, hb, hml, hown, hts, hK, hNw, hP, hX, hbl, hL, hlt⟩ := Z
  obtain ⟨ad, br, S, E, rt, z, rfl, rfl, hLI, hG⟩ := hI
  have hA : ∀ q, s.heap.size ≤ q → lA0 s.heap.size q := fun _ h => h
  have hbA : ¬ lA0 s.heap.size b := by unfold lA0; omega
  have hI0 := hLI.1
  obtain ⟨y1, hy1⟩ : ∃ y, (xs (i + 1)).toInt = y := ⟨_, rfl⟩
  have y1B : zB y1 := hy1 ▸ zI_B (xs (i + 1))
  obtain ⟨y2, hy2⟩ : ∃ y, (xs (i + 2)).toInt = y := ⟨_, rfl⟩
  have y2B : zB y2 := hy2 ▸ zI_B (xs (i + 2))
  obtain ⟨y3, hy3⟩ : ∃ y, (xs (i + 3)).toInt = y := ⟨_, rfl⟩
  have y3B : zB y3 := hy3 ▸ zI_B (xs (i + 3))
  obtain ⟨y4, hy4⟩ : ∃ y, (xs (i + 4)).toInt = y := ⟨_, rfl⟩
  have y4B : zB y4 := hy4 ▸ zI_B (xs (i + 4))
  have hLJ := LI_31 0 hLI
  replace hG := lW_31 0 hG
  obtain ⟨hIJ, hCJ, hBJ, hVJ, hFJ, h7J, h30J⟩ := id hLJ
  refine lv_aload_n hx hb dL_law_337 rfl (lv_at hl 2 rfl) ?_
  refine l_ra hx hb (lv_at hl 1 rfl) (lv_at hl 0 rfl) dL_law_338 dL_law_339 ?_
  refine lv_iconst (v := zI ((1 : Nat) : Int)) hx hb dL_law_341 rfl ?_
  refine l_rb hx hb hX hbl hbA hS hL (i := i) (k := 1) (by omega) (y := y1) hy1 dL_law_342 dL_law_343 ?_
  refine l_ra hx hb (lv_at hl 1 rfl) (lv_at hl 0 rfl) dL_law_344 dL_law_345 ?_
  refine lv_iconst (v := zI ((2 : Nat) : Int)) hx hb dL_law_347 rfl ?_
  refine l_rb hx hb hX hbl hbA hS hL (i := i) (k := 2) (by omega) (y := y2) hy2 dL_law_348 dL_law_349 ?_
  refine l_ra hx hb (lv_at hl 1 rfl) (lv_at hl 0 rfl) dL_law_350 dL_law_351 ?_
  refine lv_iconst (v := zI ((3 : Nat) : Int)) hx hb dL_law_353 rfl ?_
  refine l_rb hx hb hX hbl hbA hS hL (i := i) (k := 3) (by omega) (y := y3) hy3 dL_law_354 dL_law_355 ?_
  refine l_ra hx hb (lv_at hl 1 rfl) (lv_at hl 0 rfl) dL_law_356 dL_law_357 ?_
  refine lv_iconst (v := zI ((4 : Nat) : Int)) hx hb dL_law_359 rfl ?_
  refine l_rb hx hb hX hbl hbA hS hL (i := i) (k := 4) (by omega) (y := y4) hy4 dL_law_360 dL_law_361 ?_
  refine l_c (As := [.int (zI y1), .int (zI y2), .int (zI y3), .int (zI y4)]) (rest := []) (S1 := (rrowS (su S 31 0 0 0) y1 y2 y3 y4)) (X := fun E1 rt1 => LI (rrowS (su S 31 0 0 0) y1 y2 y3 y4) E1 rt1) ⟨hx, hb, hml, hown, hts⟩ (m_X4_row l D cI cJ (lA1 (lA0 s.heap.size) br o) ad (cAl (su S 31 0 0 0)) (su S 31 0 0 0) E rt y1 y2 y3 y4 rfl y1B y2B y3B y4B hIJ) (cwV 4 hts gL_law_X4_row rfl rfl rfl (by decide +kernel) ⟨Nat.le_of_ble_eq_true rfl, Nat.le_of_ble_eq_true rfl⟩) gCU_blind (fun U hW hU => hU) (fun U ⟨ad1, h0, hg⟩ => ⟨ad1, _, _, h0, LI_row y1 y2 y3 y4 hLJ, hg⟩) hK hA hG hS rfl hl.1 rfl (Nat.le_of_ble_eq_true rfl) dL_law_362 ⟨by omega, by omega⟩ (fun ad1 E1 rt1 H locs h00 hL1 hG hS => ?_)
  refine lv_aload_n hx hb dL_law_365 rfl (lv_at hl 3 rfl) ?_
  refine l_ra hx hb (lv_at hl 1 rfl) (lv_at hl 0 rfl) dL_law_366 dL_law_367 ?_
  refine lv_iconst (v := zI ((1 : Nat) : Int)) hx hb dL_law_369 rfl ?_
  refine l_rb hx hb hX hbl hbA hS hL (i := i) (k := 1) (by omega) (y := y1) hy1 dL_law_370 dL_law_371 ?_
  refine l_ra hx hb (lv_at hl 1 rfl) (lv_at hl 0 rfl) dL_law_372 dL_law_373 ?_
  refine lv_iconst (v := zI ((2 : Nat) : Int)) hx hb dL_law_375 rfl ?_
  refine l_rb hx hb hX hbl hbA hS hL (i := i) (k := 2) (by omega) (y := y2) hy2 dL_law_376 dL_law_377 ?_
  refine l_ra hx hb (lv_at hl 1 rfl) (lv_at hl 0 rfl) dL_law_378 dL_law_379 ?_
  refine lv_iconst (v := zI ((3 : Nat) : Int)) hx hb dL_law_381 rfl ?_
  refine l_rb hx hb hX hbl hbA hS hL (i := i) (k := 3) (by omega) (y := y3) hy3 dL_law_382 dL_law_383 ?_
  refine l_ra hx hb (lv_at hl 1 rfl) (lv_at hl 0 rfl) dL_law_384 dL_law_385 ?_
  refine lv_iconst (v := zI ((4 : Nat) : Int)) hx hb dL_law_387 rfl ?_
  refine l_rb hx hb hX hbl hbA hS hL (i := i) (k := 4) (by omega) (y := y4) hy4 dL_law_388 dL_law_389 ?_
  refine l_r (As := [.int (zI y1), .int (zI y2), .int (zI y3), .int (zI y4)]) (rest := [.int (zI (bZ (((0 ≤ y1 ∧ y1 < (su S 31 0 0 0) 5 0 0) ∧ 4 ≤ y4 ∧ y4 ≤ 9) ∧ ((su S 31 0 0 0) 25 0 0 ≤ y2 ∧ y2 < y3 ∧ y3 ≤ 1000000000 ∧ ¬ (su S 31 0 0 0) 20 0 0 = 64))))]) (S1 := (rrowS (su S 31 0 0 0) y1 y2 y3 y4)) ⟨hx, hb, hml, hown, hts⟩ (m_X5_row l D cI cJ (lA2 (lA0 s.heap.size) ad1 (rrowS (su S 31 0 0 0) y1 y2 y3 y4) o) br S y1 y2 y3 y4 y1B y2B y3B y4B hI0) (cwV 4 hts gL_law_X5_row rfl rfl rfl (by decide +kernel) ⟨Nat.le_of_ble_eq_true rfl, Nat.le_of_ble_eq_true rfl⟩) hK hG hS rfl hl.1 rfl (Nat.le_of_ble_eq_true rfl) dL_law_390 ⟨by omega, by omega⟩ (fun H locs hG hS => ?_)
  refine lv_icmp_eq (tgt := 764) hx hb dL_law_393 (by decide) (fun _ => ?_) (fun h => absurd rfl h)
  exact l_end Z0 ⟨ad1, br, (rrowS (su S 31 0 0 0) y1 y2 y3 y4), E1, rt1, _, h00, rfl, hL1, hG⟩ hS hl hi (by omega) (by omega) kl
set_option maxHeartbeats 4000000 in
theorem k_change (Z : lZ p l s m c D cI cJ b L xs) (hI : lI D cI cJ s.heap.size a0 b0 o H) (hS : va_S (lA0 s.heap.size) s.heap H locs) (hl : lv_has ls 8 (lLs b a0 b0 o (i : Int))) (hi : i + 7 ≤ L) (hf : cells + 4 ≤ room_1.cells ∧ slots + 1033 ≤ room_1.slots) (kl : lK p l e s m below meth c Q D cI cJ b a0 b0 o i cells slots) : W p l e room_1 s m #[Value.ref b] below meth c H locs cells slots Q (F0 m 610 ls []) := by
  have Z0 := Z
  obtain ⟨hx, hb, hml, hown, hts, hK, hNw, hP, hX, hbl, hL, hlt⟩ := Z
  obtain ⟨ad, br, S, E, rt, z, rfl, rfl, hLI, hG⟩ := hI
  have hA : ∀ q, s.heap.size ≤ q → lA0 s.heap.size q := fun _ h => h
  have hbA : ¬ lA0 s.heap.size b := by unfold lA0; omega
  have hI0 := hLI.1
  obtain ⟨y1, hy1⟩ : ∃ y, (xs (i + 1)).toInt = y := ⟨_, rfl⟩
  have y1B : zB y1 := hy1 ▸ zI_B (xs (i + 1))
  obtain ⟨y2, hy2⟩ : ∃ y, (xs (i + 2)).toInt = y := ⟨_, rfl⟩
  have y2B : zB y2 := hy2 ▸ zI_B (xs (i + 2))
  have hLJ := LI_31 0 hLI
  replace hG := lW_31 0 hG
  obtain ⟨hIJ, hCJ, hBJ, hVJ, hFJ, h7J, h30J⟩ := id hLJ
  refine lv_aload_n hx hb dL_law_610 rfl (lv_at hl 2 rfl) ?_
  refine l_ra hx hb (lv_at hl 1 rfl) (lv_at hl 0 rfl) dL_law_611 dL_law_612 ?_
  refine lv_iconst (v := zI ((1 : Nat) : Int)) hx hb dL_law_614 rfl ?_
  refine l_rb hx hb hX hbl hbA hS hL (i := i) (k := 1) (by omega) (y := y1) hy1 dL_law_615 dL_law_616 ?_
  refine l_ra hx hb (lv_at hl 1 rfl) (lv_at hl 0 rfl) dL_law_617 dL_law_618 ?_
  refine lv_iconst (v := zI ((2 : Nat) : Int)) hx hb dL_law_620 rfl ?_
  refine l_rb hx hb hX hbl hbA hS hL (i := i) (k := 2) (by omega) (y := y2) hy2 dL_law_621 dL_law_622 ?_
  refine l_c (As := [.int (zI y1), .int (zI y2)]) (rest := []) (S1 := (rchangeS (su S 31 0 0 0) y1 y2)) (X := fun E1 rt1 => LI (rchangeS (su S 31 0 0 0) y1 y2) E1 rt1) ⟨hx, hb, hml, hown, hts⟩ (m_X4_change l D cI cJ (lA1 (lA0 s.heap.size) br o) ad (cAl (su S 31 0 0 0)) (su S 31 0 0 0) E rt y1 y2 rfl y1B y2B hIJ) (cwV 2 hts gL_law_X4_change rfl rfl rfl (by decide +kernel) ⟨Nat.le_of_ble_eq_true rfl, Nat.le_of_ble_eq_true rfl⟩) gCU_blind (fun U hW hU => hU) (fun U ⟨ad1, h0, hg⟩ => ⟨ad1, _, _, h0, LI_change y1 y2 hLJ, hg⟩) hK hA hG hS rfl hl.1 rfl (Nat.le_of_ble_eq_true rfl) dL_law_623 ⟨by omega, by omega⟩ (fun ad1 E1 rt1 H locs h00 hL1 hG hS => ?_)
  refine lv_aload_n hx hb dL_law_626 rfl (lv_at hl 3 rfl) ?_
  refine l_ra hx hb (lv_at hl 1 rfl) (lv_at hl 0 rfl) dL_law_627 dL_law_628 ?_
  refine lv_iconst (v := zI ((1 : Nat) : Int)) hx hb dL_law_630 rfl ?_
  refine l_rb hx hb hX hbl hbA hS hL (i := i) (k := 1) (by omega) (y := y1) hy1 dL_law_631 dL_law_632 ?_
  refine l_ra hx hb (lv_at hl 1 rfl) (lv_at hl 0 rfl) dL_law_633 dL_law_634 ?_
  refine lv_iconst (v := zI ((2 : Nat) : Int)) hx hb dL_law_636 rfl ?_
  refine l_rb hx hb hX hbl hbA hS hL (i := i) (k := 2) (by omega) (y := y2) hy2 dL_law_637 dL_law_638 ?_
  refine l_r (As := [.int (zI y1), .int (zI y2)]) (rest := [.int (zI (bZ ((1 ≤ y2 ∧ y2 ≤ 1000000) ∧ ((su S 31 0 0 0) 25 0 0 ≤ y1 ∧ y1 < (y1 + y2) ∧ (y1 + y2) ≤ 1000000000 ∧ ¬ (su S 31 0 0 0) 20 0 0 = 64))))]) (S1 := (rchangeS (su S 31 0 0 0) y1 y2)) ⟨hx, hb, hml, hown, hts⟩ (m_X5_change l D cI cJ (lA2 (lA0 s.heap.size) ad1 (rchangeS (su S 31 0 0 0) y1 y2) o) br S y1 y2 y1B y2B hI0) (cwV 2 hts gL_law_X5_change rfl rfl rfl (by decide +kernel) ⟨Nat.le_of_ble_eq_true rfl, Nat.le_of_ble_eq_true rfl⟩) hK hG hS rfl hl.1 rfl (Nat.le_of_ble_eq_true rfl) dL_law_639 ⟨by omega, by omega⟩ (fun H locs hG hS => ?_)
  refine lv_icmp_eq (tgt := 764) hx hb dL_law_642 (by decide) (fun _ => ?_) (fun h => absurd rfl h)
  exact l_end Z0 ⟨ad1, br, (rchangeS (su S 31 0 0 0) y1 y2), E1, rt1, _, h00, rfl, hL1, hG⟩ hS hl hi (by omega) (by omega) kl
set_option maxHeartbeats 4000000 in
theorem k_rest (Z : lZ p l s m c D cI cJ b L xs) (hI : lI D cI cJ s.heap.size a0 b0 o H) (hS : va_S (lA0 s.heap.size) s.heap H locs) (hl : lv_has ls 8 (lLs b a0 b0 o (i : Int))) (hi : i + 7 ≤ L) (hf : cells + 4 ≤ room_1.cells ∧ slots + 1033 ≤ room_1.slots) (kl : lK p l e s m below meth c Q D cI cJ b a0 b0 o i cells slots) : W p l e room_1 s m #[Value.ref b] below meth c H locs cells slots Q (F0 m 647 ls []) := by
  have Z0 := Z
  obtain ⟨hx, hb, hml, hown, hts, hK, hNw, hP, hX, hbl, hL, hlt⟩ := Z
  obtain ⟨ad, br, S, E, rt, z, rfl, rfl, hLI, hG⟩ := hI
  have hA : ∀ q, s.heap.size ≤ q → lA0 s.heap.size q := fun _ h => h
  have hbA : ¬ lA0 s.heap.size b := by unfold lA0; omega
  have hI0 := hLI.1
  obtain ⟨y1, hy1⟩ : ∃ y, (xs (i + 1)).toInt = y := ⟨_, rfl⟩
  have y1B : zB y1 := hy1 ▸ zI_B (xs (i + 1))
  obtain ⟨y2, hy2⟩ : ∃ y, (xs (i + 2)).toInt = y := ⟨_, rfl⟩
  have y2B : zB y2 := hy2 ▸ zI_B (xs (i + 2))
  have hLJ := LI_31 0 hLI
  replace hG := lW_31 0 hG
  obtain ⟨hIJ, hCJ, hBJ, hVJ, hFJ, h7J, h30J⟩ := id hLJ
  refine lv_aload_n hx hb dL_law_647 rfl (lv_at hl 2 rfl) ?_
  refine l_ra hx hb (lv_at hl 1 rfl) (lv_at hl 0 rfl) dL_law_648 dL_law_649 ?_
  refine lv_iconst (v := zI ((1 : Nat) : Int)) hx hb dL_law_651 rfl ?_
  refine l_rb hx hb hX hbl hbA hS hL (i := i) (k := 1) (by omega) (y := y1) hy1 dL_law_652 dL_law_653 ?_
  refine l_ra hx hb (lv_at hl 1 rfl) (lv_at hl 0 rfl) dL_law_654 dL_law_655 ?_
  refine lv_iconst (v := zI ((2 : Nat) : Int)) hx hb dL_law_657 rfl ?_
  refine l_rb hx hb hX hbl hbA hS hL (i := i) (k := 2) (by omega) (y := y2) hy2 dL_law_658 dL_law_659 ?_
  refine l_c (As := [.int (zI y1), .int (zI y2)]) (rest := []) (S1 := (rtoldS (su S 31 0 0 0) (-1) y1 y2 2)) (X := fun E1 rt1 => LI (rtoldS (su S 31 0 0 0) (-1) y1 y2 2) E1 rt1) ⟨hx, hb, hml, hown, hts⟩ (m_X4_rest l D cI cJ (lA1 (lA0 s.heap.size) br o) ad (cAl (su S 31 0 0 0)) (su S 31 0 0 0) E rt y1 y2 rfl y1B y2B hIJ) (cwV 2 hts gL_law_X4_rest rfl rfl rfl (by decide +kernel) ⟨Nat.le_of_ble_eq_true rfl, Nat.le_of_ble_eq_true rfl⟩) gCU_blind (fun U hW hU => hU) (fun U ⟨ad1, h0, hg⟩ => ⟨ad1, _, _, h0, LI_told (-1) y1 y2 2 hLJ (Or.inl rfl) (by omega), hg⟩) hK hA hG hS rfl hl.1 rfl (Nat.le_of_ble_eq_true rfl) dL_law_660 ⟨by omega, by omega⟩ (fun ad1 E1 rt1 H locs h00 hL1 hG hS => ?_)
  refine lv_aload_n hx hb dL_law_663 rfl (lv_at hl 3 rfl) ?_
  refine l_ra hx hb (lv_at hl 1 rfl) (lv_at hl 0 rfl) dL_law_664 dL_law_665 ?_
  refine lv_iconst (v := zI ((1 : Nat) : Int)) hx hb dL_law_667 rfl ?_
  refine l_rb hx hb hX hbl hbA hS hL (i := i) (k := 1) (by omega) (y := y1) hy1 dL_law_668 dL_law_669 ?_
  refine l_ra hx hb (lv_at hl 1 rfl) (lv_at hl 0 rfl) dL_law_670 dL_law_671 ?_
  refine lv_iconst (v := zI ((2 : Nat) : Int)) hx hb dL_law_673 rfl ?_
  refine l_rb hx hb hX hbl hbA hS hL (i := i) (k := 2) (by omega) (y := y2) hy2 dL_law_674 dL_law_675 ?_
  refine l_r (As := [.int (zI y1), .int (zI y2)]) (rest := [.int (zI (bZ ((su S 31 0 0 0) 25 0 0 ≤ y1 ∧ y1 < y2 ∧ y2 ≤ 1000000000 ∧ ¬ (su S 31 0 0 0) 20 0 0 = 64)))]) (S1 := (rtoldS (su S 31 0 0 0) (-1) y1 y2 2)) ⟨hx, hb, hml, hown, hts⟩ (m_X5_rest l D cI cJ (lA2 (lA0 s.heap.size) ad1 (rtoldS (su S 31 0 0 0) (-1) y1 y2 2) o) br S y1 y2 y1B y2B hI0) (cwV 2 hts gL_law_X5_rest rfl rfl rfl (by decide +kernel) ⟨Nat.le_of_ble_eq_true rfl, Nat.le_of_ble_eq_true rfl⟩) hK hG hS rfl hl.1 rfl (Nat.le_of_ble_eq_true rfl) dL_law_676 ⟨by omega, by omega⟩ (fun H locs hG hS => ?_)
  refine lv_icmp_eq (tgt := 764) hx hb dL_law_679 (by decide) (fun _ => ?_) (fun h => absurd rfl h)
  exact l_end Z0 ⟨ad1, br, (rtoldS (su S 31 0 0 0) (-1) y1 y2 2), E1, rt1, _, h00, rfl, hL1, hG⟩ hS hl hi (by omega) (by omega) kl
set_option maxHeartbeats 4000000 in
theorem k_event (Z : lZ p l s m c D cI cJ b L xs) (hI : lI D cI cJ s.heap.size a0 b0 o H) (hS : va_S (lA0 s.heap.size) s.heap H locs) (hl : lv_has ls 8 (lLs b a0 b0 o (i : Int))) (hi : i + 7 ≤ L) (hf : cells + 4 ≤ room_1.cells ∧ slots + 1033 ≤ room_1.slots) (kl : lK p l e s m below meth c Q D cI cJ b a0 b0 o i cells slots) : W p l e room_1 s m #[Value.ref b] below meth c H locs cells slots Q (F0 m 423 ls []) := by
  have Z0 := Z
  obtain ⟨hx, hb, hml, hown, hts, hK, hNw, hP, hX, hbl, hL, hlt⟩ := Z
  obtain ⟨ad, br, S, E, rt, z, rfl, rfl, hLI, hG⟩ := hI
  have hA : ∀ q, s.heap.size ≤ q → lA0 s.heap.size q := fun _ h => h
  have hbA : ¬ lA0 s.heap.size b := by unfold lA0; omega
  have hI0 := hLI.1
  obtain ⟨y1, hy1⟩ : ∃ y, (xs (i + 1)).toInt = y := ⟨_, rfl⟩
  have y1B : zB y1 := hy1 ▸ zI_B (xs (i + 1))
  obtain ⟨y2, hy2⟩ : ∃ y, (xs (i + 2)).toInt = y := ⟨_, rfl⟩
  have y2B : zB y2 := hy2 ▸ zI_B (xs (i + 2))
  have hLJ := LI_31 0 hLI
  replace hG := lW_31 0 hG
  obtain ⟨hIJ, hCJ, hBJ, hVJ, hFJ, h7J, h30J⟩ := id hLJ
  refine lv_aload_n hx hb dL_law_423 rfl (lv_at hl 2 rfl) ?_
  refine l_ra hx hb (lv_at hl 1 rfl) (lv_at hl 0 rfl) dL_law_424 dL_law_425 ?_
  refine lv_iconst (v := zI ((1 : Nat) : Int)) hx hb dL_law_427 rfl ?_
  refine l_rb hx hb hX hbl hbA hS hL (i := i) (k := 1) (by omega) (y := y1) hy1 dL_law_428 dL_law_429 ?_
  refine l_ra hx hb (lv_at hl 1 rfl) (lv_at hl 0 rfl) dL_law_430 dL_law_431 ?_
  refine lv_iconst (v := zI ((2 : Nat) : Int)) hx hb dL_law_433 rfl ?_
  refine l_rb hx hb hX hbl hbA hS hL (i := i) (k := 2) (by omega) (y := y2) hy2 dL_law_434 dL_law_435 ?_
  refine l_c (As := [.int (zI y1), .int (zI y2)]) (rest := []) (S1 := (su S 31 0 0 0)) (X := fun E1 rt1 => LI (su S 31 0 0 0) E1 rt1) ⟨hx, hb, hml, hown, hts⟩ (m_X4_event l D cI cJ (lA1 (lA0 s.heap.size) br o) ad (cAl (su S 31 0 0 0)) (su S 31 0 0 0) E rt (fun _ _ h => h) y1 y2 y1B y2B h30J) (cwV 2 hts gL_law_X4_event rfl rfl rfl (by decide +kernel) ⟨Nat.le_of_ble_eq_true rfl, Nat.le_of_ble_eq_true rfl⟩) gCU_blind (fun U hW hU => hU) (fun U hU => ⟨ad, E, rt, rfl, hLJ, hU⟩) hK hA hG hS rfl hl.1 rfl (Nat.le_of_ble_eq_true rfl) dL_law_436 ⟨by omega, by omega⟩ (fun ad1 E1 rt1 H locs h00 hL1 hG hS => ?_)
  refine lv_aload_n hx hb dL_law_439 rfl (lv_at hl 3 rfl) ?_
  refine l_ra hx hb (lv_at hl 1 rfl) (lv_at hl 0 rfl) dL_law_440 dL_law_441 ?_
  refine lv_iconst (v := zI ((1 : Nat) : Int)) hx hb dL_law_443 rfl ?_
  refine l_rb hx hb hX hbl hbA hS hL (i := i) (k := 1) (by omega) (y := y1) hy1 dL_law_444 dL_law_445 ?_
  refine l_ra hx hb (lv_at hl 1 rfl) (lv_at hl 0 rfl) dL_law_446 dL_law_447 ?_
  refine lv_iconst (v := zI ((2 : Nat) : Int)) hx hb dL_law_449 rfl ?_
  refine l_rb hx hb hX hbl hbA hS hL (i := i) (k := 2) (by omega) (y := y2) hy2 dL_law_450 dL_law_451 ?_
  refine l_r (As := [.int (zI y1), .int (zI y2)]) (rest := [.int (zI (reventV (su S 31 0 0 0) y1 y2))]) (S1 := (su S 31 0 0 0)) ⟨hx, hb, hml, hown, hts⟩ (m_X5_event l D cI cJ (lA2 (lA0 s.heap.size) ad1 (su S 31 0 0 0) o) br S y1 y2 y1B y2B hLI.2.2.2.2.2.2 hI0) (cwV 2 hts gL_law_X5_event rfl rfl rfl (by decide +kernel) ⟨Nat.le_of_ble_eq_true rfl, Nat.le_of_ble_eq_true rfl⟩) hK hG hS rfl hl.1 rfl (Nat.le_of_ble_eq_true rfl) dL_law_452 ⟨by omega, by omega⟩ (fun H locs hG hS => ?_)
  refine lv_icmp_eq (tgt := 764) hx hb dL_law_455 (by decide) (fun _ => ?_) (fun h => absurd rfl h)
  exact l_end Z0 ⟨ad1, br, (su S 31 0 0 0), E1, rt1, _, h00, rfl, hL1, hG⟩ hS hl hi (by omega) (by omega) kl
set_option maxHeartbeats 4000000 in
theorem k_made (Z : lZ p l s m c D cI cJ b L xs) (hI : lI D cI cJ s.heap.size a0 b0 o H) (hS : va_S (lA0 s.heap.size) s.heap H locs) (hl : lv_has ls 8 (lLs b a0 b0 o (i : Int))) (hi : i + 7 ≤ L) (hf : cells + 4 ≤ room_1.cells ∧ slots + 1033 ≤ room_1.slots) (kl : lK p l e s m below meth c Q D cI cJ b a0 b0 o i cells slots) : W p l e room_1 s m #[Value.ref b] below meth c H locs cells slots Q (F0 m 460 ls []) := by
  have Z0 := Z
  obtain ⟨hx, hb, hml, hown, hts, hK, hNw, hP, hX, hbl, hL, hlt⟩ := Z
  obtain ⟨ad, br, S, E, rt, z, rfl, rfl, hLI, hG⟩ := hI
  have hA : ∀ q, s.heap.size ≤ q → lA0 s.heap.size q := fun _ h => h
  have hbA : ¬ lA0 s.heap.size b := by unfold lA0; omega
  have hI0 := hLI.1
  have hLJ := LI_31 0 hLI
  replace hG := lW_31 0 hG
  obtain ⟨hIJ, hCJ, hBJ, hVJ, hFJ, h7J, h30J⟩ := id hLJ
  refine lv_aload_n hx hb dL_law_460 rfl (lv_at hl 2 rfl) ?_
  refine l_c (As := []) (rest := []) (S1 := (su S 31 0 0 0)) (X := fun E1 rt1 => LI (su S 31 0 0 0) E1 rt1) ⟨hx, hb, hml, hown, hts⟩ (m_X4_made l D cI cJ (lA1 (lA0 s.heap.size) br o) ad (cAl (su S 31 0 0 0)) (su S 31 0 0 0) E rt (fun _ _ h => h)) (cwV 0 hts gL_law_X4_made rfl rfl rfl (by decide +kernel) ⟨Nat.le_of_ble_eq_true rfl, Nat.le_of_ble_eq_true rfl⟩) gCU_blind (fun U hW hU => hU) (fun U hU => ⟨ad, E, rt, rfl, hLJ, hU⟩) hK hA hG hS rfl hl.1 rfl (Nat.le_of_ble_eq_true rfl) dL_law_461 ⟨by omega, by omega⟩ (fun ad1 E1 rt1 H locs h00 hL1 hG hS => ?_)
  refine lv_aload_n hx hb dL_law_464 rfl (lv_at hl 3 rfl) ?_
  refine l_r (As := []) (rest := [.long (zL ((su S 31 0 0 0) 24 0 0))]) (S1 := (su S 31 0 0 0)) ⟨hx, hb, hml, hown, hts⟩ (m_X5_made l D cI cJ (lA2 (lA0 s.heap.size) ad1 (su S 31 0 0 0) o) br S hI0) (cwV 0 hts gL_law_X5_made rfl rfl rfl (by decide +kernel) ⟨Nat.le_of_ble_eq_true rfl, Nat.le_of_ble_eq_true rfl⟩) hK hG hS rfl hl.1 rfl (Nat.le_of_ble_eq_true rfl) dL_law_465 ⟨by omega, by omega⟩ (fun H locs hG hS => ?_)
  refine W.lcmp hx hb dL_law_468 ?_
  refine lv_if_eq (tgt := 764) hx hb dL_law_469 (by decide) (fun _ => ?_) (fun h => absurd ((lgc_eq _ _).mpr rfl) h)
  exact l_end Z0 ⟨ad1, br, (su S 31 0 0 0), E1, rt1, _, h00, rfl, hL1, hG⟩ hS hl hi (by omega) (by omega) kl
set_option maxHeartbeats 4000000 in
theorem k_inside (Z : lZ p l s m c D cI cJ b L xs) (hI : lI D cI cJ s.heap.size a0 b0 o H) (hS : va_S (lA0 s.heap.size) s.heap H locs) (hl : lv_has ls 8 (lLs b a0 b0 o (i : Int))) (hi : i + 7 ≤ L) (hf : cells + 4 ≤ room_1.cells ∧ slots + 1033 ≤ room_1.slots) (kl : lK p l e s m below meth c Q D cI cJ b a0 b0 o i cells slots) : W p l e room_1 s m #[Value.ref b] below meth c H locs cells slots Q (F0 m 474 ls []) := by
  have Z0 := Z
  obtain ⟨hx, hb, hml, hown, hts, hK, hNw, hP, hX, hbl, hL, hlt⟩ := Z
  obtain ⟨ad, br, S, E, rt, z, rfl, rfl, hLI, hG⟩ := hI
  have hA : ∀ q, s.heap.size ≤ q → lA0 s.heap.size q := fun _ h => h
  have hbA : ¬ lA0 s.heap.size b := by unfold lA0; omega
  have hI0 := hLI.1
  have hLJ := LI_31 0 hLI
  replace hG := lW_31 0 hG
  obtain ⟨hIJ, hCJ, hBJ, hVJ, hFJ, h7J, h30J⟩ := id hLJ
  refine lv_aload_n hx hb dL_law_474 rfl (lv_at hl 2 rfl) ?_
  refine l_c (As := []) (rest := []) (S1 := (su S 31 0 0 0)) (X := fun E1 rt1 => LI (su S 31 0 0 0) E1 rt1) ⟨hx, hb, hml, hown, hts⟩ (m_X4_inside l D cI cJ (lA1 (lA0 s.heap.size) br o) ad (cAl (su S 31 0 0 0)) (su S 31 0 0 0) E rt (fun _ _ h => h) hIJ) (cwV 0 hts gL_law_X4_inside rfl rfl rfl (by decide +kernel) ⟨Nat.le_of_ble_eq_true rfl, Nat.le_of_ble_eq_true rfl⟩) gCU_blind (fun U hW hU => hU) (fun U hU => ⟨ad, E, rt, rfl, hLJ, hU⟩) hK hA hG hS rfl hl.1 rfl (Nat.le_of_ble_eq_true rfl) dL_law_475 ⟨by omega, by omega⟩ (fun ad1 E1 rt1 H locs h00 hL1 hG hS => ?_)
  refine lv_aload_n hx hb dL_law_478 rfl (lv_at hl 3 rfl) ?_
  refine l_r (As := []) (rest := [.long (zL (rwithin (su S 31 0 0 0)))]) (S1 := (su S 31 0 0 0)) ⟨hx, hb, hml, hown, hts⟩ (m_X5_inside l D cI cJ (lA2 (lA0 s.heap.size) ad1 (su S 31 0 0 0) o) br S hI0) (cwV 0 hts gL_law_X5_inside rfl rfl rfl (by decide +kernel) ⟨Nat.le_of_ble_eq_true rfl, Nat.le_of_ble_eq_true rfl⟩) hK hG hS rfl hl.1 rfl (Nat.le_of_ble_eq_true rfl) dL_law_479 ⟨by omega, by omega⟩ (fun H locs hG hS => ?_)
  refine W.lcmp hx hb dL_law_482 ?_
  refine lv_if_eq (tgt := 764) hx hb dL_law_483 (by decide) (fun _ => ?_) (fun h => absurd ((lgc_eq _ _).mpr rfl) h)
  exact l_end Z0 ⟨ad1, br, (su S 31 0 0 0), E1, rt1, _, h00, rfl, hL1, hG⟩ hS hl hi (by omega) (by omega) kl
set_option maxHeartbeats 4000000 in
theorem k_kept (Z : lZ p l s m c D cI cJ b L xs) (hI : lI D cI cJ s.heap.size a0 b0 o H) (hS : va_S (lA0 s.heap.size) s.heap H locs) (hl : lv_has ls 8 (lLs b a0 b0 o (i : Int))) (hi : i + 7 ≤ L) (hf : cells + 4 ≤ room_1.cells ∧ slots + 1033 ≤ room_1.slots) (kl : lK p l e s m below meth c Q D cI cJ b a0 b0 o i cells slots) : W p l e room_1 s m #[Value.ref b] below meth c H locs cells slots Q (F0 m 751 ls []) := by
  have Z0 := Z
  obtain ⟨hx, hb, hml, hown, hts, hK, hNw, hP, hX, hbl, hL, hlt⟩ := Z
  obtain ⟨ad, br, S, E, rt, z, rfl, rfl, hLI, hG⟩ := hI
  have hA : ∀ q, s.heap.size ≤ q → lA0 s.heap.size q := fun _ h => h
  have hbA : ¬ lA0 s.heap.size b := by unfold lA0; omega
  have hI0 := hLI.1
  have hLJ := LI_31 0 hLI
  replace hG := lW_31 0 hG
  obtain ⟨hIJ, hCJ, hBJ, hVJ, hFJ, h7J, h30J⟩ := id hLJ
  refine lv_aload_n hx hb dL_law_751 rfl (lv_at hl 2 rfl) ?_
  refine l_c (As := []) (rest := []) (S1 := (su S 31 0 0 0)) (X := fun E1 rt1 => LI (su S 31 0 0 0) E1 rt1) ⟨hx, hb, hml, hown, hts⟩ (m_X4_kept l D cI cJ (lA1 (lA0 s.heap.size) br o) ad (cAl (su S 31 0 0 0)) (su S 31 0 0 0) E rt (fun _ _ h => h) hIJ) (cwV 0 hts gL_law_X4_kept rfl rfl rfl (by decide +kernel) ⟨Nat.le_of_ble_eq_true rfl, Nat.le_of_ble_eq_true rfl⟩) gCU_blind (fun U hW hU => hU) (fun U hU => ⟨ad, E, rt, rfl, hLJ, hU⟩) hK hA hG hS rfl hl.1 rfl (Nat.le_of_ble_eq_true rfl) dL_law_752 ⟨by omega, by omega⟩ (fun ad1 E1 rt1 H locs h00 hL1 hG hS => ?_)
  refine lv_aload_n hx hb dL_law_755 rfl (lv_at hl 3 rfl) ?_
  refine l_r (As := []) (rest := [.int (zI (bZ (rkeptV (su S 31 0 0 0) = true)))]) (S1 := (su S 31 0 0 0)) ⟨hx, hb, hml, hown, hts⟩ (m_X5_kept l D cI cJ (lA2 (lA0 s.heap.size) ad1 (su S 31 0 0 0) o) br S hI0) (cwV 0 hts gL_law_X5_kept rfl rfl rfl (by decide +kernel) ⟨Nat.le_of_ble_eq_true rfl, Nat.le_of_ble_eq_true rfl⟩) hK hG hS rfl hl.1 rfl (Nat.le_of_ble_eq_true rfl) dL_law_756 ⟨by omega, by omega⟩ (fun H locs hG hS => ?_)
  refine lv_icmp_eq (tgt := 764) hx hb dL_law_759 (by decide) (fun _ => ?_) (fun h => absurd rfl h)
  exact l_end Z0 ⟨ad1, br, (su S 31 0 0 0), E1, rt1, _, h00, rfl, hL1, hG⟩ hS hl hi (by omega) (by omega) kl
set_option maxHeartbeats 4000000 in
theorem k_run (Z : lZ p l s m c D cI cJ b L xs) (hI : lI D cI cJ s.heap.size a0 b0 o H) (hS : va_S (lA0 s.heap.size) s.heap H locs) (hl : lv_has ls 8 (lLs b a0 b0 o (i : Int))) (hi : i + 7 ≤ L) (hf : cells + 4 ≤ room_1.cells ∧ slots + 1033 ≤ room_1.slots) (kl : lK p l e s m below meth c Q D cI cJ b a0 b0 o i cells slots) : W p l e room_1 s m #[Value.ref b] below meth c H locs cells slots Q (F0 m 398 ls []) := by
  have Z0 := Z
  obtain ⟨hx, hb, hml, hown, hts, hK, hNw, hP, hX, hbl, hL, hlt⟩ := Z
  obtain ⟨ad, br, S, E, rt, z, rfl, rfl, hLI, hG⟩ := hI
  have hA : ∀ q, s.heap.size ≤ q → lA0 s.heap.size q := fun _ h => h
  have hbA : ¬ lA0 s.heap.size b := by unfold lA0; omega
  have hI0 := hLI.1
  obtain ⟨y1, hy1⟩ : ∃ y, (xs (i + 1)).toInt = y := ⟨_, rfl⟩
  have y1B : zB y1 := hy1 ▸ zI_B (xs (i + 1))
  have hLJ := LI_31 0 hLI
  replace hG := lW_31 0 hG
  obtain ⟨hIJ, hCJ, hBJ, hVJ, hFJ, h7J, h30J⟩ := id hLJ
  by_cases ht : 1 ≤ y1 ∧ y1 ≤ 100000 ∧ (su S 31 0 0 0) 25 0 0 + y1 ≤ 1000000000
  · refine lv_aload_n hx hb dL_law_398 rfl (lv_at hl 2 rfl) ?_
    refine l_ra hx hb (lv_at hl 1 rfl) (lv_at hl 0 rfl) dL_law_399 dL_law_400 ?_
    refine lv_iconst (v := zI ((1 : Nat) : Int)) hx hb dL_law_402 rfl ?_
    refine l_rb hx hb hX hbl hbA hS hL (i := i) (k := 1) (by omega) (y := y1) hy1 dL_law_403 dL_law_404 ?_
    refine l_c (As := [.int (zI y1)]) (rest := []) (S1 := (rrunS (su S 31 0 0 0) y1)) (X := fun E1 rt1 => LI (rrunS (su S 31 0 0 0) y1) E1 rt1) ⟨hx, hb, hml, hown, hts⟩ (m_X4_run l D cI cJ (lA1 (lA0 s.heap.size) br o) ad (cAl (su S 31 0 0 0)) (su S 31 0 0 0) E rt (fun _ _ h => h) y1 y1B hIJ hCJ hBJ hVJ) (cwV 1 hts gL_law_X4_run rfl rfl rfl (by decide +kernel) ⟨Nat.le_of_ble_eq_true rfl, Nat.le_of_ble_eq_true rfl⟩) gCU_blind (fun U hW hU => hU) (fun U ⟨F, r, hV1, hC1, hB1, hU⟩ => ⟨ad, F, r, rfl, LI_run hLJ ht hV1 hC1 hB1, by rw [cAl_run]; exact hU⟩) hK hA hG hS rfl hl.1 rfl (Nat.le_of_ble_eq_true rfl) dL_law_405 ⟨by omega, by omega⟩ (fun ad1 E1 rt1 H locs h00 hL1 hG hS => ?_)
    refine lv_aload_n hx hb dL_law_408 rfl (lv_at hl 3 rfl) ?_
    refine l_ra hx hb (lv_at hl 1 rfl) (lv_at hl 0 rfl) dL_law_409 dL_law_410 ?_
    refine lv_iconst (v := zI ((1 : Nat) : Int)) hx hb dL_law_412 rfl ?_
    refine l_rb hx hb hX hbl hbA hS hL (i := i) (k := 1) (by omega) (y := y1) hy1 dL_law_413 dL_law_414 ?_
    refine l_r (As := [.int (zI y1)]) (rest := [.int (zI (rrunV (su S 31 0 0 0) y1))]) (S1 := (rrunS (su S 31 0 0 0) y1)) ⟨hx, hb, hml, hown, hts⟩ (m_X5_run l D cI cJ (lA2 (lA0 s.heap.size) ad1 (rrunS (su S 31 0 0 0) y1) o) br S y1 y1B hI0 hLI.2.2.2.2.2.1) (cwV 1 hts gL_law_X5_run rfl rfl rfl (by decide +kernel) ⟨Nat.le_of_ble_eq_true rfl, Nat.le_of_ble_eq_true rfl⟩) hK hG hS rfl hl.1 rfl (Nat.le_of_ble_eq_true rfl) dL_law_415 ⟨by omega, by omega⟩ (fun H locs hG hS => ?_)
    refine lv_icmp_eq (tgt := 764) hx hb dL_law_418 (by decide) (fun _ => ?_) (fun h => absurd rfl h)
    exact l_end Z0 ⟨ad1, br, (rrunS (su S 31 0 0 0) y1), E1, rt1, _, h00, rfl, hL1, hG⟩ hS hl hi (by omega) (by omega) kl
  · refine lv_aload_n hx hb dL_law_398 rfl (lv_at hl 2 rfl) ?_
    refine l_ra hx hb (lv_at hl 1 rfl) (lv_at hl 0 rfl) dL_law_399 dL_law_400 ?_
    refine lv_iconst (v := zI ((1 : Nat) : Int)) hx hb dL_law_402 rfl ?_
    refine l_rb hx hb hX hbl hbA hS hL (i := i) (k := 1) (by omega) (y := y1) hy1 dL_law_403 dL_law_404 ?_
    refine l_c (As := [.int (zI y1)]) (rest := []) (S1 := (rrunS (su S 31 0 0 0) y1)) (X := fun E1 rt1 => LI (rrunS (su S 31 0 0 0) y1) E1 rt1) ⟨hx, hb, hml, hown, hts⟩ (m_X4_runN l D cI cJ (lA1 (lA0 s.heap.size) br o) ad (cAl (su S 31 0 0 0)) (su S 31 0 0 0) E rt (fun _ _ h => h) y1 y1B (by omega) hIJ) (cwV 1 hts gL_law_X4_run rfl rfl rfl (by decide +kernel) ⟨Nat.le_of_ble_eq_true rfl, Nat.le_of_ble_eq_true rfl⟩) gCU_blind (fun U hW hU => hU) (fun U hU => ⟨ad, E, rt, rfl, LI_runN hLJ (by omega), by rw [cAl_run]; exact hU⟩) hK hA hG hS rfl hl.1 rfl (Nat.le_of_ble_eq_true rfl) dL_law_405 ⟨by omega, by omega⟩ (fun ad1 E1 rt1 H locs h00 hL1 hG hS => ?_)
    refine lv_aload_n hx hb dL_law_408 rfl (lv_at hl 3 rfl) ?_
    refine l_ra hx hb (lv_at hl 1 rfl) (lv_at hl 0 rfl) dL_law_409 dL_law_410 ?_
    refine lv_iconst (v := zI ((1 : Nat) : Int)) hx hb dL_law_412 rfl ?_
    refine l_rb hx hb hX hbl hbA hS hL (i := i) (k := 1) (by omega) (y := y1) hy1 dL_law_413 dL_law_414 ?_
    refine l_r (As := [.int (zI y1)]) (rest := [.int (zI (rrunV (su S 31 0 0 0) y1))]) (S1 := (rrunS (su S 31 0 0 0) y1)) ⟨hx, hb, hml, hown, hts⟩ (m_X5_run l D cI cJ (lA2 (lA0 s.heap.size) ad1 (rrunS (su S 31 0 0 0) y1) o) br S y1 y1B hI0 hLI.2.2.2.2.2.1) (cwV 1 hts gL_law_X5_run rfl rfl rfl (by decide +kernel) ⟨Nat.le_of_ble_eq_true rfl, Nat.le_of_ble_eq_true rfl⟩) hK hG hS rfl hl.1 rfl (Nat.le_of_ble_eq_true rfl) dL_law_415 ⟨by omega, by omega⟩ (fun H locs hG hS => ?_)
    refine lv_icmp_eq (tgt := 764) hx hb dL_law_418 (by decide) (fun _ => ?_) (fun h => absurd rfl h)
    exact l_end Z0 ⟨ad1, br, (rrunS (su S 31 0 0 0) y1), E1, rt1, _, h00, rfl, hL1, hG⟩ hS hl hi (by omega) (by omega) kl
set_option maxHeartbeats 4000000 in
theorem k_lost (Z : lZ p l s m c D cI cJ b L xs) (hI : lI D cI cJ s.heap.size a0 b0 o H) (hS : va_S (lA0 s.heap.size) s.heap H locs) (hl : lv_has ls 8 (lLs b a0 b0 o (i : Int))) (hi : i + 7 ≤ L) (hf : cells + 4 ≤ room_1.cells ∧ slots + 1033 ≤ room_1.slots) (kl : lK p l e s m below meth c Q D cI cJ b a0 b0 o i cells slots) : W p l e room_1 s m #[Value.ref b] below meth c H locs cells slots Q (F0 m 488 ls []) := by
  have Z0 := Z
  obtain ⟨hx, hb, hml, hown, hts, hK, hNw, hP, hX, hbl, hL, hlt⟩ := Z
  obtain ⟨ad, br, S, E, rt, z, rfl, rfl, hLI, hG⟩ := hI
  have hA : ∀ q, s.heap.size ≤ q → lA0 s.heap.size q := fun _ h => h
  have hbA : ¬ lA0 s.heap.size b := by unfold lA0; omega
  have hI0 := hLI.1
  obtain ⟨y1, hy1⟩ : ∃ y, (xs (i + 1)).toInt = y := ⟨_, rfl⟩
  have y1B : zB y1 := hy1 ▸ zI_B (xs (i + 1))
  obtain ⟨y2, hy2⟩ : ∃ y, (xs (i + 2)).toInt = y := ⟨_, rfl⟩
  have y2B : zB y2 := hy2 ▸ zI_B (xs (i + 2))
  by_cases hz : 0 ≤ y1 ∧ y1 < S 5 0 0
  · have e31 : rtM S y1 31 0 0 = 0 := by unfold rtM; rw [if_pos hz]; rfl
    refine lv_aload_n hx hb dL_law_488 rfl (lv_at hl 2 rfl) ?_
    refine l_ra hx hb (lv_at hl 1 rfl) (lv_at hl 0 rfl) dL_law_489 dL_law_490 ?_
    refine lv_iconst (v := zI ((1 : Nat) : Int)) hx hb dL_law_492 rfl ?_
    refine l_rb hx hb hX hbl hbA hS hL (i := i) (k := 1) (by omega) (y := y1) hy1 dL_law_493 dL_law_494 ?_
    refine l_ra hx hb (lv_at hl 1 rfl) (lv_at hl 0 rfl) dL_law_495 dL_law_496 ?_
    refine lv_iconst (v := zI ((2 : Nat) : Int)) hx hb dL_law_498 rfl ?_
    refine l_rb hx hb hX hbl hbA hS hL (i := i) (k := 2) (by omega) (y := y2) hy2 dL_law_499 dL_law_500 ?_
    refine lv_aload_n hx hb dL_law_501 rfl (lv_at hl 4 rfl) ?_
    refine l_o (As := [.ref (ad 0 0), .int (zI y1), .int (zI y2), .ref o]) (rest := []) (n := 4) (z1 := rlostV S y1 y2) (v := .int (zI 0)) ⟨hx, hb, hml, hown, hts⟩ (m_L_lost l D cI cJ (lA3 (lA0 s.heap.size) br) ad (cAl S) S E rt (fun _ _ h => h) y1 y2 y1.toNat o z y1B hI0 (by omega) (by omega) y2B) gL_law_L_lost rfl rfl rfl (by decide +kernel) ⟨Nat.le_of_ble_eq_true rfl, Nat.le_of_ble_eq_true rfl⟩ lO_bl (fun U hU hW h => h) hK hA hG hS rfl hl.1 rfl (Nat.le_of_ble_eq_true rfl) dL_law_502 ⟨by omega, by omega⟩ (fun H locs hG hS => ?_)
    refine lv_istore (lv' := [(5, .int (zI 0)), (4, .int (zI (i : Int))), (0, .ref b), (1, .ref (ad 0 0)), (2, .ref (br 32 0)), (3, .ref o)]) hx hb dL_law_505 hl (by decide) rfl (fun ls hl => ?_)
    refine lv_aload_n hx hb dL_law_507 rfl (lv_at hl 4 rfl) ?_
    refine l_ra hx hb (lv_at hl 2 rfl) (lv_at hl 1 rfl) dL_law_508 dL_law_509 ?_
    refine lv_iconst (v := zI ((1 : Nat) : Int)) hx hb dL_law_511 rfl ?_
    refine l_rb hx hb hX hbl hbA hS hL (i := i) (k := 1) (by omega) (y := y1) hy1 dL_law_512 dL_law_513 ?_
    refine l_ra hx hb (lv_at hl 2 rfl) (lv_at hl 1 rfl) dL_law_514 dL_law_515 ?_
    refine lv_iconst (v := zI ((2 : Nat) : Int)) hx hb dL_law_517 rfl ?_
    refine l_rb hx hb hX hbl hbA hS hL (i := i) (k := 2) (by omega) (y := y2) hy2 dL_law_518 dL_law_519 ?_
    refine l_r (As := [.int (zI y1), .int (zI y2)]) (rest := []) (S1 := (rtM S y1)) ⟨hx, hb, hml, hown, hts⟩ (m_X5_lost l D cI cJ (lA2 (lA0 s.heap.size) ad S o) br S y1 y2 y1B y2B hI0) (cwV 2 hts gL_law_X5_lost rfl rfl rfl (by decide +kernel) ⟨Nat.le_of_ble_eq_true rfl, Nat.le_of_ble_eq_true rfl⟩) hK hG hS rfl hl.1 rfl (Nat.le_of_ble_eq_true rfl) dL_law_520 ⟨by omega, by omega⟩ (fun H locs hG hS => ?_)
    refine lv_lstore (lv' := [(6, .long (rlostV S y1 y2)), (5, .int (zI 0)), (4, .int (zI (i : Int))), (0, .ref b), (1, .ref (ad 0 0)), (2, .ref (br 32 0)), (3, .ref o)]) hx hb dL_law_523 hl (by decide) rfl (fun ls hl => ?_)
    refine lv_aload_n hx hb dL_law_525 rfl (lv_at hl 5 rfl) ?_
    refine l_r (As := []) (rest := []) (S1 := (rtM S y1)) ⟨hx, hb, hml, hown, hts⟩ (m_X5_thrown l D cI cJ (lA2 (lA0 s.heap.size) ad S o) br (rtM S y1) (by rw [e31]; decide)) (cwV 0 hts gL_law_X5_thrown rfl rfl rfl (by decide +kernel) ⟨Nat.le_of_ble_eq_true rfl, Nat.le_of_ble_eq_true rfl⟩) hK hG hS rfl hl.1 rfl (Nat.le_of_ble_eq_true rfl) dL_law_526 ⟨by omega, by omega⟩ (fun H locs hG hS => ?_)
    rw [e31]
    refine lv_iload hx hb dL_law_529 (lv_at hl 1 rfl) ?_
    refine lv_icmp_eq (tgt := 536) hx hb dL_law_531 (by decide) (fun _ => ?_) (fun h => absurd rfl h)
    refine lv_iload hx hb dL_law_536 (lv_at hl 1 rfl) ?_
    refine lv_if_ne (tgt := 552) hx hb dL_law_538 (by decide) (fun h => absurd rfl h) (fun _ => ?_)
    refine lv_aload_n hx hb dL_law_541 rfl (lv_at hl 6 rfl) ?_
    refine lv_iconst (v := zI 0) hx hb dL_law_542 rfl ?_
    refine o_lald hx hb hK hG.2.2.1 dL_law_543 ?_
    refine lv_lload hx hb dL_law_544 (lv_at hl 0 rfl) ?_
    refine W.lcmp hx hb dL_law_546 ?_
    refine lv_if_eq (tgt := 552) hx hb dL_law_547 (by decide) (fun _ => ?_) (fun h => absurd ((lgc_eq _ _).mpr rfl) h)
    refine lv_goto (tgt := 764) hx hb dL_law_552 (by decide) ?_
    replace hG := lW_31 (if 0 ≤ y1 ∧ y1 < S 5 0 0 then (0 : Int) else 1) hG
    exact l_end Z0 ⟨ad, br, (rtM S y1), E, rt, _, rfl, rfl, LI_31 _ hLI, hG⟩ hS (lv_sub hl [2, 3, 4, 5, 6] rfl) hi (by omega) (by omega) kl
  · have e31 : rtM S y1 31 0 0 = 1 := by unfold rtM; rw [if_neg hz]; rfl
    refine lv_aload_n hx hb dL_law_488 rfl (lv_at hl 2 rfl) ?_
    refine l_ra hx hb (lv_at hl 1 rfl) (lv_at hl 0 rfl) dL_law_489 dL_law_490 ?_
    refine lv_iconst (v := zI ((1 : Nat) : Int)) hx hb dL_law_492 rfl ?_
    refine l_rb hx hb hX hbl hbA hS hL (i := i) (k := 1) (by omega) (y := y1) hy1 dL_law_493 dL_law_494 ?_
    refine l_ra hx hb (lv_at hl 1 rfl) (lv_at hl 0 rfl) dL_law_495 dL_law_496 ?_
    refine lv_iconst (v := zI ((2 : Nat) : Int)) hx hb dL_law_498 rfl ?_
    refine l_rb hx hb hX hbl hbA hS hL (i := i) (k := 2) (by omega) (y := y2) hy2 dL_law_499 dL_law_500 ?_
    refine lv_aload_n hx hb dL_law_501 rfl (lv_at hl 4 rfl) ?_
    refine l_o (As := [.ref (ad 0 0), .int (zI y1), .int (zI y2), .ref o]) (rest := []) (n := 4) (z1 := z) (v := .int (zI 1)) ⟨hx, hb, hml, hown, hts⟩ (t_L_lost l hlt D cI cJ (lA3 (lA0 s.heap.size) br) ad (cAl S) S E rt (fun _ _ h => h) y1 y2 o z y1B hI0 hz) gL_law_L_lost rfl rfl rfl (by decide +kernel) ⟨Nat.le_of_ble_eq_true rfl, Nat.le_of_ble_eq_true rfl⟩ lOT_bl (fun U hU hW h => ⟨h, hP.warm hW (fun a h1 h2 => by rw [hU]; exact hS.2.1 a h1 h2) (fun _ _ q => q.1)⟩) hK hA hG hS rfl hl.1 rfl (Nat.le_of_ble_eq_true rfl) dL_law_502 ⟨by omega, by omega⟩ (fun H locs hG hS => ?_)
    refine lv_istore (lv' := [(5, .int (zI 1)), (4, .int (zI (i : Int))), (0, .ref b), (1, .ref (ad 0 0)), (2, .ref (br 32 0)), (3, .ref o)]) hx hb dL_law_505 hl (by decide) rfl (fun ls hl => ?_)
    refine lv_aload_n hx hb dL_law_507 rfl (lv_at hl 4 rfl) ?_
    refine l_ra hx hb (lv_at hl 2 rfl) (lv_at hl 1 rfl) dL_law_508 dL_law_509 ?_
    refine lv_iconst (v := zI ((1 : Nat) : Int)) hx hb dL_law_511 rfl ?_
    refine l_rb hx hb hX hbl hbA hS hL (i := i) (k := 1) (by omega) (y := y1) hy1 dL_law_512 dL_law_513 ?_
    refine l_ra hx hb (lv_at hl 2 rfl) (lv_at hl 1 rfl) dL_law_514 dL_law_515 ?_
    refine lv_iconst (v := zI ((2 : Nat) : Int)) hx hb dL_law_517 rfl ?_
    refine l_rb hx hb hX hbl hbA hS hL (i := i) (k := 2) (by omega) (y := y2) hy2 dL_law_518 dL_law_519 ?_
    refine l_r (As := [.int (zI y1), .int (zI y2)]) (rest := []) (S1 := (rtM S y1)) ⟨hx, hb, hml, hown, hts⟩ (m_X5_lost l D cI cJ (lA2 (lA0 s.heap.size) ad S o) br S y1 y2 y1B y2B hI0) (cwV 2 hts gL_law_X5_lost rfl rfl rfl (by decide +kernel) ⟨Nat.le_of_ble_eq_true rfl, Nat.le_of_ble_eq_true rfl⟩) hK hG hS rfl hl.1 rfl (Nat.le_of_ble_eq_true rfl) dL_law_520 ⟨by omega, by omega⟩ (fun H locs hG hS => ?_)
    refine lv_lstore (lv' := [(6, .long (rlostV S y1 y2)), (5, .int (zI 1)), (4, .int (zI (i : Int))), (0, .ref b), (1, .ref (ad 0 0)), (2, .ref (br 32 0)), (3, .ref o)]) hx hb dL_law_523 hl (by decide) rfl (fun ls hl => ?_)
    refine lv_aload_n hx hb dL_law_525 rfl (lv_at hl 5 rfl) ?_
    refine l_r (As := []) (rest := []) (S1 := (rtM S y1)) ⟨hx, hb, hml, hown, hts⟩ (m_X5_thrown l D cI cJ (lA2 (lA0 s.heap.size) ad S o) br (rtM S y1) (by rw [e31]; decide)) (cwV 0 hts gL_law_X5_thrown rfl rfl rfl (by decide +kernel) ⟨Nat.le_of_ble_eq_true rfl, Nat.le_of_ble_eq_true rfl⟩) hK hG hS rfl hl.1 rfl (Nat.le_of_ble_eq_true rfl) dL_law_526 ⟨by omega, by omega⟩ (fun H locs hG hS => ?_)
    rw [e31]
    refine lv_iload hx hb dL_law_529 (lv_at hl 1 rfl) ?_
    refine lv_icmp_eq (tgt := 536) hx hb dL_law_531 (by decide) (fun _ => ?_) (fun h => absurd rfl h)
    refine lv_iload hx hb dL_law_536 (lv_at hl 1 rfl) ?_
    refine lv_if_ne (tgt := 552) hx hb dL_law_538 (by decide) (fun _ => ?_) (fun h => absurd h (by decide))
    refine lv_goto (tgt := 764) hx hb dL_law_552 (by decide) ?_
    replace hG := lW_31 (if 0 ≤ y1 ∧ y1 < S 5 0 0 then (0 : Int) else 1) hG
    exact l_end Z0 ⟨ad, br, (rtM S y1), E, rt, _, rfl, rfl, LI_31 _ hLI, hG⟩ hS (lv_sub hl [2, 3, 4, 5, 6] rfl) hi (by omega) (by omega) kl
set_option maxHeartbeats 4000000 in
theorem k_rejected (Z : lZ p l s m c D cI cJ b L xs) (hI : lI D cI cJ s.heap.size a0 b0 o H) (hS : va_S (lA0 s.heap.size) s.heap H locs) (hl : lv_has ls 8 (lLs b a0 b0 o (i : Int))) (hi : i + 7 ≤ L) (hf : cells + 4 ≤ room_1.cells ∧ slots + 1033 ≤ room_1.slots) (kl : lK p l e s m below meth c Q D cI cJ b a0 b0 o i cells slots) : W p l e room_1 s m #[Value.ref b] below meth c H locs cells slots Q (F0 m 555 ls []) := by
  have Z0 := Z
  obtain ⟨hx, hb, hml, hown, hts, hK, hNw, hP, hX, hbl, hL, hlt⟩ := Z
  obtain ⟨ad, br, S, E, rt, z, rfl, rfl, hLI, hG⟩ := hI
  have hA : ∀ q, s.heap.size ≤ q → lA0 s.heap.size q := fun _ h => h
  have hbA : ¬ lA0 s.heap.size b := by unfold lA0; omega
  have hI0 := hLI.1
  obtain ⟨y1, hy1⟩ : ∃ y, (xs (i + 1)).toInt = y := ⟨_, rfl⟩
  have y1B : zB y1 := hy1 ▸ zI_B (xs (i + 1))
  by_cases hz : 0 ≤ y1 ∧ y1 < S 5 0 0
  · have e31 : rtM S y1 31 0 0 = 0 := by unfold rtM; rw [if_pos hz]; rfl
    refine lv_aload_n hx hb dL_law_555 rfl (lv_at hl 2 rfl) ?_
    refine l_ra hx hb (lv_at hl 1 rfl) (lv_at hl 0 rfl) dL_law_556 dL_law_557 ?_
    refine lv_iconst (v := zI ((1 : Nat) : Int)) hx hb dL_law_559 rfl ?_
    refine l_rb hx hb hX hbl hbA hS hL (i := i) (k := 1) (by omega) (y := y1) hy1 dL_law_560 dL_law_561 ?_
    refine lv_aload_n hx hb dL_law_562 rfl (lv_at hl 4 rfl) ?_
    refine l_o (As := [.ref (ad 0 0), .int (zI y1), .ref o]) (rest := []) (n := 3) (z1 := zL (rrejV S y1)) (v := .int (zI 0)) ⟨hx, hb, hml, hown, hts⟩ (m_L_rejected l D cI cJ (lA3 (lA0 s.heap.size) br) ad (cAl S) S E rt (fun _ _ h => h) y1 y1.toNat o z y1B hI0 (by omega) (by omega)) gL_law_L_rejected rfl rfl rfl (by decide +kernel) ⟨Nat.le_of_ble_eq_true rfl, Nat.le_of_ble_eq_true rfl⟩ lO_bl (fun U hU hW h => h) hK hA hG hS rfl hl.1 rfl (Nat.le_of_ble_eq_true rfl) dL_law_563 ⟨by omega, by omega⟩ (fun H locs hG hS => ?_)
    refine lv_istore (lv' := [(5, .int (zI 0)), (4, .int (zI (i : Int))), (0, .ref b), (1, .ref (ad 0 0)), (2, .ref (br 32 0)), (3, .ref o)]) hx hb dL_law_566 hl (by decide) rfl (fun ls hl => ?_)
    refine lv_aload_n hx hb dL_law_568 rfl (lv_at hl 4 rfl) ?_
    refine l_ra hx hb (lv_at hl 2 rfl) (lv_at hl 1 rfl) dL_law_569 dL_law_570 ?_
    refine lv_iconst (v := zI ((1 : Nat) : Int)) hx hb dL_law_572 rfl ?_
    refine l_rb hx hb hX hbl hbA hS hL (i := i) (k := 1) (by omega) (y := y1) hy1 dL_law_573 dL_law_574 ?_
    refine l_r (As := [.int (zI y1)]) (rest := []) (S1 := (rtM S y1)) ⟨hx, hb, hml, hown, hts⟩ (m_X5_rejected l D cI cJ (lA2 (lA0 s.heap.size) ad S o) br S y1 y1B hI0) (cwV 1 hts gL_law_X5_rejected rfl rfl rfl (by decide +kernel) ⟨Nat.le_of_ble_eq_true rfl, Nat.le_of_ble_eq_true rfl⟩) hK hG hS rfl hl.1 rfl (Nat.le_of_ble_eq_true rfl) dL_law_575 ⟨by omega, by omega⟩ (fun H locs hG hS => ?_)
    refine lv_lstore (lv' := [(6, .long (zL (rrejV S y1))), (5, .int (zI 0)), (4, .int (zI (i : Int))), (0, .ref b), (1, .ref (ad 0 0)), (2, .ref (br 32 0)), (3, .ref o)]) hx hb dL_law_578 hl (by decide) rfl (fun ls hl => ?_)
    refine lv_aload_n hx hb dL_law_580 rfl (lv_at hl 5 rfl) ?_
    refine l_r (As := []) (rest := []) (S1 := (rtM S y1)) ⟨hx, hb, hml, hown, hts⟩ (m_X5_thrown l D cI cJ (lA2 (lA0 s.heap.size) ad S o) br (rtM S y1) (by rw [e31]; decide)) (cwV 0 hts gL_law_X5_thrown rfl rfl rfl (by decide +kernel) ⟨Nat.le_of_ble_eq_true rfl, Nat.le_of_ble_eq_true rfl⟩) hK hG hS rfl hl.1 rfl (Nat.le_of_ble_eq_true rfl) dL_law_581 ⟨by omega, by omega⟩ (fun H locs hG hS => ?_)
    rw [e31]
    refine lv_iload hx hb dL_law_584 (lv_at hl 1 rfl) ?_
    refine lv_icmp_eq (tgt := 591) hx hb dL_law_586 (by decide) (fun _ => ?_) (fun h => absurd rfl h)
    refine lv_iload hx hb dL_law_591 (lv_at hl 1 rfl) ?_
    refine lv_if_ne (tgt := 607) hx hb dL_law_593 (by decide) (fun h => absurd rfl h) (fun _ => ?_)
    refine lv_aload_n hx hb dL_law_596 rfl (lv_at hl 6 rfl) ?_
    refine lv_iconst (v := zI 0) hx hb dL_law_597 rfl ?_
    refine o_lald hx hb hK hG.2.2.1 dL_law_598 ?_
    refine lv_lload hx hb dL_law_599 (lv_at hl 0 rfl) ?_
    refine W.lcmp hx hb dL_law_601 ?_
    refine lv_if_eq (tgt := 607) hx hb dL_law_602 (by decide) (fun _ => ?_) (fun h => absurd ((lgc_eq _ _).mpr rfl) h)
    refine lv_goto (tgt := 764) hx hb dL_law_607 (by decide) ?_
    replace hG := lW_31 (if 0 ≤ y1 ∧ y1 < S 5 0 0 then (0 : Int) else 1) hG
    exact l_end Z0 ⟨ad, br, (rtM S y1), E, rt, _, rfl, rfl, LI_31 _ hLI, hG⟩ hS (lv_sub hl [2, 3, 4, 5, 6] rfl) hi (by omega) (by omega) kl
  · have e31 : rtM S y1 31 0 0 = 1 := by unfold rtM; rw [if_neg hz]; rfl
    refine lv_aload_n hx hb dL_law_555 rfl (lv_at hl 2 rfl) ?_
    refine l_ra hx hb (lv_at hl 1 rfl) (lv_at hl 0 rfl) dL_law_556 dL_law_557 ?_
    refine lv_iconst (v := zI ((1 : Nat) : Int)) hx hb dL_law_559 rfl ?_
    refine l_rb hx hb hX hbl hbA hS hL (i := i) (k := 1) (by omega) (y := y1) hy1 dL_law_560 dL_law_561 ?_
    refine lv_aload_n hx hb dL_law_562 rfl (lv_at hl 4 rfl) ?_
    refine l_o (As := [.ref (ad 0 0), .int (zI y1), .ref o]) (rest := []) (n := 3) (z1 := z) (v := .int (zI 1)) ⟨hx, hb, hml, hown, hts⟩ (t_L_rejected l hlt D cI cJ (lA3 (lA0 s.heap.size) br) ad (cAl S) S E rt (fun _ _ h => h) y1 o z y1B hI0 hz) gL_law_L_rejected rfl rfl rfl (by decide +kernel) ⟨Nat.le_of_ble_eq_true rfl, Nat.le_of_ble_eq_true rfl⟩ lOT_bl (fun U hU hW h => ⟨h, hP.warm hW (fun a h1 h2 => by rw [hU]; exact hS.2.1 a h1 h2) (fun _ _ q => q.1)⟩) hK hA hG hS rfl hl.1 rfl (Nat.le_of_ble_eq_true rfl) dL_law_563 ⟨by omega, by omega⟩ (fun H locs hG hS => ?_)
    refine lv_istore (lv' := [(5, .int (zI 1)), (4, .int (zI (i : Int))), (0, .ref b), (1, .ref (ad 0 0)), (2, .ref (br 32 0)), (3, .ref o)]) hx hb dL_law_566 hl (by decide) rfl (fun ls hl => ?_)
    refine lv_aload_n hx hb dL_law_568 rfl (lv_at hl 4 rfl) ?_
    refine l_ra hx hb (lv_at hl 2 rfl) (lv_at hl 1 rfl) dL_law_569 dL_law_570 ?_
    refine lv_iconst (v := zI ((1 : Nat) : Int)) hx hb dL_law_572 rfl ?_
    refine l_rb hx hb hX hbl hbA hS hL (i := i) (k := 1) (by omega) (y := y1) hy1 dL_law_573 dL_law_574 ?_
    refine l_r (As := [.int (zI y1)]) (rest := []) (S1 := (rtM S y1)) ⟨hx, hb, hml, hown, hts⟩ (m_X5_rejected l D cI cJ (lA2 (lA0 s.heap.size) ad S o) br S y1 y1B hI0) (cwV 1 hts gL_law_X5_rejected rfl rfl rfl (by decide +kernel) ⟨Nat.le_of_ble_eq_true rfl, Nat.le_of_ble_eq_true rfl⟩) hK hG hS rfl hl.1 rfl (Nat.le_of_ble_eq_true rfl) dL_law_575 ⟨by omega, by omega⟩ (fun H locs hG hS => ?_)
    refine lv_lstore (lv' := [(6, .long (zL (rrejV S y1))), (5, .int (zI 1)), (4, .int (zI (i : Int))), (0, .ref b), (1, .ref (ad 0 0)), (2, .ref (br 32 0)), (3, .ref o)]) hx hb dL_law_578 hl (by decide) rfl (fun ls hl => ?_)
    refine lv_aload_n hx hb dL_law_580 rfl (lv_at hl 5 rfl) ?_
    refine l_r (As := []) (rest := []) (S1 := (rtM S y1)) ⟨hx, hb, hml, hown, hts⟩ (m_X5_thrown l D cI cJ (lA2 (lA0 s.heap.size) ad S o) br (rtM S y1) (by rw [e31]; decide)) (cwV 0 hts gL_law_X5_thrown rfl rfl rfl (by decide +kernel) ⟨Nat.le_of_ble_eq_true rfl, Nat.le_of_ble_eq_true rfl⟩) hK hG hS rfl hl.1 rfl (Nat.le_of_ble_eq_true rfl) dL_law_581 ⟨by omega, by omega⟩ (fun H locs hG hS => ?_)
    rw [e31]
    refine lv_iload hx hb dL_law_584 (lv_at hl 1 rfl) ?_
    refine lv_icmp_eq (tgt := 591) hx hb dL_law_586 (by decide) (fun _ => ?_) (fun h => absurd rfl h)
    refine lv_iload hx hb dL_law_591 (lv_at hl 1 rfl) ?_
    refine lv_if_ne (tgt := 607) hx hb dL_law_593 (by decide) (fun _ => ?_) (fun h => absurd h (by decide))
    refine lv_goto (tgt := 764) hx hb dL_law_607 (by decide) ?_
    replace hG := lW_31 (if 0 ≤ y1 ∧ y1 < S 5 0 0 then (0 : Int) else 1) hG
    exact l_end Z0 ⟨ad, br, (rtM S y1), E, rt, _, rfl, rfl, LI_31 _ hLI, hG⟩ hS (lv_sub hl [2, 3, 4, 5, 6] rfl) hi (by omega) (by omega) kl
set_option maxHeartbeats 4000000 in
theorem k_time (Z : lZ p l s m c D cI cJ b L xs) (hI : lI D cI cJ s.heap.size a0 b0 o H) (hS : va_S (lA0 s.heap.size) s.heap H locs) (hl : lv_has ls 8 (lLs b a0 b0 o (i : Int))) (hi : i + 7 ≤ L) (hf : cells + 4 ≤ room_1.cells ∧ slots + 1033 ≤ room_1.slots) (kl : lK p l e s m below meth c Q D cI cJ b a0 b0 o i cells slots) : W p l e room_1 s m #[Value.ref b] below meth c H locs cells slots Q (F0 m 684 ls []) := by
  have Z0 := Z
  obtain ⟨hx, hb, hml, hown, hts, hK, hNw, hP, hX, hbl, hL, hlt⟩ := Z
  obtain ⟨ad, br, S, E, rt, z, rfl, rfl, hLI, hG⟩ := hI
  have hA : ∀ q, s.heap.size ≤ q → lA0 s.heap.size q := fun _ h => h
  have hbA : ¬ lA0 s.heap.size b := by unfold lA0; omega
  have hI0 := hLI.1
  obtain ⟨y1, hy1⟩ : ∃ y, (xs (i + 1)).toInt = y := ⟨_, rfl⟩
  have y1B : zB y1 := hy1 ▸ zI_B (xs (i + 1))
  obtain ⟨y2, hy2⟩ : ∃ y, (xs (i + 2)).toInt = y := ⟨_, rfl⟩
  have y2B : zB y2 := hy2 ▸ zI_B (xs (i + 2))
  by_cases hz : 0 ≤ y1 ∧ y1 < S 5 0 0
  · have e31 : rtM S y1 31 0 0 = 0 := by unfold rtM; rw [if_pos hz]; rfl
    refine lv_aload_n hx hb dL_law_684 rfl (lv_at hl 2 rfl) ?_
    refine l_ra hx hb (lv_at hl 1 rfl) (lv_at hl 0 rfl) dL_law_685 dL_law_686 ?_
    refine lv_iconst (v := zI ((1 : Nat) : Int)) hx hb dL_law_688 rfl ?_
    refine l_rb hx hb hX hbl hbA hS hL (i := i) (k := 1) (by omega) (y := y1) hy1 dL_law_689 dL_law_690 ?_
    refine l_ra hx hb (lv_at hl 1 rfl) (lv_at hl 0 rfl) dL_law_691 dL_law_692 ?_
    refine lv_iconst (v := zI ((2 : Nat) : Int)) hx hb dL_law_694 rfl ?_
    refine l_rb hx hb hX hbl hbA hS hL (i := i) (k := 2) (by omega) (y := y2) hy2 dL_law_695 dL_law_696 ?_
    refine lv_aload_n hx hb dL_law_697 rfl (lv_at hl 4 rfl) ?_
    refine l_o (As := [.ref (ad 0 0), .int (zI y1), .int (zI y2), .ref o]) (rest := []) (n := 4) (z1 := zL (rtimeV S y1 y2)) (v := .int (zI 0)) ⟨hx, hb, hml, hown, hts⟩ (m_L_time l D cI cJ (lA3 (lA0 s.heap.size) br) ad (cAl S) S E rt (fun _ _ h => h) y1 y2 y1.toNat o z y1B hI0 (by omega) (by omega) y2B) gL_law_L_time rfl rfl rfl (by decide +kernel) ⟨Nat.le_of_ble_eq_true rfl, Nat.le_of_ble_eq_true rfl⟩ lO_bl (fun U hU hW h => h) hK hA hG hS rfl hl.1 rfl (Nat.le_of_ble_eq_true rfl) dL_law_698 ⟨by omega, by omega⟩ (fun H locs hG hS => ?_)
    refine lv_istore (lv' := [(5, .int (zI 0)), (4, .int (zI (i : Int))), (0, .ref b), (1, .ref (ad 0 0)), (2, .ref (br 32 0)), (3, .ref o)]) hx hb dL_law_701 hl (by decide) rfl (fun ls hl => ?_)
    refine lv_aload_n hx hb dL_law_703 rfl (lv_at hl 4 rfl) ?_
    refine l_ra hx hb (lv_at hl 2 rfl) (lv_at hl 1 rfl) dL_law_704 dL_law_705 ?_
    refine lv_iconst (v := zI ((1 : Nat) : Int)) hx hb dL_law_707 rfl ?_
    refine l_rb hx hb hX hbl hbA hS hL (i := i) (k := 1) (by omega) (y := y1) hy1 dL_law_708 dL_law_709 ?_
    refine l_ra hx hb (lv_at hl 2 rfl) (lv_at hl 1 rfl) dL_law_710 dL_law_711 ?_
    refine lv_iconst (v := zI ((2 : Nat) : Int)) hx hb dL_law_713 rfl ?_
    refine l_rb hx hb hX hbl hbA hS hL (i := i) (k := 2) (by omega) (y := y2) hy2 dL_law_714 dL_law_715 ?_
    refine l_r (As := [.int (zI y1), .int (zI y2)]) (rest := []) (S1 := (rtM S y1)) ⟨hx, hb, hml, hown, hts⟩ (m_X5_time l D cI cJ (lA2 (lA0 s.heap.size) ad S o) br S y1 y2 y1B y2B hI0) (cwV 2 hts gL_law_X5_time rfl rfl rfl (by decide +kernel) ⟨Nat.le_of_ble_eq_true rfl, Nat.le_of_ble_eq_true rfl⟩) hK hG hS rfl hl.1 rfl (Nat.le_of_ble_eq_true rfl) dL_law_716 ⟨by omega, by omega⟩ (fun H locs hG hS => ?_)
    refine lv_lstore (lv' := [(6, .long (zL (rtimeV S y1 y2))), (5, .int (zI 0)), (4, .int (zI (i : Int))), (0, .ref b), (1, .ref (ad 0 0)), (2, .ref (br 32 0)), (3, .ref o)]) hx hb dL_law_719 hl (by decide) rfl (fun ls hl => ?_)
    refine lv_aload_n hx hb dL_law_721 rfl (lv_at hl 5 rfl) ?_
    refine l_r (As := []) (rest := []) (S1 := (rtM S y1)) ⟨hx, hb, hml, hown, hts⟩ (m_X5_thrown l D cI cJ (lA2 (lA0 s.heap.size) ad S o) br (rtM S y1) (by rw [e31]; decide)) (cwV 0 hts gL_law_X5_thrown rfl rfl rfl (by decide +kernel) ⟨Nat.le_of_ble_eq_true rfl, Nat.le_of_ble_eq_true rfl⟩) hK hG hS rfl hl.1 rfl (Nat.le_of_ble_eq_true rfl) dL_law_722 ⟨by omega, by omega⟩ (fun H locs hG hS => ?_)
    rw [e31]
    refine lv_iload hx hb dL_law_725 (lv_at hl 1 rfl) ?_
    refine lv_icmp_eq (tgt := 732) hx hb dL_law_727 (by decide) (fun _ => ?_) (fun h => absurd rfl h)
    refine lv_iload hx hb dL_law_732 (lv_at hl 1 rfl) ?_
    refine lv_if_ne (tgt := 748) hx hb dL_law_734 (by decide) (fun h => absurd rfl h) (fun _ => ?_)
    refine lv_aload_n hx hb dL_law_737 rfl (lv_at hl 6 rfl) ?_
    refine lv_iconst (v := zI 0) hx hb dL_law_738 rfl ?_
    refine o_lald hx hb hK hG.2.2.1 dL_law_739 ?_
    refine lv_lload hx hb dL_law_740 (lv_at hl 0 rfl) ?_
    refine W.lcmp hx hb dL_law_742 ?_
    refine lv_if_eq (tgt := 748) hx hb dL_law_743 (by decide) (fun _ => ?_) (fun h => absurd ((lgc_eq _ _).mpr rfl) h)
    refine lv_goto (tgt := 764) hx hb dL_law_748 (by decide) ?_
    replace hG := lW_31 (if 0 ≤ y1 ∧ y1 < S 5 0 0 then (0 : Int) else 1) hG
    exact l_end Z0 ⟨ad, br, (rtM S y1), E, rt, _, rfl, rfl, LI_31 _ hLI, hG⟩ hS (lv_sub hl [2, 3, 4, 5, 6] rfl) hi (by omega) (by omega) kl
  · have e31 : rtM S y1 31 0 0 = 1 := by unfold rtM; rw [if_neg hz]; rfl
    refine lv_aload_n hx hb dL_law_684 rfl (lv_at hl 2 rfl) ?_
    refine l_ra hx hb (lv_at hl 1 rfl) (lv_at hl 0 rfl) dL_law_685 dL_law_686 ?_
    refine lv_iconst (v := zI ((1 : Nat) : Int)) hx hb dL_law_688 rfl ?_
    refine l_rb hx hb hX hbl hbA hS hL (i := i) (k := 1) (by omega) (y := y1) hy1 dL_law_689 dL_law_690 ?_
    refine l_ra hx hb (lv_at hl 1 rfl) (lv_at hl 0 rfl) dL_law_691 dL_law_692 ?_
    refine lv_iconst (v := zI ((2 : Nat) : Int)) hx hb dL_law_694 rfl ?_
    refine l_rb hx hb hX hbl hbA hS hL (i := i) (k := 2) (by omega) (y := y2) hy2 dL_law_695 dL_law_696 ?_
    refine lv_aload_n hx hb dL_law_697 rfl (lv_at hl 4 rfl) ?_
    refine l_o (As := [.ref (ad 0 0), .int (zI y1), .int (zI y2), .ref o]) (rest := []) (n := 4) (z1 := z) (v := .int (zI 1)) ⟨hx, hb, hml, hown, hts⟩ (t_L_time l hlt D cI cJ (lA3 (lA0 s.heap.size) br) ad (cAl S) S E rt (fun _ _ h => h) y1 y2 o z y1B hI0 hz) gL_law_L_time rfl rfl rfl (by decide +kernel) ⟨Nat.le_of_ble_eq_true rfl, Nat.le_of_ble_eq_true rfl⟩ lOT_bl (fun U hU hW h => ⟨h, hP.warm hW (fun a h1 h2 => by rw [hU]; exact hS.2.1 a h1 h2) (fun _ _ q => q.1)⟩) hK hA hG hS rfl hl.1 rfl (Nat.le_of_ble_eq_true rfl) dL_law_698 ⟨by omega, by omega⟩ (fun H locs hG hS => ?_)
    refine lv_istore (lv' := [(5, .int (zI 1)), (4, .int (zI (i : Int))), (0, .ref b), (1, .ref (ad 0 0)), (2, .ref (br 32 0)), (3, .ref o)]) hx hb dL_law_701 hl (by decide) rfl (fun ls hl => ?_)
    refine lv_aload_n hx hb dL_law_703 rfl (lv_at hl 4 rfl) ?_
    refine l_ra hx hb (lv_at hl 2 rfl) (lv_at hl 1 rfl) dL_law_704 dL_law_705 ?_
    refine lv_iconst (v := zI ((1 : Nat) : Int)) hx hb dL_law_707 rfl ?_
    refine l_rb hx hb hX hbl hbA hS hL (i := i) (k := 1) (by omega) (y := y1) hy1 dL_law_708 dL_law_709 ?_
    refine l_ra hx hb (lv_at hl 2 rfl) (lv_at hl 1 rfl) dL_law_710 dL_law_711 ?_
    refine lv_iconst (v := zI ((2 : Nat) : Int)) hx hb dL_law_713 rfl ?_
    refine l_rb hx hb hX hbl hbA hS hL (i := i) (k := 2) (by omega) (y := y2) hy2 dL_law_714 dL_law_715 ?_
    refine l_r (As := [.int (zI y1), .int (zI y2)]) (rest := []) (S1 := (rtM S y1)) ⟨hx, hb, hml, hown, hts⟩ (m_X5_time l D cI cJ (lA2 (lA0 s.heap.size) ad S o) br S y1 y2 y1B y2B hI0) (cwV 2 hts gL_law_X5_time rfl rfl rfl (by decide +kernel) ⟨Nat.le_of_ble_eq_true rfl, Nat.le_of_ble_eq_true rfl⟩) hK hG hS rfl hl.1 rfl (Nat.le_of_ble_eq_true rfl) dL_law_716 ⟨by omega, by omega⟩ (fun H locs hG hS => ?_)
    refine lv_lstore (lv' := [(6, .long (zL (rtimeV S y1 y2))), (5, .int (zI 1)), (4, .int (zI (i : Int))), (0, .ref b), (1, .ref (ad 0 0)), (2, .ref (br 32 0)), (3, .ref o)]) hx hb dL_law_719 hl (by decide) rfl (fun ls hl => ?_)
    refine lv_aload_n hx hb dL_law_721 rfl (lv_at hl 5 rfl) ?_
    refine l_r (As := []) (rest := []) (S1 := (rtM S y1)) ⟨hx, hb, hml, hown, hts⟩ (m_X5_thrown l D cI cJ (lA2 (lA0 s.heap.size) ad S o) br (rtM S y1) (by rw [e31]; decide)) (cwV 0 hts gL_law_X5_thrown rfl rfl rfl (by decide +kernel) ⟨Nat.le_of_ble_eq_true rfl, Nat.le_of_ble_eq_true rfl⟩) hK hG hS rfl hl.1 rfl (Nat.le_of_ble_eq_true rfl) dL_law_722 ⟨by omega, by omega⟩ (fun H locs hG hS => ?_)
    rw [e31]
    refine lv_iload hx hb dL_law_725 (lv_at hl 1 rfl) ?_
    refine lv_icmp_eq (tgt := 732) hx hb dL_law_727 (by decide) (fun _ => ?_) (fun h => absurd rfl h)
    refine lv_iload hx hb dL_law_732 (lv_at hl 1 rfl) ?_
    refine lv_if_ne (tgt := 748) hx hb dL_law_734 (by decide) (fun _ => ?_) (fun h => absurd h (by decide))
    refine lv_goto (tgt := 764) hx hb dL_law_748 (by decide) ?_
    replace hG := lW_31 (if 0 ≤ y1 ∧ y1 < S 5 0 0 then (0 : Int) else 1) hG
    exact l_end Z0 ⟨ad, br, (rtM S y1), E, rt, _, rfl, rfl, LI_31 _ hLI, hG⟩ hS (lv_sub hl [2, 3, 4, 5, 6] rfl) hi (by omega) (by omega) kl
end LE
