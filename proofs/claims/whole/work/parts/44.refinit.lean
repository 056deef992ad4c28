/-! The reference's constructor. Stage n: the arrays of the fields before n are there -/
def rO (ad : Nat → Nat → Nat) (n f : Nat) : Value := if rK f = 2 then .int (zI 0) else if rK f = 3 then .long (zL 0) else if f < n then .ref (ad f 0) else .null
def rX (cI cJ : ClassId) (ad : Nat → Nat → Nat) (n k : Nat) : va_E := if k = 32 then .inr (6, (List.range 32).map (rO ad n)) else rE cI cJ ad (fun _ _ _ => 0) k
def rB (n k i : Nat) : Prop := i = 0 ∧ (k = 32 ∨ (k < n ∧ rK k < 2))
def rZ (D : va_G) (cI cJ : ClassId) (A : Nat → Prop) (b n : Nat) (H : Heap) : Prop := ∃ ad : Nat → Nat → Nat, ad 32 0 = b ∧ gQ D A ad (rB n) (fun k _ => rX cI cJ ad n k) H
theorem rX_obj (cI cJ : ClassId) (ad : Nat → Nat → Nat) (n : Nat) : rX cI cJ ad n 32 = .inr (6, (List.range 32).map (rO ad n)) := if_pos rfl
theorem rX_arr {cI cJ : ClassId} {ad : Nat → Nat → Nat} {n k : Nat} (h : k < 32) : rX cI cJ ad n k = rE cI cJ ad (fun _ _ _ => 0) k := if_neg (by omega)
theorem rE_ad {cI cJ : ClassId} {ad ad' : Nat → Nat → Nat} {S : Nat → Nat → Nat → Int} {k : Nat} (h : k < 32) : rE cI cJ ad' S k = rE cI cJ ad S k := by
  unfold rE
  have hk : ¬ k = 32 := by omega
  simp only [hk, if_false]
theorem rO_up {ad : Nat → Nat → Nat} {n v q : Nat} (h : n ≤ v) (f : Nat) : rO (adU ad v 0 q) n f = rO ad n f := by
  unfold rO adU
  by_cases hf : f < n
  · have e : (if f = v ∧ (0 : Nat) = 0 then q else ad f 0) = ad f 0 := if_neg (by omega)
    rw [e]
  · rw [if_neg hf, if_neg hf]
theorem rX_up {cI cJ : ClassId} {ad : Nat → Nat → Nat} {n v q : Nat} (h : n ≤ v) {k : Nat} (hk : k = 32 ∨ k < 32) : rX cI cJ (adU ad v 0 q) n k = rX cI cJ ad n k := by
  rcases hk with rfl | hk
  · rw [rX_obj, rX_obj]
    congr 2
    exact List.map_congr_left (fun f _ => rO_up h f)
  · rw [rX_arr hk, rX_arr hk]; exact rE_ad hk
theorem rO_get {ad : Nat → Nat → Nat} {n v : Nat} (h : v < 32) : ((List.range 32).map (rO ad n))[v]? = some (rO ad n v) := by
  rw [List.getElem?_map, List.getElem?_range h]; rfl
theorem rO_set {ad : Nat → Nat → Nat} {n v : Nat} (h : v < 32) (hn : n ≤ v) (hk : rK v < 2) (hs : ∀ k, n ≤ k → k < v → 2 ≤ rK k) : (List.range 32).map (rO ad (v + 1)) = ((List.range 32).map (rO ad n)).set v (.ref (ad v 0)) := by
  apply List.ext_getElem?
  intro j
  by_cases hj : j = v
  · subst hj
    rw [rO_get h, List.getElem?_set_self (by simpa using h)]
    unfold rO
    rw [if_neg (by omega), if_neg (by omega), if_pos (by omega)]
  · rw [List.getElem?_set_ne (Ne.symm hj)]
    by_cases hl : j < 32
    · rw [rO_get hl, rO_get hl]
      unfold rO
      by_cases h2 : rK j = 2
      · rw [if_pos h2, if_pos h2]
      · by_cases h3 : rK j = 3
        · rw [if_neg h2, if_pos h3, if_neg h2, if_pos h3]
        · rw [if_neg h2, if_neg h3, if_neg h2, if_neg h3]
          by_cases h4 : j < n
          · rw [if_pos h4, if_pos (by omega)]
          · have h5 : ¬ j < v := fun q => by
              have := hs j (by omega) q
              have h6 : rK j < 4 := by unfold rK; (repeat' split) <;> omega
              omega
            rw [if_neg h4, if_neg (by omega)]
    · rw [List.getElem?_eq_none (by simpa using hl), List.getElem?_eq_none (by simpa using hl)]
theorem rK_lt (v : Nat) : rK v < 4 := by unfold rK; (repeat' split) <;> omega
section RI
variable {p : Program} {l : Launch} {e : Env} {R : Room} {s : State} {m : MethodId} {args : Array Value} {below : List Frame} {meth : Method} {c : Code} {H : Heap} {locs : List Loc} {cells slots : Nat} {Q : State → Prop}
variable {cc : ByteArray} {pc : Nat} {ls : Array Slot} {rest : List Value} {D : va_G} {cI cJ : ClassId} {A : Nat → Prop} {H0 : Heap} {Ts : List Cond} {index : Nat} {b n : Nat}
theorem r_mk0 (hexec : p.tables.exec = Jvm.exec) (hb : c.code = cc) (hts : ∀ w ∈ Ts, w.before args s = true) (hin : ∀ w ∈ wsX50, w ∈ Ts) (hown : s.vm.findClass RX5 = some m.cls) (hin0 : meth.name = "<init>") (hK : va_K D vwCl [(cI, .int), (cJ, .long)] s) (hS : va_S A H0 H locs) (v : Nat) (hv : v < 32) (hk : rK v < 2) (hnv : n ≤ v) (hs : ∀ k, n ≤ k → k < v → 2 ≤ rK k) (hlink : (Cond.fieldLink RX5 index (TX5 v).1 (TX5 v).2.1 (TX5 v).2.2.1).before args s = true) (hfin : (TX5 v).2.2.2 = true ∧ (TX5 v).1 = RX5) {q : Nat} (hfit : fits (tyX5 v) (.ref q) = true) (hnar : narrow (tyX5 v) (.ref q) = .ref q)
    (hG : ∃ ad : Nat → Nat → Nat, ad 32 0 = b ∧ ad v 0 = q ∧ gQ D A ad (rB (v + 1)) (fun k _ => rX cI cJ ad n k) H) (hdp : decode cc pc = .ok (.putfield index, 3))
    (kk : ∀ (H1 : Heap) (locs1 : List Loc), rZ D cI cJ A b (v + 1) H1 → va_S A H0 H1 locs1 → W p l e R s m args below meth c H1 locs1 cells slots Q (F0 m (pc + 3) ls rest)) : W p l e R s m args below meth c H locs cells slots Q (F0 m pc ls (.ref q :: .ref b :: rest)) := by
  obtain ⟨ad, rfl, rfl, hG⟩ := hG
  exact q_put hexec hb hts hin tyX5 tyX5_ok nmX5 hown hK hG hS (k := 32) (i := 0) ⟨rfl, Or.inl rfl⟩ (rX_obj cI cJ ad n) rfl v hv hlink (Or.inr ⟨hfin.1, hin0, hfin.2⟩) (tyX5_ok v hv) hnar hfit (by simpa using hv)
    (E' := fun k _ => rX cI cJ ad (v + 1) k) (fun k' i' ha hne => by
      have hk' : k' < 32 := by rcases ha with ⟨h1, h2 | h2⟩; exact absurd ⟨h2, h1⟩ hne; omega
      show rX cI cJ ad (v + 1) k' = rX cI cJ ad n k'
      rw [rX_arr hk', rX_arr hk']) (by rw [rX_obj, rO_set hv hnv hk hs]) hdp (fun H1 locs1 hG1 hS1 => kk H1 locs1 ⟨ad, rfl, hG1⟩ hS1)
theorem r_mkI (hexec : p.tables.exec = Jvm.exec) (hb : c.code = cc) (hts : ∀ w ∈ Ts, w.before args s = true) (hin : ∀ w ∈ wsX50, w ∈ Ts) (hown : s.vm.findClass RX5 = some m.cls) (hin0 : meth.name = "<init>") (harr : (Cond.arrayClass .int).before args s = true) (hK : va_K D vwCl [(cI, .int), (cJ, .long)] s) (hG : rZ D cI cJ A b n H) (hS : va_S A H0 H locs) (hA : ∀ q, H0.size ≤ q → A q) (v : Nat) (hv : v < 32) (hk : rK v = 0) (hnv : n ≤ v) (hs : ∀ k, n ≤ k → k < v → 2 ≤ rK k) (hlink : (Cond.fieldLink RX5 index (TX5 v).1 (TX5 v).2.1 (TX5 v).2.2.1).before args s = true) (hfin : (TX5 v).2.2.2 = true ∧ (TX5 v).1 = RX5) (hfit : ∀ q, fits (tyX5 v) (.ref q) = true) (hnar : ∀ q, narrow (tyX5 v) (.ref q) = .ref q) (N : Nat) (hN : rN v * rW v = N) (hcells : cells + 1 ≤ R.cells) (hslots : slots + N ≤ R.slots) (hdg : decode cc pc = .ok (.newarray .int, 2)) (hdp : decode cc (pc + 2) = .ok (.putfield index, 3))
    (kk : ∀ (H1 : Heap) (locs1 : List Loc), rZ D cI cJ A b (v + 1) H1 → va_S A H0 H1 locs1 → W p l e R s m args below meth c H1 locs1 (cells + 1) (slots + N) Q (F0 m (pc + 2 + 3) ls rest)) : W p l e R s m args below meth c H locs cells slots Q (F0 m pc ls (.int (zI N) :: .ref b :: rest)) := by
  obtain ⟨ad, rfl, hG⟩ := hG
  have hNb : N < 2147483648 := by rw [← hN]; exact rN_B v
  have hNb2 : N * 4 ≤ 536870912 := by
    rw [← hN]
    have h1 : rN v ≤ 1000 := by unfold rN; (repeat' split) <;> omega
    have h2 : rW v ≤ 1000 := by unfold rW; (repeat' split) <;> omega
    have := Nat.mul_le_mul h1 h2
    omega
  refine q_newa hexec hb (atype := .int) harr (ty := .int) rfl hK hG hS hA 0 rfl (fun _ h => by cases h) (n := zI N) (N' := N) (a0 := (N, .inl (fun _ => zI 0))) rfl (fun q => by have := (zI_lt (a := (N : Int)) (b := 0) ⟨by omega, by omega⟩ ⟨by omega, by omega⟩).mp q; omega) (by rw [zI_cl (by omega) (by omega)]; simp) hNb2 hcells hslots hdg v 0 (ad' := fun q => adU ad v 0 q) (al' := rB (v + 1)) (E' := fun q k i => rX cI cJ (adU ad v 0 q) n k)
    (fun k' i' h => ?_) (fun q k i h => ?_) (fun q => by unfold adU; rw [if_pos ⟨rfl, rfl⟩]) (fun q k i h => rX_up hnv (by rcases h with ⟨_, h | h⟩; exact Or.inl h; exact Or.inr (by omega))) (fun q => by rw [rX_arr hv, rE_I hv hk, hN]) (fun q H1 hG1 hS1 => ?_)
  · rcases h with ⟨h0, h1 | ⟨h1, h2⟩⟩
    · exact Or.inl ⟨h0, Or.inl h1⟩
    · by_cases h3 : k' = v
      · exact Or.inr ⟨h3, h0⟩
      · by_cases h4 : k' < n
        · exact Or.inl ⟨h0, Or.inr ⟨h4, h2⟩⟩
        · have := hs k' (by omega) (by omega); omega
  · unfold adU
    rw [if_neg (fun z => by rcases h with ⟨_, h | h⟩ <;> omega)]
  · have e : adU ad v 0 q v 0 = q := by unfold adU; rw [if_pos ⟨rfl, rfl⟩]
    have e2 : adU ad v 0 q 32 0 = ad 32 0 := by unfold adU; rw [if_neg (fun z => by omega)]
    exact r_mk0 hexec hb hts hin hown hin0 hK hS1 v hv (by omega) hnv hs hlink hfin (hfit _) (hnar _) ⟨_, e2, rfl, hG1⟩ hdp kk
theorem r_mkJ (hexec : p.tables.exec = Jvm.exec) (hb : c.code = cc) (hts : ∀ w ∈ Ts, w.before args s = true) (hin : ∀ w ∈ wsX50, w ∈ Ts) (hown : s.vm.findClass RX5 = some m.cls) (hin0 : meth.name = "<init>") (harr : (Cond.arrayClass .long).before args s = true) (hK : va_K D vwCl [(cI, .int), (cJ, .long)] s) (hG : rZ D cI cJ A b n H) (hS : va_S A H0 H locs) (hA : ∀ q, H0.size ≤ q → A q) (v : Nat) (hv : v < 32) (hk : rK v = 1) (hnv : n ≤ v) (hs : ∀ k, n ≤ k → k < v → 2 ≤ rK k) (hlink : (Cond.fieldLink RX5 index (TX5 v).1 (TX5 v).2.1 (TX5 v).2.2.1).before args s = true) (hfin : (TX5 v).2.2.2 = true ∧ (TX5 v).1 = RX5) (hfit : ∀ q, fits (tyX5 v) (.ref q) = true) (hnar : ∀ q, narrow (tyX5 v) (.ref q) = .ref q) (N : Nat) (hN : rN v * rW v = N) (hcells : cells + 1 ≤ R.cells) (hslots : slots + N ≤ R.slots) (hdg : decode cc pc = .ok (.newarray .long, 2)) (hdp : decode cc (pc + 2) = .ok (.putfield index, 3))
    (kk : ∀ (H1 : Heap) (locs1 : List Loc), rZ D cI cJ A b (v + 1) H1 → va_S A H0 H1 locs1 → W p l e R s m args below meth c H1 locs1 (cells + 1) (slots + N) Q (F0 m (pc + 2 + 3) ls rest)) : W p l e R s m args below meth c H locs cells slots Q (F0 m pc ls (.int (zI N) :: .ref b :: rest)) := by
  obtain ⟨ad, rfl, hG⟩ := hG
  have hNb : N < 2147483648 := by rw [← hN]; exact rN_B v
  have hNb2 : N * 8 ≤ 536870912 := by
    rw [← hN]
    have h1 : rN v ≤ 1000 := by unfold rN; (repeat' split) <;> omega
    have h2 : rW v ≤ 1000 := by unfold rW; (repeat' split) <;> omega
    have := Nat.mul_le_mul h1 h2
    omega
  refine q_newa hexec hb (atype := .long) harr (ty := .long) rfl hK hG hS hA 1 rfl (fun _ h => by cases h) (n := zI N) (N' := N) (a0 := (N, .inr (.inl (fun _ => zL 0)))) rfl (fun q => by have := (zI_lt (a := (N : Int)) (b := 0) ⟨by omega, by omega⟩ ⟨by omega, by omega⟩).mp q; omega) (by rw [zI_cl (by omega) (by omega)]; simp) hNb2 hcells hslots hdg v 0 (ad' := fun q => adU ad v 0 q) (al' := rB (v + 1)) (E' := fun q k i => rX cI cJ (adU ad v 0 q) n k)
    (fun k' i' h => ?_) (fun q k i h => ?_) (fun q => by unfold adU; rw [if_pos ⟨rfl, rfl⟩]) (fun q k i h => rX_up hnv (by rcases h with ⟨_, h | h⟩; exact Or.inl h; exact Or.inr (by omega))) (fun q => by rw [rX_arr hv, rE_J hv hk, hN]) (fun q H1 hG1 hS1 => ?_)
  · rcases h with ⟨h0, h1 | ⟨h1, h2⟩⟩
    · exact Or.inl ⟨h0, Or.inl h1⟩
    · by_cases h3 : k' = v
      · exact Or.inr ⟨h3, h0⟩
      · by_cases h4 : k' < n
        · exact Or.inl ⟨h0, Or.inr ⟨h4, h2⟩⟩
        · have := hs k' (by omega) (by omega); omega
  · unfold adU
    rw [if_neg (fun z => by rcases h with ⟨_, h | h⟩ <;> omega)]
  · have e : adU ad v 0 q v 0 = q := by unfold adU; rw [if_pos ⟨rfl, rfl⟩]
    have e2 : adU ad v 0 q 32 0 = ad 32 0 := by unfold adU; rw [if_neg (fun z => by omega)]
    exact r_mk0 hexec hb hts hin hown hin0 hK hS1 v hv (by omega) hnv hs hlink hfin (hfit _) (hnar _) ⟨_, e2, rfl, hG1⟩ hdp kk
theorem rZ_end (h : rZ D cI cJ A b 30 H) : ∃ ad : Nat → Nat → Nat, ad 32 0 = b ∧ gR D cI cJ A ad (fun _ _ _ => 0) H := by
  obtain ⟨ad, h0, hG⟩ := h
  refine ⟨ad, h0, ⟨fun k i h => ?_, fun k i h => ?_, fun a b c d h1 h2 => ?_⟩⟩
  · have h' : rB 30 k i := by
      obtain ⟨h1, h2 | ⟨h2, h3⟩⟩ := h
      · exact ⟨h1, Or.inl h2⟩
      · refine ⟨h1, Or.inr ⟨?_, h3⟩⟩
        apply Decidable.byContradiction
        intro h4
        have : k = 30 ∨ k = 31 := by omega
        rcases this with rfl | rfl <;> revert h3 <;> decide
    have := hG.1 k i h'
    have e : rX cI cJ ad 30 k = rE cI cJ ad (fun _ _ _ => 0) k := by
      by_cases hk : k = 32
      · subst hk
        rw [rX_obj, rE_obj]
        refine congrArg (fun z => Sum.inr (6, z)) (List.map_congr_left (fun f hf => ?_))
        have hf := List.mem_range.mp hf
        unfold rO rF
        by_cases h2 : rK f = 2
        · rw [if_pos h2, if_pos h2]
        · by_cases h3 : rK f = 3
          · rw [if_neg h2, if_pos h3, if_neg h2, if_pos h3]
          · rw [if_neg h2, if_neg h3, if_neg h2, if_neg h3, if_pos]
            apply Decidable.byContradiction
            intro h4
            have : f = 30 ∨ f = 31 := by omega
            rcases this with rfl | rfl <;> exact h2 (by decide)
      · exact if_neg hk
    show va_at D vwCl (ad k i, rE cI cJ ad (fun _ _ _ => 0) k) H
    rw [← e]; exact this
  · refine hG.2.1 k i ?_
    obtain ⟨h1, h2 | ⟨h2, h3⟩⟩ := h
    · exact ⟨h1, Or.inl h2⟩
    · refine ⟨h1, Or.inr ⟨?_, h3⟩⟩
      apply Decidable.byContradiction
      intro h4
      have : k = 30 ∨ k = 31 := by omega
      rcases this with rfl | rfl <;> revert h3 <;> decide
  · have key : ∀ k i, rA k i → rB 30 k i := fun k i h => by
      obtain ⟨h1, h2 | ⟨h2, h3⟩⟩ := h
      · exact ⟨h1, Or.inl h2⟩
      · refine ⟨h1, Or.inr ⟨?_, h3⟩⟩
        apply Decidable.byContradiction
        intro h4
        have : k = 30 ∨ k = 31 := by omega
        rcases this with rfl | rfl <;> revert h3 <;> decide
    exact hG.2.2 a b c d (key _ _ h1) (key _ _ h2)
end RI
def rZU (D : va_G) (cI cJ : ClassId) (A : Nat → Prop) (b n : Nat) (U : State) : Prop := rZ D cI cJ A b n U.heap ∧ va_K D vwCl [(cI, .int), (cJ, .long)] U ∧ ∀ q, U.heap.size ≤ q → A q
theorem rZU_blind {D : va_G} {cI cJ : ClassId} {A : Nat → Prop} {b n : Nat} {as : List Value} : FrameBlind (va_Pc as (rZU D cI cJ A b n)) := fun a U g mk q => by
  obtain ⟨q0, qP, qK, qA⟩ := q
  exact ⟨q0, qP, va_K.moved (u := U) (U := U.calling g mk a) (Vm.Alike.refl U.vm) qK, qA⟩
def rS0 (z : Int) : Nat → Nat → Nat → Int := su (fun _ _ _ => 0) 26 0 0 z
set_option maxHeartbeats 4000000 in
set_option maxRecDepth 100000 in
theorem m_X5_init (l : Launch) (D : va_G) (cI cJ : ClassId) (A : Nat → Prop) (b : Nat) (z : Int) : Met l yX5_init wsX5_init ({ frames := 1, cells := 24, slots := 15688, locals := 20 }) (va_Pc [.ref b, .long (zL z)] (rZU D cI cJ A b 0)) (gO none (fun U => ∃ ad : Nat → Nat → Nat, ad 32 0 = b ∧ gRU D cI cJ A ad (rS0 z) U) A) 24 15688 A := by
  refine Met.ofW (cc := cX5_init) (maxL := 3) (ret := none) (by decide) rfl ?_
  intro p e s m0 args below meth c s₁ B hml hv
  obtain ⟨rfl, hG, hK, hA⟩ := hv
  have hx := B.exec
  have hb := B.bytes
  have hr := B.returns
  have hts := atoms_spec (ws := wsX5_init) B.pre
  have hown : s.vm.findClass RX5 = some m0.cls := findClass_of_methodNamed B.named
  have hlocks := B.notSynchronized
  have hin : ∀ w ∈ wsX50, w ∈ wsX5_init := by decide +kernel
  have hin0 : meth.name = "<init>" := (name_of_methodNamed B.named B.method).1
  have hS : va_S A s.heap s.heap [] := va_S.rf
  have hl := lv_entry ([.ref b, .long (zL z)]) (n := 3) (Nat.le_of_ble_eq_true rfl)
  rw [lg_entry_eq]
  generalize (lg_sl ([.ref b, .long (zL z)]) ++ List.replicate (3 - (lg_sl ([.ref b, .long (zL z)])).length) Slot.unset).toArray = ls at hl ⊢
  replace hl : lv_has ls 3 [(0, .ref b), (1, .long (zL z))] := hl
  refine lv_aload_n hx hb dX5_init_0 rfl (lv_at hl 0 rfl) ?_
  refine W.objInit hx hb hown (hts (.methodLink RX5 1 objectInit) (by decide +kernel)) (hts (.instanceMethod objectInit) (by decide +kernel)) (hts (.code objectInit ⟨#[0xb1]⟩ 1 none) (by decide +kernel)) rfl (by rw [hml]; exact hl.1) rfl dX5_init_1 (Nat.le_of_ble_eq_true rfl) (Nat.le_of_ble_eq_true rfl) ?_
  refine W.eq (g2 := F0 m0 4 ls []) rfl ?_
  refine lv_aload_n hx hb dX5_init_4 rfl (lv_at hl 0 rfl) ?_
  refine lv_bipush (v := zI 12) hx hb dX5_init_5 (by decide) ?_
  refine r_mkI hx hb hts hin hown hin0 (hts (.arrayClass .int) (by decide +kernel)) hK hG hS hA 0 (by decide) (by decide) (n := 0) (by decide) (by intro k h1 h2; omega) (hts (.fieldLink RX5 9 "LineEventsModel" "takes" "[I") (by decide +kernel)) ⟨rfl, rfl⟩ (fun _ => rfl) (fun _ => rfl) 12 (by decide) (Nat.le_of_ble_eq_true rfl) (Nat.le_of_ble_eq_true rfl) dX5_init_7 dX5_init_9 (fun H locs hG hS => ?_)
  refine lv_aload_n hx hb dX5_init_12 rfl (lv_at hl 0 rfl) ?_
  refine lv_bipush (v := zI 12) hx hb dX5_init_13 (by decide) ?_
  refine r_mkI hx hb hts hin hown hin0 (hts (.arrayClass .int) (by decide +kernel)) hK hG hS hA 1 (by decide) (by decide) (n := 1) (by decide) (by intro k h1 h2; omega) (hts (.fieldLink RX5 13 "LineEventsModel" "before" "[I") (by decide +kernel)) ⟨rfl, rfl⟩ (fun _ => rfl) (fun _ => rfl) 12 (by decide) (Nat.le_of_ble_eq_true rfl) (Nat.le_of_ble_eq_true rfl) dX5_init_15 dX5_init_17 (fun H locs hG hS => ?_)
  refine lv_aload_n hx hb dX5_init_20 rfl (lv_at hl 0 rfl) ?_
  refine lv_bipush (v := zI 12) hx hb dX5_init_21 (by decide) ?_
  refine r_mkI hx hb hts hin hown hin0 (hts (.arrayClass .int) (by decide +kernel)) hK hG hS hA 2 (by decide) (by decide) (n := 2) (by decide) (by intro k h1 h2; omega) (hts (.fieldLink RX5 16 "LineEventsModel" "behind" "[I") (by decide +kernel)) ⟨rfl, rfl⟩ (fun _ => rfl) (fun _ => rfl) 12 (by decide) (Nat.le_of_ble_eq_true rfl) (Nat.le_of_ble_eq_true rfl) dX5_init_23 dX5_init_25 (fun H locs hG hS => ?_)
  refine lv_aload_n hx hb dX5_init_28 rfl (lv_at hl 0 rfl) ?_
  refine lv_bipush (v := zI 12) hx hb dX5_init_29 (by decide) ?_
  refine r_mkI hx hb hts hin hown hin0 (hts (.arrayClass .int) (by decide +kernel)) hK hG hS hA 3 (by decide) (by decide) (n := 3) (by decide) (by intro k h1 h2; omega) (hts (.fieldLink RX5 19 "LineEventsModel" "room" "[I") (by decide +kernel)) ⟨rfl, rfl⟩ (fun _ => rfl) (fun _ => rfl) 12 (by decide) (Nat.le_of_ble_eq_true rfl) (Nat.le_of_ble_eq_true rfl) dX5_init_31 dX5_init_33 (fun H locs hG hS => ?_)
  refine lv_aload_n hx hb dX5_init_36 rfl (lv_at hl 0 rfl) ?_
  refine lv_bipush (v := zI 12) hx hb dX5_init_37 (by decide) ?_
  refine r_mkI hx hb hts hin hown hin0 (hts (.arrayClass .int) (by decide +kernel)) hK hG hS hA 4 (by decide) (by decide) (n := 4) (by decide) (by intro k h1 h2; omega) (hts (.fieldLink RX5 22 "LineEventsModel" "delay" "[I") (by decide +kernel)) ⟨rfl, rfl⟩ (fun _ => rfl) (fun _ => rfl) 12 (by decide) (Nat.le_of_ble_eq_true rfl) (Nat.le_of_ble_eq_true rfl) dX5_init_39 dX5_init_41 (fun H locs hG hS => ?_)
  refine lv_aload_n hx hb dX5_init_44 rfl (lv_at hl 0 rfl) ?_
  refine lv_bipush (v := zI 12) hx hb dX5_init_45 (by decide) ?_
  refine r_mkI hx hb hts hin hown hin0 (hts (.arrayClass .int) (by decide +kernel)) hK hG hS hA 6 (by decide) (by decide) (n := 5) (by decide) (by intro k h1 h2; have h3 : k = 5 := (by omega); rcases h3 with rfl <;> decide) (hts (.fieldLink RX5 25 "LineEventsModel" "bottle" "[I") (by decide +kernel)) ⟨rfl, rfl⟩ (fun _ => rfl) (fun _ => rfl) 12 (by decide) (Nat.le_of_ble_eq_true rfl) (Nat.le_of_ble_eq_true rfl) dX5_init_47 dX5_init_49 (fun H locs hG hS => ?_)
  refine lv_aload_n hx hb dX5_init_52 rfl (lv_at hl 0 rfl) ?_
  refine lv_bipush (v := zI 12) hx hb dX5_init_53 (by decide) ?_
  refine r_mkI hx hb hts hin hown hin0 (hts (.arrayClass .int) (by decide +kernel)) hK hG hS hA 7 (by decide) (by decide) (n := 7) (by decide) (by intro k h1 h2; omega) (hts (.fieldLink RX5 28 "LineEventsModel" "worked" "[I") (by decide +kernel)) ⟨rfl, rfl⟩ (fun _ => rfl) (fun _ => rfl) 12 (by decide) (Nat.le_of_ble_eq_true rfl) (Nat.le_of_ble_eq_true rfl) dX5_init_55 dX5_init_57 (fun H locs hG hS => ?_)
  refine lv_aload_n hx hb dX5_init_60 rfl (lv_at hl 0 rfl) ?_
  refine lv_bipush (v := zI 12) hx hb dX5_init_61 (by decide) ?_
  refine r_mkI hx hb hts hin hown hin0 (hts (.arrayClass .int) (by decide +kernel)) hK hG hS hA 8 (by decide) (by decide) (n := 8) (by decide) (by intro k h1 h2; omega) (hts (.fieldLink RX5 31 "LineEventsModel" "faultEnd" "[I") (by decide +kernel)) ⟨rfl, rfl⟩ (fun _ => rfl) (fun _ => rfl) 12 (by decide) (Nat.le_of_ble_eq_true rfl) (Nat.le_of_ble_eq_true rfl) dX5_init_63 dX5_init_65 (fun H locs hG hS => ?_)
  refine lv_aload_n hx hb dX5_init_68 rfl (lv_at hl 0 rfl) ?_
  refine lv_sipush (v := zI 12000) hx hb dX5_init_69 (by decide) ?_
  refine r_mkI hx hb hts hin hown hin0 (hts (.arrayClass .int) (by decide +kernel)) hK hG hS hA 9 (by decide) (by decide) (n := 9) (by decide) (by intro k h1 h2; omega) (hts (.fieldLink RX5 34 "LineEventsModel" "came" "[I") (by decide +kernel)) ⟨rfl, rfl⟩ (fun _ => rfl) (fun _ => rfl) 12000 (by decide) (Nat.le_of_ble_eq_true rfl) (Nat.le_of_ble_eq_true rfl) dX5_init_72 dX5_init_74 (fun H locs hG hS => ?_)
  refine lv_aload_n hx hb dX5_init_77 rfl (lv_at hl 0 rfl) ?_
  refine lv_bipush (v := zI 12) hx hb dX5_init_78 (by decide) ?_
  refine r_mkI hx hb hts hin hown hin0 (hts (.arrayClass .int) (by decide +kernel)) hK hG hS hA 10 (by decide) (by decide) (n := 10) (by decide) (by intro k h1 h2; omega) (hts (.fieldLink RX5 37 "LineEventsModel" "first" "[I") (by decide +kernel)) ⟨rfl, rfl⟩ (fun _ => rfl) (fun _ => rfl) 12 (by decide) (Nat.le_of_ble_eq_true rfl) (Nat.le_of_ble_eq_true rfl) dX5_init_80 dX5_init_82 (fun H locs hG hS => ?_)
  refine lv_aload_n hx hb dX5_init_85 rfl (lv_at hl 0 rfl) ?_
  refine lv_bipush (v := zI 12) hx hb dX5_init_86 (by decide) ?_
  refine r_mkI hx hb hts hin hown hin0 (hts (.arrayClass .int) (by decide +kernel)) hK hG hS hA 11 (by decide) (by decide) (n := 11) (by decide) (by intro k h1 h2; omega) (hts (.fieldLink RX5 40 "LineEventsModel" "many" "[I") (by decide +kernel)) ⟨rfl, rfl⟩ (fun _ => rfl) (fun _ => rfl) 12 (by decide) (Nat.le_of_ble_eq_true rfl) (Nat.le_of_ble_eq_true rfl) dX5_init_88 dX5_init_90 (fun H locs hG hS => ?_)
  refine lv_aload_n hx hb dX5_init_93 rfl (lv_at hl 0 rfl) ?_
  refine lv_bipush (v := zI 48) hx hb dX5_init_94 (by decide) ?_
  refine r_mkJ hx hb hts hin hown hin0 (hts (.arrayClass .long) (by decide +kernel)) hK hG hS hA 12 (by decide) (by decide) (n := 12) (by decide) (by intro k h1 h2; omega) (hts (.fieldLink RX5 43 "LineEventsModel" "faultAbove" "[J") (by decide +kernel)) ⟨rfl, rfl⟩ (fun _ => rfl) (fun _ => rfl) 48 (by decide) (Nat.le_of_ble_eq_true rfl) (Nat.le_of_ble_eq_true rfl) dX5_init_96 dX5_init_98 (fun H locs hG hS => ?_)
  refine lv_aload_n hx hb dX5_init_101 rfl (lv_at hl 0 rfl) ?_
  refine lv_bipush (v := zI 48) hx hb dX5_init_102 (by decide) ?_
  refine r_mkJ hx hb hts hin hown hin0 (hts (.arrayClass .long) (by decide +kernel)) hK hG hS hA 13 (by decide) (by decide) (n := 13) (by decide) (by intro k h1 h2; omega) (hts (.fieldLink RX5 47 "LineEventsModel" "faultBelow" "[J") (by decide +kernel)) ⟨rfl, rfl⟩ (fun _ => rfl) (fun _ => rfl) 48 (by decide) (Nat.le_of_ble_eq_true rfl) (Nat.le_of_ble_eq_true rfl) dX5_init_104 dX5_init_106 (fun H locs hG hS => ?_)
  refine lv_aload_n hx hb dX5_init_109 rfl (lv_at hl 0 rfl) ?_
  refine lv_bipush (v := zI 48) hx hb dX5_init_110 (by decide) ?_
  refine r_mkI hx hb hts hin hown hin0 (hts (.arrayClass .int) (by decide +kernel)) hK hG hS hA 14 (by decide) (by decide) (n := 14) (by decide) (by intro k h1 h2; omega) (hts (.fieldLink RX5 50 "LineEventsModel" "faultTenths" "[I") (by decide +kernel)) ⟨rfl, rfl⟩ (fun _ => rfl) (fun _ => rfl) 48 (by decide) (Nat.le_of_ble_eq_true rfl) (Nat.le_of_ble_eq_true rfl) dX5_init_112 dX5_init_114 (fun H locs hG hS => ?_)
  refine lv_aload_n hx hb dX5_init_117 rfl (lv_at hl 0 rfl) ?_
  refine lv_bipush (v := zI 12) hx hb dX5_init_118 (by decide) ?_
  refine r_mkI hx hb hts hin hown hin0 (hts (.arrayClass .int) (by decide +kernel)) hK hG hS hA 15 (by decide) (by decide) (n := 15) (by decide) (by intro k h1 h2; omega) (hts (.fieldLink RX5 53 "LineEventsModel" "faults" "[I") (by decide +kernel)) ⟨rfl, rfl⟩ (fun _ => rfl) (fun _ => rfl) 12 (by decide) (Nat.le_of_ble_eq_true rfl) (Nat.le_of_ble_eq_true rfl) dX5_init_120 dX5_init_122 (fun H locs hG hS => ?_)
  refine lv_aload_n hx hb dX5_init_125 rfl (lv_at hl 0 rfl) ?_
  refine lv_bipush (v := zI 64) hx hb dX5_init_126 (by decide) ?_
  refine r_mkI hx hb hts hin hown hin0 (hts (.arrayClass .int) (by decide +kernel)) hK hG hS hA 16 (by decide) (by decide) (n := 16) (by decide) (by intro k h1 h2; omega) (hts (.fieldLink RX5 56 "LineEventsModel" "rowMachine" "[I") (by decide +kernel)) ⟨rfl, rfl⟩ (fun _ => rfl) (fun _ => rfl) 64 (by decide) (Nat.le_of_ble_eq_true rfl) (Nat.le_of_ble_eq_true rfl) dX5_init_128 dX5_init_130 (fun H locs hG hS => ?_)
  refine lv_aload_n hx hb dX5_init_133 rfl (lv_at hl 0 rfl) ?_
  refine lv_bipush (v := zI 64) hx hb dX5_init_134 (by decide) ?_
  refine r_mkI hx hb hts hin hown hin0 (hts (.arrayClass .int) (by decide +kernel)) hK hG hS hA 17 (by decide) (by decide) (n := 17) (by decide) (by intro k h1 h2; omega) (hts (.fieldLink RX5 59 "LineEventsModel" "rowFrom" "[I") (by decide +kernel)) ⟨rfl, rfl⟩ (fun _ => rfl) (fun _ => rfl) 64 (by decide) (Nat.le_of_ble_eq_true rfl) (Nat.le_of_ble_eq_true rfl) dX5_init_136 dX5_init_138 (fun H locs hG hS => ?_)
  refine lv_aload_n hx hb dX5_init_141 rfl (lv_at hl 0 rfl) ?_
  refine lv_bipush (v := zI 64) hx hb dX5_init_142 (by decide) ?_
  refine r_mkI hx hb hts hin hown hin0 (hts (.arrayClass .int) (by decide +kernel)) hK hG hS hA 18 (by decide) (by decide) (n := 18) (by decide) (by intro k h1 h2; omega) (hts (.fieldLink RX5 62 "LineEventsModel" "rowTo" "[I") (by decide +kernel)) ⟨rfl, rfl⟩ (fun _ => rfl) (fun _ => rfl) 64 (by decide) (Nat.le_of_ble_eq_true rfl) (Nat.le_of_ble_eq_true rfl) dX5_init_144 dX5_init_146 (fun H locs hG hS => ?_)
  refine lv_aload_n hx hb dX5_init_149 rfl (lv_at hl 0 rfl) ?_
  refine lv_bipush (v := zI 64) hx hb dX5_init_150 (by decide) ?_
  refine r_mkI hx hb hts hin hown hin0 (hts (.arrayClass .int) (by decide +kernel)) hK hG hS hA 19 (by decide) (by decide) (n := 19) (by decide) (by intro k h1 h2; omega) (hts (.fieldLink RX5 65 "LineEventsModel" "rowCause" "[I") (by decide +kernel)) ⟨rfl, rfl⟩ (fun _ => rfl) (fun _ => rfl) 64 (by decide) (Nat.le_of_ble_eq_true rfl) (Nat.le_of_ble_eq_true rfl) dX5_init_152 dX5_init_154 (fun H locs hG hS => ?_)
  refine lv_aload_n hx hb dX5_init_157 rfl (lv_at hl 0 rfl) ?_
  refine lv_sipush (v := zI 144) hx hb dX5_init_158 (by decide) ?_
  refine r_mkJ hx hb hts hin hown hin0 (hts (.arrayClass .long) (by decide +kernel)) hK hG hS hA 21 (by decide) (by decide) (n := 20) (by decide) (by intro k h1 h2; have h3 : k = 20 := (by omega); rcases h3 with rfl <;> decide) (hts (.fieldLink RX5 68 "LineEventsModel" "times" "[J") (by decide +kernel)) ⟨rfl, rfl⟩ (fun _ => rfl) (fun _ => rfl) 144 (by decide) (Nat.le_of_ble_eq_true rfl) (Nat.le_of_ble_eq_true rfl) dX5_init_161 dX5_init_163 (fun H locs hG hS => ?_)
  refine lv_aload_n hx hb dX5_init_166 rfl (lv_at hl 0 rfl) ?_
  refine lv_bipush (v := zI 12) hx hb dX5_init_167 (by decide) ?_
  refine r_mkJ hx hb hts hin hown hin0 (hts (.arrayClass .long) (by decide +kernel)) hK hG hS hA 22 (by decide) (by decide) (n := 22) (by decide) (by intro k h1 h2; omega) (hts (.fieldLink RX5 71 "LineEventsModel" "rejects" "[J") (by decide +kernel)) ⟨rfl, rfl⟩ (fun _ => rfl) (fun _ => rfl) 12 (by decide) (Nat.le_of_ble_eq_true rfl) (Nat.le_of_ble_eq_true rfl) dX5_init_169 dX5_init_171 (fun H locs hG hS => ?_)
  refine lv_aload_n hx hb dX5_init_174 rfl (lv_at hl 0 rfl) ?_
  refine lv_sipush (v := zI 1000) hx hb dX5_init_175 (by decide) ?_
  refine r_mkI hx hb hts hin hown hin0 (hts (.arrayClass .int) (by decide +kernel)) hK hG hS hA 27 (by decide) (by decide) (n := 23) (by decide) (by intro k h1 h2; have h3 : k = 23 ∨ k = 24 ∨ k = 25 ∨ k = 26 := (by omega); rcases h3 with rfl | rfl | rfl | rfl <;> decide) (hts (.fieldLink RX5 74 "LineEventsModel" "eventAt" "[I") (by decide +kernel)) ⟨rfl, rfl⟩ (fun _ => rfl) (fun _ => rfl) 1000 (by decide) (Nat.le_of_ble_eq_true rfl) (Nat.le_of_ble_eq_true rfl) dX5_init_178 dX5_init_180 (fun H locs hG hS => ?_)
  refine lv_aload_n hx hb dX5_init_183 rfl (lv_at hl 0 rfl) ?_
  refine lv_sipush (v := zI 1000) hx hb dX5_init_184 (by decide) ?_
  refine r_mkI hx hb hts hin hown hin0 (hts (.arrayClass .int) (by decide +kernel)) hK hG hS hA 28 (by decide) (by decide) (n := 28) (by decide) (by intro k h1 h2; omega) (hts (.fieldLink RX5 77 "LineEventsModel" "eventMachine" "[I") (by decide +kernel)) ⟨rfl, rfl⟩ (fun _ => rfl) (fun _ => rfl) 1000 (by decide) (Nat.le_of_ble_eq_true rfl) (Nat.le_of_ble_eq_true rfl) dX5_init_187 dX5_init_189 (fun H locs hG hS => ?_)
  refine lv_aload_n hx hb dX5_init_192 rfl (lv_at hl 0 rfl) ?_
  refine lv_sipush (v := zI 1000) hx hb dX5_init_193 (by decide) ?_
  refine r_mkI hx hb hts hin hown hin0 (hts (.arrayClass .int) (by decide +kernel)) hK hG hS hA 29 (by decide) (by decide) (n := 29) (by decide) (by intro k h1 h2; omega) (hts (.fieldLink RX5 80 "LineEventsModel" "eventKind" "[I") (by decide +kernel)) ⟨rfl, rfl⟩ (fun _ => rfl) (fun _ => rfl) 1000 (by decide) (Nat.le_of_ble_eq_true rfl) (Nat.le_of_ble_eq_true rfl) dX5_init_196 dX5_init_198 (fun H locs hG hS => ?_)
  obtain ⟨ad, h9, hG9⟩ := rZ_end hG
  clear hG
  subst h9
  refine lv_aload_n hx hb dX5_init_201 rfl (lv_at hl 0 rfl) ?_
  refine lv_lload_n hx hb dX5_init_202 rfl (lv_at hl 1 rfl) ?_
  refine r_putJ hx hb hts hin hown hK hG9 hS 26 (by decide) rfl (hts (.fieldLink RX5 83 "LineEventsModel" "drawn" "J") (by decide +kernel)) rfl rfl (z := z) dX5_init_203 (fun H locs hG hS => ?_)
  exact W.vret hx hb hr (fun t ht hW => ⟨rfl, ⟨ad, rfl, by rw [ht]; exact hG, va_K.moved hW.alike hK⟩, hS.F ht⟩) hS.2.2 dX5_init_206
