/-! Instructions over whole numbers -/
def bZ (P : Prop) [Decidable P] : Int := if P then 1 else 0
theorem bZ_0 {P : Prop} [Decidable P] : bZ P = 0 ↔ ¬ P := by unfold bZ; split <;> simp_all
theorem bZ_1 {P : Prop} [Decidable P] : bZ P = 1 ↔ P := by unfold bZ; split <;> simp_all
theorem bZ_B (P : Prop) [Decidable P] : zB (bZ P) := by unfold bZ; split <;> exact ⟨by omega, by omega⟩
theorem bZ_t {P : Prop} [Decidable P] (h : P) : bZ P = 1 := if_pos h
theorem bZ_f {P : Prop} [Decidable P] (h : ¬ P) : bZ P = 0 := if_neg h
theorem bZ_c {P Q : Prop} [Decidable P] [Decidable Q] (h : P ↔ Q) : bZ P = bZ Q := by unfold bZ; simp [h]
def rf (ad : Nat → Nat → Nat) (t : Nat) (z : Int) : Value := if z < 0 then .null else .ref (ad t z.toNat)
theorem rf_n {ad : Nat → Nat → Nat} {t : Nat} {z : Int} (h : z < 0) : rf ad t z = .null := if_pos h
theorem rf_s {ad : Nat → Nat → Nat} {t : Nat} {z : Int} {j : Nat} (h : z = j) : rf ad t z = .ref (ad t j) := by subst h; unfold rf; rw [if_neg (by omega)]; simp
theorem lgc_lt (x y : Int64) : lg_cmp x y < 0 ↔ x < y := by
  unfold lg_cmp
  by_cases h1 : y < x
  · simp only [h1, if_true]; constructor
    · intro h; exact absurd h (by decide)
    · intro h; exact absurd (Int64.lt_iff_toInt_lt.mp h) (by have := Int64.lt_iff_toInt_lt.mp h1; omega)
  · by_cases h2 : x = y
    · subst h2; simp
    · simp only [h1, h2, if_false]; constructor
      · intro _; rw [Int64.lt_iff_toInt_lt] at *; have : x.toInt ≠ y.toInt := fun h => h2 (Int64.toInt_inj.mp h); omega
      · intro _; decide
theorem lgc_gt (x y : Int64) : 0 < lg_cmp x y ↔ y < x := by
  unfold lg_cmp
  by_cases h1 : y < x
  · simp only [h1, if_true]; constructor
    · intro _; trivial
    · intro _; decide
  · by_cases h2 : x = y
    · subst h2; simp
    · simp only [h1, h2, if_false]; constructor
      · intro h; exact absurd h (by decide)
      · intro h; exact h.elim
theorem lgc_eq (x y : Int64) : lg_cmp x y = 0 ↔ x = y := by
  unfold lg_cmp
  by_cases h1 : y < x
  · simp only [h1, if_true]; constructor
    · intro h; exact absurd h (by decide)
    · intro h; subst h; exact absurd (Int64.lt_iff_toInt_lt.mp h1) (by omega)
  · by_cases h2 : x = y
    · subst h2; simp
    · simp only [h1, h2, if_false]; constructor
      · intro h; exact absurd h (by decide)
      · intro h; exact absurd h (by simp [h2])
theorem lgc_le (x y : Int64) : lg_cmp x y ≤ 0 ↔ x ≤ y := by
  have h := lgc_gt x y
  rw [Int32.lt_iff_toInt_lt, Int64.lt_iff_toInt_lt] at h
  rw [Int32.le_iff_toInt_le, Int64.le_iff_toInt_le]
  omega
theorem lgc_ge (x y : Int64) : 0 ≤ lg_cmp x y ↔ y ≤ x := by
  have h := lgc_lt x y
  rw [Int32.lt_iff_toInt_lt, Int64.lt_iff_toInt_lt] at h
  rw [Int32.le_iff_toInt_le, Int64.le_iff_toInt_le]
  omega
section ZR
variable {p : Program} {l : Launch} {e : Env} {R : Room} {s : State} {m : MethodId} {args : Array Value} {below : List Frame} {meth : Method} {c : Code} {H : Heap} {locs : List Loc} {cells slots : Nat} {Q : State → Prop}
variable {cc : ByteArray} {pc : Nat} {ls : Array Slot} {rest : List Value} {ad : Nat → Nat → Nat} {t : Nat}
theorem z_iadd (hexec : p.tables.exec = Jvm.exec) (hb : c.code = cc) {x y : Int} (hdg : decode cc pc = .ok (.iadd, 1)) (k : W p l e R s m args below meth c H locs cells slots Q (F0 m (pc + 1) ls (.int (zI (x + y)) :: rest))) : W p l e R s m args below meth c H locs cells slots Q (F0 m pc ls (.int (zI y) :: .int (zI x) :: rest)) := lv_iadd hexec hb hdg (by rw [zI_add]; exact k)
theorem z_isub (hexec : p.tables.exec = Jvm.exec) (hb : c.code = cc) {x y : Int} (hdg : decode cc pc = .ok (.isub, 1)) (k : W p l e R s m args below meth c H locs cells slots Q (F0 m (pc + 1) ls (.int (zI (x - y)) :: rest))) : W p l e R s m args below meth c H locs cells slots Q (F0 m pc ls (.int (zI y) :: .int (zI x) :: rest)) := lv_isub hexec hb hdg (by rw [zI_sub]; exact k)
theorem z_imul (hexec : p.tables.exec = Jvm.exec) (hb : c.code = cc) {x y : Int} (hdg : decode cc pc = .ok (.imul, 1)) (k : W p l e R s m args below meth c H locs cells slots Q (F0 m (pc + 1) ls (.int (zI (x * y)) :: rest))) : W p l e R s m args below meth c H locs cells slots Q (F0 m pc ls (.int (zI y) :: .int (zI x) :: rest)) := lv_imul hexec hb hdg (by rw [zI_mul]; exact k)
theorem z_ladd (hexec : p.tables.exec = Jvm.exec) (hb : c.code = cc) {x y : Int} (hdg : decode cc pc = .ok (.ladd, 1)) (k : W p l e R s m args below meth c H locs cells slots Q (F0 m (pc + 1) ls (.long (zL (x + y)) :: rest))) : W p l e R s m args below meth c H locs cells slots Q (F0 m pc ls (.long (zL y) :: .long (zL x) :: rest)) := lv_ladd hexec hb hdg (by rw [zL_add]; exact k)
theorem z_lsub (hexec : p.tables.exec = Jvm.exec) (hb : c.code = cc) {x y : Int} (hdg : decode cc pc = .ok (.lsub, 1)) (k : W p l e R s m args below meth c H locs cells slots Q (F0 m (pc + 1) ls (.long (zL (x - y)) :: rest))) : W p l e R s m args below meth c H locs cells slots Q (F0 m pc ls (.long (zL y) :: .long (zL x) :: rest)) := lv_lsub hexec hb hdg (by rw [zL_sub]; exact k)
theorem z_lmul (hexec : p.tables.exec = Jvm.exec) (hb : c.code = cc) {x y : Int} (hdg : decode cc pc = .ok (.lmul, 1)) (k : W p l e R s m args below meth c H locs cells slots Q (F0 m (pc + 1) ls (.long (zL (x * y)) :: rest))) : W p l e R s m args below meth c H locs cells slots Q (F0 m pc ls (.long (zL y) :: .long (zL x) :: rest)) := lv_lmul hexec hb hdg (by rw [zL_mul]; exact k)
theorem z_irem (hexec : p.tables.exec = Jvm.exec) (hb : c.code = cc) {x y : Int} (hdg : decode cc pc = .ok (.irem, 1)) (h1 : 0 ≤ x ∧ x < 2147483648) (h2 : 0 < y ∧ y < 2147483648) (k : W p l e R s m args below meth c H locs cells slots Q (F0 m (pc + 1) ls (.int (zI (x % y)) :: rest))) : W p l e R s m args below meth c H locs cells slots Q (F0 m pc ls (.int (zI y) :: .int (zI x) :: rest)) := lv_irem hexec hb hdg (fun q => by have := (zI_eq (a := y) (b := 0) ⟨by omega, by omega⟩ ⟨by omega, by omega⟩).mp q; omega) (by rw [zI_rem h1.1 h1.2 h2.1 h2.2]; exact k)
theorem z_lrem (hexec : p.tables.exec = Jvm.exec) (hb : c.code = cc) {x y : Int} (hdg : decode cc pc = .ok (.lrem, 1)) (h1 : 0 ≤ x ∧ x < 9223372036854775808) (h2 : 0 < y ∧ y < 9223372036854775808) (k : W p l e R s m args below meth c H locs cells slots Q (F0 m (pc + 1) ls (.long (zL (x % y)) :: rest))) : W p l e R s m args below meth c H locs cells slots Q (F0 m pc ls (.long (zL y) :: .long (zL x) :: rest)) := lv_lrem hexec hb hdg (fun q => by have := (zL_eq (a := y) (b := 0) ⟨by omega, by omega⟩ ⟨by omega, by omega⟩).mp q; omega) (by rw [zL_rem h1.1 h1.2 h2.1 h2.2]; exact k)
theorem z_ldiv (hexec : p.tables.exec = Jvm.exec) (hb : c.code = cc) {x y : Int} (hdg : decode cc pc = .ok (.ldiv, 1)) (h2 : 0 < y ∧ y < 9223372036854775808) (k : W p l e R s m args below meth c H locs cells slots Q (F0 m (pc + 1) ls (.long (zL x / zL y) :: rest))) : W p l e R s m args below meth c H locs cells slots Q (F0 m pc ls (.long (zL y) :: .long (zL x) :: rest)) := lv_ldiv hexec hb hdg (fun q => by have := (zL_eq (a := y) (b := 0) ⟨by omega, by omega⟩ ⟨by omega, by omega⟩).mp q; omega) k
theorem z_i2l (hexec : p.tables.exec = Jvm.exec) (hb : c.code = cc) {x : Int} (hdg : decode cc pc = .ok (.i2l, 1)) (h : zB x) (k : W p l e R s m args below meth c H locs cells slots Q (F0 m (pc + 1) ls (.long (zL x) :: rest))) : W p l e R s m args below meth c H locs cells slots Q (F0 m pc ls (.int (zI x) :: rest)) := lv_i2l hexec hb hdg (zI_l h) k
theorem z_l2i (hexec : p.tables.exec = Jvm.exec) (hb : c.code = cc) {x : Int} (hdg : decode cc pc = .ok (.l2i, 1)) (k : W p l e R s m args below meth c H locs cells slots Q (F0 m (pc + 1) ls (.int (zI x) :: rest))) : W p l e R s m args below meth c H locs cells slots Q (F0 m pc ls (.long (zL x) :: rest)) := lv_l2i hexec hb hdg (zL_i x) k
theorem z_ush33 (hexec : p.tables.exec = Jvm.exec) (hb : c.code = cc) {x : Int} (hdg : decode cc pc = .ok (.lushr, 1)) (k : W p l e R s m args below meth c H locs cells slots Q (F0 m (pc + 1) ls (.long (zL (x % 18446744073709551616 / 8589934592)) :: rest))) : W p l e R s m args below meth c H locs cells slots Q (F0 m pc ls (.int (zI 33) :: .long (zL x) :: rest)) := lv_lushr hexec hb hdg (zL_ush x) k
theorem z_ldc (hexec : p.tables.exec = Jvm.exec) (hb : c.code = cc) {own : String} {index : Nat} {v : Int32} {z : Int} (hown : s.vm.findClass own = some m.cls) (hconst : (Jvm.Cond.constant own index v).before args s = true) (hz : v = zI z) (hdg : decode cc pc = .ok (.ldc index, 2)) (k : W p l e R s m args below meth c H locs cells slots Q (F0 m (pc + 2) ls (.int (zI z) :: rest))) : W p l e R s m args below meth c H locs cells slots Q (F0 m pc ls rest) := lv_ldc hexec hb hown hconst hdg (by rw [hz]; exact k)
theorem z_ldc2 (hexec : p.tables.exec = Jvm.exec) (hb : c.code = cc) {own : String} {index : Nat} {v : Int64} {z : Int} (hown : s.vm.findClass own = some m.cls) (hconst : (Jvm.Cond.constantLong own index v).before args s = true) (hz : v = zL z) (hdg : decode cc pc = .ok (.ldc2_w index, 3)) (k : W p l e R s m args below meth c H locs cells slots Q (F0 m (pc + 3) ls (.long (zL z) :: rest))) : W p l e R s m args below meth c H locs cells slots Q (F0 m pc ls rest) := lv_ldc2 hexec hb hown hconst hdg (by rw [hz]; exact k)
theorem z_max (hexec : p.tables.exec = Jvm.exec) (hb : c.code = cc) (hml : c.maxLocals = ls.size) {own : String} {index : Nat} (hown : s.vm.findClass own = some m.cls) (hlink : (Cond.methodLink own index Lib.Math.max.name).before args s = true) (hstat : (Cond.static Lib.Math.max.name).before args s = true) (hini : (Cond.initialized "java/lang/Math").before args s = true) (hcode : (Cond.code Lib.Math.max.name Lib.Math.max.code 2 (some .int)).before args s = true) (hframes : 1 ≤ R.frames) (hlocals : (rest.map fun v => v.category).sum + 13 ≤ R.locals) (hc : cells ≤ R.cells) (hs : slots ≤ R.slots) {x y : Int} (hx : zB x) (hy : zB y) (hdg : decode cc pc = .ok (.invokestatic index, 3)) (kk : W p l e R s m args below meth c H locs cells slots Q (F0 m (pc + 3) ls (.int (zI (max x y)) :: rest))) : W p l e R s m args below meth c H locs cells slots Q (F0 m pc ls (.int (zI y) :: .int (zI x) :: rest)) := by
  refine va_mmax hexec hb hml hown hlink hstat hini hcode hframes hlocals hc hs hdg ?_
  have e : (if zI x < zI y then zI y else zI x) = zI (max x y) := by
    by_cases h : x < y
    · rw [if_pos ((zI_lt hx hy).mpr h)]; congr 1; omega
    · rw [if_neg (fun q => h ((zI_lt hx hy).mp q))]; congr 1; omega
  rw [e]; exact kk
theorem z_min (hexec : p.tables.exec = Jvm.exec) (hb : c.code = cc) (hml : c.maxLocals = ls.size) {own : String} {index : Nat} (hown : s.vm.findClass own = some m.cls) (hlink : (Cond.methodLink own index Lib.Math.min.name).before args s = true) (hstat : (Cond.static Lib.Math.min.name).before args s = true) (hini : (Cond.initialized "java/lang/Math").before args s = true) (hcode : (Cond.code Lib.Math.min.name Lib.Math.min.code 2 (some .int)).before args s = true) (hframes : 1 ≤ R.frames) (hlocals : (rest.map fun v => v.category).sum + 13 ≤ R.locals) (hc : cells ≤ R.cells) (hs : slots ≤ R.slots) {x y : Int} (hx : zB x) (hy : zB y) (hdg : decode cc pc = .ok (.invokestatic index, 3)) (kk : W p l e R s m args below meth c H locs cells slots Q (F0 m (pc + 3) ls (.int (zI (min x y)) :: rest))) : W p l e R s m args below meth c H locs cells slots Q (F0 m pc ls (.int (zI y) :: .int (zI x) :: rest)) := by
  refine va_mmin hexec hb hml hown hlink hstat hini hcode hframes hlocals hc hs hdg ?_
  have e : (if zI y < zI x then zI y else zI x) = zI (min x y) := by
    by_cases h : y < x
    · rw [if_pos ((zI_lt hy hx).mpr h)]; congr 1; omega
    · rw [if_neg (fun q => h ((zI_lt hy hx).mp q))]; congr 1; omega
  rw [e]; exact kk
theorem z_icmp_eq (hexec : p.tables.exec = Jvm.exec) (hb : c.code = cc) {x y : Int} {off : Int} {tgt : Nat} (hdg : decode cc pc = .ok (.if_icmp .eq off, 3)) (ht : (pc : Int) + off = (tgt : Int)) (hx : zB x) (hy : zB y) (kt : x = y → W p l e R s m args below meth c H locs cells slots Q (F0 m tgt ls rest)) (kf : ¬ x = y → W p l e R s m args below meth c H locs cells slots Q (F0 m (pc + 3) ls rest)) : W p l e R s m args below meth c H locs cells slots Q (F0 m pc ls (.int (zI y) :: .int (zI x) :: rest)) :=
  have h := zI_eq hx hy
  lv_icmp_eq hexec hb hdg ht (fun q => kt (h.mp q)) (fun q => kf (by have q2 := mt h.mpr q; omega))
theorem z_if_eq (hexec : p.tables.exec = Jvm.exec) (hb : c.code = cc) {x : Int} {off : Int} {tgt : Nat} (hdg : decode cc pc = .ok (.ifCond .eq off, 3)) (ht : (pc : Int) + off = (tgt : Int)) (hx : zB x) (kt : x = 0 → W p l e R s m args below meth c H locs cells slots Q (F0 m tgt ls rest)) (kf : ¬ x = 0 → W p l e R s m args below meth c H locs cells slots Q (F0 m (pc + 3) ls rest)) : W p l e R s m args below meth c H locs cells slots Q (F0 m pc ls (.int (zI x) :: rest)) :=
  have hy : zB 0 := ⟨by omega, by omega⟩
  have h := zI_eq hx hy
  lv_if_eq hexec hb hdg ht (fun q => kt (h.mp q)) (fun q => kf (by have q2 := mt h.mpr q; omega))
theorem z_lif_eq (hexec : p.tables.exec = Jvm.exec) (hb : c.code = cc) {x y : Int} {off : Int} {tgt : Nat} (hdg : decode cc pc = .ok (.ifCond .eq off, 3)) (ht : (pc : Int) + off = (tgt : Int)) (hx : zC x) (hy : zC y) (kt : x = y → W p l e R s m args below meth c H locs cells slots Q (F0 m tgt ls rest)) (kf : ¬ x = y → W p l e R s m args below meth c H locs cells slots Q (F0 m (pc + 3) ls rest)) : W p l e R s m args below meth c H locs cells slots Q (F0 m pc ls (.int (lg_cmp (zL x) (zL y)) :: rest)) :=
  have h := (lgc_eq _ _).trans (zL_eq hx hy)
  lv_if_eq hexec hb hdg ht (fun q => kt (h.mp q)) (fun q => kf (by have q2 := mt h.mpr q; omega))
theorem z_icmp_ne (hexec : p.tables.exec = Jvm.exec) (hb : c.code = cc) {x y : Int} {off : Int} {tgt : Nat} (hdg : decode cc pc = .ok (.if_icmp .ne off, 3)) (ht : (pc : Int) + off = (tgt : Int)) (hx : zB x) (hy : zB y) (kt : ¬ x = y → W p l e R s m args below meth c H locs cells slots Q (F0 m tgt ls rest)) (kf : x = y → W p l e R s m args below meth c H locs cells slots Q (F0 m (pc + 3) ls rest)) : W p l e R s m args below meth c H locs cells slots Q (F0 m pc ls (.int (zI y) :: .int (zI x) :: rest)) :=
  have h := zI_eq hx hy
  lv_icmp_ne hexec hb hdg ht (fun q => kt (mt h.mpr q)) (fun q => kf (h.mp q))
theorem z_if_ne (hexec : p.tables.exec = Jvm.exec) (hb : c.code = cc) {x : Int} {off : Int} {tgt : Nat} (hdg : decode cc pc = .ok (.ifCond .ne off, 3)) (ht : (pc : Int) + off = (tgt : Int)) (hx : zB x) (kt : ¬ x = 0 → W p l e R s m args below meth c H locs cells slots Q (F0 m tgt ls rest)) (kf : x = 0 → W p l e R s m args below meth c H locs cells slots Q (F0 m (pc + 3) ls rest)) : W p l e R s m args below meth c H locs cells slots Q (F0 m pc ls (.int (zI x) :: rest)) :=
  have hy : zB 0 := ⟨by omega, by omega⟩
  have h := zI_eq hx hy
  lv_if_ne hexec hb hdg ht (fun q => kt (mt h.mpr q)) (fun q => kf (h.mp q))
theorem z_lif_ne (hexec : p.tables.exec = Jvm.exec) (hb : c.code = cc) {x y : Int} {off : Int} {tgt : Nat} (hdg : decode cc pc = .ok (.ifCond .ne off, 3)) (ht : (pc : Int) + off = (tgt : Int)) (hx : zC x) (hy : zC y) (kt : ¬ x = y → W p l e R s m args below meth c H locs cells slots Q (F0 m tgt ls rest)) (kf : x = y → W p l e R s m args below meth c H locs cells slots Q (F0 m (pc + 3) ls rest)) : W p l e R s m args below meth c H locs cells slots Q (F0 m pc ls (.int (lg_cmp (zL x) (zL y)) :: rest)) :=
  have h := (lgc_eq _ _).trans (zL_eq hx hy)
  lv_if_ne hexec hb hdg ht (fun q => kt (mt h.mpr q)) (fun q => kf (h.mp q))
theorem z_icmp_lt (hexec : p.tables.exec = Jvm.exec) (hb : c.code = cc) {x y : Int} {off : Int} {tgt : Nat} (hdg : decode cc pc = .ok (.if_icmp .lt off, 3)) (ht : (pc : Int) + off = (tgt : Int)) (hx : zB x) (hy : zB y) (kt : x < y → W p l e R s m args below meth c H locs cells slots Q (F0 m tgt ls rest)) (kf : y ≤ x → W p l e R s m args below meth c H locs cells slots Q (F0 m (pc + 3) ls rest)) : W p l e R s m args below meth c H locs cells slots Q (F0 m pc ls (.int (zI y) :: .int (zI x) :: rest)) :=
  have h := zI_lt hx hy
  lv_icmp_lt hexec hb hdg ht (fun q => kt (h.mp q)) (fun q => kf (by have q2 := mt h.mpr q; omega))
theorem z_if_lt (hexec : p.tables.exec = Jvm.exec) (hb : c.code = cc) {x : Int} {off : Int} {tgt : Nat} (hdg : decode cc pc = .ok (.ifCond .lt off, 3)) (ht : (pc : Int) + off = (tgt : Int)) (hx : zB x) (kt : x < 0 → W p l e R s m args below meth c H locs cells slots Q (F0 m tgt ls rest)) (kf : 0 ≤ x → W p l e R s m args below meth c H locs cells slots Q (F0 m (pc + 3) ls rest)) : W p l e R s m args below meth c H locs cells slots Q (F0 m pc ls (.int (zI x) :: rest)) :=
  have hy : zB 0 := ⟨by omega, by omega⟩
  have h := zI_lt hx hy
  lv_if_lt hexec hb hdg ht (fun q => kt (h.mp q)) (fun q => kf (by have q2 := mt h.mpr q; omega))
theorem z_lif_lt (hexec : p.tables.exec = Jvm.exec) (hb : c.code = cc) {x y : Int} {off : Int} {tgt : Nat} (hdg : decode cc pc = .ok (.ifCond .lt off, 3)) (ht : (pc : Int) + off = (tgt : Int)) (hx : zC x) (hy : zC y) (kt : x < y → W p l e R s m args below meth c H locs cells slots Q (F0 m tgt ls rest)) (kf : y ≤ x → W p l e R s m args below meth c H locs cells slots Q (F0 m (pc + 3) ls rest)) : W p l e R s m args below meth c H locs cells slots Q (F0 m pc ls (.int (lg_cmp (zL x) (zL y)) :: rest)) :=
  have h := (lgc_lt _ _).trans (zL_lt hx hy)
  lv_if_lt hexec hb hdg ht (fun q => kt (h.mp q)) (fun q => kf (by have q2 := mt h.mpr q; omega))
theorem z_icmp_ge (hexec : p.tables.exec = Jvm.exec) (hb : c.code = cc) {x y : Int} {off : Int} {tgt : Nat} (hdg : decode cc pc = .ok (.if_icmp .ge off, 3)) (ht : (pc : Int) + off = (tgt : Int)) (hx : zB x) (hy : zB y) (kt : y ≤ x → W p l e R s m args below meth c H locs cells slots Q (F0 m tgt ls rest)) (kf : x < y → W p l e R s m args below meth c H locs cells slots Q (F0 m (pc + 3) ls rest)) : W p l e R s m args below meth c H locs cells slots Q (F0 m pc ls (.int (zI y) :: .int (zI x) :: rest)) :=
  have h := zI_le hy hx
  lv_icmp_ge hexec hb hdg ht (fun q => kt (h.mp q)) (fun q => kf (by have q2 := mt h.mpr q; omega))
theorem z_if_ge (hexec : p.tables.exec = Jvm.exec) (hb : c.code = cc) {x : Int} {off : Int} {tgt : Nat} (hdg : decode cc pc = .ok (.ifCond .ge off, 3)) (ht : (pc : Int) + off = (tgt : Int)) (hx : zB x) (kt : 0 ≤ x → W p l e R s m args below meth c H locs cells slots Q (F0 m tgt ls rest)) (kf : x < 0 → W p l e R s m args below meth c H locs cells slots Q (F0 m (pc + 3) ls rest)) : W p l e R s m args below meth c H locs cells slots Q (F0 m pc ls (.int (zI x) :: rest)) :=
  have hy : zB 0 := ⟨by omega, by omega⟩
  have h := zI_le hy hx
  lv_if_ge hexec hb hdg ht (fun q => kt (h.mp q)) (fun q => kf (by have q2 := mt h.mpr q; omega))
theorem z_lif_ge (hexec : p.tables.exec = Jvm.exec) (hb : c.code = cc) {x y : Int} {off : Int} {tgt : Nat} (hdg : decode cc pc = .ok (.ifCond .ge off, 3)) (ht : (pc : Int) + off = (tgt : Int)) (hx : zC x) (hy : zC y) (kt : y ≤ x → W p l e R s m args below meth c H locs cells slots Q (F0 m tgt ls rest)) (kf : x < y → W p l e R s m args below meth c H locs cells slots Q (F0 m (pc + 3) ls rest)) : W p l e R s m args below meth c H locs cells slots Q (F0 m pc ls (.int (lg_cmp (zL x) (zL y)) :: rest)) :=
  have h := (lgc_ge _ _).trans (zL_le hy hx)
  lv_if_ge hexec hb hdg ht (fun q => kt (h.mp q)) (fun q => kf (by have q2 := mt h.mpr q; omega))
theorem z_icmp_gt (hexec : p.tables.exec = Jvm.exec) (hb : c.code = cc) {x y : Int} {off : Int} {tgt : Nat} (hdg : decode cc pc = .ok (.if_icmp .gt off, 3)) (ht : (pc : Int) + off = (tgt : Int)) (hx : zB x) (hy : zB y) (kt : y < x → W p l e R s m args below meth c H locs cells slots Q (F0 m tgt ls rest)) (kf : x ≤ y → W p l e R s m args below meth c H locs cells slots Q (F0 m (pc + 3) ls rest)) : W p l e R s m args below meth c H locs cells slots Q (F0 m pc ls (.int (zI y) :: .int (zI x) :: rest)) :=
  have h := zI_lt hy hx
  lv_icmp_gt hexec hb hdg ht (fun q => kt (h.mp q)) (fun q => kf (by have q2 := mt h.mpr q; omega))
theorem z_if_gt (hexec : p.tables.exec = Jvm.exec) (hb : c.code = cc) {x : Int} {off : Int} {tgt : Nat} (hdg : decode cc pc = .ok (.ifCond .gt off, 3)) (ht : (pc : Int) + off = (tgt : Int)) (hx : zB x) (kt : 0 < x → W p l e R s m args below meth c H locs cells slots Q (F0 m tgt ls rest)) (kf : x ≤ 0 → W p l e R s m args below meth c H locs cells slots Q (F0 m (pc + 3) ls rest)) : W p l e R s m args below meth c H locs cells slots Q (F0 m pc ls (.int (zI x) :: rest)) :=
  have hy : zB 0 := ⟨by omega, by omega⟩
  have h := zI_lt hy hx
  lv_if_gt hexec hb hdg ht (fun q => kt (h.mp q)) (fun q => kf (by have q2 := mt h.mpr q; omega))
theorem z_lif_gt (hexec : p.tables.exec = Jvm.exec) (hb : c.code = cc) {x y : Int} {off : Int} {tgt : Nat} (hdg : decode cc pc = .ok (.ifCond .gt off, 3)) (ht : (pc : Int) + off = (tgt : Int)) (hx : zC x) (hy : zC y) (kt : y < x → W p l e R s m args below meth c H locs cells slots Q (F0 m tgt ls rest)) (kf : x ≤ y → W p l e R s m args below meth c H locs cells slots Q (F0 m (pc + 3) ls rest)) : W p l e R s m args below meth c H locs cells slots Q (F0 m pc ls (.int (lg_cmp (zL x) (zL y)) :: rest)) :=
  have h := (lgc_gt _ _).trans (zL_lt hy hx)
  lv_if_gt hexec hb hdg ht (fun q => kt (h.mp q)) (fun q => kf (by have q2 := mt h.mpr q; omega))
theorem z_icmp_le (hexec : p.tables.exec = Jvm.exec) (hb : c.code = cc) {x y : Int} {off : Int} {tgt : Nat} (hdg : decode cc pc = .ok (.if_icmp .le off, 3)) (ht : (pc : Int) + off = (tgt : Int)) (hx : zB x) (hy : zB y) (kt : x ≤ y → W p l e R s m args below meth c H locs cells slots Q (F0 m tgt ls rest)) (kf : y < x → W p l e R s m args below meth c H locs cells slots Q (F0 m (pc + 3) ls rest)) : W p l e R s m args below meth c H locs cells slots Q (F0 m pc ls (.int (zI y) :: .int (zI x) :: rest)) :=
  have h := zI_le hx hy
  lv_icmp_le hexec hb hdg ht (fun q => kt (h.mp q)) (fun q => kf (by have q2 := mt h.mpr q; omega))
theorem z_if_le (hexec : p.tables.exec = Jvm.exec) (hb : c.code = cc) {x : Int} {off : Int} {tgt : Nat} (hdg : decode cc pc = .ok (.ifCond .le off, 3)) (ht : (pc : Int) + off = (tgt : Int)) (hx : zB x) (kt : x ≤ 0 → W p l e R s m args below meth c H locs cells slots Q (F0 m tgt ls rest)) (kf : 0 < x → W p l e R s m args below meth c H locs cells slots Q (F0 m (pc + 3) ls rest)) : W p l e R s m args below meth c H locs cells slots Q (F0 m pc ls (.int (zI x) :: rest)) :=
  have hy : zB 0 := ⟨by omega, by omega⟩
  have h := zI_le hx hy
  lv_if_le hexec hb hdg ht (fun q => kt (h.mp q)) (fun q => kf (by have q2 := mt h.mpr q; omega))
theorem z_lif_le (hexec : p.tables.exec = Jvm.exec) (hb : c.code = cc) {x y : Int} {off : Int} {tgt : Nat} (hdg : decode cc pc = .ok (.ifCond .le off, 3)) (ht : (pc : Int) + off = (tgt : Int)) (hx : zC x) (hy : zC y) (kt : x ≤ y → W p l e R s m args below meth c H locs cells slots Q (F0 m tgt ls rest)) (kf : y < x → W p l e R s m args below meth c H locs cells slots Q (F0 m (pc + 3) ls rest)) : W p l e R s m args below meth c H locs cells slots Q (F0 m pc ls (.int (lg_cmp (zL x) (zL y)) :: rest)) :=
  have h := (lgc_le _ _).trans (zL_le hx hy)
  lv_if_le hexec hb hdg ht (fun q => kt (h.mp q)) (fun q => kf (by have q2 := mt h.mpr q; omega))
theorem z_ifb_eq (hexec : p.tables.exec = Jvm.exec) (hb : c.code = cc) {P : Prop} [Decidable P] {off : Int} {tgt : Nat} (hdg : decode cc pc = .ok (.ifCond .eq off, 3)) (ht : (pc : Int) + off = (tgt : Int)) (kt : ¬ P → W p l e R s m args below meth c H locs cells slots Q (F0 m tgt ls rest)) (kf : P → W p l e R s m args below meth c H locs cells slots Q (F0 m (pc + 3) ls rest)) : W p l e R s m args below meth c H locs cells slots Q (F0 m pc ls (.int (zI (bZ P)) :: rest)) :=
  z_if_eq hexec hb hdg ht (bZ_B P) (fun q => kt (bZ_0.mp q)) (fun q => kf (Classical.byContradiction fun h => q (bZ_f h)))
theorem z_ifb_ne (hexec : p.tables.exec = Jvm.exec) (hb : c.code = cc) {P : Prop} [Decidable P] {off : Int} {tgt : Nat} (hdg : decode cc pc = .ok (.ifCond .ne off, 3)) (ht : (pc : Int) + off = (tgt : Int)) (kt : P → W p l e R s m args below meth c H locs cells slots Q (F0 m tgt ls rest)) (kf : ¬ P → W p l e R s m args below meth c H locs cells slots Q (F0 m (pc + 3) ls rest)) : W p l e R s m args below meth c H locs cells slots Q (F0 m pc ls (.int (zI (bZ P)) :: rest)) :=
  z_if_ne hexec hb hdg ht (bZ_B P) (fun q => kt (Classical.byContradiction fun h => q (bZ_f h))) (fun q => kf (bZ_0.mp q))
theorem z_ifnull (hexec : p.tables.exec = Jvm.exec) (hb : c.code = cc) {z : Int} {off : Int} {tgt : Nat} (hdg : decode cc pc = .ok (.ifnull off, 3)) (ht : (pc : Int) + off = (tgt : Int)) (kt : z < 0 → W p l e R s m args below meth c H locs cells slots Q (F0 m tgt ls rest)) (kf : 0 ≤ z → W p l e R s m args below meth c H locs cells slots Q (F0 m (pc + 3) ls rest)) : W p l e R s m args below meth c H locs cells slots Q (F0 m pc ls (rf ad t z :: rest)) := by
  by_cases h : z < 0
  · rw [rf_n h]; exact lv_ifnullN hexec hb hdg ht (kt h)
  · rw [rf_s (j := z.toNat) (by omega)]; exact lv_ifnull hexec hb hdg (kf (by omega))
theorem z_ifnonnull (hexec : p.tables.exec = Jvm.exec) (hb : c.code = cc) {z : Int} {off : Int} {tgt : Nat} (hdg : decode cc pc = .ok (.ifnonnull off, 3)) (ht : (pc : Int) + off = (tgt : Int)) (kt : 0 ≤ z → W p l e R s m args below meth c H locs cells slots Q (F0 m tgt ls rest)) (kf : z < 0 → W p l e R s m args below meth c H locs cells slots Q (F0 m (pc + 3) ls rest)) : W p l e R s m args below meth c H locs cells slots Q (F0 m pc ls (rf ad t z :: rest)) := by
  by_cases h : z < 0
  · rw [rf_n h]; exact lv_ifnonnullN hexec hb hdg (kf h)
  · rw [rf_s (j := z.toNat) (by omega)]; exact lv_ifnonnull hexec hb hdg ht (kt (by omega))
end ZR
