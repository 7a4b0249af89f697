/-! THE MACHINE'S NUMBERS: ints as integers; longs that stand for numbers of the field -/
def iz (z : Int) : Int32 := Int32.ofInt z
theorem iz_add (a b : Int) : iz a + iz b = iz (a + b) := by
  apply Int32.toBitVec_inj.mp
  simp [iz, BitVec.ofInt_add]
theorem iz_mul (a b : Int) : iz a * iz b = iz (a * b) := by
  apply Int32.toBitVec_inj.mp
  simp [iz, BitVec.ofInt_mul]
theorem iz_neg (a : Int) : -iz a = iz (-a) := by
  apply Int32.toBitVec_inj.mp
  simp [iz, BitVec.ofInt_neg]
theorem iz_sub (a b : Int) : iz a - iz b = iz (a - b) := by
  rw [Int32.sub_eq_add_neg, iz_neg, iz_add, Int.sub_eq_add_neg]
theorem iz_toInt {z : Int} (h1 : -2147483648 ≤ z) (h2 : z < 2147483648) : (iz z).toInt = z := Int32.toInt_ofInt_of_le h1 h2
theorem iz_self (x : Int32) : x = iz x.toInt := (Int32.ofInt_toInt x).symm
theorem iz_ofNat (n : Nat) : Int32.ofNat n = iz (n : Int) := Int32.ofInt_eq_ofNat.symm
theorem iz_nI (n : Nat) : nI n = iz (n : Int) := iz_ofNat n
theorem iz_lo (x : Int32) : -2147483648 ≤ x.toInt := Int32.le_toInt x
theorem iz_hi (x : Int32) : x.toInt < 2147483648 := Int32.toInt_lt x
theorem iz_lt {a b : Int} (ha : -2147483648 ≤ a ∧ a < 2147483648) (hb : -2147483648 ≤ b ∧ b < 2147483648) : iz a < iz b ↔ a < b := by
  rw [Int32.lt_iff_toInt_lt, iz_toInt ha.1 ha.2, iz_toInt hb.1 hb.2]
theorem iz_le {a b : Int} (ha : -2147483648 ≤ a ∧ a < 2147483648) (hb : -2147483648 ≤ b ∧ b < 2147483648) : iz a ≤ iz b ↔ a ≤ b := by
  rw [Int32.le_iff_toInt_le, iz_toInt ha.1 ha.2, iz_toInt hb.1 hb.2]
theorem iz_eq {a b : Int} (ha : -2147483648 ≤ a ∧ a < 2147483648) (hb : -2147483648 ≤ b ∧ b < 2147483648) : iz a = iz b ↔ a = b := by
  rw [← Int32.toInt_inj, iz_toInt ha.1 ha.2, iz_toInt hb.1 hb.2]
theorem iz_0 : (0 : Int32) = iz 0 := rfl
theorem iz_clamp {z : Int} {j : Nat} (h : z = (j : Int)) (hj : j < 2147483648) : (iz z).toNatClampNeg = j := by
  show (iz z).toInt.toNat = j
  rw [iz_toInt (by omega) (by omega)]
  omega
theorem iz_in {z : Int} {j n : Nat} (h : z = (j : Int)) (hj : j < n) (hn : n ≤ 2147483648) : vp_in (iz z) n := by
  rw [vp_in_iff, iz_toInt (by omega) (by omega)]
  omega
def lk (x : ro_K) : Int64 := lN x.val
theorem lk_0 : (0 : Int64) = lk 0 := rfl
theorem lk_1 : (1 : Int64) = lk 1 := rfl
theorem lk_inj {x y : ro_K} : lk x = lk y ↔ x = y := by
  have hx := x.isLt
  have hy := y.isLt
  unfold lk
  rw [pk_lEQ (by omega) (by omega)]
  exact Fin.ext_iff.symm
/-- a long that stands for x, between 0 and B -/
def lp (v : Int64) (x : ro_K) (B : Nat) : Prop := ∃ n : Nat, v = lN n ∧ n ≤ B ∧ ro_k (n : Int) = x
/-- a long that stands for x, between -B and B -/
def lq (v : Int64) (x : ro_K) (B : Nat) : Prop := v.toInt ≤ (B : Int) ∧ -(B : Int) ≤ v.toInt ∧ ro_k v.toInt = x
theorem lk_p (x : ro_K) : lp (lk x) x 32002 := ⟨x.val, rfl, by have := x.isLt; omega, ro_k_back x⟩
theorem lp_up {v : Int64} {x : ro_K} {B C : Nat} (h : lp v x B) (hc : B ≤ C) : lp v x C := by
  obtain ⟨n, h1, h2, h3⟩ := h
  exact ⟨n, h1, Nat.le_trans h2 hc, h3⟩
theorem lp_add {u v : Int64} {x y : ro_K} {B C : Nat} (N : Nat) (h1 : lp u x B) (h2 : lp v y C) (hN : B + C ≤ N) : lp (u + v) (x + y) N := by
  obtain ⟨n, rfl, h3, h4⟩ := h1
  obtain ⟨k, rfl, h5, h6⟩ := h2
  refine ⟨n + k, lN_add n k, by omega, ?_⟩
  rw [Int.natCast_add, ro_k_add, h4, h6]
theorem lp_mul {u v : Int64} {x y : ro_K} {B C : Nat} (N : Nat) (h1 : lp u x B) (h2 : lp v y C) (hN : B * C ≤ N) : lp (u * v) (x * y) N := by
  obtain ⟨n, rfl, h3, h4⟩ := h1
  obtain ⟨k, rfl, h5, h6⟩ := h2
  refine ⟨n * k, lN_mul n k, Nat.le_trans (Nat.mul_le_mul h3 h5) hN, ?_⟩
  rw [Int.natCast_mul, ro_k_mul, h4, h6]
theorem lp_rem {v : Int64} {x : ro_K} {B : Nat} (h : lp v x B) (hB : B < 9223372036854775808) : v - v / 32003 * 32003 = lk x := by
  obtain ⟨n, rfl, h3, h4⟩ := h
  have e : (32003 : Int64) = lN 32003 := rfl
  rw [e, pk_lRem (by omega) (by decide) (by decide)]
  unfold lk
  rw [← h4, ro_k_val]
  exact congrArg lN (by omega)
theorem lq_of {v : Int64} {x : ro_K} {B : Nat} (h : lp v x B) (hB : B < 9223372036854775808) : lq v x B := by
  obtain ⟨n, rfl, h3, h4⟩ := h
  have e : (lN n).toInt = (n : Int) := pk_lT (by omega)
  refine ⟨by rw [e]; omega, by rw [e]; omega, by rw [e]; exact h4⟩
theorem lq_add {u v : Int64} {x y : ro_K} {B C : Nat} (N : Nat) (h1 : lq u x B) (h2 : lq v y C) (hN : B + C ≤ N ∧ N < 9223372036854775808) : lq (u + v) (x + y) N := by
  obtain ⟨a1, a2, a3⟩ := h1
  obtain ⟨b1, b2, b3⟩ := h2
  have e : (u + v).toInt = u.toInt + v.toInt := by
    rw [Int64.toInt_add]
    exact Jvm.Kit.bmod64 (by omega) (by omega)
  refine ⟨by rw [e]; omega, by rw [e]; omega, by rw [e, ro_k_add, a3, b3]⟩
theorem lq_sub {u v : Int64} {x y : ro_K} {B C : Nat} (N : Nat) (h1 : lq u x B) (h2 : lq v y C) (hN : B + C ≤ N ∧ N < 9223372036854775808) : lq (u - v) (x - y) N := by
  obtain ⟨a1, a2, a3⟩ := h1
  obtain ⟨b1, b2, b3⟩ := h2
  have e : (u - v).toInt = u.toInt - v.toInt := by
    rw [Int64.toInt_sub]
    exact Jvm.Kit.bmod64 (by omega) (by omega)
  refine ⟨by rw [e]; omega, by rw [e]; omega, by rw [e, ro_k_sub, a3, b3]⟩
theorem lq_neg {u : Int64} {x : ro_K} {B : Nat} (h1 : lq u x B) (hN : B < 9223372036854775808) : lq (-u) (-x) B := by
  obtain ⟨a1, a2, a3⟩ := h1
  have e : (-u).toInt = -u.toInt := by
    rw [Int64.toInt_neg]
    exact Jvm.Kit.bmod64 (by omega) (by omega)
  refine ⟨by rw [e]; omega, by rw [e]; omega, by rw [e, ro_k_neg, a3]⟩
theorem abs_mul_le {a b B C : Int} (h1 : a ≤ B) (h2 : -B ≤ a) (h3 : b ≤ C) (h4 : -C ≤ b) : a * b ≤ B * C ∧ -(B * C) ≤ a * b := by
  have p1 : 0 ≤ (B - a) * (C + b) := Int.mul_nonneg (by omega) (by omega)
  have p2 : 0 ≤ (B + a) * (C - b) := Int.mul_nonneg (by omega) (by omega)
  have p3 : 0 ≤ (B - a) * (C - b) := Int.mul_nonneg (by omega) (by omega)
  have p4 : 0 ≤ (B + a) * (C + b) := Int.mul_nonneg (by omega) (by omega)
  constructor <;> grind
theorem lq_mul {u v : Int64} {x y : ro_K} {B C : Nat} (N : Nat) (h1 : lq u x B) (h2 : lq v y C) (hN : B * C ≤ N ∧ N < 9223372036854775808) : lq (u * v) (x * y) N := by
  obtain ⟨a1, a2, a3⟩ := h1
  obtain ⟨b1, b2, b3⟩ := h2
  have hm := abs_mul_le a1 a2 b1 b2
  have hc : (B : Int) * (C : Int) ≤ (N : Int) := by rw [← Int.natCast_mul]; exact Int.ofNat_le.mpr hN.1
  have e : (u * v).toInt = u.toInt * v.toInt := by
    rw [Int64.toInt_mul]
    exact Jvm.Kit.bmod64 (by omega) (by omega)
  refine ⟨by rw [e]; omega, by rw [e]; omega, by rw [e, ro_k_mul, a3, b3]⟩
theorem lq_iz {z : Int} (B : Nat) (h1 : z ≤ (B : Int)) (h2 : -(B : Int) ≤ z) (hB : B < 2147483648) : lq (iz z).toInt64 (ro_k z) B := by
  have e : (iz z).toInt64.toInt = z := by rw [Int32.toInt_toInt64, iz_toInt (by omega) (by omega)]
  exact ⟨by rw [e]; exact h1, by rw [e]; exact h2, by rw [e]⟩
theorem lk_l2i (x : ro_K) : (lk x).toInt32 = iz (x.val : Int) := by
  unfold lk
  rw [lN_i, iz_nI]
section RZ
variable {p : Program} {l : Launch} {e : Env} {R : Room} {s : State} {m : MethodId} {args : Array Value} {below : List Frame} {meth : Method} {c : Code} {H : Heap} {locs : List Loc} {cells slots : Nat} {Q : State → Prop}
variable {cc : ByteArray} {pc : Nat} {ls : Array Slot} {rest : List Value}
theorem rz_iconst (hx : p.tables.exec = Jvm.exec) (hb : c.code = cc) {n : Int} (hdg : decode cc pc = .ok (.iconst n, 1)) (k : W p l e R s m args below meth c H locs cells slots Q (F0 m (pc + 1) ls (.int (iz n) :: rest))) : W p l e R s m args below meth c H locs cells slots Q (F0 m pc ls rest) := lv_iconst hx hb hdg rfl k
theorem rz_bipush (hx : p.tables.exec = Jvm.exec) (hb : c.code = cc) {n : Int} (hdg : decode cc pc = .ok (.bipush n, 2)) (hv : (Int8.ofInt n).toInt32 = iz n := by decide) (k : W p l e R s m args below meth c H locs cells slots Q (F0 m (pc + 2) ls (.int (iz n) :: rest))) : W p l e R s m args below meth c H locs cells slots Q (F0 m pc ls rest) := lv_bipush hx hb hdg hv k
theorem rz_sipush (hx : p.tables.exec = Jvm.exec) (hb : c.code = cc) {n : Int} (hdg : decode cc pc = .ok (.sipush n, 3)) (hv : (Int16.ofInt n).toInt32 = iz n := by decide) (k : W p l e R s m args below meth c H locs cells slots Q (F0 m (pc + 3) ls (.int (iz n) :: rest))) : W p l e R s m args below meth c H locs cells slots Q (F0 m pc ls rest) := lv_sipush hx hb hdg hv k
theorem rz_iadd (hx : p.tables.exec = Jvm.exec) (hb : c.code = cc) {a b : Int} (hdg : decode cc pc = .ok (.iadd, 1)) (k : W p l e R s m args below meth c H locs cells slots Q (F0 m (pc + 1) ls (.int (iz (a + b)) :: rest))) : W p l e R s m args below meth c H locs cells slots Q (F0 m pc ls (.int (iz b) :: .int (iz a) :: rest)) := lv_iadd hx hb hdg (by rw [iz_add]; exact k)
theorem rz_isub (hx : p.tables.exec = Jvm.exec) (hb : c.code = cc) {a b : Int} (hdg : decode cc pc = .ok (.isub, 1)) (k : W p l e R s m args below meth c H locs cells slots Q (F0 m (pc + 1) ls (.int (iz (a - b)) :: rest))) : W p l e R s m args below meth c H locs cells slots Q (F0 m pc ls (.int (iz b) :: .int (iz a) :: rest)) := lv_isub hx hb hdg (by rw [iz_sub]; exact k)
theorem rz_imul (hx : p.tables.exec = Jvm.exec) (hb : c.code = cc) {a b : Int} (hdg : decode cc pc = .ok (.imul, 1)) (k : W p l e R s m args below meth c H locs cells slots Q (F0 m (pc + 1) ls (.int (iz (a * b)) :: rest))) : W p l e R s m args below meth c H locs cells slots Q (F0 m pc ls (.int (iz b) :: .int (iz a) :: rest)) := lv_imul hx hb hdg (by rw [iz_mul]; exact k)
theorem rz_icmp_eq (hx : p.tables.exec = Jvm.exec) (hb : c.code = cc) {a b : Int} {off : Int} {tgt : Nat} (hdg : decode cc pc = .ok (.if_icmp .eq off, 3)) (ht : (pc : Int) + off = (tgt : Int)) (kt : a = b → W p l e R s m args below meth c H locs cells slots Q (F0 m tgt ls rest)) (kf : a ≠ b → W p l e R s m args below meth c H locs cells slots Q (F0 m (pc + 3) ls rest)) (ha : -2147483648 ≤ a ∧ a < 2147483648 := by omega) (hb2 : -2147483648 ≤ b ∧ b < 2147483648 := by omega) : W p l e R s m args below meth c H locs cells slots Q (F0 m pc ls (.int (iz b) :: .int (iz a) :: rest)) := lv_icmp_eq hx hb hdg ht (fun q => kt ((iz_eq ha hb2).mp q)) (fun q => kf (fun z => q ((iz_eq ha hb2).mpr z)))
theorem rz_if_eq (hx : p.tables.exec = Jvm.exec) (hb : c.code = cc) {a : Int} {off : Int} {tgt : Nat} (hdg : decode cc pc = .ok (.ifCond .eq off, 3)) (ht : (pc : Int) + off = (tgt : Int)) (kt : a = 0 → W p l e R s m args below meth c H locs cells slots Q (F0 m tgt ls rest)) (kf : a ≠ 0 → W p l e R s m args below meth c H locs cells slots Q (F0 m (pc + 3) ls rest)) (ha : -2147483648 ≤ a ∧ a < 2147483648 := by omega) : W p l e R s m args below meth c H locs cells slots Q (F0 m pc ls (.int (iz a) :: rest)) := lv_if_eq hx hb hdg ht (fun q => kt ((iz_eq (b := 0) ha ⟨by decide, by decide⟩).mp q)) (fun q => kf (fun z => q ((iz_eq (b := 0) ha ⟨by decide, by decide⟩).mpr z)))
theorem rz_icmp_ne (hx : p.tables.exec = Jvm.exec) (hb : c.code = cc) {a b : Int} {off : Int} {tgt : Nat} (hdg : decode cc pc = .ok (.if_icmp .ne off, 3)) (ht : (pc : Int) + off = (tgt : Int)) (kt : a ≠ b → W p l e R s m args below meth c H locs cells slots Q (F0 m tgt ls rest)) (kf : a = b → W p l e R s m args below meth c H locs cells slots Q (F0 m (pc + 3) ls rest)) (ha : -2147483648 ≤ a ∧ a < 2147483648 := by omega) (hb2 : -2147483648 ≤ b ∧ b < 2147483648 := by omega) : W p l e R s m args below meth c H locs cells slots Q (F0 m pc ls (.int (iz b) :: .int (iz a) :: rest)) := lv_icmp_ne hx hb hdg ht (fun q => kt (fun z => q ((iz_eq ha hb2).mpr z))) (fun q => kf ((iz_eq ha hb2).mp q))
theorem rz_if_ne (hx : p.tables.exec = Jvm.exec) (hb : c.code = cc) {a : Int} {off : Int} {tgt : Nat} (hdg : decode cc pc = .ok (.ifCond .ne off, 3)) (ht : (pc : Int) + off = (tgt : Int)) (kt : a ≠ 0 → W p l e R s m args below meth c H locs cells slots Q (F0 m tgt ls rest)) (kf : a = 0 → W p l e R s m args below meth c H locs cells slots Q (F0 m (pc + 3) ls rest)) (ha : -2147483648 ≤ a ∧ a < 2147483648 := by omega) : W p l e R s m args below meth c H locs cells slots Q (F0 m pc ls (.int (iz a) :: rest)) := lv_if_ne hx hb hdg ht (fun q => kt (fun z => q ((iz_eq (b := 0) ha ⟨by decide, by decide⟩).mpr z))) (fun q => kf ((iz_eq (b := 0) ha ⟨by decide, by decide⟩).mp q))
theorem rz_icmp_lt (hx : p.tables.exec = Jvm.exec) (hb : c.code = cc) {a b : Int} {off : Int} {tgt : Nat} (hdg : decode cc pc = .ok (.if_icmp .lt off, 3)) (ht : (pc : Int) + off = (tgt : Int)) (kt : a < b → W p l e R s m args below meth c H locs cells slots Q (F0 m tgt ls rest)) (kf : b ≤ a → W p l e R s m args below meth c H locs cells slots Q (F0 m (pc + 3) ls rest)) (ha : -2147483648 ≤ a ∧ a < 2147483648 := by omega) (hb2 : -2147483648 ≤ b ∧ b < 2147483648 := by omega) : W p l e R s m args below meth c H locs cells slots Q (F0 m pc ls (.int (iz b) :: .int (iz a) :: rest)) := lv_icmp_lt hx hb hdg ht (fun q => kt ((iz_lt ha hb2).mp q)) (fun q => kf (Int.not_lt.mp (fun z => q ((iz_lt ha hb2).mpr z))))
theorem rz_if_lt (hx : p.tables.exec = Jvm.exec) (hb : c.code = cc) {a : Int} {off : Int} {tgt : Nat} (hdg : decode cc pc = .ok (.ifCond .lt off, 3)) (ht : (pc : Int) + off = (tgt : Int)) (kt : a < 0 → W p l e R s m args below meth c H locs cells slots Q (F0 m tgt ls rest)) (kf : 0 ≤ a → W p l e R s m args below meth c H locs cells slots Q (F0 m (pc + 3) ls rest)) (ha : -2147483648 ≤ a ∧ a < 2147483648 := by omega) : W p l e R s m args below meth c H locs cells slots Q (F0 m pc ls (.int (iz a) :: rest)) := lv_if_lt hx hb hdg ht (fun q => kt ((iz_lt (b := 0) ha ⟨by decide, by decide⟩).mp q)) (fun q => kf (Int.not_lt.mp (fun z => q ((iz_lt (b := 0) ha ⟨by decide, by decide⟩).mpr z))))
theorem rz_icmp_ge (hx : p.tables.exec = Jvm.exec) (hb : c.code = cc) {a b : Int} {off : Int} {tgt : Nat} (hdg : decode cc pc = .ok (.if_icmp .ge off, 3)) (ht : (pc : Int) + off = (tgt : Int)) (kt : b ≤ a → W p l e R s m args below meth c H locs cells slots Q (F0 m tgt ls rest)) (kf : a < b → W p l e R s m args below meth c H locs cells slots Q (F0 m (pc + 3) ls rest)) (ha : -2147483648 ≤ a ∧ a < 2147483648 := by omega) (hb2 : -2147483648 ≤ b ∧ b < 2147483648 := by omega) : W p l e R s m args below meth c H locs cells slots Q (F0 m pc ls (.int (iz b) :: .int (iz a) :: rest)) := lv_icmp_ge hx hb hdg ht (fun q => kt ((iz_le hb2 ha).mp q)) (fun q => kf (Int.not_le.mp (fun z => q ((iz_le hb2 ha).mpr z))))
theorem rz_if_ge (hx : p.tables.exec = Jvm.exec) (hb : c.code = cc) {a : Int} {off : Int} {tgt : Nat} (hdg : decode cc pc = .ok (.ifCond .ge off, 3)) (ht : (pc : Int) + off = (tgt : Int)) (kt : 0 ≤ a → W p l e R s m args below meth c H locs cells slots Q (F0 m tgt ls rest)) (kf : a < 0 → W p l e R s m args below meth c H locs cells slots Q (F0 m (pc + 3) ls rest)) (ha : -2147483648 ≤ a ∧ a < 2147483648 := by omega) : W p l e R s m args below meth c H locs cells slots Q (F0 m pc ls (.int (iz a) :: rest)) := lv_if_ge hx hb hdg ht (fun q => kt ((iz_le (a := 0) ⟨by decide, by decide⟩ ha).mp q)) (fun q => kf (Int.not_le.mp (fun z => q ((iz_le (a := 0) ⟨by decide, by decide⟩ ha).mpr z))))
theorem rz_icmp_gt (hx : p.tables.exec = Jvm.exec) (hb : c.code = cc) {a b : Int} {off : Int} {tgt : Nat} (hdg : decode cc pc = .ok (.if_icmp .gt off, 3)) (ht : (pc : Int) + off = (tgt : Int)) (kt : b < a → W p l e R s m args below meth c H locs cells slots Q (F0 m tgt ls rest)) (kf : a ≤ b → W p l e R s m args below meth c H locs cells slots Q (F0 m (pc + 3) ls rest)) (ha : -2147483648 ≤ a ∧ a < 2147483648 := by omega) (hb2 : -2147483648 ≤ b ∧ b < 2147483648 := by omega) : W p l e R s m args below meth c H locs cells slots Q (F0 m pc ls (.int (iz b) :: .int (iz a) :: rest)) := lv_icmp_gt hx hb hdg ht (fun q => kt ((iz_lt hb2 ha).mp q)) (fun q => kf (Int.not_lt.mp (fun z => q ((iz_lt hb2 ha).mpr z))))
theorem rz_if_gt (hx : p.tables.exec = Jvm.exec) (hb : c.code = cc) {a : Int} {off : Int} {tgt : Nat} (hdg : decode cc pc = .ok (.ifCond .gt off, 3)) (ht : (pc : Int) + off = (tgt : Int)) (kt : 0 < a → W p l e R s m args below meth c H locs cells slots Q (F0 m tgt ls rest)) (kf : a ≤ 0 → W p l e R s m args below meth c H locs cells slots Q (F0 m (pc + 3) ls rest)) (ha : -2147483648 ≤ a ∧ a < 2147483648 := by omega) : W p l e R s m args below meth c H locs cells slots Q (F0 m pc ls (.int (iz a) :: rest)) := lv_if_gt hx hb hdg ht (fun q => kt ((iz_lt (a := 0) ⟨by decide, by decide⟩ ha).mp q)) (fun q => kf (Int.not_lt.mp (fun z => q ((iz_lt (a := 0) ⟨by decide, by decide⟩ ha).mpr z))))
theorem rz_icmp_le (hx : p.tables.exec = Jvm.exec) (hb : c.code = cc) {a b : Int} {off : Int} {tgt : Nat} (hdg : decode cc pc = .ok (.if_icmp .le off, 3)) (ht : (pc : Int) + off = (tgt : Int)) (kt : a ≤ b → W p l e R s m args below meth c H locs cells slots Q (F0 m tgt ls rest)) (kf : b < a → W p l e R s m args below meth c H locs cells slots Q (F0 m (pc + 3) ls rest)) (ha : -2147483648 ≤ a ∧ a < 2147483648 := by omega) (hb2 : -2147483648 ≤ b ∧ b < 2147483648 := by omega) : W p l e R s m args below meth c H locs cells slots Q (F0 m pc ls (.int (iz b) :: .int (iz a) :: rest)) := lv_icmp_le hx hb hdg ht (fun q => kt ((iz_le ha hb2).mp q)) (fun q => kf (Int.not_le.mp (fun z => q ((iz_le ha hb2).mpr z))))
theorem rz_if_le (hx : p.tables.exec = Jvm.exec) (hb : c.code = cc) {a : Int} {off : Int} {tgt : Nat} (hdg : decode cc pc = .ok (.ifCond .le off, 3)) (ht : (pc : Int) + off = (tgt : Int)) (kt : a ≤ 0 → W p l e R s m args below meth c H locs cells slots Q (F0 m tgt ls rest)) (kf : 0 < a → W p l e R s m args below meth c H locs cells slots Q (F0 m (pc + 3) ls rest)) (ha : -2147483648 ≤ a ∧ a < 2147483648 := by omega) : W p l e R s m args below meth c H locs cells slots Q (F0 m pc ls (.int (iz a) :: rest)) := lv_if_le hx hb hdg ht (fun q => kt ((iz_le (b := 0) ha ⟨by decide, by decide⟩).mp q)) (fun q => kf (Int.not_le.mp (fun z => q ((iz_le (b := 0) ha ⟨by decide, by decide⟩).mpr z))))
theorem rz_lcmp_eq (hx : p.tables.exec = Jvm.exec) (hb : c.code = cc) {x y : Int64} {off : Int} {tgt : Nat} (hdg0 : decode cc pc = .ok (.lcmp, 1)) (hdg : decode cc (pc + 1) = .ok (.ifCond .eq off, 3)) (ht : ((pc + 1 : Nat) : Int) + off = (tgt : Int)) (kt : x = y → W p l e R s m args below meth c H locs cells slots Q (F0 m tgt ls rest)) (kf : x ≠ y → W p l e R s m args below meth c H locs cells slots Q (F0 m (pc + 4) ls rest)) : W p l e R s m args below meth c H locs cells slots Q (F0 m pc ls (.long y :: .long x :: rest)) := W.lcmp hx hb hdg0 (lv_if_eq hx hb hdg ht (fun q => kt ((lg_cmp_eq x y).mp q)) (fun q => kf (fun z => q ((lg_cmp_eq x y).mpr z))))
theorem rz_lcmp_ne (hx : p.tables.exec = Jvm.exec) (hb : c.code = cc) {x y : Int64} {off : Int} {tgt : Nat} (hdg0 : decode cc pc = .ok (.lcmp, 1)) (hdg : decode cc (pc + 1) = .ok (.ifCond .ne off, 3)) (ht : ((pc + 1 : Nat) : Int) + off = (tgt : Int)) (kt : x ≠ y → W p l e R s m args below meth c H locs cells slots Q (F0 m tgt ls rest)) (kf : x = y → W p l e R s m args below meth c H locs cells slots Q (F0 m (pc + 4) ls rest)) : W p l e R s m args below meth c H locs cells slots Q (F0 m pc ls (.long y :: .long x :: rest)) := W.lcmp hx hb hdg0 (lv_if_ne hx hb hdg ht (fun q => kt (fun z => q ((lg_cmp_eq x y).mpr z))) (fun q => kf ((lg_cmp_eq x y).mp q)))
theorem rz_lcmp_lt (hx : p.tables.exec = Jvm.exec) (hb : c.code = cc) {x y : Int64} {off : Int} {tgt : Nat} (hdg0 : decode cc pc = .ok (.lcmp, 1)) (hdg : decode cc (pc + 1) = .ok (.ifCond .lt off, 3)) (ht : ((pc + 1 : Nat) : Int) + off = (tgt : Int)) (kt : x < y → W p l e R s m args below meth c H locs cells slots Q (F0 m tgt ls rest)) (kf : ¬ x < y → W p l e R s m args below meth c H locs cells slots Q (F0 m (pc + 4) ls rest)) : W p l e R s m args below meth c H locs cells slots Q (F0 m pc ls (.long y :: .long x :: rest)) := W.lcmp hx hb hdg0 (lv_if_lt hx hb hdg ht (fun q => kt ((lg_cmp_lt x y).mp q)) (fun q => kf (fun z => q ((lg_cmp_lt x y).mpr z))))
theorem rz_lcmp_ge (hx : p.tables.exec = Jvm.exec) (hb : c.code = cc) {x y : Int64} {off : Int} {tgt : Nat} (hdg0 : decode cc pc = .ok (.lcmp, 1)) (hdg : decode cc (pc + 1) = .ok (.ifCond .ge off, 3)) (ht : ((pc + 1 : Nat) : Int) + off = (tgt : Int)) (kt : y ≤ x → W p l e R s m args below meth c H locs cells slots Q (F0 m tgt ls rest)) (kf : ¬ y ≤ x → W p l e R s m args below meth c H locs cells slots Q (F0 m (pc + 4) ls rest)) : W p l e R s m args below meth c H locs cells slots Q (F0 m pc ls (.long y :: .long x :: rest)) := W.lcmp hx hb hdg0 (lv_if_ge hx hb hdg ht (fun q => kt ((lg_cmp_ge x y).mp q)) (fun q => kf (fun z => q ((lg_cmp_ge x y).mpr z))))
theorem rz_lcmp_gt (hx : p.tables.exec = Jvm.exec) (hb : c.code = cc) {x y : Int64} {off : Int} {tgt : Nat} (hdg0 : decode cc pc = .ok (.lcmp, 1)) (hdg : decode cc (pc + 1) = .ok (.ifCond .gt off, 3)) (ht : ((pc + 1 : Nat) : Int) + off = (tgt : Int)) (kt : y < x → W p l e R s m args below meth c H locs cells slots Q (F0 m tgt ls rest)) (kf : ¬ y < x → W p l e R s m args below meth c H locs cells slots Q (F0 m (pc + 4) ls rest)) : W p l e R s m args below meth c H locs cells slots Q (F0 m pc ls (.long y :: .long x :: rest)) := W.lcmp hx hb hdg0 (lv_if_gt hx hb hdg ht (fun q => kt ((lg_cmp_gt x y).mp q)) (fun q => kf (fun z => q ((lg_cmp_gt x y).mpr z))))
theorem rz_lcmp_le (hx : p.tables.exec = Jvm.exec) (hb : c.code = cc) {x y : Int64} {off : Int} {tgt : Nat} (hdg0 : decode cc pc = .ok (.lcmp, 1)) (hdg : decode cc (pc + 1) = .ok (.ifCond .le off, 3)) (ht : ((pc + 1 : Nat) : Int) + off = (tgt : Int)) (kt : x ≤ y → W p l e R s m args below meth c H locs cells slots Q (F0 m tgt ls rest)) (kf : ¬ x ≤ y → W p l e R s m args below meth c H locs cells slots Q (F0 m (pc + 4) ls rest)) : W p l e R s m args below meth c H locs cells slots Q (F0 m pc ls (.long y :: .long x :: rest)) := W.lcmp hx hb hdg0 (lv_if_le hx hb hdg ht (fun q => kt ((lg_cmp_le x y).mp q)) (fun q => kf (fun z => q ((lg_cmp_le x y).mpr z))))
theorem rlp_ladd (hx : p.tables.exec = Jvm.exec) (hb : c.code = cc) {u v : Int64} {x y : ro_K} {B C : Nat} (N : Nat) (h1 : lp u x B) (h2 : lp v y C) (hdg : decode cc pc = .ok (.ladd, 1)) (k : ∀ w : Int64, lp w (x + y) N → W p l e R s m args below meth c H locs cells slots Q (F0 m (pc + 1) ls (.long w :: rest))) (hN : B + C ≤ N := by decide) : W p l e R s m args below meth c H locs cells slots Q (F0 m pc ls (.long v :: .long u :: rest)) := lv_ladd hx hb hdg (k _ (lp_add N h1 h2 hN))
theorem rlp_lmul (hx : p.tables.exec = Jvm.exec) (hb : c.code = cc) {u v : Int64} {x y : ro_K} {B C : Nat} (N : Nat) (h1 : lp u x B) (h2 : lp v y C) (hdg : decode cc pc = .ok (.lmul, 1)) (k : ∀ w : Int64, lp w (x * y) N → W p l e R s m args below meth c H locs cells slots Q (F0 m (pc + 1) ls (.long w :: rest))) (hN : B * C ≤ N := by decide) : W p l e R s m args below meth c H locs cells slots Q (F0 m pc ls (.long v :: .long u :: rest)) := lv_lmul hx hb hdg (k _ (lp_mul N h1 h2 hN))
theorem rlq_ladd (hx : p.tables.exec = Jvm.exec) (hb : c.code = cc) {u v : Int64} {x y : ro_K} {B C : Nat} (N : Nat) (h1 : lq u x B) (h2 : lq v y C) (hdg : decode cc pc = .ok (.ladd, 1)) (k : ∀ w : Int64, lq w (x + y) N → W p l e R s m args below meth c H locs cells slots Q (F0 m (pc + 1) ls (.long w :: rest))) (hN : B + C ≤ N ∧ N < 9223372036854775808 := by decide) : W p l e R s m args below meth c H locs cells slots Q (F0 m pc ls (.long v :: .long u :: rest)) := lv_ladd hx hb hdg (k _ (lq_add N h1 h2 hN))
theorem rlq_lmul (hx : p.tables.exec = Jvm.exec) (hb : c.code = cc) {u v : Int64} {x y : ro_K} {B C : Nat} (N : Nat) (h1 : lq u x B) (h2 : lq v y C) (hdg : decode cc pc = .ok (.lmul, 1)) (k : ∀ w : Int64, lq w (x * y) N → W p l e R s m args below meth c H locs cells slots Q (F0 m (pc + 1) ls (.long w :: rest))) (hN : B * C ≤ N ∧ N < 9223372036854775808 := by decide) : W p l e R s m args below meth c H locs cells slots Q (F0 m pc ls (.long v :: .long u :: rest)) := lv_lmul hx hb hdg (k _ (lq_mul N h1 h2 hN))
theorem rlq_lsub (hx : p.tables.exec = Jvm.exec) (hb : c.code = cc) {u v : Int64} {x y : ro_K} {B C : Nat} (N : Nat) (h1 : lq u x B) (h2 : lq v y C) (hdg : decode cc pc = .ok (.lsub, 1)) (k : ∀ w : Int64, lq w (x - y) N → W p l e R s m args below meth c H locs cells slots Q (F0 m (pc + 1) ls (.long w :: rest))) (hN : B + C ≤ N ∧ N < 9223372036854775808 := by decide) : W p l e R s m args below meth c H locs cells slots Q (F0 m pc ls (.long v :: .long u :: rest)) := lv_lsub hx hb hdg (k _ (lq_sub N h1 h2 hN))
theorem rlq_lneg (hx : p.tables.exec = Jvm.exec) (hb : c.code = cc) {u : Int64} {x : ro_K} {B : Nat} (h1 : lq u x B) (hdg : decode cc pc = .ok (.lneg, 1)) (k : ∀ w : Int64, lq w (-x) B → W p l e R s m args below meth c H locs cells slots Q (F0 m (pc + 1) ls (.long w :: rest))) (hN : B < 9223372036854775808 := by decide) : W p l e R s m args below meth c H locs cells slots Q (F0 m pc ls (.long u :: rest)) := lv_lneg hx hb hdg (k _ (lq_neg h1 hN))
theorem rlp_lrem (hx : p.tables.exec = Jvm.exec) (hb : c.code = cc) {u : Int64} {x : ro_K} {B : Nat} (h1 : lp u x B) (hdg : decode cc pc = .ok (.lrem, 1)) (k : W p l e R s m args below meth c H locs cells slots Q (F0 m (pc + 1) ls (.long (lk x) :: rest))) (hB : B < 9223372036854775808 := by decide) : W p l e R s m args below meth c H locs cells slots Q (F0 m pc ls (.long 32003 :: .long u :: rest)) := lv_lrem hx hb hdg (by decide) (by rw [lp_rem h1 hB]; exact k)
theorem rz_l2i (hx : p.tables.exec = Jvm.exec) (hb : c.code = cc) {x : ro_K} (hdg : decode cc pc = .ok (.l2i, 1)) (k : W p l e R s m args below meth c H locs cells slots Q (F0 m (pc + 1) ls (.int (iz (x.val : Int)) :: rest))) : W p l e R s m args below meth c H locs cells slots Q (F0 m pc ls (.long (lk x) :: rest)) := lv_l2i hx hb hdg (lk_l2i x) k
theorem rz_i2l (hx : p.tables.exec = Jvm.exec) (hb : c.code = cc) {z : Int} (B : Nat) (hdg : decode cc pc = .ok (.i2l, 1)) (k : ∀ w : Int64, lq w (ro_k z) B → W p l e R s m args below meth c H locs cells slots Q (F0 m (pc + 1) ls (.long w :: rest))) (h1 : z ≤ (B : Int) := by omega) (h2 : -(B : Int) ≤ z := by omega) (hB : B < 2147483648 := by decide) : W p l e R s m args below meth c H locs cells slots Q (F0 m pc ls (.int (iz z) :: rest)) := lv_i2l hx hb hdg rfl (k _ (lq_iz B h1 h2 hB))
end RZ
/-- an array of field numbers -/
abbrev ka (cJ : ClassId) (n : Nat) (F : Nat → ro_K) : va_E := .inl (cJ, n, .inr (.inl (fun j => lk (F j))))
theorem ka_up (F : Nat → ro_K) (j : Nat) (x : ro_K) : vp_updL (fun j => lk (F j)) j (lk x) = fun i => lk (va_up F j x i) := by
  funext i
  unfold vp_updL va_up
  by_cases h : i = j
  · rw [if_pos h, if_pos h]
  · rw [if_neg h, if_neg h]
section RK
variable {p : Program} {l : Launch} {e : Env} {R : Room} {s : State} {m : MethodId} {args : Array Value} {below : List Frame} {meth : Method} {c : Code} {H : Heap} {locs : List Loc} {cells slots : Nat} {Q : State → Prop}
variable {cc : ByteArray} {pc : Nat} {ls : Array Slot} {rest : List Value} {D : va_G} {cl : List vw_C} {A : Nat → Prop} {a : Nat} {tys : List (ClassId × FieldType)} {ws : va_W} {H0 : Heap}
theorem rk_ld (hx : p.tables.exec = Jvm.exec) (hb : c.code = cc) (hK : va_K D cl tys s) (hP : va_P D cl ws H) (q0 t0 : Nat) {cJ : ClassId} {n : Nat} {F : Nat → ro_K} (ha : ws[q0]? = some (a, ka cJ n F)) (ht : tys[t0]? = some (cJ, .long)) {z : Int} (j : Nat) (hdg : decode cc pc = .ok (.laload, 1))
    (kk : W p l e R s m args below meth c H locs cells slots Q (F0 m (pc + 1) ls (.long (lk (F j)) :: rest))) (hj : z = (j : Int) := by omega) (hlt : j < n := by omega) (hn : n ≤ 2147483648 := by omega) : W p l e R s m args below meth c H locs cells slots Q (F0 m pc ls (.int (iz z) :: .ref a :: rest)) := by
  refine va_lald hx hb hK hP q0 t0 ha ht (iz_in hj hlt hn) hdg ?_
  rw [iz_clamp hj (by omega)]
  exact kk
theorem rk_st (hx : p.tables.exec = Jvm.exec) (hb : c.code = cc) (hK : va_K D cl tys s) (hP : va_P D cl ws H) (hD : va_D A ws) (hS : va_S A H0 H locs) (q0 t0 : Nat) {cJ : ClassId} {n : Nat} {F : Nat → ro_K} (ha : ws[q0]? = some (a, ka cJ n F)) (ht : tys[t0]? = some (cJ, .long)) {z : Int} {x : ro_K} (j : Nat) (hdg : decode cc pc = .ok (.lastore, 1))
    (kk : ∀ (H1 : Heap) (locs1 : List Loc), va_P D cl (ws.set q0 (a, ka cJ n (va_up F j x))) H1 → va_D A (ws.set q0 (a, ka cJ n (va_up F j x))) → va_S A H0 H1 locs1 → W p l e R s m args below meth c H1 locs1 cells slots Q (F0 m (pc + 1) ls rest)) (hj : z = (j : Int) := by omega) (hlt : j < n := by omega) (hn : n ≤ 2147483648 := by omega) : W p l e R s m args below meth c H locs cells slots Q (F0 m pc ls (.long (lk x) :: .int (iz z) :: .ref a :: rest)) := by
  refine va_last hx hb hK hP hD hS q0 t0 ha ht (iz_in hj hlt hn) hdg (fun H1 locs1 h1 h2 h3 => ?_)
  rw [iz_clamp hj (by omega), ka_up] at h1 h2
  exact kk H1 locs1 h1 h2 h3
end RK
