/-! THE REFERENCE: rows of its own. A table of two places in one array. -/
abbrev rM (cd od : Int) (fc hd md lo : Nat) (lv : Int) (tb rw bs : Nat) (mn : Int) (nu tu : Nat) : va_E := .inr (3, [.int (iz cd), .int (iz od), .ref fc, .ref hd, .ref md, .ref lo, .int (iz lv), .ref tb, .ref rw, .ref bs, .int (iz mn), .ref nu, .ref tu])
def fl (w : Nat) (F : Nat → Nat → ro_K) : Nat → ro_K := fun k => F (k / w) (k % w)
abbrev k2 (cJ : ClassId) (n w : Nat) (F : Nat → Nat → ro_K) : va_E := ka cJ n (fl w F)
theorem fl_at {w j : Nat} (F : Nat → Nat → ro_K) (i : Nat) (hj : j < w) : fl w F (w * i + j) = F i j := by
  unfold fl
  rw [Nat.mul_add_div (by omega), Nat.div_eq_of_lt hj, Nat.mul_add_mod, Nat.mod_eq_of_lt hj, Nat.add_zero]
theorem fl_upf {w : Nat} (F : Nat → Nat → ro_K) (k : Nat) (x : ro_K) : va_up (fl w F) k x = fl w (up2 F (k / w) (k % w) x) := by
  funext m
  unfold va_up fl up2
  by_cases h : m = k
  · subst h; rw [if_pos rfl, if_pos ⟨rfl, rfl⟩]
  · rw [if_neg h, if_neg]
    rintro ⟨h1, h2⟩
    apply h
    rw [← Nat.div_add_mod m w, ← Nat.div_add_mod k w, h1, h2]
theorem fl_up {w j : Nat} (F : Nat → Nat → ro_K) (i : Nat) (hj : j < w) (x : ro_K) : va_up (fl w F) (w * i + j) x = fl w (up2 F i j x) := by
  rw [fl_upf, Nat.mul_add_div (by omega), Nat.div_eq_of_lt hj, Nat.mul_add_mod, Nat.mod_eq_of_lt hj, Nat.add_zero]
section RM
variable {p : Program} {l : Launch} {e : Env} {R : Room} {s : State} {m : MethodId} {args : Array Value} {below : List Frame} {meth : Method} {c : Code} {H : Heap} {locs : List Loc} {cells slots : Nat} {Q : State → Prop}
variable {cc : ByteArray} {pc : Nat} {ls : Array Slot} {rest : List Value} {D : va_G} {cl : List vw_C} {A : Nat → Prop} {a : Nat} {tys : List (ClassId × FieldType)} {ws : va_W} {H0 : Heap}
theorem rm_ldf (hx : p.tables.exec = Jvm.exec) (hb : c.code = cc) (hK : va_K D cl tys s) (hP : va_P D cl ws H) (q0 t0 : Nat) {cJ : ClassId} {n w : Nat} {F : Nat → Nat → ro_K} (ha : ws[q0]? = some (a, k2 cJ n w F)) (ht : tys[t0]? = some (cJ, .long)) {z : Int} (k : Nat) (hdg : decode cc pc = .ok (.laload, 1))
    (kk : W p l e R s m args below meth c H locs cells slots Q (F0 m (pc + 1) ls (.long (lk (F (k / w) (k % w))) :: rest))) (hj : z = (k : Int) := by omega) (hlt : k < n := by omega) (hn : n ≤ 2147483648 := by omega) : W p l e R s m args below meth c H locs cells slots Q (F0 m pc ls (.int (iz z) :: .ref a :: rest)) :=
  rk_ld hx hb hK hP q0 t0 ha ht k hdg kk hj hlt hn
theorem rm_ld (hx : p.tables.exec = Jvm.exec) (hb : c.code = cc) (hK : va_K D cl tys s) (hP : va_P D cl ws H) (q0 t0 : Nat) {cJ : ClassId} {n w : Nat} {F : Nat → Nat → ro_K} (ha : ws[q0]? = some (a, k2 cJ n w F)) (ht : tys[t0]? = some (cJ, .long)) {z : Int} (i j : Nat) (hdg : decode cc pc = .ok (.laload, 1))
    (kk : W p l e R s m args below meth c H locs cells slots Q (F0 m (pc + 1) ls (.long (lk (F i j)) :: rest))) (hj : z = (w : Int) * (i : Int) + (j : Int) := by omega) (hjw : j < w := by omega) (hlt : w * i + j < n := by omega) (hn : n ≤ 2147483648 := by omega) : W p l e R s m args below meth c H locs cells slots Q (F0 m pc ls (.int (iz z) :: .ref a :: rest)) := by
  refine rk_ld hx hb hK hP q0 t0 ha ht (w * i + j) hdg ?_ (by rw [hj, Int.natCast_add, Int.natCast_mul]) hlt hn
  rw [fl_at F i hjw]
  exact kk
theorem rm_stf (hx : p.tables.exec = Jvm.exec) (hb : c.code = cc) (hK : va_K D cl tys s) (hP : va_P D cl ws H) (hD : va_D A ws) (hS : va_S A H0 H locs) (q0 t0 : Nat) {cJ : ClassId} {n w : Nat} {F : Nat → Nat → ro_K} (ha : ws[q0]? = some (a, k2 cJ n w F)) (ht : tys[t0]? = some (cJ, .long)) {z : Int} {x : ro_K} (k : Nat) (hdg : decode cc pc = .ok (.lastore, 1))
    (kk : ∀ (H1 : Heap) (locs1 : List Loc), va_P D cl (ws.set q0 (a, k2 cJ n w (up2 F (k / w) (k % w) x))) H1 → va_D A (ws.set q0 (a, k2 cJ n w (up2 F (k / w) (k % w) x))) → va_S A H0 H1 locs1 → W p l e R s m args below meth c H1 locs1 cells slots Q (F0 m (pc + 1) ls rest)) (hj : z = (k : Int) := by omega) (hlt : k < n := by omega) (hn : n ≤ 2147483648 := by omega) : W p l e R s m args below meth c H locs cells slots Q (F0 m pc ls (.long (lk x) :: .int (iz z) :: .ref a :: rest)) := by
  refine rk_st hx hb hK hP hD hS q0 t0 ha ht k hdg (fun H1 locs1 h1 h2 h3 => ?_) hj hlt hn
  rw [fl_upf] at h1 h2
  exact kk H1 locs1 h1 h2 h3
theorem rm_st (hx : p.tables.exec = Jvm.exec) (hb : c.code = cc) (hK : va_K D cl tys s) (hP : va_P D cl ws H) (hD : va_D A ws) (hS : va_S A H0 H locs) (q0 t0 : Nat) {cJ : ClassId} {n w : Nat} {F : Nat → Nat → ro_K} (ha : ws[q0]? = some (a, k2 cJ n w F)) (ht : tys[t0]? = some (cJ, .long)) {z : Int} {x : ro_K} (i j : Nat) (hdg : decode cc pc = .ok (.lastore, 1))
    (kk : ∀ (H1 : Heap) (locs1 : List Loc), va_P D cl (ws.set q0 (a, k2 cJ n w (up2 F i j x))) H1 → va_D A (ws.set q0 (a, k2 cJ n w (up2 F i j x))) → va_S A H0 H1 locs1 → W p l e R s m args below meth c H1 locs1 cells slots Q (F0 m (pc + 1) ls rest)) (hj : z = (w : Int) * (i : Int) + (j : Int) := by omega) (hjw : j < w := by omega) (hlt : w * i + j < n := by omega) (hn : n ≤ 2147483648 := by omega) : W p l e R s m args below meth c H locs cells slots Q (F0 m pc ls (.long (lk x) :: .int (iz z) :: .ref a :: rest)) := by
  refine rk_st hx hb hK hP hD hS q0 t0 ha ht (w * i + j) hdg (fun H1 locs1 h1 h2 h3 => ?_) (by rw [hj, Int.natCast_add, Int.natCast_mul]) hlt hn
  rw [fl_up F i hjw] at h1 h2
  exact kk H1 locs1 h1 h2 h3
theorem rb_if_eq (hx : p.tables.exec = Jvm.exec) (hb : c.code = cc) {C : Prop} {dC : Decidable C} {off : Int} {tgt : Nat} (hdg : decode cc pc = .ok (.ifCond .eq off, 3)) (ht : (pc : Int) + off = (tgt : Int)) (kt : ¬ C → W p l e R s m args below meth c H locs cells slots Q (F0 m tgt ls rest)) (kf : C → W p l e R s m args below meth c H locs cells slots Q (F0 m (pc + 3) ls rest)) : W p l e R s m args below meth c H locs cells slots Q (F0 m pc ls (.int (if C then iz 1 else iz 0) :: rest)) := by
  by_cases h : C
  · rw [if_pos h]; exact rz_if_eq hx hb hdg ht (fun z => absurd z (by decide)) (fun _ => kf h)
  · rw [if_neg h]; exact rz_if_eq hx hb hdg ht (fun _ => kt h) (fun z => absurd rfl z)
theorem rb_if_ne (hx : p.tables.exec = Jvm.exec) (hb : c.code = cc) {C : Prop} {dC : Decidable C} {off : Int} {tgt : Nat} (hdg : decode cc pc = .ok (.ifCond .ne off, 3)) (ht : (pc : Int) + off = (tgt : Int)) (kt : C → W p l e R s m args below meth c H locs cells slots Q (F0 m tgt ls rest)) (kf : ¬ C → W p l e R s m args below meth c H locs cells slots Q (F0 m (pc + 3) ls rest)) : W p l e R s m args below meth c H locs cells slots Q (F0 m pc ls (.int (if C then iz 1 else iz 0) :: rest)) := by
  by_cases h : C
  · rw [if_pos h]; exact rz_if_ne hx hb hdg ht (fun _ => kt h) (fun z => absurd z (by decide))
  · rw [if_neg h]; exact rz_if_ne hx hb hdg ht (fun z => absurd rfl z) (fun _ => kf h)
theorem iz_half {n : Nat} (h : n < 2147483648) : iz (n : Int) / iz 2 = iz ((n / 2 : Nat) : Int) := by
  have h2 : (iz (n : Int) / iz 2).toInt = ((n / 2 : Nat) : Int) := by
    rw [Int32.toInt_div_of_ne_right _ _ (by decide), iz_toInt (by omega) (by omega)]
    show (n : Int).tdiv 2 = _
    rw [Int.tdiv_eq_ediv_of_nonneg (by omega)]
    omega
  rw [iz_self (iz (n : Int) / iz 2), h2]
theorem iz_rem2 {n : Nat} (h : n < 2147483648) : iz (n : Int) - iz (n : Int) / iz 2 * iz 2 = iz ((n % 2 : Nat) : Int) := by
  rw [iz_half h, iz_mul, iz_sub]
  congr 1
  omega
end RM
