section WK
variable {p : Program} {l : Launch} {e : Env} {R : Room} {s : State} {m : MethodId} {args : Array Value} {below : List Frame} {meth : Method} {c : Code} {H : Heap} {locs : List Loc} {cells slots : Nat} {Q : State → Prop} {D : va_G} {A : Nat → Prop} {H0 : Heap}
theorem rk_copy {cc : ByteArray} {pc : Nat} {ls : Array Slot} {rest : List Value} {tys : List (ClassId × FieldType)} {ws : va_W} {a : Nat} (hx : p.tables.exec = Jvm.exec) (hb : c.code = cc) (hml : c.maxLocals = ls.size) {own : String} {index : Nat} (hown : s.vm.findClass own = some m.cls) (hlink : (Cond.methodLink own index arraycopyName).before args s = true) (hts : ∀ w ∈ kb, w.before args s = true)
    (hK : va_K D vC tys s) (hP : va_P D vC ws H) (hD : va_D A ws) (hS : va_S A H0 H locs) (q0 q1 t0 : Nat) {a0 : Nat} {cJ : ClassId} {n0 n1 : Nat} {F G : Nat → ro_K} (ha0 : ws[q0]? = some (a0, ka cJ n0 F)) (ha1 : ws[q1]? = some (a, ka cJ n1 G)) (ht0 : tys[t0]? = some (cJ, .long))
    (n : Nat) (hn0 : n ≤ n0) (hn1 : n ≤ n1) (hn : n < 2147483648) (hframes : 1 ≤ R.frames) (hlocals : (rest.map fun v => v.category).sum + (nativeFrameWords "java/lang/System" "arraycopy" 5 + 11) ≤ R.locals) (hdg : decode cc pc = .ok (.invokestatic index, 3))
    (kk : ∀ (H1 : Heap) (locs1 : List Loc), va_P D vC (ws.set q1 (a, ka cJ n1 (va_cpy F G 0 0 n))) H1 → va_D A (ws.set q1 (a, ka cJ n1 (va_cpy F G 0 0 n))) → va_S A H0 H1 locs1 → W p l e R s m args below meth c H1 locs1 cells slots Q (F0 m (pc + 3) ls rest)) : W p l e R s m args below meth c H locs cells slots Q (F0 m pc ls (.int (iz (n : Int)) :: .int (iz 0) :: .ref a :: .int (iz 0) :: .ref a0 :: rest)) := by
  have e0 : (iz 0).toNatClampNeg = 0 := iz_clamp (j := 0) rfl (by decide)
  have en : (iz (n : Int)).toNatClampNeg = n := iz_clamp rfl hn
  have hz : ¬ iz 0 < 0 := by decide
  refine va_copyl hx hb hml hown hlink (hts _ kw_198) (hts _ kw_197) (hts _ kw_11) hK hP hD hS q0 q1 t0 t0 ha0 ha1 ht0 ht0 rfl hz hz (fun q => ?_) (by rw [e0, en]; omega) (by rw [e0, en]; omega) (fun i _ => rfl) hframes hlocals hdg (fun H1 locs1 h1 h2 h3 => ?_)
  · rw [iz_0, iz_lt ⟨by omega, by omega⟩ ⟨by decide, by decide⟩] at q
    omega
  · rw [e0, en] at h1 h2
    have ef : va_cpy (fun j => lk (F j)) (fun j => lk (G j)) 0 0 n = fun j => lk (va_cpy F G 0 0 n j) := by
      funext j
      unfold va_cpy
      by_cases h : 0 ≤ j ∧ j < 0 + n
      · rw [if_pos h, if_pos h]
      · rw [if_neg h, if_neg h]
    rw [ef] at h1 h2
    exact kk H1 locs1 h1 h2 h3
theorem d_J_fill_0 : decode c_J_fill 0 = .ok (.iconst 0, 1) := by decide +kernel
theorem d_J_fill_1 : decode c_J_fill 1 = .ok (.istore_n 3, 1) := by decide +kernel
theorem d_J_fill_2 : decode c_J_fill 2 = .ok (.aload_n 0, 1) := by decide +kernel
theorem d_J_fill_3 : decode c_J_fill 3 = .ok (.arraylength, 1) := by decide +kernel
theorem d_J_fill_4 : decode c_J_fill 4 = .ok (.istore 4, 2) := by decide +kernel
theorem d_J_fill_6 : decode c_J_fill 6 = .ok (.iload_n 3, 1) := by decide +kernel
theorem d_J_fill_7 : decode c_J_fill 7 = .ok (.iload 4, 2) := by decide +kernel
theorem d_J_fill_9 : decode c_J_fill 9 = .ok (.if_icmp .ge 13, 3) := by decide +kernel
theorem d_J_fill_12 : decode c_J_fill 12 = .ok (.aload_n 0, 1) := by decide +kernel
theorem d_J_fill_13 : decode c_J_fill 13 = .ok (.iload_n 3, 1) := by decide +kernel
theorem d_J_fill_14 : decode c_J_fill 14 = .ok (.lload_n 1, 1) := by decide +kernel
theorem d_J_fill_15 : decode c_J_fill 15 = .ok (.lastore, 1) := by decide +kernel
theorem d_J_fill_16 : decode c_J_fill 16 = .ok (.iinc 3 1, 3) := by decide +kernel
theorem d_J_fill_19 : decode c_J_fill 19 = .ok (.goto (-13), 3) := by decide +kernel
theorem d_J_fill_22 : decode c_J_fill 22 = .ok (.return_, 1) := by decide +kernel
/-- the first i numbers are x -/
def kfl (F : Nat → ro_K) (x : ro_K) (i : Nat) : Nat → ro_K := fun j => if j < i then x else F j
theorem kfl_s (F : Nat → ro_K) (x : ro_K) (i : Nat) : va_up (kfl F x i) i x = kfl F x (i + 1) := by
  funext j
  unfold va_up kfl
  by_cases h : j = i
  · subst h; rw [if_pos rfl, if_pos (by omega)]
  · rw [if_neg h]
    by_cases h2 : j < i
    · rw [if_pos h2, if_pos (by omega)]
    · rw [if_neg h2, if_neg (by omega)]
theorem kfl_0 (F : Nat → ro_K) (x : ro_K) : kfl F x 0 = F := by
  funext j
  exact if_neg (Nat.not_lt_zero j)
set_option maxHeartbeats 4000000 in
set_option maxRecDepth 100000 in
theorem lo_J_fill {cJ : ClassId} {a n : Nat} {x : ro_K} {F : Nat → ro_K} {zn : Int} (hzn : zn = (n : Int)) (hn : n < 1000) (hx : p.tables.exec = Jvm.exec) (hb : c.code = c_J_fill) (hml : c.maxLocals = 5) (hts : ∀ w ∈ kb, w.before args s = true) (hK : va_K D vC [(cJ, .long)] s) (hN : rc_N s) (hend : ∀ (H : Heap) (locs : List Loc) (ls : Array Slot), va_P D vC [(a, ka cJ n (kfl F x n))] H → va_D A [(a, ka cJ n (kfl F x n))] → va_S A H0 H locs → W p l e R s m args below meth c H locs 0 0 Q (F0 m 22 ls [])) : ∀ (r i : Nat) (z : Int) (H : Heap) (locs : List Loc) (ls : Array Slot), z = (i : Int) → i + r = n → va_P D vC [(a, ka cJ n (kfl F x i))] H → va_D A [(a, ka cJ n (kfl F x i))] → va_S A H0 H locs → lv_has ls 5 [(3, .int (iz z)), (4, .int (iz zn)), (0, .ref a), (1, .long (lk x))] → W p l e R s m args below meth c H locs 0 0 Q (F0 m 6 ls []) := by
  intro r
  induction r with
  | zero =>
    intro i z H locs ls hz hi hP hD hS hl
    have e : i = n := hi
    subst e
    refine lv_iload_n hx hb d_J_fill_6 rfl (lv_at hl 0 rfl) ?_
    refine lv_iload hx hb d_J_fill_7 (lv_at hl 1 rfl) ?_
    refine rz_icmp_ge (tgt := 22) hx hb d_J_fill_9 (by decide) (fun hc => ?_) (fun hc => absurd hc (by omega))
    exact hend H locs ls hP hD hS
  | succ r ih =>
    intro i z H locs ls hz hi hP hD hS hl
    refine lv_iload_n hx hb d_J_fill_6 rfl (lv_at hl 0 rfl) ?_
    refine lv_iload hx hb d_J_fill_7 (lv_at hl 1 rfl) ?_
    refine rz_icmp_ge (tgt := 22) hx hb d_J_fill_9 (by decide) (fun hc => absurd hc (by omega)) (fun hc => ?_)
    refine lv_aload_n hx hb d_J_fill_12 rfl (lv_at hl 2 rfl) ?_
    refine lv_iload_n hx hb d_J_fill_13 rfl (lv_at hl 0 rfl) ?_
    refine lv_lload_n hx hb d_J_fill_14 rfl (lv_at hl 3 rfl) ?_
    refine rk_st hx hb hK hP hD hS 0 0 rfl rfl i d_J_fill_15 (fun H locs hP hD hS => ?_)
    have hP : va_P D vC [(a, ka cJ n (va_up (kfl F x i) i x))] H := hP
    have hD : va_D A [(a, ka cJ n (va_up (kfl F x i) i x))] := hD
    refine lv_iinc (v := iz (z + 1)) (lv' := [(3, .int (iz (z + 1))), (4, .int (iz zn)), (0, .ref a), (1, .long (lk x))]) hx hb d_J_fill_16 hl (k := 0) rfl (iz_add _ _) (by decide) rfl (fun ls hl => ?_)
    refine lv_goto (tgt := 6) hx hb d_J_fill_19 (by decide) ?_
    rw [kfl_s] at hP hD
    exact ih (i + 1) _ H locs ls (by omega) (by omega) hP hD hS (lv_sub hl [0, 1, 2, 3] rfl)
def ws_J_fill : List Cond := .code y_J_fill c_J_fill 5 none :: kb
set_option maxHeartbeats 4000000 in
set_option maxRecDepth 100000 in
/-- all are x -/
theorem m_J_fill (l : Launch) (D : va_G) (cJ : ClassId) (a n : Nat) (F : Nat → ro_K) (x : ro_K) (hn : n < 1000) : Met l y_J_fill ws_J_fill ({ frames := 0, cells := 0, slots := 0, locals := 0 }) (rc_Pc D vC [(cJ, .long)] [.ref a, .long (lk x)] [(a, ka cJ n F)]) (va_Qv (fun (_ : Unit) => True) (fun _ t => va_P D vC [(a, ka cJ n (kfl F x n))] t.heap) (rc_A [(a, ka cJ n F)])) 0 0 (rc_A [(a, ka cJ n F)]) := by
  refine Met.ofW (cc := c_J_fill) (maxL := 5) (ret := none) (by decide) rfl ?_
  intro p e s m args below meth c s₁ B hml hv
  obtain ⟨rfl, hP, hK, hD0, hN⟩ := hv
  have hx := B.exec
  have hb := B.bytes
  have hr := B.returns
  have hts0 := atoms_spec (ws := ws_J_fill) B.pre
  have hts : ∀ w ∈ kb, w.before _ s = true := fun w h => hts0 w (List.mem_cons_of_mem _ h)
  have hlocks := B.notSynchronized
  have hD := rc_self hD0
  generalize hAe : rc_A [(a, ka cJ n F)] = A at hD ⊢
  have hS : va_S A s.heap s.heap [] := va_S.rf
  have hl := lv_entry ([.ref a, .long (lk x)]) (n := 5) (Nat.le_of_ble_eq_true rfl)
  rw [lg_entry_eq]
  generalize (lg_sl ([.ref a, .long (lk x)]) ++ List.replicate (5 - (lg_sl ([.ref a, .long (lk x)])).length) Slot.unset).toArray = ls at hl ⊢

  have hl : lv_has ls 5 [(0, .ref a), (1, .long (lk x))] := hl
  refine rz_iconst hx hb d_J_fill_0 ?_
  refine lv_istore_n (lv' := [(3, .int (iz 0)), (0, .ref a), (1, .long (lk x))]) hx hb d_J_fill_1 rfl hl (by decide) rfl (fun ls hl => ?_)
  refine lv_aload_n hx hb d_J_fill_2 rfl (lv_at hl 1 rfl) ?_
  refine va_alen (v := iz (n : Nat)) hx hb hK hP 0 0 rfl rfl (iz_ofNat _) d_J_fill_3 ?_
  refine lv_istore (lv' := [(4, .int (iz ((n : Nat) : Int))), (3, .int (iz 0)), (0, .ref a), (1, .long (lk x))]) hx hb d_J_fill_4 hl (by decide) rfl (fun ls hl => ?_)
  refine lo_J_fill (x := x) (F := F) rfl hn hx hb hml hts hK hN (fun H locs ls hP hD hS => ?_) n 0 _ _ _ ls rfl (by omega) (by rw [kfl_0]; exact hP) (by rw [kfl_0]; exact hD) hS (lv_sub hl [1, 0, 2, 3] rfl)
  exact W.vret hx hb hr (fun t ht hW => ⟨⟨(), rfl, trivial, rc_out ht hP⟩, hS.F ht⟩) hS.2.2 d_J_fill_22
/-- x + b in place of x: one step, n steps from power d + n - 1 down to d, all -/
def sh1 (b : ro_K) (F : Nat → ro_K) (j : Nat) : Nat → ro_K := va_up F j (F j + b * F (j + 1))
def shI (b : ro_K) (d : Nat) : Nat → (Nat → ro_K) → (Nat → ro_K)
  | 0, F => F
  | n + 1, F => shI b d n (sh1 b F (d + n))
def shO (b : ro_K) : Nat → (Nat → ro_K) → (Nat → ro_K)
  | 0, F => F
  | n + 1, F => shO b n (shI b (3 - n) (n + 1) F)
set_option maxHeartbeats 4000000 in
set_option maxRecDepth 100000 in
theorem li_O_shift {cJ : ClassId} {a : Nat} {b : ro_K} {G : Nat → ro_K} {d : Nat} {zd : Int} (hd4 : d < 4) (hzd : zd = (d : Int)) (hx : p.tables.exec = Jvm.exec) (hb : c.code = c_O_shift) (hml : c.maxLocals = 5) (hown : s.vm.findClass R_O = some m.cls) (hts : ∀ w ∈ kb, w.before args s = true) (hK : va_K D vC [(cJ, .long)] s) (hN : rc_N s) (hend : ∀ (H : Heap) (locs : List Loc) (ls : Array Slot), va_P D vC [(a, ka cJ 5 G)] H → va_D A [(a, ka cJ 5 G)] → va_S A H0 H locs → lv_has ls 5 [(3, .int (iz zd)), (0, .ref a), (1, .long (lk b))] → W p l e R s m args below meth c H locs 0 0 Q (F0 m 43 ls [])) : ∀ (n : Nat) (F : Nat → ro_K) (z : Int) (H : Heap) (locs : List Loc) (ls : Array Slot), z = (d : Int) + n - 1 → d + n ≤ 4 → shI b d n F = G → va_P D vC [(a, ka cJ 5 F)] H → va_D A [(a, ka cJ 5 F)] → va_S A H0 H locs → lv_has ls 5 [(4, .int (iz z)), (3, .int (iz zd)), (0, .ref a), (1, .long (lk b))] → W p l e R s m args below meth c H locs 0 0 Q (F0 m 10 ls []) := by
  intro n
  induction n with
  | zero =>
    intro F z H locs ls hz hn hG hP hD hS hl
    have e : F = G := hG
    subst e
    refine lv_iload hx hb d_O_shift_10 (lv_at hl 0 rfl) ?_
    refine lv_iload_n hx hb d_O_shift_12 rfl (lv_at hl 1 rfl) ?_
    refine rz_icmp_lt (tgt := 43) hx hb d_O_shift_13 (by decide) (fun hc => ?_) (fun hc => absurd hc (by omega))
    exact hend H locs ls hP hD hS (lv_sub hl [1, 2, 3] rfl)
  | succ n ih =>
    intro F z H locs ls hz hn hG hP hD hS hl
    refine lv_iload hx hb d_O_shift_10 (lv_at hl 0 rfl) ?_
    refine lv_iload_n hx hb d_O_shift_12 rfl (lv_at hl 1 rfl) ?_
    refine rz_icmp_lt (tgt := 43) hx hb d_O_shift_13 (by decide) (fun hc => absurd hc (by omega)) (fun hc => ?_)
    refine lv_aload_n hx hb d_O_shift_16 rfl (lv_at hl 2 rfl) ?_
    refine lv_iload hx hb d_O_shift_17 (lv_at hl 0 rfl) ?_
    refine lv_aload_n hx hb d_O_shift_19 rfl (lv_at hl 2 rfl) ?_
    refine lv_iload hx hb d_O_shift_20 (lv_at hl 0 rfl) ?_
    refine rk_ld hx hb hK hP 0 0 rfl rfl (d + n) d_O_shift_22 ?_
    refine lv_lload_n hx hb d_O_shift_23 rfl (lv_at hl 3 rfl) ?_
    refine lv_aload_n hx hb d_O_shift_24 rfl (lv_at hl 2 rfl) ?_
    refine lv_iload hx hb d_O_shift_25 (lv_at hl 0 rfl) ?_
    refine rz_iconst hx hb d_O_shift_27 ?_
    refine rz_iadd hx hb d_O_shift_28 ?_
    refine rk_ld hx hb hK hP 0 0 rfl rfl (d + n + 1) d_O_shift_29 ?_
    refine rlp_lmul hx hb 1024128004 (lk_p b) (lk_p (F (d + n + 1))) d_O_shift_30 (fun v1 hv1 => ?_)
    refine rlp_ladd hx hb 1024160006 (lk_p (F (d + n))) hv1 d_O_shift_31 (fun v2 hv2 => ?_)
    refine lv_ldc2 (v := 32003) hx hb hown (hts _ kw_126) d_O_shift_32 ?_
    refine rlp_lrem hx hb hv2 d_O_shift_35 ?_
    refine rk_st hx hb hK hP hD hS 0 0 rfl rfl (d + n) d_O_shift_36 (fun H locs hP hD hS => ?_)
    have hP : va_P D vC [(a, ka cJ 5 (va_up F (d + n) ((F (d + n)) + (b * (F (d + n + 1))))))] H := hP
    have hD : va_D A [(a, ka cJ 5 (va_up F (d + n) ((F (d + n)) + (b * (F (d + n + 1))))))] := hD
    refine lv_iinc (v := iz (z + (-1))) (lv' := [(4, .int (iz (z + (-1)))), (3, .int (iz zd)), (0, .ref a), (1, .long (lk b))]) hx hb d_O_shift_37 hl (k := 0) rfl (iz_add _ _) (by decide) rfl (fun ls hl => ?_)
    refine lv_goto (tgt := 10) hx hb d_O_shift_40 (by decide) ?_
    exact ih (sh1 b F (d + n)) _ H locs ls (by omega) (by omega) hG hP hD hS (lv_sub hl [0, 1, 2, 3] rfl)
set_option maxHeartbeats 4000000 in
set_option maxRecDepth 100000 in
theorem lo_O_shift {cJ : ClassId} {a : Nat} {b : ro_K} {G : Nat → ro_K} (hx : p.tables.exec = Jvm.exec) (hb : c.code = c_O_shift) (hml : c.maxLocals = 5) (hown : s.vm.findClass R_O = some m.cls) (hts : ∀ w ∈ kb, w.before args s = true) (hK : va_K D vC [(cJ, .long)] s) (hN : rc_N s) (hend : ∀ (H : Heap) (locs : List Loc) (ls : Array Slot), va_P D vC [(a, ka cJ 5 G)] H → va_D A [(a, ka cJ 5 G)] → va_S A H0 H locs → W p l e R s m args below meth c H locs 0 0 Q (F0 m 49 ls [])) : ∀ (n : Nat) (F : Nat → ro_K) (z : Int) (H : Heap) (locs : List Loc) (ls : Array Slot), z = 4 - (n : Int) → n ≤ 4 → shO b n F = G → va_P D vC [(a, ka cJ 5 F)] H → va_D A [(a, ka cJ 5 F)] → va_S A H0 H locs → lv_has ls 5 [(3, .int (iz z)), (0, .ref a), (1, .long (lk b))] → W p l e R s m args below meth c H locs 0 0 Q (F0 m 2 ls []) := by
  intro n
  induction n with
  | zero =>
    intro F z H locs ls hz hn hG hP hD hS hl
    have e : F = G := hG
    subst e
    refine lv_iload_n hx hb d_O_shift_2 rfl (lv_at hl 0 rfl) ?_
    refine rz_iconst hx hb d_O_shift_3 ?_
    refine rz_icmp_ge (tgt := 49) hx hb d_O_shift_4 (by decide) (fun hc => ?_) (fun hc => absurd hc (by omega))
    exact hend H locs ls hP hD hS
  | succ n ih =>
    intro F z H locs ls hz hn hG hP hD hS hl
    refine lv_iload_n hx hb d_O_shift_2 rfl (lv_at hl 0 rfl) ?_
    refine rz_iconst hx hb d_O_shift_3 ?_
    refine rz_icmp_ge (tgt := 49) hx hb d_O_shift_4 (by decide) (fun hc => absurd hc (by omega)) (fun hc => ?_)
    refine rz_iconst hx hb d_O_shift_7 ?_
    refine lv_istore (lv' := [(4, .int (iz 3)), (3, .int (iz z)), (0, .ref a), (1, .long (lk b))]) hx hb d_O_shift_8 hl (by decide) rfl (fun ls hl => ?_)
    refine li_O_shift (d := 3 - n) (G := shI b (3 - n) (n + 1) F) (by omega) (by omega) hx hb hml hown hts hK hN (fun H locs ls hP hD hS hl => ?_) (n + 1) F _ H locs ls (by omega) (by omega) rfl hP hD hS (lv_sub hl [0, 1, 2, 3] rfl)
    refine lv_iinc (v := iz (z + 1)) (lv' := [(3, .int (iz (z + 1))), (0, .ref a), (1, .long (lk b))]) hx hb d_O_shift_43 hl (k := 0) rfl (iz_add _ _) (by decide) rfl (fun ls hl => ?_)
    refine lv_goto (tgt := 2) hx hb d_O_shift_46 (by decide) ?_
    exact ih _ _ H locs ls (by omega) (by omega) hG hP hD hS (lv_sub hl [0, 1, 2] rfl)
def ws_O_shift : List Cond := .code y_O_shift c_O_shift 5 none :: kb
set_option maxHeartbeats 4000000 in
set_option maxRecDepth 100000 in
/-- x and a number in place of x -/
theorem m_O_shift (l : Launch) (D : va_G) (cJ : ClassId) (a : Nat) (F : Nat → ro_K) (b : ro_K) : Met l y_O_shift ws_O_shift ({ frames := 0, cells := 0, slots := 0, locals := 0 }) (rc_Pc D vC [(cJ, .long)] [.ref a, .long (lk b)] [(a, ka cJ 5 F)]) (va_Qv (fun (_ : Unit) => True) (fun _ t => va_P D vC [(a, ka cJ 5 (shO b 4 F))] t.heap) (rc_A [(a, ka cJ 5 F)])) 0 0 (rc_A [(a, ka cJ 5 F)]) := by
  refine Met.ofW (cc := c_O_shift) (maxL := 5) (ret := none) (by decide) rfl ?_
  intro p e s m args below meth c s₁ B hml hv
  obtain ⟨rfl, hP, hK, hD0, hN⟩ := hv
  have hx := B.exec
  have hb := B.bytes
  have hr := B.returns
  have hts0 := atoms_spec (ws := ws_O_shift) B.pre
  have hts : ∀ w ∈ kb, w.before _ s = true := fun w h => hts0 w (List.mem_cons_of_mem _ h)
  have hown : s.vm.findClass R_O = some m.cls := findClass_of_methodNamed B.named
  have hlocks := B.notSynchronized
  have hD := rc_self hD0
  generalize hAe : rc_A [(a, ka cJ 5 F)] = A at hD ⊢
  have hS : va_S A s.heap s.heap [] := va_S.rf
  have hl := lv_entry ([.ref a, .long (lk b)]) (n := 5) (Nat.le_of_ble_eq_true rfl)
  rw [lg_entry_eq]
  generalize (lg_sl ([.ref a, .long (lk b)]) ++ List.replicate (5 - (lg_sl ([.ref a, .long (lk b)])).length) Slot.unset).toArray = ls at hl ⊢

  have hl : lv_has ls 5 [(0, .ref a), (1, .long (lk b))] := hl
  refine rz_iconst hx hb d_O_shift_0 ?_
  refine lv_istore_n (lv' := [(3, .int (iz 0)), (0, .ref a), (1, .long (lk b))]) hx hb d_O_shift_1 rfl hl (by decide) rfl (fun ls hl => ?_)
  refine lo_O_shift (b := b) (G := shO b 4 F) hx hb hml hown hts hK hN (fun H locs ls hP hD hS => ?_) 4 F _ _ _ ls (by omega) (by omega) rfl hP hD hS (lv_sub hl [0, 1, 2] rfl)
  exact W.vret hx hb hr (fun t ht hW => ⟨⟨(), rfl, trivial, rc_out ht hP⟩, hS.F ht⟩) hS.2.2 d_O_shift_49
def ws_R_copy : List Cond := .code y_R_copy c_R_copy 2 none :: kb
set_option maxHeartbeats 4000000 in
set_option maxRecDepth 100000 in
/-- all five numbers -/
theorem m_R_copy (l : Launch) (D : va_G) (cJ : ClassId) (a b n : Nat) (F G : Nat → ro_K) (hn : 5 ≤ n) : Met l y_R_copy ws_R_copy ({ frames := 1, cells := 0, slots := 0, locals := 40 }) (rc_Pc D vC [(cJ, .long)] [.ref a, .ref b] [(a, ka cJ n F), (b, ka cJ 5 G)]) (va_Qv (fun (_ : Unit) => True) (fun _ t => va_P D vC [(a, ka cJ n F), (b, ka cJ 5 (va_cpy F G 0 0 5))] t.heap) (rc_A [(a, ka cJ n F), (b, ka cJ 5 G)])) 0 0 (rc_A [(a, ka cJ n F), (b, ka cJ 5 G)]) := by
  refine Met.ofW (cc := c_R_copy) (maxL := 2) (ret := none) (by decide) rfl ?_
  intro p e s m args below meth c s₁ B hml hv
  obtain ⟨rfl, hP, hK, hD0, hN⟩ := hv
  have hx := B.exec
  have hb := B.bytes
  have hr := B.returns
  have hts0 := atoms_spec (ws := ws_R_copy) B.pre
  have hts : ∀ w ∈ kb, w.before _ s = true := fun w h => hts0 w (List.mem_cons_of_mem _ h)
  have hown : s.vm.findClass R_R = some m.cls := findClass_of_methodNamed B.named
  have hlocks := B.notSynchronized
  have hD := rc_self hD0
  generalize hAe : rc_A [(a, ka cJ n F), (b, ka cJ 5 G)] = A at hD ⊢
  have hS : va_S A s.heap s.heap [] := va_S.rf
  have hl := lv_entry ([.ref a, .ref b]) (n := 2) (Nat.le_of_ble_eq_true rfl)
  rw [lg_entry_eq]
  generalize (lg_sl ([.ref a, .ref b]) ++ List.replicate (2 - (lg_sl ([.ref a, .ref b])).length) Slot.unset).toArray = ls at hl ⊢

  have hl : lv_has ls 2 [(0, .ref a), (1, .ref b)] := hl
  refine lv_aload_n hx hb d_R_copy_0 rfl (lv_at hl 0 rfl) ?_
  refine rz_iconst hx hb d_R_copy_1 ?_
  refine lv_aload_n hx hb d_R_copy_2 rfl (lv_at hl 1 rfl) ?_
  refine rz_iconst hx hb d_R_copy_3 ?_
  refine rz_iconst hx hb d_R_copy_4 ?_
  refine rk_copy hx hb (hml.trans hl.1.symm) hown (hts _ kw_355) hts hK hP hD hS 0 1 0 rfl rfl rfl 5 hn (by decide) (by decide) (Nat.le_of_ble_eq_true rfl) (by decide) d_R_copy_5 (fun H locs hP hD hS => ?_)
  have hP : va_P D vC [(a, ka cJ n F), (b, ka cJ 5 (va_cpy F G 0 0 5))] H := hP
  have hD : va_D A [(a, ka cJ n F), (b, ka cJ 5 (va_cpy F G 0 0 5))] := hD
  exact W.vret hx hb hr (fun t ht hW => ⟨⟨(), rfl, trivial, rc_out ht hP⟩, hS.F ht⟩) hS.2.2 d_R_copy_8
/-- the first i numbers times x -/
def kmi (F : Nat → ro_K) (x : ro_K) (i : Nat) : Nat → ro_K := fun j => if j < i then F j * x else F j
theorem kmi_at (F : Nat → ro_K) (x : ro_K) (i : Nat) : kmi F x i i = F i := if_neg (Nat.lt_irrefl i)
theorem kmi_s (F : Nat → ro_K) (x : ro_K) (i : Nat) : va_up (kmi F x i) i (kmi F x i i * x) = kmi F x (i + 1) := by
  funext j
  rw [kmi_at]
  unfold va_up kmi
  by_cases h : j = i
  · subst h; rw [if_pos rfl, if_pos (by omega)]
  · rw [if_neg h]
    by_cases h2 : j < i
    · rw [if_pos h2, if_pos (by omega)]
    · rw [if_neg h2, if_neg (by omega)]
theorem kmi_0 (F : Nat → ro_K) (x : ro_K) : kmi F x 0 = F := by
  funext j
  exact if_neg (Nat.not_lt_zero j)
/-- the monic multiple; 0 stays -/
def km (F : Nat → ro_K) : Nat → ro_K := if kd F 5 < 0 then F else kmi F (ro_iv (F (kd F 5).toNat)) ((kd F 5).toNat + 1)
set_option maxHeartbeats 4000000 in
set_option maxRecDepth 100000 in
theorem lo_R_makeMonic {cJ : ClassId} {a d : Nat} {x : ro_K} {F : Nat → ro_K} {zd : Int} (hzd : zd = (d : Int)) (hd5 : d < 5) (hx : p.tables.exec = Jvm.exec) (hb : c.code = c_R_makeMonic) (hml : c.maxLocals = 5) (hown : s.vm.findClass R_R = some m.cls) (hts : ∀ w ∈ kb, w.before args s = true) (hK : va_K D vC [(cJ, .long)] s) (hN : rc_N s) (hend : ∀ (H : Heap) (locs : List Loc) (ls : Array Slot), va_P D vC [(a, ka cJ 5 (kmi F x (d + 1)))] H → va_D A [(a, ka cJ 5 (kmi F x (d + 1)))] → va_S A H0 H locs → W p l e R s m args below meth c H locs 0 0 Q (F0 m 46 ls [])) : ∀ (n i : Nat) (z : Int) (H : Heap) (locs : List Loc) (ls : Array Slot), z = (i : Int) → i + n = d + 1 → va_P D vC [(a, ka cJ 5 (kmi F x i))] H → va_D A [(a, ka cJ 5 (kmi F x i))] → va_S A H0 H locs → lv_has ls 5 [(4, .int (iz z)), (2, .long (lk x)), (1, .int (iz zd)), (0, .ref a)] → W p l e R s m args below meth c H locs 0 0 Q (F0 m 20 ls []) := by
  intro n
  induction n with
  | zero =>
    intro i z H locs ls hz hn hP hD hS hl
    have e : i = d + 1 := hn
    subst e
    refine lv_iload hx hb d_R_makeMonic_20 (lv_at hl 0 rfl) ?_
    refine lv_iload_n hx hb d_R_makeMonic_22 rfl (lv_at hl 2 rfl) ?_
    refine rz_icmp_gt (tgt := 46) hx hb d_R_makeMonic_23 (by decide) (fun hc => ?_) (fun hc => absurd hc (by omega))
    exact hend H locs ls hP hD hS
  | succ n ih =>
    intro i z H locs ls hz hn hP hD hS hl
    refine lv_iload hx hb d_R_makeMonic_20 (lv_at hl 0 rfl) ?_
    refine lv_iload_n hx hb d_R_makeMonic_22 rfl (lv_at hl 2 rfl) ?_
    refine rz_icmp_gt (tgt := 46) hx hb d_R_makeMonic_23 (by decide) (fun hc => absurd hc (by omega)) (fun hc => ?_)
    refine lv_aload_n hx hb d_R_makeMonic_26 rfl (lv_at hl 3 rfl) ?_
    refine lv_iload hx hb d_R_makeMonic_27 (lv_at hl 0 rfl) ?_
    refine lv_aload_n hx hb d_R_makeMonic_29 rfl (lv_at hl 3 rfl) ?_
    refine lv_iload hx hb d_R_makeMonic_30 (lv_at hl 0 rfl) ?_
    refine rk_ld hx hb hK hP 0 0 rfl rfl i d_R_makeMonic_32 ?_
    refine lv_lload_n hx hb d_R_makeMonic_33 rfl (lv_at hl 1 rfl) ?_
    refine rlp_lmul hx hb 1024128004 (lk_p ((kmi F x i) i)) (lk_p x) d_R_makeMonic_34 (fun v1 hv1 => ?_)
    refine lv_ldc2 (v := 32003) hx hb hown (hts _ kw_360) d_R_makeMonic_35 ?_
    refine rlp_lrem hx hb hv1 d_R_makeMonic_38 ?_
    refine rk_st hx hb hK hP hD hS 0 0 rfl rfl i d_R_makeMonic_39 (fun H locs hP hD hS => ?_)
    have hP : va_P D vC [(a, ka cJ 5 (va_up (kmi F x i) i (((kmi F x i) i) * x)))] H := hP
    have hD : va_D A [(a, ka cJ 5 (va_up (kmi F x i) i (((kmi F x i) i) * x)))] := hD
    refine lv_iinc (v := iz (z + 1)) (lv' := [(4, .int (iz (z + 1))), (2, .long (lk x)), (1, .int (iz zd)), (0, .ref a)]) hx hb d_R_makeMonic_40 hl (k := 0) rfl (iz_add _ _) (by decide) rfl (fun ls hl => ?_)
    refine lv_goto (tgt := 20) hx hb d_R_makeMonic_43 (by decide) ?_
    rw [kmi_s] at hP hD
    exact ih (i + 1) _ H locs ls (by omega) (by omega) hP hD hS (lv_sub hl [0, 1, 2, 3] rfl)
def ws_R_makeMonic : List Cond := .code y_R_makeMonic c_R_makeMonic 5 none :: kb
set_option maxHeartbeats 4000000 in
set_option maxRecDepth 100000 in
/-- the monic multiple -/
theorem m_R_makeMonic (l : Launch) (D : va_G) (cJ : ClassId) (a : Nat) (F : Nat → ro_K) : Met l y_R_makeMonic ws_R_makeMonic ({ frames := 1, cells := 0, slots := 0, locals := 24 }) (rc_Pc D vC [(cJ, .long)] [.ref a] [(a, ka cJ 5 F)]) (va_Qv (fun (_ : Unit) => True) (fun _ t => va_P D vC [(a, ka cJ 5 (km F))] t.heap) (rc_A [(a, ka cJ 5 F)])) 0 0 (rc_A [(a, ka cJ 5 F)]) := by
  refine Met.ofW (cc := c_R_makeMonic) (maxL := 5) (ret := none) (by decide) rfl ?_
  intro p e s m args below meth c s₁ B hml hv
  obtain ⟨rfl, hP, hK, hD0, hN⟩ := hv
  have hx := B.exec
  have hb := B.bytes
  have hr := B.returns
  have hts0 := atoms_spec (ws := ws_R_makeMonic) B.pre
  have hts : ∀ w ∈ kb, w.before _ s = true := fun w h => hts0 w (List.mem_cons_of_mem _ h)
  have hown : s.vm.findClass R_R = some m.cls := findClass_of_methodNamed B.named
  have hlocks := B.notSynchronized
  have hD := rc_self hD0
  generalize hAe : rc_A [(a, ka cJ 5 F)] = A at hD ⊢
  have hS : va_S A s.heap s.heap [] := va_S.rf
  have hl := lv_entry ([.ref a]) (n := 5) (Nat.le_of_ble_eq_true rfl)
  rw [lg_entry_eq]
  generalize (lg_sl ([.ref a]) ++ List.replicate (5 - (lg_sl ([.ref a])).length) Slot.unset).toArray = ls at hl ⊢

  have hl : lv_has ls 5 [(0, .ref a)] := hl
  have hk := kd_lo F 5
  refine lv_aload_n hx hb d_R_makeMonic_0 rfl (lv_at hl 0 rfl) ?_
  refine rc_calli (va_runSN (As := [.ref a]) (rest := []) ⟨hx, hb, hml, hown, hts⟩ (m_O_degree l D cJ a 5 F (by omega)) ⟨va_cnB 1 hts (kb_gi (kb_c kw_330 kb_all)) rfl rfl rfl hN.1 (hts _ kw_1) (by decide +kernel) ⟨Nat.le_of_ble_eq_true rfl, Nat.le_of_ble_eq_true rfl⟩, hts _ kw_329, trivial⟩ ⟨rc_blind, rc_pre hP hD hK hN [0] rfl rfl [0] rfl⟩ rfl rfl hl.1 rfl (lv_room (Nat.le_of_ble_eq_true rfl)) d_R_makeMonic_1 ⟨Nat.zero_le _, Nat.zero_le _⟩) hP hD hS [0] rfl (fun _ => rfl) (fun r1 u2 H locs hw2 hP hD hS => ?_)
  subst hw2
  have hP : va_P D vC [(a, ka cJ 5 F)] H := hP
  have hD : va_D A [(a, ka cJ 5 F)] := hD
  refine lv_istore_n (lv' := [(1, .int (iz (kd F 5))), (0, .ref a)]) hx hb d_R_makeMonic_4 rfl hl (by decide) rfl (fun ls hl => ?_)
  refine lv_iload_n hx hb d_R_makeMonic_5 rfl (lv_at hl 0 rfl) ?_
  refine rz_if_ge (tgt := 10) hx hb d_R_makeMonic_6 (by decide) (fun hc3 => ?_) (fun hc3 => ?_)
  · refine lv_aload_n hx hb d_R_makeMonic_10 rfl (lv_at hl 1 rfl) ?_
    refine lv_iload_n hx hb d_R_makeMonic_11 rfl (lv_at hl 0 rfl) ?_
    refine rk_ld hx hb hK hP 0 0 rfl rfl (kd F 5).toNat d_R_makeMonic_12 ?_
    refine rc_calll (va_runSN (As := [.long (lk (F (kd F 5).toNat))]) (rest := []) ⟨hx, hb, hml, hown, hts⟩ (m_O_inverse l D (F (kd F 5).toNat)) ⟨va_cnB 1 hts (kb_gi (kb_c kw_161 kb_all)) rfl rfl rfl hN.2.1 (hts _ kw_1) (by decide +kernel) ⟨Nat.le_of_ble_eq_true rfl, Nat.le_of_ble_eq_true rfl⟩, hts _ kw_160, trivial⟩ ⟨rc_blind, rc_pre hP hD hK hN [] rfl rfl [] rfl⟩ rfl rfl hl.1 rfl (lv_room (Nat.le_of_ble_eq_true rfl)) d_R_makeMonic_13 ⟨Nat.zero_le _, Nat.zero_le _⟩) hP hD hS [] rfl (fun _ => rfl) (fun r4 u5 H locs hw5 hP hD hS => ?_)
    subst hw5
    have hP : va_P D vC [(a, ka cJ 5 F)] H := hP
    have hD : va_D A [(a, ka cJ 5 F)] := hD
    refine lv_lstore_n (lv' := [(2, .long (lk (ro_iv (F (kd F 5).toNat)))), (1, .int (iz (kd F 5))), (0, .ref a)]) hx hb d_R_makeMonic_16 rfl hl (by decide) rfl (fun ls hl => ?_)
    refine rz_iconst hx hb d_R_makeMonic_17 ?_
    refine lv_istore (lv' := [(4, .int (iz 0)), (2, .long (lk (ro_iv (F (kd F 5).toNat)))), (1, .int (iz (kd F 5))), (0, .ref a)]) hx hb d_R_makeMonic_18 hl (by decide) rfl (fun ls hl => ?_)
    refine lo_R_makeMonic (d := (kd F 5).toNat) (x := ro_iv (F (kd F 5).toNat)) (F := F) (by omega) (by omega) hx hb hml hown hts hK hN (fun H locs ls hP hD hS => ?_) ((kd F 5).toNat + 1) 0 _ _ _ ls (by omega) (by omega) (by rw [kmi_0]; exact hP) (by rw [kmi_0]; exact hD) hS (lv_sub hl [0, 1, 2, 3] rfl)
    have e : kmi F (ro_iv (F (kd F 5).toNat)) ((kd F 5).toNat + 1) = km F := by unfold km; rw [if_neg (by omega)]
    rw [e] at hP hD
    exact W.vret hx hb hr (fun t ht hW => ⟨⟨(), rfl, trivial, rc_out ht hP⟩, hS.F ht⟩) hS.2.2 d_R_makeMonic_46
  · have e : F = km F := by unfold km; rw [if_pos (by omega)]
    rw [e] at hP
    exact W.vret hx hb hr (fun t ht hW => ⟨⟨(), rfl, trivial, rc_out ht hP⟩, hS.F ht⟩) hS.2.2 d_R_makeMonic_9
/-- t times g, moved up by s, is taken off: the first k numbers of it -/
def tmi (F : Nat → ro_K) (t : ro_K) (g : Nat → ro_K) (s k : Nat) : Nat → ro_K := fun j => if s ≤ j ∧ j < s + k then F j - t * g (j - s) else F j
theorem tmi_at (F : Nat → ro_K) (t : ro_K) (g : Nat → ro_K) (s k : Nat) : tmi F t g s k (s + k) = F (s + k) := if_neg (by omega)
theorem tmi_s (F : Nat → ro_K) (t : ro_K) (g : Nat → ro_K) (s k : Nat) : va_up (tmi F t g s k) (s + k) (tmi F t g s k (s + k) - t * g k) = tmi F t g s (k + 1) := by
  funext j
  rw [tmi_at]
  unfold va_up tmi
  by_cases h : j = s + k
  · subst h; rw [if_pos rfl, if_pos (by omega), show s + k - s = k by omega]
  · rw [if_neg h]
    by_cases h2 : s ≤ j ∧ j < s + k
    · rw [if_pos h2, if_pos (by omega)]
    · rw [if_neg h2, if_neg (by omega)]
theorem tmi_0 (F : Nat → ro_K) (t : ro_K) (g : Nat → ro_K) (s : Nat) : tmi F t g s 0 = F := by
  funext j
  exact if_neg (by omega)
/-- the number at d + s is cleared by a multiple of g, whose degree is d -/
def tm1 (d : Nat) (g F : Nat → ro_K) (s : Nat) : Nat → ro_K := tmi F (F (d + s)) g s (d + 1)
def tmo (d : Nat) (g : Nat → ro_K) : Nat → (Nat → ro_K) → (Nat → ro_K)
  | 0, F => F
  | n + 1, F => tmo d g n (tm1 d g F n)
/-- what is left of F less multiples of g -/
def tmr (n : Nat) (F g : Nat → ro_K) : Nat → ro_K := if kd g 5 < 0 then F else tmo (kd g 5).toNat g (kd F n - kd g 5 + 1).toNat F
set_option maxHeartbeats 4000000 in
set_option maxRecDepth 100000 in
theorem li_R_takeMultiples {cJ : ClassId} {a b n d q : Nat} {t : ro_K} {F g : Nat → ro_K} {zd zp : Int} (hzd : zd = (d : Int)) (hzp : zp = (d : Int) + q) (hd5 : d < 5) (hq : d + q < n) (hn8 : n < 1000) (hx : p.tables.exec = Jvm.exec) (hb : c.code = c_R_takeMultiples) (hml : c.maxLocals = 8) (hown : s.vm.findClass R_R = some m.cls) (hts : ∀ w ∈ kb, w.before args s = true) (hK : va_K D vC [(cJ, .long)] s) (hN : rc_N s) (hR : 1 ≤ R.frames ∧ 23 ≤ R.locals) (hend : ∀ (H : Heap) (locs : List Loc) (ls : Array Slot), va_P D vC [(a, ka cJ n (tmi F t g q (d + 1))), (b, ka cJ 5 g)] H → va_D A [(a, ka cJ n (tmi F t g q (d + 1))), (b, ka cJ 5 g)] → va_S A H0 H locs → lv_has ls 8 [(4, .long (lk t)), (3, .int (iz zp)), (2, .int (iz zd)), (0, .ref a), (1, .ref b)] → W p l e R s m args below meth c H locs 0 0 Q (F0 m 67 ls [])) : ∀ (r k : Nat) (z : Int) (H : Heap) (locs : List Loc) (ls : Array Slot), z = (k : Int) → k + r = d + 1 → va_P D vC [(a, ka cJ n (tmi F t g q k)), (b, ka cJ 5 g)] H → va_D A [(a, ka cJ n (tmi F t g q k)), (b, ka cJ 5 g)] → va_S A H0 H locs → lv_has ls 8 [(6, .int (iz z)), (4, .long (lk t)), (3, .int (iz zp)), (2, .int (iz zd)), (0, .ref a), (1, .ref b)] → W p l e R s m args below meth c H locs 0 0 Q (F0 m 28 ls []) := by
  intro r
  induction r with
  | zero =>
    intro k z H locs ls hz hn hP hD hS hl
    have e : k = d + 1 := hn
    subst e
    refine lv_iload hx hb d_R_takeMultiples_28 (lv_at hl 0 rfl) ?_
    refine lv_iload_n hx hb d_R_takeMultiples_30 rfl (lv_at hl 3 rfl) ?_
    refine rz_icmp_gt (tgt := 67) hx hb d_R_takeMultiples_31 (by decide) (fun hc => ?_) (fun hc => absurd hc (by omega))
    exact hend H locs ls hP hD hS (lv_sub hl [1, 2, 3, 4, 5] rfl)
  | succ r ih =>
    intro k z H locs ls hz hn hP hD hS hl
    refine lv_iload hx hb d_R_takeMultiples_28 (lv_at hl 0 rfl) ?_
    refine lv_iload_n hx hb d_R_takeMultiples_30 rfl (lv_at hl 3 rfl) ?_
    refine rz_icmp_gt (tgt := 67) hx hb d_R_takeMultiples_31 (by decide) (fun hc => absurd hc (by omega)) (fun hc => ?_)
    refine lv_iload_n hx hb d_R_takeMultiples_34 rfl (lv_at hl 2 rfl) ?_
    refine lv_iload_n hx hb d_R_takeMultiples_35 rfl (lv_at hl 3 rfl) ?_
    refine rz_isub hx hb d_R_takeMultiples_36 ?_
    refine lv_iload hx hb d_R_takeMultiples_37 (lv_at hl 0 rfl) ?_
    refine rz_iadd hx hb d_R_takeMultiples_39 ?_
    refine lv_istore (lv' := [(7, .int (iz ((zp - zd) + z))), (6, .int (iz z)), (4, .long (lk t)), (3, .int (iz zp)), (2, .int (iz zd)), (0, .ref a), (1, .ref b)]) hx hb d_R_takeMultiples_40 hl (by decide) rfl (fun ls hl => ?_)
    refine lv_aload_n hx hb d_R_takeMultiples_42 rfl (lv_at hl 5 rfl) ?_
    refine lv_iload hx hb d_R_takeMultiples_43 (lv_at hl 0 rfl) ?_
    refine lv_aload_n hx hb d_R_takeMultiples_45 rfl (lv_at hl 5 rfl) ?_
    refine lv_iload hx hb d_R_takeMultiples_46 (lv_at hl 0 rfl) ?_
    refine rk_ld hx hb hK hP 0 0 rfl rfl (q + k) d_R_takeMultiples_48 ?_
    refine lv_lload hx hb d_R_takeMultiples_49 (lv_at hl 2 rfl) ?_
    refine lv_aload_n hx hb d_R_takeMultiples_51 rfl (lv_at hl 6 rfl) ?_
    refine lv_iload hx hb d_R_takeMultiples_52 (lv_at hl 1 rfl) ?_
    refine rk_ld hx hb hK hP 1 0 rfl rfl k d_R_takeMultiples_54 ?_
    refine rlp_lmul hx hb 1024128004 (lk_p t) (lk_p (g k)) d_R_takeMultiples_55 (fun v1 hv1 => ?_)
    refine rlq_lsub hx hb 1024160006 (lq_of (lk_p ((tmi F t g q k) (q + k))) (by decide)) (lq_of hv1 (by decide)) d_R_takeMultiples_56 (fun v2 hv2 => ?_)
    refine rc_calll (va_runSN (As := [.long v2]) (rest := [.int (iz ((zp - zd) + z)), .ref a]) ⟨hx, hb, hml, hown, hts⟩ (m_O_number l D v2) ⟨va_cnB 1 hts (kb_gi (kb_c kw_125 kb_all)) rfl rfl rfl hN.2.2.1 (hts _ kw_1) (by decide +kernel) hR, hts _ kw_124, trivial⟩ ⟨rc_blind, rc_pre hP hD hK hN [] rfl rfl [] rfl⟩ rfl rfl hl.1 rfl (lv_room (Nat.le_of_ble_eq_true rfl)) d_R_takeMultiples_57 ⟨Nat.zero_le _, Nat.zero_le _⟩) hP hD hS [] rfl (fun _ => rfl) (fun r3 u4 H locs hw4 hP hD hS => ?_)
    rw [hv2.2.2] at hw4
    subst hw4
    have hP : va_P D vC [(a, ka cJ n (tmi F t g q k)), (b, ka cJ 5 g)] H := hP
    have hD : va_D A [(a, ka cJ n (tmi F t g q k)), (b, ka cJ 5 g)] := hD
    refine rk_st hx hb hK hP hD hS 0 0 rfl rfl (q + k) d_R_takeMultiples_60 (fun H locs hP hD hS => ?_)
    have hP : va_P D vC [(a, ka cJ n (va_up (tmi F t g q k) (q + k) (((tmi F t g q k) (q + k)) - (t * (g k))))), (b, ka cJ 5 g)] H := hP
    have hD : va_D A [(a, ka cJ n (va_up (tmi F t g q k) (q + k) (((tmi F t g q k) (q + k)) - (t * (g k))))), (b, ka cJ 5 g)] := hD
    refine lv_iinc (v := iz (z + 1)) (lv' := [(6, .int (iz (z + 1))), (7, .int (iz ((zp - zd) + z))), (4, .long (lk t)), (3, .int (iz zp)), (2, .int (iz zd)), (0, .ref a), (1, .ref b)]) hx hb d_R_takeMultiples_61 hl (k := 1) rfl (iz_add _ _) (by decide) rfl (fun ls hl => ?_)
    refine lv_goto (tgt := 28) hx hb d_R_takeMultiples_64 (by decide) ?_
    rw [tmi_s] at hP hD
    exact ih (k + 1) _ H locs ls (by omega) (by omega) hP hD hS (lv_sub hl [0, 2, 3, 4, 5, 6] rfl)
set_option maxHeartbeats 4000000 in
set_option maxRecDepth 100000 in
theorem lo_R_takeMultiples {cJ : ClassId} {a b n d : Nat} {g G : Nat → ro_K} {zd : Int} (hzd : zd = (d : Int)) (hd5 : d < 5) (hn8 : n < 1000) (hx : p.tables.exec = Jvm.exec) (hb : c.code = c_R_takeMultiples) (hml : c.maxLocals = 8) (hown : s.vm.findClass R_R = some m.cls) (hts : ∀ w ∈ kb, w.before args s = true) (hK : va_K D vC [(cJ, .long)] s) (hN : rc_N s) (hR : 1 ≤ R.frames ∧ 23 ≤ R.locals) (hend : ∀ (H : Heap) (locs : List Loc) (ls : Array Slot), va_P D vC [(a, ka cJ n G), (b, ka cJ 5 g)] H → va_D A [(a, ka cJ n G), (b, ka cJ 5 g)] → va_S A H0 H locs → W p l e R s m args below meth c H locs 0 0 Q (F0 m 73 ls [])) : ∀ (q : Nat) (F : Nat → ro_K) (z : Int) (H : Heap) (locs : List Loc) (ls : Array Slot), (z = (d : Int) + q - 1 ∨ (q = 0 ∧ -1 ≤ z ∧ z < (d : Int))) → (q = 0 ∨ d + q ≤ n) → tmo d g q F = G → va_P D vC [(a, ka cJ n F), (b, ka cJ 5 g)] H → va_D A [(a, ka cJ n F), (b, ka cJ 5 g)] → va_S A H0 H locs → lv_has ls 8 [(3, .int (iz z)), (2, .int (iz zd)), (0, .ref a), (1, .ref b)] → W p l e R s m args below meth c H locs 0 0 Q (F0 m 15 ls []) := by
  intro q
  induction q with
  | zero =>
    intro F z H locs ls hz hn hG hP hD hS hl
    have e : F = G := hG
    subst e
    refine lv_iload_n hx hb d_R_takeMultiples_15 rfl (lv_at hl 0 rfl) ?_
    refine lv_iload_n hx hb d_R_takeMultiples_16 rfl (lv_at hl 1 rfl) ?_
    refine rz_icmp_lt (tgt := 73) hx hb d_R_takeMultiples_17 (by decide) (fun hc => ?_) (fun hc => absurd hc (by omega))
    exact hend H locs ls hP hD hS
  | succ q ih =>
    intro F z H locs ls hz hn hG hP hD hS hl
    refine lv_iload_n hx hb d_R_takeMultiples_15 rfl (lv_at hl 0 rfl) ?_
    refine lv_iload_n hx hb d_R_takeMultiples_16 rfl (lv_at hl 1 rfl) ?_
    refine rz_icmp_lt (tgt := 73) hx hb d_R_takeMultiples_17 (by decide) (fun hc => absurd hc (by omega)) (fun hc => ?_)
    refine lv_aload_n hx hb d_R_takeMultiples_20 rfl (lv_at hl 2 rfl) ?_
    refine lv_iload_n hx hb d_R_takeMultiples_21 rfl (lv_at hl 0 rfl) ?_
    refine rk_ld hx hb hK hP 0 0 rfl rfl (d + q) d_R_takeMultiples_22 ?_
    refine lv_lstore (lv' := [(4, .long (lk (F (d + q)))), (3, .int (iz z)), (2, .int (iz zd)), (0, .ref a), (1, .ref b)]) hx hb d_R_takeMultiples_23 hl (by decide) rfl (fun ls hl => ?_)
    refine rz_iconst hx hb d_R_takeMultiples_25 ?_
    refine lv_istore (lv' := [(6, .int (iz 0)), (4, .long (lk (F (d + q)))), (3, .int (iz z)), (2, .int (iz zd)), (0, .ref a), (1, .ref b)]) hx hb d_R_takeMultiples_26 hl (by decide) rfl (fun ls hl => ?_)
    refine li_R_takeMultiples (q := q) (t := F (d + q)) (F := F) (g := g) hzd (by omega) hd5 (by omega) hn8 hx hb hml hown hts hK hN hR (fun H locs ls hP hD hS hl => ?_) (d + 1) 0 _ H locs ls (by omega) (by omega) (by rw [tmi_0]; exact hP) (by rw [tmi_0]; exact hD) hS (lv_sub hl [0, 1, 2, 3, 4, 5] rfl)
    refine lv_iinc (v := iz (z + (-1))) (lv' := [(3, .int (iz (z + (-1)))), (4, .long (lk (F (d + q)))), (2, .int (iz zd)), (0, .ref a), (1, .ref b)]) hx hb d_R_takeMultiples_67 hl (k := 1) rfl (iz_add _ _) (by decide) rfl (fun ls hl => ?_)
    refine lv_goto (tgt := 15) hx hb d_R_takeMultiples_70 (by decide) ?_
    exact ih (tm1 d g F q) _ H locs ls (Or.inl (by omega)) (by omega) hG hP hD hS (lv_sub hl [0, 2, 3, 4] rfl)
def ws_R_takeMultiples : List Cond := .code y_R_takeMultiples c_R_takeMultiples 8 none :: kb
set_option maxHeartbeats 4000000 in
set_option maxRecDepth 100000 in
/-- what is left of the first less multiples of the second -/
theorem m_R_takeMultiples (l : Launch) (D : va_G) (cJ : ClassId) (a b n : Nat) (F g : Nat → ro_K) (hn8 : n < 1000) : Met l y_R_takeMultiples ws_R_takeMultiples ({ frames := 1, cells := 0, slots := 0, locals := 23 }) (rc_Pc D vC [(cJ, .long)] [.ref a, .ref b] [(a, ka cJ n F), (b, ka cJ 5 g)]) (va_Qv (fun (_ : Unit) => True) (fun _ t => va_P D vC [(a, ka cJ n (tmr n F g)), (b, ka cJ 5 g)] t.heap) (rc_A [(a, ka cJ n F), (b, ka cJ 5 g)])) 0 0 (rc_A [(a, ka cJ n F), (b, ka cJ 5 g)]) := by
  refine Met.ofW (cc := c_R_takeMultiples) (maxL := 8) (ret := none) (by decide) rfl ?_
  intro p e s m args below meth c s₁ B hml hv
  obtain ⟨rfl, hP, hK, hD0, hN⟩ := hv
  have hx := B.exec
  have hb := B.bytes
  have hr := B.returns
  have hts0 := atoms_spec (ws := ws_R_takeMultiples) B.pre
  have hts : ∀ w ∈ kb, w.before _ s = true := fun w h => hts0 w (List.mem_cons_of_mem _ h)
  have hown : s.vm.findClass R_R = some m.cls := findClass_of_methodNamed B.named
  have hlocks := B.notSynchronized
  have hD := rc_self hD0
  generalize hAe : rc_A [(a, ka cJ n F), (b, ka cJ 5 g)] = A at hD ⊢
  have hS : va_S A s.heap s.heap [] := va_S.rf
  have hl := lv_entry ([.ref a, .ref b]) (n := 8) (Nat.le_of_ble_eq_true rfl)
  rw [lg_entry_eq]
  generalize (lg_sl ([.ref a, .ref b]) ++ List.replicate (8 - (lg_sl ([.ref a, .ref b])).length) Slot.unset).toArray = ls at hl ⊢

  have hl : lv_has ls 8 [(0, .ref a), (1, .ref b)] := hl
  have hk := kd_lo g 5
  have hk2 := kd_lo F n
  refine lv_aload_n hx hb d_R_takeMultiples_0 rfl (lv_at hl 1 rfl) ?_
  refine rc_calli (va_runSN (As := [.ref b]) (rest := []) ⟨hx, hb, hml, hown, hts⟩ (m_O_degree l D cJ b 5 g (by omega)) ⟨va_cnB 1 hts (kb_gi (kb_c kw_330 kb_all)) rfl rfl rfl hN.1 (hts _ kw_1) (by decide +kernel) ⟨Nat.le_of_ble_eq_true rfl, Nat.le_of_ble_eq_true rfl⟩, hts _ kw_329, trivial⟩ ⟨rc_blind, rc_pre hP hD hK hN [1] rfl rfl [0] rfl⟩ rfl rfl hl.1 rfl (lv_room (Nat.le_of_ble_eq_true rfl)) d_R_takeMultiples_1 ⟨Nat.zero_le _, Nat.zero_le _⟩) hP hD hS [1] rfl (fun _ => rfl) (fun r1 u2 H locs hw2 hP hD hS => ?_)
  subst hw2
  have hP : va_P D vC [(a, ka cJ n F), (b, ka cJ 5 g)] H := hP
  have hD : va_D A [(a, ka cJ n F), (b, ka cJ 5 g)] := hD
  refine lv_istore_n (lv' := [(2, .int (iz (kd g 5))), (0, .ref a), (1, .ref b)]) hx hb d_R_takeMultiples_4 rfl hl (by decide) rfl (fun ls hl => ?_)
  refine lv_iload_n hx hb d_R_takeMultiples_5 rfl (lv_at hl 0 rfl) ?_
  refine rz_if_ge (tgt := 10) hx hb d_R_takeMultiples_6 (by decide) (fun hc3 => ?_) (fun hc3 => ?_)
  · refine lv_aload_n hx hb d_R_takeMultiples_10 rfl (lv_at hl 1 rfl) ?_
    refine rc_calli (va_runSN (As := [.ref a]) (rest := []) ⟨hx, hb, hml, hown, hts⟩ (m_O_degree l D cJ a n F (by omega)) ⟨va_cnB 1 hts (kb_gi (kb_c kw_330 kb_all)) rfl rfl rfl hN.1 (hts _ kw_1) (by decide +kernel) ⟨Nat.le_of_ble_eq_true rfl, Nat.le_of_ble_eq_true rfl⟩, hts _ kw_329, trivial⟩ ⟨rc_blind, rc_pre hP hD hK hN [0] rfl rfl [0] rfl⟩ rfl rfl hl.1 rfl (lv_room (Nat.le_of_ble_eq_true rfl)) d_R_takeMultiples_11 ⟨Nat.zero_le _, Nat.zero_le _⟩) hP hD hS [0] rfl (fun _ => rfl) (fun r4 u5 H locs hw5 hP hD hS => ?_)
    subst hw5
    have hP : va_P D vC [(a, ka cJ n F), (b, ka cJ 5 g)] H := hP
    have hD : va_D A [(a, ka cJ n F), (b, ka cJ 5 g)] := hD
    refine lv_istore_n (lv' := [(3, .int (iz (kd F n))), (2, .int (iz (kd g 5))), (0, .ref a), (1, .ref b)]) hx hb d_R_takeMultiples_14 rfl hl (by decide) rfl (fun ls hl => ?_)
    refine lo_R_takeMultiples (d := (kd g 5).toNat) (g := g) (G := tmr n F g) (by omega) (by omega) hn8 hx hb hml hown hts hK hN ⟨Nat.le_of_ble_eq_true rfl, Nat.le_of_ble_eq_true rfl⟩ (fun H locs ls hP hD hS => ?_) (kd F n - kd g 5 + 1).toNat F _ _ _ ls ?_ (by omega) (by unfold tmr; rw [if_neg (by omega)]) hP hD hS (lv_sub hl [0, 1, 2, 3] rfl)
    · exact W.vret hx hb hr (fun t ht hW => ⟨⟨(), rfl, trivial, rc_out ht hP⟩, hS.F ht⟩) hS.2.2 d_R_takeMultiples_73
    · omega
  · have e : F = tmr n F g := by unfold tmr; rw [if_pos (by omega)]
    rw [e] at hP
    exact W.vret hx hb hr (fun t ht hW => ⟨⟨(), rfl, trivial, rc_out ht hP⟩, hS.F ht⟩) hS.2.2 d_R_takeMultiples_9
end WK
