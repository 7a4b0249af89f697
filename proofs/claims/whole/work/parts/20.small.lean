section WK
variable {p : Program} {l : Launch} {e : Env} {R : Room} {s : State} {m : MethodId} {args : Array Value} {below : List Frame} {meth : Method} {c : Code} {H : Heap} {locs : List Loc} {cells slots : Nat} {Q : State → Prop} {D : va_G} {A : Nat → Prop} {H0 : Heap}
def ws_O_number : List Cond := .code y_O_number c_O_number 4 (some .long) :: kb
set_option maxHeartbeats 4000000 in
set_option maxRecDepth 100000 in
/-- the number that a long is -/
theorem m_O_number (l : Launch) (D : va_G) (v : Int64) : Met l y_O_number ws_O_number ({ frames := 0, cells := 0, slots := 0, locals := 0 }) (rc_Pc D vC [] [.long v] []) (va_Ql (fun (r : Int64) (_ : Unit) => r = lk (ro_k v.toInt)) (fun _ t => va_P D vC [] t.heap) (rc_A [])) 0 0 (rc_A []) := by
  refine Met.ofW (cc := c_O_number) (maxL := 4) (ret := (some .long)) (by decide) rfl ?_
  intro p e s m args below meth c s₁ B hml hv
  obtain ⟨rfl, hP, hK, hD0, hN⟩ := hv
  have hx := B.exec
  have hb := B.bytes
  have hr := B.returns
  have hts0 := atoms_spec (ws := ws_O_number) B.pre
  have hts : ∀ w ∈ kb, w.before _ s = true := fun w h => hts0 w (List.mem_cons_of_mem _ h)
  have hown : s.vm.findClass R_O = some m.cls := findClass_of_methodNamed B.named
  have hlocks := B.notSynchronized
  have hD := rc_self hD0
  generalize hAe : rc_A [] = A at hD ⊢
  have hS : va_S A s.heap s.heap [] := va_S.rf
  have hl := lv_entry ([.long v]) (n := 4) (Nat.le_of_ble_eq_true rfl)
  rw [lg_entry_eq]
  generalize (lg_sl ([.long v]) ++ List.replicate (4 - (lg_sl ([.long v])).length) Slot.unset).toArray = ls at hl ⊢

  have hl : lv_has ls 4 [(0, .long v)] := hl
  obtain ⟨b1, b2, b3⟩ := tm_k v.toInt
  refine lv_lload_n hx hb d_O_number_0 rfl (lv_at hl 0 rfl) ?_
  refine lv_ldc2 (v := 32003) hx hb hown (hts _ kw_126) d_O_number_1 ?_
  refine lv_lrem hx hb d_O_number_4 (by decide) ?_
  rw [nb_rem]
  generalize v.toInt.tmod 32003 = z at b1 b2 b3 ⊢
  refine lv_lstore_n (lv' := [(2, .long (lz z)), (0, .long v)]) hx hb d_O_number_5 rfl hl (by decide) rfl (fun ls hl => ?_)
  refine lv_lload_n hx hb d_O_number_6 rfl (lv_at hl 0 rfl) ?_
  refine lv_lconst (v := lz 0) hx hb d_O_number_7 rfl ?_
  refine rz_lcmp_ge (tgt := 20) hx hb d_O_number_8 d_O_number_9 (by decide) (fun hc => ?_) (fun hc => ?_)
  · rw [Int64.le_iff_toInt_le, lz_toInt (by decide) (by decide), lz_toInt (by omega) (by omega)] at hc
    refine lv_lload_n hx hb d_O_number_20 rfl (lv_at hl 0 rfl) ?_
    exact W.lret hx hb hr (fun t ht hW => ⟨⟨_, (), rfl, nb_k rfl hc b2 b3, rc_out ht hP⟩, hS.F ht⟩) hS.2.2 d_O_number_21
  · rw [Int64.le_iff_toInt_le, lz_toInt (by decide) (by decide), lz_toInt (by omega) (by omega)] at hc
    refine lv_lload_n hx hb d_O_number_12 rfl (lv_at hl 0 rfl) ?_
    refine lv_ldc2 (v := 32003) hx hb hown (hts _ kw_126) d_O_number_13 ?_
    refine lv_ladd hx hb d_O_number_16 ?_
    refine lv_goto (tgt := 21) hx hb d_O_number_17 (by decide) ?_
    have e3 : lz z + 32003 = lz (z + 32003) := lz_add z 32003
    rw [e3]
    exact W.lret hx hb hr (fun t ht hW => ⟨⟨_, (), rfl, nb_k rfl (by omega) (by omega) (by rw [← b3, ro_k_eq]; omega), rc_out ht hP⟩, hS.F ht⟩) hS.2.2 d_O_number_21
/-- the highest power, of those below n, whose number isn't 0; -1 if there is none -/
def kd (F : Nat → ro_K) : Nat → Int
  | 0 => -1
  | n + 1 => if F n = 0 then kd F n else (n : Int)
theorem kd_lo (F : Nat → ro_K) : ∀ n, -1 ≤ kd F n ∧ kd F n < (n : Int)
  | 0 => ⟨(by show (-1 : Int) ≤ -1; decide), (by show (-1 : Int) < 0; decide)⟩
  | n + 1 => by
    have ih := kd_lo F n
    show -1 ≤ (if F n = 0 then kd F n else (n : Int)) ∧ (if F n = 0 then kd F n else (n : Int)) < ((n + 1 : Nat) : Int)
    by_cases h : F n = 0
    · rw [if_pos h]; omega
    · rw [if_neg h]; omega
set_option maxHeartbeats 4000000 in
set_option maxRecDepth 100000 in
theorem lo_O_degree {cJ : ClassId} {a n : Nat} {F : Nat → ro_K} (hx : p.tables.exec = Jvm.exec) (hb : c.code = c_O_degree) (hml : c.maxLocals = 2) (hown : s.vm.findClass R_O = some m.cls) (hts : ∀ w ∈ kb, w.before args s = true) (hK : va_K D vC [(cJ, .long)] s) (hN : rc_N s) (hP : va_P D vC [(a, ka cJ n F)] H) (hn : n < 1000) (hend : ∀ ls, lv_has ls 2 [(1, .int (iz (kd F n))), (0, .ref a)] → W p l e R s m args below meth c H locs 0 0 Q (F0 m 23 ls [])) : ∀ (k : Nat) (z : Int), z = (k : Int) - 1 → k ≤ n → kd F k = kd F n → ∀ ls, lv_has ls 2 [(1, .int (iz z)), (0, .ref a)] → W p l e R s m args below meth c H locs 0 0 Q (F0 m 5 ls []) := by
  intro k
  induction k with
  | zero =>
    intro z hz hk hfin ls hl
    have e : z = kd F n := by rw [← hfin, hz]; rfl
    refine lv_iload_n hx hb d_O_degree_5 rfl (lv_at hl 0 rfl) ?_
    refine rz_if_lt (tgt := 23) hx hb d_O_degree_6 (by decide) (fun hc => ?_) (fun hc => absurd hc (by omega))
    rw [e] at hl
    exact hend ls hl
  | succ k ih =>
    intro z hz hk hfin ls hl
    refine lv_iload_n hx hb d_O_degree_5 rfl (lv_at hl 0 rfl) ?_
    refine rz_if_lt (tgt := 23) hx hb d_O_degree_6 (by decide) (fun hc => absurd hc (by omega)) (fun hc => ?_)
    refine lv_aload_n hx hb d_O_degree_9 rfl (lv_at hl 1 rfl) ?_
    refine lv_iload_n hx hb d_O_degree_10 rfl (lv_at hl 0 rfl) ?_
    refine rk_ld hx hb hK hP 0 0 rfl rfl k d_O_degree_11 ?_
    refine lv_lconst (v := lk 0) hx hb d_O_degree_12 rfl ?_
    refine rz_lcmp_ne (tgt := 23) hx hb d_O_degree_13 d_O_degree_14 (by decide) (fun hc1 => ?_) (fun hc1 => ?_)
    · have hc1 : (F k) ≠ 0 := fun z => hc1 (lk_inj.mpr z)
      have e : z = kd F n := by rw [← hfin]; show z = (if F k = 0 then kd F k else (k : Int)); rw [if_neg (by assumption)]; omega
      rw [e] at hl
      exact hend ls hl
    · have hc1 : (F k) = 0 := lk_inj.mp hc1
      refine lv_iinc (v := iz (z + (-1))) (lv' := [(1, .int (iz (z + (-1)))), (0, .ref a)]) hx hb d_O_degree_17 hl (k := 0) rfl (iz_add _ _) (by decide) rfl (fun ls hl => ?_)
      refine lv_goto (tgt := 5) hx hb d_O_degree_20 (by decide) ?_
      exact ih _ (by omega) (by omega) (by rw [← hfin]; show kd F k = if F k = 0 then kd F k else (k : Int); rw [if_pos (by assumption)]) ls (lv_sub hl [0, 1] rfl)
def ws_O_degree : List Cond := .code y_O_degree c_O_degree 2 (some .int) :: kb
set_option maxHeartbeats 4000000 in
set_option maxRecDepth 100000 in
/-- the degree -/
theorem m_O_degree (l : Launch) (D : va_G) (cJ : ClassId) (a n : Nat) (F : Nat → ro_K) (hn : n < 1000) : Met l y_O_degree ws_O_degree ({ frames := 0, cells := 0, slots := 0, locals := 0 }) (rc_Pc D vC [(cJ, .long)] [.ref a] [(a, ka cJ n F)]) (va_Qi (fun (r : Int32) (_ : Unit) => r = iz (kd F n)) (fun _ t => va_P D vC [(a, ka cJ n F)] t.heap) (rc_A [(a, ka cJ n F)])) 0 0 (rc_A [(a, ka cJ n F)]) := by
  refine Met.ofW (cc := c_O_degree) (maxL := 2) (ret := (some .int)) (by decide) rfl ?_
  intro p e s m args below meth c s₁ B hml hv
  obtain ⟨rfl, hP, hK, hD0, hN⟩ := hv
  have hx := B.exec
  have hb := B.bytes
  have hr := B.returns
  have hts0 := atoms_spec (ws := ws_O_degree) B.pre
  have hts : ∀ w ∈ kb, w.before _ s = true := fun w h => hts0 w (List.mem_cons_of_mem _ h)
  have hown : s.vm.findClass R_O = some m.cls := findClass_of_methodNamed B.named
  have hlocks := B.notSynchronized
  have hD := rc_self hD0
  generalize hAe : rc_A [(a, ka cJ n F)] = A at hD ⊢
  have hS : va_S A s.heap s.heap [] := va_S.rf
  have hl := lv_entry ([.ref a]) (n := 2) (Nat.le_of_ble_eq_true rfl)
  rw [lg_entry_eq]
  generalize (lg_sl ([.ref a]) ++ List.replicate (2 - (lg_sl ([.ref a])).length) Slot.unset).toArray = ls at hl ⊢

  have hl : lv_has ls 2 [(0, .ref a)] := hl
  refine lv_aload_n hx hb d_O_degree_0 rfl (lv_at hl 0 rfl) ?_
  refine va_alen (v := iz (n : Nat)) hx hb hK hP 0 0 rfl rfl (iz_ofNat _) d_O_degree_1 ?_
  refine rz_iconst hx hb d_O_degree_2 ?_
  refine rz_isub hx hb d_O_degree_3 ?_
  refine lv_istore_n (lv' := [(1, .int (iz (((n : Nat) : Int) - 1))), (0, .ref a)]) hx hb d_O_degree_4 rfl hl (by decide) rfl (fun ls hl => ?_)
  refine lo_O_degree hx hb hml hown hts hK hN hP hn (fun ls hl => ?_) n _ rfl (Nat.le_refl n) rfl ls (lv_sub hl [0, 1] rfl)
  refine lv_iload_n hx hb d_O_degree_23 rfl (lv_at hl 0 rfl) ?_
  exact W.iret hx hb hr (fun t ht hW => ⟨⟨_, (), rfl, rfl, rc_out ht hP⟩, hS.F ht⟩) hS.2.2 d_O_degree_24
def ws_O_isZero : List Cond := .code y_O_isZero c_O_isZero 1 (some .boolean) :: kb
set_option maxHeartbeats 4000000 in
set_option maxRecDepth 100000 in
/-- whether all are 0 -/
theorem m_O_isZero (l : Launch) (D : va_G) (cJ : ClassId) (a n : Nat) (F : Nat → ro_K) (hn : n < 1000) : Met l y_O_isZero ws_O_isZero ({ frames := 1, cells := 0, slots := 0, locals := 21 }) (rc_Pc D vC [(cJ, .long)] [.ref a] [(a, ka cJ n F)]) (va_Qi (fun (r : Int32) (_ : Unit) => r = if kd F n < 0 then iz 1 else iz 0) (fun _ t => va_P D vC [(a, ka cJ n F)] t.heap) (rc_A [(a, ka cJ n F)])) 0 0 (rc_A [(a, ka cJ n F)]) := by
  refine Met.ofW (cc := c_O_isZero) (maxL := 1) (ret := (some .boolean)) (by decide) rfl ?_
  intro p e s m args below meth c s₁ B hml hv
  obtain ⟨rfl, hP, hK, hD0, hN⟩ := hv
  have hx := B.exec
  have hb := B.bytes
  have hr := B.returns
  have hts0 := atoms_spec (ws := ws_O_isZero) B.pre
  have hts : ∀ w ∈ kb, w.before _ s = true := fun w h => hts0 w (List.mem_cons_of_mem _ h)
  have hown : s.vm.findClass R_O = some m.cls := findClass_of_methodNamed B.named
  have hlocks := B.notSynchronized
  have hD := rc_self hD0
  generalize hAe : rc_A [(a, ka cJ n F)] = A at hD ⊢
  have hS : va_S A s.heap s.heap [] := va_S.rf
  have hl := lv_entry ([.ref a]) (n := 1) (Nat.le_of_ble_eq_true rfl)
  rw [lg_entry_eq]
  generalize (lg_sl ([.ref a]) ++ List.replicate (1 - (lg_sl ([.ref a])).length) Slot.unset).toArray = ls at hl ⊢

  have hl : lv_has ls 1 [(0, .ref a)] := hl
  have hk := kd_lo F n
  refine lv_aload_n hx hb d_O_isZero_0 rfl (lv_at hl 0 rfl) ?_
  refine rc_calli (va_runS (As := [.ref a]) (rest := []) ⟨hx, hb, hml, hown, hts⟩ (m_O_degree l D cJ a n F hn) (cwS 1 hts (kb_gi (kb_c kw_328 (kb_c kw_329 (kb_c kw_1 (kb_c kw_330 kb_all))))) rfl rfl rfl (by decide +kernel) ⟨Nat.le_of_ble_eq_true rfl, Nat.le_of_ble_eq_true rfl⟩) ⟨rc_blind, rc_pre hP hD hK hN [0] rfl rfl [0] rfl⟩ rfl rfl hl.1 rfl (lv_room (Nat.le_of_ble_eq_true rfl)) d_O_isZero_1 ⟨Nat.zero_le _, Nat.zero_le _⟩) hP hD hS [0] rfl (fun _ => rfl) (fun r1 u2 H locs hw2 hP hD hS => ?_)
  subst hw2
  have hP : va_P D vC [(a, ka cJ n F)] H := hP
  have hD : va_D A [(a, ka cJ n F)] := hD
  refine rz_if_ge (tgt := 11) hx hb d_O_isZero_4 (by decide) (fun hc3 => ?_) (fun hc3 => ?_)
  · refine rz_iconst hx hb d_O_isZero_11 ?_
    exact W.zret hx hb hr rfl (fun t ht hW => ⟨⟨_, (), rfl, (by rw [if_neg (by omega)]), rc_out ht hP⟩, hS.F ht⟩) hS.2.2 d_O_isZero_12
  · refine rz_iconst hx hb d_O_isZero_7 ?_
    refine lv_goto (tgt := 12) hx hb d_O_isZero_8 (by decide) ?_
    exact W.zret hx hb hr rfl (fun t ht hW => ⟨⟨_, (), rfl, (by rw [if_pos (by omega)]), rc_out ht hP⟩, hS.F ht⟩) hS.2.2 d_O_isZero_12
theorem bt_1 : ∀ k : Nat, k < 15 → (iz 32001 >>> (iz (k : Int) &&& 31)) &&& iz 1 = iz ((32001 / 2 ^ k % 2 : Nat) : Int) := by decide
set_option maxHeartbeats 4000000 in
set_option maxRecDepth 100000 in
theorem lo_O_inverse {x : ro_K} (hx : p.tables.exec = Jvm.exec) (hb : c.code = c_O_inverse) (hml : c.maxLocals = 5) (hown : s.vm.findClass R_O = some m.cls) (hts : ∀ w ∈ kb, w.before args s = true) (hK : va_K D vC [] s) (hN : rc_N s) (hend : ∀ ls, lv_has ls 5 [(2, .long (lk (ro_iv x))), (4, .int (iz (-1))), (0, .long (lk x))] → W p l e R s m args below meth c H locs 0 0 Q (F0 m 45 ls [])) : ∀ (k : Nat) (z : Int) (y : ro_K), z = (k : Int) - 1 → k ≤ 15 → y = ro_pw x (32001 / 2 ^ k) → ∀ ls, lv_has ls 5 [(4, .int (iz z)), (2, .long (lk y)), (0, .long (lk x))] → W p l e R s m args below meth c H locs 0 0 Q (F0 m 6 ls []) := by
  intro k
  induction k with
  | zero =>
    intro z y hz hk hy ls hl
    refine lv_iload hx hb d_O_inverse_6 (lv_at hl 0 rfl) ?_
    refine rz_if_lt (tgt := 45) hx hb d_O_inverse_8 (by decide) (fun hc => ?_) (fun hc => absurd hc (by omega))
    have e : z = -1 := by omega
    have e2 : y = ro_iv x := hy
    rw [e, e2] at hl
    exact hend ls (lv_sub hl [1, 0, 2] rfl)
  | succ k ih =>
    intro z y hz hk hy ls hl
    have ez : z = (k : Int) := by omega
    subst ez
    have hbit := bt_1 k (by omega)
    have hpow : 32001 / 2 ^ k = 2 * (32001 / 2 ^ (k + 1)) + 32001 / 2 ^ k % 2 := by
      rw [Nat.pow_succ, ← Nat.div_div_eq_div_mul]
      omega
    have hyy : ro_pw x (2 * (32001 / 2 ^ (k + 1))) = y * y := by
      rw [Nat.two_mul, ro_pw_add, ← hy]
    refine lv_iload hx hb d_O_inverse_6 (lv_at hl 0 rfl) ?_
    refine rz_if_lt (tgt := 45) hx hb d_O_inverse_8 (by decide) (fun hc => absurd hc (by omega)) (fun hc => ?_)
    refine lv_lload_n hx hb d_O_inverse_11 rfl (lv_at hl 1 rfl) ?_
    refine lv_lload_n hx hb d_O_inverse_12 rfl (lv_at hl 1 rfl) ?_
    refine rlp_lmul hx hb 1024128004 (lk_p y) (lk_p y) d_O_inverse_13 (fun v1 hv1 => ?_)
    refine lv_ldc2 (v := 32003) hx hb hown (hts _ kw_126) d_O_inverse_14 ?_
    refine rlp_lrem hx hb hv1 d_O_inverse_17 ?_
    refine lv_lstore_n (lv' := [(2, .long (lk (y * y))), (4, .int (iz (k : Int))), (0, .long (lk x))]) hx hb d_O_inverse_18 rfl hl (by decide) rfl (fun ls hl => ?_)
    refine rz_sipush hx hb d_O_inverse_19 (by decide) ?_
    refine lv_iload hx hb d_O_inverse_22 (lv_at hl 1 rfl) ?_
    refine lv_ishr hx hb d_O_inverse_24 ?_
    refine rz_iconst hx hb d_O_inverse_25 ?_
    refine lv_iand hx hb d_O_inverse_26 ?_
    rw [hbit]
    refine rz_iconst hx hb d_O_inverse_27 ?_
    refine rz_icmp_ne (tgt := 39) hx hb d_O_inverse_28 (by decide) (fun hc2 => ?_) (fun hc2 => ?_)
    · refine lv_iinc (v := iz ((k : Int) + (-1))) (lv' := [(4, .int (iz ((k : Int) + (-1)))), (2, .long (lk (y * y))), (0, .long (lk x))]) hx hb d_O_inverse_39 hl (k := 1) rfl (iz_add _ _) (by decide) rfl (fun ls hl => ?_)
      refine lv_goto (tgt := 6) hx hb d_O_inverse_42 (by decide) ?_
      exact ih _ _ (by omega) (by omega) (by rw [hpow, show 32001 / 2 ^ k % 2 = 0 by omega, Nat.add_zero, hyy]) ls (lv_sub hl [0, 1, 2] rfl)
    · refine lv_lload_n hx hb d_O_inverse_31 rfl (lv_at hl 0 rfl) ?_
      refine lv_lload_n hx hb d_O_inverse_32 rfl (lv_at hl 2 rfl) ?_
      refine rlp_lmul hx hb 1024128004 (lk_p (y * y)) (lk_p x) d_O_inverse_33 (fun v3 hv3 => ?_)
      refine lv_ldc2 (v := 32003) hx hb hown (hts _ kw_126) d_O_inverse_34 ?_
      refine rlp_lrem hx hb hv3 d_O_inverse_37 ?_
      refine lv_lstore_n (lv' := [(2, .long (lk ((y * y) * x))), (4, .int (iz (k : Int))), (0, .long (lk x))]) hx hb d_O_inverse_38 rfl hl (by decide) rfl (fun ls hl => ?_)
      refine lv_iinc (v := iz ((k : Int) + (-1))) (lv' := [(4, .int (iz ((k : Int) + (-1)))), (2, .long (lk ((y * y) * x))), (0, .long (lk x))]) hx hb d_O_inverse_39 hl (k := 1) rfl (iz_add _ _) (by decide) rfl (fun ls hl => ?_)
      refine lv_goto (tgt := 6) hx hb d_O_inverse_42 (by decide) ?_
      exact ih _ _ (by omega) (by omega) (by rw [hpow, show 32001 / 2 ^ k % 2 = 1 by omega, ro_pw_add, ro_pw_1, hyy]) ls (lv_sub hl [0, 1, 2] rfl)
def ws_O_inverse : List Cond := .code y_O_inverse c_O_inverse 5 (some .long) :: kb
set_option maxHeartbeats 4000000 in
set_option maxRecDepth 100000 in
/-- the inverse -/
theorem m_O_inverse (l : Launch) (D : va_G) (x : ro_K) : Met l y_O_inverse ws_O_inverse ({ frames := 0, cells := 0, slots := 0, locals := 0 }) (rc_Pc D vC [] [.long (lk x)] []) (va_Ql (fun (r : Int64) (_ : Unit) => r = lk (ro_iv x)) (fun _ t => va_P D vC [] t.heap) (rc_A [])) 0 0 (rc_A []) := by
  refine Met.ofW (cc := c_O_inverse) (maxL := 5) (ret := (some .long)) (by decide) rfl ?_
  intro p e s m args below meth c s₁ B hml hv
  obtain ⟨rfl, hP, hK, hD0, hN⟩ := hv
  have hx := B.exec
  have hb := B.bytes
  have hr := B.returns
  have hts0 := atoms_spec (ws := ws_O_inverse) B.pre
  have hts : ∀ w ∈ kb, w.before _ s = true := fun w h => hts0 w (List.mem_cons_of_mem _ h)
  have hown : s.vm.findClass R_O = some m.cls := findClass_of_methodNamed B.named
  have hlocks := B.notSynchronized
  have hD := rc_self hD0
  generalize hAe : rc_A [] = A at hD ⊢
  have hS : va_S A s.heap s.heap [] := va_S.rf
  have hl := lv_entry ([.long (lk x)]) (n := 5) (Nat.le_of_ble_eq_true rfl)
  rw [lg_entry_eq]
  generalize (lg_sl ([.long (lk x)]) ++ List.replicate (5 - (lg_sl ([.long (lk x)])).length) Slot.unset).toArray = ls at hl ⊢

  have hl : lv_has ls 5 [(0, .long (lk x))] := hl
  refine lv_lconst (v := lk 1) hx hb d_O_inverse_0 rfl ?_
  refine lv_lstore_n (lv' := [(2, .long (lk 1)), (0, .long (lk x))]) hx hb d_O_inverse_1 rfl hl (by decide) rfl (fun ls hl => ?_)
  refine rz_bipush hx hb d_O_inverse_2 (by decide) ?_
  refine lv_istore (lv' := [(4, .int (iz 14)), (2, .long (lk 1)), (0, .long (lk x))]) hx hb d_O_inverse_4 hl (by decide) rfl (fun ls hl => ?_)
  refine lo_O_inverse hx hb hml hown hts hK hN (fun ls hl => ?_) 15 _ _ rfl (Nat.le_refl 15) rfl ls (lv_sub hl [0, 1, 2] rfl)
  refine lv_lload_n hx hb d_O_inverse_45 rfl (lv_at hl 0 rfl) ?_
  exact W.lret hx hb hr (fun t ht hW => ⟨⟨_, (), rfl, rfl, rc_out ht hP⟩, hS.F ht⟩) hS.2.2 d_O_inverse_46
end WK
