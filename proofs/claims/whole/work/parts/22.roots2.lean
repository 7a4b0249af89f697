section WK
variable {p : Program} {l : Launch} {e : Env} {R : Room} {s : State} {m : MethodId} {args : Array Value} {below : List Frame} {meth : Method} {c : Code} {H : Heap} {locs : List Loc} {cells slots : Nat} {Q : State → Prop} {D : va_G} {A : Nat → Prop} {H0 : Heap}
/-- an object of Roots -/
abbrev rR (fo : Nat) (cn : Int) (wh pt rs sq on tw : Nat) : va_E := .inr (1, [.ref fo, .int (iz cn), .ref wh, .ref pt, .ref rs, .ref sq, .ref on, .ref tw])
/-- division by x - r, from the highest power down: what is carried, and the numbers -/
def dvL (r : ro_K) : Nat → ro_K → (Nat → ro_K) → (Nat → ro_K)
  | 0, _, F => F
  | n + 1, y, F => dvL r n (F n + y * r) (va_up F n y)
set_option maxHeartbeats 4000000 in
set_option maxRecDepth 100000 in
theorem lo_R_divideOut {fo wh pt rs sq on tw h : Nat} {cn : Int} {cJ : ClassId} {r : ro_K} {G : Nat → ro_K}  (hx : p.tables.exec = Jvm.exec) (hb : c.code = c_R_divideOut) (hml : c.maxLocals = 8) (hown : s.vm.findClass R_R = some m.cls) (hts : ∀ w ∈ kb, w.before args s = true) (hK : va_K D vC [(cJ, .long)] s) (hN : rc_N s) (hend : ∀ (H : Heap) (locs : List Loc) (ls : Array Slot), va_P D vC [(h, rR fo cn wh pt rs sq on tw), (wh, ka cJ 5 G)] H → va_D A [(h, rR fo cn wh pt rs sq on tw), (wh, ka cJ 5 G)] → va_S A H0 H locs → W p l e R s m args below meth c H locs 0 0 Q (F0 m 44 ls [])) : ∀ (n : Nat) (F : Nat → ro_K) (y : ro_K) (z : Int) (H : Heap) (locs : List Loc) (ls : Array Slot), z = (n : Int) - 1 → n ≤ 5 → dvL r n y F = G → va_P D vC [(h, rR fo cn wh pt rs sq on tw), (wh, ka cJ 5 F)] H → va_D A [(h, rR fo cn wh pt rs sq on tw), (wh, ka cJ 5 F)] → va_S A H0 H locs → lv_has ls 8 [(5, .int (iz z)), (3, .long (lk y)), (0, .ref h), (1, .long (lk r))] → W p l e R s m args below meth c H locs 0 0 Q (F0 m 5 ls []) := by
  intro n
  induction n with
  | zero =>
    intro F y z H locs ls hz hn hG hP hD hS hl
    have e : F = G := hG
    subst e
    refine lv_iload hx hb d_R_divideOut_5 (lv_at hl 0 rfl) ?_
    refine rz_if_lt (tgt := 44) hx hb d_R_divideOut_7 (by decide) (fun hc => ?_) (fun hc => absurd hc (by omega))
    exact hend H locs ls hP hD hS
  | succ n ih =>
    intro F y z H locs ls hz hn hG hP hD hS hl
    refine lv_iload hx hb d_R_divideOut_5 (lv_at hl 0 rfl) ?_
    refine rz_if_lt (tgt := 44) hx hb d_R_divideOut_7 (by decide) (fun hc => absurd hc (by omega)) (fun hc => ?_)
    refine lv_aload_n hx hb d_R_divideOut_10 rfl (lv_at hl 2 rfl) ?_
    refine va_get (D := D) (ci := 1) (v := .ref wh) (C := R_R) (T := T_R) (N := 8) hx hb hts in_R hown hK hP 0 rfl rfl 2 (by decide) (hts _ kw_32) (fun _ h9 => h9) rfl d_R_divideOut_11 ?_
    refine lv_iload hx hb d_R_divideOut_14 (lv_at hl 0 rfl) ?_
    refine rk_ld hx hb hK hP 1 0 rfl rfl n d_R_divideOut_16 ?_
    refine lv_lload_n hx hb d_R_divideOut_17 rfl (lv_at hl 1 rfl) ?_
    refine lv_lload_n hx hb d_R_divideOut_18 rfl (lv_at hl 3 rfl) ?_
    refine rlp_lmul hx hb 1024128004 (lk_p y) (lk_p r) d_R_divideOut_19 (fun v1 hv1 => ?_)
    refine rlp_ladd hx hb 1024160006 (lk_p (F n)) hv1 d_R_divideOut_20 (fun v2 hv2 => ?_)
    refine lv_ldc2 (v := 32003) hx hb hown (hts _ kw_360) d_R_divideOut_21 ?_
    refine rlp_lrem hx hb hv2 d_R_divideOut_24 ?_
    refine lv_lstore (lv' := [(6, .long (lk ((F n) + (y * r)))), (5, .int (iz z)), (3, .long (lk y)), (0, .ref h), (1, .long (lk r))]) hx hb d_R_divideOut_25 hl (by decide) rfl (fun ls hl => ?_)
    refine lv_aload_n hx hb d_R_divideOut_27 rfl (lv_at hl 3 rfl) ?_
    refine va_get (D := D) (ci := 1) (v := .ref wh) (C := R_R) (T := T_R) (N := 8) hx hb hts in_R hown hK hP 0 rfl rfl 2 (by decide) (hts _ kw_32) (fun _ h9 => h9) rfl d_R_divideOut_28 ?_
    refine lv_iload hx hb d_R_divideOut_31 (lv_at hl 1 rfl) ?_
    refine lv_lload_n hx hb d_R_divideOut_33 rfl (lv_at hl 2 rfl) ?_
    refine rk_st hx hb hK hP hD hS 1 0 rfl rfl n d_R_divideOut_34 (fun H locs hP hD hS => ?_)
    have hP : va_P D vC [(h, rR fo cn wh pt rs sq on tw), (wh, ka cJ 5 (va_up F n y))] H := hP
    have hD : va_D A [(h, rR fo cn wh pt rs sq on tw), (wh, ka cJ 5 (va_up F n y))] := hD
    refine lv_lload hx hb d_R_divideOut_35 (lv_at hl 0 rfl) ?_
    refine lv_lstore_n (lv' := [(3, .long (lk ((F n) + (y * r)))), (6, .long (lk ((F n) + (y * r)))), (5, .int (iz z)), (0, .ref h), (1, .long (lk r))]) hx hb d_R_divideOut_37 rfl hl (by decide) rfl (fun ls hl => ?_)
    refine lv_iinc (v := iz (z + (-1))) (lv' := [(5, .int (iz (z + (-1)))), (3, .long (lk ((F n) + (y * r)))), (6, .long (lk ((F n) + (y * r)))), (0, .ref h), (1, .long (lk r))]) hx hb d_R_divideOut_38 hl (k := 2) rfl (iz_add _ _) (by decide) rfl (fun ls hl => ?_)
    refine lv_goto (tgt := 5) hx hb d_R_divideOut_41 (by decide) ?_
    exact ih _ _ _ H locs ls (by omega) (by omega) hG hP hD hS (lv_sub hl [0, 1, 3, 4] rfl)
def ws_R_divideOut : List Cond := .code y_R_divideOut c_R_divideOut 8 none :: kb
set_option maxHeartbeats 4000000 in
set_option maxRecDepth 100000 in
/-- x - r is divided out -/
theorem m_R_divideOut (l : Launch) (D : va_G) (cJ : ClassId) (h fo wh pt rs sq on tw : Nat) (cn : Int) (F : Nat → ro_K) (r : ro_K) : Met l y_R_divideOut ws_R_divideOut ({ frames := 0, cells := 0, slots := 0, locals := 0 }) (rc_Pc D vC [(cJ, .long)] [.ref h, .long (lk r)] [(h, rR fo cn wh pt rs sq on tw), (wh, ka cJ 5 F)]) (va_Qv (fun (_ : Unit) => True) (fun _ t => va_P D vC [(h, rR fo cn wh pt rs sq on tw), (wh, ka cJ 5 (dvL r 5 0 F))] t.heap) (rc_A [(h, rR fo cn wh pt rs sq on tw), (wh, ka cJ 5 F)])) 0 0 (rc_A [(h, rR fo cn wh pt rs sq on tw), (wh, ka cJ 5 F)]) := by
  refine Met.ofW (cc := c_R_divideOut) (maxL := 8) (ret := none) (by decide) rfl ?_
  intro p e s m args below meth c s₁ B hml hv
  obtain ⟨rfl, hP, hK, hD0, hN⟩ := hv
  have hx := B.exec
  have hb := B.bytes
  have hr := B.returns
  have hts0 := atoms_spec (ws := ws_R_divideOut) B.pre
  have hts : ∀ w ∈ kb, w.before _ s = true := fun w h => hts0 w (List.mem_cons_of_mem _ h)
  have hown : s.vm.findClass R_R = some m.cls := findClass_of_methodNamed B.named
  have hlocks := B.notSynchronized
  have hD := rc_self hD0
  generalize hAe : rc_A [(h, rR fo cn wh pt rs sq on tw), (wh, ka cJ 5 F)] = A at hD ⊢
  have hS : va_S A s.heap s.heap [] := va_S.rf
  have hl := lv_entry ([.ref h, .long (lk r)]) (n := 8) (Nat.le_of_ble_eq_true rfl)
  rw [lg_entry_eq]
  generalize (lg_sl ([.ref h, .long (lk r)]) ++ List.replicate (8 - (lg_sl ([.ref h, .long (lk r)])).length) Slot.unset).toArray = ls at hl ⊢

  have hl : lv_has ls 8 [(0, .ref h), (1, .long (lk r))] := hl
  refine lv_lconst (v := lk 0) hx hb d_R_divideOut_0 rfl ?_
  refine lv_lstore_n (lv' := [(3, .long (lk 0)), (0, .ref h), (1, .long (lk r))]) hx hb d_R_divideOut_1 rfl hl (by decide) rfl (fun ls hl => ?_)
  refine rz_iconst hx hb d_R_divideOut_2 ?_
  refine lv_istore (lv' := [(5, .int (iz 4)), (3, .long (lk 0)), (0, .ref h), (1, .long (lk r))]) hx hb d_R_divideOut_3 hl (by decide) rfl (fun ls hl => ?_)
  refine lo_R_divideOut (r := r) (G := dvL r 5 0 F) hx hb hml hown hts hK hN (fun H locs ls hP hD hS => ?_) 5 F 0 _ _ _ ls (by omega) (by omega) rfl hP hD hS (lv_sub hl [0, 1, 2, 3] rfl)
  exact W.vret hx hb hr (fun t ht hW => ⟨⟨(), rfl, trivial, rc_out ht hP⟩, hS.F ht⟩) hS.2.2 d_R_divideOut_44
/-- the square: r i times each of the first k numbers; the first k rows of n -/
def sqJ (r : Nat → ro_K) (i : Nat) : Nat → (Nat → ro_K) → (Nat → ro_K)
  | 0, S => S
  | k + 1, S => va_up (sqJ r i k S) (i + k) (sqJ r i k S (i + k) + r i * r k)
def sqI (r : Nat → ro_K) (n : Nat) : Nat → (Nat → ro_K) → (Nat → ro_K)
  | 0, S => S
  | k + 1, S => sqJ r k n (sqI r n k S)
set_option maxHeartbeats 4000000 in
set_option maxRecDepth 100000 in
theorem li_R_squareRaised {fo wh pt rs sq on tw h : Nat} {cn : Int} {cJ : ClassId} {r S : Nat → ro_K} {n i : Nat} {zi zn : Int} (hzn : zn = (n : Int)) (hzi : zi = (i : Int)) (hn : n < 5) (hi : i < n) (hx : p.tables.exec = Jvm.exec) (hb : c.code = c_R_squareRaised) (hml : c.maxLocals = 4) (hown : s.vm.findClass R_R = some m.cls) (hts : ∀ w ∈ kb, w.before args s = true) (hK : va_K D vC [(cJ, .long)] s) (hN : rc_N s) (hend : ∀ (H : Heap) (locs : List Loc) (ls : Array Slot), va_P D vC [(h, rR fo cn wh pt rs sq on tw), (rs, ka cJ 5 r), (sq, ka cJ 8 (sqJ r i n S))] H → va_D A [(h, rR fo cn wh pt rs sq on tw), (rs, ka cJ 5 r), (sq, ka cJ 8 (sqJ r i n S))] → va_S A H0 H locs → lv_has ls 4 [(2, .int (iz zi)), (0, .ref h), (1, .int (iz zn))] → W p l e R s m args below meth c H locs 0 0 Q (F0 m 62 ls [])) : ∀ (q k : Nat) (z : Int) (H : Heap) (locs : List Loc) (ls : Array Slot), z = (k : Int) → k + q = n → va_P D vC [(h, rR fo cn wh pt rs sq on tw), (rs, ka cJ 5 r), (sq, ka cJ 8 (sqJ r i k S))] H → va_D A [(h, rR fo cn wh pt rs sq on tw), (rs, ka cJ 5 r), (sq, ka cJ 8 (sqJ r i k S))] → va_S A H0 H locs → lv_has ls 4 [(3, .int (iz z)), (2, .int (iz zi)), (0, .ref h), (1, .int (iz zn))] → W p l e R s m args below meth c H locs 0 0 Q (F0 m 17 ls []) := by
  intro q
  induction q with
  | zero =>
    intro k z H locs ls hz hk hP hD hS hl
    have e : k = n := hk
    subst e
    refine lv_iload_n hx hb d_R_squareRaised_17 rfl (lv_at hl 0 rfl) ?_
    refine lv_iload_n hx hb d_R_squareRaised_18 rfl (lv_at hl 3 rfl) ?_
    refine rz_icmp_ge (tgt := 62) hx hb d_R_squareRaised_19 (by decide) (fun hc => ?_) (fun hc => absurd hc (by omega))
    exact hend H locs ls hP hD hS (lv_sub hl [1, 2, 3] rfl)
  | succ q ih =>
    intro k z H locs ls hz hk hP hD hS hl
    refine lv_iload_n hx hb d_R_squareRaised_17 rfl (lv_at hl 0 rfl) ?_
    refine lv_iload_n hx hb d_R_squareRaised_18 rfl (lv_at hl 3 rfl) ?_
    refine rz_icmp_ge (tgt := 62) hx hb d_R_squareRaised_19 (by decide) (fun hc => absurd hc (by omega)) (fun hc => ?_)
    refine lv_aload_n hx hb d_R_squareRaised_22 rfl (lv_at hl 2 rfl) ?_
    refine va_get (D := D) (ci := 1) (v := .ref sq) (C := R_R) (T := T_R) (N := 8) hx hb hts in_R hown hK hP 0 rfl rfl 5 (by decide) (hts _ kw_35) (fun _ h9 => h9) rfl d_R_squareRaised_23 ?_
    refine lv_iload_n hx hb d_R_squareRaised_26 rfl (lv_at hl 1 rfl) ?_
    refine lv_iload_n hx hb d_R_squareRaised_27 rfl (lv_at hl 0 rfl) ?_
    refine rz_iadd hx hb d_R_squareRaised_28 ?_
    refine lv_aload_n hx hb d_R_squareRaised_29 rfl (lv_at hl 2 rfl) ?_
    refine va_get (D := D) (ci := 1) (v := .ref sq) (C := R_R) (T := T_R) (N := 8) hx hb hts in_R hown hK hP 0 rfl rfl 5 (by decide) (hts _ kw_35) (fun _ h9 => h9) rfl d_R_squareRaised_30 ?_
    refine lv_iload_n hx hb d_R_squareRaised_33 rfl (lv_at hl 1 rfl) ?_
    refine lv_iload_n hx hb d_R_squareRaised_34 rfl (lv_at hl 0 rfl) ?_
    refine rz_iadd hx hb d_R_squareRaised_35 ?_
    refine rk_ld hx hb hK hP 2 0 rfl rfl (i + k) d_R_squareRaised_36 ?_
    refine lv_aload_n hx hb d_R_squareRaised_37 rfl (lv_at hl 2 rfl) ?_
    refine va_get (D := D) (ci := 1) (v := .ref rs) (C := R_R) (T := T_R) (N := 8) hx hb hts in_R hown hK hP 0 rfl rfl 4 (by decide) (hts _ kw_34) (fun _ h9 => h9) rfl d_R_squareRaised_38 ?_
    refine lv_iload_n hx hb d_R_squareRaised_41 rfl (lv_at hl 1 rfl) ?_
    refine rk_ld hx hb hK hP 1 0 rfl rfl i d_R_squareRaised_42 ?_
    refine lv_aload_n hx hb d_R_squareRaised_43 rfl (lv_at hl 2 rfl) ?_
    refine va_get (D := D) (ci := 1) (v := .ref rs) (C := R_R) (T := T_R) (N := 8) hx hb hts in_R hown hK hP 0 rfl rfl 4 (by decide) (hts _ kw_34) (fun _ h9 => h9) rfl d_R_squareRaised_44 ?_
    refine lv_iload_n hx hb d_R_squareRaised_47 rfl (lv_at hl 0 rfl) ?_
    refine rk_ld hx hb hK hP 1 0 rfl rfl k d_R_squareRaised_48 ?_
    refine rlp_lmul hx hb 1024128004 (lk_p (r i)) (lk_p (r k)) d_R_squareRaised_49 (fun v1 hv1 => ?_)
    refine rlp_ladd hx hb 1024160006 (lk_p ((sqJ r i k S) (i + k))) hv1 d_R_squareRaised_50 (fun v2 hv2 => ?_)
    refine lv_ldc2 (v := 32003) hx hb hown (hts _ kw_360) d_R_squareRaised_51 ?_
    refine rlp_lrem hx hb hv2 d_R_squareRaised_54 ?_
    refine rk_st hx hb hK hP hD hS 2 0 rfl rfl (i + k) d_R_squareRaised_55 (fun H locs hP hD hS => ?_)
    have hP : va_P D vC [(h, rR fo cn wh pt rs sq on tw), (rs, ka cJ 5 r), (sq, ka cJ 8 (va_up (sqJ r i k S) (i + k) (((sqJ r i k S) (i + k)) + ((r i) * (r k)))))] H := hP
    have hD : va_D A [(h, rR fo cn wh pt rs sq on tw), (rs, ka cJ 5 r), (sq, ka cJ 8 (va_up (sqJ r i k S) (i + k) (((sqJ r i k S) (i + k)) + ((r i) * (r k)))))] := hD
    refine lv_iinc (v := iz (z + 1)) (lv' := [(3, .int (iz (z + 1))), (2, .int (iz zi)), (0, .ref h), (1, .int (iz zn))]) hx hb d_R_squareRaised_56 hl (k := 0) rfl (iz_add _ _) (by decide) rfl (fun ls hl => ?_)
    refine lv_goto (tgt := 17) hx hb d_R_squareRaised_59 (by decide) ?_
    exact ih (k + 1) _ H locs ls (by omega) (by omega) hP hD hS (lv_sub hl [0, 1, 2, 3] rfl)
set_option maxHeartbeats 4000000 in
set_option maxRecDepth 100000 in
theorem lo_R_squareRaised {fo wh pt rs sq on tw h : Nat} {cn : Int} {cJ : ClassId} {r S : Nat → ro_K} {n : Nat} {zn : Int} (hzn : zn = (n : Int)) (hn : n < 5) (hx : p.tables.exec = Jvm.exec) (hb : c.code = c_R_squareRaised) (hml : c.maxLocals = 4) (hown : s.vm.findClass R_R = some m.cls) (hts : ∀ w ∈ kb, w.before args s = true) (hK : va_K D vC [(cJ, .long)] s) (hN : rc_N s) (hend : ∀ (H : Heap) (locs : List Loc) (ls : Array Slot), va_P D vC [(h, rR fo cn wh pt rs sq on tw), (rs, ka cJ 5 r), (sq, ka cJ 8 (sqI r n n S))] H → va_D A [(h, rR fo cn wh pt rs sq on tw), (rs, ka cJ 5 r), (sq, ka cJ 8 (sqI r n n S))] → va_S A H0 H locs → W p l e R s m args below meth c H locs 0 0 Q (F0 m 68 ls [])) : ∀ (q k : Nat) (z : Int) (H : Heap) (locs : List Loc) (ls : Array Slot), z = (k : Int) → k + q = n → va_P D vC [(h, rR fo cn wh pt rs sq on tw), (rs, ka cJ 5 r), (sq, ka cJ 8 (sqI r n k S))] H → va_D A [(h, rR fo cn wh pt rs sq on tw), (rs, ka cJ 5 r), (sq, ka cJ 8 (sqI r n k S))] → va_S A H0 H locs → lv_has ls 4 [(2, .int (iz z)), (0, .ref h), (1, .int (iz zn))] → W p l e R s m args below meth c H locs 0 0 Q (F0 m 10 ls []) := by
  intro q
  induction q with
  | zero =>
    intro k z H locs ls hz hk hP hD hS hl
    have e : k = n := hk
    subst e
    refine lv_iload_n hx hb d_R_squareRaised_10 rfl (lv_at hl 0 rfl) ?_
    refine lv_iload_n hx hb d_R_squareRaised_11 rfl (lv_at hl 2 rfl) ?_
    refine rz_icmp_ge (tgt := 68) hx hb d_R_squareRaised_12 (by decide) (fun hc => ?_) (fun hc => absurd hc (by omega))
    exact hend H locs ls hP hD hS
  | succ q ih =>
    intro k z H locs ls hz hk hP hD hS hl
    refine lv_iload_n hx hb d_R_squareRaised_10 rfl (lv_at hl 0 rfl) ?_
    refine lv_iload_n hx hb d_R_squareRaised_11 rfl (lv_at hl 2 rfl) ?_
    refine rz_icmp_ge (tgt := 68) hx hb d_R_squareRaised_12 (by decide) (fun hc => absurd hc (by omega)) (fun hc => ?_)
    refine rz_iconst hx hb d_R_squareRaised_15 ?_
    refine lv_istore_n (lv' := [(3, .int (iz 0)), (2, .int (iz z)), (0, .ref h), (1, .int (iz zn))]) hx hb d_R_squareRaised_16 rfl hl (by decide) rfl (fun ls hl => ?_)
    refine li_R_squareRaised (r := r) (S := sqI r n k S) (i := k) hzn hz hn (by omega) hx hb hml hown hts hK hN (fun H locs ls hP hD hS hl => ?_) n 0 _ H locs ls rfl (by omega) hP hD hS (lv_sub hl [0, 1, 2, 3] rfl)
    refine lv_iinc (v := iz (z + 1)) (lv' := [(2, .int (iz (z + 1))), (0, .ref h), (1, .int (iz zn))]) hx hb d_R_squareRaised_62 hl (k := 0) rfl (iz_add _ _) (by decide) rfl (fun ls hl => ?_)
    refine lv_goto (tgt := 10) hx hb d_R_squareRaised_65 (by decide) ?_
    exact ih (k + 1) _ H locs ls (by omega) (by omega) hP hD hS (lv_sub hl [0, 1, 2] rfl)
def ws_R_squareRaised : List Cond := .code y_R_squareRaised c_R_squareRaised 4 none :: kb
set_option maxHeartbeats 4000000 in
set_option maxRecDepth 100000 in
/-- the square of what was raised -/
theorem m_R_squareRaised (l : Launch) (D : va_G) (cJ : ClassId) (h fo wh pt rs sq on tw : Nat) (cn : Int) (r S : Nat → ro_K) (n : Nat) (zn : Int) (hzn : zn = (n : Int)) (hn : n < 5) : Met l y_R_squareRaised ws_R_squareRaised ({ frames := 1, cells := 0, slots := 0, locals := 24 }) (rc_Pc D vC [(cJ, .long)] [.ref h, .int (iz zn)] [(h, rR fo cn wh pt rs sq on tw), (rs, ka cJ 5 r), (sq, ka cJ 8 S)]) (va_Qv (fun (_ : Unit) => True) (fun _ t => va_P D vC [(h, rR fo cn wh pt rs sq on tw), (rs, ka cJ 5 r), (sq, ka cJ 8 (sqI r n n (kfl S 0 8)))] t.heap) (rc_A [(h, rR fo cn wh pt rs sq on tw), (rs, ka cJ 5 r), (sq, ka cJ 8 S)])) 0 0 (rc_A [(h, rR fo cn wh pt rs sq on tw), (rs, ka cJ 5 r), (sq, ka cJ 8 S)]) := by
  refine Met.ofW (cc := c_R_squareRaised) (maxL := 4) (ret := none) (by decide) rfl ?_
  intro p e s m args below meth c s₁ B hml hv
  obtain ⟨rfl, hP, hK, hD0, hN⟩ := hv
  have hx := B.exec
  have hb := B.bytes
  have hr := B.returns
  have hts0 := atoms_spec (ws := ws_R_squareRaised) B.pre
  have hts : ∀ w ∈ kb, w.before _ s = true := fun w h => hts0 w (List.mem_cons_of_mem _ h)
  have hown : s.vm.findClass R_R = some m.cls := findClass_of_methodNamed B.named
  have hlocks := B.notSynchronized
  have hD := rc_self hD0
  generalize hAe : rc_A [(h, rR fo cn wh pt rs sq on tw), (rs, ka cJ 5 r), (sq, ka cJ 8 S)] = A at hD ⊢
  have hS : va_S A s.heap s.heap [] := va_S.rf
  have hl := lv_entry ([.ref h, .int (iz zn)]) (n := 4) (Nat.le_of_ble_eq_true rfl)
  rw [lg_entry_eq]
  generalize (lg_sl ([.ref h, .int (iz zn)]) ++ List.replicate (4 - (lg_sl ([.ref h, .int (iz zn)])).length) Slot.unset).toArray = ls at hl ⊢

  have hl : lv_has ls 4 [(0, .ref h), (1, .int (iz zn))] := hl
  refine lv_aload_n hx hb d_R_squareRaised_0 rfl (lv_at hl 0 rfl) ?_
  refine va_get (D := D) (ci := 1) (v := .ref sq) (C := R_R) (T := T_R) (N := 8) hx hb hts in_R hown hK hP 0 rfl rfl 5 (by decide) (hts _ kw_35) (fun _ h9 => h9) rfl d_R_squareRaised_1 ?_
  refine lv_lconst (v := lk 0) hx hb d_R_squareRaised_4 rfl ?_
  refine rc_callv (va_runS (As := [.ref sq, .long (lk 0)]) (rest := []) ⟨hx, hb, hml, hown, hts⟩ (m_J_fill l D cJ sq 8 S 0 (by omega)) (va_cwS 2 hts (kb_gi (kb_c kw_369 (kb_c kw_173 (kb_c kw_12 (kb_c kw_174 kb_all))))) rfl rfl rfl (by decide +kernel) ⟨Nat.le_of_ble_eq_true rfl, Nat.le_of_ble_eq_true rfl⟩) ⟨rc_blind, rc_pre hP hD hK hN [2] rfl rfl [0] rfl⟩ rfl rfl hl.1 rfl (lv_room (Nat.le_of_ble_eq_true rfl)) d_R_squareRaised_5 ⟨Nat.zero_le _, Nat.zero_le _⟩) hP hD hS [2] rfl (fun _ => rfl) (fun u1 H locs hw1 hP hD hS => ?_)
  have hP : va_P D vC [(h, rR fo cn wh pt rs sq on tw), (rs, ka cJ 5 r), (sq, ka cJ 8 (kfl S 0 8))] H := hP
  have hD : va_D A [(h, rR fo cn wh pt rs sq on tw), (rs, ka cJ 5 r), (sq, ka cJ 8 (kfl S 0 8))] := hD
  refine rz_iconst hx hb d_R_squareRaised_8 ?_
  refine lv_istore_n (lv' := [(2, .int (iz 0)), (0, .ref h), (1, .int (iz zn))]) hx hb d_R_squareRaised_9 rfl hl (by decide) rfl (fun ls hl => ?_)
  refine lo_R_squareRaised (r := r) (S := kfl S 0 8) hzn hn hx hb hml hown hts hK hN (fun H locs ls hP hD hS => ?_) n 0 _ H locs ls rfl (by omega) hP hD hS (lv_sub hl [0, 1, 2] rfl)
  exact W.vret hx hb hr (fun t ht hW => ⟨⟨(), rfl, trivial, rc_out ht hP⟩, hS.F ht⟩) hS.2.2 d_R_squareRaised_68
/-- x + b times it: powers n down to 1, then 0 -/
def tlL (b : ro_K) : Nat → (Nat → ro_K) → (Nat → ro_K)
  | 0, S => S
  | n + 1, S => tlL b n (va_up S (n + 1) (S (n + 1) * b + S n))
def tlF (b : ro_K) (S : Nat → ro_K) : Nat → ro_K := va_up (tlL b 7 S) 0 (tlL b 7 S 0 * b)
set_option maxHeartbeats 4000000 in
set_option maxRecDepth 100000 in
theorem lo_R_timesLine {fo wh pt rs sq on tw h : Nat} {cn : Int} {cJ : ClassId} {b : ro_K} {G : Nat → ro_K}  (hx : p.tables.exec = Jvm.exec) (hb : c.code = c_R_timesLine) (hml : c.maxLocals = 4) (hown : s.vm.findClass R_R = some m.cls) (hts : ∀ w ∈ kb, w.before args s = true) (hK : va_K D vC [(cJ, .long)] s) (hN : rc_N s) (hend : ∀ (H : Heap) (locs : List Loc) (ls : Array Slot), va_P D vC [(h, rR fo cn wh pt rs sq on tw), (sq, ka cJ 8 G)] H → va_D A [(h, rR fo cn wh pt rs sq on tw), (sq, ka cJ 8 G)] → va_S A H0 H locs → lv_has ls 4 [(0, .ref h), (1, .long (lk b))] → W p l e R s m args below meth c H locs 0 0 Q (F0 m 45 ls [])) : ∀ (n : Nat) (S : Nat → ro_K) (z : Int) (H : Heap) (locs : List Loc) (ls : Array Slot), z = (n : Int) → n ≤ 7 → tlL b n S = G → va_P D vC [(h, rR fo cn wh pt rs sq on tw), (sq, ka cJ 8 S)] H → va_D A [(h, rR fo cn wh pt rs sq on tw), (sq, ka cJ 8 S)] → va_S A H0 H locs → lv_has ls 4 [(3, .int (iz z)), (0, .ref h), (1, .long (lk b))] → W p l e R s m args below meth c H locs 0 0 Q (F0 m 8 ls []) := by
  intro n
  induction n with
  | zero =>
    intro S z H locs ls hz hn hG hP hD hS hl
    have e : S = G := hG
    subst e
    refine lv_iload_n hx hb d_R_timesLine_8 rfl (lv_at hl 0 rfl) ?_
    refine rz_if_le (tgt := 45) hx hb d_R_timesLine_9 (by decide) (fun hc => ?_) (fun hc => absurd hc (by omega))
    exact hend H locs ls hP hD hS (lv_sub hl [1, 2] rfl)
  | succ n ih =>
    intro S z H locs ls hz hn hG hP hD hS hl
    refine lv_iload_n hx hb d_R_timesLine_8 rfl (lv_at hl 0 rfl) ?_
    refine rz_if_le (tgt := 45) hx hb d_R_timesLine_9 (by decide) (fun hc => absurd hc (by omega)) (fun hc => ?_)
    refine lv_aload_n hx hb d_R_timesLine_12 rfl (lv_at hl 1 rfl) ?_
    refine va_get (D := D) (ci := 1) (v := .ref sq) (C := R_R) (T := T_R) (N := 8) hx hb hts in_R hown hK hP 0 rfl rfl 5 (by decide) (hts _ kw_35) (fun _ h9 => h9) rfl d_R_timesLine_13 ?_
    refine lv_iload_n hx hb d_R_timesLine_16 rfl (lv_at hl 0 rfl) ?_
    refine lv_aload_n hx hb d_R_timesLine_17 rfl (lv_at hl 1 rfl) ?_
    refine va_get (D := D) (ci := 1) (v := .ref sq) (C := R_R) (T := T_R) (N := 8) hx hb hts in_R hown hK hP 0 rfl rfl 5 (by decide) (hts _ kw_35) (fun _ h9 => h9) rfl d_R_timesLine_18 ?_
    refine lv_iload_n hx hb d_R_timesLine_21 rfl (lv_at hl 0 rfl) ?_
    refine rk_ld hx hb hK hP 1 0 rfl rfl (n + 1) d_R_timesLine_22 ?_
    refine lv_lload_n hx hb d_R_timesLine_23 rfl (lv_at hl 2 rfl) ?_
    refine rlp_lmul hx hb 1024128004 (lk_p (S (n + 1))) (lk_p b) d_R_timesLine_24 (fun v1 hv1 => ?_)
    refine lv_aload_n hx hb d_R_timesLine_25 rfl (lv_at hl 1 rfl) ?_
    refine va_get (D := D) (ci := 1) (v := .ref sq) (C := R_R) (T := T_R) (N := 8) hx hb hts in_R hown hK hP 0 rfl rfl 5 (by decide) (hts _ kw_35) (fun _ h9 => h9) rfl d_R_timesLine_26 ?_
    refine lv_iload_n hx hb d_R_timesLine_29 rfl (lv_at hl 0 rfl) ?_
    refine rz_iconst hx hb d_R_timesLine_30 ?_
    refine rz_isub hx hb d_R_timesLine_31 ?_
    refine rk_ld hx hb hK hP 1 0 rfl rfl n d_R_timesLine_32 ?_
    refine rlp_ladd hx hb 1024160006 hv1 (lk_p (S n)) d_R_timesLine_33 (fun v2 hv2 => ?_)
    refine lv_ldc2 (v := 32003) hx hb hown (hts _ kw_360) d_R_timesLine_34 ?_
    refine rlp_lrem hx hb hv2 d_R_timesLine_37 ?_
    refine rk_st hx hb hK hP hD hS 1 0 rfl rfl (n + 1) d_R_timesLine_38 (fun H locs hP hD hS => ?_)
    have hP : va_P D vC [(h, rR fo cn wh pt rs sq on tw), (sq, ka cJ 8 (va_up S (n + 1) (((S (n + 1)) * b) + (S n))))] H := hP
    have hD : va_D A [(h, rR fo cn wh pt rs sq on tw), (sq, ka cJ 8 (va_up S (n + 1) (((S (n + 1)) * b) + (S n))))] := hD
    refine lv_iinc (v := iz (z + (-1))) (lv' := [(3, .int (iz (z + (-1)))), (0, .ref h), (1, .long (lk b))]) hx hb d_R_timesLine_39 hl (k := 0) rfl (iz_add _ _) (by decide) rfl (fun ls hl => ?_)
    refine lv_goto (tgt := 8) hx hb d_R_timesLine_42 (by decide) ?_
    exact ih _ _ H locs ls (by omega) (by omega) hG hP hD hS (lv_sub hl [0, 1, 2] rfl)
def ws_R_timesLine : List Cond := .code y_R_timesLine c_R_timesLine 4 none :: kb
set_option maxHeartbeats 4000000 in
set_option maxRecDepth 100000 in
/-- x + b times it -/
theorem m_R_timesLine (l : Launch) (D : va_G) (cJ : ClassId) (h fo wh pt rs sq on tw : Nat) (cn : Int) (S : Nat → ro_K) (b : ro_K) : Met l y_R_timesLine ws_R_timesLine ({ frames := 0, cells := 0, slots := 0, locals := 0 }) (rc_Pc D vC [(cJ, .long)] [.ref h, .long (lk b)] [(h, rR fo cn wh pt rs sq on tw), (sq, ka cJ 8 S)]) (va_Qv (fun (_ : Unit) => True) (fun _ t => va_P D vC [(h, rR fo cn wh pt rs sq on tw), (sq, ka cJ 8 (tlF b S))] t.heap) (rc_A [(h, rR fo cn wh pt rs sq on tw), (sq, ka cJ 8 S)])) 0 0 (rc_A [(h, rR fo cn wh pt rs sq on tw), (sq, ka cJ 8 S)]) := by
  refine Met.ofW (cc := c_R_timesLine) (maxL := 4) (ret := none) (by decide) rfl ?_
  intro p e s m args below meth c s₁ B hml hv
  obtain ⟨rfl, hP, hK, hD0, hN⟩ := hv
  have hx := B.exec
  have hb := B.bytes
  have hr := B.returns
  have hts0 := atoms_spec (ws := ws_R_timesLine) B.pre
  have hts : ∀ w ∈ kb, w.before _ s = true := fun w h => hts0 w (List.mem_cons_of_mem _ h)
  have hown : s.vm.findClass R_R = some m.cls := findClass_of_methodNamed B.named
  have hlocks := B.notSynchronized
  have hD := rc_self hD0
  generalize hAe : rc_A [(h, rR fo cn wh pt rs sq on tw), (sq, ka cJ 8 S)] = A at hD ⊢
  have hS : va_S A s.heap s.heap [] := va_S.rf
  have hl := lv_entry ([.ref h, .long (lk b)]) (n := 4) (Nat.le_of_ble_eq_true rfl)
  rw [lg_entry_eq]
  generalize (lg_sl ([.ref h, .long (lk b)]) ++ List.replicate (4 - (lg_sl ([.ref h, .long (lk b)])).length) Slot.unset).toArray = ls at hl ⊢

  have hl : lv_has ls 4 [(0, .ref h), (1, .long (lk b))] := hl
  refine lv_aload_n hx hb d_R_timesLine_0 rfl (lv_at hl 0 rfl) ?_
  refine va_get (D := D) (ci := 1) (v := .ref sq) (C := R_R) (T := T_R) (N := 8) hx hb hts in_R hown hK hP 0 rfl rfl 5 (by decide) (hts _ kw_35) (fun _ h9 => h9) rfl d_R_timesLine_1 ?_
  refine va_alen (v := iz (8 : Nat)) hx hb hK hP 1 0 rfl rfl (iz_ofNat _) d_R_timesLine_4 ?_
  refine rz_iconst hx hb d_R_timesLine_5 ?_
  refine rz_isub hx hb d_R_timesLine_6 ?_
  refine lv_istore_n (lv' := [(3, .int (iz (((8 : Nat) : Int) - 1))), (0, .ref h), (1, .long (lk b))]) hx hb d_R_timesLine_7 rfl hl (by decide) rfl (fun ls hl => ?_)
  refine lo_R_timesLine (b := b) (G := tlL b 7 S) hx hb hml hown hts hK hN (fun H locs ls hP hD hS hl => ?_) 7 S _ _ _ ls (by omega) (by omega) rfl hP hD hS (lv_sub hl [0, 1, 2] rfl)
  refine lv_aload_n hx hb d_R_timesLine_45 rfl (lv_at hl 0 rfl) ?_
  refine va_get (D := D) (ci := 1) (v := .ref sq) (C := R_R) (T := T_R) (N := 8) hx hb hts in_R hown hK hP 0 rfl rfl 5 (by decide) (hts _ kw_35) (fun _ h9 => h9) rfl d_R_timesLine_46 ?_
  refine rz_iconst hx hb d_R_timesLine_49 ?_
  refine lv_aload_n hx hb d_R_timesLine_50 rfl (lv_at hl 0 rfl) ?_
  refine va_get (D := D) (ci := 1) (v := .ref sq) (C := R_R) (T := T_R) (N := 8) hx hb hts in_R hown hK hP 0 rfl rfl 5 (by decide) (hts _ kw_35) (fun _ h9 => h9) rfl d_R_timesLine_51 ?_
  refine rz_iconst hx hb d_R_timesLine_54 ?_
  refine rk_ld hx hb hK hP 1 0 rfl rfl 0 d_R_timesLine_55 ?_
  refine lv_lload_n hx hb d_R_timesLine_56 rfl (lv_at hl 1 rfl) ?_
  refine rlp_lmul hx hb 1024128004 (lk_p ((tlL b 7 S) 0)) (lk_p b) d_R_timesLine_57 (fun v1 hv1 => ?_)
  refine lv_ldc2 (v := 32003) hx hb hown (hts _ kw_360) d_R_timesLine_58 ?_
  refine rlp_lrem hx hb hv1 d_R_timesLine_61 ?_
  refine rk_st hx hb hK hP hD hS 1 0 rfl rfl 0 d_R_timesLine_62 (fun H locs hP hD hS => ?_)
  have hP : va_P D vC [(h, rR fo cn wh pt rs sq on tw), (sq, ka cJ 8 (va_up (tlL b 7 S) 0 (((tlL b 7 S) 0) * b)))] H := hP
  have hD : va_D A [(h, rR fo cn wh pt rs sq on tw), (sq, ka cJ 8 (va_up (tlL b 7 S) 0 (((tlL b 7 S) 0) * b)))] := hD
  exact W.vret hx hb hr (fun t ht hW => ⟨⟨(), rfl, trivial, rc_out ht hP⟩, hS.F ht⟩) hS.2.2 d_R_timesLine_63
theorem bt_2 : ∀ k : Nat, k < 15 → (iz 32003 >>> (iz (k : Int) &&& 31)) &&& iz 1 = iz ((32003 / 2 ^ k % 2 : Nat) : Int) := by decide
theorem bt_3 : ∀ k : Nat, k < 15 → (iz 16001 >>> (iz (k : Int) &&& 31)) &&& iz 1 = iz ((16001 / 2 ^ k % 2 : Nat) : Int) := by decide
theorem bt_pw {pw : Nat} (hpw : pw = 32003 ∨ pw = 16001) (k : Nat) (hk : k < 15) : (iz (pw : Int) >>> (iz (k : Int) &&& 31)) &&& iz 1 = iz ((pw / 2 ^ k % 2 : Nat) : Int) := by
  rcases hpw with rfl | rfl
  · exact bt_2 k hk
  · exact bt_3 k hk
/-- one bit more: squared, times x + b if the bit is there, less multiples of g -/
def rsS (b : ro_K) (pw n k : Nat) (g r S : Nat → ro_K) : Nat → ro_K := tmr 8 (if pw / 2 ^ k % 2 = 1 then tlF b (sqI r n n (kfl S 0 8)) else sqI r n n (kfl S 0 8)) g
def rsL (b : ro_K) (pw n : Nat) (g : Nat → ro_K) : Nat → (Nat → ro_K) → (Nat → ro_K) → (Nat → ro_K) × (Nat → ro_K)
  | 0, r, S => (r, S)
  | k + 1, r, S => rsL b pw n g k (va_cpy (rsS b pw n k g r S) r 0 0 5) (rsS b pw n k g r S)
/-- x + b to the pw, less multiples of g -/
def rsF (b : ro_K) (pw n : Nat) (g r S : Nat → ro_K) : (Nat → ro_K) × (Nat → ro_K) := rsL b pw n g 15 (va_up (kfl r 0 5) 0 1) S
set_option maxHeartbeats 4000000 in
set_option maxRecDepth 100000 in
theorem lo_R_raise {fo wh pt rs sq on tw h : Nat} {cn : Int} {cJ : ClassId} {mo n pw : Nat} {b : ro_K} {g : Nat → ro_K} {G : (Nat → ro_K) × (Nat → ro_K)} {zn zp : Int} (hzn : zn = (n : Int)) (hn : n < 5) (hzp : zp = (pw : Int)) (hpw : pw = 32003 ∨ pw = 16001) (hx : p.tables.exec = Jvm.exec) (hb : c.code = c_R_raise) (hml : c.maxLocals = 7) (hown : s.vm.findClass R_R = some m.cls) (hts : ∀ w ∈ kb, w.before args s = true) (hK : va_K D vC [(cJ, .long)] s) (hN : rc_N s) (hR : 2 ≤ R.frames ∧ 61 ≤ R.locals) (hend : ∀ (H : Heap) (locs : List Loc) (ls : Array Slot), va_P D vC [(h, rR fo cn wh pt rs sq on tw), (mo, ka cJ 5 g), (rs, ka cJ 5 G.1), (sq, ka cJ 8 G.2)] H → va_D A [(h, rR fo cn wh pt rs sq on tw), (mo, ka cJ 5 g), (rs, ka cJ 5 G.1), (sq, ka cJ 8 G.2)] → va_S A H0 H locs → W p l e R s m args below meth c H locs 0 0 Q (F0 m 78 ls [])) : ∀ (k : Nat) (r S : Nat → ro_K) (z : Int) (H : Heap) (locs : List Loc) (ls : Array Slot), z = (k : Int) - 1 → k ≤ 15 → rsL b pw n g k r S = G → va_P D vC [(h, rR fo cn wh pt rs sq on tw), (mo, ka cJ 5 g), (rs, ka cJ 5 r), (sq, ka cJ 8 S)] H → va_D A [(h, rR fo cn wh pt rs sq on tw), (mo, ka cJ 5 g), (rs, ka cJ 5 r), (sq, ka cJ 8 S)] → va_S A H0 H locs → lv_has ls 7 [(6, .int (iz z)), (5, .int (iz zn)), (0, .ref h), (1, .long (lk b)), (3, .int (iz zp)), (4, .ref mo)] → W p l e R s m args below meth c H locs 0 0 Q (F0 m 26 ls []) := by
  intro k
  induction k with
  | zero =>
    intro r S z H locs ls hz hk hG hP hD hS hl
    have e1 : r = G.1 := congrArg Prod.fst hG
    have e2 : S = G.2 := congrArg Prod.snd hG
    rw [e1, e2] at hP hD
    refine lv_iload hx hb d_R_raise_26 (lv_at hl 0 rfl) ?_
    refine rz_if_lt (tgt := 78) hx hb d_R_raise_28 (by decide) (fun hc => ?_) (fun hc => absurd hc (by omega))
    exact hend H locs ls hP hD hS
  | succ k ih =>
    intro r S z H locs ls hz hk hG hP hD hS hl
    have ez : z = (k : Int) := by omega
    subst ez
    subst hzp
    have hbit := bt_pw hpw k (by omega)
    refine lv_iload hx hb d_R_raise_26 (lv_at hl 0 rfl) ?_
    refine rz_if_lt (tgt := 78) hx hb d_R_raise_28 (by decide) (fun hc => absurd hc (by omega)) (fun hc => ?_)
    refine lv_aload_n hx hb d_R_raise_31 rfl (lv_at hl 2 rfl) ?_
    refine lv_iload hx hb d_R_raise_32 (lv_at hl 1 rfl) ?_
    refine rc_callv (va_runV (As := [.int (iz zn)]) (rest := []) ⟨hx, hb, hml, hown, hts⟩ (m_R_squareRaised l D cJ h fo wh pt rs sq on tw cn r S n zn hzn hn) (cwV 1 hts (kb_gi (kb_c kw_370 (kb_c kw_372 (kb_c ks_R_squareRaised (kb_c kw_2 (kb_c kw_373 kb_all)))))) rfl rfl rfl (by decide +kernel) ⟨Nat.le_trans (by decide) hR.1, Nat.le_trans (by decide) hR.2⟩) ⟨rc_blind, va_recv hK hP (ci := 1) (q0 := 0) rfl rfl, rc_pre hP hD hK hN [0, 2, 3] rfl rfl [0] rfl⟩ rfl rfl hl.1 rfl (lv_room (Nat.le_of_ble_eq_true rfl)) d_R_raise_34 ⟨Nat.zero_le _, Nat.zero_le _⟩) hP hD hS [0, 2, 3] rfl (fun _ => rfl) (fun u1 H locs hw1 hP hD hS => ?_)
    have hP : va_P D vC [(h, rR fo cn wh pt rs sq on tw), (mo, ka cJ 5 g), (rs, ka cJ 5 r), (sq, ka cJ 8 (sqI r n n (kfl S 0 8)))] H := hP
    have hD : va_D A [(h, rR fo cn wh pt rs sq on tw), (mo, ka cJ 5 g), (rs, ka cJ 5 r), (sq, ka cJ 8 (sqI r n n (kfl S 0 8)))] := hD
    refine lv_iload_n hx hb d_R_raise_37 rfl (lv_at hl 4 rfl) ?_
    refine lv_iload hx hb d_R_raise_38 (lv_at hl 0 rfl) ?_
    refine lv_ishr hx hb d_R_raise_40 ?_
    refine rz_iconst hx hb d_R_raise_41 ?_
    refine lv_iand hx hb d_R_raise_42 ?_
    rw [hbit]
    refine rz_iconst hx hb d_R_raise_43 ?_
    refine rz_icmp_ne (tgt := 52) hx hb d_R_raise_44 (by decide) (fun hc2 => ?_) (fun hc2 => ?_)
    · have e : sqI r n n (kfl S 0 8) = if pw / 2 ^ k % 2 = 1 then tlF b (sqI r n n (kfl S 0 8)) else sqI r n n (kfl S 0 8) := by rw [if_neg (by omega)]
      rw [e] at hP hD
      obtain ⟨Y, hY⟩ : ∃ Y, Y = (if pw / 2 ^ k % 2 = 1 then tlF b (sqI r n n (kfl S 0 8)) else sqI r n n (kfl S 0 8)) := ⟨_, rfl⟩
      rw [← hY] at hP hD
      refine lv_aload_n hx hb d_R_raise_52 rfl (lv_at hl 2 rfl) ?_
      refine va_get (D := D) (ci := 1) (v := .ref sq) (C := R_R) (T := T_R) (N := 8) hx hb hts in_R hown hK hP 0 rfl rfl 5 (by decide) (hts _ kw_35) (fun _ h9 => h9) rfl d_R_raise_53 ?_
      refine lv_aload hx hb d_R_raise_56 (lv_at hl 5 rfl) ?_
      refine rc_callv (va_runS (As := [.ref sq, .ref mo]) (rest := []) ⟨hx, hb, hml, hown, hts⟩ (m_R_takeMultiples l D cJ sq mo 8 Y g (by omega)) (cwS 2 hts (kb_gi (kb_c kw_378 (kb_c kw_379 (kb_c kw_2 (kb_c kw_380 kb_all))))) rfl rfl rfl (by decide +kernel) ⟨Nat.le_trans (by decide) hR.1, Nat.le_trans (by decide) hR.2⟩) ⟨rc_blind, rc_pre hP hD hK hN [3, 1] rfl rfl [0] rfl⟩ rfl rfl hl.1 rfl (lv_room (Nat.le_of_ble_eq_true rfl)) d_R_raise_58 ⟨Nat.zero_le _, Nat.zero_le _⟩) hP hD hS [3, 1] rfl (fun _ => rfl) (fun u3 H locs hw3 hP hD hS => ?_)
      have hP : va_P D vC [(h, rR fo cn wh pt rs sq on tw), (mo, ka cJ 5 g), (rs, ka cJ 5 r), (sq, ka cJ 8 (tmr 8 Y g))] H := hP
      have hD : va_D A [(h, rR fo cn wh pt rs sq on tw), (mo, ka cJ 5 g), (rs, ka cJ 5 r), (sq, ka cJ 8 (tmr 8 Y g))] := hD
      refine lv_aload_n hx hb d_R_raise_61 rfl (lv_at hl 2 rfl) ?_
      refine va_get (D := D) (ci := 1) (v := .ref sq) (C := R_R) (T := T_R) (N := 8) hx hb hts in_R hown hK hP 0 rfl rfl 5 (by decide) (hts _ kw_35) (fun _ h9 => h9) rfl d_R_raise_62 ?_
      refine lv_aload_n hx hb d_R_raise_65 rfl (lv_at hl 2 rfl) ?_
      refine va_get (D := D) (ci := 1) (v := .ref rs) (C := R_R) (T := T_R) (N := 8) hx hb hts in_R hown hK hP 0 rfl rfl 4 (by decide) (hts _ kw_34) (fun _ h9 => h9) rfl d_R_raise_66 ?_
      refine rc_callv (va_runS (As := [.ref sq, .ref rs]) (rest := []) ⟨hx, hb, hml, hown, hts⟩ (m_R_copy l D cJ sq rs 8 (tmr 8 Y g) r (by omega)) (cwS 2 hts (kb_gi (kb_c kw_352 (kb_c kw_353 (kb_c kw_2 (kb_c kw_354 kb_all))))) rfl rfl rfl (by decide +kernel) ⟨Nat.le_trans (by decide) hR.1, Nat.le_trans (by decide) hR.2⟩) ⟨rc_blind, rc_pre hP hD hK hN [3, 2] rfl rfl [0] rfl⟩ rfl rfl hl.1 rfl (lv_room (Nat.le_of_ble_eq_true rfl)) d_R_raise_69 ⟨Nat.zero_le _, Nat.zero_le _⟩) hP hD hS [3, 2] rfl (fun _ => rfl) (fun u4 H locs hw4 hP hD hS => ?_)
      have hP : va_P D vC [(h, rR fo cn wh pt rs sq on tw), (mo, ka cJ 5 g), (rs, ka cJ 5 (va_cpy (tmr 8 Y g) r 0 0 5)), (sq, ka cJ 8 (tmr 8 Y g))] H := hP
      have hD : va_D A [(h, rR fo cn wh pt rs sq on tw), (mo, ka cJ 5 g), (rs, ka cJ 5 (va_cpy (tmr 8 Y g) r 0 0 5)), (sq, ka cJ 8 (tmr 8 Y g))] := hD
      refine lv_iinc (v := iz ((k : Int) + (-1))) (lv' := [(6, .int (iz ((k : Int) + (-1)))), (5, .int (iz zn)), (0, .ref h), (1, .long (lk b)), (3, .int (iz (pw : Int))), (4, .ref mo)]) hx hb d_R_raise_72 hl (k := 0) rfl (iz_add _ _) (by decide) rfl (fun ls hl => ?_)
      refine lv_goto (tgt := 26) hx hb d_R_raise_75 (by decide) ?_
      rw [hY] at hP hD
      exact ih _ _ _ H locs ls (by omega) (by omega) hG hP hD hS (lv_sub hl [0, 1, 2, 3, 4, 5] rfl)
    · refine lv_aload_n hx hb d_R_raise_47 rfl (lv_at hl 2 rfl) ?_
      refine lv_lload_n hx hb d_R_raise_48 rfl (lv_at hl 3 rfl) ?_
      refine rc_callv (va_runV (As := [.long (lk b)]) (rest := []) ⟨hx, hb, hml, hown, hts⟩ (m_R_timesLine l D cJ h fo wh pt rs sq on tw cn (sqI r n n (kfl S 0 8)) b) (cwV 1 hts (kb_gi (kb_c kw_374 (kb_c kw_376 (kb_c ks_R_timesLine (kb_c kw_2 (kb_c kw_377 kb_all)))))) rfl rfl rfl (by decide +kernel) ⟨Nat.le_trans (by decide) hR.1, Nat.le_trans (by decide) hR.2⟩) ⟨rc_blind, va_recv hK hP (ci := 1) (q0 := 0) rfl rfl, rc_pre hP hD hK hN [0, 3] rfl rfl [0] rfl⟩ rfl rfl hl.1 rfl (lv_room (Nat.le_of_ble_eq_true rfl)) d_R_raise_49 ⟨Nat.zero_le _, Nat.zero_le _⟩) hP hD hS [0, 3] rfl (fun _ => rfl) (fun u5 H locs hw5 hP hD hS => ?_)
      have hP : va_P D vC [(h, rR fo cn wh pt rs sq on tw), (mo, ka cJ 5 g), (rs, ka cJ 5 r), (sq, ka cJ 8 (tlF b (sqI r n n (kfl S 0 8))))] H := hP
      have hD : va_D A [(h, rR fo cn wh pt rs sq on tw), (mo, ka cJ 5 g), (rs, ka cJ 5 r), (sq, ka cJ 8 (tlF b (sqI r n n (kfl S 0 8))))] := hD
      have e : tlF b (sqI r n n (kfl S 0 8)) = if pw / 2 ^ k % 2 = 1 then tlF b (sqI r n n (kfl S 0 8)) else sqI r n n (kfl S 0 8) := by rw [if_pos (by omega)]
      rw [e] at hP hD
      obtain ⟨Y, hY⟩ : ∃ Y, Y = (if pw / 2 ^ k % 2 = 1 then tlF b (sqI r n n (kfl S 0 8)) else sqI r n n (kfl S 0 8)) := ⟨_, rfl⟩
      rw [← hY] at hP hD
      refine lv_aload_n hx hb d_R_raise_52 rfl (lv_at hl 2 rfl) ?_
      refine va_get (D := D) (ci := 1) (v := .ref sq) (C := R_R) (T := T_R) (N := 8) hx hb hts in_R hown hK hP 0 rfl rfl 5 (by decide) (hts _ kw_35) (fun _ h9 => h9) rfl d_R_raise_53 ?_
      refine lv_aload hx hb d_R_raise_56 (lv_at hl 5 rfl) ?_
      refine rc_callv (va_runS (As := [.ref sq, .ref mo]) (rest := []) ⟨hx, hb, hml, hown, hts⟩ (m_R_takeMultiples l D cJ sq mo 8 Y g (by omega)) (cwS 2 hts (kb_gi (kb_c kw_378 (kb_c kw_379 (kb_c kw_2 (kb_c kw_380 kb_all))))) rfl rfl rfl (by decide +kernel) ⟨Nat.le_trans (by decide) hR.1, Nat.le_trans (by decide) hR.2⟩) ⟨rc_blind, rc_pre hP hD hK hN [3, 1] rfl rfl [0] rfl⟩ rfl rfl hl.1 rfl (lv_room (Nat.le_of_ble_eq_true rfl)) d_R_raise_58 ⟨Nat.zero_le _, Nat.zero_le _⟩) hP hD hS [3, 1] rfl (fun _ => rfl) (fun u6 H locs hw6 hP hD hS => ?_)
      have hP : va_P D vC [(h, rR fo cn wh pt rs sq on tw), (mo, ka cJ 5 g), (rs, ka cJ 5 r), (sq, ka cJ 8 (tmr 8 Y g))] H := hP
      have hD : va_D A [(h, rR fo cn wh pt rs sq on tw), (mo, ka cJ 5 g), (rs, ka cJ 5 r), (sq, ka cJ 8 (tmr 8 Y g))] := hD
      refine lv_aload_n hx hb d_R_raise_61 rfl (lv_at hl 2 rfl) ?_
      refine va_get (D := D) (ci := 1) (v := .ref sq) (C := R_R) (T := T_R) (N := 8) hx hb hts in_R hown hK hP 0 rfl rfl 5 (by decide) (hts _ kw_35) (fun _ h9 => h9) rfl d_R_raise_62 ?_
      refine lv_aload_n hx hb d_R_raise_65 rfl (lv_at hl 2 rfl) ?_
      refine va_get (D := D) (ci := 1) (v := .ref rs) (C := R_R) (T := T_R) (N := 8) hx hb hts in_R hown hK hP 0 rfl rfl 4 (by decide) (hts _ kw_34) (fun _ h9 => h9) rfl d_R_raise_66 ?_
      refine rc_callv (va_runS (As := [.ref sq, .ref rs]) (rest := []) ⟨hx, hb, hml, hown, hts⟩ (m_R_copy l D cJ sq rs 8 (tmr 8 Y g) r (by omega)) (cwS 2 hts (kb_gi (kb_c kw_352 (kb_c kw_353 (kb_c kw_2 (kb_c kw_354 kb_all))))) rfl rfl rfl (by decide +kernel) ⟨Nat.le_trans (by decide) hR.1, Nat.le_trans (by decide) hR.2⟩) ⟨rc_blind, rc_pre hP hD hK hN [3, 2] rfl rfl [0] rfl⟩ rfl rfl hl.1 rfl (lv_room (Nat.le_of_ble_eq_true rfl)) d_R_raise_69 ⟨Nat.zero_le _, Nat.zero_le _⟩) hP hD hS [3, 2] rfl (fun _ => rfl) (fun u7 H locs hw7 hP hD hS => ?_)
      have hP : va_P D vC [(h, rR fo cn wh pt rs sq on tw), (mo, ka cJ 5 g), (rs, ka cJ 5 (va_cpy (tmr 8 Y g) r 0 0 5)), (sq, ka cJ 8 (tmr 8 Y g))] H := hP
      have hD : va_D A [(h, rR fo cn wh pt rs sq on tw), (mo, ka cJ 5 g), (rs, ka cJ 5 (va_cpy (tmr 8 Y g) r 0 0 5)), (sq, ka cJ 8 (tmr 8 Y g))] := hD
      refine lv_iinc (v := iz ((k : Int) + (-1))) (lv' := [(6, .int (iz ((k : Int) + (-1)))), (5, .int (iz zn)), (0, .ref h), (1, .long (lk b)), (3, .int (iz (pw : Int))), (4, .ref mo)]) hx hb d_R_raise_72 hl (k := 0) rfl (iz_add _ _) (by decide) rfl (fun ls hl => ?_)
      refine lv_goto (tgt := 26) hx hb d_R_raise_75 (by decide) ?_
      rw [hY] at hP hD
      exact ih _ _ _ H locs ls (by omega) (by omega) hG hP hD hS (lv_sub hl [0, 1, 2, 3, 4, 5] rfl)
def ws_R_raise : List Cond := .code y_R_raise c_R_raise 7 none :: kb
set_option maxHeartbeats 4000000 in
set_option maxRecDepth 100000 in
/-- x + b to a power, less multiples of g -/
theorem m_R_raise (l : Launch) (D : va_G) (cJ : ClassId) (h fo wh pt rs sq on tw : Nat) (cn : Int) (mo n pw : Nat) (b : ro_K) (g r S : Nat → ro_K) (hg : kd g 5 = (n : Int)) (hpw : pw = 32003 ∨ pw = 16001) : Met l y_R_raise ws_R_raise ({ frames := 2, cells := 0, slots := 0, locals := 61 }) (rc_Pc D vC [(cJ, .long)] [.ref h, .long (lk b), .int (iz (pw : Int)), .ref mo] [(h, rR fo cn wh pt rs sq on tw), (mo, ka cJ 5 g), (rs, ka cJ 5 r), (sq, ka cJ 8 S)]) (va_Qv (fun (_ : Unit) => True) (fun _ t => va_P D vC [(h, rR fo cn wh pt rs sq on tw), (mo, ka cJ 5 g), (rs, ka cJ 5 (rsF b pw n g r S).1), (sq, ka cJ 8 (rsF b pw n g r S).2)] t.heap) (rc_A [(h, rR fo cn wh pt rs sq on tw), (mo, ka cJ 5 g), (rs, ka cJ 5 r), (sq, ka cJ 8 S)])) 0 0 (rc_A [(h, rR fo cn wh pt rs sq on tw), (mo, ka cJ 5 g), (rs, ka cJ 5 r), (sq, ka cJ 8 S)]) := by
  refine Met.ofW (cc := c_R_raise) (maxL := 7) (ret := none) (by decide) rfl ?_
  intro p e s m args below meth c s₁ B hml hv
  obtain ⟨rfl, hP, hK, hD0, hN⟩ := hv
  have hx := B.exec
  have hb := B.bytes
  have hr := B.returns
  have hts0 := atoms_spec (ws := ws_R_raise) B.pre
  have hts : ∀ w ∈ kb, w.before _ s = true := fun w h => hts0 w (List.mem_cons_of_mem _ h)
  have hown : s.vm.findClass R_R = some m.cls := findClass_of_methodNamed B.named
  have hlocks := B.notSynchronized
  have hD := rc_self hD0
  generalize hAe : rc_A [(h, rR fo cn wh pt rs sq on tw), (mo, ka cJ 5 g), (rs, ka cJ 5 r), (sq, ka cJ 8 S)] = A at hD ⊢
  have hS : va_S A s.heap s.heap [] := va_S.rf
  have hl := lv_entry ([.ref h, .long (lk b), .int (iz (pw : Int)), .ref mo]) (n := 7) (Nat.le_of_ble_eq_true rfl)
  rw [lg_entry_eq]
  generalize (lg_sl ([.ref h, .long (lk b), .int (iz (pw : Int)), .ref mo]) ++ List.replicate (7 - (lg_sl ([.ref h, .long (lk b), .int (iz (pw : Int)), .ref mo])).length) Slot.unset).toArray = ls at hl ⊢

  have hl : lv_has ls 7 [(0, .ref h), (1, .long (lk b)), (3, .int (iz (pw : Int))), (4, .ref mo)] := hl
  have hk := kd_lo g 5
  refine lv_aload hx hb d_R_raise_0 (lv_at hl 3 rfl) ?_
  refine rc_calli (va_runSN (As := [.ref mo]) (rest := []) ⟨hx, hb, hml, hown, hts⟩ (m_O_degree l D cJ mo 5 g (by omega)) ⟨va_cnB 1 hts (kb_gi (kb_c kw_330 kb_all)) rfl rfl rfl hN.1 (hts _ kw_1) (by decide +kernel) ⟨Nat.le_of_ble_eq_true rfl, Nat.le_of_ble_eq_true rfl⟩, hts _ kw_329, trivial⟩ ⟨rc_blind, rc_pre hP hD hK hN [1] rfl rfl [0] rfl⟩ rfl rfl hl.1 rfl (lv_room (Nat.le_of_ble_eq_true rfl)) d_R_raise_2 ⟨Nat.zero_le _, Nat.zero_le _⟩) hP hD hS [1] rfl (fun _ => rfl) (fun r1 u2 H locs hw2 hP hD hS => ?_)
  subst hw2
  have hP : va_P D vC [(h, rR fo cn wh pt rs sq on tw), (mo, ka cJ 5 g), (rs, ka cJ 5 r), (sq, ka cJ 8 S)] H := hP
  have hD : va_D A [(h, rR fo cn wh pt rs sq on tw), (mo, ka cJ 5 g), (rs, ka cJ 5 r), (sq, ka cJ 8 S)] := hD
  refine lv_istore (lv' := [(5, .int (iz (kd g 5))), (0, .ref h), (1, .long (lk b)), (3, .int (iz (pw : Int))), (4, .ref mo)]) hx hb d_R_raise_5 hl (by decide) rfl (fun ls hl => ?_)
  refine lv_aload_n hx hb d_R_raise_7 rfl (lv_at hl 1 rfl) ?_
  refine va_get (D := D) (ci := 1) (v := .ref rs) (C := R_R) (T := T_R) (N := 8) hx hb hts in_R hown hK hP 0 rfl rfl 4 (by decide) (hts _ kw_34) (fun _ h9 => h9) rfl d_R_raise_8 ?_
  refine lv_lconst (v := lk 0) hx hb d_R_raise_11 rfl ?_
  refine rc_callv (va_runS (As := [.ref rs, .long (lk 0)]) (rest := []) ⟨hx, hb, hml, hown, hts⟩ (m_J_fill l D cJ rs 5 r 0 (by omega)) (va_cwS 2 hts (kb_gi (kb_c kw_369 (kb_c kw_173 (kb_c kw_12 (kb_c kw_174 kb_all))))) rfl rfl rfl (by decide +kernel) ⟨Nat.le_of_ble_eq_true rfl, Nat.le_of_ble_eq_true rfl⟩) ⟨rc_blind, rc_pre hP hD hK hN [2] rfl rfl [0] rfl⟩ rfl rfl hl.1 rfl (lv_room (Nat.le_of_ble_eq_true rfl)) d_R_raise_12 ⟨Nat.zero_le _, Nat.zero_le _⟩) hP hD hS [2] rfl (fun _ => rfl) (fun u3 H locs hw3 hP hD hS => ?_)
  have hP : va_P D vC [(h, rR fo cn wh pt rs sq on tw), (mo, ka cJ 5 g), (rs, ka cJ 5 (kfl r 0 5)), (sq, ka cJ 8 S)] H := hP
  have hD : va_D A [(h, rR fo cn wh pt rs sq on tw), (mo, ka cJ 5 g), (rs, ka cJ 5 (kfl r 0 5)), (sq, ka cJ 8 S)] := hD
  refine lv_aload_n hx hb d_R_raise_15 rfl (lv_at hl 1 rfl) ?_
  refine va_get (D := D) (ci := 1) (v := .ref rs) (C := R_R) (T := T_R) (N := 8) hx hb hts in_R hown hK hP 0 rfl rfl 4 (by decide) (hts _ kw_34) (fun _ h9 => h9) rfl d_R_raise_16 ?_
  refine rz_iconst hx hb d_R_raise_19 ?_
  refine lv_lconst (v := lk 1) hx hb d_R_raise_20 rfl ?_
  refine rk_st hx hb hK hP hD hS 2 0 rfl rfl 0 d_R_raise_21 (fun H locs hP hD hS => ?_)
  have hP : va_P D vC [(h, rR fo cn wh pt rs sq on tw), (mo, ka cJ 5 g), (rs, ka cJ 5 (va_up (kfl r 0 5) 0 1)), (sq, ka cJ 8 S)] H := hP
  have hD : va_D A [(h, rR fo cn wh pt rs sq on tw), (mo, ka cJ 5 g), (rs, ka cJ 5 (va_up (kfl r 0 5) 0 1)), (sq, ka cJ 8 S)] := hD
  refine rz_bipush hx hb d_R_raise_22 (by decide) ?_
  refine lv_istore (lv' := [(6, .int (iz 14)), (5, .int (iz (kd g 5))), (0, .ref h), (1, .long (lk b)), (3, .int (iz (pw : Int))), (4, .ref mo)]) hx hb d_R_raise_24 hl (by decide) rfl (fun ls hl => ?_)
  refine lo_R_raise (n := n) (pw := pw) (b := b) (g := g) (G := rsF b pw n g r S) hg (by omega) rfl hpw hx hb hml hown hts hK hN ⟨Nat.le_of_ble_eq_true rfl, Nat.le_of_ble_eq_true rfl⟩ (fun H locs ls hP hD hS => ?_) 15 _ _ _ H locs ls (by omega) (by omega) rfl hP hD hS (lv_sub hl [0, 1, 2, 3, 4, 5] rfl)
  exact W.vret hx hb hr (fun t ht hW => ⟨⟨(), rfl, trivial, rc_out ht hP⟩, hS.F ht⟩) hS.2.2 d_R_raise_78
end WK
