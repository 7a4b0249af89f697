section WK
variable {p : Program} {l : Launch} {e : Env} {R : Room} {s : State} {m : MethodId} {args : Array Value} {below : List Frame} {meth : Method} {c : Code} {H : Heap} {locs : List Loc} {cells slots : Nat} {Q : State → Prop} {D : va_G} {A : Nat → Prop} {H0 : Heap}
/-- numbers copied, the first k of them -/
def c2 (G F : Nat → Nat → ro_K) : Nat → Nat → Nat → ro_K
  | 0 => F
  | k + 1 => up2 (c2 G F k) (k / 5) (k % 5) (G (k / 5) (k % 5))
theorem up2_va (M : Nat → Nat → ro_K) (i j : Nat) (x : ro_K) : up2 M i j x = va_up M i (va_up (M i) j x) := by
  funext a b
  unfold up2 va_up
  by_cases h : a = i
  · rw [if_pos h]
    by_cases h2 : b = j
    · rw [if_pos ⟨h, h2⟩, if_pos h2]
    · rw [if_neg (fun z => h2 z.2), if_neg h2, h]
  · rw [if_neg (fun z => h z.1), if_neg h]
theorem va_up_up {α : Type} (F : Nat → α) (i : Nat) (x y : α) : va_up (va_up F i x) i y = va_up F i y := by
  funext a
  unfold va_up
  by_cases h : a = i
  · rw [if_pos h, if_pos h]
  · rw [if_neg h, if_neg h, if_neg h]
def ws_M_isThere : List Cond := .code y_M_isThere c_M_isThere 3 (some .boolean) :: kb
set_option maxHeartbeats 4000000 in
set_option maxRecDepth 100000 in
/-- isThere -/
theorem m_M_isThere (l : Launch) (D : va_G) (h : Nat) (cd od : Int) (fc hd md lo : Nat) (lv : Int) (tb rw bs : Nat) (mn : Int) (nu tu : Nat) (zi zp : Int) (o : Nat) (hod : od = (o : Int)) (ho3 : o ≤ 3) (hzil : -2147483648 ≤ zi) (hzih : zi < 2147483648) (hzpl : -2147483648 ≤ zp) (hzph : zp < 2147483648) : Met l y_M_isThere ws_M_isThere ({ frames := 1, cells := 0, slots := 0, locals := 25 }) (rc_Pc D vC [] [.ref h, .int (iz zi), .int (iz zp)] [(h, rM cd od fc hd md lo lv tb rw bs mn nu tu)]) (va_Qi (fun (q : Int32) (u : Int) => (u = 0 ∧ ((0 ≤ zi ∧ zi ≤ od) ∧ 0 ≤ zp ∧ zp ≤ 4) ∧ q = iz 1) ∨ (u = 1 ∧ ¬ ((0 ≤ zi ∧ zi ≤ od) ∧ 0 ≤ zp ∧ zp ≤ 4) ∧ q = iz 0)) (fun u t => va_P D vC [(h, rM u od fc hd md lo lv tb rw bs mn nu tu)] t.heap) (rc_A [(h, rM cd od fc hd md lo lv tb rw bs mn nu tu)])) 0 0 (rc_A [(h, rM cd od fc hd md lo lv tb rw bs mn nu tu)]) := by
  refine Met.ofW (cc := c_M_isThere) (maxL := 3) (ret := (some .boolean)) (by decide) rfl ?_
  intro p e s m args below meth c s₁ B hml hv
  obtain ⟨rfl, hP, hK, hD0, hN⟩ := hv
  have hx := B.exec
  have hb := B.bytes
  have hr := B.returns
  have hts0 := atoms_spec (ws := ws_M_isThere) B.pre
  have hts : ∀ w ∈ kb, w.before _ s = true := fun w h => hts0 w (List.mem_cons_of_mem _ h)
  have hown : s.vm.findClass R_M = some m.cls := findClass_of_methodNamed B.named
  have hlocks := B.notSynchronized
  have hD := rc_self hD0
  generalize hAe : rc_A [(h, rM cd od fc hd md lo lv tb rw bs mn nu tu)] = A at hD ⊢
  have hS : va_S A s.heap s.heap [] := va_S.rf
  have hl := lv_entry ([.ref h, .int (iz zi), .int (iz zp)]) (n := 3) (Nat.le_of_ble_eq_true rfl)
  rw [lg_entry_eq]
  generalize (lg_sl ([.ref h, .int (iz zi), .int (iz zp)]) ++ List.replicate (3 - (lg_sl ([.ref h, .int (iz zi), .int (iz zp)])).length) Slot.unset).toArray = ls at hl ⊢

  have hl : lv_has ls 3 [(0, .ref h), (1, .int (iz zi)), (2, .int (iz zp))] := hl
  refine lv_aload_n hx hb d_M_isThere_0 rfl (lv_at hl 0 rfl) ?_
  refine lv_iload_n hx hb d_M_isThere_1 rfl (lv_at hl 1 rfl) ?_
  refine lv_i2l hx hb d_M_isThere_2 rfl ?_
  refine lv_lconst (v := lk 0) hx hb d_M_isThere_3 rfl ?_
  refine lv_aload_n hx hb d_M_isThere_4 rfl (lv_at hl 0 rfl) ?_
  refine va_get (D := D) (ci := 3) (v := .int (iz od)) (C := R_M) (T := T_M) (N := 13) hx hb hts in_M hown hK hP 0 rfl rfl 1 (by decide) (hts _ kw_531) (fun _ h9 => h9) rfl d_M_isThere_5 ?_
  refine lv_i2l hx hb d_M_isThere_8 rfl ?_
  refine rc_calli (va_runS (As := [.long ((iz zi)).toInt64, .long (lk 0), .long ((iz od)).toInt64]) (rest := [.ref h]) ⟨hx, hb, hml, hown, hts⟩ (m_M_in l D ((iz zi)).toInt64 (lk 0) ((iz od)).toInt64 zi 0 od (lx_iz (by omega) (by omega)) (by show Int64.toInt _ = _; decide) (lx_iz (by omega) (by omega))) (cwS 3 hts (kb_gi (kb_c kw_582 (kb_c kw_583 (kb_c kw_5 (kb_c kw_584 kb_all))))) rfl rfl rfl (by decide +kernel) ⟨Nat.le_of_ble_eq_true rfl, Nat.le_of_ble_eq_true rfl⟩) ⟨rc_blind, rc_pre hP hD hK hN [] rfl rfl [] rfl⟩ rfl rfl hl.1 rfl (lv_room (Nat.le_of_ble_eq_true rfl)) d_M_isThere_9 ⟨Nat.zero_le _, Nat.zero_le _⟩) hP hD hS [] rfl (fun _ => rfl) (fun r1 u2 H locs hw2 hP hD hS => ?_)
  subst hw2
  have hP : va_P D vC [(h, rM cd od fc hd md lo lv tb rw bs mn nu tu)] H := hP
  have hD : va_D A [(h, rM cd od fc hd md lo lv tb rw bs mn nu tu)] := hD
  refine rb_if_eq (tgt := 31) hx hb d_M_isThere_12 (by decide) (fun hc3 => ?_) (fun hc3 => ?_)
  · refine rz_iconst hx hb d_M_isThere_31 ?_
    refine va_put (D := D) (ci := 3) (v := .int (iz 1)) (ty := .int) (C := R_M) (T := T_M) (N := 13) hx hb hts in_M ty_M tk_M nm_M hown hK hP hD hS 0 rfl rfl 0 (by decide) (hts _ kw_530) (fun _ h9 => h9) rfl (by decide +kernel) rfl rfl (Nat.le_of_ble_eq_true rfl) d_M_isThere_32 (fun H locs hP hD hS => ?_)
    have hP : va_P D vC [(h, rM 1 od fc hd md lo lv tb rw bs mn nu tu)] H := hP
    have hD : va_D A [(h, rM 1 od fc hd md lo lv tb rw bs mn nu tu)] := hD
    refine lv_aload_n hx hb d_M_isThere_35 rfl (lv_at hl 0 rfl) ?_
    refine va_get (D := D) (ci := 3) (v := .int (iz 1)) (C := R_M) (T := T_M) (N := 13) hx hb hts in_M hown hK hP 0 rfl rfl 0 (by decide) (hts _ kw_530) (fun _ h9 => h9) rfl d_M_isThere_36 ?_
    refine rz_if_ne (tgt := 46) hx hb d_M_isThere_39 (by decide) (fun _ => ?_) (fun hc => absurd hc (by decide))
    refine rz_iconst hx hb d_M_isThere_46 ?_
    exact W.zret hx hb hr rfl (fun t ht hW => ⟨⟨_, 1, rfl, (Or.inr ⟨rfl, (by omega), rfl⟩), rc_out ht hP⟩, hS.F ht⟩) hS.2.2 d_M_isThere_47
  · refine lv_iload_n hx hb d_M_isThere_15 rfl (lv_at hl 2 rfl) ?_
    refine lv_i2l hx hb d_M_isThere_16 rfl ?_
    refine lv_lconst (v := lk 0) hx hb d_M_isThere_17 rfl ?_
    refine lv_ldc2 (v := 4) hx hb hown (hts _ kw_585) d_M_isThere_18 ?_
    refine rc_calli (va_runS (As := [.long ((iz zp)).toInt64, .long (lk 0), .long 4]) (rest := [.ref h]) ⟨hx, hb, hml, hown, hts⟩ (m_M_in l D ((iz zp)).toInt64 (lk 0) 4 zp 0 4 (lx_iz (by omega) (by omega)) (by show Int64.toInt _ = _; decide) (by show Int64.toInt _ = _; decide)) (cwS 3 hts (kb_gi (kb_c kw_582 (kb_c kw_583 (kb_c kw_5 (kb_c kw_584 kb_all))))) rfl rfl rfl (by decide +kernel) ⟨Nat.le_of_ble_eq_true rfl, Nat.le_of_ble_eq_true rfl⟩) ⟨rc_blind, rc_pre hP hD hK hN [] rfl rfl [] rfl⟩ rfl rfl hl.1 rfl (lv_room (Nat.le_of_ble_eq_true rfl)) d_M_isThere_21 ⟨Nat.zero_le _, Nat.zero_le _⟩) hP hD hS [] rfl (fun _ => rfl) (fun r4 u5 H locs hw5 hP hD hS => ?_)
    subst hw5
    have hP : va_P D vC [(h, rM cd od fc hd md lo lv tb rw bs mn nu tu)] H := hP
    have hD : va_D A [(h, rM cd od fc hd md lo lv tb rw bs mn nu tu)] := hD
    refine rb_if_eq (tgt := 31) hx hb d_M_isThere_24 (by decide) (fun hc6 => ?_) (fun hc6 => ?_)
    · refine rz_iconst hx hb d_M_isThere_31 ?_
      refine va_put (D := D) (ci := 3) (v := .int (iz 1)) (ty := .int) (C := R_M) (T := T_M) (N := 13) hx hb hts in_M ty_M tk_M nm_M hown hK hP hD hS 0 rfl rfl 0 (by decide) (hts _ kw_530) (fun _ h9 => h9) rfl (by decide +kernel) rfl rfl (Nat.le_of_ble_eq_true rfl) d_M_isThere_32 (fun H locs hP hD hS => ?_)
      have hP : va_P D vC [(h, rM 1 od fc hd md lo lv tb rw bs mn nu tu)] H := hP
      have hD : va_D A [(h, rM 1 od fc hd md lo lv tb rw bs mn nu tu)] := hD
      refine lv_aload_n hx hb d_M_isThere_35 rfl (lv_at hl 0 rfl) ?_
      refine va_get (D := D) (ci := 3) (v := .int (iz 1)) (C := R_M) (T := T_M) (N := 13) hx hb hts in_M hown hK hP 0 rfl rfl 0 (by decide) (hts _ kw_530) (fun _ h9 => h9) rfl d_M_isThere_36 ?_
      refine rz_if_ne (tgt := 46) hx hb d_M_isThere_39 (by decide) (fun _ => ?_) (fun hc => absurd hc (by decide))
      refine rz_iconst hx hb d_M_isThere_46 ?_
      exact W.zret hx hb hr rfl (fun t ht hW => ⟨⟨_, 1, rfl, (Or.inr ⟨rfl, (by omega), rfl⟩), rc_out ht hP⟩, hS.F ht⟩) hS.2.2 d_M_isThere_47
    · refine rz_iconst hx hb d_M_isThere_27 ?_
      refine lv_goto (tgt := 32) hx hb d_M_isThere_28 (by decide) ?_
      refine va_put (D := D) (ci := 3) (v := .int (iz 0)) (ty := .int) (C := R_M) (T := T_M) (N := 13) hx hb hts in_M ty_M tk_M nm_M hown hK hP hD hS 0 rfl rfl 0 (by decide) (hts _ kw_530) (fun _ h9 => h9) rfl (by decide +kernel) rfl rfl (Nat.le_of_ble_eq_true rfl) d_M_isThere_32 (fun H locs hP hD hS => ?_)
      have hP : va_P D vC [(h, rM 0 od fc hd md lo lv tb rw bs mn nu tu)] H := hP
      have hD : va_D A [(h, rM 0 od fc hd md lo lv tb rw bs mn nu tu)] := hD
      refine lv_aload_n hx hb d_M_isThere_35 rfl (lv_at hl 0 rfl) ?_
      refine va_get (D := D) (ci := 3) (v := .int (iz 0)) (C := R_M) (T := T_M) (N := 13) hx hb hts in_M hown hK hP 0 rfl rfl 0 (by decide) (hts _ kw_530) (fun _ h9 => h9) rfl d_M_isThere_36 ?_
      refine rz_if_ne (tgt := 46) hx hb d_M_isThere_39 (by decide) (fun hc => absurd hc (by decide)) (fun _ => ?_)
      refine rz_iconst hx hb d_M_isThere_42 ?_
      refine lv_goto (tgt := 47) hx hb d_M_isThere_43 (by decide) ?_
      exact W.zret hx hb hr rfl (fun t ht hW => ⟨⟨_, 0, rfl, (Or.inl ⟨rfl, ⟨by assumption, by assumption⟩, rfl⟩), rc_out ht hP⟩, hS.F ht⟩) hS.2.2 d_M_isThere_47
def ws_M_put : List Cond := .code y_M_put c_M_put 6 (some .boolean) :: kb
set_option maxHeartbeats 4000000 in
set_option maxRecDepth 100000 in
/-- put -/
theorem m_M_put (l : Launch) (D : va_G) (cJ cI : ClassId) (h : Nat) (cd od : Int) (fc hd md lo : Nat) (lv : Int) (tb rw bs : Nat) (mn : Int) (nu tu : Nat) (F : Nat → Nat → ro_K) (zi zp : Int) (v : Int64) (o : Nat) (hod : od = (o : Int)) (ho3 : o ≤ 3) (hzil : -2147483648 ≤ zi) (hzih : zi < 2147483648) (hzpl : -2147483648 ≤ zp) (hzph : zp < 2147483648) : Met l y_M_put ws_M_put ({ frames := 2, cells := 0, slots := 0, locals := 47 }) (rc_Pc D vC [(cJ, .long), (cI, .int)] [.ref h, .int (iz zi), .int (iz zp), .long v] [(h, rM cd od fc hd md lo lv tb rw bs mn nu tu), (fc, k2 cJ 20 5 F)]) (va_Qi (fun (q : Int32) (u : Int × (Nat → Nat → ro_K)) => (((0 ≤ zi ∧ zi ≤ od) ∧ 0 ≤ zp ∧ zp ≤ 4) ∧ u = (0, up2 F zi.toNat zp.toNat (ro_k v.toInt)) ∧ q = if F zi.toNat zp.toNat = ro_k v.toInt then iz 0 else iz 1) ∨ (¬ ((0 ≤ zi ∧ zi ≤ od) ∧ 0 ≤ zp ∧ zp ≤ 4) ∧ u = (1, F) ∧ q = iz 0)) (fun u t => va_P D vC [(h, rM u.1 od fc hd md lo lv tb rw bs mn nu tu), (fc, k2 cJ 20 5 u.2)] t.heap) (rc_A [(h, rM cd od fc hd md lo lv tb rw bs mn nu tu), (fc, k2 cJ 20 5 F)])) 0 0 (rc_A [(h, rM cd od fc hd md lo lv tb rw bs mn nu tu), (fc, k2 cJ 20 5 F)]) := by
  refine Met.ofW (cc := c_M_put) (maxL := 6) (ret := (some .boolean)) (by decide) rfl ?_
  intro p e s m args below meth c s₁ B hml hv
  obtain ⟨rfl, hP, hK, hD0, hN⟩ := hv
  have hx := B.exec
  have hb := B.bytes
  have hr := B.returns
  have hts0 := atoms_spec (ws := ws_M_put) B.pre
  have hts : ∀ w ∈ kb, w.before _ s = true := fun w h => hts0 w (List.mem_cons_of_mem _ h)
  have hown : s.vm.findClass R_M = some m.cls := findClass_of_methodNamed B.named
  have hlocks := B.notSynchronized
  have hD := rc_self hD0
  generalize hAe : rc_A [(h, rM cd od fc hd md lo lv tb rw bs mn nu tu), (fc, k2 cJ 20 5 F)] = A at hD ⊢
  have hS : va_S A s.heap s.heap [] := va_S.rf
  have hl := lv_entry ([.ref h, .int (iz zi), .int (iz zp), .long v]) (n := 6) (Nat.le_of_ble_eq_true rfl)
  rw [lg_entry_eq]
  generalize (lg_sl ([.ref h, .int (iz zi), .int (iz zp), .long v]) ++ List.replicate (6 - (lg_sl ([.ref h, .int (iz zi), .int (iz zp), .long v])).length) Slot.unset).toArray = ls at hl ⊢

  have hl : lv_has ls 6 [(0, .ref h), (1, .int (iz zi)), (2, .int (iz zp)), (3, .long v)] := hl
  refine lv_aload_n hx hb d_M_put_0 rfl (lv_at hl 0 rfl) ?_
  refine lv_iload_n hx hb d_M_put_1 rfl (lv_at hl 1 rfl) ?_
  refine lv_iload_n hx hb d_M_put_2 rfl (lv_at hl 2 rfl) ?_
  refine rc_calli (va_runV (As := [.int (iz zi), .int (iz zp)]) (rest := []) ⟨hx, hb, hml, hown, hts⟩ (m_M_isThere l D h cd od fc hd md lo lv tb rw bs mn nu tu zi zp o hod ho3 hzil hzih hzpl hzph) (cwV 2 hts (kb_gi (kb_c kw_578 (kb_c kw_580 (kb_c ks_M_isThere (kb_c kw_5 (kb_c kw_581 kb_all)))))) rfl rfl rfl (by decide +kernel) ⟨Nat.le_of_ble_eq_true rfl, Nat.le_of_ble_eq_true rfl⟩) ⟨rc_blind, va_recv hK hP (ci := 3) (q0 := 0) rfl rfl, rc_pre hP hD hK hN [0] rfl rfl [] rfl⟩ rfl rfl hl.1 rfl (lv_room (Nat.le_of_ble_eq_true rfl)) d_M_put_3 ⟨Nat.zero_le _, Nat.zero_le _⟩) hP hD hS [0] rfl (fun _ => rfl) (fun r1 u2 H locs hw2 hP hD hS => ?_)
  rcases hw2 with ⟨rfl, hC, rfl⟩ | ⟨rfl, hC, rfl⟩
  · have hP : va_P D vC [(h, rM 0 od fc hd md lo lv tb rw bs mn nu tu), (fc, k2 cJ 20 5 F)] H := hP
    have hD : va_D A [(h, rM 0 od fc hd md lo lv tb rw bs mn nu tu), (fc, k2 cJ 20 5 F)] := hD
    refine rz_if_ne (tgt := 11) hx hb d_M_put_6 (by decide) (fun _ => ?_) (fun hc => absurd hc (by decide))
    refine lv_aload_n hx hb d_M_put_11 rfl (lv_at hl 0 rfl) ?_
    refine va_get (D := D) (ci := 3) (v := .ref fc) (C := R_M) (T := T_M) (N := 13) hx hb hts in_M hown hK hP 0 rfl rfl 2 (by decide) (hts _ kw_532) (fun _ h9 => h9) rfl d_M_put_12 ?_
    refine rz_iconst hx hb d_M_put_15 ?_
    refine lv_iload_n hx hb d_M_put_16 rfl (lv_at hl 1 rfl) ?_
    refine rz_imul hx hb d_M_put_17 ?_
    refine lv_iload_n hx hb d_M_put_18 rfl (lv_at hl 2 rfl) ?_
    refine rz_iadd hx hb d_M_put_19 ?_
    refine rm_ld hx hb hK hP 1 0 rfl rfl zi.toNat zp.toNat d_M_put_20 ?_
    refine lv_lload_n hx hb d_M_put_21 rfl (lv_at hl 3 rfl) ?_
    refine rc_calll (va_runS (As := [.long v]) (rest := [.long (lk (F zi.toNat zp.toNat))]) ⟨hx, hb, hml, hown, hts⟩ (m_M_modulo l D v) (cwS 1 hts (kb_gi (kb_c kw_586 (kb_c kw_587 (kb_c kw_5 (kb_c kw_588 kb_all))))) rfl rfl rfl (by decide +kernel) ⟨Nat.le_of_ble_eq_true rfl, Nat.le_of_ble_eq_true rfl⟩) ⟨rc_blind, rc_pre hP hD hK hN [] rfl rfl [] rfl⟩ rfl rfl hl.1 rfl (lv_room (Nat.le_of_ble_eq_true rfl)) d_M_put_22 ⟨Nat.zero_le _, Nat.zero_le _⟩) hP hD hS [] rfl (fun _ => rfl) (fun r3 u4 H locs hw4 hP hD hS => ?_)
    subst hw4
    have hP : va_P D vC [(h, rM 0 od fc hd md lo lv tb rw bs mn nu tu), (fc, k2 cJ 20 5 F)] H := hP
    have hD : va_D A [(h, rM 0 od fc hd md lo lv tb rw bs mn nu tu), (fc, k2 cJ 20 5 F)] := hD
    refine rz_lcmp_eq (tgt := 33) hx hb d_M_put_25 d_M_put_26 (by decide) (fun hc5 => ?_) (fun hc5 => ?_)
    · have hc5 : (F zi.toNat zp.toNat) = (ro_k v.toInt) := lk_inj.mp hc5
      refine rz_iconst hx hb d_M_put_33 ?_
      refine lv_istore (lv' := [(5, .int (iz 0)), (0, .ref h), (1, .int (iz zi)), (2, .int (iz zp)), (3, .long v)]) hx hb d_M_put_34 hl (by decide) rfl (fun ls hl => ?_)
      refine lv_aload_n hx hb d_M_put_36 rfl (lv_at hl 1 rfl) ?_
      refine va_get (D := D) (ci := 3) (v := .ref fc) (C := R_M) (T := T_M) (N := 13) hx hb hts in_M hown hK hP 0 rfl rfl 2 (by decide) (hts _ kw_532) (fun _ h9 => h9) rfl d_M_put_37 ?_
      refine rz_iconst hx hb d_M_put_40 ?_
      refine lv_iload_n hx hb d_M_put_41 rfl (lv_at hl 2 rfl) ?_
      refine rz_imul hx hb d_M_put_42 ?_
      refine lv_iload_n hx hb d_M_put_43 rfl (lv_at hl 3 rfl) ?_
      refine rz_iadd hx hb d_M_put_44 ?_
      refine lv_lload_n hx hb d_M_put_45 rfl (lv_at hl 4 rfl) ?_
      refine rc_calll (va_runS (As := [.long v]) (rest := [.int (iz ((5 * zi) + zp)), .ref fc]) ⟨hx, hb, hml, hown, hts⟩ (m_M_modulo l D v) (cwS 1 hts (kb_gi (kb_c kw_586 (kb_c kw_587 (kb_c kw_5 (kb_c kw_588 kb_all))))) rfl rfl rfl (by decide +kernel) ⟨Nat.le_of_ble_eq_true rfl, Nat.le_of_ble_eq_true rfl⟩) ⟨rc_blind, rc_pre hP hD hK hN [] rfl rfl [] rfl⟩ rfl rfl hl.1 rfl (lv_room (Nat.le_of_ble_eq_true rfl)) d_M_put_46 ⟨Nat.zero_le _, Nat.zero_le _⟩) hP hD hS [] rfl (fun _ => rfl) (fun r6 u7 H locs hw7 hP hD hS => ?_)
      subst hw7
      have hP : va_P D vC [(h, rM 0 od fc hd md lo lv tb rw bs mn nu tu), (fc, k2 cJ 20 5 F)] H := hP
      have hD : va_D A [(h, rM 0 od fc hd md lo lv tb rw bs mn nu tu), (fc, k2 cJ 20 5 F)] := hD
      refine rm_st hx hb hK hP hD hS 1 0 rfl rfl zi.toNat zp.toNat d_M_put_49 (fun H locs hP hD hS => ?_)
      have hP : va_P D vC [(h, rM 0 od fc hd md lo lv tb rw bs mn nu tu), (fc, k2 cJ 20 5 (up2 F zi.toNat zp.toNat (ro_k v.toInt)))] H := hP
      have hD : va_D A [(h, rM 0 od fc hd md lo lv tb rw bs mn nu tu), (fc, k2 cJ 20 5 (up2 F zi.toNat zp.toNat (ro_k v.toInt)))] := hD
      refine lv_iload hx hb d_M_put_50 (lv_at hl 0 rfl) ?_
      exact W.zret hx hb hr rfl (fun t ht hW => ⟨⟨_, (0, up2 F zi.toNat zp.toNat (ro_k v.toInt)), rfl, (Or.inl ⟨hC, rfl, by rw [if_pos (by assumption)]⟩), rc_out ht hP⟩, hS.F ht⟩) hS.2.2 d_M_put_52
    · have hc5 : (F zi.toNat zp.toNat) ≠ (ro_k v.toInt) := fun z => hc5 (lk_inj.mpr z)
      refine rz_iconst hx hb d_M_put_29 ?_
      refine lv_goto (tgt := 34) hx hb d_M_put_30 (by decide) ?_
      refine lv_istore (lv' := [(5, .int (iz 1)), (0, .ref h), (1, .int (iz zi)), (2, .int (iz zp)), (3, .long v)]) hx hb d_M_put_34 hl (by decide) rfl (fun ls hl => ?_)
      refine lv_aload_n hx hb d_M_put_36 rfl (lv_at hl 1 rfl) ?_
      refine va_get (D := D) (ci := 3) (v := .ref fc) (C := R_M) (T := T_M) (N := 13) hx hb hts in_M hown hK hP 0 rfl rfl 2 (by decide) (hts _ kw_532) (fun _ h9 => h9) rfl d_M_put_37 ?_
      refine rz_iconst hx hb d_M_put_40 ?_
      refine lv_iload_n hx hb d_M_put_41 rfl (lv_at hl 2 rfl) ?_
      refine rz_imul hx hb d_M_put_42 ?_
      refine lv_iload_n hx hb d_M_put_43 rfl (lv_at hl 3 rfl) ?_
      refine rz_iadd hx hb d_M_put_44 ?_
      refine lv_lload_n hx hb d_M_put_45 rfl (lv_at hl 4 rfl) ?_
      refine rc_calll (va_runS (As := [.long v]) (rest := [.int (iz ((5 * zi) + zp)), .ref fc]) ⟨hx, hb, hml, hown, hts⟩ (m_M_modulo l D v) (cwS 1 hts (kb_gi (kb_c kw_586 (kb_c kw_587 (kb_c kw_5 (kb_c kw_588 kb_all))))) rfl rfl rfl (by decide +kernel) ⟨Nat.le_of_ble_eq_true rfl, Nat.le_of_ble_eq_true rfl⟩) ⟨rc_blind, rc_pre hP hD hK hN [] rfl rfl [] rfl⟩ rfl rfl hl.1 rfl (lv_room (Nat.le_of_ble_eq_true rfl)) d_M_put_46 ⟨Nat.zero_le _, Nat.zero_le _⟩) hP hD hS [] rfl (fun _ => rfl) (fun r8 u9 H locs hw9 hP hD hS => ?_)
      subst hw9
      have hP : va_P D vC [(h, rM 0 od fc hd md lo lv tb rw bs mn nu tu), (fc, k2 cJ 20 5 F)] H := hP
      have hD : va_D A [(h, rM 0 od fc hd md lo lv tb rw bs mn nu tu), (fc, k2 cJ 20 5 F)] := hD
      refine rm_st hx hb hK hP hD hS 1 0 rfl rfl zi.toNat zp.toNat d_M_put_49 (fun H locs hP hD hS => ?_)
      have hP : va_P D vC [(h, rM 0 od fc hd md lo lv tb rw bs mn nu tu), (fc, k2 cJ 20 5 (up2 F zi.toNat zp.toNat (ro_k v.toInt)))] H := hP
      have hD : va_D A [(h, rM 0 od fc hd md lo lv tb rw bs mn nu tu), (fc, k2 cJ 20 5 (up2 F zi.toNat zp.toNat (ro_k v.toInt)))] := hD
      refine lv_iload hx hb d_M_put_50 (lv_at hl 0 rfl) ?_
      exact W.zret hx hb hr rfl (fun t ht hW => ⟨⟨_, (0, up2 F zi.toNat zp.toNat (ro_k v.toInt)), rfl, (Or.inl ⟨hC, rfl, by rw [if_neg (by assumption)]⟩), rc_out ht hP⟩, hS.F ht⟩) hS.2.2 d_M_put_52
  · have hP : va_P D vC [(h, rM 1 od fc hd md lo lv tb rw bs mn nu tu), (fc, k2 cJ 20 5 F)] H := hP
    have hD : va_D A [(h, rM 1 od fc hd md lo lv tb rw bs mn nu tu), (fc, k2 cJ 20 5 F)] := hD
    refine rz_if_ne (tgt := 11) hx hb d_M_put_6 (by decide) (fun hc => absurd hc (by decide)) (fun _ => ?_)
    refine rz_iconst hx hb d_M_put_9 ?_
    exact W.zret hx hb hr rfl (fun t ht hW => ⟨⟨_, (1, F), rfl, (Or.inr ⟨hC, rfl, rfl⟩), rc_out ht hP⟩, hS.F ht⟩) hS.2.2 d_M_put_10
def ws_M_at : List Cond := .code y_M_at c_M_at 3 (some .int) :: kb
set_option maxHeartbeats 4000000 in
set_option maxRecDepth 100000 in
/-- at -/
theorem m_M_at (l : Launch) (D : va_G) (cJ cI : ClassId) (h : Nat) (cd od : Int) (fc hd md lo : Nat) (lv : Int) (tb rw bs : Nat) (mn : Int) (nu tu : Nat) (F : Nat → Nat → ro_K) (zi zp : Int) (o : Nat) (hod : od = (o : Int)) (ho3 : o ≤ 3) (hzil : -2147483648 ≤ zi) (hzih : zi < 2147483648) (hzpl : -2147483648 ≤ zp) (hzph : zp < 2147483648) : Met l y_M_at ws_M_at ({ frames := 2, cells := 0, slots := 0, locals := 47 }) (rc_Pc D vC [(cJ, .long), (cI, .int)] [.ref h, .int (iz zi), .int (iz zp)] [(h, rM cd od fc hd md lo lv tb rw bs mn nu tu), (fc, k2 cJ 20 5 F)]) (va_Qi (fun (q : Int32) (u : Int) => (((0 ≤ zi ∧ zi ≤ od) ∧ 0 ≤ zp ∧ zp ≤ 4) ∧ u = 0 ∧ q = iz ((F zi.toNat zp.toNat).val : Int)) ∨ (¬ ((0 ≤ zi ∧ zi ≤ od) ∧ 0 ≤ zp ∧ zp ≤ 4) ∧ u = 1 ∧ q = iz 0)) (fun u t => va_P D vC [(h, rM u od fc hd md lo lv tb rw bs mn nu tu), (fc, k2 cJ 20 5 F)] t.heap) (rc_A [(h, rM cd od fc hd md lo lv tb rw bs mn nu tu), (fc, k2 cJ 20 5 F)])) 0 0 (rc_A [(h, rM cd od fc hd md lo lv tb rw bs mn nu tu), (fc, k2 cJ 20 5 F)]) := by
  refine Met.ofW (cc := c_M_at) (maxL := 3) (ret := (some .int)) (by decide) rfl ?_
  intro p e s m args below meth c s₁ B hml hv
  obtain ⟨rfl, hP, hK, hD0, hN⟩ := hv
  have hx := B.exec
  have hb := B.bytes
  have hr := B.returns
  have hts0 := atoms_spec (ws := ws_M_at) B.pre
  have hts : ∀ w ∈ kb, w.before _ s = true := fun w h => hts0 w (List.mem_cons_of_mem _ h)
  have hown : s.vm.findClass R_M = some m.cls := findClass_of_methodNamed B.named
  have hlocks := B.notSynchronized
  have hD := rc_self hD0
  generalize hAe : rc_A [(h, rM cd od fc hd md lo lv tb rw bs mn nu tu), (fc, k2 cJ 20 5 F)] = A at hD ⊢
  have hS : va_S A s.heap s.heap [] := va_S.rf
  have hl := lv_entry ([.ref h, .int (iz zi), .int (iz zp)]) (n := 3) (Nat.le_of_ble_eq_true rfl)
  rw [lg_entry_eq]
  generalize (lg_sl ([.ref h, .int (iz zi), .int (iz zp)]) ++ List.replicate (3 - (lg_sl ([.ref h, .int (iz zi), .int (iz zp)])).length) Slot.unset).toArray = ls at hl ⊢

  have hl : lv_has ls 3 [(0, .ref h), (1, .int (iz zi)), (2, .int (iz zp))] := hl
  refine lv_aload_n hx hb d_M_at_0 rfl (lv_at hl 0 rfl) ?_
  refine lv_iload_n hx hb d_M_at_1 rfl (lv_at hl 1 rfl) ?_
  refine lv_iload_n hx hb d_M_at_2 rfl (lv_at hl 2 rfl) ?_
  refine rc_calli (va_runV (As := [.int (iz zi), .int (iz zp)]) (rest := []) ⟨hx, hb, hml, hown, hts⟩ (m_M_isThere l D h cd od fc hd md lo lv tb rw bs mn nu tu zi zp o hod ho3 hzil hzih hzpl hzph) (cwV 2 hts (kb_gi (kb_c kw_578 (kb_c kw_580 (kb_c ks_M_isThere (kb_c kw_5 (kb_c kw_581 kb_all)))))) rfl rfl rfl (by decide +kernel) ⟨Nat.le_of_ble_eq_true rfl, Nat.le_of_ble_eq_true rfl⟩) ⟨rc_blind, va_recv hK hP (ci := 3) (q0 := 0) rfl rfl, rc_pre hP hD hK hN [0] rfl rfl [] rfl⟩ rfl rfl hl.1 rfl (lv_room (Nat.le_of_ble_eq_true rfl)) d_M_at_3 ⟨Nat.zero_le _, Nat.zero_le _⟩) hP hD hS [0] rfl (fun _ => rfl) (fun r1 u2 H locs hw2 hP hD hS => ?_)
  rcases hw2 with ⟨rfl, hC, rfl⟩ | ⟨rfl, hC, rfl⟩
  · have hP : va_P D vC [(h, rM 0 od fc hd md lo lv tb rw bs mn nu tu), (fc, k2 cJ 20 5 F)] H := hP
    have hD : va_D A [(h, rM 0 od fc hd md lo lv tb rw bs mn nu tu), (fc, k2 cJ 20 5 F)] := hD
    refine rz_if_eq (tgt := 23) hx hb d_M_at_6 (by decide) (fun hc => absurd hc (by decide)) (fun _ => ?_)
    refine lv_aload_n hx hb d_M_at_9 rfl (lv_at hl 0 rfl) ?_
    refine va_get (D := D) (ci := 3) (v := .ref fc) (C := R_M) (T := T_M) (N := 13) hx hb hts in_M hown hK hP 0 rfl rfl 2 (by decide) (hts _ kw_532) (fun _ h9 => h9) rfl d_M_at_10 ?_
    refine rz_iconst hx hb d_M_at_13 ?_
    refine lv_iload_n hx hb d_M_at_14 rfl (lv_at hl 1 rfl) ?_
    refine rz_imul hx hb d_M_at_15 ?_
    refine lv_iload_n hx hb d_M_at_16 rfl (lv_at hl 2 rfl) ?_
    refine rz_iadd hx hb d_M_at_17 ?_
    refine rm_ld hx hb hK hP 1 0 rfl rfl zi.toNat zp.toNat d_M_at_18 ?_
    refine rz_l2i hx hb d_M_at_19 ?_
    refine lv_goto (tgt := 24) hx hb d_M_at_20 (by decide) ?_
    exact W.iret hx hb hr (fun t ht hW => ⟨⟨_, 0, rfl, (Or.inl ⟨hC, rfl, rfl⟩), rc_out ht hP⟩, hS.F ht⟩) hS.2.2 d_M_at_24
  · have hP : va_P D vC [(h, rM 1 od fc hd md lo lv tb rw bs mn nu tu), (fc, k2 cJ 20 5 F)] H := hP
    have hD : va_D A [(h, rM 1 od fc hd md lo lv tb rw bs mn nu tu), (fc, k2 cJ 20 5 F)] := hD
    refine rz_if_eq (tgt := 23) hx hb d_M_at_6 (by decide) (fun _ => ?_) (fun hc => absurd hc (by decide))
    refine rz_iconst hx hb d_M_at_23 ?_
    exact W.iret hx hb hr (fun t ht hW => ⟨⟨_, 1, rfl, (Or.inr ⟨hC, rfl, rfl⟩), rc_out ht hP⟩, hS.F ht⟩) hS.2.2 d_M_at_24
def ws_M_hand : List Cond := .code y_M_hand c_M_hand 4 none :: kb
set_option maxHeartbeats 4000000 in
set_option maxRecDepth 100000 in
/-- hand -/
theorem m_M_hand (l : Launch) (D : va_G) (cJ cI : ClassId) (h : Nat) (cd od : Int) (fc hd md lo : Nat) (lv : Int) (tb rw bs : Nat) (mn : Int) (nu tu : Nat) (a : Nat → ro_K) (zp : Int) (v : Int64) (o : Nat) (hod : od = (o : Int)) (ho3 : o ≤ 3) (hzpl : -2147483648 ≤ zp) (hzph : zp < 2147483648) : Met l y_M_hand ws_M_hand ({ frames := 1, cells := 0, slots := 0, locals := 25 }) (rc_Pc D vC [(cJ, .long), (cI, .int)] [.ref h, .int (iz zp), .long v] [(h, rM cd od fc hd md lo lv tb rw bs mn nu tu), (hd, ka cJ 13 a)]) (va_Qv (fun (u : Int × (Nat → ro_K)) => ((0 ≤ zp ∧ zp ≤ 12) ∧ u = (0, va_up a zp.toNat (ro_k v.toInt))) ∨ (¬ (0 ≤ zp ∧ zp ≤ 12) ∧ u = (1, a))) (fun u t => va_P D vC [(h, rM u.1 od fc hd md lo lv tb rw bs mn nu tu), (hd, ka cJ 13 u.2)] t.heap) (rc_A [(h, rM cd od fc hd md lo lv tb rw bs mn nu tu), (hd, ka cJ 13 a)])) 0 0 (rc_A [(h, rM cd od fc hd md lo lv tb rw bs mn nu tu), (hd, ka cJ 13 a)]) := by
  refine Met.ofW (cc := c_M_hand) (maxL := 4) (ret := none) (by decide) rfl ?_
  intro p e s m args below meth c s₁ B hml hv
  obtain ⟨rfl, hP, hK, hD0, hN⟩ := hv
  have hx := B.exec
  have hb := B.bytes
  have hr := B.returns
  have hts0 := atoms_spec (ws := ws_M_hand) B.pre
  have hts : ∀ w ∈ kb, w.before _ s = true := fun w h => hts0 w (List.mem_cons_of_mem _ h)
  have hown : s.vm.findClass R_M = some m.cls := findClass_of_methodNamed B.named
  have hlocks := B.notSynchronized
  have hD := rc_self hD0
  generalize hAe : rc_A [(h, rM cd od fc hd md lo lv tb rw bs mn nu tu), (hd, ka cJ 13 a)] = A at hD ⊢
  have hS : va_S A s.heap s.heap [] := va_S.rf
  have hl := lv_entry ([.ref h, .int (iz zp), .long v]) (n := 4) (Nat.le_of_ble_eq_true rfl)
  rw [lg_entry_eq]
  generalize (lg_sl ([.ref h, .int (iz zp), .long v]) ++ List.replicate (4 - (lg_sl ([.ref h, .int (iz zp), .long v])).length) Slot.unset).toArray = ls at hl ⊢

  have hl : lv_has ls 4 [(0, .ref h), (1, .int (iz zp)), (2, .long v)] := hl
  refine lv_aload_n hx hb d_M_hand_0 rfl (lv_at hl 0 rfl) ?_
  refine lv_iload_n hx hb d_M_hand_1 rfl (lv_at hl 1 rfl) ?_
  refine lv_i2l hx hb d_M_hand_2 rfl ?_
  refine lv_lconst (v := lk 0) hx hb d_M_hand_3 rfl ?_
  refine lv_ldc2 (v := 12) hx hb hown (hts _ kw_618) d_M_hand_4 ?_
  refine rc_calli (va_runS (As := [.long ((iz zp)).toInt64, .long (lk 0), .long 12]) (rest := [.ref h]) ⟨hx, hb, hml, hown, hts⟩ (m_M_in l D ((iz zp)).toInt64 (lk 0) 12 zp 0 12 (lx_iz (by omega) (by omega)) (by show Int64.toInt _ = _; decide) (by show Int64.toInt _ = _; decide)) (cwS 3 hts (kb_gi (kb_c kw_582 (kb_c kw_583 (kb_c kw_5 (kb_c kw_584 kb_all))))) rfl rfl rfl (by decide +kernel) ⟨Nat.le_of_ble_eq_true rfl, Nat.le_of_ble_eq_true rfl⟩) ⟨rc_blind, rc_pre hP hD hK hN [] rfl rfl [] rfl⟩ rfl rfl hl.1 rfl (lv_room (Nat.le_of_ble_eq_true rfl)) d_M_hand_7 ⟨Nat.zero_le _, Nat.zero_le _⟩) hP hD hS [] rfl (fun _ => rfl) (fun r1 u2 H locs hw2 hP hD hS => ?_)
  subst hw2
  have hP : va_P D vC [(h, rM cd od fc hd md lo lv tb rw bs mn nu tu), (hd, ka cJ 13 a)] H := hP
  have hD : va_D A [(h, rM cd od fc hd md lo lv tb rw bs mn nu tu), (hd, ka cJ 13 a)] := hD
  refine rb_if_eq (tgt := 17) hx hb d_M_hand_10 (by decide) (fun hc3 => ?_) (fun hc3 => ?_)
  · refine rz_iconst hx hb d_M_hand_17 ?_
    refine va_put (D := D) (ci := 3) (v := .int (iz 1)) (ty := .int) (C := R_M) (T := T_M) (N := 13) hx hb hts in_M ty_M tk_M nm_M hown hK hP hD hS 0 rfl rfl 0 (by decide) (hts _ kw_530) (fun _ h9 => h9) rfl (by decide +kernel) rfl rfl (Nat.le_of_ble_eq_true rfl) d_M_hand_18 (fun H locs hP hD hS => ?_)
    have hP : va_P D vC [(h, rM 1 od fc hd md lo lv tb rw bs mn nu tu), (hd, ka cJ 13 a)] H := hP
    have hD : va_D A [(h, rM 1 od fc hd md lo lv tb rw bs mn nu tu), (hd, ka cJ 13 a)] := hD
    refine lv_aload_n hx hb d_M_hand_21 rfl (lv_at hl 0 rfl) ?_
    refine va_get (D := D) (ci := 3) (v := .int (iz 1)) (C := R_M) (T := T_M) (N := 13) hx hb hts in_M hown hK hP 0 rfl rfl 0 (by decide) (hts _ kw_530) (fun _ h9 => h9) rfl d_M_hand_22 ?_
    refine rz_if_ne (tgt := 38) hx hb d_M_hand_25 (by decide) (fun _ => ?_) (fun hc => absurd hc (by decide))
    exact W.vret hx hb hr (fun t ht hW => ⟨⟨(1, a), rfl, (Or.inr ⟨by assumption, rfl⟩), rc_out ht hP⟩, hS.F ht⟩) hS.2.2 d_M_hand_38
  · refine rz_iconst hx hb d_M_hand_13 ?_
    refine lv_goto (tgt := 18) hx hb d_M_hand_14 (by decide) ?_
    refine va_put (D := D) (ci := 3) (v := .int (iz 0)) (ty := .int) (C := R_M) (T := T_M) (N := 13) hx hb hts in_M ty_M tk_M nm_M hown hK hP hD hS 0 rfl rfl 0 (by decide) (hts _ kw_530) (fun _ h9 => h9) rfl (by decide +kernel) rfl rfl (Nat.le_of_ble_eq_true rfl) d_M_hand_18 (fun H locs hP hD hS => ?_)
    have hP : va_P D vC [(h, rM 0 od fc hd md lo lv tb rw bs mn nu tu), (hd, ka cJ 13 a)] H := hP
    have hD : va_D A [(h, rM 0 od fc hd md lo lv tb rw bs mn nu tu), (hd, ka cJ 13 a)] := hD
    refine lv_aload_n hx hb d_M_hand_21 rfl (lv_at hl 0 rfl) ?_
    refine va_get (D := D) (ci := 3) (v := .int (iz 0)) (C := R_M) (T := T_M) (N := 13) hx hb hts in_M hown hK hP 0 rfl rfl 0 (by decide) (hts _ kw_530) (fun _ h9 => h9) rfl d_M_hand_22 ?_
    refine rz_if_ne (tgt := 38) hx hb d_M_hand_25 (by decide) (fun hc => absurd hc (by decide)) (fun _ => ?_)
    refine lv_aload_n hx hb d_M_hand_28 rfl (lv_at hl 0 rfl) ?_
    refine va_get (D := D) (ci := 3) (v := .ref hd) (C := R_M) (T := T_M) (N := 13) hx hb hts in_M hown hK hP 0 rfl rfl 3 (by decide) (hts _ kw_533) (fun _ h9 => h9) rfl d_M_hand_29 ?_
    refine lv_iload_n hx hb d_M_hand_32 rfl (lv_at hl 1 rfl) ?_
    refine lv_lload_n hx hb d_M_hand_33 rfl (lv_at hl 2 rfl) ?_
    refine rc_calll (va_runS (As := [.long v]) (rest := [.int (iz zp), .ref hd]) ⟨hx, hb, hml, hown, hts⟩ (m_M_modulo l D v) (cwS 1 hts (kb_gi (kb_c kw_586 (kb_c kw_587 (kb_c kw_5 (kb_c kw_588 kb_all))))) rfl rfl rfl (by decide +kernel) ⟨Nat.le_of_ble_eq_true rfl, Nat.le_of_ble_eq_true rfl⟩) ⟨rc_blind, rc_pre hP hD hK hN [] rfl rfl [] rfl⟩ rfl rfl hl.1 rfl (lv_room (Nat.le_of_ble_eq_true rfl)) d_M_hand_34 ⟨Nat.zero_le _, Nat.zero_le _⟩) hP hD hS [] rfl (fun _ => rfl) (fun r4 u5 H locs hw5 hP hD hS => ?_)
    subst hw5
    have hP : va_P D vC [(h, rM 0 od fc hd md lo lv tb rw bs mn nu tu), (hd, ka cJ 13 a)] H := hP
    have hD : va_D A [(h, rM 0 od fc hd md lo lv tb rw bs mn nu tu), (hd, ka cJ 13 a)] := hD
    refine rk_st hx hb hK hP hD hS 1 0 rfl rfl zp.toNat d_M_hand_37 (fun H locs hP hD hS => ?_)
    have hP : va_P D vC [(h, rM 0 od fc hd md lo lv tb rw bs mn nu tu), (hd, ka cJ 13 (va_up a zp.toNat (ro_k v.toInt)))] H := hP
    have hD : va_D A [(h, rM 0 od fc hd md lo lv tb rw bs mn nu tu), (hd, ka cJ 13 (va_up a zp.toNat (ro_k v.toInt)))] := hD
    exact W.vret hx hb hr (fun t ht hW => ⟨⟨(0, va_up a zp.toNat (ro_k v.toInt)), rfl, (Or.inl ⟨by assumption, rfl⟩), rc_out ht hP⟩, hS.F ht⟩) hS.2.2 d_M_hand_38
set_option maxHeartbeats 4000000 in
set_option maxRecDepth 100000 in
theorem lo_M_clear_a {cJ cI : ClassId} {h : Nat} {cd od : Int} {fc hd md lo : Nat} {lv : Int} {tb rw bs : Nat} {mn : Int} {nu tu : Nat} {F : Nat → Nat → ro_K} {a : Nat → ro_K}  (hx : p.tables.exec = Jvm.exec) (hb : c.code = c_M_clear) (hml : c.maxLocals = 2) (hown : s.vm.findClass R_M = some m.cls) (hts : ∀ w ∈ kb, w.before args s = true) (hK : va_K D vC [(cJ, .long), (cI, .int)] s) (hN : rc_N s)  (hend : ∀ (H : Heap) (locs : List Loc) (ls : Array Slot), va_P D vC [(h, rM cd od fc hd md lo lv tb rw bs mn nu tu), (fc, k2 cJ 20 5 (c2 (fun _ _ => 0) F 20)), (hd, ka cJ 13 a)] H → va_D A [(h, rM cd od fc hd md lo lv tb rw bs mn nu tu), (fc, k2 cJ 20 5 (c2 (fun _ _ => 0) F 20)), (hd, ka cJ 13 a)] → va_S A H0 H locs → lv_has ls 2 [(0, .ref h)] → W p l e R s m args below meth c H locs 0 0 Q (F0 m 26 ls [])) : ∀ (q k : Nat) (z : Int) (H : Heap) (locs : List Loc) (ls : Array Slot), z = (k : Int) → k + q = 20 → va_P D vC [(h, rM cd od fc hd md lo lv tb rw bs mn nu tu), (fc, k2 cJ 20 5 (c2 (fun _ _ => 0) F k)), (hd, ka cJ 13 a)] H → va_D A [(h, rM cd od fc hd md lo lv tb rw bs mn nu tu), (fc, k2 cJ 20 5 (c2 (fun _ _ => 0) F k)), (hd, ka cJ 13 a)] → va_S A H0 H locs → lv_has ls 2 [(1, .int (iz z)), (0, .ref h)] → W p l e R s m args below meth c H locs 0 0 Q (F0 m 7 ls []) := by
  intro q
  induction q with
  | zero =>
    intro k z H locs ls hz hk hP hD hS hl
    have e : k = 20 := hk
    subst e
    refine lv_iload_n hx hb d_M_clear_7 rfl (lv_at hl 0 rfl) ?_
    refine rz_bipush hx hb d_M_clear_8 (by decide) ?_
    refine rz_icmp_ge (tgt := 26) hx hb d_M_clear_10 (by decide) (fun hc1 => ?_) (fun hc1 => ?_)
    · exact hend H locs ls hP hD hS (lv_sub hl [1] rfl)
    · omega
  | succ q ih =>
    intro k z H locs ls hz hk hP hD hS hl
    subst hz
    refine lv_iload_n hx hb d_M_clear_7 rfl (lv_at hl 0 rfl) ?_
    refine rz_bipush hx hb d_M_clear_8 (by decide) ?_
    refine rz_icmp_ge (tgt := 26) hx hb d_M_clear_10 (by decide) (fun hc2 => ?_) (fun hc2 => ?_)
    · omega
    · refine lv_aload_n hx hb d_M_clear_13 rfl (lv_at hl 1 rfl) ?_
      refine va_get (D := D) (ci := 3) (v := .ref fc) (C := R_M) (T := T_M) (N := 13) hx hb hts in_M hown hK hP 0 rfl rfl 2 (by decide) (hts _ kw_532) (fun _ h9 => h9) rfl d_M_clear_14 ?_
      refine lv_iload_n hx hb d_M_clear_17 rfl (lv_at hl 0 rfl) ?_
      refine lv_lconst (v := lk 0) hx hb d_M_clear_18 rfl ?_
      refine rm_stf hx hb hK hP hD hS 1 0 rfl rfl k d_M_clear_19 (fun H locs hP hD hS => ?_)
      have hP : va_P D vC [(h, rM cd od fc hd md lo lv tb rw bs mn nu tu), (fc, k2 cJ 20 5 (up2 (c2 (fun _ _ => 0) F k) (k / 5) (k % 5) 0)), (hd, ka cJ 13 a)] H := hP
      have hD : va_D A [(h, rM cd od fc hd md lo lv tb rw bs mn nu tu), (fc, k2 cJ 20 5 (up2 (c2 (fun _ _ => 0) F k) (k / 5) (k % 5) 0)), (hd, ka cJ 13 a)] := hD
      refine lv_iinc (v := iz ((k : Int) + 1)) (lv' := [(1, .int (iz ((k : Int) + 1))), (0, .ref h)]) hx hb d_M_clear_20 hl (k := 0) rfl (iz_add _ _) (by decide) rfl (fun ls hl => ?_)
      refine lv_goto (tgt := 7) hx hb d_M_clear_23 (by decide) ?_
      exact ih (k + 1) _ H locs ls (by omega) (by omega) hP hD hS (lv_sub hl [0, 1] rfl)

set_option maxHeartbeats 4000000 in
set_option maxRecDepth 100000 in
theorem lo_M_clear_b {cJ cI : ClassId} {h : Nat} {cd od : Int} {fc hd md lo : Nat} {lv : Int} {tb rw bs : Nat} {mn : Int} {nu tu : Nat} {F : Nat → Nat → ro_K} {a : Nat → ro_K}  (hx : p.tables.exec = Jvm.exec) (hb : c.code = c_M_clear) (hml : c.maxLocals = 2) (hown : s.vm.findClass R_M = some m.cls) (hts : ∀ w ∈ kb, w.before args s = true) (hK : va_K D vC [(cJ, .long), (cI, .int)] s) (hN : rc_N s)  (hend : ∀ (H : Heap) (locs : List Loc) (ls : Array Slot), va_P D vC [(h, rM cd od fc hd md lo lv tb rw bs mn nu tu), (fc, k2 cJ 20 5 F), (hd, ka cJ 13 (kfl a 0 13))] H → va_D A [(h, rM cd od fc hd md lo lv tb rw bs mn nu tu), (fc, k2 cJ 20 5 F), (hd, ka cJ 13 (kfl a 0 13))] → va_S A H0 H locs → W p l e R s m args below meth c H locs 0 0 Q (F0 m 47 ls [])) : ∀ (q k : Nat) (z : Int) (H : Heap) (locs : List Loc) (ls : Array Slot), z = (k : Int) → k + q = 13 → va_P D vC [(h, rM cd od fc hd md lo lv tb rw bs mn nu tu), (fc, k2 cJ 20 5 F), (hd, ka cJ 13 (kfl a 0 k))] H → va_D A [(h, rM cd od fc hd md lo lv tb rw bs mn nu tu), (fc, k2 cJ 20 5 F), (hd, ka cJ 13 (kfl a 0 k))] → va_S A H0 H locs → lv_has ls 2 [(1, .int (iz z)), (0, .ref h)] → W p l e R s m args below meth c H locs 0 0 Q (F0 m 28 ls []) := by
  intro q
  induction q with
  | zero =>
    intro k z H locs ls hz hk hP hD hS hl
    have e : k = 13 := hk
    subst e
    refine lv_iload_n hx hb d_M_clear_28 rfl (lv_at hl 0 rfl) ?_
    refine rz_bipush hx hb d_M_clear_29 (by decide) ?_
    refine rz_icmp_gt (tgt := 47) hx hb d_M_clear_31 (by decide) (fun hc1 => ?_) (fun hc1 => ?_)
    · exact hend H locs ls hP hD hS
    · omega
  | succ q ih =>
    intro k z H locs ls hz hk hP hD hS hl
    subst hz
    refine lv_iload_n hx hb d_M_clear_28 rfl (lv_at hl 0 rfl) ?_
    refine rz_bipush hx hb d_M_clear_29 (by decide) ?_
    refine rz_icmp_gt (tgt := 47) hx hb d_M_clear_31 (by decide) (fun hc2 => ?_) (fun hc2 => ?_)
    · omega
    · refine lv_aload_n hx hb d_M_clear_34 rfl (lv_at hl 1 rfl) ?_
      refine va_get (D := D) (ci := 3) (v := .ref hd) (C := R_M) (T := T_M) (N := 13) hx hb hts in_M hown hK hP 0 rfl rfl 3 (by decide) (hts _ kw_533) (fun _ h9 => h9) rfl d_M_clear_35 ?_
      refine lv_iload_n hx hb d_M_clear_38 rfl (lv_at hl 0 rfl) ?_
      refine lv_lconst (v := lk 0) hx hb d_M_clear_39 rfl ?_
      refine rk_st hx hb hK hP hD hS 2 0 rfl rfl k d_M_clear_40 (fun H locs hP hD hS => ?_)
      have hP : va_P D vC [(h, rM cd od fc hd md lo lv tb rw bs mn nu tu), (fc, k2 cJ 20 5 F), (hd, ka cJ 13 (va_up (kfl a 0 k) k 0))] H := hP
      have hD : va_D A [(h, rM cd od fc hd md lo lv tb rw bs mn nu tu), (fc, k2 cJ 20 5 F), (hd, ka cJ 13 (va_up (kfl a 0 k) k 0))] := hD
      rw [kfl_s] at hP hD
      have hP : va_P D vC [(h, rM cd od fc hd md lo lv tb rw bs mn nu tu), (fc, k2 cJ 20 5 F), (hd, ka cJ 13 (kfl a 0 (k + 1)))] H := hP
      have hD : va_D A [(h, rM cd od fc hd md lo lv tb rw bs mn nu tu), (fc, k2 cJ 20 5 F), (hd, ka cJ 13 (kfl a 0 (k + 1)))] := hD
      refine lv_iinc (v := iz ((k : Int) + 1)) (lv' := [(1, .int (iz ((k : Int) + 1))), (0, .ref h)]) hx hb d_M_clear_41 hl (k := 0) rfl (iz_add _ _) (by decide) rfl (fun ls hl => ?_)
      refine lv_goto (tgt := 28) hx hb d_M_clear_44 (by decide) ?_
      exact ih (k + 1) _ H locs ls (by omega) (by omega) hP hD hS (lv_sub hl [0, 1] rfl)

def ws_M_clear : List Cond := .code y_M_clear c_M_clear 2 none :: kb
set_option maxHeartbeats 4000000 in
set_option maxRecDepth 100000 in
/-- clear -/
theorem m_M_clear (l : Launch) (D : va_G) (cJ cI : ClassId) (h : Nat) (cd od : Int) (fc hd md lo : Nat) (lv : Int) (tb rw bs : Nat) (mn : Int) (nu tu : Nat) (F : Nat → Nat → ro_K) (a : Nat → ro_K) : Met l y_M_clear ws_M_clear ({ frames := 0, cells := 0, slots := 0, locals := 0 }) (rc_Pc D vC [(cJ, .long), (cI, .int)] [.ref h] [(h, rM cd od fc hd md lo lv tb rw bs mn nu tu), (fc, k2 cJ 20 5 F), (hd, ka cJ 13 a)]) (va_Qv (fun (_ : Unit) => True) (fun _ t => va_P D vC [(h, rM 0 od fc hd md lo lv tb rw bs mn nu tu), (fc, k2 cJ 20 5 (c2 (fun _ _ => 0) F 20)), (hd, ka cJ 13 (kfl a 0 13))] t.heap) (rc_A [(h, rM cd od fc hd md lo lv tb rw bs mn nu tu), (fc, k2 cJ 20 5 F), (hd, ka cJ 13 a)])) 0 0 (rc_A [(h, rM cd od fc hd md lo lv tb rw bs mn nu tu), (fc, k2 cJ 20 5 F), (hd, ka cJ 13 a)]) := by
  refine Met.ofW (cc := c_M_clear) (maxL := 2) (ret := none) (by decide) rfl ?_
  intro p e s m args below meth c s₁ B hml hv
  obtain ⟨rfl, hP, hK, hD0, hN⟩ := hv
  have hx := B.exec
  have hb := B.bytes
  have hr := B.returns
  have hts0 := atoms_spec (ws := ws_M_clear) B.pre
  have hts : ∀ w ∈ kb, w.before _ s = true := fun w h => hts0 w (List.mem_cons_of_mem _ h)
  have hown : s.vm.findClass R_M = some m.cls := findClass_of_methodNamed B.named
  have hlocks := B.notSynchronized
  have hD := rc_self hD0
  generalize hAe : rc_A [(h, rM cd od fc hd md lo lv tb rw bs mn nu tu), (fc, k2 cJ 20 5 F), (hd, ka cJ 13 a)] = A at hD ⊢
  have hS : va_S A s.heap s.heap [] := va_S.rf
  have hl := lv_entry ([.ref h]) (n := 2) (Nat.le_of_ble_eq_true rfl)
  rw [lg_entry_eq]
  generalize (lg_sl ([.ref h]) ++ List.replicate (2 - (lg_sl ([.ref h])).length) Slot.unset).toArray = ls at hl ⊢

  have hl : lv_has ls 2 [(0, .ref h)] := hl
  refine lv_aload_n hx hb d_M_clear_0 rfl (lv_at hl 0 rfl) ?_
  refine rz_iconst hx hb d_M_clear_1 ?_
  refine va_put (D := D) (ci := 3) (v := .int (iz 0)) (ty := .int) (C := R_M) (T := T_M) (N := 13) hx hb hts in_M ty_M tk_M nm_M hown hK hP hD hS 0 rfl rfl 0 (by decide) (hts _ kw_530) (fun _ h9 => h9) rfl (by decide +kernel) rfl rfl (Nat.le_of_ble_eq_true rfl) d_M_clear_2 (fun H locs hP hD hS => ?_)
  have hP : va_P D vC [(h, rM 0 od fc hd md lo lv tb rw bs mn nu tu), (fc, k2 cJ 20 5 F), (hd, ka cJ 13 a)] H := hP
  have hD : va_D A [(h, rM 0 od fc hd md lo lv tb rw bs mn nu tu), (fc, k2 cJ 20 5 F), (hd, ka cJ 13 a)] := hD
  refine rz_iconst hx hb d_M_clear_5 ?_
  refine lv_istore_n (lv' := [(1, .int (iz 0)), (0, .ref h)]) hx hb d_M_clear_6 rfl hl (by decide) rfl (fun ls hl => ?_)
  refine lo_M_clear_a (F := F) (a := a)  hx hb hml hown hts hK hN (fun H locs ls hP hD hS hl => ?_) 20 0 _ _ _ ls rfl (by omega) hP hD hS (lv_sub hl [0, 1] rfl)
  refine rz_iconst hx hb d_M_clear_26 ?_
  refine lv_istore_n (lv' := [(1, .int (iz 0)), (0, .ref h)]) hx hb d_M_clear_27 rfl hl (by decide) rfl (fun ls hl => ?_)
  rw [show a = kfl a 0 0 from (kfl_0 a 0).symm] at hP hD
  refine lo_M_clear_b (F := c2 (fun _ _ => 0) F 20) (a := a)  hx hb hml hown hts hK hN (fun H locs ls hP hD hS => ?_) 13 0 _ _ _ ls rfl (by omega) hP hD hS (lv_sub hl [0, 1] rfl)
  exact W.vret hx hb hr (fun t ht hW => ⟨⟨(), rfl, trivial, rc_out ht hP⟩, hS.F ht⟩) hS.2.2 d_M_clear_47
set_option maxHeartbeats 4000000 in
set_option maxRecDepth 100000 in
theorem lo_M_moveTo_a {cJ cI : ClassId} {h : Nat} {cd od : Int} {fc hd md lo : Nat} {lv : Int} {tb rw bs : Nat} {mn : Int} {nu tu : Nat} {F E : Nat → Nat → ro_K} {b : ro_K}  (hx : p.tables.exec = Jvm.exec) (hb : c.code = c_M_moveTo) (hml : c.maxLocals = 6) (hown : s.vm.findClass R_M = some m.cls) (hts : ∀ w ∈ kb, w.before args s = true) (hK : va_K D vC [(cJ, .long), (cI, .int)] s) (hN : rc_N s)  (hend : ∀ (H : Heap) (locs : List Loc) (ls : Array Slot), va_P D vC [(h, rM cd od fc hd md lo lv tb rw bs mn nu tu), (fc, k2 cJ 20 5 F), (lo, k2 cJ 20 5 (c2 F E 20))] H → va_D A [(h, rM cd od fc hd md lo lv tb rw bs mn nu tu), (fc, k2 cJ 20 5 F), (lo, k2 cJ 20 5 (c2 F E 20))] → va_S A H0 H locs → lv_has ls 6 [(0, .ref h), (1, .long (lk b))] → W p l e R s m args below meth c H locs 0 0 Q (F0 m 26 ls [])) : ∀ (q k : Nat) (z : Int) (H : Heap) (locs : List Loc) (ls : Array Slot), z = (k : Int) → k + q = 20 → va_P D vC [(h, rM cd od fc hd md lo lv tb rw bs mn nu tu), (fc, k2 cJ 20 5 F), (lo, k2 cJ 20 5 (c2 F E k))] H → va_D A [(h, rM cd od fc hd md lo lv tb rw bs mn nu tu), (fc, k2 cJ 20 5 F), (lo, k2 cJ 20 5 (c2 F E k))] → va_S A H0 H locs → lv_has ls 6 [(3, .int (iz z)), (0, .ref h), (1, .long (lk b))] → W p l e R s m args below meth c H locs 0 0 Q (F0 m 2 ls []) := by
  intro q
  induction q with
  | zero =>
    intro k z H locs ls hz hk hP hD hS hl
    have e : k = 20 := hk
    subst e
    refine lv_iload_n hx hb d_M_moveTo_2 rfl (lv_at hl 0 rfl) ?_
    refine rz_bipush hx hb d_M_moveTo_3 (by decide) ?_
    refine rz_icmp_ge (tgt := 26) hx hb d_M_moveTo_5 (by decide) (fun hc1 => ?_) (fun hc1 => ?_)
    · exact hend H locs ls hP hD hS (lv_sub hl [1, 2] rfl)
    · omega
  | succ q ih =>
    intro k z H locs ls hz hk hP hD hS hl
    subst hz
    refine lv_iload_n hx hb d_M_moveTo_2 rfl (lv_at hl 0 rfl) ?_
    refine rz_bipush hx hb d_M_moveTo_3 (by decide) ?_
    refine rz_icmp_ge (tgt := 26) hx hb d_M_moveTo_5 (by decide) (fun hc2 => ?_) (fun hc2 => ?_)
    · omega
    · refine lv_aload_n hx hb d_M_moveTo_8 rfl (lv_at hl 1 rfl) ?_
      refine va_get (D := D) (ci := 3) (v := .ref lo) (C := R_M) (T := T_M) (N := 13) hx hb hts in_M hown hK hP 0 rfl rfl 5 (by decide) (hts _ kw_535) (fun _ h9 => h9) rfl d_M_moveTo_9 ?_
      refine lv_iload_n hx hb d_M_moveTo_12 rfl (lv_at hl 0 rfl) ?_
      refine lv_aload_n hx hb d_M_moveTo_13 rfl (lv_at hl 1 rfl) ?_
      refine va_get (D := D) (ci := 3) (v := .ref fc) (C := R_M) (T := T_M) (N := 13) hx hb hts in_M hown hK hP 0 rfl rfl 2 (by decide) (hts _ kw_532) (fun _ h9 => h9) rfl d_M_moveTo_14 ?_
      refine lv_iload_n hx hb d_M_moveTo_17 rfl (lv_at hl 0 rfl) ?_
      refine rm_ldf hx hb hK hP 1 0 rfl rfl k d_M_moveTo_18 ?_
      refine rm_stf hx hb hK hP hD hS 2 0 rfl rfl k d_M_moveTo_19 (fun H locs hP hD hS => ?_)
      have hP : va_P D vC [(h, rM cd od fc hd md lo lv tb rw bs mn nu tu), (fc, k2 cJ 20 5 F), (lo, k2 cJ 20 5 (up2 (c2 F E k) (k / 5) (k % 5) (F (k / 5) (k % 5))))] H := hP
      have hD : va_D A [(h, rM cd od fc hd md lo lv tb rw bs mn nu tu), (fc, k2 cJ 20 5 F), (lo, k2 cJ 20 5 (up2 (c2 F E k) (k / 5) (k % 5) (F (k / 5) (k % 5))))] := hD
      refine lv_iinc (v := iz ((k : Int) + 1)) (lv' := [(3, .int (iz ((k : Int) + 1))), (0, .ref h), (1, .long (lk b))]) hx hb d_M_moveTo_20 hl (k := 0) rfl (iz_add _ _) (by decide) rfl (fun ls hl => ?_)
      refine lv_goto (tgt := 2) hx hb d_M_moveTo_23 (by decide) ?_
      exact ih (k + 1) _ H locs ls (by omega) (by omega) hP hD hS (lv_sub hl [0, 1, 2] rfl)
set_option maxHeartbeats 4000000 in
set_option maxRecDepth 100000 in
theorem l3_M_moveTo {cJ cI : ClassId} {h : Nat} {cd od : Int} {fc hd md lo : Nat} {lv : Int} {tb rw bs : Nat} {mn : Int} {nu tu : Nat} {F Gf : Nat → Nat → ro_K} {b : ro_K} {r d : Nat} {zr zd : Int} (hzr : zr = 5 * (r : Int)) (hr : r < 4) (hzd : zd = (d : Int)) (hd4 : d < 4) (hx : p.tables.exec = Jvm.exec) (hb : c.code = c_M_moveTo) (hml : c.maxLocals = 6) (hown : s.vm.findClass R_M = some m.cls) (hts : ∀ w ∈ kb, w.before args s = true) (hK : va_K D vC [(cJ, .long), (cI, .int)] s) (hN : rc_N s) (hend : ∀ (H : Heap) (locs : List Loc) (ls : Array Slot), va_P D vC [(h, rM cd od fc hd md lo lv tb rw bs mn nu tu), (fc, k2 cJ 20 5 F), (lo, k2 cJ 20 5 Gf)] H → va_D A [(h, rM cd od fc hd md lo lv tb rw bs mn nu tu), (fc, k2 cJ 20 5 F), (lo, k2 cJ 20 5 Gf)] → va_S A H0 H locs → lv_has ls 6 [(4, .int (iz zd)), (3, .int (iz zr)), (0, .ref h), (1, .long (lk b))] → W p l e R s m args below meth c H locs 0 0 Q (F0 m 95 ls [])) : ∀ (n : Nat) (G : Nat → Nat → ro_K) (z : Int) (H : Heap) (locs : List Loc) (ls : Array Slot), z = (d : Int) + n - 1 → d + n ≤ 4 → va_up G r (shI b d n (G r)) = Gf → va_P D vC [(h, rM cd od fc hd md lo lv tb rw bs mn nu tu), (fc, k2 cJ 20 5 F), (lo, k2 cJ 20 5 G)] H → va_D A [(h, rM cd od fc hd md lo lv tb rw bs mn nu tu), (fc, k2 cJ 20 5 F), (lo, k2 cJ 20 5 G)] → va_S A H0 H locs → lv_has ls 6 [(5, .int (iz z)), (4, .int (iz zd)), (3, .int (iz zr)), (0, .ref h), (1, .long (lk b))] → W p l e R s m args below meth c H locs 0 0 Q (F0 m 46 ls []) := by
  intro n
  induction n with
  | zero =>
    intro G z H locs ls hz hn hG hP hD hS hl
    have e : G = Gf := by rw [← hG]; exact (va_up_id G r).symm
    subst e
    refine lv_iload hx hb d_M_moveTo_46 (lv_at hl 0 rfl) ?_
    refine lv_iload hx hb d_M_moveTo_48 (lv_at hl 1 rfl) ?_
    refine rz_icmp_lt (tgt := 95) hx hb d_M_moveTo_50 (by decide) (fun hc1 => ?_) (fun hc1 => ?_)
    · exact hend H locs ls hP hD hS (lv_sub hl [1, 2, 3, 4] rfl)
    · omega
  | succ n ih =>
    intro G z H locs ls hz hn hG hP hD hS hl
    refine lv_iload hx hb d_M_moveTo_46 (lv_at hl 0 rfl) ?_
    refine lv_iload hx hb d_M_moveTo_48 (lv_at hl 1 rfl) ?_
    refine rz_icmp_lt (tgt := 95) hx hb d_M_moveTo_50 (by decide) (fun hc2 => ?_) (fun hc2 => ?_)
    · omega
    · refine lv_aload_n hx hb d_M_moveTo_53 rfl (lv_at hl 3 rfl) ?_
      refine va_get (D := D) (ci := 3) (v := .ref lo) (C := R_M) (T := T_M) (N := 13) hx hb hts in_M hown hK hP 0 rfl rfl 5 (by decide) (hts _ kw_535) (fun _ h9 => h9) rfl d_M_moveTo_54 ?_
      refine lv_iload_n hx hb d_M_moveTo_57 rfl (lv_at hl 2 rfl) ?_
      refine lv_iload hx hb d_M_moveTo_58 (lv_at hl 0 rfl) ?_
      refine rz_iadd hx hb d_M_moveTo_60 ?_
      refine lv_aload_n hx hb d_M_moveTo_61 rfl (lv_at hl 3 rfl) ?_
      refine va_get (D := D) (ci := 3) (v := .ref lo) (C := R_M) (T := T_M) (N := 13) hx hb hts in_M hown hK hP 0 rfl rfl 5 (by decide) (hts _ kw_535) (fun _ h9 => h9) rfl d_M_moveTo_62 ?_
      refine lv_iload_n hx hb d_M_moveTo_65 rfl (lv_at hl 2 rfl) ?_
      refine lv_iload hx hb d_M_moveTo_66 (lv_at hl 0 rfl) ?_
      refine rz_iadd hx hb d_M_moveTo_68 ?_
      refine rm_ld hx hb hK hP 2 0 rfl rfl r (d + n) d_M_moveTo_69 ?_
      refine lv_lload_n hx hb d_M_moveTo_70 rfl (lv_at hl 4 rfl) ?_
      refine lv_aload_n hx hb d_M_moveTo_71 rfl (lv_at hl 3 rfl) ?_
      refine va_get (D := D) (ci := 3) (v := .ref lo) (C := R_M) (T := T_M) (N := 13) hx hb hts in_M hown hK hP 0 rfl rfl 5 (by decide) (hts _ kw_535) (fun _ h9 => h9) rfl d_M_moveTo_72 ?_
      refine lv_iload_n hx hb d_M_moveTo_75 rfl (lv_at hl 2 rfl) ?_
      refine lv_iload hx hb d_M_moveTo_76 (lv_at hl 0 rfl) ?_
      refine rz_iadd hx hb d_M_moveTo_78 ?_
      refine rz_iconst hx hb d_M_moveTo_79 ?_
      refine rz_iadd hx hb d_M_moveTo_80 ?_
      refine rm_ld hx hb hK hP 2 0 rfl rfl r (d + n + 1) d_M_moveTo_81 ?_
      refine rlp_lmul hx hb 1024128004 (lk_p b) (lk_p (G r (d + n + 1))) d_M_moveTo_82 (fun v3 hv3 => ?_)
      refine rlp_ladd hx hb 1024160006 (lk_p (G r (d + n))) hv3 d_M_moveTo_83 (fun v4 hv4 => ?_)
      refine lv_ldc2 (v := 32003) hx hb hown (hts _ kw_589) d_M_moveTo_84 ?_
      refine rlp_lrem hx hb hv4 d_M_moveTo_87 ?_
      refine rm_st hx hb hK hP hD hS 2 0 rfl rfl r (d + n) d_M_moveTo_88 (fun H locs hP hD hS => ?_)
      have hP : va_P D vC [(h, rM cd od fc hd md lo lv tb rw bs mn nu tu), (fc, k2 cJ 20 5 F), (lo, k2 cJ 20 5 (up2 G r (d + n) ((G r (d + n)) + (b * (G r (d + n + 1))))))] H := hP
      have hD : va_D A [(h, rM cd od fc hd md lo lv tb rw bs mn nu tu), (fc, k2 cJ 20 5 F), (lo, k2 cJ 20 5 (up2 G r (d + n) ((G r (d + n)) + (b * (G r (d + n + 1))))))] := hD
      refine lv_iinc (v := iz (z + (-1))) (lv' := [(5, .int (iz (z + (-1)))), (4, .int (iz zd)), (3, .int (iz zr)), (0, .ref h), (1, .long (lk b))]) hx hb d_M_moveTo_89 hl (k := 0) rfl (iz_add _ _) (by decide) rfl (fun ls hl => ?_)
      refine lv_goto (tgt := 46) hx hb d_M_moveTo_92 (by decide) ?_
      refine ih _ _ H locs ls (by omega) (by omega) ?_ hP hD hS (lv_sub hl [0, 1, 2, 3, 4] rfl)
      rw [← hG, up2_va, va_up_up, va_up_self]
      rfl
set_option maxHeartbeats 4000000 in
set_option maxRecDepth 100000 in
theorem l2_M_moveTo {cJ cI : ClassId} {h : Nat} {cd od : Int} {fc hd md lo : Nat} {lv : Int} {tb rw bs : Nat} {mn : Int} {nu tu : Nat} {F Gf : Nat → Nat → ro_K} {b : ro_K} {r : Nat} {zr : Int} (hzr : zr = 5 * (r : Int)) (hr : r < 4) (hx : p.tables.exec = Jvm.exec) (hb : c.code = c_M_moveTo) (hml : c.maxLocals = 6) (hown : s.vm.findClass R_M = some m.cls) (hts : ∀ w ∈ kb, w.before args s = true) (hK : va_K D vC [(cJ, .long), (cI, .int)] s) (hN : rc_N s) (hend : ∀ (H : Heap) (locs : List Loc) (ls : Array Slot), va_P D vC [(h, rM cd od fc hd md lo lv tb rw bs mn nu tu), (fc, k2 cJ 20 5 F), (lo, k2 cJ 20 5 Gf)] H → va_D A [(h, rM cd od fc hd md lo lv tb rw bs mn nu tu), (fc, k2 cJ 20 5 F), (lo, k2 cJ 20 5 Gf)] → va_S A H0 H locs → lv_has ls 6 [(3, .int (iz zr)), (0, .ref h), (1, .long (lk b))] → W p l e R s m args below meth c H locs 0 0 Q (F0 m 101 ls [])) : ∀ (n : Nat) (G : Nat → Nat → ro_K) (z : Int) (H : Heap) (locs : List Loc) (ls : Array Slot), z = 4 - (n : Int) → n ≤ 4 → va_up G r (shO b n (G r)) = Gf → va_P D vC [(h, rM cd od fc hd md lo lv tb rw bs mn nu tu), (fc, k2 cJ 20 5 F), (lo, k2 cJ 20 5 G)] H → va_D A [(h, rM cd od fc hd md lo lv tb rw bs mn nu tu), (fc, k2 cJ 20 5 F), (lo, k2 cJ 20 5 G)] → va_S A H0 H locs → lv_has ls 6 [(4, .int (iz z)), (3, .int (iz zr)), (0, .ref h), (1, .long (lk b))] → W p l e R s m args below meth c H locs 0 0 Q (F0 m 37 ls []) := by
  intro n
  induction n with
  | zero =>
    intro G z H locs ls hz hn hG hP hD hS hl
    have e : G = Gf := by rw [← hG]; exact (va_up_id G r).symm
    subst e
    refine lv_iload hx hb d_M_moveTo_37 (lv_at hl 0 rfl) ?_
    refine rz_iconst hx hb d_M_moveTo_39 ?_
    refine rz_icmp_ge (tgt := 101) hx hb d_M_moveTo_40 (by decide) (fun hc1 => ?_) (fun hc1 => ?_)
    · exact hend H locs ls hP hD hS (lv_sub hl [1, 2, 3] rfl)
    · omega
  | succ n ih =>
    intro G z H locs ls hz hn hG hP hD hS hl
    refine lv_iload hx hb d_M_moveTo_37 (lv_at hl 0 rfl) ?_
    refine rz_iconst hx hb d_M_moveTo_39 ?_
    refine rz_icmp_ge (tgt := 101) hx hb d_M_moveTo_40 (by decide) (fun hc2 => ?_) (fun hc2 => ?_)
    · omega
    · refine rz_iconst hx hb d_M_moveTo_43 ?_
      refine lv_istore (lv' := [(5, .int (iz 3)), (4, .int (iz z)), (3, .int (iz zr)), (0, .ref h), (1, .long (lk b))]) hx hb d_M_moveTo_44 hl (by decide) rfl (fun ls hl => ?_)
      refine l3_M_moveTo (F := F) (Gf := va_up G r (shI b (3 - n) (n + 1) (G r))) (d := 3 - n) hzr hr (zd := z) (by omega) (by omega) hx hb hml hown hts hK hN (fun H locs ls hP hD hS hl => ?_) (n + 1) G _ H locs ls (by omega) (by omega) rfl hP hD hS (lv_sub hl [0, 1, 2, 3, 4] rfl)
      refine lv_iinc (v := iz (z + 1)) (lv' := [(4, .int (iz (z + 1))), (3, .int (iz zr)), (0, .ref h), (1, .long (lk b))]) hx hb d_M_moveTo_95 hl (k := 0) rfl (iz_add _ _) (by decide) rfl (fun ls hl => ?_)
      refine lv_goto (tgt := 37) hx hb d_M_moveTo_98 (by decide) ?_
      refine ih _ _ H locs ls (by omega) (by omega) ?_ hP hD hS (lv_sub hl [0, 1, 2, 3] rfl)
      rw [← hG, va_up_up, va_up_self]
      rfl
set_option maxHeartbeats 4000000 in
set_option maxRecDepth 100000 in
theorem lo_M_moveTo_r {cJ cI : ClassId} {h : Nat} {cd od : Int} {fc hd md lo : Nat} {lv : Int} {tb rw bs : Nat} {mn : Int} {nu tu : Nat} {F E : Nat → Nat → ro_K} {b : ro_K}  (hx : p.tables.exec = Jvm.exec) (hb : c.code = c_M_moveTo) (hml : c.maxLocals = 6) (hown : s.vm.findClass R_M = some m.cls) (hts : ∀ w ∈ kb, w.before args s = true) (hK : va_K D vC [(cJ, .long), (cI, .int)] s) (hN : rc_N s)  (hend : ∀ (H : Heap) (locs : List Loc) (ls : Array Slot), va_P D vC [(h, rM cd od fc hd md lo lv tb rw bs mn nu tu), (fc, k2 cJ 20 5 F), (lo, k2 cJ 20 5 (mvF b E 4))] H → va_D A [(h, rM cd od fc hd md lo lv tb rw bs mn nu tu), (fc, k2 cJ 20 5 F), (lo, k2 cJ 20 5 (mvF b E 4))] → va_S A H0 H locs → W p l e R s m args below meth c H locs 0 0 Q (F0 m 107 ls [])) : ∀ (q k : Nat) (z : Int) (H : Heap) (locs : List Loc) (ls : Array Slot), z = 5 * (k : Int) → k + q = 4 → va_P D vC [(h, rM cd od fc hd md lo lv tb rw bs mn nu tu), (fc, k2 cJ 20 5 F), (lo, k2 cJ 20 5 (mvF b E k))] H → va_D A [(h, rM cd od fc hd md lo lv tb rw bs mn nu tu), (fc, k2 cJ 20 5 F), (lo, k2 cJ 20 5 (mvF b E k))] → va_S A H0 H locs → lv_has ls 6 [(3, .int (iz z)), (0, .ref h), (1, .long (lk b))] → W p l e R s m args below meth c H locs 0 0 Q (F0 m 28 ls []) := by
  intro q
  induction q with
  | zero =>
    intro k z H locs ls hz hk hP hD hS hl
    have e : k = 4 := hk
    subst e
    refine lv_iload_n hx hb d_M_moveTo_28 rfl (lv_at hl 0 rfl) ?_
    refine rz_bipush hx hb d_M_moveTo_29 (by decide) ?_
    refine rz_icmp_ge (tgt := 107) hx hb d_M_moveTo_31 (by decide) (fun hc1 => ?_) (fun hc1 => ?_)
    · exact hend H locs ls hP hD hS
    · omega
  | succ q ih =>
    intro k z H locs ls hz hk hP hD hS hl
    subst hz
    refine lv_iload_n hx hb d_M_moveTo_28 rfl (lv_at hl 0 rfl) ?_
    refine rz_bipush hx hb d_M_moveTo_29 (by decide) ?_
    refine rz_icmp_ge (tgt := 107) hx hb d_M_moveTo_31 (by decide) (fun hc2 => ?_) (fun hc2 => ?_)
    · omega
    · refine rz_iconst hx hb d_M_moveTo_34 ?_
      refine lv_istore (lv' := [(4, .int (iz 0)), (3, .int (iz (5 * (k : Int)))), (0, .ref h), (1, .long (lk b))]) hx hb d_M_moveTo_35 hl (by decide) rfl (fun ls hl => ?_)
      refine l2_M_moveTo (F := F) (Gf := mvF b E (k + 1)) (r := k) rfl (by omega) hx hb hml hown hts hK hN (fun H locs ls hP hD hS hl => ?_) 4 (mvF b E k) _ H locs ls (by omega) (by omega) rfl hP hD hS (lv_sub hl [0, 1, 2, 3] rfl)
      refine lv_iinc (v := iz ((5 * (k : Int)) + 5)) (lv' := [(3, .int (iz ((5 * (k : Int)) + 5))), (0, .ref h), (1, .long (lk b))]) hx hb d_M_moveTo_101 hl (k := 0) rfl (iz_add _ _) (by decide) rfl (fun ls hl => ?_)
      refine lv_goto (tgt := 28) hx hb d_M_moveTo_104 (by decide) ?_
      exact ih (k + 1) _ H locs ls (by omega) (by omega) hP hD hS (lv_sub hl [0, 1, 2] rfl)
def ws_M_moveTo : List Cond := .code y_M_moveTo c_M_moveTo 6 none :: kb
set_option maxHeartbeats 4000000 in
set_option maxRecDepth 100000 in
/-- moveTo -/
theorem m_M_moveTo (l : Launch) (D : va_G) (cJ cI : ClassId) (h : Nat) (cd od : Int) (fc hd md lo : Nat) (lv : Int) (tb rw bs : Nat) (mn : Int) (nu tu : Nat) (F E : Nat → Nat → ro_K) (b : ro_K) : Met l y_M_moveTo ws_M_moveTo ({ frames := 0, cells := 0, slots := 0, locals := 0 }) (rc_Pc D vC [(cJ, .long), (cI, .int)] [.ref h, .long (lk b)] [(h, rM cd od fc hd md lo lv tb rw bs mn nu tu), (fc, k2 cJ 20 5 F), (lo, k2 cJ 20 5 E)]) (va_Qv (fun (_ : Unit) => True) (fun _ t => va_P D vC [(h, rM cd od fc hd md lo lv tb rw bs mn nu tu), (fc, k2 cJ 20 5 F), (lo, k2 cJ 20 5 (mvF b (c2 F E 20) 4))] t.heap) (rc_A [(h, rM cd od fc hd md lo lv tb rw bs mn nu tu), (fc, k2 cJ 20 5 F), (lo, k2 cJ 20 5 E)])) 0 0 (rc_A [(h, rM cd od fc hd md lo lv tb rw bs mn nu tu), (fc, k2 cJ 20 5 F), (lo, k2 cJ 20 5 E)]) := by
  refine Met.ofW (cc := c_M_moveTo) (maxL := 6) (ret := none) (by decide) rfl ?_
  intro p e s m args below meth c s₁ B hml hv
  obtain ⟨rfl, hP, hK, hD0, hN⟩ := hv
  have hx := B.exec
  have hb := B.bytes
  have hr := B.returns
  have hts0 := atoms_spec (ws := ws_M_moveTo) B.pre
  have hts : ∀ w ∈ kb, w.before _ s = true := fun w h => hts0 w (List.mem_cons_of_mem _ h)
  have hown : s.vm.findClass R_M = some m.cls := findClass_of_methodNamed B.named
  have hlocks := B.notSynchronized
  have hD := rc_self hD0
  generalize hAe : rc_A [(h, rM cd od fc hd md lo lv tb rw bs mn nu tu), (fc, k2 cJ 20 5 F), (lo, k2 cJ 20 5 E)] = A at hD ⊢
  have hS : va_S A s.heap s.heap [] := va_S.rf
  have hl := lv_entry ([.ref h, .long (lk b)]) (n := 6) (Nat.le_of_ble_eq_true rfl)
  rw [lg_entry_eq]
  generalize (lg_sl ([.ref h, .long (lk b)]) ++ List.replicate (6 - (lg_sl ([.ref h, .long (lk b)])).length) Slot.unset).toArray = ls at hl ⊢

  have hl : lv_has ls 6 [(0, .ref h), (1, .long (lk b))] := hl
  refine rz_iconst hx hb d_M_moveTo_0 ?_
  refine lv_istore_n (lv' := [(3, .int (iz 0)), (0, .ref h), (1, .long (lk b))]) hx hb d_M_moveTo_1 rfl hl (by decide) rfl (fun ls hl => ?_)
  refine lo_M_moveTo_a (F := F) (E := E)  hx hb hml hown hts hK hN (fun H locs ls hP hD hS hl => ?_) 20 0 _ _ _ ls rfl (by omega) hP hD hS (lv_sub hl [0, 1, 2] rfl)
  refine rz_iconst hx hb d_M_moveTo_26 ?_
  refine lv_istore_n (lv' := [(3, .int (iz 0)), (0, .ref h), (1, .long (lk b))]) hx hb d_M_moveTo_27 rfl hl (by decide) rfl (fun ls hl => ?_)
  refine lo_M_moveTo_r (F := F) (E := c2 F E 20) (b := b)  hx hb hml hown hts hK hN (fun H locs ls hP hD hS => ?_) 4 0 _ _ _ ls (by omega) (by omega) hP hD hS (lv_sub hl [0, 1, 2] rfl)
  exact W.vret hx hb hr (fun t ht hW => ⟨⟨(), rfl, trivial, rc_out ht hP⟩, hS.F ht⟩) hS.2.2 d_M_moveTo_107
set_option maxHeartbeats 4000000 in
set_option maxRecDepth 100000 in
theorem lo_M_move {cJ cI : ClassId} {h : Nat} {cd od : Int} {fc hd md lo : Nat} {lv : Int} {tb rw bs : Nat} {mn : Int} {nu tu : Nat} {F E : Nat → Nat → ro_K}  (hx : p.tables.exec = Jvm.exec) (hb : c.code = c_M_move) (hml : c.maxLocals = 4) (hown : s.vm.findClass R_M = some m.cls) (hts : ∀ w ∈ kb, w.before args s = true) (hK : va_K D vC [(cJ, .long), (cI, .int)] s) (hN : rc_N s)  (hend : ∀ (H : Heap) (locs : List Loc) (ls : Array Slot), va_P D vC [(h, rM cd od fc hd md lo lv tb rw bs mn nu tu), (fc, k2 cJ 20 5 (c2 E F 20)), (lo, k2 cJ 20 5 E)] H → va_D A [(h, rM cd od fc hd md lo lv tb rw bs mn nu tu), (fc, k2 cJ 20 5 (c2 E F 20)), (lo, k2 cJ 20 5 E)] → va_S A H0 H locs → W p l e R s m args below meth c H locs 0 0 Q (F0 m 39 ls [])) : ∀ (q k : Nat) (z : Int) (H : Heap) (locs : List Loc) (ls : Array Slot), z = (k : Int) → k + q = 20 → va_P D vC [(h, rM cd od fc hd md lo lv tb rw bs mn nu tu), (fc, k2 cJ 20 5 (c2 E F k)), (lo, k2 cJ 20 5 E)] H → va_D A [(h, rM cd od fc hd md lo lv tb rw bs mn nu tu), (fc, k2 cJ 20 5 (c2 E F k)), (lo, k2 cJ 20 5 E)] → va_S A H0 H locs → lv_has ls 4 [(3, .int (iz z)), (0, .ref h)] → W p l e R s m args below meth c H locs 0 0 Q (F0 m 15 ls []) := by
  intro q
  induction q with
  | zero =>
    intro k z H locs ls hz hk hP hD hS hl
    have e : k = 20 := hk
    subst e
    refine lv_iload_n hx hb d_M_move_15 rfl (lv_at hl 0 rfl) ?_
    refine rz_bipush hx hb d_M_move_16 (by decide) ?_
    refine rz_icmp_ge (tgt := 39) hx hb d_M_move_18 (by decide) (fun hc1 => ?_) (fun hc1 => ?_)
    · exact hend H locs ls hP hD hS
    · omega
  | succ q ih =>
    intro k z H locs ls hz hk hP hD hS hl
    subst hz
    refine lv_iload_n hx hb d_M_move_15 rfl (lv_at hl 0 rfl) ?_
    refine rz_bipush hx hb d_M_move_16 (by decide) ?_
    refine rz_icmp_ge (tgt := 39) hx hb d_M_move_18 (by decide) (fun hc2 => ?_) (fun hc2 => ?_)
    · omega
    · refine lv_aload_n hx hb d_M_move_21 rfl (lv_at hl 1 rfl) ?_
      refine va_get (D := D) (ci := 3) (v := .ref fc) (C := R_M) (T := T_M) (N := 13) hx hb hts in_M hown hK hP 0 rfl rfl 2 (by decide) (hts _ kw_532) (fun _ h9 => h9) rfl d_M_move_22 ?_
      refine lv_iload_n hx hb d_M_move_25 rfl (lv_at hl 0 rfl) ?_
      refine lv_aload_n hx hb d_M_move_26 rfl (lv_at hl 1 rfl) ?_
      refine va_get (D := D) (ci := 3) (v := .ref lo) (C := R_M) (T := T_M) (N := 13) hx hb hts in_M hown hK hP 0 rfl rfl 5 (by decide) (hts _ kw_535) (fun _ h9 => h9) rfl d_M_move_27 ?_
      refine lv_iload_n hx hb d_M_move_30 rfl (lv_at hl 0 rfl) ?_
      refine rm_ldf hx hb hK hP 2 0 rfl rfl k d_M_move_31 ?_
      refine rm_stf hx hb hK hP hD hS 1 0 rfl rfl k d_M_move_32 (fun H locs hP hD hS => ?_)
      have hP : va_P D vC [(h, rM cd od fc hd md lo lv tb rw bs mn nu tu), (fc, k2 cJ 20 5 (up2 (c2 E F k) (k / 5) (k % 5) (E (k / 5) (k % 5)))), (lo, k2 cJ 20 5 E)] H := hP
      have hD : va_D A [(h, rM cd od fc hd md lo lv tb rw bs mn nu tu), (fc, k2 cJ 20 5 (up2 (c2 E F k) (k / 5) (k % 5) (E (k / 5) (k % 5)))), (lo, k2 cJ 20 5 E)] := hD
      refine lv_iinc (v := iz ((k : Int) + 1)) (lv' := [(3, .int (iz ((k : Int) + 1))), (0, .ref h)]) hx hb d_M_move_33 hl (k := 0) rfl (iz_add _ _) (by decide) rfl (fun ls hl => ?_)
      refine lv_goto (tgt := 15) hx hb d_M_move_36 (by decide) ?_
      exact ih (k + 1) _ H locs ls (by omega) (by omega) hP hD hS (lv_sub hl [0, 1] rfl)
def ws_M_move : List Cond := .code y_M_move c_M_move 4 none :: kb
set_option maxHeartbeats 4000000 in
set_option maxRecDepth 100000 in
/-- move -/
theorem m_M_move (l : Launch) (D : va_G) (cJ cI : ClassId) (h : Nat) (cd od : Int) (fc hd md lo : Nat) (lv : Int) (tb rw bs : Nat) (mn : Int) (nu tu : Nat) (F E : Nat → Nat → ro_K) (v : Int64) : Met l y_M_move ws_M_move ({ frames := 1, cells := 0, slots := 0, locals := 25 }) (rc_Pc D vC [(cJ, .long), (cI, .int)] [.ref h, .long v] [(h, rM cd od fc hd md lo lv tb rw bs mn nu tu), (fc, k2 cJ 20 5 F), (lo, k2 cJ 20 5 E)]) (va_Qv (fun (_ : Unit) => True) (fun _ t => va_P D vC [(h, rM 0 od fc hd md lo lv tb rw bs mn nu tu), (fc, k2 cJ 20 5 (c2 (mvF (ro_k v.toInt) (c2 F E 20) 4) F 20)), (lo, k2 cJ 20 5 (mvF (ro_k v.toInt) (c2 F E 20) 4))] t.heap) (rc_A [(h, rM cd od fc hd md lo lv tb rw bs mn nu tu), (fc, k2 cJ 20 5 F), (lo, k2 cJ 20 5 E)])) 0 0 (rc_A [(h, rM cd od fc hd md lo lv tb rw bs mn nu tu), (fc, k2 cJ 20 5 F), (lo, k2 cJ 20 5 E)]) := by
  refine Met.ofW (cc := c_M_move) (maxL := 4) (ret := none) (by decide) rfl ?_
  intro p e s m args below meth c s₁ B hml hv
  obtain ⟨rfl, hP, hK, hD0, hN⟩ := hv
  have hx := B.exec
  have hb := B.bytes
  have hr := B.returns
  have hts0 := atoms_spec (ws := ws_M_move) B.pre
  have hts : ∀ w ∈ kb, w.before _ s = true := fun w h => hts0 w (List.mem_cons_of_mem _ h)
  have hown : s.vm.findClass R_M = some m.cls := findClass_of_methodNamed B.named
  have hlocks := B.notSynchronized
  have hD := rc_self hD0
  generalize hAe : rc_A [(h, rM cd od fc hd md lo lv tb rw bs mn nu tu), (fc, k2 cJ 20 5 F), (lo, k2 cJ 20 5 E)] = A at hD ⊢
  have hS : va_S A s.heap s.heap [] := va_S.rf
  have hl := lv_entry ([.ref h, .long v]) (n := 4) (Nat.le_of_ble_eq_true rfl)
  rw [lg_entry_eq]
  generalize (lg_sl ([.ref h, .long v]) ++ List.replicate (4 - (lg_sl ([.ref h, .long v])).length) Slot.unset).toArray = ls at hl ⊢

  have hl : lv_has ls 4 [(0, .ref h), (1, .long v)] := hl
  refine lv_aload_n hx hb d_M_move_0 rfl (lv_at hl 0 rfl) ?_
  refine rz_iconst hx hb d_M_move_1 ?_
  refine va_put (D := D) (ci := 3) (v := .int (iz 0)) (ty := .int) (C := R_M) (T := T_M) (N := 13) hx hb hts in_M ty_M tk_M nm_M hown hK hP hD hS 0 rfl rfl 0 (by decide) (hts _ kw_530) (fun _ h9 => h9) rfl (by decide +kernel) rfl rfl (Nat.le_of_ble_eq_true rfl) d_M_move_2 (fun H locs hP hD hS => ?_)
  have hP : va_P D vC [(h, rM 0 od fc hd md lo lv tb rw bs mn nu tu), (fc, k2 cJ 20 5 F), (lo, k2 cJ 20 5 E)] H := hP
  have hD : va_D A [(h, rM 0 od fc hd md lo lv tb rw bs mn nu tu), (fc, k2 cJ 20 5 F), (lo, k2 cJ 20 5 E)] := hD
  refine lv_aload_n hx hb d_M_move_5 rfl (lv_at hl 0 rfl) ?_
  refine lv_lload_n hx hb d_M_move_6 rfl (lv_at hl 1 rfl) ?_
  refine rc_calll (va_runS (As := [.long v]) (rest := [.ref h]) ⟨hx, hb, hml, hown, hts⟩ (m_M_modulo l D v) (cwS 1 hts (kb_gi (kb_c kw_586 (kb_c kw_587 (kb_c kw_5 (kb_c kw_588 kb_all))))) rfl rfl rfl (by decide +kernel) ⟨Nat.le_of_ble_eq_true rfl, Nat.le_of_ble_eq_true rfl⟩) ⟨rc_blind, rc_pre hP hD hK hN [] rfl rfl [] rfl⟩ rfl rfl hl.1 rfl (lv_room (Nat.le_of_ble_eq_true rfl)) d_M_move_7 ⟨Nat.zero_le _, Nat.zero_le _⟩) hP hD hS [] rfl (fun _ => rfl) (fun r1 u2 H locs hw2 hP hD hS => ?_)
  subst hw2
  have hP : va_P D vC [(h, rM 0 od fc hd md lo lv tb rw bs mn nu tu), (fc, k2 cJ 20 5 F), (lo, k2 cJ 20 5 E)] H := hP
  have hD : va_D A [(h, rM 0 od fc hd md lo lv tb rw bs mn nu tu), (fc, k2 cJ 20 5 F), (lo, k2 cJ 20 5 E)] := hD
  refine rc_callv (va_runV (As := [.long (lk (ro_k v.toInt))]) (rest := []) ⟨hx, hb, hml, hown, hts⟩ (m_M_moveTo l D cJ cI h 0 od fc hd md lo lv tb rw bs mn nu tu F E (ro_k v.toInt)) (cwV 1 hts (kb_gi (kb_c kw_602 (kb_c kw_604 (kb_c ks_M_moveTo (kb_c kw_5 (kb_c kw_605 kb_all)))))) rfl rfl rfl (by decide +kernel) ⟨Nat.le_of_ble_eq_true rfl, Nat.le_of_ble_eq_true rfl⟩) ⟨rc_blind, va_recv hK hP (ci := 3) (q0 := 0) rfl rfl, rc_pre hP hD hK hN [0, 1, 2] rfl rfl [0, 1] rfl⟩ rfl rfl hl.1 rfl (lv_room (Nat.le_of_ble_eq_true rfl)) d_M_move_10 ⟨Nat.zero_le _, Nat.zero_le _⟩) hP hD hS [0, 1, 2] rfl (fun _ => rfl) (fun u3 H locs hw3 hP hD hS => ?_)
  have hP : va_P D vC [(h, rM 0 od fc hd md lo lv tb rw bs mn nu tu), (fc, k2 cJ 20 5 F), (lo, k2 cJ 20 5 (mvF (ro_k v.toInt) (c2 F E 20) 4))] H := hP
  have hD : va_D A [(h, rM 0 od fc hd md lo lv tb rw bs mn nu tu), (fc, k2 cJ 20 5 F), (lo, k2 cJ 20 5 (mvF (ro_k v.toInt) (c2 F E 20) 4))] := hD
  refine rz_iconst hx hb d_M_move_13 ?_
  refine lv_istore_n (lv' := [(3, .int (iz 0)), (0, .ref h), (1, .long v)]) hx hb d_M_move_14 rfl hl (by decide) rfl (fun ls hl => ?_)
  refine lo_M_move (F := F) (E := (mvF (ro_k v.toInt) (c2 F E 20) 4))  hx hb hml hown hts hK hN (fun H locs ls hP hD hS => ?_) 20 0 _ _ _ ls rfl (by omega) hP hD hS (lv_sub hl [0, 1] rfl)
  exact W.vret hx hb hr (fun t ht hW => ⟨⟨(), rfl, trivial, rc_out ht hP⟩, hS.F ht⟩) hS.2.2 d_M_move_39
end WK
