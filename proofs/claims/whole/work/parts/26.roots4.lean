section WK
variable {p : Program} {l : Launch} {e : Env} {R : Room} {s : State} {m : MethodId} {args : Array Value} {below : List Frame} {meth : Method} {c : Code} {H : Heap} {locs : List Loc} {cells slots : Nat} {Q : State → Prop} {D : va_G} {A : Nat → Prop} {H0 : Heap}
abbrev rS5 : Type := (Nat → ro_K) × (Nat → ro_K) × (Nat → ro_K) × (Nat → ro_K) × (Nat → ro_K)
theorem lk_i2l {z : Int} (h0 : 0 ≤ z) (h1 : z < 32003) : (iz z).toInt64 = lk (ro_k z) := by
  have e : (iz z).toInt64.toInt = z := by rw [Int32.toInt_toInt64, iz_toInt (by omega) (by omega)]
  rw [lz_self (iz z).toInt64, e]
  exact nb_k rfl h0 h1 rfl
def ws_R_keepRootsOnce : List Cond := .code y_R_keepRootsOnce c_R_keepRootsOnce 1 none :: kb
set_option maxHeartbeats 4000000 in
set_option maxRecDepth 100000 in
/-- the product over the different roots is left -/
theorem m_R_keepRootsOnce (l : Launch) (D : va_G) (cJ : ClassId) (h fo wh pt rs sq on tw : Nat) (cn : Int) (F r S a b : Nat → ro_K) (d : Nat) (hm : mo F d) (h1 : 1 ≤ d) : Met l y_R_keepRootsOnce ws_R_keepRootsOnce ({ frames := 3, cells := 0, slots := 0, locals := 87 }) (rc_Pc D vC [(cJ, .long)] [.ref h] [(h, rR fo cn wh pt rs sq on tw), (wh, ka cJ 5 F), (rs, ka cJ 5 r), (sq, ka cJ 8 S), (on, ka cJ 5 a), (tw, ka cJ 5 b)]) (va_Qv (fun (u : rS5) => ∃ L : List ro_K, L.Nodup ∧ L.length ≤ 4 ∧ (∀ i, i < 5 → u.1 i = ro_pl L i) ∧ ∀ x, x ∈ L ↔ ro_ev 5 F x = 0) (fun u t => va_P D vC [(h, rR fo cn wh pt rs sq on tw), (wh, ka cJ 5 u.1), (rs, ka cJ 5 u.2.1), (sq, ka cJ 8 u.2.2.1), (on, ka cJ 5 u.2.2.2.1), (tw, ka cJ 5 u.2.2.2.2)] t.heap) (rc_A [(h, rR fo cn wh pt rs sq on tw), (wh, ka cJ 5 F), (rs, ka cJ 5 r), (sq, ka cJ 8 S), (on, ka cJ 5 a), (tw, ka cJ 5 b)])) 0 0 (rc_A [(h, rR fo cn wh pt rs sq on tw), (wh, ka cJ 5 F), (rs, ka cJ 5 r), (sq, ka cJ 8 S), (on, ka cJ 5 a), (tw, ka cJ 5 b)]) := by
  refine Met.ofW (cc := c_R_keepRootsOnce) (maxL := 1) (ret := none) (by decide) rfl ?_
  intro p e s m args below meth c s₁ B hml hv
  obtain ⟨rfl, hP, hK, hD0, hN⟩ := hv
  have hx := B.exec
  have hb := B.bytes
  have hr := B.returns
  have hts0 := atoms_spec (ws := ws_R_keepRootsOnce) B.pre
  have hts : ∀ w ∈ kb, w.before _ s = true := fun w h => hts0 w (List.mem_cons_of_mem _ h)
  have hown : s.vm.findClass R_R = some m.cls := findClass_of_methodNamed B.named
  have hlocks := B.notSynchronized
  have hD := rc_self hD0
  generalize hAe : rc_A [(h, rR fo cn wh pt rs sq on tw), (wh, ka cJ 5 F), (rs, ka cJ 5 r), (sq, ka cJ 8 S), (on, ka cJ 5 a), (tw, ka cJ 5 b)] = A at hD ⊢
  have hS : va_S A s.heap s.heap [] := va_S.rf
  have hl := lv_entry ([.ref h]) (n := 1) (Nat.le_of_ble_eq_true rfl)
  rw [lg_entry_eq]
  generalize (lg_sl ([.ref h]) ++ List.replicate (1 - (lg_sl ([.ref h])).length) Slot.unset).toArray = ls at hl ⊢

  have hl : lv_has ls 1 [(0, .ref h)] := hl
  have hspec := keep_spec (r := r) (S := S) (a := a) (b := b) hm h1
  obtain ⟨⟨sw, G, Lx⟩, hU⟩ : ∃ U, euB 5 false (va_cpy F a 0 0 5) (va_cpy (va_up (rsF 0 32003 d F r S).1 1 ((rsF 0 32003 d F r S).1 1 - 1)) b 0 0 5) = U := ⟨_, rfl⟩
  rw [hU] at hspec
  refine lv_aload_n hx hb d_R_keepRootsOnce_0 rfl (lv_at hl 0 rfl) ?_
  refine lv_lconst (v := lk 0) hx hb d_R_keepRootsOnce_1 rfl ?_
  refine rz_sipush hx hb d_R_keepRootsOnce_2 (by decide) ?_
  refine lv_aload_n hx hb d_R_keepRootsOnce_5 rfl (lv_at hl 0 rfl) ?_
  refine va_get (D := D) (ci := 1) (v := .ref wh) (C := R_R) (T := T_R) (N := 8) hx hb hts in_R hown hK hP 0 rfl rfl 2 (by decide) (hts _ kw_32) (fun _ h9 => h9) rfl d_R_keepRootsOnce_6 ?_
  refine rc_callv (va_runV (As := [.long (lk 0), .int (iz 32003), .ref wh]) (rest := []) ⟨hx, hb, hml, hown, hts⟩ (m_R_raise l D cJ h fo wh pt rs sq on tw cn wh d 32003 0 F r S (mo_kd hm) (Or.inl rfl)) (cwV 3 hts (kb_gi (kb_c kw_365 (kb_c kw_367 (kb_c ks_R_raise (kb_c kw_2 (kb_c kw_368 kb_all)))))) rfl rfl rfl (by decide +kernel) ⟨Nat.le_of_ble_eq_true rfl, Nat.le_of_ble_eq_true rfl⟩) ⟨rc_blind, va_recv hK hP (ci := 1) (q0 := 0) rfl rfl, rc_pre hP hD hK hN [0, 1, 2, 3] rfl rfl [0] rfl⟩ rfl rfl hl.1 rfl (lv_room (Nat.le_of_ble_eq_true rfl)) d_R_keepRootsOnce_9 ⟨Nat.zero_le _, Nat.zero_le _⟩) hP hD hS [0, 1, 2, 3] rfl (fun _ => rfl) (fun u1 H locs hw1 hP hD hS => ?_)
  have hP : va_P D vC [(h, rR fo cn wh pt rs sq on tw), (wh, ka cJ 5 F), (rs, ka cJ 5 (rsF 0 32003 d F r S).1), (sq, ka cJ 8 (rsF 0 32003 d F r S).2), (on, ka cJ 5 a), (tw, ka cJ 5 b)] H := hP
  have hD : va_D A [(h, rR fo cn wh pt rs sq on tw), (wh, ka cJ 5 F), (rs, ka cJ 5 (rsF 0 32003 d F r S).1), (sq, ka cJ 8 (rsF 0 32003 d F r S).2), (on, ka cJ 5 a), (tw, ka cJ 5 b)] := hD
  refine lv_aload_n hx hb d_R_keepRootsOnce_12 rfl (lv_at hl 0 rfl) ?_
  refine va_get (D := D) (ci := 1) (v := .ref rs) (C := R_R) (T := T_R) (N := 8) hx hb hts in_R hown hK hP 0 rfl rfl 4 (by decide) (hts _ kw_34) (fun _ h9 => h9) rfl d_R_keepRootsOnce_13 ?_
  refine rz_iconst hx hb d_R_keepRootsOnce_16 ?_
  refine lv_aload_n hx hb d_R_keepRootsOnce_17 rfl (lv_at hl 0 rfl) ?_
  refine va_get (D := D) (ci := 1) (v := .ref rs) (C := R_R) (T := T_R) (N := 8) hx hb hts in_R hown hK hP 0 rfl rfl 4 (by decide) (hts _ kw_34) (fun _ h9 => h9) rfl d_R_keepRootsOnce_18 ?_
  refine rz_iconst hx hb d_R_keepRootsOnce_21 ?_
  refine rk_ld hx hb hK hP 2 0 rfl rfl 1 d_R_keepRootsOnce_22 ?_
  refine lv_lconst (v := lk 1) hx hb d_R_keepRootsOnce_23 rfl ?_
  refine rlq_lsub hx hb 64004 (lq_of (lk_p ((rsF 0 32003 d F r S).1 1)) (by decide)) (lq_of (lk_p 1) (by decide)) d_R_keepRootsOnce_24 (fun v2 hv2 => ?_)
  refine rc_calll (va_runSN (As := [.long v2]) (rest := [.int (iz 1), .ref rs]) ⟨hx, hb, hml, hown, hts⟩ (m_O_number l D v2) ⟨va_cnB 1 hts (kb_gi (kb_c kw_125 kb_all)) rfl rfl rfl hN.2.2.1 (hts _ kw_1) (by decide +kernel) ⟨Nat.le_of_ble_eq_true rfl, Nat.le_of_ble_eq_true rfl⟩, hts _ kw_124, trivial⟩ ⟨rc_blind, rc_pre hP hD hK hN [] rfl rfl [] rfl⟩ rfl rfl hl.1 rfl (lv_room (Nat.le_of_ble_eq_true rfl)) d_R_keepRootsOnce_25 ⟨Nat.zero_le _, Nat.zero_le _⟩) hP hD hS [] rfl (fun _ => rfl) (fun r3 u4 H locs hw4 hP hD hS => ?_)
  rw [hv2.2.2] at hw4
  subst hw4
  have hP : va_P D vC [(h, rR fo cn wh pt rs sq on tw), (wh, ka cJ 5 F), (rs, ka cJ 5 (rsF 0 32003 d F r S).1), (sq, ka cJ 8 (rsF 0 32003 d F r S).2), (on, ka cJ 5 a), (tw, ka cJ 5 b)] H := hP
  have hD : va_D A [(h, rR fo cn wh pt rs sq on tw), (wh, ka cJ 5 F), (rs, ka cJ 5 (rsF 0 32003 d F r S).1), (sq, ka cJ 8 (rsF 0 32003 d F r S).2), (on, ka cJ 5 a), (tw, ka cJ 5 b)] := hD
  refine rk_st hx hb hK hP hD hS 2 0 rfl rfl 1 d_R_keepRootsOnce_28 (fun H locs hP hD hS => ?_)
  have hP : va_P D vC [(h, rR fo cn wh pt rs sq on tw), (wh, ka cJ 5 F), (rs, ka cJ 5 (va_up (rsF 0 32003 d F r S).1 1 (((rsF 0 32003 d F r S).1 1) - 1))), (sq, ka cJ 8 (rsF 0 32003 d F r S).2), (on, ka cJ 5 a), (tw, ka cJ 5 b)] H := hP
  have hD : va_D A [(h, rR fo cn wh pt rs sq on tw), (wh, ka cJ 5 F), (rs, ka cJ 5 (va_up (rsF 0 32003 d F r S).1 1 (((rsF 0 32003 d F r S).1 1) - 1))), (sq, ka cJ 8 (rsF 0 32003 d F r S).2), (on, ka cJ 5 a), (tw, ka cJ 5 b)] := hD
  refine lv_aload_n hx hb d_R_keepRootsOnce_29 rfl (lv_at hl 0 rfl) ?_
  refine lv_aload_n hx hb d_R_keepRootsOnce_30 rfl (lv_at hl 0 rfl) ?_
  refine va_get (D := D) (ci := 1) (v := .ref wh) (C := R_R) (T := T_R) (N := 8) hx hb hts in_R hown hK hP 0 rfl rfl 2 (by decide) (hts _ kw_32) (fun _ h9 => h9) rfl d_R_keepRootsOnce_31 ?_
  cases sw with
  | false =>
    refine rc_callr (va_runV (As := [.ref wh]) (rest := []) ⟨hx, hb, hml, hown, hts⟩ (m_R_commonWithRaised l D cJ h fo wh pt rs sq on tw cn wh F (va_up (rsF 0 32003 d F r S).1 1 ((rsF 0 32003 d F r S).1 1 - 1)) a b (false, G, Lx) hU) (cwV 1 hts (kb_gi (kb_c kw_382 (kb_c kw_384 (kb_c ks_R_commonWithRaised (kb_c kw_2 (kb_c kw_385 kb_all)))))) rfl rfl rfl (by decide +kernel) ⟨Nat.le_of_ble_eq_true rfl, Nat.le_of_ble_eq_true rfl⟩) ⟨rc_blind, va_recv hK hP (ci := 1) (q0 := 0) rfl rfl, rc_pre hP hD hK hN [0, 1, 2, 4, 5] rfl rfl [0] rfl⟩ rfl rfl hl.1 rfl (lv_room (Nat.le_of_ble_eq_true rfl)) d_R_keepRootsOnce_34 ⟨Nat.zero_le _, Nat.zero_le _⟩) hP hD hS [0, 1, 2, 4, 5] rfl (fun _ => rfl) (fun u5 H locs hw5 hP hD hS => ?_)
    have hP : va_P D vC [(h, rR fo cn wh pt rs sq on tw), (wh, ka cJ 5 F), (rs, ka cJ 5 (va_up (rsF 0 32003 d F r S).1 1 (((rsF 0 32003 d F r S).1 1) - 1))), (sq, ka cJ 8 (rsF 0 32003 d F r S).2), (on, ka cJ 5 G), (tw, ka cJ 5 Lx)] H := hP
    have hD : va_D A [(h, rR fo cn wh pt rs sq on tw), (wh, ka cJ 5 F), (rs, ka cJ 5 (va_up (rsF 0 32003 d F r S).1 1 (((rsF 0 32003 d F r S).1 1) - 1))), (sq, ka cJ 8 (rsF 0 32003 d F r S).2), (on, ka cJ 5 G), (tw, ka cJ 5 Lx)] := hD
    refine lv_aload_n hx hb d_R_keepRootsOnce_37 rfl (lv_at hl 0 rfl) ?_
    refine va_get (D := D) (ci := 1) (v := .ref wh) (C := R_R) (T := T_R) (N := 8) hx hb hts in_R hown hK hP 0 rfl rfl 2 (by decide) (hts _ kw_32) (fun _ h9 => h9) rfl d_R_keepRootsOnce_38 ?_
    refine rc_callv (va_runS (As := [.ref on, .ref wh]) (rest := []) ⟨hx, hb, hml, hown, hts⟩ (m_R_copy l D cJ on wh 5 G F (by omega)) (cwS 2 hts (kb_gi (kb_c kw_352 (kb_c kw_353 (kb_c kw_2 (kb_c kw_354 kb_all))))) rfl rfl rfl (by decide +kernel) ⟨Nat.le_of_ble_eq_true rfl, Nat.le_of_ble_eq_true rfl⟩) ⟨rc_blind, rc_pre hP hD hK hN [4, 1] rfl rfl [0] rfl⟩ rfl rfl hl.1 rfl (lv_room (Nat.le_of_ble_eq_true rfl)) d_R_keepRootsOnce_41 ⟨Nat.zero_le _, Nat.zero_le _⟩) hP hD hS [4, 1] rfl (fun _ => rfl) (fun u6 H locs hw6 hP hD hS => ?_)
    have hP : va_P D vC [(h, rR fo cn wh pt rs sq on tw), (wh, ka cJ 5 (va_cpy G F 0 0 5)), (rs, ka cJ 5 (va_up (rsF 0 32003 d F r S).1 1 (((rsF 0 32003 d F r S).1 1) - 1))), (sq, ka cJ 8 (rsF 0 32003 d F r S).2), (on, ka cJ 5 G), (tw, ka cJ 5 Lx)] H := hP
    have hD : va_D A [(h, rR fo cn wh pt rs sq on tw), (wh, ka cJ 5 (va_cpy G F 0 0 5)), (rs, ka cJ 5 (va_up (rsF 0 32003 d F r S).1 1 (((rsF 0 32003 d F r S).1 1) - 1))), (sq, ka cJ 8 (rsF 0 32003 d F r S).2), (on, ka cJ 5 G), (tw, ka cJ 5 Lx)] := hD
    refine W.vret hx hb hr (fun t ht hW => ⟨⟨(va_cpy G F 0 0 5, (va_up (rsF 0 32003 d F r S).1 1 ((rsF 0 32003 d F r S).1 1 - 1)), (rsF 0 32003 d F r S).2, G, Lx), rfl, ?_, rc_out ht hP⟩, hS.F ht⟩) hS.2.2 d_R_keepRootsOnce_44
    obtain ⟨L, l1, l2, l3, l4⟩ := hspec
    exact ⟨L, l1, l2, fun i hi => by show va_cpy G F 0 0 5 i = _; rw [cpy5 G F hi]; exact l3 i hi, l4⟩
  | true =>
    refine rc_callr (va_runV (As := [.ref wh]) (rest := []) ⟨hx, hb, hml, hown, hts⟩ (m_R_commonWithRaised l D cJ h fo wh pt rs sq on tw cn wh F (va_up (rsF 0 32003 d F r S).1 1 ((rsF 0 32003 d F r S).1 1 - 1)) a b (true, G, Lx) hU) (cwV 1 hts (kb_gi (kb_c kw_382 (kb_c kw_384 (kb_c ks_R_commonWithRaised (kb_c kw_2 (kb_c kw_385 kb_all)))))) rfl rfl rfl (by decide +kernel) ⟨Nat.le_of_ble_eq_true rfl, Nat.le_of_ble_eq_true rfl⟩) ⟨rc_blind, va_recv hK hP (ci := 1) (q0 := 0) rfl rfl, rc_pre hP hD hK hN [0, 1, 2, 4, 5] rfl rfl [0] rfl⟩ rfl rfl hl.1 rfl (lv_room (Nat.le_of_ble_eq_true rfl)) d_R_keepRootsOnce_34 ⟨Nat.zero_le _, Nat.zero_le _⟩) hP hD hS [0, 1, 2, 4, 5] rfl (fun _ => rfl) (fun u7 H locs hw7 hP hD hS => ?_)
    have hP : va_P D vC [(h, rR fo cn wh pt rs sq on tw), (wh, ka cJ 5 F), (rs, ka cJ 5 (va_up (rsF 0 32003 d F r S).1 1 (((rsF 0 32003 d F r S).1 1) - 1))), (sq, ka cJ 8 (rsF 0 32003 d F r S).2), (on, ka cJ 5 Lx), (tw, ka cJ 5 G)] H := hP
    have hD : va_D A [(h, rR fo cn wh pt rs sq on tw), (wh, ka cJ 5 F), (rs, ka cJ 5 (va_up (rsF 0 32003 d F r S).1 1 (((rsF 0 32003 d F r S).1 1) - 1))), (sq, ka cJ 8 (rsF 0 32003 d F r S).2), (on, ka cJ 5 Lx), (tw, ka cJ 5 G)] := hD
    refine lv_aload_n hx hb d_R_keepRootsOnce_37 rfl (lv_at hl 0 rfl) ?_
    refine va_get (D := D) (ci := 1) (v := .ref wh) (C := R_R) (T := T_R) (N := 8) hx hb hts in_R hown hK hP 0 rfl rfl 2 (by decide) (hts _ kw_32) (fun _ h9 => h9) rfl d_R_keepRootsOnce_38 ?_
    refine rc_callv (va_runS (As := [.ref tw, .ref wh]) (rest := []) ⟨hx, hb, hml, hown, hts⟩ (m_R_copy l D cJ tw wh 5 G F (by omega)) (cwS 2 hts (kb_gi (kb_c kw_352 (kb_c kw_353 (kb_c kw_2 (kb_c kw_354 kb_all))))) rfl rfl rfl (by decide +kernel) ⟨Nat.le_of_ble_eq_true rfl, Nat.le_of_ble_eq_true rfl⟩) ⟨rc_blind, rc_pre hP hD hK hN [5, 1] rfl rfl [0] rfl⟩ rfl rfl hl.1 rfl (lv_room (Nat.le_of_ble_eq_true rfl)) d_R_keepRootsOnce_41 ⟨Nat.zero_le _, Nat.zero_le _⟩) hP hD hS [5, 1] rfl (fun _ => rfl) (fun u8 H locs hw8 hP hD hS => ?_)
    have hP : va_P D vC [(h, rR fo cn wh pt rs sq on tw), (wh, ka cJ 5 (va_cpy G F 0 0 5)), (rs, ka cJ 5 (va_up (rsF 0 32003 d F r S).1 1 (((rsF 0 32003 d F r S).1 1) - 1))), (sq, ka cJ 8 (rsF 0 32003 d F r S).2), (on, ka cJ 5 Lx), (tw, ka cJ 5 G)] H := hP
    have hD : va_D A [(h, rR fo cn wh pt rs sq on tw), (wh, ka cJ 5 (va_cpy G F 0 0 5)), (rs, ka cJ 5 (va_up (rsF 0 32003 d F r S).1 1 (((rsF 0 32003 d F r S).1 1) - 1))), (sq, ka cJ 8 (rsF 0 32003 d F r S).2), (on, ka cJ 5 Lx), (tw, ka cJ 5 G)] := hD
    refine W.vret hx hb hr (fun t ht hW => ⟨⟨(va_cpy G F 0 0 5, (va_up (rsF 0 32003 d F r S).1 1 ((rsF 0 32003 d F r S).1 1 - 1)), (rsF 0 32003 d F r S).2, Lx, G), rfl, ?_, rc_out ht hP⟩, hS.F ht⟩) hS.2.2 d_R_keepRootsOnce_44
    obtain ⟨L, l1, l2, l3, l4⟩ := hspec
    exact ⟨L, l1, l2, fun i hi => by show va_cpy G F 0 0 5 i = _; rw [cpy5 G F hi]; exact l3 i hi, l4⟩
/-- the part that is looked at: the product over some of the roots, which agree on all that was tried -/
def prt (M : List ro_K) (F : Nat → ro_K) (z : Int) : Prop := ∃ N : List ro_K, N.Nodup ∧ N ≠ [] ∧ N.length ≤ 4 ∧ (∀ x ∈ N, x ∈ M) ∧ (∀ i, i < 5 → F i = ro_pl N i) ∧ ∀ y : Int, 0 ≤ y → y < z → ∀ s ∈ N, ∀ q ∈ N, (ro_pw (s + ro_k y) 16001 = 1 ↔ ro_pw (q + ro_k y) 16001 = 1)
theorem pl_mo {N : List ro_K} {F : Nat → ro_K} (h4 : N.length ≤ 4) (hF : ∀ i, i < 5 → F i = ro_pl N i) : mo F N.length := ⟨by omega, by rw [hF _ (by omega)]; exact ro_pl_1 N, fun i q1 q2 => by rw [hF i q2]; exact ro_pl_0 N i q1⟩
theorem prt_one {M : List ro_K} {F : Nat → ro_K} {z : Int} (h : prt M F z) (hz : 32003 ≤ z ∨ kd F 5 ≤ 1) : ∃ x ∈ M, F 0 = -x := by
  obtain ⟨N, n1, n2, n3, n4, n5, n6⟩ := h
  have hk := mo_kd (pl_mo n3 n5)
  have hone : ∃ x, N = [x] := by
    match N, n1, n2, hk, n6 with
    | [], _, n2, _, _ => exact absurd rfl n2
    | [x], _, _, _, _ => exact ⟨x, rfl⟩
    | x :: y :: l, n1, _, hk, n6 =>
      exfalso
      rcases hz with hz | hz
      · have hne : x ≠ y := by
          rw [List.nodup_cons] at n1
          intro e
          exact n1.1 (by rw [e]; exact List.mem_cons_self)
        obtain ⟨b, hb⟩ := ro_apart hne
        have h6 := n6 (b.val : Int) (by omega) (by have := b.isLt; omega) x List.mem_cons_self y (List.mem_cons_of_mem _ List.mem_cons_self)
        rw [ro_k_back] at h6
        rcases hb with ⟨p1, p2⟩ | ⟨p1, p2⟩
        · exact p2 (h6.mp p1)
        · exact p1 (h6.mpr p2)
      · simp only [List.length_cons] at hk
        omega
  obtain ⟨x, rfl⟩ := hone
  refine ⟨x, n4 x List.mem_cons_self, ?_⟩
  rw [n5 0 (by decide)]
  show ro_sh (ro_pl []) 0 - x * ro_pl [] 0 = -x
  rw [ro_sh_0]
  show 0 - x * (if (0 : Nat) = 0 then (1 : ro_K) else 0) = -x
  rw [if_pos rfl]
  grind
/-- one number more is tried: the common part is taken, or, where it is a number, nothing changes -/
theorem prt_step {M : List ro_K} {F r S a c G : Nat → ro_K} {z : Int} {n : Nat} (h : prt M F z) (hn : kd F 5 = (n : Int)) (hz0 : 0 ≤ z) (hG : (euB 5 false (va_cpy F a 0 0 5) (va_cpy (va_up (rsF (ro_k z) 16001 n F r S).1 0 ((rsF (ro_k z) 16001 n F r S).1 0 - 1)) c 0 0 5)).2.1 = G) : (0 < kd G 5 → prt M (va_cpy G F 0 0 5) (z + 1)) ∧ (kd G 5 ≤ 0 → prt M F (z + 1)) := by
  obtain ⟨N, n1, n2, n3, n4, n5, n6⟩ := h
  have h1 : 1 ≤ N.length := List.length_pos_iff.mpr n2
  have hk := mo_kd (pl_mo n3 n5)
  have en : n = N.length := by omega
  subst en
  obtain ⟨-, hc⟩ := common_spec (r := r) (S := S) (a := a) (c := c) (b := ro_k z) n1 h1 n3 n5
  rw [hG] at hc
  have hl4 : (N.filter (fun s => decide (ro_pw (s + ro_k z) 16001 = 1))).length ≤ 4 := Nat.le_trans (List.length_filter_le _ _) n3
  have hkG := mo_kd (pl_mo hl4 hc)
  refine ⟨fun hp => ?_, fun hp => ?_⟩
  · refine ⟨N.filter (fun s => decide (ro_pw (s + ro_k z) 16001 = 1)), List.Nodup.sublist List.filter_sublist n1, fun e => ?_, hl4, fun x hx => n4 x (List.mem_filter.mp hx).1, fun i hi => by rw [cpy5 G F hi]; exact hc i hi, fun y y0 y1 s hs q hq => ?_⟩
    · rw [e] at hkG
      simp only [List.length_nil] at hkG
      omega
    · have hs2 := List.mem_filter.mp hs
      have hq2 := List.mem_filter.mp hq
      by_cases e : y = z
      · subst e
        have a1 : ro_pw (s + ro_k y) 16001 = 1 := by simpa using hs2.2
        have a2 : ro_pw (q + ro_k y) 16001 = 1 := by simpa using hq2.2
        exact ⟨fun _ => a2, fun _ => a1⟩
      · exact n6 y y0 (by omega) s hs2.1 q hq2.1
  · have hnil : N.filter (fun s => decide (ro_pw (s + ro_k z) 16001 = 1)) = [] := List.length_eq_zero_iff.mp (by omega)
    refine ⟨N, n1, n2, n3, n4, n5, fun y y0 y1 s hs q hq => ?_⟩
    by_cases e : y = z
    · subst e
      have no : ∀ v ∈ N, ¬ ro_pw (v + ro_k y) 16001 = 1 := by
        intro v hv hv1
        have : v ∈ N.filter (fun s => decide (ro_pw (s + ro_k y) 16001 = 1)) := List.mem_filter.mpr ⟨hv, by simpa using hv1⟩
        rw [hnil] at this
        exact absurd this List.not_mem_nil
      exact ⟨fun z1 => absurd z1 (no s hs), fun z1 => absurd z1 (no q hq)⟩
    · exact n6 y y0 (by omega) s hs q hq
set_option maxHeartbeats 4000000 in
set_option maxRecDepth 100000 in
theorem lo_R_oneRoot {fo wh pt rs sq on tw h : Nat} {cn : Int} {cJ : ClassId} {M : List ro_K} {Y : Nat → ro_K} (hx : p.tables.exec = Jvm.exec) (hb : c.code = c_R_oneRoot) (hml : c.maxLocals = 3) (hown : s.vm.findClass R_R = some m.cls) (hts : ∀ w ∈ kb, w.before args s = true) (hK : va_K D vC [(cJ, .long)] s) (hN : rc_N s) (hR : 3 ≤ R.frames ∧ 87 ≤ R.locals) (hend : ∀ (F r S a b : Nat → ro_K) (H : Heap) (locs : List Loc) (ls : Array Slot), (∃ x ∈ M, F 0 = -x) → va_P D vC [(h, rR fo cn wh pt rs sq on tw), (wh, ka cJ 5 Y), (pt, ka cJ 5 F), (rs, ka cJ 5 r), (sq, ka cJ 8 S), (on, ka cJ 5 a), (tw, ka cJ 5 b)] H → va_D A [(h, rR fo cn wh pt rs sq on tw), (wh, ka cJ 5 Y), (pt, ka cJ 5 F), (rs, ka cJ 5 r), (sq, ka cJ 8 S), (on, ka cJ 5 a), (tw, ka cJ 5 b)] → va_S A H0 H locs → lv_has ls 3 [(0, .ref h)] → W p l e R s m args below meth c H locs 0 0 Q (F0 m 91 ls [])) : ∀ (k : Nat) (F r S a b : Nat → ro_K) (z : Int) (H : Heap) (locs : List Loc) (ls : Array Slot), z = 32003 - (k : Int) → 0 ≤ z → prt M F z → va_P D vC [(h, rR fo cn wh pt rs sq on tw), (wh, ka cJ 5 Y), (pt, ka cJ 5 F), (rs, ka cJ 5 r), (sq, ka cJ 8 S), (on, ka cJ 5 a), (tw, ka cJ 5 b)] H → va_D A [(h, rR fo cn wh pt rs sq on tw), (wh, ka cJ 5 Y), (pt, ka cJ 5 F), (rs, ka cJ 5 r), (sq, ka cJ 8 S), (on, ka cJ 5 a), (tw, ka cJ 5 b)] → va_S A H0 H locs → lv_has ls 3 [(1, .int (iz z)), (0, .ref h)] → W p l e R s m args below meth c H locs 0 0 Q (F0 m 13 ls []) := by
  intro k
  induction k with
  | zero =>
    intro F r S a b z H locs ls hz hz0 hp hP hD hS hl
    refine lv_iload_n hx hb d_R_oneRoot_13 rfl (lv_at hl 0 rfl) ?_
    refine rz_sipush hx hb d_R_oneRoot_14 (by decide) ?_
    refine rz_icmp_ge (tgt := 91) hx hb d_R_oneRoot_17 (by decide) (fun hc => ?_) (fun hc => absurd hc (by omega))
    exact hend F r S a b H locs ls (prt_one hp (Or.inl (by omega))) hP hD hS (lv_sub hl [1] rfl)
  | succ k ih =>
    intro F r S a b z H locs ls hz hz0 hp hP hD hS hl
    have hkl := kd_lo F 5
    refine lv_iload_n hx hb d_R_oneRoot_13 rfl (lv_at hl 0 rfl) ?_
    refine rz_sipush hx hb d_R_oneRoot_14 (by decide) ?_
    refine rz_icmp_ge (tgt := 91) hx hb d_R_oneRoot_17 (by decide) (fun hc => absurd hc (by omega)) (fun hc => ?_)
    refine lv_aload_n hx hb d_R_oneRoot_20 rfl (lv_at hl 1 rfl) ?_
    refine va_get (D := D) (ci := 1) (v := .ref pt) (C := R_R) (T := T_R) (N := 8) hx hb hts in_R hown hK hP 0 rfl rfl 3 (by decide) (hts _ kw_33) (fun _ h9 => h9) rfl d_R_oneRoot_21 ?_
    refine rc_calli (va_runSN (As := [.ref pt]) (rest := []) ⟨hx, hb, hml, hown, hts⟩ (m_O_degree l D cJ pt 5 F (by omega)) ⟨va_cnB 1 hts (kb_gi (kb_c kw_330 kb_all)) rfl rfl rfl hN.1 (hts _ kw_1) (by decide +kernel) ⟨Nat.le_trans (by decide) hR.1, Nat.le_trans (by decide) hR.2⟩, hts _ kw_329, trivial⟩ ⟨rc_blind, rc_pre hP hD hK hN [2] rfl rfl [0] rfl⟩ rfl rfl hl.1 rfl (lv_room (Nat.le_of_ble_eq_true rfl)) d_R_oneRoot_24 ⟨Nat.zero_le _, Nat.zero_le _⟩) hP hD hS [2] rfl (fun _ => rfl) (fun r1 u2 H locs hw2 hP hD hS => ?_)
    subst hw2
    have hP : va_P D vC [(h, rR fo cn wh pt rs sq on tw), (wh, ka cJ 5 Y), (pt, ka cJ 5 F), (rs, ka cJ 5 r), (sq, ka cJ 8 S), (on, ka cJ 5 a), (tw, ka cJ 5 b)] H := hP
    have hD : va_D A [(h, rR fo cn wh pt rs sq on tw), (wh, ka cJ 5 Y), (pt, ka cJ 5 F), (rs, ka cJ 5 r), (sq, ka cJ 8 S), (on, ka cJ 5 a), (tw, ka cJ 5 b)] := hD
    refine rz_iconst hx hb d_R_oneRoot_27 ?_
    refine rz_icmp_le (tgt := 91) hx hb d_R_oneRoot_28 (by decide) (fun hc3 => ?_) (fun hc3 => ?_)
    · exact hend F r S a b H locs ls (prt_one hp (Or.inr (by omega))) hP hD hS (lv_sub hl [1] rfl)
    · obtain ⟨⟨sw, G, Lx⟩, hU⟩ : ∃ U, euB 5 false (va_cpy F a 0 0 5) (va_cpy (va_up (rsF (ro_k z) 16001 (kd F 5).toNat F r S).1 0 ((rsF (ro_k z) 16001 (kd F 5).toNat F r S).1 0 - 1)) b 0 0 5) = U := ⟨_, rfl⟩
      obtain ⟨hs1, hs2⟩ := prt_step (G := G) (a := a) (c := b) (r := r) (S := S) (n := (kd F 5).toNat) hp (by omega) hz0 (by rw [hU])
      have hkG := kd_lo G 5
      refine lv_aload_n hx hb d_R_oneRoot_31 rfl (lv_at hl 1 rfl) ?_
      refine lv_iload_n hx hb d_R_oneRoot_32 rfl (lv_at hl 0 rfl) ?_
      refine lv_i2l (v := lk (ro_k z)) hx hb d_R_oneRoot_33 (lk_i2l hz0 (by omega)) ?_
      refine rz_sipush hx hb d_R_oneRoot_34 (by decide) ?_
      refine lv_aload_n hx hb d_R_oneRoot_37 rfl (lv_at hl 1 rfl) ?_
      refine va_get (D := D) (ci := 1) (v := .ref pt) (C := R_R) (T := T_R) (N := 8) hx hb hts in_R hown hK hP 0 rfl rfl 3 (by decide) (hts _ kw_33) (fun _ h9 => h9) rfl d_R_oneRoot_38 ?_
      refine rc_callv (va_runV (As := [.long (lk (ro_k z)), .int (iz 16001), .ref pt]) (rest := []) ⟨hx, hb, hml, hown, hts⟩ (m_R_raise l D cJ h fo wh pt rs sq on tw cn pt (kd F 5).toNat 16001 (ro_k z) F r S (by omega) (Or.inr rfl)) (cwV 3 hts (kb_gi (kb_c kw_365 (kb_c kw_367 (kb_c ks_R_raise (kb_c kw_2 (kb_c kw_368 kb_all)))))) rfl rfl rfl (by decide +kernel) ⟨Nat.le_trans (by decide) hR.1, Nat.le_trans (by decide) hR.2⟩) ⟨rc_blind, va_recv hK hP (ci := 1) (q0 := 0) rfl rfl, rc_pre hP hD hK hN [0, 2, 3, 4] rfl rfl [0] rfl⟩ rfl rfl hl.1 rfl (lv_room (Nat.le_of_ble_eq_true rfl)) d_R_oneRoot_41 ⟨Nat.zero_le _, Nat.zero_le _⟩) hP hD hS [0, 2, 3, 4] rfl (fun _ => rfl) (fun u4 H locs hw4 hP hD hS => ?_)
      have hP : va_P D vC [(h, rR fo cn wh pt rs sq on tw), (wh, ka cJ 5 Y), (pt, ka cJ 5 F), (rs, ka cJ 5 (rsF (ro_k z) 16001 (kd F 5).toNat F r S).1), (sq, ka cJ 8 (rsF (ro_k z) 16001 (kd F 5).toNat F r S).2), (on, ka cJ 5 a), (tw, ka cJ 5 b)] H := hP
      have hD : va_D A [(h, rR fo cn wh pt rs sq on tw), (wh, ka cJ 5 Y), (pt, ka cJ 5 F), (rs, ka cJ 5 (rsF (ro_k z) 16001 (kd F 5).toNat F r S).1), (sq, ka cJ 8 (rsF (ro_k z) 16001 (kd F 5).toNat F r S).2), (on, ka cJ 5 a), (tw, ka cJ 5 b)] := hD
      refine lv_aload_n hx hb d_R_oneRoot_44 rfl (lv_at hl 1 rfl) ?_
      refine va_get (D := D) (ci := 1) (v := .ref rs) (C := R_R) (T := T_R) (N := 8) hx hb hts in_R hown hK hP 0 rfl rfl 4 (by decide) (hts _ kw_34) (fun _ h9 => h9) rfl d_R_oneRoot_45 ?_
      refine rz_iconst hx hb d_R_oneRoot_48 ?_
      refine lv_aload_n hx hb d_R_oneRoot_49 rfl (lv_at hl 1 rfl) ?_
      refine va_get (D := D) (ci := 1) (v := .ref rs) (C := R_R) (T := T_R) (N := 8) hx hb hts in_R hown hK hP 0 rfl rfl 4 (by decide) (hts _ kw_34) (fun _ h9 => h9) rfl d_R_oneRoot_50 ?_
      refine rz_iconst hx hb d_R_oneRoot_53 ?_
      refine rk_ld hx hb hK hP 3 0 rfl rfl 0 d_R_oneRoot_54 ?_
      refine lv_lconst (v := lk 1) hx hb d_R_oneRoot_55 rfl ?_
      refine rlq_lsub hx hb 64004 (lq_of (lk_p ((rsF (ro_k z) 16001 (kd F 5).toNat F r S).1 0)) (by decide)) (lq_of (lk_p 1) (by decide)) d_R_oneRoot_56 (fun v5 hv5 => ?_)
      refine rc_calll (va_runSN (As := [.long v5]) (rest := [.int (iz 0), .ref rs]) ⟨hx, hb, hml, hown, hts⟩ (m_O_number l D v5) ⟨va_cnB 1 hts (kb_gi (kb_c kw_125 kb_all)) rfl rfl rfl hN.2.2.1 (hts _ kw_1) (by decide +kernel) ⟨Nat.le_trans (by decide) hR.1, Nat.le_trans (by decide) hR.2⟩, hts _ kw_124, trivial⟩ ⟨rc_blind, rc_pre hP hD hK hN [] rfl rfl [] rfl⟩ rfl rfl hl.1 rfl (lv_room (Nat.le_of_ble_eq_true rfl)) d_R_oneRoot_57 ⟨Nat.zero_le _, Nat.zero_le _⟩) hP hD hS [] rfl (fun _ => rfl) (fun r6 u7 H locs hw7 hP hD hS => ?_)
      rw [hv5.2.2] at hw7
      subst hw7
      have hP : va_P D vC [(h, rR fo cn wh pt rs sq on tw), (wh, ka cJ 5 Y), (pt, ka cJ 5 F), (rs, ka cJ 5 (rsF (ro_k z) 16001 (kd F 5).toNat F r S).1), (sq, ka cJ 8 (rsF (ro_k z) 16001 (kd F 5).toNat F r S).2), (on, ka cJ 5 a), (tw, ka cJ 5 b)] H := hP
      have hD : va_D A [(h, rR fo cn wh pt rs sq on tw), (wh, ka cJ 5 Y), (pt, ka cJ 5 F), (rs, ka cJ 5 (rsF (ro_k z) 16001 (kd F 5).toNat F r S).1), (sq, ka cJ 8 (rsF (ro_k z) 16001 (kd F 5).toNat F r S).2), (on, ka cJ 5 a), (tw, ka cJ 5 b)] := hD
      refine rk_st hx hb hK hP hD hS 3 0 rfl rfl 0 d_R_oneRoot_60 (fun H locs hP hD hS => ?_)
      have hP : va_P D vC [(h, rR fo cn wh pt rs sq on tw), (wh, ka cJ 5 Y), (pt, ka cJ 5 F), (rs, ka cJ 5 (va_up (rsF (ro_k z) 16001 (kd F 5).toNat F r S).1 0 (((rsF (ro_k z) 16001 (kd F 5).toNat F r S).1 0) - 1))), (sq, ka cJ 8 (rsF (ro_k z) 16001 (kd F 5).toNat F r S).2), (on, ka cJ 5 a), (tw, ka cJ 5 b)] H := hP
      have hD : va_D A [(h, rR fo cn wh pt rs sq on tw), (wh, ka cJ 5 Y), (pt, ka cJ 5 F), (rs, ka cJ 5 (va_up (rsF (ro_k z) 16001 (kd F 5).toNat F r S).1 0 (((rsF (ro_k z) 16001 (kd F 5).toNat F r S).1 0) - 1))), (sq, ka cJ 8 (rsF (ro_k z) 16001 (kd F 5).toNat F r S).2), (on, ka cJ 5 a), (tw, ka cJ 5 b)] := hD
      refine lv_aload_n hx hb d_R_oneRoot_61 rfl (lv_at hl 1 rfl) ?_
      refine lv_aload_n hx hb d_R_oneRoot_62 rfl (lv_at hl 1 rfl) ?_
      refine va_get (D := D) (ci := 1) (v := .ref pt) (C := R_R) (T := T_R) (N := 8) hx hb hts in_R hown hK hP 0 rfl rfl 3 (by decide) (hts _ kw_33) (fun _ h9 => h9) rfl d_R_oneRoot_63 ?_
      cases sw with
      | false =>
        refine rc_callr (va_runV (As := [.ref pt]) (rest := []) ⟨hx, hb, hml, hown, hts⟩ (m_R_commonWithRaised l D cJ h fo wh pt rs sq on tw cn pt F (va_up (rsF (ro_k z) 16001 (kd F 5).toNat F r S).1 0 ((rsF (ro_k z) 16001 (kd F 5).toNat F r S).1 0 - 1)) a b (false, G, Lx) hU) (cwV 1 hts (kb_gi (kb_c kw_382 (kb_c kw_384 (kb_c ks_R_commonWithRaised (kb_c kw_2 (kb_c kw_385 kb_all)))))) rfl rfl rfl (by decide +kernel) ⟨Nat.le_trans (by decide) hR.1, Nat.le_trans (by decide) hR.2⟩) ⟨rc_blind, va_recv hK hP (ci := 1) (q0 := 0) rfl rfl, rc_pre hP hD hK hN [0, 2, 3, 5, 6] rfl rfl [0] rfl⟩ rfl rfl hl.1 rfl (lv_room (Nat.le_of_ble_eq_true rfl)) d_R_oneRoot_66 ⟨Nat.zero_le _, Nat.zero_le _⟩) hP hD hS [0, 2, 3, 5, 6] rfl (fun _ => rfl) (fun u8 H locs hw8 hP hD hS => ?_)
        have hP : va_P D vC [(h, rR fo cn wh pt rs sq on tw), (wh, ka cJ 5 Y), (pt, ka cJ 5 F), (rs, ka cJ 5 (va_up (rsF (ro_k z) 16001 (kd F 5).toNat F r S).1 0 (((rsF (ro_k z) 16001 (kd F 5).toNat F r S).1 0) - 1))), (sq, ka cJ 8 (rsF (ro_k z) 16001 (kd F 5).toNat F r S).2), (on, ka cJ 5 G), (tw, ka cJ 5 Lx)] H := hP
        have hD : va_D A [(h, rR fo cn wh pt rs sq on tw), (wh, ka cJ 5 Y), (pt, ka cJ 5 F), (rs, ka cJ 5 (va_up (rsF (ro_k z) 16001 (kd F 5).toNat F r S).1 0 (((rsF (ro_k z) 16001 (kd F 5).toNat F r S).1 0) - 1))), (sq, ka cJ 8 (rsF (ro_k z) 16001 (kd F 5).toNat F r S).2), (on, ka cJ 5 G), (tw, ka cJ 5 Lx)] := hD
        refine lv_astore_n (lv' := [(2, .ref on), (1, .int (iz z)), (0, .ref h)]) hx hb d_R_oneRoot_69 rfl hl (by decide) rfl (fun ls hl => ?_)
        refine lv_aload_n hx hb d_R_oneRoot_70 rfl (lv_at hl 0 rfl) ?_
        refine rc_calli (va_runSN (As := [.ref on]) (rest := []) ⟨hx, hb, hml, hown, hts⟩ (m_O_degree l D cJ on 5 G (by omega)) ⟨va_cnB 1 hts (kb_gi (kb_c kw_330 kb_all)) rfl rfl rfl hN.1 (hts _ kw_1) (by decide +kernel) ⟨Nat.le_trans (by decide) hR.1, Nat.le_trans (by decide) hR.2⟩, hts _ kw_329, trivial⟩ ⟨rc_blind, rc_pre hP hD hK hN [5] rfl rfl [0] rfl⟩ rfl rfl hl.1 rfl (lv_room (Nat.le_of_ble_eq_true rfl)) d_R_oneRoot_71 ⟨Nat.zero_le _, Nat.zero_le _⟩) hP hD hS [5] rfl (fun _ => rfl) (fun r9 u10 H locs hw10 hP hD hS => ?_)
        subst hw10
        have hP : va_P D vC [(h, rR fo cn wh pt rs sq on tw), (wh, ka cJ 5 Y), (pt, ka cJ 5 F), (rs, ka cJ 5 (va_up (rsF (ro_k z) 16001 (kd F 5).toNat F r S).1 0 (((rsF (ro_k z) 16001 (kd F 5).toNat F r S).1 0) - 1))), (sq, ka cJ 8 (rsF (ro_k z) 16001 (kd F 5).toNat F r S).2), (on, ka cJ 5 G), (tw, ka cJ 5 Lx)] H := hP
        have hD : va_D A [(h, rR fo cn wh pt rs sq on tw), (wh, ka cJ 5 Y), (pt, ka cJ 5 F), (rs, ka cJ 5 (va_up (rsF (ro_k z) 16001 (kd F 5).toNat F r S).1 0 (((rsF (ro_k z) 16001 (kd F 5).toNat F r S).1 0) - 1))), (sq, ka cJ 8 (rsF (ro_k z) 16001 (kd F 5).toNat F r S).2), (on, ka cJ 5 G), (tw, ka cJ 5 Lx)] := hD
        refine rz_if_le (tgt := 85) hx hb d_R_oneRoot_74 (by decide) (fun hc11 => ?_) (fun hc11 => ?_)
        · refine lv_iinc (v := iz (z + 1)) (lv' := [(1, .int (iz (z + 1))), (2, .ref on), (0, .ref h)]) hx hb d_R_oneRoot_85 hl (k := 1) rfl (iz_add _ _) (by decide) rfl (fun ls hl => ?_)
          refine lv_goto (tgt := 13) hx hb d_R_oneRoot_88 (by decide) ?_
          exact ih _ _ _ _ _ _ H locs ls (by omega) (by omega) (hs2 (by omega)) hP hD hS (lv_sub hl [0, 2] rfl)
        · refine lv_aload_n hx hb d_R_oneRoot_77 rfl (lv_at hl 0 rfl) ?_
          refine lv_aload_n hx hb d_R_oneRoot_78 rfl (lv_at hl 2 rfl) ?_
          refine va_get (D := D) (ci := 1) (v := .ref pt) (C := R_R) (T := T_R) (N := 8) hx hb hts in_R hown hK hP 0 rfl rfl 3 (by decide) (hts _ kw_33) (fun _ h9 => h9) rfl d_R_oneRoot_79 ?_
          refine rc_callv (va_runS (As := [.ref on, .ref pt]) (rest := []) ⟨hx, hb, hml, hown, hts⟩ (m_R_copy l D cJ on pt 5 G F (by omega)) (cwS 2 hts (kb_gi (kb_c kw_352 (kb_c kw_353 (kb_c kw_2 (kb_c kw_354 kb_all))))) rfl rfl rfl (by decide +kernel) ⟨Nat.le_trans (by decide) hR.1, Nat.le_trans (by decide) hR.2⟩) ⟨rc_blind, rc_pre hP hD hK hN [5, 2] rfl rfl [0] rfl⟩ rfl rfl hl.1 rfl (lv_room (Nat.le_of_ble_eq_true rfl)) d_R_oneRoot_82 ⟨Nat.zero_le _, Nat.zero_le _⟩) hP hD hS [5, 2] rfl (fun _ => rfl) (fun u12 H locs hw12 hP hD hS => ?_)
          have hP : va_P D vC [(h, rR fo cn wh pt rs sq on tw), (wh, ka cJ 5 Y), (pt, ka cJ 5 (va_cpy G F 0 0 5)), (rs, ka cJ 5 (va_up (rsF (ro_k z) 16001 (kd F 5).toNat F r S).1 0 (((rsF (ro_k z) 16001 (kd F 5).toNat F r S).1 0) - 1))), (sq, ka cJ 8 (rsF (ro_k z) 16001 (kd F 5).toNat F r S).2), (on, ka cJ 5 G), (tw, ka cJ 5 Lx)] H := hP
          have hD : va_D A [(h, rR fo cn wh pt rs sq on tw), (wh, ka cJ 5 Y), (pt, ka cJ 5 (va_cpy G F 0 0 5)), (rs, ka cJ 5 (va_up (rsF (ro_k z) 16001 (kd F 5).toNat F r S).1 0 (((rsF (ro_k z) 16001 (kd F 5).toNat F r S).1 0) - 1))), (sq, ka cJ 8 (rsF (ro_k z) 16001 (kd F 5).toNat F r S).2), (on, ka cJ 5 G), (tw, ka cJ 5 Lx)] := hD
          refine lv_iinc (v := iz (z + 1)) (lv' := [(1, .int (iz (z + 1))), (2, .ref on), (0, .ref h)]) hx hb d_R_oneRoot_85 hl (k := 1) rfl (iz_add _ _) (by decide) rfl (fun ls hl => ?_)
          refine lv_goto (tgt := 13) hx hb d_R_oneRoot_88 (by decide) ?_
          exact ih _ _ _ _ _ _ H locs ls (by omega) (by omega) (hs1 (by omega)) hP hD hS (lv_sub hl [0, 2] rfl)
      | true =>
        refine rc_callr (va_runV (As := [.ref pt]) (rest := []) ⟨hx, hb, hml, hown, hts⟩ (m_R_commonWithRaised l D cJ h fo wh pt rs sq on tw cn pt F (va_up (rsF (ro_k z) 16001 (kd F 5).toNat F r S).1 0 ((rsF (ro_k z) 16001 (kd F 5).toNat F r S).1 0 - 1)) a b (true, G, Lx) hU) (cwV 1 hts (kb_gi (kb_c kw_382 (kb_c kw_384 (kb_c ks_R_commonWithRaised (kb_c kw_2 (kb_c kw_385 kb_all)))))) rfl rfl rfl (by decide +kernel) ⟨Nat.le_trans (by decide) hR.1, Nat.le_trans (by decide) hR.2⟩) ⟨rc_blind, va_recv hK hP (ci := 1) (q0 := 0) rfl rfl, rc_pre hP hD hK hN [0, 2, 3, 5, 6] rfl rfl [0] rfl⟩ rfl rfl hl.1 rfl (lv_room (Nat.le_of_ble_eq_true rfl)) d_R_oneRoot_66 ⟨Nat.zero_le _, Nat.zero_le _⟩) hP hD hS [0, 2, 3, 5, 6] rfl (fun _ => rfl) (fun u13 H locs hw13 hP hD hS => ?_)
        have hP : va_P D vC [(h, rR fo cn wh pt rs sq on tw), (wh, ka cJ 5 Y), (pt, ka cJ 5 F), (rs, ka cJ 5 (va_up (rsF (ro_k z) 16001 (kd F 5).toNat F r S).1 0 (((rsF (ro_k z) 16001 (kd F 5).toNat F r S).1 0) - 1))), (sq, ka cJ 8 (rsF (ro_k z) 16001 (kd F 5).toNat F r S).2), (on, ka cJ 5 Lx), (tw, ka cJ 5 G)] H := hP
        have hD : va_D A [(h, rR fo cn wh pt rs sq on tw), (wh, ka cJ 5 Y), (pt, ka cJ 5 F), (rs, ka cJ 5 (va_up (rsF (ro_k z) 16001 (kd F 5).toNat F r S).1 0 (((rsF (ro_k z) 16001 (kd F 5).toNat F r S).1 0) - 1))), (sq, ka cJ 8 (rsF (ro_k z) 16001 (kd F 5).toNat F r S).2), (on, ka cJ 5 Lx), (tw, ka cJ 5 G)] := hD
        refine lv_astore_n (lv' := [(2, .ref tw), (1, .int (iz z)), (0, .ref h)]) hx hb d_R_oneRoot_69 rfl hl (by decide) rfl (fun ls hl => ?_)
        refine lv_aload_n hx hb d_R_oneRoot_70 rfl (lv_at hl 0 rfl) ?_
        refine rc_calli (va_runSN (As := [.ref tw]) (rest := []) ⟨hx, hb, hml, hown, hts⟩ (m_O_degree l D cJ tw 5 G (by omega)) ⟨va_cnB 1 hts (kb_gi (kb_c kw_330 kb_all)) rfl rfl rfl hN.1 (hts _ kw_1) (by decide +kernel) ⟨Nat.le_trans (by decide) hR.1, Nat.le_trans (by decide) hR.2⟩, hts _ kw_329, trivial⟩ ⟨rc_blind, rc_pre hP hD hK hN [6] rfl rfl [0] rfl⟩ rfl rfl hl.1 rfl (lv_room (Nat.le_of_ble_eq_true rfl)) d_R_oneRoot_71 ⟨Nat.zero_le _, Nat.zero_le _⟩) hP hD hS [6] rfl (fun _ => rfl) (fun r14 u15 H locs hw15 hP hD hS => ?_)
        subst hw15
        have hP : va_P D vC [(h, rR fo cn wh pt rs sq on tw), (wh, ka cJ 5 Y), (pt, ka cJ 5 F), (rs, ka cJ 5 (va_up (rsF (ro_k z) 16001 (kd F 5).toNat F r S).1 0 (((rsF (ro_k z) 16001 (kd F 5).toNat F r S).1 0) - 1))), (sq, ka cJ 8 (rsF (ro_k z) 16001 (kd F 5).toNat F r S).2), (on, ka cJ 5 Lx), (tw, ka cJ 5 G)] H := hP
        have hD : va_D A [(h, rR fo cn wh pt rs sq on tw), (wh, ka cJ 5 Y), (pt, ka cJ 5 F), (rs, ka cJ 5 (va_up (rsF (ro_k z) 16001 (kd F 5).toNat F r S).1 0 (((rsF (ro_k z) 16001 (kd F 5).toNat F r S).1 0) - 1))), (sq, ka cJ 8 (rsF (ro_k z) 16001 (kd F 5).toNat F r S).2), (on, ka cJ 5 Lx), (tw, ka cJ 5 G)] := hD
        refine rz_if_le (tgt := 85) hx hb d_R_oneRoot_74 (by decide) (fun hc16 => ?_) (fun hc16 => ?_)
        · refine lv_iinc (v := iz (z + 1)) (lv' := [(1, .int (iz (z + 1))), (2, .ref tw), (0, .ref h)]) hx hb d_R_oneRoot_85 hl (k := 1) rfl (iz_add _ _) (by decide) rfl (fun ls hl => ?_)
          refine lv_goto (tgt := 13) hx hb d_R_oneRoot_88 (by decide) ?_
          exact ih _ _ _ _ _ _ H locs ls (by omega) (by omega) (hs2 (by omega)) hP hD hS (lv_sub hl [0, 2] rfl)
        · refine lv_aload_n hx hb d_R_oneRoot_77 rfl (lv_at hl 0 rfl) ?_
          refine lv_aload_n hx hb d_R_oneRoot_78 rfl (lv_at hl 2 rfl) ?_
          refine va_get (D := D) (ci := 1) (v := .ref pt) (C := R_R) (T := T_R) (N := 8) hx hb hts in_R hown hK hP 0 rfl rfl 3 (by decide) (hts _ kw_33) (fun _ h9 => h9) rfl d_R_oneRoot_79 ?_
          refine rc_callv (va_runS (As := [.ref tw, .ref pt]) (rest := []) ⟨hx, hb, hml, hown, hts⟩ (m_R_copy l D cJ tw pt 5 G F (by omega)) (cwS 2 hts (kb_gi (kb_c kw_352 (kb_c kw_353 (kb_c kw_2 (kb_c kw_354 kb_all))))) rfl rfl rfl (by decide +kernel) ⟨Nat.le_trans (by decide) hR.1, Nat.le_trans (by decide) hR.2⟩) ⟨rc_blind, rc_pre hP hD hK hN [6, 2] rfl rfl [0] rfl⟩ rfl rfl hl.1 rfl (lv_room (Nat.le_of_ble_eq_true rfl)) d_R_oneRoot_82 ⟨Nat.zero_le _, Nat.zero_le _⟩) hP hD hS [6, 2] rfl (fun _ => rfl) (fun u17 H locs hw17 hP hD hS => ?_)
          have hP : va_P D vC [(h, rR fo cn wh pt rs sq on tw), (wh, ka cJ 5 Y), (pt, ka cJ 5 (va_cpy G F 0 0 5)), (rs, ka cJ 5 (va_up (rsF (ro_k z) 16001 (kd F 5).toNat F r S).1 0 (((rsF (ro_k z) 16001 (kd F 5).toNat F r S).1 0) - 1))), (sq, ka cJ 8 (rsF (ro_k z) 16001 (kd F 5).toNat F r S).2), (on, ka cJ 5 Lx), (tw, ka cJ 5 G)] H := hP
          have hD : va_D A [(h, rR fo cn wh pt rs sq on tw), (wh, ka cJ 5 Y), (pt, ka cJ 5 (va_cpy G F 0 0 5)), (rs, ka cJ 5 (va_up (rsF (ro_k z) 16001 (kd F 5).toNat F r S).1 0 (((rsF (ro_k z) 16001 (kd F 5).toNat F r S).1 0) - 1))), (sq, ka cJ 8 (rsF (ro_k z) 16001 (kd F 5).toNat F r S).2), (on, ka cJ 5 Lx), (tw, ka cJ 5 G)] := hD
          refine lv_iinc (v := iz (z + 1)) (lv' := [(1, .int (iz (z + 1))), (2, .ref tw), (0, .ref h)]) hx hb d_R_oneRoot_85 hl (k := 1) rfl (iz_add _ _) (by decide) rfl (fun ls hl => ?_)
          refine lv_goto (tgt := 13) hx hb d_R_oneRoot_88 (by decide) ?_
          exact ih _ _ _ _ _ _ H locs ls (by omega) (by omega) (hs1 (by omega)) hP hD hS (lv_sub hl [0, 2] rfl)
def ws_R_oneRoot : List Cond := .code y_R_oneRoot c_R_oneRoot 3 (some .long) :: kb
set_option maxHeartbeats 4000000 in
set_option maxRecDepth 100000 in
/-- one root -/
theorem m_R_oneRoot (l : Launch) (D : va_G) (cJ : ClassId) (h fo wh pt rs sq on tw : Nat) (cn : Int) (Y F r S a b : Nat → ro_K) (M : List ro_K) (hM : M.Nodup) (hM0 : M ≠ []) (hM4 : M.length ≤ 4) (hY : ∀ i, i < 5 → Y i = ro_pl M i) : Met l y_R_oneRoot ws_R_oneRoot ({ frames := 3, cells := 0, slots := 0, locals := 87 }) (rc_Pc D vC [(cJ, .long)] [.ref h] [(h, rR fo cn wh pt rs sq on tw), (wh, ka cJ 5 Y), (pt, ka cJ 5 F), (rs, ka cJ 5 r), (sq, ka cJ 8 S), (on, ka cJ 5 a), (tw, ka cJ 5 b)]) (va_Ql (fun (q : Int64) (_ : rS5) => ∃ x ∈ M, q = lk x) (fun u t => va_P D vC [(h, rR fo cn wh pt rs sq on tw), (wh, ka cJ 5 Y), (pt, ka cJ 5 u.1), (rs, ka cJ 5 u.2.1), (sq, ka cJ 8 u.2.2.1), (on, ka cJ 5 u.2.2.2.1), (tw, ka cJ 5 u.2.2.2.2)] t.heap) (rc_A [(h, rR fo cn wh pt rs sq on tw), (wh, ka cJ 5 Y), (pt, ka cJ 5 F), (rs, ka cJ 5 r), (sq, ka cJ 8 S), (on, ka cJ 5 a), (tw, ka cJ 5 b)])) 0 0 (rc_A [(h, rR fo cn wh pt rs sq on tw), (wh, ka cJ 5 Y), (pt, ka cJ 5 F), (rs, ka cJ 5 r), (sq, ka cJ 8 S), (on, ka cJ 5 a), (tw, ka cJ 5 b)]) := by
  refine Met.ofW (cc := c_R_oneRoot) (maxL := 3) (ret := (some .long)) (by decide) rfl ?_
  intro p e s m args below meth c s₁ B hml hv
  obtain ⟨rfl, hP, hK, hD0, hN⟩ := hv
  have hx := B.exec
  have hb := B.bytes
  have hr := B.returns
  have hts0 := atoms_spec (ws := ws_R_oneRoot) B.pre
  have hts : ∀ w ∈ kb, w.before _ s = true := fun w h => hts0 w (List.mem_cons_of_mem _ h)
  have hown : s.vm.findClass R_R = some m.cls := findClass_of_methodNamed B.named
  have hlocks := B.notSynchronized
  have hD := rc_self hD0
  generalize hAe : rc_A [(h, rR fo cn wh pt rs sq on tw), (wh, ka cJ 5 Y), (pt, ka cJ 5 F), (rs, ka cJ 5 r), (sq, ka cJ 8 S), (on, ka cJ 5 a), (tw, ka cJ 5 b)] = A at hD ⊢
  have hS : va_S A s.heap s.heap [] := va_S.rf
  have hl := lv_entry ([.ref h]) (n := 3) (Nat.le_of_ble_eq_true rfl)
  rw [lg_entry_eq]
  generalize (lg_sl ([.ref h]) ++ List.replicate (3 - (lg_sl ([.ref h])).length) Slot.unset).toArray = ls at hl ⊢

  have hl : lv_has ls 3 [(0, .ref h)] := hl
  have hp0 : prt M (va_cpy Y F 0 0 5) 0 := ⟨M, hM, hM0, hM4, fun _ h => h, fun i hi => by rw [cpy5 Y F hi]; exact hY i hi, fun y y0 y1 => absurd y1 (by omega)⟩
  refine lv_aload_n hx hb d_R_oneRoot_0 rfl (lv_at hl 0 rfl) ?_
  refine va_get (D := D) (ci := 1) (v := .ref wh) (C := R_R) (T := T_R) (N := 8) hx hb hts in_R hown hK hP 0 rfl rfl 2 (by decide) (hts _ kw_32) (fun _ h9 => h9) rfl d_R_oneRoot_1 ?_
  refine lv_aload_n hx hb d_R_oneRoot_4 rfl (lv_at hl 0 rfl) ?_
  refine va_get (D := D) (ci := 1) (v := .ref pt) (C := R_R) (T := T_R) (N := 8) hx hb hts in_R hown hK hP 0 rfl rfl 3 (by decide) (hts _ kw_33) (fun _ h9 => h9) rfl d_R_oneRoot_5 ?_
  refine rc_callv (va_runS (As := [.ref wh, .ref pt]) (rest := []) ⟨hx, hb, hml, hown, hts⟩ (m_R_copy l D cJ wh pt 5 Y F (by omega)) (cwS 2 hts (kb_gi (kb_c kw_352 (kb_c kw_353 (kb_c kw_2 (kb_c kw_354 kb_all))))) rfl rfl rfl (by decide +kernel) ⟨Nat.le_of_ble_eq_true rfl, Nat.le_of_ble_eq_true rfl⟩) ⟨rc_blind, rc_pre hP hD hK hN [1, 2] rfl rfl [0] rfl⟩ rfl rfl hl.1 rfl (lv_room (Nat.le_of_ble_eq_true rfl)) d_R_oneRoot_8 ⟨Nat.zero_le _, Nat.zero_le _⟩) hP hD hS [1, 2] rfl (fun _ => rfl) (fun u1 H locs hw1 hP hD hS => ?_)
  have hP : va_P D vC [(h, rR fo cn wh pt rs sq on tw), (wh, ka cJ 5 Y), (pt, ka cJ 5 (va_cpy Y F 0 0 5)), (rs, ka cJ 5 r), (sq, ka cJ 8 S), (on, ka cJ 5 a), (tw, ka cJ 5 b)] H := hP
  have hD : va_D A [(h, rR fo cn wh pt rs sq on tw), (wh, ka cJ 5 Y), (pt, ka cJ 5 (va_cpy Y F 0 0 5)), (rs, ka cJ 5 r), (sq, ka cJ 8 S), (on, ka cJ 5 a), (tw, ka cJ 5 b)] := hD
  refine rz_iconst hx hb d_R_oneRoot_11 ?_
  refine lv_istore_n (lv' := [(1, .int (iz 0)), (0, .ref h)]) hx hb d_R_oneRoot_12 rfl hl (by decide) rfl (fun ls hl => ?_)
  refine lo_R_oneRoot (M := M) hx hb hml hown hts hK hN ⟨Nat.le_of_ble_eq_true rfl, Nat.le_of_ble_eq_true rfl⟩ (fun F r S a b H locs ls hx0 hP hD hS hl => ?_) 32003 _ _ _ _ _ _ H locs ls (by omega) (by omega) hp0 hP hD hS (lv_sub hl [0, 1] rfl)
  obtain ⟨x, hxM, hx0⟩ := hx0
  refine lv_aload_n hx hb d_R_oneRoot_91 rfl (lv_at hl 0 rfl) ?_
  refine va_get (D := D) (ci := 1) (v := .ref pt) (C := R_R) (T := T_R) (N := 8) hx hb hts in_R hown hK hP 0 rfl rfl 3 (by decide) (hts _ kw_33) (fun _ h9 => h9) rfl d_R_oneRoot_92 ?_
  refine rz_iconst hx hb d_R_oneRoot_95 ?_
  refine rk_ld hx hb hK hP 2 0 rfl rfl 0 d_R_oneRoot_96 ?_
  refine rlq_lneg hx hb (lq_of (lk_p (F 0)) (by decide)) d_R_oneRoot_97 (fun v2 hv2 => ?_)
  refine rc_calll (va_runSN (As := [.long v2]) (rest := []) ⟨hx, hb, hml, hown, hts⟩ (m_O_number l D v2) ⟨va_cnB 1 hts (kb_gi (kb_c kw_125 kb_all)) rfl rfl rfl hN.2.2.1 (hts _ kw_1) (by decide +kernel) ⟨Nat.le_of_ble_eq_true rfl, Nat.le_of_ble_eq_true rfl⟩, hts _ kw_124, trivial⟩ ⟨rc_blind, rc_pre hP hD hK hN [] rfl rfl [] rfl⟩ rfl rfl hl.1 rfl (lv_room (Nat.le_of_ble_eq_true rfl)) d_R_oneRoot_98 ⟨Nat.zero_le _, Nat.zero_le _⟩) hP hD hS [] rfl (fun _ => rfl) (fun r3 u4 H locs hw4 hP hD hS => ?_)
  rw [hv2.2.2] at hw4
  subst hw4
  have hP : va_P D vC [(h, rR fo cn wh pt rs sq on tw), (wh, ka cJ 5 Y), (pt, ka cJ 5 F), (rs, ka cJ 5 r), (sq, ka cJ 8 S), (on, ka cJ 5 a), (tw, ka cJ 5 b)] H := hP
  have hD : va_D A [(h, rR fo cn wh pt rs sq on tw), (wh, ka cJ 5 Y), (pt, ka cJ 5 F), (rs, ka cJ 5 r), (sq, ka cJ 8 S), (on, ka cJ 5 a), (tw, ka cJ 5 b)] := hD
  exact W.lret hx hb hr (fun t ht hW => ⟨⟨_, (F, r, S, a, b), rfl, ⟨x, hxM, by rw [hx0]; congr 1; grind⟩, rc_out ht hP⟩, hS.F ht⟩) hS.2.2 d_R_oneRoot_101
end WK
