section WK
variable {p : Program} {l : Launch} {e : Env} {R : Room} {s : State} {m : MethodId} {args : Array Value} {below : List Frame} {meth : Method} {c : Code} {H : Heap} {locs : List Loc} {cells slots : Nat} {Q : State → Prop} {D : va_G} {A : Nat → Prop} {H0 : Heap}
theorem kw_9 : (Jvm.Cond.initialized "java/lang/IndexOutOfBoundsException") ∈ kb := kb_t (List.mem_of_getElem? (i := 9) (by decide +kernel)) rfl
theorem kw_10 : (Jvm.Cond.initialized "java/lang/IllegalStateException") ∈ kb := kb_t (List.mem_of_getElem? (i := 10) (by decide +kernel)) rfl
theorem kw_13 : (Jvm.Cond.initialized "java/lang/ArithmeticException") ∈ kb := kb_t (List.mem_of_getElem? (i := 13) (by decide +kernel)) rfl
theorem kw_226 : (Jvm.Cond.classLink "RationalOdes" (81 : Nat) "java/lang/IndexOutOfBoundsException") ∈ kb := kb_t (List.mem_of_getElem? (i := 226) (by decide +kernel)) rfl
theorem kw_331 : (Jvm.Cond.classLink "RationalOdes" (162 : Nat) "java/lang/IllegalStateException") ∈ kb := kb_t (List.mem_of_getElem? (i := 331) (by decide +kernel)) rfl
theorem kw_503 : (Jvm.Cond.classLink "RationalOdes" (132 : Nat) "java/lang/ArithmeticException") ∈ kb := kb_t (List.mem_of_getElem? (i := 503) (by decide +kernel)) rfl
set_option maxHeartbeats 4000000 in
set_option maxRecDepth 100000 in
theorem x_O_needFactorPower (l : Launch) (D : va_G) (hst : l.stackTraces = false) (sa : Nat → Nat) (cJ cO : ClassId) (h fa ot ah te id rt bs : Nat) (od kn : Int) (zi zp : Int) (o : Nat) (hod : od = (o : Int)) (ho3 : o ≤ 3) (hzil : -2147483648 ≤ zi) (hzih : zi < 2147483648) (hzpl : -2147483648 ≤ zp) (hzph : zp < 2147483648) (hbad : ¬ (0 ≤ zi ∧ zi ≤ od ∧ 0 ≤ zp ∧ zp < 5)) : vx_Met l y_O_needFactorPower ws_O_needFactorPower ({ frames := 6, cells := 1, slots := 6, locals := 100 }) (rx_Px D vC [] [.ref h, .int (iz zi), .int (iz zp)] [(h, rO od fa ot ah te id rt bs kn)] sa) (va_Qv (fun (_ : Unit) => False) (fun _ _ => True) (rc_A [(h, rO od fa ot ah te id rt bs kn)])) (vx_X (fun (_ : Unit) => True) (fun E9 _ t => E9 = xI ∧ va_P D vC [(h, rO od fa ot ah te id rt bs kn)] t.heap) (rc_A [(h, rO od fa ot ah te id rt bs kn)])) 1 6 (rc_A [(h, rO od fa ot ah te id rt bs kn)]) := by
  refine vx_ofW (cc := c_O_needFactorPower) (maxL := 3) (ret := none) (by decide) rfl ?_
  intro p e s m args below meth c s₁ B hml ht hv
  obtain ⟨⟨rfl, hP, hK, hD0, hN⟩, hE⟩ := hv
  have hx := B.exec
  have hb := B.bytes
  have hts0 := atoms_spec (ws := ws_O_needFactorPower) B.pre
  have hts : ∀ w ∈ kb, w.before _ s = true := fun w h => hts0 w (List.mem_cons_of_mem _ h)
  have hown : s.vm.findClass R_O = some m.cls := findClass_of_methodNamed B.named
  have hlocks := B.notSynchronized
  have hD := rc_self hD0
  generalize hAe : rc_A [(h, rO od fa ot ah te id rt bs kn)] = A at hD hE ⊢
  have hS : va_S A s.heap s.heap [] := va_S.rf
  have hl := lv_entry ([.ref h, .int (iz zi), .int (iz zp)]) (n := 3) (Nat.le_of_ble_eq_true rfl)
  rw [lg_entry_eq]
  generalize (lg_sl ([.ref h, .int (iz zi), .int (iz zp)]) ++ List.replicate (3 - (lg_sl ([.ref h, .int (iz zi), .int (iz zp)])).length) Slot.unset).toArray = ls at hl ⊢
  have hl : lv_has ls 3 [(0, .ref h), (1, .int (iz zi)), (2, .int (iz zp))] := hl
  refine lv_iload_n hx hb d_O_needFactorPower_0 rfl (lv_at hl 1 rfl) ?_
  refine rz_if_lt (tgt := 21) hx hb d_O_needFactorPower_1 (by decide) (fun hc1 => ?_) (fun hc1 => ?_)
  · exact vx_throwS hx hb hst (own := "RationalOdes") (cls := xI) (text := "no such factor or power in it") (names := xN) (ik := 81) (is := 152) (ic := 85) (sa := sa 0) hown (by decide +kernel) (by decide +kernel) (hts _ kw_226) (hts _ kw_9) hE.2.1.1 (xh_I hts hE.1) xo_I hE.2.2.1 hE.2.2.2 hS (by rw [hml]; exact hl.1) d_O_needFactorPower_21 d_O_needFactorPower_24 d_O_needFactorPower_25 d_O_needFactorPower_27 d_O_needFactorPower_30 (fun x h9 => (ht x h9).elim) (Nat.le_of_ble_eq_true rfl) (Nat.le_of_ble_eq_true rfl) (Nat.le_of_ble_eq_true rfl) (Nat.le_of_ble_eq_true rfl) hlocks (fun t _ h1 h2 => ⟨(), trivial, ⟨rfl, (rx_keep hP hS h1 h2).1⟩, (rx_keep hP hS h1 h2).2⟩) hS.2.2 (Nat.le_of_ble_eq_true rfl) (Nat.le_of_ble_eq_true rfl)
  · refine lv_iload_n hx hb d_O_needFactorPower_4 rfl (lv_at hl 1 rfl) ?_
    refine lv_aload_n hx hb d_O_needFactorPower_5 rfl (lv_at hl 0 rfl) ?_
    refine va_get (D := D) (ci := 2) (v := .int (iz od)) (C := R_O) (T := T_O) (N := 9) hx hb hts in_O hown hK hP 0 rfl rfl 0 (by decide) (hts _ kw_83) (fun _ h9 => h9) rfl d_O_needFactorPower_6 ?_
    refine rz_icmp_gt (tgt := 21) hx hb d_O_needFactorPower_9 (by decide) (fun hc2 => ?_) (fun hc2 => ?_)
    · exact vx_throwS hx hb hst (own := "RationalOdes") (cls := xI) (text := "no such factor or power in it") (names := xN) (ik := 81) (is := 152) (ic := 85) (sa := sa 0) hown (by decide +kernel) (by decide +kernel) (hts _ kw_226) (hts _ kw_9) hE.2.1.1 (xh_I hts hE.1) xo_I hE.2.2.1 hE.2.2.2 hS (by rw [hml]; exact hl.1) d_O_needFactorPower_21 d_O_needFactorPower_24 d_O_needFactorPower_25 d_O_needFactorPower_27 d_O_needFactorPower_30 (fun x h9 => (ht x h9).elim) (Nat.le_of_ble_eq_true rfl) (Nat.le_of_ble_eq_true rfl) (Nat.le_of_ble_eq_true rfl) (Nat.le_of_ble_eq_true rfl) hlocks (fun t _ h1 h2 => ⟨(), trivial, ⟨rfl, (rx_keep hP hS h1 h2).1⟩, (rx_keep hP hS h1 h2).2⟩) hS.2.2 (Nat.le_of_ble_eq_true rfl) (Nat.le_of_ble_eq_true rfl)
    · refine lv_iload_n hx hb d_O_needFactorPower_12 rfl (lv_at hl 2 rfl) ?_
      refine rz_if_lt (tgt := 21) hx hb d_O_needFactorPower_13 (by decide) (fun hc3 => ?_) (fun hc3 => ?_)
      · exact vx_throwS hx hb hst (own := "RationalOdes") (cls := xI) (text := "no such factor or power in it") (names := xN) (ik := 81) (is := 152) (ic := 85) (sa := sa 0) hown (by decide +kernel) (by decide +kernel) (hts _ kw_226) (hts _ kw_9) hE.2.1.1 (xh_I hts hE.1) xo_I hE.2.2.1 hE.2.2.2 hS (by rw [hml]; exact hl.1) d_O_needFactorPower_21 d_O_needFactorPower_24 d_O_needFactorPower_25 d_O_needFactorPower_27 d_O_needFactorPower_30 (fun x h9 => (ht x h9).elim) (Nat.le_of_ble_eq_true rfl) (Nat.le_of_ble_eq_true rfl) (Nat.le_of_ble_eq_true rfl) (Nat.le_of_ble_eq_true rfl) hlocks (fun t _ h1 h2 => ⟨(), trivial, ⟨rfl, (rx_keep hP hS h1 h2).1⟩, (rx_keep hP hS h1 h2).2⟩) hS.2.2 (Nat.le_of_ble_eq_true rfl) (Nat.le_of_ble_eq_true rfl)
      · refine lv_iload_n hx hb d_O_needFactorPower_16 rfl (lv_at hl 2 rfl) ?_
        refine rz_iconst hx hb d_O_needFactorPower_17 ?_
        refine rz_icmp_lt (tgt := 31) hx hb d_O_needFactorPower_18 (by decide) (fun hc4 => ?_) (fun hc4 => ?_)
        · omega
        · exact vx_throwS hx hb hst (own := "RationalOdes") (cls := xI) (text := "no such factor or power in it") (names := xN) (ik := 81) (is := 152) (ic := 85) (sa := sa 0) hown (by decide +kernel) (by decide +kernel) (hts _ kw_226) (hts _ kw_9) hE.2.1.1 (xh_I hts hE.1) xo_I hE.2.2.1 hE.2.2.2 hS (by rw [hml]; exact hl.1) d_O_needFactorPower_21 d_O_needFactorPower_24 d_O_needFactorPower_25 d_O_needFactorPower_27 d_O_needFactorPower_30 (fun x h9 => (ht x h9).elim) (Nat.le_of_ble_eq_true rfl) (Nat.le_of_ble_eq_true rfl) (Nat.le_of_ble_eq_true rfl) (Nat.le_of_ble_eq_true rfl) hlocks (fun t _ h1 h2 => ⟨(), trivial, ⟨rfl, (rx_keep hP hS h1 h2).1⟩, (rx_keep hP hS h1 h2).2⟩) hS.2.2 (Nat.le_of_ble_eq_true rfl) (Nat.le_of_ble_eq_true rfl)
set_option maxHeartbeats 4000000 in
set_option maxRecDepth 100000 in
theorem x_O_needHandPower (l : Launch) (D : va_G) (hst : l.stackTraces = false) (sa : Nat → Nat) (cJ cO : ClassId) (h fa ot ah te id rt bs : Nat) (od kn : Int) (zp : Int) (hzpl : -2147483648 ≤ zp) (hzph : zp < 2147483648) (hbad : ¬ (0 ≤ zp ∧ zp < 13)) : vx_Met l y_O_needHandPower ws_O_needHandPower ({ frames := 6, cells := 1, slots := 6, locals := 100 }) (rx_Px D vC [] [.ref h, .int (iz zp)] [(h, rO od fa ot ah te id rt bs kn)] sa) (va_Qv (fun (_ : Unit) => False) (fun _ _ => True) (rc_A [(h, rO od fa ot ah te id rt bs kn)])) (vx_X (fun (_ : Unit) => True) (fun E9 _ t => E9 = xI ∧ va_P D vC [(h, rO od fa ot ah te id rt bs kn)] t.heap) (rc_A [(h, rO od fa ot ah te id rt bs kn)])) 1 6 (rc_A [(h, rO od fa ot ah te id rt bs kn)]) := by
  refine vx_ofW (cc := c_O_needHandPower) (maxL := 2) (ret := none) (by decide) rfl ?_
  intro p e s m args below meth c s₁ B hml ht hv
  obtain ⟨⟨rfl, hP, hK, hD0, hN⟩, hE⟩ := hv
  have hx := B.exec
  have hb := B.bytes
  have hts0 := atoms_spec (ws := ws_O_needHandPower) B.pre
  have hts : ∀ w ∈ kb, w.before _ s = true := fun w h => hts0 w (List.mem_cons_of_mem _ h)
  have hown : s.vm.findClass R_O = some m.cls := findClass_of_methodNamed B.named
  have hlocks := B.notSynchronized
  have hD := rc_self hD0
  generalize hAe : rc_A [(h, rO od fa ot ah te id rt bs kn)] = A at hD hE ⊢
  have hS : va_S A s.heap s.heap [] := va_S.rf
  have hl := lv_entry ([.ref h, .int (iz zp)]) (n := 2) (Nat.le_of_ble_eq_true rfl)
  rw [lg_entry_eq]
  generalize (lg_sl ([.ref h, .int (iz zp)]) ++ List.replicate (2 - (lg_sl ([.ref h, .int (iz zp)])).length) Slot.unset).toArray = ls at hl ⊢
  have hl : lv_has ls 2 [(0, .ref h), (1, .int (iz zp))] := hl
  refine lv_iload_n hx hb d_O_needHandPower_0 rfl (lv_at hl 1 rfl) ?_
  refine rz_if_lt (tgt := 10) hx hb d_O_needHandPower_1 (by decide) (fun hc1 => ?_) (fun hc1 => ?_)
  · exact vx_throwS hx hb hst (own := "RationalOdes") (cls := xI) (text := "no such power") (names := xN) (ik := 81) (is := 154) (ic := 85) (sa := sa 1) hown (by decide +kernel) (by decide +kernel) (hts _ kw_226) (hts _ kw_9) hE.2.1.2.1 (xh_I hts hE.1) xo_I hE.2.2.1 hE.2.2.2 hS (by rw [hml]; exact hl.1) d_O_needHandPower_10 d_O_needHandPower_13 d_O_needHandPower_14 d_O_needHandPower_16 d_O_needHandPower_19 (fun x h9 => (ht x h9).elim) (Nat.le_of_ble_eq_true rfl) (Nat.le_of_ble_eq_true rfl) (Nat.le_of_ble_eq_true rfl) (Nat.le_of_ble_eq_true rfl) hlocks (fun t _ h1 h2 => ⟨(), trivial, ⟨rfl, (rx_keep hP hS h1 h2).1⟩, (rx_keep hP hS h1 h2).2⟩) hS.2.2 (Nat.le_of_ble_eq_true rfl) (Nat.le_of_ble_eq_true rfl)
  · refine lv_iload_n hx hb d_O_needHandPower_4 rfl (lv_at hl 1 rfl) ?_
    refine rz_bipush hx hb d_O_needHandPower_5 (by decide) ?_
    refine rz_icmp_lt (tgt := 20) hx hb d_O_needHandPower_7 (by decide) (fun hc2 => ?_) (fun hc2 => ?_)
    · omega
    · exact vx_throwS hx hb hst (own := "RationalOdes") (cls := xI) (text := "no such power") (names := xN) (ik := 81) (is := 154) (ic := 85) (sa := sa 1) hown (by decide +kernel) (by decide +kernel) (hts _ kw_226) (hts _ kw_9) hE.2.1.2.1 (xh_I hts hE.1) xo_I hE.2.2.1 hE.2.2.2 hS (by rw [hml]; exact hl.1) d_O_needHandPower_10 d_O_needHandPower_13 d_O_needHandPower_14 d_O_needHandPower_16 d_O_needHandPower_19 (fun x h9 => (ht x h9).elim) (Nat.le_of_ble_eq_true rfl) (Nat.le_of_ble_eq_true rfl) (Nat.le_of_ble_eq_true rfl) (Nat.le_of_ble_eq_true rfl) hlocks (fun t _ h1 h2 => ⟨(), trivial, ⟨rfl, (rx_keep hP hS h1 h2).1⟩, (rx_keep hP hS h1 h2).2⟩) hS.2.2 (Nat.le_of_ble_eq_true rfl) (Nat.le_of_ble_eq_true rfl)
set_option maxHeartbeats 4000000 in
set_option maxRecDepth 100000 in
theorem x_O_findPlaces (l : Launch) (D : va_G) (hst : l.stackTraces = false) (sa : Nat → Nat) (cJ cO : ClassId) (h fa ot ah te id rt bs : Nat) (od kn : Int) (fo wh pt rs sq on tw : Nat) (cn : Int) (Fo Y P r S a1 b1 : Nat → ro_K) (fr : Nat → Nat) (F : Nat → Nat → ro_K) (o : Nat) (hod : od = (o : Int)) (ho3 : o ≤ 3) (hz0 : kd (F o) 5 < 0) : vx_Met l y_O_findPlaces ws_O_findPlaces ({ frames := 6, cells := 1, slots := 6, locals := 100 }) (rx_Px D vC [(cJ, .long), (cO, .array .long)] [.ref h] ([(h, rO od fa ot ah te id rt bs kn), (fa, go cO 4 fr), (rt, rR fo cn wh pt rs sq on tw), (fo, ka cJ 4 Fo), (wh, ka cJ 5 Y), (pt, ka cJ 5 P), (rs, ka cJ 5 r), (sq, ka cJ 8 S), (on, ka cJ 5 a1), (tw, ka cJ 5 b1)] ++ gs 4 fr cJ 5 F) sa) (va_Qv (fun (_ : Unit) => False) (fun _ _ => True) (rc_A ([(h, rO od fa ot ah te id rt bs kn), (fa, go cO 4 fr), (rt, rR fo cn wh pt rs sq on tw), (fo, ka cJ 4 Fo), (wh, ka cJ 5 Y), (pt, ka cJ 5 P), (rs, ka cJ 5 r), (sq, ka cJ 8 S), (on, ka cJ 5 a1), (tw, ka cJ 5 b1)] ++ gs 4 fr cJ 5 F))) (vx_X (fun (_ : Unit) => True) (fun E9 _ t => E9 = xS ∧ va_P D vC ([(h, rO od fa ot ah te id rt bs kn), (fa, go cO 4 fr), (rt, rR fo cn wh pt rs sq on tw), (fo, ka cJ 4 Fo), (wh, ka cJ 5 Y), (pt, ka cJ 5 P), (rs, ka cJ 5 r), (sq, ka cJ 8 S), (on, ka cJ 5 a1), (tw, ka cJ 5 b1)] ++ gs 4 fr cJ 5 F) t.heap) (rc_A ([(h, rO od fa ot ah te id rt bs kn), (fa, go cO 4 fr), (rt, rR fo cn wh pt rs sq on tw), (fo, ka cJ 4 Fo), (wh, ka cJ 5 Y), (pt, ka cJ 5 P), (rs, ka cJ 5 r), (sq, ka cJ 8 S), (on, ka cJ 5 a1), (tw, ka cJ 5 b1)] ++ gs 4 fr cJ 5 F))) 1 6 (rc_A ([(h, rO od fa ot ah te id rt bs kn), (fa, go cO 4 fr), (rt, rR fo cn wh pt rs sq on tw), (fo, ka cJ 4 Fo), (wh, ka cJ 5 Y), (pt, ka cJ 5 P), (rs, ka cJ 5 r), (sq, ka cJ 8 S), (on, ka cJ 5 a1), (tw, ka cJ 5 b1)] ++ gs 4 fr cJ 5 F)) := by
  refine vx_ofW (cc := c_O_findPlaces) (maxL := 1) (ret := none) (by decide) rfl ?_
  intro p e s m args below meth c s₁ B hml ht hv
  obtain ⟨⟨rfl, hP, hK, hD0, hN⟩, hE⟩ := hv
  have hx := B.exec
  have hb := B.bytes
  have hts0 := atoms_spec (ws := ws_O_findPlaces) B.pre
  have hts : ∀ w ∈ kb, w.before _ s = true := fun w h => hts0 w (List.mem_cons_of_mem _ h)
  have hown : s.vm.findClass R_O = some m.cls := findClass_of_methodNamed B.named
  have hlocks := B.notSynchronized
  have hD := rc_self hD0
  generalize hAe : rc_A ([(h, rO od fa ot ah te id rt bs kn), (fa, go cO 4 fr), (rt, rR fo cn wh pt rs sq on tw), (fo, ka cJ 4 Fo), (wh, ka cJ 5 Y), (pt, ka cJ 5 P), (rs, ka cJ 5 r), (sq, ka cJ 8 S), (on, ka cJ 5 a1), (tw, ka cJ 5 b1)] ++ gs 4 fr cJ 5 F) = A at hD hE ⊢
  have hS : va_S A s.heap s.heap [] := va_S.rf
  have hl := lv_entry ([.ref h]) (n := 1) (Nat.le_of_ble_eq_true rfl)
  rw [lg_entry_eq]
  generalize (lg_sl ([.ref h]) ++ List.replicate (1 - (lg_sl ([.ref h])).length) Slot.unset).toArray = ls at hl ⊢
  have hl : lv_has ls 1 [(0, .ref h)] := hl
  refine lv_aload_n hx hb d_O_findPlaces_0 rfl (lv_at hl 0 rfl) ?_
  refine va_get (D := D) (ci := 2) (v := .ref fa) (C := R_O) (T := T_O) (N := 9) hx hb hts in_O hown hK hP 0 rfl rfl 1 (by decide) (hts _ kw_84) (fun _ h9 => h9) rfl d_O_findPlaces_1 ?_
  refine lv_aload_n hx hb d_O_findPlaces_4 rfl (lv_at hl 0 rfl) ?_
  refine va_get (D := D) (ci := 2) (v := .int (iz od)) (C := R_O) (T := T_O) (N := 9) hx hb hts in_O hown hK hP 0 rfl rfl 0 (by decide) (hts _ kw_83) (fun _ h9 => h9) rfl d_O_findPlaces_5 ?_
  refine rg_ald hx hb hK hP 1 1 rfl rfl o d_O_findPlaces_8 ?_
  refine rr_calli (va_runS (As := [.ref (fr o)]) (rest := []) ⟨hx, hb, hml, hown, hts⟩ (m_O_isZero l D cJ (fr o) 5 (F o) (by omega)) (cwS 1 hts (kb_gi (kb_c kw_325 (kb_c kw_326 (kb_c kw_1 (kb_c kw_327 kb_all))))) rfl rfl rfl (by decide +kernel) ⟨Nat.le_of_ble_eq_true rfl, Nat.le_of_ble_eq_true rfl⟩) ⟨rc_blind, rr_pre (rs_nil hP) (rs_nilD hD) hK hN (by omega) [] rfl rfl [0] rfl⟩ rfl rfl hl.1 rfl (lv_room (Nat.le_of_ble_eq_true rfl)) d_O_findPlaces_9 ⟨Nat.zero_le _, Nat.zero_le _⟩) (rs_nil hP) (rs_nilD hD) hS (by omega) [] rfl (fun _ => rfl) (fun r1 u2 H locs hw2 hP hD hS => ?_)
  have hP := rs_nilR hP
  have hD := rs_nilRD hD
  subst hw2
  rw [va_up_id] at hP hD
  have hP : va_P D vC ([(h, rO od fa ot ah te id rt bs kn), (fa, go cO 4 fr), (rt, rR fo cn wh pt rs sq on tw), (fo, ka cJ 4 Fo), (wh, ka cJ 5 Y), (pt, ka cJ 5 P), (rs, ka cJ 5 r), (sq, ka cJ 8 S), (on, ka cJ 5 a1), (tw, ka cJ 5 b1)] ++ gs 4 fr cJ 5 F) H := hP
  have hD : va_D A ([(h, rO od fa ot ah te id rt bs kn), (fa, go cO 4 fr), (rt, rR fo cn wh pt rs sq on tw), (fo, ka cJ 4 Fo), (wh, ka cJ 5 Y), (pt, ka cJ 5 P), (rs, ka cJ 5 r), (sq, ka cJ 8 S), (on, ka cJ 5 a1), (tw, ka cJ 5 b1)] ++ gs 4 fr cJ 5 F) := hD
  rw [if_pos hz0]
  refine rz_if_eq (tgt := 25) hx hb d_O_findPlaces_12 (by decide) (fun hc => absurd hc (by decide)) (fun _ => ?_)
  exact vx_throwS hx hb hst (own := "RationalOdes") (cls := xS) (text := "the highest factor is 0") (names := xN) (ik := 162) (is := 164) (ic := 166) (sa := sa 2) hown (by decide +kernel) (by decide +kernel) (hts _ kw_331) (hts _ kw_10) hE.2.1.2.2.1 (xh_S hts hE.1) xo_S hE.2.2.1 hE.2.2.2 hS (by rw [hml]; exact hl.1) d_O_findPlaces_15 d_O_findPlaces_18 d_O_findPlaces_19 d_O_findPlaces_21 d_O_findPlaces_24 (fun x h9 => (ht x h9).elim) (Nat.le_of_ble_eq_true rfl) (Nat.le_of_ble_eq_true rfl) (Nat.le_of_ble_eq_true rfl) (Nat.le_of_ble_eq_true rfl) hlocks (fun t _ h1 h2 => ⟨(), trivial, ⟨rfl, (rx_keep hP hS h1 h2).1⟩, (rx_keep hP hS h1 h2).2⟩) hS.2.2 (Nat.le_of_ble_eq_true rfl) (Nat.le_of_ble_eq_true rfl)
set_option maxHeartbeats 4000000 in
set_option maxRecDepth 100000 in
theorem x_O_goTo (l : Launch) (D : va_G) (hst : l.stackTraces = false) (sa : Nat → Nat) (cJ cO : ClassId) (h fa ot ah te id rt bs : Nat) (od kn : Int) (fr er : Nat → Nat) (E F : Nat → Nat → ro_K) (ze : Int) (v : Int64) (o : Nat) (hod : od = (o : Int)) (ho3 : o ≤ 3) (haz : azB F (o + 1) = true) : vx_Met l y_O_goTo ws_O_goTo ({ frames := 6, cells := 1, slots := 6, locals := 100 }) (rx_Px D vC [(cJ, .long), (cO, .array .long)] [.ref h, .int (iz ze), .long v] (([(h, rO od fa ot ah te id rt bs kn), (fa, go cO 4 fr), (ot, go cO 4 er)] ++ gs 4 er cJ 5 E) ++ gs 4 fr cJ 5 F) sa) (va_Qi (fun (_ : Int32) (_ : Unit) => False) (fun _ _ => True) (rc_A (([(h, rO od fa ot ah te id rt bs kn), (fa, go cO 4 fr), (ot, go cO 4 er)] ++ gs 4 er cJ 5 E) ++ gs 4 fr cJ 5 F))) (vx_X (fun (_ : Unit) => True) (fun E9 _ t => E9 = xS ∧ va_P D vC (([(h, rO od fa ot ah te id rt bs kn), (fa, go cO 4 fr), (ot, go cO 4 er)] ++ gs 4 er cJ 5 E) ++ gs 4 fr cJ 5 F) t.heap) (rc_A (([(h, rO od fa ot ah te id rt bs kn), (fa, go cO 4 fr), (ot, go cO 4 er)] ++ gs 4 er cJ 5 E) ++ gs 4 fr cJ 5 F))) 1 6 (rc_A (([(h, rO od fa ot ah te id rt bs kn), (fa, go cO 4 fr), (ot, go cO 4 er)] ++ gs 4 er cJ 5 E) ++ gs 4 fr cJ 5 F)) := by
  refine vx_ofW (cc := c_O_goTo) (maxL := 4) (ret := (some .int)) (by decide) rfl ?_
  intro p e s m args below meth c s₁ B hml ht hv
  obtain ⟨⟨rfl, hP, hK, hD0, hN⟩, hE⟩ := hv
  have hx := B.exec
  have hb := B.bytes
  have hts0 := atoms_spec (ws := ws_O_goTo) B.pre
  have hts : ∀ w ∈ kb, w.before _ s = true := fun w h => hts0 w (List.mem_cons_of_mem _ h)
  have hown : s.vm.findClass R_O = some m.cls := findClass_of_methodNamed B.named
  have hlocks := B.notSynchronized
  have hD := rc_self hD0
  generalize hAe : rc_A (([(h, rO od fa ot ah te id rt bs kn), (fa, go cO 4 fr), (ot, go cO 4 er)] ++ gs 4 er cJ 5 E) ++ gs 4 fr cJ 5 F) = A at hD hE ⊢
  have hS : va_S A s.heap s.heap [] := va_S.rf
  have hl := lv_entry ([.ref h, .int (iz ze), .long v]) (n := 4) (Nat.le_of_ble_eq_true rfl)
  rw [lg_entry_eq]
  generalize (lg_sl ([.ref h, .int (iz ze), .long v]) ++ List.replicate (4 - (lg_sl ([.ref h, .int (iz ze), .long v])).length) Slot.unset).toArray = ls at hl ⊢
  have hl : lv_has ls 4 [(0, .ref h), (1, .int (iz ze)), (2, .long v)] := hl
  refine lv_aload_n hx hb d_O_goTo_0 rfl (lv_at hl 0 rfl) ?_
  refine rs_calli (va_runV (As := []) (rest := []) ⟨hx, hb, hml, hown, hts⟩ (m_O_allZero l D cJ cO h fa ot ah te id rt bs od kn fr F o hod ho3) (cwV 0 hts (kb_gi (kb_c kw_426 (kb_c kw_428 (kb_c ks_O_allZero (kb_c kw_1 (kb_c kw_429 kb_all)))))) rfl rfl rfl (by decide +kernel) ⟨Nat.le_of_ble_eq_true rfl, Nat.le_of_ble_eq_true rfl⟩) ⟨rc_blind, va_recv hK hP (ci := 2) (q0 := 0) rfl rfl, rs_pre (Y := []) (rs_nil hP) (rs_nilD hD) hK hN [0, 1] rfl rfl [0, 1] rfl⟩ rfl rfl hl.1 rfl (lv_room (Nat.le_of_ble_eq_true rfl)) d_O_goTo_1 ⟨Nat.zero_le _, Nat.zero_le _⟩) hP hD hS [0, 1] rfl (fun _ => rfl) (fun _ => gs_adr _ _ _ _ _ _) (fun r1 u2 H locs hw2 hP hD hS => ?_)
  rw [haz] at hw2
  have hw2 : r1 = iz 1 := hw2
  subst hw2
  have hP : va_P D vC (([(h, rO od fa ot ah te id rt bs kn), (fa, go cO 4 fr), (ot, go cO 4 er)] ++ gs 4 er cJ 5 E) ++ gs 4 fr cJ 5 F) H := hP
  have hD : va_D A (([(h, rO od fa ot ah te id rt bs kn), (fa, go cO 4 fr), (ot, go cO 4 er)] ++ gs 4 er cJ 5 E) ++ gs 4 fr cJ 5 F) := hD
  refine rz_if_eq (tgt := 17) hx hb d_O_goTo_4 (by decide) (fun hc => absurd hc (by decide)) (fun _ => ?_)
  exact vx_throwS hx hb hst (own := "RationalOdes") (cls := xS) (text := "all factors are 0") (names := xN) (ik := 162) (is := 171) (ic := 166) (sa := sa 4) hown (by decide +kernel) (by decide +kernel) (hts _ kw_331) (hts _ kw_10) hE.2.1.2.2.2.2.1 (xh_S hts hE.1) xo_S hE.2.2.1 hE.2.2.2 hS (by rw [hml]; exact hl.1) d_O_goTo_7 d_O_goTo_10 d_O_goTo_11 d_O_goTo_13 d_O_goTo_16 (fun x h9 => (ht x h9).elim) (Nat.le_of_ble_eq_true rfl) (Nat.le_of_ble_eq_true rfl) (Nat.le_of_ble_eq_true rfl) (Nat.le_of_ble_eq_true rfl) hlocks (fun t _ h1 h2 => ⟨(), trivial, ⟨rfl, (rx_keep hP hS h1 h2).1⟩, (rx_keep hP hS h1 h2).2⟩) hS.2.2 (Nat.le_of_ble_eq_true rfl) (Nat.le_of_ble_eq_true rfl)
set_option maxHeartbeats 4000000 in
set_option maxRecDepth 100000 in
theorem x_O_goTo_S (l : Launch) (D : va_G) (hst : l.stackTraces = false) (sa : Nat → Nat) (cJ cO : ClassId) (h fa ot ah te id rt bs : Nat) (od kn : Int) (fr er : Nat → Nat) (E F : Nat → Nat → ro_K) (ze : Int) (v : Int64) (o : Nat) (hod : od = (o : Int)) (ho3 : o ≤ 3) (haz : azB F (o + 1) = true) : vx_Met l y_O_goTo ws_O_goTo ({ frames := 6, cells := 1, slots := 6, locals := 100 }) (rx_Px D vC [(cJ, .long), (cO, .array .long)] [.ref h, .int (iz ze), .long v] ([(h, rO od fa ot ah te id rt bs kn), (fa, go cO 4 fr), (ot, go cO 4 er)] ++ (gs 4 er cJ 5 E ++ (gs 4 fr cJ 5 F))) sa) (va_Qi (fun (_ : Int32) (_ : Unit) => False) (fun _ _ => True) (rc_A ([(h, rO od fa ot ah te id rt bs kn), (fa, go cO 4 fr), (ot, go cO 4 er)] ++ (gs 4 er cJ 5 E ++ (gs 4 fr cJ 5 F))))) (vx_X (fun (_ : Unit) => True) (fun E9 _ t => E9 = xS ∧ va_P D vC ([(h, rO od fa ot ah te id rt bs kn), (fa, go cO 4 fr), (ot, go cO 4 er)] ++ (gs 4 er cJ 5 E ++ (gs 4 fr cJ 5 F))) t.heap) (rc_A ([(h, rO od fa ot ah te id rt bs kn), (fa, go cO 4 fr), (ot, go cO 4 er)] ++ (gs 4 er cJ 5 E ++ (gs 4 fr cJ 5 F))))) 1 6 (rc_A ([(h, rO od fa ot ah te id rt bs kn), (fa, go cO 4 fr), (ot, go cO 4 er)] ++ (gs 4 er cJ 5 E ++ (gs 4 fr cJ 5 F)))) := x_O_goTo l D hst sa cJ cO h fa ot ah te id rt bs od kn fr er E F ze v o hod ho3 haz

set_option maxHeartbeats 4000000 in
set_option maxRecDepth 100000 in
theorem x_O_needMember (l : Launch) (D : va_G) (hst : l.stackTraces = false) (sa : Nat → Nat) (cI : ClassId) (cJ cO : ClassId) (h fa ot ah te id rt bs : Nat) (od kn : Int) (ro le me : Nat) (bn : Int) (fr mb ra : Nat → Nat) (F Bm M : Nat → Nat → ro_K) (Lx : Nat → Int) (zk : Int) (o : Nat) (hod : od = (o : Int)) (ho3 : o ≤ 3) (hkn : kn = 0 ∨ kn = 1) (hzkl : -2147483648 ≤ zk) (hzkh : zk < 2147483648) (hbad : ¬ (0 ≤ zk ∧ zk < (knD kn F o M Lx Bm bn).2.2.2)) (hb0 : 0 ≤ (knD kn F o M Lx Bm bn).2.2.2) (hb13 : (knD kn F o M Lx Bm bn).2.2.2 ≤ 13) : vx_Met l y_O_needMember ws_O_needMember ({ frames := 6, cells := 1, slots := 6, locals := 115 }) (rx_Px D vC [(cJ, .long), (cO, .array .long), (cI, .int)] [.ref h, .int (iz zk)] ((([(h, rO od fa ot ah te id rt bs kn), (fa, go cO 4 fr), (bs, rB ro le me bn), (ro, go cO 17 ra), (le, ki cI 13 Lx), (me, go cO 13 mb)] ++ gs 4 fr cJ 5 F) ++ gs 13 mb cJ 13 Bm) ++ gs 17 ra cJ 13 M) sa) (va_Qv (fun (_ : Unit) => False) (fun _ _ => True) (rc_A ((([(h, rO od fa ot ah te id rt bs kn), (fa, go cO 4 fr), (bs, rB ro le me bn), (ro, go cO 17 ra), (le, ki cI 13 Lx), (me, go cO 13 mb)] ++ gs 4 fr cJ 5 F) ++ gs 13 mb cJ 13 Bm) ++ gs 17 ra cJ 13 M))) (vx_X (fun (_ : Unit) => True) (fun E9 _ t => E9 = xI ∧ va_P D vC ((([(h, rO od fa ot ah te id rt bs 1), (fa, go cO 4 fr), (bs, rB ro le me (knD kn F o M Lx Bm bn).2.2.2), (ro, go cO 17 ra), (le, ki cI 13 (knD kn F o M Lx Bm bn).2.1), (me, go cO 13 mb)] ++ gs 4 fr cJ 5 F) ++ gs 13 mb cJ 13 (knD kn F o M Lx Bm bn).2.2.1) ++ gs 17 ra cJ 13 (knD kn F o M Lx Bm bn).1) t.heap) (rc_A ((([(h, rO od fa ot ah te id rt bs kn), (fa, go cO 4 fr), (bs, rB ro le me bn), (ro, go cO 17 ra), (le, ki cI 13 Lx), (me, go cO 13 mb)] ++ gs 4 fr cJ 5 F) ++ gs 13 mb cJ 13 Bm) ++ gs 17 ra cJ 13 M))) 1 6 (rc_A ((([(h, rO od fa ot ah te id rt bs kn), (fa, go cO 4 fr), (bs, rB ro le me bn), (ro, go cO 17 ra), (le, ki cI 13 Lx), (me, go cO 13 mb)] ++ gs 4 fr cJ 5 F) ++ gs 13 mb cJ 13 Bm) ++ gs 17 ra cJ 13 M)) := by
  refine vx_ofW (cc := c_O_needMember) (maxL := 2) (ret := none) (by decide) rfl ?_
  intro p e s m args below meth c s₁ B hml ht hv
  obtain ⟨⟨rfl, hP, hK, hD0, hN⟩, hE⟩ := hv
  have hx := B.exec
  have hb := B.bytes
  have hts0 := atoms_spec (ws := ws_O_needMember) B.pre
  have hts : ∀ w ∈ kb, w.before _ s = true := fun w h => hts0 w (List.mem_cons_of_mem _ h)
  have hown : s.vm.findClass R_O = some m.cls := findClass_of_methodNamed B.named
  have hlocks := B.notSynchronized
  have hD := rc_self hD0
  generalize hAe : rc_A ((([(h, rO od fa ot ah te id rt bs kn), (fa, go cO 4 fr), (bs, rB ro le me bn), (ro, go cO 17 ra), (le, ki cI 13 Lx), (me, go cO 13 mb)] ++ gs 4 fr cJ 5 F) ++ gs 13 mb cJ 13 Bm) ++ gs 17 ra cJ 13 M) = A at hD hE ⊢
  have hS : va_S A s.heap s.heap [] := va_S.rf
  have hl := lv_entry ([.ref h, .int (iz zk)]) (n := 2) (Nat.le_of_ble_eq_true rfl)
  rw [lg_entry_eq]
  generalize (lg_sl ([.ref h, .int (iz zk)]) ++ List.replicate (2 - (lg_sl ([.ref h, .int (iz zk)])).length) Slot.unset).toArray = ls at hl ⊢
  have hl : lv_has ls 2 [(0, .ref h), (1, .int (iz zk))] := hl
  refine lv_aload_n hx hb d_O_needMember_0 rfl (lv_at hl 0 rfl) ?_
  refine rs_callv (va_runV (As := []) (rest := []) ⟨hx, hb, hml, hown, hts⟩ (m_O_knowBase_S l D cI cJ cO h fa ot ah te id rt bs od kn ro le me bn fr mb ra F Bm M Lx o hod ho3 hkn) (cwV 0 hts (kb_gi (kb_c kw_131 (kb_c kw_133 (kb_c ks_O_knowBase (kb_c kw_1 (kb_c kw_134 kb_all)))))) rfl rfl rfl (by decide +kernel) ⟨Nat.le_of_ble_eq_true rfl, Nat.le_of_ble_eq_true rfl⟩) ⟨rc_blind, va_recv hK hP (ci := 2) (q0 := 0) rfl rfl, rs_pre (Y := []) (rs_nil (rs_a_3_0 hP)) (rs_nilD (rs_aD_3_0 hD)) hK hN [0, 1, 2, 3, 4, 5] rfl rfl [0, 1, 2] rfl⟩ rfl rfl hl.1 rfl (lv_room (Nat.le_of_ble_eq_true rfl)) d_O_needMember_1 ⟨Nat.zero_le _, Nat.zero_le _⟩) (rs_a_3_0 hP) (rs_aD_3_0 hD) hS [0, 1, 2, 3, 4, 5] rfl (fun _ => rfl) (fun _ => gs_adr2 (gs_adr _ _ _ _ _ _) (gs_adr2 (gs_adr _ _ _ _ _ _) (gs_adr _ _ _ _ _ _))) (fun u1 H locs hw1 hP hD hS => ?_)
  have hP := rs_b_3_0 hP
  have hD := rs_bD_3_0 hD
  have hP : va_P D vC ((([(h, rO od fa ot ah te id rt bs 1), (fa, go cO 4 fr), (bs, rB ro le me (knD kn F o M Lx Bm bn).2.2.2), (ro, go cO 17 ra), (le, ki cI 13 (knD kn F o M Lx Bm bn).2.1), (me, go cO 13 mb)] ++ gs 4 fr cJ 5 F) ++ gs 13 mb cJ 13 (knD kn F o M Lx Bm bn).2.2.1) ++ gs 17 ra cJ 13 (knD kn F o M Lx Bm bn).1) H := hP
  have hD : va_D A ((([(h, rO od fa ot ah te id rt bs 1), (fa, go cO 4 fr), (bs, rB ro le me (knD kn F o M Lx Bm bn).2.2.2), (ro, go cO 17 ra), (le, ki cI 13 (knD kn F o M Lx Bm bn).2.1), (me, go cO 13 mb)] ++ gs 4 fr cJ 5 F) ++ gs 13 mb cJ 13 (knD kn F o M Lx Bm bn).2.2.1) ++ gs 17 ra cJ 13 (knD kn F o M Lx Bm bn).1) := hD
  refine lv_iload_n hx hb d_O_needMember_4 rfl (lv_at hl 1 rfl) ?_
  refine rz_if_lt (tgt := 19) hx hb d_O_needMember_5 (by decide) (fun hc2 => ?_) (fun hc2 => ?_)
  · exact vx_throwS hx hb hst (own := "RationalOdes") (cls := xI) (text := "no such member of the base") (names := xN) (ik := 81) (is := 156) (ic := 85) (sa := sa 5) hown (by decide +kernel) (by decide +kernel) (hts _ kw_226) (hts _ kw_9) hE.2.1.2.2.2.2.2.1 (xh_I hts hE.1) xo_I hE.2.2.1 hE.2.2.2 hS (by rw [hml]; exact hl.1) d_O_needMember_19 d_O_needMember_22 d_O_needMember_23 d_O_needMember_25 d_O_needMember_28 (fun x h9 => (ht x h9).elim) (Nat.le_of_ble_eq_true rfl) (Nat.le_of_ble_eq_true rfl) (Nat.le_of_ble_eq_true rfl) (Nat.le_of_ble_eq_true rfl) hlocks (fun t _ h1 h2 => ⟨(), trivial, ⟨rfl, (rx_keep hP hS h1 h2).1⟩, (rx_keep hP hS h1 h2).2⟩) hS.2.2 (Nat.le_of_ble_eq_true rfl) (Nat.le_of_ble_eq_true rfl)
  · refine lv_iload_n hx hb d_O_needMember_8 rfl (lv_at hl 1 rfl) ?_
    refine lv_aload_n hx hb d_O_needMember_9 rfl (lv_at hl 0 rfl) ?_
    refine va_get (D := D) (ci := 2) (v := .ref bs) (C := R_O) (T := T_O) (N := 9) hx hb hts in_O hown hK hP 0 rfl rfl 7 (by decide) (hts _ kw_90) (fun _ h9 => h9) rfl d_O_needMember_10 ?_
    refine rc_calli (va_runV (As := []) (rest := [.int (iz zk)]) ⟨hx, hb, hml, hown, hts⟩ (m_B_size l D bs ro le me (knD kn F o M Lx Bm bn).2.2.2) (cwV 0 hts (kb_gi (kb_c kw_175 (kb_c kw_176 (kb_c kw_177 (kb_c kw_3 (kb_c kw_178 kb_all)))))) rfl rfl rfl (by decide +kernel) ⟨Nat.le_of_ble_eq_true rfl, Nat.le_of_ble_eq_true rfl⟩) ⟨rc_blind, va_recv hK hP (ci := 0) (q0 := 2) rfl rfl, rc_pre hP hD hK hN [2] rfl rfl [] rfl⟩ rfl rfl hl.1 rfl (lv_room (Nat.le_of_ble_eq_true rfl)) d_O_needMember_13 ⟨Nat.zero_le _, Nat.zero_le _⟩) hP hD hS [2] rfl (fun _ => rfl) (fun r3 u4 H locs hw4 hP hD hS => ?_)
    subst hw4
    have hP : va_P D vC ((([(h, rO od fa ot ah te id rt bs 1), (fa, go cO 4 fr), (bs, rB ro le me (knD kn F o M Lx Bm bn).2.2.2), (ro, go cO 17 ra), (le, ki cI 13 (knD kn F o M Lx Bm bn).2.1), (me, go cO 13 mb)] ++ gs 4 fr cJ 5 F) ++ gs 13 mb cJ 13 (knD kn F o M Lx Bm bn).2.2.1) ++ gs 17 ra cJ 13 (knD kn F o M Lx Bm bn).1) H := hP
    have hD : va_D A ((([(h, rO od fa ot ah te id rt bs 1), (fa, go cO 4 fr), (bs, rB ro le me (knD kn F o M Lx Bm bn).2.2.2), (ro, go cO 17 ra), (le, ki cI 13 (knD kn F o M Lx Bm bn).2.1), (me, go cO 13 mb)] ++ gs 4 fr cJ 5 F) ++ gs 13 mb cJ 13 (knD kn F o M Lx Bm bn).2.2.1) ++ gs 17 ra cJ 13 (knD kn F o M Lx Bm bn).1) := hD
    refine rz_icmp_lt (tgt := 29) hx hb d_O_needMember_16 (by decide) (fun hc5 => ?_) (fun hc5 => ?_)
    · omega
    · exact vx_throwS hx hb hst (own := "RationalOdes") (cls := xI) (text := "no such member of the base") (names := xN) (ik := 81) (is := 156) (ic := 85) (sa := sa 5) hown (by decide +kernel) (by decide +kernel) (hts _ kw_226) (hts _ kw_9) hE.2.1.2.2.2.2.2.1 (xh_I hts hE.1) xo_I hE.2.2.1 hE.2.2.2 hS (by rw [hml]; exact hl.1) d_O_needMember_19 d_O_needMember_22 d_O_needMember_23 d_O_needMember_25 d_O_needMember_28 (fun x h9 => (ht x h9).elim) (Nat.le_of_ble_eq_true rfl) (Nat.le_of_ble_eq_true rfl) (Nat.le_of_ble_eq_true rfl) (Nat.le_of_ble_eq_true rfl) hlocks (fun t _ h1 h2 => ⟨(), trivial, ⟨rfl, (rx_keep hP hS h1 h2).1⟩, (rx_keep hP hS h1 h2).2⟩) hS.2.2 (Nat.le_of_ble_eq_true rfl) (Nat.le_of_ble_eq_true rfl)
set_option maxHeartbeats 4000000 in
set_option maxRecDepth 100000 in
theorem x_O_needMember_S (l : Launch) (D : va_G) (hst : l.stackTraces = false) (sa : Nat → Nat) (cI : ClassId) (cJ cO : ClassId) (h fa ot ah te id rt bs : Nat) (od kn : Int) (ro le me : Nat) (bn : Int) (fr mb ra : Nat → Nat) (F Bm M : Nat → Nat → ro_K) (Lx : Nat → Int) (zk : Int) (o : Nat) (hod : od = (o : Int)) (ho3 : o ≤ 3) (hkn : kn = 0 ∨ kn = 1) (hzkl : -2147483648 ≤ zk) (hzkh : zk < 2147483648) (hbad : ¬ (0 ≤ zk ∧ zk < (knD kn F o M Lx Bm bn).2.2.2)) (hb0 : 0 ≤ (knD kn F o M Lx Bm bn).2.2.2) (hb13 : (knD kn F o M Lx Bm bn).2.2.2 ≤ 13) : vx_Met l y_O_needMember ws_O_needMember ({ frames := 6, cells := 1, slots := 6, locals := 115 }) (rx_Px D vC [(cJ, .long), (cO, .array .long), (cI, .int)] [.ref h, .int (iz zk)] ([(h, rO od fa ot ah te id rt bs kn), (fa, go cO 4 fr), (bs, rB ro le me bn), (ro, go cO 17 ra), (le, ki cI 13 Lx), (me, go cO 13 mb)] ++ (gs 4 fr cJ 5 F ++ (gs 13 mb cJ 13 Bm ++ (gs 17 ra cJ 13 M)))) sa) (va_Qv (fun (_ : Unit) => False) (fun _ _ => True) (rc_A ([(h, rO od fa ot ah te id rt bs kn), (fa, go cO 4 fr), (bs, rB ro le me bn), (ro, go cO 17 ra), (le, ki cI 13 Lx), (me, go cO 13 mb)] ++ (gs 4 fr cJ 5 F ++ (gs 13 mb cJ 13 Bm ++ (gs 17 ra cJ 13 M)))))) (vx_X (fun (_ : Unit) => True) (fun E9 _ t => E9 = xI ∧ va_P D vC ([(h, rO od fa ot ah te id rt bs 1), (fa, go cO 4 fr), (bs, rB ro le me (knD kn F o M Lx Bm bn).2.2.2), (ro, go cO 17 ra), (le, ki cI 13 (knD kn F o M Lx Bm bn).2.1), (me, go cO 13 mb)] ++ (gs 4 fr cJ 5 F ++ (gs 13 mb cJ 13 (knD kn F o M Lx Bm bn).2.2.1 ++ (gs 17 ra cJ 13 (knD kn F o M Lx Bm bn).1)))) t.heap) (rc_A ([(h, rO od fa ot ah te id rt bs kn), (fa, go cO 4 fr), (bs, rB ro le me bn), (ro, go cO 17 ra), (le, ki cI 13 Lx), (me, go cO 13 mb)] ++ (gs 4 fr cJ 5 F ++ (gs 13 mb cJ 13 Bm ++ (gs 17 ra cJ 13 M)))))) 1 6 (rc_A ([(h, rO od fa ot ah te id rt bs kn), (fa, go cO 4 fr), (bs, rB ro le me bn), (ro, go cO 17 ra), (le, ki cI 13 Lx), (me, go cO 13 mb)] ++ (gs 4 fr cJ 5 F ++ (gs 13 mb cJ 13 Bm ++ (gs 17 ra cJ 13 M))))) := x_O_needMember l D hst sa cI cJ cO h fa ot ah te id rt bs od kn ro le me bn fr mb ra F Bm M Lx zk o hod ho3 hkn hzkl hzkh hbad hb0 hb13

set_option maxHeartbeats 4000000 in
set_option maxRecDepth 100000 in
theorem x_O_put (l : Launch) (D : va_G) (hst : l.stackTraces = false) (sa : Nat → Nat) (cJ cO : ClassId) (h fa ot ah te id rt bs : Nat) (od kn : Int) (fr : Nat → Nat) (F : Nat → Nat → ro_K) (zi zp : Int) (v : Int64) (o : Nat) (hod : od = (o : Int)) (ho3 : o ≤ 3) (hzil : -2147483648 ≤ zi) (hzih : zi < 2147483648) (hzpl : -2147483648 ≤ zp) (hzph : zp < 2147483648) (hbad : ¬ (0 ≤ zi ∧ zi ≤ od ∧ 0 ≤ zp ∧ zp < 5)) : vx_Met l y_O_put ws_O_put ({ frames := 7, cells := 1, slots := 6, locals := 130 }) (rx_Px D vC [(cJ, .long), (cO, .array .long)] [.ref h, .int (iz zi), .int (iz zp), .long v] ([(h, rO od fa ot ah te id rt bs kn), (fa, go cO 4 fr)] ++ gs 4 fr cJ 5 F) sa) (va_Qi (fun (_ : Int32) (_ : Unit) => False) (fun _ _ => True) (rc_A ([(h, rO od fa ot ah te id rt bs kn), (fa, go cO 4 fr)] ++ gs 4 fr cJ 5 F))) (vx_X (fun (_ : Unit) => True) (fun E9 _ t => E9 = xI ∧ va_P D vC ([(h, rO od fa ot ah te id rt bs kn), (fa, go cO 4 fr)] ++ gs 4 fr cJ 5 F) t.heap) (rc_A ([(h, rO od fa ot ah te id rt bs kn), (fa, go cO 4 fr)] ++ gs 4 fr cJ 5 F))) 1 6 (rc_A ([(h, rO od fa ot ah te id rt bs kn), (fa, go cO 4 fr)] ++ gs 4 fr cJ 5 F)) := by
  refine vx_ofW (cc := c_O_put) (maxL := 7) (ret := (some .boolean)) (by decide) rfl ?_
  intro p e s m args below meth c s₁ B hml ht hv
  obtain ⟨⟨rfl, hP, hK, hD0, hN⟩, hE⟩ := hv
  have hx := B.exec
  have hb := B.bytes
  have hts0 := atoms_spec (ws := ws_O_put) B.pre
  have hts : ∀ w ∈ kb, w.before _ s = true := fun w h => hts0 w (List.mem_cons_of_mem _ h)
  have hown : s.vm.findClass R_O = some m.cls := findClass_of_methodNamed B.named
  have hlocks := B.notSynchronized
  have hD := rc_self hD0
  generalize hAe : rc_A ([(h, rO od fa ot ah te id rt bs kn), (fa, go cO 4 fr)] ++ gs 4 fr cJ 5 F) = A at hD hE ⊢
  have hS : va_S A s.heap s.heap [] := va_S.rf
  have hl := lv_entry ([.ref h, .int (iz zi), .int (iz zp), .long v]) (n := 7) (Nat.le_of_ble_eq_true rfl)
  rw [lg_entry_eq]
  generalize (lg_sl ([.ref h, .int (iz zi), .int (iz zp), .long v]) ++ List.replicate (7 - (lg_sl ([.ref h, .int (iz zi), .int (iz zp), .long v])).length) Slot.unset).toArray = ls at hl ⊢
  have hl : lv_has ls 7 [(0, .ref h), (1, .int (iz zi)), (2, .int (iz zp)), (3, .long v)] := hl
  refine lv_aload_n hx hb d_O_put_0 rfl (lv_at hl 0 rfl) ?_
  refine lv_iload_n hx hb d_O_put_1 rfl (lv_at hl 1 rfl) ?_
  refine lv_iload_n hx hb d_O_put_2 rfl (lv_at hl 2 rfl) ?_
  refine rx_callv (vx_runV (As := [.int (iz zi), .int (iz zp)]) (rest := []) ⟨hx, hb, hml, hown, hts⟩ (x_O_needFactorPower l D hst sa cJ cO h fa ot ah te id rt bs od kn zi zp o hod ho3 hzil hzih hzpl hzph hbad) (cwV 2 hts (kb_gi (kb_c kw_222 (kb_c kw_224 (kb_c ks_O_needFactorPower (kb_c kw_1 (kb_c kw_225 kb_all)))))) rfl rfl rfl (by decide +kernel) ⟨(Nat.le_of_ble_eq_true rfl), (Nat.le_of_ble_eq_true rfl)⟩) ⟨rx_blind, va_recv hK hP (ci := 2) (q0 := 0) rfl rfl, fun U h8 h9 => ⟨(rc_pre hP hD hK hN [0] rfl rfl [] rfl) U h8 h9, hE.go hS (rc_in hD (is := [0]) rfl) h8 h9⟩⟩ rfl rfl hl.1 rfl (lv_room (Nat.le_of_ble_eq_true rfl)) d_O_put_3 ⟨(Nat.le_of_ble_eq_true rfl), (Nat.le_of_ble_eq_true rfl)⟩) hP hD hS [0] rfl (fun _ => rfl) (fun ce q9 u1 H locs hw1 hP hD hS hce hcv hcl => ?_)
  have hP : va_P D vC ([(h, rO od fa ot ah te id rt bs kn), (fa, go cO 4 fr)] ++ gs 4 fr cJ 5 F) H := hP
  have hD : va_D A ([(h, rO od fa ot ah te id rt bs kn), (fa, go cO 4 fr)] ++ gs 4 fr cJ 5 F) := hD
  exact vx_out (fun x h9 => (ht x h9).elim) hlocks hce hcv hcl (fun t htt _ => ⟨(), trivial, ⟨rfl, rc_out htt hP⟩, hS.F htt⟩) hS.2.2 (Nat.le_of_ble_eq_true rfl) (Nat.le_of_ble_eq_true rfl)
set_option maxHeartbeats 4000000 in
set_option maxRecDepth 100000 in
theorem x_O_at (l : Launch) (D : va_G) (hst : l.stackTraces = false) (sa : Nat → Nat) (cJ cO : ClassId) (h fa ot ah te id rt bs : Nat) (od kn : Int) (fr : Nat → Nat) (F : Nat → Nat → ro_K) (zi zp : Int) (o : Nat) (hod : od = (o : Int)) (ho3 : o ≤ 3) (hzil : -2147483648 ≤ zi) (hzih : zi < 2147483648) (hzpl : -2147483648 ≤ zp) (hzph : zp < 2147483648) (hbad : ¬ (0 ≤ zi ∧ zi ≤ od ∧ 0 ≤ zp ∧ zp < 5)) : vx_Met l y_O_at ws_O_at ({ frames := 7, cells := 1, slots := 6, locals := 130 }) (rx_Px D vC [(cJ, .long), (cO, .array .long)] [.ref h, .int (iz zi), .int (iz zp)] ([(h, rO od fa ot ah te id rt bs kn), (fa, go cO 4 fr)] ++ gs 4 fr cJ 5 F) sa) (va_Qi (fun (_ : Int32) (_ : Unit) => False) (fun _ _ => True) (rc_A ([(h, rO od fa ot ah te id rt bs kn), (fa, go cO 4 fr)] ++ gs 4 fr cJ 5 F))) (vx_X (fun (_ : Unit) => True) (fun E9 _ t => E9 = xI ∧ va_P D vC ([(h, rO od fa ot ah te id rt bs kn), (fa, go cO 4 fr)] ++ gs 4 fr cJ 5 F) t.heap) (rc_A ([(h, rO od fa ot ah te id rt bs kn), (fa, go cO 4 fr)] ++ gs 4 fr cJ 5 F))) 1 6 (rc_A ([(h, rO od fa ot ah te id rt bs kn), (fa, go cO 4 fr)] ++ gs 4 fr cJ 5 F)) := by
  refine vx_ofW (cc := c_O_at) (maxL := 3) (ret := (some .int)) (by decide) rfl ?_
  intro p e s m args below meth c s₁ B hml ht hv
  obtain ⟨⟨rfl, hP, hK, hD0, hN⟩, hE⟩ := hv
  have hx := B.exec
  have hb := B.bytes
  have hts0 := atoms_spec (ws := ws_O_at) B.pre
  have hts : ∀ w ∈ kb, w.before _ s = true := fun w h => hts0 w (List.mem_cons_of_mem _ h)
  have hown : s.vm.findClass R_O = some m.cls := findClass_of_methodNamed B.named
  have hlocks := B.notSynchronized
  have hD := rc_self hD0
  generalize hAe : rc_A ([(h, rO od fa ot ah te id rt bs kn), (fa, go cO 4 fr)] ++ gs 4 fr cJ 5 F) = A at hD hE ⊢
  have hS : va_S A s.heap s.heap [] := va_S.rf
  have hl := lv_entry ([.ref h, .int (iz zi), .int (iz zp)]) (n := 3) (Nat.le_of_ble_eq_true rfl)
  rw [lg_entry_eq]
  generalize (lg_sl ([.ref h, .int (iz zi), .int (iz zp)]) ++ List.replicate (3 - (lg_sl ([.ref h, .int (iz zi), .int (iz zp)])).length) Slot.unset).toArray = ls at hl ⊢
  have hl : lv_has ls 3 [(0, .ref h), (1, .int (iz zi)), (2, .int (iz zp))] := hl
  refine lv_aload_n hx hb d_O_at_0 rfl (lv_at hl 0 rfl) ?_
  refine lv_iload_n hx hb d_O_at_1 rfl (lv_at hl 1 rfl) ?_
  refine lv_iload_n hx hb d_O_at_2 rfl (lv_at hl 2 rfl) ?_
  refine rx_callv (vx_runV (As := [.int (iz zi), .int (iz zp)]) (rest := []) ⟨hx, hb, hml, hown, hts⟩ (x_O_needFactorPower l D hst sa cJ cO h fa ot ah te id rt bs od kn zi zp o hod ho3 hzil hzih hzpl hzph hbad) (cwV 2 hts (kb_gi (kb_c kw_222 (kb_c kw_224 (kb_c ks_O_needFactorPower (kb_c kw_1 (kb_c kw_225 kb_all)))))) rfl rfl rfl (by decide +kernel) ⟨(Nat.le_of_ble_eq_true rfl), (Nat.le_of_ble_eq_true rfl)⟩) ⟨rx_blind, va_recv hK hP (ci := 2) (q0 := 0) rfl rfl, fun U h8 h9 => ⟨(rc_pre hP hD hK hN [0] rfl rfl [] rfl) U h8 h9, hE.go hS (rc_in hD (is := [0]) rfl) h8 h9⟩⟩ rfl rfl hl.1 rfl (lv_room (Nat.le_of_ble_eq_true rfl)) d_O_at_3 ⟨(Nat.le_of_ble_eq_true rfl), (Nat.le_of_ble_eq_true rfl)⟩) hP hD hS [0] rfl (fun _ => rfl) (fun ce q9 u1 H locs hw1 hP hD hS hce hcv hcl => ?_)
  have hP : va_P D vC ([(h, rO od fa ot ah te id rt bs kn), (fa, go cO 4 fr)] ++ gs 4 fr cJ 5 F) H := hP
  have hD : va_D A ([(h, rO od fa ot ah te id rt bs kn), (fa, go cO 4 fr)] ++ gs 4 fr cJ 5 F) := hD
  exact vx_out (fun x h9 => (ht x h9).elim) hlocks hce hcv hcl (fun t htt _ => ⟨(), trivial, ⟨rfl, rc_out htt hP⟩, hS.F htt⟩) hS.2.2 (Nat.le_of_ble_eq_true rfl) (Nat.le_of_ble_eq_true rfl)
set_option maxHeartbeats 4000000 in
set_option maxRecDepth 100000 in
theorem x_O_hand (l : Launch) (D : va_G) (hst : l.stackTraces = false) (sa : Nat → Nat) (cJ cO : ClassId) (h fa ot ah te id rt bs : Nat) (od kn : Int) (a : Nat → ro_K) (zp : Int) (v : Int64) (hzpl : -2147483648 ≤ zp) (hzph : zp < 2147483648) (hbad : ¬ (0 ≤ zp ∧ zp < 13)) : vx_Met l y_O_hand ws_O_hand ({ frames := 7, cells := 1, slots := 6, locals := 130 }) (rx_Px D vC [(cJ, .long)] [.ref h, .int (iz zp), .long v] [(h, rO od fa ot ah te id rt bs kn), (ah, ka cJ 13 a)] sa) (va_Qv (fun (_ : Unit) => False) (fun _ _ => True) (rc_A [(h, rO od fa ot ah te id rt bs kn), (ah, ka cJ 13 a)])) (vx_X (fun (_ : Unit) => True) (fun E9 _ t => E9 = xI ∧ va_P D vC [(h, rO od fa ot ah te id rt bs kn), (ah, ka cJ 13 a)] t.heap) (rc_A [(h, rO od fa ot ah te id rt bs kn), (ah, ka cJ 13 a)])) 1 6 (rc_A [(h, rO od fa ot ah te id rt bs kn), (ah, ka cJ 13 a)]) := by
  refine vx_ofW (cc := c_O_hand) (maxL := 4) (ret := none) (by decide) rfl ?_
  intro p e s m args below meth c s₁ B hml ht hv
  obtain ⟨⟨rfl, hP, hK, hD0, hN⟩, hE⟩ := hv
  have hx := B.exec
  have hb := B.bytes
  have hts0 := atoms_spec (ws := ws_O_hand) B.pre
  have hts : ∀ w ∈ kb, w.before _ s = true := fun w h => hts0 w (List.mem_cons_of_mem _ h)
  have hown : s.vm.findClass R_O = some m.cls := findClass_of_methodNamed B.named
  have hlocks := B.notSynchronized
  have hD := rc_self hD0
  generalize hAe : rc_A [(h, rO od fa ot ah te id rt bs kn), (ah, ka cJ 13 a)] = A at hD hE ⊢
  have hS : va_S A s.heap s.heap [] := va_S.rf
  have hl := lv_entry ([.ref h, .int (iz zp), .long v]) (n := 4) (Nat.le_of_ble_eq_true rfl)
  rw [lg_entry_eq]
  generalize (lg_sl ([.ref h, .int (iz zp), .long v]) ++ List.replicate (4 - (lg_sl ([.ref h, .int (iz zp), .long v])).length) Slot.unset).toArray = ls at hl ⊢
  have hl : lv_has ls 4 [(0, .ref h), (1, .int (iz zp)), (2, .long v)] := hl
  refine lv_aload_n hx hb d_O_hand_0 rfl (lv_at hl 0 rfl) ?_
  refine lv_iload_n hx hb d_O_hand_1 rfl (lv_at hl 1 rfl) ?_
  refine rx_callv (vx_runV (As := [.int (iz zp)]) (rest := []) ⟨hx, hb, hml, hown, hts⟩ (x_O_needHandPower l D hst sa cJ cO h fa ot ah te id rt bs od kn zp hzpl hzph hbad) (cwV 1 hts (kb_gi (kb_c kw_308 (kb_c kw_310 (kb_c ks_O_needHandPower (kb_c kw_1 (kb_c kw_311 kb_all)))))) rfl rfl rfl (by decide +kernel) ⟨(Nat.le_of_ble_eq_true rfl), (Nat.le_of_ble_eq_true rfl)⟩) ⟨rx_blind, va_recv hK hP (ci := 2) (q0 := 0) rfl rfl, fun U h8 h9 => ⟨(rc_pre hP hD hK hN [0] rfl rfl [] rfl) U h8 h9, hE.go hS (rc_in hD (is := [0]) rfl) h8 h9⟩⟩ rfl rfl hl.1 rfl (lv_room (Nat.le_of_ble_eq_true rfl)) d_O_hand_2 ⟨(Nat.le_of_ble_eq_true rfl), (Nat.le_of_ble_eq_true rfl)⟩) hP hD hS [0] rfl (fun _ => rfl) (fun ce q9 u1 H locs hw1 hP hD hS hce hcv hcl => ?_)
  have hP : va_P D vC [(h, rO od fa ot ah te id rt bs kn), (ah, ka cJ 13 a)] H := hP
  have hD : va_D A [(h, rO od fa ot ah te id rt bs kn), (ah, ka cJ 13 a)] := hD
  exact vx_out (fun x h9 => (ht x h9).elim) hlocks hce hcv hcl (fun t htt _ => ⟨(), trivial, ⟨rfl, rc_out htt hP⟩, hS.F htt⟩) hS.2.2 (Nat.le_of_ble_eq_true rfl) (Nat.le_of_ble_eq_true rfl)
set_option maxHeartbeats 4000000 in
set_option maxRecDepth 100000 in
theorem x_O_places (l : Launch) (D : va_G) (hst : l.stackTraces = false) (sa : Nat → Nat) (cJ cO : ClassId) (h fa ot ah te id rt bs : Nat) (od kn : Int) (fo wh pt rs sq on tw : Nat) (cn : Int) (Fo Y P r S a1 b1 : Nat → ro_K) (fr : Nat → Nat) (F : Nat → Nat → ro_K) (o : Nat) (hod : od = (o : Int)) (ho3 : o ≤ 3) (hz0 : kd (F o) 5 < 0) : vx_Met l y_O_places ws_O_places ({ frames := 7, cells := 1, slots := 6, locals := 130 }) (rx_Px D vC [(cJ, .long), (cO, .array .long)] [.ref h] ([(h, rO od fa ot ah te id rt bs kn), (fa, go cO 4 fr), (rt, rR fo cn wh pt rs sq on tw), (fo, ka cJ 4 Fo), (wh, ka cJ 5 Y), (pt, ka cJ 5 P), (rs, ka cJ 5 r), (sq, ka cJ 8 S), (on, ka cJ 5 a1), (tw, ka cJ 5 b1)] ++ gs 4 fr cJ 5 F) sa) (va_Qi (fun (_ : Int32) (_ : Unit) => False) (fun _ _ => True) (rc_A ([(h, rO od fa ot ah te id rt bs kn), (fa, go cO 4 fr), (rt, rR fo cn wh pt rs sq on tw), (fo, ka cJ 4 Fo), (wh, ka cJ 5 Y), (pt, ka cJ 5 P), (rs, ka cJ 5 r), (sq, ka cJ 8 S), (on, ka cJ 5 a1), (tw, ka cJ 5 b1)] ++ gs 4 fr cJ 5 F))) (vx_X (fun (_ : Unit) => True) (fun E9 _ t => E9 = xS ∧ va_P D vC ([(h, rO od fa ot ah te id rt bs kn), (fa, go cO 4 fr), (rt, rR fo cn wh pt rs sq on tw), (fo, ka cJ 4 Fo), (wh, ka cJ 5 Y), (pt, ka cJ 5 P), (rs, ka cJ 5 r), (sq, ka cJ 8 S), (on, ka cJ 5 a1), (tw, ka cJ 5 b1)] ++ gs 4 fr cJ 5 F) t.heap) (rc_A ([(h, rO od fa ot ah te id rt bs kn), (fa, go cO 4 fr), (rt, rR fo cn wh pt rs sq on tw), (fo, ka cJ 4 Fo), (wh, ka cJ 5 Y), (pt, ka cJ 5 P), (rs, ka cJ 5 r), (sq, ka cJ 8 S), (on, ka cJ 5 a1), (tw, ka cJ 5 b1)] ++ gs 4 fr cJ 5 F))) 1 6 (rc_A ([(h, rO od fa ot ah te id rt bs kn), (fa, go cO 4 fr), (rt, rR fo cn wh pt rs sq on tw), (fo, ka cJ 4 Fo), (wh, ka cJ 5 Y), (pt, ka cJ 5 P), (rs, ka cJ 5 r), (sq, ka cJ 8 S), (on, ka cJ 5 a1), (tw, ka cJ 5 b1)] ++ gs 4 fr cJ 5 F)) := by
  refine vx_ofW (cc := c_O_places) (maxL := 1) (ret := (some .int)) (by decide) rfl ?_
  intro p e s m args below meth c s₁ B hml ht hv
  obtain ⟨⟨rfl, hP, hK, hD0, hN⟩, hE⟩ := hv
  have hx := B.exec
  have hb := B.bytes
  have hts0 := atoms_spec (ws := ws_O_places) B.pre
  have hts : ∀ w ∈ kb, w.before _ s = true := fun w h => hts0 w (List.mem_cons_of_mem _ h)
  have hown : s.vm.findClass R_O = some m.cls := findClass_of_methodNamed B.named
  have hlocks := B.notSynchronized
  have hD := rc_self hD0
  generalize hAe : rc_A ([(h, rO od fa ot ah te id rt bs kn), (fa, go cO 4 fr), (rt, rR fo cn wh pt rs sq on tw), (fo, ka cJ 4 Fo), (wh, ka cJ 5 Y), (pt, ka cJ 5 P), (rs, ka cJ 5 r), (sq, ka cJ 8 S), (on, ka cJ 5 a1), (tw, ka cJ 5 b1)] ++ gs 4 fr cJ 5 F) = A at hD hE ⊢
  have hS : va_S A s.heap s.heap [] := va_S.rf
  have hl := lv_entry ([.ref h]) (n := 1) (Nat.le_of_ble_eq_true rfl)
  rw [lg_entry_eq]
  generalize (lg_sl ([.ref h]) ++ List.replicate (1 - (lg_sl ([.ref h])).length) Slot.unset).toArray = ls at hl ⊢
  have hl : lv_has ls 1 [(0, .ref h)] := hl
  refine lv_aload_n hx hb d_O_places_0 rfl (lv_at hl 0 rfl) ?_
  refine rxT_callv (vx_runV (As := []) (rest := []) ⟨hx, hb, hml, hown, hts⟩ (x_O_findPlaces l D hst sa cJ cO h fa ot ah te id rt bs od kn fo wh pt rs sq on tw cn Fo Y P r S a1 b1 fr F o hod ho3 hz0) (cwV 0 hts (kb_gi (kb_c kw_321 (kb_c kw_323 (kb_c ks_O_findPlaces (kb_c kw_1 (kb_c kw_324 kb_all)))))) rfl rfl rfl (by decide +kernel) ⟨(Nat.le_of_ble_eq_true rfl), (Nat.le_of_ble_eq_true rfl)⟩) ⟨rx_blind, va_recv hK hP (ci := 2) (q0 := 0) rfl rfl, fun U h8 h9 => ⟨(rs_pre (Y := []) (rs_nil hP) (rs_nilD hD) hK hN [0, 1, 2, 3, 4, 5, 6, 7, 8, 9] rfl rfl [0, 1] rfl) U h8 h9, hE.go hS (rs_in (rs_nilD hD) (is := [0, 1, 2, 3, 4, 5, 6, 7, 8, 9]) rfl) h8 h9⟩⟩ rfl rfl hl.1 rfl (lv_room (Nat.le_of_ble_eq_true rfl)) d_O_places_1 ⟨(Nat.le_of_ble_eq_true rfl), (Nat.le_of_ble_eq_true rfl)⟩) (rs_nil hP) (rs_nilD hD) hS [0, 1, 2, 3, 4, 5, 6, 7, 8, 9] rfl (fun _ => rfl) (fun _ => gs_adr _ _ _ _ _ _) (fun ce q9 u1 H locs hw1 hP hD hS hce hcv hcl => ?_)
  have hP := rs_nilR hP
  have hD := rs_nilRD hD
  have hP : va_P D vC ([(h, rO od fa ot ah te id rt bs kn), (fa, go cO 4 fr), (rt, rR fo cn wh pt rs sq on tw), (fo, ka cJ 4 Fo), (wh, ka cJ 5 Y), (pt, ka cJ 5 P), (rs, ka cJ 5 r), (sq, ka cJ 8 S), (on, ka cJ 5 a1), (tw, ka cJ 5 b1)] ++ gs 4 fr cJ 5 F) H := hP
  have hD : va_D A ([(h, rO od fa ot ah te id rt bs kn), (fa, go cO 4 fr), (rt, rR fo cn wh pt rs sq on tw), (fo, ka cJ 4 Fo), (wh, ka cJ 5 Y), (pt, ka cJ 5 P), (rs, ka cJ 5 r), (sq, ka cJ 8 S), (on, ka cJ 5 a1), (tw, ka cJ 5 b1)] ++ gs 4 fr cJ 5 F) := hD
  exact vx_out (fun x h9 => (ht x h9).elim) hlocks hce hcv hcl (fun t htt _ => ⟨(), trivial, ⟨rfl, rc_out htt hP⟩, hS.F htt⟩) hS.2.2 (Nat.le_of_ble_eq_true rfl) (Nat.le_of_ble_eq_true rfl)
set_option maxHeartbeats 4000000 in
set_option maxRecDepth 100000 in
theorem x_O_place (l : Launch) (D : va_G) (hst : l.stackTraces = false) (sa : Nat → Nat) (cJ cO : ClassId) (h fa ot ah te id rt bs : Nat) (od kn : Int) (fo wh pt rs sq on tw : Nat) (cn : Int) (Fo Y P r S a1 b1 : Nat → ro_K) (fr : Nat → Nat) (F : Nat → Nat → ro_K) (zk : Int) (o : Nat) (hod : od = (o : Int)) (ho3 : o ≤ 3) (hzkl : -2147483648 ≤ zk) (hzkh : zk < 2147483648) (hz0 : kd (F o) 5 < 0) : vx_Met l y_O_place ws_O_place ({ frames := 7, cells := 1, slots := 6, locals := 130 }) (rx_Px D vC [(cJ, .long), (cO, .array .long)] [.ref h, .int (iz zk)] ([(h, rO od fa ot ah te id rt bs kn), (fa, go cO 4 fr), (rt, rR fo cn wh pt rs sq on tw), (fo, ka cJ 4 Fo), (wh, ka cJ 5 Y), (pt, ka cJ 5 P), (rs, ka cJ 5 r), (sq, ka cJ 8 S), (on, ka cJ 5 a1), (tw, ka cJ 5 b1)] ++ gs 4 fr cJ 5 F) sa) (va_Qi (fun (_ : Int32) (_ : Unit) => False) (fun _ _ => True) (rc_A ([(h, rO od fa ot ah te id rt bs kn), (fa, go cO 4 fr), (rt, rR fo cn wh pt rs sq on tw), (fo, ka cJ 4 Fo), (wh, ka cJ 5 Y), (pt, ka cJ 5 P), (rs, ka cJ 5 r), (sq, ka cJ 8 S), (on, ka cJ 5 a1), (tw, ka cJ 5 b1)] ++ gs 4 fr cJ 5 F))) (vx_X (fun (_ : Unit) => True) (fun E9 _ t => E9 = xS ∧ va_P D vC ([(h, rO od fa ot ah te id rt bs kn), (fa, go cO 4 fr), (rt, rR fo cn wh pt rs sq on tw), (fo, ka cJ 4 Fo), (wh, ka cJ 5 Y), (pt, ka cJ 5 P), (rs, ka cJ 5 r), (sq, ka cJ 8 S), (on, ka cJ 5 a1), (tw, ka cJ 5 b1)] ++ gs 4 fr cJ 5 F) t.heap) (rc_A ([(h, rO od fa ot ah te id rt bs kn), (fa, go cO 4 fr), (rt, rR fo cn wh pt rs sq on tw), (fo, ka cJ 4 Fo), (wh, ka cJ 5 Y), (pt, ka cJ 5 P), (rs, ka cJ 5 r), (sq, ka cJ 8 S), (on, ka cJ 5 a1), (tw, ka cJ 5 b1)] ++ gs 4 fr cJ 5 F))) 1 6 (rc_A ([(h, rO od fa ot ah te id rt bs kn), (fa, go cO 4 fr), (rt, rR fo cn wh pt rs sq on tw), (fo, ka cJ 4 Fo), (wh, ka cJ 5 Y), (pt, ka cJ 5 P), (rs, ka cJ 5 r), (sq, ka cJ 8 S), (on, ka cJ 5 a1), (tw, ka cJ 5 b1)] ++ gs 4 fr cJ 5 F)) := by
  refine vx_ofW (cc := c_O_place) (maxL := 2) (ret := (some .int)) (by decide) rfl ?_
  intro p e s m args below meth c s₁ B hml ht hv
  obtain ⟨⟨rfl, hP, hK, hD0, hN⟩, hE⟩ := hv
  have hx := B.exec
  have hb := B.bytes
  have hts0 := atoms_spec (ws := ws_O_place) B.pre
  have hts : ∀ w ∈ kb, w.before _ s = true := fun w h => hts0 w (List.mem_cons_of_mem _ h)
  have hown : s.vm.findClass R_O = some m.cls := findClass_of_methodNamed B.named
  have hlocks := B.notSynchronized
  have hD := rc_self hD0
  generalize hAe : rc_A ([(h, rO od fa ot ah te id rt bs kn), (fa, go cO 4 fr), (rt, rR fo cn wh pt rs sq on tw), (fo, ka cJ 4 Fo), (wh, ka cJ 5 Y), (pt, ka cJ 5 P), (rs, ka cJ 5 r), (sq, ka cJ 8 S), (on, ka cJ 5 a1), (tw, ka cJ 5 b1)] ++ gs 4 fr cJ 5 F) = A at hD hE ⊢
  have hS : va_S A s.heap s.heap [] := va_S.rf
  have hl := lv_entry ([.ref h, .int (iz zk)]) (n := 2) (Nat.le_of_ble_eq_true rfl)
  rw [lg_entry_eq]
  generalize (lg_sl ([.ref h, .int (iz zk)]) ++ List.replicate (2 - (lg_sl ([.ref h, .int (iz zk)])).length) Slot.unset).toArray = ls at hl ⊢
  have hl : lv_has ls 2 [(0, .ref h), (1, .int (iz zk))] := hl
  refine lv_aload_n hx hb d_O_place_0 rfl (lv_at hl 0 rfl) ?_
  refine rxT_callv (vx_runV (As := []) (rest := []) ⟨hx, hb, hml, hown, hts⟩ (x_O_findPlaces l D hst sa cJ cO h fa ot ah te id rt bs od kn fo wh pt rs sq on tw cn Fo Y P r S a1 b1 fr F o hod ho3 hz0) (cwV 0 hts (kb_gi (kb_c kw_321 (kb_c kw_323 (kb_c ks_O_findPlaces (kb_c kw_1 (kb_c kw_324 kb_all)))))) rfl rfl rfl (by decide +kernel) ⟨(Nat.le_of_ble_eq_true rfl), (Nat.le_of_ble_eq_true rfl)⟩) ⟨rx_blind, va_recv hK hP (ci := 2) (q0 := 0) rfl rfl, fun U h8 h9 => ⟨(rs_pre (Y := []) (rs_nil hP) (rs_nilD hD) hK hN [0, 1, 2, 3, 4, 5, 6, 7, 8, 9] rfl rfl [0, 1] rfl) U h8 h9, hE.go hS (rs_in (rs_nilD hD) (is := [0, 1, 2, 3, 4, 5, 6, 7, 8, 9]) rfl) h8 h9⟩⟩ rfl rfl hl.1 rfl (lv_room (Nat.le_of_ble_eq_true rfl)) d_O_place_1 ⟨(Nat.le_of_ble_eq_true rfl), (Nat.le_of_ble_eq_true rfl)⟩) (rs_nil hP) (rs_nilD hD) hS [0, 1, 2, 3, 4, 5, 6, 7, 8, 9] rfl (fun _ => rfl) (fun _ => gs_adr _ _ _ _ _ _) (fun ce q9 u1 H locs hw1 hP hD hS hce hcv hcl => ?_)
  have hP := rs_nilR hP
  have hD := rs_nilRD hD
  have hP : va_P D vC ([(h, rO od fa ot ah te id rt bs kn), (fa, go cO 4 fr), (rt, rR fo cn wh pt rs sq on tw), (fo, ka cJ 4 Fo), (wh, ka cJ 5 Y), (pt, ka cJ 5 P), (rs, ka cJ 5 r), (sq, ka cJ 8 S), (on, ka cJ 5 a1), (tw, ka cJ 5 b1)] ++ gs 4 fr cJ 5 F) H := hP
  have hD : va_D A ([(h, rO od fa ot ah te id rt bs kn), (fa, go cO 4 fr), (rt, rR fo cn wh pt rs sq on tw), (fo, ka cJ 4 Fo), (wh, ka cJ 5 Y), (pt, ka cJ 5 P), (rs, ka cJ 5 r), (sq, ka cJ 8 S), (on, ka cJ 5 a1), (tw, ka cJ 5 b1)] ++ gs 4 fr cJ 5 F) := hD
  exact vx_out (fun x h9 => (ht x h9).elim) hlocks hce hcv hcl (fun t htt _ => ⟨(), trivial, ⟨rfl, rc_out htt hP⟩, hS.F htt⟩) hS.2.2 (Nat.le_of_ble_eq_true rfl) (Nat.le_of_ble_eq_true rfl)
set_option maxHeartbeats 4000000 in
set_option maxRecDepth 100000 in
theorem x_O_place_k (l : Launch) (D : va_G) (hst : l.stackTraces = false) (sa : Nat → Nat) (cJ cO : ClassId) (h fa ot ah te id rt bs : Nat) (od kn : Int) (fo wh pt rs sq on tw : Nat) (cn : Int) (Fo Y P r S a1 b1 : Nat → ro_K) (fr : Nat → Nat) (F : Nat → Nat → ro_K) (zk : Int) (o : Nat) (hod : od = (o : Int)) (ho3 : o ≤ 3) (hzkl : -2147483648 ≤ zk) (hzkh : zk < 2147483648) (hF : 0 ≤ kd (F o) 5) (hk : zk < 0 ∨ ∀ n Fo, rts (F o) n Fo → (n : Int) ≤ zk) : vx_Met l y_O_place ws_O_place ({ frames := 7, cells := 1, slots := 6, locals := 153 }) (rx_Px D vC [(cJ, .long), (cO, .array .long)] [.ref h, .int (iz zk)] ([(h, rO od fa ot ah te id rt bs kn), (fa, go cO 4 fr), (rt, rR fo cn wh pt rs sq on tw), (fo, ka cJ 4 Fo), (wh, ka cJ 5 Y), (pt, ka cJ 5 P), (rs, ka cJ 5 r), (sq, ka cJ 8 S), (on, ka cJ 5 a1), (tw, ka cJ 5 b1)] ++ gs 4 fr cJ 5 F) sa) (va_Qi (fun (_ : Int32) (_ : Unit) => False) (fun _ _ => True) (rc_A ([(h, rO od fa ot ah te id rt bs kn), (fa, go cO 4 fr), (rt, rR fo cn wh pt rs sq on tw), (fo, ka cJ 4 Fo), (wh, ka cJ 5 Y), (pt, ka cJ 5 P), (rs, ka cJ 5 r), (sq, ka cJ 8 S), (on, ka cJ 5 a1), (tw, ka cJ 5 b1)] ++ gs 4 fr cJ 5 F))) (vx_X (fun (u : rS8) => rts (F o) u.1 u.2.1) (fun E9 u t => E9 = xI ∧ va_P D vC ([(h, rO od fa ot ah te id rt bs kn), (fa, go cO 4 fr), (rt, rR fo (u.1 : Int) wh pt rs sq on tw), (fo, ka cJ 4 u.2.1), (wh, ka cJ 5 u.2.2.1), (pt, ka cJ 5 u.2.2.2.1), (rs, ka cJ 5 u.2.2.2.2.1), (sq, ka cJ 8 u.2.2.2.2.2.1), (on, ka cJ 5 u.2.2.2.2.2.2.1), (tw, ka cJ 5 u.2.2.2.2.2.2.2)] ++ gs 4 fr cJ 5 F) t.heap) (rc_A ([(h, rO od fa ot ah te id rt bs kn), (fa, go cO 4 fr), (rt, rR fo cn wh pt rs sq on tw), (fo, ka cJ 4 Fo), (wh, ka cJ 5 Y), (pt, ka cJ 5 P), (rs, ka cJ 5 r), (sq, ka cJ 8 S), (on, ka cJ 5 a1), (tw, ka cJ 5 b1)] ++ gs 4 fr cJ 5 F))) 1 6 (rc_A ([(h, rO od fa ot ah te id rt bs kn), (fa, go cO 4 fr), (rt, rR fo cn wh pt rs sq on tw), (fo, ka cJ 4 Fo), (wh, ka cJ 5 Y), (pt, ka cJ 5 P), (rs, ka cJ 5 r), (sq, ka cJ 8 S), (on, ka cJ 5 a1), (tw, ka cJ 5 b1)] ++ gs 4 fr cJ 5 F)) := by
  refine vx_ofW (cc := c_O_place) (maxL := 2) (ret := (some .int)) (by decide) rfl ?_
  intro p e s m args below meth c s₁ B hml ht hv
  obtain ⟨⟨rfl, hP, hK, hD0, hN⟩, hE⟩ := hv
  have hx := B.exec
  have hb := B.bytes
  have hts0 := atoms_spec (ws := ws_O_place) B.pre
  have hts : ∀ w ∈ kb, w.before _ s = true := fun w h => hts0 w (List.mem_cons_of_mem _ h)
  have hown : s.vm.findClass R_O = some m.cls := findClass_of_methodNamed B.named
  have hlocks := B.notSynchronized
  have hD := rc_self hD0
  generalize hAe : rc_A ([(h, rO od fa ot ah te id rt bs kn), (fa, go cO 4 fr), (rt, rR fo cn wh pt rs sq on tw), (fo, ka cJ 4 Fo), (wh, ka cJ 5 Y), (pt, ka cJ 5 P), (rs, ka cJ 5 r), (sq, ka cJ 8 S), (on, ka cJ 5 a1), (tw, ka cJ 5 b1)] ++ gs 4 fr cJ 5 F) = A at hD hE ⊢
  have hS : va_S A s.heap s.heap [] := va_S.rf
  have hl := lv_entry ([.ref h, .int (iz zk)]) (n := 2) (Nat.le_of_ble_eq_true rfl)
  rw [lg_entry_eq]
  generalize (lg_sl ([.ref h, .int (iz zk)]) ++ List.replicate (2 - (lg_sl ([.ref h, .int (iz zk)])).length) Slot.unset).toArray = ls at hl ⊢
  have hl : lv_has ls 2 [(0, .ref h), (1, .int (iz zk))] := hl
  refine lv_aload_n hx hb d_O_place_0 rfl (lv_at hl 0 rfl) ?_
  refine rs_callv (va_runV (As := []) (rest := []) ⟨hx, hb, hml, hown, hts⟩ (m_O_findPlaces l D cJ cO h fa ot ah te id rt bs od kn fo wh pt rs sq on tw cn Fo Y P r S a1 b1 fr F o hod ho3 hF) (cwV 0 hts (kb_gi (kb_c kw_321 (kb_c kw_323 (kb_c ks_O_findPlaces (kb_c kw_1 (kb_c kw_324 kb_all)))))) rfl rfl rfl (by decide +kernel) ⟨Nat.le_of_ble_eq_true rfl, Nat.le_of_ble_eq_true rfl⟩) ⟨rc_blind, va_recv hK hP (ci := 2) (q0 := 0) rfl rfl, rs_pre (Y := []) (rs_nil hP) (rs_nilD hD) hK hN [0, 1, 2, 3, 4, 5, 6, 7, 8, 9] rfl rfl [0, 1] rfl⟩ rfl rfl hl.1 rfl (lv_room (Nat.le_of_ble_eq_true rfl)) d_O_place_1 ⟨Nat.zero_le _, Nat.zero_le _⟩) hP hD hS [0, 1, 2, 3, 4, 5, 6, 7, 8, 9] rfl (fun _ => rfl) (fun _ => gs_adr _ _ _ _ _ _) (fun u1 H locs hw1 hP hD hS => ?_)
  have hP : va_P D vC ([(h, rO od fa ot ah te id rt bs kn), (fa, go cO 4 fr), (rt, rR fo (u1.1 : Int) wh pt rs sq on tw), (fo, ka cJ 4 u1.2.1), (wh, ka cJ 5 u1.2.2.1), (pt, ka cJ 5 u1.2.2.2.1), (rs, ka cJ 5 u1.2.2.2.2.1), (sq, ka cJ 8 u1.2.2.2.2.2.1), (on, ka cJ 5 u1.2.2.2.2.2.2.1), (tw, ka cJ 5 u1.2.2.2.2.2.2.2)] ++ gs 4 fr cJ 5 F) H := hP
  have hD : va_D A ([(h, rO od fa ot ah te id rt bs kn), (fa, go cO 4 fr), (rt, rR fo (u1.1 : Int) wh pt rs sq on tw), (fo, ka cJ 4 u1.2.1), (wh, ka cJ 5 u1.2.2.1), (pt, ka cJ 5 u1.2.2.2.1), (rs, ka cJ 5 u1.2.2.2.2.1), (sq, ka cJ 8 u1.2.2.2.2.2.1), (on, ka cJ 5 u1.2.2.2.2.2.2.1), (tw, ka cJ 5 u1.2.2.2.2.2.2.2)] ++ gs 4 fr cJ 5 F) := hD
  have hk2 := fun h9 : ∀ n Fo, rts (F o) n Fo → (n : Int) ≤ zk => h9 _ _ hw1
  have hk3 := hw1.1
  refine lv_iload_n hx hb d_O_place_4 rfl (lv_at hl 1 rfl) ?_
  refine rz_if_lt (tgt := 19) hx hb d_O_place_5 (by decide) (fun hc2 => ?_) (fun hc2 => ?_)
  · exact vx_throwS hx hb hst (own := "RationalOdes") (cls := xI) (text := "no such place") (names := xN) (ik := 81) (is := 83) (ic := 85) (sa := sa 3) hown (by decide +kernel) (by decide +kernel) (hts _ kw_226) (hts _ kw_9) hE.2.1.2.2.2.1 (xh_I hts hE.1) xo_I hE.2.2.1 hE.2.2.2 hS (by rw [hml]; exact hl.1) d_O_place_19 d_O_place_22 d_O_place_23 d_O_place_25 d_O_place_28 (fun x h9 => (ht x h9).elim) (Nat.le_of_ble_eq_true rfl) (Nat.le_of_ble_eq_true rfl) (Nat.le_of_ble_eq_true rfl) (Nat.le_of_ble_eq_true rfl) hlocks (fun t _ h1 h2 => ⟨u1, hw1, ⟨rfl, (rx_keep hP hS h1 h2).1⟩, (rx_keep hP hS h1 h2).2⟩) hS.2.2 (Nat.le_of_ble_eq_true rfl) (Nat.le_of_ble_eq_true rfl)
  · refine lv_iload_n hx hb d_O_place_8 rfl (lv_at hl 1 rfl) ?_
    refine lv_aload_n hx hb d_O_place_9 rfl (lv_at hl 0 rfl) ?_
    refine va_get (D := D) (ci := 2) (v := .ref rt) (C := R_O) (T := T_O) (N := 9) hx hb hts in_O hown hK hP 0 rfl rfl 6 (by decide) (hts _ kw_89) (fun _ h9 => h9) rfl d_O_place_10 ?_
    refine rc_calli (va_runV (As := []) (rest := [.int (iz zk)]) ⟨hx, hb, hml, hown, hts⟩ (m_R_howMany l D cJ rt fo wh pt rs sq on tw (u1.1 : Int)) (cwV 0 hts (kb_gi (kb_c kw_399 (kb_c kw_400 (kb_c kw_401 (kb_c kw_2 (kb_c kw_402 kb_all)))))) rfl rfl rfl (by decide +kernel) ⟨Nat.le_of_ble_eq_true rfl, Nat.le_of_ble_eq_true rfl⟩) ⟨rc_blind, va_recv hK hP (ci := 1) (q0 := 2) rfl rfl, rc_pre hP hD hK hN [2] rfl rfl [] rfl⟩ rfl rfl hl.1 rfl (lv_room (Nat.le_of_ble_eq_true rfl)) d_O_place_13 ⟨Nat.zero_le _, Nat.zero_le _⟩) hP hD hS [2] rfl (fun _ => rfl) (fun r3 u4 H locs hw4 hP hD hS => ?_)
    subst hw4
    have hP : va_P D vC ([(h, rO od fa ot ah te id rt bs kn), (fa, go cO 4 fr), (rt, rR fo (u1.1 : Int) wh pt rs sq on tw), (fo, ka cJ 4 u1.2.1), (wh, ka cJ 5 u1.2.2.1), (pt, ka cJ 5 u1.2.2.2.1), (rs, ka cJ 5 u1.2.2.2.2.1), (sq, ka cJ 8 u1.2.2.2.2.2.1), (on, ka cJ 5 u1.2.2.2.2.2.2.1), (tw, ka cJ 5 u1.2.2.2.2.2.2.2)] ++ gs 4 fr cJ 5 F) H := hP
    have hD : va_D A ([(h, rO od fa ot ah te id rt bs kn), (fa, go cO 4 fr), (rt, rR fo (u1.1 : Int) wh pt rs sq on tw), (fo, ka cJ 4 u1.2.1), (wh, ka cJ 5 u1.2.2.1), (pt, ka cJ 5 u1.2.2.2.1), (rs, ka cJ 5 u1.2.2.2.2.1), (sq, ka cJ 8 u1.2.2.2.2.2.1), (on, ka cJ 5 u1.2.2.2.2.2.2.1), (tw, ka cJ 5 u1.2.2.2.2.2.2.2)] ++ gs 4 fr cJ 5 F) := hD
    refine rz_icmp_lt (tgt := 29) hx hb d_O_place_16 (by decide) (fun hc5 => ?_) (fun hc5 => ?_)
    · exact (hk.elim (fun h9 => by omega) (fun h9 => by have := hk2 h9; omega))
    · exact vx_throwS hx hb hst (own := "RationalOdes") (cls := xI) (text := "no such place") (names := xN) (ik := 81) (is := 83) (ic := 85) (sa := sa 3) hown (by decide +kernel) (by decide +kernel) (hts _ kw_226) (hts _ kw_9) hE.2.1.2.2.2.1 (xh_I hts hE.1) xo_I hE.2.2.1 hE.2.2.2 hS (by rw [hml]; exact hl.1) d_O_place_19 d_O_place_22 d_O_place_23 d_O_place_25 d_O_place_28 (fun x h9 => (ht x h9).elim) (Nat.le_of_ble_eq_true rfl) (Nat.le_of_ble_eq_true rfl) (Nat.le_of_ble_eq_true rfl) (Nat.le_of_ble_eq_true rfl) hlocks (fun t _ h1 h2 => ⟨u1, hw1, ⟨rfl, (rx_keep hP hS h1 h2).1⟩, (rx_keep hP hS h1 h2).2⟩) hS.2.2 (Nat.le_of_ble_eq_true rfl) (Nat.le_of_ble_eq_true rfl)
set_option maxHeartbeats 4000000 in
set_option maxRecDepth 100000 in
theorem x_O_level (l : Launch) (D : va_G) (hst : l.stackTraces = false) (sa : Nat → Nat) (cJ cO : ClassId) (h fa ot ah te id rt bs : Nat) (od kn : Int) (fr er : Nat → Nat) (E F : Nat → Nat → ro_K) (ze : Int) (v : Int64) (o : Nat) (hod : od = (o : Int)) (ho3 : o ≤ 3) (haz : azB F (o + 1) = true) : vx_Met l y_O_level ws_O_level ({ frames := 7, cells := 1, slots := 6, locals := 130 }) (rx_Px D vC [(cJ, .long), (cO, .array .long)] [.ref h, .int (iz ze), .long v] (([(h, rO od fa ot ah te id rt bs kn), (fa, go cO 4 fr), (ot, go cO 4 er)] ++ gs 4 er cJ 5 E) ++ gs 4 fr cJ 5 F) sa) (va_Qi (fun (_ : Int32) (_ : Unit) => False) (fun _ _ => True) (rc_A (([(h, rO od fa ot ah te id rt bs kn), (fa, go cO 4 fr), (ot, go cO 4 er)] ++ gs 4 er cJ 5 E) ++ gs 4 fr cJ 5 F))) (vx_X (fun (_ : Unit) => True) (fun E9 _ t => E9 = xS ∧ va_P D vC (([(h, rO od fa ot ah te id rt bs kn), (fa, go cO 4 fr), (ot, go cO 4 er)] ++ gs 4 er cJ 5 E) ++ gs 4 fr cJ 5 F) t.heap) (rc_A (([(h, rO od fa ot ah te id rt bs kn), (fa, go cO 4 fr), (ot, go cO 4 er)] ++ gs 4 er cJ 5 E) ++ gs 4 fr cJ 5 F))) 1 6 (rc_A (([(h, rO od fa ot ah te id rt bs kn), (fa, go cO 4 fr), (ot, go cO 4 er)] ++ gs 4 er cJ 5 E) ++ gs 4 fr cJ 5 F)) := by
  refine vx_ofW (cc := c_O_level) (maxL := 4) (ret := (some .int)) (by decide) rfl ?_
  intro p e s m args below meth c s₁ B hml ht hv
  obtain ⟨⟨rfl, hP, hK, hD0, hN⟩, hE⟩ := hv
  have hx := B.exec
  have hb := B.bytes
  have hts0 := atoms_spec (ws := ws_O_level) B.pre
  have hts : ∀ w ∈ kb, w.before _ s = true := fun w h => hts0 w (List.mem_cons_of_mem _ h)
  have hown : s.vm.findClass R_O = some m.cls := findClass_of_methodNamed B.named
  have hlocks := B.notSynchronized
  have hD := rc_self hD0
  generalize hAe : rc_A (([(h, rO od fa ot ah te id rt bs kn), (fa, go cO 4 fr), (ot, go cO 4 er)] ++ gs 4 er cJ 5 E) ++ gs 4 fr cJ 5 F) = A at hD hE ⊢
  have hS : va_S A s.heap s.heap [] := va_S.rf
  have hl := lv_entry ([.ref h, .int (iz ze), .long v]) (n := 4) (Nat.le_of_ble_eq_true rfl)
  rw [lg_entry_eq]
  generalize (lg_sl ([.ref h, .int (iz ze), .long v]) ++ List.replicate (4 - (lg_sl ([.ref h, .int (iz ze), .long v])).length) Slot.unset).toArray = ls at hl ⊢
  have hl : lv_has ls 4 [(0, .ref h), (1, .int (iz ze)), (2, .long v)] := hl
  refine lv_aload_n hx hb d_O_level_0 rfl (lv_at hl 0 rfl) ?_
  refine lv_iload_n hx hb d_O_level_1 rfl (lv_at hl 1 rfl) ?_
  refine lv_lload_n hx hb d_O_level_2 rfl (lv_at hl 2 rfl) ?_
  refine rxT_calli (vx_runV (As := [.int (iz ze), .long v]) (rest := []) ⟨hx, hb, hml, hown, hts⟩ (x_O_goTo_S l D hst sa cJ cO h fa ot ah te id rt bs od kn fr er E F ze v o hod ho3 haz) (cwV 2 hts (kb_gi (kb_c kw_422 (kb_c kw_424 (kb_c ks_O_goTo (kb_c kw_1 (kb_c kw_425 kb_all)))))) rfl rfl rfl (by decide +kernel) ⟨(Nat.le_of_ble_eq_true rfl), (Nat.le_of_ble_eq_true rfl)⟩) ⟨rx_blind, va_recv hK hP (ci := 2) (q0 := 0) rfl rfl, fun U h8 h9 => ⟨(rs_pre (Y := []) (rs_nil (rs_a_2_0 hP)) (rs_nilD (rs_aD_2_0 hD)) hK hN [0, 1, 2] rfl rfl [0, 1] rfl) U h8 h9, hE.go hS (rs_in (rs_nilD (rs_aD_2_0 hD)) (is := [0, 1, 2]) rfl) h8 h9⟩⟩ rfl rfl hl.1 rfl (lv_room (Nat.le_of_ble_eq_true rfl)) d_O_level_3 ⟨(Nat.le_of_ble_eq_true rfl), (Nat.le_of_ble_eq_true rfl)⟩) (rs_nil (rs_a_2_0 hP)) (rs_nilD (rs_aD_2_0 hD)) hS [0, 1, 2] rfl (fun _ => rfl) (fun _ => gs_adr2 (gs_adr _ _ _ _ _ _) (gs_adr _ _ _ _ _ _)) (fun ce q9 u1 H locs hw1 hP hD hS hce hcv hcl => ?_)
  have hP := rs_b_2_0 (rs_nilR hP)
  have hD := rs_bD_2_0 (rs_nilRD hD)
  have hP : va_P D vC (([(h, rO od fa ot ah te id rt bs kn), (fa, go cO 4 fr), (ot, go cO 4 er)] ++ gs 4 er cJ 5 E) ++ gs 4 fr cJ 5 F) H := hP
  have hD : va_D A (([(h, rO od fa ot ah te id rt bs kn), (fa, go cO 4 fr), (ot, go cO 4 er)] ++ gs 4 er cJ 5 E) ++ gs 4 fr cJ 5 F) := hD
  exact vx_out (fun x h9 => (ht x h9).elim) hlocks hce hcv hcl (fun t htt _ => ⟨(), trivial, ⟨rfl, rc_out htt hP⟩, hS.F htt⟩) hS.2.2 (Nat.le_of_ble_eq_true rfl) (Nat.le_of_ble_eq_true rfl)
set_option maxHeartbeats 4000000 in
set_option maxRecDepth 100000 in
theorem x_O_regular (l : Launch) (D : va_G) (hst : l.stackTraces = false) (sa : Nat → Nat) (cJ cO : ClassId) (h fa ot ah te id rt bs : Nat) (od kn : Int) (fr er : Nat → Nat) (E F : Nat → Nat → ro_K) (ze : Int) (v : Int64) (o : Nat) (hod : od = (o : Int)) (ho3 : o ≤ 3) (haz : azB F (o + 1) = true) : vx_Met l y_O_regular ws_O_regular ({ frames := 7, cells := 1, slots := 6, locals := 130 }) (rx_Px D vC [(cJ, .long), (cO, .array .long)] [.ref h, .int (iz ze), .long v] (([(h, rO od fa ot ah te id rt bs kn), (fa, go cO 4 fr), (ot, go cO 4 er)] ++ gs 4 er cJ 5 E) ++ gs 4 fr cJ 5 F) sa) (va_Qi (fun (_ : Int32) (_ : Unit) => False) (fun _ _ => True) (rc_A (([(h, rO od fa ot ah te id rt bs kn), (fa, go cO 4 fr), (ot, go cO 4 er)] ++ gs 4 er cJ 5 E) ++ gs 4 fr cJ 5 F))) (vx_X (fun (_ : Unit) => True) (fun E9 _ t => E9 = xS ∧ va_P D vC (([(h, rO od fa ot ah te id rt bs kn), (fa, go cO 4 fr), (ot, go cO 4 er)] ++ gs 4 er cJ 5 E) ++ gs 4 fr cJ 5 F) t.heap) (rc_A (([(h, rO od fa ot ah te id rt bs kn), (fa, go cO 4 fr), (ot, go cO 4 er)] ++ gs 4 er cJ 5 E) ++ gs 4 fr cJ 5 F))) 1 6 (rc_A (([(h, rO od fa ot ah te id rt bs kn), (fa, go cO 4 fr), (ot, go cO 4 er)] ++ gs 4 er cJ 5 E) ++ gs 4 fr cJ 5 F)) := by
  refine vx_ofW (cc := c_O_regular) (maxL := 5) (ret := (some .boolean)) (by decide) rfl ?_
  intro p e s m args below meth c s₁ B hml ht hv
  obtain ⟨⟨rfl, hP, hK, hD0, hN⟩, hE⟩ := hv
  have hx := B.exec
  have hb := B.bytes
  have hts0 := atoms_spec (ws := ws_O_regular) B.pre
  have hts : ∀ w ∈ kb, w.before _ s = true := fun w h => hts0 w (List.mem_cons_of_mem _ h)
  have hown : s.vm.findClass R_O = some m.cls := findClass_of_methodNamed B.named
  have hlocks := B.notSynchronized
  have hD := rc_self hD0
  generalize hAe : rc_A (([(h, rO od fa ot ah te id rt bs kn), (fa, go cO 4 fr), (ot, go cO 4 er)] ++ gs 4 er cJ 5 E) ++ gs 4 fr cJ 5 F) = A at hD hE ⊢
  have hS : va_S A s.heap s.heap [] := va_S.rf
  have hl := lv_entry ([.ref h, .int (iz ze), .long v]) (n := 5) (Nat.le_of_ble_eq_true rfl)
  rw [lg_entry_eq]
  generalize (lg_sl ([.ref h, .int (iz ze), .long v]) ++ List.replicate (5 - (lg_sl ([.ref h, .int (iz ze), .long v])).length) Slot.unset).toArray = ls at hl ⊢
  have hl : lv_has ls 5 [(0, .ref h), (1, .int (iz ze)), (2, .long v)] := hl
  refine lv_aload_n hx hb d_O_regular_0 rfl (lv_at hl 0 rfl) ?_
  refine lv_iload_n hx hb d_O_regular_1 rfl (lv_at hl 1 rfl) ?_
  refine lv_lload_n hx hb d_O_regular_2 rfl (lv_at hl 2 rfl) ?_
  refine rxT_calli (vx_runV (As := [.int (iz ze), .long v]) (rest := []) ⟨hx, hb, hml, hown, hts⟩ (x_O_goTo_S l D hst sa cJ cO h fa ot ah te id rt bs od kn fr er E F ze v o hod ho3 haz) (cwV 2 hts (kb_gi (kb_c kw_422 (kb_c kw_424 (kb_c ks_O_goTo (kb_c kw_1 (kb_c kw_425 kb_all)))))) rfl rfl rfl (by decide +kernel) ⟨(Nat.le_of_ble_eq_true rfl), (Nat.le_of_ble_eq_true rfl)⟩) ⟨rx_blind, va_recv hK hP (ci := 2) (q0 := 0) rfl rfl, fun U h8 h9 => ⟨(rs_pre (Y := []) (rs_nil (rs_a_2_0 hP)) (rs_nilD (rs_aD_2_0 hD)) hK hN [0, 1, 2] rfl rfl [0, 1] rfl) U h8 h9, hE.go hS (rs_in (rs_nilD (rs_aD_2_0 hD)) (is := [0, 1, 2]) rfl) h8 h9⟩⟩ rfl rfl hl.1 rfl (lv_room (Nat.le_of_ble_eq_true rfl)) d_O_regular_3 ⟨(Nat.le_of_ble_eq_true rfl), (Nat.le_of_ble_eq_true rfl)⟩) (rs_nil (rs_a_2_0 hP)) (rs_nilD (rs_aD_2_0 hD)) hS [0, 1, 2] rfl (fun _ => rfl) (fun _ => gs_adr2 (gs_adr _ _ _ _ _ _) (gs_adr _ _ _ _ _ _)) (fun ce q9 u1 H locs hw1 hP hD hS hce hcv hcl => ?_)
  have hP := rs_b_2_0 (rs_nilR hP)
  have hD := rs_bD_2_0 (rs_nilRD hD)
  have hP : va_P D vC (([(h, rO od fa ot ah te id rt bs kn), (fa, go cO 4 fr), (ot, go cO 4 er)] ++ gs 4 er cJ 5 E) ++ gs 4 fr cJ 5 F) H := hP
  have hD : va_D A (([(h, rO od fa ot ah te id rt bs kn), (fa, go cO 4 fr), (ot, go cO 4 er)] ++ gs 4 er cJ 5 E) ++ gs 4 fr cJ 5 F) := hD
  exact vx_out (fun x h9 => (ht x h9).elim) hlocks hce hcv hcl (fun t htt _ => ⟨(), trivial, ⟨rfl, rc_out htt hP⟩, hS.F htt⟩) hS.2.2 (Nat.le_of_ble_eq_true rfl) (Nat.le_of_ble_eq_true rfl)
set_option maxHeartbeats 4000000 in
set_option maxRecDepth 100000 in
theorem x_O_exponent (l : Launch) (D : va_G) (hst : l.stackTraces = false) (sa : Nat → Nat) (cJ cO : ClassId) (h fa ot ah te id rt bs : Nat) (od kn : Int) (fo wh pt rs sq on tw : Nat) (cn : Int) (Fo Y P r S a1 b1 : Nat → ro_K) (fr er : Nat → Nat) (E F : Nat → Nat → ro_K) (J : Nat → ro_K) (ze : Int) (v : Int64) (zk : Int) (o : Nat) (hod : od = (o : Int)) (ho3 : o ≤ 3) (haz : azB F (o + 1) = true) : vx_Met l y_O_exponent ws_O_exponent ({ frames := 7, cells := 1, slots := 6, locals := 130 }) (rx_Px D vC [(cJ, .long), (cO, .array .long)] [.ref h, .int (iz ze), .long v, .int (iz zk)] (([(h, rO od fa ot ah te id rt bs kn), (fa, go cO 4 fr), (ot, go cO 4 er), (id, ka cJ 5 J), (rt, rR fo cn wh pt rs sq on tw), (fo, ka cJ 4 Fo), (wh, ka cJ 5 Y), (pt, ka cJ 5 P), (rs, ka cJ 5 r), (sq, ka cJ 8 S), (on, ka cJ 5 a1), (tw, ka cJ 5 b1)] ++ gs 4 er cJ 5 E) ++ gs 4 fr cJ 5 F) sa) (va_Qi (fun (_ : Int32) (_ : Unit) => False) (fun _ _ => True) (rc_A (([(h, rO od fa ot ah te id rt bs kn), (fa, go cO 4 fr), (ot, go cO 4 er), (id, ka cJ 5 J), (rt, rR fo cn wh pt rs sq on tw), (fo, ka cJ 4 Fo), (wh, ka cJ 5 Y), (pt, ka cJ 5 P), (rs, ka cJ 5 r), (sq, ka cJ 8 S), (on, ka cJ 5 a1), (tw, ka cJ 5 b1)] ++ gs 4 er cJ 5 E) ++ gs 4 fr cJ 5 F))) (vx_X (fun (_ : Unit) => True) (fun E9 _ t => E9 = xS ∧ va_P D vC (([(h, rO od fa ot ah te id rt bs kn), (fa, go cO 4 fr), (ot, go cO 4 er), (id, ka cJ 5 J), (rt, rR fo cn wh pt rs sq on tw), (fo, ka cJ 4 Fo), (wh, ka cJ 5 Y), (pt, ka cJ 5 P), (rs, ka cJ 5 r), (sq, ka cJ 8 S), (on, ka cJ 5 a1), (tw, ka cJ 5 b1)] ++ gs 4 er cJ 5 E) ++ gs 4 fr cJ 5 F) t.heap) (rc_A (([(h, rO od fa ot ah te id rt bs kn), (fa, go cO 4 fr), (ot, go cO 4 er), (id, ka cJ 5 J), (rt, rR fo cn wh pt rs sq on tw), (fo, ka cJ 4 Fo), (wh, ka cJ 5 Y), (pt, ka cJ 5 P), (rs, ka cJ 5 r), (sq, ka cJ 8 S), (on, ka cJ 5 a1), (tw, ka cJ 5 b1)] ++ gs 4 er cJ 5 E) ++ gs 4 fr cJ 5 F))) 1 6 (rc_A (([(h, rO od fa ot ah te id rt bs kn), (fa, go cO 4 fr), (ot, go cO 4 er), (id, ka cJ 5 J), (rt, rR fo cn wh pt rs sq on tw), (fo, ka cJ 4 Fo), (wh, ka cJ 5 Y), (pt, ka cJ 5 P), (rs, ka cJ 5 r), (sq, ka cJ 8 S), (on, ka cJ 5 a1), (tw, ka cJ 5 b1)] ++ gs 4 er cJ 5 E) ++ gs 4 fr cJ 5 F)) := by
  refine vx_ofW (cc := c_O_exponent) (maxL := 5) (ret := (some .int)) (by decide) rfl ?_
  intro p e s m args below meth c s₁ B hml ht hv
  obtain ⟨⟨rfl, hP, hK, hD0, hN⟩, hE⟩ := hv
  have hx := B.exec
  have hb := B.bytes
  have hts0 := atoms_spec (ws := ws_O_exponent) B.pre
  have hts : ∀ w ∈ kb, w.before _ s = true := fun w h => hts0 w (List.mem_cons_of_mem _ h)
  have hown : s.vm.findClass R_O = some m.cls := findClass_of_methodNamed B.named
  have hlocks := B.notSynchronized
  have hD := rc_self hD0
  generalize hAe : rc_A (([(h, rO od fa ot ah te id rt bs kn), (fa, go cO 4 fr), (ot, go cO 4 er), (id, ka cJ 5 J), (rt, rR fo cn wh pt rs sq on tw), (fo, ka cJ 4 Fo), (wh, ka cJ 5 Y), (pt, ka cJ 5 P), (rs, ka cJ 5 r), (sq, ka cJ 8 S), (on, ka cJ 5 a1), (tw, ka cJ 5 b1)] ++ gs 4 er cJ 5 E) ++ gs 4 fr cJ 5 F) = A at hD hE ⊢
  have hS : va_S A s.heap s.heap [] := va_S.rf
  have hl := lv_entry ([.ref h, .int (iz ze), .long v, .int (iz zk)]) (n := 5) (Nat.le_of_ble_eq_true rfl)
  rw [lg_entry_eq]
  generalize (lg_sl ([.ref h, .int (iz ze), .long v, .int (iz zk)]) ++ List.replicate (5 - (lg_sl ([.ref h, .int (iz ze), .long v, .int (iz zk)])).length) Slot.unset).toArray = ls at hl ⊢
  have hl : lv_has ls 5 [(0, .ref h), (1, .int (iz ze)), (2, .long v), (4, .int (iz zk))] := hl
  refine lv_aload_n hx hb d_O_exponent_0 rfl (lv_at hl 0 rfl) ?_
  refine lv_aload_n hx hb d_O_exponent_1 rfl (lv_at hl 0 rfl) ?_
  refine lv_iload_n hx hb d_O_exponent_2 rfl (lv_at hl 1 rfl) ?_
  refine lv_lload_n hx hb d_O_exponent_3 rfl (lv_at hl 2 rfl) ?_
  refine rxT_calli (vx_runV (As := [.int (iz ze), .long v]) (rest := [.ref h]) ⟨hx, hb, hml, hown, hts⟩ (x_O_goTo_S l D hst sa cJ cO h fa ot ah te id rt bs od kn fr er E F ze v o hod ho3 haz) (cwV 2 hts (kb_gi (kb_c kw_422 (kb_c kw_424 (kb_c ks_O_goTo (kb_c kw_1 (kb_c kw_425 kb_all)))))) rfl rfl rfl (by decide +kernel) ⟨(Nat.le_of_ble_eq_true rfl), (Nat.le_of_ble_eq_true rfl)⟩) ⟨rx_blind, va_recv hK hP (ci := 2) (q0 := 0) rfl rfl, fun U h8 h9 => ⟨(rs_pre (Y := []) (rs_nil (rs_a_2_0 hP)) (rs_nilD (rs_aD_2_0 hD)) hK hN [0, 1, 2] rfl rfl [0, 1] rfl) U h8 h9, hE.go hS (rs_in (rs_nilD (rs_aD_2_0 hD)) (is := [0, 1, 2]) rfl) h8 h9⟩⟩ rfl rfl hl.1 rfl (lv_room (Nat.le_of_ble_eq_true rfl)) d_O_exponent_4 ⟨(Nat.le_of_ble_eq_true rfl), (Nat.le_of_ble_eq_true rfl)⟩) (rs_nil (rs_a_2_0 hP)) (rs_nilD (rs_aD_2_0 hD)) hS [0, 1, 2] rfl (fun _ => rfl) (fun _ => gs_adr2 (gs_adr _ _ _ _ _ _) (gs_adr _ _ _ _ _ _)) (fun ce q9 u1 H locs hw1 hP hD hS hce hcv hcl => ?_)
  have hP := rs_b_2_0 (rs_nilR hP)
  have hD := rs_bD_2_0 (rs_nilRD hD)
  have hP : va_P D vC (([(h, rO od fa ot ah te id rt bs kn), (fa, go cO 4 fr), (ot, go cO 4 er), (id, ka cJ 5 J), (rt, rR fo cn wh pt rs sq on tw), (fo, ka cJ 4 Fo), (wh, ka cJ 5 Y), (pt, ka cJ 5 P), (rs, ka cJ 5 r), (sq, ka cJ 8 S), (on, ka cJ 5 a1), (tw, ka cJ 5 b1)] ++ gs 4 er cJ 5 E) ++ gs 4 fr cJ 5 F) H := hP
  have hD : va_D A (([(h, rO od fa ot ah te id rt bs kn), (fa, go cO 4 fr), (ot, go cO 4 er), (id, ka cJ 5 J), (rt, rR fo cn wh pt rs sq on tw), (fo, ka cJ 4 Fo), (wh, ka cJ 5 Y), (pt, ka cJ 5 P), (rs, ka cJ 5 r), (sq, ka cJ 8 S), (on, ka cJ 5 a1), (tw, ka cJ 5 b1)] ++ gs 4 er cJ 5 E) ++ gs 4 fr cJ 5 F) := hD
  exact vx_out (fun x h9 => (ht x h9).elim) hlocks hce hcv hcl (fun t htt _ => ⟨(), trivial, ⟨rfl, rc_out htt hP⟩, hS.F htt⟩) hS.2.2 (Nat.le_of_ble_eq_true rfl) (Nat.le_of_ble_eq_true rfl)
set_option maxHeartbeats 4000000 in
set_option maxRecDepth 100000 in
theorem x_O_answer (l : Launch) (D : va_G) (hst : l.stackTraces = false) (sa : Nat → Nat) (cI : ClassId) (cJ cO : ClassId) (h fa ot ah te id rt bs : Nat) (od kn : Int) (ro le me : Nat) (bn : Int) (fr mb ra : Nat → Nat) (F Bm M : Nat → Nat → ro_K) (Lx : Nat → Int) (zk zp : Int) (o : Nat) (hod : od = (o : Int)) (ho3 : o ≤ 3) (hkn : kn = 0 ∨ kn = 1) (hzpl : -2147483648 ≤ zp) (hzph : zp < 2147483648) (hbad : ¬ (0 ≤ zp ∧ zp < 13)) : vx_Met l y_O_answer ws_O_answer ({ frames := 7, cells := 1, slots := 6, locals := 130 }) (rx_Px D vC [(cJ, .long), (cO, .array .long), (cI, .int)] [.ref h, .int (iz zk), .int (iz zp)] ((([(h, rO od fa ot ah te id rt bs kn), (fa, go cO 4 fr), (bs, rB ro le me bn), (ro, go cO 17 ra), (le, ki cI 13 Lx), (me, go cO 13 mb)] ++ gs 4 fr cJ 5 F) ++ gs 13 mb cJ 13 Bm) ++ gs 17 ra cJ 13 M) sa) (va_Qi (fun (_ : Int32) (_ : Unit) => False) (fun _ _ => True) (rc_A ((([(h, rO od fa ot ah te id rt bs kn), (fa, go cO 4 fr), (bs, rB ro le me bn), (ro, go cO 17 ra), (le, ki cI 13 Lx), (me, go cO 13 mb)] ++ gs 4 fr cJ 5 F) ++ gs 13 mb cJ 13 Bm) ++ gs 17 ra cJ 13 M))) (vx_X (fun (_ : Unit) => True) (fun E9 _ t => E9 = xI ∧ va_P D vC ((([(h, rO od fa ot ah te id rt bs kn), (fa, go cO 4 fr), (bs, rB ro le me bn), (ro, go cO 17 ra), (le, ki cI 13 Lx), (me, go cO 13 mb)] ++ gs 4 fr cJ 5 F) ++ gs 13 mb cJ 13 Bm) ++ gs 17 ra cJ 13 M) t.heap) (rc_A ((([(h, rO od fa ot ah te id rt bs kn), (fa, go cO 4 fr), (bs, rB ro le me bn), (ro, go cO 17 ra), (le, ki cI 13 Lx), (me, go cO 13 mb)] ++ gs 4 fr cJ 5 F) ++ gs 13 mb cJ 13 Bm) ++ gs 17 ra cJ 13 M))) 1 6 (rc_A ((([(h, rO od fa ot ah te id rt bs kn), (fa, go cO 4 fr), (bs, rB ro le me bn), (ro, go cO 17 ra), (le, ki cI 13 Lx), (me, go cO 13 mb)] ++ gs 4 fr cJ 5 F) ++ gs 13 mb cJ 13 Bm) ++ gs 17 ra cJ 13 M)) := by
  refine vx_ofW (cc := c_O_answer) (maxL := 3) (ret := (some .int)) (by decide) rfl ?_
  intro p e s m args below meth c s₁ B hml ht hv
  obtain ⟨⟨rfl, hP, hK, hD0, hN⟩, hE⟩ := hv
  have hx := B.exec
  have hb := B.bytes
  have hts0 := atoms_spec (ws := ws_O_answer) B.pre
  have hts : ∀ w ∈ kb, w.before _ s = true := fun w h => hts0 w (List.mem_cons_of_mem _ h)
  have hown : s.vm.findClass R_O = some m.cls := findClass_of_methodNamed B.named
  have hlocks := B.notSynchronized
  have hD := rc_self hD0
  generalize hAe : rc_A ((([(h, rO od fa ot ah te id rt bs kn), (fa, go cO 4 fr), (bs, rB ro le me bn), (ro, go cO 17 ra), (le, ki cI 13 Lx), (me, go cO 13 mb)] ++ gs 4 fr cJ 5 F) ++ gs 13 mb cJ 13 Bm) ++ gs 17 ra cJ 13 M) = A at hD hE ⊢
  have hS : va_S A s.heap s.heap [] := va_S.rf
  have hl := lv_entry ([.ref h, .int (iz zk), .int (iz zp)]) (n := 3) (Nat.le_of_ble_eq_true rfl)
  rw [lg_entry_eq]
  generalize (lg_sl ([.ref h, .int (iz zk), .int (iz zp)]) ++ List.replicate (3 - (lg_sl ([.ref h, .int (iz zk), .int (iz zp)])).length) Slot.unset).toArray = ls at hl ⊢
  have hl : lv_has ls 3 [(0, .ref h), (1, .int (iz zk)), (2, .int (iz zp))] := hl
  refine lv_aload_n hx hb d_O_answer_0 rfl (lv_at hl 0 rfl) ?_
  refine lv_iload_n hx hb d_O_answer_1 rfl (lv_at hl 2 rfl) ?_
  refine rx_callv (vx_runV (As := [.int (iz zp)]) (rest := []) ⟨hx, hb, hml, hown, hts⟩ (x_O_needHandPower l D hst sa cJ cO h fa ot ah te id rt bs od kn zp hzpl hzph hbad) (cwV 1 hts (kb_gi (kb_c kw_308 (kb_c kw_310 (kb_c ks_O_needHandPower (kb_c kw_1 (kb_c kw_311 kb_all)))))) rfl rfl rfl (by decide +kernel) ⟨(Nat.le_of_ble_eq_true rfl), (Nat.le_of_ble_eq_true rfl)⟩) ⟨rx_blind, va_recv hK hP (ci := 2) (q0 := 0) rfl rfl, fun U h8 h9 => ⟨(rc_pre hP hD hK hN [0] rfl rfl [] rfl) U h8 h9, hE.go hS (rc_in hD (is := [0]) rfl) h8 h9⟩⟩ rfl rfl hl.1 rfl (lv_room (Nat.le_of_ble_eq_true rfl)) d_O_answer_2 ⟨(Nat.le_of_ble_eq_true rfl), (Nat.le_of_ble_eq_true rfl)⟩) hP hD hS [0] rfl (fun _ => rfl) (fun ce q9 u1 H locs hw1 hP hD hS hce hcv hcl => ?_)
  have hP : va_P D vC ((([(h, rO od fa ot ah te id rt bs kn), (fa, go cO 4 fr), (bs, rB ro le me bn), (ro, go cO 17 ra), (le, ki cI 13 Lx), (me, go cO 13 mb)] ++ gs 4 fr cJ 5 F) ++ gs 13 mb cJ 13 Bm) ++ gs 17 ra cJ 13 M) H := hP
  have hD : va_D A ((([(h, rO od fa ot ah te id rt bs kn), (fa, go cO 4 fr), (bs, rB ro le me bn), (ro, go cO 17 ra), (le, ki cI 13 Lx), (me, go cO 13 mb)] ++ gs 4 fr cJ 5 F) ++ gs 13 mb cJ 13 Bm) ++ gs 17 ra cJ 13 M) := hD
  exact vx_out (fun x h9 => (ht x h9).elim) hlocks hce hcv hcl (fun t htt _ => ⟨(), trivial, ⟨rfl, rc_out htt hP⟩, hS.F htt⟩) hS.2.2 (Nat.le_of_ble_eq_true rfl) (Nat.le_of_ble_eq_true rfl)
set_option maxHeartbeats 4000000 in
set_option maxRecDepth 100000 in
theorem x_O_answer_k (l : Launch) (D : va_G) (hst : l.stackTraces = false) (sa : Nat → Nat) (cI : ClassId) (cJ cO : ClassId) (h fa ot ah te id rt bs : Nat) (od kn : Int) (ro le me : Nat) (bn : Int) (fr mb ra : Nat → Nat) (F Bm M : Nat → Nat → ro_K) (Lx : Nat → Int) (zk zp : Int) (o : Nat) (hod : od = (o : Int)) (ho3 : o ≤ 3) (hkn : kn = 0 ∨ kn = 1) (hzkl : -2147483648 ≤ zk) (hzkh : zk < 2147483648) (hp0 : 0 ≤ zp) (hp1 : zp < 13) (hbad : ¬ (0 ≤ zk ∧ zk < (knD kn F o M Lx Bm bn).2.2.2)) (hb0 : 0 ≤ (knD kn F o M Lx Bm bn).2.2.2) (hb13 : (knD kn F o M Lx Bm bn).2.2.2 ≤ 13) : vx_Met l y_O_answer ws_O_answer ({ frames := 8, cells := 1, slots := 6, locals := 160 }) (rx_Px D vC [(cJ, .long), (cO, .array .long), (cI, .int)] [.ref h, .int (iz zk), .int (iz zp)] ((([(h, rO od fa ot ah te id rt bs kn), (fa, go cO 4 fr), (bs, rB ro le me bn), (ro, go cO 17 ra), (le, ki cI 13 Lx), (me, go cO 13 mb)] ++ gs 4 fr cJ 5 F) ++ gs 13 mb cJ 13 Bm) ++ gs 17 ra cJ 13 M) sa) (va_Qi (fun (_ : Int32) (_ : Unit) => False) (fun _ _ => True) (rc_A ((([(h, rO od fa ot ah te id rt bs kn), (fa, go cO 4 fr), (bs, rB ro le me bn), (ro, go cO 17 ra), (le, ki cI 13 Lx), (me, go cO 13 mb)] ++ gs 4 fr cJ 5 F) ++ gs 13 mb cJ 13 Bm) ++ gs 17 ra cJ 13 M))) (vx_X (fun (_ : Unit) => True) (fun E9 _ t => E9 = xI ∧ va_P D vC ((([(h, rO od fa ot ah te id rt bs 1), (fa, go cO 4 fr), (bs, rB ro le me (knD kn F o M Lx Bm bn).2.2.2), (ro, go cO 17 ra), (le, ki cI 13 (knD kn F o M Lx Bm bn).2.1), (me, go cO 13 mb)] ++ gs 4 fr cJ 5 F) ++ gs 13 mb cJ 13 (knD kn F o M Lx Bm bn).2.2.1) ++ gs 17 ra cJ 13 (knD kn F o M Lx Bm bn).1) t.heap) (rc_A ((([(h, rO od fa ot ah te id rt bs kn), (fa, go cO 4 fr), (bs, rB ro le me bn), (ro, go cO 17 ra), (le, ki cI 13 Lx), (me, go cO 13 mb)] ++ gs 4 fr cJ 5 F) ++ gs 13 mb cJ 13 Bm) ++ gs 17 ra cJ 13 M))) 1 6 (rc_A ((([(h, rO od fa ot ah te id rt bs kn), (fa, go cO 4 fr), (bs, rB ro le me bn), (ro, go cO 17 ra), (le, ki cI 13 Lx), (me, go cO 13 mb)] ++ gs 4 fr cJ 5 F) ++ gs 13 mb cJ 13 Bm) ++ gs 17 ra cJ 13 M)) := by
  refine vx_ofW (cc := c_O_answer) (maxL := 3) (ret := (some .int)) (by decide) rfl ?_
  intro p e s m args below meth c s₁ B hml ht hv
  obtain ⟨⟨rfl, hP, hK, hD0, hN⟩, hE⟩ := hv
  have hx := B.exec
  have hb := B.bytes
  have hts0 := atoms_spec (ws := ws_O_answer) B.pre
  have hts : ∀ w ∈ kb, w.before _ s = true := fun w h => hts0 w (List.mem_cons_of_mem _ h)
  have hown : s.vm.findClass R_O = some m.cls := findClass_of_methodNamed B.named
  have hlocks := B.notSynchronized
  have hD := rc_self hD0
  generalize hAe : rc_A ((([(h, rO od fa ot ah te id rt bs kn), (fa, go cO 4 fr), (bs, rB ro le me bn), (ro, go cO 17 ra), (le, ki cI 13 Lx), (me, go cO 13 mb)] ++ gs 4 fr cJ 5 F) ++ gs 13 mb cJ 13 Bm) ++ gs 17 ra cJ 13 M) = A at hD hE ⊢
  have hS : va_S A s.heap s.heap [] := va_S.rf
  have hl := lv_entry ([.ref h, .int (iz zk), .int (iz zp)]) (n := 3) (Nat.le_of_ble_eq_true rfl)
  rw [lg_entry_eq]
  generalize (lg_sl ([.ref h, .int (iz zk), .int (iz zp)]) ++ List.replicate (3 - (lg_sl ([.ref h, .int (iz zk), .int (iz zp)])).length) Slot.unset).toArray = ls at hl ⊢
  have hl : lv_has ls 3 [(0, .ref h), (1, .int (iz zk)), (2, .int (iz zp))] := hl
  refine lv_aload_n hx hb d_O_answer_0 rfl (lv_at hl 0 rfl) ?_
  refine lv_iload_n hx hb d_O_answer_1 rfl (lv_at hl 2 rfl) ?_
  refine rc_callv (va_runV (As := [.int (iz zp)]) (rest := []) ⟨hx, hb, hml, hown, hts⟩ (m_O_needHandPower l D cJ cO h fa ot ah te id rt bs od kn zp (by omega) (by omega)) (cwV 1 hts (kb_gi (kb_c kw_308 (kb_c kw_310 (kb_c ks_O_needHandPower (kb_c kw_1 (kb_c kw_311 kb_all)))))) rfl rfl rfl (by decide +kernel) ⟨Nat.le_of_ble_eq_true rfl, Nat.le_of_ble_eq_true rfl⟩) ⟨rc_blind, va_recv hK hP (ci := 2) (q0 := 0) rfl rfl, rc_pre hP hD hK hN [0] rfl rfl [] rfl⟩ rfl rfl hl.1 rfl (lv_room (Nat.le_of_ble_eq_true rfl)) d_O_answer_2 ⟨Nat.zero_le _, Nat.zero_le _⟩) hP hD hS [0] rfl (fun _ => rfl) (fun u1 H locs hw1 hP hD hS => ?_)
  have hP : va_P D vC ((([(h, rO od fa ot ah te id rt bs kn), (fa, go cO 4 fr), (bs, rB ro le me bn), (ro, go cO 17 ra), (le, ki cI 13 Lx), (me, go cO 13 mb)] ++ gs 4 fr cJ 5 F) ++ gs 13 mb cJ 13 Bm) ++ gs 17 ra cJ 13 M) H := hP
  have hD : va_D A ((([(h, rO od fa ot ah te id rt bs kn), (fa, go cO 4 fr), (bs, rB ro le me bn), (ro, go cO 17 ra), (le, ki cI 13 Lx), (me, go cO 13 mb)] ++ gs 4 fr cJ 5 F) ++ gs 13 mb cJ 13 Bm) ++ gs 17 ra cJ 13 M) := hD
  refine lv_aload_n hx hb d_O_answer_5 rfl (lv_at hl 0 rfl) ?_
  refine lv_iload_n hx hb d_O_answer_6 rfl (lv_at hl 1 rfl) ?_
  refine rxT_callv (vx_runV (As := [.int (iz zk)]) (rest := []) ⟨hx, hb, hml, hown, hts⟩ (x_O_needMember_S l D hst sa cI cJ cO h fa ot ah te id rt bs od kn ro le me bn fr mb ra F Bm M Lx zk o hod ho3 hkn hzkl hzkh hbad hb0 hb13) (cwV 1 hts (kb_gi (kb_c kw_478 (kb_c kw_480 (kb_c ks_O_needMember (kb_c kw_1 (kb_c kw_481 kb_all)))))) rfl rfl rfl (by decide +kernel) ⟨(Nat.le_of_ble_eq_true rfl), (Nat.le_of_ble_eq_true rfl)⟩) ⟨rx_blind, va_recv hK hP (ci := 2) (q0 := 0) rfl rfl, fun U h8 h9 => ⟨(rs_pre (Y := []) (rs_nil (rs_a_3_0 hP)) (rs_nilD (rs_aD_3_0 hD)) hK hN [0, 1, 2, 3, 4, 5] rfl rfl [0, 1, 2] rfl) U h8 h9, hE.go hS (rs_in (rs_nilD (rs_aD_3_0 hD)) (is := [0, 1, 2, 3, 4, 5]) rfl) h8 h9⟩⟩ rfl rfl hl.1 rfl (lv_room (Nat.le_of_ble_eq_true rfl)) d_O_answer_7 ⟨(Nat.le_of_ble_eq_true rfl), (Nat.le_of_ble_eq_true rfl)⟩) (rs_nil (rs_a_3_0 hP)) (rs_nilD (rs_aD_3_0 hD)) hS [0, 1, 2, 3, 4, 5] rfl (fun _ => rfl) (fun _ => gs_adr2 (gs_adr _ _ _ _ _ _) (gs_adr2 (gs_adr _ _ _ _ _ _) (gs_adr _ _ _ _ _ _))) (fun ce q9 u2 H locs hw2 hP hD hS hce hcv hcl => ?_)
  have hP := rs_b_3_0 (rs_nilR hP)
  have hD := rs_bD_3_0 (rs_nilRD hD)
  have hP : va_P D vC ((([(h, rO od fa ot ah te id rt bs 1), (fa, go cO 4 fr), (bs, rB ro le me (knD kn F o M Lx Bm bn).2.2.2), (ro, go cO 17 ra), (le, ki cI 13 (knD kn F o M Lx Bm bn).2.1), (me, go cO 13 mb)] ++ gs 4 fr cJ 5 F) ++ gs 13 mb cJ 13 (knD kn F o M Lx Bm bn).2.2.1) ++ gs 17 ra cJ 13 (knD kn F o M Lx Bm bn).1) H := hP
  have hD : va_D A ((([(h, rO od fa ot ah te id rt bs 1), (fa, go cO 4 fr), (bs, rB ro le me (knD kn F o M Lx Bm bn).2.2.2), (ro, go cO 17 ra), (le, ki cI 13 (knD kn F o M Lx Bm bn).2.1), (me, go cO 13 mb)] ++ gs 4 fr cJ 5 F) ++ gs 13 mb cJ 13 (knD kn F o M Lx Bm bn).2.2.1) ++ gs 17 ra cJ 13 (knD kn F o M Lx Bm bn).1) := hD
  exact vx_out (fun x h9 => (ht x h9).elim) hlocks hce hcv hcl (fun t htt _ => ⟨(), trivial, ⟨rfl, rc_out htt hP⟩, hS.F htt⟩) hS.2.2 (Nat.le_of_ble_eq_true rfl) (Nat.le_of_ble_eq_true rfl)
set_option maxHeartbeats 4000000 in
set_option maxRecDepth 100000 in
theorem x_O_take (l : Launch) (D : va_G) (hst : l.stackTraces = false) (sa : Nat → Nat) (cI : ClassId) (cJ cO : ClassId) (h fa ot ah te id rt bs : Nat) (od kn : Int) (ro le me : Nat) (bn : Int) (fr mb ra : Nat → Nat) (F Bm M : Nat → Nat → ro_K) (Lx : Nat → Int) (a : Nat → ro_K) (zk : Int) (o : Nat) (hod : od = (o : Int)) (ho3 : o ≤ 3) (hkn : kn = 0 ∨ kn = 1) (hzkl : -2147483648 ≤ zk) (hzkh : zk < 2147483648) (hbad : ¬ (0 ≤ zk ∧ zk < (knD kn F o M Lx Bm bn).2.2.2)) (hb0 : 0 ≤ (knD kn F o M Lx Bm bn).2.2.2) (hb13 : (knD kn F o M Lx Bm bn).2.2.2 ≤ 13) : vx_Met l y_O_take ws_O_take ({ frames := 8, cells := 1, slots := 6, locals := 160 }) (rx_Px D vC [(cJ, .long), (cO, .array .long), (cI, .int)] [.ref h, .int (iz zk)] ((([(h, rO od fa ot ah te id rt bs kn), (fa, go cO 4 fr), (bs, rB ro le me bn), (ro, go cO 17 ra), (le, ki cI 13 Lx), (me, go cO 13 mb), (ah, ka cJ 13 a)] ++ gs 4 fr cJ 5 F) ++ gs 13 mb cJ 13 Bm) ++ gs 17 ra cJ 13 M) sa) (va_Qv (fun (_ : Unit) => False) (fun _ _ => True) (rc_A ((([(h, rO od fa ot ah te id rt bs kn), (fa, go cO 4 fr), (bs, rB ro le me bn), (ro, go cO 17 ra), (le, ki cI 13 Lx), (me, go cO 13 mb), (ah, ka cJ 13 a)] ++ gs 4 fr cJ 5 F) ++ gs 13 mb cJ 13 Bm) ++ gs 17 ra cJ 13 M))) (vx_X (fun (_ : Unit) => True) (fun E9 _ t => E9 = xI ∧ va_P D vC ((([(h, rO od fa ot ah te id rt bs 1), (fa, go cO 4 fr), (bs, rB ro le me (knD kn F o M Lx Bm bn).2.2.2), (ro, go cO 17 ra), (le, ki cI 13 (knD kn F o M Lx Bm bn).2.1), (me, go cO 13 mb), (ah, ka cJ 13 a)] ++ gs 4 fr cJ 5 F) ++ gs 13 mb cJ 13 (knD kn F o M Lx Bm bn).2.2.1) ++ gs 17 ra cJ 13 (knD kn F o M Lx Bm bn).1) t.heap) (rc_A ((([(h, rO od fa ot ah te id rt bs kn), (fa, go cO 4 fr), (bs, rB ro le me bn), (ro, go cO 17 ra), (le, ki cI 13 Lx), (me, go cO 13 mb), (ah, ka cJ 13 a)] ++ gs 4 fr cJ 5 F) ++ gs 13 mb cJ 13 Bm) ++ gs 17 ra cJ 13 M))) 1 6 (rc_A ((([(h, rO od fa ot ah te id rt bs kn), (fa, go cO 4 fr), (bs, rB ro le me bn), (ro, go cO 17 ra), (le, ki cI 13 Lx), (me, go cO 13 mb), (ah, ka cJ 13 a)] ++ gs 4 fr cJ 5 F) ++ gs 13 mb cJ 13 Bm) ++ gs 17 ra cJ 13 M)) := by
  refine vx_ofW (cc := c_O_take) (maxL := 2) (ret := none) (by decide) rfl ?_
  intro p e s m args below meth c s₁ B hml ht hv
  obtain ⟨⟨rfl, hP, hK, hD0, hN⟩, hE⟩ := hv
  have hx := B.exec
  have hb := B.bytes
  have hts0 := atoms_spec (ws := ws_O_take) B.pre
  have hts : ∀ w ∈ kb, w.before _ s = true := fun w h => hts0 w (List.mem_cons_of_mem _ h)
  have hown : s.vm.findClass R_O = some m.cls := findClass_of_methodNamed B.named
  have hlocks := B.notSynchronized
  have hD := rc_self hD0
  generalize hAe : rc_A ((([(h, rO od fa ot ah te id rt bs kn), (fa, go cO 4 fr), (bs, rB ro le me bn), (ro, go cO 17 ra), (le, ki cI 13 Lx), (me, go cO 13 mb), (ah, ka cJ 13 a)] ++ gs 4 fr cJ 5 F) ++ gs 13 mb cJ 13 Bm) ++ gs 17 ra cJ 13 M) = A at hD hE ⊢
  have hS : va_S A s.heap s.heap [] := va_S.rf
  have hl := lv_entry ([.ref h, .int (iz zk)]) (n := 2) (Nat.le_of_ble_eq_true rfl)
  rw [lg_entry_eq]
  generalize (lg_sl ([.ref h, .int (iz zk)]) ++ List.replicate (2 - (lg_sl ([.ref h, .int (iz zk)])).length) Slot.unset).toArray = ls at hl ⊢
  have hl : lv_has ls 2 [(0, .ref h), (1, .int (iz zk))] := hl
  refine lv_aload_n hx hb d_O_take_0 rfl (lv_at hl 0 rfl) ?_
  refine lv_iload_n hx hb d_O_take_1 rfl (lv_at hl 1 rfl) ?_
  refine rxT_callv (vx_runV (As := [.int (iz zk)]) (rest := []) ⟨hx, hb, hml, hown, hts⟩ (x_O_needMember_S l D hst sa cI cJ cO h fa ot ah te id rt bs od kn ro le me bn fr mb ra F Bm M Lx zk o hod ho3 hkn hzkl hzkh hbad hb0 hb13) (cwV 1 hts (kb_gi (kb_c kw_478 (kb_c kw_480 (kb_c ks_O_needMember (kb_c kw_1 (kb_c kw_481 kb_all)))))) rfl rfl rfl (by decide +kernel) ⟨(Nat.le_of_ble_eq_true rfl), (Nat.le_of_ble_eq_true rfl)⟩) ⟨rx_blind, va_recv hK hP (ci := 2) (q0 := 0) rfl rfl, fun U h8 h9 => ⟨(rs_pre (Y := []) (rs_nil (rs_a_3_0 hP)) (rs_nilD (rs_aD_3_0 hD)) hK hN [0, 1, 2, 3, 4, 5] rfl rfl [0, 1, 2] rfl) U h8 h9, hE.go hS (rs_in (rs_nilD (rs_aD_3_0 hD)) (is := [0, 1, 2, 3, 4, 5]) rfl) h8 h9⟩⟩ rfl rfl hl.1 rfl (lv_room (Nat.le_of_ble_eq_true rfl)) d_O_take_2 ⟨(Nat.le_of_ble_eq_true rfl), (Nat.le_of_ble_eq_true rfl)⟩) (rs_nil (rs_a_3_0 hP)) (rs_nilD (rs_aD_3_0 hD)) hS [0, 1, 2, 3, 4, 5] rfl (fun _ => rfl) (fun _ => gs_adr2 (gs_adr _ _ _ _ _ _) (gs_adr2 (gs_adr _ _ _ _ _ _) (gs_adr _ _ _ _ _ _))) (fun ce q9 u1 H locs hw1 hP hD hS hce hcv hcl => ?_)
  have hP := rs_b_3_0 (rs_nilR hP)
  have hD := rs_bD_3_0 (rs_nilRD hD)
  have hP : va_P D vC ((([(h, rO od fa ot ah te id rt bs 1), (fa, go cO 4 fr), (bs, rB ro le me (knD kn F o M Lx Bm bn).2.2.2), (ro, go cO 17 ra), (le, ki cI 13 (knD kn F o M Lx Bm bn).2.1), (me, go cO 13 mb), (ah, ka cJ 13 a)] ++ gs 4 fr cJ 5 F) ++ gs 13 mb cJ 13 (knD kn F o M Lx Bm bn).2.2.1) ++ gs 17 ra cJ 13 (knD kn F o M Lx Bm bn).1) H := hP
  have hD : va_D A ((([(h, rO od fa ot ah te id rt bs 1), (fa, go cO 4 fr), (bs, rB ro le me (knD kn F o M Lx Bm bn).2.2.2), (ro, go cO 17 ra), (le, ki cI 13 (knD kn F o M Lx Bm bn).2.1), (me, go cO 13 mb), (ah, ka cJ 13 a)] ++ gs 4 fr cJ 5 F) ++ gs 13 mb cJ 13 (knD kn F o M Lx Bm bn).2.2.1) ++ gs 17 ra cJ 13 (knD kn F o M Lx Bm bn).1) := hD
  exact vx_out (fun x h9 => (ht x h9).elim) hlocks hce hcv hcl (fun t htt _ => ⟨(), trivial, ⟨rfl, rc_out htt hP⟩, hS.F htt⟩) hS.2.2 (Nat.le_of_ble_eq_true rfl) (Nat.le_of_ble_eq_true rfl)
set_option maxHeartbeats 4000000 in
set_option maxRecDepth 100000 in
theorem x_O_series (l : Launch) (D : va_G) (hst : l.stackTraces = false) (sa : Nat → Nat) (cJ cO : ClassId) (h fa ot ah te id rt bs : Nat) (od kn : Int) (fr er : Nat → Nat) (E F : Nat → Nat → ro_K) (T : Nat → ro_K) (va vc vd ve : Int64) (zp : Int) (o : Nat) (hod : od = (o : Int)) (ho3 : o ≤ 3) (hzpl : -2147483648 ≤ zp) (hzph : zp < 2147483648) (hbad : ¬ (0 ≤ zp ∧ zp ≤ 30)) : vx_Met l y_O_series ws_O_series ({ frames := 6, cells := 1, slots := 6, locals := 100 }) (rx_Px D vC [(cJ, .long), (cO, .array .long)] [.ref h, .long va, .long vc, .long vd, .long ve, .int (iz zp)] (([(h, rO od fa ot ah te id rt bs kn), (fa, go cO 4 fr), (ot, go cO 4 er), (te, ka cJ 31 T)] ++ gs 4 er cJ 5 E) ++ gs 4 fr cJ 5 F) sa) (va_Qi (fun (_ : Int32) (_ : Unit) => False) (fun _ _ => True) (rc_A (([(h, rO od fa ot ah te id rt bs kn), (fa, go cO 4 fr), (ot, go cO 4 er), (te, ka cJ 31 T)] ++ gs 4 er cJ 5 E) ++ gs 4 fr cJ 5 F))) (vx_X (fun (_ : Unit) => True) (fun E9 _ t => E9 = xI ∧ va_P D vC (([(h, rO od fa ot ah te id rt bs kn), (fa, go cO 4 fr), (ot, go cO 4 er), (te, ka cJ 31 T)] ++ gs 4 er cJ 5 E) ++ gs 4 fr cJ 5 F) t.heap) (rc_A (([(h, rO od fa ot ah te id rt bs kn), (fa, go cO 4 fr), (ot, go cO 4 er), (te, ka cJ 31 T)] ++ gs 4 er cJ 5 E) ++ gs 4 fr cJ 5 F))) 1 6 (rc_A (([(h, rO od fa ot ah te id rt bs kn), (fa, go cO 4 fr), (ot, go cO 4 er), (te, ka cJ 31 T)] ++ gs 4 er cJ 5 E) ++ gs 4 fr cJ 5 F)) := by
  refine vx_ofW (cc := c_O_series) (maxL := 11) (ret := (some .int)) (by decide) rfl ?_
  intro p e s m args below meth c s₁ B hml ht hv
  obtain ⟨⟨rfl, hP, hK, hD0, hN⟩, hE⟩ := hv
  have hx := B.exec
  have hb := B.bytes
  have hts0 := atoms_spec (ws := ws_O_series) B.pre
  have hts : ∀ w ∈ kb, w.before _ s = true := fun w h => hts0 w (List.mem_cons_of_mem _ h)
  have hown : s.vm.findClass R_O = some m.cls := findClass_of_methodNamed B.named
  have hlocks := B.notSynchronized
  have hD := rc_self hD0
  generalize hAe : rc_A (([(h, rO od fa ot ah te id rt bs kn), (fa, go cO 4 fr), (ot, go cO 4 er), (te, ka cJ 31 T)] ++ gs 4 er cJ 5 E) ++ gs 4 fr cJ 5 F) = A at hD hE ⊢
  have hS : va_S A s.heap s.heap [] := va_S.rf
  have hl := lv_entry ([.ref h, .long va, .long vc, .long vd, .long ve, .int (iz zp)]) (n := 11) (Nat.le_of_ble_eq_true rfl)
  rw [lg_entry_eq]
  generalize (lg_sl ([.ref h, .long va, .long vc, .long vd, .long ve, .int (iz zp)]) ++ List.replicate (11 - (lg_sl ([.ref h, .long va, .long vc, .long vd, .long ve, .int (iz zp)])).length) Slot.unset).toArray = ls at hl ⊢
  have hl : lv_has ls 11 [(0, .ref h), (1, .long va), (3, .long vc), (5, .long vd), (7, .long ve), (9, .int (iz zp))] := hl
  refine lv_iload hx hb d_O_series_0 (lv_at hl 5 rfl) ?_
  refine rz_if_lt (tgt := 12) hx hb d_O_series_2 (by decide) (fun hc1 => ?_) (fun hc1 => ?_)
  · exact vx_throwS hx hb hst (own := "RationalOdes") (cls := xI) (text := "no such power in a series") (names := xN) (ik := 81) (is := 126) (ic := 85) (sa := sa 6) hown (by decide +kernel) (by decide +kernel) (hts _ kw_226) (hts _ kw_9) hE.2.1.2.2.2.2.2.2.1 (xh_I hts hE.1) xo_I hE.2.2.1 hE.2.2.2 hS (by rw [hml]; exact hl.1) d_O_series_12 d_O_series_15 d_O_series_16 d_O_series_18 d_O_series_21 (fun x h9 => (ht x h9).elim) (Nat.le_of_ble_eq_true rfl) (Nat.le_of_ble_eq_true rfl) (Nat.le_of_ble_eq_true rfl) (Nat.le_of_ble_eq_true rfl) hlocks (fun t _ h1 h2 => ⟨(), trivial, ⟨rfl, (rx_keep hP hS h1 h2).1⟩, (rx_keep hP hS h1 h2).2⟩) hS.2.2 (Nat.le_of_ble_eq_true rfl) (Nat.le_of_ble_eq_true rfl)
  · refine lv_iload hx hb d_O_series_5 (lv_at hl 5 rfl) ?_
    refine rz_bipush hx hb d_O_series_7 (by decide) ?_
    refine rz_icmp_lt (tgt := 22) hx hb d_O_series_9 (by decide) (fun hc2 => ?_) (fun hc2 => ?_)
    · omega
    · exact vx_throwS hx hb hst (own := "RationalOdes") (cls := xI) (text := "no such power in a series") (names := xN) (ik := 81) (is := 126) (ic := 85) (sa := sa 6) hown (by decide +kernel) (by decide +kernel) (hts _ kw_226) (hts _ kw_9) hE.2.1.2.2.2.2.2.2.1 (xh_I hts hE.1) xo_I hE.2.2.1 hE.2.2.2 hS (by rw [hml]; exact hl.1) d_O_series_12 d_O_series_15 d_O_series_16 d_O_series_18 d_O_series_21 (fun x h9 => (ht x h9).elim) (Nat.le_of_ble_eq_true rfl) (Nat.le_of_ble_eq_true rfl) (Nat.le_of_ble_eq_true rfl) (Nat.le_of_ble_eq_true rfl) hlocks (fun t _ h1 h2 => ⟨(), trivial, ⟨rfl, (rx_keep hP hS h1 h2).1⟩, (rx_keep hP hS h1 h2).2⟩) hS.2.2 (Nat.le_of_ble_eq_true rfl) (Nat.le_of_ble_eq_true rfl)
set_option maxHeartbeats 4000000 in
set_option maxRecDepth 100000 in
theorem x_O_series_p (l : Launch) (D : va_G) (hst : l.stackTraces = false) (sa : Nat → Nat) (cJ cO : ClassId) (h fa ot ah te id rt bs : Nat) (od kn : Int) (fr er : Nat → Nat) (E F : Nat → Nat → ro_K) (T : Nat → ro_K) (va vc vd ve : Int64) (zp : Int) (o : Nat) (hod : od = (o : Int)) (ho3 : o ≤ 3) (hp0 : 0 ≤ zp) (hp1 : zp ≤ 30) (hn : (stE F (ro_k va.toInt) E (o + 1)) o 0 = 0) : vx_Met l y_O_series ws_O_series ({ frames := 6, cells := 1, slots := 6, locals := 100 }) (rx_Px D vC [(cJ, .long), (cO, .array .long)] [.ref h, .long va, .long vc, .long vd, .long ve, .int (iz zp)] (([(h, rO od fa ot ah te id rt bs kn), (fa, go cO 4 fr), (ot, go cO 4 er), (te, ka cJ 31 T)] ++ gs 4 er cJ 5 E) ++ gs 4 fr cJ 5 F) sa) (va_Qi (fun (_ : Int32) (_ : Unit) => False) (fun _ _ => True) (rc_A (([(h, rO od fa ot ah te id rt bs kn), (fa, go cO 4 fr), (ot, go cO 4 er), (te, ka cJ 31 T)] ++ gs 4 er cJ 5 E) ++ gs 4 fr cJ 5 F))) (vx_X (fun (_ : Unit) => True) (fun E9 _ t => E9 = xA ∧ va_P D vC (([(h, rO od fa ot ah te id rt bs kn), (fa, go cO 4 fr), (ot, go cO 4 er), (te, ka cJ 31 T)] ++ gs 4 er cJ 5 (stE F (ro_k va.toInt) E (o + 1))) ++ gs 4 fr cJ 5 F) t.heap) (rc_A (([(h, rO od fa ot ah te id rt bs kn), (fa, go cO 4 fr), (ot, go cO 4 er), (te, ka cJ 31 T)] ++ gs 4 er cJ 5 E) ++ gs 4 fr cJ 5 F))) 1 6 (rc_A (([(h, rO od fa ot ah te id rt bs kn), (fa, go cO 4 fr), (ot, go cO 4 er), (te, ka cJ 31 T)] ++ gs 4 er cJ 5 E) ++ gs 4 fr cJ 5 F)) := by
  refine vx_ofW (cc := c_O_series) (maxL := 11) (ret := (some .int)) (by decide) rfl ?_
  intro p e s m args below meth c s₁ B hml ht hv
  obtain ⟨⟨rfl, hP, hK, hD0, hN⟩, hE⟩ := hv
  have hx := B.exec
  have hb := B.bytes
  have hts0 := atoms_spec (ws := ws_O_series) B.pre
  have hts : ∀ w ∈ kb, w.before _ s = true := fun w h => hts0 w (List.mem_cons_of_mem _ h)
  have hown : s.vm.findClass R_O = some m.cls := findClass_of_methodNamed B.named
  have hlocks := B.notSynchronized
  have hD := rc_self hD0
  generalize hAe : rc_A (([(h, rO od fa ot ah te id rt bs kn), (fa, go cO 4 fr), (ot, go cO 4 er), (te, ka cJ 31 T)] ++ gs 4 er cJ 5 E) ++ gs 4 fr cJ 5 F) = A at hD hE ⊢
  have hS : va_S A s.heap s.heap [] := va_S.rf
  have hl := lv_entry ([.ref h, .long va, .long vc, .long vd, .long ve, .int (iz zp)]) (n := 11) (Nat.le_of_ble_eq_true rfl)
  rw [lg_entry_eq]
  generalize (lg_sl ([.ref h, .long va, .long vc, .long vd, .long ve, .int (iz zp)]) ++ List.replicate (11 - (lg_sl ([.ref h, .long va, .long vc, .long vd, .long ve, .int (iz zp)])).length) Slot.unset).toArray = ls at hl ⊢
  have hl : lv_has ls 11 [(0, .ref h), (1, .long va), (3, .long vc), (5, .long vd), (7, .long ve), (9, .int (iz zp))] := hl
  refine lv_iload hx hb d_O_series_0 (lv_at hl 5 rfl) ?_
  refine rz_if_lt (tgt := 12) hx hb d_O_series_2 (by decide) (fun hc1 => ?_) (fun hc1 => ?_)
  · omega
  · refine lv_iload hx hb d_O_series_5 (lv_at hl 5 rfl) ?_
    refine rz_bipush hx hb d_O_series_7 (by decide) ?_
    refine rz_icmp_lt (tgt := 22) hx hb d_O_series_9 (by decide) (fun hc2 => ?_) (fun hc2 => ?_)
    · refine lv_aload_n hx hb d_O_series_22 rfl (lv_at hl 0 rfl) ?_
      refine lv_lload_n hx hb d_O_series_23 rfl (lv_at hl 1 rfl) ?_
      refine rc_calll (va_runS (As := [.long va]) (rest := [.ref h]) ⟨hx, hb, hml, hown, hts⟩ (m_O_number l D va) (cwS 1 hts (kb_gi (kb_c kw_123 (kb_c kw_124 (kb_c kw_1 (kb_c kw_125 kb_all))))) rfl rfl rfl (by decide +kernel) ⟨Nat.le_of_ble_eq_true rfl, Nat.le_of_ble_eq_true rfl⟩) ⟨rc_blind, rc_pre hP hD hK hN [] rfl rfl [] rfl⟩ rfl rfl hl.1 rfl (lv_room (Nat.le_of_ble_eq_true rfl)) d_O_series_24 ⟨Nat.zero_le _, Nat.zero_le _⟩) hP hD hS [] rfl (fun _ => rfl) (fun r3 u4 H locs hw4 hP hD hS => ?_)
      subst hw4
      have hP : va_P D vC (([(h, rO od fa ot ah te id rt bs kn), (fa, go cO 4 fr), (ot, go cO 4 er), (te, ka cJ 31 T)] ++ gs 4 er cJ 5 E) ++ gs 4 fr cJ 5 F) H := hP
      have hD : va_D A (([(h, rO od fa ot ah te id rt bs kn), (fa, go cO 4 fr), (ot, go cO 4 er), (te, ka cJ 31 T)] ++ gs 4 er cJ 5 E) ++ gs 4 fr cJ 5 F) := hD
      refine rs_callv (va_runV (As := [.long (lk (ro_k va.toInt))]) (rest := []) ⟨hx, hb, hml, hown, hts⟩ (m_O_shiftToOther_S l D cJ cO h fa ot ah te id rt bs od kn fr er E F (ro_k va.toInt) o hod ho3) (cwV 1 hts (kb_gi (kb_c kw_431 (kb_c kw_433 (kb_c ks_O_shiftToOther (kb_c kw_1 (kb_c kw_434 kb_all)))))) rfl rfl rfl (by decide +kernel) ⟨Nat.le_of_ble_eq_true rfl, Nat.le_of_ble_eq_true rfl⟩) ⟨rc_blind, va_recv hK hP (ci := 2) (q0 := 0) rfl rfl, rs_pre (Y := []) (rs_nil (rs_a_2_0 hP)) (rs_nilD (rs_aD_2_0 hD)) hK hN [0, 1, 2] rfl rfl [0, 1] rfl⟩ rfl rfl hl.1 rfl (lv_room (Nat.le_of_ble_eq_true rfl)) d_O_series_27 ⟨Nat.zero_le _, Nat.zero_le _⟩) (rs_a_2_0 hP) (rs_aD_2_0 hD) hS [0, 1, 2] rfl (fun _ => rfl) (fun _ => gs_adr2 (gs_adr _ _ _ _ _ _) (gs_adr _ _ _ _ _ _)) (fun u5 H locs hw5 hP hD hS => ?_)
      have hP := rs_b_2_0 hP
      have hD := rs_bD_2_0 hD
      have hP : va_P D vC (([(h, rO od fa ot ah te id rt bs kn), (fa, go cO 4 fr), (ot, go cO 4 er), (te, ka cJ 31 T)] ++ gs 4 er cJ 5 (stE F (ro_k va.toInt) E (o + 1))) ++ gs 4 fr cJ 5 F) H := hP
      have hD : va_D A (([(h, rO od fa ot ah te id rt bs kn), (fa, go cO 4 fr), (ot, go cO 4 er), (te, ka cJ 31 T)] ++ gs 4 er cJ 5 (stE F (ro_k va.toInt) E (o + 1))) ++ gs 4 fr cJ 5 F) := hD
      refine lv_aload_n hx hb d_O_series_30 rfl (lv_at hl 0 rfl) ?_
      refine va_get (D := D) (ci := 2) (v := .ref ot) (C := R_O) (T := T_O) (N := 9) hx hb hts in_O hown hK hP 0 rfl rfl 2 (by decide) (hts _ kw_85) (fun _ h9 => h9) rfl d_O_series_31 ?_
      refine lv_aload_n hx hb d_O_series_34 rfl (lv_at hl 0 rfl) ?_
      refine va_get (D := D) (ci := 2) (v := .int (iz od)) (C := R_O) (T := T_O) (N := 9) hx hb hts in_O hown hK hP 0 rfl rfl 0 (by decide) (hts _ kw_83) (fun _ h9 => h9) rfl d_O_series_35 ?_
      refine rg_ald hx hb hK hP 2 1 rfl rfl o d_O_series_38 ?_
      refine rz_iconst hx hb d_O_series_39 ?_
      refine rg_ldT hx hb hK hP 0 rfl o 0 d_O_series_40 ?_
      refine lv_lconst (v := lk 0) hx hb d_O_series_41 rfl ?_
      refine rz_lcmp_ne (tgt := 56) hx hb d_O_series_42 d_O_series_43 (by decide) (fun hc6 => ?_) (fun hc6 => ?_)
      · have hc6 : ((stE F (ro_k va.toInt) E (o + 1)) o 0) ≠ 0 := fun z => hc6 (lk_inj.mpr z)
        exact absurd hn (by assumption)
      · have hc6 : ((stE F (ro_k va.toInt) E (o + 1)) o 0) = 0 := lk_inj.mp hc6
        exact vx_throwS hx hb hst (own := "RationalOdes") (cls := xA) (text := "no series at a place") (names := xN) (ik := 132) (is := 134) (ic := 136) (sa := sa 7) hown (by decide +kernel) (by decide +kernel) (hts _ kw_503) (hts _ kw_13) hE.2.1.2.2.2.2.2.2.2 (xh_A hts hE.1) xo_A hE.2.2.1 hE.2.2.2 hS (by rw [hml]; exact hl.1) d_O_series_46 d_O_series_49 d_O_series_50 d_O_series_52 d_O_series_55 (fun x h9 => (ht x h9).elim) (Nat.le_of_ble_eq_true rfl) (Nat.le_of_ble_eq_true rfl) (Nat.le_of_ble_eq_true rfl) (Nat.le_of_ble_eq_true rfl) hlocks (fun t _ h1 h2 => ⟨(), trivial, ⟨rfl, (rx_keep hP hS h1 h2).1⟩, (rx_keep hP hS h1 h2).2⟩) hS.2.2 (Nat.le_of_ble_eq_true rfl) (Nat.le_of_ble_eq_true rfl)
    · omega
end WK
