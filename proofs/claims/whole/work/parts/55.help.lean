section WK
variable {p : Program} {l : Launch} {e : Env} {R : Room} {s : State} {m : MethodId} {args : Array Value} {below : List Frame} {meth : Method} {c : Code} {H : Heap} {locs : List Loc} {cells slots : Nat} {Q : State → Prop} {D : va_G} {A : Nat → Prop} {H0 : Heap}
theorem kw_217 : (Jvm.Cond.classLink "RationalOdesLaw" (13 : Nat) "java/lang/IndexOutOfBoundsException") ∈ kb := kb_t (List.mem_of_getElem? (i := 217) (by decide +kernel)) rfl
theorem kw_316 : (Jvm.Cond.classLink "RationalOdesLaw" (27 : Nat) "java/lang/IllegalStateException") ∈ kb := kb_t (List.mem_of_getElem? (i := 316) (by decide +kernel)) rfl
theorem kw_497 : (Jvm.Cond.classLink "RationalOdesLaw" (56 : Nat) "java/lang/ArithmeticException") ∈ kb := kb_t (List.mem_of_getElem? (i := 497) (by decide +kernel)) rfl
def ws_L_put : List Cond := .codeWith y_L_put c_L_put 7 (some .int) [((0 : Nat), (19 : Nat), (22 : Nat), (13 : Nat))] :: kb
set_option maxHeartbeats 4000000 in
set_option maxRecDepth 100000 in
theorem h_L_put (l : Launch) (D : va_G) (cJ cO : ClassId) (h fa ot ah te id rt bs : Nat) (od kn : Int) (ou : Nat) (V : Nat → Int64) (fr : Nat → Nat) (F : Nat → Nat → ro_K) (zi zp : Int) (v : Int64) (o : Nat) (hod : od = (o : Int)) (ho3 : o ≤ 3) (i pw : Nat) (hzi : zi = (i : Int)) (hzp : zp = (pw : Int)) (hi : i ≤ o) (hp : pw < 5) : Met l y_L_put ws_L_put ({ frames := 2, cells := 0, slots := 0, locals := 49 }) (rc_Pc D vC [(cJ, .long), (cO, .array .long)] [.ref h, .int (iz zi), .int (iz zp), .long v, .ref ou] ([(h, rO od fa ot ah te id rt bs kn), (fa, go cO 4 fr), (ou, kl cJ 1 V)] ++ gs 4 fr cJ 5 F)) (va_Qi (fun (q : Int32) (u : Int × (Nat → Nat → ro_K) × ro_K) => q = iz 0 ∧ ((F i pw = ro_k v.toInt ∧ u = (kn, F, 0)) ∨ (F i pw ≠ ro_k v.toInt ∧ u = (0, up2 F i pw (ro_k v.toInt), 1)))) (fun u t => va_P D vC ([(h, rO od fa ot ah te id rt bs u.1), (fa, go cO 4 fr), (ou, kl cJ 1 (vp_updL V 0 (lk u.2.2)))] ++ gs 4 fr cJ 5 u.2.1) t.heap) (rc_A ([(h, rO od fa ot ah te id rt bs kn), (fa, go cO 4 fr), (ou, kl cJ 1 V)] ++ gs 4 fr cJ 5 F))) 0 0 (rc_A ([(h, rO od fa ot ah te id rt bs kn), (fa, go cO 4 fr), (ou, kl cJ 1 V)] ++ gs 4 fr cJ 5 F)) := by
  refine rh_ofW (cc := c_L_put) (maxL := 7) (ret := (some .int)) (hh := [((0 : Nat), (19 : Nat), (22 : Nat), (13 : Nat))]) (by decide) rfl ?_
  intro p e s m args below meth c s₁ B hml hv
  obtain ⟨rfl, hP, hK, hD0, hN⟩ := hv
  have hx := B.exec
  have hb := B.bytes
  have hr := B.returns
  have hts0 := atoms_spec (ws := ws_L_put) B.pre
  have htb := vx_table (x := y_L_put) B (hts0 _ List.mem_cons_self)
  have hts : ∀ w ∈ kb, w.before _ s = true := fun w h => hts0 w (List.mem_cons_of_mem _ h)
  have hown : s.vm.findClass R_L = some m.cls := findClass_of_methodNamed B.named
  have hlocks := B.notSynchronized
  have hD := rc_self hD0
  generalize hAe : rc_A ([(h, rO od fa ot ah te id rt bs kn), (fa, go cO 4 fr), (ou, kl cJ 1 V)] ++ gs 4 fr cJ 5 F) = A at hD ⊢
  have hS : va_S A s.heap s.heap [] := va_S.rf
  have hl := lv_entry ([.ref h, .int (iz zi), .int (iz zp), .long v, .ref ou]) (n := 7) (Nat.le_of_ble_eq_true rfl)
  rw [lg_entry_eq]
  generalize (lg_sl ([.ref h, .int (iz zi), .int (iz zp), .long v, .ref ou]) ++ List.replicate (7 - (lg_sl ([.ref h, .int (iz zi), .int (iz zp), .long v, .ref ou])).length) Slot.unset).toArray = ls at hl ⊢
  have hl : lv_has ls 7 [(0, .ref h), (1, .int (iz zi)), (2, .int (iz zp)), (3, .long v), (5, .ref ou)] := hl
  refine lv_aload hx hb d_L_put_0 (lv_at hl 4 rfl) ?_
  refine rz_iconst hx hb d_L_put_2 ?_
  refine lv_aload_n hx hb d_L_put_3 rfl (lv_at hl 0 rfl) ?_
  refine lv_iload_n hx hb d_L_put_4 rfl (lv_at hl 1 rfl) ?_
  refine lv_iload_n hx hb d_L_put_5 rfl (lv_at hl 2 rfl) ?_
  refine lv_lload_n hx hb d_L_put_6 rfl (lv_at hl 3 rfl) ?_
  refine rs_calli (va_runV (As := [.int (iz zi), .int (iz zp), .long v]) (rest := [.int (iz 0), .ref ou]) ⟨hx, hb, hml, hown, hts⟩ (m_O_put l D cJ cO h fa ot ah te id rt bs od kn fr F zi zp v o hod ho3 i pw hzi hzp hi hp) (cwV 3 hts (kb_gi (kb_c kw_218 (kb_c kw_219 (kb_c kw_220 (kb_c kw_1 (kb_c kw_221 kb_all)))))) rfl rfl rfl (by decide +kernel) ⟨Nat.le_of_ble_eq_true rfl, Nat.le_of_ble_eq_true rfl⟩) ⟨rc_blind, va_recv hK hP (ci := 2) (q0 := 0) rfl rfl, rs_pre (Y := []) (rs_nil hP) (rs_nilD hD) hK hN [0, 1] rfl rfl [0, 1] rfl⟩ rfl rfl hl.1 rfl (lv_room (Nat.le_of_ble_eq_true rfl)) d_L_put_7 ⟨Nat.zero_le _, Nat.zero_le _⟩) hP hD hS [0, 1] rfl (fun _ => rfl) (fun _ => gs_adr _ _ _ _ _ _) (fun r1 u2 H locs hw2 hP hD hS => ?_)
  by_cases hf : F i pw = ro_k v.toInt
  · rw [if_pos hf] at hw2
    obtain ⟨rfl, rfl⟩ := hw2
    have hP : va_P D vC ([(h, rO od fa ot ah te id rt bs kn), (fa, go cO 4 fr), (ou, kl cJ 1 V)] ++ gs 4 fr cJ 5 F) H := hP
    have hD : va_D A ([(h, rO od fa ot ah te id rt bs kn), (fa, go cO 4 fr), (ou, kl cJ 1 V)] ++ gs 4 fr cJ 5 F) := hD
    refine rz_if_eq (tgt := 17) hx hb d_L_put_10 (by decide) (fun _ => ?_) (fun hc => absurd rfl hc)
    refine lv_lconst (v := lk 0) hx hb d_L_put_17 rfl ?_
    refine rl_st hx hb hK hP hD hS 2 0 rfl rfl 0 d_L_put_18 (fun H locs hP hD hS => ?_)
    have hP : va_P D vC ([(h, rO od fa ot ah te id rt bs kn), (fa, go cO 4 fr), (ou, kl cJ 1 (vp_updL V 0 (lk 0)))] ++ gs 4 fr cJ 5 F) H := hP
    have hD : va_D A ([(h, rO od fa ot ah te id rt bs kn), (fa, go cO 4 fr), (ou, kl cJ 1 (vp_updL V 0 (lk 0)))] ++ gs 4 fr cJ 5 F) := hD
    refine lv_goto (tgt := 26) hx hb d_L_put_19 (by decide) ?_
    refine rz_iconst hx hb d_L_put_26 ?_
    exact W.iret hx hb hr (fun t ht hW => ⟨⟨_, (kn, F, 0), rfl, ⟨rfl, Or.inl ⟨hf, rfl⟩⟩, rc_out ht hP⟩, hS.F ht⟩) hS.2.2 d_L_put_27
  · rw [if_neg hf] at hw2
    obtain ⟨rfl, rfl⟩ := hw2
    have hP : va_P D vC ([(h, rO od fa ot ah te id rt bs 0), (fa, go cO 4 fr), (ou, kl cJ 1 V)] ++ gs 4 fr cJ 5 (up2 F i pw (ro_k v.toInt))) H := hP
    have hD : va_D A ([(h, rO od fa ot ah te id rt bs 0), (fa, go cO 4 fr), (ou, kl cJ 1 V)] ++ gs 4 fr cJ 5 (up2 F i pw (ro_k v.toInt))) := hD
    refine rz_if_eq (tgt := 17) hx hb d_L_put_10 (by decide) (fun hc => absurd hc (by decide)) (fun _ => ?_)
    refine lv_lconst (v := lk 1) hx hb d_L_put_13 rfl ?_
    refine lv_goto (tgt := 18) hx hb d_L_put_14 (by decide) ?_
    refine rl_st hx hb hK hP hD hS 2 0 rfl rfl 0 d_L_put_18 (fun H locs hP hD hS => ?_)
    have hP : va_P D vC ([(h, rO od fa ot ah te id rt bs 0), (fa, go cO 4 fr), (ou, kl cJ 1 (vp_updL V 0 (lk 1)))] ++ gs 4 fr cJ 5 (up2 F i pw (ro_k v.toInt))) H := hP
    have hD : va_D A ([(h, rO od fa ot ah te id rt bs 0), (fa, go cO 4 fr), (ou, kl cJ 1 (vp_updL V 0 (lk 1)))] ++ gs 4 fr cJ 5 (up2 F i pw (ro_k v.toInt))) := hD
    refine lv_goto (tgt := 26) hx hb d_L_put_19 (by decide) ?_
    refine rz_iconst hx hb d_L_put_26 ?_
    exact W.iret hx hb hr (fun t ht hW => ⟨⟨_, (0, up2 F i pw (ro_k v.toInt), 1), rfl, ⟨rfl, Or.inr ⟨hf, rfl⟩⟩, rc_out ht hP⟩, hS.F ht⟩) hS.2.2 d_L_put_27
set_option maxHeartbeats 4000000 in
set_option maxRecDepth 100000 in
theorem h_L_put_t (l : Launch) (D : va_G) (hst : l.stackTraces = false) (sa : Nat → Nat) (cJ cO : ClassId) (h fa ot ah te id rt bs : Nat) (od kn : Int) (ou : Nat) (V : Nat → Int64) (fr : Nat → Nat) (F : Nat → Nat → ro_K) (zi zp : Int) (v : Int64) (o : Nat) (hod : od = (o : Int)) (ho3 : o ≤ 3) (hzil : -2147483648 ≤ zi) (hzih : zi < 2147483648) (hzpl : -2147483648 ≤ zp) (hzph : zp < 2147483648) (hbad : ¬ (0 ≤ zi ∧ zi ≤ od ∧ 0 ≤ zp ∧ zp < 5)) : Met l y_L_put ws_L_put ({ frames := 8, cells := 1, slots := 6, locals := 156 }) (rx_Px D vC [(cJ, .long), (cO, .array .long)] [.ref h, .int (iz zi), .int (iz zp), .long v, .ref ou] ([(h, rO od fa ot ah te id rt bs kn), (fa, go cO 4 fr), (ou, kl cJ 1 V)] ++ gs 4 fr cJ 5 F) sa) (va_Qi (fun (q : Int32) (_ : Unit) => q = iz 1) (fun _ t => va_P D vC ([(h, rO od fa ot ah te id rt bs kn), (fa, go cO 4 fr), (ou, kl cJ 1 V)] ++ gs 4 fr cJ 5 F) t.heap) (rc_A ([(h, rO od fa ot ah te id rt bs kn), (fa, go cO 4 fr), (ou, kl cJ 1 V)] ++ gs 4 fr cJ 5 F))) 1 6 (rc_A ([(h, rO od fa ot ah te id rt bs kn), (fa, go cO 4 fr), (ou, kl cJ 1 V)] ++ gs 4 fr cJ 5 F)) := by
  refine rh_ofW (cc := c_L_put) (maxL := 7) (ret := (some .int)) (hh := [((0 : Nat), (19 : Nat), (22 : Nat), (13 : Nat))]) (by decide) rfl ?_
  intro p e s m args below meth c s₁ B hml hv
  obtain ⟨⟨rfl, hP, hK, hD0, hN⟩, hE⟩ := hv
  have hx := B.exec
  have hb := B.bytes
  have hr := B.returns
  have hts0 := atoms_spec (ws := ws_L_put) B.pre
  have htb := vx_table (x := y_L_put) B (hts0 _ List.mem_cons_self)
  have hts : ∀ w ∈ kb, w.before _ s = true := fun w h => hts0 w (List.mem_cons_of_mem _ h)
  have hown : s.vm.findClass R_L = some m.cls := findClass_of_methodNamed B.named
  have hlocks := B.notSynchronized
  have hD := rc_self hD0
  generalize hAe : rc_A ([(h, rO od fa ot ah te id rt bs kn), (fa, go cO 4 fr), (ou, kl cJ 1 V)] ++ gs 4 fr cJ 5 F) = A at hD hE ⊢
  have hS : va_S A s.heap s.heap [] := va_S.rf
  have hl := lv_entry ([.ref h, .int (iz zi), .int (iz zp), .long v, .ref ou]) (n := 7) (Nat.le_of_ble_eq_true rfl)
  rw [lg_entry_eq]
  generalize (lg_sl ([.ref h, .int (iz zi), .int (iz zp), .long v, .ref ou]) ++ List.replicate (7 - (lg_sl ([.ref h, .int (iz zi), .int (iz zp), .long v, .ref ou])).length) Slot.unset).toArray = ls at hl ⊢
  have hl : lv_has ls 7 [(0, .ref h), (1, .int (iz zi)), (2, .int (iz zp)), (3, .long v), (5, .ref ou)] := hl
  refine lv_aload hx hb d_L_put_0 (lv_at hl 4 rfl) ?_
  refine rz_iconst hx hb d_L_put_2 ?_
  refine lv_aload_n hx hb d_L_put_3 rfl (lv_at hl 0 rfl) ?_
  refine lv_iload_n hx hb d_L_put_4 rfl (lv_at hl 1 rfl) ?_
  refine lv_iload_n hx hb d_L_put_5 rfl (lv_at hl 2 rfl) ?_
  refine lv_lload_n hx hb d_L_put_6 rfl (lv_at hl 3 rfl) ?_
  refine rxT_calli (vx_runV (As := [.int (iz zi), .int (iz zp), .long v]) (rest := [.int (iz 0), .ref ou]) ⟨hx, hb, hml, hown, hts⟩ (x_O_put l D hst sa cJ cO h fa ot ah te id rt bs od kn fr F zi zp v o hod ho3 hzil hzih hzpl hzph hbad) (cwV 3 hts (kb_gi (kb_c kw_218 (kb_c kw_219 (kb_c kw_220 (kb_c kw_1 (kb_c kw_221 kb_all)))))) rfl rfl rfl (by decide +kernel) ⟨(Nat.le_of_ble_eq_true rfl), (Nat.le_of_ble_eq_true rfl)⟩) ⟨rx_blind, va_recv hK hP (ci := 2) (q0 := 0) rfl rfl, fun U h8 h9 => ⟨(rs_pre (Y := []) (rs_nil hP) (rs_nilD hD) hK hN [0, 1] rfl rfl [0, 1] rfl) U h8 h9, hE.go hS (rs_in (rs_nilD hD) (is := [0, 1]) rfl) h8 h9⟩⟩ rfl rfl hl.1 rfl (lv_room (Nat.le_of_ble_eq_true rfl)) d_L_put_7 ⟨(Nat.le_of_ble_eq_true rfl), (Nat.le_of_ble_eq_true rfl)⟩) (rs_nil hP) (rs_nilD hD) hS [0, 1] rfl (fun _ => rfl) (fun _ => gs_adr _ _ _ _ _ _) (fun ce q9 u1 H locs hw1 hP hD hS hce hcv hcl => ?_)
  have hP := rs_nilR hP
  have hD := rs_nilRD hD
  have hP : va_P D vC ([(h, rO od fa ot ah te id rt bs kn), (fa, go cO 4 fr), (ou, kl cJ 1 V)] ++ gs 4 fr cJ 5 F) H := hP
  have hD : va_D A ([(h, rO od fa ot ah te id rt bs kn), (fa, go cO 4 fr), (ou, kl cJ 1 V)] ++ gs 4 fr cJ 5 F) := hD
  refine vx_catch (name := xI) hown [] ⟨0, 19, 22, 13⟩ [] htb (fun z hz => absurd hz List.not_mem_nil) rfl (by decide) (hts _ kw_217) (va_Nw.use rfl hE.1.1) hce hcv hcl ?_
  refine lv_astore (lv' := [(6, .ref q9), (0, .ref h), (1, .int (iz zi)), (2, .int (iz zp)), (3, .long v), (5, .ref ou)]) hx hb d_L_put_22 hl (by decide) rfl (fun ls hl => ?_)
  refine rz_iconst hx hb d_L_put_24 ?_
  exact W.iret hx hb hr (fun t ht hW => ⟨⟨_, (), rfl, rfl, rc_out ht hP⟩, hS.F ht⟩) hS.2.2 d_L_put_25
def ws_L_at : List Cond := .codeWith y_L_at c_L_at 5 (some .int) [((0 : Nat), (10 : Nat), (13 : Nat), (13 : Nat))] :: kb
set_option maxHeartbeats 4000000 in
set_option maxRecDepth 100000 in
theorem h_L_at (l : Launch) (D : va_G) (cJ cO : ClassId) (h fa ot ah te id rt bs : Nat) (od kn : Int) (ou : Nat) (V : Nat → Int64) (fr : Nat → Nat) (F : Nat → Nat → ro_K) (zi zp : Int) (o : Nat) (hod : od = (o : Int)) (ho3 : o ≤ 3) (i pw : Nat) (hzi : zi = (i : Int)) (hzp : zp = (pw : Int)) (hi : i ≤ o) (hp : pw < 5) : Met l y_L_at ws_L_at ({ frames := 2, cells := 0, slots := 0, locals := 44 }) (rc_Pc D vC [(cJ, .long), (cO, .array .long)] [.ref h, .int (iz zi), .int (iz zp), .ref ou] ([(h, rO od fa ot ah te id rt bs kn), (fa, go cO 4 fr), (ou, kl cJ 1 V)] ++ gs 4 fr cJ 5 F)) (va_Qi (fun (q : Int32) (_ : Unit) => q = iz 0) (fun _ t => va_P D vC ([(h, rO od fa ot ah te id rt bs kn), (fa, go cO 4 fr), (ou, kl cJ 1 (vp_updL V 0 ((iz ((F i pw).val : Int)).toInt64)))] ++ gs 4 fr cJ 5 F) t.heap) (rc_A ([(h, rO od fa ot ah te id rt bs kn), (fa, go cO 4 fr), (ou, kl cJ 1 V)] ++ gs 4 fr cJ 5 F))) 0 0 (rc_A ([(h, rO od fa ot ah te id rt bs kn), (fa, go cO 4 fr), (ou, kl cJ 1 V)] ++ gs 4 fr cJ 5 F)) := by
  refine rh_ofW (cc := c_L_at) (maxL := 5) (ret := (some .int)) (hh := [((0 : Nat), (10 : Nat), (13 : Nat), (13 : Nat))]) (by decide) rfl ?_
  intro p e s m args below meth c s₁ B hml hv
  obtain ⟨rfl, hP, hK, hD0, hN⟩ := hv
  have hx := B.exec
  have hb := B.bytes
  have hr := B.returns
  have hts0 := atoms_spec (ws := ws_L_at) B.pre
  have htb := vx_table (x := y_L_at) B (hts0 _ List.mem_cons_self)
  have hts : ∀ w ∈ kb, w.before _ s = true := fun w h => hts0 w (List.mem_cons_of_mem _ h)
  have hown : s.vm.findClass R_L = some m.cls := findClass_of_methodNamed B.named
  have hlocks := B.notSynchronized
  have hD := rc_self hD0
  generalize hAe : rc_A ([(h, rO od fa ot ah te id rt bs kn), (fa, go cO 4 fr), (ou, kl cJ 1 V)] ++ gs 4 fr cJ 5 F) = A at hD ⊢
  have hS : va_S A s.heap s.heap [] := va_S.rf
  have hl := lv_entry ([.ref h, .int (iz zi), .int (iz zp), .ref ou]) (n := 5) (Nat.le_of_ble_eq_true rfl)
  rw [lg_entry_eq]
  generalize (lg_sl ([.ref h, .int (iz zi), .int (iz zp), .ref ou]) ++ List.replicate (5 - (lg_sl ([.ref h, .int (iz zi), .int (iz zp), .ref ou])).length) Slot.unset).toArray = ls at hl ⊢
  have hl : lv_has ls 5 [(0, .ref h), (1, .int (iz zi)), (2, .int (iz zp)), (3, .ref ou)] := hl
  refine lv_aload_n hx hb d_L_at_0 rfl (lv_at hl 3 rfl) ?_
  refine rz_iconst hx hb d_L_at_1 ?_
  refine lv_aload_n hx hb d_L_at_2 rfl (lv_at hl 0 rfl) ?_
  refine lv_iload_n hx hb d_L_at_3 rfl (lv_at hl 1 rfl) ?_
  refine lv_iload_n hx hb d_L_at_4 rfl (lv_at hl 2 rfl) ?_
  refine rs_calli (va_runV (As := [.int (iz zi), .int (iz zp)]) (rest := [.int (iz 0), .ref ou]) ⟨hx, hb, hml, hown, hts⟩ (m_O_at l D cJ cO h fa ot ah te id rt bs od kn fr F zi zp o hod ho3 i pw hzi hzp hi hp) (cwV 2 hts (kb_gi (kb_c kw_297 (kb_c kw_298 (kb_c kw_299 (kb_c kw_1 (kb_c kw_300 kb_all)))))) rfl rfl rfl (by decide +kernel) ⟨Nat.le_of_ble_eq_true rfl, Nat.le_of_ble_eq_true rfl⟩) ⟨rc_blind, va_recv hK hP (ci := 2) (q0 := 0) rfl rfl, rs_pre (Y := []) (rs_nil hP) (rs_nilD hD) hK hN [0, 1] rfl rfl [0, 1] rfl⟩ rfl rfl hl.1 rfl (lv_room (Nat.le_of_ble_eq_true rfl)) d_L_at_5 ⟨Nat.zero_le _, Nat.zero_le _⟩) hP hD hS [0, 1] rfl (fun _ => rfl) (fun _ => gs_adr _ _ _ _ _ _) (fun r1 u2 H locs hw2 hP hD hS => ?_)
  subst hw2
  have hP : va_P D vC ([(h, rO od fa ot ah te id rt bs kn), (fa, go cO 4 fr), (ou, kl cJ 1 V)] ++ gs 4 fr cJ 5 F) H := hP
  have hD : va_D A ([(h, rO od fa ot ah te id rt bs kn), (fa, go cO 4 fr), (ou, kl cJ 1 V)] ++ gs 4 fr cJ 5 F) := hD
  refine lv_i2l hx hb d_L_at_8 rfl ?_
  refine rl_st hx hb hK hP hD hS 2 0 rfl rfl 0 d_L_at_9 (fun H locs hP hD hS => ?_)
  have hP : va_P D vC ([(h, rO od fa ot ah te id rt bs kn), (fa, go cO 4 fr), (ou, kl cJ 1 (vp_updL V 0 ((iz ((F i pw).val : Int))).toInt64))] ++ gs 4 fr cJ 5 F) H := hP
  have hD : va_D A ([(h, rO od fa ot ah te id rt bs kn), (fa, go cO 4 fr), (ou, kl cJ 1 (vp_updL V 0 ((iz ((F i pw).val : Int))).toInt64))] ++ gs 4 fr cJ 5 F) := hD
  refine lv_goto (tgt := 17) hx hb d_L_at_10 (by decide) ?_
  refine rz_iconst hx hb d_L_at_17 ?_
  exact W.iret hx hb hr (fun t ht hW => ⟨⟨_, (), rfl, rfl, rc_out ht hP⟩, hS.F ht⟩) hS.2.2 d_L_at_18
set_option maxHeartbeats 4000000 in
set_option maxRecDepth 100000 in
theorem h_L_at_t (l : Launch) (D : va_G) (hst : l.stackTraces = false) (sa : Nat → Nat) (cJ cO : ClassId) (h fa ot ah te id rt bs : Nat) (od kn : Int) (ou : Nat) (V : Nat → Int64) (fr : Nat → Nat) (F : Nat → Nat → ro_K) (zi zp : Int) (o : Nat) (hod : od = (o : Int)) (ho3 : o ≤ 3) (hzil : -2147483648 ≤ zi) (hzih : zi < 2147483648) (hzpl : -2147483648 ≤ zp) (hzph : zp < 2147483648) (hbad : ¬ (0 ≤ zi ∧ zi ≤ od ∧ 0 ≤ zp ∧ zp < 5)) : Met l y_L_at ws_L_at ({ frames := 8, cells := 1, slots := 6, locals := 152 }) (rx_Px D vC [(cJ, .long), (cO, .array .long)] [.ref h, .int (iz zi), .int (iz zp), .ref ou] ([(h, rO od fa ot ah te id rt bs kn), (fa, go cO 4 fr), (ou, kl cJ 1 V)] ++ gs 4 fr cJ 5 F) sa) (va_Qi (fun (q : Int32) (_ : Unit) => q = iz 1) (fun _ t => va_P D vC ([(h, rO od fa ot ah te id rt bs kn), (fa, go cO 4 fr), (ou, kl cJ 1 V)] ++ gs 4 fr cJ 5 F) t.heap) (rc_A ([(h, rO od fa ot ah te id rt bs kn), (fa, go cO 4 fr), (ou, kl cJ 1 V)] ++ gs 4 fr cJ 5 F))) 1 6 (rc_A ([(h, rO od fa ot ah te id rt bs kn), (fa, go cO 4 fr), (ou, kl cJ 1 V)] ++ gs 4 fr cJ 5 F)) := by
  refine rh_ofW (cc := c_L_at) (maxL := 5) (ret := (some .int)) (hh := [((0 : Nat), (10 : Nat), (13 : Nat), (13 : Nat))]) (by decide) rfl ?_
  intro p e s m args below meth c s₁ B hml hv
  obtain ⟨⟨rfl, hP, hK, hD0, hN⟩, hE⟩ := hv
  have hx := B.exec
  have hb := B.bytes
  have hr := B.returns
  have hts0 := atoms_spec (ws := ws_L_at) B.pre
  have htb := vx_table (x := y_L_at) B (hts0 _ List.mem_cons_self)
  have hts : ∀ w ∈ kb, w.before _ s = true := fun w h => hts0 w (List.mem_cons_of_mem _ h)
  have hown : s.vm.findClass R_L = some m.cls := findClass_of_methodNamed B.named
  have hlocks := B.notSynchronized
  have hD := rc_self hD0
  generalize hAe : rc_A ([(h, rO od fa ot ah te id rt bs kn), (fa, go cO 4 fr), (ou, kl cJ 1 V)] ++ gs 4 fr cJ 5 F) = A at hD hE ⊢
  have hS : va_S A s.heap s.heap [] := va_S.rf
  have hl := lv_entry ([.ref h, .int (iz zi), .int (iz zp), .ref ou]) (n := 5) (Nat.le_of_ble_eq_true rfl)
  rw [lg_entry_eq]
  generalize (lg_sl ([.ref h, .int (iz zi), .int (iz zp), .ref ou]) ++ List.replicate (5 - (lg_sl ([.ref h, .int (iz zi), .int (iz zp), .ref ou])).length) Slot.unset).toArray = ls at hl ⊢
  have hl : lv_has ls 5 [(0, .ref h), (1, .int (iz zi)), (2, .int (iz zp)), (3, .ref ou)] := hl
  refine lv_aload_n hx hb d_L_at_0 rfl (lv_at hl 3 rfl) ?_
  refine rz_iconst hx hb d_L_at_1 ?_
  refine lv_aload_n hx hb d_L_at_2 rfl (lv_at hl 0 rfl) ?_
  refine lv_iload_n hx hb d_L_at_3 rfl (lv_at hl 1 rfl) ?_
  refine lv_iload_n hx hb d_L_at_4 rfl (lv_at hl 2 rfl) ?_
  refine rxT_calli (vx_runV (As := [.int (iz zi), .int (iz zp)]) (rest := [.int (iz 0), .ref ou]) ⟨hx, hb, hml, hown, hts⟩ (x_O_at l D hst sa cJ cO h fa ot ah te id rt bs od kn fr F zi zp o hod ho3 hzil hzih hzpl hzph hbad) (cwV 2 hts (kb_gi (kb_c kw_297 (kb_c kw_298 (kb_c kw_299 (kb_c kw_1 (kb_c kw_300 kb_all)))))) rfl rfl rfl (by decide +kernel) ⟨(Nat.le_of_ble_eq_true rfl), (Nat.le_of_ble_eq_true rfl)⟩) ⟨rx_blind, va_recv hK hP (ci := 2) (q0 := 0) rfl rfl, fun U h8 h9 => ⟨(rs_pre (Y := []) (rs_nil hP) (rs_nilD hD) hK hN [0, 1] rfl rfl [0, 1] rfl) U h8 h9, hE.go hS (rs_in (rs_nilD hD) (is := [0, 1]) rfl) h8 h9⟩⟩ rfl rfl hl.1 rfl (lv_room (Nat.le_of_ble_eq_true rfl)) d_L_at_5 ⟨(Nat.le_of_ble_eq_true rfl), (Nat.le_of_ble_eq_true rfl)⟩) (rs_nil hP) (rs_nilD hD) hS [0, 1] rfl (fun _ => rfl) (fun _ => gs_adr _ _ _ _ _ _) (fun ce q9 u1 H locs hw1 hP hD hS hce hcv hcl => ?_)
  have hP := rs_nilR hP
  have hD := rs_nilRD hD
  have hP : va_P D vC ([(h, rO od fa ot ah te id rt bs kn), (fa, go cO 4 fr), (ou, kl cJ 1 V)] ++ gs 4 fr cJ 5 F) H := hP
  have hD : va_D A ([(h, rO od fa ot ah te id rt bs kn), (fa, go cO 4 fr), (ou, kl cJ 1 V)] ++ gs 4 fr cJ 5 F) := hD
  refine vx_catch (name := xI) hown [] ⟨0, 10, 13, 13⟩ [] htb (fun z hz => absurd hz List.not_mem_nil) rfl (by decide) (hts _ kw_217) (va_Nw.use rfl hE.1.1) hce hcv hcl ?_
  refine lv_astore (lv' := [(4, .ref q9), (0, .ref h), (1, .int (iz zi)), (2, .int (iz zp)), (3, .ref ou)]) hx hb d_L_at_13 hl (by decide) rfl (fun ls hl => ?_)
  refine rz_iconst hx hb d_L_at_15 ?_
  exact W.iret hx hb hr (fun t ht hW => ⟨⟨_, (), rfl, rfl, rc_out ht hP⟩, hS.F ht⟩) hS.2.2 d_L_at_16
def ws_L_hand : List Cond := .codeWith y_L_hand c_L_hand 5 (some .int) [((0 : Nat), (6 : Nat), (9 : Nat), (13 : Nat))] :: kb
set_option maxHeartbeats 4000000 in
set_option maxRecDepth 100000 in
theorem h_L_hand (l : Launch) (D : va_G) (cJ cO : ClassId) (h fa ot ah te id rt bs : Nat) (od kn : Int) (a : Nat → ro_K) (zp : Int) (v : Int64) (pw : Nat) (hzp : zp = (pw : Int)) (hp : pw < 13) : Met l y_L_hand ws_L_hand ({ frames := 2, cells := 0, slots := 0, locals := 46 }) (rc_Pc D vC [(cJ, .long)] [.ref h, .int (iz zp), .long v] [(h, rO od fa ot ah te id rt bs kn), (ah, ka cJ 13 a)]) (va_Qi (fun (q : Int32) (_ : Unit) => q = iz 0) (fun _ t => va_P D vC [(h, rO od fa ot ah te id rt bs kn), (ah, ka cJ 13 (va_up a pw (ro_k v.toInt)))] t.heap) (rc_A [(h, rO od fa ot ah te id rt bs kn), (ah, ka cJ 13 a)])) 0 0 (rc_A [(h, rO od fa ot ah te id rt bs kn), (ah, ka cJ 13 a)]) := by
  refine rh_ofW (cc := c_L_hand) (maxL := 5) (ret := (some .int)) (hh := [((0 : Nat), (6 : Nat), (9 : Nat), (13 : Nat))]) (by decide) rfl ?_
  intro p e s m args below meth c s₁ B hml hv
  obtain ⟨rfl, hP, hK, hD0, hN⟩ := hv
  have hx := B.exec
  have hb := B.bytes
  have hr := B.returns
  have hts0 := atoms_spec (ws := ws_L_hand) B.pre
  have htb := vx_table (x := y_L_hand) B (hts0 _ List.mem_cons_self)
  have hts : ∀ w ∈ kb, w.before _ s = true := fun w h => hts0 w (List.mem_cons_of_mem _ h)
  have hown : s.vm.findClass R_L = some m.cls := findClass_of_methodNamed B.named
  have hlocks := B.notSynchronized
  have hD := rc_self hD0
  generalize hAe : rc_A [(h, rO od fa ot ah te id rt bs kn), (ah, ka cJ 13 a)] = A at hD ⊢
  have hS : va_S A s.heap s.heap [] := va_S.rf
  have hl := lv_entry ([.ref h, .int (iz zp), .long v]) (n := 5) (Nat.le_of_ble_eq_true rfl)
  rw [lg_entry_eq]
  generalize (lg_sl ([.ref h, .int (iz zp), .long v]) ++ List.replicate (5 - (lg_sl ([.ref h, .int (iz zp), .long v])).length) Slot.unset).toArray = ls at hl ⊢
  have hl : lv_has ls 5 [(0, .ref h), (1, .int (iz zp)), (2, .long v)] := hl
  refine lv_aload_n hx hb d_L_hand_0 rfl (lv_at hl 0 rfl) ?_
  refine lv_iload_n hx hb d_L_hand_1 rfl (lv_at hl 1 rfl) ?_
  refine lv_lload_n hx hb d_L_hand_2 rfl (lv_at hl 2 rfl) ?_
  refine rc_callv (va_runV (As := [.int (iz zp), .long v]) (rest := []) ⟨hx, hb, hml, hown, hts⟩ (m_O_hand l D cJ cO h fa ot ah te id rt bs od kn a zp v pw hzp hp) (cwV 2 hts (kb_gi (kb_c kw_304 (kb_c kw_305 (kb_c kw_306 (kb_c kw_1 (kb_c kw_307 kb_all)))))) rfl rfl rfl (by decide +kernel) ⟨Nat.le_of_ble_eq_true rfl, Nat.le_of_ble_eq_true rfl⟩) ⟨rc_blind, va_recv hK hP (ci := 2) (q0 := 0) rfl rfl, rc_pre hP hD hK hN [0, 1] rfl rfl [0] rfl⟩ rfl rfl hl.1 rfl (lv_room (Nat.le_of_ble_eq_true rfl)) d_L_hand_3 ⟨Nat.zero_le _, Nat.zero_le _⟩) hP hD hS [0, 1] rfl (fun _ => rfl) (fun u1 H locs hw1 hP hD hS => ?_)
  have hP : va_P D vC [(h, rO od fa ot ah te id rt bs kn), (ah, ka cJ 13 (va_up a pw (ro_k v.toInt)))] H := hP
  have hD : va_D A [(h, rO od fa ot ah te id rt bs kn), (ah, ka cJ 13 (va_up a pw (ro_k v.toInt)))] := hD
  refine lv_goto (tgt := 13) hx hb d_L_hand_6 (by decide) ?_
  refine rz_iconst hx hb d_L_hand_13 ?_
  exact W.iret hx hb hr (fun t ht hW => ⟨⟨_, (), rfl, rfl, rc_out ht hP⟩, hS.F ht⟩) hS.2.2 d_L_hand_14
set_option maxHeartbeats 4000000 in
set_option maxRecDepth 100000 in
theorem h_L_hand_t (l : Launch) (D : va_G) (hst : l.stackTraces = false) (sa : Nat → Nat) (cJ cO : ClassId) (h fa ot ah te id rt bs : Nat) (od kn : Int) (a : Nat → ro_K) (zp : Int) (v : Int64) (hzpl : -2147483648 ≤ zp) (hzph : zp < 2147483648) (hbad : ¬ (0 ≤ zp ∧ zp < 13)) : Met l y_L_hand ws_L_hand ({ frames := 8, cells := 1, slots := 6, locals := 153 }) (rx_Px D vC [(cJ, .long)] [.ref h, .int (iz zp), .long v] [(h, rO od fa ot ah te id rt bs kn), (ah, ka cJ 13 a)] sa) (va_Qi (fun (q : Int32) (_ : Unit) => q = iz 1) (fun _ t => va_P D vC [(h, rO od fa ot ah te id rt bs kn), (ah, ka cJ 13 a)] t.heap) (rc_A [(h, rO od fa ot ah te id rt bs kn), (ah, ka cJ 13 a)])) 1 6 (rc_A [(h, rO od fa ot ah te id rt bs kn), (ah, ka cJ 13 a)]) := by
  refine rh_ofW (cc := c_L_hand) (maxL := 5) (ret := (some .int)) (hh := [((0 : Nat), (6 : Nat), (9 : Nat), (13 : Nat))]) (by decide) rfl ?_
  intro p e s m args below meth c s₁ B hml hv
  obtain ⟨⟨rfl, hP, hK, hD0, hN⟩, hE⟩ := hv
  have hx := B.exec
  have hb := B.bytes
  have hr := B.returns
  have hts0 := atoms_spec (ws := ws_L_hand) B.pre
  have htb := vx_table (x := y_L_hand) B (hts0 _ List.mem_cons_self)
  have hts : ∀ w ∈ kb, w.before _ s = true := fun w h => hts0 w (List.mem_cons_of_mem _ h)
  have hown : s.vm.findClass R_L = some m.cls := findClass_of_methodNamed B.named
  have hlocks := B.notSynchronized
  have hD := rc_self hD0
  generalize hAe : rc_A [(h, rO od fa ot ah te id rt bs kn), (ah, ka cJ 13 a)] = A at hD hE ⊢
  have hS : va_S A s.heap s.heap [] := va_S.rf
  have hl := lv_entry ([.ref h, .int (iz zp), .long v]) (n := 5) (Nat.le_of_ble_eq_true rfl)
  rw [lg_entry_eq]
  generalize (lg_sl ([.ref h, .int (iz zp), .long v]) ++ List.replicate (5 - (lg_sl ([.ref h, .int (iz zp), .long v])).length) Slot.unset).toArray = ls at hl ⊢
  have hl : lv_has ls 5 [(0, .ref h), (1, .int (iz zp)), (2, .long v)] := hl
  refine lv_aload_n hx hb d_L_hand_0 rfl (lv_at hl 0 rfl) ?_
  refine lv_iload_n hx hb d_L_hand_1 rfl (lv_at hl 1 rfl) ?_
  refine lv_lload_n hx hb d_L_hand_2 rfl (lv_at hl 2 rfl) ?_
  refine rx_callv (vx_runV (As := [.int (iz zp), .long v]) (rest := []) ⟨hx, hb, hml, hown, hts⟩ (x_O_hand l D hst sa cJ cO h fa ot ah te id rt bs od kn a zp v hzpl hzph hbad) (cwV 2 hts (kb_gi (kb_c kw_304 (kb_c kw_305 (kb_c kw_306 (kb_c kw_1 (kb_c kw_307 kb_all)))))) rfl rfl rfl (by decide +kernel) ⟨(Nat.le_of_ble_eq_true rfl), (Nat.le_of_ble_eq_true rfl)⟩) ⟨rx_blind, va_recv hK hP (ci := 2) (q0 := 0) rfl rfl, fun U h8 h9 => ⟨(rc_pre hP hD hK hN [0, 1] rfl rfl [0] rfl) U h8 h9, hE.go hS (rc_in hD (is := [0, 1]) rfl) h8 h9⟩⟩ rfl rfl hl.1 rfl (lv_room (Nat.le_of_ble_eq_true rfl)) d_L_hand_3 ⟨(Nat.le_of_ble_eq_true rfl), (Nat.le_of_ble_eq_true rfl)⟩) hP hD hS [0, 1] rfl (fun _ => rfl) (fun ce q9 u1 H locs hw1 hP hD hS hce hcv hcl => ?_)
  have hP : va_P D vC [(h, rO od fa ot ah te id rt bs kn), (ah, ka cJ 13 a)] H := hP
  have hD : va_D A [(h, rO od fa ot ah te id rt bs kn), (ah, ka cJ 13 a)] := hD
  refine vx_catch (name := xI) hown [] ⟨0, 6, 9, 13⟩ [] htb (fun z hz => absurd hz List.not_mem_nil) rfl (by decide) (hts _ kw_217) (va_Nw.use rfl hE.1.1) hce hcv hcl ?_
  refine lv_astore (lv' := [(4, .ref q9), (0, .ref h), (1, .int (iz zp)), (2, .long v)]) hx hb d_L_hand_9 hl (by decide) rfl (fun ls hl => ?_)
  refine rz_iconst hx hb d_L_hand_11 ?_
  exact W.iret hx hb hr (fun t ht hW => ⟨⟨_, (), rfl, rfl, rc_out ht hP⟩, hS.F ht⟩) hS.2.2 d_L_hand_12
def ws_L_places : List Cond := .codeWith y_L_places c_L_places 3 (some .int) [((0 : Nat), (8 : Nat), (11 : Nat), (27 : Nat))] :: kb
set_option maxHeartbeats 4000000 in
set_option maxRecDepth 100000 in
theorem h_L_places (l : Launch) (D : va_G) (cJ cO : ClassId) (h fa ot ah te id rt bs : Nat) (od kn : Int) (ou : Nat) (V : Nat → Int64) (fo wh pt rs sq on tw : Nat) (cn : Int) (Fo Y P r S a1 b1 : Nat → ro_K) (fr : Nat → Nat) (F : Nat → Nat → ro_K) (o : Nat) (hod : od = (o : Int)) (ho3 : o ≤ 3) (hF : 0 ≤ kd (F o) 5) : Met l y_L_places ws_L_places ({ frames := 7, cells := 0, slots := 0, locals := 173 }) (rc_Pc D vC [(cJ, .long), (cO, .array .long)] [.ref h, .ref ou] ([(h, rO od fa ot ah te id rt bs kn), (fa, go cO 4 fr), (rt, rR fo cn wh pt rs sq on tw), (fo, ka cJ 4 Fo), (wh, ka cJ 5 Y), (pt, ka cJ 5 P), (rs, ka cJ 5 r), (sq, ka cJ 8 S), (on, ka cJ 5 a1), (tw, ka cJ 5 b1), (ou, kl cJ 1 V)] ++ gs 4 fr cJ 5 F)) (va_Qi (fun (q : Int32) (u : rS8) => q = iz 0 ∧ rts (F o) u.1 u.2.1) (fun u t => va_P D vC ([(h, rO od fa ot ah te id rt bs kn), (fa, go cO 4 fr), (rt, rR fo (u.1 : Int) wh pt rs sq on tw), (fo, ka cJ 4 u.2.1), (wh, ka cJ 5 u.2.2.1), (pt, ka cJ 5 u.2.2.2.1), (rs, ka cJ 5 u.2.2.2.2.1), (sq, ka cJ 8 u.2.2.2.2.2.1), (on, ka cJ 5 u.2.2.2.2.2.2.1), (tw, ka cJ 5 u.2.2.2.2.2.2.2), (ou, kl cJ 1 (vp_updL V 0 ((iz (u.1 : Int)).toInt64)))] ++ gs 4 fr cJ 5 F) t.heap) (rc_A ([(h, rO od fa ot ah te id rt bs kn), (fa, go cO 4 fr), (rt, rR fo cn wh pt rs sq on tw), (fo, ka cJ 4 Fo), (wh, ka cJ 5 Y), (pt, ka cJ 5 P), (rs, ka cJ 5 r), (sq, ka cJ 8 S), (on, ka cJ 5 a1), (tw, ka cJ 5 b1), (ou, kl cJ 1 V)] ++ gs 4 fr cJ 5 F))) 0 0 (rc_A ([(h, rO od fa ot ah te id rt bs kn), (fa, go cO 4 fr), (rt, rR fo cn wh pt rs sq on tw), (fo, ka cJ 4 Fo), (wh, ka cJ 5 Y), (pt, ka cJ 5 P), (rs, ka cJ 5 r), (sq, ka cJ 8 S), (on, ka cJ 5 a1), (tw, ka cJ 5 b1), (ou, kl cJ 1 V)] ++ gs 4 fr cJ 5 F)) := by
  refine rh_ofW (cc := c_L_places) (maxL := 3) (ret := (some .int)) (hh := [((0 : Nat), (8 : Nat), (11 : Nat), (27 : Nat))]) (by decide) rfl ?_
  intro p e s m args below meth c s₁ B hml hv
  obtain ⟨rfl, hP, hK, hD0, hN⟩ := hv
  have hx := B.exec
  have hb := B.bytes
  have hr := B.returns
  have hts0 := atoms_spec (ws := ws_L_places) B.pre
  have htb := vx_table (x := y_L_places) B (hts0 _ List.mem_cons_self)
  have hts : ∀ w ∈ kb, w.before _ s = true := fun w h => hts0 w (List.mem_cons_of_mem _ h)
  have hown : s.vm.findClass R_L = some m.cls := findClass_of_methodNamed B.named
  have hlocks := B.notSynchronized
  have hD := rc_self hD0
  generalize hAe : rc_A ([(h, rO od fa ot ah te id rt bs kn), (fa, go cO 4 fr), (rt, rR fo cn wh pt rs sq on tw), (fo, ka cJ 4 Fo), (wh, ka cJ 5 Y), (pt, ka cJ 5 P), (rs, ka cJ 5 r), (sq, ka cJ 8 S), (on, ka cJ 5 a1), (tw, ka cJ 5 b1), (ou, kl cJ 1 V)] ++ gs 4 fr cJ 5 F) = A at hD ⊢
  have hS : va_S A s.heap s.heap [] := va_S.rf
  have hl := lv_entry ([.ref h, .ref ou]) (n := 3) (Nat.le_of_ble_eq_true rfl)
  rw [lg_entry_eq]
  generalize (lg_sl ([.ref h, .ref ou]) ++ List.replicate (3 - (lg_sl ([.ref h, .ref ou])).length) Slot.unset).toArray = ls at hl ⊢
  have hl : lv_has ls 3 [(0, .ref h), (1, .ref ou)] := hl
  refine lv_aload_n hx hb d_L_places_0 rfl (lv_at hl 1 rfl) ?_
  refine rz_iconst hx hb d_L_places_1 ?_
  refine lv_aload_n hx hb d_L_places_2 rfl (lv_at hl 0 rfl) ?_
  refine rs_calli (va_runV (As := []) (rest := [.int (iz 0), .ref ou]) ⟨hx, hb, hml, hown, hts⟩ (m_O_places l D cJ cO h fa ot ah te id rt bs od kn fo wh pt rs sq on tw cn Fo Y P r S a1 b1 fr F o hod ho3 hF) (cwV 0 hts (kb_gi (kb_c kw_317 (kb_c kw_318 (kb_c kw_319 (kb_c kw_1 (kb_c kw_320 kb_all)))))) rfl rfl rfl (by decide +kernel) ⟨Nat.le_of_ble_eq_true rfl, Nat.le_of_ble_eq_true rfl⟩) ⟨rc_blind, va_recv hK hP (ci := 2) (q0 := 0) rfl rfl, rs_pre (Y := []) (rs_nil hP) (rs_nilD hD) hK hN [0, 1, 2, 3, 4, 5, 6, 7, 8, 9] rfl rfl [0, 1] rfl⟩ rfl rfl hl.1 rfl (lv_room (Nat.le_of_ble_eq_true rfl)) d_L_places_3 ⟨Nat.zero_le _, Nat.zero_le _⟩) hP hD hS [0, 1, 2, 3, 4, 5, 6, 7, 8, 9] rfl (fun _ => rfl) (fun _ => gs_adr _ _ _ _ _ _) (fun r1 u2 H locs hw2 hP hD hS => ?_)
  obtain ⟨hw8, hw9⟩ := hw2
  obtain ⟨u, rfl⟩ : ∃ z, z = u2 := ⟨_, rfl⟩
  subst hw9
  have hP : va_P D vC ([(h, rO od fa ot ah te id rt bs kn), (fa, go cO 4 fr), (rt, rR fo (u.1 : Int) wh pt rs sq on tw), (fo, ka cJ 4 u.2.1), (wh, ka cJ 5 u.2.2.1), (pt, ka cJ 5 u.2.2.2.1), (rs, ka cJ 5 u.2.2.2.2.1), (sq, ka cJ 8 u.2.2.2.2.2.1), (on, ka cJ 5 u.2.2.2.2.2.2.1), (tw, ka cJ 5 u.2.2.2.2.2.2.2), (ou, kl cJ 1 V)] ++ gs 4 fr cJ 5 F) H := hP
  have hD : va_D A ([(h, rO od fa ot ah te id rt bs kn), (fa, go cO 4 fr), (rt, rR fo (u.1 : Int) wh pt rs sq on tw), (fo, ka cJ 4 u.2.1), (wh, ka cJ 5 u.2.2.1), (pt, ka cJ 5 u.2.2.2.1), (rs, ka cJ 5 u.2.2.2.2.1), (sq, ka cJ 8 u.2.2.2.2.2.1), (on, ka cJ 5 u.2.2.2.2.2.2.1), (tw, ka cJ 5 u.2.2.2.2.2.2.2), (ou, kl cJ 1 V)] ++ gs 4 fr cJ 5 F) := hD
  refine lv_i2l hx hb d_L_places_6 rfl ?_
  refine rl_st hx hb hK hP hD hS 10 0 rfl rfl 0 d_L_places_7 (fun H locs hP hD hS => ?_)
  have hP : va_P D vC ([(h, rO od fa ot ah te id rt bs kn), (fa, go cO 4 fr), (rt, rR fo (u.1 : Int) wh pt rs sq on tw), (fo, ka cJ 4 u.2.1), (wh, ka cJ 5 u.2.2.1), (pt, ka cJ 5 u.2.2.2.1), (rs, ka cJ 5 u.2.2.2.2.1), (sq, ka cJ 8 u.2.2.2.2.2.1), (on, ka cJ 5 u.2.2.2.2.2.2.1), (tw, ka cJ 5 u.2.2.2.2.2.2.2), (ou, kl cJ 1 (vp_updL V 0 ((iz (u.1 : Int))).toInt64))] ++ gs 4 fr cJ 5 F) H := hP
  have hD : va_D A ([(h, rO od fa ot ah te id rt bs kn), (fa, go cO 4 fr), (rt, rR fo (u.1 : Int) wh pt rs sq on tw), (fo, ka cJ 4 u.2.1), (wh, ka cJ 5 u.2.2.1), (pt, ka cJ 5 u.2.2.2.1), (rs, ka cJ 5 u.2.2.2.2.1), (sq, ka cJ 8 u.2.2.2.2.2.1), (on, ka cJ 5 u.2.2.2.2.2.2.1), (tw, ka cJ 5 u.2.2.2.2.2.2.2), (ou, kl cJ 1 (vp_updL V 0 ((iz (u.1 : Int))).toInt64))] ++ gs 4 fr cJ 5 F) := hD
  refine lv_goto (tgt := 14) hx hb d_L_places_8 (by decide) ?_
  refine rz_iconst hx hb d_L_places_14 ?_
  exact W.iret hx hb hr (fun t ht hW => ⟨⟨_, u, rfl, ⟨rfl, hw8⟩, rc_out ht hP⟩, hS.F ht⟩) hS.2.2 d_L_places_15
set_option maxHeartbeats 4000000 in
set_option maxRecDepth 100000 in
theorem h_L_places_t (l : Launch) (D : va_G) (hst : l.stackTraces = false) (sa : Nat → Nat) (cJ cO : ClassId) (h fa ot ah te id rt bs : Nat) (od kn : Int) (ou : Nat) (V : Nat → Int64) (fo wh pt rs sq on tw : Nat) (cn : Int) (Fo Y P r S a1 b1 : Nat → ro_K) (fr : Nat → Nat) (F : Nat → Nat → ro_K) (o : Nat) (hod : od = (o : Int)) (ho3 : o ≤ 3) (hz0 : kd (F o) 5 < 0) : Met l y_L_places ws_L_places ({ frames := 8, cells := 1, slots := 6, locals := 150 }) (rx_Px D vC [(cJ, .long), (cO, .array .long)] [.ref h, .ref ou] ([(h, rO od fa ot ah te id rt bs kn), (fa, go cO 4 fr), (rt, rR fo cn wh pt rs sq on tw), (fo, ka cJ 4 Fo), (wh, ka cJ 5 Y), (pt, ka cJ 5 P), (rs, ka cJ 5 r), (sq, ka cJ 8 S), (on, ka cJ 5 a1), (tw, ka cJ 5 b1), (ou, kl cJ 1 V)] ++ gs 4 fr cJ 5 F) sa) (va_Qi (fun (q : Int32) (_ : Unit) => q = iz 1) (fun _ t => va_P D vC ([(h, rO od fa ot ah te id rt bs kn), (fa, go cO 4 fr), (rt, rR fo cn wh pt rs sq on tw), (fo, ka cJ 4 Fo), (wh, ka cJ 5 Y), (pt, ka cJ 5 P), (rs, ka cJ 5 r), (sq, ka cJ 8 S), (on, ka cJ 5 a1), (tw, ka cJ 5 b1), (ou, kl cJ 1 V)] ++ gs 4 fr cJ 5 F) t.heap) (rc_A ([(h, rO od fa ot ah te id rt bs kn), (fa, go cO 4 fr), (rt, rR fo cn wh pt rs sq on tw), (fo, ka cJ 4 Fo), (wh, ka cJ 5 Y), (pt, ka cJ 5 P), (rs, ka cJ 5 r), (sq, ka cJ 8 S), (on, ka cJ 5 a1), (tw, ka cJ 5 b1), (ou, kl cJ 1 V)] ++ gs 4 fr cJ 5 F))) 1 6 (rc_A ([(h, rO od fa ot ah te id rt bs kn), (fa, go cO 4 fr), (rt, rR fo cn wh pt rs sq on tw), (fo, ka cJ 4 Fo), (wh, ka cJ 5 Y), (pt, ka cJ 5 P), (rs, ka cJ 5 r), (sq, ka cJ 8 S), (on, ka cJ 5 a1), (tw, ka cJ 5 b1), (ou, kl cJ 1 V)] ++ gs 4 fr cJ 5 F)) := by
  refine rh_ofW (cc := c_L_places) (maxL := 3) (ret := (some .int)) (hh := [((0 : Nat), (8 : Nat), (11 : Nat), (27 : Nat))]) (by decide) rfl ?_
  intro p e s m args below meth c s₁ B hml hv
  obtain ⟨⟨rfl, hP, hK, hD0, hN⟩, hE⟩ := hv
  have hx := B.exec
  have hb := B.bytes
  have hr := B.returns
  have hts0 := atoms_spec (ws := ws_L_places) B.pre
  have htb := vx_table (x := y_L_places) B (hts0 _ List.mem_cons_self)
  have hts : ∀ w ∈ kb, w.before _ s = true := fun w h => hts0 w (List.mem_cons_of_mem _ h)
  have hown : s.vm.findClass R_L = some m.cls := findClass_of_methodNamed B.named
  have hlocks := B.notSynchronized
  have hD := rc_self hD0
  generalize hAe : rc_A ([(h, rO od fa ot ah te id rt bs kn), (fa, go cO 4 fr), (rt, rR fo cn wh pt rs sq on tw), (fo, ka cJ 4 Fo), (wh, ka cJ 5 Y), (pt, ka cJ 5 P), (rs, ka cJ 5 r), (sq, ka cJ 8 S), (on, ka cJ 5 a1), (tw, ka cJ 5 b1), (ou, kl cJ 1 V)] ++ gs 4 fr cJ 5 F) = A at hD hE ⊢
  have hS : va_S A s.heap s.heap [] := va_S.rf
  have hl := lv_entry ([.ref h, .ref ou]) (n := 3) (Nat.le_of_ble_eq_true rfl)
  rw [lg_entry_eq]
  generalize (lg_sl ([.ref h, .ref ou]) ++ List.replicate (3 - (lg_sl ([.ref h, .ref ou])).length) Slot.unset).toArray = ls at hl ⊢
  have hl : lv_has ls 3 [(0, .ref h), (1, .ref ou)] := hl
  refine lv_aload_n hx hb d_L_places_0 rfl (lv_at hl 1 rfl) ?_
  refine rz_iconst hx hb d_L_places_1 ?_
  refine lv_aload_n hx hb d_L_places_2 rfl (lv_at hl 0 rfl) ?_
  refine rxT_calli (vx_runV (As := []) (rest := [.int (iz 0), .ref ou]) ⟨hx, hb, hml, hown, hts⟩ (x_O_places l D hst sa cJ cO h fa ot ah te id rt bs od kn fo wh pt rs sq on tw cn Fo Y P r S a1 b1 fr F o hod ho3 hz0) (cwV 0 hts (kb_gi (kb_c kw_317 (kb_c kw_318 (kb_c kw_319 (kb_c kw_1 (kb_c kw_320 kb_all)))))) rfl rfl rfl (by decide +kernel) ⟨(Nat.le_of_ble_eq_true rfl), (Nat.le_of_ble_eq_true rfl)⟩) ⟨rx_blind, va_recv hK hP (ci := 2) (q0 := 0) rfl rfl, fun U h8 h9 => ⟨(rs_pre (Y := []) (rs_nil hP) (rs_nilD hD) hK hN [0, 1, 2, 3, 4, 5, 6, 7, 8, 9] rfl rfl [0, 1] rfl) U h8 h9, hE.go hS (rs_in (rs_nilD hD) (is := [0, 1, 2, 3, 4, 5, 6, 7, 8, 9]) rfl) h8 h9⟩⟩ rfl rfl hl.1 rfl (lv_room (Nat.le_of_ble_eq_true rfl)) d_L_places_3 ⟨(Nat.le_of_ble_eq_true rfl), (Nat.le_of_ble_eq_true rfl)⟩) (rs_nil hP) (rs_nilD hD) hS [0, 1, 2, 3, 4, 5, 6, 7, 8, 9] rfl (fun _ => rfl) (fun _ => gs_adr _ _ _ _ _ _) (fun ce q9 u1 H locs hw1 hP hD hS hce hcv hcl => ?_)
  have hP := rs_nilR hP
  have hD := rs_nilRD hD
  have hP : va_P D vC ([(h, rO od fa ot ah te id rt bs kn), (fa, go cO 4 fr), (rt, rR fo cn wh pt rs sq on tw), (fo, ka cJ 4 Fo), (wh, ka cJ 5 Y), (pt, ka cJ 5 P), (rs, ka cJ 5 r), (sq, ka cJ 8 S), (on, ka cJ 5 a1), (tw, ka cJ 5 b1), (ou, kl cJ 1 V)] ++ gs 4 fr cJ 5 F) H := hP
  have hD : va_D A ([(h, rO od fa ot ah te id rt bs kn), (fa, go cO 4 fr), (rt, rR fo cn wh pt rs sq on tw), (fo, ka cJ 4 Fo), (wh, ka cJ 5 Y), (pt, ka cJ 5 P), (rs, ka cJ 5 r), (sq, ka cJ 8 S), (on, ka cJ 5 a1), (tw, ka cJ 5 b1), (ou, kl cJ 1 V)] ++ gs 4 fr cJ 5 F) := hD
  refine vx_catch (name := xS) hown [] ⟨0, 8, 11, 27⟩ [] htb (fun z hz => absurd hz List.not_mem_nil) rfl (by decide) (hts _ kw_316) (va_Nw.use rfl hE.1.2.1) hce hcv hcl ?_
  refine lv_astore_n (lv' := [(2, .ref q9), (0, .ref h), (1, .ref ou)]) hx hb d_L_places_11 rfl hl (by decide) rfl (fun ls hl => ?_)
  refine rz_iconst hx hb d_L_places_12 ?_
  exact W.iret hx hb hr (fun t ht hW => ⟨⟨_, (), rfl, rfl, rc_out ht hP⟩, hS.F ht⟩) hS.2.2 d_L_places_13
def ws_L_place : List Cond := .codeWith y_L_place c_L_place 4 (some .int) [((0 : Nat), (9 : Nat), (12 : Nat), (27 : Nat)), ((0 : Nat), (9 : Nat), (15 : Nat), (13 : Nat))] :: kb
set_option maxHeartbeats 4000000 in
set_option maxRecDepth 100000 in
theorem h_L_place (l : Launch) (D : va_G) (cJ cO : ClassId) (h fa ot ah te id rt bs : Nat) (od kn : Int) (ou : Nat) (V : Nat → Int64) (fo wh pt rs sq on tw : Nat) (cn : Int) (Fo Y P r S a1 b1 : Nat → ro_K) (fr : Nat → Nat) (F : Nat → Nat → ro_K) (zk : Int) (o : Nat) (hod : od = (o : Int)) (ho3 : o ≤ 3) (hzkl : -2147483648 ≤ zk) (hzkh : zk < 2147483648) (hF : 0 ≤ kd (F o) 5) (hk0 : 0 ≤ zk) (hk1 : ∀ n Fo, rts (F o) n Fo → zk < (n : Int)) : Met l y_L_place ws_L_place ({ frames := 7, cells := 0, slots := 0, locals := 174 }) (rc_Pc D vC [(cJ, .long), (cO, .array .long)] [.ref h, .int (iz zk), .ref ou] ([(h, rO od fa ot ah te id rt bs kn), (fa, go cO 4 fr), (rt, rR fo cn wh pt rs sq on tw), (fo, ka cJ 4 Fo), (wh, ka cJ 5 Y), (pt, ka cJ 5 P), (rs, ka cJ 5 r), (sq, ka cJ 8 S), (on, ka cJ 5 a1), (tw, ka cJ 5 b1), (ou, kl cJ 1 V)] ++ gs 4 fr cJ 5 F)) (va_Qi (fun (q : Int32) (u : rS8) => q = iz 0 ∧ rts (F o) u.1 u.2.1) (fun u t => va_P D vC ([(h, rO od fa ot ah te id rt bs kn), (fa, go cO 4 fr), (rt, rR fo (u.1 : Int) wh pt rs sq on tw), (fo, ka cJ 4 u.2.1), (wh, ka cJ 5 u.2.2.1), (pt, ka cJ 5 u.2.2.2.1), (rs, ka cJ 5 u.2.2.2.2.1), (sq, ka cJ 8 u.2.2.2.2.2.1), (on, ka cJ 5 u.2.2.2.2.2.2.1), (tw, ka cJ 5 u.2.2.2.2.2.2.2), (ou, kl cJ 1 (vp_updL V 0 ((iz ((u.2.1 zk.toNat).val : Int)).toInt64)))] ++ gs 4 fr cJ 5 F) t.heap) (rc_A ([(h, rO od fa ot ah te id rt bs kn), (fa, go cO 4 fr), (rt, rR fo cn wh pt rs sq on tw), (fo, ka cJ 4 Fo), (wh, ka cJ 5 Y), (pt, ka cJ 5 P), (rs, ka cJ 5 r), (sq, ka cJ 8 S), (on, ka cJ 5 a1), (tw, ka cJ 5 b1), (ou, kl cJ 1 V)] ++ gs 4 fr cJ 5 F))) 0 0 (rc_A ([(h, rO od fa ot ah te id rt bs kn), (fa, go cO 4 fr), (rt, rR fo cn wh pt rs sq on tw), (fo, ka cJ 4 Fo), (wh, ka cJ 5 Y), (pt, ka cJ 5 P), (rs, ka cJ 5 r), (sq, ka cJ 8 S), (on, ka cJ 5 a1), (tw, ka cJ 5 b1), (ou, kl cJ 1 V)] ++ gs 4 fr cJ 5 F)) := by
  refine rh_ofW (cc := c_L_place) (maxL := 4) (ret := (some .int)) (hh := [((0 : Nat), (9 : Nat), (12 : Nat), (27 : Nat)), ((0 : Nat), (9 : Nat), (15 : Nat), (13 : Nat))]) (by decide) rfl ?_
  intro p e s m args below meth c s₁ B hml hv
  obtain ⟨rfl, hP, hK, hD0, hN⟩ := hv
  have hx := B.exec
  have hb := B.bytes
  have hr := B.returns
  have hts0 := atoms_spec (ws := ws_L_place) B.pre
  have htb := vx_table (x := y_L_place) B (hts0 _ List.mem_cons_self)
  have hts : ∀ w ∈ kb, w.before _ s = true := fun w h => hts0 w (List.mem_cons_of_mem _ h)
  have hown : s.vm.findClass R_L = some m.cls := findClass_of_methodNamed B.named
  have hlocks := B.notSynchronized
  have hD := rc_self hD0
  generalize hAe : rc_A ([(h, rO od fa ot ah te id rt bs kn), (fa, go cO 4 fr), (rt, rR fo cn wh pt rs sq on tw), (fo, ka cJ 4 Fo), (wh, ka cJ 5 Y), (pt, ka cJ 5 P), (rs, ka cJ 5 r), (sq, ka cJ 8 S), (on, ka cJ 5 a1), (tw, ka cJ 5 b1), (ou, kl cJ 1 V)] ++ gs 4 fr cJ 5 F) = A at hD ⊢
  have hS : va_S A s.heap s.heap [] := va_S.rf
  have hl := lv_entry ([.ref h, .int (iz zk), .ref ou]) (n := 4) (Nat.le_of_ble_eq_true rfl)
  rw [lg_entry_eq]
  generalize (lg_sl ([.ref h, .int (iz zk), .ref ou]) ++ List.replicate (4 - (lg_sl ([.ref h, .int (iz zk), .ref ou])).length) Slot.unset).toArray = ls at hl ⊢
  have hl : lv_has ls 4 [(0, .ref h), (1, .int (iz zk)), (2, .ref ou)] := hl
  refine lv_aload_n hx hb d_L_place_0 rfl (lv_at hl 2 rfl) ?_
  refine rz_iconst hx hb d_L_place_1 ?_
  refine lv_aload_n hx hb d_L_place_2 rfl (lv_at hl 0 rfl) ?_
  refine lv_iload_n hx hb d_L_place_3 rfl (lv_at hl 1 rfl) ?_
  refine rs_calli (va_runV (As := [.int (iz zk)]) (rest := [.int (iz 0), .ref ou]) ⟨hx, hb, hml, hown, hts⟩ (m_O_place l D cJ cO h fa ot ah te id rt bs od kn fo wh pt rs sq on tw cn Fo Y P r S a1 b1 fr F zk o hod ho3 hzkl hzkh hF hk0 hk1) (cwV 1 hts (kb_gi (kb_c kw_406 (kb_c kw_407 (kb_c kw_408 (kb_c kw_1 (kb_c kw_409 kb_all)))))) rfl rfl rfl (by decide +kernel) ⟨Nat.le_of_ble_eq_true rfl, Nat.le_of_ble_eq_true rfl⟩) ⟨rc_blind, va_recv hK hP (ci := 2) (q0 := 0) rfl rfl, rs_pre (Y := []) (rs_nil hP) (rs_nilD hD) hK hN [0, 1, 2, 3, 4, 5, 6, 7, 8, 9] rfl rfl [0, 1] rfl⟩ rfl rfl hl.1 rfl (lv_room (Nat.le_of_ble_eq_true rfl)) d_L_place_4 ⟨Nat.zero_le _, Nat.zero_le _⟩) hP hD hS [0, 1, 2, 3, 4, 5, 6, 7, 8, 9] rfl (fun _ => rfl) (fun _ => gs_adr _ _ _ _ _ _) (fun r1 u2 H locs hw2 hP hD hS => ?_)
  obtain ⟨hw8, hw9⟩ := hw2
  obtain ⟨u, rfl⟩ : ∃ z, z = u2 := ⟨_, rfl⟩
  subst hw9
  have hP : va_P D vC ([(h, rO od fa ot ah te id rt bs kn), (fa, go cO 4 fr), (rt, rR fo (u.1 : Int) wh pt rs sq on tw), (fo, ka cJ 4 u.2.1), (wh, ka cJ 5 u.2.2.1), (pt, ka cJ 5 u.2.2.2.1), (rs, ka cJ 5 u.2.2.2.2.1), (sq, ka cJ 8 u.2.2.2.2.2.1), (on, ka cJ 5 u.2.2.2.2.2.2.1), (tw, ka cJ 5 u.2.2.2.2.2.2.2), (ou, kl cJ 1 V)] ++ gs 4 fr cJ 5 F) H := hP
  have hD : va_D A ([(h, rO od fa ot ah te id rt bs kn), (fa, go cO 4 fr), (rt, rR fo (u.1 : Int) wh pt rs sq on tw), (fo, ka cJ 4 u.2.1), (wh, ka cJ 5 u.2.2.1), (pt, ka cJ 5 u.2.2.2.1), (rs, ka cJ 5 u.2.2.2.2.1), (sq, ka cJ 8 u.2.2.2.2.2.1), (on, ka cJ 5 u.2.2.2.2.2.2.1), (tw, ka cJ 5 u.2.2.2.2.2.2.2), (ou, kl cJ 1 V)] ++ gs 4 fr cJ 5 F) := hD
  refine lv_i2l hx hb d_L_place_7 rfl ?_
  refine rl_st hx hb hK hP hD hS 10 0 rfl rfl 0 d_L_place_8 (fun H locs hP hD hS => ?_)
  have hP : va_P D vC ([(h, rO od fa ot ah te id rt bs kn), (fa, go cO 4 fr), (rt, rR fo (u.1 : Int) wh pt rs sq on tw), (fo, ka cJ 4 u.2.1), (wh, ka cJ 5 u.2.2.1), (pt, ka cJ 5 u.2.2.2.1), (rs, ka cJ 5 u.2.2.2.2.1), (sq, ka cJ 8 u.2.2.2.2.2.1), (on, ka cJ 5 u.2.2.2.2.2.2.1), (tw, ka cJ 5 u.2.2.2.2.2.2.2), (ou, kl cJ 1 (vp_updL V 0 ((iz ((u.2.1 zk.toNat).val : Int))).toInt64))] ++ gs 4 fr cJ 5 F) H := hP
  have hD : va_D A ([(h, rO od fa ot ah te id rt bs kn), (fa, go cO 4 fr), (rt, rR fo (u.1 : Int) wh pt rs sq on tw), (fo, ka cJ 4 u.2.1), (wh, ka cJ 5 u.2.2.1), (pt, ka cJ 5 u.2.2.2.1), (rs, ka cJ 5 u.2.2.2.2.1), (sq, ka cJ 8 u.2.2.2.2.2.1), (on, ka cJ 5 u.2.2.2.2.2.2.1), (tw, ka cJ 5 u.2.2.2.2.2.2.2), (ou, kl cJ 1 (vp_updL V 0 ((iz ((u.2.1 zk.toNat).val : Int))).toInt64))] ++ gs 4 fr cJ 5 F) := hD
  refine lv_goto (tgt := 18) hx hb d_L_place_9 (by decide) ?_
  refine rz_iconst hx hb d_L_place_18 ?_
  exact W.iret hx hb hr (fun t ht hW => ⟨⟨_, u, rfl, ⟨rfl, hw8⟩, rc_out ht hP⟩, hS.F ht⟩) hS.2.2 d_L_place_19
set_option maxHeartbeats 4000000 in
set_option maxRecDepth 100000 in
theorem h_L_place_t (l : Launch) (D : va_G) (hst : l.stackTraces = false) (sa : Nat → Nat) (cJ cO : ClassId) (h fa ot ah te id rt bs : Nat) (od kn : Int) (ou : Nat) (V : Nat → Int64) (fo wh pt rs sq on tw : Nat) (cn : Int) (Fo Y P r S a1 b1 : Nat → ro_K) (fr : Nat → Nat) (F : Nat → Nat → ro_K) (zk : Int) (o : Nat) (hod : od = (o : Int)) (ho3 : o ≤ 3) (hzkl : -2147483648 ≤ zk) (hzkh : zk < 2147483648) (hz0 : kd (F o) 5 < 0) : Met l y_L_place ws_L_place ({ frames := 8, cells := 1, slots := 6, locals := 151 }) (rx_Px D vC [(cJ, .long), (cO, .array .long)] [.ref h, .int (iz zk), .ref ou] ([(h, rO od fa ot ah te id rt bs kn), (fa, go cO 4 fr), (rt, rR fo cn wh pt rs sq on tw), (fo, ka cJ 4 Fo), (wh, ka cJ 5 Y), (pt, ka cJ 5 P), (rs, ka cJ 5 r), (sq, ka cJ 8 S), (on, ka cJ 5 a1), (tw, ka cJ 5 b1), (ou, kl cJ 1 V)] ++ gs 4 fr cJ 5 F) sa) (va_Qi (fun (q : Int32) (_ : Unit) => q = iz 1) (fun _ t => va_P D vC ([(h, rO od fa ot ah te id rt bs kn), (fa, go cO 4 fr), (rt, rR fo cn wh pt rs sq on tw), (fo, ka cJ 4 Fo), (wh, ka cJ 5 Y), (pt, ka cJ 5 P), (rs, ka cJ 5 r), (sq, ka cJ 8 S), (on, ka cJ 5 a1), (tw, ka cJ 5 b1), (ou, kl cJ 1 V)] ++ gs 4 fr cJ 5 F) t.heap) (rc_A ([(h, rO od fa ot ah te id rt bs kn), (fa, go cO 4 fr), (rt, rR fo cn wh pt rs sq on tw), (fo, ka cJ 4 Fo), (wh, ka cJ 5 Y), (pt, ka cJ 5 P), (rs, ka cJ 5 r), (sq, ka cJ 8 S), (on, ka cJ 5 a1), (tw, ka cJ 5 b1), (ou, kl cJ 1 V)] ++ gs 4 fr cJ 5 F))) 1 6 (rc_A ([(h, rO od fa ot ah te id rt bs kn), (fa, go cO 4 fr), (rt, rR fo cn wh pt rs sq on tw), (fo, ka cJ 4 Fo), (wh, ka cJ 5 Y), (pt, ka cJ 5 P), (rs, ka cJ 5 r), (sq, ka cJ 8 S), (on, ka cJ 5 a1), (tw, ka cJ 5 b1), (ou, kl cJ 1 V)] ++ gs 4 fr cJ 5 F)) := by
  refine rh_ofW (cc := c_L_place) (maxL := 4) (ret := (some .int)) (hh := [((0 : Nat), (9 : Nat), (12 : Nat), (27 : Nat)), ((0 : Nat), (9 : Nat), (15 : Nat), (13 : Nat))]) (by decide) rfl ?_
  intro p e s m args below meth c s₁ B hml hv
  obtain ⟨⟨rfl, hP, hK, hD0, hN⟩, hE⟩ := hv
  have hx := B.exec
  have hb := B.bytes
  have hr := B.returns
  have hts0 := atoms_spec (ws := ws_L_place) B.pre
  have htb := vx_table (x := y_L_place) B (hts0 _ List.mem_cons_self)
  have hts : ∀ w ∈ kb, w.before _ s = true := fun w h => hts0 w (List.mem_cons_of_mem _ h)
  have hown : s.vm.findClass R_L = some m.cls := findClass_of_methodNamed B.named
  have hlocks := B.notSynchronized
  have hD := rc_self hD0
  generalize hAe : rc_A ([(h, rO od fa ot ah te id rt bs kn), (fa, go cO 4 fr), (rt, rR fo cn wh pt rs sq on tw), (fo, ka cJ 4 Fo), (wh, ka cJ 5 Y), (pt, ka cJ 5 P), (rs, ka cJ 5 r), (sq, ka cJ 8 S), (on, ka cJ 5 a1), (tw, ka cJ 5 b1), (ou, kl cJ 1 V)] ++ gs 4 fr cJ 5 F) = A at hD hE ⊢
  have hS : va_S A s.heap s.heap [] := va_S.rf
  have hl := lv_entry ([.ref h, .int (iz zk), .ref ou]) (n := 4) (Nat.le_of_ble_eq_true rfl)
  rw [lg_entry_eq]
  generalize (lg_sl ([.ref h, .int (iz zk), .ref ou]) ++ List.replicate (4 - (lg_sl ([.ref h, .int (iz zk), .ref ou])).length) Slot.unset).toArray = ls at hl ⊢
  have hl : lv_has ls 4 [(0, .ref h), (1, .int (iz zk)), (2, .ref ou)] := hl
  refine lv_aload_n hx hb d_L_place_0 rfl (lv_at hl 2 rfl) ?_
  refine rz_iconst hx hb d_L_place_1 ?_
  refine lv_aload_n hx hb d_L_place_2 rfl (lv_at hl 0 rfl) ?_
  refine lv_iload_n hx hb d_L_place_3 rfl (lv_at hl 1 rfl) ?_
  refine rxT_calli (vx_runV (As := [.int (iz zk)]) (rest := [.int (iz 0), .ref ou]) ⟨hx, hb, hml, hown, hts⟩ (x_O_place l D hst sa cJ cO h fa ot ah te id rt bs od kn fo wh pt rs sq on tw cn Fo Y P r S a1 b1 fr F zk o hod ho3 hzkl hzkh hz0) (cwV 1 hts (kb_gi (kb_c kw_406 (kb_c kw_407 (kb_c kw_408 (kb_c kw_1 (kb_c kw_409 kb_all)))))) rfl rfl rfl (by decide +kernel) ⟨(Nat.le_of_ble_eq_true rfl), (Nat.le_of_ble_eq_true rfl)⟩) ⟨rx_blind, va_recv hK hP (ci := 2) (q0 := 0) rfl rfl, fun U h8 h9 => ⟨(rs_pre (Y := []) (rs_nil hP) (rs_nilD hD) hK hN [0, 1, 2, 3, 4, 5, 6, 7, 8, 9] rfl rfl [0, 1] rfl) U h8 h9, hE.go hS (rs_in (rs_nilD hD) (is := [0, 1, 2, 3, 4, 5, 6, 7, 8, 9]) rfl) h8 h9⟩⟩ rfl rfl hl.1 rfl (lv_room (Nat.le_of_ble_eq_true rfl)) d_L_place_4 ⟨(Nat.le_of_ble_eq_true rfl), (Nat.le_of_ble_eq_true rfl)⟩) (rs_nil hP) (rs_nilD hD) hS [0, 1, 2, 3, 4, 5, 6, 7, 8, 9] rfl (fun _ => rfl) (fun _ => gs_adr _ _ _ _ _ _) (fun ce q9 u1 H locs hw1 hP hD hS hce hcv hcl => ?_)
  have hP := rs_nilR hP
  have hD := rs_nilRD hD
  have hP : va_P D vC ([(h, rO od fa ot ah te id rt bs kn), (fa, go cO 4 fr), (rt, rR fo cn wh pt rs sq on tw), (fo, ka cJ 4 Fo), (wh, ka cJ 5 Y), (pt, ka cJ 5 P), (rs, ka cJ 5 r), (sq, ka cJ 8 S), (on, ka cJ 5 a1), (tw, ka cJ 5 b1), (ou, kl cJ 1 V)] ++ gs 4 fr cJ 5 F) H := hP
  have hD : va_D A ([(h, rO od fa ot ah te id rt bs kn), (fa, go cO 4 fr), (rt, rR fo cn wh pt rs sq on tw), (fo, ka cJ 4 Fo), (wh, ka cJ 5 Y), (pt, ka cJ 5 P), (rs, ka cJ 5 r), (sq, ka cJ 8 S), (on, ka cJ 5 a1), (tw, ka cJ 5 b1), (ou, kl cJ 1 V)] ++ gs 4 fr cJ 5 F) := hD
  refine vx_catch (name := xS) hown [] ⟨0, 9, 12, 27⟩ [⟨0, 9, 15, 13⟩] htb (fun z hz => absurd hz List.not_mem_nil) rfl (by decide) (hts _ kw_316) (va_Nw.use rfl hE.1.2.1) hce hcv hcl ?_
  refine lv_astore_n (lv' := [(3, .ref q9), (0, .ref h), (1, .int (iz zk)), (2, .ref ou)]) hx hb d_L_place_12 rfl hl (by decide) rfl (fun ls hl => ?_)
  refine rz_iconst hx hb d_L_place_13 ?_
  exact W.iret hx hb hr (fun t ht hW => ⟨⟨_, (), rfl, rfl, rc_out ht hP⟩, hS.F ht⟩) hS.2.2 d_L_place_14
set_option maxHeartbeats 4000000 in
set_option maxRecDepth 100000 in
theorem h_L_place_k_t (l : Launch) (D : va_G) (hst : l.stackTraces = false) (sa : Nat → Nat) (cJ cO : ClassId) (h fa ot ah te id rt bs : Nat) (od kn : Int) (ou : Nat) (V : Nat → Int64) (fo wh pt rs sq on tw : Nat) (cn : Int) (Fo Y P r S a1 b1 : Nat → ro_K) (fr : Nat → Nat) (F : Nat → Nat → ro_K) (zk : Int) (o : Nat) (hod : od = (o : Int)) (ho3 : o ≤ 3) (hzkl : -2147483648 ≤ zk) (hzkh : zk < 2147483648) (hF : 0 ≤ kd (F o) 5) (hk : zk < 0 ∨ ∀ n Fo, rts (F o) n Fo → (n : Int) ≤ zk) : Met l y_L_place ws_L_place ({ frames := 8, cells := 1, slots := 6, locals := 174 }) (rx_Px D vC [(cJ, .long), (cO, .array .long)] [.ref h, .int (iz zk), .ref ou] ([(h, rO od fa ot ah te id rt bs kn), (fa, go cO 4 fr), (rt, rR fo cn wh pt rs sq on tw), (fo, ka cJ 4 Fo), (wh, ka cJ 5 Y), (pt, ka cJ 5 P), (rs, ka cJ 5 r), (sq, ka cJ 8 S), (on, ka cJ 5 a1), (tw, ka cJ 5 b1), (ou, kl cJ 1 V)] ++ gs 4 fr cJ 5 F) sa) (va_Qi (fun (q : Int32) (u : rS8) => q = iz 2 ∧ rts (F o) u.1 u.2.1) (fun u t => va_P D vC ([(h, rO od fa ot ah te id rt bs kn), (fa, go cO 4 fr), (rt, rR fo (u.1 : Int) wh pt rs sq on tw), (fo, ka cJ 4 u.2.1), (wh, ka cJ 5 u.2.2.1), (pt, ka cJ 5 u.2.2.2.1), (rs, ka cJ 5 u.2.2.2.2.1), (sq, ka cJ 8 u.2.2.2.2.2.1), (on, ka cJ 5 u.2.2.2.2.2.2.1), (tw, ka cJ 5 u.2.2.2.2.2.2.2), (ou, kl cJ 1 V)] ++ gs 4 fr cJ 5 F) t.heap) (rc_A ([(h, rO od fa ot ah te id rt bs kn), (fa, go cO 4 fr), (rt, rR fo cn wh pt rs sq on tw), (fo, ka cJ 4 Fo), (wh, ka cJ 5 Y), (pt, ka cJ 5 P), (rs, ka cJ 5 r), (sq, ka cJ 8 S), (on, ka cJ 5 a1), (tw, ka cJ 5 b1), (ou, kl cJ 1 V)] ++ gs 4 fr cJ 5 F))) 1 6 (rc_A ([(h, rO od fa ot ah te id rt bs kn), (fa, go cO 4 fr), (rt, rR fo cn wh pt rs sq on tw), (fo, ka cJ 4 Fo), (wh, ka cJ 5 Y), (pt, ka cJ 5 P), (rs, ka cJ 5 r), (sq, ka cJ 8 S), (on, ka cJ 5 a1), (tw, ka cJ 5 b1), (ou, kl cJ 1 V)] ++ gs 4 fr cJ 5 F)) := by
  refine rh_ofW (cc := c_L_place) (maxL := 4) (ret := (some .int)) (hh := [((0 : Nat), (9 : Nat), (12 : Nat), (27 : Nat)), ((0 : Nat), (9 : Nat), (15 : Nat), (13 : Nat))]) (by decide) rfl ?_
  intro p e s m args below meth c s₁ B hml hv
  obtain ⟨⟨rfl, hP, hK, hD0, hN⟩, hE⟩ := hv
  have hx := B.exec
  have hb := B.bytes
  have hr := B.returns
  have hts0 := atoms_spec (ws := ws_L_place) B.pre
  have htb := vx_table (x := y_L_place) B (hts0 _ List.mem_cons_self)
  have hts : ∀ w ∈ kb, w.before _ s = true := fun w h => hts0 w (List.mem_cons_of_mem _ h)
  have hown : s.vm.findClass R_L = some m.cls := findClass_of_methodNamed B.named
  have hlocks := B.notSynchronized
  have hD := rc_self hD0
  generalize hAe : rc_A ([(h, rO od fa ot ah te id rt bs kn), (fa, go cO 4 fr), (rt, rR fo cn wh pt rs sq on tw), (fo, ka cJ 4 Fo), (wh, ka cJ 5 Y), (pt, ka cJ 5 P), (rs, ka cJ 5 r), (sq, ka cJ 8 S), (on, ka cJ 5 a1), (tw, ka cJ 5 b1), (ou, kl cJ 1 V)] ++ gs 4 fr cJ 5 F) = A at hD hE ⊢
  have hS : va_S A s.heap s.heap [] := va_S.rf
  have hl := lv_entry ([.ref h, .int (iz zk), .ref ou]) (n := 4) (Nat.le_of_ble_eq_true rfl)
  rw [lg_entry_eq]
  generalize (lg_sl ([.ref h, .int (iz zk), .ref ou]) ++ List.replicate (4 - (lg_sl ([.ref h, .int (iz zk), .ref ou])).length) Slot.unset).toArray = ls at hl ⊢
  have hl : lv_has ls 4 [(0, .ref h), (1, .int (iz zk)), (2, .ref ou)] := hl
  refine lv_aload_n hx hb d_L_place_0 rfl (lv_at hl 2 rfl) ?_
  refine rz_iconst hx hb d_L_place_1 ?_
  refine lv_aload_n hx hb d_L_place_2 rfl (lv_at hl 0 rfl) ?_
  refine lv_iload_n hx hb d_L_place_3 rfl (lv_at hl 1 rfl) ?_
  refine rxT_calli (vx_runV (As := [.int (iz zk)]) (rest := [.int (iz 0), .ref ou]) ⟨hx, hb, hml, hown, hts⟩ (x_O_place_k l D hst sa cJ cO h fa ot ah te id rt bs od kn fo wh pt rs sq on tw cn Fo Y P r S a1 b1 fr F zk o hod ho3 hzkl hzkh hF hk) (cwV 1 hts (kb_gi (kb_c kw_406 (kb_c kw_407 (kb_c kw_408 (kb_c kw_1 (kb_c kw_409 kb_all)))))) rfl rfl rfl (by decide +kernel) ⟨(Nat.le_of_ble_eq_true rfl), (Nat.le_of_ble_eq_true rfl)⟩) ⟨rx_blind, va_recv hK hP (ci := 2) (q0 := 0) rfl rfl, fun U h8 h9 => ⟨(rs_pre (Y := []) (rs_nil hP) (rs_nilD hD) hK hN [0, 1, 2, 3, 4, 5, 6, 7, 8, 9] rfl rfl [0, 1] rfl) U h8 h9, hE.go hS (rs_in (rs_nilD hD) (is := [0, 1, 2, 3, 4, 5, 6, 7, 8, 9]) rfl) h8 h9⟩⟩ rfl rfl hl.1 rfl (lv_room (Nat.le_of_ble_eq_true rfl)) d_L_place_4 ⟨(Nat.le_of_ble_eq_true rfl), (Nat.le_of_ble_eq_true rfl)⟩) (rs_nil hP) (rs_nilD hD) hS [0, 1, 2, 3, 4, 5, 6, 7, 8, 9] rfl (fun _ => rfl) (fun _ => gs_adr _ _ _ _ _ _) (fun ce q9 u1 H locs hw1 hP hD hS hce hcv hcl => ?_)
  have hP := rs_nilR hP
  have hD := rs_nilRD hD
  obtain ⟨u, rfl⟩ : ∃ z, z = u1 := ⟨_, rfl⟩
  have hP : va_P D vC ([(h, rO od fa ot ah te id rt bs kn), (fa, go cO 4 fr), (rt, rR fo (u.1 : Int) wh pt rs sq on tw), (fo, ka cJ 4 u.2.1), (wh, ka cJ 5 u.2.2.1), (pt, ka cJ 5 u.2.2.2.1), (rs, ka cJ 5 u.2.2.2.2.1), (sq, ka cJ 8 u.2.2.2.2.2.1), (on, ka cJ 5 u.2.2.2.2.2.2.1), (tw, ka cJ 5 u.2.2.2.2.2.2.2), (ou, kl cJ 1 V)] ++ gs 4 fr cJ 5 F) H := hP
  have hD : va_D A ([(h, rO od fa ot ah te id rt bs kn), (fa, go cO 4 fr), (rt, rR fo (u.1 : Int) wh pt rs sq on tw), (fo, ka cJ 4 u.2.1), (wh, ka cJ 5 u.2.2.1), (pt, ka cJ 5 u.2.2.2.1), (rs, ka cJ 5 u.2.2.2.2.1), (sq, ka cJ 8 u.2.2.2.2.2.1), (on, ka cJ 5 u.2.2.2.2.2.2.1), (tw, ka cJ 5 u.2.2.2.2.2.2.2), (ou, kl cJ 1 V)] ++ gs 4 fr cJ 5 F) := hD
  refine vx_catch (name := xI) hown [⟨0, 9, 12, 27⟩] ⟨0, 9, 15, 13⟩ [] htb (fun z hz => by rcases List.mem_singleton.mp hz with rfl; exact Or.inr ⟨by decide, xS, hts _ kw_316, hE.1.2.2.2.2.2.2.1⟩) rfl (by decide) (hts _ kw_217) (va_Nw.use rfl hE.1.1) hce hcv hcl ?_
  refine lv_astore_n (lv' := [(3, .ref q9), (0, .ref h), (1, .int (iz zk)), (2, .ref ou)]) hx hb d_L_place_15 rfl hl (by decide) rfl (fun ls hl => ?_)
  refine rz_iconst hx hb d_L_place_16 ?_
  exact W.iret hx hb hr (fun t ht hW => ⟨⟨_, u, rfl, ⟨rfl, hw1⟩, rc_out ht hP⟩, hS.F ht⟩) hS.2.2 d_L_place_17
set_option maxHeartbeats 4000000 in
set_option maxRecDepth 100000 in
theorem m_O_level_S (l : Launch) (D : va_G) (cJ cO : ClassId) (h fa ot ah te id rt bs : Nat) (od kn : Int) (fr er : Nat → Nat) (E F : Nat → Nat → ro_K) (ze : Int) (v : Int64) (o : Nat) (hod : od = (o : Int)) (ho3 : o ≤ 3) (hz0 : 0 ≤ ze) (hz1 : ze ≤ 1) (haz : azB F (o + 1) = false) : Met l y_O_level ws_O_level ({ frames := 4, cells := 0, slots := 0, locals := 88 }) (rc_Pc D vC [(cJ, .long), (cO, .array .long)] [.ref h, .int (iz ze), .long v] ([(h, rO od fa ot ah te id rt bs kn), (fa, go cO 4 fr), (ot, go cO 4 er)] ++ (gs 4 er cJ 5 E ++ (gs 4 fr cJ 5 F)))) (va_Qi (fun (q : Int32) (_ : Unit) => q = iz (gtL (gtE F o ze v E) o ze)) (fun _ t => va_P D vC ([(h, rO od fa ot ah te id rt bs kn), (fa, go cO 4 fr), (ot, go cO 4 er)] ++ (gs 4 er cJ 5 (gtE F o ze v E) ++ (gs 4 fr cJ 5 F))) t.heap) (rc_A ([(h, rO od fa ot ah te id rt bs kn), (fa, go cO 4 fr), (ot, go cO 4 er)] ++ (gs 4 er cJ 5 E ++ (gs 4 fr cJ 5 F))))) 0 0 (rc_A ([(h, rO od fa ot ah te id rt bs kn), (fa, go cO 4 fr), (ot, go cO 4 er)] ++ (gs 4 er cJ 5 E ++ (gs 4 fr cJ 5 F)))) := m_O_level l D cJ cO h fa ot ah te id rt bs od kn fr er E F ze v o hod ho3 hz0 hz1 haz
def ws_L_level : List Cond := .codeWith y_L_level c_L_level 6 (some .int) [((0 : Nat), (11 : Nat), (14 : Nat), (27 : Nat))] :: kb
set_option maxHeartbeats 4000000 in
set_option maxRecDepth 100000 in
theorem h_L_level (l : Launch) (D : va_G) (cJ cO : ClassId) (h fa ot ah te id rt bs : Nat) (od kn : Int) (ou : Nat) (V : Nat → Int64) (fr er : Nat → Nat) (E F : Nat → Nat → ro_K) (ze : Int) (v : Int64) (o : Nat) (hod : od = (o : Int)) (ho3 : o ≤ 3) (hz0 : 0 ≤ ze) (hz1 : ze ≤ 1) (haz : azB F (o + 1) = false) : Met l y_L_level ws_L_level ({ frames := 5, cells := 0, slots := 0, locals := 111 }) (rc_Pc D vC [(cJ, .long), (cO, .array .long)] [.ref h, .int (iz ze), .long v, .ref ou] (([(h, rO od fa ot ah te id rt bs kn), (fa, go cO 4 fr), (ot, go cO 4 er), (ou, kl cJ 1 V)] ++ gs 4 er cJ 5 E) ++ gs 4 fr cJ 5 F)) (va_Qi (fun (q : Int32) (_ : Unit) => q = iz 0) (fun _ t => va_P D vC (([(h, rO od fa ot ah te id rt bs kn), (fa, go cO 4 fr), (ot, go cO 4 er), (ou, kl cJ 1 (vp_updL V 0 ((iz (gtL (gtE F o ze v E) o ze)).toInt64)))] ++ gs 4 er cJ 5 (gtE F o ze v E)) ++ gs 4 fr cJ 5 F) t.heap) (rc_A (([(h, rO od fa ot ah te id rt bs kn), (fa, go cO 4 fr), (ot, go cO 4 er), (ou, kl cJ 1 V)] ++ gs 4 er cJ 5 E) ++ gs 4 fr cJ 5 F))) 0 0 (rc_A (([(h, rO od fa ot ah te id rt bs kn), (fa, go cO 4 fr), (ot, go cO 4 er), (ou, kl cJ 1 V)] ++ gs 4 er cJ 5 E) ++ gs 4 fr cJ 5 F)) := by
  refine rh_ofW (cc := c_L_level) (maxL := 6) (ret := (some .int)) (hh := [((0 : Nat), (11 : Nat), (14 : Nat), (27 : Nat))]) (by decide) rfl ?_
  intro p e s m args below meth c s₁ B hml hv
  obtain ⟨rfl, hP, hK, hD0, hN⟩ := hv
  have hx := B.exec
  have hb := B.bytes
  have hr := B.returns
  have hts0 := atoms_spec (ws := ws_L_level) B.pre
  have htb := vx_table (x := y_L_level) B (hts0 _ List.mem_cons_self)
  have hts : ∀ w ∈ kb, w.before _ s = true := fun w h => hts0 w (List.mem_cons_of_mem _ h)
  have hown : s.vm.findClass R_L = some m.cls := findClass_of_methodNamed B.named
  have hlocks := B.notSynchronized
  have hD := rc_self hD0
  generalize hAe : rc_A (([(h, rO od fa ot ah te id rt bs kn), (fa, go cO 4 fr), (ot, go cO 4 er), (ou, kl cJ 1 V)] ++ gs 4 er cJ 5 E) ++ gs 4 fr cJ 5 F) = A at hD ⊢
  have hS : va_S A s.heap s.heap [] := va_S.rf
  have hl := lv_entry ([.ref h, .int (iz ze), .long v, .ref ou]) (n := 6) (Nat.le_of_ble_eq_true rfl)
  rw [lg_entry_eq]
  generalize (lg_sl ([.ref h, .int (iz ze), .long v, .ref ou]) ++ List.replicate (6 - (lg_sl ([.ref h, .int (iz ze), .long v, .ref ou])).length) Slot.unset).toArray = ls at hl ⊢
  have hl : lv_has ls 6 [(0, .ref h), (1, .int (iz ze)), (2, .long v), (4, .ref ou)] := hl
  refine lv_aload hx hb d_L_level_0 (lv_at hl 3 rfl) ?_
  refine rz_iconst hx hb d_L_level_2 ?_
  refine lv_aload_n hx hb d_L_level_3 rfl (lv_at hl 0 rfl) ?_
  refine lv_iload_n hx hb d_L_level_4 rfl (lv_at hl 1 rfl) ?_
  refine lv_lload_n hx hb d_L_level_5 rfl (lv_at hl 2 rfl) ?_
  refine rs_calli (va_runV (As := [.int (iz ze), .long v]) (rest := [.int (iz 0), .ref ou]) ⟨hx, hb, hml, hown, hts⟩ (m_O_level_S l D cJ cO h fa ot ah te id rt bs od kn fr er E F ze v o hod ho3 hz0 hz1 haz) (cwV 2 hts (kb_gi (kb_c kw_418 (kb_c kw_419 (kb_c kw_420 (kb_c kw_1 (kb_c kw_421 kb_all)))))) rfl rfl rfl (by decide +kernel) ⟨Nat.le_of_ble_eq_true rfl, Nat.le_of_ble_eq_true rfl⟩) ⟨rc_blind, va_recv hK hP (ci := 2) (q0 := 0) rfl rfl, rs_pre (Y := []) (rs_nil (rs_a_2_0 hP)) (rs_nilD (rs_aD_2_0 hD)) hK hN [0, 1, 2] rfl rfl [0, 1] rfl⟩ rfl rfl hl.1 rfl (lv_room (Nat.le_of_ble_eq_true rfl)) d_L_level_6 ⟨Nat.zero_le _, Nat.zero_le _⟩) (rs_a_2_0 hP) (rs_aD_2_0 hD) hS [0, 1, 2] rfl (fun _ => rfl) (fun _ => gs_adr2 (gs_adr _ _ _ _ _ _) (gs_adr _ _ _ _ _ _)) (fun r1 u2 H locs hw2 hP hD hS => ?_)
  have hP := rs_b_2_0 hP
  have hD := rs_bD_2_0 hD
  subst hw2
  have hP : va_P D vC (([(h, rO od fa ot ah te id rt bs kn), (fa, go cO 4 fr), (ot, go cO 4 er), (ou, kl cJ 1 V)] ++ gs 4 er cJ 5 (gtE F o ze v E)) ++ gs 4 fr cJ 5 F) H := hP
  have hD : va_D A (([(h, rO od fa ot ah te id rt bs kn), (fa, go cO 4 fr), (ot, go cO 4 er), (ou, kl cJ 1 V)] ++ gs 4 er cJ 5 (gtE F o ze v E)) ++ gs 4 fr cJ 5 F) := hD
  refine lv_i2l hx hb d_L_level_9 rfl ?_
  refine rl_st hx hb hK hP hD hS 3 0 rfl rfl 0 d_L_level_10 (fun H locs hP hD hS => ?_)
  have hP : va_P D vC (([(h, rO od fa ot ah te id rt bs kn), (fa, go cO 4 fr), (ot, go cO 4 er), (ou, kl cJ 1 (vp_updL V 0 ((iz (gtL (gtE F o ze v E) o ze))).toInt64))] ++ gs 4 er cJ 5 (gtE F o ze v E)) ++ gs 4 fr cJ 5 F) H := hP
  have hD : va_D A (([(h, rO od fa ot ah te id rt bs kn), (fa, go cO 4 fr), (ot, go cO 4 er), (ou, kl cJ 1 (vp_updL V 0 ((iz (gtL (gtE F o ze v E) o ze))).toInt64))] ++ gs 4 er cJ 5 (gtE F o ze v E)) ++ gs 4 fr cJ 5 F) := hD
  refine lv_goto (tgt := 18) hx hb d_L_level_11 (by decide) ?_
  refine rz_iconst hx hb d_L_level_18 ?_
  exact W.iret hx hb hr (fun t ht hW => ⟨⟨_, (), rfl, rfl, rc_out ht hP⟩, hS.F ht⟩) hS.2.2 d_L_level_19
set_option maxHeartbeats 4000000 in
set_option maxRecDepth 100000 in
theorem h_L_level_S (l : Launch) (D : va_G) (cJ cO : ClassId) (h fa ot ah te id rt bs : Nat) (od kn : Int) (ou : Nat) (V : Nat → Int64) (fr er : Nat → Nat) (E F : Nat → Nat → ro_K) (ze : Int) (v : Int64) (o : Nat) (hod : od = (o : Int)) (ho3 : o ≤ 3) (hz0 : 0 ≤ ze) (hz1 : ze ≤ 1) (haz : azB F (o + 1) = false) : Met l y_L_level ws_L_level ({ frames := 5, cells := 0, slots := 0, locals := 111 }) (rc_Pc D vC [(cJ, .long), (cO, .array .long)] [.ref h, .int (iz ze), .long v, .ref ou] ([(h, rO od fa ot ah te id rt bs kn), (fa, go cO 4 fr), (ot, go cO 4 er), (ou, kl cJ 1 V)] ++ (gs 4 er cJ 5 E ++ (gs 4 fr cJ 5 F)))) (va_Qi (fun (q : Int32) (_ : Unit) => q = iz 0) (fun _ t => va_P D vC ([(h, rO od fa ot ah te id rt bs kn), (fa, go cO 4 fr), (ot, go cO 4 er), (ou, kl cJ 1 (vp_updL V 0 ((iz (gtL (gtE F o ze v E) o ze)).toInt64)))] ++ (gs 4 er cJ 5 (gtE F o ze v E) ++ (gs 4 fr cJ 5 F))) t.heap) (rc_A ([(h, rO od fa ot ah te id rt bs kn), (fa, go cO 4 fr), (ot, go cO 4 er), (ou, kl cJ 1 V)] ++ (gs 4 er cJ 5 E ++ (gs 4 fr cJ 5 F))))) 0 0 (rc_A ([(h, rO od fa ot ah te id rt bs kn), (fa, go cO 4 fr), (ot, go cO 4 er), (ou, kl cJ 1 V)] ++ (gs 4 er cJ 5 E ++ (gs 4 fr cJ 5 F)))) := h_L_level l D cJ cO h fa ot ah te id rt bs od kn ou V fr er E F ze v o hod ho3 hz0 hz1 haz

set_option maxHeartbeats 4000000 in
set_option maxRecDepth 100000 in
theorem x_O_level_S (l : Launch) (D : va_G) (hst : l.stackTraces = false) (sa : Nat → Nat) (cJ cO : ClassId) (h fa ot ah te id rt bs : Nat) (od kn : Int) (fr er : Nat → Nat) (E F : Nat → Nat → ro_K) (ze : Int) (v : Int64) (o : Nat) (hod : od = (o : Int)) (ho3 : o ≤ 3) (haz : azB F (o + 1) = true) : vx_Met l y_O_level ws_O_level ({ frames := 7, cells := 1, slots := 6, locals := 130 }) (rx_Px D vC [(cJ, .long), (cO, .array .long)] [.ref h, .int (iz ze), .long v] ([(h, rO od fa ot ah te id rt bs kn), (fa, go cO 4 fr), (ot, go cO 4 er)] ++ (gs 4 er cJ 5 E ++ (gs 4 fr cJ 5 F))) sa) (va_Qi (fun (_ : Int32) (_ : Unit) => False) (fun _ _ => True) (rc_A ([(h, rO od fa ot ah te id rt bs kn), (fa, go cO 4 fr), (ot, go cO 4 er)] ++ (gs 4 er cJ 5 E ++ (gs 4 fr cJ 5 F))))) (vx_X (fun (_ : Unit) => True) (fun E9 _ t => E9 = xS ∧ va_P D vC ([(h, rO od fa ot ah te id rt bs kn), (fa, go cO 4 fr), (ot, go cO 4 er)] ++ (gs 4 er cJ 5 E ++ (gs 4 fr cJ 5 F))) t.heap) (rc_A ([(h, rO od fa ot ah te id rt bs kn), (fa, go cO 4 fr), (ot, go cO 4 er)] ++ (gs 4 er cJ 5 E ++ (gs 4 fr cJ 5 F))))) 1 6 (rc_A ([(h, rO od fa ot ah te id rt bs kn), (fa, go cO 4 fr), (ot, go cO 4 er)] ++ (gs 4 er cJ 5 E ++ (gs 4 fr cJ 5 F)))) := x_O_level l D hst sa cJ cO h fa ot ah te id rt bs od kn fr er E F ze v o hod ho3 haz
set_option maxHeartbeats 4000000 in
set_option maxRecDepth 100000 in
theorem h_L_level_t (l : Launch) (D : va_G) (hst : l.stackTraces = false) (sa : Nat → Nat) (cJ cO : ClassId) (h fa ot ah te id rt bs : Nat) (od kn : Int) (ou : Nat) (V : Nat → Int64) (fr er : Nat → Nat) (E F : Nat → Nat → ro_K) (ze : Int) (v : Int64) (o : Nat) (hod : od = (o : Int)) (ho3 : o ≤ 3) (haz : azB F (o + 1) = true) : Met l y_L_level ws_L_level ({ frames := 8, cells := 1, slots := 6, locals := 153 }) (rx_Px D vC [(cJ, .long), (cO, .array .long)] [.ref h, .int (iz ze), .long v, .ref ou] (([(h, rO od fa ot ah te id rt bs kn), (fa, go cO 4 fr), (ot, go cO 4 er), (ou, kl cJ 1 V)] ++ gs 4 er cJ 5 E) ++ gs 4 fr cJ 5 F) sa) (va_Qi (fun (q : Int32) (_ : Unit) => q = iz 1) (fun _ t => va_P D vC (([(h, rO od fa ot ah te id rt bs kn), (fa, go cO 4 fr), (ot, go cO 4 er), (ou, kl cJ 1 V)] ++ gs 4 er cJ 5 E) ++ gs 4 fr cJ 5 F) t.heap) (rc_A (([(h, rO od fa ot ah te id rt bs kn), (fa, go cO 4 fr), (ot, go cO 4 er), (ou, kl cJ 1 V)] ++ gs 4 er cJ 5 E) ++ gs 4 fr cJ 5 F))) 1 6 (rc_A (([(h, rO od fa ot ah te id rt bs kn), (fa, go cO 4 fr), (ot, go cO 4 er), (ou, kl cJ 1 V)] ++ gs 4 er cJ 5 E) ++ gs 4 fr cJ 5 F)) := by
  refine rh_ofW (cc := c_L_level) (maxL := 6) (ret := (some .int)) (hh := [((0 : Nat), (11 : Nat), (14 : Nat), (27 : Nat))]) (by decide) rfl ?_
  intro p e s m args below meth c s₁ B hml hv
  obtain ⟨⟨rfl, hP, hK, hD0, hN⟩, hE⟩ := hv
  have hx := B.exec
  have hb := B.bytes
  have hr := B.returns
  have hts0 := atoms_spec (ws := ws_L_level) B.pre
  have htb := vx_table (x := y_L_level) B (hts0 _ List.mem_cons_self)
  have hts : ∀ w ∈ kb, w.before _ s = true := fun w h => hts0 w (List.mem_cons_of_mem _ h)
  have hown : s.vm.findClass R_L = some m.cls := findClass_of_methodNamed B.named
  have hlocks := B.notSynchronized
  have hD := rc_self hD0
  generalize hAe : rc_A (([(h, rO od fa ot ah te id rt bs kn), (fa, go cO 4 fr), (ot, go cO 4 er), (ou, kl cJ 1 V)] ++ gs 4 er cJ 5 E) ++ gs 4 fr cJ 5 F) = A at hD hE ⊢
  have hS : va_S A s.heap s.heap [] := va_S.rf
  have hl := lv_entry ([.ref h, .int (iz ze), .long v, .ref ou]) (n := 6) (Nat.le_of_ble_eq_true rfl)
  rw [lg_entry_eq]
  generalize (lg_sl ([.ref h, .int (iz ze), .long v, .ref ou]) ++ List.replicate (6 - (lg_sl ([.ref h, .int (iz ze), .long v, .ref ou])).length) Slot.unset).toArray = ls at hl ⊢
  have hl : lv_has ls 6 [(0, .ref h), (1, .int (iz ze)), (2, .long v), (4, .ref ou)] := hl
  refine lv_aload hx hb d_L_level_0 (lv_at hl 3 rfl) ?_
  refine rz_iconst hx hb d_L_level_2 ?_
  refine lv_aload_n hx hb d_L_level_3 rfl (lv_at hl 0 rfl) ?_
  refine lv_iload_n hx hb d_L_level_4 rfl (lv_at hl 1 rfl) ?_
  refine lv_lload_n hx hb d_L_level_5 rfl (lv_at hl 2 rfl) ?_
  refine rxT_calli (vx_runV (As := [.int (iz ze), .long v]) (rest := [.int (iz 0), .ref ou]) ⟨hx, hb, hml, hown, hts⟩ (x_O_level_S l D hst sa cJ cO h fa ot ah te id rt bs od kn fr er E F ze v o hod ho3 haz) (cwV 2 hts (kb_gi (kb_c kw_418 (kb_c kw_419 (kb_c kw_420 (kb_c kw_1 (kb_c kw_421 kb_all)))))) rfl rfl rfl (by decide +kernel) ⟨(Nat.le_of_ble_eq_true rfl), (Nat.le_of_ble_eq_true rfl)⟩) ⟨rx_blind, va_recv hK hP (ci := 2) (q0 := 0) rfl rfl, fun U h8 h9 => ⟨(rs_pre (Y := []) (rs_nil (rs_a_2_0 hP)) (rs_nilD (rs_aD_2_0 hD)) hK hN [0, 1, 2] rfl rfl [0, 1] rfl) U h8 h9, hE.go hS (rs_in (rs_nilD (rs_aD_2_0 hD)) (is := [0, 1, 2]) rfl) h8 h9⟩⟩ rfl rfl hl.1 rfl (lv_room (Nat.le_of_ble_eq_true rfl)) d_L_level_6 ⟨(Nat.le_of_ble_eq_true rfl), (Nat.le_of_ble_eq_true rfl)⟩) (rs_nil (rs_a_2_0 hP)) (rs_nilD (rs_aD_2_0 hD)) hS [0, 1, 2] rfl (fun _ => rfl) (fun _ => gs_adr2 (gs_adr _ _ _ _ _ _) (gs_adr _ _ _ _ _ _)) (fun ce q9 u1 H locs hw1 hP hD hS hce hcv hcl => ?_)
  have hP := rs_b_2_0 (rs_nilR hP)
  have hD := rs_bD_2_0 (rs_nilRD hD)
  have hP : va_P D vC (([(h, rO od fa ot ah te id rt bs kn), (fa, go cO 4 fr), (ot, go cO 4 er), (ou, kl cJ 1 V)] ++ gs 4 er cJ 5 E) ++ gs 4 fr cJ 5 F) H := hP
  have hD : va_D A (([(h, rO od fa ot ah te id rt bs kn), (fa, go cO 4 fr), (ot, go cO 4 er), (ou, kl cJ 1 V)] ++ gs 4 er cJ 5 E) ++ gs 4 fr cJ 5 F) := hD
  refine vx_catch (name := xS) hown [] ⟨0, 11, 14, 27⟩ [] htb (fun z hz => absurd hz List.not_mem_nil) rfl (by decide) (hts _ kw_316) (va_Nw.use rfl hE.1.2.1) hce hcv hcl ?_
  refine lv_astore (lv' := [(5, .ref q9), (0, .ref h), (1, .int (iz ze)), (2, .long v), (4, .ref ou)]) hx hb d_L_level_14 hl (by decide) rfl (fun ls hl => ?_)
  refine rz_iconst hx hb d_L_level_16 ?_
  exact W.iret hx hb hr (fun t ht hW => ⟨⟨_, (), rfl, rfl, rc_out ht hP⟩, hS.F ht⟩) hS.2.2 d_L_level_17
set_option maxHeartbeats 4000000 in
set_option maxRecDepth 100000 in
theorem h_L_level_t_S (l : Launch) (D : va_G) (hst : l.stackTraces = false) (sa : Nat → Nat) (cJ cO : ClassId) (h fa ot ah te id rt bs : Nat) (od kn : Int) (ou : Nat) (V : Nat → Int64) (fr er : Nat → Nat) (E F : Nat → Nat → ro_K) (ze : Int) (v : Int64) (o : Nat) (hod : od = (o : Int)) (ho3 : o ≤ 3) (haz : azB F (o + 1) = true) : Met l y_L_level ws_L_level ({ frames := 8, cells := 1, slots := 6, locals := 153 }) (rx_Px D vC [(cJ, .long), (cO, .array .long)] [.ref h, .int (iz ze), .long v, .ref ou] ([(h, rO od fa ot ah te id rt bs kn), (fa, go cO 4 fr), (ot, go cO 4 er), (ou, kl cJ 1 V)] ++ (gs 4 er cJ 5 E ++ (gs 4 fr cJ 5 F))) sa) (va_Qi (fun (q : Int32) (_ : Unit) => q = iz 1) (fun _ t => va_P D vC ([(h, rO od fa ot ah te id rt bs kn), (fa, go cO 4 fr), (ot, go cO 4 er), (ou, kl cJ 1 V)] ++ (gs 4 er cJ 5 E ++ (gs 4 fr cJ 5 F))) t.heap) (rc_A ([(h, rO od fa ot ah te id rt bs kn), (fa, go cO 4 fr), (ot, go cO 4 er), (ou, kl cJ 1 V)] ++ (gs 4 er cJ 5 E ++ (gs 4 fr cJ 5 F))))) 1 6 (rc_A ([(h, rO od fa ot ah te id rt bs kn), (fa, go cO 4 fr), (ot, go cO 4 er), (ou, kl cJ 1 V)] ++ (gs 4 er cJ 5 E ++ (gs 4 fr cJ 5 F)))) := h_L_level_t l D hst sa cJ cO h fa ot ah te id rt bs od kn ou V fr er E F ze v o hod ho3 haz

set_option maxHeartbeats 4000000 in
set_option maxRecDepth 100000 in
theorem m_O_regular_S (l : Launch) (D : va_G) (cJ cO : ClassId) (h fa ot ah te id rt bs : Nat) (od kn : Int) (fr er : Nat → Nat) (E F : Nat → Nat → ro_K) (ze : Int) (v : Int64) (o : Nat) (hod : od = (o : Int)) (ho3 : o ≤ 3) (hz0 : 0 ≤ ze) (hz1 : ze ≤ 1) (haz : azB F (o + 1) = false) : Met l y_O_regular ws_O_regular ({ frames := 4, cells := 0, slots := 0, locals := 88 }) (rc_Pc D vC [(cJ, .long), (cO, .array .long)] [.ref h, .int (iz ze), .long v] ([(h, rO od fa ot ah te id rt bs kn), (fa, go cO 4 fr), (ot, go cO 4 er)] ++ (gs 4 er cJ 5 E ++ (gs 4 fr cJ 5 F)))) (va_Qi (fun (q : Int32) (_ : Unit) => q = if oat (gtE F o ze v E) o ((gtL (gtE F o ze v E) o ze) + (o : Int)) = 0 then iz 0 else iz 1) (fun _ t => va_P D vC ([(h, rO od fa ot ah te id rt bs kn), (fa, go cO 4 fr), (ot, go cO 4 er)] ++ (gs 4 er cJ 5 (gtE F o ze v E) ++ (gs 4 fr cJ 5 F))) t.heap) (rc_A ([(h, rO od fa ot ah te id rt bs kn), (fa, go cO 4 fr), (ot, go cO 4 er)] ++ (gs 4 er cJ 5 E ++ (gs 4 fr cJ 5 F))))) 0 0 (rc_A ([(h, rO od fa ot ah te id rt bs kn), (fa, go cO 4 fr), (ot, go cO 4 er)] ++ (gs 4 er cJ 5 E ++ (gs 4 fr cJ 5 F)))) := m_O_regular l D cJ cO h fa ot ah te id rt bs od kn fr er E F ze v o hod ho3 hz0 hz1 haz
def ws_L_regular : List Cond := .codeWith y_L_regular c_L_regular 6 (some .int) [((0 : Nat), (18 : Nat), (21 : Nat), (27 : Nat))] :: kb
set_option maxHeartbeats 4000000 in
set_option maxRecDepth 100000 in
theorem h_L_regular (l : Launch) (D : va_G) (cJ cO : ClassId) (h fa ot ah te id rt bs : Nat) (od kn : Int) (ou : Nat) (V : Nat → Int64) (fr er : Nat → Nat) (E F : Nat → Nat → ro_K) (ze : Int) (v : Int64) (o : Nat) (hod : od = (o : Int)) (ho3 : o ≤ 3) (hz0 : 0 ≤ ze) (hz1 : ze ≤ 1) (haz : azB F (o + 1) = false) : Met l y_L_regular ws_L_regular ({ frames := 5, cells := 0, slots := 0, locals := 112 }) (rc_Pc D vC [(cJ, .long), (cO, .array .long)] [.ref h, .int (iz ze), .long v, .ref ou] (([(h, rO od fa ot ah te id rt bs kn), (fa, go cO 4 fr), (ot, go cO 4 er), (ou, kl cJ 1 V)] ++ gs 4 er cJ 5 E) ++ gs 4 fr cJ 5 F)) (va_Qi (fun (q : Int32) (u : ro_K) => q = iz 0 ∧ ((oat (gtE F o ze v E) o ((gtL (gtE F o ze v E) o ze) + (o : Int)) = 0 ∧ u = 0) ∨ (¬ oat (gtE F o ze v E) o ((gtL (gtE F o ze v E) o ze) + (o : Int)) = 0 ∧ u = 1))) (fun u t => va_P D vC (([(h, rO od fa ot ah te id rt bs kn), (fa, go cO 4 fr), (ot, go cO 4 er), (ou, kl cJ 1 (vp_updL V 0 (lk u)))] ++ gs 4 er cJ 5 (gtE F o ze v E)) ++ gs 4 fr cJ 5 F) t.heap) (rc_A (([(h, rO od fa ot ah te id rt bs kn), (fa, go cO 4 fr), (ot, go cO 4 er), (ou, kl cJ 1 V)] ++ gs 4 er cJ 5 E) ++ gs 4 fr cJ 5 F))) 0 0 (rc_A (([(h, rO od fa ot ah te id rt bs kn), (fa, go cO 4 fr), (ot, go cO 4 er), (ou, kl cJ 1 V)] ++ gs 4 er cJ 5 E) ++ gs 4 fr cJ 5 F)) := by
  refine rh_ofW (cc := c_L_regular) (maxL := 6) (ret := (some .int)) (hh := [((0 : Nat), (18 : Nat), (21 : Nat), (27 : Nat))]) (by decide) rfl ?_
  intro p e s m args below meth c s₁ B hml hv
  obtain ⟨rfl, hP, hK, hD0, hN⟩ := hv
  have hx := B.exec
  have hb := B.bytes
  have hr := B.returns
  have hts0 := atoms_spec (ws := ws_L_regular) B.pre
  have htb := vx_table (x := y_L_regular) B (hts0 _ List.mem_cons_self)
  have hts : ∀ w ∈ kb, w.before _ s = true := fun w h => hts0 w (List.mem_cons_of_mem _ h)
  have hown : s.vm.findClass R_L = some m.cls := findClass_of_methodNamed B.named
  have hlocks := B.notSynchronized
  have hD := rc_self hD0
  generalize hAe : rc_A (([(h, rO od fa ot ah te id rt bs kn), (fa, go cO 4 fr), (ot, go cO 4 er), (ou, kl cJ 1 V)] ++ gs 4 er cJ 5 E) ++ gs 4 fr cJ 5 F) = A at hD ⊢
  have hS : va_S A s.heap s.heap [] := va_S.rf
  have hl := lv_entry ([.ref h, .int (iz ze), .long v, .ref ou]) (n := 6) (Nat.le_of_ble_eq_true rfl)
  rw [lg_entry_eq]
  generalize (lg_sl ([.ref h, .int (iz ze), .long v, .ref ou]) ++ List.replicate (6 - (lg_sl ([.ref h, .int (iz ze), .long v, .ref ou])).length) Slot.unset).toArray = ls at hl ⊢
  have hl : lv_has ls 6 [(0, .ref h), (1, .int (iz ze)), (2, .long v), (4, .ref ou)] := hl
  refine lv_aload hx hb d_L_regular_0 (lv_at hl 3 rfl) ?_
  refine rz_iconst hx hb d_L_regular_2 ?_
  refine lv_aload_n hx hb d_L_regular_3 rfl (lv_at hl 0 rfl) ?_
  refine lv_iload_n hx hb d_L_regular_4 rfl (lv_at hl 1 rfl) ?_
  refine lv_lload_n hx hb d_L_regular_5 rfl (lv_at hl 2 rfl) ?_
  refine rs_calli (va_runV (As := [.int (iz ze), .long v]) (rest := [.int (iz 0), .ref ou]) ⟨hx, hb, hml, hown, hts⟩ (m_O_regular_S l D cJ cO h fa ot ah te id rt bs od kn fr er E F ze v o hod ho3 hz0 hz1 haz) (cwV 2 hts (kb_gi (kb_c kw_454 (kb_c kw_455 (kb_c kw_456 (kb_c kw_1 (kb_c kw_457 kb_all)))))) rfl rfl rfl (by decide +kernel) ⟨Nat.le_of_ble_eq_true rfl, Nat.le_of_ble_eq_true rfl⟩) ⟨rc_blind, va_recv hK hP (ci := 2) (q0 := 0) rfl rfl, rs_pre (Y := []) (rs_nil (rs_a_2_0 hP)) (rs_nilD (rs_aD_2_0 hD)) hK hN [0, 1, 2] rfl rfl [0, 1] rfl⟩ rfl rfl hl.1 rfl (lv_room (Nat.le_of_ble_eq_true rfl)) d_L_regular_6 ⟨Nat.zero_le _, Nat.zero_le _⟩) (rs_a_2_0 hP) (rs_aD_2_0 hD) hS [0, 1, 2] rfl (fun _ => rfl) (fun _ => gs_adr2 (gs_adr _ _ _ _ _ _) (gs_adr _ _ _ _ _ _)) (fun r1 u2 H locs hw2 hP hD hS => ?_)
  have hP := rs_b_2_0 hP
  have hD := rs_bD_2_0 hD
  by_cases hf : oat (gtE F o ze v E) o ((gtL (gtE F o ze v E) o ze) + (o : Int)) = 0
  · rw [if_pos hf] at hw2
    subst hw2
    have hP : va_P D vC (([(h, rO od fa ot ah te id rt bs kn), (fa, go cO 4 fr), (ot, go cO 4 er), (ou, kl cJ 1 V)] ++ gs 4 er cJ 5 (gtE F o ze v E)) ++ gs 4 fr cJ 5 F) H := hP
    have hD : va_D A (([(h, rO od fa ot ah te id rt bs kn), (fa, go cO 4 fr), (ot, go cO 4 er), (ou, kl cJ 1 V)] ++ gs 4 er cJ 5 (gtE F o ze v E)) ++ gs 4 fr cJ 5 F) := hD
    refine rz_if_eq (tgt := 16) hx hb d_L_regular_9 (by decide) (fun _ => ?_) (fun hc => absurd rfl hc)
    refine lv_lconst (v := lk 0) hx hb d_L_regular_16 rfl ?_
    refine rl_st hx hb hK hP hD hS 3 0 rfl rfl 0 d_L_regular_17 (fun H locs hP hD hS => ?_)
    have hP : va_P D vC (([(h, rO od fa ot ah te id rt bs kn), (fa, go cO 4 fr), (ot, go cO 4 er), (ou, kl cJ 1 (vp_updL V 0 (lk 0)))] ++ gs 4 er cJ 5 (gtE F o ze v E)) ++ gs 4 fr cJ 5 F) H := hP
    have hD : va_D A (([(h, rO od fa ot ah te id rt bs kn), (fa, go cO 4 fr), (ot, go cO 4 er), (ou, kl cJ 1 (vp_updL V 0 (lk 0)))] ++ gs 4 er cJ 5 (gtE F o ze v E)) ++ gs 4 fr cJ 5 F) := hD
    refine lv_goto (tgt := 25) hx hb d_L_regular_18 (by decide) ?_
    refine rz_iconst hx hb d_L_regular_25 ?_
    exact W.iret hx hb hr (fun t ht hW => ⟨⟨_, 0, rfl, ⟨rfl, Or.inl ⟨hf, rfl⟩⟩, rc_out ht hP⟩, hS.F ht⟩) hS.2.2 d_L_regular_26
  · rw [if_neg hf] at hw2
    subst hw2
    have hP : va_P D vC (([(h, rO od fa ot ah te id rt bs kn), (fa, go cO 4 fr), (ot, go cO 4 er), (ou, kl cJ 1 V)] ++ gs 4 er cJ 5 (gtE F o ze v E)) ++ gs 4 fr cJ 5 F) H := hP
    have hD : va_D A (([(h, rO od fa ot ah te id rt bs kn), (fa, go cO 4 fr), (ot, go cO 4 er), (ou, kl cJ 1 V)] ++ gs 4 er cJ 5 (gtE F o ze v E)) ++ gs 4 fr cJ 5 F) := hD
    refine rz_if_eq (tgt := 16) hx hb d_L_regular_9 (by decide) (fun hc => absurd hc (by decide)) (fun _ => ?_)
    refine lv_lconst (v := lk 1) hx hb d_L_regular_12 rfl ?_
    refine lv_goto (tgt := 17) hx hb d_L_regular_13 (by decide) ?_
    refine rl_st hx hb hK hP hD hS 3 0 rfl rfl 0 d_L_regular_17 (fun H locs hP hD hS => ?_)
    have hP : va_P D vC (([(h, rO od fa ot ah te id rt bs kn), (fa, go cO 4 fr), (ot, go cO 4 er), (ou, kl cJ 1 (vp_updL V 0 (lk 1)))] ++ gs 4 er cJ 5 (gtE F o ze v E)) ++ gs 4 fr cJ 5 F) H := hP
    have hD : va_D A (([(h, rO od fa ot ah te id rt bs kn), (fa, go cO 4 fr), (ot, go cO 4 er), (ou, kl cJ 1 (vp_updL V 0 (lk 1)))] ++ gs 4 er cJ 5 (gtE F o ze v E)) ++ gs 4 fr cJ 5 F) := hD
    refine lv_goto (tgt := 25) hx hb d_L_regular_18 (by decide) ?_
    refine rz_iconst hx hb d_L_regular_25 ?_
    exact W.iret hx hb hr (fun t ht hW => ⟨⟨_, 1, rfl, ⟨rfl, Or.inr ⟨hf, rfl⟩⟩, rc_out ht hP⟩, hS.F ht⟩) hS.2.2 d_L_regular_26
set_option maxHeartbeats 4000000 in
set_option maxRecDepth 100000 in
theorem h_L_regular_S (l : Launch) (D : va_G) (cJ cO : ClassId) (h fa ot ah te id rt bs : Nat) (od kn : Int) (ou : Nat) (V : Nat → Int64) (fr er : Nat → Nat) (E F : Nat → Nat → ro_K) (ze : Int) (v : Int64) (o : Nat) (hod : od = (o : Int)) (ho3 : o ≤ 3) (hz0 : 0 ≤ ze) (hz1 : ze ≤ 1) (haz : azB F (o + 1) = false) : Met l y_L_regular ws_L_regular ({ frames := 5, cells := 0, slots := 0, locals := 112 }) (rc_Pc D vC [(cJ, .long), (cO, .array .long)] [.ref h, .int (iz ze), .long v, .ref ou] ([(h, rO od fa ot ah te id rt bs kn), (fa, go cO 4 fr), (ot, go cO 4 er), (ou, kl cJ 1 V)] ++ (gs 4 er cJ 5 E ++ (gs 4 fr cJ 5 F)))) (va_Qi (fun (q : Int32) (u : ro_K) => q = iz 0 ∧ ((oat (gtE F o ze v E) o ((gtL (gtE F o ze v E) o ze) + (o : Int)) = 0 ∧ u = 0) ∨ (¬ oat (gtE F o ze v E) o ((gtL (gtE F o ze v E) o ze) + (o : Int)) = 0 ∧ u = 1))) (fun u t => va_P D vC ([(h, rO od fa ot ah te id rt bs kn), (fa, go cO 4 fr), (ot, go cO 4 er), (ou, kl cJ 1 (vp_updL V 0 (lk u)))] ++ (gs 4 er cJ 5 (gtE F o ze v E) ++ (gs 4 fr cJ 5 F))) t.heap) (rc_A ([(h, rO od fa ot ah te id rt bs kn), (fa, go cO 4 fr), (ot, go cO 4 er), (ou, kl cJ 1 V)] ++ (gs 4 er cJ 5 E ++ (gs 4 fr cJ 5 F))))) 0 0 (rc_A ([(h, rO od fa ot ah te id rt bs kn), (fa, go cO 4 fr), (ot, go cO 4 er), (ou, kl cJ 1 V)] ++ (gs 4 er cJ 5 E ++ (gs 4 fr cJ 5 F)))) := h_L_regular l D cJ cO h fa ot ah te id rt bs od kn ou V fr er E F ze v o hod ho3 hz0 hz1 haz

set_option maxHeartbeats 4000000 in
set_option maxRecDepth 100000 in
theorem x_O_regular_S (l : Launch) (D : va_G) (hst : l.stackTraces = false) (sa : Nat → Nat) (cJ cO : ClassId) (h fa ot ah te id rt bs : Nat) (od kn : Int) (fr er : Nat → Nat) (E F : Nat → Nat → ro_K) (ze : Int) (v : Int64) (o : Nat) (hod : od = (o : Int)) (ho3 : o ≤ 3) (haz : azB F (o + 1) = true) : vx_Met l y_O_regular ws_O_regular ({ frames := 7, cells := 1, slots := 6, locals := 130 }) (rx_Px D vC [(cJ, .long), (cO, .array .long)] [.ref h, .int (iz ze), .long v] ([(h, rO od fa ot ah te id rt bs kn), (fa, go cO 4 fr), (ot, go cO 4 er)] ++ (gs 4 er cJ 5 E ++ (gs 4 fr cJ 5 F))) sa) (va_Qi (fun (_ : Int32) (_ : Unit) => False) (fun _ _ => True) (rc_A ([(h, rO od fa ot ah te id rt bs kn), (fa, go cO 4 fr), (ot, go cO 4 er)] ++ (gs 4 er cJ 5 E ++ (gs 4 fr cJ 5 F))))) (vx_X (fun (_ : Unit) => True) (fun E9 _ t => E9 = xS ∧ va_P D vC ([(h, rO od fa ot ah te id rt bs kn), (fa, go cO 4 fr), (ot, go cO 4 er)] ++ (gs 4 er cJ 5 E ++ (gs 4 fr cJ 5 F))) t.heap) (rc_A ([(h, rO od fa ot ah te id rt bs kn), (fa, go cO 4 fr), (ot, go cO 4 er)] ++ (gs 4 er cJ 5 E ++ (gs 4 fr cJ 5 F))))) 1 6 (rc_A ([(h, rO od fa ot ah te id rt bs kn), (fa, go cO 4 fr), (ot, go cO 4 er)] ++ (gs 4 er cJ 5 E ++ (gs 4 fr cJ 5 F)))) := x_O_regular l D hst sa cJ cO h fa ot ah te id rt bs od kn fr er E F ze v o hod ho3 haz
set_option maxHeartbeats 4000000 in
set_option maxRecDepth 100000 in
theorem h_L_regular_t (l : Launch) (D : va_G) (hst : l.stackTraces = false) (sa : Nat → Nat) (cJ cO : ClassId) (h fa ot ah te id rt bs : Nat) (od kn : Int) (ou : Nat) (V : Nat → Int64) (fr er : Nat → Nat) (E F : Nat → Nat → ro_K) (ze : Int) (v : Int64) (o : Nat) (hod : od = (o : Int)) (ho3 : o ≤ 3) (haz : azB F (o + 1) = true) : Met l y_L_regular ws_L_regular ({ frames := 8, cells := 1, slots := 6, locals := 154 }) (rx_Px D vC [(cJ, .long), (cO, .array .long)] [.ref h, .int (iz ze), .long v, .ref ou] (([(h, rO od fa ot ah te id rt bs kn), (fa, go cO 4 fr), (ot, go cO 4 er), (ou, kl cJ 1 V)] ++ gs 4 er cJ 5 E) ++ gs 4 fr cJ 5 F) sa) (va_Qi (fun (q : Int32) (_ : Unit) => q = iz 1) (fun _ t => va_P D vC (([(h, rO od fa ot ah te id rt bs kn), (fa, go cO 4 fr), (ot, go cO 4 er), (ou, kl cJ 1 V)] ++ gs 4 er cJ 5 E) ++ gs 4 fr cJ 5 F) t.heap) (rc_A (([(h, rO od fa ot ah te id rt bs kn), (fa, go cO 4 fr), (ot, go cO 4 er), (ou, kl cJ 1 V)] ++ gs 4 er cJ 5 E) ++ gs 4 fr cJ 5 F))) 1 6 (rc_A (([(h, rO od fa ot ah te id rt bs kn), (fa, go cO 4 fr), (ot, go cO 4 er), (ou, kl cJ 1 V)] ++ gs 4 er cJ 5 E) ++ gs 4 fr cJ 5 F)) := by
  refine rh_ofW (cc := c_L_regular) (maxL := 6) (ret := (some .int)) (hh := [((0 : Nat), (18 : Nat), (21 : Nat), (27 : Nat))]) (by decide) rfl ?_
  intro p e s m args below meth c s₁ B hml hv
  obtain ⟨⟨rfl, hP, hK, hD0, hN⟩, hE⟩ := hv
  have hx := B.exec
  have hb := B.bytes
  have hr := B.returns
  have hts0 := atoms_spec (ws := ws_L_regular) B.pre
  have htb := vx_table (x := y_L_regular) B (hts0 _ List.mem_cons_self)
  have hts : ∀ w ∈ kb, w.before _ s = true := fun w h => hts0 w (List.mem_cons_of_mem _ h)
  have hown : s.vm.findClass R_L = some m.cls := findClass_of_methodNamed B.named
  have hlocks := B.notSynchronized
  have hD := rc_self hD0
  generalize hAe : rc_A (([(h, rO od fa ot ah te id rt bs kn), (fa, go cO 4 fr), (ot, go cO 4 er), (ou, kl cJ 1 V)] ++ gs 4 er cJ 5 E) ++ gs 4 fr cJ 5 F) = A at hD hE ⊢
  have hS : va_S A s.heap s.heap [] := va_S.rf
  have hl := lv_entry ([.ref h, .int (iz ze), .long v, .ref ou]) (n := 6) (Nat.le_of_ble_eq_true rfl)
  rw [lg_entry_eq]
  generalize (lg_sl ([.ref h, .int (iz ze), .long v, .ref ou]) ++ List.replicate (6 - (lg_sl ([.ref h, .int (iz ze), .long v, .ref ou])).length) Slot.unset).toArray = ls at hl ⊢
  have hl : lv_has ls 6 [(0, .ref h), (1, .int (iz ze)), (2, .long v), (4, .ref ou)] := hl
  refine lv_aload hx hb d_L_regular_0 (lv_at hl 3 rfl) ?_
  refine rz_iconst hx hb d_L_regular_2 ?_
  refine lv_aload_n hx hb d_L_regular_3 rfl (lv_at hl 0 rfl) ?_
  refine lv_iload_n hx hb d_L_regular_4 rfl (lv_at hl 1 rfl) ?_
  refine lv_lload_n hx hb d_L_regular_5 rfl (lv_at hl 2 rfl) ?_
  refine rxT_calli (vx_runV (As := [.int (iz ze), .long v]) (rest := [.int (iz 0), .ref ou]) ⟨hx, hb, hml, hown, hts⟩ (x_O_regular_S l D hst sa cJ cO h fa ot ah te id rt bs od kn fr er E F ze v o hod ho3 haz) (cwV 2 hts (kb_gi (kb_c kw_454 (kb_c kw_455 (kb_c kw_456 (kb_c kw_1 (kb_c kw_457 kb_all)))))) rfl rfl rfl (by decide +kernel) ⟨(Nat.le_of_ble_eq_true rfl), (Nat.le_of_ble_eq_true rfl)⟩) ⟨rx_blind, va_recv hK hP (ci := 2) (q0 := 0) rfl rfl, fun U h8 h9 => ⟨(rs_pre (Y := []) (rs_nil (rs_a_2_0 hP)) (rs_nilD (rs_aD_2_0 hD)) hK hN [0, 1, 2] rfl rfl [0, 1] rfl) U h8 h9, hE.go hS (rs_in (rs_nilD (rs_aD_2_0 hD)) (is := [0, 1, 2]) rfl) h8 h9⟩⟩ rfl rfl hl.1 rfl (lv_room (Nat.le_of_ble_eq_true rfl)) d_L_regular_6 ⟨(Nat.le_of_ble_eq_true rfl), (Nat.le_of_ble_eq_true rfl)⟩) (rs_nil (rs_a_2_0 hP)) (rs_nilD (rs_aD_2_0 hD)) hS [0, 1, 2] rfl (fun _ => rfl) (fun _ => gs_adr2 (gs_adr _ _ _ _ _ _) (gs_adr _ _ _ _ _ _)) (fun ce q9 u1 H locs hw1 hP hD hS hce hcv hcl => ?_)
  have hP := rs_b_2_0 (rs_nilR hP)
  have hD := rs_bD_2_0 (rs_nilRD hD)
  have hP : va_P D vC (([(h, rO od fa ot ah te id rt bs kn), (fa, go cO 4 fr), (ot, go cO 4 er), (ou, kl cJ 1 V)] ++ gs 4 er cJ 5 E) ++ gs 4 fr cJ 5 F) H := hP
  have hD : va_D A (([(h, rO od fa ot ah te id rt bs kn), (fa, go cO 4 fr), (ot, go cO 4 er), (ou, kl cJ 1 V)] ++ gs 4 er cJ 5 E) ++ gs 4 fr cJ 5 F) := hD
  refine vx_catch (name := xS) hown [] ⟨0, 18, 21, 27⟩ [] htb (fun z hz => absurd hz List.not_mem_nil) rfl (by decide) (hts _ kw_316) (va_Nw.use rfl hE.1.2.1) hce hcv hcl ?_
  refine lv_astore (lv' := [(5, .ref q9), (0, .ref h), (1, .int (iz ze)), (2, .long v), (4, .ref ou)]) hx hb d_L_regular_21 hl (by decide) rfl (fun ls hl => ?_)
  refine rz_iconst hx hb d_L_regular_23 ?_
  exact W.iret hx hb hr (fun t ht hW => ⟨⟨_, (), rfl, rfl, rc_out ht hP⟩, hS.F ht⟩) hS.2.2 d_L_regular_24
set_option maxHeartbeats 4000000 in
set_option maxRecDepth 100000 in
theorem h_L_regular_t_S (l : Launch) (D : va_G) (hst : l.stackTraces = false) (sa : Nat → Nat) (cJ cO : ClassId) (h fa ot ah te id rt bs : Nat) (od kn : Int) (ou : Nat) (V : Nat → Int64) (fr er : Nat → Nat) (E F : Nat → Nat → ro_K) (ze : Int) (v : Int64) (o : Nat) (hod : od = (o : Int)) (ho3 : o ≤ 3) (haz : azB F (o + 1) = true) : Met l y_L_regular ws_L_regular ({ frames := 8, cells := 1, slots := 6, locals := 154 }) (rx_Px D vC [(cJ, .long), (cO, .array .long)] [.ref h, .int (iz ze), .long v, .ref ou] ([(h, rO od fa ot ah te id rt bs kn), (fa, go cO 4 fr), (ot, go cO 4 er), (ou, kl cJ 1 V)] ++ (gs 4 er cJ 5 E ++ (gs 4 fr cJ 5 F))) sa) (va_Qi (fun (q : Int32) (_ : Unit) => q = iz 1) (fun _ t => va_P D vC ([(h, rO od fa ot ah te id rt bs kn), (fa, go cO 4 fr), (ot, go cO 4 er), (ou, kl cJ 1 V)] ++ (gs 4 er cJ 5 E ++ (gs 4 fr cJ 5 F))) t.heap) (rc_A ([(h, rO od fa ot ah te id rt bs kn), (fa, go cO 4 fr), (ot, go cO 4 er), (ou, kl cJ 1 V)] ++ (gs 4 er cJ 5 E ++ (gs 4 fr cJ 5 F))))) 1 6 (rc_A ([(h, rO od fa ot ah te id rt bs kn), (fa, go cO 4 fr), (ot, go cO 4 er), (ou, kl cJ 1 V)] ++ (gs 4 er cJ 5 E ++ (gs 4 fr cJ 5 F)))) := h_L_regular_t l D hst sa cJ cO h fa ot ah te id rt bs od kn ou V fr er E F ze v o hod ho3 haz

set_option maxHeartbeats 4000000 in
set_option maxRecDepth 100000 in
theorem m_O_exponent_S (l : Launch) (D : va_G) (cJ cO : ClassId) (h fa ot ah te id rt bs : Nat) (od kn : Int) (fo wh pt rs sq on tw : Nat) (cn : Int) (Fo Y P r S a1 b1 : Nat → ro_K) (fr er : Nat → Nat) (E F : Nat → Nat → ro_K) (J : Nat → ro_K) (ze : Int) (v : Int64) (zk : Int) (o : Nat) (hod : od = (o : Int)) (ho3 : o ≤ 3) (hz0 : 0 ≤ ze) (hz1 : ze ≤ 1) (haz : azB F (o + 1) = false) (hzkl : -2147483648 ≤ zk) (hzkh : zk < 2147483648) (hF : 0 ≤ kd (inF (gtE F o ze v E) (gtL (gtE F o ze v E) o ze) J) 5) (hJ : J 4 = 0) : Met l y_O_exponent ws_O_exponent ({ frames := 5, cells := 0, slots := 0, locals := 133 }) (rc_Pc D vC [(cJ, .long), (cO, .array .long)] [.ref h, .int (iz ze), .long v, .int (iz zk)] ([(h, rO od fa ot ah te id rt bs kn), (fa, go cO 4 fr), (ot, go cO 4 er), (id, ka cJ 5 J), (rt, rR fo cn wh pt rs sq on tw), (fo, ka cJ 4 Fo), (wh, ka cJ 5 Y), (pt, ka cJ 5 P), (rs, ka cJ 5 r), (sq, ka cJ 8 S), (on, ka cJ 5 a1), (tw, ka cJ 5 b1)] ++ (gs 4 er cJ 5 E ++ (gs 4 fr cJ 5 F)))) (va_Qi (fun (q : Int32) (u : rS8) => rts (inF (gtE F o ze v E) (gtL (gtE F o ze v E) o ze) J) u.1 u.2.1 ∧ q = if 0 ≤ zk ∧ zk < (u.1 : Int) then iz ((u.2.1 zk.toNat).val : Int) else iz (-1)) (fun u t => va_P D vC ([(h, rO od fa ot ah te id rt bs kn), (fa, go cO 4 fr), (ot, go cO 4 er), (id, ka cJ 5 (inF (gtE F o ze v E) (gtL (gtE F o ze v E) o ze) J)), (rt, rR fo (u.1 : Int) wh pt rs sq on tw), (fo, ka cJ 4 u.2.1), (wh, ka cJ 5 u.2.2.1), (pt, ka cJ 5 u.2.2.2.1), (rs, ka cJ 5 u.2.2.2.2.1), (sq, ka cJ 8 u.2.2.2.2.2.1), (on, ka cJ 5 u.2.2.2.2.2.2.1), (tw, ka cJ 5 u.2.2.2.2.2.2.2)] ++ (gs 4 er cJ 5 (gtE F o ze v E) ++ (gs 4 fr cJ 5 F))) t.heap) (rc_A ([(h, rO od fa ot ah te id rt bs kn), (fa, go cO 4 fr), (ot, go cO 4 er), (id, ka cJ 5 J), (rt, rR fo cn wh pt rs sq on tw), (fo, ka cJ 4 Fo), (wh, ka cJ 5 Y), (pt, ka cJ 5 P), (rs, ka cJ 5 r), (sq, ka cJ 8 S), (on, ka cJ 5 a1), (tw, ka cJ 5 b1)] ++ (gs 4 er cJ 5 E ++ (gs 4 fr cJ 5 F))))) 0 0 (rc_A ([(h, rO od fa ot ah te id rt bs kn), (fa, go cO 4 fr), (ot, go cO 4 er), (id, ka cJ 5 J), (rt, rR fo cn wh pt rs sq on tw), (fo, ka cJ 4 Fo), (wh, ka cJ 5 Y), (pt, ka cJ 5 P), (rs, ka cJ 5 r), (sq, ka cJ 8 S), (on, ka cJ 5 a1), (tw, ka cJ 5 b1)] ++ (gs 4 er cJ 5 E ++ (gs 4 fr cJ 5 F)))) := m_O_exponent l D cJ cO h fa ot ah te id rt bs od kn fo wh pt rs sq on tw cn Fo Y P r S a1 b1 fr er E F J ze v zk o hod ho3 hz0 hz1 haz hzkl hzkh hF hJ
def ws_L_exponent : List Cond := .codeWith y_L_exponent c_L_exponent 7 (some .int) [((0 : Nat), (13 : Nat), (16 : Nat), (27 : Nat))] :: kb
set_option maxHeartbeats 4000000 in
set_option maxRecDepth 100000 in
theorem h_L_exponent (l : Launch) (D : va_G) (cJ cO : ClassId) (h fa ot ah te id rt bs : Nat) (od kn : Int) (ou : Nat) (V : Nat → Int64) (fo wh pt rs sq on tw : Nat) (cn : Int) (Fo Y P r S a1 b1 : Nat → ro_K) (fr er : Nat → Nat) (E F : Nat → Nat → ro_K) (J : Nat → ro_K) (ze : Int) (v : Int64) (zk : Int) (o : Nat) (hod : od = (o : Int)) (ho3 : o ≤ 3) (hz0 : 0 ≤ ze) (hz1 : ze ≤ 1) (haz : azB F (o + 1) = false) (hzkl : -2147483648 ≤ zk) (hzkh : zk < 2147483648) (hF : 0 ≤ kd (inF (gtE F o ze v E) (gtL (gtE F o ze v E) o ze) J) 5) (hJ : J 4 = 0) : Met l y_L_exponent ws_L_exponent ({ frames := 6, cells := 0, slots := 0, locals := 157 }) (rc_Pc D vC [(cJ, .long), (cO, .array .long)] [.ref h, .int (iz ze), .long v, .int (iz zk), .ref ou] (([(h, rO od fa ot ah te id rt bs kn), (fa, go cO 4 fr), (ot, go cO 4 er), (id, ka cJ 5 J), (rt, rR fo cn wh pt rs sq on tw), (fo, ka cJ 4 Fo), (wh, ka cJ 5 Y), (pt, ka cJ 5 P), (rs, ka cJ 5 r), (sq, ka cJ 8 S), (on, ka cJ 5 a1), (tw, ka cJ 5 b1), (ou, kl cJ 1 V)] ++ gs 4 er cJ 5 E) ++ gs 4 fr cJ 5 F)) (va_Qi (fun (q : Int32) (u : rS8) => q = iz 0 ∧ rts (inF (gtE F o ze v E) (gtL (gtE F o ze v E) o ze) J) u.1 u.2.1) (fun u t => va_P D vC (([(h, rO od fa ot ah te id rt bs kn), (fa, go cO 4 fr), (ot, go cO 4 er), (id, ka cJ 5 (inF (gtE F o ze v E) (gtL (gtE F o ze v E) o ze) J)), (rt, rR fo (u.1 : Int) wh pt rs sq on tw), (fo, ka cJ 4 u.2.1), (wh, ka cJ 5 u.2.2.1), (pt, ka cJ 5 u.2.2.2.1), (rs, ka cJ 5 u.2.2.2.2.1), (sq, ka cJ 8 u.2.2.2.2.2.1), (on, ka cJ 5 u.2.2.2.2.2.2.1), (tw, ka cJ 5 u.2.2.2.2.2.2.2), (ou, kl cJ 1 (vp_updL V 0 ((if 0 ≤ zk ∧ zk < (u.1 : Int) then iz ((u.2.1 zk.toNat).val : Int) else iz (-1)).toInt64)))] ++ gs 4 er cJ 5 (gtE F o ze v E)) ++ gs 4 fr cJ 5 F) t.heap) (rc_A (([(h, rO od fa ot ah te id rt bs kn), (fa, go cO 4 fr), (ot, go cO 4 er), (id, ka cJ 5 J), (rt, rR fo cn wh pt rs sq on tw), (fo, ka cJ 4 Fo), (wh, ka cJ 5 Y), (pt, ka cJ 5 P), (rs, ka cJ 5 r), (sq, ka cJ 8 S), (on, ka cJ 5 a1), (tw, ka cJ 5 b1), (ou, kl cJ 1 V)] ++ gs 4 er cJ 5 E) ++ gs 4 fr cJ 5 F))) 0 0 (rc_A (([(h, rO od fa ot ah te id rt bs kn), (fa, go cO 4 fr), (ot, go cO 4 er), (id, ka cJ 5 J), (rt, rR fo cn wh pt rs sq on tw), (fo, ka cJ 4 Fo), (wh, ka cJ 5 Y), (pt, ka cJ 5 P), (rs, ka cJ 5 r), (sq, ka cJ 8 S), (on, ka cJ 5 a1), (tw, ka cJ 5 b1), (ou, kl cJ 1 V)] ++ gs 4 er cJ 5 E) ++ gs 4 fr cJ 5 F)) := by
  refine rh_ofW (cc := c_L_exponent) (maxL := 7) (ret := (some .int)) (hh := [((0 : Nat), (13 : Nat), (16 : Nat), (27 : Nat))]) (by decide) rfl ?_
  intro p e s m args below meth c s₁ B hml hv
  obtain ⟨rfl, hP, hK, hD0, hN⟩ := hv
  have hx := B.exec
  have hb := B.bytes
  have hr := B.returns
  have hts0 := atoms_spec (ws := ws_L_exponent) B.pre
  have htb := vx_table (x := y_L_exponent) B (hts0 _ List.mem_cons_self)
  have hts : ∀ w ∈ kb, w.before _ s = true := fun w h => hts0 w (List.mem_cons_of_mem _ h)
  have hown : s.vm.findClass R_L = some m.cls := findClass_of_methodNamed B.named
  have hlocks := B.notSynchronized
  have hD := rc_self hD0
  generalize hAe : rc_A (([(h, rO od fa ot ah te id rt bs kn), (fa, go cO 4 fr), (ot, go cO 4 er), (id, ka cJ 5 J), (rt, rR fo cn wh pt rs sq on tw), (fo, ka cJ 4 Fo), (wh, ka cJ 5 Y), (pt, ka cJ 5 P), (rs, ka cJ 5 r), (sq, ka cJ 8 S), (on, ka cJ 5 a1), (tw, ka cJ 5 b1), (ou, kl cJ 1 V)] ++ gs 4 er cJ 5 E) ++ gs 4 fr cJ 5 F) = A at hD ⊢
  have hS : va_S A s.heap s.heap [] := va_S.rf
  have hl := lv_entry ([.ref h, .int (iz ze), .long v, .int (iz zk), .ref ou]) (n := 7) (Nat.le_of_ble_eq_true rfl)
  rw [lg_entry_eq]
  generalize (lg_sl ([.ref h, .int (iz ze), .long v, .int (iz zk), .ref ou]) ++ List.replicate (7 - (lg_sl ([.ref h, .int (iz ze), .long v, .int (iz zk), .ref ou])).length) Slot.unset).toArray = ls at hl ⊢
  have hl : lv_has ls 7 [(0, .ref h), (1, .int (iz ze)), (2, .long v), (4, .int (iz zk)), (5, .ref ou)] := hl
  refine lv_aload hx hb d_L_exponent_0 (lv_at hl 4 rfl) ?_
  refine rz_iconst hx hb d_L_exponent_2 ?_
  refine lv_aload_n hx hb d_L_exponent_3 rfl (lv_at hl 0 rfl) ?_
  refine lv_iload_n hx hb d_L_exponent_4 rfl (lv_at hl 1 rfl) ?_
  refine lv_lload_n hx hb d_L_exponent_5 rfl (lv_at hl 2 rfl) ?_
  refine lv_iload hx hb d_L_exponent_6 (lv_at hl 3 rfl) ?_
  refine rs_calli (va_runV (As := [.int (iz ze), .long v, .int (iz zk)]) (rest := [.int (iz 0), .ref ou]) ⟨hx, hb, hml, hown, hts⟩ (m_O_exponent_S l D cJ cO h fa ot ah te id rt bs od kn fo wh pt rs sq on tw cn Fo Y P r S a1 b1 fr er E F J ze v zk o hod ho3 hz0 hz1 haz hzkl hzkh hF hJ) (cwV 3 hts (kb_gi (kb_c kw_461 (kb_c kw_462 (kb_c kw_463 (kb_c kw_1 (kb_c kw_464 kb_all)))))) rfl rfl rfl (by decide +kernel) ⟨Nat.le_of_ble_eq_true rfl, Nat.le_of_ble_eq_true rfl⟩) ⟨rc_blind, va_recv hK hP (ci := 2) (q0 := 0) rfl rfl, rs_pre (Y := []) (rs_nil (rs_a_2_0 hP)) (rs_nilD (rs_aD_2_0 hD)) hK hN [0, 1, 2, 3, 4, 5, 6, 7, 8, 9, 10, 11] rfl rfl [0, 1] rfl⟩ rfl rfl hl.1 rfl (lv_room (Nat.le_of_ble_eq_true rfl)) d_L_exponent_8 ⟨Nat.zero_le _, Nat.zero_le _⟩) (rs_a_2_0 hP) (rs_aD_2_0 hD) hS [0, 1, 2, 3, 4, 5, 6, 7, 8, 9, 10, 11] rfl (fun _ => rfl) (fun _ => gs_adr2 (gs_adr _ _ _ _ _ _) (gs_adr _ _ _ _ _ _)) (fun r1 u2 H locs hw2 hP hD hS => ?_)
  have hP := rs_b_2_0 hP
  have hD := rs_bD_2_0 hD
  obtain ⟨hw8, hw9⟩ := hw2
  obtain ⟨u, rfl⟩ : ∃ z, z = u2 := ⟨_, rfl⟩
  subst hw9
  have hP : va_P D vC (([(h, rO od fa ot ah te id rt bs kn), (fa, go cO 4 fr), (ot, go cO 4 er), (id, ka cJ 5 (inF (gtE F o ze v E) (gtL (gtE F o ze v E) o ze) J)), (rt, rR fo (u.1 : Int) wh pt rs sq on tw), (fo, ka cJ 4 u.2.1), (wh, ka cJ 5 u.2.2.1), (pt, ka cJ 5 u.2.2.2.1), (rs, ka cJ 5 u.2.2.2.2.1), (sq, ka cJ 8 u.2.2.2.2.2.1), (on, ka cJ 5 u.2.2.2.2.2.2.1), (tw, ka cJ 5 u.2.2.2.2.2.2.2), (ou, kl cJ 1 V)] ++ gs 4 er cJ 5 (gtE F o ze v E)) ++ gs 4 fr cJ 5 F) H := hP
  have hD : va_D A (([(h, rO od fa ot ah te id rt bs kn), (fa, go cO 4 fr), (ot, go cO 4 er), (id, ka cJ 5 (inF (gtE F o ze v E) (gtL (gtE F o ze v E) o ze) J)), (rt, rR fo (u.1 : Int) wh pt rs sq on tw), (fo, ka cJ 4 u.2.1), (wh, ka cJ 5 u.2.2.1), (pt, ka cJ 5 u.2.2.2.1), (rs, ka cJ 5 u.2.2.2.2.1), (sq, ka cJ 8 u.2.2.2.2.2.1), (on, ka cJ 5 u.2.2.2.2.2.2.1), (tw, ka cJ 5 u.2.2.2.2.2.2.2), (ou, kl cJ 1 V)] ++ gs 4 er cJ 5 (gtE F o ze v E)) ++ gs 4 fr cJ 5 F) := hD
  refine lv_i2l hx hb d_L_exponent_11 rfl ?_
  refine rl_st hx hb hK hP hD hS 12 0 rfl rfl 0 d_L_exponent_12 (fun H locs hP hD hS => ?_)
  have hP : va_P D vC (([(h, rO od fa ot ah te id rt bs kn), (fa, go cO 4 fr), (ot, go cO 4 er), (id, ka cJ 5 (inF (gtE F o ze v E) (gtL (gtE F o ze v E) o ze) J)), (rt, rR fo (u.1 : Int) wh pt rs sq on tw), (fo, ka cJ 4 u.2.1), (wh, ka cJ 5 u.2.2.1), (pt, ka cJ 5 u.2.2.2.1), (rs, ka cJ 5 u.2.2.2.2.1), (sq, ka cJ 8 u.2.2.2.2.2.1), (on, ka cJ 5 u.2.2.2.2.2.2.1), (tw, ka cJ 5 u.2.2.2.2.2.2.2), (ou, kl cJ 1 (vp_updL V 0 ((if 0 ≤ zk ∧ zk < (u.1 : Int) then iz ((u.2.1 zk.toNat).val : Int) else iz (-1))).toInt64))] ++ gs 4 er cJ 5 (gtE F o ze v E)) ++ gs 4 fr cJ 5 F) H := hP
  have hD : va_D A (([(h, rO od fa ot ah te id rt bs kn), (fa, go cO 4 fr), (ot, go cO 4 er), (id, ka cJ 5 (inF (gtE F o ze v E) (gtL (gtE F o ze v E) o ze) J)), (rt, rR fo (u.1 : Int) wh pt rs sq on tw), (fo, ka cJ 4 u.2.1), (wh, ka cJ 5 u.2.2.1), (pt, ka cJ 5 u.2.2.2.1), (rs, ka cJ 5 u.2.2.2.2.1), (sq, ka cJ 8 u.2.2.2.2.2.1), (on, ka cJ 5 u.2.2.2.2.2.2.1), (tw, ka cJ 5 u.2.2.2.2.2.2.2), (ou, kl cJ 1 (vp_updL V 0 ((if 0 ≤ zk ∧ zk < (u.1 : Int) then iz ((u.2.1 zk.toNat).val : Int) else iz (-1))).toInt64))] ++ gs 4 er cJ 5 (gtE F o ze v E)) ++ gs 4 fr cJ 5 F) := hD
  refine lv_goto (tgt := 20) hx hb d_L_exponent_13 (by decide) ?_
  refine rz_iconst hx hb d_L_exponent_20 ?_
  exact W.iret hx hb hr (fun t ht hW => ⟨⟨_, u, rfl, ⟨rfl, hw8⟩, rc_out ht hP⟩, hS.F ht⟩) hS.2.2 d_L_exponent_21
set_option maxHeartbeats 4000000 in
set_option maxRecDepth 100000 in
theorem h_L_exponent_S (l : Launch) (D : va_G) (cJ cO : ClassId) (h fa ot ah te id rt bs : Nat) (od kn : Int) (ou : Nat) (V : Nat → Int64) (fo wh pt rs sq on tw : Nat) (cn : Int) (Fo Y P r S a1 b1 : Nat → ro_K) (fr er : Nat → Nat) (E F : Nat → Nat → ro_K) (J : Nat → ro_K) (ze : Int) (v : Int64) (zk : Int) (o : Nat) (hod : od = (o : Int)) (ho3 : o ≤ 3) (hz0 : 0 ≤ ze) (hz1 : ze ≤ 1) (haz : azB F (o + 1) = false) (hzkl : -2147483648 ≤ zk) (hzkh : zk < 2147483648) (hF : 0 ≤ kd (inF (gtE F o ze v E) (gtL (gtE F o ze v E) o ze) J) 5) (hJ : J 4 = 0) : Met l y_L_exponent ws_L_exponent ({ frames := 6, cells := 0, slots := 0, locals := 157 }) (rc_Pc D vC [(cJ, .long), (cO, .array .long)] [.ref h, .int (iz ze), .long v, .int (iz zk), .ref ou] ([(h, rO od fa ot ah te id rt bs kn), (fa, go cO 4 fr), (ot, go cO 4 er), (id, ka cJ 5 J), (rt, rR fo cn wh pt rs sq on tw), (fo, ka cJ 4 Fo), (wh, ka cJ 5 Y), (pt, ka cJ 5 P), (rs, ka cJ 5 r), (sq, ka cJ 8 S), (on, ka cJ 5 a1), (tw, ka cJ 5 b1), (ou, kl cJ 1 V)] ++ (gs 4 er cJ 5 E ++ (gs 4 fr cJ 5 F)))) (va_Qi (fun (q : Int32) (u : rS8) => q = iz 0 ∧ rts (inF (gtE F o ze v E) (gtL (gtE F o ze v E) o ze) J) u.1 u.2.1) (fun u t => va_P D vC ([(h, rO od fa ot ah te id rt bs kn), (fa, go cO 4 fr), (ot, go cO 4 er), (id, ka cJ 5 (inF (gtE F o ze v E) (gtL (gtE F o ze v E) o ze) J)), (rt, rR fo (u.1 : Int) wh pt rs sq on tw), (fo, ka cJ 4 u.2.1), (wh, ka cJ 5 u.2.2.1), (pt, ka cJ 5 u.2.2.2.1), (rs, ka cJ 5 u.2.2.2.2.1), (sq, ka cJ 8 u.2.2.2.2.2.1), (on, ka cJ 5 u.2.2.2.2.2.2.1), (tw, ka cJ 5 u.2.2.2.2.2.2.2), (ou, kl cJ 1 (vp_updL V 0 ((if 0 ≤ zk ∧ zk < (u.1 : Int) then iz ((u.2.1 zk.toNat).val : Int) else iz (-1)).toInt64)))] ++ (gs 4 er cJ 5 (gtE F o ze v E) ++ (gs 4 fr cJ 5 F))) t.heap) (rc_A ([(h, rO od fa ot ah te id rt bs kn), (fa, go cO 4 fr), (ot, go cO 4 er), (id, ka cJ 5 J), (rt, rR fo cn wh pt rs sq on tw), (fo, ka cJ 4 Fo), (wh, ka cJ 5 Y), (pt, ka cJ 5 P), (rs, ka cJ 5 r), (sq, ka cJ 8 S), (on, ka cJ 5 a1), (tw, ka cJ 5 b1), (ou, kl cJ 1 V)] ++ (gs 4 er cJ 5 E ++ (gs 4 fr cJ 5 F))))) 0 0 (rc_A ([(h, rO od fa ot ah te id rt bs kn), (fa, go cO 4 fr), (ot, go cO 4 er), (id, ka cJ 5 J), (rt, rR fo cn wh pt rs sq on tw), (fo, ka cJ 4 Fo), (wh, ka cJ 5 Y), (pt, ka cJ 5 P), (rs, ka cJ 5 r), (sq, ka cJ 8 S), (on, ka cJ 5 a1), (tw, ka cJ 5 b1), (ou, kl cJ 1 V)] ++ (gs 4 er cJ 5 E ++ (gs 4 fr cJ 5 F)))) := h_L_exponent l D cJ cO h fa ot ah te id rt bs od kn ou V fo wh pt rs sq on tw cn Fo Y P r S a1 b1 fr er E F J ze v zk o hod ho3 hz0 hz1 haz hzkl hzkh hF hJ

set_option maxHeartbeats 4000000 in
set_option maxRecDepth 100000 in
theorem x_O_exponent_S (l : Launch) (D : va_G) (hst : l.stackTraces = false) (sa : Nat → Nat) (cJ cO : ClassId) (h fa ot ah te id rt bs : Nat) (od kn : Int) (fo wh pt rs sq on tw : Nat) (cn : Int) (Fo Y P r S a1 b1 : Nat → ro_K) (fr er : Nat → Nat) (E F : Nat → Nat → ro_K) (J : Nat → ro_K) (ze : Int) (v : Int64) (zk : Int) (o : Nat) (hod : od = (o : Int)) (ho3 : o ≤ 3) (haz : azB F (o + 1) = true) : vx_Met l y_O_exponent ws_O_exponent ({ frames := 7, cells := 1, slots := 6, locals := 130 }) (rx_Px D vC [(cJ, .long), (cO, .array .long)] [.ref h, .int (iz ze), .long v, .int (iz zk)] ([(h, rO od fa ot ah te id rt bs kn), (fa, go cO 4 fr), (ot, go cO 4 er), (id, ka cJ 5 J), (rt, rR fo cn wh pt rs sq on tw), (fo, ka cJ 4 Fo), (wh, ka cJ 5 Y), (pt, ka cJ 5 P), (rs, ka cJ 5 r), (sq, ka cJ 8 S), (on, ka cJ 5 a1), (tw, ka cJ 5 b1)] ++ (gs 4 er cJ 5 E ++ (gs 4 fr cJ 5 F))) sa) (va_Qi (fun (_ : Int32) (_ : Unit) => False) (fun _ _ => True) (rc_A ([(h, rO od fa ot ah te id rt bs kn), (fa, go cO 4 fr), (ot, go cO 4 er), (id, ka cJ 5 J), (rt, rR fo cn wh pt rs sq on tw), (fo, ka cJ 4 Fo), (wh, ka cJ 5 Y), (pt, ka cJ 5 P), (rs, ka cJ 5 r), (sq, ka cJ 8 S), (on, ka cJ 5 a1), (tw, ka cJ 5 b1)] ++ (gs 4 er cJ 5 E ++ (gs 4 fr cJ 5 F))))) (vx_X (fun (_ : Unit) => True) (fun E9 _ t => E9 = xS ∧ va_P D vC ([(h, rO od fa ot ah te id rt bs kn), (fa, go cO 4 fr), (ot, go cO 4 er), (id, ka cJ 5 J), (rt, rR fo cn wh pt rs sq on tw), (fo, ka cJ 4 Fo), (wh, ka cJ 5 Y), (pt, ka cJ 5 P), (rs, ka cJ 5 r), (sq, ka cJ 8 S), (on, ka cJ 5 a1), (tw, ka cJ 5 b1)] ++ (gs 4 er cJ 5 E ++ (gs 4 fr cJ 5 F))) t.heap) (rc_A ([(h, rO od fa ot ah te id rt bs kn), (fa, go cO 4 fr), (ot, go cO 4 er), (id, ka cJ 5 J), (rt, rR fo cn wh pt rs sq on tw), (fo, ka cJ 4 Fo), (wh, ka cJ 5 Y), (pt, ka cJ 5 P), (rs, ka cJ 5 r), (sq, ka cJ 8 S), (on, ka cJ 5 a1), (tw, ka cJ 5 b1)] ++ (gs 4 er cJ 5 E ++ (gs 4 fr cJ 5 F))))) 1 6 (rc_A ([(h, rO od fa ot ah te id rt bs kn), (fa, go cO 4 fr), (ot, go cO 4 er), (id, ka cJ 5 J), (rt, rR fo cn wh pt rs sq on tw), (fo, ka cJ 4 Fo), (wh, ka cJ 5 Y), (pt, ka cJ 5 P), (rs, ka cJ 5 r), (sq, ka cJ 8 S), (on, ka cJ 5 a1), (tw, ka cJ 5 b1)] ++ (gs 4 er cJ 5 E ++ (gs 4 fr cJ 5 F)))) := x_O_exponent l D hst sa cJ cO h fa ot ah te id rt bs od kn fo wh pt rs sq on tw cn Fo Y P r S a1 b1 fr er E F J ze v zk o hod ho3 haz
set_option maxHeartbeats 4000000 in
set_option maxRecDepth 100000 in
theorem h_L_exponent_t (l : Launch) (D : va_G) (hst : l.stackTraces = false) (sa : Nat → Nat) (cJ cO : ClassId) (h fa ot ah te id rt bs : Nat) (od kn : Int) (ou : Nat) (V : Nat → Int64) (fo wh pt rs sq on tw : Nat) (cn : Int) (Fo Y P r S a1 b1 : Nat → ro_K) (fr er : Nat → Nat) (E F : Nat → Nat → ro_K) (J : Nat → ro_K) (ze : Int) (v : Int64) (zk : Int) (o : Nat) (hod : od = (o : Int)) (ho3 : o ≤ 3) (haz : azB F (o + 1) = true) : Met l y_L_exponent ws_L_exponent ({ frames := 8, cells := 1, slots := 6, locals := 154 }) (rx_Px D vC [(cJ, .long), (cO, .array .long)] [.ref h, .int (iz ze), .long v, .int (iz zk), .ref ou] (([(h, rO od fa ot ah te id rt bs kn), (fa, go cO 4 fr), (ot, go cO 4 er), (id, ka cJ 5 J), (rt, rR fo cn wh pt rs sq on tw), (fo, ka cJ 4 Fo), (wh, ka cJ 5 Y), (pt, ka cJ 5 P), (rs, ka cJ 5 r), (sq, ka cJ 8 S), (on, ka cJ 5 a1), (tw, ka cJ 5 b1), (ou, kl cJ 1 V)] ++ gs 4 er cJ 5 E) ++ gs 4 fr cJ 5 F) sa) (va_Qi (fun (q : Int32) (_ : Unit) => q = iz 1) (fun _ t => va_P D vC (([(h, rO od fa ot ah te id rt bs kn), (fa, go cO 4 fr), (ot, go cO 4 er), (id, ka cJ 5 J), (rt, rR fo cn wh pt rs sq on tw), (fo, ka cJ 4 Fo), (wh, ka cJ 5 Y), (pt, ka cJ 5 P), (rs, ka cJ 5 r), (sq, ka cJ 8 S), (on, ka cJ 5 a1), (tw, ka cJ 5 b1), (ou, kl cJ 1 V)] ++ gs 4 er cJ 5 E) ++ gs 4 fr cJ 5 F) t.heap) (rc_A (([(h, rO od fa ot ah te id rt bs kn), (fa, go cO 4 fr), (ot, go cO 4 er), (id, ka cJ 5 J), (rt, rR fo cn wh pt rs sq on tw), (fo, ka cJ 4 Fo), (wh, ka cJ 5 Y), (pt, ka cJ 5 P), (rs, ka cJ 5 r), (sq, ka cJ 8 S), (on, ka cJ 5 a1), (tw, ka cJ 5 b1), (ou, kl cJ 1 V)] ++ gs 4 er cJ 5 E) ++ gs 4 fr cJ 5 F))) 1 6 (rc_A (([(h, rO od fa ot ah te id rt bs kn), (fa, go cO 4 fr), (ot, go cO 4 er), (id, ka cJ 5 J), (rt, rR fo cn wh pt rs sq on tw), (fo, ka cJ 4 Fo), (wh, ka cJ 5 Y), (pt, ka cJ 5 P), (rs, ka cJ 5 r), (sq, ka cJ 8 S), (on, ka cJ 5 a1), (tw, ka cJ 5 b1), (ou, kl cJ 1 V)] ++ gs 4 er cJ 5 E) ++ gs 4 fr cJ 5 F)) := by
  refine rh_ofW (cc := c_L_exponent) (maxL := 7) (ret := (some .int)) (hh := [((0 : Nat), (13 : Nat), (16 : Nat), (27 : Nat))]) (by decide) rfl ?_
  intro p e s m args below meth c s₁ B hml hv
  obtain ⟨⟨rfl, hP, hK, hD0, hN⟩, hE⟩ := hv
  have hx := B.exec
  have hb := B.bytes
  have hr := B.returns
  have hts0 := atoms_spec (ws := ws_L_exponent) B.pre
  have htb := vx_table (x := y_L_exponent) B (hts0 _ List.mem_cons_self)
  have hts : ∀ w ∈ kb, w.before _ s = true := fun w h => hts0 w (List.mem_cons_of_mem _ h)
  have hown : s.vm.findClass R_L = some m.cls := findClass_of_methodNamed B.named
  have hlocks := B.notSynchronized
  have hD := rc_self hD0
  generalize hAe : rc_A (([(h, rO od fa ot ah te id rt bs kn), (fa, go cO 4 fr), (ot, go cO 4 er), (id, ka cJ 5 J), (rt, rR fo cn wh pt rs sq on tw), (fo, ka cJ 4 Fo), (wh, ka cJ 5 Y), (pt, ka cJ 5 P), (rs, ka cJ 5 r), (sq, ka cJ 8 S), (on, ka cJ 5 a1), (tw, ka cJ 5 b1), (ou, kl cJ 1 V)] ++ gs 4 er cJ 5 E) ++ gs 4 fr cJ 5 F) = A at hD hE ⊢
  have hS : va_S A s.heap s.heap [] := va_S.rf
  have hl := lv_entry ([.ref h, .int (iz ze), .long v, .int (iz zk), .ref ou]) (n := 7) (Nat.le_of_ble_eq_true rfl)
  rw [lg_entry_eq]
  generalize (lg_sl ([.ref h, .int (iz ze), .long v, .int (iz zk), .ref ou]) ++ List.replicate (7 - (lg_sl ([.ref h, .int (iz ze), .long v, .int (iz zk), .ref ou])).length) Slot.unset).toArray = ls at hl ⊢
  have hl : lv_has ls 7 [(0, .ref h), (1, .int (iz ze)), (2, .long v), (4, .int (iz zk)), (5, .ref ou)] := hl
  refine lv_aload hx hb d_L_exponent_0 (lv_at hl 4 rfl) ?_
  refine rz_iconst hx hb d_L_exponent_2 ?_
  refine lv_aload_n hx hb d_L_exponent_3 rfl (lv_at hl 0 rfl) ?_
  refine lv_iload_n hx hb d_L_exponent_4 rfl (lv_at hl 1 rfl) ?_
  refine lv_lload_n hx hb d_L_exponent_5 rfl (lv_at hl 2 rfl) ?_
  refine lv_iload hx hb d_L_exponent_6 (lv_at hl 3 rfl) ?_
  refine rxT_calli (vx_runV (As := [.int (iz ze), .long v, .int (iz zk)]) (rest := [.int (iz 0), .ref ou]) ⟨hx, hb, hml, hown, hts⟩ (x_O_exponent_S l D hst sa cJ cO h fa ot ah te id rt bs od kn fo wh pt rs sq on tw cn Fo Y P r S a1 b1 fr er E F J ze v zk o hod ho3 haz) (cwV 3 hts (kb_gi (kb_c kw_461 (kb_c kw_462 (kb_c kw_463 (kb_c kw_1 (kb_c kw_464 kb_all)))))) rfl rfl rfl (by decide +kernel) ⟨(Nat.le_of_ble_eq_true rfl), (Nat.le_of_ble_eq_true rfl)⟩) ⟨rx_blind, va_recv hK hP (ci := 2) (q0 := 0) rfl rfl, fun U h8 h9 => ⟨(rs_pre (Y := []) (rs_nil (rs_a_2_0 hP)) (rs_nilD (rs_aD_2_0 hD)) hK hN [0, 1, 2, 3, 4, 5, 6, 7, 8, 9, 10, 11] rfl rfl [0, 1] rfl) U h8 h9, hE.go hS (rs_in (rs_nilD (rs_aD_2_0 hD)) (is := [0, 1, 2, 3, 4, 5, 6, 7, 8, 9, 10, 11]) rfl) h8 h9⟩⟩ rfl rfl hl.1 rfl (lv_room (Nat.le_of_ble_eq_true rfl)) d_L_exponent_8 ⟨(Nat.le_of_ble_eq_true rfl), (Nat.le_of_ble_eq_true rfl)⟩) (rs_nil (rs_a_2_0 hP)) (rs_nilD (rs_aD_2_0 hD)) hS [0, 1, 2, 3, 4, 5, 6, 7, 8, 9, 10, 11] rfl (fun _ => rfl) (fun _ => gs_adr2 (gs_adr _ _ _ _ _ _) (gs_adr _ _ _ _ _ _)) (fun ce q9 u1 H locs hw1 hP hD hS hce hcv hcl => ?_)
  have hP := rs_b_2_0 (rs_nilR hP)
  have hD := rs_bD_2_0 (rs_nilRD hD)
  have hP : va_P D vC (([(h, rO od fa ot ah te id rt bs kn), (fa, go cO 4 fr), (ot, go cO 4 er), (id, ka cJ 5 J), (rt, rR fo cn wh pt rs sq on tw), (fo, ka cJ 4 Fo), (wh, ka cJ 5 Y), (pt, ka cJ 5 P), (rs, ka cJ 5 r), (sq, ka cJ 8 S), (on, ka cJ 5 a1), (tw, ka cJ 5 b1), (ou, kl cJ 1 V)] ++ gs 4 er cJ 5 E) ++ gs 4 fr cJ 5 F) H := hP
  have hD : va_D A (([(h, rO od fa ot ah te id rt bs kn), (fa, go cO 4 fr), (ot, go cO 4 er), (id, ka cJ 5 J), (rt, rR fo cn wh pt rs sq on tw), (fo, ka cJ 4 Fo), (wh, ka cJ 5 Y), (pt, ka cJ 5 P), (rs, ka cJ 5 r), (sq, ka cJ 8 S), (on, ka cJ 5 a1), (tw, ka cJ 5 b1), (ou, kl cJ 1 V)] ++ gs 4 er cJ 5 E) ++ gs 4 fr cJ 5 F) := hD
  refine vx_catch (name := xS) hown [] ⟨0, 13, 16, 27⟩ [] htb (fun z hz => absurd hz List.not_mem_nil) rfl (by decide) (hts _ kw_316) (va_Nw.use rfl hE.1.2.1) hce hcv hcl ?_
  refine lv_astore (lv' := [(6, .ref q9), (0, .ref h), (1, .int (iz ze)), (2, .long v), (4, .int (iz zk)), (5, .ref ou)]) hx hb d_L_exponent_16 hl (by decide) rfl (fun ls hl => ?_)
  refine rz_iconst hx hb d_L_exponent_18 ?_
  exact W.iret hx hb hr (fun t ht hW => ⟨⟨_, (), rfl, rfl, rc_out ht hP⟩, hS.F ht⟩) hS.2.2 d_L_exponent_19
set_option maxHeartbeats 4000000 in
set_option maxRecDepth 100000 in
theorem h_L_exponent_t_S (l : Launch) (D : va_G) (hst : l.stackTraces = false) (sa : Nat → Nat) (cJ cO : ClassId) (h fa ot ah te id rt bs : Nat) (od kn : Int) (ou : Nat) (V : Nat → Int64) (fo wh pt rs sq on tw : Nat) (cn : Int) (Fo Y P r S a1 b1 : Nat → ro_K) (fr er : Nat → Nat) (E F : Nat → Nat → ro_K) (J : Nat → ro_K) (ze : Int) (v : Int64) (zk : Int) (o : Nat) (hod : od = (o : Int)) (ho3 : o ≤ 3) (haz : azB F (o + 1) = true) : Met l y_L_exponent ws_L_exponent ({ frames := 8, cells := 1, slots := 6, locals := 154 }) (rx_Px D vC [(cJ, .long), (cO, .array .long)] [.ref h, .int (iz ze), .long v, .int (iz zk), .ref ou] ([(h, rO od fa ot ah te id rt bs kn), (fa, go cO 4 fr), (ot, go cO 4 er), (id, ka cJ 5 J), (rt, rR fo cn wh pt rs sq on tw), (fo, ka cJ 4 Fo), (wh, ka cJ 5 Y), (pt, ka cJ 5 P), (rs, ka cJ 5 r), (sq, ka cJ 8 S), (on, ka cJ 5 a1), (tw, ka cJ 5 b1), (ou, kl cJ 1 V)] ++ (gs 4 er cJ 5 E ++ (gs 4 fr cJ 5 F))) sa) (va_Qi (fun (q : Int32) (_ : Unit) => q = iz 1) (fun _ t => va_P D vC ([(h, rO od fa ot ah te id rt bs kn), (fa, go cO 4 fr), (ot, go cO 4 er), (id, ka cJ 5 J), (rt, rR fo cn wh pt rs sq on tw), (fo, ka cJ 4 Fo), (wh, ka cJ 5 Y), (pt, ka cJ 5 P), (rs, ka cJ 5 r), (sq, ka cJ 8 S), (on, ka cJ 5 a1), (tw, ka cJ 5 b1), (ou, kl cJ 1 V)] ++ (gs 4 er cJ 5 E ++ (gs 4 fr cJ 5 F))) t.heap) (rc_A ([(h, rO od fa ot ah te id rt bs kn), (fa, go cO 4 fr), (ot, go cO 4 er), (id, ka cJ 5 J), (rt, rR fo cn wh pt rs sq on tw), (fo, ka cJ 4 Fo), (wh, ka cJ 5 Y), (pt, ka cJ 5 P), (rs, ka cJ 5 r), (sq, ka cJ 8 S), (on, ka cJ 5 a1), (tw, ka cJ 5 b1), (ou, kl cJ 1 V)] ++ (gs 4 er cJ 5 E ++ (gs 4 fr cJ 5 F))))) 1 6 (rc_A ([(h, rO od fa ot ah te id rt bs kn), (fa, go cO 4 fr), (ot, go cO 4 er), (id, ka cJ 5 J), (rt, rR fo cn wh pt rs sq on tw), (fo, ka cJ 4 Fo), (wh, ka cJ 5 Y), (pt, ka cJ 5 P), (rs, ka cJ 5 r), (sq, ka cJ 8 S), (on, ka cJ 5 a1), (tw, ka cJ 5 b1), (ou, kl cJ 1 V)] ++ (gs 4 er cJ 5 E ++ (gs 4 fr cJ 5 F)))) := h_L_exponent_t l D hst sa cJ cO h fa ot ah te id rt bs od kn ou V fo wh pt rs sq on tw cn Fo Y P r S a1 b1 fr er E F J ze v zk o hod ho3 haz

set_option maxHeartbeats 4000000 in
set_option maxRecDepth 100000 in
theorem m_O_answer_S (l : Launch) (D : va_G) (cI : ClassId) (cJ cO : ClassId) (h fa ot ah te id rt bs : Nat) (od kn : Int) (ro le me : Nat) (bn : Int) (fr mb ra : Nat → Nat) (F Bm M : Nat → Nat → ro_K) (Lx : Nat → Int) (zk zp : Int) (o : Nat) (hod : od = (o : Int)) (ho3 : o ≤ 3) (hkn : kn = 0 ∨ kn = 1) (k pw : Nat) (hzk : zk = (k : Int)) (hzp : zp = (pw : Int)) (hp : pw < 13) (hk0 : 0 ≤ zk) (hk1 : zk < (knD kn F o M Lx Bm bn).2.2.2) (hb13 : (knD kn F o M Lx Bm bn).2.2.2 ≤ 13) : Met l y_O_answer ws_O_answer ({ frames := 6, cells := 0, slots := 0, locals := 136 }) (rc_Pc D vC [(cJ, .long), (cO, .array .long), (cI, .int)] [.ref h, .int (iz zk), .int (iz zp)] ([(h, rO od fa ot ah te id rt bs kn), (fa, go cO 4 fr), (bs, rB ro le me bn), (ro, go cO 17 ra), (le, ki cI 13 Lx), (me, go cO 13 mb)] ++ (gs 4 fr cJ 5 F ++ (gs 13 mb cJ 13 Bm ++ (gs 17 ra cJ 13 M))))) (va_Qi (fun (q : Int32) (_ : Unit) => q = iz (((knD kn F o M Lx Bm bn).2.2.1 k pw).val : Int)) (fun _ t => va_P D vC ([(h, rO od fa ot ah te id rt bs 1), (fa, go cO 4 fr), (bs, rB ro le me (knD kn F o M Lx Bm bn).2.2.2), (ro, go cO 17 ra), (le, ki cI 13 (knD kn F o M Lx Bm bn).2.1), (me, go cO 13 mb)] ++ (gs 4 fr cJ 5 F ++ (gs 13 mb cJ 13 (knD kn F o M Lx Bm bn).2.2.1 ++ (gs 17 ra cJ 13 (knD kn F o M Lx Bm bn).1)))) t.heap) (rc_A ([(h, rO od fa ot ah te id rt bs kn), (fa, go cO 4 fr), (bs, rB ro le me bn), (ro, go cO 17 ra), (le, ki cI 13 Lx), (me, go cO 13 mb)] ++ (gs 4 fr cJ 5 F ++ (gs 13 mb cJ 13 Bm ++ (gs 17 ra cJ 13 M)))))) 0 0 (rc_A ([(h, rO od fa ot ah te id rt bs kn), (fa, go cO 4 fr), (bs, rB ro le me bn), (ro, go cO 17 ra), (le, ki cI 13 Lx), (me, go cO 13 mb)] ++ (gs 4 fr cJ 5 F ++ (gs 13 mb cJ 13 Bm ++ (gs 17 ra cJ 13 M))))) := m_O_answer l D cI cJ cO h fa ot ah te id rt bs od kn ro le me bn fr mb ra F Bm M Lx zk zp o hod ho3 hkn k pw hzk hzp hp hk0 hk1 hb13
def ws_L_answer : List Cond := .codeWith y_L_answer c_L_answer 5 (some .int) [((0 : Nat), (10 : Nat), (13 : Nat), (13 : Nat))] :: kb
set_option maxHeartbeats 4000000 in
set_option maxRecDepth 100000 in
theorem h_L_answer (l : Launch) (D : va_G) (cI : ClassId) (cJ cO : ClassId) (h fa ot ah te id rt bs : Nat) (od kn : Int) (ou : Nat) (V : Nat → Int64) (ro le me : Nat) (bn : Int) (fr mb ra : Nat → Nat) (F Bm M : Nat → Nat → ro_K) (Lx : Nat → Int) (zk zp : Int) (o : Nat) (hod : od = (o : Int)) (ho3 : o ≤ 3) (hkn : kn = 0 ∨ kn = 1) (k pw : Nat) (hzk : zk = (k : Int)) (hzp : zp = (pw : Int)) (hp : pw < 13) (hk0 : 0 ≤ zk) (hk1 : zk < (knD kn F o M Lx Bm bn).2.2.2) (hb13 : (knD kn F o M Lx Bm bn).2.2.2 ≤ 13) : Met l y_L_answer ws_L_answer ({ frames := 7, cells := 0, slots := 0, locals := 158 }) (rc_Pc D vC [(cJ, .long), (cO, .array .long), (cI, .int)] [.ref h, .int (iz zk), .int (iz zp), .ref ou] ((([(h, rO od fa ot ah te id rt bs kn), (fa, go cO 4 fr), (bs, rB ro le me bn), (ro, go cO 17 ra), (le, ki cI 13 Lx), (me, go cO 13 mb), (ou, kl cJ 1 V)] ++ gs 4 fr cJ 5 F) ++ gs 13 mb cJ 13 Bm) ++ gs 17 ra cJ 13 M)) (va_Qi (fun (q : Int32) (_ : Unit) => q = iz 0) (fun _ t => va_P D vC ((([(h, rO od fa ot ah te id rt bs 1), (fa, go cO 4 fr), (bs, rB ro le me (knD kn F o M Lx Bm bn).2.2.2), (ro, go cO 17 ra), (le, ki cI 13 (knD kn F o M Lx Bm bn).2.1), (me, go cO 13 mb), (ou, kl cJ 1 (vp_updL V 0 ((iz (((knD kn F o M Lx Bm bn).2.2.1 k pw).val : Int)).toInt64)))] ++ gs 4 fr cJ 5 F) ++ gs 13 mb cJ 13 (knD kn F o M Lx Bm bn).2.2.1) ++ gs 17 ra cJ 13 (knD kn F o M Lx Bm bn).1) t.heap) (rc_A ((([(h, rO od fa ot ah te id rt bs kn), (fa, go cO 4 fr), (bs, rB ro le me bn), (ro, go cO 17 ra), (le, ki cI 13 Lx), (me, go cO 13 mb), (ou, kl cJ 1 V)] ++ gs 4 fr cJ 5 F) ++ gs 13 mb cJ 13 Bm) ++ gs 17 ra cJ 13 M))) 0 0 (rc_A ((([(h, rO od fa ot ah te id rt bs kn), (fa, go cO 4 fr), (bs, rB ro le me bn), (ro, go cO 17 ra), (le, ki cI 13 Lx), (me, go cO 13 mb), (ou, kl cJ 1 V)] ++ gs 4 fr cJ 5 F) ++ gs 13 mb cJ 13 Bm) ++ gs 17 ra cJ 13 M)) := by
  refine rh_ofW (cc := c_L_answer) (maxL := 5) (ret := (some .int)) (hh := [((0 : Nat), (10 : Nat), (13 : Nat), (13 : Nat))]) (by decide) rfl ?_
  intro p e s m args below meth c s₁ B hml hv
  obtain ⟨rfl, hP, hK, hD0, hN⟩ := hv
  have hx := B.exec
  have hb := B.bytes
  have hr := B.returns
  have hts0 := atoms_spec (ws := ws_L_answer) B.pre
  have htb := vx_table (x := y_L_answer) B (hts0 _ List.mem_cons_self)
  have hts : ∀ w ∈ kb, w.before _ s = true := fun w h => hts0 w (List.mem_cons_of_mem _ h)
  have hown : s.vm.findClass R_L = some m.cls := findClass_of_methodNamed B.named
  have hlocks := B.notSynchronized
  have hD := rc_self hD0
  generalize hAe : rc_A ((([(h, rO od fa ot ah te id rt bs kn), (fa, go cO 4 fr), (bs, rB ro le me bn), (ro, go cO 17 ra), (le, ki cI 13 Lx), (me, go cO 13 mb), (ou, kl cJ 1 V)] ++ gs 4 fr cJ 5 F) ++ gs 13 mb cJ 13 Bm) ++ gs 17 ra cJ 13 M) = A at hD ⊢
  have hS : va_S A s.heap s.heap [] := va_S.rf
  have hl := lv_entry ([.ref h, .int (iz zk), .int (iz zp), .ref ou]) (n := 5) (Nat.le_of_ble_eq_true rfl)
  rw [lg_entry_eq]
  generalize (lg_sl ([.ref h, .int (iz zk), .int (iz zp), .ref ou]) ++ List.replicate (5 - (lg_sl ([.ref h, .int (iz zk), .int (iz zp), .ref ou])).length) Slot.unset).toArray = ls at hl ⊢
  have hl : lv_has ls 5 [(0, .ref h), (1, .int (iz zk)), (2, .int (iz zp)), (3, .ref ou)] := hl
  refine lv_aload_n hx hb d_L_answer_0 rfl (lv_at hl 3 rfl) ?_
  refine rz_iconst hx hb d_L_answer_1 ?_
  refine lv_aload_n hx hb d_L_answer_2 rfl (lv_at hl 0 rfl) ?_
  refine lv_iload_n hx hb d_L_answer_3 rfl (lv_at hl 1 rfl) ?_
  refine lv_iload_n hx hb d_L_answer_4 rfl (lv_at hl 2 rfl) ?_
  refine rs_calli (va_runV (As := [.int (iz zk), .int (iz zp)]) (rest := [.int (iz 0), .ref ou]) ⟨hx, hb, hml, hown, hts⟩ (m_O_answer_S l D cI cJ cO h fa ot ah te id rt bs od kn ro le me bn fr mb ra F Bm M Lx zk zp o hod ho3 hkn k pw hzk hzp hp hk0 hk1 hb13) (cwV 2 hts (kb_gi (kb_c kw_474 (kb_c kw_475 (kb_c kw_476 (kb_c kw_1 (kb_c kw_477 kb_all)))))) rfl rfl rfl (by decide +kernel) ⟨Nat.le_of_ble_eq_true rfl, Nat.le_of_ble_eq_true rfl⟩) ⟨rc_blind, va_recv hK hP (ci := 2) (q0 := 0) rfl rfl, rs_pre (Y := []) (rs_nil (rs_a_3_0 hP)) (rs_nilD (rs_aD_3_0 hD)) hK hN [0, 1, 2, 3, 4, 5] rfl rfl [0, 1, 2] rfl⟩ rfl rfl hl.1 rfl (lv_room (Nat.le_of_ble_eq_true rfl)) d_L_answer_5 ⟨Nat.zero_le _, Nat.zero_le _⟩) (rs_a_3_0 hP) (rs_aD_3_0 hD) hS [0, 1, 2, 3, 4, 5] rfl (fun _ => rfl) (fun _ => gs_adr2 (gs_adr _ _ _ _ _ _) (gs_adr2 (gs_adr _ _ _ _ _ _) (gs_adr _ _ _ _ _ _))) (fun r1 u2 H locs hw2 hP hD hS => ?_)
  have hP := rs_b_3_0 hP
  have hD := rs_bD_3_0 hD
  subst hw2
  have hP : va_P D vC ((([(h, rO od fa ot ah te id rt bs 1), (fa, go cO 4 fr), (bs, rB ro le me (knD kn F o M Lx Bm bn).2.2.2), (ro, go cO 17 ra), (le, ki cI 13 (knD kn F o M Lx Bm bn).2.1), (me, go cO 13 mb), (ou, kl cJ 1 V)] ++ gs 4 fr cJ 5 F) ++ gs 13 mb cJ 13 (knD kn F o M Lx Bm bn).2.2.1) ++ gs 17 ra cJ 13 (knD kn F o M Lx Bm bn).1) H := hP
  have hD : va_D A ((([(h, rO od fa ot ah te id rt bs 1), (fa, go cO 4 fr), (bs, rB ro le me (knD kn F o M Lx Bm bn).2.2.2), (ro, go cO 17 ra), (le, ki cI 13 (knD kn F o M Lx Bm bn).2.1), (me, go cO 13 mb), (ou, kl cJ 1 V)] ++ gs 4 fr cJ 5 F) ++ gs 13 mb cJ 13 (knD kn F o M Lx Bm bn).2.2.1) ++ gs 17 ra cJ 13 (knD kn F o M Lx Bm bn).1) := hD
  refine lv_i2l hx hb d_L_answer_8 rfl ?_
  refine rl_st hx hb hK hP hD hS 6 0 rfl rfl 0 d_L_answer_9 (fun H locs hP hD hS => ?_)
  have hP : va_P D vC ((([(h, rO od fa ot ah te id rt bs 1), (fa, go cO 4 fr), (bs, rB ro le me (knD kn F o M Lx Bm bn).2.2.2), (ro, go cO 17 ra), (le, ki cI 13 (knD kn F o M Lx Bm bn).2.1), (me, go cO 13 mb), (ou, kl cJ 1 (vp_updL V 0 ((iz (((knD kn F o M Lx Bm bn).2.2.1 k pw).val : Int))).toInt64))] ++ gs 4 fr cJ 5 F) ++ gs 13 mb cJ 13 (knD kn F o M Lx Bm bn).2.2.1) ++ gs 17 ra cJ 13 (knD kn F o M Lx Bm bn).1) H := hP
  have hD : va_D A ((([(h, rO od fa ot ah te id rt bs 1), (fa, go cO 4 fr), (bs, rB ro le me (knD kn F o M Lx Bm bn).2.2.2), (ro, go cO 17 ra), (le, ki cI 13 (knD kn F o M Lx Bm bn).2.1), (me, go cO 13 mb), (ou, kl cJ 1 (vp_updL V 0 ((iz (((knD kn F o M Lx Bm bn).2.2.1 k pw).val : Int))).toInt64))] ++ gs 4 fr cJ 5 F) ++ gs 13 mb cJ 13 (knD kn F o M Lx Bm bn).2.2.1) ++ gs 17 ra cJ 13 (knD kn F o M Lx Bm bn).1) := hD
  refine lv_goto (tgt := 17) hx hb d_L_answer_10 (by decide) ?_
  refine rz_iconst hx hb d_L_answer_17 ?_
  exact W.iret hx hb hr (fun t ht hW => ⟨⟨_, (), rfl, rfl, rc_out ht hP⟩, hS.F ht⟩) hS.2.2 d_L_answer_18
set_option maxHeartbeats 4000000 in
set_option maxRecDepth 100000 in
theorem h_L_answer_S (l : Launch) (D : va_G) (cI : ClassId) (cJ cO : ClassId) (h fa ot ah te id rt bs : Nat) (od kn : Int) (ou : Nat) (V : Nat → Int64) (ro le me : Nat) (bn : Int) (fr mb ra : Nat → Nat) (F Bm M : Nat → Nat → ro_K) (Lx : Nat → Int) (zk zp : Int) (o : Nat) (hod : od = (o : Int)) (ho3 : o ≤ 3) (hkn : kn = 0 ∨ kn = 1) (k pw : Nat) (hzk : zk = (k : Int)) (hzp : zp = (pw : Int)) (hp : pw < 13) (hk0 : 0 ≤ zk) (hk1 : zk < (knD kn F o M Lx Bm bn).2.2.2) (hb13 : (knD kn F o M Lx Bm bn).2.2.2 ≤ 13) : Met l y_L_answer ws_L_answer ({ frames := 7, cells := 0, slots := 0, locals := 158 }) (rc_Pc D vC [(cJ, .long), (cO, .array .long), (cI, .int)] [.ref h, .int (iz zk), .int (iz zp), .ref ou] ([(h, rO od fa ot ah te id rt bs kn), (fa, go cO 4 fr), (bs, rB ro le me bn), (ro, go cO 17 ra), (le, ki cI 13 Lx), (me, go cO 13 mb), (ou, kl cJ 1 V)] ++ (gs 4 fr cJ 5 F ++ (gs 13 mb cJ 13 Bm ++ (gs 17 ra cJ 13 M))))) (va_Qi (fun (q : Int32) (_ : Unit) => q = iz 0) (fun _ t => va_P D vC ([(h, rO od fa ot ah te id rt bs 1), (fa, go cO 4 fr), (bs, rB ro le me (knD kn F o M Lx Bm bn).2.2.2), (ro, go cO 17 ra), (le, ki cI 13 (knD kn F o M Lx Bm bn).2.1), (me, go cO 13 mb), (ou, kl cJ 1 (vp_updL V 0 ((iz (((knD kn F o M Lx Bm bn).2.2.1 k pw).val : Int)).toInt64)))] ++ (gs 4 fr cJ 5 F ++ (gs 13 mb cJ 13 (knD kn F o M Lx Bm bn).2.2.1 ++ (gs 17 ra cJ 13 (knD kn F o M Lx Bm bn).1)))) t.heap) (rc_A ([(h, rO od fa ot ah te id rt bs kn), (fa, go cO 4 fr), (bs, rB ro le me bn), (ro, go cO 17 ra), (le, ki cI 13 Lx), (me, go cO 13 mb), (ou, kl cJ 1 V)] ++ (gs 4 fr cJ 5 F ++ (gs 13 mb cJ 13 Bm ++ (gs 17 ra cJ 13 M)))))) 0 0 (rc_A ([(h, rO od fa ot ah te id rt bs kn), (fa, go cO 4 fr), (bs, rB ro le me bn), (ro, go cO 17 ra), (le, ki cI 13 Lx), (me, go cO 13 mb), (ou, kl cJ 1 V)] ++ (gs 4 fr cJ 5 F ++ (gs 13 mb cJ 13 Bm ++ (gs 17 ra cJ 13 M))))) := h_L_answer l D cI cJ cO h fa ot ah te id rt bs od kn ou V ro le me bn fr mb ra F Bm M Lx zk zp o hod ho3 hkn k pw hzk hzp hp hk0 hk1 hb13

set_option maxHeartbeats 4000000 in
set_option maxRecDepth 100000 in
theorem x_O_answer_S (l : Launch) (D : va_G) (hst : l.stackTraces = false) (sa : Nat → Nat) (cI : ClassId) (cJ cO : ClassId) (h fa ot ah te id rt bs : Nat) (od kn : Int) (ro le me : Nat) (bn : Int) (fr mb ra : Nat → Nat) (F Bm M : Nat → Nat → ro_K) (Lx : Nat → Int) (zk zp : Int) (o : Nat) (hod : od = (o : Int)) (ho3 : o ≤ 3) (hkn : kn = 0 ∨ kn = 1) (hzpl : -2147483648 ≤ zp) (hzph : zp < 2147483648) (hbad : ¬ (0 ≤ zp ∧ zp < 13)) : vx_Met l y_O_answer ws_O_answer ({ frames := 7, cells := 1, slots := 6, locals := 130 }) (rx_Px D vC [(cJ, .long), (cO, .array .long), (cI, .int)] [.ref h, .int (iz zk), .int (iz zp)] ([(h, rO od fa ot ah te id rt bs kn), (fa, go cO 4 fr), (bs, rB ro le me bn), (ro, go cO 17 ra), (le, ki cI 13 Lx), (me, go cO 13 mb)] ++ (gs 4 fr cJ 5 F ++ (gs 13 mb cJ 13 Bm ++ (gs 17 ra cJ 13 M)))) sa) (va_Qi (fun (_ : Int32) (_ : Unit) => False) (fun _ _ => True) (rc_A ([(h, rO od fa ot ah te id rt bs kn), (fa, go cO 4 fr), (bs, rB ro le me bn), (ro, go cO 17 ra), (le, ki cI 13 Lx), (me, go cO 13 mb)] ++ (gs 4 fr cJ 5 F ++ (gs 13 mb cJ 13 Bm ++ (gs 17 ra cJ 13 M)))))) (vx_X (fun (_ : Unit) => True) (fun E9 _ t => E9 = xI ∧ va_P D vC ([(h, rO od fa ot ah te id rt bs kn), (fa, go cO 4 fr), (bs, rB ro le me bn), (ro, go cO 17 ra), (le, ki cI 13 Lx), (me, go cO 13 mb)] ++ (gs 4 fr cJ 5 F ++ (gs 13 mb cJ 13 Bm ++ (gs 17 ra cJ 13 M)))) t.heap) (rc_A ([(h, rO od fa ot ah te id rt bs kn), (fa, go cO 4 fr), (bs, rB ro le me bn), (ro, go cO 17 ra), (le, ki cI 13 Lx), (me, go cO 13 mb)] ++ (gs 4 fr cJ 5 F ++ (gs 13 mb cJ 13 Bm ++ (gs 17 ra cJ 13 M)))))) 1 6 (rc_A ([(h, rO od fa ot ah te id rt bs kn), (fa, go cO 4 fr), (bs, rB ro le me bn), (ro, go cO 17 ra), (le, ki cI 13 Lx), (me, go cO 13 mb)] ++ (gs 4 fr cJ 5 F ++ (gs 13 mb cJ 13 Bm ++ (gs 17 ra cJ 13 M))))) := x_O_answer l D hst sa cI cJ cO h fa ot ah te id rt bs od kn ro le me bn fr mb ra F Bm M Lx zk zp o hod ho3 hkn hzpl hzph hbad
set_option maxHeartbeats 4000000 in
set_option maxRecDepth 100000 in
theorem h_L_answer_t (l : Launch) (D : va_G) (hst : l.stackTraces = false) (sa : Nat → Nat) (cI : ClassId) (cJ cO : ClassId) (h fa ot ah te id rt bs : Nat) (od kn : Int) (ou : Nat) (V : Nat → Int64) (ro le me : Nat) (bn : Int) (fr mb ra : Nat → Nat) (F Bm M : Nat → Nat → ro_K) (Lx : Nat → Int) (zk zp : Int) (o : Nat) (hod : od = (o : Int)) (ho3 : o ≤ 3) (hkn : kn = 0 ∨ kn = 1) (hzpl : -2147483648 ≤ zp) (hzph : zp < 2147483648) (hbad : ¬ (0 ≤ zp ∧ zp < 13)) : Met l y_L_answer ws_L_answer ({ frames := 8, cells := 1, slots := 6, locals := 152 }) (rx_Px D vC [(cJ, .long), (cO, .array .long), (cI, .int)] [.ref h, .int (iz zk), .int (iz zp), .ref ou] ((([(h, rO od fa ot ah te id rt bs kn), (fa, go cO 4 fr), (bs, rB ro le me bn), (ro, go cO 17 ra), (le, ki cI 13 Lx), (me, go cO 13 mb), (ou, kl cJ 1 V)] ++ gs 4 fr cJ 5 F) ++ gs 13 mb cJ 13 Bm) ++ gs 17 ra cJ 13 M) sa) (va_Qi (fun (q : Int32) (_ : Unit) => q = iz 1) (fun _ t => va_P D vC ((([(h, rO od fa ot ah te id rt bs kn), (fa, go cO 4 fr), (bs, rB ro le me bn), (ro, go cO 17 ra), (le, ki cI 13 Lx), (me, go cO 13 mb), (ou, kl cJ 1 V)] ++ gs 4 fr cJ 5 F) ++ gs 13 mb cJ 13 Bm) ++ gs 17 ra cJ 13 M) t.heap) (rc_A ((([(h, rO od fa ot ah te id rt bs kn), (fa, go cO 4 fr), (bs, rB ro le me bn), (ro, go cO 17 ra), (le, ki cI 13 Lx), (me, go cO 13 mb), (ou, kl cJ 1 V)] ++ gs 4 fr cJ 5 F) ++ gs 13 mb cJ 13 Bm) ++ gs 17 ra cJ 13 M))) 1 6 (rc_A ((([(h, rO od fa ot ah te id rt bs kn), (fa, go cO 4 fr), (bs, rB ro le me bn), (ro, go cO 17 ra), (le, ki cI 13 Lx), (me, go cO 13 mb), (ou, kl cJ 1 V)] ++ gs 4 fr cJ 5 F) ++ gs 13 mb cJ 13 Bm) ++ gs 17 ra cJ 13 M)) := by
  refine rh_ofW (cc := c_L_answer) (maxL := 5) (ret := (some .int)) (hh := [((0 : Nat), (10 : Nat), (13 : Nat), (13 : Nat))]) (by decide) rfl ?_
  intro p e s m args below meth c s₁ B hml hv
  obtain ⟨⟨rfl, hP, hK, hD0, hN⟩, hE⟩ := hv
  have hx := B.exec
  have hb := B.bytes
  have hr := B.returns
  have hts0 := atoms_spec (ws := ws_L_answer) B.pre
  have htb := vx_table (x := y_L_answer) B (hts0 _ List.mem_cons_self)
  have hts : ∀ w ∈ kb, w.before _ s = true := fun w h => hts0 w (List.mem_cons_of_mem _ h)
  have hown : s.vm.findClass R_L = some m.cls := findClass_of_methodNamed B.named
  have hlocks := B.notSynchronized
  have hD := rc_self hD0
  generalize hAe : rc_A ((([(h, rO od fa ot ah te id rt bs kn), (fa, go cO 4 fr), (bs, rB ro le me bn), (ro, go cO 17 ra), (le, ki cI 13 Lx), (me, go cO 13 mb), (ou, kl cJ 1 V)] ++ gs 4 fr cJ 5 F) ++ gs 13 mb cJ 13 Bm) ++ gs 17 ra cJ 13 M) = A at hD hE ⊢
  have hS : va_S A s.heap s.heap [] := va_S.rf
  have hl := lv_entry ([.ref h, .int (iz zk), .int (iz zp), .ref ou]) (n := 5) (Nat.le_of_ble_eq_true rfl)
  rw [lg_entry_eq]
  generalize (lg_sl ([.ref h, .int (iz zk), .int (iz zp), .ref ou]) ++ List.replicate (5 - (lg_sl ([.ref h, .int (iz zk), .int (iz zp), .ref ou])).length) Slot.unset).toArray = ls at hl ⊢
  have hl : lv_has ls 5 [(0, .ref h), (1, .int (iz zk)), (2, .int (iz zp)), (3, .ref ou)] := hl
  refine lv_aload_n hx hb d_L_answer_0 rfl (lv_at hl 3 rfl) ?_
  refine rz_iconst hx hb d_L_answer_1 ?_
  refine lv_aload_n hx hb d_L_answer_2 rfl (lv_at hl 0 rfl) ?_
  refine lv_iload_n hx hb d_L_answer_3 rfl (lv_at hl 1 rfl) ?_
  refine lv_iload_n hx hb d_L_answer_4 rfl (lv_at hl 2 rfl) ?_
  refine rxT_calli (vx_runV (As := [.int (iz zk), .int (iz zp)]) (rest := [.int (iz 0), .ref ou]) ⟨hx, hb, hml, hown, hts⟩ (x_O_answer_S l D hst sa cI cJ cO h fa ot ah te id rt bs od kn ro le me bn fr mb ra F Bm M Lx zk zp o hod ho3 hkn hzpl hzph hbad) (cwV 2 hts (kb_gi (kb_c kw_474 (kb_c kw_475 (kb_c kw_476 (kb_c kw_1 (kb_c kw_477 kb_all)))))) rfl rfl rfl (by decide +kernel) ⟨(Nat.le_of_ble_eq_true rfl), (Nat.le_of_ble_eq_true rfl)⟩) ⟨rx_blind, va_recv hK hP (ci := 2) (q0 := 0) rfl rfl, fun U h8 h9 => ⟨(rs_pre (Y := []) (rs_nil (rs_a_3_0 hP)) (rs_nilD (rs_aD_3_0 hD)) hK hN [0, 1, 2, 3, 4, 5] rfl rfl [0, 1, 2] rfl) U h8 h9, hE.go hS (rs_in (rs_nilD (rs_aD_3_0 hD)) (is := [0, 1, 2, 3, 4, 5]) rfl) h8 h9⟩⟩ rfl rfl hl.1 rfl (lv_room (Nat.le_of_ble_eq_true rfl)) d_L_answer_5 ⟨(Nat.le_of_ble_eq_true rfl), (Nat.le_of_ble_eq_true rfl)⟩) (rs_nil (rs_a_3_0 hP)) (rs_nilD (rs_aD_3_0 hD)) hS [0, 1, 2, 3, 4, 5] rfl (fun _ => rfl) (fun _ => gs_adr2 (gs_adr _ _ _ _ _ _) (gs_adr2 (gs_adr _ _ _ _ _ _) (gs_adr _ _ _ _ _ _))) (fun ce q9 u1 H locs hw1 hP hD hS hce hcv hcl => ?_)
  have hP := rs_b_3_0 (rs_nilR hP)
  have hD := rs_bD_3_0 (rs_nilRD hD)
  have hP : va_P D vC ((([(h, rO od fa ot ah te id rt bs kn), (fa, go cO 4 fr), (bs, rB ro le me bn), (ro, go cO 17 ra), (le, ki cI 13 Lx), (me, go cO 13 mb), (ou, kl cJ 1 V)] ++ gs 4 fr cJ 5 F) ++ gs 13 mb cJ 13 Bm) ++ gs 17 ra cJ 13 M) H := hP
  have hD : va_D A ((([(h, rO od fa ot ah te id rt bs kn), (fa, go cO 4 fr), (bs, rB ro le me bn), (ro, go cO 17 ra), (le, ki cI 13 Lx), (me, go cO 13 mb), (ou, kl cJ 1 V)] ++ gs 4 fr cJ 5 F) ++ gs 13 mb cJ 13 Bm) ++ gs 17 ra cJ 13 M) := hD
  refine vx_catch (name := xI) hown [] ⟨0, 10, 13, 13⟩ [] htb (fun z hz => absurd hz List.not_mem_nil) rfl (by decide) (hts _ kw_217) (va_Nw.use rfl hE.1.1) hce hcv hcl ?_
  refine lv_astore (lv' := [(4, .ref q9), (0, .ref h), (1, .int (iz zk)), (2, .int (iz zp)), (3, .ref ou)]) hx hb d_L_answer_13 hl (by decide) rfl (fun ls hl => ?_)
  refine rz_iconst hx hb d_L_answer_15 ?_
  exact W.iret hx hb hr (fun t ht hW => ⟨⟨_, (), rfl, rfl, rc_out ht hP⟩, hS.F ht⟩) hS.2.2 d_L_answer_16
set_option maxHeartbeats 4000000 in
set_option maxRecDepth 100000 in
theorem h_L_answer_t_S (l : Launch) (D : va_G) (hst : l.stackTraces = false) (sa : Nat → Nat) (cI : ClassId) (cJ cO : ClassId) (h fa ot ah te id rt bs : Nat) (od kn : Int) (ou : Nat) (V : Nat → Int64) (ro le me : Nat) (bn : Int) (fr mb ra : Nat → Nat) (F Bm M : Nat → Nat → ro_K) (Lx : Nat → Int) (zk zp : Int) (o : Nat) (hod : od = (o : Int)) (ho3 : o ≤ 3) (hkn : kn = 0 ∨ kn = 1) (hzpl : -2147483648 ≤ zp) (hzph : zp < 2147483648) (hbad : ¬ (0 ≤ zp ∧ zp < 13)) : Met l y_L_answer ws_L_answer ({ frames := 8, cells := 1, slots := 6, locals := 152 }) (rx_Px D vC [(cJ, .long), (cO, .array .long), (cI, .int)] [.ref h, .int (iz zk), .int (iz zp), .ref ou] ([(h, rO od fa ot ah te id rt bs kn), (fa, go cO 4 fr), (bs, rB ro le me bn), (ro, go cO 17 ra), (le, ki cI 13 Lx), (me, go cO 13 mb), (ou, kl cJ 1 V)] ++ (gs 4 fr cJ 5 F ++ (gs 13 mb cJ 13 Bm ++ (gs 17 ra cJ 13 M)))) sa) (va_Qi (fun (q : Int32) (_ : Unit) => q = iz 1) (fun _ t => va_P D vC ([(h, rO od fa ot ah te id rt bs kn), (fa, go cO 4 fr), (bs, rB ro le me bn), (ro, go cO 17 ra), (le, ki cI 13 Lx), (me, go cO 13 mb), (ou, kl cJ 1 V)] ++ (gs 4 fr cJ 5 F ++ (gs 13 mb cJ 13 Bm ++ (gs 17 ra cJ 13 M)))) t.heap) (rc_A ([(h, rO od fa ot ah te id rt bs kn), (fa, go cO 4 fr), (bs, rB ro le me bn), (ro, go cO 17 ra), (le, ki cI 13 Lx), (me, go cO 13 mb), (ou, kl cJ 1 V)] ++ (gs 4 fr cJ 5 F ++ (gs 13 mb cJ 13 Bm ++ (gs 17 ra cJ 13 M)))))) 1 6 (rc_A ([(h, rO od fa ot ah te id rt bs kn), (fa, go cO 4 fr), (bs, rB ro le me bn), (ro, go cO 17 ra), (le, ki cI 13 Lx), (me, go cO 13 mb), (ou, kl cJ 1 V)] ++ (gs 4 fr cJ 5 F ++ (gs 13 mb cJ 13 Bm ++ (gs 17 ra cJ 13 M))))) := h_L_answer_t l D hst sa cI cJ cO h fa ot ah te id rt bs od kn ou V ro le me bn fr mb ra F Bm M Lx zk zp o hod ho3 hkn hzpl hzph hbad

set_option maxHeartbeats 4000000 in
set_option maxRecDepth 100000 in
theorem x_O_answer_k_S (l : Launch) (D : va_G) (hst : l.stackTraces = false) (sa : Nat → Nat) (cI : ClassId) (cJ cO : ClassId) (h fa ot ah te id rt bs : Nat) (od kn : Int) (ro le me : Nat) (bn : Int) (fr mb ra : Nat → Nat) (F Bm M : Nat → Nat → ro_K) (Lx : Nat → Int) (zk zp : Int) (o : Nat) (hod : od = (o : Int)) (ho3 : o ≤ 3) (hkn : kn = 0 ∨ kn = 1) (hzkl : -2147483648 ≤ zk) (hzkh : zk < 2147483648) (hp0 : 0 ≤ zp) (hp1 : zp < 13) (hbad : ¬ (0 ≤ zk ∧ zk < (knD kn F o M Lx Bm bn).2.2.2)) (hb0 : 0 ≤ (knD kn F o M Lx Bm bn).2.2.2) (hb13 : (knD kn F o M Lx Bm bn).2.2.2 ≤ 13) : vx_Met l y_O_answer ws_O_answer ({ frames := 8, cells := 1, slots := 6, locals := 160 }) (rx_Px D vC [(cJ, .long), (cO, .array .long), (cI, .int)] [.ref h, .int (iz zk), .int (iz zp)] ([(h, rO od fa ot ah te id rt bs kn), (fa, go cO 4 fr), (bs, rB ro le me bn), (ro, go cO 17 ra), (le, ki cI 13 Lx), (me, go cO 13 mb)] ++ (gs 4 fr cJ 5 F ++ (gs 13 mb cJ 13 Bm ++ (gs 17 ra cJ 13 M)))) sa) (va_Qi (fun (_ : Int32) (_ : Unit) => False) (fun _ _ => True) (rc_A ([(h, rO od fa ot ah te id rt bs kn), (fa, go cO 4 fr), (bs, rB ro le me bn), (ro, go cO 17 ra), (le, ki cI 13 Lx), (me, go cO 13 mb)] ++ (gs 4 fr cJ 5 F ++ (gs 13 mb cJ 13 Bm ++ (gs 17 ra cJ 13 M)))))) (vx_X (fun (_ : Unit) => True) (fun E9 _ t => E9 = xI ∧ va_P D vC ([(h, rO od fa ot ah te id rt bs 1), (fa, go cO 4 fr), (bs, rB ro le me (knD kn F o M Lx Bm bn).2.2.2), (ro, go cO 17 ra), (le, ki cI 13 (knD kn F o M Lx Bm bn).2.1), (me, go cO 13 mb)] ++ (gs 4 fr cJ 5 F ++ (gs 13 mb cJ 13 (knD kn F o M Lx Bm bn).2.2.1 ++ (gs 17 ra cJ 13 (knD kn F o M Lx Bm bn).1)))) t.heap) (rc_A ([(h, rO od fa ot ah te id rt bs kn), (fa, go cO 4 fr), (bs, rB ro le me bn), (ro, go cO 17 ra), (le, ki cI 13 Lx), (me, go cO 13 mb)] ++ (gs 4 fr cJ 5 F ++ (gs 13 mb cJ 13 Bm ++ (gs 17 ra cJ 13 M)))))) 1 6 (rc_A ([(h, rO od fa ot ah te id rt bs kn), (fa, go cO 4 fr), (bs, rB ro le me bn), (ro, go cO 17 ra), (le, ki cI 13 Lx), (me, go cO 13 mb)] ++ (gs 4 fr cJ 5 F ++ (gs 13 mb cJ 13 Bm ++ (gs 17 ra cJ 13 M))))) := x_O_answer_k l D hst sa cI cJ cO h fa ot ah te id rt bs od kn ro le me bn fr mb ra F Bm M Lx zk zp o hod ho3 hkn hzkl hzkh hp0 hp1 hbad hb0 hb13
set_option maxHeartbeats 4000000 in
set_option maxRecDepth 100000 in
theorem h_L_answer_k_t (l : Launch) (D : va_G) (hst : l.stackTraces = false) (sa : Nat → Nat) (cI : ClassId) (cJ cO : ClassId) (h fa ot ah te id rt bs : Nat) (od kn : Int) (ou : Nat) (V : Nat → Int64) (ro le me : Nat) (bn : Int) (fr mb ra : Nat → Nat) (F Bm M : Nat → Nat → ro_K) (Lx : Nat → Int) (zk zp : Int) (o : Nat) (hod : od = (o : Int)) (ho3 : o ≤ 3) (hkn : kn = 0 ∨ kn = 1) (hzkl : -2147483648 ≤ zk) (hzkh : zk < 2147483648) (hp0 : 0 ≤ zp) (hp1 : zp < 13) (hbad : ¬ (0 ≤ zk ∧ zk < (knD kn F o M Lx Bm bn).2.2.2)) (hb0 : 0 ≤ (knD kn F o M Lx Bm bn).2.2.2) (hb13 : (knD kn F o M Lx Bm bn).2.2.2 ≤ 13) : Met l y_L_answer ws_L_answer ({ frames := 9, cells := 1, slots := 6, locals := 182 }) (rx_Px D vC [(cJ, .long), (cO, .array .long), (cI, .int)] [.ref h, .int (iz zk), .int (iz zp), .ref ou] ((([(h, rO od fa ot ah te id rt bs kn), (fa, go cO 4 fr), (bs, rB ro le me bn), (ro, go cO 17 ra), (le, ki cI 13 Lx), (me, go cO 13 mb), (ou, kl cJ 1 V)] ++ gs 4 fr cJ 5 F) ++ gs 13 mb cJ 13 Bm) ++ gs 17 ra cJ 13 M) sa) (va_Qi (fun (q : Int32) (_ : Unit) => q = iz 1) (fun _ t => va_P D vC ((([(h, rO od fa ot ah te id rt bs 1), (fa, go cO 4 fr), (bs, rB ro le me (knD kn F o M Lx Bm bn).2.2.2), (ro, go cO 17 ra), (le, ki cI 13 (knD kn F o M Lx Bm bn).2.1), (me, go cO 13 mb), (ou, kl cJ 1 V)] ++ gs 4 fr cJ 5 F) ++ gs 13 mb cJ 13 (knD kn F o M Lx Bm bn).2.2.1) ++ gs 17 ra cJ 13 (knD kn F o M Lx Bm bn).1) t.heap) (rc_A ((([(h, rO od fa ot ah te id rt bs kn), (fa, go cO 4 fr), (bs, rB ro le me bn), (ro, go cO 17 ra), (le, ki cI 13 Lx), (me, go cO 13 mb), (ou, kl cJ 1 V)] ++ gs 4 fr cJ 5 F) ++ gs 13 mb cJ 13 Bm) ++ gs 17 ra cJ 13 M))) 1 6 (rc_A ((([(h, rO od fa ot ah te id rt bs kn), (fa, go cO 4 fr), (bs, rB ro le me bn), (ro, go cO 17 ra), (le, ki cI 13 Lx), (me, go cO 13 mb), (ou, kl cJ 1 V)] ++ gs 4 fr cJ 5 F) ++ gs 13 mb cJ 13 Bm) ++ gs 17 ra cJ 13 M)) := by
  refine rh_ofW (cc := c_L_answer) (maxL := 5) (ret := (some .int)) (hh := [((0 : Nat), (10 : Nat), (13 : Nat), (13 : Nat))]) (by decide) rfl ?_
  intro p e s m args below meth c s₁ B hml hv
  obtain ⟨⟨rfl, hP, hK, hD0, hN⟩, hE⟩ := hv
  have hx := B.exec
  have hb := B.bytes
  have hr := B.returns
  have hts0 := atoms_spec (ws := ws_L_answer) B.pre
  have htb := vx_table (x := y_L_answer) B (hts0 _ List.mem_cons_self)
  have hts : ∀ w ∈ kb, w.before _ s = true := fun w h => hts0 w (List.mem_cons_of_mem _ h)
  have hown : s.vm.findClass R_L = some m.cls := findClass_of_methodNamed B.named
  have hlocks := B.notSynchronized
  have hD := rc_self hD0
  generalize hAe : rc_A ((([(h, rO od fa ot ah te id rt bs kn), (fa, go cO 4 fr), (bs, rB ro le me bn), (ro, go cO 17 ra), (le, ki cI 13 Lx), (me, go cO 13 mb), (ou, kl cJ 1 V)] ++ gs 4 fr cJ 5 F) ++ gs 13 mb cJ 13 Bm) ++ gs 17 ra cJ 13 M) = A at hD hE ⊢
  have hS : va_S A s.heap s.heap [] := va_S.rf
  have hl := lv_entry ([.ref h, .int (iz zk), .int (iz zp), .ref ou]) (n := 5) (Nat.le_of_ble_eq_true rfl)
  rw [lg_entry_eq]
  generalize (lg_sl ([.ref h, .int (iz zk), .int (iz zp), .ref ou]) ++ List.replicate (5 - (lg_sl ([.ref h, .int (iz zk), .int (iz zp), .ref ou])).length) Slot.unset).toArray = ls at hl ⊢
  have hl : lv_has ls 5 [(0, .ref h), (1, .int (iz zk)), (2, .int (iz zp)), (3, .ref ou)] := hl
  refine lv_aload_n hx hb d_L_answer_0 rfl (lv_at hl 3 rfl) ?_
  refine rz_iconst hx hb d_L_answer_1 ?_
  refine lv_aload_n hx hb d_L_answer_2 rfl (lv_at hl 0 rfl) ?_
  refine lv_iload_n hx hb d_L_answer_3 rfl (lv_at hl 1 rfl) ?_
  refine lv_iload_n hx hb d_L_answer_4 rfl (lv_at hl 2 rfl) ?_
  refine rxT_calli (vx_runV (As := [.int (iz zk), .int (iz zp)]) (rest := [.int (iz 0), .ref ou]) ⟨hx, hb, hml, hown, hts⟩ (x_O_answer_k_S l D hst sa cI cJ cO h fa ot ah te id rt bs od kn ro le me bn fr mb ra F Bm M Lx zk zp o hod ho3 hkn hzkl hzkh hp0 hp1 hbad hb0 hb13) (cwV 2 hts (kb_gi (kb_c kw_474 (kb_c kw_475 (kb_c kw_476 (kb_c kw_1 (kb_c kw_477 kb_all)))))) rfl rfl rfl (by decide +kernel) ⟨(Nat.le_of_ble_eq_true rfl), (Nat.le_of_ble_eq_true rfl)⟩) ⟨rx_blind, va_recv hK hP (ci := 2) (q0 := 0) rfl rfl, fun U h8 h9 => ⟨(rs_pre (Y := []) (rs_nil (rs_a_3_0 hP)) (rs_nilD (rs_aD_3_0 hD)) hK hN [0, 1, 2, 3, 4, 5] rfl rfl [0, 1, 2] rfl) U h8 h9, hE.go hS (rs_in (rs_nilD (rs_aD_3_0 hD)) (is := [0, 1, 2, 3, 4, 5]) rfl) h8 h9⟩⟩ rfl rfl hl.1 rfl (lv_room (Nat.le_of_ble_eq_true rfl)) d_L_answer_5 ⟨(Nat.le_of_ble_eq_true rfl), (Nat.le_of_ble_eq_true rfl)⟩) (rs_nil (rs_a_3_0 hP)) (rs_nilD (rs_aD_3_0 hD)) hS [0, 1, 2, 3, 4, 5] rfl (fun _ => rfl) (fun _ => gs_adr2 (gs_adr _ _ _ _ _ _) (gs_adr2 (gs_adr _ _ _ _ _ _) (gs_adr _ _ _ _ _ _))) (fun ce q9 u1 H locs hw1 hP hD hS hce hcv hcl => ?_)
  have hP := rs_b_3_0 (rs_nilR hP)
  have hD := rs_bD_3_0 (rs_nilRD hD)
  have hP : va_P D vC ((([(h, rO od fa ot ah te id rt bs 1), (fa, go cO 4 fr), (bs, rB ro le me (knD kn F o M Lx Bm bn).2.2.2), (ro, go cO 17 ra), (le, ki cI 13 (knD kn F o M Lx Bm bn).2.1), (me, go cO 13 mb), (ou, kl cJ 1 V)] ++ gs 4 fr cJ 5 F) ++ gs 13 mb cJ 13 (knD kn F o M Lx Bm bn).2.2.1) ++ gs 17 ra cJ 13 (knD kn F o M Lx Bm bn).1) H := hP
  have hD : va_D A ((([(h, rO od fa ot ah te id rt bs 1), (fa, go cO 4 fr), (bs, rB ro le me (knD kn F o M Lx Bm bn).2.2.2), (ro, go cO 17 ra), (le, ki cI 13 (knD kn F o M Lx Bm bn).2.1), (me, go cO 13 mb), (ou, kl cJ 1 V)] ++ gs 4 fr cJ 5 F) ++ gs 13 mb cJ 13 (knD kn F o M Lx Bm bn).2.2.1) ++ gs 17 ra cJ 13 (knD kn F o M Lx Bm bn).1) := hD
  refine vx_catch (name := xI) hown [] ⟨0, 10, 13, 13⟩ [] htb (fun z hz => absurd hz List.not_mem_nil) rfl (by decide) (hts _ kw_217) (va_Nw.use rfl hE.1.1) hce hcv hcl ?_
  refine lv_astore (lv' := [(4, .ref q9), (0, .ref h), (1, .int (iz zk)), (2, .int (iz zp)), (3, .ref ou)]) hx hb d_L_answer_13 hl (by decide) rfl (fun ls hl => ?_)
  refine rz_iconst hx hb d_L_answer_15 ?_
  exact W.iret hx hb hr (fun t ht hW => ⟨⟨_, (), rfl, rfl, rc_out ht hP⟩, hS.F ht⟩) hS.2.2 d_L_answer_16
set_option maxHeartbeats 4000000 in
set_option maxRecDepth 100000 in
theorem h_L_answer_k_t_S (l : Launch) (D : va_G) (hst : l.stackTraces = false) (sa : Nat → Nat) (cI : ClassId) (cJ cO : ClassId) (h fa ot ah te id rt bs : Nat) (od kn : Int) (ou : Nat) (V : Nat → Int64) (ro le me : Nat) (bn : Int) (fr mb ra : Nat → Nat) (F Bm M : Nat → Nat → ro_K) (Lx : Nat → Int) (zk zp : Int) (o : Nat) (hod : od = (o : Int)) (ho3 : o ≤ 3) (hkn : kn = 0 ∨ kn = 1) (hzkl : -2147483648 ≤ zk) (hzkh : zk < 2147483648) (hp0 : 0 ≤ zp) (hp1 : zp < 13) (hbad : ¬ (0 ≤ zk ∧ zk < (knD kn F o M Lx Bm bn).2.2.2)) (hb0 : 0 ≤ (knD kn F o M Lx Bm bn).2.2.2) (hb13 : (knD kn F o M Lx Bm bn).2.2.2 ≤ 13) : Met l y_L_answer ws_L_answer ({ frames := 9, cells := 1, slots := 6, locals := 182 }) (rx_Px D vC [(cJ, .long), (cO, .array .long), (cI, .int)] [.ref h, .int (iz zk), .int (iz zp), .ref ou] ([(h, rO od fa ot ah te id rt bs kn), (fa, go cO 4 fr), (bs, rB ro le me bn), (ro, go cO 17 ra), (le, ki cI 13 Lx), (me, go cO 13 mb), (ou, kl cJ 1 V)] ++ (gs 4 fr cJ 5 F ++ (gs 13 mb cJ 13 Bm ++ (gs 17 ra cJ 13 M)))) sa) (va_Qi (fun (q : Int32) (_ : Unit) => q = iz 1) (fun _ t => va_P D vC ([(h, rO od fa ot ah te id rt bs 1), (fa, go cO 4 fr), (bs, rB ro le me (knD kn F o M Lx Bm bn).2.2.2), (ro, go cO 17 ra), (le, ki cI 13 (knD kn F o M Lx Bm bn).2.1), (me, go cO 13 mb), (ou, kl cJ 1 V)] ++ (gs 4 fr cJ 5 F ++ (gs 13 mb cJ 13 (knD kn F o M Lx Bm bn).2.2.1 ++ (gs 17 ra cJ 13 (knD kn F o M Lx Bm bn).1)))) t.heap) (rc_A ([(h, rO od fa ot ah te id rt bs kn), (fa, go cO 4 fr), (bs, rB ro le me bn), (ro, go cO 17 ra), (le, ki cI 13 Lx), (me, go cO 13 mb), (ou, kl cJ 1 V)] ++ (gs 4 fr cJ 5 F ++ (gs 13 mb cJ 13 Bm ++ (gs 17 ra cJ 13 M)))))) 1 6 (rc_A ([(h, rO od fa ot ah te id rt bs kn), (fa, go cO 4 fr), (bs, rB ro le me bn), (ro, go cO 17 ra), (le, ki cI 13 Lx), (me, go cO 13 mb), (ou, kl cJ 1 V)] ++ (gs 4 fr cJ 5 F ++ (gs 13 mb cJ 13 Bm ++ (gs 17 ra cJ 13 M))))) := h_L_answer_k_t l D hst sa cI cJ cO h fa ot ah te id rt bs od kn ou V ro le me bn fr mb ra F Bm M Lx zk zp o hod ho3 hkn hzkl hzkh hp0 hp1 hbad hb0 hb13

set_option maxHeartbeats 4000000 in
set_option maxRecDepth 100000 in
theorem m_O_take_S (l : Launch) (D : va_G) (cI : ClassId) (cJ cO : ClassId) (h fa ot ah te id rt bs : Nat) (od kn : Int) (ro le me : Nat) (bn : Int) (fr mb ra : Nat → Nat) (F Bm M : Nat → Nat → ro_K) (Lx : Nat → Int) (a : Nat → ro_K) (zk : Int) (o : Nat) (hod : od = (o : Int)) (ho3 : o ≤ 3) (hkn : kn = 0 ∨ kn = 1) (k : Nat) (hzk : zk = (k : Int)) (hk0 : 0 ≤ zk) (hk1 : zk < (knD kn F o M Lx Bm bn).2.2.2) (hb13 : (knD kn F o M Lx Bm bn).2.2.2 ≤ 13) : Met l y_O_take ws_O_take ({ frames := 6, cells := 0, slots := 0, locals := 136 }) (rc_Pc D vC [(cJ, .long), (cO, .array .long), (cI, .int)] [.ref h, .int (iz zk)] ([(h, rO od fa ot ah te id rt bs kn), (fa, go cO 4 fr), (bs, rB ro le me bn), (ro, go cO 17 ra), (le, ki cI 13 Lx), (me, go cO 13 mb), (ah, ka cJ 13 a)] ++ (gs 4 fr cJ 5 F ++ (gs 13 mb cJ 13 Bm ++ (gs 17 ra cJ 13 M))))) (va_Qv (fun (_ : Unit) => True) (fun _ t => va_P D vC ([(h, rO od fa ot ah te id rt bs 1), (fa, go cO 4 fr), (bs, rB ro le me (knD kn F o M Lx Bm bn).2.2.2), (ro, go cO 17 ra), (le, ki cI 13 (knD kn F o M Lx Bm bn).2.1), (me, go cO 13 mb), (ah, ka cJ 13 (va_cpy ((knD kn F o M Lx Bm bn).2.2.1 k) a 0 0 13))] ++ (gs 4 fr cJ 5 F ++ (gs 13 mb cJ 13 (knD kn F o M Lx Bm bn).2.2.1 ++ (gs 17 ra cJ 13 (knD kn F o M Lx Bm bn).1)))) t.heap) (rc_A ([(h, rO od fa ot ah te id rt bs kn), (fa, go cO 4 fr), (bs, rB ro le me bn), (ro, go cO 17 ra), (le, ki cI 13 Lx), (me, go cO 13 mb), (ah, ka cJ 13 a)] ++ (gs 4 fr cJ 5 F ++ (gs 13 mb cJ 13 Bm ++ (gs 17 ra cJ 13 M)))))) 0 0 (rc_A ([(h, rO od fa ot ah te id rt bs kn), (fa, go cO 4 fr), (bs, rB ro le me bn), (ro, go cO 17 ra), (le, ki cI 13 Lx), (me, go cO 13 mb), (ah, ka cJ 13 a)] ++ (gs 4 fr cJ 5 F ++ (gs 13 mb cJ 13 Bm ++ (gs 17 ra cJ 13 M))))) := m_O_take l D cI cJ cO h fa ot ah te id rt bs od kn ro le me bn fr mb ra F Bm M Lx a zk o hod ho3 hkn k hzk hk0 hk1 hb13
def ws_L_take : List Cond := .codeWith y_L_take c_L_take 3 (some .int) [((0 : Nat), (5 : Nat), (8 : Nat), (13 : Nat))] :: kb
set_option maxHeartbeats 4000000 in
set_option maxRecDepth 100000 in
theorem h_L_take (l : Launch) (D : va_G) (cI : ClassId) (cJ cO : ClassId) (h fa ot ah te id rt bs : Nat) (od kn : Int) (ro le me : Nat) (bn : Int) (fr mb ra : Nat → Nat) (F Bm M : Nat → Nat → ro_K) (Lx : Nat → Int) (a : Nat → ro_K) (zk : Int) (o : Nat) (hod : od = (o : Int)) (ho3 : o ≤ 3) (hkn : kn = 0 ∨ kn = 1) (k : Nat) (hzk : zk = (k : Int)) (hk0 : 0 ≤ zk) (hk1 : zk < (knD kn F o M Lx Bm bn).2.2.2) (hb13 : (knD kn F o M Lx Bm bn).2.2.2 ≤ 13) : Met l y_L_take ws_L_take ({ frames := 7, cells := 0, slots := 0, locals := 157 }) (rc_Pc D vC [(cJ, .long), (cO, .array .long), (cI, .int)] [.ref h, .int (iz zk)] ((([(h, rO od fa ot ah te id rt bs kn), (fa, go cO 4 fr), (bs, rB ro le me bn), (ro, go cO 17 ra), (le, ki cI 13 Lx), (me, go cO 13 mb), (ah, ka cJ 13 a)] ++ gs 4 fr cJ 5 F) ++ gs 13 mb cJ 13 Bm) ++ gs 17 ra cJ 13 M)) (va_Qi (fun (q : Int32) (_ : Unit) => q = iz 0) (fun _ t => va_P D vC ((([(h, rO od fa ot ah te id rt bs 1), (fa, go cO 4 fr), (bs, rB ro le me (knD kn F o M Lx Bm bn).2.2.2), (ro, go cO 17 ra), (le, ki cI 13 (knD kn F o M Lx Bm bn).2.1), (me, go cO 13 mb), (ah, ka cJ 13 (va_cpy ((knD kn F o M Lx Bm bn).2.2.1 k) a 0 0 13))] ++ gs 4 fr cJ 5 F) ++ gs 13 mb cJ 13 (knD kn F o M Lx Bm bn).2.2.1) ++ gs 17 ra cJ 13 (knD kn F o M Lx Bm bn).1) t.heap) (rc_A ((([(h, rO od fa ot ah te id rt bs kn), (fa, go cO 4 fr), (bs, rB ro le me bn), (ro, go cO 17 ra), (le, ki cI 13 Lx), (me, go cO 13 mb), (ah, ka cJ 13 a)] ++ gs 4 fr cJ 5 F) ++ gs 13 mb cJ 13 Bm) ++ gs 17 ra cJ 13 M))) 0 0 (rc_A ((([(h, rO od fa ot ah te id rt bs kn), (fa, go cO 4 fr), (bs, rB ro le me bn), (ro, go cO 17 ra), (le, ki cI 13 Lx), (me, go cO 13 mb), (ah, ka cJ 13 a)] ++ gs 4 fr cJ 5 F) ++ gs 13 mb cJ 13 Bm) ++ gs 17 ra cJ 13 M)) := by
  refine rh_ofW (cc := c_L_take) (maxL := 3) (ret := (some .int)) (hh := [((0 : Nat), (5 : Nat), (8 : Nat), (13 : Nat))]) (by decide) rfl ?_
  intro p e s m args below meth c s₁ B hml hv
  obtain ⟨rfl, hP, hK, hD0, hN⟩ := hv
  have hx := B.exec
  have hb := B.bytes
  have hr := B.returns
  have hts0 := atoms_spec (ws := ws_L_take) B.pre
  have htb := vx_table (x := y_L_take) B (hts0 _ List.mem_cons_self)
  have hts : ∀ w ∈ kb, w.before _ s = true := fun w h => hts0 w (List.mem_cons_of_mem _ h)
  have hown : s.vm.findClass R_L = some m.cls := findClass_of_methodNamed B.named
  have hlocks := B.notSynchronized
  have hD := rc_self hD0
  generalize hAe : rc_A ((([(h, rO od fa ot ah te id rt bs kn), (fa, go cO 4 fr), (bs, rB ro le me bn), (ro, go cO 17 ra), (le, ki cI 13 Lx), (me, go cO 13 mb), (ah, ka cJ 13 a)] ++ gs 4 fr cJ 5 F) ++ gs 13 mb cJ 13 Bm) ++ gs 17 ra cJ 13 M) = A at hD ⊢
  have hS : va_S A s.heap s.heap [] := va_S.rf
  have hl := lv_entry ([.ref h, .int (iz zk)]) (n := 3) (Nat.le_of_ble_eq_true rfl)
  rw [lg_entry_eq]
  generalize (lg_sl ([.ref h, .int (iz zk)]) ++ List.replicate (3 - (lg_sl ([.ref h, .int (iz zk)])).length) Slot.unset).toArray = ls at hl ⊢
  have hl : lv_has ls 3 [(0, .ref h), (1, .int (iz zk))] := hl
  refine lv_aload_n hx hb d_L_take_0 rfl (lv_at hl 0 rfl) ?_
  refine lv_iload_n hx hb d_L_take_1 rfl (lv_at hl 1 rfl) ?_
  refine rs_callv (va_runV (As := [.int (iz zk)]) (rest := []) ⟨hx, hb, hml, hown, hts⟩ (m_O_take_S l D cI cJ cO h fa ot ah te id rt bs od kn ro le me bn fr mb ra F Bm M Lx a zk o hod ho3 hkn k hzk hk0 hk1 hb13) (cwV 1 hts (kb_gi (kb_c kw_490 (kb_c kw_491 (kb_c kw_492 (kb_c kw_1 (kb_c kw_493 kb_all)))))) rfl rfl rfl (by decide +kernel) ⟨Nat.le_of_ble_eq_true rfl, Nat.le_of_ble_eq_true rfl⟩) ⟨rc_blind, va_recv hK hP (ci := 2) (q0 := 0) rfl rfl, rs_pre (Y := []) (rs_nil (rs_a_3_0 hP)) (rs_nilD (rs_aD_3_0 hD)) hK hN [0, 1, 2, 3, 4, 5, 6] rfl rfl [0, 1, 2] rfl⟩ rfl rfl hl.1 rfl (lv_room (Nat.le_of_ble_eq_true rfl)) d_L_take_2 ⟨Nat.zero_le _, Nat.zero_le _⟩) (rs_a_3_0 hP) (rs_aD_3_0 hD) hS [0, 1, 2, 3, 4, 5, 6] rfl (fun _ => rfl) (fun _ => gs_adr2 (gs_adr _ _ _ _ _ _) (gs_adr2 (gs_adr _ _ _ _ _ _) (gs_adr _ _ _ _ _ _))) (fun u1 H locs hw1 hP hD hS => ?_)
  have hP := rs_b_3_0 hP
  have hD := rs_bD_3_0 hD
  have hP : va_P D vC ((([(h, rO od fa ot ah te id rt bs 1), (fa, go cO 4 fr), (bs, rB ro le me (knD kn F o M Lx Bm bn).2.2.2), (ro, go cO 17 ra), (le, ki cI 13 (knD kn F o M Lx Bm bn).2.1), (me, go cO 13 mb), (ah, ka cJ 13 (va_cpy ((knD kn F o M Lx Bm bn).2.2.1 k) a 0 0 13))] ++ gs 4 fr cJ 5 F) ++ gs 13 mb cJ 13 (knD kn F o M Lx Bm bn).2.2.1) ++ gs 17 ra cJ 13 (knD kn F o M Lx Bm bn).1) H := hP
  have hD : va_D A ((([(h, rO od fa ot ah te id rt bs 1), (fa, go cO 4 fr), (bs, rB ro le me (knD kn F o M Lx Bm bn).2.2.2), (ro, go cO 17 ra), (le, ki cI 13 (knD kn F o M Lx Bm bn).2.1), (me, go cO 13 mb), (ah, ka cJ 13 (va_cpy ((knD kn F o M Lx Bm bn).2.2.1 k) a 0 0 13))] ++ gs 4 fr cJ 5 F) ++ gs 13 mb cJ 13 (knD kn F o M Lx Bm bn).2.2.1) ++ gs 17 ra cJ 13 (knD kn F o M Lx Bm bn).1) := hD
  refine lv_goto (tgt := 11) hx hb d_L_take_5 (by decide) ?_
  refine rz_iconst hx hb d_L_take_11 ?_
  exact W.iret hx hb hr (fun t ht hW => ⟨⟨_, (), rfl, rfl, rc_out ht hP⟩, hS.F ht⟩) hS.2.2 d_L_take_12
set_option maxHeartbeats 4000000 in
set_option maxRecDepth 100000 in
theorem h_L_take_S (l : Launch) (D : va_G) (cI : ClassId) (cJ cO : ClassId) (h fa ot ah te id rt bs : Nat) (od kn : Int) (ro le me : Nat) (bn : Int) (fr mb ra : Nat → Nat) (F Bm M : Nat → Nat → ro_K) (Lx : Nat → Int) (a : Nat → ro_K) (zk : Int) (o : Nat) (hod : od = (o : Int)) (ho3 : o ≤ 3) (hkn : kn = 0 ∨ kn = 1) (k : Nat) (hzk : zk = (k : Int)) (hk0 : 0 ≤ zk) (hk1 : zk < (knD kn F o M Lx Bm bn).2.2.2) (hb13 : (knD kn F o M Lx Bm bn).2.2.2 ≤ 13) : Met l y_L_take ws_L_take ({ frames := 7, cells := 0, slots := 0, locals := 157 }) (rc_Pc D vC [(cJ, .long), (cO, .array .long), (cI, .int)] [.ref h, .int (iz zk)] ([(h, rO od fa ot ah te id rt bs kn), (fa, go cO 4 fr), (bs, rB ro le me bn), (ro, go cO 17 ra), (le, ki cI 13 Lx), (me, go cO 13 mb), (ah, ka cJ 13 a)] ++ (gs 4 fr cJ 5 F ++ (gs 13 mb cJ 13 Bm ++ (gs 17 ra cJ 13 M))))) (va_Qi (fun (q : Int32) (_ : Unit) => q = iz 0) (fun _ t => va_P D vC ([(h, rO od fa ot ah te id rt bs 1), (fa, go cO 4 fr), (bs, rB ro le me (knD kn F o M Lx Bm bn).2.2.2), (ro, go cO 17 ra), (le, ki cI 13 (knD kn F o M Lx Bm bn).2.1), (me, go cO 13 mb), (ah, ka cJ 13 (va_cpy ((knD kn F o M Lx Bm bn).2.2.1 k) a 0 0 13))] ++ (gs 4 fr cJ 5 F ++ (gs 13 mb cJ 13 (knD kn F o M Lx Bm bn).2.2.1 ++ (gs 17 ra cJ 13 (knD kn F o M Lx Bm bn).1)))) t.heap) (rc_A ([(h, rO od fa ot ah te id rt bs kn), (fa, go cO 4 fr), (bs, rB ro le me bn), (ro, go cO 17 ra), (le, ki cI 13 Lx), (me, go cO 13 mb), (ah, ka cJ 13 a)] ++ (gs 4 fr cJ 5 F ++ (gs 13 mb cJ 13 Bm ++ (gs 17 ra cJ 13 M)))))) 0 0 (rc_A ([(h, rO od fa ot ah te id rt bs kn), (fa, go cO 4 fr), (bs, rB ro le me bn), (ro, go cO 17 ra), (le, ki cI 13 Lx), (me, go cO 13 mb), (ah, ka cJ 13 a)] ++ (gs 4 fr cJ 5 F ++ (gs 13 mb cJ 13 Bm ++ (gs 17 ra cJ 13 M))))) := h_L_take l D cI cJ cO h fa ot ah te id rt bs od kn ro le me bn fr mb ra F Bm M Lx a zk o hod ho3 hkn k hzk hk0 hk1 hb13

set_option maxHeartbeats 4000000 in
set_option maxRecDepth 100000 in
theorem x_O_take_S (l : Launch) (D : va_G) (hst : l.stackTraces = false) (sa : Nat → Nat) (cI : ClassId) (cJ cO : ClassId) (h fa ot ah te id rt bs : Nat) (od kn : Int) (ro le me : Nat) (bn : Int) (fr mb ra : Nat → Nat) (F Bm M : Nat → Nat → ro_K) (Lx : Nat → Int) (a : Nat → ro_K) (zk : Int) (o : Nat) (hod : od = (o : Int)) (ho3 : o ≤ 3) (hkn : kn = 0 ∨ kn = 1) (hzkl : -2147483648 ≤ zk) (hzkh : zk < 2147483648) (hbad : ¬ (0 ≤ zk ∧ zk < (knD kn F o M Lx Bm bn).2.2.2)) (hb0 : 0 ≤ (knD kn F o M Lx Bm bn).2.2.2) (hb13 : (knD kn F o M Lx Bm bn).2.2.2 ≤ 13) : vx_Met l y_O_take ws_O_take ({ frames := 8, cells := 1, slots := 6, locals := 160 }) (rx_Px D vC [(cJ, .long), (cO, .array .long), (cI, .int)] [.ref h, .int (iz zk)] ([(h, rO od fa ot ah te id rt bs kn), (fa, go cO 4 fr), (bs, rB ro le me bn), (ro, go cO 17 ra), (le, ki cI 13 Lx), (me, go cO 13 mb), (ah, ka cJ 13 a)] ++ (gs 4 fr cJ 5 F ++ (gs 13 mb cJ 13 Bm ++ (gs 17 ra cJ 13 M)))) sa) (va_Qv (fun (_ : Unit) => False) (fun _ _ => True) (rc_A ([(h, rO od fa ot ah te id rt bs kn), (fa, go cO 4 fr), (bs, rB ro le me bn), (ro, go cO 17 ra), (le, ki cI 13 Lx), (me, go cO 13 mb), (ah, ka cJ 13 a)] ++ (gs 4 fr cJ 5 F ++ (gs 13 mb cJ 13 Bm ++ (gs 17 ra cJ 13 M)))))) (vx_X (fun (_ : Unit) => True) (fun E9 _ t => E9 = xI ∧ va_P D vC ([(h, rO od fa ot ah te id rt bs 1), (fa, go cO 4 fr), (bs, rB ro le me (knD kn F o M Lx Bm bn).2.2.2), (ro, go cO 17 ra), (le, ki cI 13 (knD kn F o M Lx Bm bn).2.1), (me, go cO 13 mb), (ah, ka cJ 13 a)] ++ (gs 4 fr cJ 5 F ++ (gs 13 mb cJ 13 (knD kn F o M Lx Bm bn).2.2.1 ++ (gs 17 ra cJ 13 (knD kn F o M Lx Bm bn).1)))) t.heap) (rc_A ([(h, rO od fa ot ah te id rt bs kn), (fa, go cO 4 fr), (bs, rB ro le me bn), (ro, go cO 17 ra), (le, ki cI 13 Lx), (me, go cO 13 mb), (ah, ka cJ 13 a)] ++ (gs 4 fr cJ 5 F ++ (gs 13 mb cJ 13 Bm ++ (gs 17 ra cJ 13 M)))))) 1 6 (rc_A ([(h, rO od fa ot ah te id rt bs kn), (fa, go cO 4 fr), (bs, rB ro le me bn), (ro, go cO 17 ra), (le, ki cI 13 Lx), (me, go cO 13 mb), (ah, ka cJ 13 a)] ++ (gs 4 fr cJ 5 F ++ (gs 13 mb cJ 13 Bm ++ (gs 17 ra cJ 13 M))))) := x_O_take l D hst sa cI cJ cO h fa ot ah te id rt bs od kn ro le me bn fr mb ra F Bm M Lx a zk o hod ho3 hkn hzkl hzkh hbad hb0 hb13
set_option maxHeartbeats 4000000 in
set_option maxRecDepth 100000 in
theorem h_L_take_t (l : Launch) (D : va_G) (hst : l.stackTraces = false) (sa : Nat → Nat) (cI : ClassId) (cJ cO : ClassId) (h fa ot ah te id rt bs : Nat) (od kn : Int) (ro le me : Nat) (bn : Int) (fr mb ra : Nat → Nat) (F Bm M : Nat → Nat → ro_K) (Lx : Nat → Int) (a : Nat → ro_K) (zk : Int) (o : Nat) (hod : od = (o : Int)) (ho3 : o ≤ 3) (hkn : kn = 0 ∨ kn = 1) (hzkl : -2147483648 ≤ zk) (hzkh : zk < 2147483648) (hbad : ¬ (0 ≤ zk ∧ zk < (knD kn F o M Lx Bm bn).2.2.2)) (hb0 : 0 ≤ (knD kn F o M Lx Bm bn).2.2.2) (hb13 : (knD kn F o M Lx Bm bn).2.2.2 ≤ 13) : Met l y_L_take ws_L_take ({ frames := 9, cells := 1, slots := 6, locals := 181 }) (rx_Px D vC [(cJ, .long), (cO, .array .long), (cI, .int)] [.ref h, .int (iz zk)] ((([(h, rO od fa ot ah te id rt bs kn), (fa, go cO 4 fr), (bs, rB ro le me bn), (ro, go cO 17 ra), (le, ki cI 13 Lx), (me, go cO 13 mb), (ah, ka cJ 13 a)] ++ gs 4 fr cJ 5 F) ++ gs 13 mb cJ 13 Bm) ++ gs 17 ra cJ 13 M) sa) (va_Qi (fun (q : Int32) (_ : Unit) => q = iz 1) (fun _ t => va_P D vC ((([(h, rO od fa ot ah te id rt bs 1), (fa, go cO 4 fr), (bs, rB ro le me (knD kn F o M Lx Bm bn).2.2.2), (ro, go cO 17 ra), (le, ki cI 13 (knD kn F o M Lx Bm bn).2.1), (me, go cO 13 mb), (ah, ka cJ 13 a)] ++ gs 4 fr cJ 5 F) ++ gs 13 mb cJ 13 (knD kn F o M Lx Bm bn).2.2.1) ++ gs 17 ra cJ 13 (knD kn F o M Lx Bm bn).1) t.heap) (rc_A ((([(h, rO od fa ot ah te id rt bs kn), (fa, go cO 4 fr), (bs, rB ro le me bn), (ro, go cO 17 ra), (le, ki cI 13 Lx), (me, go cO 13 mb), (ah, ka cJ 13 a)] ++ gs 4 fr cJ 5 F) ++ gs 13 mb cJ 13 Bm) ++ gs 17 ra cJ 13 M))) 1 6 (rc_A ((([(h, rO od fa ot ah te id rt bs kn), (fa, go cO 4 fr), (bs, rB ro le me bn), (ro, go cO 17 ra), (le, ki cI 13 Lx), (me, go cO 13 mb), (ah, ka cJ 13 a)] ++ gs 4 fr cJ 5 F) ++ gs 13 mb cJ 13 Bm) ++ gs 17 ra cJ 13 M)) := by
  refine rh_ofW (cc := c_L_take) (maxL := 3) (ret := (some .int)) (hh := [((0 : Nat), (5 : Nat), (8 : Nat), (13 : Nat))]) (by decide) rfl ?_
  intro p e s m args below meth c s₁ B hml hv
  obtain ⟨⟨rfl, hP, hK, hD0, hN⟩, hE⟩ := hv
  have hx := B.exec
  have hb := B.bytes
  have hr := B.returns
  have hts0 := atoms_spec (ws := ws_L_take) B.pre
  have htb := vx_table (x := y_L_take) B (hts0 _ List.mem_cons_self)
  have hts : ∀ w ∈ kb, w.before _ s = true := fun w h => hts0 w (List.mem_cons_of_mem _ h)
  have hown : s.vm.findClass R_L = some m.cls := findClass_of_methodNamed B.named
  have hlocks := B.notSynchronized
  have hD := rc_self hD0
  generalize hAe : rc_A ((([(h, rO od fa ot ah te id rt bs kn), (fa, go cO 4 fr), (bs, rB ro le me bn), (ro, go cO 17 ra), (le, ki cI 13 Lx), (me, go cO 13 mb), (ah, ka cJ 13 a)] ++ gs 4 fr cJ 5 F) ++ gs 13 mb cJ 13 Bm) ++ gs 17 ra cJ 13 M) = A at hD hE ⊢
  have hS : va_S A s.heap s.heap [] := va_S.rf
  have hl := lv_entry ([.ref h, .int (iz zk)]) (n := 3) (Nat.le_of_ble_eq_true rfl)
  rw [lg_entry_eq]
  generalize (lg_sl ([.ref h, .int (iz zk)]) ++ List.replicate (3 - (lg_sl ([.ref h, .int (iz zk)])).length) Slot.unset).toArray = ls at hl ⊢
  have hl : lv_has ls 3 [(0, .ref h), (1, .int (iz zk))] := hl
  refine lv_aload_n hx hb d_L_take_0 rfl (lv_at hl 0 rfl) ?_
  refine lv_iload_n hx hb d_L_take_1 rfl (lv_at hl 1 rfl) ?_
  refine rxT_callv (vx_runV (As := [.int (iz zk)]) (rest := []) ⟨hx, hb, hml, hown, hts⟩ (x_O_take_S l D hst sa cI cJ cO h fa ot ah te id rt bs od kn ro le me bn fr mb ra F Bm M Lx a zk o hod ho3 hkn hzkl hzkh hbad hb0 hb13) (cwV 1 hts (kb_gi (kb_c kw_490 (kb_c kw_491 (kb_c kw_492 (kb_c kw_1 (kb_c kw_493 kb_all)))))) rfl rfl rfl (by decide +kernel) ⟨(Nat.le_of_ble_eq_true rfl), (Nat.le_of_ble_eq_true rfl)⟩) ⟨rx_blind, va_recv hK hP (ci := 2) (q0 := 0) rfl rfl, fun U h8 h9 => ⟨(rs_pre (Y := []) (rs_nil (rs_a_3_0 hP)) (rs_nilD (rs_aD_3_0 hD)) hK hN [0, 1, 2, 3, 4, 5, 6] rfl rfl [0, 1, 2] rfl) U h8 h9, hE.go hS (rs_in (rs_nilD (rs_aD_3_0 hD)) (is := [0, 1, 2, 3, 4, 5, 6]) rfl) h8 h9⟩⟩ rfl rfl hl.1 rfl (lv_room (Nat.le_of_ble_eq_true rfl)) d_L_take_2 ⟨(Nat.le_of_ble_eq_true rfl), (Nat.le_of_ble_eq_true rfl)⟩) (rs_nil (rs_a_3_0 hP)) (rs_nilD (rs_aD_3_0 hD)) hS [0, 1, 2, 3, 4, 5, 6] rfl (fun _ => rfl) (fun _ => gs_adr2 (gs_adr _ _ _ _ _ _) (gs_adr2 (gs_adr _ _ _ _ _ _) (gs_adr _ _ _ _ _ _))) (fun ce q9 u1 H locs hw1 hP hD hS hce hcv hcl => ?_)
  have hP := rs_b_3_0 (rs_nilR hP)
  have hD := rs_bD_3_0 (rs_nilRD hD)
  have hP : va_P D vC ((([(h, rO od fa ot ah te id rt bs 1), (fa, go cO 4 fr), (bs, rB ro le me (knD kn F o M Lx Bm bn).2.2.2), (ro, go cO 17 ra), (le, ki cI 13 (knD kn F o M Lx Bm bn).2.1), (me, go cO 13 mb), (ah, ka cJ 13 a)] ++ gs 4 fr cJ 5 F) ++ gs 13 mb cJ 13 (knD kn F o M Lx Bm bn).2.2.1) ++ gs 17 ra cJ 13 (knD kn F o M Lx Bm bn).1) H := hP
  have hD : va_D A ((([(h, rO od fa ot ah te id rt bs 1), (fa, go cO 4 fr), (bs, rB ro le me (knD kn F o M Lx Bm bn).2.2.2), (ro, go cO 17 ra), (le, ki cI 13 (knD kn F o M Lx Bm bn).2.1), (me, go cO 13 mb), (ah, ka cJ 13 a)] ++ gs 4 fr cJ 5 F) ++ gs 13 mb cJ 13 (knD kn F o M Lx Bm bn).2.2.1) ++ gs 17 ra cJ 13 (knD kn F o M Lx Bm bn).1) := hD
  refine vx_catch (name := xI) hown [] ⟨0, 5, 8, 13⟩ [] htb (fun z hz => absurd hz List.not_mem_nil) rfl (by decide) (hts _ kw_217) (va_Nw.use rfl hE.1.1) hce hcv hcl ?_
  refine lv_astore_n (lv' := [(2, .ref q9), (0, .ref h), (1, .int (iz zk))]) hx hb d_L_take_8 rfl hl (by decide) rfl (fun ls hl => ?_)
  refine rz_iconst hx hb d_L_take_9 ?_
  exact W.iret hx hb hr (fun t ht hW => ⟨⟨_, (), rfl, rfl, rc_out ht hP⟩, hS.F ht⟩) hS.2.2 d_L_take_10
set_option maxHeartbeats 4000000 in
set_option maxRecDepth 100000 in
theorem h_L_take_t_S (l : Launch) (D : va_G) (hst : l.stackTraces = false) (sa : Nat → Nat) (cI : ClassId) (cJ cO : ClassId) (h fa ot ah te id rt bs : Nat) (od kn : Int) (ro le me : Nat) (bn : Int) (fr mb ra : Nat → Nat) (F Bm M : Nat → Nat → ro_K) (Lx : Nat → Int) (a : Nat → ro_K) (zk : Int) (o : Nat) (hod : od = (o : Int)) (ho3 : o ≤ 3) (hkn : kn = 0 ∨ kn = 1) (hzkl : -2147483648 ≤ zk) (hzkh : zk < 2147483648) (hbad : ¬ (0 ≤ zk ∧ zk < (knD kn F o M Lx Bm bn).2.2.2)) (hb0 : 0 ≤ (knD kn F o M Lx Bm bn).2.2.2) (hb13 : (knD kn F o M Lx Bm bn).2.2.2 ≤ 13) : Met l y_L_take ws_L_take ({ frames := 9, cells := 1, slots := 6, locals := 181 }) (rx_Px D vC [(cJ, .long), (cO, .array .long), (cI, .int)] [.ref h, .int (iz zk)] ([(h, rO od fa ot ah te id rt bs kn), (fa, go cO 4 fr), (bs, rB ro le me bn), (ro, go cO 17 ra), (le, ki cI 13 Lx), (me, go cO 13 mb), (ah, ka cJ 13 a)] ++ (gs 4 fr cJ 5 F ++ (gs 13 mb cJ 13 Bm ++ (gs 17 ra cJ 13 M)))) sa) (va_Qi (fun (q : Int32) (_ : Unit) => q = iz 1) (fun _ t => va_P D vC ([(h, rO od fa ot ah te id rt bs 1), (fa, go cO 4 fr), (bs, rB ro le me (knD kn F o M Lx Bm bn).2.2.2), (ro, go cO 17 ra), (le, ki cI 13 (knD kn F o M Lx Bm bn).2.1), (me, go cO 13 mb), (ah, ka cJ 13 a)] ++ (gs 4 fr cJ 5 F ++ (gs 13 mb cJ 13 (knD kn F o M Lx Bm bn).2.2.1 ++ (gs 17 ra cJ 13 (knD kn F o M Lx Bm bn).1)))) t.heap) (rc_A ([(h, rO od fa ot ah te id rt bs kn), (fa, go cO 4 fr), (bs, rB ro le me bn), (ro, go cO 17 ra), (le, ki cI 13 Lx), (me, go cO 13 mb), (ah, ka cJ 13 a)] ++ (gs 4 fr cJ 5 F ++ (gs 13 mb cJ 13 Bm ++ (gs 17 ra cJ 13 M)))))) 1 6 (rc_A ([(h, rO od fa ot ah te id rt bs kn), (fa, go cO 4 fr), (bs, rB ro le me bn), (ro, go cO 17 ra), (le, ki cI 13 Lx), (me, go cO 13 mb), (ah, ka cJ 13 a)] ++ (gs 4 fr cJ 5 F ++ (gs 13 mb cJ 13 Bm ++ (gs 17 ra cJ 13 M))))) := h_L_take_t l D hst sa cI cJ cO h fa ot ah te id rt bs od kn ro le me bn fr mb ra F Bm M Lx a zk o hod ho3 hkn hzkl hzkh hbad hb0 hb13

set_option maxHeartbeats 4000000 in
set_option maxRecDepth 100000 in
theorem m_O_series_S (l : Launch) (D : va_G) (cJ cO : ClassId) (h fa ot ah te id rt bs : Nat) (od kn : Int) (fr er : Nat → Nat) (E F : Nat → Nat → ro_K) (T : Nat → ro_K) (va vc vd ve : Int64) (zp : Int) (o : Nat) (hod : od = (o : Int)) (ho3 : o ≤ 3) (ho1 : 1 ≤ o) (pw : Nat) (hzp : zp = (pw : Int)) (hp : pw ≤ 30) (hn : (stE F (ro_k va.toInt) E (o + 1)) o 0 ≠ 0) : Met l y_O_series ws_O_series ({ frames := 3, cells := 0, slots := 0, locals := 77 }) (rc_Pc D vC [(cJ, .long), (cO, .array .long)] [.ref h, .long va, .long vc, .long vd, .long ve, .int (iz zp)] ([(h, rO od fa ot ah te id rt bs kn), (fa, go cO 4 fr), (ot, go cO 4 er), (te, ka cJ 31 T)] ++ (gs 4 er cJ 5 E ++ (gs 4 fr cJ 5 F)))) (va_Qi (fun (q : Int32) (_ : Unit) => q = iz (((srT (stE F (ro_k va.toInt) E (o + 1)) o (srI T vc vd ve) (pw + 1 - o)) pw).val : Int)) (fun _ t => va_P D vC ([(h, rO od fa ot ah te id rt bs kn), (fa, go cO 4 fr), (ot, go cO 4 er), (te, ka cJ 31 (srT (stE F (ro_k va.toInt) E (o + 1)) o (srI T vc vd ve) (pw + 1 - o)))] ++ (gs 4 er cJ 5 (stE F (ro_k va.toInt) E (o + 1)) ++ (gs 4 fr cJ 5 F))) t.heap) (rc_A ([(h, rO od fa ot ah te id rt bs kn), (fa, go cO 4 fr), (ot, go cO 4 er), (te, ka cJ 31 T)] ++ (gs 4 er cJ 5 E ++ (gs 4 fr cJ 5 F))))) 0 0 (rc_A ([(h, rO od fa ot ah te id rt bs kn), (fa, go cO 4 fr), (ot, go cO 4 er), (te, ka cJ 31 T)] ++ (gs 4 er cJ 5 E ++ (gs 4 fr cJ 5 F)))) := m_O_series l D cJ cO h fa ot ah te id rt bs od kn fr er E F T va vc vd ve zp o hod ho3 ho1 pw hzp hp hn
def ws_L_series : List Cond := .codeWith y_L_series c_L_series 12 (some .int) [((0 : Nat), (17 : Nat), (20 : Nat), (13 : Nat)), ((0 : Nat), (17 : Nat), (24 : Nat), (56 : Nat))] :: kb
set_option maxHeartbeats 4000000 in
set_option maxRecDepth 100000 in
theorem h_L_series (l : Launch) (D : va_G) (cJ cO : ClassId) (h fa ot ah te id rt bs : Nat) (od kn : Int) (ou : Nat) (V : Nat → Int64) (fr er : Nat → Nat) (E F : Nat → Nat → ro_K) (T : Nat → ro_K) (va vc vd ve : Int64) (zp : Int) (o : Nat) (hod : od = (o : Int)) (ho3 : o ≤ 3) (ho1 : 1 ≤ o) (pw : Nat) (hzp : zp = (pw : Int)) (hp : pw ≤ 30) (hn : (stE F (ro_k va.toInt) E (o + 1)) o 0 ≠ 0) : Met l y_L_series ws_L_series ({ frames := 4, cells := 0, slots := 0, locals := 107 }) (rc_Pc D vC [(cJ, .long), (cO, .array .long)] [.ref h, .long va, .long vc, .long vd, .long ve, .int (iz zp), .ref ou] (([(h, rO od fa ot ah te id rt bs kn), (fa, go cO 4 fr), (ot, go cO 4 er), (te, ka cJ 31 T), (ou, kl cJ 1 V)] ++ gs 4 er cJ 5 E) ++ gs 4 fr cJ 5 F)) (va_Qi (fun (q : Int32) (_ : Unit) => q = iz 0) (fun _ t => va_P D vC (([(h, rO od fa ot ah te id rt bs kn), (fa, go cO 4 fr), (ot, go cO 4 er), (te, ka cJ 31 (srT (stE F (ro_k va.toInt) E (o + 1)) o (srI T vc vd ve) (pw + 1 - o))), (ou, kl cJ 1 (vp_updL V 0 ((iz (((srT (stE F (ro_k va.toInt) E (o + 1)) o (srI T vc vd ve) (pw + 1 - o)) pw).val : Int)).toInt64)))] ++ gs 4 er cJ 5 (stE F (ro_k va.toInt) E (o + 1))) ++ gs 4 fr cJ 5 F) t.heap) (rc_A (([(h, rO od fa ot ah te id rt bs kn), (fa, go cO 4 fr), (ot, go cO 4 er), (te, ka cJ 31 T), (ou, kl cJ 1 V)] ++ gs 4 er cJ 5 E) ++ gs 4 fr cJ 5 F))) 0 0 (rc_A (([(h, rO od fa ot ah te id rt bs kn), (fa, go cO 4 fr), (ot, go cO 4 er), (te, ka cJ 31 T), (ou, kl cJ 1 V)] ++ gs 4 er cJ 5 E) ++ gs 4 fr cJ 5 F)) := by
  refine rh_ofW (cc := c_L_series) (maxL := 12) (ret := (some .int)) (hh := [((0 : Nat), (17 : Nat), (20 : Nat), (13 : Nat)), ((0 : Nat), (17 : Nat), (24 : Nat), (56 : Nat))]) (by decide) rfl ?_
  intro p e s m args below meth c s₁ B hml hv
  obtain ⟨rfl, hP, hK, hD0, hN⟩ := hv
  have hx := B.exec
  have hb := B.bytes
  have hr := B.returns
  have hts0 := atoms_spec (ws := ws_L_series) B.pre
  have htb := vx_table (x := y_L_series) B (hts0 _ List.mem_cons_self)
  have hts : ∀ w ∈ kb, w.before _ s = true := fun w h => hts0 w (List.mem_cons_of_mem _ h)
  have hown : s.vm.findClass R_L = some m.cls := findClass_of_methodNamed B.named
  have hlocks := B.notSynchronized
  have hD := rc_self hD0
  generalize hAe : rc_A (([(h, rO od fa ot ah te id rt bs kn), (fa, go cO 4 fr), (ot, go cO 4 er), (te, ka cJ 31 T), (ou, kl cJ 1 V)] ++ gs 4 er cJ 5 E) ++ gs 4 fr cJ 5 F) = A at hD ⊢
  have hS : va_S A s.heap s.heap [] := va_S.rf
  have hl := lv_entry ([.ref h, .long va, .long vc, .long vd, .long ve, .int (iz zp), .ref ou]) (n := 12) (Nat.le_of_ble_eq_true rfl)
  rw [lg_entry_eq]
  generalize (lg_sl ([.ref h, .long va, .long vc, .long vd, .long ve, .int (iz zp), .ref ou]) ++ List.replicate (12 - (lg_sl ([.ref h, .long va, .long vc, .long vd, .long ve, .int (iz zp), .ref ou])).length) Slot.unset).toArray = ls at hl ⊢
  have hl : lv_has ls 12 [(0, .ref h), (1, .long va), (3, .long vc), (5, .long vd), (7, .long ve), (9, .int (iz zp)), (10, .ref ou)] := hl
  refine lv_aload hx hb d_L_series_0 (lv_at hl 6 rfl) ?_
  refine rz_iconst hx hb d_L_series_2 ?_
  refine lv_aload_n hx hb d_L_series_3 rfl (lv_at hl 0 rfl) ?_
  refine lv_lload_n hx hb d_L_series_4 rfl (lv_at hl 1 rfl) ?_
  refine lv_lload_n hx hb d_L_series_5 rfl (lv_at hl 2 rfl) ?_
  refine lv_lload hx hb d_L_series_6 (lv_at hl 3 rfl) ?_
  refine lv_lload hx hb d_L_series_8 (lv_at hl 4 rfl) ?_
  refine lv_iload hx hb d_L_series_10 (lv_at hl 5 rfl) ?_
  refine rs_calli (va_runV (As := [.long va, .long vc, .long vd, .long ve, .int (iz zp)]) (rest := [.int (iz 0), .ref ou]) ⟨hx, hb, hml, hown, hts⟩ (m_O_series_S l D cJ cO h fa ot ah te id rt bs od kn fr er E F T va vc vd ve zp o hod ho3 ho1 pw hzp hp hn) (cwV 5 hts (kb_gi (kb_c kw_498 (kb_c kw_499 (kb_c kw_500 (kb_c kw_1 (kb_c kw_501 kb_all)))))) rfl rfl rfl (by decide +kernel) ⟨Nat.le_of_ble_eq_true rfl, Nat.le_of_ble_eq_true rfl⟩) ⟨rc_blind, va_recv hK hP (ci := 2) (q0 := 0) rfl rfl, rs_pre (Y := []) (rs_nil (rs_a_2_0 hP)) (rs_nilD (rs_aD_2_0 hD)) hK hN [0, 1, 2, 3] rfl rfl [0, 1] rfl⟩ rfl rfl hl.1 rfl (lv_room (Nat.le_of_ble_eq_true rfl)) d_L_series_12 ⟨Nat.zero_le _, Nat.zero_le _⟩) (rs_a_2_0 hP) (rs_aD_2_0 hD) hS [0, 1, 2, 3] rfl (fun _ => rfl) (fun _ => gs_adr2 (gs_adr _ _ _ _ _ _) (gs_adr _ _ _ _ _ _)) (fun r1 u2 H locs hw2 hP hD hS => ?_)
  have hP := rs_b_2_0 hP
  have hD := rs_bD_2_0 hD
  subst hw2
  have hP : va_P D vC (([(h, rO od fa ot ah te id rt bs kn), (fa, go cO 4 fr), (ot, go cO 4 er), (te, ka cJ 31 (srT (stE F (ro_k va.toInt) E (o + 1)) o (srI T vc vd ve) (pw + 1 - o))), (ou, kl cJ 1 V)] ++ gs 4 er cJ 5 (stE F (ro_k va.toInt) E (o + 1))) ++ gs 4 fr cJ 5 F) H := hP
  have hD : va_D A (([(h, rO od fa ot ah te id rt bs kn), (fa, go cO 4 fr), (ot, go cO 4 er), (te, ka cJ 31 (srT (stE F (ro_k va.toInt) E (o + 1)) o (srI T vc vd ve) (pw + 1 - o))), (ou, kl cJ 1 V)] ++ gs 4 er cJ 5 (stE F (ro_k va.toInt) E (o + 1))) ++ gs 4 fr cJ 5 F) := hD
  refine lv_i2l hx hb d_L_series_15 rfl ?_
  refine rl_st hx hb hK hP hD hS 4 0 rfl rfl 0 d_L_series_16 (fun H locs hP hD hS => ?_)
  have hP : va_P D vC (([(h, rO od fa ot ah te id rt bs kn), (fa, go cO 4 fr), (ot, go cO 4 er), (te, ka cJ 31 (srT (stE F (ro_k va.toInt) E (o + 1)) o (srI T vc vd ve) (pw + 1 - o))), (ou, kl cJ 1 (vp_updL V 0 ((iz (((srT (stE F (ro_k va.toInt) E (o + 1)) o (srI T vc vd ve) (pw + 1 - o)) pw).val : Int))).toInt64))] ++ gs 4 er cJ 5 (stE F (ro_k va.toInt) E (o + 1))) ++ gs 4 fr cJ 5 F) H := hP
  have hD : va_D A (([(h, rO od fa ot ah te id rt bs kn), (fa, go cO 4 fr), (ot, go cO 4 er), (te, ka cJ 31 (srT (stE F (ro_k va.toInt) E (o + 1)) o (srI T vc vd ve) (pw + 1 - o))), (ou, kl cJ 1 (vp_updL V 0 ((iz (((srT (stE F (ro_k va.toInt) E (o + 1)) o (srI T vc vd ve) (pw + 1 - o)) pw).val : Int))).toInt64))] ++ gs 4 er cJ 5 (stE F (ro_k va.toInt) E (o + 1))) ++ gs 4 fr cJ 5 F) := hD
  refine lv_goto (tgt := 28) hx hb d_L_series_17 (by decide) ?_
  refine rz_iconst hx hb d_L_series_28 ?_
  exact W.iret hx hb hr (fun t ht hW => ⟨⟨_, (), rfl, rfl, rc_out ht hP⟩, hS.F ht⟩) hS.2.2 d_L_series_29
set_option maxHeartbeats 4000000 in
set_option maxRecDepth 100000 in
theorem h_L_series_S (l : Launch) (D : va_G) (cJ cO : ClassId) (h fa ot ah te id rt bs : Nat) (od kn : Int) (ou : Nat) (V : Nat → Int64) (fr er : Nat → Nat) (E F : Nat → Nat → ro_K) (T : Nat → ro_K) (va vc vd ve : Int64) (zp : Int) (o : Nat) (hod : od = (o : Int)) (ho3 : o ≤ 3) (ho1 : 1 ≤ o) (pw : Nat) (hzp : zp = (pw : Int)) (hp : pw ≤ 30) (hn : (stE F (ro_k va.toInt) E (o + 1)) o 0 ≠ 0) : Met l y_L_series ws_L_series ({ frames := 4, cells := 0, slots := 0, locals := 107 }) (rc_Pc D vC [(cJ, .long), (cO, .array .long)] [.ref h, .long va, .long vc, .long vd, .long ve, .int (iz zp), .ref ou] ([(h, rO od fa ot ah te id rt bs kn), (fa, go cO 4 fr), (ot, go cO 4 er), (te, ka cJ 31 T), (ou, kl cJ 1 V)] ++ (gs 4 er cJ 5 E ++ (gs 4 fr cJ 5 F)))) (va_Qi (fun (q : Int32) (_ : Unit) => q = iz 0) (fun _ t => va_P D vC ([(h, rO od fa ot ah te id rt bs kn), (fa, go cO 4 fr), (ot, go cO 4 er), (te, ka cJ 31 (srT (stE F (ro_k va.toInt) E (o + 1)) o (srI T vc vd ve) (pw + 1 - o))), (ou, kl cJ 1 (vp_updL V 0 ((iz (((srT (stE F (ro_k va.toInt) E (o + 1)) o (srI T vc vd ve) (pw + 1 - o)) pw).val : Int)).toInt64)))] ++ (gs 4 er cJ 5 (stE F (ro_k va.toInt) E (o + 1)) ++ (gs 4 fr cJ 5 F))) t.heap) (rc_A ([(h, rO od fa ot ah te id rt bs kn), (fa, go cO 4 fr), (ot, go cO 4 er), (te, ka cJ 31 T), (ou, kl cJ 1 V)] ++ (gs 4 er cJ 5 E ++ (gs 4 fr cJ 5 F))))) 0 0 (rc_A ([(h, rO od fa ot ah te id rt bs kn), (fa, go cO 4 fr), (ot, go cO 4 er), (te, ka cJ 31 T), (ou, kl cJ 1 V)] ++ (gs 4 er cJ 5 E ++ (gs 4 fr cJ 5 F)))) := h_L_series l D cJ cO h fa ot ah te id rt bs od kn ou V fr er E F T va vc vd ve zp o hod ho3 ho1 pw hzp hp hn

set_option maxHeartbeats 4000000 in
set_option maxRecDepth 100000 in
theorem x_O_series_S (l : Launch) (D : va_G) (hst : l.stackTraces = false) (sa : Nat → Nat) (cJ cO : ClassId) (h fa ot ah te id rt bs : Nat) (od kn : Int) (fr er : Nat → Nat) (E F : Nat → Nat → ro_K) (T : Nat → ro_K) (va vc vd ve : Int64) (zp : Int) (o : Nat) (hod : od = (o : Int)) (ho3 : o ≤ 3) (hzpl : -2147483648 ≤ zp) (hzph : zp < 2147483648) (hbad : ¬ (0 ≤ zp ∧ zp ≤ 30)) : vx_Met l y_O_series ws_O_series ({ frames := 6, cells := 1, slots := 6, locals := 100 }) (rx_Px D vC [(cJ, .long), (cO, .array .long)] [.ref h, .long va, .long vc, .long vd, .long ve, .int (iz zp)] ([(h, rO od fa ot ah te id rt bs kn), (fa, go cO 4 fr), (ot, go cO 4 er), (te, ka cJ 31 T)] ++ (gs 4 er cJ 5 E ++ (gs 4 fr cJ 5 F))) sa) (va_Qi (fun (_ : Int32) (_ : Unit) => False) (fun _ _ => True) (rc_A ([(h, rO od fa ot ah te id rt bs kn), (fa, go cO 4 fr), (ot, go cO 4 er), (te, ka cJ 31 T)] ++ (gs 4 er cJ 5 E ++ (gs 4 fr cJ 5 F))))) (vx_X (fun (_ : Unit) => True) (fun E9 _ t => E9 = xI ∧ va_P D vC ([(h, rO od fa ot ah te id rt bs kn), (fa, go cO 4 fr), (ot, go cO 4 er), (te, ka cJ 31 T)] ++ (gs 4 er cJ 5 E ++ (gs 4 fr cJ 5 F))) t.heap) (rc_A ([(h, rO od fa ot ah te id rt bs kn), (fa, go cO 4 fr), (ot, go cO 4 er), (te, ka cJ 31 T)] ++ (gs 4 er cJ 5 E ++ (gs 4 fr cJ 5 F))))) 1 6 (rc_A ([(h, rO od fa ot ah te id rt bs kn), (fa, go cO 4 fr), (ot, go cO 4 er), (te, ka cJ 31 T)] ++ (gs 4 er cJ 5 E ++ (gs 4 fr cJ 5 F)))) := x_O_series l D hst sa cJ cO h fa ot ah te id rt bs od kn fr er E F T va vc vd ve zp o hod ho3 hzpl hzph hbad
set_option maxHeartbeats 4000000 in
set_option maxRecDepth 100000 in
theorem h_L_series_t (l : Launch) (D : va_G) (hst : l.stackTraces = false) (sa : Nat → Nat) (cJ cO : ClassId) (h fa ot ah te id rt bs : Nat) (od kn : Int) (ou : Nat) (V : Nat → Int64) (fr er : Nat → Nat) (E F : Nat → Nat → ro_K) (T : Nat → ro_K) (va vc vd ve : Int64) (zp : Int) (o : Nat) (hod : od = (o : Int)) (ho3 : o ≤ 3) (hzpl : -2147483648 ≤ zp) (hzph : zp < 2147483648) (hbad : ¬ (0 ≤ zp ∧ zp ≤ 30)) : Met l y_L_series ws_L_series ({ frames := 7, cells := 1, slots := 6, locals := 130 }) (rx_Px D vC [(cJ, .long), (cO, .array .long)] [.ref h, .long va, .long vc, .long vd, .long ve, .int (iz zp), .ref ou] (([(h, rO od fa ot ah te id rt bs kn), (fa, go cO 4 fr), (ot, go cO 4 er), (te, ka cJ 31 T), (ou, kl cJ 1 V)] ++ gs 4 er cJ 5 E) ++ gs 4 fr cJ 5 F) sa) (va_Qi (fun (q : Int32) (_ : Unit) => q = iz 1) (fun _ t => va_P D vC (([(h, rO od fa ot ah te id rt bs kn), (fa, go cO 4 fr), (ot, go cO 4 er), (te, ka cJ 31 T), (ou, kl cJ 1 V)] ++ gs 4 er cJ 5 E) ++ gs 4 fr cJ 5 F) t.heap) (rc_A (([(h, rO od fa ot ah te id rt bs kn), (fa, go cO 4 fr), (ot, go cO 4 er), (te, ka cJ 31 T), (ou, kl cJ 1 V)] ++ gs 4 er cJ 5 E) ++ gs 4 fr cJ 5 F))) 1 6 (rc_A (([(h, rO od fa ot ah te id rt bs kn), (fa, go cO 4 fr), (ot, go cO 4 er), (te, ka cJ 31 T), (ou, kl cJ 1 V)] ++ gs 4 er cJ 5 E) ++ gs 4 fr cJ 5 F)) := by
  refine rh_ofW (cc := c_L_series) (maxL := 12) (ret := (some .int)) (hh := [((0 : Nat), (17 : Nat), (20 : Nat), (13 : Nat)), ((0 : Nat), (17 : Nat), (24 : Nat), (56 : Nat))]) (by decide) rfl ?_
  intro p e s m args below meth c s₁ B hml hv
  obtain ⟨⟨rfl, hP, hK, hD0, hN⟩, hE⟩ := hv
  have hx := B.exec
  have hb := B.bytes
  have hr := B.returns
  have hts0 := atoms_spec (ws := ws_L_series) B.pre
  have htb := vx_table (x := y_L_series) B (hts0 _ List.mem_cons_self)
  have hts : ∀ w ∈ kb, w.before _ s = true := fun w h => hts0 w (List.mem_cons_of_mem _ h)
  have hown : s.vm.findClass R_L = some m.cls := findClass_of_methodNamed B.named
  have hlocks := B.notSynchronized
  have hD := rc_self hD0
  generalize hAe : rc_A (([(h, rO od fa ot ah te id rt bs kn), (fa, go cO 4 fr), (ot, go cO 4 er), (te, ka cJ 31 T), (ou, kl cJ 1 V)] ++ gs 4 er cJ 5 E) ++ gs 4 fr cJ 5 F) = A at hD hE ⊢
  have hS : va_S A s.heap s.heap [] := va_S.rf
  have hl := lv_entry ([.ref h, .long va, .long vc, .long vd, .long ve, .int (iz zp), .ref ou]) (n := 12) (Nat.le_of_ble_eq_true rfl)
  rw [lg_entry_eq]
  generalize (lg_sl ([.ref h, .long va, .long vc, .long vd, .long ve, .int (iz zp), .ref ou]) ++ List.replicate (12 - (lg_sl ([.ref h, .long va, .long vc, .long vd, .long ve, .int (iz zp), .ref ou])).length) Slot.unset).toArray = ls at hl ⊢
  have hl : lv_has ls 12 [(0, .ref h), (1, .long va), (3, .long vc), (5, .long vd), (7, .long ve), (9, .int (iz zp)), (10, .ref ou)] := hl
  refine lv_aload hx hb d_L_series_0 (lv_at hl 6 rfl) ?_
  refine rz_iconst hx hb d_L_series_2 ?_
  refine lv_aload_n hx hb d_L_series_3 rfl (lv_at hl 0 rfl) ?_
  refine lv_lload_n hx hb d_L_series_4 rfl (lv_at hl 1 rfl) ?_
  refine lv_lload_n hx hb d_L_series_5 rfl (lv_at hl 2 rfl) ?_
  refine lv_lload hx hb d_L_series_6 (lv_at hl 3 rfl) ?_
  refine lv_lload hx hb d_L_series_8 (lv_at hl 4 rfl) ?_
  refine lv_iload hx hb d_L_series_10 (lv_at hl 5 rfl) ?_
  refine rxT_calli (vx_runV (As := [.long va, .long vc, .long vd, .long ve, .int (iz zp)]) (rest := [.int (iz 0), .ref ou]) ⟨hx, hb, hml, hown, hts⟩ (x_O_series_S l D hst sa cJ cO h fa ot ah te id rt bs od kn fr er E F T va vc vd ve zp o hod ho3 hzpl hzph hbad) (cwV 5 hts (kb_gi (kb_c kw_498 (kb_c kw_499 (kb_c kw_500 (kb_c kw_1 (kb_c kw_501 kb_all)))))) rfl rfl rfl (by decide +kernel) ⟨(Nat.le_of_ble_eq_true rfl), (Nat.le_of_ble_eq_true rfl)⟩) ⟨rx_blind, va_recv hK hP (ci := 2) (q0 := 0) rfl rfl, fun U h8 h9 => ⟨(rs_pre (Y := []) (rs_nil (rs_a_2_0 hP)) (rs_nilD (rs_aD_2_0 hD)) hK hN [0, 1, 2, 3] rfl rfl [0, 1] rfl) U h8 h9, hE.go hS (rs_in (rs_nilD (rs_aD_2_0 hD)) (is := [0, 1, 2, 3]) rfl) h8 h9⟩⟩ rfl rfl hl.1 rfl (lv_room (Nat.le_of_ble_eq_true rfl)) d_L_series_12 ⟨(Nat.le_of_ble_eq_true rfl), (Nat.le_of_ble_eq_true rfl)⟩) (rs_nil (rs_a_2_0 hP)) (rs_nilD (rs_aD_2_0 hD)) hS [0, 1, 2, 3] rfl (fun _ => rfl) (fun _ => gs_adr2 (gs_adr _ _ _ _ _ _) (gs_adr _ _ _ _ _ _)) (fun ce q9 u1 H locs hw1 hP hD hS hce hcv hcl => ?_)
  have hP := rs_b_2_0 (rs_nilR hP)
  have hD := rs_bD_2_0 (rs_nilRD hD)
  have hP : va_P D vC (([(h, rO od fa ot ah te id rt bs kn), (fa, go cO 4 fr), (ot, go cO 4 er), (te, ka cJ 31 T), (ou, kl cJ 1 V)] ++ gs 4 er cJ 5 E) ++ gs 4 fr cJ 5 F) H := hP
  have hD : va_D A (([(h, rO od fa ot ah te id rt bs kn), (fa, go cO 4 fr), (ot, go cO 4 er), (te, ka cJ 31 T), (ou, kl cJ 1 V)] ++ gs 4 er cJ 5 E) ++ gs 4 fr cJ 5 F) := hD
  refine vx_catch (name := xI) hown [] ⟨0, 17, 20, 13⟩ [⟨0, 17, 24, 56⟩] htb (fun z hz => absurd hz List.not_mem_nil) rfl (by decide) (hts _ kw_217) (va_Nw.use rfl hE.1.1) hce hcv hcl ?_
  refine lv_astore (lv' := [(11, .ref q9), (0, .ref h), (1, .long va), (3, .long vc), (5, .long vd), (7, .long ve), (9, .int (iz zp)), (10, .ref ou)]) hx hb d_L_series_20 hl (by decide) rfl (fun ls hl => ?_)
  refine rz_iconst hx hb d_L_series_22 ?_
  exact W.iret hx hb hr (fun t ht hW => ⟨⟨_, (), rfl, rfl, rc_out ht hP⟩, hS.F ht⟩) hS.2.2 d_L_series_23
set_option maxHeartbeats 4000000 in
set_option maxRecDepth 100000 in
theorem h_L_series_t_S (l : Launch) (D : va_G) (hst : l.stackTraces = false) (sa : Nat → Nat) (cJ cO : ClassId) (h fa ot ah te id rt bs : Nat) (od kn : Int) (ou : Nat) (V : Nat → Int64) (fr er : Nat → Nat) (E F : Nat → Nat → ro_K) (T : Nat → ro_K) (va vc vd ve : Int64) (zp : Int) (o : Nat) (hod : od = (o : Int)) (ho3 : o ≤ 3) (hzpl : -2147483648 ≤ zp) (hzph : zp < 2147483648) (hbad : ¬ (0 ≤ zp ∧ zp ≤ 30)) : Met l y_L_series ws_L_series ({ frames := 7, cells := 1, slots := 6, locals := 130 }) (rx_Px D vC [(cJ, .long), (cO, .array .long)] [.ref h, .long va, .long vc, .long vd, .long ve, .int (iz zp), .ref ou] ([(h, rO od fa ot ah te id rt bs kn), (fa, go cO 4 fr), (ot, go cO 4 er), (te, ka cJ 31 T), (ou, kl cJ 1 V)] ++ (gs 4 er cJ 5 E ++ (gs 4 fr cJ 5 F))) sa) (va_Qi (fun (q : Int32) (_ : Unit) => q = iz 1) (fun _ t => va_P D vC ([(h, rO od fa ot ah te id rt bs kn), (fa, go cO 4 fr), (ot, go cO 4 er), (te, ka cJ 31 T), (ou, kl cJ 1 V)] ++ (gs 4 er cJ 5 E ++ (gs 4 fr cJ 5 F))) t.heap) (rc_A ([(h, rO od fa ot ah te id rt bs kn), (fa, go cO 4 fr), (ot, go cO 4 er), (te, ka cJ 31 T), (ou, kl cJ 1 V)] ++ (gs 4 er cJ 5 E ++ (gs 4 fr cJ 5 F))))) 1 6 (rc_A ([(h, rO od fa ot ah te id rt bs kn), (fa, go cO 4 fr), (ot, go cO 4 er), (te, ka cJ 31 T), (ou, kl cJ 1 V)] ++ (gs 4 er cJ 5 E ++ (gs 4 fr cJ 5 F)))) := h_L_series_t l D hst sa cJ cO h fa ot ah te id rt bs od kn ou V fr er E F T va vc vd ve zp o hod ho3 hzpl hzph hbad

set_option maxHeartbeats 4000000 in
set_option maxRecDepth 100000 in
theorem x_O_series_p_S (l : Launch) (D : va_G) (hst : l.stackTraces = false) (sa : Nat → Nat) (cJ cO : ClassId) (h fa ot ah te id rt bs : Nat) (od kn : Int) (fr er : Nat → Nat) (E F : Nat → Nat → ro_K) (T : Nat → ro_K) (va vc vd ve : Int64) (zp : Int) (o : Nat) (hod : od = (o : Int)) (ho3 : o ≤ 3) (hp0 : 0 ≤ zp) (hp1 : zp ≤ 30) (hn : (stE F (ro_k va.toInt) E (o + 1)) o 0 = 0) : vx_Met l y_O_series ws_O_series ({ frames := 6, cells := 1, slots := 6, locals := 100 }) (rx_Px D vC [(cJ, .long), (cO, .array .long)] [.ref h, .long va, .long vc, .long vd, .long ve, .int (iz zp)] ([(h, rO od fa ot ah te id rt bs kn), (fa, go cO 4 fr), (ot, go cO 4 er), (te, ka cJ 31 T)] ++ (gs 4 er cJ 5 E ++ (gs 4 fr cJ 5 F))) sa) (va_Qi (fun (_ : Int32) (_ : Unit) => False) (fun _ _ => True) (rc_A ([(h, rO od fa ot ah te id rt bs kn), (fa, go cO 4 fr), (ot, go cO 4 er), (te, ka cJ 31 T)] ++ (gs 4 er cJ 5 E ++ (gs 4 fr cJ 5 F))))) (vx_X (fun (_ : Unit) => True) (fun E9 _ t => E9 = xA ∧ va_P D vC ([(h, rO od fa ot ah te id rt bs kn), (fa, go cO 4 fr), (ot, go cO 4 er), (te, ka cJ 31 T)] ++ (gs 4 er cJ 5 (stE F (ro_k va.toInt) E (o + 1)) ++ (gs 4 fr cJ 5 F))) t.heap) (rc_A ([(h, rO od fa ot ah te id rt bs kn), (fa, go cO 4 fr), (ot, go cO 4 er), (te, ka cJ 31 T)] ++ (gs 4 er cJ 5 E ++ (gs 4 fr cJ 5 F))))) 1 6 (rc_A ([(h, rO od fa ot ah te id rt bs kn), (fa, go cO 4 fr), (ot, go cO 4 er), (te, ka cJ 31 T)] ++ (gs 4 er cJ 5 E ++ (gs 4 fr cJ 5 F)))) := x_O_series_p l D hst sa cJ cO h fa ot ah te id rt bs od kn fr er E F T va vc vd ve zp o hod ho3 hp0 hp1 hn
set_option maxHeartbeats 4000000 in
set_option maxRecDepth 100000 in
theorem h_L_series_p_t (l : Launch) (D : va_G) (hst : l.stackTraces = false) (sa : Nat → Nat) (cJ cO : ClassId) (h fa ot ah te id rt bs : Nat) (od kn : Int) (ou : Nat) (V : Nat → Int64) (fr er : Nat → Nat) (E F : Nat → Nat → ro_K) (T : Nat → ro_K) (va vc vd ve : Int64) (zp : Int) (o : Nat) (hod : od = (o : Int)) (ho3 : o ≤ 3) (hp0 : 0 ≤ zp) (hp1 : zp ≤ 30) (hn : (stE F (ro_k va.toInt) E (o + 1)) o 0 = 0) : Met l y_L_series ws_L_series ({ frames := 7, cells := 1, slots := 6, locals := 130 }) (rx_Px D vC [(cJ, .long), (cO, .array .long)] [.ref h, .long va, .long vc, .long vd, .long ve, .int (iz zp), .ref ou] (([(h, rO od fa ot ah te id rt bs kn), (fa, go cO 4 fr), (ot, go cO 4 er), (te, ka cJ 31 T), (ou, kl cJ 1 V)] ++ gs 4 er cJ 5 E) ++ gs 4 fr cJ 5 F) sa) (va_Qi (fun (q : Int32) (_ : Unit) => q = iz 2) (fun _ t => va_P D vC (([(h, rO od fa ot ah te id rt bs kn), (fa, go cO 4 fr), (ot, go cO 4 er), (te, ka cJ 31 T), (ou, kl cJ 1 V)] ++ gs 4 er cJ 5 (stE F (ro_k va.toInt) E (o + 1))) ++ gs 4 fr cJ 5 F) t.heap) (rc_A (([(h, rO od fa ot ah te id rt bs kn), (fa, go cO 4 fr), (ot, go cO 4 er), (te, ka cJ 31 T), (ou, kl cJ 1 V)] ++ gs 4 er cJ 5 E) ++ gs 4 fr cJ 5 F))) 1 6 (rc_A (([(h, rO od fa ot ah te id rt bs kn), (fa, go cO 4 fr), (ot, go cO 4 er), (te, ka cJ 31 T), (ou, kl cJ 1 V)] ++ gs 4 er cJ 5 E) ++ gs 4 fr cJ 5 F)) := by
  refine rh_ofW (cc := c_L_series) (maxL := 12) (ret := (some .int)) (hh := [((0 : Nat), (17 : Nat), (20 : Nat), (13 : Nat)), ((0 : Nat), (17 : Nat), (24 : Nat), (56 : Nat))]) (by decide) rfl ?_
  intro p e s m args below meth c s₁ B hml hv
  obtain ⟨⟨rfl, hP, hK, hD0, hN⟩, hE⟩ := hv
  have hx := B.exec
  have hb := B.bytes
  have hr := B.returns
  have hts0 := atoms_spec (ws := ws_L_series) B.pre
  have htb := vx_table (x := y_L_series) B (hts0 _ List.mem_cons_self)
  have hts : ∀ w ∈ kb, w.before _ s = true := fun w h => hts0 w (List.mem_cons_of_mem _ h)
  have hown : s.vm.findClass R_L = some m.cls := findClass_of_methodNamed B.named
  have hlocks := B.notSynchronized
  have hD := rc_self hD0
  generalize hAe : rc_A (([(h, rO od fa ot ah te id rt bs kn), (fa, go cO 4 fr), (ot, go cO 4 er), (te, ka cJ 31 T), (ou, kl cJ 1 V)] ++ gs 4 er cJ 5 E) ++ gs 4 fr cJ 5 F) = A at hD hE ⊢
  have hS : va_S A s.heap s.heap [] := va_S.rf
  have hl := lv_entry ([.ref h, .long va, .long vc, .long vd, .long ve, .int (iz zp), .ref ou]) (n := 12) (Nat.le_of_ble_eq_true rfl)
  rw [lg_entry_eq]
  generalize (lg_sl ([.ref h, .long va, .long vc, .long vd, .long ve, .int (iz zp), .ref ou]) ++ List.replicate (12 - (lg_sl ([.ref h, .long va, .long vc, .long vd, .long ve, .int (iz zp), .ref ou])).length) Slot.unset).toArray = ls at hl ⊢
  have hl : lv_has ls 12 [(0, .ref h), (1, .long va), (3, .long vc), (5, .long vd), (7, .long ve), (9, .int (iz zp)), (10, .ref ou)] := hl
  refine lv_aload hx hb d_L_series_0 (lv_at hl 6 rfl) ?_
  refine rz_iconst hx hb d_L_series_2 ?_
  refine lv_aload_n hx hb d_L_series_3 rfl (lv_at hl 0 rfl) ?_
  refine lv_lload_n hx hb d_L_series_4 rfl (lv_at hl 1 rfl) ?_
  refine lv_lload_n hx hb d_L_series_5 rfl (lv_at hl 2 rfl) ?_
  refine lv_lload hx hb d_L_series_6 (lv_at hl 3 rfl) ?_
  refine lv_lload hx hb d_L_series_8 (lv_at hl 4 rfl) ?_
  refine lv_iload hx hb d_L_series_10 (lv_at hl 5 rfl) ?_
  refine rxT_calli (vx_runV (As := [.long va, .long vc, .long vd, .long ve, .int (iz zp)]) (rest := [.int (iz 0), .ref ou]) ⟨hx, hb, hml, hown, hts⟩ (x_O_series_p_S l D hst sa cJ cO h fa ot ah te id rt bs od kn fr er E F T va vc vd ve zp o hod ho3 hp0 hp1 hn) (cwV 5 hts (kb_gi (kb_c kw_498 (kb_c kw_499 (kb_c kw_500 (kb_c kw_1 (kb_c kw_501 kb_all)))))) rfl rfl rfl (by decide +kernel) ⟨(Nat.le_of_ble_eq_true rfl), (Nat.le_of_ble_eq_true rfl)⟩) ⟨rx_blind, va_recv hK hP (ci := 2) (q0 := 0) rfl rfl, fun U h8 h9 => ⟨(rs_pre (Y := []) (rs_nil (rs_a_2_0 hP)) (rs_nilD (rs_aD_2_0 hD)) hK hN [0, 1, 2, 3] rfl rfl [0, 1] rfl) U h8 h9, hE.go hS (rs_in (rs_nilD (rs_aD_2_0 hD)) (is := [0, 1, 2, 3]) rfl) h8 h9⟩⟩ rfl rfl hl.1 rfl (lv_room (Nat.le_of_ble_eq_true rfl)) d_L_series_12 ⟨(Nat.le_of_ble_eq_true rfl), (Nat.le_of_ble_eq_true rfl)⟩) (rs_nil (rs_a_2_0 hP)) (rs_nilD (rs_aD_2_0 hD)) hS [0, 1, 2, 3] rfl (fun _ => rfl) (fun _ => gs_adr2 (gs_adr _ _ _ _ _ _) (gs_adr _ _ _ _ _ _)) (fun ce q9 u1 H locs hw1 hP hD hS hce hcv hcl => ?_)
  have hP := rs_b_2_0 (rs_nilR hP)
  have hD := rs_bD_2_0 (rs_nilRD hD)
  have hP : va_P D vC (([(h, rO od fa ot ah te id rt bs kn), (fa, go cO 4 fr), (ot, go cO 4 er), (te, ka cJ 31 T), (ou, kl cJ 1 V)] ++ gs 4 er cJ 5 (stE F (ro_k va.toInt) E (o + 1))) ++ gs 4 fr cJ 5 F) H := hP
  have hD : va_D A (([(h, rO od fa ot ah te id rt bs kn), (fa, go cO 4 fr), (ot, go cO 4 er), (te, ka cJ 31 T), (ou, kl cJ 1 V)] ++ gs 4 er cJ 5 (stE F (ro_k va.toInt) E (o + 1))) ++ gs 4 fr cJ 5 F) := hD
  refine vx_catch (name := xA) hown [⟨0, 17, 20, 13⟩] ⟨0, 17, 24, 56⟩ [] htb (fun z hz => by rcases List.mem_singleton.mp hz with rfl; exact Or.inr ⟨by decide, xI, hts _ kw_217, hE.1.2.2.2.2.2.2.2⟩) rfl (by decide) (hts _ kw_497) (va_Nw.use rfl hE.1.2.2.1) hce hcv hcl ?_
  refine lv_astore (lv' := [(11, .ref q9), (0, .ref h), (1, .long va), (3, .long vc), (5, .long vd), (7, .long ve), (9, .int (iz zp)), (10, .ref ou)]) hx hb d_L_series_24 hl (by decide) rfl (fun ls hl => ?_)
  refine rz_iconst hx hb d_L_series_26 ?_
  exact W.iret hx hb hr (fun t ht hW => ⟨⟨_, (), rfl, rfl, rc_out ht hP⟩, hS.F ht⟩) hS.2.2 d_L_series_27
set_option maxHeartbeats 4000000 in
set_option maxRecDepth 100000 in
theorem h_L_series_p_t_S (l : Launch) (D : va_G) (hst : l.stackTraces = false) (sa : Nat → Nat) (cJ cO : ClassId) (h fa ot ah te id rt bs : Nat) (od kn : Int) (ou : Nat) (V : Nat → Int64) (fr er : Nat → Nat) (E F : Nat → Nat → ro_K) (T : Nat → ro_K) (va vc vd ve : Int64) (zp : Int) (o : Nat) (hod : od = (o : Int)) (ho3 : o ≤ 3) (hp0 : 0 ≤ zp) (hp1 : zp ≤ 30) (hn : (stE F (ro_k va.toInt) E (o + 1)) o 0 = 0) : Met l y_L_series ws_L_series ({ frames := 7, cells := 1, slots := 6, locals := 130 }) (rx_Px D vC [(cJ, .long), (cO, .array .long)] [.ref h, .long va, .long vc, .long vd, .long ve, .int (iz zp), .ref ou] ([(h, rO od fa ot ah te id rt bs kn), (fa, go cO 4 fr), (ot, go cO 4 er), (te, ka cJ 31 T), (ou, kl cJ 1 V)] ++ (gs 4 er cJ 5 E ++ (gs 4 fr cJ 5 F))) sa) (va_Qi (fun (q : Int32) (_ : Unit) => q = iz 2) (fun _ t => va_P D vC ([(h, rO od fa ot ah te id rt bs kn), (fa, go cO 4 fr), (ot, go cO 4 er), (te, ka cJ 31 T), (ou, kl cJ 1 V)] ++ (gs 4 er cJ 5 (stE F (ro_k va.toInt) E (o + 1)) ++ (gs 4 fr cJ 5 F))) t.heap) (rc_A ([(h, rO od fa ot ah te id rt bs kn), (fa, go cO 4 fr), (ot, go cO 4 er), (te, ka cJ 31 T), (ou, kl cJ 1 V)] ++ (gs 4 er cJ 5 E ++ (gs 4 fr cJ 5 F))))) 1 6 (rc_A ([(h, rO od fa ot ah te id rt bs kn), (fa, go cO 4 fr), (ot, go cO 4 er), (te, ka cJ 31 T), (ou, kl cJ 1 V)] ++ (gs 4 er cJ 5 E ++ (gs 4 fr cJ 5 F)))) := h_L_series_p_t l D hst sa cJ cO h fa ot ah te id rt bs od kn ou V fr er E F T va vc vd ve zp o hod ho3 hp0 hp1 hn

end WK
