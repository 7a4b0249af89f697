section WK
variable {p : Program} {l : Launch} {e : Env} {R : Room} {s : State} {m : MethodId} {args : Array Value} {below : List Frame} {meth : Method} {c : Code} {H : Heap} {locs : List Loc} {cells slots : Nat} {Q : State → Prop} {D : va_G} {A : Nat → Prop} {H0 : Heap}
theorem up2_id (M : Nat → Nat → ro_K) (i j : Nat) : up2 M i j (M i j) = M := by
  funext a b
  unfold up2
  by_cases h : a = i ∧ b = j
  · rw [if_pos h, h.1, h.2]
  · rw [if_neg h]
/-- whether 0 is made at the first k powers -/
def slB (F : Nat → Nat → ro_K) (o : Nat) (a : Nat → ro_K) : Nat → Bool
  | 0 => true
  | k + 1 => slB F o a k && decide (maS F o a (k : Int) 13 = 0)
theorem slB_false {F : Nat → Nat → ro_K} {o : Nat} {a : Nat → ro_K} {k : Nat} (h : slB F o a k = false) : ∀ d, slB F o a (k + d) = false
  | 0 => h
  | d + 1 => by
    show (slB F o a (k + d) && _) = false
    rw [slB_false h d]
    rfl
/-- the terms of a series, k of them behind the first ones -/
def srT (E : Nat → Nat → ro_K) (o : Nat) (T : Nat → ro_K) : Nat → Nat → ro_K
  | 0 => T
  | k + 1 => va_up (srT E o T k) (o + k) (ntV E o (srT E o T k) (o + k))
def srI (T : Nat → ro_K) (c d e : Int64) : Nat → ro_K := va_up (va_up (va_up T 0 (ro_k c.toInt)) 1 (ro_k d.toInt)) 2 (ro_k e.toInt)
def ws_O_needFactorPower : List Cond := .code y_O_needFactorPower c_O_needFactorPower 3 none :: kb
set_option maxHeartbeats 4000000 in
set_option maxRecDepth 100000 in
/-- a factor and power that is there -/
theorem m_O_needFactorPower (l : Launch) (D : va_G) (cJ cO : ClassId) (h fa ot ah te id rt bs : Nat) (od kn : Int) (zi zp : Int) (o : Nat) (hod : od = (o : Int)) (ho3 : o ≤ 3) (hi0 : 0 ≤ zi) (hi1 : zi ≤ od) (hp0 : 0 ≤ zp) (hp1 : zp < 5) : Met l y_O_needFactorPower ws_O_needFactorPower ({ frames := 0, cells := 0, slots := 0, locals := 0 }) (rc_Pc D vC [] [.ref h, .int (iz zi), .int (iz zp)] [(h, rO od fa ot ah te id rt bs kn)]) (va_Qv (fun (_ : Unit) => True) (fun _ t => va_P D vC [(h, rO od fa ot ah te id rt bs kn)] t.heap) (rc_A [(h, rO od fa ot ah te id rt bs kn)])) 0 0 (rc_A [(h, rO od fa ot ah te id rt bs kn)]) := by
  refine Met.ofW (cc := c_O_needFactorPower) (maxL := 3) (ret := none) (by decide) rfl ?_
  intro p e s m args below meth c s₁ B hml hv
  obtain ⟨rfl, hP, hK, hD0, hN⟩ := hv
  have hx := B.exec
  have hb := B.bytes
  have hr := B.returns
  have hts0 := atoms_spec (ws := ws_O_needFactorPower) B.pre
  have hts : ∀ w ∈ kb, w.before _ s = true := fun w h => hts0 w (List.mem_cons_of_mem _ h)
  have hown : s.vm.findClass R_O = some m.cls := findClass_of_methodNamed B.named
  have hlocks := B.notSynchronized
  have hD := rc_self hD0
  generalize hAe : rc_A [(h, rO od fa ot ah te id rt bs kn)] = A at hD ⊢
  have hS : va_S A s.heap s.heap [] := va_S.rf
  have hl := lv_entry ([.ref h, .int (iz zi), .int (iz zp)]) (n := 3) (Nat.le_of_ble_eq_true rfl)
  rw [lg_entry_eq]
  generalize (lg_sl ([.ref h, .int (iz zi), .int (iz zp)]) ++ List.replicate (3 - (lg_sl ([.ref h, .int (iz zi), .int (iz zp)])).length) Slot.unset).toArray = ls at hl ⊢

  have hl : lv_has ls 3 [(0, .ref h), (1, .int (iz zi)), (2, .int (iz zp))] := hl
  refine lv_iload_n hx hb d_O_needFactorPower_0 rfl (lv_at hl 1 rfl) ?_
  refine rz_if_lt (tgt := 21) hx hb d_O_needFactorPower_1 (by decide) (fun hc1 => ?_) (fun hc1 => ?_)
  · omega
  · refine lv_iload_n hx hb d_O_needFactorPower_4 rfl (lv_at hl 1 rfl) ?_
    refine lv_aload_n hx hb d_O_needFactorPower_5 rfl (lv_at hl 0 rfl) ?_
    refine va_get (D := D) (ci := 2) (v := .int (iz od)) (C := R_O) (T := T_O) (N := 9) hx hb hts in_O hown hK hP 0 rfl rfl 0 (by decide) (hts _ kw_83) (fun _ h9 => h9) rfl d_O_needFactorPower_6 ?_
    refine rz_icmp_gt (tgt := 21) hx hb d_O_needFactorPower_9 (by decide) (fun hc2 => ?_) (fun hc2 => ?_)
    · omega
    · refine lv_iload_n hx hb d_O_needFactorPower_12 rfl (lv_at hl 2 rfl) ?_
      refine rz_if_lt (tgt := 21) hx hb d_O_needFactorPower_13 (by decide) (fun hc3 => ?_) (fun hc3 => ?_)
      · omega
      · refine lv_iload_n hx hb d_O_needFactorPower_16 rfl (lv_at hl 2 rfl) ?_
        refine rz_iconst hx hb d_O_needFactorPower_17 ?_
        refine rz_icmp_lt (tgt := 31) hx hb d_O_needFactorPower_18 (by decide) (fun hc4 => ?_) (fun hc4 => ?_)
        · exact W.vret hx hb hr (fun t ht hW => ⟨⟨(), rfl, trivial, rc_out ht hP⟩, hS.F ht⟩) hS.2.2 d_O_needFactorPower_31
        · omega
def ws_O_needHandPower : List Cond := .code y_O_needHandPower c_O_needHandPower 2 none :: kb
set_option maxHeartbeats 4000000 in
set_option maxRecDepth 100000 in
/-- a power that is there -/
theorem m_O_needHandPower (l : Launch) (D : va_G) (cJ cO : ClassId) (h fa ot ah te id rt bs : Nat) (od kn : Int) (zp : Int) (hp0 : 0 ≤ zp) (hp1 : zp < 13) : Met l y_O_needHandPower ws_O_needHandPower ({ frames := 0, cells := 0, slots := 0, locals := 0 }) (rc_Pc D vC [] [.ref h, .int (iz zp)] [(h, rO od fa ot ah te id rt bs kn)]) (va_Qv (fun (_ : Unit) => True) (fun _ t => va_P D vC [(h, rO od fa ot ah te id rt bs kn)] t.heap) (rc_A [(h, rO od fa ot ah te id rt bs kn)])) 0 0 (rc_A [(h, rO od fa ot ah te id rt bs kn)]) := by
  refine Met.ofW (cc := c_O_needHandPower) (maxL := 2) (ret := none) (by decide) rfl ?_
  intro p e s m args below meth c s₁ B hml hv
  obtain ⟨rfl, hP, hK, hD0, hN⟩ := hv
  have hx := B.exec
  have hb := B.bytes
  have hr := B.returns
  have hts0 := atoms_spec (ws := ws_O_needHandPower) B.pre
  have hts : ∀ w ∈ kb, w.before _ s = true := fun w h => hts0 w (List.mem_cons_of_mem _ h)
  have hown : s.vm.findClass R_O = some m.cls := findClass_of_methodNamed B.named
  have hlocks := B.notSynchronized
  have hD := rc_self hD0
  generalize hAe : rc_A [(h, rO od fa ot ah te id rt bs kn)] = A at hD ⊢
  have hS : va_S A s.heap s.heap [] := va_S.rf
  have hl := lv_entry ([.ref h, .int (iz zp)]) (n := 2) (Nat.le_of_ble_eq_true rfl)
  rw [lg_entry_eq]
  generalize (lg_sl ([.ref h, .int (iz zp)]) ++ List.replicate (2 - (lg_sl ([.ref h, .int (iz zp)])).length) Slot.unset).toArray = ls at hl ⊢

  have hl : lv_has ls 2 [(0, .ref h), (1, .int (iz zp))] := hl
  refine lv_iload_n hx hb d_O_needHandPower_0 rfl (lv_at hl 1 rfl) ?_
  refine rz_if_lt (tgt := 10) hx hb d_O_needHandPower_1 (by decide) (fun hc1 => ?_) (fun hc1 => ?_)
  · omega
  · refine lv_iload_n hx hb d_O_needHandPower_4 rfl (lv_at hl 1 rfl) ?_
    refine rz_bipush hx hb d_O_needHandPower_5 (by decide) ?_
    refine rz_icmp_lt (tgt := 20) hx hb d_O_needHandPower_7 (by decide) (fun hc2 => ?_) (fun hc2 => ?_)
    · exact W.vret hx hb hr (fun t ht hW => ⟨⟨(), rfl, trivial, rc_out ht hP⟩, hS.F ht⟩) hS.2.2 d_O_needHandPower_20
    · omega
def ws_O_put : List Cond := .code y_O_put c_O_put 7 (some .boolean) :: kb
set_option maxHeartbeats 4000000 in
set_option maxRecDepth 100000 in
/-- put -/
theorem m_O_put (l : Launch) (D : va_G) (cJ cO : ClassId) (h fa ot ah te id rt bs : Nat) (od kn : Int) (fr : Nat → Nat) (F : Nat → Nat → ro_K) (zi zp : Int) (v : Int64) (o : Nat) (hod : od = (o : Int)) (ho3 : o ≤ 3) (i pw : Nat) (hzi : zi = (i : Int)) (hzp : zp = (pw : Int)) (hi : i ≤ o) (hp : pw < 5) : Met l y_O_put ws_O_put ({ frames := 1, cells := 0, slots := 0, locals := 23 }) (rc_Pc D vC [(cJ, .long), (cO, .array .long)] [.ref h, .int (iz zi), .int (iz zp), .long v] ([(h, rO od fa ot ah te id rt bs kn), (fa, go cO 4 fr)] ++ gs 4 fr cJ 5 F)) (va_Qi (fun (q : Int32) (u : Int × (Nat → Nat → ro_K)) => if F i pw = ro_k v.toInt then q = iz 0 ∧ u = (kn, F) else q = iz 1 ∧ u = (0, up2 F i pw (ro_k v.toInt))) (fun u t => va_P D vC ([(h, rO od fa ot ah te id rt bs u.1), (fa, go cO 4 fr)] ++ gs 4 fr cJ 5 u.2) t.heap) (rc_A ([(h, rO od fa ot ah te id rt bs kn), (fa, go cO 4 fr)] ++ gs 4 fr cJ 5 F))) 0 0 (rc_A ([(h, rO od fa ot ah te id rt bs kn), (fa, go cO 4 fr)] ++ gs 4 fr cJ 5 F)) := by
  refine Met.ofW (cc := c_O_put) (maxL := 7) (ret := (some .boolean)) (by decide) rfl ?_
  intro p e s m args below meth c s₁ B hml hv
  obtain ⟨rfl, hP, hK, hD0, hN⟩ := hv
  have hx := B.exec
  have hb := B.bytes
  have hr := B.returns
  have hts0 := atoms_spec (ws := ws_O_put) B.pre
  have hts : ∀ w ∈ kb, w.before _ s = true := fun w h => hts0 w (List.mem_cons_of_mem _ h)
  have hown : s.vm.findClass R_O = some m.cls := findClass_of_methodNamed B.named
  have hlocks := B.notSynchronized
  have hD := rc_self hD0
  generalize hAe : rc_A ([(h, rO od fa ot ah te id rt bs kn), (fa, go cO 4 fr)] ++ gs 4 fr cJ 5 F) = A at hD ⊢
  have hS : va_S A s.heap s.heap [] := va_S.rf
  have hl := lv_entry ([.ref h, .int (iz zi), .int (iz zp), .long v]) (n := 7) (Nat.le_of_ble_eq_true rfl)
  rw [lg_entry_eq]
  generalize (lg_sl ([.ref h, .int (iz zi), .int (iz zp), .long v]) ++ List.replicate (7 - (lg_sl ([.ref h, .int (iz zi), .int (iz zp), .long v])).length) Slot.unset).toArray = ls at hl ⊢

  have hl : lv_has ls 7 [(0, .ref h), (1, .int (iz zi)), (2, .int (iz zp)), (3, .long v)] := hl
  refine lv_aload_n hx hb d_O_put_0 rfl (lv_at hl 0 rfl) ?_
  refine lv_iload_n hx hb d_O_put_1 rfl (lv_at hl 1 rfl) ?_
  refine lv_iload_n hx hb d_O_put_2 rfl (lv_at hl 2 rfl) ?_
  refine rc_callv (va_runV (As := [.int (iz zi), .int (iz zp)]) (rest := []) ⟨hx, hb, hml, hown, hts⟩ (m_O_needFactorPower l D cJ cO h fa ot ah te id rt bs od kn zi zp o hod ho3 (by omega) (by omega) (by omega) (by omega)) (cwV 2 hts (kb_gi (kb_c kw_222 (kb_c kw_224 (kb_c ks_O_needFactorPower (kb_c kw_1 (kb_c kw_225 kb_all)))))) rfl rfl rfl (by decide +kernel) ⟨Nat.le_of_ble_eq_true rfl, Nat.le_of_ble_eq_true rfl⟩) ⟨rc_blind, va_recv hK hP (ci := 2) (q0 := 0) rfl rfl, rc_pre hP hD hK hN [0] rfl rfl [] rfl⟩ rfl rfl hl.1 rfl (lv_room (Nat.le_of_ble_eq_true rfl)) d_O_put_3 ⟨Nat.zero_le _, Nat.zero_le _⟩) hP hD hS [0] rfl (fun _ => rfl) (fun u1 H locs hw1 hP hD hS => ?_)
  have hP : va_P D vC ([(h, rO od fa ot ah te id rt bs kn), (fa, go cO 4 fr)] ++ gs 4 fr cJ 5 F) H := hP
  have hD : va_D A ([(h, rO od fa ot ah te id rt bs kn), (fa, go cO 4 fr)] ++ gs 4 fr cJ 5 F) := hD
  refine lv_lload_n hx hb d_O_put_6 rfl (lv_at hl 3 rfl) ?_
  refine rc_calll (va_runS (As := [.long v]) (rest := []) ⟨hx, hb, hml, hown, hts⟩ (m_O_number l D v) (cwS 1 hts (kb_gi (kb_c kw_123 (kb_c kw_124 (kb_c kw_1 (kb_c kw_125 kb_all))))) rfl rfl rfl (by decide +kernel) ⟨Nat.le_of_ble_eq_true rfl, Nat.le_of_ble_eq_true rfl⟩) ⟨rc_blind, rc_pre hP hD hK hN [] rfl rfl [] rfl⟩ rfl rfl hl.1 rfl (lv_room (Nat.le_of_ble_eq_true rfl)) d_O_put_7 ⟨Nat.zero_le _, Nat.zero_le _⟩) hP hD hS [] rfl (fun _ => rfl) (fun r2 u3 H locs hw3 hP hD hS => ?_)
  subst hw3
  have hP : va_P D vC ([(h, rO od fa ot ah te id rt bs kn), (fa, go cO 4 fr)] ++ gs 4 fr cJ 5 F) H := hP
  have hD : va_D A ([(h, rO od fa ot ah te id rt bs kn), (fa, go cO 4 fr)] ++ gs 4 fr cJ 5 F) := hD
  refine lv_lstore (lv' := [(5, .long (lk (ro_k v.toInt))), (0, .ref h), (1, .int (iz zi)), (2, .int (iz zp)), (3, .long v)]) hx hb d_O_put_10 hl (by decide) rfl (fun ls hl => ?_)
  refine lv_aload_n hx hb d_O_put_12 rfl (lv_at hl 1 rfl) ?_
  refine va_get (D := D) (ci := 2) (v := .ref fa) (C := R_O) (T := T_O) (N := 9) hx hb hts in_O hown hK hP 0 rfl rfl 1 (by decide) (hts _ kw_84) (fun _ h9 => h9) rfl d_O_put_13 ?_
  refine lv_iload_n hx hb d_O_put_16 rfl (lv_at hl 2 rfl) ?_
  refine rg_ald hx hb hK hP 1 1 rfl rfl i d_O_put_17 ?_
  refine lv_iload_n hx hb d_O_put_18 rfl (lv_at hl 3 rfl) ?_
  refine rg_ld hx hb hK hP 0 rfl i pw d_O_put_19 ?_
  refine lv_lload hx hb d_O_put_20 (lv_at hl 0 rfl) ?_
  refine rz_lcmp_ne (tgt := 28) hx hb d_O_put_22 d_O_put_23 (by decide) (fun hc4 => ?_) (fun hc4 => ?_)
  · have hc4 : (F i pw) ≠ (ro_k v.toInt) := fun z => hc4 (lk_inj.mpr z)
    refine lv_aload_n hx hb d_O_put_28 rfl (lv_at hl 1 rfl) ?_
    refine va_get (D := D) (ci := 2) (v := .ref fa) (C := R_O) (T := T_O) (N := 9) hx hb hts in_O hown hK hP 0 rfl rfl 1 (by decide) (hts _ kw_84) (fun _ h9 => h9) rfl d_O_put_29 ?_
    refine lv_iload_n hx hb d_O_put_32 rfl (lv_at hl 2 rfl) ?_
    refine rg_ald hx hb hK hP 1 1 rfl rfl i d_O_put_33 ?_
    refine lv_iload_n hx hb d_O_put_34 rfl (lv_at hl 3 rfl) ?_
    refine lv_lload hx hb d_O_put_35 (lv_at hl 0 rfl) ?_
    refine rg_st hx hb hK hP hD hS 0 rfl i pw d_O_put_37 (fun H locs hP hD hS => ?_)
    have hP : va_P D vC ([(h, rO od fa ot ah te id rt bs kn), (fa, go cO 4 fr)] ++ gs 4 fr cJ 5 (up2 F i pw (ro_k v.toInt))) H := hP
    have hD : va_D A ([(h, rO od fa ot ah te id rt bs kn), (fa, go cO 4 fr)] ++ gs 4 fr cJ 5 (up2 F i pw (ro_k v.toInt))) := hD
    refine lv_aload_n hx hb d_O_put_38 rfl (lv_at hl 1 rfl) ?_
    refine rz_iconst hx hb d_O_put_39 ?_
    refine va_put (D := D) (ci := 2) (v := .int (iz 0)) (ty := .boolean) (C := R_O) (T := T_O) (N := 9) hx hb hts in_O ty_O tk_O nm_O hown hK hP hD hS 0 rfl rfl 8 (by decide) (hts _ kw_91) (fun _ h9 => h9) rfl (by decide +kernel) rfl rfl (Nat.le_of_ble_eq_true rfl) d_O_put_40 (fun H locs hP hD hS => ?_)
    have hP : va_P D vC ([(h, rO od fa ot ah te id rt bs 0), (fa, go cO 4 fr)] ++ gs 4 fr cJ 5 (up2 F i pw (ro_k v.toInt))) H := hP
    have hD : va_D A ([(h, rO od fa ot ah te id rt bs 0), (fa, go cO 4 fr)] ++ gs 4 fr cJ 5 (up2 F i pw (ro_k v.toInt))) := hD
    refine rz_iconst hx hb d_O_put_43 ?_
    exact W.zret hx hb hr rfl (fun t ht hW => ⟨⟨_, (0, up2 F i pw (ro_k v.toInt)), rfl, (by dsimp only; rw [if_neg (by assumption)]; exact ⟨rfl, rfl⟩), rc_out ht hP⟩, hS.F ht⟩) hS.2.2 d_O_put_44
  · have hc4 : (F i pw) = (ro_k v.toInt) := lk_inj.mp hc4
    refine rz_iconst hx hb d_O_put_26 ?_
    exact W.zret hx hb hr rfl (fun t ht hW => ⟨⟨_, (kn, F), rfl, (by dsimp only; rw [if_pos (by assumption)]; exact ⟨rfl, rfl⟩), rc_out ht hP⟩, hS.F ht⟩) hS.2.2 d_O_put_27
def ws_O_at : List Cond := .code y_O_at c_O_at 3 (some .int) :: kb
set_option maxHeartbeats 4000000 in
set_option maxRecDepth 100000 in
/-- at -/
theorem m_O_at (l : Launch) (D : va_G) (cJ cO : ClassId) (h fa ot ah te id rt bs : Nat) (od kn : Int) (fr : Nat → Nat) (F : Nat → Nat → ro_K) (zi zp : Int) (o : Nat) (hod : od = (o : Int)) (ho3 : o ≤ 3) (i pw : Nat) (hzi : zi = (i : Int)) (hzp : zp = (pw : Int)) (hi : i ≤ o) (hp : pw < 5) : Met l y_O_at ws_O_at ({ frames := 1, cells := 0, slots := 0, locals := 22 }) (rc_Pc D vC [(cJ, .long), (cO, .array .long)] [.ref h, .int (iz zi), .int (iz zp)] ([(h, rO od fa ot ah te id rt bs kn), (fa, go cO 4 fr)] ++ gs 4 fr cJ 5 F)) (va_Qi (fun (q : Int32) (_ : Unit) => q = iz ((F i pw).val : Int)) (fun _ t => va_P D vC ([(h, rO od fa ot ah te id rt bs kn), (fa, go cO 4 fr)] ++ gs 4 fr cJ 5 F) t.heap) (rc_A ([(h, rO od fa ot ah te id rt bs kn), (fa, go cO 4 fr)] ++ gs 4 fr cJ 5 F))) 0 0 (rc_A ([(h, rO od fa ot ah te id rt bs kn), (fa, go cO 4 fr)] ++ gs 4 fr cJ 5 F)) := by
  refine Met.ofW (cc := c_O_at) (maxL := 3) (ret := (some .int)) (by decide) rfl ?_
  intro p e s m args below meth c s₁ B hml hv
  obtain ⟨rfl, hP, hK, hD0, hN⟩ := hv
  have hx := B.exec
  have hb := B.bytes
  have hr := B.returns
  have hts0 := atoms_spec (ws := ws_O_at) B.pre
  have hts : ∀ w ∈ kb, w.before _ s = true := fun w h => hts0 w (List.mem_cons_of_mem _ h)
  have hown : s.vm.findClass R_O = some m.cls := findClass_of_methodNamed B.named
  have hlocks := B.notSynchronized
  have hD := rc_self hD0
  generalize hAe : rc_A ([(h, rO od fa ot ah te id rt bs kn), (fa, go cO 4 fr)] ++ gs 4 fr cJ 5 F) = A at hD ⊢
  have hS : va_S A s.heap s.heap [] := va_S.rf
  have hl := lv_entry ([.ref h, .int (iz zi), .int (iz zp)]) (n := 3) (Nat.le_of_ble_eq_true rfl)
  rw [lg_entry_eq]
  generalize (lg_sl ([.ref h, .int (iz zi), .int (iz zp)]) ++ List.replicate (3 - (lg_sl ([.ref h, .int (iz zi), .int (iz zp)])).length) Slot.unset).toArray = ls at hl ⊢

  have hl : lv_has ls 3 [(0, .ref h), (1, .int (iz zi)), (2, .int (iz zp))] := hl
  refine lv_aload_n hx hb d_O_at_0 rfl (lv_at hl 0 rfl) ?_
  refine lv_iload_n hx hb d_O_at_1 rfl (lv_at hl 1 rfl) ?_
  refine lv_iload_n hx hb d_O_at_2 rfl (lv_at hl 2 rfl) ?_
  refine rc_callv (va_runV (As := [.int (iz zi), .int (iz zp)]) (rest := []) ⟨hx, hb, hml, hown, hts⟩ (m_O_needFactorPower l D cJ cO h fa ot ah te id rt bs od kn zi zp o hod ho3 (by omega) (by omega) (by omega) (by omega)) (cwV 2 hts (kb_gi (kb_c kw_222 (kb_c kw_224 (kb_c ks_O_needFactorPower (kb_c kw_1 (kb_c kw_225 kb_all)))))) rfl rfl rfl (by decide +kernel) ⟨Nat.le_of_ble_eq_true rfl, Nat.le_of_ble_eq_true rfl⟩) ⟨rc_blind, va_recv hK hP (ci := 2) (q0 := 0) rfl rfl, rc_pre hP hD hK hN [0] rfl rfl [] rfl⟩ rfl rfl hl.1 rfl (lv_room (Nat.le_of_ble_eq_true rfl)) d_O_at_3 ⟨Nat.zero_le _, Nat.zero_le _⟩) hP hD hS [0] rfl (fun _ => rfl) (fun u1 H locs hw1 hP hD hS => ?_)
  have hP : va_P D vC ([(h, rO od fa ot ah te id rt bs kn), (fa, go cO 4 fr)] ++ gs 4 fr cJ 5 F) H := hP
  have hD : va_D A ([(h, rO od fa ot ah te id rt bs kn), (fa, go cO 4 fr)] ++ gs 4 fr cJ 5 F) := hD
  refine lv_aload_n hx hb d_O_at_6 rfl (lv_at hl 0 rfl) ?_
  refine va_get (D := D) (ci := 2) (v := .ref fa) (C := R_O) (T := T_O) (N := 9) hx hb hts in_O hown hK hP 0 rfl rfl 1 (by decide) (hts _ kw_84) (fun _ h9 => h9) rfl d_O_at_7 ?_
  refine lv_iload_n hx hb d_O_at_10 rfl (lv_at hl 1 rfl) ?_
  refine rg_ald hx hb hK hP 1 1 rfl rfl i d_O_at_11 ?_
  refine lv_iload_n hx hb d_O_at_12 rfl (lv_at hl 2 rfl) ?_
  refine rg_ld hx hb hK hP 0 rfl i pw d_O_at_13 ?_
  refine rz_l2i hx hb d_O_at_14 ?_
  exact W.iret hx hb hr (fun t ht hW => ⟨⟨_, (), rfl, rfl, rc_out ht hP⟩, hS.F ht⟩) hS.2.2 d_O_at_15
def ws_O_hand : List Cond := .code y_O_hand c_O_hand 4 none :: kb
set_option maxHeartbeats 4000000 in
set_option maxRecDepth 100000 in
/-- hand -/
theorem m_O_hand (l : Launch) (D : va_G) (cJ cO : ClassId) (h fa ot ah te id rt bs : Nat) (od kn : Int) (a : Nat → ro_K) (zp : Int) (v : Int64) (pw : Nat) (hzp : zp = (pw : Int)) (hp : pw < 13) : Met l y_O_hand ws_O_hand ({ frames := 1, cells := 0, slots := 0, locals := 23 }) (rc_Pc D vC [(cJ, .long)] [.ref h, .int (iz zp), .long v] [(h, rO od fa ot ah te id rt bs kn), (ah, ka cJ 13 a)]) (va_Qv (fun (_ : Unit) => True) (fun _ t => va_P D vC [(h, rO od fa ot ah te id rt bs kn), (ah, ka cJ 13 (va_up a pw (ro_k v.toInt)))] t.heap) (rc_A [(h, rO od fa ot ah te id rt bs kn), (ah, ka cJ 13 a)])) 0 0 (rc_A [(h, rO od fa ot ah te id rt bs kn), (ah, ka cJ 13 a)]) := by
  refine Met.ofW (cc := c_O_hand) (maxL := 4) (ret := none) (by decide) rfl ?_
  intro p e s m args below meth c s₁ B hml hv
  obtain ⟨rfl, hP, hK, hD0, hN⟩ := hv
  have hx := B.exec
  have hb := B.bytes
  have hr := B.returns
  have hts0 := atoms_spec (ws := ws_O_hand) B.pre
  have hts : ∀ w ∈ kb, w.before _ s = true := fun w h => hts0 w (List.mem_cons_of_mem _ h)
  have hown : s.vm.findClass R_O = some m.cls := findClass_of_methodNamed B.named
  have hlocks := B.notSynchronized
  have hD := rc_self hD0
  generalize hAe : rc_A [(h, rO od fa ot ah te id rt bs kn), (ah, ka cJ 13 a)] = A at hD ⊢
  have hS : va_S A s.heap s.heap [] := va_S.rf
  have hl := lv_entry ([.ref h, .int (iz zp), .long v]) (n := 4) (Nat.le_of_ble_eq_true rfl)
  rw [lg_entry_eq]
  generalize (lg_sl ([.ref h, .int (iz zp), .long v]) ++ List.replicate (4 - (lg_sl ([.ref h, .int (iz zp), .long v])).length) Slot.unset).toArray = ls at hl ⊢

  have hl : lv_has ls 4 [(0, .ref h), (1, .int (iz zp)), (2, .long v)] := hl
  refine lv_aload_n hx hb d_O_hand_0 rfl (lv_at hl 0 rfl) ?_
  refine lv_iload_n hx hb d_O_hand_1 rfl (lv_at hl 1 rfl) ?_
  refine rc_callv (va_runV (As := [.int (iz zp)]) (rest := []) ⟨hx, hb, hml, hown, hts⟩ (m_O_needHandPower l D cJ cO h fa ot ah te id rt bs od kn zp (by omega) (by omega)) (cwV 1 hts (kb_gi (kb_c kw_308 (kb_c kw_310 (kb_c ks_O_needHandPower (kb_c kw_1 (kb_c kw_311 kb_all)))))) rfl rfl rfl (by decide +kernel) ⟨Nat.le_of_ble_eq_true rfl, Nat.le_of_ble_eq_true rfl⟩) ⟨rc_blind, va_recv hK hP (ci := 2) (q0 := 0) rfl rfl, rc_pre hP hD hK hN [0] rfl rfl [] rfl⟩ rfl rfl hl.1 rfl (lv_room (Nat.le_of_ble_eq_true rfl)) d_O_hand_2 ⟨Nat.zero_le _, Nat.zero_le _⟩) hP hD hS [0] rfl (fun _ => rfl) (fun u1 H locs hw1 hP hD hS => ?_)
  have hP : va_P D vC [(h, rO od fa ot ah te id rt bs kn), (ah, ka cJ 13 a)] H := hP
  have hD : va_D A [(h, rO od fa ot ah te id rt bs kn), (ah, ka cJ 13 a)] := hD
  refine lv_aload_n hx hb d_O_hand_5 rfl (lv_at hl 0 rfl) ?_
  refine va_get (D := D) (ci := 2) (v := .ref ah) (C := R_O) (T := T_O) (N := 9) hx hb hts in_O hown hK hP 0 rfl rfl 3 (by decide) (hts _ kw_86) (fun _ h9 => h9) rfl d_O_hand_6 ?_
  refine lv_iload_n hx hb d_O_hand_9 rfl (lv_at hl 1 rfl) ?_
  refine lv_lload_n hx hb d_O_hand_10 rfl (lv_at hl 2 rfl) ?_
  refine rc_calll (va_runS (As := [.long v]) (rest := [.int (iz zp), .ref ah]) ⟨hx, hb, hml, hown, hts⟩ (m_O_number l D v) (cwS 1 hts (kb_gi (kb_c kw_123 (kb_c kw_124 (kb_c kw_1 (kb_c kw_125 kb_all))))) rfl rfl rfl (by decide +kernel) ⟨Nat.le_of_ble_eq_true rfl, Nat.le_of_ble_eq_true rfl⟩) ⟨rc_blind, rc_pre hP hD hK hN [] rfl rfl [] rfl⟩ rfl rfl hl.1 rfl (lv_room (Nat.le_of_ble_eq_true rfl)) d_O_hand_11 ⟨Nat.zero_le _, Nat.zero_le _⟩) hP hD hS [] rfl (fun _ => rfl) (fun r2 u3 H locs hw3 hP hD hS => ?_)
  subst hw3
  have hP : va_P D vC [(h, rO od fa ot ah te id rt bs kn), (ah, ka cJ 13 a)] H := hP
  have hD : va_D A [(h, rO od fa ot ah te id rt bs kn), (ah, ka cJ 13 a)] := hD
  refine rk_st hx hb hK hP hD hS 1 0 rfl rfl pw d_O_hand_14 (fun H locs hP hD hS => ?_)
  have hP : va_P D vC [(h, rO od fa ot ah te id rt bs kn), (ah, ka cJ 13 (va_up a pw (ro_k v.toInt)))] H := hP
  have hD : va_D A [(h, rO od fa ot ah te id rt bs kn), (ah, ka cJ 13 (va_up a pw (ro_k v.toInt)))] := hD
  exact W.vret hx hb hr (fun t ht hW => ⟨⟨(), rfl, trivial, rc_out ht hP⟩, hS.F ht⟩) hS.2.2 d_O_hand_15
def ws_O_made : List Cond := .code y_O_made c_O_made 2 (some .int) :: kb
set_option maxHeartbeats 4000000 in
set_option maxRecDepth 100000 in
/-- made -/
theorem m_O_made (l : Launch) (D : va_G) (cJ cO : ClassId) (h fa ot ah te id rt bs : Nat) (od kn : Int) (fr : Nat → Nat) (F : Nat → Nat → ro_K) (a : Nat → ro_K) (zp : Int) (o : Nat) (hod : od = (o : Int)) (ho3 : o ≤ 3) (hzpl : -2147483648 ≤ zp) (hzph : zp < 2147483648) : Met l y_O_made ws_O_made ({ frames := 3, cells := 0, slots := 0, locals := 76 }) (rc_Pc D vC [(cJ, .long), (cO, .array .long)] [.ref h, .int (iz zp)] ([(h, rO od fa ot ah te id rt bs kn), (ah, ka cJ 13 a), (fa, go cO 4 fr)] ++ gs 4 fr cJ 5 F)) (va_Qi (fun (q : Int32) (_ : Unit) => q = iz (if 0 ≤ zp ∧ zp < 17 then ((maS F o a zp 13).val : Int) else 0)) (fun _ t => va_P D vC ([(h, rO od fa ot ah te id rt bs kn), (ah, ka cJ 13 a), (fa, go cO 4 fr)] ++ gs 4 fr cJ 5 F) t.heap) (rc_A ([(h, rO od fa ot ah te id rt bs kn), (ah, ka cJ 13 a), (fa, go cO 4 fr)] ++ gs 4 fr cJ 5 F))) 0 0 (rc_A ([(h, rO od fa ot ah te id rt bs kn), (ah, ka cJ 13 a), (fa, go cO 4 fr)] ++ gs 4 fr cJ 5 F)) := by
  refine Met.ofW (cc := c_O_made) (maxL := 2) (ret := (some .int)) (by decide) rfl ?_
  intro p e s m args below meth c s₁ B hml hv
  obtain ⟨rfl, hP, hK, hD0, hN⟩ := hv
  have hx := B.exec
  have hb := B.bytes
  have hr := B.returns
  have hts0 := atoms_spec (ws := ws_O_made) B.pre
  have hts : ∀ w ∈ kb, w.before _ s = true := fun w h => hts0 w (List.mem_cons_of_mem _ h)
  have hown : s.vm.findClass R_O = some m.cls := findClass_of_methodNamed B.named
  have hlocks := B.notSynchronized
  have hD := rc_self hD0
  generalize hAe : rc_A ([(h, rO od fa ot ah te id rt bs kn), (ah, ka cJ 13 a), (fa, go cO 4 fr)] ++ gs 4 fr cJ 5 F) = A at hD ⊢
  have hS : va_S A s.heap s.heap [] := va_S.rf
  have hl := lv_entry ([.ref h, .int (iz zp)]) (n := 2) (Nat.le_of_ble_eq_true rfl)
  rw [lg_entry_eq]
  generalize (lg_sl ([.ref h, .int (iz zp)]) ++ List.replicate (2 - (lg_sl ([.ref h, .int (iz zp)])).length) Slot.unset).toArray = ls at hl ⊢

  have hl : lv_has ls 2 [(0, .ref h), (1, .int (iz zp))] := hl
  refine lv_iload_n hx hb d_O_made_0 rfl (lv_at hl 1 rfl) ?_
  refine rz_if_lt (tgt := 10) hx hb d_O_made_1 (by decide) (fun hc1 => ?_) (fun hc1 => ?_)
  · refine rz_iconst hx hb d_O_made_10 ?_
    exact W.iret hx hb hr (fun t ht hW => ⟨⟨_, (), rfl, (by rw [if_neg (by omega)]), rc_out ht hP⟩, hS.F ht⟩) hS.2.2 d_O_made_11
  · refine lv_iload_n hx hb d_O_made_4 rfl (lv_at hl 1 rfl) ?_
    refine rz_bipush hx hb d_O_made_5 (by decide) ?_
    refine rz_icmp_lt (tgt := 12) hx hb d_O_made_7 (by decide) (fun hc2 => ?_) (fun hc2 => ?_)
    · refine lv_aload_n hx hb d_O_made_12 rfl (lv_at hl 0 rfl) ?_
      refine lv_iload_n hx hb d_O_made_13 rfl (lv_at hl 1 rfl) ?_
      refine rs_calll (va_runV (As := [.int (iz zp)]) (rest := []) ⟨hx, hb, hml, hown, hts⟩ (m_O_madeAt l D cJ cO h fa ot ah te id rt bs od kn fr F a zp o hod ho3 (by omega) (by omega)) (cwV 1 hts (kb_gi (kb_c kw_115 (kb_c kw_117 (kb_c ks_O_madeAt (kb_c kw_1 (kb_c kw_118 kb_all)))))) rfl rfl rfl (by decide +kernel) ⟨Nat.le_of_ble_eq_true rfl, Nat.le_of_ble_eq_true rfl⟩) ⟨rc_blind, va_recv hK hP (ci := 2) (q0 := 0) rfl rfl, rs_pre (Y := []) (rs_nil hP) (rs_nilD hD) hK hN [0, 1, 2] rfl rfl [0, 1] rfl⟩ rfl rfl hl.1 rfl (lv_room (Nat.le_of_ble_eq_true rfl)) d_O_made_14 ⟨Nat.zero_le _, Nat.zero_le _⟩) hP hD hS [0, 1, 2] rfl (fun _ => rfl) (fun _ => gs_adr _ _ _ _ _ _) (fun r3 u4 H locs hw4 hP hD hS => ?_)
      subst hw4
      have hP : va_P D vC ([(h, rO od fa ot ah te id rt bs kn), (ah, ka cJ 13 a), (fa, go cO 4 fr)] ++ gs 4 fr cJ 5 F) H := hP
      have hD : va_D A ([(h, rO od fa ot ah te id rt bs kn), (ah, ka cJ 13 a), (fa, go cO 4 fr)] ++ gs 4 fr cJ 5 F) := hD
      refine rz_l2i hx hb d_O_made_17 ?_
      exact W.iret hx hb hr (fun t ht hW => ⟨⟨_, (), rfl, (by rw [if_pos (by omega)]), rc_out ht hP⟩, hS.F ht⟩) hS.2.2 d_O_made_18
    · refine rz_iconst hx hb d_O_made_10 ?_
      exact W.iret hx hb hr (fun t ht hW => ⟨⟨_, (), rfl, (by rw [if_neg (by omega)]), rc_out ht hP⟩, hS.F ht⟩) hS.2.2 d_O_made_11
set_option maxHeartbeats 4000000 in
set_option maxRecDepth 100000 in
theorem lo_O_solves {cJ cO : ClassId} {h fa ot ah te id rt bs : Nat} {od kn : Int} {o : Nat} (hod : od = (o : Int)) (ho3 : o ≤ 3) {fr : Nat → Nat} {F : Nat → Nat → ro_K} {a : Nat → ro_K} (hx : p.tables.exec = Jvm.exec) (hb : c.code = c_O_solves) (hml : c.maxLocals = 2) (hown : s.vm.findClass R_O = some m.cls) (hts : ∀ w ∈ kb, w.before args s = true) (hK : va_K D vC [(cJ, .long), (cO, .array .long)] s) (hN : rc_N s) (hR : 3 ≤ R.frames ∧ 76 ≤ R.locals) (hf : ∀ (H : Heap) (locs : List Loc) (ls : Array Slot), slB F o a 17 = false → va_P D vC ([(h, rO od fa ot ah te id rt bs kn), (ah, ka cJ 13 a), (fa, go cO 4 fr)] ++ gs 4 fr cJ 5 F) H → va_D A ([(h, rO od fa ot ah te id rt bs kn), (ah, ka cJ 13 a), (fa, go cO 4 fr)] ++ gs 4 fr cJ 5 F) → va_S A H0 H locs → W p l e R s m args below meth c H locs 0 0 Q (F0 m 18 ls [])) (ht : ∀ (H : Heap) (locs : List Loc) (ls : Array Slot), slB F o a 17 = true → va_P D vC ([(h, rO od fa ot ah te id rt bs kn), (ah, ka cJ 13 a), (fa, go cO 4 fr)] ++ gs 4 fr cJ 5 F) H → va_D A ([(h, rO od fa ot ah te id rt bs kn), (ah, ka cJ 13 a), (fa, go cO 4 fr)] ++ gs 4 fr cJ 5 F) → va_S A H0 H locs → W p l e R s m args below meth c H locs 0 0 Q (F0 m 26 ls [])) : ∀ (q k : Nat) (z : Int) (H : Heap) (locs : List Loc) (ls : Array Slot), z = (k : Int) → k + q = 17 → slB F o a k = true → va_P D vC ([(h, rO od fa ot ah te id rt bs kn), (ah, ka cJ 13 a), (fa, go cO 4 fr)] ++ gs 4 fr cJ 5 F) H → va_D A ([(h, rO od fa ot ah te id rt bs kn), (ah, ka cJ 13 a), (fa, go cO 4 fr)] ++ gs 4 fr cJ 5 F) → va_S A H0 H locs → lv_has ls 2 [(1, .int (iz z)), (0, .ref h)] → W p l e R s m args below meth c H locs 0 0 Q (F0 m 2 ls []) := by
  intro q
  induction q with
  | zero =>
    intro k z H locs ls hz hk ha hP hD hS hl
    have e : k = 17 := hk
    subst e
    refine lv_iload_n hx hb d_O_solves_2 rfl (lv_at hl 0 rfl) ?_
    refine rz_bipush hx hb d_O_solves_3 (by decide) ?_
    refine rz_icmp_ge (tgt := 26) hx hb d_O_solves_5 (by decide) (fun hc1 => ?_) (fun hc1 => ?_)
    · exact ht H locs ls ha hP hD hS
    · omega
  | succ q ih =>
    intro k z H locs ls hz hk ha hP hD hS hl
    subst hz
    have hs1 : slB F o a (k + 1) = (slB F o a k && decide (maS F o a (k : Int) 13 = 0)) := rfl
    refine lv_iload_n hx hb d_O_solves_2 rfl (lv_at hl 0 rfl) ?_
    refine rz_bipush hx hb d_O_solves_3 (by decide) ?_
    refine rz_icmp_ge (tgt := 26) hx hb d_O_solves_5 (by decide) (fun hc2 => ?_) (fun hc2 => ?_)
    · omega
    · refine lv_aload_n hx hb d_O_solves_8 rfl (lv_at hl 1 rfl) ?_
      refine lv_iload_n hx hb d_O_solves_9 rfl (lv_at hl 0 rfl) ?_
      refine rs_calll (va_runV (As := [.int (iz (k : Int))]) (rest := []) ⟨hx, hb, hml, hown, hts⟩ (m_O_madeAt l D cJ cO h fa ot ah te id rt bs od kn fr F a (k : Int) o hod ho3 (by omega) (by omega)) (cwV 1 hts (kb_gi (kb_c kw_115 (kb_c kw_117 (kb_c ks_O_madeAt (kb_c kw_1 (kb_c kw_118 kb_all)))))) rfl rfl rfl (by decide +kernel) ⟨Nat.le_trans (by decide) hR.1, Nat.le_trans (by decide) hR.2⟩) ⟨rc_blind, va_recv hK hP (ci := 2) (q0 := 0) rfl rfl, rs_pre (Y := []) (rs_nil hP) (rs_nilD hD) hK hN [0, 1, 2] rfl rfl [0, 1] rfl⟩ rfl rfl hl.1 rfl (lv_room (Nat.le_of_ble_eq_true rfl)) d_O_solves_10 ⟨Nat.zero_le _, Nat.zero_le _⟩) hP hD hS [0, 1, 2] rfl (fun _ => rfl) (fun _ => gs_adr _ _ _ _ _ _) (fun r3 u4 H locs hw4 hP hD hS => ?_)
      subst hw4
      have hP : va_P D vC ([(h, rO od fa ot ah te id rt bs kn), (ah, ka cJ 13 a), (fa, go cO 4 fr)] ++ gs 4 fr cJ 5 F) H := hP
      have hD : va_D A ([(h, rO od fa ot ah te id rt bs kn), (ah, ka cJ 13 a), (fa, go cO 4 fr)] ++ gs 4 fr cJ 5 F) := hD
      refine lv_lconst (v := lk 0) hx hb d_O_solves_13 rfl ?_
      refine rz_lcmp_eq (tgt := 20) hx hb d_O_solves_14 d_O_solves_15 (by decide) (fun hc5 => ?_) (fun hc5 => ?_)
      · have hc5 : (maS F o a (k : Int) 13) = 0 := lk_inj.mp hc5
        refine lv_iinc (v := iz ((k : Int) + 1)) (lv' := [(1, .int (iz ((k : Int) + 1))), (0, .ref h)]) hx hb d_O_solves_20 hl (k := 0) rfl (iz_add _ _) (by decide) rfl (fun ls hl => ?_)
        refine lv_goto (tgt := 2) hx hb d_O_solves_23 (by decide) ?_
        exact ih (k + 1) _ H locs ls (by omega) (by omega) (by rw [hs1, ha, decide_eq_true (by assumption)]; rfl) hP hD hS (lv_sub hl [0, 1] rfl)
      · have hc5 : (maS F o a (k : Int) 13) ≠ 0 := fun z => hc5 (lk_inj.mpr z)
        have hF : slB F o a (k + 1) = false := by rw [hs1, decide_eq_false (by assumption), Bool.and_false]
        have hF2 := slB_false hF q
        rw [show k + 1 + q = 17 by omega] at hF2
        exact hf H locs ls hF2 hP hD hS
def ws_O_solves : List Cond := .code y_O_solves c_O_solves 2 (some .boolean) :: kb
set_option maxHeartbeats 4000000 in
set_option maxRecDepth 100000 in
/-- solves -/
theorem m_O_solves (l : Launch) (D : va_G) (cJ cO : ClassId) (h fa ot ah te id rt bs : Nat) (od kn : Int) (fr : Nat → Nat) (F : Nat → Nat → ro_K) (a : Nat → ro_K) (o : Nat) (hod : od = (o : Int)) (ho3 : o ≤ 3) : Met l y_O_solves ws_O_solves ({ frames := 3, cells := 0, slots := 0, locals := 76 }) (rc_Pc D vC [(cJ, .long), (cO, .array .long)] [.ref h] ([(h, rO od fa ot ah te id rt bs kn), (ah, ka cJ 13 a), (fa, go cO 4 fr)] ++ gs 4 fr cJ 5 F)) (va_Qi (fun (q : Int32) (_ : Unit) => q = if slB F o a 17 = true then iz 1 else iz 0) (fun _ t => va_P D vC ([(h, rO od fa ot ah te id rt bs kn), (ah, ka cJ 13 a), (fa, go cO 4 fr)] ++ gs 4 fr cJ 5 F) t.heap) (rc_A ([(h, rO od fa ot ah te id rt bs kn), (ah, ka cJ 13 a), (fa, go cO 4 fr)] ++ gs 4 fr cJ 5 F))) 0 0 (rc_A ([(h, rO od fa ot ah te id rt bs kn), (ah, ka cJ 13 a), (fa, go cO 4 fr)] ++ gs 4 fr cJ 5 F)) := by
  refine Met.ofW (cc := c_O_solves) (maxL := 2) (ret := (some .boolean)) (by decide) rfl ?_
  intro p e s m args below meth c s₁ B hml hv
  obtain ⟨rfl, hP, hK, hD0, hN⟩ := hv
  have hx := B.exec
  have hb := B.bytes
  have hr := B.returns
  have hts0 := atoms_spec (ws := ws_O_solves) B.pre
  have hts : ∀ w ∈ kb, w.before _ s = true := fun w h => hts0 w (List.mem_cons_of_mem _ h)
  have hown : s.vm.findClass R_O = some m.cls := findClass_of_methodNamed B.named
  have hlocks := B.notSynchronized
  have hD := rc_self hD0
  generalize hAe : rc_A ([(h, rO od fa ot ah te id rt bs kn), (ah, ka cJ 13 a), (fa, go cO 4 fr)] ++ gs 4 fr cJ 5 F) = A at hD ⊢
  have hS : va_S A s.heap s.heap [] := va_S.rf
  have hl := lv_entry ([.ref h]) (n := 2) (Nat.le_of_ble_eq_true rfl)
  rw [lg_entry_eq]
  generalize (lg_sl ([.ref h]) ++ List.replicate (2 - (lg_sl ([.ref h])).length) Slot.unset).toArray = ls at hl ⊢

  have hl : lv_has ls 2 [(0, .ref h)] := hl
  refine rz_iconst hx hb d_O_solves_0 ?_
  refine lv_istore_n (lv' := [(1, .int (iz 0)), (0, .ref h)]) hx hb d_O_solves_1 rfl hl (by decide) rfl (fun ls hl => ?_)
  refine lo_O_solves (F := F) (a := a) hod ho3 hx hb hml hown hts hK hN ⟨Nat.le_of_ble_eq_true rfl, Nat.le_of_ble_eq_true rfl⟩ (fun H locs ls hv hP hD hS => ?_) (fun H locs ls hv hP hD hS => ?_) 17 0 _ _ _ ls rfl (by omega) rfl hP hD hS (lv_sub hl [0, 1] rfl)
  · refine rz_iconst hx hb d_O_solves_18 ?_
    exact W.zret hx hb hr rfl (fun t ht hW => ⟨⟨_, (), rfl, (by rw [hv]; rfl), rc_out ht hP⟩, hS.F ht⟩) hS.2.2 d_O_solves_19
  · refine rz_iconst hx hb d_O_solves_26 ?_
    exact W.zret hx hb hr rfl (fun t ht hW => ⟨⟨_, (), rfl, (by rw [hv]; rfl), rc_out ht hP⟩, hS.F ht⟩) hS.2.2 d_O_solves_27
def ws_O_places : List Cond := .code y_O_places c_O_places 1 (some .int) :: kb
set_option maxHeartbeats 4000000 in
set_option maxRecDepth 100000 in
/-- places -/
theorem m_O_places (l : Launch) (D : va_G) (cJ cO : ClassId) (h fa ot ah te id rt bs : Nat) (od kn : Int) (fo wh pt rs sq on tw : Nat) (cn : Int) (Fo Y P r S a1 b1 : Nat → ro_K) (fr : Nat → Nat) (F : Nat → Nat → ro_K) (o : Nat) (hod : od = (o : Int)) (ho3 : o ≤ 3) (hF : 0 ≤ kd (F o) 5) : Met l y_O_places ws_O_places ({ frames := 6, cells := 0, slots := 0, locals := 153 }) (rc_Pc D vC [(cJ, .long), (cO, .array .long)] [.ref h] ([(h, rO od fa ot ah te id rt bs kn), (fa, go cO 4 fr), (rt, rR fo cn wh pt rs sq on tw), (fo, ka cJ 4 Fo), (wh, ka cJ 5 Y), (pt, ka cJ 5 P), (rs, ka cJ 5 r), (sq, ka cJ 8 S), (on, ka cJ 5 a1), (tw, ka cJ 5 b1)] ++ gs 4 fr cJ 5 F)) (va_Qi (fun (q : Int32) (u : rS8) => rts (F o) u.1 u.2.1 ∧ q = iz (u.1 : Int)) (fun u t => va_P D vC ([(h, rO od fa ot ah te id rt bs kn), (fa, go cO 4 fr), (rt, rR fo (u.1 : Int) wh pt rs sq on tw), (fo, ka cJ 4 u.2.1), (wh, ka cJ 5 u.2.2.1), (pt, ka cJ 5 u.2.2.2.1), (rs, ka cJ 5 u.2.2.2.2.1), (sq, ka cJ 8 u.2.2.2.2.2.1), (on, ka cJ 5 u.2.2.2.2.2.2.1), (tw, ka cJ 5 u.2.2.2.2.2.2.2)] ++ gs 4 fr cJ 5 F) t.heap) (rc_A ([(h, rO od fa ot ah te id rt bs kn), (fa, go cO 4 fr), (rt, rR fo cn wh pt rs sq on tw), (fo, ka cJ 4 Fo), (wh, ka cJ 5 Y), (pt, ka cJ 5 P), (rs, ka cJ 5 r), (sq, ka cJ 8 S), (on, ka cJ 5 a1), (tw, ka cJ 5 b1)] ++ gs 4 fr cJ 5 F))) 0 0 (rc_A ([(h, rO od fa ot ah te id rt bs kn), (fa, go cO 4 fr), (rt, rR fo cn wh pt rs sq on tw), (fo, ka cJ 4 Fo), (wh, ka cJ 5 Y), (pt, ka cJ 5 P), (rs, ka cJ 5 r), (sq, ka cJ 8 S), (on, ka cJ 5 a1), (tw, ka cJ 5 b1)] ++ gs 4 fr cJ 5 F)) := by
  refine Met.ofW (cc := c_O_places) (maxL := 1) (ret := (some .int)) (by decide) rfl ?_
  intro p e s m args below meth c s₁ B hml hv
  obtain ⟨rfl, hP, hK, hD0, hN⟩ := hv
  have hx := B.exec
  have hb := B.bytes
  have hr := B.returns
  have hts0 := atoms_spec (ws := ws_O_places) B.pre
  have hts : ∀ w ∈ kb, w.before _ s = true := fun w h => hts0 w (List.mem_cons_of_mem _ h)
  have hown : s.vm.findClass R_O = some m.cls := findClass_of_methodNamed B.named
  have hlocks := B.notSynchronized
  have hD := rc_self hD0
  generalize hAe : rc_A ([(h, rO od fa ot ah te id rt bs kn), (fa, go cO 4 fr), (rt, rR fo cn wh pt rs sq on tw), (fo, ka cJ 4 Fo), (wh, ka cJ 5 Y), (pt, ka cJ 5 P), (rs, ka cJ 5 r), (sq, ka cJ 8 S), (on, ka cJ 5 a1), (tw, ka cJ 5 b1)] ++ gs 4 fr cJ 5 F) = A at hD ⊢
  have hS : va_S A s.heap s.heap [] := va_S.rf
  have hl := lv_entry ([.ref h]) (n := 1) (Nat.le_of_ble_eq_true rfl)
  rw [lg_entry_eq]
  generalize (lg_sl ([.ref h]) ++ List.replicate (1 - (lg_sl ([.ref h])).length) Slot.unset).toArray = ls at hl ⊢

  have hl : lv_has ls 1 [(0, .ref h)] := hl
  refine lv_aload_n hx hb d_O_places_0 rfl (lv_at hl 0 rfl) ?_
  refine rs_callv (va_runV (As := []) (rest := []) ⟨hx, hb, hml, hown, hts⟩ (m_O_findPlaces l D cJ cO h fa ot ah te id rt bs od kn fo wh pt rs sq on tw cn Fo Y P r S a1 b1 fr F o hod ho3 hF) (cwV 0 hts (kb_gi (kb_c kw_321 (kb_c kw_323 (kb_c ks_O_findPlaces (kb_c kw_1 (kb_c kw_324 kb_all)))))) rfl rfl rfl (by decide +kernel) ⟨Nat.le_of_ble_eq_true rfl, Nat.le_of_ble_eq_true rfl⟩) ⟨rc_blind, va_recv hK hP (ci := 2) (q0 := 0) rfl rfl, rs_pre (Y := []) (rs_nil hP) (rs_nilD hD) hK hN [0, 1, 2, 3, 4, 5, 6, 7, 8, 9] rfl rfl [0, 1] rfl⟩ rfl rfl hl.1 rfl (lv_room (Nat.le_of_ble_eq_true rfl)) d_O_places_1 ⟨Nat.zero_le _, Nat.zero_le _⟩) hP hD hS [0, 1, 2, 3, 4, 5, 6, 7, 8, 9] rfl (fun _ => rfl) (fun _ => gs_adr _ _ _ _ _ _) (fun u1 H locs hw1 hP hD hS => ?_)
  have hP : va_P D vC ([(h, rO od fa ot ah te id rt bs kn), (fa, go cO 4 fr), (rt, rR fo (u1.1 : Int) wh pt rs sq on tw), (fo, ka cJ 4 u1.2.1), (wh, ka cJ 5 u1.2.2.1), (pt, ka cJ 5 u1.2.2.2.1), (rs, ka cJ 5 u1.2.2.2.2.1), (sq, ka cJ 8 u1.2.2.2.2.2.1), (on, ka cJ 5 u1.2.2.2.2.2.2.1), (tw, ka cJ 5 u1.2.2.2.2.2.2.2)] ++ gs 4 fr cJ 5 F) H := hP
  have hD : va_D A ([(h, rO od fa ot ah te id rt bs kn), (fa, go cO 4 fr), (rt, rR fo (u1.1 : Int) wh pt rs sq on tw), (fo, ka cJ 4 u1.2.1), (wh, ka cJ 5 u1.2.2.1), (pt, ka cJ 5 u1.2.2.2.1), (rs, ka cJ 5 u1.2.2.2.2.1), (sq, ka cJ 8 u1.2.2.2.2.2.1), (on, ka cJ 5 u1.2.2.2.2.2.2.1), (tw, ka cJ 5 u1.2.2.2.2.2.2.2)] ++ gs 4 fr cJ 5 F) := hD
  refine lv_aload_n hx hb d_O_places_4 rfl (lv_at hl 0 rfl) ?_
  refine va_get (D := D) (ci := 2) (v := .ref rt) (C := R_O) (T := T_O) (N := 9) hx hb hts in_O hown hK hP 0 rfl rfl 6 (by decide) (hts _ kw_89) (fun _ h9 => h9) rfl d_O_places_5 ?_
  refine rc_calli (va_runV (As := []) (rest := []) ⟨hx, hb, hml, hown, hts⟩ (m_R_howMany l D cJ rt fo wh pt rs sq on tw (u1.1 : Int)) (cwV 0 hts (kb_gi (kb_c kw_399 (kb_c kw_400 (kb_c kw_401 (kb_c kw_2 (kb_c kw_402 kb_all)))))) rfl rfl rfl (by decide +kernel) ⟨Nat.le_of_ble_eq_true rfl, Nat.le_of_ble_eq_true rfl⟩) ⟨rc_blind, va_recv hK hP (ci := 1) (q0 := 2) rfl rfl, rc_pre hP hD hK hN [2] rfl rfl [] rfl⟩ rfl rfl hl.1 rfl (lv_room (Nat.le_of_ble_eq_true rfl)) d_O_places_8 ⟨Nat.zero_le _, Nat.zero_le _⟩) hP hD hS [2] rfl (fun _ => rfl) (fun r2 u3 H locs hw3 hP hD hS => ?_)
  subst hw3
  have hP : va_P D vC ([(h, rO od fa ot ah te id rt bs kn), (fa, go cO 4 fr), (rt, rR fo (u1.1 : Int) wh pt rs sq on tw), (fo, ka cJ 4 u1.2.1), (wh, ka cJ 5 u1.2.2.1), (pt, ka cJ 5 u1.2.2.2.1), (rs, ka cJ 5 u1.2.2.2.2.1), (sq, ka cJ 8 u1.2.2.2.2.2.1), (on, ka cJ 5 u1.2.2.2.2.2.2.1), (tw, ka cJ 5 u1.2.2.2.2.2.2.2)] ++ gs 4 fr cJ 5 F) H := hP
  have hD : va_D A ([(h, rO od fa ot ah te id rt bs kn), (fa, go cO 4 fr), (rt, rR fo (u1.1 : Int) wh pt rs sq on tw), (fo, ka cJ 4 u1.2.1), (wh, ka cJ 5 u1.2.2.1), (pt, ka cJ 5 u1.2.2.2.1), (rs, ka cJ 5 u1.2.2.2.2.1), (sq, ka cJ 8 u1.2.2.2.2.2.1), (on, ka cJ 5 u1.2.2.2.2.2.2.1), (tw, ka cJ 5 u1.2.2.2.2.2.2.2)] ++ gs 4 fr cJ 5 F) := hD
  exact W.iret hx hb hr (fun t ht hW => ⟨⟨_, u1, rfl, ⟨hw1, rfl⟩, rc_out ht hP⟩, hS.F ht⟩) hS.2.2 d_O_places_11
def ws_O_place : List Cond := .code y_O_place c_O_place 2 (some .int) :: kb
set_option maxHeartbeats 4000000 in
set_option maxRecDepth 100000 in
/-- place -/
theorem m_O_place (l : Launch) (D : va_G) (cJ cO : ClassId) (h fa ot ah te id rt bs : Nat) (od kn : Int) (fo wh pt rs sq on tw : Nat) (cn : Int) (Fo Y P r S a1 b1 : Nat → ro_K) (fr : Nat → Nat) (F : Nat → Nat → ro_K) (zk : Int) (o : Nat) (hod : od = (o : Int)) (ho3 : o ≤ 3) (hzkl : -2147483648 ≤ zk) (hzkh : zk < 2147483648) (hF : 0 ≤ kd (F o) 5) (hk0 : 0 ≤ zk) (hk1 : ∀ n Fo, rts (F o) n Fo → zk < (n : Int)) : Met l y_O_place ws_O_place ({ frames := 6, cells := 0, slots := 0, locals := 153 }) (rc_Pc D vC [(cJ, .long), (cO, .array .long)] [.ref h, .int (iz zk)] ([(h, rO od fa ot ah te id rt bs kn), (fa, go cO 4 fr), (rt, rR fo cn wh pt rs sq on tw), (fo, ka cJ 4 Fo), (wh, ka cJ 5 Y), (pt, ka cJ 5 P), (rs, ka cJ 5 r), (sq, ka cJ 8 S), (on, ka cJ 5 a1), (tw, ka cJ 5 b1)] ++ gs 4 fr cJ 5 F)) (va_Qi (fun (q : Int32) (u : rS8) => rts (F o) u.1 u.2.1 ∧ q = iz ((u.2.1 zk.toNat).val : Int)) (fun u t => va_P D vC ([(h, rO od fa ot ah te id rt bs kn), (fa, go cO 4 fr), (rt, rR fo (u.1 : Int) wh pt rs sq on tw), (fo, ka cJ 4 u.2.1), (wh, ka cJ 5 u.2.2.1), (pt, ka cJ 5 u.2.2.2.1), (rs, ka cJ 5 u.2.2.2.2.1), (sq, ka cJ 8 u.2.2.2.2.2.1), (on, ka cJ 5 u.2.2.2.2.2.2.1), (tw, ka cJ 5 u.2.2.2.2.2.2.2)] ++ gs 4 fr cJ 5 F) t.heap) (rc_A ([(h, rO od fa ot ah te id rt bs kn), (fa, go cO 4 fr), (rt, rR fo cn wh pt rs sq on tw), (fo, ka cJ 4 Fo), (wh, ka cJ 5 Y), (pt, ka cJ 5 P), (rs, ka cJ 5 r), (sq, ka cJ 8 S), (on, ka cJ 5 a1), (tw, ka cJ 5 b1)] ++ gs 4 fr cJ 5 F))) 0 0 (rc_A ([(h, rO od fa ot ah te id rt bs kn), (fa, go cO 4 fr), (rt, rR fo cn wh pt rs sq on tw), (fo, ka cJ 4 Fo), (wh, ka cJ 5 Y), (pt, ka cJ 5 P), (rs, ka cJ 5 r), (sq, ka cJ 8 S), (on, ka cJ 5 a1), (tw, ka cJ 5 b1)] ++ gs 4 fr cJ 5 F)) := by
  refine Met.ofW (cc := c_O_place) (maxL := 2) (ret := (some .int)) (by decide) rfl ?_
  intro p e s m args below meth c s₁ B hml hv
  obtain ⟨rfl, hP, hK, hD0, hN⟩ := hv
  have hx := B.exec
  have hb := B.bytes
  have hr := B.returns
  have hts0 := atoms_spec (ws := ws_O_place) B.pre
  have hts : ∀ w ∈ kb, w.before _ s = true := fun w h => hts0 w (List.mem_cons_of_mem _ h)
  have hown : s.vm.findClass R_O = some m.cls := findClass_of_methodNamed B.named
  have hlocks := B.notSynchronized
  have hD := rc_self hD0
  generalize hAe : rc_A ([(h, rO od fa ot ah te id rt bs kn), (fa, go cO 4 fr), (rt, rR fo cn wh pt rs sq on tw), (fo, ka cJ 4 Fo), (wh, ka cJ 5 Y), (pt, ka cJ 5 P), (rs, ka cJ 5 r), (sq, ka cJ 8 S), (on, ka cJ 5 a1), (tw, ka cJ 5 b1)] ++ gs 4 fr cJ 5 F) = A at hD ⊢
  have hS : va_S A s.heap s.heap [] := va_S.rf
  have hl := lv_entry ([.ref h, .int (iz zk)]) (n := 2) (Nat.le_of_ble_eq_true rfl)
  rw [lg_entry_eq]
  generalize (lg_sl ([.ref h, .int (iz zk)]) ++ List.replicate (2 - (lg_sl ([.ref h, .int (iz zk)])).length) Slot.unset).toArray = ls at hl ⊢

  have hl : lv_has ls 2 [(0, .ref h), (1, .int (iz zk))] := hl
  refine lv_aload_n hx hb d_O_place_0 rfl (lv_at hl 0 rfl) ?_
  refine rs_callv (va_runV (As := []) (rest := []) ⟨hx, hb, hml, hown, hts⟩ (m_O_findPlaces l D cJ cO h fa ot ah te id rt bs od kn fo wh pt rs sq on tw cn Fo Y P r S a1 b1 fr F o hod ho3 hF) (cwV 0 hts (kb_gi (kb_c kw_321 (kb_c kw_323 (kb_c ks_O_findPlaces (kb_c kw_1 (kb_c kw_324 kb_all)))))) rfl rfl rfl (by decide +kernel) ⟨Nat.le_of_ble_eq_true rfl, Nat.le_of_ble_eq_true rfl⟩) ⟨rc_blind, va_recv hK hP (ci := 2) (q0 := 0) rfl rfl, rs_pre (Y := []) (rs_nil hP) (rs_nilD hD) hK hN [0, 1, 2, 3, 4, 5, 6, 7, 8, 9] rfl rfl [0, 1] rfl⟩ rfl rfl hl.1 rfl (lv_room (Nat.le_of_ble_eq_true rfl)) d_O_place_1 ⟨Nat.zero_le _, Nat.zero_le _⟩) hP hD hS [0, 1, 2, 3, 4, 5, 6, 7, 8, 9] rfl (fun _ => rfl) (fun _ => gs_adr _ _ _ _ _ _) (fun u1 H locs hw1 hP hD hS => ?_)
  have hP : va_P D vC ([(h, rO od fa ot ah te id rt bs kn), (fa, go cO 4 fr), (rt, rR fo (u1.1 : Int) wh pt rs sq on tw), (fo, ka cJ 4 u1.2.1), (wh, ka cJ 5 u1.2.2.1), (pt, ka cJ 5 u1.2.2.2.1), (rs, ka cJ 5 u1.2.2.2.2.1), (sq, ka cJ 8 u1.2.2.2.2.2.1), (on, ka cJ 5 u1.2.2.2.2.2.2.1), (tw, ka cJ 5 u1.2.2.2.2.2.2.2)] ++ gs 4 fr cJ 5 F) H := hP
  have hD : va_D A ([(h, rO od fa ot ah te id rt bs kn), (fa, go cO 4 fr), (rt, rR fo (u1.1 : Int) wh pt rs sq on tw), (fo, ka cJ 4 u1.2.1), (wh, ka cJ 5 u1.2.2.1), (pt, ka cJ 5 u1.2.2.2.1), (rs, ka cJ 5 u1.2.2.2.2.1), (sq, ka cJ 8 u1.2.2.2.2.2.1), (on, ka cJ 5 u1.2.2.2.2.2.2.1), (tw, ka cJ 5 u1.2.2.2.2.2.2.2)] ++ gs 4 fr cJ 5 F) := hD
  have hk2 := hk1 _ _ hw1
  have hk3 := hw1.1
  refine lv_iload_n hx hb d_O_place_4 rfl (lv_at hl 1 rfl) ?_
  refine rz_if_lt (tgt := 19) hx hb d_O_place_5 (by decide) (fun hc2 => ?_) (fun hc2 => ?_)
  · omega
  · refine lv_iload_n hx hb d_O_place_8 rfl (lv_at hl 1 rfl) ?_
    refine lv_aload_n hx hb d_O_place_9 rfl (lv_at hl 0 rfl) ?_
    refine va_get (D := D) (ci := 2) (v := .ref rt) (C := R_O) (T := T_O) (N := 9) hx hb hts in_O hown hK hP 0 rfl rfl 6 (by decide) (hts _ kw_89) (fun _ h9 => h9) rfl d_O_place_10 ?_
    refine rc_calli (va_runV (As := []) (rest := [.int (iz zk)]) ⟨hx, hb, hml, hown, hts⟩ (m_R_howMany l D cJ rt fo wh pt rs sq on tw (u1.1 : Int)) (cwV 0 hts (kb_gi (kb_c kw_399 (kb_c kw_400 (kb_c kw_401 (kb_c kw_2 (kb_c kw_402 kb_all)))))) rfl rfl rfl (by decide +kernel) ⟨Nat.le_of_ble_eq_true rfl, Nat.le_of_ble_eq_true rfl⟩) ⟨rc_blind, va_recv hK hP (ci := 1) (q0 := 2) rfl rfl, rc_pre hP hD hK hN [2] rfl rfl [] rfl⟩ rfl rfl hl.1 rfl (lv_room (Nat.le_of_ble_eq_true rfl)) d_O_place_13 ⟨Nat.zero_le _, Nat.zero_le _⟩) hP hD hS [2] rfl (fun _ => rfl) (fun r3 u4 H locs hw4 hP hD hS => ?_)
    subst hw4
    have hP : va_P D vC ([(h, rO od fa ot ah te id rt bs kn), (fa, go cO 4 fr), (rt, rR fo (u1.1 : Int) wh pt rs sq on tw), (fo, ka cJ 4 u1.2.1), (wh, ka cJ 5 u1.2.2.1), (pt, ka cJ 5 u1.2.2.2.1), (rs, ka cJ 5 u1.2.2.2.2.1), (sq, ka cJ 8 u1.2.2.2.2.2.1), (on, ka cJ 5 u1.2.2.2.2.2.2.1), (tw, ka cJ 5 u1.2.2.2.2.2.2.2)] ++ gs 4 fr cJ 5 F) H := hP
    have hD : va_D A ([(h, rO od fa ot ah te id rt bs kn), (fa, go cO 4 fr), (rt, rR fo (u1.1 : Int) wh pt rs sq on tw), (fo, ka cJ 4 u1.2.1), (wh, ka cJ 5 u1.2.2.1), (pt, ka cJ 5 u1.2.2.2.1), (rs, ka cJ 5 u1.2.2.2.2.1), (sq, ka cJ 8 u1.2.2.2.2.2.1), (on, ka cJ 5 u1.2.2.2.2.2.2.1), (tw, ka cJ 5 u1.2.2.2.2.2.2.2)] ++ gs 4 fr cJ 5 F) := hD
    refine rz_icmp_lt (tgt := 29) hx hb d_O_place_16 (by decide) (fun hc5 => ?_) (fun hc5 => ?_)
    · refine lv_aload_n hx hb d_O_place_29 rfl (lv_at hl 0 rfl) ?_
      refine va_get (D := D) (ci := 2) (v := .ref rt) (C := R_O) (T := T_O) (N := 9) hx hb hts in_O hown hK hP 0 rfl rfl 6 (by decide) (hts _ kw_89) (fun _ h9 => h9) rfl d_O_place_30 ?_
      refine lv_iload_n hx hb d_O_place_33 rfl (lv_at hl 1 rfl) ?_
      refine rc_calli (va_runV (As := [.int (iz zk)]) (rest := []) ⟨hx, hb, hml, hown, hts⟩ (m_R_orNone l D cJ rt fo wh pt rs sq on tw (u1.1 : Int) u1.2.1 u1.1 (iz zk) rfl hw1.1) (cwV 1 hts (kb_gi (kb_c kw_411 (kb_c kw_412 (kb_c kw_413 (kb_c kw_2 (kb_c kw_414 kb_all)))))) rfl rfl rfl (by decide +kernel) ⟨Nat.le_of_ble_eq_true rfl, Nat.le_of_ble_eq_true rfl⟩) ⟨rc_blind, va_recv hK hP (ci := 1) (q0 := 2) rfl rfl, rc_pre hP hD hK hN [2, 3] rfl rfl [0] rfl⟩ rfl rfl hl.1 rfl (lv_room (Nat.le_of_ble_eq_true rfl)) d_O_place_34 ⟨Nat.zero_le _, Nat.zero_le _⟩) hP hD hS [2, 3] rfl (fun _ => rfl) (fun r6 u7 H locs hw7 hP hD hS => ?_)
      rw [iz_toInt hzkl hzkh] at hw7
      have hP : va_P D vC ([(h, rO od fa ot ah te id rt bs kn), (fa, go cO 4 fr), (rt, rR fo (u1.1 : Int) wh pt rs sq on tw), (fo, ka cJ 4 u1.2.1), (wh, ka cJ 5 u1.2.2.1), (pt, ka cJ 5 u1.2.2.2.1), (rs, ka cJ 5 u1.2.2.2.2.1), (sq, ka cJ 8 u1.2.2.2.2.2.1), (on, ka cJ 5 u1.2.2.2.2.2.2.1), (tw, ka cJ 5 u1.2.2.2.2.2.2.2)] ++ gs 4 fr cJ 5 F) H := hP
      have hD : va_D A ([(h, rO od fa ot ah te id rt bs kn), (fa, go cO 4 fr), (rt, rR fo (u1.1 : Int) wh pt rs sq on tw), (fo, ka cJ 4 u1.2.1), (wh, ka cJ 5 u1.2.2.1), (pt, ka cJ 5 u1.2.2.2.1), (rs, ka cJ 5 u1.2.2.2.2.1), (sq, ka cJ 8 u1.2.2.2.2.2.1), (on, ka cJ 5 u1.2.2.2.2.2.2.1), (tw, ka cJ 5 u1.2.2.2.2.2.2.2)] ++ gs 4 fr cJ 5 F) := hD
      exact W.iret hx hb hr (fun t ht hW => ⟨⟨_, u1, rfl, ⟨hw1, by rw [hw7, if_pos ⟨hk0, hk2⟩]⟩, rc_out ht hP⟩, hS.F ht⟩) hS.2.2 d_O_place_37
    · omega
def ws_O_level : List Cond := .code y_O_level c_O_level 4 (some .int) :: kb
set_option maxHeartbeats 4000000 in
set_option maxRecDepth 100000 in
/-- level -/
theorem m_O_level (l : Launch) (D : va_G) (cJ cO : ClassId) (h fa ot ah te id rt bs : Nat) (od kn : Int) (fr er : Nat → Nat) (E F : Nat → Nat → ro_K) (ze : Int) (v : Int64) (o : Nat) (hod : od = (o : Int)) (ho3 : o ≤ 3) (hz0 : 0 ≤ ze) (hz1 : ze ≤ 1) (haz : azB F (o + 1) = false) : Met l y_O_level ws_O_level ({ frames := 4, cells := 0, slots := 0, locals := 88 }) (rc_Pc D vC [(cJ, .long), (cO, .array .long)] [.ref h, .int (iz ze), .long v] (([(h, rO od fa ot ah te id rt bs kn), (fa, go cO 4 fr), (ot, go cO 4 er)] ++ gs 4 er cJ 5 E) ++ gs 4 fr cJ 5 F)) (va_Qi (fun (q : Int32) (_ : Unit) => q = iz (gtL (gtE F o ze v E) o ze)) (fun _ t => va_P D vC (([(h, rO od fa ot ah te id rt bs kn), (fa, go cO 4 fr), (ot, go cO 4 er)] ++ gs 4 er cJ 5 (gtE F o ze v E)) ++ gs 4 fr cJ 5 F) t.heap) (rc_A (([(h, rO od fa ot ah te id rt bs kn), (fa, go cO 4 fr), (ot, go cO 4 er)] ++ gs 4 er cJ 5 E) ++ gs 4 fr cJ 5 F))) 0 0 (rc_A (([(h, rO od fa ot ah te id rt bs kn), (fa, go cO 4 fr), (ot, go cO 4 er)] ++ gs 4 er cJ 5 E) ++ gs 4 fr cJ 5 F)) := by
  refine Met.ofW (cc := c_O_level) (maxL := 4) (ret := (some .int)) (by decide) rfl ?_
  intro p e s m args below meth c s₁ B hml hv
  obtain ⟨rfl, hP, hK, hD0, hN⟩ := hv
  have hx := B.exec
  have hb := B.bytes
  have hr := B.returns
  have hts0 := atoms_spec (ws := ws_O_level) B.pre
  have hts : ∀ w ∈ kb, w.before _ s = true := fun w h => hts0 w (List.mem_cons_of_mem _ h)
  have hown : s.vm.findClass R_O = some m.cls := findClass_of_methodNamed B.named
  have hlocks := B.notSynchronized
  have hD := rc_self hD0
  generalize hAe : rc_A (([(h, rO od fa ot ah te id rt bs kn), (fa, go cO 4 fr), (ot, go cO 4 er)] ++ gs 4 er cJ 5 E) ++ gs 4 fr cJ 5 F) = A at hD ⊢
  have hS : va_S A s.heap s.heap [] := va_S.rf
  have hl := lv_entry ([.ref h, .int (iz ze), .long v]) (n := 4) (Nat.le_of_ble_eq_true rfl)
  rw [lg_entry_eq]
  generalize (lg_sl ([.ref h, .int (iz ze), .long v]) ++ List.replicate (4 - (lg_sl ([.ref h, .int (iz ze), .long v])).length) Slot.unset).toArray = ls at hl ⊢

  have hl : lv_has ls 4 [(0, .ref h), (1, .int (iz ze)), (2, .long v)] := hl
  have hgl := gtL_in (gtE F o ze v E) o ze
  refine lv_aload_n hx hb d_O_level_0 rfl (lv_at hl 0 rfl) ?_
  refine lv_iload_n hx hb d_O_level_1 rfl (lv_at hl 1 rfl) ?_
  refine lv_lload_n hx hb d_O_level_2 rfl (lv_at hl 2 rfl) ?_
  refine rs_calli (va_runV (As := [.int (iz ze), .long v]) (rest := []) ⟨hx, hb, hml, hown, hts⟩ (m_O_goTo_S l D cJ cO h fa ot ah te id rt bs od kn fr er E F ze v o hod ho3 hz0 hz1 haz) (cwV 2 hts (kb_gi (kb_c kw_422 (kb_c kw_424 (kb_c ks_O_goTo (kb_c kw_1 (kb_c kw_425 kb_all)))))) rfl rfl rfl (by decide +kernel) ⟨Nat.le_of_ble_eq_true rfl, Nat.le_of_ble_eq_true rfl⟩) ⟨rc_blind, va_recv hK hP (ci := 2) (q0 := 0) rfl rfl, rs_pre (Y := []) (rs_nil (rs_a_2_0 hP)) (rs_nilD (rs_aD_2_0 hD)) hK hN [0, 1, 2] rfl rfl [0, 1] rfl⟩ rfl rfl hl.1 rfl (lv_room (Nat.le_of_ble_eq_true rfl)) d_O_level_3 ⟨Nat.zero_le _, Nat.zero_le _⟩) (rs_a_2_0 hP) (rs_aD_2_0 hD) hS [0, 1, 2] rfl (fun _ => rfl) (fun _ => gs_adr2 (gs_adr _ _ _ _ _ _) (gs_adr _ _ _ _ _ _)) (fun r1 u2 H locs hw2 hP hD hS => ?_)
  have hP := rs_b_2_0 hP
  have hD := rs_bD_2_0 hD
  subst hw2
  have hP : va_P D vC (([(h, rO od fa ot ah te id rt bs kn), (fa, go cO 4 fr), (ot, go cO 4 er)] ++ gs 4 er cJ 5 (gtE F o ze v E)) ++ gs 4 fr cJ 5 F) H := hP
  have hD : va_D A (([(h, rO od fa ot ah te id rt bs kn), (fa, go cO 4 fr), (ot, go cO 4 er)] ++ gs 4 er cJ 5 (gtE F o ze v E)) ++ gs 4 fr cJ 5 F) := hD
  exact W.iret hx hb hr (fun t ht hW => ⟨⟨_, (), rfl, rfl, rc_out ht hP⟩, hS.F ht⟩) hS.2.2 d_O_level_6
def ws_O_regular : List Cond := .code y_O_regular c_O_regular 5 (some .boolean) :: kb
set_option maxHeartbeats 4000000 in
set_option maxRecDepth 100000 in
/-- regular -/
theorem m_O_regular (l : Launch) (D : va_G) (cJ cO : ClassId) (h fa ot ah te id rt bs : Nat) (od kn : Int) (fr er : Nat → Nat) (E F : Nat → Nat → ro_K) (ze : Int) (v : Int64) (o : Nat) (hod : od = (o : Int)) (ho3 : o ≤ 3) (hz0 : 0 ≤ ze) (hz1 : ze ≤ 1) (haz : azB F (o + 1) = false) : Met l y_O_regular ws_O_regular ({ frames := 4, cells := 0, slots := 0, locals := 88 }) (rc_Pc D vC [(cJ, .long), (cO, .array .long)] [.ref h, .int (iz ze), .long v] (([(h, rO od fa ot ah te id rt bs kn), (fa, go cO 4 fr), (ot, go cO 4 er)] ++ gs 4 er cJ 5 E) ++ gs 4 fr cJ 5 F)) (va_Qi (fun (q : Int32) (_ : Unit) => q = if oat (gtE F o ze v E) o (gtL (gtE F o ze v E) o ze + (o : Int)) = 0 then iz 0 else iz 1) (fun _ t => va_P D vC (([(h, rO od fa ot ah te id rt bs kn), (fa, go cO 4 fr), (ot, go cO 4 er)] ++ gs 4 er cJ 5 (gtE F o ze v E)) ++ gs 4 fr cJ 5 F) t.heap) (rc_A (([(h, rO od fa ot ah te id rt bs kn), (fa, go cO 4 fr), (ot, go cO 4 er)] ++ gs 4 er cJ 5 E) ++ gs 4 fr cJ 5 F))) 0 0 (rc_A (([(h, rO od fa ot ah te id rt bs kn), (fa, go cO 4 fr), (ot, go cO 4 er)] ++ gs 4 er cJ 5 E) ++ gs 4 fr cJ 5 F)) := by
  refine Met.ofW (cc := c_O_regular) (maxL := 5) (ret := (some .boolean)) (by decide) rfl ?_
  intro p e s m args below meth c s₁ B hml hv
  obtain ⟨rfl, hP, hK, hD0, hN⟩ := hv
  have hx := B.exec
  have hb := B.bytes
  have hr := B.returns
  have hts0 := atoms_spec (ws := ws_O_regular) B.pre
  have hts : ∀ w ∈ kb, w.before _ s = true := fun w h => hts0 w (List.mem_cons_of_mem _ h)
  have hown : s.vm.findClass R_O = some m.cls := findClass_of_methodNamed B.named
  have hlocks := B.notSynchronized
  have hD := rc_self hD0
  generalize hAe : rc_A (([(h, rO od fa ot ah te id rt bs kn), (fa, go cO 4 fr), (ot, go cO 4 er)] ++ gs 4 er cJ 5 E) ++ gs 4 fr cJ 5 F) = A at hD ⊢
  have hS : va_S A s.heap s.heap [] := va_S.rf
  have hl := lv_entry ([.ref h, .int (iz ze), .long v]) (n := 5) (Nat.le_of_ble_eq_true rfl)
  rw [lg_entry_eq]
  generalize (lg_sl ([.ref h, .int (iz ze), .long v]) ++ List.replicate (5 - (lg_sl ([.ref h, .int (iz ze), .long v])).length) Slot.unset).toArray = ls at hl ⊢

  have hl : lv_has ls 5 [(0, .ref h), (1, .int (iz ze)), (2, .long v)] := hl
  have hgl := gtL_in (gtE F o ze v E) o ze
  refine lv_aload_n hx hb d_O_regular_0 rfl (lv_at hl 0 rfl) ?_
  refine lv_iload_n hx hb d_O_regular_1 rfl (lv_at hl 1 rfl) ?_
  refine lv_lload_n hx hb d_O_regular_2 rfl (lv_at hl 2 rfl) ?_
  refine rs_calli (va_runV (As := [.int (iz ze), .long v]) (rest := []) ⟨hx, hb, hml, hown, hts⟩ (m_O_goTo_S l D cJ cO h fa ot ah te id rt bs od kn fr er E F ze v o hod ho3 hz0 hz1 haz) (cwV 2 hts (kb_gi (kb_c kw_422 (kb_c kw_424 (kb_c ks_O_goTo (kb_c kw_1 (kb_c kw_425 kb_all)))))) rfl rfl rfl (by decide +kernel) ⟨Nat.le_of_ble_eq_true rfl, Nat.le_of_ble_eq_true rfl⟩) ⟨rc_blind, va_recv hK hP (ci := 2) (q0 := 0) rfl rfl, rs_pre (Y := []) (rs_nil (rs_a_2_0 hP)) (rs_nilD (rs_aD_2_0 hD)) hK hN [0, 1, 2] rfl rfl [0, 1] rfl⟩ rfl rfl hl.1 rfl (lv_room (Nat.le_of_ble_eq_true rfl)) d_O_regular_3 ⟨Nat.zero_le _, Nat.zero_le _⟩) (rs_a_2_0 hP) (rs_aD_2_0 hD) hS [0, 1, 2] rfl (fun _ => rfl) (fun _ => gs_adr2 (gs_adr _ _ _ _ _ _) (gs_adr _ _ _ _ _ _)) (fun r1 u2 H locs hw2 hP hD hS => ?_)
  have hP := rs_b_2_0 hP
  have hD := rs_bD_2_0 hD
  subst hw2
  have hP : va_P D vC (([(h, rO od fa ot ah te id rt bs kn), (fa, go cO 4 fr), (ot, go cO 4 er)] ++ gs 4 er cJ 5 (gtE F o ze v E)) ++ gs 4 fr cJ 5 F) H := hP
  have hD : va_D A (([(h, rO od fa ot ah te id rt bs kn), (fa, go cO 4 fr), (ot, go cO 4 er)] ++ gs 4 er cJ 5 (gtE F o ze v E)) ++ gs 4 fr cJ 5 F) := hD
  refine lv_istore (lv' := [(4, .int (iz (gtL (gtE F o ze v E) o ze))), (0, .ref h), (1, .int (iz ze)), (2, .long v)]) hx hb d_O_regular_6 hl (by decide) rfl (fun ls hl => ?_)
  refine lv_aload_n hx hb d_O_regular_8 rfl (lv_at hl 1 rfl) ?_
  refine lv_aload_n hx hb d_O_regular_9 rfl (lv_at hl 1 rfl) ?_
  refine va_get (D := D) (ci := 2) (v := .int (iz od)) (C := R_O) (T := T_O) (N := 9) hx hb hts in_O hown hK hP 0 rfl rfl 0 (by decide) (hts _ kw_83) (fun _ h9 => h9) rfl d_O_regular_10 ?_
  refine lv_iload hx hb d_O_regular_13 (lv_at hl 0 rfl) ?_
  refine lv_aload_n hx hb d_O_regular_15 rfl (lv_at hl 1 rfl) ?_
  refine va_get (D := D) (ci := 2) (v := .int (iz od)) (C := R_O) (T := T_O) (N := 9) hx hb hts in_O hown hK hP 0 rfl rfl 0 (by decide) (hts _ kw_83) (fun _ h9 => h9) rfl d_O_regular_16 ?_
  refine rz_iadd hx hb d_O_regular_19 ?_
  refine rsT_calll (va_runV (As := [.int (iz od), .int (iz ((gtL (gtE F o ze v E) o ze) + od))]) (rest := []) ⟨hx, hb, hml, hown, hts⟩ (m_O_otherAt l D cJ cO h fa ot ah te id rt bs od kn er (gtE F o ze v E) od ((gtL (gtE F o ze v E) o ze) + od) o hod (by omega) (by omega) (by omega)) (cwV 2 hts (kb_gi (kb_c kw_443 (kb_c kw_445 (kb_c ks_O_otherAt (kb_c kw_1 (kb_c kw_446 kb_all)))))) rfl rfl rfl (by decide +kernel) ⟨Nat.le_of_ble_eq_true rfl, Nat.le_of_ble_eq_true rfl⟩) ⟨rc_blind, va_recv hK hP (ci := 2) (q0 := 0) rfl rfl, rs_pre (rs_a1 hP) (rs_aD1 hD) hK hN [0, 2] rfl rfl [0, 1] rfl⟩ rfl rfl hl.1 rfl (lv_room (Nat.le_of_ble_eq_true rfl)) d_O_regular_20 ⟨Nat.zero_le _, Nat.zero_le _⟩) (rs_a1 hP) (rs_aD1 hD) hS [0, 2] rfl (fun _ => rfl) (fun _ => gs_adr _ _ _ _ _ _) (fun r3 u4 H locs hw4 hP hD hS => ?_)
  have hP := rs_b1 hP
  have hD := rs_bD1 hD
  subst hw4
  have hP : va_P D vC (([(h, rO od fa ot ah te id rt bs kn), (fa, go cO 4 fr), (ot, go cO 4 er)] ++ gs 4 er cJ 5 (gtE F o ze v E)) ++ gs 4 fr cJ 5 F) H := hP
  have hD : va_D A (([(h, rO od fa ot ah te id rt bs kn), (fa, go cO 4 fr), (ot, go cO 4 er)] ++ gs 4 er cJ 5 (gtE F o ze v E)) ++ gs 4 fr cJ 5 F) := hD
  refine lv_lconst (v := lk 0) hx hb d_O_regular_23 rfl ?_
  refine rz_lcmp_eq (tgt := 32) hx hb d_O_regular_24 d_O_regular_25 (by decide) (fun hc5 => ?_) (fun hc5 => ?_)
  · have hc5 : (oat (gtE F o ze v E) o ((gtL (gtE F o ze v E) o ze) + od)) = 0 := lk_inj.mp hc5
    refine rz_iconst hx hb d_O_regular_32 ?_
    exact W.zret hx hb hr rfl (fun t ht hW => ⟨⟨_, (), rfl, (by subst hod; rw [if_pos (by assumption)]), rc_out ht hP⟩, hS.F ht⟩) hS.2.2 d_O_regular_33
  · have hc5 : (oat (gtE F o ze v E) o ((gtL (gtE F o ze v E) o ze) + od)) ≠ 0 := fun z => hc5 (lk_inj.mpr z)
    refine rz_iconst hx hb d_O_regular_28 ?_
    refine lv_goto (tgt := 33) hx hb d_O_regular_29 (by decide) ?_
    exact W.zret hx hb hr rfl (fun t ht hW => ⟨⟨_, (), rfl, (by subst hod; rw [if_neg (by assumption)]), rc_out ht hP⟩, hS.F ht⟩) hS.2.2 d_O_regular_33
def ws_O_exponent : List Cond := .code y_O_exponent c_O_exponent 5 (some .int) :: kb
set_option maxHeartbeats 4000000 in
set_option maxRecDepth 100000 in
/-- exponent -/
theorem m_O_exponent (l : Launch) (D : va_G) (cJ cO : ClassId) (h fa ot ah te id rt bs : Nat) (od kn : Int) (fo wh pt rs sq on tw : Nat) (cn : Int) (Fo Y P r S a1 b1 : Nat → ro_K) (fr er : Nat → Nat) (E F : Nat → Nat → ro_K) (J : Nat → ro_K) (ze : Int) (v : Int64) (zk : Int) (o : Nat) (hod : od = (o : Int)) (ho3 : o ≤ 3) (hz0 : 0 ≤ ze) (hz1 : ze ≤ 1) (haz : azB F (o + 1) = false) (hzkl : -2147483648 ≤ zk) (hzkh : zk < 2147483648) (hF : 0 ≤ kd (inF (gtE F o ze v E) (gtL (gtE F o ze v E) o ze) J) 5) (hJ : J 4 = 0) : Met l y_O_exponent ws_O_exponent ({ frames := 5, cells := 0, slots := 0, locals := 133 }) (rc_Pc D vC [(cJ, .long), (cO, .array .long)] [.ref h, .int (iz ze), .long v, .int (iz zk)] (([(h, rO od fa ot ah te id rt bs kn), (fa, go cO 4 fr), (ot, go cO 4 er), (id, ka cJ 5 J), (rt, rR fo cn wh pt rs sq on tw), (fo, ka cJ 4 Fo), (wh, ka cJ 5 Y), (pt, ka cJ 5 P), (rs, ka cJ 5 r), (sq, ka cJ 8 S), (on, ka cJ 5 a1), (tw, ka cJ 5 b1)] ++ gs 4 er cJ 5 E) ++ gs 4 fr cJ 5 F)) (va_Qi (fun (q : Int32) (u : rS8) => rts (inF (gtE F o ze v E) (gtL (gtE F o ze v E) o ze) J) u.1 u.2.1 ∧ q = if 0 ≤ zk ∧ zk < (u.1 : Int) then iz ((u.2.1 zk.toNat).val : Int) else iz (-1)) (fun u t => va_P D vC (([(h, rO od fa ot ah te id rt bs kn), (fa, go cO 4 fr), (ot, go cO 4 er), (id, ka cJ 5 (inF (gtE F o ze v E) (gtL (gtE F o ze v E) o ze) J)), (rt, rR fo (u.1 : Int) wh pt rs sq on tw), (fo, ka cJ 4 u.2.1), (wh, ka cJ 5 u.2.2.1), (pt, ka cJ 5 u.2.2.2.1), (rs, ka cJ 5 u.2.2.2.2.1), (sq, ka cJ 8 u.2.2.2.2.2.1), (on, ka cJ 5 u.2.2.2.2.2.2.1), (tw, ka cJ 5 u.2.2.2.2.2.2.2)] ++ gs 4 er cJ 5 (gtE F o ze v E)) ++ gs 4 fr cJ 5 F) t.heap) (rc_A (([(h, rO od fa ot ah te id rt bs kn), (fa, go cO 4 fr), (ot, go cO 4 er), (id, ka cJ 5 J), (rt, rR fo cn wh pt rs sq on tw), (fo, ka cJ 4 Fo), (wh, ka cJ 5 Y), (pt, ka cJ 5 P), (rs, ka cJ 5 r), (sq, ka cJ 8 S), (on, ka cJ 5 a1), (tw, ka cJ 5 b1)] ++ gs 4 er cJ 5 E) ++ gs 4 fr cJ 5 F))) 0 0 (rc_A (([(h, rO od fa ot ah te id rt bs kn), (fa, go cO 4 fr), (ot, go cO 4 er), (id, ka cJ 5 J), (rt, rR fo cn wh pt rs sq on tw), (fo, ka cJ 4 Fo), (wh, ka cJ 5 Y), (pt, ka cJ 5 P), (rs, ka cJ 5 r), (sq, ka cJ 8 S), (on, ka cJ 5 a1), (tw, ka cJ 5 b1)] ++ gs 4 er cJ 5 E) ++ gs 4 fr cJ 5 F)) := by
  refine Met.ofW (cc := c_O_exponent) (maxL := 5) (ret := (some .int)) (by decide) rfl ?_
  intro p e s m args below meth c s₁ B hml hv
  obtain ⟨rfl, hP, hK, hD0, hN⟩ := hv
  have hx := B.exec
  have hb := B.bytes
  have hr := B.returns
  have hts0 := atoms_spec (ws := ws_O_exponent) B.pre
  have hts : ∀ w ∈ kb, w.before _ s = true := fun w h => hts0 w (List.mem_cons_of_mem _ h)
  have hown : s.vm.findClass R_O = some m.cls := findClass_of_methodNamed B.named
  have hlocks := B.notSynchronized
  have hD := rc_self hD0
  generalize hAe : rc_A (([(h, rO od fa ot ah te id rt bs kn), (fa, go cO 4 fr), (ot, go cO 4 er), (id, ka cJ 5 J), (rt, rR fo cn wh pt rs sq on tw), (fo, ka cJ 4 Fo), (wh, ka cJ 5 Y), (pt, ka cJ 5 P), (rs, ka cJ 5 r), (sq, ka cJ 8 S), (on, ka cJ 5 a1), (tw, ka cJ 5 b1)] ++ gs 4 er cJ 5 E) ++ gs 4 fr cJ 5 F) = A at hD ⊢
  have hS : va_S A s.heap s.heap [] := va_S.rf
  have hl := lv_entry ([.ref h, .int (iz ze), .long v, .int (iz zk)]) (n := 5) (Nat.le_of_ble_eq_true rfl)
  rw [lg_entry_eq]
  generalize (lg_sl ([.ref h, .int (iz ze), .long v, .int (iz zk)]) ++ List.replicate (5 - (lg_sl ([.ref h, .int (iz ze), .long v, .int (iz zk)])).length) Slot.unset).toArray = ls at hl ⊢

  have hl : lv_has ls 5 [(0, .ref h), (1, .int (iz ze)), (2, .long v), (4, .int (iz zk))] := hl
  have hgl := gtL_in (gtE F o ze v E) o ze
  refine lv_aload_n hx hb d_O_exponent_0 rfl (lv_at hl 0 rfl) ?_
  refine lv_aload_n hx hb d_O_exponent_1 rfl (lv_at hl 0 rfl) ?_
  refine lv_iload_n hx hb d_O_exponent_2 rfl (lv_at hl 1 rfl) ?_
  refine lv_lload_n hx hb d_O_exponent_3 rfl (lv_at hl 2 rfl) ?_
  refine rs_calli (va_runV (As := [.int (iz ze), .long v]) (rest := [.ref h]) ⟨hx, hb, hml, hown, hts⟩ (m_O_goTo_S l D cJ cO h fa ot ah te id rt bs od kn fr er E F ze v o hod ho3 hz0 hz1 haz) (cwV 2 hts (kb_gi (kb_c kw_422 (kb_c kw_424 (kb_c ks_O_goTo (kb_c kw_1 (kb_c kw_425 kb_all)))))) rfl rfl rfl (by decide +kernel) ⟨Nat.le_of_ble_eq_true rfl, Nat.le_of_ble_eq_true rfl⟩) ⟨rc_blind, va_recv hK hP (ci := 2) (q0 := 0) rfl rfl, rs_pre (Y := []) (rs_nil (rs_a_2_0 hP)) (rs_nilD (rs_aD_2_0 hD)) hK hN [0, 1, 2] rfl rfl [0, 1] rfl⟩ rfl rfl hl.1 rfl (lv_room (Nat.le_of_ble_eq_true rfl)) d_O_exponent_4 ⟨Nat.zero_le _, Nat.zero_le _⟩) (rs_a_2_0 hP) (rs_aD_2_0 hD) hS [0, 1, 2] rfl (fun _ => rfl) (fun _ => gs_adr2 (gs_adr _ _ _ _ _ _) (gs_adr _ _ _ _ _ _)) (fun r1 u2 H locs hw2 hP hD hS => ?_)
  have hP := rs_b_2_0 hP
  have hD := rs_bD_2_0 hD
  subst hw2
  have hP : va_P D vC (([(h, rO od fa ot ah te id rt bs kn), (fa, go cO 4 fr), (ot, go cO 4 er), (id, ka cJ 5 J), (rt, rR fo cn wh pt rs sq on tw), (fo, ka cJ 4 Fo), (wh, ka cJ 5 Y), (pt, ka cJ 5 P), (rs, ka cJ 5 r), (sq, ka cJ 8 S), (on, ka cJ 5 a1), (tw, ka cJ 5 b1)] ++ gs 4 er cJ 5 (gtE F o ze v E)) ++ gs 4 fr cJ 5 F) H := hP
  have hD : va_D A (([(h, rO od fa ot ah te id rt bs kn), (fa, go cO 4 fr), (ot, go cO 4 er), (id, ka cJ 5 J), (rt, rR fo cn wh pt rs sq on tw), (fo, ka cJ 4 Fo), (wh, ka cJ 5 Y), (pt, ka cJ 5 P), (rs, ka cJ 5 r), (sq, ka cJ 8 S), (on, ka cJ 5 a1), (tw, ka cJ 5 b1)] ++ gs 4 er cJ 5 (gtE F o ze v E)) ++ gs 4 fr cJ 5 F) := hD
  refine rsT_callv (va_runV (As := [.int (iz (gtL (gtE F o ze v E) o ze))]) (rest := []) ⟨hx, hb, hml, hown, hts⟩ (m_O_fillIndicial l D cJ cO h fa ot ah te id rt bs od kn er (gtE F o ze v E) J (gtL (gtE F o ze v E) o ze) (by omega) (by omega) hJ) (cwV 1 hts (kb_gi (kb_c kw_465 (kb_c kw_467 (kb_c ks_O_fillIndicial (kb_c kw_1 (kb_c kw_468 kb_all)))))) rfl rfl rfl (by decide +kernel) ⟨Nat.le_of_ble_eq_true rfl, Nat.le_of_ble_eq_true rfl⟩) ⟨rc_blind, va_recv hK hP (ci := 2) (q0 := 0) rfl rfl, rs_pre (rs_a1 hP) (rs_aD1 hD) hK hN [0, 2, 3] rfl rfl [0, 1] rfl⟩ rfl rfl hl.1 rfl (lv_room (Nat.le_of_ble_eq_true rfl)) d_O_exponent_7 ⟨Nat.zero_le _, Nat.zero_le _⟩) (rs_a1 hP) (rs_aD1 hD) hS [0, 2, 3] rfl (fun _ => rfl) (fun _ => gs_adr _ _ _ _ _ _) (fun u3 H locs hw3 hP hD hS => ?_)
  have hP := rs_b1 hP
  have hD := rs_bD1 hD
  have hP : va_P D vC (([(h, rO od fa ot ah te id rt bs kn), (fa, go cO 4 fr), (ot, go cO 4 er), (id, ka cJ 5 (inF (gtE F o ze v E) (gtL (gtE F o ze v E) o ze) J)), (rt, rR fo cn wh pt rs sq on tw), (fo, ka cJ 4 Fo), (wh, ka cJ 5 Y), (pt, ka cJ 5 P), (rs, ka cJ 5 r), (sq, ka cJ 8 S), (on, ka cJ 5 a1), (tw, ka cJ 5 b1)] ++ gs 4 er cJ 5 (gtE F o ze v E)) ++ gs 4 fr cJ 5 F) H := hP
  have hD : va_D A (([(h, rO od fa ot ah te id rt bs kn), (fa, go cO 4 fr), (ot, go cO 4 er), (id, ka cJ 5 (inF (gtE F o ze v E) (gtL (gtE F o ze v E) o ze) J)), (rt, rR fo cn wh pt rs sq on tw), (fo, ka cJ 4 Fo), (wh, ka cJ 5 Y), (pt, ka cJ 5 P), (rs, ka cJ 5 r), (sq, ka cJ 8 S), (on, ka cJ 5 a1), (tw, ka cJ 5 b1)] ++ gs 4 er cJ 5 (gtE F o ze v E)) ++ gs 4 fr cJ 5 F) := hD
  refine lv_aload_n hx hb d_O_exponent_10 rfl (lv_at hl 0 rfl) ?_
  refine va_get (D := D) (ci := 2) (v := .ref rt) (C := R_O) (T := T_O) (N := 9) hx hb hts in_O hown hK hP 0 rfl rfl 6 (by decide) (hts _ kw_89) (fun _ h9 => h9) rfl d_O_exponent_11 ?_
  refine lv_aload_n hx hb d_O_exponent_14 rfl (lv_at hl 0 rfl) ?_
  refine va_get (D := D) (ci := 2) (v := .ref id) (C := R_O) (T := T_O) (N := 9) hx hb hts in_O hown hK hP 0 rfl rfl 5 (by decide) (hts _ kw_88) (fun _ h9 => h9) rfl d_O_exponent_15 ?_
  refine rc_callv (va_runV (As := [.ref id]) (rest := []) ⟨hx, hb, hml, hown, hts⟩ (m_R_find l D id cJ rt fo wh pt rs sq on tw cn (inF (gtE F o ze v E) (gtL (gtE F o ze v E) o ze) J) Fo Y P r S a1 b1 hF) (cwV 1 hts (kb_gi (kb_c kw_347 (kb_c kw_348 (kb_c kw_349 (kb_c kw_2 (kb_c kw_350 kb_all)))))) rfl rfl rfl (by decide +kernel) ⟨Nat.le_of_ble_eq_true rfl, Nat.le_of_ble_eq_true rfl⟩) ⟨rc_blind, va_recv hK hP (ci := 1) (q0 := 4) rfl rfl, rc_pre hP hD hK hN [3, 4, 5, 6, 7, 8, 9, 10, 11] rfl rfl [0] rfl⟩ rfl rfl hl.1 rfl (lv_room (Nat.le_of_ble_eq_true rfl)) d_O_exponent_18 ⟨Nat.zero_le _, Nat.zero_le _⟩) hP hD hS [3, 4, 5, 6, 7, 8, 9, 10, 11] rfl (fun _ => rfl) (fun u4 H locs hw4 hP hD hS => ?_)
  have hP : va_P D vC (([(h, rO od fa ot ah te id rt bs kn), (fa, go cO 4 fr), (ot, go cO 4 er), (id, ka cJ 5 (inF (gtE F o ze v E) (gtL (gtE F o ze v E) o ze) J)), (rt, rR fo (u4.1 : Int) wh pt rs sq on tw), (fo, ka cJ 4 u4.2.1), (wh, ka cJ 5 u4.2.2.1), (pt, ka cJ 5 u4.2.2.2.1), (rs, ka cJ 5 u4.2.2.2.2.1), (sq, ka cJ 8 u4.2.2.2.2.2.1), (on, ka cJ 5 u4.2.2.2.2.2.2.1), (tw, ka cJ 5 u4.2.2.2.2.2.2.2)] ++ gs 4 er cJ 5 (gtE F o ze v E)) ++ gs 4 fr cJ 5 F) H := hP
  have hD : va_D A (([(h, rO od fa ot ah te id rt bs kn), (fa, go cO 4 fr), (ot, go cO 4 er), (id, ka cJ 5 (inF (gtE F o ze v E) (gtL (gtE F o ze v E) o ze) J)), (rt, rR fo (u4.1 : Int) wh pt rs sq on tw), (fo, ka cJ 4 u4.2.1), (wh, ka cJ 5 u4.2.2.1), (pt, ka cJ 5 u4.2.2.2.1), (rs, ka cJ 5 u4.2.2.2.2.1), (sq, ka cJ 8 u4.2.2.2.2.2.1), (on, ka cJ 5 u4.2.2.2.2.2.2.1), (tw, ka cJ 5 u4.2.2.2.2.2.2.2)] ++ gs 4 er cJ 5 (gtE F o ze v E)) ++ gs 4 fr cJ 5 F) := hD
  refine lv_aload_n hx hb d_O_exponent_21 rfl (lv_at hl 0 rfl) ?_
  refine va_get (D := D) (ci := 2) (v := .ref rt) (C := R_O) (T := T_O) (N := 9) hx hb hts in_O hown hK hP 0 rfl rfl 6 (by decide) (hts _ kw_89) (fun _ h9 => h9) rfl d_O_exponent_22 ?_
  refine lv_iload hx hb d_O_exponent_25 (lv_at hl 3 rfl) ?_
  refine rc_calli (va_runV (As := [.int (iz zk)]) (rest := []) ⟨hx, hb, hml, hown, hts⟩ (m_R_orNone l D cJ rt fo wh pt rs sq on tw (u4.1 : Int) u4.2.1 u4.1 (iz zk) rfl hw4.1) (cwV 1 hts (kb_gi (kb_c kw_411 (kb_c kw_412 (kb_c kw_413 (kb_c kw_2 (kb_c kw_414 kb_all)))))) rfl rfl rfl (by decide +kernel) ⟨Nat.le_of_ble_eq_true rfl, Nat.le_of_ble_eq_true rfl⟩) ⟨rc_blind, va_recv hK hP (ci := 1) (q0 := 4) rfl rfl, rc_pre hP hD hK hN [4, 5] rfl rfl [0] rfl⟩ rfl rfl hl.1 rfl (lv_room (Nat.le_of_ble_eq_true rfl)) d_O_exponent_27 ⟨Nat.zero_le _, Nat.zero_le _⟩) hP hD hS [4, 5] rfl (fun _ => rfl) (fun r5 u6 H locs hw6 hP hD hS => ?_)
  rw [iz_toInt hzkl hzkh] at hw6
  have hP : va_P D vC (([(h, rO od fa ot ah te id rt bs kn), (fa, go cO 4 fr), (ot, go cO 4 er), (id, ka cJ 5 (inF (gtE F o ze v E) (gtL (gtE F o ze v E) o ze) J)), (rt, rR fo (u4.1 : Int) wh pt rs sq on tw), (fo, ka cJ 4 u4.2.1), (wh, ka cJ 5 u4.2.2.1), (pt, ka cJ 5 u4.2.2.2.1), (rs, ka cJ 5 u4.2.2.2.2.1), (sq, ka cJ 8 u4.2.2.2.2.2.1), (on, ka cJ 5 u4.2.2.2.2.2.2.1), (tw, ka cJ 5 u4.2.2.2.2.2.2.2)] ++ gs 4 er cJ 5 (gtE F o ze v E)) ++ gs 4 fr cJ 5 F) H := hP
  have hD : va_D A (([(h, rO od fa ot ah te id rt bs kn), (fa, go cO 4 fr), (ot, go cO 4 er), (id, ka cJ 5 (inF (gtE F o ze v E) (gtL (gtE F o ze v E) o ze) J)), (rt, rR fo (u4.1 : Int) wh pt rs sq on tw), (fo, ka cJ 4 u4.2.1), (wh, ka cJ 5 u4.2.2.1), (pt, ka cJ 5 u4.2.2.2.1), (rs, ka cJ 5 u4.2.2.2.2.1), (sq, ka cJ 8 u4.2.2.2.2.2.1), (on, ka cJ 5 u4.2.2.2.2.2.2.1), (tw, ka cJ 5 u4.2.2.2.2.2.2.2)] ++ gs 4 er cJ 5 (gtE F o ze v E)) ++ gs 4 fr cJ 5 F) := hD
  exact W.iret hx hb hr (fun t ht hW => ⟨⟨_, u4, rfl, ⟨hw4, hw6⟩, rc_out ht hP⟩, hS.F ht⟩) hS.2.2 d_O_exponent_30
end WK
