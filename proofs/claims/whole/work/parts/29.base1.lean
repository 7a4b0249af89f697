section WK
variable {p : Program} {l : Launch} {e : Env} {R : Room} {s : State} {m : MethodId} {args : Array Value} {below : List Frame} {meth : Method} {c : Code} {H : Heap} {locs : List Loc} {cells slots : Nat} {Q : State → Prop} {D : va_G} {A : Nat → Prop} {H0 : Heap}
/-- an object of Base -/
abbrev rB (ro le me : Nat) (cn : Int) : va_E := .inr (0, [.ref ro, .ref le, .ref me, .int (iz cn)])
def rwR (A : Nat → Nat → ro_K) (p u : Nat) : Int := if rwL A p (17 - u) = 17 then -1 else (rwL A p (17 - u) : Int)
def ws_B_size : List Cond := .code y_B_size c_B_size 1 (some .int) :: kb
set_option maxHeartbeats 4000000 in
set_option maxRecDepth 100000 in
/-- how many -/
theorem m_B_size (l : Launch) (D : va_G) (h ro le me : Nat) (cn : Int) : Met l y_B_size ws_B_size ({ frames := 0, cells := 0, slots := 0, locals := 0 }) (rc_Pc D vC [] [.ref h] [(h, rB ro le me cn)]) (va_Qi (fun (q : Int32) (_ : Unit) => q = iz cn) (fun _ t => va_P D vC [(h, rB ro le me cn)] t.heap) (rc_A [(h, rB ro le me cn)])) 0 0 (rc_A [(h, rB ro le me cn)]) := by
  refine Met.ofW (cc := c_B_size) (maxL := 1) (ret := (some .int)) (by decide) rfl ?_
  intro p e s m args below meth c s₁ B hml hv
  obtain ⟨rfl, hP, hK, hD0, hN⟩ := hv
  have hx := B.exec
  have hb := B.bytes
  have hr := B.returns
  have hts0 := atoms_spec (ws := ws_B_size) B.pre
  have hts : ∀ w ∈ kb, w.before _ s = true := fun w h => hts0 w (List.mem_cons_of_mem _ h)
  have hown : s.vm.findClass R_B = some m.cls := findClass_of_methodNamed B.named
  have hlocks := B.notSynchronized
  have hD := rc_self hD0
  generalize hAe : rc_A [(h, rB ro le me cn)] = A at hD ⊢
  have hS : va_S A s.heap s.heap [] := va_S.rf
  have hl := lv_entry ([.ref h]) (n := 1) (Nat.le_of_ble_eq_true rfl)
  rw [lg_entry_eq]
  generalize (lg_sl ([.ref h]) ++ List.replicate (1 - (lg_sl ([.ref h])).length) Slot.unset).toArray = ls at hl ⊢

  have hl : lv_has ls 1 [(0, .ref h)] := hl
  refine lv_aload_n hx hb d_B_size_0 rfl (lv_at hl 0 rfl) ?_
  refine va_get (D := D) (ci := 0) (v := .int (iz cn)) (C := R_B) (T := T_B) (N := 4) hx hb hts in_B hown hK hP 0 rfl rfl 3 (by decide) (hts _ kw_66) (fun _ h9 => h9) rfl d_B_size_1 ?_
  exact W.iret hx hb hr (fun t ht hW => ⟨⟨_, (), rfl, rfl, rc_out ht hP⟩, hS.F ht⟩) hS.2.2 d_B_size_4
def ws_B_member : List Cond := .code y_B_member c_B_member 2 (some (.array .long)) :: kb
set_option maxHeartbeats 4000000 in
set_option maxRecDepth 100000 in
/-- the row of a member -/
theorem m_B_member (l : Launch) (D : va_G) (cO : ClassId) (h ro le me : Nat) (cn : Int) (mb : Nat → Nat) (z : Int) (j : Nat) (hz : z = (j : Int)) (hj : j < 13) : Met l y_B_member ws_B_member ({ frames := 0, cells := 0, slots := 0, locals := 0 }) (rc_Pc D vC [(cO, .array .long)] [.ref h, .int (iz z)] [(h, rB ro le me cn), (me, go cO 13 mb)]) (va_Qr (fun (_ : Unit) => True) (fun _ q t => q = mb j ∧ va_P D vC [(h, rB ro le me cn), (me, go cO 13 mb)] t.heap) (rc_A [(h, rB ro le me cn), (me, go cO 13 mb)])) 0 0 (rc_A [(h, rB ro le me cn), (me, go cO 13 mb)]) := by
  refine Met.ofW (cc := c_B_member) (maxL := 2) (ret := (some (.array .long))) (by decide) rfl ?_
  intro p e s m args below meth c s₁ B hml hv
  obtain ⟨rfl, hP, hK, hD0, hN⟩ := hv
  have hx := B.exec
  have hb := B.bytes
  have hr := B.returns
  have hts0 := atoms_spec (ws := ws_B_member) B.pre
  have hts : ∀ w ∈ kb, w.before _ s = true := fun w h => hts0 w (List.mem_cons_of_mem _ h)
  have hown : s.vm.findClass R_B = some m.cls := findClass_of_methodNamed B.named
  have hlocks := B.notSynchronized
  have hD := rc_self hD0
  generalize hAe : rc_A [(h, rB ro le me cn), (me, go cO 13 mb)] = A at hD ⊢
  have hS : va_S A s.heap s.heap [] := va_S.rf
  have hl := lv_entry ([.ref h, .int (iz z)]) (n := 2) (Nat.le_of_ble_eq_true rfl)
  rw [lg_entry_eq]
  generalize (lg_sl ([.ref h, .int (iz z)]) ++ List.replicate (2 - (lg_sl ([.ref h, .int (iz z)])).length) Slot.unset).toArray = ls at hl ⊢

  have hl : lv_has ls 2 [(0, .ref h), (1, .int (iz z))] := hl
  refine lv_aload_n hx hb d_B_member_0 rfl (lv_at hl 0 rfl) ?_
  refine va_get (D := D) (ci := 0) (v := .ref me) (C := R_B) (T := T_B) (N := 4) hx hb hts in_B hown hK hP 0 rfl rfl 2 (by decide) (hts _ kw_65) (fun _ h9 => h9) rfl d_B_member_1 ?_
  refine lv_iload_n hx hb d_B_member_4 rfl (lv_at hl 1 rfl) ?_
  refine rg_ald hx hb hK hP 1 0 rfl rfl j d_B_member_5 ?_
  exact W.aret hx hb hr (Or.inr ⟨_, rfl⟩) (Or.inr ⟨_, rfl⟩) (fun t ht hW => ⟨⟨(), _, rfl, trivial, rfl, rc_out ht hP⟩, hS.F ht⟩) hS.2.2 d_B_member_6
def ws_B_enter : List Cond := .code y_B_enter c_B_enter 5 none :: kb
set_option maxHeartbeats 4000000 in
set_option maxRecDepth 100000 in
/-- a number comes into a row -/
theorem m_B_enter (l : Launch) (D : va_G) (cJ cO cI : ClassId) (h ro le me : Nat) (cn : Int) (ra : Nat → Nat) (M : Nat → Nat → ro_K) (zi zj : Int) (i j : Nat) (x : ro_K) (hi : zi = (i : Int)) (hj : zj = (j : Int)) (hi7 : i < 17) (hj3 : j < 13) : Met l y_B_enter ws_B_enter ({ frames := 0, cells := 0, slots := 0, locals := 0 }) (rc_Pc D vC [(cJ, .long), (cO, .array .long), (cI, .int)] [.ref h, .int (iz zi), .int (iz zj), .long (lk x)] ([(h, rB ro le me cn), (ro, go cO 17 ra)] ++ gs 17 ra cJ 13 M)) (va_Qv (fun (_ : Unit) => True) (fun _ t => va_P D vC ([(h, rB ro le me cn), (ro, go cO 17 ra)] ++ gs 17 ra cJ 13 (up2 M i j x)) t.heap) (rc_A ([(h, rB ro le me cn), (ro, go cO 17 ra)] ++ gs 17 ra cJ 13 M))) 0 0 (rc_A ([(h, rB ro le me cn), (ro, go cO 17 ra)] ++ gs 17 ra cJ 13 M)) := by
  refine Met.ofW (cc := c_B_enter) (maxL := 5) (ret := none) (by decide) rfl ?_
  intro p e s m args below meth c s₁ B hml hv
  obtain ⟨rfl, hP, hK, hD0, hN⟩ := hv
  have hx := B.exec
  have hb := B.bytes
  have hr := B.returns
  have hts0 := atoms_spec (ws := ws_B_enter) B.pre
  have hts : ∀ w ∈ kb, w.before _ s = true := fun w h => hts0 w (List.mem_cons_of_mem _ h)
  have hown : s.vm.findClass R_B = some m.cls := findClass_of_methodNamed B.named
  have hlocks := B.notSynchronized
  have hD := rc_self hD0
  generalize hAe : rc_A ([(h, rB ro le me cn), (ro, go cO 17 ra)] ++ gs 17 ra cJ 13 M) = A at hD ⊢
  have hS : va_S A s.heap s.heap [] := va_S.rf
  have hl := lv_entry ([.ref h, .int (iz zi), .int (iz zj), .long (lk x)]) (n := 5) (Nat.le_of_ble_eq_true rfl)
  rw [lg_entry_eq]
  generalize (lg_sl ([.ref h, .int (iz zi), .int (iz zj), .long (lk x)]) ++ List.replicate (5 - (lg_sl ([.ref h, .int (iz zi), .int (iz zj), .long (lk x)])).length) Slot.unset).toArray = ls at hl ⊢

  have hl : lv_has ls 5 [(0, .ref h), (1, .int (iz zi)), (2, .int (iz zj)), (3, .long (lk x))] := hl
  refine lv_aload_n hx hb d_B_enter_0 rfl (lv_at hl 0 rfl) ?_
  refine va_get (D := D) (ci := 0) (v := .ref ro) (C := R_B) (T := T_B) (N := 4) hx hb hts in_B hown hK hP 0 rfl rfl 0 (by decide) (hts _ kw_63) (fun _ h9 => h9) rfl d_B_enter_1 ?_
  refine lv_iload_n hx hb d_B_enter_4 rfl (lv_at hl 1 rfl) ?_
  refine rg_ald hx hb hK hP 1 1 rfl rfl i d_B_enter_5 ?_
  refine lv_iload_n hx hb d_B_enter_6 rfl (lv_at hl 2 rfl) ?_
  refine lv_lload_n hx hb d_B_enter_7 rfl (lv_at hl 3 rfl) ?_
  refine rg_st hx hb hK hP hD hS 0 rfl i j d_B_enter_8 (fun H locs hP hD hS => ?_)
  have hP : va_P D vC ([(h, rB ro le me cn), (ro, go cO 17 ra)] ++ gs 17 ra cJ 13 (up2 M i j x)) H := hP
  have hD : va_D A ([(h, rB ro le me cn), (ro, go cO 17 ra)] ++ gs 17 ra cJ 13 (up2 M i j x)) := hD
  exact W.vret hx hb hr (fun t ht hW => ⟨⟨(), rfl, trivial, rc_out ht hP⟩, hS.F ht⟩) hS.2.2 d_B_enter_9
set_option maxHeartbeats 4000000 in
set_option maxRecDepth 100000 in
theorem lo_B_rowWith {cJ cO cI : ClassId} {h ro le me : Nat} {cn : Int} {ra : Nat → Nat} {A0 : Nat → Nat → ro_K} {p0 : Nat} {zp zu rr : Int} (hzp : zp = (p0 : Int)) (hp : p0 < 13) (hx : p.tables.exec = Jvm.exec) (hb : c.code = c_B_rowWith) (hml : c.maxLocals = 4) (hown : s.vm.findClass R_B = some m.cls) (hts : ∀ w ∈ kb, w.before args s = true) (hK : va_K D vC [(cJ, .long), (cO, .array .long), (cI, .int)] s) (hN : rc_N s) (hP : va_P D vC ([(h, rB ro le me cn), (ro, go cO 17 ra)] ++ gs 17 ra cJ 13 A0) H) (endA : ∀ (ls : Array Slot), rr = -1 → W p l e R s m args below meth c H locs 0 0 Q (F0 m 29 ls [])) (endB : ∀ (ls : Array Slot) (z : Int), rr = z → lv_has ls 4 [(3, .int (iz z))] → W p l e R s m args below meth c H locs 0 0 Q (F0 m 21 ls [])) : ∀ (k : Nat) (z : Int) (ls : Array Slot), z = 17 - (k : Int) → k ≤ 17 → (if rwL A0 p0 k = 17 then -1 else (rwL A0 p0 k : Int)) = rr → lv_has ls 4 [(3, .int (iz z)), (0, .ref h), (1, .int (iz zp)), (2, .int (iz zu))] → W p l e R s m args below meth c H locs 0 0 Q (F0 m 2 ls []) := by
  intro k
  induction k with
  | zero =>
    intro z ls hz hk hrr hl
    refine lv_iload_n hx hb d_B_rowWith_2 rfl (lv_at hl 0 rfl) ?_
    refine rz_bipush hx hb d_B_rowWith_3 (by decide) ?_
    refine rz_icmp_ge (tgt := 29) hx hb d_B_rowWith_5 (by decide) (fun hc => ?_) (fun hc => absurd hc (by omega))
    exact endA ls (by rw [← hrr]; rfl)
  | succ k ih =>
    intro z ls hz hk hrr hl
    refine lv_iload_n hx hb d_B_rowWith_2 rfl (lv_at hl 0 rfl) ?_
    refine rz_bipush hx hb d_B_rowWith_3 (by decide) ?_
    refine rz_icmp_ge (tgt := 29) hx hb d_B_rowWith_5 (by decide) (fun hc => absurd hc (by omega)) (fun hc => ?_)
    refine lv_aload_n hx hb d_B_rowWith_8 rfl (lv_at hl 1 rfl) ?_
    refine va_get (D := D) (ci := 0) (v := .ref ro) (C := R_B) (T := T_B) (N := 4) hx hb hts in_B hown hK hP 0 rfl rfl 0 (by decide) (hts _ kw_63) (fun _ h9 => h9) rfl d_B_rowWith_9 ?_
    refine lv_iload_n hx hb d_B_rowWith_12 rfl (lv_at hl 0 rfl) ?_
    refine rg_ald hx hb hK hP 1 1 rfl rfl (16 - k) d_B_rowWith_13 ?_
    refine lv_iload_n hx hb d_B_rowWith_14 rfl (lv_at hl 2 rfl) ?_
    refine rg_ld hx hb hK hP 0 rfl (16 - k) p0 d_B_rowWith_15 ?_
    refine lv_lconst (v := lk 0) hx hb d_B_rowWith_16 rfl ?_
    refine rz_lcmp_eq (tgt := 23) hx hb d_B_rowWith_17 d_B_rowWith_18 (by decide) (fun hc1 => ?_) (fun hc1 => ?_)
    · have hc1 : (A0 (16 - k) p0) = 0 := lk_inj.mp hc1
      refine lv_iinc (v := iz (z + 1)) (lv' := [(3, .int (iz (z + 1))), (0, .ref h), (1, .int (iz zp)), (2, .int (iz zu))]) hx hb d_B_rowWith_23 hl (k := 0) rfl (iz_add _ _) (by decide) rfl (fun ls hl => ?_)
      refine lv_goto (tgt := 2) hx hb d_B_rowWith_26 (by decide) ?_
      have e : rwL A0 p0 (k + 1) = rwL A0 p0 k := if_pos (by assumption)
      rw [e] at hrr
      exact ih _ ls (by omega) (by omega) hrr (lv_sub hl [0, 1, 2, 3] rfl)
    · have hc1 : (A0 (16 - k) p0) ≠ 0 := fun z => hc1 (lk_inj.mpr z)
      have e : rwL A0 p0 (k + 1) = 16 - k := if_neg (by assumption)
      rw [e, if_neg (by omega)] at hrr
      exact endB ls z (by omega) (lv_sub hl [0] rfl)
def ws_B_rowWith : List Cond := .code y_B_rowWith c_B_rowWith 4 (some .int) :: kb
set_option maxHeartbeats 4000000 in
set_option maxRecDepth 100000 in
/-- the first row, from u on, with something at p -/
theorem m_B_rowWith (l : Launch) (D : va_G) (cJ cO cI : ClassId) (h ro le me : Nat) (cn : Int) (ra : Nat → Nat) (M : Nat → Nat → ro_K) (zp zu : Int) (p0 u : Nat) (hzp : zp = (p0 : Int)) (hp : p0 < 13) (hzu : zu = (u : Int)) (hu : u ≤ 17) : Met l y_B_rowWith ws_B_rowWith ({ frames := 0, cells := 0, slots := 0, locals := 0 }) (rc_Pc D vC [(cJ, .long), (cO, .array .long), (cI, .int)] [.ref h, .int (iz zp), .int (iz zu)] ([(h, rB ro le me cn), (ro, go cO 17 ra)] ++ gs 17 ra cJ 13 M)) (va_Qi (fun (q : Int32) (_ : Unit) => q = iz (rwR M p0 u)) (fun _ t => va_P D vC ([(h, rB ro le me cn), (ro, go cO 17 ra)] ++ gs 17 ra cJ 13 M) t.heap) (rc_A ([(h, rB ro le me cn), (ro, go cO 17 ra)] ++ gs 17 ra cJ 13 M))) 0 0 (rc_A ([(h, rB ro le me cn), (ro, go cO 17 ra)] ++ gs 17 ra cJ 13 M)) := by
  refine Met.ofW (cc := c_B_rowWith) (maxL := 4) (ret := (some .int)) (by decide) rfl ?_
  intro p e s m args below meth c s₁ B hml hv
  obtain ⟨rfl, hP, hK, hD0, hN⟩ := hv
  have hx := B.exec
  have hb := B.bytes
  have hr := B.returns
  have hts0 := atoms_spec (ws := ws_B_rowWith) B.pre
  have hts : ∀ w ∈ kb, w.before _ s = true := fun w h => hts0 w (List.mem_cons_of_mem _ h)
  have hown : s.vm.findClass R_B = some m.cls := findClass_of_methodNamed B.named
  have hlocks := B.notSynchronized
  have hD := rc_self hD0
  generalize hAe : rc_A ([(h, rB ro le me cn), (ro, go cO 17 ra)] ++ gs 17 ra cJ 13 M) = A at hD ⊢
  have hS : va_S A s.heap s.heap [] := va_S.rf
  have hl := lv_entry ([.ref h, .int (iz zp), .int (iz zu)]) (n := 4) (Nat.le_of_ble_eq_true rfl)
  rw [lg_entry_eq]
  generalize (lg_sl ([.ref h, .int (iz zp), .int (iz zu)]) ++ List.replicate (4 - (lg_sl ([.ref h, .int (iz zp), .int (iz zu)])).length) Slot.unset).toArray = ls at hl ⊢

  have hl : lv_has ls 4 [(0, .ref h), (1, .int (iz zp)), (2, .int (iz zu))] := hl
  refine lv_iload_n hx hb d_B_rowWith_0 rfl (lv_at hl 2 rfl) ?_
  refine lv_istore_n (lv' := [(3, .int (iz zu)), (0, .ref h), (1, .int (iz zp)), (2, .int (iz zu))]) hx hb d_B_rowWith_1 rfl hl (by decide) rfl (fun ls hl => ?_)
  refine lo_B_rowWith (rr := rwR M p0 u) hzp hp hx hb hml hown hts hK hN hP (fun ls hrr => ?_) (fun ls z hrr hl => ?_) (17 - u) _ ls (by omega) (by omega) rfl (lv_sub hl [0, 1, 2, 3] rfl)
  · refine rz_iconst hx hb d_B_rowWith_29 ?_
    exact W.iret hx hb hr (fun t ht hW => ⟨⟨_, (), rfl, (by rw [hrr]), rc_out ht hP⟩, hS.F ht⟩) hS.2.2 d_B_rowWith_30
  · refine lv_iload_n hx hb d_B_rowWith_21 rfl (lv_at hl 0 rfl) ?_
    exact W.iret hx hb hr (fun t ht hW => ⟨⟨_, (), rfl, (by rw [hrr]), rc_out ht hP⟩, hS.F ht⟩) hS.2.2 d_B_rowWith_22
set_option maxHeartbeats 4000000 in
set_option maxRecDepth 100000 in
theorem lo_B_swap {cJ cO cI : ClassId} {h ro le me : Nat} {cn : Int} {ra : Nat → Nat} {M : Nat → Nat → ro_K} {r w : Nat} {zr zw : Int} (hzr : zr = (r : Int)) (hr : r < 17) (hzw : zw = (w : Int)) (hw : w < 17) (hx : p.tables.exec = Jvm.exec) (hb : c.code = c_B_swap) (hml : c.maxLocals = 6) (hown : s.vm.findClass R_B = some m.cls) (hts : ∀ w ∈ kb, w.before args s = true) (hK : va_K D vC [(cJ, .long), (cO, .array .long), (cI, .int)] s) (hN : rc_N s) (hend : ∀ (H : Heap) (locs : List Loc) (ls : Array Slot), va_P D vC ([(h, rB ro le me cn), (ro, go cO 17 ra)] ++ gs 17 ra cJ 13 (swk M r w 13)) H → va_D A ([(h, rB ro le me cn), (ro, go cO 17 ra)] ++ gs 17 ra cJ 13 (swk M r w 13)) → va_S A H0 H locs → W p l e R s m args below meth c H locs 0 0 Q (F0 m 50 ls [])) : ∀ (q k : Nat) (z : Int) (H : Heap) (locs : List Loc) (ls : Array Slot), z = (k : Int) → k + q = 13 → va_P D vC ([(h, rB ro le me cn), (ro, go cO 17 ra)] ++ gs 17 ra cJ 13 (swk M r w k)) H → va_D A ([(h, rB ro le me cn), (ro, go cO 17 ra)] ++ gs 17 ra cJ 13 (swk M r w k)) → va_S A H0 H locs → lv_has ls 6 [(3, .int (iz z)), (0, .ref h), (1, .int (iz zr)), (2, .int (iz zw))] → W p l e R s m args below meth c H locs 0 0 Q (F0 m 2 ls []) := by
  intro q
  induction q with
  | zero =>
    intro k z H locs ls hz hk hP hD hS hl
    have e : k = 13 := hk
    subst e
    refine lv_iload_n hx hb d_B_swap_2 rfl (lv_at hl 0 rfl) ?_
    refine rz_bipush hx hb d_B_swap_3 (by decide) ?_
    refine rz_icmp_ge (tgt := 50) hx hb d_B_swap_5 (by decide) (fun hc => ?_) (fun hc => absurd hc (by omega))
    exact hend H locs ls hP hD hS
  | succ q ih =>
    intro k z H locs ls hz hk hP hD hS hl
    refine lv_iload_n hx hb d_B_swap_2 rfl (lv_at hl 0 rfl) ?_
    refine rz_bipush hx hb d_B_swap_3 (by decide) ?_
    refine rz_icmp_ge (tgt := 50) hx hb d_B_swap_5 (by decide) (fun hc => absurd hc (by omega)) (fun hc => ?_)
    refine lv_aload_n hx hb d_B_swap_8 rfl (lv_at hl 1 rfl) ?_
    refine va_get (D := D) (ci := 0) (v := .ref ro) (C := R_B) (T := T_B) (N := 4) hx hb hts in_B hown hK hP 0 rfl rfl 0 (by decide) (hts _ kw_63) (fun _ h9 => h9) rfl d_B_swap_9 ?_
    refine lv_iload_n hx hb d_B_swap_12 rfl (lv_at hl 2 rfl) ?_
    refine rg_ald hx hb hK hP 1 1 rfl rfl r d_B_swap_13 ?_
    refine lv_iload_n hx hb d_B_swap_14 rfl (lv_at hl 0 rfl) ?_
    refine rg_ld hx hb hK hP 0 rfl r k d_B_swap_15 ?_
    refine lv_lstore (lv' := [(4, .long (lk ((swk M r w k) r k))), (3, .int (iz z)), (0, .ref h), (1, .int (iz zr)), (2, .int (iz zw))]) hx hb d_B_swap_16 hl (by decide) rfl (fun ls hl => ?_)
    refine lv_aload_n hx hb d_B_swap_18 rfl (lv_at hl 2 rfl) ?_
    refine va_get (D := D) (ci := 0) (v := .ref ro) (C := R_B) (T := T_B) (N := 4) hx hb hts in_B hown hK hP 0 rfl rfl 0 (by decide) (hts _ kw_63) (fun _ h9 => h9) rfl d_B_swap_19 ?_
    refine lv_iload_n hx hb d_B_swap_22 rfl (lv_at hl 3 rfl) ?_
    refine rg_ald hx hb hK hP 1 1 rfl rfl r d_B_swap_23 ?_
    refine lv_iload_n hx hb d_B_swap_24 rfl (lv_at hl 1 rfl) ?_
    refine lv_aload_n hx hb d_B_swap_25 rfl (lv_at hl 2 rfl) ?_
    refine va_get (D := D) (ci := 0) (v := .ref ro) (C := R_B) (T := T_B) (N := 4) hx hb hts in_B hown hK hP 0 rfl rfl 0 (by decide) (hts _ kw_63) (fun _ h9 => h9) rfl d_B_swap_26 ?_
    refine lv_iload_n hx hb d_B_swap_29 rfl (lv_at hl 4 rfl) ?_
    refine rg_ald hx hb hK hP 1 1 rfl rfl w d_B_swap_30 ?_
    refine lv_iload_n hx hb d_B_swap_31 rfl (lv_at hl 1 rfl) ?_
    refine rg_ld hx hb hK hP 0 rfl w k d_B_swap_32 ?_
    refine rg_st hx hb hK hP hD hS 0 rfl r k d_B_swap_33 (fun H locs hP hD hS => ?_)
    have hP : va_P D vC ([(h, rB ro le me cn), (ro, go cO 17 ra)] ++ gs 17 ra cJ 13 (up2 (swk M r w k) r k ((swk M r w k) w k))) H := hP
    have hD : va_D A ([(h, rB ro le me cn), (ro, go cO 17 ra)] ++ gs 17 ra cJ 13 (up2 (swk M r w k) r k ((swk M r w k) w k))) := hD
    refine lv_aload_n hx hb d_B_swap_34 rfl (lv_at hl 2 rfl) ?_
    refine va_get (D := D) (ci := 0) (v := .ref ro) (C := R_B) (T := T_B) (N := 4) hx hb hts in_B hown hK hP 0 rfl rfl 0 (by decide) (hts _ kw_63) (fun _ h9 => h9) rfl d_B_swap_35 ?_
    refine lv_iload_n hx hb d_B_swap_38 rfl (lv_at hl 4 rfl) ?_
    refine rg_ald hx hb hK hP 1 1 rfl rfl w d_B_swap_39 ?_
    refine lv_iload_n hx hb d_B_swap_40 rfl (lv_at hl 1 rfl) ?_
    refine lv_lload hx hb d_B_swap_41 (lv_at hl 0 rfl) ?_
    refine rg_st hx hb hK hP hD hS 0 rfl w k d_B_swap_43 (fun H locs hP hD hS => ?_)
    have hP : va_P D vC ([(h, rB ro le me cn), (ro, go cO 17 ra)] ++ gs 17 ra cJ 13 (up2 (up2 (swk M r w k) r k ((swk M r w k) w k)) w k ((swk M r w k) r k))) H := hP
    have hD : va_D A ([(h, rB ro le me cn), (ro, go cO 17 ra)] ++ gs 17 ra cJ 13 (up2 (up2 (swk M r w k) r k ((swk M r w k) w k)) w k ((swk M r w k) r k))) := hD
    refine lv_iinc (v := iz (z + 1)) (lv' := [(3, .int (iz (z + 1))), (4, .long (lk ((swk M r w k) r k))), (0, .ref h), (1, .int (iz zr)), (2, .int (iz zw))]) hx hb d_B_swap_44 hl (k := 1) rfl (iz_add _ _) (by decide) rfl (fun ls hl => ?_)
    refine lv_goto (tgt := 2) hx hb d_B_swap_47 (by decide) ?_
    rw [swk_s] at hP hD
    exact ih (k + 1) _ H locs ls (by omega) (by omega) hP hD hS (lv_sub hl [0, 2, 3, 4] rfl)
def ws_B_swap : List Cond := .code y_B_swap c_B_swap 6 none :: kb
set_option maxHeartbeats 4000000 in
set_option maxRecDepth 100000 in
/-- two rows change places -/
theorem m_B_swap (l : Launch) (D : va_G) (cJ cO cI : ClassId) (h ro le me : Nat) (cn : Int) (ra : Nat → Nat) (M : Nat → Nat → ro_K) (zr zw : Int) (r w : Nat) (hzr : zr = (r : Int)) (hr7 : r < 17) (hzw : zw = (w : Int)) (hw7 : w < 17) : Met l y_B_swap ws_B_swap ({ frames := 0, cells := 0, slots := 0, locals := 0 }) (rc_Pc D vC [(cJ, .long), (cO, .array .long), (cI, .int)] [.ref h, .int (iz zr), .int (iz zw)] ([(h, rB ro le me cn), (ro, go cO 17 ra)] ++ gs 17 ra cJ 13 M)) (va_Qv (fun (_ : Unit) => True) (fun _ t => va_P D vC ([(h, rB ro le me cn), (ro, go cO 17 ra)] ++ gs 17 ra cJ 13 (swk M r w 13)) t.heap) (rc_A ([(h, rB ro le me cn), (ro, go cO 17 ra)] ++ gs 17 ra cJ 13 M))) 0 0 (rc_A ([(h, rB ro le me cn), (ro, go cO 17 ra)] ++ gs 17 ra cJ 13 M)) := by
  refine Met.ofW (cc := c_B_swap) (maxL := 6) (ret := none) (by decide) rfl ?_
  intro p e s m args below meth c s₁ B hml hv
  obtain ⟨rfl, hP, hK, hD0, hN⟩ := hv
  have hx := B.exec
  have hb := B.bytes
  have hr := B.returns
  have hts0 := atoms_spec (ws := ws_B_swap) B.pre
  have hts : ∀ w ∈ kb, w.before _ s = true := fun w h => hts0 w (List.mem_cons_of_mem _ h)
  have hown : s.vm.findClass R_B = some m.cls := findClass_of_methodNamed B.named
  have hlocks := B.notSynchronized
  have hD := rc_self hD0
  generalize hAe : rc_A ([(h, rB ro le me cn), (ro, go cO 17 ra)] ++ gs 17 ra cJ 13 M) = A at hD ⊢
  have hS : va_S A s.heap s.heap [] := va_S.rf
  have hl := lv_entry ([.ref h, .int (iz zr), .int (iz zw)]) (n := 6) (Nat.le_of_ble_eq_true rfl)
  rw [lg_entry_eq]
  generalize (lg_sl ([.ref h, .int (iz zr), .int (iz zw)]) ++ List.replicate (6 - (lg_sl ([.ref h, .int (iz zr), .int (iz zw)])).length) Slot.unset).toArray = ls at hl ⊢

  have hl : lv_has ls 6 [(0, .ref h), (1, .int (iz zr)), (2, .int (iz zw))] := hl
  refine rz_iconst hx hb d_B_swap_0 ?_
  refine lv_istore_n (lv' := [(3, .int (iz 0)), (0, .ref h), (1, .int (iz zr)), (2, .int (iz zw))]) hx hb d_B_swap_1 rfl hl (by decide) rfl (fun ls hl => ?_)
  refine lo_B_swap (M := M) hzr hr7 hzw hw7 hx hb hml hown hts hK hN (fun H locs ls hP hD hS => ?_) 13 0 _ _ _ ls rfl (by omega) (by rw [swk_0]; exact hP) (by rw [swk_0]; exact hD) hS (lv_sub hl [0, 1, 2, 3] rfl)
  exact W.vret hx hb hr (fun t ht hW => ⟨⟨(), rfl, trivial, rc_out ht hP⟩, hS.F ht⟩) hS.2.2 d_B_swap_50
set_option maxHeartbeats 4000000 in
set_option maxRecDepth 100000 in
theorem lo_B_scaleRow {cJ cO cI : ClassId} {h ro le me : Nat} {cn : Int} {ra : Nat → Nat} {M : Nat → Nat → ro_K} {w : Nat} {zw : Int} {x : ro_K} (hzw : zw = (w : Int)) (hw : w < 17) (hx : p.tables.exec = Jvm.exec) (hb : c.code = c_B_scaleRow) (hml : c.maxLocals = 6) (hown : s.vm.findClass R_B = some m.cls) (hts : ∀ w ∈ kb, w.before args s = true) (hK : va_K D vC [(cJ, .long), (cO, .array .long), (cI, .int)] s) (hN : rc_N s) (hend : ∀ (H : Heap) (locs : List Loc) (ls : Array Slot), va_P D vC ([(h, rB ro le me cn), (ro, go cO 17 ra)] ++ gs 17 ra cJ 13 (sck M w x 13)) H → va_D A ([(h, rB ro le me cn), (ro, go cO 17 ra)] ++ gs 17 ra cJ 13 (sck M w x 13)) → va_S A H0 H locs → W p l e R s m args below meth c H locs 0 0 Q (F0 m 52 ls [])) : ∀ (q k : Nat) (z : Int) (H : Heap) (locs : List Loc) (ls : Array Slot), z = (k : Int) → k + q = 13 → va_P D vC ([(h, rB ro le me cn), (ro, go cO 17 ra)] ++ gs 17 ra cJ 13 (sck M w x k)) H → va_D A ([(h, rB ro le me cn), (ro, go cO 17 ra)] ++ gs 17 ra cJ 13 (sck M w x k)) → va_S A H0 H locs → lv_has ls 6 [(5, .int (iz z)), (3, .long (lk x)), (0, .ref h), (1, .int (iz zw))] → W p l e R s m args below meth c H locs 0 0 Q (F0 m 15 ls []) := by
  intro q
  induction q with
  | zero =>
    intro k z H locs ls hz hk hP hD hS hl
    have e : k = 13 := hk
    subst e
    refine lv_iload hx hb d_B_scaleRow_15 (lv_at hl 0 rfl) ?_
    refine rz_bipush hx hb d_B_scaleRow_17 (by decide) ?_
    refine rz_icmp_ge (tgt := 52) hx hb d_B_scaleRow_19 (by decide) (fun hc => ?_) (fun hc => absurd hc (by omega))
    exact hend H locs ls hP hD hS
  | succ q ih =>
    intro k z H locs ls hz hk hP hD hS hl
    refine lv_iload hx hb d_B_scaleRow_15 (lv_at hl 0 rfl) ?_
    refine rz_bipush hx hb d_B_scaleRow_17 (by decide) ?_
    refine rz_icmp_ge (tgt := 52) hx hb d_B_scaleRow_19 (by decide) (fun hc => absurd hc (by omega)) (fun hc => ?_)
    refine lv_aload_n hx hb d_B_scaleRow_22 rfl (lv_at hl 2 rfl) ?_
    refine va_get (D := D) (ci := 0) (v := .ref ro) (C := R_B) (T := T_B) (N := 4) hx hb hts in_B hown hK hP 0 rfl rfl 0 (by decide) (hts _ kw_63) (fun _ h9 => h9) rfl d_B_scaleRow_23 ?_
    refine lv_iload_n hx hb d_B_scaleRow_26 rfl (lv_at hl 3 rfl) ?_
    refine rg_ald hx hb hK hP 1 1 rfl rfl w d_B_scaleRow_27 ?_
    refine lv_iload hx hb d_B_scaleRow_28 (lv_at hl 0 rfl) ?_
    refine lv_aload_n hx hb d_B_scaleRow_30 rfl (lv_at hl 2 rfl) ?_
    refine va_get (D := D) (ci := 0) (v := .ref ro) (C := R_B) (T := T_B) (N := 4) hx hb hts in_B hown hK hP 0 rfl rfl 0 (by decide) (hts _ kw_63) (fun _ h9 => h9) rfl d_B_scaleRow_31 ?_
    refine lv_iload_n hx hb d_B_scaleRow_34 rfl (lv_at hl 3 rfl) ?_
    refine rg_ald hx hb hK hP 1 1 rfl rfl w d_B_scaleRow_35 ?_
    refine lv_iload hx hb d_B_scaleRow_36 (lv_at hl 0 rfl) ?_
    refine rg_ld hx hb hK hP 0 rfl w k d_B_scaleRow_38 ?_
    refine lv_lload_n hx hb d_B_scaleRow_39 rfl (lv_at hl 1 rfl) ?_
    refine rlp_lmul hx hb 1024128004 (lk_p ((sck M w x k) w k)) (lk_p x) d_B_scaleRow_40 (fun v1 hv1 => ?_)
    refine lv_ldc2 (v := 32003) hx hb hown (hts _ kw_162) d_B_scaleRow_41 ?_
    refine rlp_lrem hx hb hv1 d_B_scaleRow_44 ?_
    refine rg_st hx hb hK hP hD hS 0 rfl w k d_B_scaleRow_45 (fun H locs hP hD hS => ?_)
    have hP : va_P D vC ([(h, rB ro le me cn), (ro, go cO 17 ra)] ++ gs 17 ra cJ 13 (up2 (sck M w x k) w k (((sck M w x k) w k) * x))) H := hP
    have hD : va_D A ([(h, rB ro le me cn), (ro, go cO 17 ra)] ++ gs 17 ra cJ 13 (up2 (sck M w x k) w k (((sck M w x k) w k) * x))) := hD
    refine lv_iinc (v := iz (z + 1)) (lv' := [(5, .int (iz (z + 1))), (3, .long (lk x)), (0, .ref h), (1, .int (iz zw))]) hx hb d_B_scaleRow_46 hl (k := 0) rfl (iz_add _ _) (by decide) rfl (fun ls hl => ?_)
    refine lv_goto (tgt := 15) hx hb d_B_scaleRow_49 (by decide) ?_
    rw [sck_s] at hP hD
    exact ih (k + 1) _ H locs ls (by omega) (by omega) hP hD hS (lv_sub hl [0, 1, 2, 3] rfl)
def ws_B_scaleRow : List Cond := .code y_B_scaleRow c_B_scaleRow 6 none :: kb
set_option maxHeartbeats 4000000 in
set_option maxRecDepth 100000 in
/-- a row by its number at p -/
theorem m_B_scaleRow (l : Launch) (D : va_G) (cJ cO cI : ClassId) (h ro le me : Nat) (cn : Int) (ra : Nat → Nat) (M : Nat → Nat → ro_K) (zw zp : Int) (w p0 : Nat) (hzw : zw = (w : Int)) (hw7 : w < 17) (hzp : zp = (p0 : Int)) (hp3 : p0 < 13) : Met l y_B_scaleRow ws_B_scaleRow ({ frames := 1, cells := 0, slots := 0, locals := 24 }) (rc_Pc D vC [(cJ, .long), (cO, .array .long), (cI, .int)] [.ref h, .int (iz zw), .int (iz zp)] ([(h, rB ro le me cn), (ro, go cO 17 ra)] ++ gs 17 ra cJ 13 M)) (va_Qv (fun (_ : Unit) => True) (fun _ t => va_P D vC ([(h, rB ro le me cn), (ro, go cO 17 ra)] ++ gs 17 ra cJ 13 (sck M w (ro_iv (M w p0)) 13)) t.heap) (rc_A ([(h, rB ro le me cn), (ro, go cO 17 ra)] ++ gs 17 ra cJ 13 M))) 0 0 (rc_A ([(h, rB ro le me cn), (ro, go cO 17 ra)] ++ gs 17 ra cJ 13 M)) := by
  refine Met.ofW (cc := c_B_scaleRow) (maxL := 6) (ret := none) (by decide) rfl ?_
  intro p e s m args below meth c s₁ B hml hv
  obtain ⟨rfl, hP, hK, hD0, hN⟩ := hv
  have hx := B.exec
  have hb := B.bytes
  have hr := B.returns
  have hts0 := atoms_spec (ws := ws_B_scaleRow) B.pre
  have hts : ∀ w ∈ kb, w.before _ s = true := fun w h => hts0 w (List.mem_cons_of_mem _ h)
  have hown : s.vm.findClass R_B = some m.cls := findClass_of_methodNamed B.named
  have hlocks := B.notSynchronized
  have hD := rc_self hD0
  generalize hAe : rc_A ([(h, rB ro le me cn), (ro, go cO 17 ra)] ++ gs 17 ra cJ 13 M) = A at hD ⊢
  have hS : va_S A s.heap s.heap [] := va_S.rf
  have hl := lv_entry ([.ref h, .int (iz zw), .int (iz zp)]) (n := 6) (Nat.le_of_ble_eq_true rfl)
  rw [lg_entry_eq]
  generalize (lg_sl ([.ref h, .int (iz zw), .int (iz zp)]) ++ List.replicate (6 - (lg_sl ([.ref h, .int (iz zw), .int (iz zp)])).length) Slot.unset).toArray = ls at hl ⊢

  have hl : lv_has ls 6 [(0, .ref h), (1, .int (iz zw)), (2, .int (iz zp))] := hl
  refine lv_aload_n hx hb d_B_scaleRow_0 rfl (lv_at hl 0 rfl) ?_
  refine va_get (D := D) (ci := 0) (v := .ref ro) (C := R_B) (T := T_B) (N := 4) hx hb hts in_B hown hK hP 0 rfl rfl 0 (by decide) (hts _ kw_63) (fun _ h9 => h9) rfl d_B_scaleRow_1 ?_
  refine lv_iload_n hx hb d_B_scaleRow_4 rfl (lv_at hl 1 rfl) ?_
  refine rg_ald hx hb hK hP 1 1 rfl rfl w d_B_scaleRow_5 ?_
  refine lv_iload_n hx hb d_B_scaleRow_6 rfl (lv_at hl 2 rfl) ?_
  refine rg_ld hx hb hK hP 0 rfl w p0 d_B_scaleRow_7 ?_
  refine rc_calll (va_runSN (As := [.long (lk (M w p0))]) (rest := []) ⟨hx, hb, hml, hown, hts⟩ (m_O_inverse l D (M w p0)) ⟨va_cnB 1 hts (kb_gi (kb_c kw_161 kb_all)) rfl rfl rfl hN.2.2.2.2.1 (hts _ kw_1) (by decide +kernel) ⟨Nat.le_of_ble_eq_true rfl, Nat.le_of_ble_eq_true rfl⟩, hts _ kw_160, trivial⟩ ⟨rc_blind, rc_pre hP hD hK hN [] rfl rfl [] rfl⟩ rfl rfl hl.1 rfl (lv_room (Nat.le_of_ble_eq_true rfl)) d_B_scaleRow_8 ⟨Nat.zero_le _, Nat.zero_le _⟩) hP hD hS [] rfl (fun _ => rfl) (fun r1 u2 H locs hw2 hP hD hS => ?_)
  subst hw2
  have hP : va_P D vC ([(h, rB ro le me cn), (ro, go cO 17 ra)] ++ gs 17 ra cJ 13 M) H := hP
  have hD : va_D A ([(h, rB ro le me cn), (ro, go cO 17 ra)] ++ gs 17 ra cJ 13 M) := hD
  refine lv_lstore_n (lv' := [(3, .long (lk (ro_iv (M w p0)))), (0, .ref h), (1, .int (iz zw)), (2, .int (iz zp))]) hx hb d_B_scaleRow_11 rfl hl (by decide) rfl (fun ls hl => ?_)
  refine rz_iconst hx hb d_B_scaleRow_12 ?_
  refine lv_istore (lv' := [(5, .int (iz 0)), (3, .long (lk (ro_iv (M w p0)))), (0, .ref h), (1, .int (iz zw)), (2, .int (iz zp))]) hx hb d_B_scaleRow_13 hl (by decide) rfl (fun ls hl => ?_)
  refine lo_B_scaleRow (M := M) hzw hw7 hx hb hml hown hts hK hN (fun H locs ls hP hD hS => ?_) 13 0 _ H locs ls rfl (by omega) (by rw [sck_0]; exact hP) (by rw [sck_0]; exact hD) hS (lv_sub hl [0, 1, 2, 3] rfl)
  exact W.vret hx hb hr (fun t ht hW => ⟨⟨(), rfl, trivial, rc_out ht hP⟩, hS.F ht⟩) hS.2.2 d_B_scaleRow_52
set_option maxHeartbeats 4000000 in
set_option maxRecDepth 100000 in
theorem li_B_clearColumn {cJ cO cI : ClassId} {h ro le me : Nat} {cn : Int} {ra : Nat → Nat} {M : Nat → Nat → ro_K} {w i : Nat} {zw zi zp : Int} {t : ro_K} (hzw : zw = (w : Int)) (hw : w < 17) (hzi : zi = (i : Int)) (hi : i < 17) (hne : i ≠ w) (hx : p.tables.exec = Jvm.exec) (hb : c.code = c_B_clearColumn) (hml : c.maxLocals = 7) (hown : s.vm.findClass R_B = some m.cls) (hts : ∀ w ∈ kb, w.before args s = true) (hK : va_K D vC [(cJ, .long), (cO, .array .long), (cI, .int)] s) (hN : rc_N s) (hR : 1 ≤ R.frames ∧ 23 ≤ R.locals) (hend : ∀ (H : Heap) (locs : List Loc) (ls : Array Slot), va_P D vC ([(h, rB ro le me cn), (ro, go cO 17 ra)] ++ gs 17 ra cJ 13 (clk M w i t 13)) H → va_D A ([(h, rB ro le me cn), (ro, go cO 17 ra)] ++ gs 17 ra cJ 13 (clk M w i t 13)) → va_S A H0 H locs → lv_has ls 7 [(3, .int (iz zi)), (0, .ref h), (1, .int (iz zw)), (2, .int (iz zp))] → W p l e R s m args below meth c H locs 0 0 Q (F0 m 80 ls [])) : ∀ (q k : Nat) (z : Int) (H : Heap) (locs : List Loc) (ls : Array Slot), z = (k : Int) → k + q = 13 → va_P D vC ([(h, rB ro le me cn), (ro, go cO 17 ra)] ++ gs 17 ra cJ 13 (clk M w i t k)) H → va_D A ([(h, rB ro le me cn), (ro, go cO 17 ra)] ++ gs 17 ra cJ 13 (clk M w i t k)) → va_S A H0 H locs → lv_has ls 7 [(6, .int (iz z)), (4, .long (lk t)), (3, .int (iz zi)), (0, .ref h), (1, .int (iz zw)), (2, .int (iz zp))] → W p l e R s m args below meth c H locs 0 0 Q (F0 m 33 ls []) := by
  intro q
  induction q with
  | zero =>
    intro k z H locs ls hz hk hP hD hS hl
    have e : k = 13 := hk
    subst e
    refine lv_iload hx hb d_B_clearColumn_33 (lv_at hl 0 rfl) ?_
    refine rz_bipush hx hb d_B_clearColumn_35 (by decide) ?_
    refine rz_icmp_ge (tgt := 80) hx hb d_B_clearColumn_37 (by decide) (fun hc => ?_) (fun hc => absurd hc (by omega))
    exact hend H locs ls hP hD hS (lv_sub hl [2, 3, 4, 5] rfl)
  | succ q ih =>
    intro k z H locs ls hz hk hP hD hS hl
    refine lv_iload hx hb d_B_clearColumn_33 (lv_at hl 0 rfl) ?_
    refine rz_bipush hx hb d_B_clearColumn_35 (by decide) ?_
    refine rz_icmp_ge (tgt := 80) hx hb d_B_clearColumn_37 (by decide) (fun hc => absurd hc (by omega)) (fun hc => ?_)
    refine lv_aload_n hx hb d_B_clearColumn_40 rfl (lv_at hl 3 rfl) ?_
    refine va_get (D := D) (ci := 0) (v := .ref ro) (C := R_B) (T := T_B) (N := 4) hx hb hts in_B hown hK hP 0 rfl rfl 0 (by decide) (hts _ kw_63) (fun _ h9 => h9) rfl d_B_clearColumn_41 ?_
    refine lv_iload_n hx hb d_B_clearColumn_44 rfl (lv_at hl 2 rfl) ?_
    refine rg_ald hx hb hK hP 1 1 rfl rfl i d_B_clearColumn_45 ?_
    refine lv_iload hx hb d_B_clearColumn_46 (lv_at hl 0 rfl) ?_
    refine lv_aload_n hx hb d_B_clearColumn_48 rfl (lv_at hl 3 rfl) ?_
    refine va_get (D := D) (ci := 0) (v := .ref ro) (C := R_B) (T := T_B) (N := 4) hx hb hts in_B hown hK hP 0 rfl rfl 0 (by decide) (hts _ kw_63) (fun _ h9 => h9) rfl d_B_clearColumn_49 ?_
    refine lv_iload_n hx hb d_B_clearColumn_52 rfl (lv_at hl 2 rfl) ?_
    refine rg_ald hx hb hK hP 1 1 rfl rfl i d_B_clearColumn_53 ?_
    refine lv_iload hx hb d_B_clearColumn_54 (lv_at hl 0 rfl) ?_
    refine rg_ld hx hb hK hP 0 rfl i k d_B_clearColumn_56 ?_
    refine lv_lload hx hb d_B_clearColumn_57 (lv_at hl 1 rfl) ?_
    refine lv_aload_n hx hb d_B_clearColumn_59 rfl (lv_at hl 3 rfl) ?_
    refine va_get (D := D) (ci := 0) (v := .ref ro) (C := R_B) (T := T_B) (N := 4) hx hb hts in_B hown hK hP 0 rfl rfl 0 (by decide) (hts _ kw_63) (fun _ h9 => h9) rfl d_B_clearColumn_60 ?_
    refine lv_iload_n hx hb d_B_clearColumn_63 rfl (lv_at hl 4 rfl) ?_
    refine rg_ald hx hb hK hP 1 1 rfl rfl w d_B_clearColumn_64 ?_
    refine lv_iload hx hb d_B_clearColumn_65 (lv_at hl 0 rfl) ?_
    refine rg_ld hx hb hK hP 0 rfl w k d_B_clearColumn_67 ?_
    refine rlp_lmul hx hb 1024128004 (lk_p t) (lk_p ((clk M w i t k) w k)) d_B_clearColumn_68 (fun v1 hv1 => ?_)
    refine rlq_lsub hx hb 1024160006 (lq_of (lk_p ((clk M w i t k) i k)) (by decide)) (lq_of hv1 (by decide)) d_B_clearColumn_69 (fun v2 hv2 => ?_)
    refine rc_calll (va_runSN (As := [.long v2]) (rest := [.int (iz z), .ref (ra i)]) ⟨hx, hb, hml, hown, hts⟩ (m_O_number l D v2) ⟨va_cnB 1 hts (kb_gi (kb_c kw_125 kb_all)) rfl rfl rfl hN.2.2.2.2.2 (hts _ kw_1) (by decide +kernel) ⟨Nat.le_trans (by decide) hR.1, Nat.le_trans (by decide) hR.2⟩, hts _ kw_124, trivial⟩ ⟨rc_blind, rc_pre hP hD hK hN [] rfl rfl [] rfl⟩ rfl rfl hl.1 rfl (lv_room (Nat.le_of_ble_eq_true rfl)) d_B_clearColumn_70 ⟨Nat.zero_le _, Nat.zero_le _⟩) hP hD hS [] rfl (fun _ => rfl) (fun r3 u4 H locs hw4 hP hD hS => ?_)
    rw [hv2.2.2] at hw4
    subst hw4
    have hP : va_P D vC ([(h, rB ro le me cn), (ro, go cO 17 ra)] ++ gs 17 ra cJ 13 (clk M w i t k)) H := hP
    have hD : va_D A ([(h, rB ro le me cn), (ro, go cO 17 ra)] ++ gs 17 ra cJ 13 (clk M w i t k)) := hD
    refine rg_st hx hb hK hP hD hS 0 rfl i k d_B_clearColumn_73 (fun H locs hP hD hS => ?_)
    have hP : va_P D vC ([(h, rB ro le me cn), (ro, go cO 17 ra)] ++ gs 17 ra cJ 13 (up2 (clk M w i t k) i k (((clk M w i t k) i k) - (t * ((clk M w i t k) w k))))) H := hP
    have hD : va_D A ([(h, rB ro le me cn), (ro, go cO 17 ra)] ++ gs 17 ra cJ 13 (up2 (clk M w i t k) i k (((clk M w i t k) i k) - (t * ((clk M w i t k) w k))))) := hD
    refine lv_iinc (v := iz (z + 1)) (lv' := [(6, .int (iz (z + 1))), (4, .long (lk t)), (3, .int (iz zi)), (0, .ref h), (1, .int (iz zw)), (2, .int (iz zp))]) hx hb d_B_clearColumn_74 hl (k := 0) rfl (iz_add _ _) (by decide) rfl (fun ls hl => ?_)
    refine lv_goto (tgt := 33) hx hb d_B_clearColumn_77 (by decide) ?_
    rw [clk_s M hne] at hP hD
    exact ih (k + 1) _ H locs ls (by omega) (by omega) hP hD hS (lv_sub hl [0, 1, 2, 3, 4, 5] rfl)
set_option maxHeartbeats 4000000 in
set_option maxRecDepth 100000 in
theorem lo_B_clearColumn {cJ cO cI : ClassId} {h ro le me : Nat} {cn : Int} {ra : Nat → Nat} {M : Nat → Nat → ro_K} {w p0 : Nat} {zw zp : Int} (hzw : zw = (w : Int)) (hw : w < 17) (hzp : zp = (p0 : Int)) (hp : p0 < 13) (hx : p.tables.exec = Jvm.exec) (hb : c.code = c_B_clearColumn) (hml : c.maxLocals = 7) (hown : s.vm.findClass R_B = some m.cls) (hts : ∀ w ∈ kb, w.before args s = true) (hK : va_K D vC [(cJ, .long), (cO, .array .long), (cI, .int)] s) (hN : rc_N s) (hR : 1 ≤ R.frames ∧ 23 ≤ R.locals) (hend : ∀ (H : Heap) (locs : List Loc) (ls : Array Slot), va_P D vC ([(h, rB ro le me cn), (ro, go cO 17 ra)] ++ gs 17 ra cJ 13 (clI M w p0 17)) H → va_D A ([(h, rB ro le me cn), (ro, go cO 17 ra)] ++ gs 17 ra cJ 13 (clI M w p0 17)) → va_S A H0 H locs → W p l e R s m args below meth c H locs 0 0 Q (F0 m 86 ls [])) : ∀ (q n : Nat) (z : Int) (H : Heap) (locs : List Loc) (ls : Array Slot), z = (n : Int) → n + q = 17 → va_P D vC ([(h, rB ro le me cn), (ro, go cO 17 ra)] ++ gs 17 ra cJ 13 (clI M w p0 n)) H → va_D A ([(h, rB ro le me cn), (ro, go cO 17 ra)] ++ gs 17 ra cJ 13 (clI M w p0 n)) → va_S A H0 H locs → lv_has ls 7 [(3, .int (iz z)), (0, .ref h), (1, .int (iz zw)), (2, .int (iz zp))] → W p l e R s m args below meth c H locs 0 0 Q (F0 m 2 ls []) := by
  intro q
  induction q with
  | zero =>
    intro n z H locs ls hz hn hP hD hS hl
    have e : n = 17 := hn
    subst e
    refine lv_iload_n hx hb d_B_clearColumn_2 rfl (lv_at hl 0 rfl) ?_
    refine rz_bipush hx hb d_B_clearColumn_3 (by decide) ?_
    refine rz_icmp_ge (tgt := 86) hx hb d_B_clearColumn_5 (by decide) (fun hc => ?_) (fun hc => absurd hc (by omega))
    exact hend H locs ls hP hD hS
  | succ q ih =>
    intro n z H locs ls hz hn hP hD hS hl
    refine lv_iload_n hx hb d_B_clearColumn_2 rfl (lv_at hl 0 rfl) ?_
    refine rz_bipush hx hb d_B_clearColumn_3 (by decide) ?_
    refine rz_icmp_ge (tgt := 86) hx hb d_B_clearColumn_5 (by decide) (fun hc => absurd hc (by omega)) (fun hc => ?_)
    refine lv_aload_n hx hb d_B_clearColumn_8 rfl (lv_at hl 1 rfl) ?_
    refine va_get (D := D) (ci := 0) (v := .ref ro) (C := R_B) (T := T_B) (N := 4) hx hb hts in_B hown hK hP 0 rfl rfl 0 (by decide) (hts _ kw_63) (fun _ h9 => h9) rfl d_B_clearColumn_9 ?_
    refine lv_iload_n hx hb d_B_clearColumn_12 rfl (lv_at hl 0 rfl) ?_
    refine rg_ald hx hb hK hP 1 1 rfl rfl n d_B_clearColumn_13 ?_
    refine lv_iload_n hx hb d_B_clearColumn_14 rfl (lv_at hl 3 rfl) ?_
    refine rg_ld hx hb hK hP 0 rfl n p0 d_B_clearColumn_15 ?_
    refine lv_lstore (lv' := [(4, .long (lk ((clI M w p0 n) n p0))), (3, .int (iz z)), (0, .ref h), (1, .int (iz zw)), (2, .int (iz zp))]) hx hb d_B_clearColumn_16 hl (by decide) rfl (fun ls hl => ?_)
    refine lv_iload_n hx hb d_B_clearColumn_18 rfl (lv_at hl 1 rfl) ?_
    refine lv_iload_n hx hb d_B_clearColumn_19 rfl (lv_at hl 3 rfl) ?_
    refine rz_icmp_eq (tgt := 80) hx hb d_B_clearColumn_20 (by decide) (fun hc1 => ?_) (fun hc1 => ?_)
    · refine lv_iinc (v := iz (z + 1)) (lv' := [(3, .int (iz (z + 1))), (4, .long (lk ((clI M w p0 n) n p0))), (0, .ref h), (1, .int (iz zw)), (2, .int (iz zp))]) hx hb d_B_clearColumn_80 hl (k := 1) rfl (iz_add _ _) (by decide) rfl (fun ls hl => ?_)
      refine lv_goto (tgt := 2) hx hb d_B_clearColumn_83 (by decide) ?_
      rw [clI_row] at *
      rw [clI_k M (by first | (left; omega) | (right; assumption))] at hP hD
      exact ih (n + 1) _ H locs ls (by omega) (by omega) hP hD hS (lv_sub hl [0, 2, 3, 4] rfl)
    · refine lv_lload hx hb d_B_clearColumn_23 (lv_at hl 0 rfl) ?_
      refine lv_lconst (v := lk 0) hx hb d_B_clearColumn_25 rfl ?_
      refine rz_lcmp_eq (tgt := 80) hx hb d_B_clearColumn_26 d_B_clearColumn_27 (by decide) (fun hc2 => ?_) (fun hc2 => ?_)
      · have hc2 : ((clI M w p0 n) n p0) = 0 := lk_inj.mp hc2
        refine lv_iinc (v := iz (z + 1)) (lv' := [(3, .int (iz (z + 1))), (4, .long (lk ((clI M w p0 n) n p0))), (0, .ref h), (1, .int (iz zw)), (2, .int (iz zp))]) hx hb d_B_clearColumn_80 hl (k := 1) rfl (iz_add _ _) (by decide) rfl (fun ls hl => ?_)
        refine lv_goto (tgt := 2) hx hb d_B_clearColumn_83 (by decide) ?_
        rw [clI_row] at *
        rw [clI_k M (by first | (left; omega) | (right; assumption))] at hP hD
        exact ih (n + 1) _ H locs ls (by omega) (by omega) hP hD hS (lv_sub hl [0, 2, 3, 4] rfl)
      · have hc2 : ((clI M w p0 n) n p0) ≠ 0 := fun z => hc2 (lk_inj.mpr z)
        refine rz_iconst hx hb d_B_clearColumn_30 ?_
        refine lv_istore (lv' := [(6, .int (iz 0)), (4, .long (lk ((clI M w p0 n) n p0))), (3, .int (iz z)), (0, .ref h), (1, .int (iz zw)), (2, .int (iz zp))]) hx hb d_B_clearColumn_31 hl (by decide) rfl (fun ls hl => ?_)
        rw [clI_row] at hl
        refine li_B_clearColumn (M := clI M w p0 n) (i := n) (t := M n p0) hzw hw hz (by omega) (by omega) hx hb hml hown hts hK hN hR (fun H locs ls hP hD hS hl => ?_) 13 0 _ H locs ls rfl (by omega) (by rw [clk_0]; exact hP) (by rw [clk_0]; exact hD) hS (lv_sub hl [0, 1, 2, 3, 4, 5] rfl)
        rw [clI_s M (by omega)] at hP hD
        refine lv_iinc (v := iz (z + 1)) (lv' := [(3, .int (iz (z + 1))), (0, .ref h), (1, .int (iz zw)), (2, .int (iz zp))]) hx hb d_B_clearColumn_80 hl (k := 0) rfl (iz_add _ _) (by decide) rfl (fun ls hl => ?_)
        refine lv_goto (tgt := 2) hx hb d_B_clearColumn_83 (by decide) ?_
        exact ih (n + 1) _ H locs ls (by omega) (by omega) hP hD hS (lv_sub hl [0, 1, 2, 3] rfl)
def ws_B_clearColumn : List Cond := .code y_B_clearColumn c_B_clearColumn 7 none :: kb
set_option maxHeartbeats 4000000 in
set_option maxRecDepth 100000 in
/-- the column is cleared -/
theorem m_B_clearColumn (l : Launch) (D : va_G) (cJ cO cI : ClassId) (h ro le me : Nat) (cn : Int) (ra : Nat → Nat) (M : Nat → Nat → ro_K) (zw zp : Int) (w p0 : Nat) (hzw : zw = (w : Int)) (hw7 : w < 17) (hzp : zp = (p0 : Int)) (hp3 : p0 < 13) : Met l y_B_clearColumn ws_B_clearColumn ({ frames := 1, cells := 0, slots := 0, locals := 23 }) (rc_Pc D vC [(cJ, .long), (cO, .array .long), (cI, .int)] [.ref h, .int (iz zw), .int (iz zp)] ([(h, rB ro le me cn), (ro, go cO 17 ra)] ++ gs 17 ra cJ 13 M)) (va_Qv (fun (_ : Unit) => True) (fun _ t => va_P D vC ([(h, rB ro le me cn), (ro, go cO 17 ra)] ++ gs 17 ra cJ 13 (clI M w p0 17)) t.heap) (rc_A ([(h, rB ro le me cn), (ro, go cO 17 ra)] ++ gs 17 ra cJ 13 M))) 0 0 (rc_A ([(h, rB ro le me cn), (ro, go cO 17 ra)] ++ gs 17 ra cJ 13 M)) := by
  refine Met.ofW (cc := c_B_clearColumn) (maxL := 7) (ret := none) (by decide) rfl ?_
  intro p e s m args below meth c s₁ B hml hv
  obtain ⟨rfl, hP, hK, hD0, hN⟩ := hv
  have hx := B.exec
  have hb := B.bytes
  have hr := B.returns
  have hts0 := atoms_spec (ws := ws_B_clearColumn) B.pre
  have hts : ∀ w ∈ kb, w.before _ s = true := fun w h => hts0 w (List.mem_cons_of_mem _ h)
  have hown : s.vm.findClass R_B = some m.cls := findClass_of_methodNamed B.named
  have hlocks := B.notSynchronized
  have hD := rc_self hD0
  generalize hAe : rc_A ([(h, rB ro le me cn), (ro, go cO 17 ra)] ++ gs 17 ra cJ 13 M) = A at hD ⊢
  have hS : va_S A s.heap s.heap [] := va_S.rf
  have hl := lv_entry ([.ref h, .int (iz zw), .int (iz zp)]) (n := 7) (Nat.le_of_ble_eq_true rfl)
  rw [lg_entry_eq]
  generalize (lg_sl ([.ref h, .int (iz zw), .int (iz zp)]) ++ List.replicate (7 - (lg_sl ([.ref h, .int (iz zw), .int (iz zp)])).length) Slot.unset).toArray = ls at hl ⊢

  have hl : lv_has ls 7 [(0, .ref h), (1, .int (iz zw)), (2, .int (iz zp))] := hl
  refine rz_iconst hx hb d_B_clearColumn_0 ?_
  refine lv_istore_n (lv' := [(3, .int (iz 0)), (0, .ref h), (1, .int (iz zw)), (2, .int (iz zp))]) hx hb d_B_clearColumn_1 rfl hl (by decide) rfl (fun ls hl => ?_)
  refine lo_B_clearColumn (M := M) hzw hw7 hzp hp3 hx hb hml hown hts hK hN ⟨Nat.le_of_ble_eq_true rfl, Nat.le_of_ble_eq_true rfl⟩ (fun H locs ls hP hD hS => ?_) 17 0 _ _ _ ls rfl (by omega) (by rw [clI_0]; exact hP) (by rw [clI_0]; exact hD) hS (lv_sub hl [0, 1, 2, 3] rfl)
  exact W.vret hx hb hr (fun t ht hW => ⟨⟨(), rfl, trivial, rc_out ht hP⟩, hS.F ht⟩) hS.2.2 d_B_clearColumn_86
end WK
