section WK
variable {p : Program} {l : Launch} {e : Env} {R : Room} {s : State} {m : MethodId} {args : Array Value} {below : List Frame} {meth : Method} {c : Code} {H : Heap} {locs : List Loc} {cells slots : Nat} {Q : State → Prop} {D : va_G} {A : Nat → Prop} {H0 : Heap}
/-- an object of RationalOdes -/
abbrev rO (od : Int) (fa ot ah te id rt bs : Nat) (kn : Int) : va_E := .inr (2, [.int (iz od), .ref fa, .ref ot, .ref ah, .ref te, .ref id, .ref rt, .ref bs, .int (iz kn)])
theorem rz_ineg {cc : ByteArray} {pc : Nat} {ls : Array Slot} {rest : List Value} (hx : p.tables.exec = Jvm.exec) (hb : c.code = cc) {a : Int} (hdg : decode cc pc = .ok (.ineg, 1)) (k : W p l e R s m args below meth c H locs cells slots Q (F0 m (pc + 1) ls (.int (iz (-a)) :: rest))) : W p l e R s m args below meth c H locs cells slots Q (F0 m pc ls (.int (iz a) :: rest)) := lv_ineg hx hb hdg (by rw [iz_neg]; exact k)
/-- the number at a power, 0 where there is none -/
def oat (E : Nat → Nat → ro_K) (i : Nat) (z : Int) : ro_K := if 0 ≤ z ∧ z < 5 then E i z.toNat else 0
/-- whether some c i (g + i) isn't 0, the n of them from i on -/
def igL (E : Nat → Nat → ro_K) (g : Int) : Nat → Nat → Bool
  | 0, _ => false
  | n + 1, i => if oat E i (g + i) = 0 then igL E g n (i + 1) else true
def igB (E : Nat → Nat → ro_K) (o : Nat) (g : Int) : Bool := igL E g (o + 1) 0
def lgL (E : Nat → Nat → ro_K) (o : Nat) : Nat → Int
  | 0 => 4
  | n + 1 => if igB E o (3 - (n : Int)) = true then 3 - (n : Int) else lgL E o n
def ggL (E : Nat → Nat → ro_K) (o : Nat) : Nat → Int
  | 0 => -(o : Int)
  | n + 1 => if igB E o ((n : Int) + 1 - o) = true then (n : Int) + 1 - o else ggL E o n
theorem lgL_in (E : Nat → Nat → ro_K) (o : Nat) : ∀ n : Nat, 4 - (n : Int) ≤ lgL E o n ∧ lgL E o n ≤ 4
  | 0 => ⟨by show (4 : Int) - 0 ≤ 4; decide, by show (4 : Int) ≤ 4; decide⟩
  | n + 1 => by
    have ih := lgL_in E o n
    show 4 - ((n + 1 : Nat) : Int) ≤ (if igB E o (3 - (n : Int)) = true then 3 - (n : Int) else lgL E o n) ∧ (if igB E o (3 - (n : Int)) = true then 3 - (n : Int) else lgL E o n) ≤ 4
    by_cases h : igB E o (3 - (n : Int)) = true
    · rw [if_pos h]; omega
    · rw [if_neg h]; omega
theorem ggL_in (E : Nat → Nat → ro_K) (o : Nat) : ∀ n : Nat, -(o : Int) ≤ ggL E o n ∧ ggL E o n ≤ (n : Int) - o
  | 0 => ⟨by show -(o : Int) ≤ -(o : Int); omega, by show -(o : Int) ≤ ((0 : Nat) : Int) - o; omega⟩
  | n + 1 => by
    have ih := ggL_in E o n
    show -(o : Int) ≤ (if igB E o ((n : Int) + 1 - o) = true then (n : Int) + 1 - o else ggL E o n) ∧ (if igB E o ((n : Int) + 1 - o) = true then (n : Int) + 1 - o else ggL E o n) ≤ ((n + 1 : Nat) : Int) - o
    by_cases h : igB E o ((n : Int) + 1 - o) = true
    · rw [if_pos h]; omega
    · rw [if_neg h]; omega
def ws_O_otherAt : List Cond := .code y_O_otherAt c_O_otherAt 3 (some .long) :: kb
set_option maxHeartbeats 4000000 in
set_option maxRecDepth 100000 in
/-- the number at a power, 0 where there is none -/
theorem m_O_otherAt (l : Launch) (D : va_G) (cJ cO : ClassId) (h fa ot ah te id rt bs : Nat) (od kn : Int) (er : Nat → Nat) (E : Nat → Nat → ro_K) (zi zp : Int) (i : Nat) (hzi : zi = (i : Int)) (hi : i < 4) (hlo : -1000 ≤ zp) (hhi : zp ≤ 1000) : Met l y_O_otherAt ws_O_otherAt ({ frames := 0, cells := 0, slots := 0, locals := 0 }) (rc_Pc D vC [(cJ, .long), (cO, .array .long)] [.ref h, .int (iz zi), .int (iz zp)] ([(h, rO od fa ot ah te id rt bs kn), (ot, go cO 4 er)] ++ gs 4 er cJ 5 E)) (va_Ql (fun (q : Int64) (_ : Unit) => q = lk (oat E i zp)) (fun _ t => va_P D vC ([(h, rO od fa ot ah te id rt bs kn), (ot, go cO 4 er)] ++ gs 4 er cJ 5 E) t.heap) (rc_A ([(h, rO od fa ot ah te id rt bs kn), (ot, go cO 4 er)] ++ gs 4 er cJ 5 E))) 0 0 (rc_A ([(h, rO od fa ot ah te id rt bs kn), (ot, go cO 4 er)] ++ gs 4 er cJ 5 E)) := by
  refine Met.ofW (cc := c_O_otherAt) (maxL := 3) (ret := (some .long)) (by decide) rfl ?_
  intro p e s m args below meth c s₁ B hml hv
  obtain ⟨rfl, hP, hK, hD0, hN⟩ := hv
  have hx := B.exec
  have hb := B.bytes
  have hr := B.returns
  have hts0 := atoms_spec (ws := ws_O_otherAt) B.pre
  have hts : ∀ w ∈ kb, w.before _ s = true := fun w h => hts0 w (List.mem_cons_of_mem _ h)
  have hown : s.vm.findClass R_O = some m.cls := findClass_of_methodNamed B.named
  have hlocks := B.notSynchronized
  have hD := rc_self hD0
  generalize hAe : rc_A ([(h, rO od fa ot ah te id rt bs kn), (ot, go cO 4 er)] ++ gs 4 er cJ 5 E) = A at hD ⊢
  have hS : va_S A s.heap s.heap [] := va_S.rf
  have hl := lv_entry ([.ref h, .int (iz zi), .int (iz zp)]) (n := 3) (Nat.le_of_ble_eq_true rfl)
  rw [lg_entry_eq]
  generalize (lg_sl ([.ref h, .int (iz zi), .int (iz zp)]) ++ List.replicate (3 - (lg_sl ([.ref h, .int (iz zi), .int (iz zp)])).length) Slot.unset).toArray = ls at hl ⊢

  have hl : lv_has ls 3 [(0, .ref h), (1, .int (iz zi)), (2, .int (iz zp))] := hl
  refine lv_iload_n hx hb d_O_otherAt_0 rfl (lv_at hl 2 rfl) ?_
  refine rz_if_lt (tgt := 9) hx hb d_O_otherAt_1 (by decide) (fun hc1 => ?_) (fun hc1 => ?_)
  · refine lv_lconst (v := lk 0) hx hb d_O_otherAt_9 rfl ?_
    refine lv_goto (tgt := 21) hx hb d_O_otherAt_10 (by decide) ?_
    exact W.lret hx hb hr (fun t ht hW => ⟨⟨_, (), rfl, (by unfold oat; rw [if_neg (by omega)]), rc_out ht hP⟩, hS.F ht⟩) hS.2.2 d_O_otherAt_21
  · refine lv_iload_n hx hb d_O_otherAt_4 rfl (lv_at hl 2 rfl) ?_
    refine rz_iconst hx hb d_O_otherAt_5 ?_
    refine rz_icmp_lt (tgt := 13) hx hb d_O_otherAt_6 (by decide) (fun hc2 => ?_) (fun hc2 => ?_)
    · refine lv_aload_n hx hb d_O_otherAt_13 rfl (lv_at hl 0 rfl) ?_
      refine va_get (D := D) (ci := 2) (v := .ref ot) (C := R_O) (T := T_O) (N := 9) hx hb hts in_O hown hK hP 0 rfl rfl 2 (by decide) (hts _ kw_85) (fun _ h9 => h9) rfl d_O_otherAt_14 ?_
      refine lv_iload_n hx hb d_O_otherAt_17 rfl (lv_at hl 1 rfl) ?_
      refine rg_ald hx hb hK hP 1 1 rfl rfl i d_O_otherAt_18 ?_
      refine lv_iload_n hx hb d_O_otherAt_19 rfl (lv_at hl 2 rfl) ?_
      refine rg_ld hx hb hK hP 0 rfl i zp.toNat d_O_otherAt_20 ?_
      exact W.lret hx hb hr (fun t ht hW => ⟨⟨_, (), rfl, (by unfold oat; rw [if_pos (by omega)]), rc_out ht hP⟩, hS.F ht⟩) hS.2.2 d_O_otherAt_21
    · refine lv_lconst (v := lk 0) hx hb d_O_otherAt_9 rfl ?_
      refine lv_goto (tgt := 21) hx hb d_O_otherAt_10 (by decide) ?_
      exact W.lret hx hb hr (fun t ht hW => ⟨⟨_, (), rfl, (by unfold oat; rw [if_neg (by omega)]), rc_out ht hP⟩, hS.F ht⟩) hS.2.2 d_O_otherAt_21
set_option maxHeartbeats 4000000 in
set_option maxRecDepth 100000 in
theorem lo_O_isGap {cJ cO : ClassId} {h fa ot ah te id rt bs : Nat} {od kn : Int} {o : Nat} {er : Nat → Nat} {E : Nat → Nat → ro_K} {g : Int} {bb : Bool} (hod : od = (o : Int)) (ho3 : o ≤ 3) (hg1 : -10 ≤ g) (hg2 : g ≤ 10) (hx : p.tables.exec = Jvm.exec) (hb : c.code = c_O_isGap) (hml : c.maxLocals = 3) (hown : s.vm.findClass R_O = some m.cls) (hts : ∀ w ∈ kb, w.before args s = true) (hK : va_K D vC [(cJ, .long), (cO, .array .long)] s) (hN : rc_N s) (hR : 1 ≤ R.frames ∧ 22 ≤ R.locals) (endA : ∀ (ls : Array Slot) (H : Heap) (locs : List Loc), bb = true → va_P D vC ([(h, rO od fa ot ah te id rt bs kn), (ot, go cO 4 er)] ++ gs 4 er cJ 5 E) H → va_S A H0 H locs → W p l e R s m args below meth c H locs 0 0 Q (F0 m 23 ls [])) (endB : ∀ (ls : Array Slot) (H : Heap) (locs : List Loc), bb = false → va_P D vC ([(h, rO od fa ot ah te id rt bs kn), (ot, go cO 4 er)] ++ gs 4 er cJ 5 E) H → va_S A H0 H locs → W p l e R s m args below meth c H locs 0 0 Q (F0 m 31 ls [])) : ∀ (n i : Nat) (z : Int) (H : Heap) (locs : List Loc) (ls : Array Slot), z = (i : Int) → i + n = o + 1 → igL E g n i = bb → va_P D vC ([(h, rO od fa ot ah te id rt bs kn), (ot, go cO 4 er)] ++ gs 4 er cJ 5 E) H → va_D A ([(h, rO od fa ot ah te id rt bs kn), (ot, go cO 4 er)] ++ gs 4 er cJ 5 E) → va_S A H0 H locs → lv_has ls 3 [(2, .int (iz z)), (0, .ref h), (1, .int (iz g))] → W p l e R s m args below meth c H locs 0 0 Q (F0 m 2 ls []) := by
  intro n
  induction n with
  | zero =>
    intro i z H locs ls hz hi hbb hP hD hS hl
    refine lv_iload_n hx hb d_O_isGap_2 rfl (lv_at hl 0 rfl) ?_
    refine lv_aload_n hx hb d_O_isGap_3 rfl (lv_at hl 1 rfl) ?_
    refine va_get (D := D) (ci := 2) (v := .int (iz od)) (C := R_O) (T := T_O) (N := 9) hx hb hts in_O hown hK hP 0 rfl rfl 0 (by decide) (hts _ kw_83) (fun _ h9 => h9) rfl d_O_isGap_4 ?_
    refine rz_icmp_gt (tgt := 31) hx hb d_O_isGap_7 (by decide) (fun hc1 => ?_) (fun hc1 => ?_)
    · exact endB ls H locs hbb.symm hP hS
    · omega
  | succ n ih =>
    intro i z H locs ls hz hi hbb hP hD hS hl
    have hbb2 : (if oat E i (g + i) = 0 then igL E g n (i + 1) else true) = bb := hbb
    subst hz
    refine lv_iload_n hx hb d_O_isGap_2 rfl (lv_at hl 0 rfl) ?_
    refine lv_aload_n hx hb d_O_isGap_3 rfl (lv_at hl 1 rfl) ?_
    refine va_get (D := D) (ci := 2) (v := .int (iz od)) (C := R_O) (T := T_O) (N := 9) hx hb hts in_O hown hK hP 0 rfl rfl 0 (by decide) (hts _ kw_83) (fun _ h9 => h9) rfl d_O_isGap_4 ?_
    refine rz_icmp_gt (tgt := 31) hx hb d_O_isGap_7 (by decide) (fun hc2 => ?_) (fun hc2 => ?_)
    · omega
    · refine lv_aload_n hx hb d_O_isGap_10 rfl (lv_at hl 1 rfl) ?_
      refine lv_iload_n hx hb d_O_isGap_11 rfl (lv_at hl 0 rfl) ?_
      refine lv_iload_n hx hb d_O_isGap_12 rfl (lv_at hl 2 rfl) ?_
      refine lv_iload_n hx hb d_O_isGap_13 rfl (lv_at hl 0 rfl) ?_
      refine rz_iadd hx hb d_O_isGap_14 ?_
      refine rs_calll (va_runV (As := [.int (iz (i : Int)), .int (iz (g + (i : Int)))]) (rest := []) ⟨hx, hb, hml, hown, hts⟩ (m_O_otherAt l D cJ cO h fa ot ah te id rt bs od kn er E _ (g + (i : Int)) i rfl (by omega) (by omega) (by omega)) (cwV 2 hts (kb_gi (kb_c kw_443 (kb_c kw_445 (kb_c ks_O_otherAt (kb_c kw_1 (kb_c kw_446 kb_all)))))) rfl rfl rfl (by decide +kernel) ⟨Nat.le_trans (by decide) hR.1, Nat.le_trans (by decide) hR.2⟩) ⟨rc_blind, va_recv hK hP (ci := 2) (q0 := 0) rfl rfl, rs_pre (Y := []) (rs_nil hP) (rs_nilD hD) hK hN [0, 1] rfl rfl [0, 1] rfl⟩ rfl rfl hl.1 rfl (lv_room (Nat.le_of_ble_eq_true rfl)) d_O_isGap_15 ⟨Nat.zero_le _, Nat.zero_le _⟩) hP hD hS [0, 1] rfl (fun _ => rfl) (fun _ => gs_adr _ _ _ _ _ _) (fun r3 u4 H locs hw4 hP hD hS => ?_)
      subst hw4
      have hP : va_P D vC ([(h, rO od fa ot ah te id rt bs kn), (ot, go cO 4 er)] ++ gs 4 er cJ 5 E) H := hP
      have hD : va_D A ([(h, rO od fa ot ah te id rt bs kn), (ot, go cO 4 er)] ++ gs 4 er cJ 5 E) := hD
      refine lv_lconst (v := lk 0) hx hb d_O_isGap_18 rfl ?_
      refine rz_lcmp_eq (tgt := 25) hx hb d_O_isGap_19 d_O_isGap_20 (by decide) (fun hc5 => ?_) (fun hc5 => ?_)
      · have hc5 : (oat E i (g + (i : Int))) = 0 := lk_inj.mp hc5
        refine lv_iinc (v := iz ((i : Int) + 1)) (lv' := [(2, .int (iz ((i : Int) + 1))), (0, .ref h), (1, .int (iz g))]) hx hb d_O_isGap_25 hl (k := 0) rfl (iz_add _ _) (by decide) rfl (fun ls hl => ?_)
        refine lv_goto (tgt := 2) hx hb d_O_isGap_28 (by decide) ?_
        rw [if_pos (by assumption)] at hbb2
        exact ih (i + 1) _ H locs ls (by omega) (by omega) hbb2 hP hD hS (lv_sub hl [0, 1, 2] rfl)
      · have hc5 : (oat E i (g + (i : Int))) ≠ 0 := fun z => hc5 (lk_inj.mpr z)
        rw [if_neg (by assumption)] at hbb2
        exact endA ls H locs hbb2.symm hP hS
def ws_O_isGap : List Cond := .code y_O_isGap c_O_isGap 3 (some .boolean) :: kb
set_option maxHeartbeats 4000000 in
set_option maxRecDepth 100000 in
/-- whether some number is there -/
theorem m_O_isGap (l : Launch) (D : va_G) (cJ cO : ClassId) (h fa ot ah te id rt bs : Nat) (od kn : Int) (er : Nat → Nat) (E : Nat → Nat → ro_K) (g : Int) (o : Nat) (hod : od = (o : Int)) (ho3 : o ≤ 3) (hg1 : -10 ≤ g) (hg2 : g ≤ 10) : Met l y_O_isGap ws_O_isGap ({ frames := 1, cells := 0, slots := 0, locals := 22 }) (rc_Pc D vC [(cJ, .long), (cO, .array .long)] [.ref h, .int (iz g)] ([(h, rO od fa ot ah te id rt bs kn), (ot, go cO 4 er)] ++ gs 4 er cJ 5 E)) (va_Qi (fun (q : Int32) (_ : Unit) => q = if igB E o g = true then iz 1 else iz 0) (fun _ t => va_P D vC ([(h, rO od fa ot ah te id rt bs kn), (ot, go cO 4 er)] ++ gs 4 er cJ 5 E) t.heap) (rc_A ([(h, rO od fa ot ah te id rt bs kn), (ot, go cO 4 er)] ++ gs 4 er cJ 5 E))) 0 0 (rc_A ([(h, rO od fa ot ah te id rt bs kn), (ot, go cO 4 er)] ++ gs 4 er cJ 5 E)) := by
  refine Met.ofW (cc := c_O_isGap) (maxL := 3) (ret := (some .boolean)) (by decide) rfl ?_
  intro p e s m args below meth c s₁ B hml hv
  obtain ⟨rfl, hP, hK, hD0, hN⟩ := hv
  have hx := B.exec
  have hb := B.bytes
  have hr := B.returns
  have hts0 := atoms_spec (ws := ws_O_isGap) B.pre
  have hts : ∀ w ∈ kb, w.before _ s = true := fun w h => hts0 w (List.mem_cons_of_mem _ h)
  have hown : s.vm.findClass R_O = some m.cls := findClass_of_methodNamed B.named
  have hlocks := B.notSynchronized
  have hD := rc_self hD0
  generalize hAe : rc_A ([(h, rO od fa ot ah te id rt bs kn), (ot, go cO 4 er)] ++ gs 4 er cJ 5 E) = A at hD ⊢
  have hS : va_S A s.heap s.heap [] := va_S.rf
  have hl := lv_entry ([.ref h, .int (iz g)]) (n := 3) (Nat.le_of_ble_eq_true rfl)
  rw [lg_entry_eq]
  generalize (lg_sl ([.ref h, .int (iz g)]) ++ List.replicate (3 - (lg_sl ([.ref h, .int (iz g)])).length) Slot.unset).toArray = ls at hl ⊢

  have hl : lv_has ls 3 [(0, .ref h), (1, .int (iz g))] := hl
  refine rz_iconst hx hb d_O_isGap_0 ?_
  refine lv_istore_n (lv' := [(2, .int (iz 0)), (0, .ref h), (1, .int (iz g))]) hx hb d_O_isGap_1 rfl hl (by decide) rfl (fun ls hl => ?_)
  refine lo_O_isGap (bb := igB E o g) hod ho3 hg1 hg2 hx hb hml hown hts hK hN ⟨Nat.le_of_ble_eq_true rfl, Nat.le_of_ble_eq_true rfl⟩ (fun ls H locs hbb hP hS => ?_) (fun ls H locs hbb hP hS => ?_) (o + 1) 0 _ _ _ ls rfl (by omega) rfl hP hD hS (lv_sub hl [0, 1, 2] rfl)
  · refine rz_iconst hx hb d_O_isGap_23 ?_
    exact W.zret hx hb hr rfl (fun t ht hW => ⟨⟨_, (), rfl, (by rw [hbb]; rfl), rc_out ht hP⟩, hS.F ht⟩) hS.2.2 d_O_isGap_24
  · refine rz_iconst hx hb d_O_isGap_31 ?_
    exact W.zret hx hb hr rfl (fun t ht hW => ⟨⟨_, (), rfl, (by rw [hbb]; rfl), rc_out ht hP⟩, hS.F ht⟩) hS.2.2 d_O_isGap_32
set_option maxHeartbeats 4000000 in
set_option maxRecDepth 100000 in
theorem lo_O_leastGap {cJ cO : ClassId} {h fa ot ah te id rt bs : Nat} {od kn : Int} {o : Nat} {er : Nat → Nat} {E : Nat → Nat → ro_K} {rr : Int} (hod : od = (o : Int)) (ho3 : o ≤ 3) (hx : p.tables.exec = Jvm.exec) (hb : c.code = c_O_leastGap) (hml : c.maxLocals = 2) (hown : s.vm.findClass R_O = some m.cls) (hts : ∀ w ∈ kb, w.before args s = true) (hK : va_K D vC [(cJ, .long), (cO, .array .long)] s) (hN : rc_N s) (hR : 2 ≤ R.frames ∧ 44 ≤ R.locals) (hend : ∀ (ls : Array Slot) (H : Heap) (locs : List Loc), va_P D vC ([(h, rO od fa ot ah te id rt bs kn), (ot, go cO 4 er)] ++ gs 4 er cJ 5 E) H → va_S A H0 H locs → lv_has ls 2 [(1, .int (iz rr))] → W p l e R s m args below meth c H locs 0 0 Q (F0 m 25 ls [])) : ∀ (n : Nat) (z : Int) (H : Heap) (locs : List Loc) (ls : Array Slot), z = 4 - (n : Int) → n ≤ 4 + o → lgL E o n = rr → va_P D vC ([(h, rO od fa ot ah te id rt bs kn), (ot, go cO 4 er)] ++ gs 4 er cJ 5 E) H → va_D A ([(h, rO od fa ot ah te id rt bs kn), (ot, go cO 4 er)] ++ gs 4 er cJ 5 E) → va_S A H0 H locs → lv_has ls 2 [(1, .int (iz z)), (0, .ref h)] → W p l e R s m args below meth c H locs 0 0 Q (F0 m 6 ls []) := by
  intro n
  induction n with
  | zero =>
    intro z H locs ls hz hn hrr hP hD hS hl
    refine lv_iload_n hx hb d_O_leastGap_6 rfl (lv_at hl 0 rfl) ?_
    refine rz_iconst hx hb d_O_leastGap_7 ?_
    refine rz_icmp_ge (tgt := 25) hx hb d_O_leastGap_8 (by decide) (fun hc1 => ?_) (fun hc1 => ?_)
    · have e : z = rr := by rw [← hrr]; show z = 4; omega
      rw [e] at hl
      exact hend ls H locs hP hS (lv_sub hl [0] rfl)
    · omega
  | succ n ih =>
    intro z H locs ls hz hn hrr hP hD hS hl
    have hrr2 : (if igB E o (3 - (n : Int)) = true then 3 - (n : Int) else lgL E o n) = rr := hrr
    have ez : z = 3 - (n : Int) := by omega
    subst ez
    refine lv_iload_n hx hb d_O_leastGap_6 rfl (lv_at hl 0 rfl) ?_
    refine rz_iconst hx hb d_O_leastGap_7 ?_
    refine rz_icmp_ge (tgt := 25) hx hb d_O_leastGap_8 (by decide) (fun hc2 => ?_) (fun hc2 => ?_)
    · omega
    · refine lv_aload_n hx hb d_O_leastGap_11 rfl (lv_at hl 1 rfl) ?_
      refine lv_iload_n hx hb d_O_leastGap_12 rfl (lv_at hl 0 rfl) ?_
      refine rs_calli (va_runV (As := [.int (iz (3 - (n : Int)))]) (rest := []) ⟨hx, hb, hml, hown, hts⟩ (m_O_isGap l D cJ cO h fa ot ah te id rt bs od kn er E (3 - (n : Int)) o hod ho3 (by omega) (by omega)) (cwV 1 hts (kb_gi (kb_c kw_439 (kb_c kw_441 (kb_c ks_O_isGap (kb_c kw_1 (kb_c kw_442 kb_all)))))) rfl rfl rfl (by decide +kernel) ⟨Nat.le_trans (by decide) hR.1, Nat.le_trans (by decide) hR.2⟩) ⟨rc_blind, va_recv hK hP (ci := 2) (q0 := 0) rfl rfl, rs_pre (Y := []) (rs_nil hP) (rs_nilD hD) hK hN [0, 1] rfl rfl [0, 1] rfl⟩ rfl rfl hl.1 rfl (lv_room (Nat.le_of_ble_eq_true rfl)) d_O_leastGap_13 ⟨Nat.zero_le _, Nat.zero_le _⟩) hP hD hS [0, 1] rfl (fun _ => rfl) (fun _ => gs_adr _ _ _ _ _ _) (fun r3 u4 H locs hw4 hP hD hS => ?_)
      subst hw4
      have hP : va_P D vC ([(h, rO od fa ot ah te id rt bs kn), (ot, go cO 4 er)] ++ gs 4 er cJ 5 E) H := hP
      have hD : va_D A ([(h, rO od fa ot ah te id rt bs kn), (ot, go cO 4 er)] ++ gs 4 er cJ 5 E) := hD
      by_cases hig : igB E o (3 - (n : Int)) = true
      · rw [if_pos hig] at hrr2 ⊢
        refine rz_if_ne (tgt := 25) hx hb d_O_leastGap_16 (by decide) (fun _ => ?_) (fun hc => absurd hc (by decide))
        subst hrr2
        exact hend ls H locs hP hS (lv_sub hl [0] rfl)
      · rw [if_neg hig] at hrr2 ⊢
        refine rz_if_ne (tgt := 25) hx hb d_O_leastGap_16 (by decide) (fun hc => absurd rfl hc) (fun _ => ?_)
        refine lv_iinc (v := iz ((3 - (n : Int)) + 1)) (lv' := [(1, .int (iz ((3 - (n : Int)) + 1))), (0, .ref h)]) hx hb d_O_leastGap_19 hl (k := 0) rfl (iz_add _ _) (by decide) rfl (fun ls hl => ?_)
        refine lv_goto (tgt := 6) hx hb d_O_leastGap_22 (by decide) ?_
        exact ih _ H locs ls (by omega) (by omega) hrr2 hP hD hS (lv_sub hl [0, 1] rfl)
def ws_O_leastGap : List Cond := .code y_O_leastGap c_O_leastGap 2 (some .int) :: kb
set_option maxHeartbeats 4000000 in
set_option maxRecDepth 100000 in
/-- the least -/
theorem m_O_leastGap (l : Launch) (D : va_G) (cJ cO : ClassId) (h fa ot ah te id rt bs : Nat) (od kn : Int) (er : Nat → Nat) (E : Nat → Nat → ro_K) (o : Nat) (hod : od = (o : Int)) (ho3 : o ≤ 3) : Met l y_O_leastGap ws_O_leastGap ({ frames := 2, cells := 0, slots := 0, locals := 44 }) (rc_Pc D vC [(cJ, .long), (cO, .array .long)] [.ref h] ([(h, rO od fa ot ah te id rt bs kn), (ot, go cO 4 er)] ++ gs 4 er cJ 5 E)) (va_Qi (fun (q : Int32) (_ : Unit) => q = iz (lgL E o (4 + o))) (fun _ t => va_P D vC ([(h, rO od fa ot ah te id rt bs kn), (ot, go cO 4 er)] ++ gs 4 er cJ 5 E) t.heap) (rc_A ([(h, rO od fa ot ah te id rt bs kn), (ot, go cO 4 er)] ++ gs 4 er cJ 5 E))) 0 0 (rc_A ([(h, rO od fa ot ah te id rt bs kn), (ot, go cO 4 er)] ++ gs 4 er cJ 5 E)) := by
  refine Met.ofW (cc := c_O_leastGap) (maxL := 2) (ret := (some .int)) (by decide) rfl ?_
  intro p e s m args below meth c s₁ B hml hv
  obtain ⟨rfl, hP, hK, hD0, hN⟩ := hv
  have hx := B.exec
  have hb := B.bytes
  have hr := B.returns
  have hts0 := atoms_spec (ws := ws_O_leastGap) B.pre
  have hts : ∀ w ∈ kb, w.before _ s = true := fun w h => hts0 w (List.mem_cons_of_mem _ h)
  have hown : s.vm.findClass R_O = some m.cls := findClass_of_methodNamed B.named
  have hlocks := B.notSynchronized
  have hD := rc_self hD0
  generalize hAe : rc_A ([(h, rO od fa ot ah te id rt bs kn), (ot, go cO 4 er)] ++ gs 4 er cJ 5 E) = A at hD ⊢
  have hS : va_S A s.heap s.heap [] := va_S.rf
  have hl := lv_entry ([.ref h]) (n := 2) (Nat.le_of_ble_eq_true rfl)
  rw [lg_entry_eq]
  generalize (lg_sl ([.ref h]) ++ List.replicate (2 - (lg_sl ([.ref h])).length) Slot.unset).toArray = ls at hl ⊢

  have hl : lv_has ls 2 [(0, .ref h)] := hl
  refine lv_aload_n hx hb d_O_leastGap_0 rfl (lv_at hl 0 rfl) ?_
  refine va_get (D := D) (ci := 2) (v := .int (iz od)) (C := R_O) (T := T_O) (N := 9) hx hb hts in_O hown hK hP 0 rfl rfl 0 (by decide) (hts _ kw_83) (fun _ h9 => h9) rfl d_O_leastGap_1 ?_
  refine rz_ineg hx hb d_O_leastGap_4 ?_
  refine lv_istore_n (lv' := [(1, .int (iz (-od))), (0, .ref h)]) hx hb d_O_leastGap_5 rfl hl (by decide) rfl (fun ls hl => ?_)
  refine lo_O_leastGap (rr := lgL E o (4 + o)) hod ho3 hx hb hml hown hts hK hN ⟨Nat.le_of_ble_eq_true rfl, Nat.le_of_ble_eq_true rfl⟩ (fun ls H locs hP hS hl => ?_) (4 + o) _ _ _ ls (by omega) (by omega) rfl hP hD hS (lv_sub hl [0, 1] rfl)
  refine lv_iload_n hx hb d_O_leastGap_25 rfl (lv_at hl 0 rfl) ?_
  exact W.iret hx hb hr (fun t ht hW => ⟨⟨_, (), rfl, rfl, rc_out ht hP⟩, hS.F ht⟩) hS.2.2 d_O_leastGap_26
set_option maxHeartbeats 4000000 in
set_option maxRecDepth 100000 in
theorem lo_O_greatestGap {cJ cO : ClassId} {h fa ot ah te id rt bs : Nat} {od kn : Int} {o : Nat} {er : Nat → Nat} {E : Nat → Nat → ro_K} {rr : Int} (hod : od = (o : Int)) (ho3 : o ≤ 3) (hx : p.tables.exec = Jvm.exec) (hb : c.code = c_O_greatestGap) (hml : c.maxLocals = 2) (hown : s.vm.findClass R_O = some m.cls) (hts : ∀ w ∈ kb, w.before args s = true) (hK : va_K D vC [(cJ, .long), (cO, .array .long)] s) (hN : rc_N s) (hR : 2 ≤ R.frames ∧ 44 ≤ R.locals) (hend : ∀ (ls : Array Slot) (H : Heap) (locs : List Loc), va_P D vC ([(h, rO od fa ot ah te id rt bs kn), (ot, go cO 4 er)] ++ gs 4 er cJ 5 E) H → va_S A H0 H locs → lv_has ls 2 [(1, .int (iz rr))] → W p l e R s m args below meth c H locs 0 0 Q (F0 m 25 ls [])) : ∀ (n : Nat) (z : Int) (H : Heap) (locs : List Loc) (ls : Array Slot), z = (n : Int) - o → n ≤ 4 + o → ggL E o n = rr → va_P D vC ([(h, rO od fa ot ah te id rt bs kn), (ot, go cO 4 er)] ++ gs 4 er cJ 5 E) H → va_D A ([(h, rO od fa ot ah te id rt bs kn), (ot, go cO 4 er)] ++ gs 4 er cJ 5 E) → va_S A H0 H locs → lv_has ls 2 [(1, .int (iz z)), (0, .ref h)] → W p l e R s m args below meth c H locs 0 0 Q (F0 m 2 ls []) := by
  intro n
  induction n with
  | zero =>
    intro z H locs ls hz hn hrr hP hD hS hl
    refine lv_iload_n hx hb d_O_greatestGap_2 rfl (lv_at hl 0 rfl) ?_
    refine lv_aload_n hx hb d_O_greatestGap_3 rfl (lv_at hl 1 rfl) ?_
    refine va_get (D := D) (ci := 2) (v := .int (iz od)) (C := R_O) (T := T_O) (N := 9) hx hb hts in_O hown hK hP 0 rfl rfl 0 (by decide) (hts _ kw_83) (fun _ h9 => h9) rfl d_O_greatestGap_4 ?_
    refine rz_ineg hx hb d_O_greatestGap_7 ?_
    refine rz_icmp_le (tgt := 25) hx hb d_O_greatestGap_8 (by decide) (fun hc1 => ?_) (fun hc1 => ?_)
    · have e : z = rr := by rw [← hrr]; show z = -(o : Int); omega
      rw [e] at hl
      exact hend ls H locs hP hS (lv_sub hl [0] rfl)
    · omega
  | succ n ih =>
    intro z H locs ls hz hn hrr hP hD hS hl
    have hrr2 : (if igB E o ((n : Int) + 1 - o) = true then (n : Int) + 1 - o else ggL E o n) = rr := hrr
    have ez : z = (n : Int) + 1 - o := by omega
    subst ez
    refine lv_iload_n hx hb d_O_greatestGap_2 rfl (lv_at hl 0 rfl) ?_
    refine lv_aload_n hx hb d_O_greatestGap_3 rfl (lv_at hl 1 rfl) ?_
    refine va_get (D := D) (ci := 2) (v := .int (iz od)) (C := R_O) (T := T_O) (N := 9) hx hb hts in_O hown hK hP 0 rfl rfl 0 (by decide) (hts _ kw_83) (fun _ h9 => h9) rfl d_O_greatestGap_4 ?_
    refine rz_ineg hx hb d_O_greatestGap_7 ?_
    refine rz_icmp_le (tgt := 25) hx hb d_O_greatestGap_8 (by decide) (fun hc2 => ?_) (fun hc2 => ?_)
    · omega
    · refine lv_aload_n hx hb d_O_greatestGap_11 rfl (lv_at hl 1 rfl) ?_
      refine lv_iload_n hx hb d_O_greatestGap_12 rfl (lv_at hl 0 rfl) ?_
      refine rs_calli (va_runV (As := [.int (iz ((n : Int) + 1 - o))]) (rest := []) ⟨hx, hb, hml, hown, hts⟩ (m_O_isGap l D cJ cO h fa ot ah te id rt bs od kn er E ((n : Int) + 1 - o) o hod ho3 (by omega) (by omega)) (cwV 1 hts (kb_gi (kb_c kw_439 (kb_c kw_441 (kb_c ks_O_isGap (kb_c kw_1 (kb_c kw_442 kb_all)))))) rfl rfl rfl (by decide +kernel) ⟨Nat.le_trans (by decide) hR.1, Nat.le_trans (by decide) hR.2⟩) ⟨rc_blind, va_recv hK hP (ci := 2) (q0 := 0) rfl rfl, rs_pre (Y := []) (rs_nil hP) (rs_nilD hD) hK hN [0, 1] rfl rfl [0, 1] rfl⟩ rfl rfl hl.1 rfl (lv_room (Nat.le_of_ble_eq_true rfl)) d_O_greatestGap_13 ⟨Nat.zero_le _, Nat.zero_le _⟩) hP hD hS [0, 1] rfl (fun _ => rfl) (fun _ => gs_adr _ _ _ _ _ _) (fun r3 u4 H locs hw4 hP hD hS => ?_)
      subst hw4
      have hP : va_P D vC ([(h, rO od fa ot ah te id rt bs kn), (ot, go cO 4 er)] ++ gs 4 er cJ 5 E) H := hP
      have hD : va_D A ([(h, rO od fa ot ah te id rt bs kn), (ot, go cO 4 er)] ++ gs 4 er cJ 5 E) := hD
      by_cases hig : igB E o ((n : Int) + 1 - o) = true
      · rw [if_pos hig] at hrr2 ⊢
        refine rz_if_ne (tgt := 25) hx hb d_O_greatestGap_16 (by decide) (fun _ => ?_) (fun hc => absurd hc (by decide))
        subst hrr2
        exact hend ls H locs hP hS (lv_sub hl [0] rfl)
      · rw [if_neg hig] at hrr2 ⊢
        refine rz_if_ne (tgt := 25) hx hb d_O_greatestGap_16 (by decide) (fun hc => absurd rfl hc) (fun _ => ?_)
        refine lv_iinc (v := iz (((n : Int) + 1 - o) + (-1))) (lv' := [(1, .int (iz (((n : Int) + 1 - o) + (-1)))), (0, .ref h)]) hx hb d_O_greatestGap_19 hl (k := 0) rfl (iz_add _ _) (by decide) rfl (fun ls hl => ?_)
        refine lv_goto (tgt := 2) hx hb d_O_greatestGap_22 (by decide) ?_
        exact ih _ H locs ls (by omega) (by omega) hrr2 hP hD hS (lv_sub hl [0, 1] rfl)
def ws_O_greatestGap : List Cond := .code y_O_greatestGap c_O_greatestGap 2 (some .int) :: kb
set_option maxHeartbeats 4000000 in
set_option maxRecDepth 100000 in
/-- the greatest -/
theorem m_O_greatestGap (l : Launch) (D : va_G) (cJ cO : ClassId) (h fa ot ah te id rt bs : Nat) (od kn : Int) (er : Nat → Nat) (E : Nat → Nat → ro_K) (o : Nat) (hod : od = (o : Int)) (ho3 : o ≤ 3) : Met l y_O_greatestGap ws_O_greatestGap ({ frames := 2, cells := 0, slots := 0, locals := 44 }) (rc_Pc D vC [(cJ, .long), (cO, .array .long)] [.ref h] ([(h, rO od fa ot ah te id rt bs kn), (ot, go cO 4 er)] ++ gs 4 er cJ 5 E)) (va_Qi (fun (q : Int32) (_ : Unit) => q = iz (ggL E o (4 + o))) (fun _ t => va_P D vC ([(h, rO od fa ot ah te id rt bs kn), (ot, go cO 4 er)] ++ gs 4 er cJ 5 E) t.heap) (rc_A ([(h, rO od fa ot ah te id rt bs kn), (ot, go cO 4 er)] ++ gs 4 er cJ 5 E))) 0 0 (rc_A ([(h, rO od fa ot ah te id rt bs kn), (ot, go cO 4 er)] ++ gs 4 er cJ 5 E)) := by
  refine Met.ofW (cc := c_O_greatestGap) (maxL := 2) (ret := (some .int)) (by decide) rfl ?_
  intro p e s m args below meth c s₁ B hml hv
  obtain ⟨rfl, hP, hK, hD0, hN⟩ := hv
  have hx := B.exec
  have hb := B.bytes
  have hr := B.returns
  have hts0 := atoms_spec (ws := ws_O_greatestGap) B.pre
  have hts : ∀ w ∈ kb, w.before _ s = true := fun w h => hts0 w (List.mem_cons_of_mem _ h)
  have hown : s.vm.findClass R_O = some m.cls := findClass_of_methodNamed B.named
  have hlocks := B.notSynchronized
  have hD := rc_self hD0
  generalize hAe : rc_A ([(h, rO od fa ot ah te id rt bs kn), (ot, go cO 4 er)] ++ gs 4 er cJ 5 E) = A at hD ⊢
  have hS : va_S A s.heap s.heap [] := va_S.rf
  have hl := lv_entry ([.ref h]) (n := 2) (Nat.le_of_ble_eq_true rfl)
  rw [lg_entry_eq]
  generalize (lg_sl ([.ref h]) ++ List.replicate (2 - (lg_sl ([.ref h])).length) Slot.unset).toArray = ls at hl ⊢

  have hl : lv_has ls 2 [(0, .ref h)] := hl
  refine rz_iconst hx hb d_O_greatestGap_0 ?_
  refine lv_istore_n (lv' := [(1, .int (iz 4)), (0, .ref h)]) hx hb d_O_greatestGap_1 rfl hl (by decide) rfl (fun ls hl => ?_)
  refine lo_O_greatestGap (rr := ggL E o (4 + o)) hod ho3 hx hb hml hown hts hK hN ⟨Nat.le_of_ble_eq_true rfl, Nat.le_of_ble_eq_true rfl⟩ (fun ls H locs hP hS hl => ?_) (4 + o) _ _ _ ls (by omega) (by omega) rfl hP hD hS (lv_sub hl [0, 1] rfl)
  refine lv_iload_n hx hb d_O_greatestGap_25 rfl (lv_at hl 0 rfl) ?_
  exact W.iret hx hb hr (fun t ht hW => ⟨⟨_, (), rfl, rfl, rc_out ht hP⟩, hS.F ht⟩) hS.2.2 d_O_greatestGap_26
end WK
