section WK
variable {p : Program} {l : Launch} {e : Env} {R : Room} {s : State} {m : MethodId} {args : Array Value} {below : List Frame} {meth : Method} {c : Code} {H : Heap} {locs : List Loc} {cells slots : Nat} {Q : State → Prop} {D : va_G} {A : Nat → Prop} {H0 : Heap}
/-- the factors at another place, k of them -/
def stE (F : Nat → Nat → ro_K) (b : ro_K) (E : Nat → Nat → ro_K) : Nat → Nat → Nat → ro_K
  | 0 => E
  | k + 1 => va_up (va_up (stE F b E k) k (va_cpy (F k) (stE F b E k k) 0 0 5)) k (shO b 4 ((va_up (stE F b E k) k (va_cpy (F k) (stE F b E k k) 0 0 5)) k))
def mvF (b : ro_K) (F : Nat → Nat → ro_K) : Nat → Nat → Nat → ro_K
  | 0 => F
  | k + 1 => va_up (mvF b F k) k (shO b 4 (mvF b F k k))
def clF (F : Nat → Nat → ro_K) : Nat → Nat → Nat → ro_K
  | 0 => F
  | k + 1 => va_up (clF F k) k (kfl (clF F k k) 0 5)
/-- rows copied -/
def cpF (E F : Nat → Nat → ro_K) : Nat → Nat → Nat → ro_K
  | 0 => F
  | k + 1 => va_up (cpF E F k) k (va_cpy (E k) (cpF E F k k) 0 0 5)
/-- a row of the adjoint, the first powers of it -/
def tuR (F : Nat → Nat → ro_K) (o : Nat) (E : Nat → Nat → ro_K) (j : Nat) : Nat → Nat → Nat → ro_K
  | 0 => E
  | p + 1 => up2 (tuR F o E j p) j p (adS F j p (o + 1 - j))
def tuE (F : Nat → Nat → ro_K) (o : Nat) (E : Nat → Nat → ro_K) : Nat → Nat → Nat → ro_K
  | 0 => E
  | k + 1 => tuR F o (tuE F o E k) k 5
def azB (F : Nat → Nat → ro_K) : Nat → Bool
  | 0 => true
  | k + 1 => azB F k && decide (kd (F k) 5 < 0)
set_option maxHeartbeats 4000000 in
set_option maxRecDepth 100000 in
theorem lo_O_shiftToOther {cJ cO : ClassId} {h fa ot ah te id rt bs : Nat} {od kn : Int} {o : Nat} (hod : od = (o : Int)) (ho3 : o ≤ 3) {fr er : Nat → Nat} {E F : Nat → Nat → ro_K} {b : ro_K} (hx : p.tables.exec = Jvm.exec) (hb : c.code = c_O_shiftToOther) (hml : c.maxLocals = 4) (hown : s.vm.findClass R_O = some m.cls) (hts : ∀ w ∈ kb, w.before args s = true) (hK : va_K D vC [(cJ, .long), (cO, .array .long)] s) (hN : rc_N s)  (hR : 1 ≤ R.frames ∧ 40 ≤ R.locals) (hend : ∀ (H : Heap) (locs : List Loc) (ls : Array Slot), va_P D vC (([(h, rO od fa ot ah te id rt bs kn), (fa, go cO 4 fr), (ot, go cO 4 er)] ++ gs 4 er cJ 5 (stE F b E (o + 1))) ++ gs 4 fr cJ 5 F) H → va_D A (([(h, rO od fa ot ah te id rt bs kn), (fa, go cO 4 fr), (ot, go cO 4 er)] ++ gs 4 er cJ 5 (stE F b E (o + 1))) ++ gs 4 fr cJ 5 F) → va_S A H0 H locs → W p l e R s m args below meth c H locs 0 0 Q (F0 m 44 ls [])) : ∀ (q k : Nat) (z : Int) (H : Heap) (locs : List Loc) (ls : Array Slot), z = (k : Int) → k + q = o + 1 → va_P D vC (([(h, rO od fa ot ah te id rt bs kn), (fa, go cO 4 fr), (ot, go cO 4 er)] ++ gs 4 er cJ 5 (stE F b E k)) ++ gs 4 fr cJ 5 F) H → va_D A (([(h, rO od fa ot ah te id rt bs kn), (fa, go cO 4 fr), (ot, go cO 4 er)] ++ gs 4 er cJ 5 (stE F b E k)) ++ gs 4 fr cJ 5 F) → va_S A H0 H locs → lv_has ls 4 [(3, .int (iz z)), (0, .ref h), (1, .long (lk b))] → W p l e R s m args below meth c H locs 0 0 Q (F0 m 2 ls []) := by
  intro q
  induction q with
  | zero =>
    intro k z H locs ls hz hk hP hD hS hl
    have e : k = o + 1 := hk
    subst e
    refine lv_iload_n hx hb d_O_shiftToOther_2 rfl (lv_at hl 0 rfl) ?_
    refine lv_aload_n hx hb d_O_shiftToOther_3 rfl (lv_at hl 1 rfl) ?_
    refine va_get (D := D) (ci := 2) (v := .int (iz od)) (C := R_O) (T := T_O) (N := 9) hx hb hts in_O hown hK hP 0 rfl rfl 0 (by decide) (hts _ kw_83) (fun _ h9 => h9) rfl d_O_shiftToOther_4 ?_
    refine rz_icmp_gt (tgt := 44) hx hb d_O_shiftToOther_7 (by decide) (fun hc1 => ?_) (fun hc1 => ?_)
    · exact hend H locs ls hP hD hS
    · omega
  | succ q ih =>
    intro k z H locs ls hz hk hP hD hS hl
    subst hz
    refine lv_iload_n hx hb d_O_shiftToOther_2 rfl (lv_at hl 0 rfl) ?_
    refine lv_aload_n hx hb d_O_shiftToOther_3 rfl (lv_at hl 1 rfl) ?_
    refine va_get (D := D) (ci := 2) (v := .int (iz od)) (C := R_O) (T := T_O) (N := 9) hx hb hts in_O hown hK hP 0 rfl rfl 0 (by decide) (hts _ kw_83) (fun _ h9 => h9) rfl d_O_shiftToOther_4 ?_
    refine rz_icmp_gt (tgt := 44) hx hb d_O_shiftToOther_7 (by decide) (fun hc2 => ?_) (fun hc2 => ?_)
    · omega
    · refine lv_aload_n hx hb d_O_shiftToOther_10 rfl (lv_at hl 1 rfl) ?_
      refine va_get (D := D) (ci := 2) (v := .ref fa) (C := R_O) (T := T_O) (N := 9) hx hb hts in_O hown hK hP 0 rfl rfl 1 (by decide) (hts _ kw_84) (fun _ h9 => h9) rfl d_O_shiftToOther_11 ?_
      refine lv_iload_n hx hb d_O_shiftToOther_14 rfl (lv_at hl 0 rfl) ?_
      refine rg_ald hx hb hK hP 1 1 rfl rfl k d_O_shiftToOther_15 ?_
      refine rz_iconst hx hb d_O_shiftToOther_16 ?_
      refine lv_aload_n hx hb d_O_shiftToOther_17 rfl (lv_at hl 1 rfl) ?_
      refine va_get (D := D) (ci := 2) (v := .ref ot) (C := R_O) (T := T_O) (N := 9) hx hb hts in_O hown hK hP 0 rfl rfl 2 (by decide) (hts _ kw_85) (fun _ h9 => h9) rfl d_O_shiftToOther_18 ?_
      refine lv_iload_n hx hb d_O_shiftToOther_21 rfl (lv_at hl 0 rfl) ?_
      refine rg_ald hx hb hK hP 2 1 rfl rfl k d_O_shiftToOther_22 ?_
      refine rz_iconst hx hb d_O_shiftToOther_23 ?_
      refine rz_iconst hx hb d_O_shiftToOther_24 ?_
      refine rk_copy hx hb (hml.trans hl.1.symm) hown (hts _ kw_196) hts hK hP hD hS (7 + k) (3 + k) 0 (gs_get0 rfl (by omega)) (gs_get1 rfl (by omega)) rfl 5 (by omega) (by omega) (by omega) (Nat.le_trans (by decide) hR.1) (Nat.le_trans (by decide) hR.2) d_O_shiftToOther_25 (fun H locs hP hD hS => ?_)
      have hP := gs_uP1 hP
      have hD := gs_uD1 hD
      have hP : va_P D vC (([(h, rO od fa ot ah te id rt bs kn), (fa, go cO 4 fr), (ot, go cO 4 er)] ++ gs 4 er cJ 5 (va_up (stE F b E k) k (va_cpy (F k) ((stE F b E k) k) 0 0 5))) ++ gs 4 fr cJ 5 F) H := hP
      have hD : va_D A (([(h, rO od fa ot ah te id rt bs kn), (fa, go cO 4 fr), (ot, go cO 4 er)] ++ gs 4 er cJ 5 (va_up (stE F b E k) k (va_cpy (F k) ((stE F b E k) k) 0 0 5))) ++ gs 4 fr cJ 5 F) := hD
      refine lv_aload_n hx hb d_O_shiftToOther_28 rfl (lv_at hl 1 rfl) ?_
      refine va_get (D := D) (ci := 2) (v := .ref ot) (C := R_O) (T := T_O) (N := 9) hx hb hts in_O hown hK hP 0 rfl rfl 2 (by decide) (hts _ kw_85) (fun _ h9 => h9) rfl d_O_shiftToOther_29 ?_
      refine lv_iload_n hx hb d_O_shiftToOther_32 rfl (lv_at hl 0 rfl) ?_
      refine rg_ald hx hb hK hP 2 1 rfl rfl k d_O_shiftToOther_33 ?_
      refine lv_lload_n hx hb d_O_shiftToOther_34 rfl (lv_at hl 2 rfl) ?_
      refine rr_callv (va_runS (As := [.ref (er k), .long (lk b)]) (rest := []) ⟨hx, hb, hml, hown, hts⟩ (m_O_shift l D cJ (er k) ((va_up (stE F b E k) k (va_cpy (F k) ((stE F b E k) k) 0 0 5)) k) b) (cwS 2 hts (kb_gi (kb_c kw_203 (kb_c kw_204 (kb_c kw_1 (kb_c kw_205 kb_all))))) rfl rfl rfl (by decide +kernel) ⟨Nat.le_trans (by decide) hR.1, Nat.le_trans (by decide) hR.2⟩) ⟨rc_blind, rr_pre (rs_a1 hP) (rs_aD1 hD) hK hN (by omega) [] rfl rfl [0] rfl⟩ rfl rfl hl.1 rfl (lv_room (Nat.le_of_ble_eq_true rfl)) d_O_shiftToOther_35 ⟨Nat.zero_le _, Nat.zero_le _⟩) (rs_a1 hP) (rs_aD1 hD) hS (by omega) [] rfl (fun _ => rfl) (fun u3 H locs hw3 hP hD hS => ?_)
      have hP := rs_b1 hP
      have hD := rs_bD1 hD
      have hP : va_P D vC (([(h, rO od fa ot ah te id rt bs kn), (fa, go cO 4 fr), (ot, go cO 4 er)] ++ gs 4 er cJ 5 (va_up (va_up (stE F b E k) k (va_cpy (F k) ((stE F b E k) k) 0 0 5)) k (shO b 4 ((va_up (stE F b E k) k (va_cpy (F k) ((stE F b E k) k) 0 0 5)) k)))) ++ gs 4 fr cJ 5 F) H := hP
      have hD : va_D A (([(h, rO od fa ot ah te id rt bs kn), (fa, go cO 4 fr), (ot, go cO 4 er)] ++ gs 4 er cJ 5 (va_up (va_up (stE F b E k) k (va_cpy (F k) ((stE F b E k) k) 0 0 5)) k (shO b 4 ((va_up (stE F b E k) k (va_cpy (F k) ((stE F b E k) k) 0 0 5)) k)))) ++ gs 4 fr cJ 5 F) := hD
      refine lv_iinc (v := iz ((k : Int) + 1)) (lv' := [(3, .int (iz ((k : Int) + 1))), (0, .ref h), (1, .long (lk b))]) hx hb d_O_shiftToOther_38 hl (k := 0) rfl (iz_add _ _) (by decide) rfl (fun ls hl => ?_)
      refine lv_goto (tgt := 2) hx hb d_O_shiftToOther_41 (by decide) ?_
      exact ih (k + 1) _ H locs ls (by omega) (by omega) hP hD hS (lv_sub hl [0, 1, 2] rfl)
def ws_O_shiftToOther : List Cond := .code y_O_shiftToOther c_O_shiftToOther 4 none :: kb
set_option maxHeartbeats 4000000 in
set_option maxRecDepth 100000 in
/-- the factors, with t + b in place of x -/
theorem m_O_shiftToOther (l : Launch) (D : va_G) (cJ cO : ClassId) (h fa ot ah te id rt bs : Nat) (od kn : Int) (fr er : Nat → Nat) (E F : Nat → Nat → ro_K) (b : ro_K) (o : Nat) (hod : od = (o : Int)) (ho3 : o ≤ 3) : Met l y_O_shiftToOther ws_O_shiftToOther ({ frames := 1, cells := 0, slots := 0, locals := 40 }) (rc_Pc D vC [(cJ, .long), (cO, .array .long)] [.ref h, .long (lk b)] (([(h, rO od fa ot ah te id rt bs kn), (fa, go cO 4 fr), (ot, go cO 4 er)] ++ gs 4 er cJ 5 E) ++ gs 4 fr cJ 5 F)) (va_Qv (fun (_ : Unit) => True) (fun _ t => va_P D vC (([(h, rO od fa ot ah te id rt bs kn), (fa, go cO 4 fr), (ot, go cO 4 er)] ++ gs 4 er cJ 5 (stE F b E (o + 1))) ++ gs 4 fr cJ 5 F) t.heap) (rc_A (([(h, rO od fa ot ah te id rt bs kn), (fa, go cO 4 fr), (ot, go cO 4 er)] ++ gs 4 er cJ 5 E) ++ gs 4 fr cJ 5 F))) 0 0 (rc_A (([(h, rO od fa ot ah te id rt bs kn), (fa, go cO 4 fr), (ot, go cO 4 er)] ++ gs 4 er cJ 5 E) ++ gs 4 fr cJ 5 F)) := by
  refine Met.ofW (cc := c_O_shiftToOther) (maxL := 4) (ret := none) (by decide) rfl ?_
  intro p e s m args below meth c s₁ B hml hv
  obtain ⟨rfl, hP, hK, hD0, hN⟩ := hv
  have hx := B.exec
  have hb := B.bytes
  have hr := B.returns
  have hts0 := atoms_spec (ws := ws_O_shiftToOther) B.pre
  have hts : ∀ w ∈ kb, w.before _ s = true := fun w h => hts0 w (List.mem_cons_of_mem _ h)
  have hown : s.vm.findClass R_O = some m.cls := findClass_of_methodNamed B.named
  have hlocks := B.notSynchronized
  have hD := rc_self hD0
  generalize hAe : rc_A (([(h, rO od fa ot ah te id rt bs kn), (fa, go cO 4 fr), (ot, go cO 4 er)] ++ gs 4 er cJ 5 E) ++ gs 4 fr cJ 5 F) = A at hD ⊢
  have hS : va_S A s.heap s.heap [] := va_S.rf
  have hl := lv_entry ([.ref h, .long (lk b)]) (n := 4) (Nat.le_of_ble_eq_true rfl)
  rw [lg_entry_eq]
  generalize (lg_sl ([.ref h, .long (lk b)]) ++ List.replicate (4 - (lg_sl ([.ref h, .long (lk b)])).length) Slot.unset).toArray = ls at hl ⊢

  have hl : lv_has ls 4 [(0, .ref h), (1, .long (lk b))] := hl
  refine rz_iconst hx hb d_O_shiftToOther_0 ?_
  refine lv_istore_n (lv' := [(3, .int (iz 0)), (0, .ref h), (1, .long (lk b))]) hx hb d_O_shiftToOther_1 rfl hl (by decide) rfl (fun ls hl => ?_)
  refine lo_O_shiftToOther (F := F) (b := b) (E := E) hod ho3 hx hb hml hown hts hK hN ⟨Nat.le_of_ble_eq_true rfl, Nat.le_of_ble_eq_true rfl⟩ (fun H locs ls hP hD hS => ?_) (o + 1) 0 _ _ _ ls rfl (by omega) hP hD hS (lv_sub hl [0, 1, 2] rfl)
  exact W.vret hx hb hr (fun t ht hW => ⟨⟨(), rfl, trivial, rc_out ht hP⟩, hS.F ht⟩) hS.2.2 d_O_shiftToOther_44
set_option maxHeartbeats 4000000 in
set_option maxRecDepth 100000 in
theorem m_O_shiftToOther_S (l : Launch) (D : va_G) (cJ cO : ClassId) (h fa ot ah te id rt bs : Nat) (od kn : Int) (fr er : Nat → Nat) (E F : Nat → Nat → ro_K) (b : ro_K) (o : Nat) (hod : od = (o : Int)) (ho3 : o ≤ 3) : Met l y_O_shiftToOther ws_O_shiftToOther ({ frames := 1, cells := 0, slots := 0, locals := 40 }) (rc_Pc D vC [(cJ, .long), (cO, .array .long)] [.ref h, .long (lk b)] ([(h, rO od fa ot ah te id rt bs kn), (fa, go cO 4 fr), (ot, go cO 4 er)] ++ (gs 4 er cJ 5 E ++ (gs 4 fr cJ 5 F)))) (va_Qv (fun (_ : Unit) => True) (fun _ t => va_P D vC ([(h, rO od fa ot ah te id rt bs kn), (fa, go cO 4 fr), (ot, go cO 4 er)] ++ (gs 4 er cJ 5 (stE F b E (o + 1)) ++ (gs 4 fr cJ 5 F))) t.heap) (rc_A ([(h, rO od fa ot ah te id rt bs kn), (fa, go cO 4 fr), (ot, go cO 4 er)] ++ (gs 4 er cJ 5 E ++ (gs 4 fr cJ 5 F))))) 0 0 (rc_A ([(h, rO od fa ot ah te id rt bs kn), (fa, go cO 4 fr), (ot, go cO 4 er)] ++ (gs 4 er cJ 5 E ++ (gs 4 fr cJ 5 F)))) := m_O_shiftToOther l D cJ cO h fa ot ah te id rt bs od kn fr er E F b o hod ho3

set_option maxHeartbeats 4000000 in
set_option maxRecDepth 100000 in
theorem lo_O_move {cJ cO : ClassId} {h fa ot ah te id rt bs : Nat} {od kn : Int} {o : Nat} (hod : od = (o : Int)) (ho3 : o ≤ 3) {fr : Nat → Nat} {F : Nat → Nat → ro_K} {b : ro_K} (hx : p.tables.exec = Jvm.exec) (hb : c.code = c_O_move) (hml : c.maxLocals = 6) (hown : s.vm.findClass R_O = some m.cls) (hts : ∀ w ∈ kb, w.before args s = true) (hK : va_K D vC [(cJ, .long), (cO, .array .long)] s) (hN : rc_N s)  (hR : 1 ≤ R.frames ∧ 24 ≤ R.locals) (hend : ∀ (H : Heap) (locs : List Loc) (ls : Array Slot), va_P D vC ([(h, rO od fa ot ah te id rt bs kn), (fa, go cO 4 fr)] ++ gs 4 fr cJ 5 (mvF b F (o + 1))) H → va_D A ([(h, rO od fa ot ah te id rt bs kn), (fa, go cO 4 fr)] ++ gs 4 fr cJ 5 (mvF b F (o + 1))) → va_S A H0 H locs → lv_has ls 6 [(0, .ref h)] → W p l e R s m args below meth c H locs 0 0 Q (F0 m 34 ls [])) : ∀ (q k : Nat) (z : Int) (H : Heap) (locs : List Loc) (ls : Array Slot), z = (k : Int) → k + q = o + 1 → va_P D vC ([(h, rO od fa ot ah te id rt bs kn), (fa, go cO 4 fr)] ++ gs 4 fr cJ 5 (mvF b F k)) H → va_D A ([(h, rO od fa ot ah te id rt bs kn), (fa, go cO 4 fr)] ++ gs 4 fr cJ 5 (mvF b F k)) → va_S A H0 H locs → lv_has ls 6 [(5, .int (iz z)), (3, .long (lk b)), (0, .ref h)] → W p l e R s m args below meth c H locs 0 0 Q (F0 m 8 ls []) := by
  intro q
  induction q with
  | zero =>
    intro k z H locs ls hz hk hP hD hS hl
    have e : k = o + 1 := hk
    subst e
    refine lv_iload hx hb d_O_move_8 (lv_at hl 0 rfl) ?_
    refine lv_aload_n hx hb d_O_move_10 rfl (lv_at hl 2 rfl) ?_
    refine va_get (D := D) (ci := 2) (v := .int (iz od)) (C := R_O) (T := T_O) (N := 9) hx hb hts in_O hown hK hP 0 rfl rfl 0 (by decide) (hts _ kw_83) (fun _ h9 => h9) rfl d_O_move_11 ?_
    refine rz_icmp_gt (tgt := 34) hx hb d_O_move_14 (by decide) (fun hc1 => ?_) (fun hc1 => ?_)
    · exact hend H locs ls hP hD hS (lv_sub hl [2] rfl)
    · omega
  | succ q ih =>
    intro k z H locs ls hz hk hP hD hS hl
    subst hz
    refine lv_iload hx hb d_O_move_8 (lv_at hl 0 rfl) ?_
    refine lv_aload_n hx hb d_O_move_10 rfl (lv_at hl 2 rfl) ?_
    refine va_get (D := D) (ci := 2) (v := .int (iz od)) (C := R_O) (T := T_O) (N := 9) hx hb hts in_O hown hK hP 0 rfl rfl 0 (by decide) (hts _ kw_83) (fun _ h9 => h9) rfl d_O_move_11 ?_
    refine rz_icmp_gt (tgt := 34) hx hb d_O_move_14 (by decide) (fun hc2 => ?_) (fun hc2 => ?_)
    · omega
    · refine lv_aload_n hx hb d_O_move_17 rfl (lv_at hl 2 rfl) ?_
      refine va_get (D := D) (ci := 2) (v := .ref fa) (C := R_O) (T := T_O) (N := 9) hx hb hts in_O hown hK hP 0 rfl rfl 1 (by decide) (hts _ kw_84) (fun _ h9 => h9) rfl d_O_move_18 ?_
      refine lv_iload hx hb d_O_move_21 (lv_at hl 0 rfl) ?_
      refine rg_ald hx hb hK hP 1 1 rfl rfl k d_O_move_23 ?_
      refine lv_lload_n hx hb d_O_move_24 rfl (lv_at hl 1 rfl) ?_
      refine rr_callv (va_runS (As := [.ref (fr k), .long (lk b)]) (rest := []) ⟨hx, hb, hml, hown, hts⟩ (m_O_shift l D cJ (fr k) ((mvF b F k) k) b) (cwS 2 hts (kb_gi (kb_c kw_203 (kb_c kw_204 (kb_c kw_1 (kb_c kw_205 kb_all))))) rfl rfl rfl (by decide +kernel) ⟨Nat.le_trans (by decide) hR.1, Nat.le_trans (by decide) hR.2⟩) ⟨rc_blind, rr_pre (rs_nil hP) (rs_nilD hD) hK hN (by omega) [] rfl rfl [0] rfl⟩ rfl rfl hl.1 rfl (lv_room (Nat.le_of_ble_eq_true rfl)) d_O_move_25 ⟨Nat.zero_le _, Nat.zero_le _⟩) (rs_nil hP) (rs_nilD hD) hS (by omega) [] rfl (fun _ => rfl) (fun u3 H locs hw3 hP hD hS => ?_)
      have hP := rs_nilR hP
      have hD := rs_nilRD hD
      have hP : va_P D vC ([(h, rO od fa ot ah te id rt bs kn), (fa, go cO 4 fr)] ++ gs 4 fr cJ 5 (va_up (mvF b F k) k (shO b 4 ((mvF b F k) k)))) H := hP
      have hD : va_D A ([(h, rO od fa ot ah te id rt bs kn), (fa, go cO 4 fr)] ++ gs 4 fr cJ 5 (va_up (mvF b F k) k (shO b 4 ((mvF b F k) k)))) := hD
      refine lv_iinc (v := iz ((k : Int) + 1)) (lv' := [(5, .int (iz ((k : Int) + 1))), (3, .long (lk b)), (0, .ref h)]) hx hb d_O_move_28 hl (k := 0) rfl (iz_add _ _) (by decide) rfl (fun ls hl => ?_)
      refine lv_goto (tgt := 8) hx hb d_O_move_31 (by decide) ?_
      exact ih (k + 1) _ H locs ls (by omega) (by omega) hP hD hS (lv_sub hl [0, 1, 2] rfl)
def ws_O_move : List Cond := .code y_O_move c_O_move 6 none :: kb
set_option maxHeartbeats 4000000 in
set_option maxRecDepth 100000 in
/-- x + v in place of x -/
theorem m_O_move (l : Launch) (D : va_G) (cJ cO : ClassId) (h fa ot ah te id rt bs : Nat) (od kn : Int) (fr : Nat → Nat) (F : Nat → Nat → ro_K) (v : Int64) (o : Nat) (hod : od = (o : Int)) (ho3 : o ≤ 3) : Met l y_O_move ws_O_move ({ frames := 1, cells := 0, slots := 0, locals := 24 }) (rc_Pc D vC [(cJ, .long), (cO, .array .long)] [.ref h, .long v] ([(h, rO od fa ot ah te id rt bs kn), (fa, go cO 4 fr)] ++ gs 4 fr cJ 5 F)) (va_Qv (fun (_ : Unit) => True) (fun _ t => va_P D vC ([(h, rO od fa ot ah te id rt bs 0), (fa, go cO 4 fr)] ++ gs 4 fr cJ 5 (mvF (ro_k v.toInt) F (o + 1))) t.heap) (rc_A ([(h, rO od fa ot ah te id rt bs kn), (fa, go cO 4 fr)] ++ gs 4 fr cJ 5 F))) 0 0 (rc_A ([(h, rO od fa ot ah te id rt bs kn), (fa, go cO 4 fr)] ++ gs 4 fr cJ 5 F)) := by
  refine Met.ofW (cc := c_O_move) (maxL := 6) (ret := none) (by decide) rfl ?_
  intro p e s m args below meth c s₁ B hml hv
  obtain ⟨rfl, hP, hK, hD0, hN⟩ := hv
  have hx := B.exec
  have hb := B.bytes
  have hr := B.returns
  have hts0 := atoms_spec (ws := ws_O_move) B.pre
  have hts : ∀ w ∈ kb, w.before _ s = true := fun w h => hts0 w (List.mem_cons_of_mem _ h)
  have hown : s.vm.findClass R_O = some m.cls := findClass_of_methodNamed B.named
  have hlocks := B.notSynchronized
  have hD := rc_self hD0
  generalize hAe : rc_A ([(h, rO od fa ot ah te id rt bs kn), (fa, go cO 4 fr)] ++ gs 4 fr cJ 5 F) = A at hD ⊢
  have hS : va_S A s.heap s.heap [] := va_S.rf
  have hl := lv_entry ([.ref h, .long v]) (n := 6) (Nat.le_of_ble_eq_true rfl)
  rw [lg_entry_eq]
  generalize (lg_sl ([.ref h, .long v]) ++ List.replicate (6 - (lg_sl ([.ref h, .long v])).length) Slot.unset).toArray = ls at hl ⊢

  have hl : lv_has ls 6 [(0, .ref h), (1, .long v)] := hl
  refine lv_lload_n hx hb d_O_move_0 rfl (lv_at hl 1 rfl) ?_
  refine rc_calll (va_runS (As := [.long v]) (rest := []) ⟨hx, hb, hml, hown, hts⟩ (m_O_number l D v) (cwS 1 hts (kb_gi (kb_c kw_123 (kb_c kw_124 (kb_c kw_1 (kb_c kw_125 kb_all))))) rfl rfl rfl (by decide +kernel) ⟨Nat.le_of_ble_eq_true rfl, Nat.le_of_ble_eq_true rfl⟩) ⟨rc_blind, rc_pre hP hD hK hN [] rfl rfl [] rfl⟩ rfl rfl hl.1 rfl (lv_room (Nat.le_of_ble_eq_true rfl)) d_O_move_1 ⟨Nat.zero_le _, Nat.zero_le _⟩) hP hD hS [] rfl (fun _ => rfl) (fun r1 u2 H locs hw2 hP hD hS => ?_)
  subst hw2
  have hP : va_P D vC ([(h, rO od fa ot ah te id rt bs kn), (fa, go cO 4 fr)] ++ gs 4 fr cJ 5 F) H := hP
  have hD : va_D A ([(h, rO od fa ot ah te id rt bs kn), (fa, go cO 4 fr)] ++ gs 4 fr cJ 5 F) := hD
  refine lv_lstore_n (lv' := [(3, .long (lk (ro_k v.toInt))), (0, .ref h), (1, .long v)]) hx hb d_O_move_4 rfl hl (by decide) rfl (fun ls hl => ?_)
  refine rz_iconst hx hb d_O_move_5 ?_
  refine lv_istore (lv' := [(5, .int (iz 0)), (3, .long (lk (ro_k v.toInt))), (0, .ref h), (1, .long v)]) hx hb d_O_move_6 hl (by decide) rfl (fun ls hl => ?_)
  refine lo_O_move (F := F) (b := ro_k v.toInt) hod ho3 hx hb hml hown hts hK hN ⟨Nat.le_of_ble_eq_true rfl, Nat.le_of_ble_eq_true rfl⟩ (fun H locs ls hP hD hS hl => ?_) (o + 1) 0 _ _ _ ls rfl (by omega) hP hD hS (lv_sub hl [0, 1, 2] rfl)
  refine lv_aload_n hx hb d_O_move_34 rfl (lv_at hl 0 rfl) ?_
  refine rz_iconst hx hb d_O_move_35 ?_
  refine va_put (D := D) (ci := 2) (v := .int (iz 0)) (ty := .boolean) (C := R_O) (T := T_O) (N := 9) hx hb hts in_O ty_O tk_O nm_O hown hK hP hD hS 0 rfl rfl 8 (by decide) (hts _ kw_91) (fun _ h9 => h9) rfl (by decide +kernel) rfl rfl (Nat.le_of_ble_eq_true rfl) d_O_move_36 (fun H locs hP hD hS => ?_)
  have hP : va_P D vC ([(h, rO od fa ot ah te id rt bs 0), (fa, go cO 4 fr)] ++ gs 4 fr cJ 5 (mvF (ro_k v.toInt) F (o + 1))) H := hP
  have hD : va_D A ([(h, rO od fa ot ah te id rt bs 0), (fa, go cO 4 fr)] ++ gs 4 fr cJ 5 (mvF (ro_k v.toInt) F (o + 1))) := hD
  exact W.vret hx hb hr (fun t ht hW => ⟨⟨(), rfl, trivial, rc_out ht hP⟩, hS.F ht⟩) hS.2.2 d_O_move_39
set_option maxHeartbeats 4000000 in
set_option maxRecDepth 100000 in
theorem lo_O_clear {cJ cO : ClassId} {h fa ot ah te id rt bs : Nat} {od kn : Int} {o : Nat} (hod : od = (o : Int)) (ho3 : o ≤ 3) {fr : Nat → Nat} {F : Nat → Nat → ro_K} {a : Nat → ro_K} (hx : p.tables.exec = Jvm.exec) (hb : c.code = c_O_clear) (hml : c.maxLocals = 2) (hown : s.vm.findClass R_O = some m.cls) (hts : ∀ w ∈ kb, w.before args s = true) (hK : va_K D vC [(cJ, .long), (cO, .array .long)] s) (hN : rc_N s)  (hR : 1 ≤ R.frames ∧ 24 ≤ R.locals) (hend : ∀ (H : Heap) (locs : List Loc) (ls : Array Slot), va_P D vC ([(h, rO od fa ot ah te id rt bs kn), (fa, go cO 4 fr), (ah, ka cJ 13 a)] ++ gs 4 fr cJ 5 (clF F (o + 1))) H → va_D A ([(h, rO od fa ot ah te id rt bs kn), (fa, go cO 4 fr), (ah, ka cJ 13 a)] ++ gs 4 fr cJ 5 (clF F (o + 1))) → va_S A H0 H locs → lv_has ls 2 [(0, .ref h)] → W p l e R s m args below meth c H locs 0 0 Q (F0 m 26 ls [])) : ∀ (q k : Nat) (z : Int) (H : Heap) (locs : List Loc) (ls : Array Slot), z = (k : Int) → k + q = o + 1 → va_P D vC ([(h, rO od fa ot ah te id rt bs kn), (fa, go cO 4 fr), (ah, ka cJ 13 a)] ++ gs 4 fr cJ 5 (clF F k)) H → va_D A ([(h, rO od fa ot ah te id rt bs kn), (fa, go cO 4 fr), (ah, ka cJ 13 a)] ++ gs 4 fr cJ 5 (clF F k)) → va_S A H0 H locs → lv_has ls 2 [(1, .int (iz z)), (0, .ref h)] → W p l e R s m args below meth c H locs 0 0 Q (F0 m 2 ls []) := by
  intro q
  induction q with
  | zero =>
    intro k z H locs ls hz hk hP hD hS hl
    have e : k = o + 1 := hk
    subst e
    refine lv_iload_n hx hb d_O_clear_2 rfl (lv_at hl 0 rfl) ?_
    refine lv_aload_n hx hb d_O_clear_3 rfl (lv_at hl 1 rfl) ?_
    refine va_get (D := D) (ci := 2) (v := .int (iz od)) (C := R_O) (T := T_O) (N := 9) hx hb hts in_O hown hK hP 0 rfl rfl 0 (by decide) (hts _ kw_83) (fun _ h9 => h9) rfl d_O_clear_4 ?_
    refine rz_icmp_gt (tgt := 26) hx hb d_O_clear_7 (by decide) (fun hc1 => ?_) (fun hc1 => ?_)
    · exact hend H locs ls hP hD hS (lv_sub hl [1] rfl)
    · omega
  | succ q ih =>
    intro k z H locs ls hz hk hP hD hS hl
    subst hz
    refine lv_iload_n hx hb d_O_clear_2 rfl (lv_at hl 0 rfl) ?_
    refine lv_aload_n hx hb d_O_clear_3 rfl (lv_at hl 1 rfl) ?_
    refine va_get (D := D) (ci := 2) (v := .int (iz od)) (C := R_O) (T := T_O) (N := 9) hx hb hts in_O hown hK hP 0 rfl rfl 0 (by decide) (hts _ kw_83) (fun _ h9 => h9) rfl d_O_clear_4 ?_
    refine rz_icmp_gt (tgt := 26) hx hb d_O_clear_7 (by decide) (fun hc2 => ?_) (fun hc2 => ?_)
    · omega
    · refine lv_aload_n hx hb d_O_clear_10 rfl (lv_at hl 1 rfl) ?_
      refine va_get (D := D) (ci := 2) (v := .ref fa) (C := R_O) (T := T_O) (N := 9) hx hb hts in_O hown hK hP 0 rfl rfl 1 (by decide) (hts _ kw_84) (fun _ h9 => h9) rfl d_O_clear_11 ?_
      refine lv_iload_n hx hb d_O_clear_14 rfl (lv_at hl 0 rfl) ?_
      refine rg_ald hx hb hK hP 1 1 rfl rfl k d_O_clear_15 ?_
      refine lv_lconst (v := lk 0) hx hb d_O_clear_16 rfl ?_
      refine rr_callv (va_runS (As := [.ref (fr k), .long (lk 0)]) (rest := []) ⟨hx, hb, hml, hown, hts⟩ (m_J_fill l D cJ (fr k) 5 ((clF F k) k) 0 (by omega)) (va_cwS 2 hts (kb_gi (kb_c kw_210 (kb_c kw_173 (kb_c kw_12 (kb_c kw_174 kb_all))))) rfl rfl rfl (by decide +kernel) ⟨Nat.le_trans (by decide) hR.1, Nat.le_trans (by decide) hR.2⟩) ⟨rc_blind, rr_pre (rs_nil hP) (rs_nilD hD) hK hN (by omega) [] rfl rfl [0] rfl⟩ rfl rfl hl.1 rfl (lv_room (Nat.le_of_ble_eq_true rfl)) d_O_clear_17 ⟨Nat.zero_le _, Nat.zero_le _⟩) (rs_nil hP) (rs_nilD hD) hS (by omega) [] rfl (fun _ => rfl) (fun u3 H locs hw3 hP hD hS => ?_)
      have hP := rs_nilR hP
      have hD := rs_nilRD hD
      have hP : va_P D vC ([(h, rO od fa ot ah te id rt bs kn), (fa, go cO 4 fr), (ah, ka cJ 13 a)] ++ gs 4 fr cJ 5 (va_up (clF F k) k (kfl ((clF F k) k) 0 5))) H := hP
      have hD : va_D A ([(h, rO od fa ot ah te id rt bs kn), (fa, go cO 4 fr), (ah, ka cJ 13 a)] ++ gs 4 fr cJ 5 (va_up (clF F k) k (kfl ((clF F k) k) 0 5))) := hD
      refine lv_iinc (v := iz ((k : Int) + 1)) (lv' := [(1, .int (iz ((k : Int) + 1))), (0, .ref h)]) hx hb d_O_clear_20 hl (k := 0) rfl (iz_add _ _) (by decide) rfl (fun ls hl => ?_)
      refine lv_goto (tgt := 2) hx hb d_O_clear_23 (by decide) ?_
      exact ih (k + 1) _ H locs ls (by omega) (by omega) hP hD hS (lv_sub hl [0, 1] rfl)
def ws_O_clear : List Cond := .code y_O_clear c_O_clear 2 none :: kb
set_option maxHeartbeats 4000000 in
set_option maxRecDepth 100000 in
/-- all 0 -/
theorem m_O_clear (l : Launch) (D : va_G) (cJ cO : ClassId) (h fa ot ah te id rt bs : Nat) (od kn : Int) (fr : Nat → Nat) (F : Nat → Nat → ro_K) (a : Nat → ro_K) (o : Nat) (hod : od = (o : Int)) (ho3 : o ≤ 3) : Met l y_O_clear ws_O_clear ({ frames := 1, cells := 0, slots := 0, locals := 24 }) (rc_Pc D vC [(cJ, .long), (cO, .array .long)] [.ref h] ([(h, rO od fa ot ah te id rt bs kn), (fa, go cO 4 fr), (ah, ka cJ 13 a)] ++ gs 4 fr cJ 5 F)) (va_Qv (fun (_ : Unit) => True) (fun _ t => va_P D vC ([(h, rO od fa ot ah te id rt bs 0), (fa, go cO 4 fr), (ah, ka cJ 13 (kfl a 0 13))] ++ gs 4 fr cJ 5 (clF F (o + 1))) t.heap) (rc_A ([(h, rO od fa ot ah te id rt bs kn), (fa, go cO 4 fr), (ah, ka cJ 13 a)] ++ gs 4 fr cJ 5 F))) 0 0 (rc_A ([(h, rO od fa ot ah te id rt bs kn), (fa, go cO 4 fr), (ah, ka cJ 13 a)] ++ gs 4 fr cJ 5 F)) := by
  refine Met.ofW (cc := c_O_clear) (maxL := 2) (ret := none) (by decide) rfl ?_
  intro p e s m args below meth c s₁ B hml hv
  obtain ⟨rfl, hP, hK, hD0, hN⟩ := hv
  have hx := B.exec
  have hb := B.bytes
  have hr := B.returns
  have hts0 := atoms_spec (ws := ws_O_clear) B.pre
  have hts : ∀ w ∈ kb, w.before _ s = true := fun w h => hts0 w (List.mem_cons_of_mem _ h)
  have hown : s.vm.findClass R_O = some m.cls := findClass_of_methodNamed B.named
  have hlocks := B.notSynchronized
  have hD := rc_self hD0
  generalize hAe : rc_A ([(h, rO od fa ot ah te id rt bs kn), (fa, go cO 4 fr), (ah, ka cJ 13 a)] ++ gs 4 fr cJ 5 F) = A at hD ⊢
  have hS : va_S A s.heap s.heap [] := va_S.rf
  have hl := lv_entry ([.ref h]) (n := 2) (Nat.le_of_ble_eq_true rfl)
  rw [lg_entry_eq]
  generalize (lg_sl ([.ref h]) ++ List.replicate (2 - (lg_sl ([.ref h])).length) Slot.unset).toArray = ls at hl ⊢

  have hl : lv_has ls 2 [(0, .ref h)] := hl
  refine rz_iconst hx hb d_O_clear_0 ?_
  refine lv_istore_n (lv' := [(1, .int (iz 0)), (0, .ref h)]) hx hb d_O_clear_1 rfl hl (by decide) rfl (fun ls hl => ?_)
  refine lo_O_clear (F := F) (a := a) hod ho3 hx hb hml hown hts hK hN ⟨Nat.le_of_ble_eq_true rfl, Nat.le_of_ble_eq_true rfl⟩ (fun H locs ls hP hD hS hl => ?_) (o + 1) 0 _ _ _ ls rfl (by omega) hP hD hS (lv_sub hl [0, 1] rfl)
  refine lv_aload_n hx hb d_O_clear_26 rfl (lv_at hl 0 rfl) ?_
  refine va_get (D := D) (ci := 2) (v := .ref ah) (C := R_O) (T := T_O) (N := 9) hx hb hts in_O hown hK hP 0 rfl rfl 3 (by decide) (hts _ kw_86) (fun _ h9 => h9) rfl d_O_clear_27 ?_
  refine lv_lconst (v := lk 0) hx hb d_O_clear_30 rfl ?_
  refine rc_callv (va_runS (As := [.ref ah, .long (lk 0)]) (rest := []) ⟨hx, hb, hml, hown, hts⟩ (m_J_fill l D cJ ah 13 a 0 (by omega)) (va_cwS 2 hts (kb_gi (kb_c kw_210 (kb_c kw_173 (kb_c kw_12 (kb_c kw_174 kb_all))))) rfl rfl rfl (by decide +kernel) ⟨Nat.le_of_ble_eq_true rfl, Nat.le_of_ble_eq_true rfl⟩) ⟨rc_blind, rc_pre hP hD hK hN [2] rfl rfl [0] rfl⟩ rfl rfl hl.1 rfl (lv_room (Nat.le_of_ble_eq_true rfl)) d_O_clear_31 ⟨Nat.zero_le _, Nat.zero_le _⟩) hP hD hS [2] rfl (fun _ => rfl) (fun u1 H locs hw1 hP hD hS => ?_)
  have hP : va_P D vC ([(h, rO od fa ot ah te id rt bs kn), (fa, go cO 4 fr), (ah, ka cJ 13 (kfl a 0 13))] ++ gs 4 fr cJ 5 (clF F (o + 1))) H := hP
  have hD : va_D A ([(h, rO od fa ot ah te id rt bs kn), (fa, go cO 4 fr), (ah, ka cJ 13 (kfl a 0 13))] ++ gs 4 fr cJ 5 (clF F (o + 1))) := hD
  refine lv_aload_n hx hb d_O_clear_34 rfl (lv_at hl 0 rfl) ?_
  refine rz_iconst hx hb d_O_clear_35 ?_
  refine va_put (D := D) (ci := 2) (v := .int (iz 0)) (ty := .boolean) (C := R_O) (T := T_O) (N := 9) hx hb hts in_O ty_O tk_O nm_O hown hK hP hD hS 0 rfl rfl 8 (by decide) (hts _ kw_91) (fun _ h9 => h9) rfl (by decide +kernel) rfl rfl (Nat.le_of_ble_eq_true rfl) d_O_clear_36 (fun H locs hP hD hS => ?_)
  have hP : va_P D vC ([(h, rO od fa ot ah te id rt bs 0), (fa, go cO 4 fr), (ah, ka cJ 13 (kfl a 0 13))] ++ gs 4 fr cJ 5 (clF F (o + 1))) H := hP
  have hD : va_D A ([(h, rO od fa ot ah te id rt bs 0), (fa, go cO 4 fr), (ah, ka cJ 13 (kfl a 0 13))] ++ gs 4 fr cJ 5 (clF F (o + 1))) := hD
  exact W.vret hx hb hr (fun t ht hW => ⟨⟨(), rfl, trivial, rc_out ht hP⟩, hS.F ht⟩) hS.2.2 d_O_clear_39
theorem azB_false {F : Nat → Nat → ro_K} {k : Nat} (h : azB F k = false) : ∀ d, azB F (k + d) = false
  | 0 => h
  | d + 1 => by
    show (azB F (k + d) && _) = false
    rw [azB_false h d]
    rfl
set_option maxHeartbeats 4000000 in
set_option maxRecDepth 100000 in
theorem lo_O_allZero {cJ cO : ClassId} {h fa ot ah te id rt bs : Nat} {od kn : Int} {o : Nat} (hod : od = (o : Int)) (ho3 : o ≤ 3) {fr : Nat → Nat} {F : Nat → Nat → ro_K} (hx : p.tables.exec = Jvm.exec) (hb : c.code = c_O_allZero) (hml : c.maxLocals = 2) (hown : s.vm.findClass R_O = some m.cls) (hts : ∀ w ∈ kb, w.before args s = true) (hK : va_K D vC [(cJ, .long), (cO, .array .long)] s) (hN : rc_N s) (hR : 2 ≤ R.frames ∧ 41 ≤ R.locals) (hf : ∀ (H : Heap) (locs : List Loc) (ls : Array Slot), azB F (o + 1) = false → va_P D vC ([(h, rO od fa ot ah te id rt bs kn), (fa, go cO 4 fr)] ++ gs 4 fr cJ 5 F) H → va_D A ([(h, rO od fa ot ah te id rt bs kn), (fa, go cO 4 fr)] ++ gs 4 fr cJ 5 F) → va_S A H0 H locs → W p l e R s m args below meth c H locs 0 0 Q (F0 m 22 ls [])) (ht : ∀ (H : Heap) (locs : List Loc) (ls : Array Slot), azB F (o + 1) = true → va_P D vC ([(h, rO od fa ot ah te id rt bs kn), (fa, go cO 4 fr)] ++ gs 4 fr cJ 5 F) H → va_D A ([(h, rO od fa ot ah te id rt bs kn), (fa, go cO 4 fr)] ++ gs 4 fr cJ 5 F) → va_S A H0 H locs → W p l e R s m args below meth c H locs 0 0 Q (F0 m 30 ls [])) : ∀ (q k : Nat) (z : Int) (H : Heap) (locs : List Loc) (ls : Array Slot), z = (k : Int) → k + q = o + 1 → azB F k = true → va_P D vC ([(h, rO od fa ot ah te id rt bs kn), (fa, go cO 4 fr)] ++ gs 4 fr cJ 5 F) H → va_D A ([(h, rO od fa ot ah te id rt bs kn), (fa, go cO 4 fr)] ++ gs 4 fr cJ 5 F) → va_S A H0 H locs → lv_has ls 2 [(1, .int (iz z)), (0, .ref h)] → W p l e R s m args below meth c H locs 0 0 Q (F0 m 2 ls []) := by
  intro q
  induction q with
  | zero =>
    intro k z H locs ls hz hk ha hP hD hS hl
    have e : k = o + 1 := hk
    subst e
    refine lv_iload_n hx hb d_O_allZero_2 rfl (lv_at hl 0 rfl) ?_
    refine lv_aload_n hx hb d_O_allZero_3 rfl (lv_at hl 1 rfl) ?_
    refine va_get (D := D) (ci := 2) (v := .int (iz od)) (C := R_O) (T := T_O) (N := 9) hx hb hts in_O hown hK hP 0 rfl rfl 0 (by decide) (hts _ kw_83) (fun _ h9 => h9) rfl d_O_allZero_4 ?_
    refine rz_icmp_gt (tgt := 30) hx hb d_O_allZero_7 (by decide) (fun hc1 => ?_) (fun hc1 => ?_)
    · exact ht H locs ls ha hP hD hS
    · omega
  | succ q ih =>
    intro k z H locs ls hz hk ha hP hD hS hl
    subst hz
    have hs1 : azB F (k + 1) = (azB F k && decide (kd (F k) 5 < 0)) := rfl
    refine lv_iload_n hx hb d_O_allZero_2 rfl (lv_at hl 0 rfl) ?_
    refine lv_aload_n hx hb d_O_allZero_3 rfl (lv_at hl 1 rfl) ?_
    refine va_get (D := D) (ci := 2) (v := .int (iz od)) (C := R_O) (T := T_O) (N := 9) hx hb hts in_O hown hK hP 0 rfl rfl 0 (by decide) (hts _ kw_83) (fun _ h9 => h9) rfl d_O_allZero_4 ?_
    refine rz_icmp_gt (tgt := 30) hx hb d_O_allZero_7 (by decide) (fun hc2 => ?_) (fun hc2 => ?_)
    · omega
    · refine lv_aload_n hx hb d_O_allZero_10 rfl (lv_at hl 1 rfl) ?_
      refine va_get (D := D) (ci := 2) (v := .ref fa) (C := R_O) (T := T_O) (N := 9) hx hb hts in_O hown hK hP 0 rfl rfl 1 (by decide) (hts _ kw_84) (fun _ h9 => h9) rfl d_O_allZero_11 ?_
      refine lv_iload_n hx hb d_O_allZero_14 rfl (lv_at hl 0 rfl) ?_
      refine rg_ald hx hb hK hP 1 1 rfl rfl k d_O_allZero_15 ?_
      refine rr_calli (va_runS (As := [.ref (fr k)]) (rest := []) ⟨hx, hb, hml, hown, hts⟩ (m_O_isZero l D cJ (fr k) 5 (F k) (by omega)) (cwS 1 hts (kb_gi (kb_c kw_325 (kb_c kw_326 (kb_c kw_1 (kb_c kw_327 kb_all))))) rfl rfl rfl (by decide +kernel) ⟨Nat.le_trans (by decide) hR.1, Nat.le_trans (by decide) hR.2⟩) ⟨rc_blind, rr_pre (rs_nil hP) (rs_nilD hD) hK hN (by omega) [] rfl rfl [0] rfl⟩ rfl rfl hl.1 rfl (lv_room (Nat.le_of_ble_eq_true rfl)) d_O_allZero_16 ⟨Nat.zero_le _, Nat.zero_le _⟩) (rs_nil hP) (rs_nilD hD) hS (by omega) [] rfl (fun _ => rfl) (fun r3 u4 H locs hw4 hP hD hS => ?_)
      have hP := rs_nilR hP
      have hD := rs_nilRD hD
      subst hw4
      rw [va_up_id] at hP hD
      have hP : va_P D vC ([(h, rO od fa ot ah te id rt bs kn), (fa, go cO 4 fr)] ++ gs 4 fr cJ 5 F) H := hP
      have hD : va_D A ([(h, rO od fa ot ah te id rt bs kn), (fa, go cO 4 fr)] ++ gs 4 fr cJ 5 F) := hD
      by_cases hz0 : kd (F k) 5 < 0
      · rw [if_pos hz0]
        refine rz_if_ne (tgt := 24) hx hb d_O_allZero_19 (by decide) (fun hc => ?_) (fun hc => absurd hc (by decide))
        refine lv_iinc (v := iz ((k : Int) + 1)) (lv' := [(1, .int (iz ((k : Int) + 1))), (0, .ref h)]) hx hb d_O_allZero_24 hl (k := 0) rfl (iz_add _ _) (by decide) rfl (fun ls hl => ?_)
        refine lv_goto (tgt := 2) hx hb d_O_allZero_27 (by decide) ?_
        exact ih (k + 1) _ H locs ls (by omega) (by omega) (by rw [hs1, ha, decide_eq_true hz0]; rfl) hP hD hS (lv_sub hl [0, 1] rfl)
      · rw [if_neg hz0]
        refine rz_if_ne (tgt := 24) hx hb d_O_allZero_19 (by decide) (fun hc => absurd rfl hc) (fun hc => ?_)
        have hF : azB F (k + 1) = false := by rw [hs1, decide_eq_false hz0, Bool.and_false]
        have hF2 := azB_false hF q
        rw [show k + 1 + q = o + 1 by omega] at hF2
        exact hf H locs ls hF2 hP hD hS
def ws_O_allZero : List Cond := .code y_O_allZero c_O_allZero 2 (some .boolean) :: kb
set_option maxHeartbeats 4000000 in
set_option maxRecDepth 100000 in
/-- are all factors 0 -/
theorem m_O_allZero (l : Launch) (D : va_G) (cJ cO : ClassId) (h fa ot ah te id rt bs : Nat) (od kn : Int) (fr : Nat → Nat) (F : Nat → Nat → ro_K) (o : Nat) (hod : od = (o : Int)) (ho3 : o ≤ 3) : Met l y_O_allZero ws_O_allZero ({ frames := 2, cells := 0, slots := 0, locals := 41 }) (rc_Pc D vC [(cJ, .long), (cO, .array .long)] [.ref h] ([(h, rO od fa ot ah te id rt bs kn), (fa, go cO 4 fr)] ++ gs 4 fr cJ 5 F)) (va_Qi (fun (q : Int32) (_ : Unit) => q = if azB F (o + 1) = true then iz 1 else iz 0) (fun _ t => va_P D vC ([(h, rO od fa ot ah te id rt bs kn), (fa, go cO 4 fr)] ++ gs 4 fr cJ 5 F) t.heap) (rc_A ([(h, rO od fa ot ah te id rt bs kn), (fa, go cO 4 fr)] ++ gs 4 fr cJ 5 F))) 0 0 (rc_A ([(h, rO od fa ot ah te id rt bs kn), (fa, go cO 4 fr)] ++ gs 4 fr cJ 5 F)) := by
  refine Met.ofW (cc := c_O_allZero) (maxL := 2) (ret := (some .boolean)) (by decide) rfl ?_
  intro p e s m args below meth c s₁ B hml hv
  obtain ⟨rfl, hP, hK, hD0, hN⟩ := hv
  have hx := B.exec
  have hb := B.bytes
  have hr := B.returns
  have hts0 := atoms_spec (ws := ws_O_allZero) B.pre
  have hts : ∀ w ∈ kb, w.before _ s = true := fun w h => hts0 w (List.mem_cons_of_mem _ h)
  have hown : s.vm.findClass R_O = some m.cls := findClass_of_methodNamed B.named
  have hlocks := B.notSynchronized
  have hD := rc_self hD0
  generalize hAe : rc_A ([(h, rO od fa ot ah te id rt bs kn), (fa, go cO 4 fr)] ++ gs 4 fr cJ 5 F) = A at hD ⊢
  have hS : va_S A s.heap s.heap [] := va_S.rf
  have hl := lv_entry ([.ref h]) (n := 2) (Nat.le_of_ble_eq_true rfl)
  rw [lg_entry_eq]
  generalize (lg_sl ([.ref h]) ++ List.replicate (2 - (lg_sl ([.ref h])).length) Slot.unset).toArray = ls at hl ⊢

  have hl : lv_has ls 2 [(0, .ref h)] := hl
  refine rz_iconst hx hb d_O_allZero_0 ?_
  refine lv_istore_n (lv' := [(1, .int (iz 0)), (0, .ref h)]) hx hb d_O_allZero_1 rfl hl (by decide) rfl (fun ls hl => ?_)
  refine lo_O_allZero (F := F) hod ho3 hx hb hml hown hts hK hN ⟨Nat.le_of_ble_eq_true rfl, Nat.le_of_ble_eq_true rfl⟩ (fun H locs ls hv hP hD hS => ?_) (fun H locs ls hv hP hD hS => ?_) (o + 1) 0 _ _ _ ls rfl (by omega) rfl hP hD hS (lv_sub hl [0, 1] rfl)
  · refine rz_iconst hx hb d_O_allZero_22 ?_
    exact W.zret hx hb hr rfl (fun t ht hW => ⟨⟨_, (), rfl, (by rw [hv]; rfl), rc_out ht hP⟩, hS.F ht⟩) hS.2.2 d_O_allZero_23
  · refine rz_iconst hx hb d_O_allZero_30 ?_
    exact W.zret hx hb hr rfl (fun t ht hW => ⟨⟨_, (), rfl, (by rw [hv]; rfl), rc_out ht hP⟩, hS.F ht⟩) hS.2.2 d_O_allZero_31
set_option maxHeartbeats 4000000 in
set_option maxRecDepth 100000 in
theorem li_O_turn {cJ cO : ClassId} {h fa ot ah te id rt bs : Nat} {od kn : Int} {o : Nat} (hod : od = (o : Int)) (ho3 : o ≤ 3) {ct : Nat} {fr er : Nat → Nat} {E F : Nat → Nat → ro_K} {j : Nat} {zj : Int} (hzj : zj = (j : Int)) (hj : j ≤ o) (hx : p.tables.exec = Jvm.exec) (hb : c.code = c_O_turn) (hml : c.maxLocals = 3) (hown : s.vm.findClass R_O = some m.cls) (hts : ∀ w ∈ kb, w.before args s = true) (hK : va_K D vC [(cJ, .long), (cO, .array .long)] s) (hN : rc_N s) (hC : rz_C ct A s s.heap) (hR : 2 ≤ R.frames ∧ 52 ≤ R.locals) (hend : ∀ (H : Heap) (locs : List Loc) (ls : Array Slot), va_P D vC (([(h, rO od fa ot ah te id rt bs kn), (fa, go cO 4 fr), (ot, go cO 4 er)] ++ gs 4 er cJ 5 (tuR F o E j 5)) ++ gs 4 fr cJ 5 F) H → va_D A (([(h, rO od fa ot ah te id rt bs kn), (fa, go cO 4 fr), (ot, go cO 4 er)] ++ gs 4 er cJ 5 (tuR F o E j 5)) ++ gs 4 fr cJ 5 F) → va_S A s.heap H locs → lv_has ls 3 [(1, .int (iz zj)), (0, .ref h)] → W p l e R s m args below meth c H locs 0 0 Q (F0 m 37 ls [])) : ∀ (q k : Nat) (z : Int) (H : Heap) (locs : List Loc) (ls : Array Slot), z = (k : Int) → k + q = 5 → va_P D vC (([(h, rO od fa ot ah te id rt bs kn), (fa, go cO 4 fr), (ot, go cO 4 er)] ++ gs 4 er cJ 5 (tuR F o E j k)) ++ gs 4 fr cJ 5 F) H → va_D A (([(h, rO od fa ot ah te id rt bs kn), (fa, go cO 4 fr), (ot, go cO 4 er)] ++ gs 4 er cJ 5 (tuR F o E j k)) ++ gs 4 fr cJ 5 F) → va_S A s.heap H locs → lv_has ls 3 [(2, .int (iz z)), (1, .int (iz zj)), (0, .ref h)] → W p l e R s m args below meth c H locs 0 0 Q (F0 m 12 ls []) := by
  intro q
  induction q with
  | zero =>
    intro k z H locs ls hz hk hP hD hS hl
    have e : k = 5 := hk
    subst e
    refine lv_iload_n hx hb d_O_turn_12 rfl (lv_at hl 0 rfl) ?_
    refine rz_iconst hx hb d_O_turn_13 ?_
    refine rz_icmp_ge (tgt := 37) hx hb d_O_turn_14 (by decide) (fun hc1 => ?_) (fun hc1 => ?_)
    · exact hend H locs ls hP hD hS (lv_sub hl [1, 2] rfl)
    · omega
  | succ q ih =>
    intro k z H locs ls hz hk hP hD hS hl
    subst hz
    refine lv_iload_n hx hb d_O_turn_12 rfl (lv_at hl 0 rfl) ?_
    refine rz_iconst hx hb d_O_turn_13 ?_
    refine rz_icmp_ge (tgt := 37) hx hb d_O_turn_14 (by decide) (fun hc2 => ?_) (fun hc2 => ?_)
    · omega
    · refine lv_aload_n hx hb d_O_turn_17 rfl (lv_at hl 2 rfl) ?_
      refine va_get (D := D) (ci := 2) (v := .ref ot) (C := R_O) (T := T_O) (N := 9) hx hb hts in_O hown hK hP 0 rfl rfl 2 (by decide) (hts _ kw_85) (fun _ h9 => h9) rfl d_O_turn_18 ?_
      refine lv_iload_n hx hb d_O_turn_21 rfl (lv_at hl 1 rfl) ?_
      refine rg_ald hx hb hK hP 2 1 rfl rfl j d_O_turn_22 ?_
      refine lv_iload_n hx hb d_O_turn_23 rfl (lv_at hl 0 rfl) ?_
      refine lv_aload_n hx hb d_O_turn_24 rfl (lv_at hl 2 rfl) ?_
      refine lv_iload_n hx hb d_O_turn_25 rfl (lv_at hl 1 rfl) ?_
      refine lv_iload_n hx hb d_O_turn_26 rfl (lv_at hl 0 rfl) ?_
      refine rs_calll (va_runV (As := [.int (iz zj), .int (iz (k : Int))]) (rest := [.int (iz (k : Int)), .ref (er j)]) ⟨hx, hb, hml, hown, hts⟩ (m_O_adjointAt l D cJ cO h fa ot ah te id rt bs od kn ct fr F j k o zj (k : Int) hod ho3 hzj rfl hj (by omega)) (cwV 2 hts (kb_gi (kb_c kw_187 (kb_c kw_189 (kb_c ks_O_adjointAt (kb_c kw_1 (kb_c kw_190 kb_all)))))) rfl rfl rfl (by decide +kernel) ⟨Nat.le_trans (by decide) hR.1, Nat.le_trans (by decide) hR.2⟩) ⟨rz_blind, va_recv hK hP (ci := 2) (q0 := 0) rfl rfl, fun U h8 h9 => ⟨(rs_pre (Y := []) (rs_nil hP) (rs_nilD hD) hK hN [0, 1] rfl rfl [0, 1] rfl) U h8 h9, rz_go hC hS (rs_in (rs_nilD hD) (is := [0, 1]) rfl) h8 h9⟩⟩ rfl rfl hl.1 rfl (lv_room (Nat.le_of_ble_eq_true rfl)) d_O_turn_27 ⟨Nat.zero_le _, Nat.zero_le _⟩) hP hD hS [0, 1] rfl (fun _ => rfl) (fun _ => gs_adr _ _ _ _ _ _) (fun r3 u4 H locs hw4 hP hD hS => ?_)
      subst hw4
      have hP : va_P D vC (([(h, rO od fa ot ah te id rt bs kn), (fa, go cO 4 fr), (ot, go cO 4 er)] ++ gs 4 er cJ 5 (tuR F o E j k)) ++ gs 4 fr cJ 5 F) H := hP
      have hD : va_D A (([(h, rO od fa ot ah te id rt bs kn), (fa, go cO 4 fr), (ot, go cO 4 er)] ++ gs 4 er cJ 5 (tuR F o E j k)) ++ gs 4 fr cJ 5 F) := hD
      refine rg_stT hx hb hK hP hD hS 0 rfl j k d_O_turn_30 (fun H locs hP hD hS => ?_)
      have hP : va_P D vC (([(h, rO od fa ot ah te id rt bs kn), (fa, go cO 4 fr), (ot, go cO 4 er)] ++ gs 4 er cJ 5 (up2 (tuR F o E j k) j k (adS F j k (o + 1 - j)))) ++ gs 4 fr cJ 5 F) H := hP
      have hD : va_D A (([(h, rO od fa ot ah te id rt bs kn), (fa, go cO 4 fr), (ot, go cO 4 er)] ++ gs 4 er cJ 5 (up2 (tuR F o E j k) j k (adS F j k (o + 1 - j)))) ++ gs 4 fr cJ 5 F) := hD
      refine lv_iinc (v := iz ((k : Int) + 1)) (lv' := [(2, .int (iz ((k : Int) + 1))), (1, .int (iz zj)), (0, .ref h)]) hx hb d_O_turn_31 hl (k := 0) rfl (iz_add _ _) (by decide) rfl (fun ls hl => ?_)
      refine lv_goto (tgt := 12) hx hb d_O_turn_34 (by decide) ?_
      exact ih (k + 1) _ H locs ls (by omega) (by omega) hP hD hS (lv_sub hl [0, 1, 2] rfl)
set_option maxHeartbeats 4000000 in
set_option maxRecDepth 100000 in
theorem lo_O_turn_a {cJ cO : ClassId} {h fa ot ah te id rt bs : Nat} {od kn : Int} {o : Nat} (hod : od = (o : Int)) (ho3 : o ≤ 3) {ct : Nat} {fr er : Nat → Nat} {E F : Nat → Nat → ro_K} (hx : p.tables.exec = Jvm.exec) (hb : c.code = c_O_turn) (hml : c.maxLocals = 3) (hown : s.vm.findClass R_O = some m.cls) (hts : ∀ w ∈ kb, w.before args s = true) (hK : va_K D vC [(cJ, .long), (cO, .array .long)] s) (hN : rc_N s) (hC : rz_C ct A s s.heap) (hR : 2 ≤ R.frames ∧ 52 ≤ R.locals) (hend : ∀ (H : Heap) (locs : List Loc) (ls : Array Slot), va_P D vC (([(h, rO od fa ot ah te id rt bs kn), (fa, go cO 4 fr), (ot, go cO 4 er)] ++ gs 4 er cJ 5 (tuE F o E (o + 1))) ++ gs 4 fr cJ 5 F) H → va_D A (([(h, rO od fa ot ah te id rt bs kn), (fa, go cO 4 fr), (ot, go cO 4 er)] ++ gs 4 er cJ 5 (tuE F o E (o + 1))) ++ gs 4 fr cJ 5 F) → va_S A s.heap H locs → lv_has ls 3 [(0, .ref h)] → W p l e R s m args below meth c H locs 0 0 Q (F0 m 43 ls [])) : ∀ (q k : Nat) (z : Int) (H : Heap) (locs : List Loc) (ls : Array Slot), z = (k : Int) → k + q = o + 1 → va_P D vC (([(h, rO od fa ot ah te id rt bs kn), (fa, go cO 4 fr), (ot, go cO 4 er)] ++ gs 4 er cJ 5 (tuE F o E k)) ++ gs 4 fr cJ 5 F) H → va_D A (([(h, rO od fa ot ah te id rt bs kn), (fa, go cO 4 fr), (ot, go cO 4 er)] ++ gs 4 er cJ 5 (tuE F o E k)) ++ gs 4 fr cJ 5 F) → va_S A s.heap H locs → lv_has ls 3 [(1, .int (iz z)), (0, .ref h)] → W p l e R s m args below meth c H locs 0 0 Q (F0 m 2 ls []) := by
  intro q
  induction q with
  | zero =>
    intro k z H locs ls hz hk hP hD hS hl
    have e : k = o + 1 := hk
    subst e
    refine lv_iload_n hx hb d_O_turn_2 rfl (lv_at hl 0 rfl) ?_
    refine lv_aload_n hx hb d_O_turn_3 rfl (lv_at hl 1 rfl) ?_
    refine va_get (D := D) (ci := 2) (v := .int (iz od)) (C := R_O) (T := T_O) (N := 9) hx hb hts in_O hown hK hP 0 rfl rfl 0 (by decide) (hts _ kw_83) (fun _ h9 => h9) rfl d_O_turn_4 ?_
    refine rz_icmp_gt (tgt := 43) hx hb d_O_turn_7 (by decide) (fun hc1 => ?_) (fun hc1 => ?_)
    · exact hend H locs ls hP hD hS (lv_sub hl [1] rfl)
    · omega
  | succ q ih =>
    intro k z H locs ls hz hk hP hD hS hl
    subst hz
    refine lv_iload_n hx hb d_O_turn_2 rfl (lv_at hl 0 rfl) ?_
    refine lv_aload_n hx hb d_O_turn_3 rfl (lv_at hl 1 rfl) ?_
    refine va_get (D := D) (ci := 2) (v := .int (iz od)) (C := R_O) (T := T_O) (N := 9) hx hb hts in_O hown hK hP 0 rfl rfl 0 (by decide) (hts _ kw_83) (fun _ h9 => h9) rfl d_O_turn_4 ?_
    refine rz_icmp_gt (tgt := 43) hx hb d_O_turn_7 (by decide) (fun hc2 => ?_) (fun hc2 => ?_)
    · omega
    · refine rz_iconst hx hb d_O_turn_10 ?_
      refine lv_istore_n (lv' := [(2, .int (iz 0)), (1, .int (iz (k : Int))), (0, .ref h)]) hx hb d_O_turn_11 rfl hl (by decide) rfl (fun ls hl => ?_)
      refine li_O_turn (F := F) (E := tuE F o E k) hod ho3 (j := k) rfl (by omega) hx hb hml hown hts hK hN hC hR (fun H locs ls hP hD hS hl => ?_) 5 0 _ H locs ls rfl (by omega) hP hD hS (lv_sub hl [0, 1, 2] rfl)
      have hP : va_P D vC (([(h, rO od fa ot ah te id rt bs kn), (fa, go cO 4 fr), (ot, go cO 4 er)] ++ gs 4 er cJ 5 (tuE F o E (k + 1))) ++ gs 4 fr cJ 5 F) H := hP
      have hD : va_D A (([(h, rO od fa ot ah te id rt bs kn), (fa, go cO 4 fr), (ot, go cO 4 er)] ++ gs 4 er cJ 5 (tuE F o E (k + 1))) ++ gs 4 fr cJ 5 F) := hD
      refine lv_iinc (v := iz ((k : Int) + 1)) (lv' := [(1, .int (iz ((k : Int) + 1))), (0, .ref h)]) hx hb d_O_turn_37 hl (k := 0) rfl (iz_add _ _) (by decide) rfl (fun ls hl => ?_)
      refine lv_goto (tgt := 2) hx hb d_O_turn_40 (by decide) ?_
      exact ih (k + 1) _ H locs ls (by omega) (by omega) hP hD hS (lv_sub hl [0, 1] rfl)
set_option maxHeartbeats 4000000 in
set_option maxRecDepth 100000 in
theorem lo_O_turn_b {cJ cO : ClassId} {h fa ot ah te id rt bs : Nat} {od kn : Int} {o : Nat} (hod : od = (o : Int)) (ho3 : o ≤ 3) {fr er : Nat → Nat} {E F : Nat → Nat → ro_K} (hx : p.tables.exec = Jvm.exec) (hb : c.code = c_O_turn) (hml : c.maxLocals = 3) (hown : s.vm.findClass R_O = some m.cls) (hts : ∀ w ∈ kb, w.before args s = true) (hK : va_K D vC [(cJ, .long), (cO, .array .long)] s) (hN : rc_N s)  (hR : 2 ≤ R.frames ∧ 52 ≤ R.locals) (hend : ∀ (H : Heap) (locs : List Loc) (ls : Array Slot), va_P D vC (([(h, rO od fa ot ah te id rt bs kn), (fa, go cO 4 fr), (ot, go cO 4 er)] ++ gs 4 er cJ 5 E) ++ gs 4 fr cJ 5 (cpF E F (o + 1))) H → va_D A (([(h, rO od fa ot ah te id rt bs kn), (fa, go cO 4 fr), (ot, go cO 4 er)] ++ gs 4 er cJ 5 E) ++ gs 4 fr cJ 5 (cpF E F (o + 1))) → va_S A H0 H locs → lv_has ls 3 [(0, .ref h)] → W p l e R s m args below meth c H locs 0 0 Q (F0 m 77 ls [])) : ∀ (q k : Nat) (z : Int) (H : Heap) (locs : List Loc) (ls : Array Slot), z = (k : Int) → k + q = o + 1 → va_P D vC (([(h, rO od fa ot ah te id rt bs kn), (fa, go cO 4 fr), (ot, go cO 4 er)] ++ gs 4 er cJ 5 E) ++ gs 4 fr cJ 5 (cpF E F k)) H → va_D A (([(h, rO od fa ot ah te id rt bs kn), (fa, go cO 4 fr), (ot, go cO 4 er)] ++ gs 4 er cJ 5 E) ++ gs 4 fr cJ 5 (cpF E F k)) → va_S A H0 H locs → lv_has ls 3 [(1, .int (iz z)), (0, .ref h)] → W p l e R s m args below meth c H locs 0 0 Q (F0 m 45 ls []) := by
  intro q
  induction q with
  | zero =>
    intro k z H locs ls hz hk hP hD hS hl
    have e : k = o + 1 := hk
    subst e
    refine lv_iload_n hx hb d_O_turn_45 rfl (lv_at hl 0 rfl) ?_
    refine lv_aload_n hx hb d_O_turn_46 rfl (lv_at hl 1 rfl) ?_
    refine va_get (D := D) (ci := 2) (v := .int (iz od)) (C := R_O) (T := T_O) (N := 9) hx hb hts in_O hown hK hP 0 rfl rfl 0 (by decide) (hts _ kw_83) (fun _ h9 => h9) rfl d_O_turn_47 ?_
    refine rz_icmp_gt (tgt := 77) hx hb d_O_turn_50 (by decide) (fun hc1 => ?_) (fun hc1 => ?_)
    · exact hend H locs ls hP hD hS (lv_sub hl [1] rfl)
    · omega
  | succ q ih =>
    intro k z H locs ls hz hk hP hD hS hl
    subst hz
    refine lv_iload_n hx hb d_O_turn_45 rfl (lv_at hl 0 rfl) ?_
    refine lv_aload_n hx hb d_O_turn_46 rfl (lv_at hl 1 rfl) ?_
    refine va_get (D := D) (ci := 2) (v := .int (iz od)) (C := R_O) (T := T_O) (N := 9) hx hb hts in_O hown hK hP 0 rfl rfl 0 (by decide) (hts _ kw_83) (fun _ h9 => h9) rfl d_O_turn_47 ?_
    refine rz_icmp_gt (tgt := 77) hx hb d_O_turn_50 (by decide) (fun hc2 => ?_) (fun hc2 => ?_)
    · omega
    · refine lv_aload_n hx hb d_O_turn_53 rfl (lv_at hl 1 rfl) ?_
      refine va_get (D := D) (ci := 2) (v := .ref ot) (C := R_O) (T := T_O) (N := 9) hx hb hts in_O hown hK hP 0 rfl rfl 2 (by decide) (hts _ kw_85) (fun _ h9 => h9) rfl d_O_turn_54 ?_
      refine lv_iload_n hx hb d_O_turn_57 rfl (lv_at hl 0 rfl) ?_
      refine rg_ald hx hb hK hP 2 1 rfl rfl k d_O_turn_58 ?_
      refine rz_iconst hx hb d_O_turn_59 ?_
      refine lv_aload_n hx hb d_O_turn_60 rfl (lv_at hl 1 rfl) ?_
      refine va_get (D := D) (ci := 2) (v := .ref fa) (C := R_O) (T := T_O) (N := 9) hx hb hts in_O hown hK hP 0 rfl rfl 1 (by decide) (hts _ kw_84) (fun _ h9 => h9) rfl d_O_turn_61 ?_
      refine lv_iload_n hx hb d_O_turn_64 rfl (lv_at hl 0 rfl) ?_
      refine rg_ald hx hb hK hP 1 1 rfl rfl k d_O_turn_65 ?_
      refine rz_iconst hx hb d_O_turn_66 ?_
      refine rz_iconst hx hb d_O_turn_67 ?_
      refine rk_copy hx hb (hml.trans hl.1.symm) hown (hts _ kw_196) hts hK hP hD hS (3 + k) (7 + k) 0 (gs_get1 rfl (by omega)) (gs_get0 rfl (by omega)) rfl 5 (by omega) (by omega) (by omega) (Nat.le_trans (by decide) hR.1) (Nat.le_trans (by decide) hR.2) d_O_turn_68 (fun H locs hP hD hS => ?_)
      have hP := gs_uP0 hP
      have hD := gs_uD0 hD
      have hP : va_P D vC (([(h, rO od fa ot ah te id rt bs kn), (fa, go cO 4 fr), (ot, go cO 4 er)] ++ gs 4 er cJ 5 E) ++ gs 4 fr cJ 5 (va_up (cpF E F k) k (va_cpy (E k) ((cpF E F k) k) 0 0 5))) H := hP
      have hD : va_D A (([(h, rO od fa ot ah te id rt bs kn), (fa, go cO 4 fr), (ot, go cO 4 er)] ++ gs 4 er cJ 5 E) ++ gs 4 fr cJ 5 (va_up (cpF E F k) k (va_cpy (E k) ((cpF E F k) k) 0 0 5))) := hD
      refine lv_iinc (v := iz ((k : Int) + 1)) (lv' := [(1, .int (iz ((k : Int) + 1))), (0, .ref h)]) hx hb d_O_turn_71 hl (k := 0) rfl (iz_add _ _) (by decide) rfl (fun ls hl => ?_)
      refine lv_goto (tgt := 45) hx hb d_O_turn_74 (by decide) ?_
      exact ih (k + 1) _ H locs ls (by omega) (by omega) hP hD hS (lv_sub hl [0, 1] rfl)
def ws_O_turn : List Cond := .code y_O_turn c_O_turn 3 none :: kb
set_option maxHeartbeats 4000000 in
set_option maxRecDepth 100000 in
/-- the adjoint -/
theorem m_O_turn (l : Launch) (D : va_G) (cJ cO : ClassId) (h fa ot ah te id rt bs : Nat) (od kn : Int) (ct : Nat) (fr er : Nat → Nat) (E F : Nat → Nat → ro_K) (o : Nat) (hod : od = (o : Int)) (ho3 : o ≤ 3) : Met l y_O_turn ws_O_turn ({ frames := 2, cells := 0, slots := 0, locals := 52 }) (rc_Pz D vC [(cJ, .long), (cO, .array .long)] [.ref h] (([(h, rO od fa ot ah te id rt bs kn), (fa, go cO 4 fr), (ot, go cO 4 er)] ++ gs 4 er cJ 5 E) ++ gs 4 fr cJ 5 F) ct) (va_Qv (fun (_ : Unit) => True) (fun _ t => va_P D vC (([(h, rO od fa ot ah te id rt bs 0), (fa, go cO 4 fr), (ot, go cO 4 er)] ++ gs 4 er cJ 5 (tuE F o E (o + 1))) ++ gs 4 fr cJ 5 (cpF (tuE F o E (o + 1)) F (o + 1))) t.heap) (rc_A (([(h, rO od fa ot ah te id rt bs kn), (fa, go cO 4 fr), (ot, go cO 4 er)] ++ gs 4 er cJ 5 E) ++ gs 4 fr cJ 5 F))) 0 0 (rc_A (([(h, rO od fa ot ah te id rt bs kn), (fa, go cO 4 fr), (ot, go cO 4 er)] ++ gs 4 er cJ 5 E) ++ gs 4 fr cJ 5 F)) := by
  refine Met.ofW (cc := c_O_turn) (maxL := 3) (ret := none) (by decide) rfl ?_
  intro p e s m args below meth c s₁ B hml hv
  obtain ⟨⟨rfl, hP, hK, hD0, hN⟩, hC⟩ := hv
  have hx := B.exec
  have hb := B.bytes
  have hr := B.returns
  have hts0 := atoms_spec (ws := ws_O_turn) B.pre
  have hts : ∀ w ∈ kb, w.before _ s = true := fun w h => hts0 w (List.mem_cons_of_mem _ h)
  have hown : s.vm.findClass R_O = some m.cls := findClass_of_methodNamed B.named
  have hlocks := B.notSynchronized
  have hD := rc_self hD0
  generalize hAe : rc_A (([(h, rO od fa ot ah te id rt bs kn), (fa, go cO 4 fr), (ot, go cO 4 er)] ++ gs 4 er cJ 5 E) ++ gs 4 fr cJ 5 F) = A at hD hC ⊢
  have hS : va_S A s.heap s.heap [] := va_S.rf
  have hl := lv_entry ([.ref h]) (n := 3) (Nat.le_of_ble_eq_true rfl)
  rw [lg_entry_eq]
  generalize (lg_sl ([.ref h]) ++ List.replicate (3 - (lg_sl ([.ref h])).length) Slot.unset).toArray = ls at hl ⊢

  have hl : lv_has ls 3 [(0, .ref h)] := hl
  refine rz_iconst hx hb d_O_turn_0 ?_
  refine lv_istore_n (lv' := [(1, .int (iz 0)), (0, .ref h)]) hx hb d_O_turn_1 rfl hl (by decide) rfl (fun ls hl => ?_)
  refine lo_O_turn_a (F := F) (E := E) hod ho3 hx hb hml hown hts hK hN hC ⟨Nat.le_of_ble_eq_true rfl, Nat.le_of_ble_eq_true rfl⟩ (fun H locs ls hP hD hS hl => ?_) (o + 1) 0 _ _ _ ls rfl (by omega) hP hD hS (lv_sub hl [0, 1] rfl)
  refine rz_iconst hx hb d_O_turn_43 ?_
  refine lv_istore_n (lv' := [(1, .int (iz 0)), (0, .ref h)]) hx hb d_O_turn_44 rfl hl (by decide) rfl (fun ls hl => ?_)
  refine lo_O_turn_b (F := F) (E := tuE F o E (o + 1)) hod ho3 hx hb hml hown hts hK hN ⟨Nat.le_of_ble_eq_true rfl, Nat.le_of_ble_eq_true rfl⟩ (fun H locs ls hP hD hS hl => ?_) (o + 1) 0 _ _ _ ls rfl (by omega) hP hD hS (lv_sub hl [0, 1] rfl)
  refine lv_aload_n hx hb d_O_turn_77 rfl (lv_at hl 0 rfl) ?_
  refine rz_iconst hx hb d_O_turn_78 ?_
  refine va_put (D := D) (ci := 2) (v := .int (iz 0)) (ty := .boolean) (C := R_O) (T := T_O) (N := 9) hx hb hts in_O ty_O tk_O nm_O hown hK hP hD hS 0 rfl rfl 8 (by decide) (hts _ kw_91) (fun _ h9 => h9) rfl (by decide +kernel) rfl rfl (Nat.le_of_ble_eq_true rfl) d_O_turn_79 (fun H locs hP hD hS => ?_)
  have hP : va_P D vC (([(h, rO od fa ot ah te id rt bs 0), (fa, go cO 4 fr), (ot, go cO 4 er)] ++ gs 4 er cJ 5 (tuE F o E (o + 1))) ++ gs 4 fr cJ 5 (cpF (tuE F o E (o + 1)) F (o + 1))) H := hP
  have hD : va_D A (([(h, rO od fa ot ah te id rt bs 0), (fa, go cO 4 fr), (ot, go cO 4 er)] ++ gs 4 er cJ 5 (tuE F o E (o + 1))) ++ gs 4 fr cJ 5 (cpF (tuE F o E (o + 1)) F (o + 1))) := hD
  exact W.vret hx hb hr (fun t ht hW => ⟨⟨(), rfl, trivial, rc_out ht hP⟩, hS.F ht⟩) hS.2.2 d_O_turn_82
set_option maxHeartbeats 4000000 in
set_option maxRecDepth 100000 in
theorem m_O_turn_S (l : Launch) (D : va_G) (cJ cO : ClassId) (h fa ot ah te id rt bs : Nat) (od kn : Int) (ct : Nat) (fr er : Nat → Nat) (E F : Nat → Nat → ro_K) (o : Nat) (hod : od = (o : Int)) (ho3 : o ≤ 3) : Met l y_O_turn ws_O_turn ({ frames := 2, cells := 0, slots := 0, locals := 52 }) (rc_Pz D vC [(cJ, .long), (cO, .array .long)] [.ref h] ([(h, rO od fa ot ah te id rt bs kn), (fa, go cO 4 fr), (ot, go cO 4 er)] ++ (gs 4 er cJ 5 E ++ (gs 4 fr cJ 5 F))) ct) (va_Qv (fun (_ : Unit) => True) (fun _ t => va_P D vC ([(h, rO od fa ot ah te id rt bs 0), (fa, go cO 4 fr), (ot, go cO 4 er)] ++ (gs 4 er cJ 5 (tuE F o E (o + 1)) ++ (gs 4 fr cJ 5 (cpF (tuE F o E (o + 1)) F (o + 1))))) t.heap) (rc_A ([(h, rO od fa ot ah te id rt bs kn), (fa, go cO 4 fr), (ot, go cO 4 er)] ++ (gs 4 er cJ 5 E ++ (gs 4 fr cJ 5 F))))) 0 0 (rc_A ([(h, rO od fa ot ah te id rt bs kn), (fa, go cO 4 fr), (ot, go cO 4 er)] ++ (gs 4 er cJ 5 E ++ (gs 4 fr cJ 5 F)))) := m_O_turn l D cJ cO h fa ot ah te id rt bs od kn ct fr er E F o hod ho3

end WK
