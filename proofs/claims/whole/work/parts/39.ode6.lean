section WK
variable {p : Program} {l : Launch} {e : Env} {R : Room} {s : State} {m : MethodId} {args : Array Value} {below : List Frame} {meth : Method} {c : Code} {H : Heap} {locs : List Loc} {cells slots : Nat} {Q : State → Prop} {D : va_G} {A : Nat → Prop} {H0 : Heap}
set_option maxHeartbeats 4000000 in
set_option maxRecDepth 100000 in
theorem m_O_knowBase_S (l : Launch) (D : va_G) (cI : ClassId) (cJ cO : ClassId) (h fa ot ah te id rt bs : Nat) (od kn : Int) (ro le me : Nat) (bn : Int) (fr mb ra : Nat → Nat) (F Bm M : Nat → Nat → ro_K) (Lx : Nat → Int) (o : Nat) (hod : od = (o : Int)) (ho3 : o ≤ 3) (hkn : kn = 0 ∨ kn = 1) : Met l y_O_knowBase ws_O_knowBase ({ frames := 4, cells := 0, slots := 0, locals := 93 }) (rc_Pc D vC [(cJ, .long), (cO, .array .long), (cI, .int)] [.ref h] ([(h, rO od fa ot ah te id rt bs kn), (fa, go cO 4 fr), (bs, rB ro le me bn), (ro, go cO 17 ra), (le, ki cI 13 Lx), (me, go cO 13 mb)] ++ (gs 4 fr cJ 5 F ++ (gs 13 mb cJ 13 Bm ++ (gs 17 ra cJ 13 M))))) (va_Qv (fun (_ : Unit) => True) (fun _ t => va_P D vC ([(h, rO od fa ot ah te id rt bs 1), (fa, go cO 4 fr), (bs, rB ro le me (knD kn F o M Lx Bm bn).2.2.2), (ro, go cO 17 ra), (le, ki cI 13 (knD kn F o M Lx Bm bn).2.1), (me, go cO 13 mb)] ++ (gs 4 fr cJ 5 F ++ (gs 13 mb cJ 13 (knD kn F o M Lx Bm bn).2.2.1 ++ (gs 17 ra cJ 13 (knD kn F o M Lx Bm bn).1)))) t.heap) (rc_A ([(h, rO od fa ot ah te id rt bs kn), (fa, go cO 4 fr), (bs, rB ro le me bn), (ro, go cO 17 ra), (le, ki cI 13 Lx), (me, go cO 13 mb)] ++ (gs 4 fr cJ 5 F ++ (gs 13 mb cJ 13 Bm ++ (gs 17 ra cJ 13 M)))))) 0 0 (rc_A ([(h, rO od fa ot ah te id rt bs kn), (fa, go cO 4 fr), (bs, rB ro le me bn), (ro, go cO 17 ra), (le, ki cI 13 Lx), (me, go cO 13 mb)] ++ (gs 4 fr cJ 5 F ++ (gs 13 mb cJ 13 Bm ++ (gs 17 ra cJ 13 M))))) := m_O_knowBase l D cI cJ cO h fa ot ah te id rt bs od kn ro le me bn fr mb ra F Bm M Lx o hod ho3 hkn

def ws_O_answers : List Cond := .code y_O_answers c_O_answers 1 (some .int) :: kb
set_option maxHeartbeats 4000000 in
set_option maxRecDepth 100000 in
/-- answers -/
theorem m_O_answers (l : Launch) (D : va_G) (cI : ClassId) (cJ cO : ClassId) (h fa ot ah te id rt bs : Nat) (od kn : Int) (ro le me : Nat) (bn : Int) (fr mb ra : Nat → Nat) (F Bm M : Nat → Nat → ro_K) (Lx : Nat → Int) (o : Nat) (hod : od = (o : Int)) (ho3 : o ≤ 3) (hkn : kn = 0 ∨ kn = 1) : Met l y_O_answers ws_O_answers ({ frames := 5, cells := 0, slots := 0, locals := 115 }) (rc_Pc D vC [(cJ, .long), (cO, .array .long), (cI, .int)] [.ref h] ((([(h, rO od fa ot ah te id rt bs kn), (fa, go cO 4 fr), (bs, rB ro le me bn), (ro, go cO 17 ra), (le, ki cI 13 Lx), (me, go cO 13 mb)] ++ gs 4 fr cJ 5 F) ++ gs 13 mb cJ 13 Bm) ++ gs 17 ra cJ 13 M)) (va_Qi (fun (q : Int32) (_ : Unit) => q = iz (knD kn F o M Lx Bm bn).2.2.2) (fun _ t => va_P D vC ((([(h, rO od fa ot ah te id rt bs 1), (fa, go cO 4 fr), (bs, rB ro le me (knD kn F o M Lx Bm bn).2.2.2), (ro, go cO 17 ra), (le, ki cI 13 (knD kn F o M Lx Bm bn).2.1), (me, go cO 13 mb)] ++ gs 4 fr cJ 5 F) ++ gs 13 mb cJ 13 (knD kn F o M Lx Bm bn).2.2.1) ++ gs 17 ra cJ 13 (knD kn F o M Lx Bm bn).1) t.heap) (rc_A ((([(h, rO od fa ot ah te id rt bs kn), (fa, go cO 4 fr), (bs, rB ro le me bn), (ro, go cO 17 ra), (le, ki cI 13 Lx), (me, go cO 13 mb)] ++ gs 4 fr cJ 5 F) ++ gs 13 mb cJ 13 Bm) ++ gs 17 ra cJ 13 M))) 0 0 (rc_A ((([(h, rO od fa ot ah te id rt bs kn), (fa, go cO 4 fr), (bs, rB ro le me bn), (ro, go cO 17 ra), (le, ki cI 13 Lx), (me, go cO 13 mb)] ++ gs 4 fr cJ 5 F) ++ gs 13 mb cJ 13 Bm) ++ gs 17 ra cJ 13 M)) := by
  refine Met.ofW (cc := c_O_answers) (maxL := 1) (ret := (some .int)) (by decide) rfl ?_
  intro p e s m args below meth c s₁ B hml hv
  obtain ⟨rfl, hP, hK, hD0, hN⟩ := hv
  have hx := B.exec
  have hb := B.bytes
  have hr := B.returns
  have hts0 := atoms_spec (ws := ws_O_answers) B.pre
  have hts : ∀ w ∈ kb, w.before _ s = true := fun w h => hts0 w (List.mem_cons_of_mem _ h)
  have hown : s.vm.findClass R_O = some m.cls := findClass_of_methodNamed B.named
  have hlocks := B.notSynchronized
  have hD := rc_self hD0
  generalize hAe : rc_A ((([(h, rO od fa ot ah te id rt bs kn), (fa, go cO 4 fr), (bs, rB ro le me bn), (ro, go cO 17 ra), (le, ki cI 13 Lx), (me, go cO 13 mb)] ++ gs 4 fr cJ 5 F) ++ gs 13 mb cJ 13 Bm) ++ gs 17 ra cJ 13 M) = A at hD ⊢
  have hS : va_S A s.heap s.heap [] := va_S.rf
  have hl := lv_entry ([.ref h]) (n := 1) (Nat.le_of_ble_eq_true rfl)
  rw [lg_entry_eq]
  generalize (lg_sl ([.ref h]) ++ List.replicate (1 - (lg_sl ([.ref h])).length) Slot.unset).toArray = ls at hl ⊢

  have hl : lv_has ls 1 [(0, .ref h)] := hl
  refine lv_aload_n hx hb d_O_answers_0 rfl (lv_at hl 0 rfl) ?_
  refine rs_callv (va_runV (As := []) (rest := []) ⟨hx, hb, hml, hown, hts⟩ (m_O_knowBase_S l D cI cJ cO h fa ot ah te id rt bs od kn ro le me bn fr mb ra F Bm M Lx o hod ho3 hkn) (cwV 0 hts (kb_gi (kb_c kw_131 (kb_c kw_133 (kb_c ks_O_knowBase (kb_c kw_1 (kb_c kw_134 kb_all)))))) rfl rfl rfl (by decide +kernel) ⟨Nat.le_of_ble_eq_true rfl, Nat.le_of_ble_eq_true rfl⟩) ⟨rc_blind, va_recv hK hP (ci := 2) (q0 := 0) rfl rfl, rs_pre (Y := []) (rs_nil (rs_a_3_0 hP)) (rs_nilD (rs_aD_3_0 hD)) hK hN [0, 1, 2, 3, 4, 5] rfl rfl [0, 1, 2] rfl⟩ rfl rfl hl.1 rfl (lv_room (Nat.le_of_ble_eq_true rfl)) d_O_answers_1 ⟨Nat.zero_le _, Nat.zero_le _⟩) (rs_a_3_0 hP) (rs_aD_3_0 hD) hS [0, 1, 2, 3, 4, 5] rfl (fun _ => rfl) (fun _ => gs_adr2 (gs_adr _ _ _ _ _ _) (gs_adr2 (gs_adr _ _ _ _ _ _) (gs_adr _ _ _ _ _ _))) (fun u1 H locs hw1 hP hD hS => ?_)
  have hP := rs_b_3_0 hP
  have hD := rs_bD_3_0 hD
  have hP : va_P D vC ((([(h, rO od fa ot ah te id rt bs 1), (fa, go cO 4 fr), (bs, rB ro le me (knD kn F o M Lx Bm bn).2.2.2), (ro, go cO 17 ra), (le, ki cI 13 (knD kn F o M Lx Bm bn).2.1), (me, go cO 13 mb)] ++ gs 4 fr cJ 5 F) ++ gs 13 mb cJ 13 (knD kn F o M Lx Bm bn).2.2.1) ++ gs 17 ra cJ 13 (knD kn F o M Lx Bm bn).1) H := hP
  have hD : va_D A ((([(h, rO od fa ot ah te id rt bs 1), (fa, go cO 4 fr), (bs, rB ro le me (knD kn F o M Lx Bm bn).2.2.2), (ro, go cO 17 ra), (le, ki cI 13 (knD kn F o M Lx Bm bn).2.1), (me, go cO 13 mb)] ++ gs 4 fr cJ 5 F) ++ gs 13 mb cJ 13 (knD kn F o M Lx Bm bn).2.2.1) ++ gs 17 ra cJ 13 (knD kn F o M Lx Bm bn).1) := hD
  refine lv_aload_n hx hb d_O_answers_4 rfl (lv_at hl 0 rfl) ?_
  refine va_get (D := D) (ci := 2) (v := .ref bs) (C := R_O) (T := T_O) (N := 9) hx hb hts in_O hown hK hP 0 rfl rfl 7 (by decide) (hts _ kw_90) (fun _ h9 => h9) rfl d_O_answers_5 ?_
  refine rc_calli (va_runV (As := []) (rest := []) ⟨hx, hb, hml, hown, hts⟩ (m_B_size l D bs ro le me (knD kn F o M Lx Bm bn).2.2.2) (cwV 0 hts (kb_gi (kb_c kw_175 (kb_c kw_176 (kb_c kw_177 (kb_c kw_3 (kb_c kw_178 kb_all)))))) rfl rfl rfl (by decide +kernel) ⟨Nat.le_of_ble_eq_true rfl, Nat.le_of_ble_eq_true rfl⟩) ⟨rc_blind, va_recv hK hP (ci := 0) (q0 := 2) rfl rfl, rc_pre hP hD hK hN [2] rfl rfl [] rfl⟩ rfl rfl hl.1 rfl (lv_room (Nat.le_of_ble_eq_true rfl)) d_O_answers_8 ⟨Nat.zero_le _, Nat.zero_le _⟩) hP hD hS [2] rfl (fun _ => rfl) (fun r2 u3 H locs hw3 hP hD hS => ?_)
  subst hw3
  have hP : va_P D vC ((([(h, rO od fa ot ah te id rt bs 1), (fa, go cO 4 fr), (bs, rB ro le me (knD kn F o M Lx Bm bn).2.2.2), (ro, go cO 17 ra), (le, ki cI 13 (knD kn F o M Lx Bm bn).2.1), (me, go cO 13 mb)] ++ gs 4 fr cJ 5 F) ++ gs 13 mb cJ 13 (knD kn F o M Lx Bm bn).2.2.1) ++ gs 17 ra cJ 13 (knD kn F o M Lx Bm bn).1) H := hP
  have hD : va_D A ((([(h, rO od fa ot ah te id rt bs 1), (fa, go cO 4 fr), (bs, rB ro le me (knD kn F o M Lx Bm bn).2.2.2), (ro, go cO 17 ra), (le, ki cI 13 (knD kn F o M Lx Bm bn).2.1), (me, go cO 13 mb)] ++ gs 4 fr cJ 5 F) ++ gs 13 mb cJ 13 (knD kn F o M Lx Bm bn).2.2.1) ++ gs 17 ra cJ 13 (knD kn F o M Lx Bm bn).1) := hD
  exact W.iret hx hb hr (fun t ht hW => ⟨⟨_, (), rfl, rfl, rc_out ht hP⟩, hS.F ht⟩) hS.2.2 d_O_answers_11
def ws_O_needMember : List Cond := .code y_O_needMember c_O_needMember 2 none :: kb
set_option maxHeartbeats 4000000 in
set_option maxRecDepth 100000 in
/-- a member that is there -/
theorem m_O_needMember (l : Launch) (D : va_G) (cI : ClassId) (cJ cO : ClassId) (h fa ot ah te id rt bs : Nat) (od kn : Int) (ro le me : Nat) (bn : Int) (fr mb ra : Nat → Nat) (F Bm M : Nat → Nat → ro_K) (Lx : Nat → Int) (zk : Int) (o : Nat) (hod : od = (o : Int)) (ho3 : o ≤ 3) (hkn : kn = 0 ∨ kn = 1) (hk0 : 0 ≤ zk) (hk1 : zk < (knD kn F o M Lx Bm bn).2.2.2) (hb13 : (knD kn F o M Lx Bm bn).2.2.2 ≤ 13) : Met l y_O_needMember ws_O_needMember ({ frames := 5, cells := 0, slots := 0, locals := 115 }) (rc_Pc D vC [(cJ, .long), (cO, .array .long), (cI, .int)] [.ref h, .int (iz zk)] ((([(h, rO od fa ot ah te id rt bs kn), (fa, go cO 4 fr), (bs, rB ro le me bn), (ro, go cO 17 ra), (le, ki cI 13 Lx), (me, go cO 13 mb)] ++ gs 4 fr cJ 5 F) ++ gs 13 mb cJ 13 Bm) ++ gs 17 ra cJ 13 M)) (va_Qv (fun (_ : Unit) => True) (fun _ t => va_P D vC ((([(h, rO od fa ot ah te id rt bs 1), (fa, go cO 4 fr), (bs, rB ro le me (knD kn F o M Lx Bm bn).2.2.2), (ro, go cO 17 ra), (le, ki cI 13 (knD kn F o M Lx Bm bn).2.1), (me, go cO 13 mb)] ++ gs 4 fr cJ 5 F) ++ gs 13 mb cJ 13 (knD kn F o M Lx Bm bn).2.2.1) ++ gs 17 ra cJ 13 (knD kn F o M Lx Bm bn).1) t.heap) (rc_A ((([(h, rO od fa ot ah te id rt bs kn), (fa, go cO 4 fr), (bs, rB ro le me bn), (ro, go cO 17 ra), (le, ki cI 13 Lx), (me, go cO 13 mb)] ++ gs 4 fr cJ 5 F) ++ gs 13 mb cJ 13 Bm) ++ gs 17 ra cJ 13 M))) 0 0 (rc_A ((([(h, rO od fa ot ah te id rt bs kn), (fa, go cO 4 fr), (bs, rB ro le me bn), (ro, go cO 17 ra), (le, ki cI 13 Lx), (me, go cO 13 mb)] ++ gs 4 fr cJ 5 F) ++ gs 13 mb cJ 13 Bm) ++ gs 17 ra cJ 13 M)) := by
  refine Met.ofW (cc := c_O_needMember) (maxL := 2) (ret := none) (by decide) rfl ?_
  intro p e s m args below meth c s₁ B hml hv
  obtain ⟨rfl, hP, hK, hD0, hN⟩ := hv
  have hx := B.exec
  have hb := B.bytes
  have hr := B.returns
  have hts0 := atoms_spec (ws := ws_O_needMember) B.pre
  have hts : ∀ w ∈ kb, w.before _ s = true := fun w h => hts0 w (List.mem_cons_of_mem _ h)
  have hown : s.vm.findClass R_O = some m.cls := findClass_of_methodNamed B.named
  have hlocks := B.notSynchronized
  have hD := rc_self hD0
  generalize hAe : rc_A ((([(h, rO od fa ot ah te id rt bs kn), (fa, go cO 4 fr), (bs, rB ro le me bn), (ro, go cO 17 ra), (le, ki cI 13 Lx), (me, go cO 13 mb)] ++ gs 4 fr cJ 5 F) ++ gs 13 mb cJ 13 Bm) ++ gs 17 ra cJ 13 M) = A at hD ⊢
  have hS : va_S A s.heap s.heap [] := va_S.rf
  have hl := lv_entry ([.ref h, .int (iz zk)]) (n := 2) (Nat.le_of_ble_eq_true rfl)
  rw [lg_entry_eq]
  generalize (lg_sl ([.ref h, .int (iz zk)]) ++ List.replicate (2 - (lg_sl ([.ref h, .int (iz zk)])).length) Slot.unset).toArray = ls at hl ⊢

  have hl : lv_has ls 2 [(0, .ref h), (1, .int (iz zk))] := hl
  refine lv_aload_n hx hb d_O_needMember_0 rfl (lv_at hl 0 rfl) ?_
  refine rs_callv (va_runV (As := []) (rest := []) ⟨hx, hb, hml, hown, hts⟩ (m_O_knowBase_S l D cI cJ cO h fa ot ah te id rt bs od kn ro le me bn fr mb ra F Bm M Lx o hod ho3 hkn) (cwV 0 hts (kb_gi (kb_c kw_131 (kb_c kw_133 (kb_c ks_O_knowBase (kb_c kw_1 (kb_c kw_134 kb_all)))))) rfl rfl rfl (by decide +kernel) ⟨Nat.le_of_ble_eq_true rfl, Nat.le_of_ble_eq_true rfl⟩) ⟨rc_blind, va_recv hK hP (ci := 2) (q0 := 0) rfl rfl, rs_pre (Y := []) (rs_nil (rs_a_3_0 hP)) (rs_nilD (rs_aD_3_0 hD)) hK hN [0, 1, 2, 3, 4, 5] rfl rfl [0, 1, 2] rfl⟩ rfl rfl hl.1 rfl (lv_room (Nat.le_of_ble_eq_true rfl)) d_O_needMember_1 ⟨Nat.zero_le _, Nat.zero_le _⟩) (rs_a_3_0 hP) (rs_aD_3_0 hD) hS [0, 1, 2, 3, 4, 5] rfl (fun _ => rfl) (fun _ => gs_adr2 (gs_adr _ _ _ _ _ _) (gs_adr2 (gs_adr _ _ _ _ _ _) (gs_adr _ _ _ _ _ _))) (fun u1 H locs hw1 hP hD hS => ?_)
  have hP := rs_b_3_0 hP
  have hD := rs_bD_3_0 hD
  have hP : va_P D vC ((([(h, rO od fa ot ah te id rt bs 1), (fa, go cO 4 fr), (bs, rB ro le me (knD kn F o M Lx Bm bn).2.2.2), (ro, go cO 17 ra), (le, ki cI 13 (knD kn F o M Lx Bm bn).2.1), (me, go cO 13 mb)] ++ gs 4 fr cJ 5 F) ++ gs 13 mb cJ 13 (knD kn F o M Lx Bm bn).2.2.1) ++ gs 17 ra cJ 13 (knD kn F o M Lx Bm bn).1) H := hP
  have hD : va_D A ((([(h, rO od fa ot ah te id rt bs 1), (fa, go cO 4 fr), (bs, rB ro le me (knD kn F o M Lx Bm bn).2.2.2), (ro, go cO 17 ra), (le, ki cI 13 (knD kn F o M Lx Bm bn).2.1), (me, go cO 13 mb)] ++ gs 4 fr cJ 5 F) ++ gs 13 mb cJ 13 (knD kn F o M Lx Bm bn).2.2.1) ++ gs 17 ra cJ 13 (knD kn F o M Lx Bm bn).1) := hD
  refine lv_iload_n hx hb d_O_needMember_4 rfl (lv_at hl 1 rfl) ?_
  refine rz_if_lt (tgt := 19) hx hb d_O_needMember_5 (by decide) (fun hc2 => ?_) (fun hc2 => ?_)
  · omega
  · refine lv_iload_n hx hb d_O_needMember_8 rfl (lv_at hl 1 rfl) ?_
    refine lv_aload_n hx hb d_O_needMember_9 rfl (lv_at hl 0 rfl) ?_
    refine va_get (D := D) (ci := 2) (v := .ref bs) (C := R_O) (T := T_O) (N := 9) hx hb hts in_O hown hK hP 0 rfl rfl 7 (by decide) (hts _ kw_90) (fun _ h9 => h9) rfl d_O_needMember_10 ?_
    refine rc_calli (va_runV (As := []) (rest := [.int (iz zk)]) ⟨hx, hb, hml, hown, hts⟩ (m_B_size l D bs ro le me (knD kn F o M Lx Bm bn).2.2.2) (cwV 0 hts (kb_gi (kb_c kw_175 (kb_c kw_176 (kb_c kw_177 (kb_c kw_3 (kb_c kw_178 kb_all)))))) rfl rfl rfl (by decide +kernel) ⟨Nat.le_of_ble_eq_true rfl, Nat.le_of_ble_eq_true rfl⟩) ⟨rc_blind, va_recv hK hP (ci := 0) (q0 := 2) rfl rfl, rc_pre hP hD hK hN [2] rfl rfl [] rfl⟩ rfl rfl hl.1 rfl (lv_room (Nat.le_of_ble_eq_true rfl)) d_O_needMember_13 ⟨Nat.zero_le _, Nat.zero_le _⟩) hP hD hS [2] rfl (fun _ => rfl) (fun r3 u4 H locs hw4 hP hD hS => ?_)
    subst hw4
    have hP : va_P D vC ((([(h, rO od fa ot ah te id rt bs 1), (fa, go cO 4 fr), (bs, rB ro le me (knD kn F o M Lx Bm bn).2.2.2), (ro, go cO 17 ra), (le, ki cI 13 (knD kn F o M Lx Bm bn).2.1), (me, go cO 13 mb)] ++ gs 4 fr cJ 5 F) ++ gs 13 mb cJ 13 (knD kn F o M Lx Bm bn).2.2.1) ++ gs 17 ra cJ 13 (knD kn F o M Lx Bm bn).1) H := hP
    have hD : va_D A ((([(h, rO od fa ot ah te id rt bs 1), (fa, go cO 4 fr), (bs, rB ro le me (knD kn F o M Lx Bm bn).2.2.2), (ro, go cO 17 ra), (le, ki cI 13 (knD kn F o M Lx Bm bn).2.1), (me, go cO 13 mb)] ++ gs 4 fr cJ 5 F) ++ gs 13 mb cJ 13 (knD kn F o M Lx Bm bn).2.2.1) ++ gs 17 ra cJ 13 (knD kn F o M Lx Bm bn).1) := hD
    refine rz_icmp_lt (tgt := 29) hx hb d_O_needMember_16 (by decide) (fun hc5 => ?_) (fun hc5 => ?_)
    · exact W.vret hx hb hr (fun t ht hW => ⟨⟨(), rfl, trivial, rc_out ht hP⟩, hS.F ht⟩) hS.2.2 d_O_needMember_29
    · omega
set_option maxHeartbeats 4000000 in
set_option maxRecDepth 100000 in
theorem m_O_needMember_S (l : Launch) (D : va_G) (cI : ClassId) (cJ cO : ClassId) (h fa ot ah te id rt bs : Nat) (od kn : Int) (ro le me : Nat) (bn : Int) (fr mb ra : Nat → Nat) (F Bm M : Nat → Nat → ro_K) (Lx : Nat → Int) (zk : Int) (o : Nat) (hod : od = (o : Int)) (ho3 : o ≤ 3) (hkn : kn = 0 ∨ kn = 1) (hk0 : 0 ≤ zk) (hk1 : zk < (knD kn F o M Lx Bm bn).2.2.2) (hb13 : (knD kn F o M Lx Bm bn).2.2.2 ≤ 13) : Met l y_O_needMember ws_O_needMember ({ frames := 5, cells := 0, slots := 0, locals := 115 }) (rc_Pc D vC [(cJ, .long), (cO, .array .long), (cI, .int)] [.ref h, .int (iz zk)] ([(h, rO od fa ot ah te id rt bs kn), (fa, go cO 4 fr), (bs, rB ro le me bn), (ro, go cO 17 ra), (le, ki cI 13 Lx), (me, go cO 13 mb)] ++ (gs 4 fr cJ 5 F ++ (gs 13 mb cJ 13 Bm ++ (gs 17 ra cJ 13 M))))) (va_Qv (fun (_ : Unit) => True) (fun _ t => va_P D vC ([(h, rO od fa ot ah te id rt bs 1), (fa, go cO 4 fr), (bs, rB ro le me (knD kn F o M Lx Bm bn).2.2.2), (ro, go cO 17 ra), (le, ki cI 13 (knD kn F o M Lx Bm bn).2.1), (me, go cO 13 mb)] ++ (gs 4 fr cJ 5 F ++ (gs 13 mb cJ 13 (knD kn F o M Lx Bm bn).2.2.1 ++ (gs 17 ra cJ 13 (knD kn F o M Lx Bm bn).1)))) t.heap) (rc_A ([(h, rO od fa ot ah te id rt bs kn), (fa, go cO 4 fr), (bs, rB ro le me bn), (ro, go cO 17 ra), (le, ki cI 13 Lx), (me, go cO 13 mb)] ++ (gs 4 fr cJ 5 F ++ (gs 13 mb cJ 13 Bm ++ (gs 17 ra cJ 13 M)))))) 0 0 (rc_A ([(h, rO od fa ot ah te id rt bs kn), (fa, go cO 4 fr), (bs, rB ro le me bn), (ro, go cO 17 ra), (le, ki cI 13 Lx), (me, go cO 13 mb)] ++ (gs 4 fr cJ 5 F ++ (gs 13 mb cJ 13 Bm ++ (gs 17 ra cJ 13 M))))) := m_O_needMember l D cI cJ cO h fa ot ah te id rt bs od kn ro le me bn fr mb ra F Bm M Lx zk o hod ho3 hkn hk0 hk1 hb13

def ws_O_answer : List Cond := .code y_O_answer c_O_answer 3 (some .int) :: kb
set_option maxHeartbeats 4000000 in
set_option maxRecDepth 100000 in
/-- answer -/
theorem m_O_answer (l : Launch) (D : va_G) (cI : ClassId) (cJ cO : ClassId) (h fa ot ah te id rt bs : Nat) (od kn : Int) (ro le me : Nat) (bn : Int) (fr mb ra : Nat → Nat) (F Bm M : Nat → Nat → ro_K) (Lx : Nat → Int) (zk zp : Int) (o : Nat) (hod : od = (o : Int)) (ho3 : o ≤ 3) (hkn : kn = 0 ∨ kn = 1) (k pw : Nat) (hzk : zk = (k : Int)) (hzp : zp = (pw : Int)) (hp : pw < 13) (hk0 : 0 ≤ zk) (hk1 : zk < (knD kn F o M Lx Bm bn).2.2.2) (hb13 : (knD kn F o M Lx Bm bn).2.2.2 ≤ 13) : Met l y_O_answer ws_O_answer ({ frames := 6, cells := 0, slots := 0, locals := 136 }) (rc_Pc D vC [(cJ, .long), (cO, .array .long), (cI, .int)] [.ref h, .int (iz zk), .int (iz zp)] ((([(h, rO od fa ot ah te id rt bs kn), (fa, go cO 4 fr), (bs, rB ro le me bn), (ro, go cO 17 ra), (le, ki cI 13 Lx), (me, go cO 13 mb)] ++ gs 4 fr cJ 5 F) ++ gs 13 mb cJ 13 Bm) ++ gs 17 ra cJ 13 M)) (va_Qi (fun (q : Int32) (_ : Unit) => q = iz (((knD kn F o M Lx Bm bn).2.2.1 k pw).val : Int)) (fun _ t => va_P D vC ((([(h, rO od fa ot ah te id rt bs 1), (fa, go cO 4 fr), (bs, rB ro le me (knD kn F o M Lx Bm bn).2.2.2), (ro, go cO 17 ra), (le, ki cI 13 (knD kn F o M Lx Bm bn).2.1), (me, go cO 13 mb)] ++ gs 4 fr cJ 5 F) ++ gs 13 mb cJ 13 (knD kn F o M Lx Bm bn).2.2.1) ++ gs 17 ra cJ 13 (knD kn F o M Lx Bm bn).1) t.heap) (rc_A ((([(h, rO od fa ot ah te id rt bs kn), (fa, go cO 4 fr), (bs, rB ro le me bn), (ro, go cO 17 ra), (le, ki cI 13 Lx), (me, go cO 13 mb)] ++ gs 4 fr cJ 5 F) ++ gs 13 mb cJ 13 Bm) ++ gs 17 ra cJ 13 M))) 0 0 (rc_A ((([(h, rO od fa ot ah te id rt bs kn), (fa, go cO 4 fr), (bs, rB ro le me bn), (ro, go cO 17 ra), (le, ki cI 13 Lx), (me, go cO 13 mb)] ++ gs 4 fr cJ 5 F) ++ gs 13 mb cJ 13 Bm) ++ gs 17 ra cJ 13 M)) := by
  refine Met.ofW (cc := c_O_answer) (maxL := 3) (ret := (some .int)) (by decide) rfl ?_
  intro p e s m args below meth c s₁ B hml hv
  obtain ⟨rfl, hP, hK, hD0, hN⟩ := hv
  have hx := B.exec
  have hb := B.bytes
  have hr := B.returns
  have hts0 := atoms_spec (ws := ws_O_answer) B.pre
  have hts : ∀ w ∈ kb, w.before _ s = true := fun w h => hts0 w (List.mem_cons_of_mem _ h)
  have hown : s.vm.findClass R_O = some m.cls := findClass_of_methodNamed B.named
  have hlocks := B.notSynchronized
  have hD := rc_self hD0
  generalize hAe : rc_A ((([(h, rO od fa ot ah te id rt bs kn), (fa, go cO 4 fr), (bs, rB ro le me bn), (ro, go cO 17 ra), (le, ki cI 13 Lx), (me, go cO 13 mb)] ++ gs 4 fr cJ 5 F) ++ gs 13 mb cJ 13 Bm) ++ gs 17 ra cJ 13 M) = A at hD ⊢
  have hS : va_S A s.heap s.heap [] := va_S.rf
  have hl := lv_entry ([.ref h, .int (iz zk), .int (iz zp)]) (n := 3) (Nat.le_of_ble_eq_true rfl)
  rw [lg_entry_eq]
  generalize (lg_sl ([.ref h, .int (iz zk), .int (iz zp)]) ++ List.replicate (3 - (lg_sl ([.ref h, .int (iz zk), .int (iz zp)])).length) Slot.unset).toArray = ls at hl ⊢

  have hl : lv_has ls 3 [(0, .ref h), (1, .int (iz zk)), (2, .int (iz zp))] := hl
  refine lv_aload_n hx hb d_O_answer_0 rfl (lv_at hl 0 rfl) ?_
  refine lv_iload_n hx hb d_O_answer_1 rfl (lv_at hl 2 rfl) ?_
  refine rc_callv (va_runV (As := [.int (iz zp)]) (rest := []) ⟨hx, hb, hml, hown, hts⟩ (m_O_needHandPower l D cJ cO h fa ot ah te id rt bs od kn zp (by omega) (by omega)) (cwV 1 hts (kb_gi (kb_c kw_308 (kb_c kw_310 (kb_c ks_O_needHandPower (kb_c kw_1 (kb_c kw_311 kb_all)))))) rfl rfl rfl (by decide +kernel) ⟨Nat.le_of_ble_eq_true rfl, Nat.le_of_ble_eq_true rfl⟩) ⟨rc_blind, va_recv hK hP (ci := 2) (q0 := 0) rfl rfl, rc_pre hP hD hK hN [0] rfl rfl [] rfl⟩ rfl rfl hl.1 rfl (lv_room (Nat.le_of_ble_eq_true rfl)) d_O_answer_2 ⟨Nat.zero_le _, Nat.zero_le _⟩) hP hD hS [0] rfl (fun _ => rfl) (fun u1 H locs hw1 hP hD hS => ?_)
  have hP : va_P D vC ((([(h, rO od fa ot ah te id rt bs kn), (fa, go cO 4 fr), (bs, rB ro le me bn), (ro, go cO 17 ra), (le, ki cI 13 Lx), (me, go cO 13 mb)] ++ gs 4 fr cJ 5 F) ++ gs 13 mb cJ 13 Bm) ++ gs 17 ra cJ 13 M) H := hP
  have hD : va_D A ((([(h, rO od fa ot ah te id rt bs kn), (fa, go cO 4 fr), (bs, rB ro le me bn), (ro, go cO 17 ra), (le, ki cI 13 Lx), (me, go cO 13 mb)] ++ gs 4 fr cJ 5 F) ++ gs 13 mb cJ 13 Bm) ++ gs 17 ra cJ 13 M) := hD
  refine lv_aload_n hx hb d_O_answer_5 rfl (lv_at hl 0 rfl) ?_
  refine lv_iload_n hx hb d_O_answer_6 rfl (lv_at hl 1 rfl) ?_
  refine rs_callv (va_runV (As := [.int (iz zk)]) (rest := []) ⟨hx, hb, hml, hown, hts⟩ (m_O_needMember_S l D cI cJ cO h fa ot ah te id rt bs od kn ro le me bn fr mb ra F Bm M Lx zk o hod ho3 hkn hk0 hk1 hb13) (cwV 1 hts (kb_gi (kb_c kw_478 (kb_c kw_480 (kb_c ks_O_needMember (kb_c kw_1 (kb_c kw_481 kb_all)))))) rfl rfl rfl (by decide +kernel) ⟨Nat.le_of_ble_eq_true rfl, Nat.le_of_ble_eq_true rfl⟩) ⟨rc_blind, va_recv hK hP (ci := 2) (q0 := 0) rfl rfl, rs_pre (Y := []) (rs_nil (rs_a_3_0 hP)) (rs_nilD (rs_aD_3_0 hD)) hK hN [0, 1, 2, 3, 4, 5] rfl rfl [0, 1, 2] rfl⟩ rfl rfl hl.1 rfl (lv_room (Nat.le_of_ble_eq_true rfl)) d_O_answer_7 ⟨Nat.zero_le _, Nat.zero_le _⟩) (rs_a_3_0 hP) (rs_aD_3_0 hD) hS [0, 1, 2, 3, 4, 5] rfl (fun _ => rfl) (fun _ => gs_adr2 (gs_adr _ _ _ _ _ _) (gs_adr2 (gs_adr _ _ _ _ _ _) (gs_adr _ _ _ _ _ _))) (fun u2 H locs hw2 hP hD hS => ?_)
  have hP := rs_b_3_0 hP
  have hD := rs_bD_3_0 hD
  have hP : va_P D vC ((([(h, rO od fa ot ah te id rt bs 1), (fa, go cO 4 fr), (bs, rB ro le me (knD kn F o M Lx Bm bn).2.2.2), (ro, go cO 17 ra), (le, ki cI 13 (knD kn F o M Lx Bm bn).2.1), (me, go cO 13 mb)] ++ gs 4 fr cJ 5 F) ++ gs 13 mb cJ 13 (knD kn F o M Lx Bm bn).2.2.1) ++ gs 17 ra cJ 13 (knD kn F o M Lx Bm bn).1) H := hP
  have hD : va_D A ((([(h, rO od fa ot ah te id rt bs 1), (fa, go cO 4 fr), (bs, rB ro le me (knD kn F o M Lx Bm bn).2.2.2), (ro, go cO 17 ra), (le, ki cI 13 (knD kn F o M Lx Bm bn).2.1), (me, go cO 13 mb)] ++ gs 4 fr cJ 5 F) ++ gs 13 mb cJ 13 (knD kn F o M Lx Bm bn).2.2.1) ++ gs 17 ra cJ 13 (knD kn F o M Lx Bm bn).1) := hD
  refine lv_aload_n hx hb d_O_answer_10 rfl (lv_at hl 0 rfl) ?_
  refine va_get (D := D) (ci := 2) (v := .ref bs) (C := R_O) (T := T_O) (N := 9) hx hb hts in_O hown hK hP 0 rfl rfl 7 (by decide) (hts _ kw_90) (fun _ h9 => h9) rfl d_O_answer_11 ?_
  refine lv_iload_n hx hb d_O_answer_14 rfl (lv_at hl 1 rfl) ?_
  refine rc_callr (va_runV (As := [.int (iz zk)]) (rest := []) ⟨hx, hb, hml, hown, hts⟩ (m_B_member l D cO bs ro le me (knD kn F o M Lx Bm bn).2.2.2 mb zk k hzk (by omega)) (cwV 1 hts (kb_gi (kb_c kw_483 (kb_c kw_484 (kb_c kw_485 (kb_c kw_3 (kb_c kw_486 kb_all)))))) rfl rfl rfl (by decide +kernel) ⟨Nat.le_of_ble_eq_true rfl, Nat.le_of_ble_eq_true rfl⟩) ⟨rc_blind, va_recv hK hP (ci := 0) (q0 := 2) rfl rfl, rc_pre hP hD hK hN [2, 5] rfl rfl [1] rfl⟩ rfl rfl hl.1 rfl (lv_room (Nat.le_of_ble_eq_true rfl)) d_O_answer_15 ⟨Nat.zero_le _, Nat.zero_le _⟩) hP hD hS [2, 5] rfl (fun _ => rfl) (fun u3 H locs hw3 hP hD hS => ?_)
  have hP : va_P D vC ((([(h, rO od fa ot ah te id rt bs 1), (fa, go cO 4 fr), (bs, rB ro le me (knD kn F o M Lx Bm bn).2.2.2), (ro, go cO 17 ra), (le, ki cI 13 (knD kn F o M Lx Bm bn).2.1), (me, go cO 13 mb)] ++ gs 4 fr cJ 5 F) ++ gs 13 mb cJ 13 (knD kn F o M Lx Bm bn).2.2.1) ++ gs 17 ra cJ 13 (knD kn F o M Lx Bm bn).1) H := hP
  have hD : va_D A ((([(h, rO od fa ot ah te id rt bs 1), (fa, go cO 4 fr), (bs, rB ro le me (knD kn F o M Lx Bm bn).2.2.2), (ro, go cO 17 ra), (le, ki cI 13 (knD kn F o M Lx Bm bn).2.1), (me, go cO 13 mb)] ++ gs 4 fr cJ 5 F) ++ gs 13 mb cJ 13 (knD kn F o M Lx Bm bn).2.2.1) ++ gs 17 ra cJ 13 (knD kn F o M Lx Bm bn).1) := hD
  refine lv_iload_n hx hb d_O_answer_18 rfl (lv_at hl 2 rfl) ?_
  refine rg_ldT hx hb hK hP 0 rfl k pw d_O_answer_19 ?_
  refine rz_l2i hx hb d_O_answer_20 ?_
  exact W.iret hx hb hr (fun t ht hW => ⟨⟨_, (), rfl, rfl, rc_out ht hP⟩, hS.F ht⟩) hS.2.2 d_O_answer_21
def ws_O_take : List Cond := .code y_O_take c_O_take 2 none :: kb
set_option maxHeartbeats 4000000 in
set_option maxRecDepth 100000 in
/-- take -/
theorem m_O_take (l : Launch) (D : va_G) (cI : ClassId) (cJ cO : ClassId) (h fa ot ah te id rt bs : Nat) (od kn : Int) (ro le me : Nat) (bn : Int) (fr mb ra : Nat → Nat) (F Bm M : Nat → Nat → ro_K) (Lx : Nat → Int) (a : Nat → ro_K) (zk : Int) (o : Nat) (hod : od = (o : Int)) (ho3 : o ≤ 3) (hkn : kn = 0 ∨ kn = 1) (k : Nat) (hzk : zk = (k : Int)) (hk0 : 0 ≤ zk) (hk1 : zk < (knD kn F o M Lx Bm bn).2.2.2) (hb13 : (knD kn F o M Lx Bm bn).2.2.2 ≤ 13) : Met l y_O_take ws_O_take ({ frames := 6, cells := 0, slots := 0, locals := 136 }) (rc_Pc D vC [(cJ, .long), (cO, .array .long), (cI, .int)] [.ref h, .int (iz zk)] ((([(h, rO od fa ot ah te id rt bs kn), (fa, go cO 4 fr), (bs, rB ro le me bn), (ro, go cO 17 ra), (le, ki cI 13 Lx), (me, go cO 13 mb), (ah, ka cJ 13 a)] ++ gs 4 fr cJ 5 F) ++ gs 13 mb cJ 13 Bm) ++ gs 17 ra cJ 13 M)) (va_Qv (fun (_ : Unit) => True) (fun _ t => va_P D vC ((([(h, rO od fa ot ah te id rt bs 1), (fa, go cO 4 fr), (bs, rB ro le me (knD kn F o M Lx Bm bn).2.2.2), (ro, go cO 17 ra), (le, ki cI 13 (knD kn F o M Lx Bm bn).2.1), (me, go cO 13 mb), (ah, ka cJ 13 (va_cpy ((knD kn F o M Lx Bm bn).2.2.1 k) a 0 0 13))] ++ gs 4 fr cJ 5 F) ++ gs 13 mb cJ 13 (knD kn F o M Lx Bm bn).2.2.1) ++ gs 17 ra cJ 13 (knD kn F o M Lx Bm bn).1) t.heap) (rc_A ((([(h, rO od fa ot ah te id rt bs kn), (fa, go cO 4 fr), (bs, rB ro le me bn), (ro, go cO 17 ra), (le, ki cI 13 Lx), (me, go cO 13 mb), (ah, ka cJ 13 a)] ++ gs 4 fr cJ 5 F) ++ gs 13 mb cJ 13 Bm) ++ gs 17 ra cJ 13 M))) 0 0 (rc_A ((([(h, rO od fa ot ah te id rt bs kn), (fa, go cO 4 fr), (bs, rB ro le me bn), (ro, go cO 17 ra), (le, ki cI 13 Lx), (me, go cO 13 mb), (ah, ka cJ 13 a)] ++ gs 4 fr cJ 5 F) ++ gs 13 mb cJ 13 Bm) ++ gs 17 ra cJ 13 M)) := by
  refine Met.ofW (cc := c_O_take) (maxL := 2) (ret := none) (by decide) rfl ?_
  intro p e s m args below meth c s₁ B hml hv
  obtain ⟨rfl, hP, hK, hD0, hN⟩ := hv
  have hx := B.exec
  have hb := B.bytes
  have hr := B.returns
  have hts0 := atoms_spec (ws := ws_O_take) B.pre
  have hts : ∀ w ∈ kb, w.before _ s = true := fun w h => hts0 w (List.mem_cons_of_mem _ h)
  have hown : s.vm.findClass R_O = some m.cls := findClass_of_methodNamed B.named
  have hlocks := B.notSynchronized
  have hD := rc_self hD0
  generalize hAe : rc_A ((([(h, rO od fa ot ah te id rt bs kn), (fa, go cO 4 fr), (bs, rB ro le me bn), (ro, go cO 17 ra), (le, ki cI 13 Lx), (me, go cO 13 mb), (ah, ka cJ 13 a)] ++ gs 4 fr cJ 5 F) ++ gs 13 mb cJ 13 Bm) ++ gs 17 ra cJ 13 M) = A at hD ⊢
  have hS : va_S A s.heap s.heap [] := va_S.rf
  have hl := lv_entry ([.ref h, .int (iz zk)]) (n := 2) (Nat.le_of_ble_eq_true rfl)
  rw [lg_entry_eq]
  generalize (lg_sl ([.ref h, .int (iz zk)]) ++ List.replicate (2 - (lg_sl ([.ref h, .int (iz zk)])).length) Slot.unset).toArray = ls at hl ⊢

  have hl : lv_has ls 2 [(0, .ref h), (1, .int (iz zk))] := hl
  refine lv_aload_n hx hb d_O_take_0 rfl (lv_at hl 0 rfl) ?_
  refine lv_iload_n hx hb d_O_take_1 rfl (lv_at hl 1 rfl) ?_
  refine rs_callv (va_runV (As := [.int (iz zk)]) (rest := []) ⟨hx, hb, hml, hown, hts⟩ (m_O_needMember_S l D cI cJ cO h fa ot ah te id rt bs od kn ro le me bn fr mb ra F Bm M Lx zk o hod ho3 hkn hk0 hk1 hb13) (cwV 1 hts (kb_gi (kb_c kw_478 (kb_c kw_480 (kb_c ks_O_needMember (kb_c kw_1 (kb_c kw_481 kb_all)))))) rfl rfl rfl (by decide +kernel) ⟨Nat.le_of_ble_eq_true rfl, Nat.le_of_ble_eq_true rfl⟩) ⟨rc_blind, va_recv hK hP (ci := 2) (q0 := 0) rfl rfl, rs_pre (Y := []) (rs_nil (rs_a_3_0 hP)) (rs_nilD (rs_aD_3_0 hD)) hK hN [0, 1, 2, 3, 4, 5] rfl rfl [0, 1, 2] rfl⟩ rfl rfl hl.1 rfl (lv_room (Nat.le_of_ble_eq_true rfl)) d_O_take_2 ⟨Nat.zero_le _, Nat.zero_le _⟩) (rs_a_3_0 hP) (rs_aD_3_0 hD) hS [0, 1, 2, 3, 4, 5] rfl (fun _ => rfl) (fun _ => gs_adr2 (gs_adr _ _ _ _ _ _) (gs_adr2 (gs_adr _ _ _ _ _ _) (gs_adr _ _ _ _ _ _))) (fun u1 H locs hw1 hP hD hS => ?_)
  have hP := rs_b_3_0 hP
  have hD := rs_bD_3_0 hD
  have hP : va_P D vC ((([(h, rO od fa ot ah te id rt bs 1), (fa, go cO 4 fr), (bs, rB ro le me (knD kn F o M Lx Bm bn).2.2.2), (ro, go cO 17 ra), (le, ki cI 13 (knD kn F o M Lx Bm bn).2.1), (me, go cO 13 mb), (ah, ka cJ 13 a)] ++ gs 4 fr cJ 5 F) ++ gs 13 mb cJ 13 (knD kn F o M Lx Bm bn).2.2.1) ++ gs 17 ra cJ 13 (knD kn F o M Lx Bm bn).1) H := hP
  have hD : va_D A ((([(h, rO od fa ot ah te id rt bs 1), (fa, go cO 4 fr), (bs, rB ro le me (knD kn F o M Lx Bm bn).2.2.2), (ro, go cO 17 ra), (le, ki cI 13 (knD kn F o M Lx Bm bn).2.1), (me, go cO 13 mb), (ah, ka cJ 13 a)] ++ gs 4 fr cJ 5 F) ++ gs 13 mb cJ 13 (knD kn F o M Lx Bm bn).2.2.1) ++ gs 17 ra cJ 13 (knD kn F o M Lx Bm bn).1) := hD
  refine lv_aload_n hx hb d_O_take_5 rfl (lv_at hl 0 rfl) ?_
  refine va_get (D := D) (ci := 2) (v := .ref bs) (C := R_O) (T := T_O) (N := 9) hx hb hts in_O hown hK hP 0 rfl rfl 7 (by decide) (hts _ kw_90) (fun _ h9 => h9) rfl d_O_take_6 ?_
  refine lv_iload_n hx hb d_O_take_9 rfl (lv_at hl 1 rfl) ?_
  refine rc_callr (va_runV (As := [.int (iz zk)]) (rest := []) ⟨hx, hb, hml, hown, hts⟩ (m_B_member l D cO bs ro le me (knD kn F o M Lx Bm bn).2.2.2 mb zk k hzk (by omega)) (cwV 1 hts (kb_gi (kb_c kw_483 (kb_c kw_484 (kb_c kw_485 (kb_c kw_3 (kb_c kw_486 kb_all)))))) rfl rfl rfl (by decide +kernel) ⟨Nat.le_of_ble_eq_true rfl, Nat.le_of_ble_eq_true rfl⟩) ⟨rc_blind, va_recv hK hP (ci := 0) (q0 := 2) rfl rfl, rc_pre hP hD hK hN [2, 5] rfl rfl [1] rfl⟩ rfl rfl hl.1 rfl (lv_room (Nat.le_of_ble_eq_true rfl)) d_O_take_10 ⟨Nat.zero_le _, Nat.zero_le _⟩) hP hD hS [2, 5] rfl (fun _ => rfl) (fun u2 H locs hw2 hP hD hS => ?_)
  have hP : va_P D vC ((([(h, rO od fa ot ah te id rt bs 1), (fa, go cO 4 fr), (bs, rB ro le me (knD kn F o M Lx Bm bn).2.2.2), (ro, go cO 17 ra), (le, ki cI 13 (knD kn F o M Lx Bm bn).2.1), (me, go cO 13 mb), (ah, ka cJ 13 a)] ++ gs 4 fr cJ 5 F) ++ gs 13 mb cJ 13 (knD kn F o M Lx Bm bn).2.2.1) ++ gs 17 ra cJ 13 (knD kn F o M Lx Bm bn).1) H := hP
  have hD : va_D A ((([(h, rO od fa ot ah te id rt bs 1), (fa, go cO 4 fr), (bs, rB ro le me (knD kn F o M Lx Bm bn).2.2.2), (ro, go cO 17 ra), (le, ki cI 13 (knD kn F o M Lx Bm bn).2.1), (me, go cO 13 mb), (ah, ka cJ 13 a)] ++ gs 4 fr cJ 5 F) ++ gs 13 mb cJ 13 (knD kn F o M Lx Bm bn).2.2.1) ++ gs 17 ra cJ 13 (knD kn F o M Lx Bm bn).1) := hD
  refine rz_iconst hx hb d_O_take_13 ?_
  refine lv_aload_n hx hb d_O_take_14 rfl (lv_at hl 0 rfl) ?_
  refine va_get (D := D) (ci := 2) (v := .ref ah) (C := R_O) (T := T_O) (N := 9) hx hb hts in_O hown hK hP 0 rfl rfl 3 (by decide) (hts _ kw_86) (fun _ h9 => h9) rfl d_O_take_15 ?_
  refine rz_iconst hx hb d_O_take_18 ?_
  refine rz_bipush hx hb d_O_take_19 (by decide) ?_
  refine rk_copy hx hb (hml.trans hl.1.symm) hown (hts _ kw_196) hts hK hP hD hS (11 + k) 6 0 (gs_get1 rfl (by omega)) rfl rfl 13 (by omega) (by omega) (by omega) (Nat.le_of_ble_eq_true rfl) (Nat.le_of_ble_eq_true rfl) d_O_take_21 (fun H locs hP hD hS => ?_)
  have hP : va_P D vC ((([(h, rO od fa ot ah te id rt bs 1), (fa, go cO 4 fr), (bs, rB ro le me (knD kn F o M Lx Bm bn).2.2.2), (ro, go cO 17 ra), (le, ki cI 13 (knD kn F o M Lx Bm bn).2.1), (me, go cO 13 mb), (ah, ka cJ 13 (va_cpy ((knD kn F o M Lx Bm bn).2.2.1 k) a 0 0 13))] ++ gs 4 fr cJ 5 F) ++ gs 13 mb cJ 13 (knD kn F o M Lx Bm bn).2.2.1) ++ gs 17 ra cJ 13 (knD kn F o M Lx Bm bn).1) H := hP
  have hD : va_D A ((([(h, rO od fa ot ah te id rt bs 1), (fa, go cO 4 fr), (bs, rB ro le me (knD kn F o M Lx Bm bn).2.2.2), (ro, go cO 17 ra), (le, ki cI 13 (knD kn F o M Lx Bm bn).2.1), (me, go cO 13 mb), (ah, ka cJ 13 (va_cpy ((knD kn F o M Lx Bm bn).2.2.1 k) a 0 0 13))] ++ gs 4 fr cJ 5 F) ++ gs 13 mb cJ 13 (knD kn F o M Lx Bm bn).2.2.1) ++ gs 17 ra cJ 13 (knD kn F o M Lx Bm bn).1) := hD
  exact W.vret hx hb hr (fun t ht hW => ⟨⟨(), rfl, trivial, rc_out ht hP⟩, hS.F ht⟩) hS.2.2 d_O_take_24
set_option maxHeartbeats 4000000 in
set_option maxRecDepth 100000 in
theorem lo_O_series {cJ cO : ClassId} {h fa ot ah te id rt bs : Nat} {od kn : Int} {o : Nat} (hod : od = (o : Int)) (ho3 : o ≤ 3) (ho1 : 1 ≤ o) {fr er : Nat → Nat} {E F : Nat → Nat → ro_K} {T : Nat → ro_K} {zp : Int} {pw : Nat} (hzp : zp = (pw : Int)) (hp : pw ≤ 30) (hx : p.tables.exec = Jvm.exec) (hb : c.code = c_O_series) (hml : c.maxLocals = 11) (hown : s.vm.findClass R_O = some m.cls) (hts : ∀ w ∈ kb, w.before args s = true) (hK : va_K D vC [(cJ, .long), (cO, .array .long)] s) (hN : rc_N s) (hR : 3 ≤ R.frames ∧ 77 ≤ R.locals) (hend : ∀ (H : Heap) (locs : List Loc) (ls : Array Slot), va_P D vC (([(h, rO od fa ot ah te id rt bs kn), (fa, go cO 4 fr), (ot, go cO 4 er), (te, ka cJ 31 (srT E o T (pw + 1 - o)))] ++ gs 4 er cJ 5 E) ++ gs 4 fr cJ 5 F) H → va_D A (([(h, rO od fa ot ah te id rt bs kn), (fa, go cO 4 fr), (ot, go cO 4 er), (te, ka cJ 31 (srT E o T (pw + 1 - o)))] ++ gs 4 er cJ 5 E) ++ gs 4 fr cJ 5 F) → va_S A H0 H locs → lv_has ls 11 [(0, .ref h), (9, .int (iz zp))] → W p l e R s m args below meth c H locs 0 0 Q (F0 m 120 ls [])) : ∀ (q k : Nat) (z : Int) (H : Heap) (locs : List Loc) (ls : Array Slot), z = ((o + k : Nat) : Int) → k + q = pw + 1 - o → va_P D vC (([(h, rO od fa ot ah te id rt bs kn), (fa, go cO 4 fr), (ot, go cO 4 er), (te, ka cJ 31 (srT E o T k))] ++ gs 4 er cJ 5 E) ++ gs 4 fr cJ 5 F) H → va_D A (([(h, rO od fa ot ah te id rt bs kn), (fa, go cO 4 fr), (ot, go cO 4 er), (te, ka cJ 31 (srT E o T k))] ++ gs 4 er cJ 5 E) ++ gs 4 fr cJ 5 F) → va_S A H0 H locs → lv_has ls 11 [(10, .int (iz z)), (0, .ref h), (9, .int (iz zp))] → W p l e R s m args below meth c H locs 0 0 Q (F0 m 94 ls []) := by
  intro q
  induction q with
  | zero =>
    intro k z H locs ls hz hk hP hD hS hl
    have e : k = pw + 1 - o := hk
    subst e
    refine lv_iload hx hb d_O_series_94 (lv_at hl 0 rfl) ?_
    refine lv_iload hx hb d_O_series_96 (lv_at hl 2 rfl) ?_
    refine rz_icmp_gt (tgt := 120) hx hb d_O_series_98 (by decide) (fun hc1 => ?_) (fun hc1 => ?_)
    · exact hend H locs ls hP hD hS (lv_sub hl [1, 2] rfl)
    · omega
  | succ q ih =>
    intro k z H locs ls hz hk hP hD hS hl
    subst hz
    refine lv_iload hx hb d_O_series_94 (lv_at hl 0 rfl) ?_
    refine lv_iload hx hb d_O_series_96 (lv_at hl 2 rfl) ?_
    refine rz_icmp_gt (tgt := 120) hx hb d_O_series_98 (by decide) (fun hc2 => ?_) (fun hc2 => ?_)
    · omega
    · refine lv_aload_n hx hb d_O_series_101 rfl (lv_at hl 1 rfl) ?_
      refine va_get (D := D) (ci := 2) (v := .ref te) (C := R_O) (T := T_O) (N := 9) hx hb hts in_O hown hK hP 0 rfl rfl 4 (by decide) (hts _ kw_87) (fun _ h9 => h9) rfl d_O_series_102 ?_
      refine lv_iload hx hb d_O_series_105 (lv_at hl 0 rfl) ?_
      refine lv_aload_n hx hb d_O_series_107 rfl (lv_at hl 1 rfl) ?_
      refine lv_iload hx hb d_O_series_108 (lv_at hl 0 rfl) ?_
      refine rsT_calll (va_runV (As := [.int (iz ((o + k : Nat) : Int))]) (rest := [.int (iz ((o + k : Nat) : Int)), .ref te]) ⟨hx, hb, hml, hown, hts⟩ (m_O_nextTerm l D cJ cO h fa ot ah te id rt bs od kn er E (srT E o T k) ((o + k : Nat) : Int) o (o + k) hod ho1 ho3 rfl (by omega) (by omega)) (cwV 1 hts (kb_gi (kb_c kw_519 (kb_c kw_521 (kb_c ks_O_nextTerm (kb_c kw_1 (kb_c kw_522 kb_all)))))) rfl rfl rfl (by decide +kernel) ⟨Nat.le_trans (by decide) hR.1, Nat.le_trans (by decide) hR.2⟩) ⟨rc_blind, va_recv hK hP (ci := 2) (q0 := 0) rfl rfl, rs_pre (rs_a1 hP) (rs_aD1 hD) hK hN [0, 3, 2] rfl rfl [0, 1] rfl⟩ rfl rfl hl.1 rfl (lv_room (Nat.le_of_ble_eq_true rfl)) d_O_series_110 ⟨Nat.zero_le _, Nat.zero_le _⟩) (rs_a1 hP) (rs_aD1 hD) hS [0, 3, 2] rfl (fun _ => rfl) (fun _ => gs_adr _ _ _ _ _ _) (fun r3 u4 H locs hw4 hP hD hS => ?_)
      have hP := rs_b1 hP
      have hD := rs_bD1 hD
      subst hw4
      have hP : va_P D vC (([(h, rO od fa ot ah te id rt bs kn), (fa, go cO 4 fr), (ot, go cO 4 er), (te, ka cJ 31 (srT E o T k))] ++ gs 4 er cJ 5 E) ++ gs 4 fr cJ 5 F) H := hP
      have hD : va_D A (([(h, rO od fa ot ah te id rt bs kn), (fa, go cO 4 fr), (ot, go cO 4 er), (te, ka cJ 31 (srT E o T k))] ++ gs 4 er cJ 5 E) ++ gs 4 fr cJ 5 F) := hD
      refine rk_st hx hb hK hP hD hS 3 0 rfl rfl (o + k) d_O_series_113 (fun H locs hP hD hS => ?_)
      have hP : va_P D vC (([(h, rO od fa ot ah te id rt bs kn), (fa, go cO 4 fr), (ot, go cO 4 er), (te, ka cJ 31 (va_up (srT E o T k) (o + k) (ntV E o (srT E o T k) (o + k))))] ++ gs 4 er cJ 5 E) ++ gs 4 fr cJ 5 F) H := hP
      have hD : va_D A (([(h, rO od fa ot ah te id rt bs kn), (fa, go cO 4 fr), (ot, go cO 4 er), (te, ka cJ 31 (va_up (srT E o T k) (o + k) (ntV E o (srT E o T k) (o + k))))] ++ gs 4 er cJ 5 E) ++ gs 4 fr cJ 5 F) := hD
      refine lv_iinc (v := iz (((o + k : Nat) : Int) + 1)) (lv' := [(10, .int (iz (((o + k : Nat) : Int) + 1))), (0, .ref h), (9, .int (iz zp))]) hx hb d_O_series_114 hl (k := 0) rfl (iz_add _ _) (by decide) rfl (fun ls hl => ?_)
      refine lv_goto (tgt := 94) hx hb d_O_series_117 (by decide) ?_
      exact ih (k + 1) _ H locs ls (by omega) (by omega) hP hD hS (lv_sub hl [0, 1, 2] rfl)
def ws_O_series : List Cond := .code y_O_series c_O_series 11 (some .int) :: kb
set_option maxHeartbeats 4000000 in
set_option maxRecDepth 100000 in
/-- series -/
theorem m_O_series (l : Launch) (D : va_G) (cJ cO : ClassId) (h fa ot ah te id rt bs : Nat) (od kn : Int) (fr er : Nat → Nat) (E F : Nat → Nat → ro_K) (T : Nat → ro_K) (va vc vd ve : Int64) (zp : Int) (o : Nat) (hod : od = (o : Int)) (ho3 : o ≤ 3) (ho1 : 1 ≤ o) (pw : Nat) (hzp : zp = (pw : Int)) (hp : pw ≤ 30) (hn : (stE F (ro_k va.toInt) E (o + 1)) o 0 ≠ 0) : Met l y_O_series ws_O_series ({ frames := 3, cells := 0, slots := 0, locals := 77 }) (rc_Pc D vC [(cJ, .long), (cO, .array .long)] [.ref h, .long va, .long vc, .long vd, .long ve, .int (iz zp)] (([(h, rO od fa ot ah te id rt bs kn), (fa, go cO 4 fr), (ot, go cO 4 er), (te, ka cJ 31 T)] ++ gs 4 er cJ 5 E) ++ gs 4 fr cJ 5 F)) (va_Qi (fun (q : Int32) (_ : Unit) => q = iz (((srT (stE F (ro_k va.toInt) E (o + 1)) o (srI T vc vd ve) (pw + 1 - o)) pw).val : Int)) (fun _ t => va_P D vC (([(h, rO od fa ot ah te id rt bs kn), (fa, go cO 4 fr), (ot, go cO 4 er), (te, ka cJ 31 (srT (stE F (ro_k va.toInt) E (o + 1)) o (srI T vc vd ve) (pw + 1 - o)))] ++ gs 4 er cJ 5 (stE F (ro_k va.toInt) E (o + 1))) ++ gs 4 fr cJ 5 F) t.heap) (rc_A (([(h, rO od fa ot ah te id rt bs kn), (fa, go cO 4 fr), (ot, go cO 4 er), (te, ka cJ 31 T)] ++ gs 4 er cJ 5 E) ++ gs 4 fr cJ 5 F))) 0 0 (rc_A (([(h, rO od fa ot ah te id rt bs kn), (fa, go cO 4 fr), (ot, go cO 4 er), (te, ka cJ 31 T)] ++ gs 4 er cJ 5 E) ++ gs 4 fr cJ 5 F)) := by
  refine Met.ofW (cc := c_O_series) (maxL := 11) (ret := (some .int)) (by decide) rfl ?_
  intro p e s m args below meth c s₁ B hml hv
  obtain ⟨rfl, hP, hK, hD0, hN⟩ := hv
  have hx := B.exec
  have hb := B.bytes
  have hr := B.returns
  have hts0 := atoms_spec (ws := ws_O_series) B.pre
  have hts : ∀ w ∈ kb, w.before _ s = true := fun w h => hts0 w (List.mem_cons_of_mem _ h)
  have hown : s.vm.findClass R_O = some m.cls := findClass_of_methodNamed B.named
  have hlocks := B.notSynchronized
  have hD := rc_self hD0
  generalize hAe : rc_A (([(h, rO od fa ot ah te id rt bs kn), (fa, go cO 4 fr), (ot, go cO 4 er), (te, ka cJ 31 T)] ++ gs 4 er cJ 5 E) ++ gs 4 fr cJ 5 F) = A at hD ⊢
  have hS : va_S A s.heap s.heap [] := va_S.rf
  have hl := lv_entry ([.ref h, .long va, .long vc, .long vd, .long ve, .int (iz zp)]) (n := 11) (Nat.le_of_ble_eq_true rfl)
  rw [lg_entry_eq]
  generalize (lg_sl ([.ref h, .long va, .long vc, .long vd, .long ve, .int (iz zp)]) ++ List.replicate (11 - (lg_sl ([.ref h, .long va, .long vc, .long vd, .long ve, .int (iz zp)])).length) Slot.unset).toArray = ls at hl ⊢

  have hl : lv_has ls 11 [(0, .ref h), (1, .long va), (3, .long vc), (5, .long vd), (7, .long ve), (9, .int (iz zp))] := hl
  refine lv_iload hx hb d_O_series_0 (lv_at hl 5 rfl) ?_
  refine rz_if_lt (tgt := 12) hx hb d_O_series_2 (by decide) (fun hc1 => ?_) (fun hc1 => ?_)
  · omega
  · refine lv_iload hx hb d_O_series_5 (lv_at hl 5 rfl) ?_
    refine rz_bipush hx hb d_O_series_7 (by decide) ?_
    refine rz_icmp_lt (tgt := 22) hx hb d_O_series_9 (by decide) (fun hc2 => ?_) (fun hc2 => ?_)
    · refine lv_aload_n hx hb d_O_series_22 rfl (lv_at hl 0 rfl) ?_
      refine lv_lload_n hx hb d_O_series_23 rfl (lv_at hl 1 rfl) ?_
      refine rc_calll (va_runS (As := [.long va]) (rest := [.ref h]) ⟨hx, hb, hml, hown, hts⟩ (m_O_number l D va) (cwS 1 hts (kb_gi (kb_c kw_123 (kb_c kw_124 (kb_c kw_1 (kb_c kw_125 kb_all))))) rfl rfl rfl (by decide +kernel) ⟨Nat.le_of_ble_eq_true rfl, Nat.le_of_ble_eq_true rfl⟩) ⟨rc_blind, rc_pre hP hD hK hN [] rfl rfl [] rfl⟩ rfl rfl hl.1 rfl (lv_room (Nat.le_of_ble_eq_true rfl)) d_O_series_24 ⟨Nat.zero_le _, Nat.zero_le _⟩) hP hD hS [] rfl (fun _ => rfl) (fun r3 u4 H locs hw4 hP hD hS => ?_)
      subst hw4
      have hP : va_P D vC (([(h, rO od fa ot ah te id rt bs kn), (fa, go cO 4 fr), (ot, go cO 4 er), (te, ka cJ 31 T)] ++ gs 4 er cJ 5 E) ++ gs 4 fr cJ 5 F) H := hP
      have hD : va_D A (([(h, rO od fa ot ah te id rt bs kn), (fa, go cO 4 fr), (ot, go cO 4 er), (te, ka cJ 31 T)] ++ gs 4 er cJ 5 E) ++ gs 4 fr cJ 5 F) := hD
      refine rs_callv (va_runV (As := [.long (lk (ro_k va.toInt))]) (rest := []) ⟨hx, hb, hml, hown, hts⟩ (m_O_shiftToOther_S l D cJ cO h fa ot ah te id rt bs od kn fr er E F (ro_k va.toInt) o hod ho3) (cwV 1 hts (kb_gi (kb_c kw_431 (kb_c kw_433 (kb_c ks_O_shiftToOther (kb_c kw_1 (kb_c kw_434 kb_all)))))) rfl rfl rfl (by decide +kernel) ⟨Nat.le_of_ble_eq_true rfl, Nat.le_of_ble_eq_true rfl⟩) ⟨rc_blind, va_recv hK hP (ci := 2) (q0 := 0) rfl rfl, rs_pre (Y := []) (rs_nil (rs_a_2_0 hP)) (rs_nilD (rs_aD_2_0 hD)) hK hN [0, 1, 2] rfl rfl [0, 1] rfl⟩ rfl rfl hl.1 rfl (lv_room (Nat.le_of_ble_eq_true rfl)) d_O_series_27 ⟨Nat.zero_le _, Nat.zero_le _⟩) (rs_a_2_0 hP) (rs_aD_2_0 hD) hS [0, 1, 2] rfl (fun _ => rfl) (fun _ => gs_adr2 (gs_adr _ _ _ _ _ _) (gs_adr _ _ _ _ _ _)) (fun u5 H locs hw5 hP hD hS => ?_)
      have hP := rs_b_2_0 hP
      have hD := rs_bD_2_0 hD
      have hP : va_P D vC (([(h, rO od fa ot ah te id rt bs kn), (fa, go cO 4 fr), (ot, go cO 4 er), (te, ka cJ 31 T)] ++ gs 4 er cJ 5 (stE F (ro_k va.toInt) E (o + 1))) ++ gs 4 fr cJ 5 F) H := hP
      have hD : va_D A (([(h, rO od fa ot ah te id rt bs kn), (fa, go cO 4 fr), (ot, go cO 4 er), (te, ka cJ 31 T)] ++ gs 4 er cJ 5 (stE F (ro_k va.toInt) E (o + 1))) ++ gs 4 fr cJ 5 F) := hD
      refine lv_aload_n hx hb d_O_series_30 rfl (lv_at hl 0 rfl) ?_
      refine va_get (D := D) (ci := 2) (v := .ref ot) (C := R_O) (T := T_O) (N := 9) hx hb hts in_O hown hK hP 0 rfl rfl 2 (by decide) (hts _ kw_85) (fun _ h9 => h9) rfl d_O_series_31 ?_
      refine lv_aload_n hx hb d_O_series_34 rfl (lv_at hl 0 rfl) ?_
      refine va_get (D := D) (ci := 2) (v := .int (iz od)) (C := R_O) (T := T_O) (N := 9) hx hb hts in_O hown hK hP 0 rfl rfl 0 (by decide) (hts _ kw_83) (fun _ h9 => h9) rfl d_O_series_35 ?_
      refine rg_ald hx hb hK hP 2 1 rfl rfl o d_O_series_38 ?_
      refine rz_iconst hx hb d_O_series_39 ?_
      refine rg_ldT hx hb hK hP 0 rfl o 0 d_O_series_40 ?_
      refine lv_lconst (v := lk 0) hx hb d_O_series_41 rfl ?_
      refine rz_lcmp_ne (tgt := 56) hx hb d_O_series_42 d_O_series_43 (by decide) (fun hc6 => ?_) (fun hc6 => ?_)
      · have hc6 : ((stE F (ro_k va.toInt) E (o + 1)) o 0) ≠ 0 := fun z => hc6 (lk_inj.mpr z)
        refine lv_aload_n hx hb d_O_series_56 rfl (lv_at hl 0 rfl) ?_
        refine va_get (D := D) (ci := 2) (v := .ref te) (C := R_O) (T := T_O) (N := 9) hx hb hts in_O hown hK hP 0 rfl rfl 4 (by decide) (hts _ kw_87) (fun _ h9 => h9) rfl d_O_series_57 ?_
        refine rz_iconst hx hb d_O_series_60 ?_
        refine lv_lload_n hx hb d_O_series_61 rfl (lv_at hl 2 rfl) ?_
        refine rc_calll (va_runS (As := [.long vc]) (rest := [.int (iz 0), .ref te]) ⟨hx, hb, hml, hown, hts⟩ (m_O_number l D vc) (cwS 1 hts (kb_gi (kb_c kw_123 (kb_c kw_124 (kb_c kw_1 (kb_c kw_125 kb_all))))) rfl rfl rfl (by decide +kernel) ⟨Nat.le_of_ble_eq_true rfl, Nat.le_of_ble_eq_true rfl⟩) ⟨rc_blind, rc_pre hP hD hK hN [] rfl rfl [] rfl⟩ rfl rfl hl.1 rfl (lv_room (Nat.le_of_ble_eq_true rfl)) d_O_series_62 ⟨Nat.zero_le _, Nat.zero_le _⟩) hP hD hS [] rfl (fun _ => rfl) (fun r7 u8 H locs hw8 hP hD hS => ?_)
        subst hw8
        have hP : va_P D vC (([(h, rO od fa ot ah te id rt bs kn), (fa, go cO 4 fr), (ot, go cO 4 er), (te, ka cJ 31 T)] ++ gs 4 er cJ 5 (stE F (ro_k va.toInt) E (o + 1))) ++ gs 4 fr cJ 5 F) H := hP
        have hD : va_D A (([(h, rO od fa ot ah te id rt bs kn), (fa, go cO 4 fr), (ot, go cO 4 er), (te, ka cJ 31 T)] ++ gs 4 er cJ 5 (stE F (ro_k va.toInt) E (o + 1))) ++ gs 4 fr cJ 5 F) := hD
        refine rk_st hx hb hK hP hD hS 3 0 rfl rfl 0 d_O_series_65 (fun H locs hP hD hS => ?_)
        have hP : va_P D vC (([(h, rO od fa ot ah te id rt bs kn), (fa, go cO 4 fr), (ot, go cO 4 er), (te, ka cJ 31 (va_up T 0 (ro_k vc.toInt)))] ++ gs 4 er cJ 5 (stE F (ro_k va.toInt) E (o + 1))) ++ gs 4 fr cJ 5 F) H := hP
        have hD : va_D A (([(h, rO od fa ot ah te id rt bs kn), (fa, go cO 4 fr), (ot, go cO 4 er), (te, ka cJ 31 (va_up T 0 (ro_k vc.toInt)))] ++ gs 4 er cJ 5 (stE F (ro_k va.toInt) E (o + 1))) ++ gs 4 fr cJ 5 F) := hD
        refine lv_aload_n hx hb d_O_series_66 rfl (lv_at hl 0 rfl) ?_
        refine va_get (D := D) (ci := 2) (v := .ref te) (C := R_O) (T := T_O) (N := 9) hx hb hts in_O hown hK hP 0 rfl rfl 4 (by decide) (hts _ kw_87) (fun _ h9 => h9) rfl d_O_series_67 ?_
        refine rz_iconst hx hb d_O_series_70 ?_
        refine lv_lload hx hb d_O_series_71 (lv_at hl 3 rfl) ?_
        refine rc_calll (va_runS (As := [.long vd]) (rest := [.int (iz 1), .ref te]) ⟨hx, hb, hml, hown, hts⟩ (m_O_number l D vd) (cwS 1 hts (kb_gi (kb_c kw_123 (kb_c kw_124 (kb_c kw_1 (kb_c kw_125 kb_all))))) rfl rfl rfl (by decide +kernel) ⟨Nat.le_of_ble_eq_true rfl, Nat.le_of_ble_eq_true rfl⟩) ⟨rc_blind, rc_pre hP hD hK hN [] rfl rfl [] rfl⟩ rfl rfl hl.1 rfl (lv_room (Nat.le_of_ble_eq_true rfl)) d_O_series_73 ⟨Nat.zero_le _, Nat.zero_le _⟩) hP hD hS [] rfl (fun _ => rfl) (fun r9 u10 H locs hw10 hP hD hS => ?_)
        subst hw10
        have hP : va_P D vC (([(h, rO od fa ot ah te id rt bs kn), (fa, go cO 4 fr), (ot, go cO 4 er), (te, ka cJ 31 (va_up T 0 (ro_k vc.toInt)))] ++ gs 4 er cJ 5 (stE F (ro_k va.toInt) E (o + 1))) ++ gs 4 fr cJ 5 F) H := hP
        have hD : va_D A (([(h, rO od fa ot ah te id rt bs kn), (fa, go cO 4 fr), (ot, go cO 4 er), (te, ka cJ 31 (va_up T 0 (ro_k vc.toInt)))] ++ gs 4 er cJ 5 (stE F (ro_k va.toInt) E (o + 1))) ++ gs 4 fr cJ 5 F) := hD
        refine rk_st hx hb hK hP hD hS 3 0 rfl rfl 1 d_O_series_76 (fun H locs hP hD hS => ?_)
        have hP : va_P D vC (([(h, rO od fa ot ah te id rt bs kn), (fa, go cO 4 fr), (ot, go cO 4 er), (te, ka cJ 31 (va_up (va_up T 0 (ro_k vc.toInt)) 1 (ro_k vd.toInt)))] ++ gs 4 er cJ 5 (stE F (ro_k va.toInt) E (o + 1))) ++ gs 4 fr cJ 5 F) H := hP
        have hD : va_D A (([(h, rO od fa ot ah te id rt bs kn), (fa, go cO 4 fr), (ot, go cO 4 er), (te, ka cJ 31 (va_up (va_up T 0 (ro_k vc.toInt)) 1 (ro_k vd.toInt)))] ++ gs 4 er cJ 5 (stE F (ro_k va.toInt) E (o + 1))) ++ gs 4 fr cJ 5 F) := hD
        refine lv_aload_n hx hb d_O_series_77 rfl (lv_at hl 0 rfl) ?_
        refine va_get (D := D) (ci := 2) (v := .ref te) (C := R_O) (T := T_O) (N := 9) hx hb hts in_O hown hK hP 0 rfl rfl 4 (by decide) (hts _ kw_87) (fun _ h9 => h9) rfl d_O_series_78 ?_
        refine rz_iconst hx hb d_O_series_81 ?_
        refine lv_lload hx hb d_O_series_82 (lv_at hl 4 rfl) ?_
        refine rc_calll (va_runS (As := [.long ve]) (rest := [.int (iz 2), .ref te]) ⟨hx, hb, hml, hown, hts⟩ (m_O_number l D ve) (cwS 1 hts (kb_gi (kb_c kw_123 (kb_c kw_124 (kb_c kw_1 (kb_c kw_125 kb_all))))) rfl rfl rfl (by decide +kernel) ⟨Nat.le_of_ble_eq_true rfl, Nat.le_of_ble_eq_true rfl⟩) ⟨rc_blind, rc_pre hP hD hK hN [] rfl rfl [] rfl⟩ rfl rfl hl.1 rfl (lv_room (Nat.le_of_ble_eq_true rfl)) d_O_series_84 ⟨Nat.zero_le _, Nat.zero_le _⟩) hP hD hS [] rfl (fun _ => rfl) (fun r11 u12 H locs hw12 hP hD hS => ?_)
        subst hw12
        have hP : va_P D vC (([(h, rO od fa ot ah te id rt bs kn), (fa, go cO 4 fr), (ot, go cO 4 er), (te, ka cJ 31 (va_up (va_up T 0 (ro_k vc.toInt)) 1 (ro_k vd.toInt)))] ++ gs 4 er cJ 5 (stE F (ro_k va.toInt) E (o + 1))) ++ gs 4 fr cJ 5 F) H := hP
        have hD : va_D A (([(h, rO od fa ot ah te id rt bs kn), (fa, go cO 4 fr), (ot, go cO 4 er), (te, ka cJ 31 (va_up (va_up T 0 (ro_k vc.toInt)) 1 (ro_k vd.toInt)))] ++ gs 4 er cJ 5 (stE F (ro_k va.toInt) E (o + 1))) ++ gs 4 fr cJ 5 F) := hD
        refine rk_st hx hb hK hP hD hS 3 0 rfl rfl 2 d_O_series_87 (fun H locs hP hD hS => ?_)
        have hP : va_P D vC (([(h, rO od fa ot ah te id rt bs kn), (fa, go cO 4 fr), (ot, go cO 4 er), (te, ka cJ 31 (va_up (va_up (va_up T 0 (ro_k vc.toInt)) 1 (ro_k vd.toInt)) 2 (ro_k ve.toInt)))] ++ gs 4 er cJ 5 (stE F (ro_k va.toInt) E (o + 1))) ++ gs 4 fr cJ 5 F) H := hP
        have hD : va_D A (([(h, rO od fa ot ah te id rt bs kn), (fa, go cO 4 fr), (ot, go cO 4 er), (te, ka cJ 31 (va_up (va_up (va_up T 0 (ro_k vc.toInt)) 1 (ro_k vd.toInt)) 2 (ro_k ve.toInt)))] ++ gs 4 er cJ 5 (stE F (ro_k va.toInt) E (o + 1))) ++ gs 4 fr cJ 5 F) := hD
        refine lv_aload_n hx hb d_O_series_88 rfl (lv_at hl 0 rfl) ?_
        refine va_get (D := D) (ci := 2) (v := .int (iz od)) (C := R_O) (T := T_O) (N := 9) hx hb hts in_O hown hK hP 0 rfl rfl 0 (by decide) (hts _ kw_83) (fun _ h9 => h9) rfl d_O_series_89 ?_
        refine lv_istore (lv' := [(10, .int (iz od)), (0, .ref h), (1, .long va), (3, .long vc), (5, .long vd), (7, .long ve), (9, .int (iz zp))]) hx hb d_O_series_92 hl (by decide) rfl (fun ls hl => ?_)
        refine lo_O_series (F := F) (E := (stE F (ro_k va.toInt) E (o + 1))) (T := (srI T vc vd ve)) hod ho3 ho1 hzp hp hx hb hml hown hts hK hN ⟨Nat.le_of_ble_eq_true rfl, Nat.le_of_ble_eq_true rfl⟩ (fun H locs ls hP hD hS hl => ?_) (pw + 1 - o) 0 _ _ _ ls (by omega) (by omega) hP hD hS (lv_sub hl [0, 1, 6] rfl)
        refine lv_aload_n hx hb d_O_series_120 rfl (lv_at hl 0 rfl) ?_
        refine va_get (D := D) (ci := 2) (v := .ref te) (C := R_O) (T := T_O) (N := 9) hx hb hts in_O hown hK hP 0 rfl rfl 4 (by decide) (hts _ kw_87) (fun _ h9 => h9) rfl d_O_series_121 ?_
        refine lv_iload hx hb d_O_series_124 (lv_at hl 1 rfl) ?_
        refine rk_ld hx hb hK hP 3 0 rfl rfl pw d_O_series_126 ?_
        refine rz_l2i hx hb d_O_series_127 ?_
        exact W.iret hx hb hr (fun t ht hW => ⟨⟨_, (), rfl, rfl, rc_out ht hP⟩, hS.F ht⟩) hS.2.2 d_O_series_128
      · have hc6 : ((stE F (ro_k va.toInt) E (o + 1)) o 0) = 0 := lk_inj.mp hc6
        exact absurd (by assumption) hn
    · omega
end WK
