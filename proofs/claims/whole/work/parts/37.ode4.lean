section WK
variable {p : Program} {l : Launch} {e : Env} {R : Room} {s : State} {m : MethodId} {args : Array Value} {below : List Frame} {meth : Method} {c : Code} {H : Heap} {locs : List Loc} {cells slots : Nat} {Q : State → Prop} {D : va_G} {A : Nat → Prop} {H0 : Heap}
/-- where a call goes: the number a, or (without end) none -/
def gtB (ze : Int) (a : Int64) : ro_K := if ze = 0 then ro_k a.toInt else 0
def gtE (F : Nat → Nat → ro_K) (o : Nat) (ze : Int) (a : Int64) (E : Nat → Nat → ro_K) : Nat → Nat → ro_K := stE F (gtB ze a) E (o + 1)
def gtL (E : Nat → Nat → ro_K) (o : Nat) (ze : Int) : Int := if ze = 0 then lgL E o (4 + o) else ggL E o (4 + o)
theorem gtL_in (E : Nat → Nat → ro_K) (o : Nat) (ze : Int) : -(o : Int) ≤ gtL E o ze ∧ gtL E o ze ≤ 4 := by
  unfold gtL
  by_cases h : ze = 0
  · rw [if_pos h]; have := lgL_in E o (4 + o); omega
  · rw [if_neg h]; have := ggL_in E o (4 + o); omega
/-- the indicial polynomial -/
def inF (E : Nat → Nat → ro_K) (g : Int) (J : Nat → ro_K) : Nat → ro_K := va_up (va_up (va_up (va_up (kfl J 0 5) 0 (oat E 0 g)) 1 ((oat E 1 (g + 1) - oat E 2 (g + 2)) + (2 : ro_K) * oat E 3 (g + 3))) 2 (oat E 2 (g + 2) - (3 : ro_K) * oat E 3 (g + 3))) 3 (oat E 3 (g + 3))
theorem inF_up (E : Nat → Nat → ro_K) (g : Int) {J : Nat → ro_K} (hJ : J 4 = 0) : va_up (va_up (va_up (va_up J 0 (oat E 0 g)) 1 ((oat E 1 (g + 1) - oat E 2 (g + 2)) + (2 : ro_K) * oat E 3 (g + 3))) 2 (oat E 2 (g + 2) - (3 : ro_K) * oat E 3 (g + 3))) 3 (oat E 3 (g + 3)) = inF E g J := by
  funext j
  unfold inF
  by_cases h3 : j = 3
  · subst h3; rw [va_up_self, va_up_self]
  · rw [va_up_ne _ _ h3, va_up_ne _ _ h3]
    by_cases h2 : j = 2
    · subst h2; rw [va_up_self, va_up_self]
    · rw [va_up_ne _ _ h2, va_up_ne _ _ h2]
      by_cases h1 : j = 1
      · subst h1; rw [va_up_self, va_up_self]
      · rw [va_up_ne _ _ h1, va_up_ne _ _ h1]
        by_cases h0 : j = 0
        · subst h0; rw [va_up_self, va_up_self]
        · rw [va_up_ne _ _ h0, va_up_ne _ _ h0]
          unfold kfl
          by_cases h5 : j < 5
          · rw [if_pos h5, show j = 4 by omega]; exact hJ
          · rw [if_neg h5]
/-- the rows of the system, as they are entered -/
def enR (F : Nat → Nat → ro_K) (o : Nat) (M : Nat → Nat → ro_K) (j : Nat) : Nat → Nat → Nat → ro_K
  | 0 => M
  | n + 1 => up2 (enR F o M j n) j n (shS F (n : Int) ((j : Int) - (n : Int)) (o + 1))
def enM (F : Nat → Nat → ro_K) (o : Nat) (M : Nat → Nat → ro_K) : Nat → Nat → Nat → ro_K
  | 0 => M
  | k + 1 => enR F o (enM F o M k) k 13
abbrev rKB : Type := (Nat → Nat → ro_K) × (Nat → Int) × (Nat → Nat → ro_K) × Int
def knN (F : Nat → Nat → ro_K) (o : Nat) (M : Nat → Nat → ro_K) (L : Nat → Int) (B : Nat → Nat → ro_K) : rKB := ((rdL 13 0 0 (enM F o M 17) L).1, (rdL 13 0 0 (enM F o M 17) L).2, (svL (rdL 13 0 0 (enM F o M 17) L).1 (rdL 13 0 0 (enM F o M 17) L).2 13 0 B).2, ((svL (rdL 13 0 0 (enM F o M 17) L).1 (rdL 13 0 0 (enM F o M 17) L).2 13 0 B).1 : Int))
def knD (kn : Int) (F : Nat → Nat → ro_K) (o : Nat) (M : Nat → Nat → ro_K) (L : Nat → Int) (B : Nat → Nat → ro_K) (bn : Int) : rKB := if kn = 0 then knN F o M L B else (M, L, B, bn)
def ws_O_goTo : List Cond := .code y_O_goTo c_O_goTo 4 (some .int) :: kb
set_option maxHeartbeats 4000000 in
set_option maxRecDepth 100000 in
/-- the level -/
theorem m_O_goTo (l : Launch) (D : va_G) (cJ cO : ClassId) (h fa ot ah te id rt bs : Nat) (od kn : Int) (fr er : Nat → Nat) (E F : Nat → Nat → ro_K) (ze : Int) (v : Int64) (o : Nat) (hod : od = (o : Int)) (ho3 : o ≤ 3) (hz0 : 0 ≤ ze) (hz1 : ze ≤ 1) (haz : azB F (o + 1) = false) : Met l y_O_goTo ws_O_goTo ({ frames := 3, cells := 0, slots := 0, locals := 65 }) (rc_Pc D vC [(cJ, .long), (cO, .array .long)] [.ref h, .int (iz ze), .long v] (([(h, rO od fa ot ah te id rt bs kn), (fa, go cO 4 fr), (ot, go cO 4 er)] ++ gs 4 er cJ 5 E) ++ gs 4 fr cJ 5 F)) (va_Qi (fun (q : Int32) (_ : Unit) => q = iz (gtL (gtE F o ze v E) o ze)) (fun _ t => va_P D vC (([(h, rO od fa ot ah te id rt bs kn), (fa, go cO 4 fr), (ot, go cO 4 er)] ++ gs 4 er cJ 5 (gtE F o ze v E)) ++ gs 4 fr cJ 5 F) t.heap) (rc_A (([(h, rO od fa ot ah te id rt bs kn), (fa, go cO 4 fr), (ot, go cO 4 er)] ++ gs 4 er cJ 5 E) ++ gs 4 fr cJ 5 F))) 0 0 (rc_A (([(h, rO od fa ot ah te id rt bs kn), (fa, go cO 4 fr), (ot, go cO 4 er)] ++ gs 4 er cJ 5 E) ++ gs 4 fr cJ 5 F)) := by
  refine Met.ofW (cc := c_O_goTo) (maxL := 4) (ret := (some .int)) (by decide) rfl ?_
  intro p e s m args below meth c s₁ B hml hv
  obtain ⟨rfl, hP, hK, hD0, hN⟩ := hv
  have hx := B.exec
  have hb := B.bytes
  have hr := B.returns
  have hts0 := atoms_spec (ws := ws_O_goTo) B.pre
  have hts : ∀ w ∈ kb, w.before _ s = true := fun w h => hts0 w (List.mem_cons_of_mem _ h)
  have hown : s.vm.findClass R_O = some m.cls := findClass_of_methodNamed B.named
  have hlocks := B.notSynchronized
  have hD := rc_self hD0
  generalize hAe : rc_A (([(h, rO od fa ot ah te id rt bs kn), (fa, go cO 4 fr), (ot, go cO 4 er)] ++ gs 4 er cJ 5 E) ++ gs 4 fr cJ 5 F) = A at hD ⊢
  have hS : va_S A s.heap s.heap [] := va_S.rf
  have hl := lv_entry ([.ref h, .int (iz ze), .long v]) (n := 4) (Nat.le_of_ble_eq_true rfl)
  rw [lg_entry_eq]
  generalize (lg_sl ([.ref h, .int (iz ze), .long v]) ++ List.replicate (4 - (lg_sl ([.ref h, .int (iz ze), .long v])).length) Slot.unset).toArray = ls at hl ⊢

  have hl : lv_has ls 4 [(0, .ref h), (1, .int (iz ze)), (2, .long v)] := hl
  refine lv_aload_n hx hb d_O_goTo_0 rfl (lv_at hl 0 rfl) ?_
  refine rs_calli (va_runV (As := []) (rest := []) ⟨hx, hb, hml, hown, hts⟩ (m_O_allZero l D cJ cO h fa ot ah te id rt bs od kn fr F o hod ho3) (cwV 0 hts (kb_gi (kb_c kw_426 (kb_c kw_428 (kb_c ks_O_allZero (kb_c kw_1 (kb_c kw_429 kb_all)))))) rfl rfl rfl (by decide +kernel) ⟨Nat.le_of_ble_eq_true rfl, Nat.le_of_ble_eq_true rfl⟩) ⟨rc_blind, va_recv hK hP (ci := 2) (q0 := 0) rfl rfl, rs_pre (Y := []) (rs_nil hP) (rs_nilD hD) hK hN [0, 1] rfl rfl [0, 1] rfl⟩ rfl rfl hl.1 rfl (lv_room (Nat.le_of_ble_eq_true rfl)) d_O_goTo_1 ⟨Nat.zero_le _, Nat.zero_le _⟩) hP hD hS [0, 1] rfl (fun _ => rfl) (fun _ => gs_adr _ _ _ _ _ _) (fun r1 u2 H locs hw2 hP hD hS => ?_)
  rw [haz] at hw2
  have hw2 : r1 = iz 0 := hw2
  subst hw2
  have hP : va_P D vC (([(h, rO od fa ot ah te id rt bs kn), (fa, go cO 4 fr), (ot, go cO 4 er)] ++ gs 4 er cJ 5 E) ++ gs 4 fr cJ 5 F) H := hP
  have hD : va_D A (([(h, rO od fa ot ah te id rt bs kn), (fa, go cO 4 fr), (ot, go cO 4 er)] ++ gs 4 er cJ 5 E) ++ gs 4 fr cJ 5 F) := hD
  refine rz_if_eq (tgt := 17) hx hb d_O_goTo_4 (by decide) (fun _ => ?_) (fun hc => absurd rfl hc)
  refine lv_aload_n hx hb d_O_goTo_17 rfl (lv_at hl 0 rfl) ?_
  refine lv_iload_n hx hb d_O_goTo_18 rfl (lv_at hl 1 rfl) ?_
  refine rz_if_eq (tgt := 26) hx hb d_O_goTo_19 (by decide) (fun hc3 => ?_) (fun hc3 => ?_)
  · refine lv_lload_n hx hb d_O_goTo_26 rfl (lv_at hl 2 rfl) ?_
    refine rc_calll (va_runS (As := [.long v]) (rest := [.ref h]) ⟨hx, hb, hml, hown, hts⟩ (m_O_number l D v) (cwS 1 hts (kb_gi (kb_c kw_123 (kb_c kw_124 (kb_c kw_1 (kb_c kw_125 kb_all))))) rfl rfl rfl (by decide +kernel) ⟨Nat.le_of_ble_eq_true rfl, Nat.le_of_ble_eq_true rfl⟩) ⟨rc_blind, rc_pre hP hD hK hN [] rfl rfl [] rfl⟩ rfl rfl hl.1 rfl (lv_room (Nat.le_of_ble_eq_true rfl)) d_O_goTo_27 ⟨Nat.zero_le _, Nat.zero_le _⟩) hP hD hS [] rfl (fun _ => rfl) (fun r4 u5 H locs hw5 hP hD hS => ?_)
    subst hw5
    have hP : va_P D vC (([(h, rO od fa ot ah te id rt bs kn), (fa, go cO 4 fr), (ot, go cO 4 er)] ++ gs 4 er cJ 5 E) ++ gs 4 fr cJ 5 F) H := hP
    have hD : va_D A (([(h, rO od fa ot ah te id rt bs kn), (fa, go cO 4 fr), (ot, go cO 4 er)] ++ gs 4 er cJ 5 E) ++ gs 4 fr cJ 5 F) := hD
    rw [show (ro_k v.toInt) = gtB ze v from (if_pos (by assumption)).symm]
    refine rs_callv (va_runV (As := [.long (lk (gtB ze v))]) (rest := []) ⟨hx, hb, hml, hown, hts⟩ (m_O_shiftToOther_S l D cJ cO h fa ot ah te id rt bs od kn fr er E F (gtB ze v) o hod ho3) (cwV 1 hts (kb_gi (kb_c kw_431 (kb_c kw_433 (kb_c ks_O_shiftToOther (kb_c kw_1 (kb_c kw_434 kb_all)))))) rfl rfl rfl (by decide +kernel) ⟨Nat.le_of_ble_eq_true rfl, Nat.le_of_ble_eq_true rfl⟩) ⟨rc_blind, va_recv hK hP (ci := 2) (q0 := 0) rfl rfl, rs_pre (Y := []) (rs_nil (rs_a_2_0 hP)) (rs_nilD (rs_aD_2_0 hD)) hK hN [0, 1, 2] rfl rfl [0, 1] rfl⟩ rfl rfl hl.1 rfl (lv_room (Nat.le_of_ble_eq_true rfl)) d_O_goTo_30 ⟨Nat.zero_le _, Nat.zero_le _⟩) (rs_a_2_0 hP) (rs_aD_2_0 hD) hS [0, 1, 2] rfl (fun _ => rfl) (fun _ => gs_adr2 (gs_adr _ _ _ _ _ _) (gs_adr _ _ _ _ _ _)) (fun u6 H locs hw6 hP hD hS => ?_)
    have hP := rs_b_2_0 hP
    have hD := rs_bD_2_0 hD
    have hP : va_P D vC (([(h, rO od fa ot ah te id rt bs kn), (fa, go cO 4 fr), (ot, go cO 4 er)] ++ gs 4 er cJ 5 (stE F (gtB ze v) E (o + 1))) ++ gs 4 fr cJ 5 F) H := hP
    have hD : va_D A (([(h, rO od fa ot ah te id rt bs kn), (fa, go cO 4 fr), (ot, go cO 4 er)] ++ gs 4 er cJ 5 (stE F (gtB ze v) E (o + 1))) ++ gs 4 fr cJ 5 F) := hD
    refine lv_iload_n hx hb d_O_goTo_33 rfl (lv_at hl 1 rfl) ?_
    by_cases hze : ze = 0
    · refine rz_if_eq (tgt := 44) hx hb d_O_goTo_34 (by decide) (fun hc => ?_) (fun hc => absurd hze hc)
      refine lv_aload_n hx hb d_O_goTo_44 rfl (lv_at hl 0 rfl) ?_
      refine rsT_calli (va_runV (As := []) (rest := []) ⟨hx, hb, hml, hown, hts⟩ (m_O_leastGap l D cJ cO h fa ot ah te id rt bs od kn er (stE F (gtB ze v) E (o + 1)) o hod ho3) (cwV 0 hts (kb_gi (kb_c kw_447 (kb_c kw_449 (kb_c ks_O_leastGap (kb_c kw_1 (kb_c kw_450 kb_all)))))) rfl rfl rfl (by decide +kernel) ⟨Nat.le_of_ble_eq_true rfl, Nat.le_of_ble_eq_true rfl⟩) ⟨rc_blind, va_recv hK hP (ci := 2) (q0 := 0) rfl rfl, rs_pre (rs_a1 hP) (rs_aD1 hD) hK hN [0, 2] rfl rfl [0, 1] rfl⟩ rfl rfl hl.1 rfl (lv_room (Nat.le_of_ble_eq_true rfl)) d_O_goTo_45 ⟨Nat.zero_le _, Nat.zero_le _⟩) (rs_a1 hP) (rs_aD1 hD) hS [0, 2] rfl (fun _ => rfl) (fun _ => gs_adr _ _ _ _ _ _) (fun r7 u8 H locs hw8 hP hD hS => ?_)
      have hP := rs_b1 hP
      have hD := rs_bD1 hD
      subst hw8
      have hP : va_P D vC (([(h, rO od fa ot ah te id rt bs kn), (fa, go cO 4 fr), (ot, go cO 4 er)] ++ gs 4 er cJ 5 (stE F (gtB ze v) E (o + 1))) ++ gs 4 fr cJ 5 F) H := hP
      have hD : va_D A (([(h, rO od fa ot ah te id rt bs kn), (fa, go cO 4 fr), (ot, go cO 4 er)] ++ gs 4 er cJ 5 (stE F (gtB ze v) E (o + 1))) ++ gs 4 fr cJ 5 F) := hD
      exact W.iret hx hb hr (fun t ht hW => ⟨⟨_, (), rfl, (by unfold gtL; rw [if_pos (by omega)]; rfl), rc_out ht hP⟩, hS.F ht⟩) hS.2.2 d_O_goTo_48
    · refine rz_if_eq (tgt := 44) hx hb d_O_goTo_34 (by decide) (fun hc => absurd hc hze) (fun hc => ?_)
      refine lv_aload_n hx hb d_O_goTo_37 rfl (lv_at hl 0 rfl) ?_
      refine rsT_calli (va_runV (As := []) (rest := []) ⟨hx, hb, hml, hown, hts⟩ (m_O_greatestGap l D cJ cO h fa ot ah te id rt bs od kn er (stE F (gtB ze v) E (o + 1)) o hod ho3) (cwV 0 hts (kb_gi (kb_c kw_435 (kb_c kw_437 (kb_c ks_O_greatestGap (kb_c kw_1 (kb_c kw_438 kb_all)))))) rfl rfl rfl (by decide +kernel) ⟨Nat.le_of_ble_eq_true rfl, Nat.le_of_ble_eq_true rfl⟩) ⟨rc_blind, va_recv hK hP (ci := 2) (q0 := 0) rfl rfl, rs_pre (rs_a1 hP) (rs_aD1 hD) hK hN [0, 2] rfl rfl [0, 1] rfl⟩ rfl rfl hl.1 rfl (lv_room (Nat.le_of_ble_eq_true rfl)) d_O_goTo_38 ⟨Nat.zero_le _, Nat.zero_le _⟩) (rs_a1 hP) (rs_aD1 hD) hS [0, 2] rfl (fun _ => rfl) (fun _ => gs_adr _ _ _ _ _ _) (fun r9 u10 H locs hw10 hP hD hS => ?_)
      have hP := rs_b1 hP
      have hD := rs_bD1 hD
      subst hw10
      have hP : va_P D vC (([(h, rO od fa ot ah te id rt bs kn), (fa, go cO 4 fr), (ot, go cO 4 er)] ++ gs 4 er cJ 5 (stE F (gtB ze v) E (o + 1))) ++ gs 4 fr cJ 5 F) H := hP
      have hD : va_D A (([(h, rO od fa ot ah te id rt bs kn), (fa, go cO 4 fr), (ot, go cO 4 er)] ++ gs 4 er cJ 5 (stE F (gtB ze v) E (o + 1))) ++ gs 4 fr cJ 5 F) := hD
      refine lv_goto (tgt := 48) hx hb d_O_goTo_41 (by decide) ?_
      exact W.iret hx hb hr (fun t ht hW => ⟨⟨_, (), rfl, (by unfold gtL; rw [if_neg (by omega)]; rfl), rc_out ht hP⟩, hS.F ht⟩) hS.2.2 d_O_goTo_48
  · refine lv_lconst (v := lk 0) hx hb d_O_goTo_22 rfl ?_
    refine lv_goto (tgt := 30) hx hb d_O_goTo_23 (by decide) ?_
    rw [show (0 : ro_K) = gtB ze v from (if_neg (by assumption)).symm]
    refine rs_callv (va_runV (As := [.long (lk (gtB ze v))]) (rest := []) ⟨hx, hb, hml, hown, hts⟩ (m_O_shiftToOther_S l D cJ cO h fa ot ah te id rt bs od kn fr er E F (gtB ze v) o hod ho3) (cwV 1 hts (kb_gi (kb_c kw_431 (kb_c kw_433 (kb_c ks_O_shiftToOther (kb_c kw_1 (kb_c kw_434 kb_all)))))) rfl rfl rfl (by decide +kernel) ⟨Nat.le_of_ble_eq_true rfl, Nat.le_of_ble_eq_true rfl⟩) ⟨rc_blind, va_recv hK hP (ci := 2) (q0 := 0) rfl rfl, rs_pre (Y := []) (rs_nil (rs_a_2_0 hP)) (rs_nilD (rs_aD_2_0 hD)) hK hN [0, 1, 2] rfl rfl [0, 1] rfl⟩ rfl rfl hl.1 rfl (lv_room (Nat.le_of_ble_eq_true rfl)) d_O_goTo_30 ⟨Nat.zero_le _, Nat.zero_le _⟩) (rs_a_2_0 hP) (rs_aD_2_0 hD) hS [0, 1, 2] rfl (fun _ => rfl) (fun _ => gs_adr2 (gs_adr _ _ _ _ _ _) (gs_adr _ _ _ _ _ _)) (fun u11 H locs hw11 hP hD hS => ?_)
    have hP := rs_b_2_0 hP
    have hD := rs_bD_2_0 hD
    have hP : va_P D vC (([(h, rO od fa ot ah te id rt bs kn), (fa, go cO 4 fr), (ot, go cO 4 er)] ++ gs 4 er cJ 5 (stE F (gtB ze v) E (o + 1))) ++ gs 4 fr cJ 5 F) H := hP
    have hD : va_D A (([(h, rO od fa ot ah te id rt bs kn), (fa, go cO 4 fr), (ot, go cO 4 er)] ++ gs 4 er cJ 5 (stE F (gtB ze v) E (o + 1))) ++ gs 4 fr cJ 5 F) := hD
    refine lv_iload_n hx hb d_O_goTo_33 rfl (lv_at hl 1 rfl) ?_
    by_cases hze : ze = 0
    · refine rz_if_eq (tgt := 44) hx hb d_O_goTo_34 (by decide) (fun hc => ?_) (fun hc => absurd hze hc)
      refine lv_aload_n hx hb d_O_goTo_44 rfl (lv_at hl 0 rfl) ?_
      refine rsT_calli (va_runV (As := []) (rest := []) ⟨hx, hb, hml, hown, hts⟩ (m_O_leastGap l D cJ cO h fa ot ah te id rt bs od kn er (stE F (gtB ze v) E (o + 1)) o hod ho3) (cwV 0 hts (kb_gi (kb_c kw_447 (kb_c kw_449 (kb_c ks_O_leastGap (kb_c kw_1 (kb_c kw_450 kb_all)))))) rfl rfl rfl (by decide +kernel) ⟨Nat.le_of_ble_eq_true rfl, Nat.le_of_ble_eq_true rfl⟩) ⟨rc_blind, va_recv hK hP (ci := 2) (q0 := 0) rfl rfl, rs_pre (rs_a1 hP) (rs_aD1 hD) hK hN [0, 2] rfl rfl [0, 1] rfl⟩ rfl rfl hl.1 rfl (lv_room (Nat.le_of_ble_eq_true rfl)) d_O_goTo_45 ⟨Nat.zero_le _, Nat.zero_le _⟩) (rs_a1 hP) (rs_aD1 hD) hS [0, 2] rfl (fun _ => rfl) (fun _ => gs_adr _ _ _ _ _ _) (fun r12 u13 H locs hw13 hP hD hS => ?_)
      have hP := rs_b1 hP
      have hD := rs_bD1 hD
      subst hw13
      have hP : va_P D vC (([(h, rO od fa ot ah te id rt bs kn), (fa, go cO 4 fr), (ot, go cO 4 er)] ++ gs 4 er cJ 5 (stE F (gtB ze v) E (o + 1))) ++ gs 4 fr cJ 5 F) H := hP
      have hD : va_D A (([(h, rO od fa ot ah te id rt bs kn), (fa, go cO 4 fr), (ot, go cO 4 er)] ++ gs 4 er cJ 5 (stE F (gtB ze v) E (o + 1))) ++ gs 4 fr cJ 5 F) := hD
      exact W.iret hx hb hr (fun t ht hW => ⟨⟨_, (), rfl, (by unfold gtL; rw [if_pos (by omega)]; rfl), rc_out ht hP⟩, hS.F ht⟩) hS.2.2 d_O_goTo_48
    · refine rz_if_eq (tgt := 44) hx hb d_O_goTo_34 (by decide) (fun hc => absurd hc hze) (fun hc => ?_)
      refine lv_aload_n hx hb d_O_goTo_37 rfl (lv_at hl 0 rfl) ?_
      refine rsT_calli (va_runV (As := []) (rest := []) ⟨hx, hb, hml, hown, hts⟩ (m_O_greatestGap l D cJ cO h fa ot ah te id rt bs od kn er (stE F (gtB ze v) E (o + 1)) o hod ho3) (cwV 0 hts (kb_gi (kb_c kw_435 (kb_c kw_437 (kb_c ks_O_greatestGap (kb_c kw_1 (kb_c kw_438 kb_all)))))) rfl rfl rfl (by decide +kernel) ⟨Nat.le_of_ble_eq_true rfl, Nat.le_of_ble_eq_true rfl⟩) ⟨rc_blind, va_recv hK hP (ci := 2) (q0 := 0) rfl rfl, rs_pre (rs_a1 hP) (rs_aD1 hD) hK hN [0, 2] rfl rfl [0, 1] rfl⟩ rfl rfl hl.1 rfl (lv_room (Nat.le_of_ble_eq_true rfl)) d_O_goTo_38 ⟨Nat.zero_le _, Nat.zero_le _⟩) (rs_a1 hP) (rs_aD1 hD) hS [0, 2] rfl (fun _ => rfl) (fun _ => gs_adr _ _ _ _ _ _) (fun r14 u15 H locs hw15 hP hD hS => ?_)
      have hP := rs_b1 hP
      have hD := rs_bD1 hD
      subst hw15
      have hP : va_P D vC (([(h, rO od fa ot ah te id rt bs kn), (fa, go cO 4 fr), (ot, go cO 4 er)] ++ gs 4 er cJ 5 (stE F (gtB ze v) E (o + 1))) ++ gs 4 fr cJ 5 F) H := hP
      have hD : va_D A (([(h, rO od fa ot ah te id rt bs kn), (fa, go cO 4 fr), (ot, go cO 4 er)] ++ gs 4 er cJ 5 (stE F (gtB ze v) E (o + 1))) ++ gs 4 fr cJ 5 F) := hD
      refine lv_goto (tgt := 48) hx hb d_O_goTo_41 (by decide) ?_
      exact W.iret hx hb hr (fun t ht hW => ⟨⟨_, (), rfl, (by unfold gtL; rw [if_neg (by omega)]; rfl), rc_out ht hP⟩, hS.F ht⟩) hS.2.2 d_O_goTo_48
set_option maxHeartbeats 4000000 in
set_option maxRecDepth 100000 in
theorem m_O_goTo_S (l : Launch) (D : va_G) (cJ cO : ClassId) (h fa ot ah te id rt bs : Nat) (od kn : Int) (fr er : Nat → Nat) (E F : Nat → Nat → ro_K) (ze : Int) (v : Int64) (o : Nat) (hod : od = (o : Int)) (ho3 : o ≤ 3) (hz0 : 0 ≤ ze) (hz1 : ze ≤ 1) (haz : azB F (o + 1) = false) : Met l y_O_goTo ws_O_goTo ({ frames := 3, cells := 0, slots := 0, locals := 65 }) (rc_Pc D vC [(cJ, .long), (cO, .array .long)] [.ref h, .int (iz ze), .long v] ([(h, rO od fa ot ah te id rt bs kn), (fa, go cO 4 fr), (ot, go cO 4 er)] ++ (gs 4 er cJ 5 E ++ (gs 4 fr cJ 5 F)))) (va_Qi (fun (q : Int32) (_ : Unit) => q = iz (gtL (gtE F o ze v E) o ze)) (fun _ t => va_P D vC ([(h, rO od fa ot ah te id rt bs kn), (fa, go cO 4 fr), (ot, go cO 4 er)] ++ (gs 4 er cJ 5 (gtE F o ze v E) ++ (gs 4 fr cJ 5 F))) t.heap) (rc_A ([(h, rO od fa ot ah te id rt bs kn), (fa, go cO 4 fr), (ot, go cO 4 er)] ++ (gs 4 er cJ 5 E ++ (gs 4 fr cJ 5 F))))) 0 0 (rc_A ([(h, rO od fa ot ah te id rt bs kn), (fa, go cO 4 fr), (ot, go cO 4 er)] ++ (gs 4 er cJ 5 E ++ (gs 4 fr cJ 5 F)))) := m_O_goTo l D cJ cO h fa ot ah te id rt bs od kn fr er E F ze v o hod ho3 hz0 hz1 haz

def ws_O_fillIndicial : List Cond := .code y_O_fillIndicial c_O_fillIndicial 8 none :: kb
set_option maxHeartbeats 4000000 in
set_option maxRecDepth 100000 in
/-- the indicial polynomial -/
theorem m_O_fillIndicial (l : Launch) (D : va_G) (cJ cO : ClassId) (h fa ot ah te id rt bs : Nat) (od kn : Int) (er : Nat → Nat) (E : Nat → Nat → ro_K) (J : Nat → ro_K) (g : Int) (hg0 : -10 ≤ g) (hg1 : g ≤ 10) (hJ : J 4 = 0) : Met l y_O_fillIndicial ws_O_fillIndicial ({ frames := 1, cells := 0, slots := 0, locals := 23 }) (rc_Pc D vC [(cJ, .long), (cO, .array .long)] [.ref h, .int (iz g)] ([(h, rO od fa ot ah te id rt bs kn), (ot, go cO 4 er), (id, ka cJ 5 J)] ++ gs 4 er cJ 5 E)) (va_Qv (fun (_ : Unit) => True) (fun _ t => va_P D vC ([(h, rO od fa ot ah te id rt bs kn), (ot, go cO 4 er), (id, ka cJ 5 (inF E g J))] ++ gs 4 er cJ 5 E) t.heap) (rc_A ([(h, rO od fa ot ah te id rt bs kn), (ot, go cO 4 er), (id, ka cJ 5 J)] ++ gs 4 er cJ 5 E))) 0 0 (rc_A ([(h, rO od fa ot ah te id rt bs kn), (ot, go cO 4 er), (id, ka cJ 5 J)] ++ gs 4 er cJ 5 E)) := by
  refine Met.ofW (cc := c_O_fillIndicial) (maxL := 8) (ret := none) (by decide) rfl ?_
  intro p e s m args below meth c s₁ B hml hv
  obtain ⟨rfl, hP, hK, hD0, hN⟩ := hv
  have hx := B.exec
  have hb := B.bytes
  have hr := B.returns
  have hts0 := atoms_spec (ws := ws_O_fillIndicial) B.pre
  have hts : ∀ w ∈ kb, w.before _ s = true := fun w h => hts0 w (List.mem_cons_of_mem _ h)
  have hown : s.vm.findClass R_O = some m.cls := findClass_of_methodNamed B.named
  have hlocks := B.notSynchronized
  have hD := rc_self hD0
  generalize hAe : rc_A ([(h, rO od fa ot ah te id rt bs kn), (ot, go cO 4 er), (id, ka cJ 5 J)] ++ gs 4 er cJ 5 E) = A at hD ⊢
  have hS : va_S A s.heap s.heap [] := va_S.rf
  have hl := lv_entry ([.ref h, .int (iz g)]) (n := 8) (Nat.le_of_ble_eq_true rfl)
  rw [lg_entry_eq]
  generalize (lg_sl ([.ref h, .int (iz g)]) ++ List.replicate (8 - (lg_sl ([.ref h, .int (iz g)])).length) Slot.unset).toArray = ls at hl ⊢

  have hl : lv_has ls 8 [(0, .ref h), (1, .int (iz g))] := hl
  refine lv_aload_n hx hb d_O_fillIndicial_0 rfl (lv_at hl 0 rfl) ?_
  refine rz_iconst hx hb d_O_fillIndicial_1 ?_
  refine lv_iload_n hx hb d_O_fillIndicial_2 rfl (lv_at hl 1 rfl) ?_
  refine rz_iconst hx hb d_O_fillIndicial_3 ?_
  refine rz_iadd hx hb d_O_fillIndicial_4 ?_
  refine rs_calll (va_runV (As := [.int (iz 1), .int (iz (g + 1))]) (rest := []) ⟨hx, hb, hml, hown, hts⟩ (m_O_otherAt l D cJ cO h fa ot ah te id rt bs od kn er E 1 (g + 1) 1 rfl (by omega) (by omega) (by omega)) (cwV 2 hts (kb_gi (kb_c kw_443 (kb_c kw_445 (kb_c ks_O_otherAt (kb_c kw_1 (kb_c kw_446 kb_all)))))) rfl rfl rfl (by decide +kernel) ⟨Nat.le_of_ble_eq_true rfl, Nat.le_of_ble_eq_true rfl⟩) ⟨rc_blind, va_recv hK hP (ci := 2) (q0 := 0) rfl rfl, rs_pre (Y := []) (rs_nil hP) (rs_nilD hD) hK hN [0, 1] rfl rfl [0, 1] rfl⟩ rfl rfl hl.1 rfl (lv_room (Nat.le_of_ble_eq_true rfl)) d_O_fillIndicial_5 ⟨Nat.zero_le _, Nat.zero_le _⟩) hP hD hS [0, 1] rfl (fun _ => rfl) (fun _ => gs_adr _ _ _ _ _ _) (fun r1 u2 H locs hw2 hP hD hS => ?_)
  subst hw2
  have hP : va_P D vC ([(h, rO od fa ot ah te id rt bs kn), (ot, go cO 4 er), (id, ka cJ 5 J)] ++ gs 4 er cJ 5 E) H := hP
  have hD : va_D A ([(h, rO od fa ot ah te id rt bs kn), (ot, go cO 4 er), (id, ka cJ 5 J)] ++ gs 4 er cJ 5 E) := hD
  refine lv_lstore_n (lv' := [(2, .long (lk (oat E 1 (g + 1)))), (0, .ref h), (1, .int (iz g))]) hx hb d_O_fillIndicial_8 rfl hl (by decide) rfl (fun ls hl => ?_)
  refine lv_aload_n hx hb d_O_fillIndicial_9 rfl (lv_at hl 1 rfl) ?_
  refine rz_iconst hx hb d_O_fillIndicial_10 ?_
  refine lv_iload_n hx hb d_O_fillIndicial_11 rfl (lv_at hl 2 rfl) ?_
  refine rz_iconst hx hb d_O_fillIndicial_12 ?_
  refine rz_iadd hx hb d_O_fillIndicial_13 ?_
  refine rs_calll (va_runV (As := [.int (iz 2), .int (iz (g + 2))]) (rest := []) ⟨hx, hb, hml, hown, hts⟩ (m_O_otherAt l D cJ cO h fa ot ah te id rt bs od kn er E 2 (g + 2) 2 rfl (by omega) (by omega) (by omega)) (cwV 2 hts (kb_gi (kb_c kw_443 (kb_c kw_445 (kb_c ks_O_otherAt (kb_c kw_1 (kb_c kw_446 kb_all)))))) rfl rfl rfl (by decide +kernel) ⟨Nat.le_of_ble_eq_true rfl, Nat.le_of_ble_eq_true rfl⟩) ⟨rc_blind, va_recv hK hP (ci := 2) (q0 := 0) rfl rfl, rs_pre (Y := []) (rs_nil hP) (rs_nilD hD) hK hN [0, 1] rfl rfl [0, 1] rfl⟩ rfl rfl hl.1 rfl (lv_room (Nat.le_of_ble_eq_true rfl)) d_O_fillIndicial_14 ⟨Nat.zero_le _, Nat.zero_le _⟩) hP hD hS [0, 1] rfl (fun _ => rfl) (fun _ => gs_adr _ _ _ _ _ _) (fun r3 u4 H locs hw4 hP hD hS => ?_)
  subst hw4
  have hP : va_P D vC ([(h, rO od fa ot ah te id rt bs kn), (ot, go cO 4 er), (id, ka cJ 5 J)] ++ gs 4 er cJ 5 E) H := hP
  have hD : va_D A ([(h, rO od fa ot ah te id rt bs kn), (ot, go cO 4 er), (id, ka cJ 5 J)] ++ gs 4 er cJ 5 E) := hD
  refine lv_lstore (lv' := [(4, .long (lk (oat E 2 (g + 2)))), (2, .long (lk (oat E 1 (g + 1)))), (0, .ref h), (1, .int (iz g))]) hx hb d_O_fillIndicial_17 hl (by decide) rfl (fun ls hl => ?_)
  refine lv_aload_n hx hb d_O_fillIndicial_19 rfl (lv_at hl 2 rfl) ?_
  refine rz_iconst hx hb d_O_fillIndicial_20 ?_
  refine lv_iload_n hx hb d_O_fillIndicial_21 rfl (lv_at hl 3 rfl) ?_
  refine rz_iconst hx hb d_O_fillIndicial_22 ?_
  refine rz_iadd hx hb d_O_fillIndicial_23 ?_
  refine rs_calll (va_runV (As := [.int (iz 3), .int (iz (g + 3))]) (rest := []) ⟨hx, hb, hml, hown, hts⟩ (m_O_otherAt l D cJ cO h fa ot ah te id rt bs od kn er E 3 (g + 3) 3 rfl (by omega) (by omega) (by omega)) (cwV 2 hts (kb_gi (kb_c kw_443 (kb_c kw_445 (kb_c ks_O_otherAt (kb_c kw_1 (kb_c kw_446 kb_all)))))) rfl rfl rfl (by decide +kernel) ⟨Nat.le_of_ble_eq_true rfl, Nat.le_of_ble_eq_true rfl⟩) ⟨rc_blind, va_recv hK hP (ci := 2) (q0 := 0) rfl rfl, rs_pre (Y := []) (rs_nil hP) (rs_nilD hD) hK hN [0, 1] rfl rfl [0, 1] rfl⟩ rfl rfl hl.1 rfl (lv_room (Nat.le_of_ble_eq_true rfl)) d_O_fillIndicial_24 ⟨Nat.zero_le _, Nat.zero_le _⟩) hP hD hS [0, 1] rfl (fun _ => rfl) (fun _ => gs_adr _ _ _ _ _ _) (fun r5 u6 H locs hw6 hP hD hS => ?_)
  subst hw6
  have hP : va_P D vC ([(h, rO od fa ot ah te id rt bs kn), (ot, go cO 4 er), (id, ka cJ 5 J)] ++ gs 4 er cJ 5 E) H := hP
  have hD : va_D A ([(h, rO od fa ot ah te id rt bs kn), (ot, go cO 4 er), (id, ka cJ 5 J)] ++ gs 4 er cJ 5 E) := hD
  refine lv_lstore (lv' := [(6, .long (lk (oat E 3 (g + 3)))), (4, .long (lk (oat E 2 (g + 2)))), (2, .long (lk (oat E 1 (g + 1)))), (0, .ref h), (1, .int (iz g))]) hx hb d_O_fillIndicial_27 hl (by decide) rfl (fun ls hl => ?_)
  refine lv_aload_n hx hb d_O_fillIndicial_29 rfl (lv_at hl 3 rfl) ?_
  refine va_get (D := D) (ci := 2) (v := .ref id) (C := R_O) (T := T_O) (N := 9) hx hb hts in_O hown hK hP 0 rfl rfl 5 (by decide) (hts _ kw_88) (fun _ h9 => h9) rfl d_O_fillIndicial_30 ?_
  refine rz_iconst hx hb d_O_fillIndicial_33 ?_
  refine lv_aload_n hx hb d_O_fillIndicial_34 rfl (lv_at hl 3 rfl) ?_
  refine rz_iconst hx hb d_O_fillIndicial_35 ?_
  refine lv_iload_n hx hb d_O_fillIndicial_36 rfl (lv_at hl 4 rfl) ?_
  refine rs_calll (va_runV (As := [.int (iz 0), .int (iz g)]) (rest := [.int (iz 0), .ref id]) ⟨hx, hb, hml, hown, hts⟩ (m_O_otherAt l D cJ cO h fa ot ah te id rt bs od kn er E 0 g 0 rfl (by omega) (by omega) (by omega)) (cwV 2 hts (kb_gi (kb_c kw_443 (kb_c kw_445 (kb_c ks_O_otherAt (kb_c kw_1 (kb_c kw_446 kb_all)))))) rfl rfl rfl (by decide +kernel) ⟨Nat.le_of_ble_eq_true rfl, Nat.le_of_ble_eq_true rfl⟩) ⟨rc_blind, va_recv hK hP (ci := 2) (q0 := 0) rfl rfl, rs_pre (Y := []) (rs_nil hP) (rs_nilD hD) hK hN [0, 1] rfl rfl [0, 1] rfl⟩ rfl rfl hl.1 rfl (lv_room (Nat.le_of_ble_eq_true rfl)) d_O_fillIndicial_37 ⟨Nat.zero_le _, Nat.zero_le _⟩) hP hD hS [0, 1] rfl (fun _ => rfl) (fun _ => gs_adr _ _ _ _ _ _) (fun r7 u8 H locs hw8 hP hD hS => ?_)
  subst hw8
  have hP : va_P D vC ([(h, rO od fa ot ah te id rt bs kn), (ot, go cO 4 er), (id, ka cJ 5 J)] ++ gs 4 er cJ 5 E) H := hP
  have hD : va_D A ([(h, rO od fa ot ah te id rt bs kn), (ot, go cO 4 er), (id, ka cJ 5 J)] ++ gs 4 er cJ 5 E) := hD
  refine rk_st hx hb hK hP hD hS 2 0 rfl rfl 0 d_O_fillIndicial_40 (fun H locs hP hD hS => ?_)
  have hP : va_P D vC ([(h, rO od fa ot ah te id rt bs kn), (ot, go cO 4 er), (id, ka cJ 5 (va_up J 0 (oat E 0 g)))] ++ gs 4 er cJ 5 E) H := hP
  have hD : va_D A ([(h, rO od fa ot ah te id rt bs kn), (ot, go cO 4 er), (id, ka cJ 5 (va_up J 0 (oat E 0 g)))] ++ gs 4 er cJ 5 E) := hD
  refine lv_aload_n hx hb d_O_fillIndicial_41 rfl (lv_at hl 3 rfl) ?_
  refine va_get (D := D) (ci := 2) (v := .ref id) (C := R_O) (T := T_O) (N := 9) hx hb hts in_O hown hK hP 0 rfl rfl 5 (by decide) (hts _ kw_88) (fun _ h9 => h9) rfl d_O_fillIndicial_42 ?_
  refine rz_iconst hx hb d_O_fillIndicial_45 ?_
  refine lv_lload_n hx hb d_O_fillIndicial_46 rfl (lv_at hl 2 rfl) ?_
  refine lv_lload hx hb d_O_fillIndicial_47 (lv_at hl 1 rfl) ?_
  refine rlq_lsub hx hb 64004 (lq_of (lk_p (oat E 1 (g + 1))) (by decide)) (lq_of (lk_p (oat E 2 (g + 2))) (by decide)) d_O_fillIndicial_49 (fun v9 hv9 => ?_)
  refine lv_ldc2 (v := 2) hx hb hown (hts _ kw_469) d_O_fillIndicial_50 ?_
  refine lv_lload hx hb d_O_fillIndicial_53 (lv_at hl 0 rfl) ?_
  refine rlp_lmul hx hb 64004 lp_c2 (lk_p (oat E 3 (g + 3))) d_O_fillIndicial_55 (fun v10 hv10 => ?_)
  refine rlq_ladd hx hb 128008 hv9 (lq_of hv10 (by decide)) d_O_fillIndicial_56 (fun v11 hv11 => ?_)
  refine rc_calll (va_runS (As := [.long v11]) (rest := [.int (iz 1), .ref id]) ⟨hx, hb, hml, hown, hts⟩ (m_O_number l D v11) (cwS 1 hts (kb_gi (kb_c kw_123 (kb_c kw_124 (kb_c kw_1 (kb_c kw_125 kb_all))))) rfl rfl rfl (by decide +kernel) ⟨Nat.le_of_ble_eq_true rfl, Nat.le_of_ble_eq_true rfl⟩) ⟨rc_blind, rc_pre hP hD hK hN [] rfl rfl [] rfl⟩ rfl rfl hl.1 rfl (lv_room (Nat.le_of_ble_eq_true rfl)) d_O_fillIndicial_57 ⟨Nat.zero_le _, Nat.zero_le _⟩) hP hD hS [] rfl (fun _ => rfl) (fun r12 u13 H locs hw13 hP hD hS => ?_)
  rw [hv11.2.2] at hw13
  subst hw13
  have hP : va_P D vC ([(h, rO od fa ot ah te id rt bs kn), (ot, go cO 4 er), (id, ka cJ 5 (va_up J 0 (oat E 0 g)))] ++ gs 4 er cJ 5 E) H := hP
  have hD : va_D A ([(h, rO od fa ot ah te id rt bs kn), (ot, go cO 4 er), (id, ka cJ 5 (va_up J 0 (oat E 0 g)))] ++ gs 4 er cJ 5 E) := hD
  refine rk_st hx hb hK hP hD hS 2 0 rfl rfl 1 d_O_fillIndicial_60 (fun H locs hP hD hS => ?_)
  have hP : va_P D vC ([(h, rO od fa ot ah te id rt bs kn), (ot, go cO 4 er), (id, ka cJ 5 (va_up (va_up J 0 (oat E 0 g)) 1 (((oat E 1 (g + 1)) - (oat E 2 (g + 2))) + ((2 : ro_K) * (oat E 3 (g + 3))))))] ++ gs 4 er cJ 5 E) H := hP
  have hD : va_D A ([(h, rO od fa ot ah te id rt bs kn), (ot, go cO 4 er), (id, ka cJ 5 (va_up (va_up J 0 (oat E 0 g)) 1 (((oat E 1 (g + 1)) - (oat E 2 (g + 2))) + ((2 : ro_K) * (oat E 3 (g + 3))))))] ++ gs 4 er cJ 5 E) := hD
  refine lv_aload_n hx hb d_O_fillIndicial_61 rfl (lv_at hl 3 rfl) ?_
  refine va_get (D := D) (ci := 2) (v := .ref id) (C := R_O) (T := T_O) (N := 9) hx hb hts in_O hown hK hP 0 rfl rfl 5 (by decide) (hts _ kw_88) (fun _ h9 => h9) rfl d_O_fillIndicial_62 ?_
  refine rz_iconst hx hb d_O_fillIndicial_65 ?_
  refine lv_lload hx hb d_O_fillIndicial_66 (lv_at hl 1 rfl) ?_
  refine lv_ldc2 (v := 3) hx hb hown (hts _ kw_470) d_O_fillIndicial_68 ?_
  refine lv_lload hx hb d_O_fillIndicial_71 (lv_at hl 0 rfl) ?_
  refine rlp_lmul hx hb 96006 lp_c3 (lk_p (oat E 3 (g + 3))) d_O_fillIndicial_73 (fun v14 hv14 => ?_)
  refine rlq_lsub hx hb 128008 (lq_of (lk_p (oat E 2 (g + 2))) (by decide)) (lq_of hv14 (by decide)) d_O_fillIndicial_74 (fun v15 hv15 => ?_)
  refine rc_calll (va_runS (As := [.long v15]) (rest := [.int (iz 2), .ref id]) ⟨hx, hb, hml, hown, hts⟩ (m_O_number l D v15) (cwS 1 hts (kb_gi (kb_c kw_123 (kb_c kw_124 (kb_c kw_1 (kb_c kw_125 kb_all))))) rfl rfl rfl (by decide +kernel) ⟨Nat.le_of_ble_eq_true rfl, Nat.le_of_ble_eq_true rfl⟩) ⟨rc_blind, rc_pre hP hD hK hN [] rfl rfl [] rfl⟩ rfl rfl hl.1 rfl (lv_room (Nat.le_of_ble_eq_true rfl)) d_O_fillIndicial_75 ⟨Nat.zero_le _, Nat.zero_le _⟩) hP hD hS [] rfl (fun _ => rfl) (fun r16 u17 H locs hw17 hP hD hS => ?_)
  rw [hv15.2.2] at hw17
  subst hw17
  have hP : va_P D vC ([(h, rO od fa ot ah te id rt bs kn), (ot, go cO 4 er), (id, ka cJ 5 (va_up (va_up J 0 (oat E 0 g)) 1 (((oat E 1 (g + 1)) - (oat E 2 (g + 2))) + ((2 : ro_K) * (oat E 3 (g + 3))))))] ++ gs 4 er cJ 5 E) H := hP
  have hD : va_D A ([(h, rO od fa ot ah te id rt bs kn), (ot, go cO 4 er), (id, ka cJ 5 (va_up (va_up J 0 (oat E 0 g)) 1 (((oat E 1 (g + 1)) - (oat E 2 (g + 2))) + ((2 : ro_K) * (oat E 3 (g + 3))))))] ++ gs 4 er cJ 5 E) := hD
  refine rk_st hx hb hK hP hD hS 2 0 rfl rfl 2 d_O_fillIndicial_78 (fun H locs hP hD hS => ?_)
  have hP : va_P D vC ([(h, rO od fa ot ah te id rt bs kn), (ot, go cO 4 er), (id, ka cJ 5 (va_up (va_up (va_up J 0 (oat E 0 g)) 1 (((oat E 1 (g + 1)) - (oat E 2 (g + 2))) + ((2 : ro_K) * (oat E 3 (g + 3))))) 2 ((oat E 2 (g + 2)) - ((3 : ro_K) * (oat E 3 (g + 3))))))] ++ gs 4 er cJ 5 E) H := hP
  have hD : va_D A ([(h, rO od fa ot ah te id rt bs kn), (ot, go cO 4 er), (id, ka cJ 5 (va_up (va_up (va_up J 0 (oat E 0 g)) 1 (((oat E 1 (g + 1)) - (oat E 2 (g + 2))) + ((2 : ro_K) * (oat E 3 (g + 3))))) 2 ((oat E 2 (g + 2)) - ((3 : ro_K) * (oat E 3 (g + 3))))))] ++ gs 4 er cJ 5 E) := hD
  refine lv_aload_n hx hb d_O_fillIndicial_79 rfl (lv_at hl 3 rfl) ?_
  refine va_get (D := D) (ci := 2) (v := .ref id) (C := R_O) (T := T_O) (N := 9) hx hb hts in_O hown hK hP 0 rfl rfl 5 (by decide) (hts _ kw_88) (fun _ h9 => h9) rfl d_O_fillIndicial_80 ?_
  refine rz_iconst hx hb d_O_fillIndicial_83 ?_
  refine lv_lload hx hb d_O_fillIndicial_84 (lv_at hl 0 rfl) ?_
  refine rk_st hx hb hK hP hD hS 2 0 rfl rfl 3 d_O_fillIndicial_86 (fun H locs hP hD hS => ?_)
  have hP : va_P D vC ([(h, rO od fa ot ah te id rt bs kn), (ot, go cO 4 er), (id, ka cJ 5 (va_up (va_up (va_up (va_up J 0 (oat E 0 g)) 1 (((oat E 1 (g + 1)) - (oat E 2 (g + 2))) + ((2 : ro_K) * (oat E 3 (g + 3))))) 2 ((oat E 2 (g + 2)) - ((3 : ro_K) * (oat E 3 (g + 3))))) 3 (oat E 3 (g + 3))))] ++ gs 4 er cJ 5 E) H := hP
  have hD : va_D A ([(h, rO od fa ot ah te id rt bs kn), (ot, go cO 4 er), (id, ka cJ 5 (va_up (va_up (va_up (va_up J 0 (oat E 0 g)) 1 (((oat E 1 (g + 1)) - (oat E 2 (g + 2))) + ((2 : ro_K) * (oat E 3 (g + 3))))) 2 ((oat E 2 (g + 2)) - ((3 : ro_K) * (oat E 3 (g + 3))))) 3 (oat E 3 (g + 3))))] ++ gs 4 er cJ 5 E) := hD
  have hP : va_P D vC ([(h, rO od fa ot ah te id rt bs kn), (ot, go cO 4 er), (id, ka cJ 5 (inF E g J))] ++ gs 4 er cJ 5 E) H := by rw [← inF_up E g hJ]; exact hP
  exact W.vret hx hb hr (fun t ht hW => ⟨⟨(), rfl, trivial, rc_out ht hP⟩, hS.F ht⟩) hS.2.2 d_O_fillIndicial_87
def ws_O_findPlaces : List Cond := .code y_O_findPlaces c_O_findPlaces 1 none :: kb
set_option maxHeartbeats 4000000 in
set_option maxRecDepth 100000 in
/-- the places -/
theorem m_O_findPlaces (l : Launch) (D : va_G) (cJ cO : ClassId) (h fa ot ah te id rt bs : Nat) (od kn : Int) (fo wh pt rs sq on tw : Nat) (cn : Int) (Fo Y P r S a1 b1 : Nat → ro_K) (fr : Nat → Nat) (F : Nat → Nat → ro_K) (o : Nat) (hod : od = (o : Int)) (ho3 : o ≤ 3) (hF : 0 ≤ kd (F o) 5) : Met l y_O_findPlaces ws_O_findPlaces ({ frames := 5, cells := 0, slots := 0, locals := 133 }) (rc_Pc D vC [(cJ, .long), (cO, .array .long)] [.ref h] ([(h, rO od fa ot ah te id rt bs kn), (fa, go cO 4 fr), (rt, rR fo cn wh pt rs sq on tw), (fo, ka cJ 4 Fo), (wh, ka cJ 5 Y), (pt, ka cJ 5 P), (rs, ka cJ 5 r), (sq, ka cJ 8 S), (on, ka cJ 5 a1), (tw, ka cJ 5 b1)] ++ gs 4 fr cJ 5 F)) (va_Qv (fun (u : rS8) => rts (F o) u.1 u.2.1) (fun u t => va_P D vC ([(h, rO od fa ot ah te id rt bs kn), (fa, go cO 4 fr), (rt, rR fo (u.1 : Int) wh pt rs sq on tw), (fo, ka cJ 4 u.2.1), (wh, ka cJ 5 u.2.2.1), (pt, ka cJ 5 u.2.2.2.1), (rs, ka cJ 5 u.2.2.2.2.1), (sq, ka cJ 8 u.2.2.2.2.2.1), (on, ka cJ 5 u.2.2.2.2.2.2.1), (tw, ka cJ 5 u.2.2.2.2.2.2.2)] ++ gs 4 fr cJ 5 F) t.heap) (rc_A ([(h, rO od fa ot ah te id rt bs kn), (fa, go cO 4 fr), (rt, rR fo cn wh pt rs sq on tw), (fo, ka cJ 4 Fo), (wh, ka cJ 5 Y), (pt, ka cJ 5 P), (rs, ka cJ 5 r), (sq, ka cJ 8 S), (on, ka cJ 5 a1), (tw, ka cJ 5 b1)] ++ gs 4 fr cJ 5 F))) 0 0 (rc_A ([(h, rO od fa ot ah te id rt bs kn), (fa, go cO 4 fr), (rt, rR fo cn wh pt rs sq on tw), (fo, ka cJ 4 Fo), (wh, ka cJ 5 Y), (pt, ka cJ 5 P), (rs, ka cJ 5 r), (sq, ka cJ 8 S), (on, ka cJ 5 a1), (tw, ka cJ 5 b1)] ++ gs 4 fr cJ 5 F)) := by
  refine Met.ofW (cc := c_O_findPlaces) (maxL := 1) (ret := none) (by decide) rfl ?_
  intro p e s m args below meth c s₁ B hml hv
  obtain ⟨rfl, hP, hK, hD0, hN⟩ := hv
  have hx := B.exec
  have hb := B.bytes
  have hr := B.returns
  have hts0 := atoms_spec (ws := ws_O_findPlaces) B.pre
  have hts : ∀ w ∈ kb, w.before _ s = true := fun w h => hts0 w (List.mem_cons_of_mem _ h)
  have hown : s.vm.findClass R_O = some m.cls := findClass_of_methodNamed B.named
  have hlocks := B.notSynchronized
  have hD := rc_self hD0
  generalize hAe : rc_A ([(h, rO od fa ot ah te id rt bs kn), (fa, go cO 4 fr), (rt, rR fo cn wh pt rs sq on tw), (fo, ka cJ 4 Fo), (wh, ka cJ 5 Y), (pt, ka cJ 5 P), (rs, ka cJ 5 r), (sq, ka cJ 8 S), (on, ka cJ 5 a1), (tw, ka cJ 5 b1)] ++ gs 4 fr cJ 5 F) = A at hD ⊢
  have hS : va_S A s.heap s.heap [] := va_S.rf
  have hl := lv_entry ([.ref h]) (n := 1) (Nat.le_of_ble_eq_true rfl)
  rw [lg_entry_eq]
  generalize (lg_sl ([.ref h]) ++ List.replicate (1 - (lg_sl ([.ref h])).length) Slot.unset).toArray = ls at hl ⊢

  have hl : lv_has ls 1 [(0, .ref h)] := hl
  refine lv_aload_n hx hb d_O_findPlaces_0 rfl (lv_at hl 0 rfl) ?_
  refine va_get (D := D) (ci := 2) (v := .ref fa) (C := R_O) (T := T_O) (N := 9) hx hb hts in_O hown hK hP 0 rfl rfl 1 (by decide) (hts _ kw_84) (fun _ h9 => h9) rfl d_O_findPlaces_1 ?_
  refine lv_aload_n hx hb d_O_findPlaces_4 rfl (lv_at hl 0 rfl) ?_
  refine va_get (D := D) (ci := 2) (v := .int (iz od)) (C := R_O) (T := T_O) (N := 9) hx hb hts in_O hown hK hP 0 rfl rfl 0 (by decide) (hts _ kw_83) (fun _ h9 => h9) rfl d_O_findPlaces_5 ?_
  refine rg_ald hx hb hK hP 1 1 rfl rfl o d_O_findPlaces_8 ?_
  refine rr_calli (va_runS (As := [.ref (fr o)]) (rest := []) ⟨hx, hb, hml, hown, hts⟩ (m_O_isZero l D cJ (fr o) 5 (F o) (by omega)) (cwS 1 hts (kb_gi (kb_c kw_325 (kb_c kw_326 (kb_c kw_1 (kb_c kw_327 kb_all))))) rfl rfl rfl (by decide +kernel) ⟨Nat.le_of_ble_eq_true rfl, Nat.le_of_ble_eq_true rfl⟩) ⟨rc_blind, rr_pre (rs_nil hP) (rs_nilD hD) hK hN (by omega) [] rfl rfl [0] rfl⟩ rfl rfl hl.1 rfl (lv_room (Nat.le_of_ble_eq_true rfl)) d_O_findPlaces_9 ⟨Nat.zero_le _, Nat.zero_le _⟩) (rs_nil hP) (rs_nilD hD) hS (by omega) [] rfl (fun _ => rfl) (fun r1 u2 H locs hw2 hP hD hS => ?_)
  have hP := rs_nilR hP
  have hD := rs_nilRD hD
  subst hw2
  rw [va_up_id] at hP hD
  have hP : va_P D vC ([(h, rO od fa ot ah te id rt bs kn), (fa, go cO 4 fr), (rt, rR fo cn wh pt rs sq on tw), (fo, ka cJ 4 Fo), (wh, ka cJ 5 Y), (pt, ka cJ 5 P), (rs, ka cJ 5 r), (sq, ka cJ 8 S), (on, ka cJ 5 a1), (tw, ka cJ 5 b1)] ++ gs 4 fr cJ 5 F) H := hP
  have hD : va_D A ([(h, rO od fa ot ah te id rt bs kn), (fa, go cO 4 fr), (rt, rR fo cn wh pt rs sq on tw), (fo, ka cJ 4 Fo), (wh, ka cJ 5 Y), (pt, ka cJ 5 P), (rs, ka cJ 5 r), (sq, ka cJ 8 S), (on, ka cJ 5 a1), (tw, ka cJ 5 b1)] ++ gs 4 fr cJ 5 F) := hD
  rw [if_neg (by omega)]
  refine rz_if_eq (tgt := 25) hx hb d_O_findPlaces_12 (by decide) (fun _ => ?_) (fun hc => absurd rfl hc)
  refine lv_aload_n hx hb d_O_findPlaces_25 rfl (lv_at hl 0 rfl) ?_
  refine va_get (D := D) (ci := 2) (v := .ref rt) (C := R_O) (T := T_O) (N := 9) hx hb hts in_O hown hK hP 0 rfl rfl 6 (by decide) (hts _ kw_89) (fun _ h9 => h9) rfl d_O_findPlaces_26 ?_
  refine lv_aload_n hx hb d_O_findPlaces_29 rfl (lv_at hl 0 rfl) ?_
  refine va_get (D := D) (ci := 2) (v := .ref fa) (C := R_O) (T := T_O) (N := 9) hx hb hts in_O hown hK hP 0 rfl rfl 1 (by decide) (hts _ kw_84) (fun _ h9 => h9) rfl d_O_findPlaces_30 ?_
  refine lv_aload_n hx hb d_O_findPlaces_33 rfl (lv_at hl 0 rfl) ?_
  refine va_get (D := D) (ci := 2) (v := .int (iz od)) (C := R_O) (T := T_O) (N := 9) hx hb hts in_O hown hK hP 0 rfl rfl 0 (by decide) (hts _ kw_83) (fun _ h9 => h9) rfl d_O_findPlaces_34 ?_
  refine rg_ald hx hb hK hP 1 1 rfl rfl o d_O_findPlaces_37 ?_
  refine rr_callv (va_runV (As := [.ref (fr o)]) (rest := []) ⟨hx, hb, hml, hown, hts⟩ (m_R_find l D (fr o) cJ rt fo wh pt rs sq on tw cn (F o) Fo Y P r S a1 b1 hF) (cwV 1 hts (kb_gi (kb_c kw_347 (kb_c kw_348 (kb_c kw_349 (kb_c kw_2 (kb_c kw_350 kb_all)))))) rfl rfl rfl (by decide +kernel) ⟨Nat.le_of_ble_eq_true rfl, Nat.le_of_ble_eq_true rfl⟩) ⟨rc_blind, va_recv hK hP (ci := 1) (q0 := 2) rfl rfl, rr_pre (rs_nil hP) (rs_nilD hD) hK hN (by omega) [2, 3, 4, 5, 6, 7, 8, 9] rfl rfl [0] rfl⟩ rfl rfl hl.1 rfl (lv_room (Nat.le_of_ble_eq_true rfl)) d_O_findPlaces_38 ⟨Nat.zero_le _, Nat.zero_le _⟩) (rs_nil hP) (rs_nilD hD) hS (by omega) [2, 3, 4, 5, 6, 7, 8, 9] rfl (fun _ => rfl) (fun u3 H locs hw3 hP hD hS => ?_)
  have hP := rs_nilR hP
  have hD := rs_nilRD hD
  rw [va_up_id] at hP hD
  have hP : va_P D vC ([(h, rO od fa ot ah te id rt bs kn), (fa, go cO 4 fr), (rt, rR fo (u3.1 : Int) wh pt rs sq on tw), (fo, ka cJ 4 u3.2.1), (wh, ka cJ 5 u3.2.2.1), (pt, ka cJ 5 u3.2.2.2.1), (rs, ka cJ 5 u3.2.2.2.2.1), (sq, ka cJ 8 u3.2.2.2.2.2.1), (on, ka cJ 5 u3.2.2.2.2.2.2.1), (tw, ka cJ 5 u3.2.2.2.2.2.2.2)] ++ gs 4 fr cJ 5 F) H := hP
  have hD : va_D A ([(h, rO od fa ot ah te id rt bs kn), (fa, go cO 4 fr), (rt, rR fo (u3.1 : Int) wh pt rs sq on tw), (fo, ka cJ 4 u3.2.1), (wh, ka cJ 5 u3.2.2.1), (pt, ka cJ 5 u3.2.2.2.1), (rs, ka cJ 5 u3.2.2.2.2.1), (sq, ka cJ 8 u3.2.2.2.2.2.1), (on, ka cJ 5 u3.2.2.2.2.2.2.1), (tw, ka cJ 5 u3.2.2.2.2.2.2.2)] ++ gs 4 fr cJ 5 F) := hD
  exact W.vret hx hb hr (fun t ht hW => ⟨⟨u3, rfl, hw3, rc_out ht hP⟩, hS.F ht⟩) hS.2.2 d_O_findPlaces_41
set_option maxHeartbeats 4000000 in
set_option maxRecDepth 100000 in
theorem m_B_solve_S (l : Launch) (D : va_G) (cJ cO cI : ClassId) (h ro le me : Nat) (cn : Int) (ra mb : Nat → Nat) (M Bm : Nat → Nat → ro_K) (Lx : Nat → Int) : Met l y_B_solve ws_B_solve ({ frames := 3, cells := 0, slots := 0, locals := 72 }) (rc_Pc D vC [(cJ, .long), (cO, .array .long), (cI, .int)] [.ref h] ([(h, rB ro le me cn), (ro, go cO 17 ra), (le, ki cI 13 Lx), (me, go cO 13 mb)] ++ (gs 13 mb cJ 13 Bm ++ (gs 17 ra cJ 13 M)))) (va_Qv (fun (_ : Unit) => True) (fun _ t => va_P D vC ([(h, rB ro le me ((svL (rdL 13 0 0 M Lx).1 (rdL 13 0 0 M Lx).2 13 0 Bm).1 : Int)), (ro, go cO 17 ra), (le, ki cI 13 (rdL 13 0 0 M Lx).2), (me, go cO 13 mb)] ++ (gs 13 mb cJ 13 (svL (rdL 13 0 0 M Lx).1 (rdL 13 0 0 M Lx).2 13 0 Bm).2 ++ (gs 17 ra cJ 13 (rdL 13 0 0 M Lx).1))) t.heap) (rc_A ([(h, rB ro le me cn), (ro, go cO 17 ra), (le, ki cI 13 Lx), (me, go cO 13 mb)] ++ (gs 13 mb cJ 13 Bm ++ (gs 17 ra cJ 13 M))))) 0 0 (rc_A ([(h, rB ro le me cn), (ro, go cO 17 ra), (le, ki cI 13 Lx), (me, go cO 13 mb)] ++ (gs 13 mb cJ 13 Bm ++ (gs 17 ra cJ 13 M)))) := m_B_solve l D cJ cO cI h ro le me cn ra mb M Bm Lx
set_option maxHeartbeats 4000000 in
set_option maxRecDepth 100000 in
theorem li_O_knowBase {cJ cO : ClassId} {h fa ot ah te id rt bs : Nat} {od kn : Int} {o : Nat} (hod : od = (o : Int)) (ho3 : o ≤ 3) {cI : ClassId} {ro le me : Nat} {bn : Int} {fr mb ra : Nat → Nat} {F Bm M : Nat → Nat → ro_K} {Lx : Nat → Int} {j : Nat} {zj : Int} (hzj : zj = (j : Int)) (hj : j < 17) (hx : p.tables.exec = Jvm.exec) (hb : c.code = c_O_knowBase) (hml : c.maxLocals = 3) (hown : s.vm.findClass R_O = some m.cls) (hts : ∀ w ∈ kb, w.before args s = true) (hK : va_K D vC [(cJ, .long), (cO, .array .long), (cI, .int)] s) (hN : rc_N s) (hR : 4 ≤ R.frames ∧ 93 ≤ R.locals) (hend : ∀ (H : Heap) (locs : List Loc) (ls : Array Slot), va_P D vC ((([(h, rO od fa ot ah te id rt bs kn), (fa, go cO 4 fr), (bs, rB ro le me bn), (ro, go cO 17 ra), (le, ki cI 13 Lx), (me, go cO 13 mb)] ++ gs 4 fr cJ 5 F) ++ gs 13 mb cJ 13 Bm) ++ gs 17 ra cJ 13 (enR F o M j 13)) H → va_D A ((([(h, rO od fa ot ah te id rt bs kn), (fa, go cO 4 fr), (bs, rB ro le me bn), (ro, go cO 17 ra), (le, ki cI 13 Lx), (me, go cO 13 mb)] ++ gs 4 fr cJ 5 F) ++ gs 13 mb cJ 13 Bm) ++ gs 17 ra cJ 13 (enR F o M j 13)) → va_S A H0 H locs → lv_has ls 3 [(1, .int (iz zj)), (0, .ref h)] → W p l e R s m args below meth c H locs 0 0 Q (F0 m 51 ls [])) : ∀ (q k : Nat) (z : Int) (H : Heap) (locs : List Loc) (ls : Array Slot), z = (k : Int) → k + q = 13 → va_P D vC ((([(h, rO od fa ot ah te id rt bs kn), (fa, go cO 4 fr), (bs, rB ro le me bn), (ro, go cO 17 ra), (le, ki cI 13 Lx), (me, go cO 13 mb)] ++ gs 4 fr cJ 5 F) ++ gs 13 mb cJ 13 Bm) ++ gs 17 ra cJ 13 (enR F o M j k)) H → va_D A ((([(h, rO od fa ot ah te id rt bs kn), (fa, go cO 4 fr), (bs, rB ro le me bn), (ro, go cO 17 ra), (le, ki cI 13 Lx), (me, go cO 13 mb)] ++ gs 4 fr cJ 5 F) ++ gs 13 mb cJ 13 Bm) ++ gs 17 ra cJ 13 (enR F o M j k)) → va_S A H0 H locs → lv_has ls 3 [(2, .int (iz z)), (1, .int (iz zj)), (0, .ref h)] → W p l e R s m args below meth c H locs 0 0 Q (F0 m 18 ls []) := by
  intro q
  induction q with
  | zero =>
    intro k z H locs ls hz hk hP hD hS hl
    have e : k = 13 := hk
    subst e
    refine lv_iload_n hx hb d_O_knowBase_18 rfl (lv_at hl 0 rfl) ?_
    refine rz_bipush hx hb d_O_knowBase_19 (by decide) ?_
    refine rz_icmp_ge (tgt := 51) hx hb d_O_knowBase_21 (by decide) (fun hc1 => ?_) (fun hc1 => ?_)
    · exact hend H locs ls hP hD hS (lv_sub hl [1, 2] rfl)
    · omega
  | succ q ih =>
    intro k z H locs ls hz hk hP hD hS hl
    subst hz
    subst hzj
    refine lv_iload_n hx hb d_O_knowBase_18 rfl (lv_at hl 0 rfl) ?_
    refine rz_bipush hx hb d_O_knowBase_19 (by decide) ?_
    refine rz_icmp_ge (tgt := 51) hx hb d_O_knowBase_21 (by decide) (fun hc2 => ?_) (fun hc2 => ?_)
    · omega
    · refine lv_aload_n hx hb d_O_knowBase_24 rfl (lv_at hl 2 rfl) ?_
      refine va_get (D := D) (ci := 2) (v := .ref bs) (C := R_O) (T := T_O) (N := 9) hx hb hts in_O hown hK hP 0 rfl rfl 7 (by decide) (hts _ kw_90) (fun _ h9 => h9) rfl d_O_knowBase_25 ?_
      refine lv_iload_n hx hb d_O_knowBase_28 rfl (lv_at hl 1 rfl) ?_
      refine lv_iload_n hx hb d_O_knowBase_29 rfl (lv_at hl 0 rfl) ?_
      refine lv_aload_n hx hb d_O_knowBase_30 rfl (lv_at hl 2 rfl) ?_
      refine lv_aload_n hx hb d_O_knowBase_31 rfl (lv_at hl 2 rfl) ?_
      refine va_get (D := D) (ci := 2) (v := .ref fa) (C := R_O) (T := T_O) (N := 9) hx hb hts in_O hown hK hP 0 rfl rfl 1 (by decide) (hts _ kw_84) (fun _ h9 => h9) rfl d_O_knowBase_32 ?_
      refine lv_iload_n hx hb d_O_knowBase_35 rfl (lv_at hl 0 rfl) ?_
      refine lv_iload_n hx hb d_O_knowBase_36 rfl (lv_at hl 1 rfl) ?_
      refine lv_iload_n hx hb d_O_knowBase_37 rfl (lv_at hl 0 rfl) ?_
      refine rz_isub hx hb d_O_knowBase_38 ?_
      refine rsT_calll (va_runV (As := [.ref fa, .int (iz (k : Int)), .int (iz ((j : Int) - (k : Int)))]) (rest := [.int (iz (k : Int)), .int (iz (j : Int)), .ref bs]) ⟨hx, hb, hml, hown, hts⟩ (m_O_share l D cJ cO h fa ot ah te id rt bs od kn fa fr F (k : Int) ((j : Int) - (k : Int)) o hod ho3 (by omega) (by omega) (by omega) (by omega)) (cwV 3 hts (kb_gi (kb_c kw_119 (kb_c kw_121 (kb_c ks_O_share (kb_c kw_1 (kb_c kw_122 kb_all)))))) rfl rfl rfl (by decide +kernel) ⟨Nat.le_trans (by decide) hR.1, Nat.le_trans (by decide) hR.2⟩) ⟨rc_blind, va_recv hK hP (ci := 2) (q0 := 0) rfl rfl, rs_pre (rs_a2 hP) (rs_aD2 hD) hK hN [0, 1] rfl rfl [0, 1] rfl⟩ rfl rfl hl.1 rfl (lv_room (Nat.le_of_ble_eq_true rfl)) d_O_knowBase_39 ⟨Nat.zero_le _, Nat.zero_le _⟩) (rs_a2 hP) (rs_aD2 hD) hS [0, 1] rfl (fun _ => rfl) (fun _ => gs_adr _ _ _ _ _ _) (fun r3 u4 H locs hw4 hP hD hS => ?_)
      have hP := rs_b2 hP
      have hD := rs_bD2 hD
      subst hw4
      have hP : va_P D vC ((([(h, rO od fa ot ah te id rt bs kn), (fa, go cO 4 fr), (bs, rB ro le me bn), (ro, go cO 17 ra), (le, ki cI 13 Lx), (me, go cO 13 mb)] ++ gs 4 fr cJ 5 F) ++ gs 13 mb cJ 13 Bm) ++ gs 17 ra cJ 13 (enR F o M j k)) H := hP
      have hD : va_D A ((([(h, rO od fa ot ah te id rt bs kn), (fa, go cO 4 fr), (bs, rB ro le me bn), (ro, go cO 17 ra), (le, ki cI 13 Lx), (me, go cO 13 mb)] ++ gs 4 fr cJ 5 F) ++ gs 13 mb cJ 13 Bm) ++ gs 17 ra cJ 13 (enR F o M j k)) := hD
      refine rs_callv (va_runV (As := [.int (iz (j : Int)), .int (iz (k : Int)), .long (lk (shS F (k : Int) ((j : Int) - (k : Int)) (o + 1)))]) (rest := []) ⟨hx, hb, hml, hown, hts⟩ (m_B_enter l D cJ cO cI bs ro le me bn ra (enR F o M j k) (j : Int) (k : Int) j k (shS F (k : Int) ((j : Int) - (k : Int)) (o + 1)) rfl rfl hj (by omega)) (cwV 3 hts (kb_gi (kb_c kw_135 (kb_c kw_136 (kb_c kw_137 (kb_c kw_3 (kb_c kw_138 kb_all)))))) rfl rfl rfl (by decide +kernel) ⟨Nat.le_trans (by decide) hR.1, Nat.le_trans (by decide) hR.2⟩) ⟨rc_blind, va_recv hK hP (ci := 0) (q0 := 2) rfl rfl, rs_pre (Y := []) (rs_nil hP) (rs_nilD hD) hK hN [2, 3] rfl rfl [0, 1, 2] rfl⟩ rfl rfl hl.1 rfl (lv_room (Nat.le_of_ble_eq_true rfl)) d_O_knowBase_42 ⟨Nat.zero_le _, Nat.zero_le _⟩) hP hD hS [2, 3] rfl (fun _ => rfl) (fun _ => gs_adr _ _ _ _ _ _) (fun u5 H locs hw5 hP hD hS => ?_)
      have hP : va_P D vC ((([(h, rO od fa ot ah te id rt bs kn), (fa, go cO 4 fr), (bs, rB ro le me bn), (ro, go cO 17 ra), (le, ki cI 13 Lx), (me, go cO 13 mb)] ++ gs 4 fr cJ 5 F) ++ gs 13 mb cJ 13 Bm) ++ gs 17 ra cJ 13 (up2 (enR F o M j k) j k (shS F (k : Int) ((j : Int) - (k : Int)) (o + 1)))) H := hP
      have hD : va_D A ((([(h, rO od fa ot ah te id rt bs kn), (fa, go cO 4 fr), (bs, rB ro le me bn), (ro, go cO 17 ra), (le, ki cI 13 Lx), (me, go cO 13 mb)] ++ gs 4 fr cJ 5 F) ++ gs 13 mb cJ 13 Bm) ++ gs 17 ra cJ 13 (up2 (enR F o M j k) j k (shS F (k : Int) ((j : Int) - (k : Int)) (o + 1)))) := hD
      refine lv_iinc (v := iz ((k : Int) + 1)) (lv' := [(2, .int (iz ((k : Int) + 1))), (1, .int (iz (j : Int))), (0, .ref h)]) hx hb d_O_knowBase_45 hl (k := 0) rfl (iz_add _ _) (by decide) rfl (fun ls hl => ?_)
      refine lv_goto (tgt := 18) hx hb d_O_knowBase_48 (by decide) ?_
      exact ih (k + 1) _ H locs ls (by omega) (by omega) hP hD hS (lv_sub hl [0, 1, 2] rfl)
set_option maxHeartbeats 4000000 in
set_option maxRecDepth 100000 in
theorem lo_O_knowBase {cJ cO : ClassId} {h fa ot ah te id rt bs : Nat} {od kn : Int} {o : Nat} (hod : od = (o : Int)) (ho3 : o ≤ 3) {cI : ClassId} {ro le me : Nat} {bn : Int} {fr mb ra : Nat → Nat} {F Bm M : Nat → Nat → ro_K} {Lx : Nat → Int} (hx : p.tables.exec = Jvm.exec) (hb : c.code = c_O_knowBase) (hml : c.maxLocals = 3) (hown : s.vm.findClass R_O = some m.cls) (hts : ∀ w ∈ kb, w.before args s = true) (hK : va_K D vC [(cJ, .long), (cO, .array .long), (cI, .int)] s) (hN : rc_N s) (hR : 4 ≤ R.frames ∧ 93 ≤ R.locals) (hend : ∀ (H : Heap) (locs : List Loc) (ls : Array Slot), va_P D vC ((([(h, rO od fa ot ah te id rt bs kn), (fa, go cO 4 fr), (bs, rB ro le me bn), (ro, go cO 17 ra), (le, ki cI 13 Lx), (me, go cO 13 mb)] ++ gs 4 fr cJ 5 F) ++ gs 13 mb cJ 13 Bm) ++ gs 17 ra cJ 13 (enM F o M 17)) H → va_D A ((([(h, rO od fa ot ah te id rt bs kn), (fa, go cO 4 fr), (bs, rB ro le me bn), (ro, go cO 17 ra), (le, ki cI 13 Lx), (me, go cO 13 mb)] ++ gs 4 fr cJ 5 F) ++ gs 13 mb cJ 13 Bm) ++ gs 17 ra cJ 13 (enM F o M 17)) → va_S A H0 H locs → lv_has ls 3 [(0, .ref h)] → W p l e R s m args below meth c H locs 0 0 Q (F0 m 57 ls [])) : ∀ (q k : Nat) (z : Int) (H : Heap) (locs : List Loc) (ls : Array Slot), z = (k : Int) → k + q = 17 → va_P D vC ((([(h, rO od fa ot ah te id rt bs kn), (fa, go cO 4 fr), (bs, rB ro le me bn), (ro, go cO 17 ra), (le, ki cI 13 Lx), (me, go cO 13 mb)] ++ gs 4 fr cJ 5 F) ++ gs 13 mb cJ 13 Bm) ++ gs 17 ra cJ 13 (enM F o M k)) H → va_D A ((([(h, rO od fa ot ah te id rt bs kn), (fa, go cO 4 fr), (bs, rB ro le me bn), (ro, go cO 17 ra), (le, ki cI 13 Lx), (me, go cO 13 mb)] ++ gs 4 fr cJ 5 F) ++ gs 13 mb cJ 13 Bm) ++ gs 17 ra cJ 13 (enM F o M k)) → va_S A H0 H locs → lv_has ls 3 [(1, .int (iz z)), (0, .ref h)] → W p l e R s m args below meth c H locs 0 0 Q (F0 m 10 ls []) := by
  intro q
  induction q with
  | zero =>
    intro k z H locs ls hz hk hP hD hS hl
    have e : k = 17 := hk
    subst e
    refine lv_iload_n hx hb d_O_knowBase_10 rfl (lv_at hl 0 rfl) ?_
    refine rz_bipush hx hb d_O_knowBase_11 (by decide) ?_
    refine rz_icmp_ge (tgt := 57) hx hb d_O_knowBase_13 (by decide) (fun hc1 => ?_) (fun hc1 => ?_)
    · exact hend H locs ls hP hD hS (lv_sub hl [1] rfl)
    · omega
  | succ q ih =>
    intro k z H locs ls hz hk hP hD hS hl
    subst hz
    refine lv_iload_n hx hb d_O_knowBase_10 rfl (lv_at hl 0 rfl) ?_
    refine rz_bipush hx hb d_O_knowBase_11 (by decide) ?_
    refine rz_icmp_ge (tgt := 57) hx hb d_O_knowBase_13 (by decide) (fun hc2 => ?_) (fun hc2 => ?_)
    · omega
    · refine rz_iconst hx hb d_O_knowBase_16 ?_
      refine lv_istore_n (lv' := [(2, .int (iz 0)), (1, .int (iz (k : Int))), (0, .ref h)]) hx hb d_O_knowBase_17 rfl hl (by decide) rfl (fun ls hl => ?_)
      refine li_O_knowBase (F := F) (M := enM F o M k) hod ho3 (j := k) rfl (by omega) hx hb hml hown hts hK hN hR (fun H locs ls hP hD hS hl => ?_) 13 0 _ H locs ls rfl (by omega) hP hD hS (lv_sub hl [0, 1, 2] rfl)
      have hP : va_P D vC ((([(h, rO od fa ot ah te id rt bs kn), (fa, go cO 4 fr), (bs, rB ro le me bn), (ro, go cO 17 ra), (le, ki cI 13 Lx), (me, go cO 13 mb)] ++ gs 4 fr cJ 5 F) ++ gs 13 mb cJ 13 Bm) ++ gs 17 ra cJ 13 (enM F o M (k + 1))) H := hP
      have hD : va_D A ((([(h, rO od fa ot ah te id rt bs kn), (fa, go cO 4 fr), (bs, rB ro le me bn), (ro, go cO 17 ra), (le, ki cI 13 Lx), (me, go cO 13 mb)] ++ gs 4 fr cJ 5 F) ++ gs 13 mb cJ 13 Bm) ++ gs 17 ra cJ 13 (enM F o M (k + 1))) := hD
      refine lv_iinc (v := iz ((k : Int) + 1)) (lv' := [(1, .int (iz ((k : Int) + 1))), (0, .ref h)]) hx hb d_O_knowBase_51 hl (k := 0) rfl (iz_add _ _) (by decide) rfl (fun ls hl => ?_)
      refine lv_goto (tgt := 10) hx hb d_O_knowBase_54 (by decide) ?_
      exact ih (k + 1) _ H locs ls (by omega) (by omega) hP hD hS (lv_sub hl [0, 1] rfl)
theorem knD_keep {cJ cO : ClassId} {h fa ot ah te id rt bs : Nat} {od : Int} {cI : ClassId} {ro le me : Nat} {bn : Int} {fr mb ra : Nat → Nat} {F Bm M : Nat → Nat → ro_K} {Lx : Nat → Int} {o : Nat} {D : va_G} {H : Heap} (hP : va_P D vC ((([(h, rO od fa ot ah te id rt bs 1), (fa, go cO 4 fr), (bs, rB ro le me bn), (ro, go cO 17 ra), (le, ki cI 13 Lx), (me, go cO 13 mb)] ++ gs 4 fr cJ 5 F) ++ gs 13 mb cJ 13 Bm) ++ gs 17 ra cJ 13 M) H) : va_P D vC ((([(h, rO od fa ot ah te id rt bs 1), (fa, go cO 4 fr), (bs, rB ro le me (knD 1 F o M Lx Bm bn).2.2.2), (ro, go cO 17 ra), (le, ki cI 13 (knD 1 F o M Lx Bm bn).2.1), (me, go cO 13 mb)] ++ gs 4 fr cJ 5 F) ++ gs 13 mb cJ 13 (knD 1 F o M Lx Bm bn).2.2.1) ++ gs 17 ra cJ 13 (knD 1 F o M Lx Bm bn).1) H := by
  rw [show knD 1 F o M Lx Bm bn = (M, Lx, Bm, bn) from if_neg (by decide)]
  exact hP
theorem knD_new {cJ cO : ClassId} {h fa ot ah te id rt bs : Nat} {od : Int} {cI : ClassId} {ro le me : Nat} {bn : Int} {fr mb ra : Nat → Nat} {F Bm M : Nat → Nat → ro_K} {Lx : Nat → Int} {o : Nat} {D : va_G} {H : Heap} {kn : Int} (hP : va_P D vC ((([(h, rO od fa ot ah te id rt bs 1), (fa, go cO 4 fr), (bs, rB ro le me (knN F o M Lx Bm).2.2.2), (ro, go cO 17 ra), (le, ki cI 13 (knN F o M Lx Bm).2.1), (me, go cO 13 mb)] ++ gs 4 fr cJ 5 F) ++ gs 13 mb cJ 13 (knN F o M Lx Bm).2.2.1) ++ gs 17 ra cJ 13 (knN F o M Lx Bm).1) H) (hk : kn = 0) : va_P D vC ((([(h, rO od fa ot ah te id rt bs 1), (fa, go cO 4 fr), (bs, rB ro le me (knD kn F o M Lx Bm bn).2.2.2), (ro, go cO 17 ra), (le, ki cI 13 (knD kn F o M Lx Bm bn).2.1), (me, go cO 13 mb)] ++ gs 4 fr cJ 5 F) ++ gs 13 mb cJ 13 (knD kn F o M Lx Bm bn).2.2.1) ++ gs 17 ra cJ 13 (knD kn F o M Lx Bm bn).1) H := by
  rw [show knD kn F o M Lx Bm bn = knN F o M Lx Bm from if_pos hk]
  exact hP
def ws_O_knowBase : List Cond := .code y_O_knowBase c_O_knowBase 3 none :: kb
set_option maxHeartbeats 4000000 in
set_option maxRecDepth 100000 in
/-- the base, if it isn't known -/
theorem m_O_knowBase (l : Launch) (D : va_G) (cI : ClassId) (cJ cO : ClassId) (h fa ot ah te id rt bs : Nat) (od kn : Int) (ro le me : Nat) (bn : Int) (fr mb ra : Nat → Nat) (F Bm M : Nat → Nat → ro_K) (Lx : Nat → Int) (o : Nat) (hod : od = (o : Int)) (ho3 : o ≤ 3) (hkn : kn = 0 ∨ kn = 1) : Met l y_O_knowBase ws_O_knowBase ({ frames := 4, cells := 0, slots := 0, locals := 93 }) (rc_Pc D vC [(cJ, .long), (cO, .array .long), (cI, .int)] [.ref h] ((([(h, rO od fa ot ah te id rt bs kn), (fa, go cO 4 fr), (bs, rB ro le me bn), (ro, go cO 17 ra), (le, ki cI 13 Lx), (me, go cO 13 mb)] ++ gs 4 fr cJ 5 F) ++ gs 13 mb cJ 13 Bm) ++ gs 17 ra cJ 13 M)) (va_Qv (fun (_ : Unit) => True) (fun _ t => va_P D vC ((([(h, rO od fa ot ah te id rt bs 1), (fa, go cO 4 fr), (bs, rB ro le me (knD kn F o M Lx Bm bn).2.2.2), (ro, go cO 17 ra), (le, ki cI 13 (knD kn F o M Lx Bm bn).2.1), (me, go cO 13 mb)] ++ gs 4 fr cJ 5 F) ++ gs 13 mb cJ 13 (knD kn F o M Lx Bm bn).2.2.1) ++ gs 17 ra cJ 13 (knD kn F o M Lx Bm bn).1) t.heap) (rc_A ((([(h, rO od fa ot ah te id rt bs kn), (fa, go cO 4 fr), (bs, rB ro le me bn), (ro, go cO 17 ra), (le, ki cI 13 Lx), (me, go cO 13 mb)] ++ gs 4 fr cJ 5 F) ++ gs 13 mb cJ 13 Bm) ++ gs 17 ra cJ 13 M))) 0 0 (rc_A ((([(h, rO od fa ot ah te id rt bs kn), (fa, go cO 4 fr), (bs, rB ro le me bn), (ro, go cO 17 ra), (le, ki cI 13 Lx), (me, go cO 13 mb)] ++ gs 4 fr cJ 5 F) ++ gs 13 mb cJ 13 Bm) ++ gs 17 ra cJ 13 M)) := by
  refine Met.ofW (cc := c_O_knowBase) (maxL := 3) (ret := none) (by decide) rfl ?_
  intro p e s m args below meth c s₁ B hml hv
  obtain ⟨rfl, hP, hK, hD0, hN⟩ := hv
  have hx := B.exec
  have hb := B.bytes
  have hr := B.returns
  have hts0 := atoms_spec (ws := ws_O_knowBase) B.pre
  have hts : ∀ w ∈ kb, w.before _ s = true := fun w h => hts0 w (List.mem_cons_of_mem _ h)
  have hown : s.vm.findClass R_O = some m.cls := findClass_of_methodNamed B.named
  have hlocks := B.notSynchronized
  have hD := rc_self hD0
  generalize hAe : rc_A ((([(h, rO od fa ot ah te id rt bs kn), (fa, go cO 4 fr), (bs, rB ro le me bn), (ro, go cO 17 ra), (le, ki cI 13 Lx), (me, go cO 13 mb)] ++ gs 4 fr cJ 5 F) ++ gs 13 mb cJ 13 Bm) ++ gs 17 ra cJ 13 M) = A at hD ⊢
  have hS : va_S A s.heap s.heap [] := va_S.rf
  have hl := lv_entry ([.ref h]) (n := 3) (Nat.le_of_ble_eq_true rfl)
  rw [lg_entry_eq]
  generalize (lg_sl ([.ref h]) ++ List.replicate (3 - (lg_sl ([.ref h])).length) Slot.unset).toArray = ls at hl ⊢

  have hl : lv_has ls 3 [(0, .ref h)] := hl
  refine lv_aload_n hx hb d_O_knowBase_0 rfl (lv_at hl 0 rfl) ?_
  refine va_get (D := D) (ci := 2) (v := .int (iz kn)) (C := R_O) (T := T_O) (N := 9) hx hb hts in_O hown hK hP 0 rfl rfl 8 (by decide) (hts _ kw_91) (fun _ h9 => h9) rfl d_O_knowBase_1 ?_
  refine rz_if_eq (tgt := 8) hx hb d_O_knowBase_4 (by decide) (fun hc1 => ?_) (fun hc1 => ?_)
  · refine rz_iconst hx hb d_O_knowBase_8 ?_
    refine lv_istore_n (lv' := [(1, .int (iz 0)), (0, .ref h)]) hx hb d_O_knowBase_9 rfl hl (by decide) rfl (fun ls hl => ?_)
    have hk0 : kn = 0 := by omega
    refine lo_O_knowBase (F := F) (M := M) hod ho3 hx hb hml hown hts hK hN ⟨Nat.le_of_ble_eq_true rfl, Nat.le_of_ble_eq_true rfl⟩ (fun H locs ls hP hD hS hl => ?_) 17 0 _ _ _ ls rfl (by omega) hP hD hS (lv_sub hl [0, 1] rfl)
    refine lv_aload_n hx hb d_O_knowBase_57 rfl (lv_at hl 0 rfl) ?_
    refine va_get (D := D) (ci := 2) (v := .ref bs) (C := R_O) (T := T_O) (N := 9) hx hb hts in_O hown hK hP 0 rfl rfl 7 (by decide) (hts _ kw_90) (fun _ h9 => h9) rfl d_O_knowBase_58 ?_
    refine rs_callv (va_runV (As := []) (rest := []) ⟨hx, hb, hml, hown, hts⟩ (m_B_solve_S l D cJ cO cI bs ro le me bn ra mb (enM F o M 17) Bm Lx) (cwV 0 hts (kb_gi (kb_c kw_139 (kb_c kw_140 (kb_c kw_141 (kb_c kw_3 (kb_c kw_142 kb_all)))))) rfl rfl rfl (by decide +kernel) ⟨Nat.le_of_ble_eq_true rfl, Nat.le_of_ble_eq_true rfl⟩) ⟨rc_blind, va_recv hK hP (ci := 0) (q0 := 2) rfl rfl, rs_pre (Y := []) (rs_nil (rs_a_2_0 hP)) (rs_nilD (rs_aD_2_0 hD)) hK hN [2, 3, 4, 5] rfl rfl [0, 1, 2] rfl⟩ rfl rfl hl.1 rfl (lv_room (Nat.le_of_ble_eq_true rfl)) d_O_knowBase_61 ⟨Nat.zero_le _, Nat.zero_le _⟩) (rs_a_2_0 hP) (rs_aD_2_0 hD) hS [2, 3, 4, 5] rfl (fun _ => rfl) (fun _ => gs_adr2 (gs_adr _ _ _ _ _ _) (gs_adr _ _ _ _ _ _)) (fun u2 H locs hw2 hP hD hS => ?_)
    have hP := rs_b_2_0 hP
    have hD := rs_bD_2_0 hD
    have hP : va_P D vC ((([(h, rO od fa ot ah te id rt bs kn), (fa, go cO 4 fr), (bs, rB ro le me (knN F o M Lx Bm).2.2.2), (ro, go cO 17 ra), (le, ki cI 13 (knN F o M Lx Bm).2.1), (me, go cO 13 mb)] ++ gs 4 fr cJ 5 F) ++ gs 13 mb cJ 13 (knN F o M Lx Bm).2.2.1) ++ gs 17 ra cJ 13 (knN F o M Lx Bm).1) H := hP
    have hD : va_D A ((([(h, rO od fa ot ah te id rt bs kn), (fa, go cO 4 fr), (bs, rB ro le me (knN F o M Lx Bm).2.2.2), (ro, go cO 17 ra), (le, ki cI 13 (knN F o M Lx Bm).2.1), (me, go cO 13 mb)] ++ gs 4 fr cJ 5 F) ++ gs 13 mb cJ 13 (knN F o M Lx Bm).2.2.1) ++ gs 17 ra cJ 13 (knN F o M Lx Bm).1) := hD
    refine lv_aload_n hx hb d_O_knowBase_64 rfl (lv_at hl 0 rfl) ?_
    refine rz_iconst hx hb d_O_knowBase_65 ?_
    refine va_put (D := D) (ci := 2) (v := .int (iz 1)) (ty := .boolean) (C := R_O) (T := T_O) (N := 9) hx hb hts in_O ty_O tk_O nm_O hown hK hP hD hS 0 rfl rfl 8 (by decide) (hts _ kw_91) (fun _ h9 => h9) rfl (by decide +kernel) rfl rfl (Nat.le_of_ble_eq_true rfl) d_O_knowBase_66 (fun H locs hP hD hS => ?_)
    have hP : va_P D vC ((([(h, rO od fa ot ah te id rt bs 1), (fa, go cO 4 fr), (bs, rB ro le me (knN F o M Lx Bm).2.2.2), (ro, go cO 17 ra), (le, ki cI 13 (knN F o M Lx Bm).2.1), (me, go cO 13 mb)] ++ gs 4 fr cJ 5 F) ++ gs 13 mb cJ 13 (knN F o M Lx Bm).2.2.1) ++ gs 17 ra cJ 13 (knN F o M Lx Bm).1) H := hP
    have hD : va_D A ((([(h, rO od fa ot ah te id rt bs 1), (fa, go cO 4 fr), (bs, rB ro le me (knN F o M Lx Bm).2.2.2), (ro, go cO 17 ra), (le, ki cI 13 (knN F o M Lx Bm).2.1), (me, go cO 13 mb)] ++ gs 4 fr cJ 5 F) ++ gs 13 mb cJ 13 (knN F o M Lx Bm).2.2.1) ++ gs 17 ra cJ 13 (knN F o M Lx Bm).1) := hD
    have hP := knD_new (bn := bn) hP hk0
    exact W.vret hx hb hr (fun t ht hW => ⟨⟨(), rfl, trivial, rc_out ht hP⟩, hS.F ht⟩) hS.2.2 d_O_knowBase_69
  · have hk1 : kn = 1 := by omega
    subst hk1
    have hP := knD_keep (o := o) hP
    exact W.vret hx hb hr (fun t ht hW => ⟨⟨(), rfl, trivial, rc_out ht hP⟩, hS.F ht⟩) hS.2.2 d_O_knowBase_7
end WK
