section WK
variable {p : Program} {l : Launch} {e : Env} {R : Room} {s : State} {m : MethodId} {args : Array Value} {below : List Frame} {meth : Method} {c : Code} {H : Heap} {locs : List Loc} {cells slots : Nat} {Q : State → Prop} {D : va_G} {A : Nat → Prop} {H0 : Heap}
set_option maxHeartbeats 4000000 in
set_option maxRecDepth 100000 in
theorem lo_B_reduceRows {cJ cO cI : ClassId} {h ro le me : Nat} {cn : Int} {ra : Nat → Nat} {U : (Nat → Nat → ro_K) × (Nat → Int)}  (hx : p.tables.exec = Jvm.exec) (hb : c.code = c_B_reduceRows) (hml : c.maxLocals = 4) (hown : s.vm.findClass R_B = some m.cls) (hts : ∀ w ∈ kb, w.before args s = true) (hK : va_K D vC [(cJ, .long), (cO, .array .long), (cI, .int)] s) (hN : rc_N s) (hR : 2 ≤ R.frames ∧ 49 ≤ R.locals) (hend : ∀ (H : Heap) (locs : List Loc) (ls : Array Slot), va_P D vC ([(h, rB ro le me cn), (ro, go cO 17 ra), (le, ki cI 13 U.2)] ++ gs 17 ra cJ 13 U.1) H → va_D A ([(h, rB ro le me cn), (ro, go cO 17 ra), (le, ki cI 13 U.2)] ++ gs 17 ra cJ 13 U.1) → va_S A H0 H locs → W p l e R s m args below meth c H locs 0 0 Q (F0 m 66 ls [])) : ∀ (n p0 u : Nat) (M : Nat → Nat → ro_K) (Lx : Nat → Int) (zp zu : Int) (H : Heap) (locs : List Loc) (ls : Array Slot), zp = (p0 : Int) → p0 + n = 13 → zu = (u : Int) → u ≤ p0 → rdL n p0 u M Lx = U → va_P D vC ([(h, rB ro le me cn), (ro, go cO 17 ra), (le, ki cI 13 Lx)] ++ gs 17 ra cJ 13 M) H → va_D A ([(h, rB ro le me cn), (ro, go cO 17 ra), (le, ki cI 13 Lx)] ++ gs 17 ra cJ 13 M) → va_S A H0 H locs → lv_has ls 4 [(2, .int (iz zp)), (1, .int (iz zu)), (0, .ref h)] → W p l e R s m args below meth c H locs 0 0 Q (F0 m 4 ls []) := by
  intro n
  induction n with
  | zero =>
    intro p0 u M Lx zp zu H locs ls hzp hn hzu hu hU hP hD hS hl
    have e1 : M = U.1 := congrArg Prod.fst hU
    have e2 : Lx = U.2 := congrArg Prod.snd hU
    rw [e1, e2] at hP hD
    refine lv_iload_n hx hb d_B_reduceRows_4 rfl (lv_at hl 0 rfl) ?_
    refine rz_bipush hx hb d_B_reduceRows_5 (by decide) ?_
    refine rz_icmp_ge (tgt := 66) hx hb d_B_reduceRows_7 (by decide) (fun hc => ?_) (fun hc => absurd hc (by omega))
    exact hend H locs ls hP hD hS
  | succ n ih =>
    intro p0 u M Lx zp zu H locs ls hzp hn hzu hu hU hP hD hS hl
    have hU2 : (if rwL M p0 (17 - u) = 17 then rdL n (p0 + 1) u M (va_up Lx p0 (-1)) else rdL n (p0 + 1) (u + 1) (gst M p0 u) (va_up Lx p0 (u : Int))) = U := hU
    obtain ⟨b1, b2, b3⟩ := rwL_le M p0 (17 - u) (by omega)
    have hrr : rwR M p0 u = if rwL M p0 (17 - u) = 17 then -1 else (rwL M p0 (17 - u) : Int) := rfl
    refine lv_iload_n hx hb d_B_reduceRows_4 rfl (lv_at hl 0 rfl) ?_
    refine rz_bipush hx hb d_B_reduceRows_5 (by decide) ?_
    refine rz_icmp_ge (tgt := 66) hx hb d_B_reduceRows_7 (by decide) (fun hc => absurd hc (by omega)) (fun hc => ?_)
    refine lv_aload_n hx hb d_B_reduceRows_10 rfl (lv_at hl 2 rfl) ?_
    refine lv_iload_n hx hb d_B_reduceRows_11 rfl (lv_at hl 0 rfl) ?_
    refine lv_iload_n hx hb d_B_reduceRows_12 rfl (lv_at hl 1 rfl) ?_
    refine rs_calli (va_runV (As := [.int (iz zp), .int (iz zu)]) (rest := []) ⟨hx, hb, hml, hown, hts⟩ (m_B_rowWith l D cJ cO cI h ro le me cn ra M zp zu p0 u hzp (by omega) hzu (by omega)) (cwV 2 hts (kb_gi (kb_c kw_147 (kb_c kw_149 (kb_c ks_B_rowWith (kb_c kw_3 (kb_c kw_150 kb_all)))))) rfl rfl rfl (by decide +kernel) ⟨Nat.le_trans (by decide) hR.1, Nat.le_trans (by decide) hR.2⟩) ⟨rc_blind, va_recv hK hP (ci := 0) (q0 := 0) rfl rfl, rs_pre (Y := []) (rs_nil hP) (rs_nilD hD) hK hN [0, 1] rfl rfl [0, 1, 2] rfl⟩ rfl rfl hl.1 rfl (lv_room (Nat.le_of_ble_eq_true rfl)) d_B_reduceRows_13 ⟨Nat.zero_le _, Nat.zero_le _⟩) hP hD hS [0, 1] rfl (fun _ => rfl) (fun _ => gs_adr _ _ _ _ _ _) (fun r1 u2 H locs hw2 hP hD hS => ?_)
    subst hw2
    have hP : va_P D vC ([(h, rB ro le me cn), (ro, go cO 17 ra), (le, ki cI 13 Lx)] ++ gs 17 ra cJ 13 M) H := hP
    have hD : va_D A ([(h, rB ro le me cn), (ro, go cO 17 ra), (le, ki cI 13 Lx)] ++ gs 17 ra cJ 13 M) := hD
    by_cases hrw : rwL M p0 (17 - u) = 17
    · rw [if_pos hrw] at hU2 hrr
      rw [hrr]
      refine lv_istore_n (lv' := [(3, .int (iz (-1))), (2, .int (iz zp)), (1, .int (iz zu)), (0, .ref h)]) hx hb d_B_reduceRows_16 rfl hl (by decide) rfl (fun ls hl => ?_)
      refine lv_iload_n hx hb d_B_reduceRows_17 rfl (lv_at hl 0 rfl) ?_
      refine rz_iconst hx hb d_B_reduceRows_18 ?_
      refine rz_icmp_ne (tgt := 32) hx hb d_B_reduceRows_19 (by decide) (fun hc => absurd rfl hc) (fun _ => ?_)
      refine lv_aload_n hx hb d_B_reduceRows_22 rfl (lv_at hl 3 rfl) ?_
      refine va_get (D := D) (ci := 0) (v := .ref le) (C := R_B) (T := T_B) (N := 4) hx hb hts in_B hown hK hP 0 rfl rfl 1 (by decide) (hts _ kw_64) (fun _ h9 => h9) rfl d_B_reduceRows_23 ?_
      refine lv_iload_n hx hb d_B_reduceRows_26 rfl (lv_at hl 1 rfl) ?_
      refine rz_iconst hx hb d_B_reduceRows_27 ?_
      refine rk_ist hx hb hK hP hD hS 2 2 rfl rfl p0 d_B_reduceRows_28 (fun H locs hP hD hS => ?_)
      have hP : va_P D vC ([(h, rB ro le me cn), (ro, go cO 17 ra), (le, ki cI 13 (va_up Lx p0 (-1)))] ++ gs 17 ra cJ 13 M) H := hP
      have hD : va_D A ([(h, rB ro le me cn), (ro, go cO 17 ra), (le, ki cI 13 (va_up Lx p0 (-1)))] ++ gs 17 ra cJ 13 M) := hD
      refine lv_goto (tgt := 60) hx hb d_B_reduceRows_29 (by decide) ?_
      refine lv_iinc (v := iz (zp + 1)) (lv' := [(2, .int (iz (zp + 1))), (3, .int (iz (-1))), (1, .int (iz zu)), (0, .ref h)]) hx hb d_B_reduceRows_60 hl (k := 1) rfl (iz_add _ _) (by decide) rfl (fun ls hl => ?_)
      refine lv_goto (tgt := 4) hx hb d_B_reduceRows_63 (by decide) ?_
      exact ih (p0 + 1) u _ _ _ _ H locs ls (by omega) (by omega) hzu (by omega) hU2 hP hD hS (lv_sub hl [0, 2, 3] rfl)
    · rw [if_neg hrw] at hU2 hrr
      rw [hrr]
      refine lv_istore_n (lv' := [(3, .int (iz (rwL M p0 (17 - u) : Int))), (2, .int (iz zp)), (1, .int (iz zu)), (0, .ref h)]) hx hb d_B_reduceRows_16 rfl hl (by decide) rfl (fun ls hl => ?_)
      refine lv_iload_n hx hb d_B_reduceRows_17 rfl (lv_at hl 0 rfl) ?_
      refine rz_iconst hx hb d_B_reduceRows_18 ?_
      refine rz_icmp_ne (tgt := 32) hx hb d_B_reduceRows_19 (by decide) (fun _ => ?_) (fun hc => absurd hc (by omega))
      refine lv_aload_n hx hb d_B_reduceRows_32 rfl (lv_at hl 3 rfl) ?_
      refine lv_iload_n hx hb d_B_reduceRows_33 rfl (lv_at hl 0 rfl) ?_
      refine lv_iload_n hx hb d_B_reduceRows_34 rfl (lv_at hl 2 rfl) ?_
      refine rs_callv (va_runV (As := [.int (iz (rwL M p0 (17 - u) : Int)), .int (iz zu)]) (rest := []) ⟨hx, hb, hml, hown, hts⟩ (m_B_swap l D cJ cO cI h ro le me cn ra M _ zu (rwL M p0 (17 - u)) u rfl (by omega) hzu (by omega)) (cwV 2 hts (kb_gi (kb_c kw_151 (kb_c kw_153 (kb_c ks_B_swap (kb_c kw_3 (kb_c kw_154 kb_all)))))) rfl rfl rfl (by decide +kernel) ⟨Nat.le_trans (by decide) hR.1, Nat.le_trans (by decide) hR.2⟩) ⟨rc_blind, va_recv hK hP (ci := 0) (q0 := 0) rfl rfl, rs_pre (Y := []) (rs_nil hP) (rs_nilD hD) hK hN [0, 1] rfl rfl [0, 1, 2] rfl⟩ rfl rfl hl.1 rfl (lv_room (Nat.le_of_ble_eq_true rfl)) d_B_reduceRows_35 ⟨Nat.zero_le _, Nat.zero_le _⟩) hP hD hS [0, 1] rfl (fun _ => rfl) (fun _ => gs_adr _ _ _ _ _ _) (fun u3 H locs hw3 hP hD hS => ?_)
      have hP : va_P D vC ([(h, rB ro le me cn), (ro, go cO 17 ra), (le, ki cI 13 Lx)] ++ gs 17 ra cJ 13 (swk M (rwL M p0 (17 - u)) u 13)) H := hP
      have hD : va_D A ([(h, rB ro le me cn), (ro, go cO 17 ra), (le, ki cI 13 Lx)] ++ gs 17 ra cJ 13 (swk M (rwL M p0 (17 - u)) u 13)) := hD
      refine lv_aload_n hx hb d_B_reduceRows_38 rfl (lv_at hl 3 rfl) ?_
      refine lv_iload_n hx hb d_B_reduceRows_39 rfl (lv_at hl 2 rfl) ?_
      refine lv_iload_n hx hb d_B_reduceRows_40 rfl (lv_at hl 1 rfl) ?_
      refine rs_callv (va_runV (As := [.int (iz zu), .int (iz zp)]) (rest := []) ⟨hx, hb, hml, hown, hts⟩ (m_B_scaleRow l D cJ cO cI h ro le me cn ra (swk M (rwL M p0 (17 - u)) u 13) zu zp u p0 hzu (by omega) hzp (by omega)) (cwV 2 hts (kb_gi (kb_c kw_155 (kb_c kw_157 (kb_c ks_B_scaleRow (kb_c kw_3 (kb_c kw_158 kb_all)))))) rfl rfl rfl (by decide +kernel) ⟨Nat.le_trans (by decide) hR.1, Nat.le_trans (by decide) hR.2⟩) ⟨rc_blind, va_recv hK hP (ci := 0) (q0 := 0) rfl rfl, rs_pre (Y := []) (rs_nil hP) (rs_nilD hD) hK hN [0, 1] rfl rfl [0, 1, 2] rfl⟩ rfl rfl hl.1 rfl (lv_room (Nat.le_of_ble_eq_true rfl)) d_B_reduceRows_41 ⟨Nat.zero_le _, Nat.zero_le _⟩) hP hD hS [0, 1] rfl (fun _ => rfl) (fun _ => gs_adr _ _ _ _ _ _) (fun u4 H locs hw4 hP hD hS => ?_)
      have hP : va_P D vC ([(h, rB ro le me cn), (ro, go cO 17 ra), (le, ki cI 13 Lx)] ++ gs 17 ra cJ 13 (sck (swk M (rwL M p0 (17 - u)) u 13) u (ro_iv ((swk M (rwL M p0 (17 - u)) u 13) u p0)) 13)) H := hP
      have hD : va_D A ([(h, rB ro le me cn), (ro, go cO 17 ra), (le, ki cI 13 Lx)] ++ gs 17 ra cJ 13 (sck (swk M (rwL M p0 (17 - u)) u 13) u (ro_iv ((swk M (rwL M p0 (17 - u)) u 13) u p0)) 13)) := hD
      refine lv_aload_n hx hb d_B_reduceRows_44 rfl (lv_at hl 3 rfl) ?_
      refine lv_iload_n hx hb d_B_reduceRows_45 rfl (lv_at hl 2 rfl) ?_
      refine lv_iload_n hx hb d_B_reduceRows_46 rfl (lv_at hl 1 rfl) ?_
      refine rs_callv (va_runV (As := [.int (iz zu), .int (iz zp)]) (rest := []) ⟨hx, hb, hml, hown, hts⟩ (m_B_clearColumn l D cJ cO cI h ro le me cn ra (sck (swk M (rwL M p0 (17 - u)) u 13) u (ro_iv ((swk M (rwL M p0 (17 - u)) u 13) u p0)) 13) zu zp u p0 hzu (by omega) hzp (by omega)) (cwV 2 hts (kb_gi (kb_c kw_163 (kb_c kw_165 (kb_c ks_B_clearColumn (kb_c kw_3 (kb_c kw_166 kb_all)))))) rfl rfl rfl (by decide +kernel) ⟨Nat.le_trans (by decide) hR.1, Nat.le_trans (by decide) hR.2⟩) ⟨rc_blind, va_recv hK hP (ci := 0) (q0 := 0) rfl rfl, rs_pre (Y := []) (rs_nil hP) (rs_nilD hD) hK hN [0, 1] rfl rfl [0, 1, 2] rfl⟩ rfl rfl hl.1 rfl (lv_room (Nat.le_of_ble_eq_true rfl)) d_B_reduceRows_47 ⟨Nat.zero_le _, Nat.zero_le _⟩) hP hD hS [0, 1] rfl (fun _ => rfl) (fun _ => gs_adr _ _ _ _ _ _) (fun u5 H locs hw5 hP hD hS => ?_)
      have hP : va_P D vC ([(h, rB ro le me cn), (ro, go cO 17 ra), (le, ki cI 13 Lx)] ++ gs 17 ra cJ 13 (gst M p0 u)) H := hP
      have hD : va_D A ([(h, rB ro le me cn), (ro, go cO 17 ra), (le, ki cI 13 Lx)] ++ gs 17 ra cJ 13 (gst M p0 u)) := hD
      refine lv_aload_n hx hb d_B_reduceRows_50 rfl (lv_at hl 3 rfl) ?_
      refine va_get (D := D) (ci := 0) (v := .ref le) (C := R_B) (T := T_B) (N := 4) hx hb hts in_B hown hK hP 0 rfl rfl 1 (by decide) (hts _ kw_64) (fun _ h9 => h9) rfl d_B_reduceRows_51 ?_
      refine lv_iload_n hx hb d_B_reduceRows_54 rfl (lv_at hl 1 rfl) ?_
      refine lv_iload_n hx hb d_B_reduceRows_55 rfl (lv_at hl 2 rfl) ?_
      refine rk_ist hx hb hK hP hD hS 2 2 rfl rfl p0 d_B_reduceRows_56 (fun H locs hP hD hS => ?_)
      have hP : va_P D vC ([(h, rB ro le me cn), (ro, go cO 17 ra), (le, ki cI 13 (va_up Lx p0 zu))] ++ gs 17 ra cJ 13 (gst M p0 u)) H := hP
      have hD : va_D A ([(h, rB ro le me cn), (ro, go cO 17 ra), (le, ki cI 13 (va_up Lx p0 zu))] ++ gs 17 ra cJ 13 (gst M p0 u)) := hD
      refine lv_iinc (v := iz (zu + 1)) (lv' := [(1, .int (iz (zu + 1))), (3, .int (iz (rwL M p0 (17 - u) : Int))), (2, .int (iz zp)), (0, .ref h)]) hx hb d_B_reduceRows_57 hl (k := 2) rfl (iz_add _ _) (by decide) rfl (fun ls hl => ?_)
      refine lv_iinc (v := iz (zp + 1)) (lv' := [(2, .int (iz (zp + 1))), (1, .int (iz (zu + 1))), (3, .int (iz (rwL M p0 (17 - u) : Int))), (0, .ref h)]) hx hb d_B_reduceRows_60 hl (k := 2) rfl (iz_add _ _) (by decide) rfl (fun ls hl => ?_)
      refine lv_goto (tgt := 4) hx hb d_B_reduceRows_63 (by decide) ?_
      subst hzu
      exact ih (p0 + 1) (u + 1) _ _ _ _ H locs ls (by omega) (by omega) (by omega) (by omega) hU2 hP hD hS (lv_sub hl [0, 1, 3] rfl)
def ws_B_reduceRows : List Cond := .code y_B_reduceRows c_B_reduceRows 4 none :: kb
set_option maxHeartbeats 4000000 in
set_option maxRecDepth 100000 in
/-- the rows are brought out -/
theorem m_B_reduceRows (l : Launch) (D : va_G) (cJ cO cI : ClassId) (h ro le me : Nat) (cn : Int) (ra : Nat → Nat) (M : Nat → Nat → ro_K) (Lx : Nat → Int) : Met l y_B_reduceRows ws_B_reduceRows ({ frames := 2, cells := 0, slots := 0, locals := 49 }) (rc_Pc D vC [(cJ, .long), (cO, .array .long), (cI, .int)] [.ref h] ([(h, rB ro le me cn), (ro, go cO 17 ra), (le, ki cI 13 Lx)] ++ gs 17 ra cJ 13 M)) (va_Qv (fun (_ : Unit) => True) (fun _ t => va_P D vC ([(h, rB ro le me cn), (ro, go cO 17 ra), (le, ki cI 13 (rdL 13 0 0 M Lx).2)] ++ gs 17 ra cJ 13 (rdL 13 0 0 M Lx).1) t.heap) (rc_A ([(h, rB ro le me cn), (ro, go cO 17 ra), (le, ki cI 13 Lx)] ++ gs 17 ra cJ 13 M))) 0 0 (rc_A ([(h, rB ro le me cn), (ro, go cO 17 ra), (le, ki cI 13 Lx)] ++ gs 17 ra cJ 13 M)) := by
  refine Met.ofW (cc := c_B_reduceRows) (maxL := 4) (ret := none) (by decide) rfl ?_
  intro p e s m args below meth c s₁ B hml hv
  obtain ⟨rfl, hP, hK, hD0, hN⟩ := hv
  have hx := B.exec
  have hb := B.bytes
  have hr := B.returns
  have hts0 := atoms_spec (ws := ws_B_reduceRows) B.pre
  have hts : ∀ w ∈ kb, w.before _ s = true := fun w h => hts0 w (List.mem_cons_of_mem _ h)
  have hown : s.vm.findClass R_B = some m.cls := findClass_of_methodNamed B.named
  have hlocks := B.notSynchronized
  have hD := rc_self hD0
  generalize hAe : rc_A ([(h, rB ro le me cn), (ro, go cO 17 ra), (le, ki cI 13 Lx)] ++ gs 17 ra cJ 13 M) = A at hD ⊢
  have hS : va_S A s.heap s.heap [] := va_S.rf
  have hl := lv_entry ([.ref h]) (n := 4) (Nat.le_of_ble_eq_true rfl)
  rw [lg_entry_eq]
  generalize (lg_sl ([.ref h]) ++ List.replicate (4 - (lg_sl ([.ref h])).length) Slot.unset).toArray = ls at hl ⊢

  have hl : lv_has ls 4 [(0, .ref h)] := hl
  refine rz_iconst hx hb d_B_reduceRows_0 ?_
  refine lv_istore_n (lv' := [(1, .int (iz 0)), (0, .ref h)]) hx hb d_B_reduceRows_1 rfl hl (by decide) rfl (fun ls hl => ?_)
  refine rz_iconst hx hb d_B_reduceRows_2 ?_
  refine lv_istore_n (lv' := [(2, .int (iz 0)), (1, .int (iz 0)), (0, .ref h)]) hx hb d_B_reduceRows_3 rfl hl (by decide) rfl (fun ls hl => ?_)
  refine lo_B_reduceRows (U := rdL 13 0 0 M Lx) hx hb hml hown hts hK hN ⟨Nat.le_of_ble_eq_true rfl, Nat.le_of_ble_eq_true rfl⟩ (fun H locs ls hP hD hS => ?_) 13 0 0 M Lx _ _ _ _ ls rfl (by omega) rfl (by omega) rfl hP hD hS (lv_sub hl [0, 1, 2] rfl)
  exact W.vret hx hb hr (fun t ht hW => ⟨⟨(), rfl, trivial, rc_out ht hP⟩, hS.F ht⟩) hS.2.2 d_B_reduceRows_66
/-- the leading rows that are there are rows -/
def lok (L : Nat → Int) : Prop := ∀ j, j < 13 → L j = -1 ∨ ∃ r : Nat, r < 17 ∧ L j = (r : Int)
/-- the member whose highest power is n: the first k numbers -/
def fmk (M : Nat → Nat → ro_K) (L : Nat → Int) (n k : Nat) (F : Nat → ro_K) : Nat → ro_K := fun j => if j < k then (if L j = -1 then 0 else - M (L j).toNat n) else if j = n then 1 else kfl F 0 13 j
theorem fmk_0 (M : Nat → Nat → ro_K) (L : Nat → Int) (n : Nat) (F : Nat → ro_K) : va_up (kfl F 0 13) n 1 = fmk M L n 0 F := by
  funext j
  unfold va_up fmk
  rw [if_neg (Nat.not_lt_zero j)]
theorem fmk_s (M : Nat → Nat → ro_K) (L : Nat → Int) {n k : Nat} (hk : k < n) (hn : n < 13) (F : Nat → ro_K) (h : L k ≠ -1) : va_up (fmk M L n k F) k (- M (L k).toNat n) = fmk M L n (k + 1) F := by
  funext j
  unfold va_up fmk
  by_cases e : j = k
  · subst e; rw [if_pos rfl, if_pos (by omega), if_neg h]
  · rw [if_neg e]
    by_cases h2 : j < k
    · rw [if_pos h2, if_pos (show j < k + 1 by omega)]
    · rw [if_neg h2, if_neg (show ¬ j < k + 1 by omega)]
theorem fmk_k (M : Nat → Nat → ro_K) (L : Nat → Int) {n k : Nat} (hk : k < n) (hn : n < 13) (F : Nat → ro_K) (h : L k = -1) : fmk M L n k F = fmk M L n (k + 1) F := by
  funext j
  unfold fmk
  by_cases e : j = k
  · subst e; rw [if_neg (Nat.lt_irrefl j), if_neg (by omega), if_pos (by omega), if_pos h]; exact if_pos (by omega)
  · by_cases h2 : j < k
    · rw [if_pos h2, if_pos (show j < k + 1 by omega)]
    · rw [if_neg h2, if_neg (show ¬ j < k + 1 by omega)]
set_option maxHeartbeats 4000000 in
set_option maxRecDepth 100000 in
theorem lo_B_fillMember {cJ cO cI : ClassId} {h ro le me : Nat} {cn : Int} {ra : Nat → Nat} {a n : Nat} {M : Nat → Nat → ro_K} {Lx : Nat → Int} {F : Nat → ro_K} {zn : Int} (hL : lok Lx) (hzn : zn = (n : Int)) (hn : n < 13) (hx : p.tables.exec = Jvm.exec) (hb : c.code = c_B_fillMember) (hml : c.maxLocals = 4) (hown : s.vm.findClass R_B = some m.cls) (hts : ∀ w ∈ kb, w.before args s = true) (hK : va_K D vC [(cJ, .long), (cO, .array .long), (cI, .int)] s) (hN : rc_N s) (hR : 1 ≤ R.frames ∧ 24 ≤ R.locals) (hend : ∀ (H : Heap) (locs : List Loc) (ls : Array Slot), va_P D vC ([(a, ka cJ 13 (fmk M Lx n n F)), (h, rB ro le me cn), (ro, go cO 17 ra), (le, ki cI 13 Lx)] ++ gs 17 ra cJ 13 M) H → va_D A ([(a, ka cJ 13 (fmk M Lx n n F)), (h, rB ro le me cn), (ro, go cO 17 ra), (le, ki cI 13 Lx)] ++ gs 17 ra cJ 13 M) → va_S A H0 H locs → W p l e R s m args below meth c H locs 0 0 Q (F0 m 52 ls [])) : ∀ (q k : Nat) (z : Int) (H : Heap) (locs : List Loc) (ls : Array Slot), z = (k : Int) → k + q = n → va_P D vC ([(a, ka cJ 13 (fmk M Lx n k F)), (h, rB ro le me cn), (ro, go cO 17 ra), (le, ki cI 13 Lx)] ++ gs 17 ra cJ 13 M) H → va_D A ([(a, ka cJ 13 (fmk M Lx n k F)), (h, rB ro le me cn), (ro, go cO 17 ra), (le, ki cI 13 Lx)] ++ gs 17 ra cJ 13 M) → va_S A H0 H locs → lv_has ls 4 [(3, .int (iz z)), (0, .ref h), (1, .ref a), (2, .int (iz zn))] → W p l e R s m args below meth c H locs 0 0 Q (F0 m 11 ls []) := by
  intro q
  induction q with
  | zero =>
    intro k z H locs ls hz hk hP hD hS hl
    have e : k = n := hk
    subst e
    refine lv_iload_n hx hb d_B_fillMember_11 rfl (lv_at hl 0 rfl) ?_
    refine lv_iload_n hx hb d_B_fillMember_12 rfl (lv_at hl 3 rfl) ?_
    refine rz_icmp_ge (tgt := 52) hx hb d_B_fillMember_13 (by decide) (fun hc => ?_) (fun hc => absurd hc (by omega))
    exact hend H locs ls hP hD hS
  | succ q ih =>
    intro k z H locs ls hz hk hP hD hS hl
    have hLk := hL k (by omega)
    have hLr : -1 ≤ Lx k ∧ Lx k < 17 := by rcases hLk with h | ⟨r, h1, h2⟩ <;> omega
    refine lv_iload_n hx hb d_B_fillMember_11 rfl (lv_at hl 0 rfl) ?_
    refine lv_iload_n hx hb d_B_fillMember_12 rfl (lv_at hl 3 rfl) ?_
    refine rz_icmp_ge (tgt := 52) hx hb d_B_fillMember_13 (by decide) (fun hc => absurd hc (by omega)) (fun hc => ?_)
    refine lv_aload_n hx hb d_B_fillMember_16 rfl (lv_at hl 1 rfl) ?_
    refine va_get (D := D) (ci := 0) (v := .ref le) (C := R_B) (T := T_B) (N := 4) hx hb hts in_B hown hK hP 1 rfl rfl 1 (by decide) (hts _ kw_64) (fun _ h9 => h9) rfl d_B_fillMember_17 ?_
    refine lv_iload_n hx hb d_B_fillMember_20 rfl (lv_at hl 0 rfl) ?_
    refine rk_ild hx hb hK hP 3 2 rfl rfl k d_B_fillMember_21 ?_
    refine rz_iconst hx hb d_B_fillMember_22 ?_
    refine rz_icmp_eq (tgt := 46) hx hb d_B_fillMember_23 (by decide) (fun hc1 => ?_) (fun hc1 => ?_)
    · refine lv_iinc (v := iz (z + 1)) (lv' := [(3, .int (iz (z + 1))), (0, .ref h), (1, .ref a), (2, .int (iz zn))]) hx hb d_B_fillMember_46 hl (k := 0) rfl (iz_add _ _) (by decide) rfl (fun ls hl => ?_)
      refine lv_goto (tgt := 11) hx hb d_B_fillMember_49 (by decide) ?_
      rw [fmk_k M Lx (by omega) hn F (by assumption)] at hP hD
      exact ih (k + 1) _ H locs ls (by omega) (by omega) hP hD hS (lv_sub hl [0, 1, 2, 3] rfl)
    · refine lv_aload_n hx hb d_B_fillMember_26 rfl (lv_at hl 2 rfl) ?_
      refine lv_iload_n hx hb d_B_fillMember_27 rfl (lv_at hl 0 rfl) ?_
      refine lv_aload_n hx hb d_B_fillMember_28 rfl (lv_at hl 1 rfl) ?_
      refine va_get (D := D) (ci := 0) (v := .ref ro) (C := R_B) (T := T_B) (N := 4) hx hb hts in_B hown hK hP 1 rfl rfl 0 (by decide) (hts _ kw_63) (fun _ h9 => h9) rfl d_B_fillMember_29 ?_
      refine lv_aload_n hx hb d_B_fillMember_32 rfl (lv_at hl 1 rfl) ?_
      refine va_get (D := D) (ci := 0) (v := .ref le) (C := R_B) (T := T_B) (N := 4) hx hb hts in_B hown hK hP 1 rfl rfl 1 (by decide) (hts _ kw_64) (fun _ h9 => h9) rfl d_B_fillMember_33 ?_
      refine lv_iload_n hx hb d_B_fillMember_36 rfl (lv_at hl 0 rfl) ?_
      refine rk_ild hx hb hK hP 3 2 rfl rfl k d_B_fillMember_37 ?_
      refine rg_ald hx hb hK hP 2 1 rfl rfl (Lx k).toNat d_B_fillMember_38 ?_
      refine lv_iload_n hx hb d_B_fillMember_39 rfl (lv_at hl 3 rfl) ?_
      refine rg_ld hx hb hK hP 0 rfl (Lx k).toNat n d_B_fillMember_40 ?_
      refine rlq_lneg hx hb (lq_of (lk_p (M (Lx k).toNat n)) (by decide)) d_B_fillMember_41 (fun v2 hv2 => ?_)
      refine rc_calll (va_runSN (As := [.long v2]) (rest := [.int (iz z), .ref a]) ⟨hx, hb, hml, hown, hts⟩ (m_O_number l D v2) ⟨va_cnB 1 hts (kb_gi (kb_c kw_125 kb_all)) rfl rfl rfl hN.2.2.2.2.2 (hts _ kw_1) (by decide +kernel) ⟨Nat.le_trans (by decide) hR.1, Nat.le_trans (by decide) hR.2⟩, hts _ kw_124, trivial⟩ ⟨rc_blind, rc_pre hP hD hK hN [] rfl rfl [] rfl⟩ rfl rfl hl.1 rfl (lv_room (Nat.le_of_ble_eq_true rfl)) d_B_fillMember_42 ⟨Nat.zero_le _, Nat.zero_le _⟩) hP hD hS [] rfl (fun _ => rfl) (fun r3 u4 H locs hw4 hP hD hS => ?_)
      rw [hv2.2.2] at hw4
      subst hw4
      have hP : va_P D vC ([(a, ka cJ 13 (fmk M Lx n k F)), (h, rB ro le me cn), (ro, go cO 17 ra), (le, ki cI 13 Lx)] ++ gs 17 ra cJ 13 M) H := hP
      have hD : va_D A ([(a, ka cJ 13 (fmk M Lx n k F)), (h, rB ro le me cn), (ro, go cO 17 ra), (le, ki cI 13 Lx)] ++ gs 17 ra cJ 13 M) := hD
      refine rk_st hx hb hK hP hD hS 0 0 rfl rfl k d_B_fillMember_45 (fun H locs hP hD hS => ?_)
      have hP : va_P D vC ([(a, ka cJ 13 (va_up (fmk M Lx n k F) k (-(M (Lx k).toNat n)))), (h, rB ro le me cn), (ro, go cO 17 ra), (le, ki cI 13 Lx)] ++ gs 17 ra cJ 13 M) H := hP
      have hD : va_D A ([(a, ka cJ 13 (va_up (fmk M Lx n k F) k (-(M (Lx k).toNat n)))), (h, rB ro le me cn), (ro, go cO 17 ra), (le, ki cI 13 Lx)] ++ gs 17 ra cJ 13 M) := hD
      refine lv_iinc (v := iz (z + 1)) (lv' := [(3, .int (iz (z + 1))), (0, .ref h), (1, .ref a), (2, .int (iz zn))]) hx hb d_B_fillMember_46 hl (k := 0) rfl (iz_add _ _) (by decide) rfl (fun ls hl => ?_)
      refine lv_goto (tgt := 11) hx hb d_B_fillMember_49 (by decide) ?_
      rw [fmk_s M Lx (by omega) hn F (by assumption)] at hP hD
      exact ih (k + 1) _ H locs ls (by omega) (by omega) hP hD hS (lv_sub hl [0, 1, 2, 3] rfl)
def ws_B_fillMember : List Cond := .code y_B_fillMember c_B_fillMember 4 none :: kb
set_option maxHeartbeats 4000000 in
set_option maxRecDepth 100000 in
/-- the member with a highest power -/
theorem m_B_fillMember (l : Launch) (D : va_G) (cJ cO cI : ClassId) (h ro le me : Nat) (cn : Int) (ra : Nat → Nat) (a n : Nat) (M : Nat → Nat → ro_K) (Lx : Nat → Int) (F : Nat → ro_K) (zn : Int) (hL : lok Lx) (hzn : zn = (n : Int)) (hn : n < 13) : Met l y_B_fillMember ws_B_fillMember ({ frames := 1, cells := 0, slots := 0, locals := 24 }) (rc_Pc D vC [(cJ, .long), (cO, .array .long), (cI, .int)] [.ref h, .ref a, .int (iz zn)] ([(a, ka cJ 13 F), (h, rB ro le me cn), (ro, go cO 17 ra), (le, ki cI 13 Lx)] ++ gs 17 ra cJ 13 M)) (va_Qv (fun (_ : Unit) => True) (fun _ t => va_P D vC ([(a, ka cJ 13 (fmk M Lx n n F)), (h, rB ro le me cn), (ro, go cO 17 ra), (le, ki cI 13 Lx)] ++ gs 17 ra cJ 13 M) t.heap) (rc_A ([(a, ka cJ 13 F), (h, rB ro le me cn), (ro, go cO 17 ra), (le, ki cI 13 Lx)] ++ gs 17 ra cJ 13 M))) 0 0 (rc_A ([(a, ka cJ 13 F), (h, rB ro le me cn), (ro, go cO 17 ra), (le, ki cI 13 Lx)] ++ gs 17 ra cJ 13 M)) := by
  refine Met.ofW (cc := c_B_fillMember) (maxL := 4) (ret := none) (by decide) rfl ?_
  intro p e s m args below meth c s₁ B hml hv
  obtain ⟨rfl, hP, hK, hD0, hN⟩ := hv
  have hx := B.exec
  have hb := B.bytes
  have hr := B.returns
  have hts0 := atoms_spec (ws := ws_B_fillMember) B.pre
  have hts : ∀ w ∈ kb, w.before _ s = true := fun w h => hts0 w (List.mem_cons_of_mem _ h)
  have hown : s.vm.findClass R_B = some m.cls := findClass_of_methodNamed B.named
  have hlocks := B.notSynchronized
  have hD := rc_self hD0
  generalize hAe : rc_A ([(a, ka cJ 13 F), (h, rB ro le me cn), (ro, go cO 17 ra), (le, ki cI 13 Lx)] ++ gs 17 ra cJ 13 M) = A at hD ⊢
  have hS : va_S A s.heap s.heap [] := va_S.rf
  have hl := lv_entry ([.ref h, .ref a, .int (iz zn)]) (n := 4) (Nat.le_of_ble_eq_true rfl)
  rw [lg_entry_eq]
  generalize (lg_sl ([.ref h, .ref a, .int (iz zn)]) ++ List.replicate (4 - (lg_sl ([.ref h, .ref a, .int (iz zn)])).length) Slot.unset).toArray = ls at hl ⊢

  have hl : lv_has ls 4 [(0, .ref h), (1, .ref a), (2, .int (iz zn))] := hl
  refine lv_aload_n hx hb d_B_fillMember_0 rfl (lv_at hl 1 rfl) ?_
  refine lv_lconst (v := lk 0) hx hb d_B_fillMember_1 rfl ?_
  refine rc_callv (va_runS (As := [.ref a, .long (lk 0)]) (rest := []) ⟨hx, hb, hml, hown, hts⟩ (m_J_fill l D cJ a 13 F 0 (by omega)) (va_cwS 2 hts (kb_gi (kb_c kw_172 (kb_c kw_173 (kb_c kw_12 (kb_c kw_174 kb_all))))) rfl rfl rfl (by decide +kernel) ⟨Nat.le_of_ble_eq_true rfl, Nat.le_of_ble_eq_true rfl⟩) ⟨rc_blind, rc_pre hP hD hK hN [0] rfl rfl [0] rfl⟩ rfl rfl hl.1 rfl (lv_room (Nat.le_of_ble_eq_true rfl)) d_B_fillMember_2 ⟨Nat.zero_le _, Nat.zero_le _⟩) hP hD hS [0] rfl (fun _ => rfl) (fun u1 H locs hw1 hP hD hS => ?_)
  have hP : va_P D vC ([(a, ka cJ 13 (kfl F 0 13)), (h, rB ro le me cn), (ro, go cO 17 ra), (le, ki cI 13 Lx)] ++ gs 17 ra cJ 13 M) H := hP
  have hD : va_D A ([(a, ka cJ 13 (kfl F 0 13)), (h, rB ro le me cn), (ro, go cO 17 ra), (le, ki cI 13 Lx)] ++ gs 17 ra cJ 13 M) := hD
  refine lv_aload_n hx hb d_B_fillMember_5 rfl (lv_at hl 1 rfl) ?_
  refine lv_iload_n hx hb d_B_fillMember_6 rfl (lv_at hl 2 rfl) ?_
  refine lv_lconst (v := lk 1) hx hb d_B_fillMember_7 rfl ?_
  refine rk_st hx hb hK hP hD hS 0 0 rfl rfl n d_B_fillMember_8 (fun H locs hP hD hS => ?_)
  have hP : va_P D vC ([(a, ka cJ 13 (va_up (kfl F 0 13) n 1)), (h, rB ro le me cn), (ro, go cO 17 ra), (le, ki cI 13 Lx)] ++ gs 17 ra cJ 13 M) H := hP
  have hD : va_D A ([(a, ka cJ 13 (va_up (kfl F 0 13) n 1)), (h, rB ro le me cn), (ro, go cO 17 ra), (le, ki cI 13 Lx)] ++ gs 17 ra cJ 13 M) := hD
  refine rz_iconst hx hb d_B_fillMember_9 ?_
  refine lv_istore_n (lv' := [(3, .int (iz 0)), (0, .ref h), (1, .ref a), (2, .int (iz zn))]) hx hb d_B_fillMember_10 rfl hl (by decide) rfl (fun ls hl => ?_)
  rw [fmk_0 M Lx] at hP hD
  refine lo_B_fillMember (M := M) (Lx := Lx) (F := F) hL hzn hn hx hb hml hown hts hK hN ⟨Nat.le_of_ble_eq_true rfl, Nat.le_of_ble_eq_true rfl⟩ (fun H locs ls hP hD hS => ?_) n 0 _ H locs ls rfl (by omega) hP hD hS (lv_sub hl [0, 1, 2, 3] rfl)
  exact W.vret hx hb hr (fun t ht hW => ⟨⟨(), rfl, trivial, rc_out ht hP⟩, hS.F ht⟩) hS.2.2 d_B_fillMember_52
end WK
