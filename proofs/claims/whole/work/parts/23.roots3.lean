section WK
variable {p : Program} {l : Launch} {e : Env} {R : Room} {s : State} {m : MethodId} {args : Array Value} {below : List Frame} {meth : Method} {c : Code} {H : Heap} {locs : List Loc} {cells slots : Nat} {Q : State → Prop} {D : va_G} {A : Nat → Prop} {H0 : Heap}
/-- Euclid's steps: which of the two rows holds the greater (true: the second), the greater, the lesser -/
def euB : Nat → Bool → (Nat → ro_K) → (Nat → ro_K) → Bool × (Nat → ro_K) × (Nat → ro_K)
  | 0, sw, G, L => (sw, G, L)
  | n + 1, sw, G, L => if kd L 5 < 0 then (sw, G, L) else euB n (!sw) (km L) (tmr 5 G (km L))
set_option maxHeartbeats 4000000 in
set_option maxRecDepth 100000 in
theorem lo_R_common {fo wh pt rs sq on tw h : Nat} {cn : Int} {cJ : ClassId} {mo : Nat} {g r : Nat → ro_K} {U : Bool × (Nat → ro_K) × (Nat → ro_K)}  (hx : p.tables.exec = Jvm.exec) (hb : c.code = c_R_commonWithRaised) (hml : c.maxLocals = 6) (hown : s.vm.findClass R_R = some m.cls) (hts : ∀ w ∈ kb, w.before args s = true) (hK : va_K D vC [(cJ, .long)] s) (hN : rc_N s) (hR : 2 ≤ R.frames ∧ 61 ≤ R.locals) (hend : ∀ (H : Heap) (locs : List Loc) (ls : Array Slot), va_P D vC [(h, rR fo cn wh pt rs sq on tw), (mo, ka cJ 5 g), (rs, ka cJ 5 r), (on, ka cJ 5 (cond U.1 U.2.2 U.2.1)), (tw, ka cJ 5 (cond U.1 U.2.1 U.2.2))] H → va_D A [(h, rR fo cn wh pt rs sq on tw), (mo, ka cJ 5 g), (rs, ka cJ 5 r), (on, ka cJ 5 (cond U.1 U.2.2 U.2.1)), (tw, ka cJ 5 (cond U.1 U.2.1 U.2.2))] → va_S A H0 H locs → lv_has ls 6 [(2, .ref (cond U.1 tw on))] → W p l e R s m args below meth c H locs 0 0 Q (F0 m 68 ls [])) : ∀ (n : Nat) (sw : Bool) (G L : Nat → ro_K) (z : Int) (H : Heap) (locs : List Loc) (ls : Array Slot), z = 5 - (n : Int) → n ≤ 5 → euB n sw G L = U → va_P D vC [(h, rR fo cn wh pt rs sq on tw), (mo, ka cJ 5 g), (rs, ka cJ 5 r), (on, ka cJ 5 (cond sw L G)), (tw, ka cJ 5 (cond sw G L))] H → va_D A [(h, rR fo cn wh pt rs sq on tw), (mo, ka cJ 5 g), (rs, ka cJ 5 r), (on, ka cJ 5 (cond sw L G)), (tw, ka cJ 5 (cond sw G L))] → va_S A H0 H locs → lv_has ls 6 [(4, .int (iz z)), (3, .ref (cond sw on tw)), (2, .ref (cond sw tw on)), (0, .ref h), (1, .ref mo)] → W p l e R s m args below meth c H locs 0 0 Q (F0 m 32 ls []) := by
  intro n
  induction n with
  | zero =>
    intro sw G L z H locs ls hz hn hU hP hD hS hl
    subst hU
    refine lv_iload hx hb d_R_commonWithRaised_32 (lv_at hl 0 rfl) ?_
    refine rz_iconst hx hb d_R_commonWithRaised_34 ?_
    refine rz_icmp_ge (tgt := 68) hx hb d_R_commonWithRaised_35 (by decide) (fun hc => ?_) (fun hc => absurd hc (by omega))
    exact hend H locs ls hP hD hS (lv_sub hl [2] rfl)
  | succ n ih =>
    intro sw G L z H locs ls hz hn hU hP hD hS hl
    have hU2 : (if kd L 5 < 0 then (sw, G, L) else euB n (!sw) (km L) (tmr 5 G (km L))) = U := hU
    refine lv_iload hx hb d_R_commonWithRaised_32 (lv_at hl 0 rfl) ?_
    refine rz_iconst hx hb d_R_commonWithRaised_34 ?_
    refine rz_icmp_ge (tgt := 68) hx hb d_R_commonWithRaised_35 (by decide) (fun hc => absurd hc (by omega)) (fun hc => ?_)
    cases sw with
    | false =>
      have hP : va_P D vC [(h, rR fo cn wh pt rs sq on tw), (mo, ka cJ 5 g), (rs, ka cJ 5 r), (on, ka cJ 5 G), (tw, ka cJ 5 L)] H := hP
      have hD : va_D A [(h, rR fo cn wh pt rs sq on tw), (mo, ka cJ 5 g), (rs, ka cJ 5 r), (on, ka cJ 5 G), (tw, ka cJ 5 L)] := hD
      have hl : lv_has ls 6 [(4, .int (iz z)), (3, .ref tw), (2, .ref on), (0, .ref h), (1, .ref mo)] := hl
      refine lv_aload_n hx hb d_R_commonWithRaised_38 rfl (lv_at hl 1 rfl) ?_
      refine rc_calli (va_runSN (As := [.ref tw]) (rest := []) ⟨hx, hb, hml, hown, hts⟩ (m_O_isZero l D cJ tw 5 L (by omega)) ⟨va_cnB 1 hts (kb_gi (kb_c kw_327 kb_all)) rfl rfl rfl hN.2.2.2.1 (hts _ kw_1) (by decide +kernel) ⟨Nat.le_trans (by decide) hR.1, Nat.le_trans (by decide) hR.2⟩, hts _ kw_326, trivial⟩ ⟨rc_blind, rc_pre hP hD hK hN [4] rfl rfl [0] rfl⟩ rfl rfl hl.1 rfl (lv_room (Nat.le_of_ble_eq_true rfl)) d_R_commonWithRaised_39 ⟨Nat.zero_le _, Nat.zero_le _⟩) hP hD hS [4] rfl (fun _ => rfl) (fun r1 u2 H locs hw2 hP hD hS => ?_)
      subst hw2
      have hP : va_P D vC [(h, rR fo cn wh pt rs sq on tw), (mo, ka cJ 5 g), (rs, ka cJ 5 r), (on, ka cJ 5 G), (tw, ka cJ 5 L)] H := hP
      have hD : va_D A [(h, rR fo cn wh pt rs sq on tw), (mo, ka cJ 5 g), (rs, ka cJ 5 r), (on, ka cJ 5 G), (tw, ka cJ 5 L)] := hD
      by_cases hz0 : kd L 5 < 0
      · rw [if_pos hz0] at hU2 ⊢
        subst hU2
        refine rz_if_ne (tgt := 68) hx hb d_R_commonWithRaised_42 (by decide) (fun _ => ?_) (fun hc => absurd hc (by decide))
        exact hend H locs ls hP hD hS (lv_sub hl [2] rfl)
      · rw [if_neg hz0] at hU2 ⊢
        refine rz_if_ne (tgt := 68) hx hb d_R_commonWithRaised_42 (by decide) (fun hc => absurd rfl hc) (fun _ => ?_)
        refine lv_aload_n hx hb d_R_commonWithRaised_45 rfl (lv_at hl 1 rfl) ?_
        refine rc_callv (va_runS (As := [.ref tw]) (rest := []) ⟨hx, hb, hml, hown, hts⟩ (m_R_makeMonic l D cJ tw L) (cwS 1 hts (kb_gi (kb_c kw_356 (kb_c kw_357 (kb_c kw_2 (kb_c kw_358 kb_all))))) rfl rfl rfl (by decide +kernel) ⟨Nat.le_trans (by decide) hR.1, Nat.le_trans (by decide) hR.2⟩) ⟨rc_blind, rc_pre hP hD hK hN [4] rfl rfl [0] rfl⟩ rfl rfl hl.1 rfl (lv_room (Nat.le_of_ble_eq_true rfl)) d_R_commonWithRaised_46 ⟨Nat.zero_le _, Nat.zero_le _⟩) hP hD hS [4] rfl (fun _ => rfl) (fun u3 H locs hw3 hP hD hS => ?_)
        have hP : va_P D vC [(h, rR fo cn wh pt rs sq on tw), (mo, ka cJ 5 g), (rs, ka cJ 5 r), (on, ka cJ 5 G), (tw, ka cJ 5 (km L))] H := hP
        have hD : va_D A [(h, rR fo cn wh pt rs sq on tw), (mo, ka cJ 5 g), (rs, ka cJ 5 r), (on, ka cJ 5 G), (tw, ka cJ 5 (km L))] := hD
        refine lv_aload_n hx hb d_R_commonWithRaised_49 rfl (lv_at hl 2 rfl) ?_
        refine lv_aload_n hx hb d_R_commonWithRaised_50 rfl (lv_at hl 1 rfl) ?_
        refine rc_callv (va_runS (As := [.ref on, .ref tw]) (rest := []) ⟨hx, hb, hml, hown, hts⟩ (m_R_takeMultiples l D cJ on tw 5 G (km L) (by omega)) (cwS 2 hts (kb_gi (kb_c kw_378 (kb_c kw_379 (kb_c kw_2 (kb_c kw_380 kb_all))))) rfl rfl rfl (by decide +kernel) ⟨Nat.le_trans (by decide) hR.1, Nat.le_trans (by decide) hR.2⟩) ⟨rc_blind, rc_pre hP hD hK hN [3, 4] rfl rfl [0] rfl⟩ rfl rfl hl.1 rfl (lv_room (Nat.le_of_ble_eq_true rfl)) d_R_commonWithRaised_51 ⟨Nat.zero_le _, Nat.zero_le _⟩) hP hD hS [3, 4] rfl (fun _ => rfl) (fun u4 H locs hw4 hP hD hS => ?_)
        have hP : va_P D vC [(h, rR fo cn wh pt rs sq on tw), (mo, ka cJ 5 g), (rs, ka cJ 5 r), (on, ka cJ 5 (tmr 5 G (km L))), (tw, ka cJ 5 (km L))] H := hP
        have hD : va_D A [(h, rR fo cn wh pt rs sq on tw), (mo, ka cJ 5 g), (rs, ka cJ 5 r), (on, ka cJ 5 (tmr 5 G (km L))), (tw, ka cJ 5 (km L))] := hD
        refine lv_aload_n hx hb d_R_commonWithRaised_54 rfl (lv_at hl 2 rfl) ?_
        refine lv_astore (lv' := [(5, .ref on), (4, .int (iz z)), (3, .ref tw), (2, .ref on), (0, .ref h), (1, .ref mo)]) hx hb d_R_commonWithRaised_55 hl (by decide) rfl (fun ls hl => ?_)
        refine lv_aload_n hx hb d_R_commonWithRaised_57 rfl (lv_at hl 2 rfl) ?_
        refine lv_astore_n (lv' := [(2, .ref tw), (5, .ref on), (4, .int (iz z)), (3, .ref tw), (0, .ref h), (1, .ref mo)]) hx hb d_R_commonWithRaised_58 rfl hl (by decide) rfl (fun ls hl => ?_)
        refine lv_aload hx hb d_R_commonWithRaised_59 (lv_at hl 1 rfl) ?_
        refine lv_astore_n (lv' := [(3, .ref on), (2, .ref tw), (5, .ref on), (4, .int (iz z)), (0, .ref h), (1, .ref mo)]) hx hb d_R_commonWithRaised_61 rfl hl (by decide) rfl (fun ls hl => ?_)
        refine lv_iinc (v := iz (z + 1)) (lv' := [(4, .int (iz (z + 1))), (3, .ref on), (2, .ref tw), (5, .ref on), (0, .ref h), (1, .ref mo)]) hx hb d_R_commonWithRaised_62 hl (k := 3) rfl (iz_add _ _) (by decide) rfl (fun ls hl => ?_)
        refine lv_goto (tgt := 32) hx hb d_R_commonWithRaised_65 (by decide) ?_
        exact ih _ _ _ _ H locs ls (by omega) (by omega) hU2 hP hD hS (lv_sub hl [0, 1, 2, 4, 5] rfl)
    | true =>
      have hP : va_P D vC [(h, rR fo cn wh pt rs sq on tw), (mo, ka cJ 5 g), (rs, ka cJ 5 r), (on, ka cJ 5 L), (tw, ka cJ 5 G)] H := hP
      have hD : va_D A [(h, rR fo cn wh pt rs sq on tw), (mo, ka cJ 5 g), (rs, ka cJ 5 r), (on, ka cJ 5 L), (tw, ka cJ 5 G)] := hD
      have hl : lv_has ls 6 [(4, .int (iz z)), (3, .ref on), (2, .ref tw), (0, .ref h), (1, .ref mo)] := hl
      refine lv_aload_n hx hb d_R_commonWithRaised_38 rfl (lv_at hl 1 rfl) ?_
      refine rc_calli (va_runSN (As := [.ref on]) (rest := []) ⟨hx, hb, hml, hown, hts⟩ (m_O_isZero l D cJ on 5 L (by omega)) ⟨va_cnB 1 hts (kb_gi (kb_c kw_327 kb_all)) rfl rfl rfl hN.2.2.2.1 (hts _ kw_1) (by decide +kernel) ⟨Nat.le_trans (by decide) hR.1, Nat.le_trans (by decide) hR.2⟩, hts _ kw_326, trivial⟩ ⟨rc_blind, rc_pre hP hD hK hN [3] rfl rfl [0] rfl⟩ rfl rfl hl.1 rfl (lv_room (Nat.le_of_ble_eq_true rfl)) d_R_commonWithRaised_39 ⟨Nat.zero_le _, Nat.zero_le _⟩) hP hD hS [3] rfl (fun _ => rfl) (fun r5 u6 H locs hw6 hP hD hS => ?_)
      subst hw6
      have hP : va_P D vC [(h, rR fo cn wh pt rs sq on tw), (mo, ka cJ 5 g), (rs, ka cJ 5 r), (on, ka cJ 5 L), (tw, ka cJ 5 G)] H := hP
      have hD : va_D A [(h, rR fo cn wh pt rs sq on tw), (mo, ka cJ 5 g), (rs, ka cJ 5 r), (on, ka cJ 5 L), (tw, ka cJ 5 G)] := hD
      by_cases hz0 : kd L 5 < 0
      · rw [if_pos hz0] at hU2 ⊢
        subst hU2
        refine rz_if_ne (tgt := 68) hx hb d_R_commonWithRaised_42 (by decide) (fun _ => ?_) (fun hc => absurd hc (by decide))
        exact hend H locs ls hP hD hS (lv_sub hl [2] rfl)
      · rw [if_neg hz0] at hU2 ⊢
        refine rz_if_ne (tgt := 68) hx hb d_R_commonWithRaised_42 (by decide) (fun hc => absurd rfl hc) (fun _ => ?_)
        refine lv_aload_n hx hb d_R_commonWithRaised_45 rfl (lv_at hl 1 rfl) ?_
        refine rc_callv (va_runS (As := [.ref on]) (rest := []) ⟨hx, hb, hml, hown, hts⟩ (m_R_makeMonic l D cJ on L) (cwS 1 hts (kb_gi (kb_c kw_356 (kb_c kw_357 (kb_c kw_2 (kb_c kw_358 kb_all))))) rfl rfl rfl (by decide +kernel) ⟨Nat.le_trans (by decide) hR.1, Nat.le_trans (by decide) hR.2⟩) ⟨rc_blind, rc_pre hP hD hK hN [3] rfl rfl [0] rfl⟩ rfl rfl hl.1 rfl (lv_room (Nat.le_of_ble_eq_true rfl)) d_R_commonWithRaised_46 ⟨Nat.zero_le _, Nat.zero_le _⟩) hP hD hS [3] rfl (fun _ => rfl) (fun u7 H locs hw7 hP hD hS => ?_)
        have hP : va_P D vC [(h, rR fo cn wh pt rs sq on tw), (mo, ka cJ 5 g), (rs, ka cJ 5 r), (on, ka cJ 5 (km L)), (tw, ka cJ 5 G)] H := hP
        have hD : va_D A [(h, rR fo cn wh pt rs sq on tw), (mo, ka cJ 5 g), (rs, ka cJ 5 r), (on, ka cJ 5 (km L)), (tw, ka cJ 5 G)] := hD
        refine lv_aload_n hx hb d_R_commonWithRaised_49 rfl (lv_at hl 2 rfl) ?_
        refine lv_aload_n hx hb d_R_commonWithRaised_50 rfl (lv_at hl 1 rfl) ?_
        refine rc_callv (va_runS (As := [.ref tw, .ref on]) (rest := []) ⟨hx, hb, hml, hown, hts⟩ (m_R_takeMultiples l D cJ tw on 5 G (km L) (by omega)) (cwS 2 hts (kb_gi (kb_c kw_378 (kb_c kw_379 (kb_c kw_2 (kb_c kw_380 kb_all))))) rfl rfl rfl (by decide +kernel) ⟨Nat.le_trans (by decide) hR.1, Nat.le_trans (by decide) hR.2⟩) ⟨rc_blind, rc_pre hP hD hK hN [4, 3] rfl rfl [0] rfl⟩ rfl rfl hl.1 rfl (lv_room (Nat.le_of_ble_eq_true rfl)) d_R_commonWithRaised_51 ⟨Nat.zero_le _, Nat.zero_le _⟩) hP hD hS [4, 3] rfl (fun _ => rfl) (fun u8 H locs hw8 hP hD hS => ?_)
        have hP : va_P D vC [(h, rR fo cn wh pt rs sq on tw), (mo, ka cJ 5 g), (rs, ka cJ 5 r), (on, ka cJ 5 (km L)), (tw, ka cJ 5 (tmr 5 G (km L)))] H := hP
        have hD : va_D A [(h, rR fo cn wh pt rs sq on tw), (mo, ka cJ 5 g), (rs, ka cJ 5 r), (on, ka cJ 5 (km L)), (tw, ka cJ 5 (tmr 5 G (km L)))] := hD
        refine lv_aload_n hx hb d_R_commonWithRaised_54 rfl (lv_at hl 2 rfl) ?_
        refine lv_astore (lv' := [(5, .ref tw), (4, .int (iz z)), (3, .ref on), (2, .ref tw), (0, .ref h), (1, .ref mo)]) hx hb d_R_commonWithRaised_55 hl (by decide) rfl (fun ls hl => ?_)
        refine lv_aload_n hx hb d_R_commonWithRaised_57 rfl (lv_at hl 2 rfl) ?_
        refine lv_astore_n (lv' := [(2, .ref on), (5, .ref tw), (4, .int (iz z)), (3, .ref on), (0, .ref h), (1, .ref mo)]) hx hb d_R_commonWithRaised_58 rfl hl (by decide) rfl (fun ls hl => ?_)
        refine lv_aload hx hb d_R_commonWithRaised_59 (lv_at hl 1 rfl) ?_
        refine lv_astore_n (lv' := [(3, .ref tw), (2, .ref on), (5, .ref tw), (4, .int (iz z)), (0, .ref h), (1, .ref mo)]) hx hb d_R_commonWithRaised_61 rfl hl (by decide) rfl (fun ls hl => ?_)
        refine lv_iinc (v := iz (z + 1)) (lv' := [(4, .int (iz (z + 1))), (3, .ref tw), (2, .ref on), (5, .ref tw), (0, .ref h), (1, .ref mo)]) hx hb d_R_commonWithRaised_62 hl (k := 3) rfl (iz_add _ _) (by decide) rfl (fun ls hl => ?_)
        refine lv_goto (tgt := 32) hx hb d_R_commonWithRaised_65 (by decide) ?_
        exact ih _ _ _ _ H locs ls (by omega) (by omega) hU2 hP hD hS (lv_sub hl [0, 1, 2, 4, 5] rfl)
def ws_R_commonWithRaised : List Cond := .code y_R_commonWithRaised c_R_commonWithRaised 6 (some (.array .long)) :: kb
set_option maxHeartbeats 4000000 in
set_option maxRecDepth 100000 in
/-- what the two have in common -/
theorem m_R_commonWithRaised (l : Launch) (D : va_G) (cJ : ClassId) (h fo wh pt rs sq on tw : Nat) (cn : Int) (mo : Nat) (g r a b : Nat → ro_K) (U : Bool × (Nat → ro_K) × (Nat → ro_K)) (hU : euB 5 false (va_cpy g a 0 0 5) (va_cpy r b 0 0 5) = U) : Met l y_R_commonWithRaised ws_R_commonWithRaised ({ frames := 2, cells := 0, slots := 0, locals := 61 }) (rc_Pc D vC [(cJ, .long)] [.ref h, .ref mo] [(h, rR fo cn wh pt rs sq on tw), (mo, ka cJ 5 g), (rs, ka cJ 5 r), (on, ka cJ 5 a), (tw, ka cJ 5 b)]) (va_Qr (fun (_ : Unit) => True) (fun _ q t => q = cond U.1 tw on ∧ va_P D vC [(h, rR fo cn wh pt rs sq on tw), (mo, ka cJ 5 g), (rs, ka cJ 5 r), (on, ka cJ 5 (cond U.1 U.2.2 U.2.1)), (tw, ka cJ 5 (cond U.1 U.2.1 U.2.2))] t.heap) (rc_A [(h, rR fo cn wh pt rs sq on tw), (mo, ka cJ 5 g), (rs, ka cJ 5 r), (on, ka cJ 5 a), (tw, ka cJ 5 b)])) 0 0 (rc_A [(h, rR fo cn wh pt rs sq on tw), (mo, ka cJ 5 g), (rs, ka cJ 5 r), (on, ka cJ 5 a), (tw, ka cJ 5 b)]) := by
  refine Met.ofW (cc := c_R_commonWithRaised) (maxL := 6) (ret := (some (.array .long))) (by decide) rfl ?_
  intro p e s m args below meth c s₁ B hml hv
  obtain ⟨rfl, hP, hK, hD0, hN⟩ := hv
  have hx := B.exec
  have hb := B.bytes
  have hr := B.returns
  have hts0 := atoms_spec (ws := ws_R_commonWithRaised) B.pre
  have hts : ∀ w ∈ kb, w.before _ s = true := fun w h => hts0 w (List.mem_cons_of_mem _ h)
  have hown : s.vm.findClass R_R = some m.cls := findClass_of_methodNamed B.named
  have hlocks := B.notSynchronized
  have hD := rc_self hD0
  generalize hAe : rc_A [(h, rR fo cn wh pt rs sq on tw), (mo, ka cJ 5 g), (rs, ka cJ 5 r), (on, ka cJ 5 a), (tw, ka cJ 5 b)] = A at hD ⊢
  have hS : va_S A s.heap s.heap [] := va_S.rf
  have hl := lv_entry ([.ref h, .ref mo]) (n := 6) (Nat.le_of_ble_eq_true rfl)
  rw [lg_entry_eq]
  generalize (lg_sl ([.ref h, .ref mo]) ++ List.replicate (6 - (lg_sl ([.ref h, .ref mo])).length) Slot.unset).toArray = ls at hl ⊢

  have hl : lv_has ls 6 [(0, .ref h), (1, .ref mo)] := hl
  refine lv_aload_n hx hb d_R_commonWithRaised_0 rfl (lv_at hl 1 rfl) ?_
  refine lv_aload_n hx hb d_R_commonWithRaised_1 rfl (lv_at hl 0 rfl) ?_
  refine va_get (D := D) (ci := 1) (v := .ref on) (C := R_R) (T := T_R) (N := 8) hx hb hts in_R hown hK hP 0 rfl rfl 6 (by decide) (hts _ kw_36) (fun _ h9 => h9) rfl d_R_commonWithRaised_2 ?_
  refine rc_callv (va_runS (As := [.ref mo, .ref on]) (rest := []) ⟨hx, hb, hml, hown, hts⟩ (m_R_copy l D cJ mo on 5 g a (by omega)) (cwS 2 hts (kb_gi (kb_c kw_352 (kb_c kw_353 (kb_c kw_2 (kb_c kw_354 kb_all))))) rfl rfl rfl (by decide +kernel) ⟨Nat.le_of_ble_eq_true rfl, Nat.le_of_ble_eq_true rfl⟩) ⟨rc_blind, rc_pre hP hD hK hN [1, 3] rfl rfl [0] rfl⟩ rfl rfl hl.1 rfl (lv_room (Nat.le_of_ble_eq_true rfl)) d_R_commonWithRaised_5 ⟨Nat.zero_le _, Nat.zero_le _⟩) hP hD hS [1, 3] rfl (fun _ => rfl) (fun u1 H locs hw1 hP hD hS => ?_)
  have hP : va_P D vC [(h, rR fo cn wh pt rs sq on tw), (mo, ka cJ 5 g), (rs, ka cJ 5 r), (on, ka cJ 5 (va_cpy g a 0 0 5)), (tw, ka cJ 5 b)] H := hP
  have hD : va_D A [(h, rR fo cn wh pt rs sq on tw), (mo, ka cJ 5 g), (rs, ka cJ 5 r), (on, ka cJ 5 (va_cpy g a 0 0 5)), (tw, ka cJ 5 b)] := hD
  refine lv_aload_n hx hb d_R_commonWithRaised_8 rfl (lv_at hl 0 rfl) ?_
  refine va_get (D := D) (ci := 1) (v := .ref rs) (C := R_R) (T := T_R) (N := 8) hx hb hts in_R hown hK hP 0 rfl rfl 4 (by decide) (hts _ kw_34) (fun _ h9 => h9) rfl d_R_commonWithRaised_9 ?_
  refine lv_aload_n hx hb d_R_commonWithRaised_12 rfl (lv_at hl 0 rfl) ?_
  refine va_get (D := D) (ci := 1) (v := .ref tw) (C := R_R) (T := T_R) (N := 8) hx hb hts in_R hown hK hP 0 rfl rfl 7 (by decide) (hts _ kw_37) (fun _ h9 => h9) rfl d_R_commonWithRaised_13 ?_
  refine rc_callv (va_runS (As := [.ref rs, .ref tw]) (rest := []) ⟨hx, hb, hml, hown, hts⟩ (m_R_copy l D cJ rs tw 5 r b (by omega)) (cwS 2 hts (kb_gi (kb_c kw_352 (kb_c kw_353 (kb_c kw_2 (kb_c kw_354 kb_all))))) rfl rfl rfl (by decide +kernel) ⟨Nat.le_of_ble_eq_true rfl, Nat.le_of_ble_eq_true rfl⟩) ⟨rc_blind, rc_pre hP hD hK hN [2, 4] rfl rfl [0] rfl⟩ rfl rfl hl.1 rfl (lv_room (Nat.le_of_ble_eq_true rfl)) d_R_commonWithRaised_16 ⟨Nat.zero_le _, Nat.zero_le _⟩) hP hD hS [2, 4] rfl (fun _ => rfl) (fun u2 H locs hw2 hP hD hS => ?_)
  have hP : va_P D vC [(h, rR fo cn wh pt rs sq on tw), (mo, ka cJ 5 g), (rs, ka cJ 5 r), (on, ka cJ 5 (va_cpy g a 0 0 5)), (tw, ka cJ 5 (va_cpy r b 0 0 5))] H := hP
  have hD : va_D A [(h, rR fo cn wh pt rs sq on tw), (mo, ka cJ 5 g), (rs, ka cJ 5 r), (on, ka cJ 5 (va_cpy g a 0 0 5)), (tw, ka cJ 5 (va_cpy r b 0 0 5))] := hD
  refine lv_aload_n hx hb d_R_commonWithRaised_19 rfl (lv_at hl 0 rfl) ?_
  refine va_get (D := D) (ci := 1) (v := .ref on) (C := R_R) (T := T_R) (N := 8) hx hb hts in_R hown hK hP 0 rfl rfl 6 (by decide) (hts _ kw_36) (fun _ h9 => h9) rfl d_R_commonWithRaised_20 ?_
  refine lv_astore_n (lv' := [(2, .ref on), (0, .ref h), (1, .ref mo)]) hx hb d_R_commonWithRaised_23 rfl hl (by decide) rfl (fun ls hl => ?_)
  refine lv_aload_n hx hb d_R_commonWithRaised_24 rfl (lv_at hl 1 rfl) ?_
  refine va_get (D := D) (ci := 1) (v := .ref tw) (C := R_R) (T := T_R) (N := 8) hx hb hts in_R hown hK hP 0 rfl rfl 7 (by decide) (hts _ kw_37) (fun _ h9 => h9) rfl d_R_commonWithRaised_25 ?_
  refine lv_astore_n (lv' := [(3, .ref tw), (2, .ref on), (0, .ref h), (1, .ref mo)]) hx hb d_R_commonWithRaised_28 rfl hl (by decide) rfl (fun ls hl => ?_)
  refine rz_iconst hx hb d_R_commonWithRaised_29 ?_
  refine lv_istore (lv' := [(4, .int (iz 0)), (3, .ref tw), (2, .ref on), (0, .ref h), (1, .ref mo)]) hx hb d_R_commonWithRaised_30 hl (by decide) rfl (fun ls hl => ?_)
  refine lo_R_common (g := g) (r := r) (U := U) hx hb hml hown hts hK hN ⟨Nat.le_of_ble_eq_true rfl, Nat.le_of_ble_eq_true rfl⟩ (fun H locs ls hP hD hS hl => ?_) 5 false _ _ _ H locs ls (by omega) (by omega) hU hP hD hS (lv_sub hl [0, 1, 2, 3, 4] rfl)
  refine lv_aload_n hx hb d_R_commonWithRaised_68 rfl (lv_at hl 0 rfl) ?_
  exact W.aret hx hb hr (Or.inr ⟨_, rfl⟩) (Or.inr ⟨_, rfl⟩) (fun t ht hW => ⟨⟨(), _, rfl, trivial, rfl, rc_out ht hP⟩, hS.F ht⟩) hS.2.2 d_R_commonWithRaised_69
/-- where x goes among the first k, and the others moved up -/
def inK (x : ro_K) : Nat → (Nat → ro_K) → Nat × (Nat → ro_K)
  | 0, F => (0, F)
  | k + 1, F => if x.val < (F k).val then inK x k (va_up F (k + 1) (F k)) else (k + 1, F)
theorem lk_le {x y : ro_K} : lk x ≤ lk y ↔ x.val ≤ y.val := by
  have hx := x.isLt
  have hy := y.isLt
  unfold lk
  exact pk_lLE (by omega) (by omega)
theorem inK_le (x : ro_K) : ∀ k F, (inK x k F).1 ≤ k
  | 0, _ => Nat.le_refl 0
  | k + 1, F => by
    show (if x.val < (F k).val then inK x k (va_up F (k + 1) (F k)) else (k + 1, F)).1 ≤ k + 1
    by_cases h : x.val < (F k).val
    · rw [if_pos h]; exact Nat.le_succ_of_le (inK_le x k _)
    · rw [if_neg h]; exact Nat.le_refl _
set_option maxHeartbeats 4000000 in
set_option maxRecDepth 100000 in
theorem lo_R_insert {fo wh pt rs sq on tw h : Nat} {cn : Int} {cJ : ClassId} {x : ro_K} {U : Nat × (Nat → ro_K)}  (hx : p.tables.exec = Jvm.exec) (hb : c.code = c_R_insert) (hml : c.maxLocals = 4) (hown : s.vm.findClass R_R = some m.cls) (hts : ∀ w ∈ kb, w.before args s = true) (hK : va_K D vC [(cJ, .long)] s) (hN : rc_N s) (hend : ∀ (H : Heap) (locs : List Loc) (ls : Array Slot), va_P D vC [(h, rR fo cn wh pt rs sq on tw), (fo, ka cJ 4 U.2)] H → va_D A [(h, rR fo cn wh pt rs sq on tw), (fo, ka cJ 4 U.2)] → va_S A H0 H locs → lv_has ls 4 [(3, .int (iz (U.1 : Int))), (0, .ref h), (1, .long (lk x))] → W p l e R s m args below meth c H locs 0 0 Q (F0 m 55 ls [])) : ∀ (k : Nat) (F : Nat → ro_K) (z : Int) (H : Heap) (locs : List Loc) (ls : Array Slot), z = (k : Int) → k < 4 → inK x k F = U → va_P D vC [(h, rR fo cn wh pt rs sq on tw), (fo, ka cJ 4 F)] H → va_D A [(h, rR fo cn wh pt rs sq on tw), (fo, ka cJ 4 F)] → va_S A H0 H locs → lv_has ls 4 [(3, .int (iz z)), (0, .ref h), (1, .long (lk x))] → W p l e R s m args below meth c H locs 0 0 Q (F0 m 18 ls []) := by
  intro k
  induction k with
  | zero =>
    intro F z H locs ls hz hk hU hP hD hS hl
    subst hU
    subst hz
    refine lv_iload_n hx hb d_R_insert_18 rfl (lv_at hl 0 rfl) ?_
    refine rz_if_le (tgt := 55) hx hb d_R_insert_19 (by decide) (fun hc => ?_) (fun hc => absurd hc (by omega))
    exact hend H locs ls hP hD hS hl
  | succ k ih =>
    intro F z H locs ls hz hk hU hP hD hS hl
    have hU2 : (if x.val < (F k).val then inK x k (va_up F (k + 1) (F k)) else (k + 1, F)) = U := hU
    refine lv_iload_n hx hb d_R_insert_18 rfl (lv_at hl 0 rfl) ?_
    refine rz_if_le (tgt := 55) hx hb d_R_insert_19 (by decide) (fun hc => absurd hc (by omega)) (fun hc => ?_)
    refine lv_aload_n hx hb d_R_insert_22 rfl (lv_at hl 1 rfl) ?_
    refine va_get (D := D) (ci := 1) (v := .ref fo) (C := R_R) (T := T_R) (N := 8) hx hb hts in_R hown hK hP 0 rfl rfl 0 (by decide) (hts _ kw_30) (fun _ h9 => h9) rfl d_R_insert_23 ?_
    refine lv_iload_n hx hb d_R_insert_26 rfl (lv_at hl 0 rfl) ?_
    refine rz_iconst hx hb d_R_insert_27 ?_
    refine rz_isub hx hb d_R_insert_28 ?_
    refine rk_ld hx hb hK hP 1 0 rfl rfl k d_R_insert_29 ?_
    refine lv_lload_n hx hb d_R_insert_30 rfl (lv_at hl 2 rfl) ?_
    refine rz_lcmp_le (tgt := 55) hx hb d_R_insert_31 d_R_insert_32 (by decide) (fun hc1 => ?_) (fun hc1 => ?_)
    · rw [if_neg (by rw [lk_le] at *; omega)] at hU2
      subst hU2
      subst hz
      exact hend H locs ls hP hD hS hl
    · refine lv_aload_n hx hb d_R_insert_35 rfl (lv_at hl 1 rfl) ?_
      refine va_get (D := D) (ci := 1) (v := .ref fo) (C := R_R) (T := T_R) (N := 8) hx hb hts in_R hown hK hP 0 rfl rfl 0 (by decide) (hts _ kw_30) (fun _ h9 => h9) rfl d_R_insert_36 ?_
      refine lv_iload_n hx hb d_R_insert_39 rfl (lv_at hl 0 rfl) ?_
      refine lv_aload_n hx hb d_R_insert_40 rfl (lv_at hl 1 rfl) ?_
      refine va_get (D := D) (ci := 1) (v := .ref fo) (C := R_R) (T := T_R) (N := 8) hx hb hts in_R hown hK hP 0 rfl rfl 0 (by decide) (hts _ kw_30) (fun _ h9 => h9) rfl d_R_insert_41 ?_
      refine lv_iload_n hx hb d_R_insert_44 rfl (lv_at hl 0 rfl) ?_
      refine rz_iconst hx hb d_R_insert_45 ?_
      refine rz_isub hx hb d_R_insert_46 ?_
      refine rk_ld hx hb hK hP 1 0 rfl rfl k d_R_insert_47 ?_
      refine rk_st hx hb hK hP hD hS 1 0 rfl rfl (k + 1) d_R_insert_48 (fun H locs hP hD hS => ?_)
      have hP : va_P D vC [(h, rR fo cn wh pt rs sq on tw), (fo, ka cJ 4 (va_up F (k + 1) (F k)))] H := hP
      have hD : va_D A [(h, rR fo cn wh pt rs sq on tw), (fo, ka cJ 4 (va_up F (k + 1) (F k)))] := hD
      refine lv_iinc (v := iz (z + (-1))) (lv' := [(3, .int (iz (z + (-1)))), (0, .ref h), (1, .long (lk x))]) hx hb d_R_insert_49 hl (k := 0) rfl (iz_add _ _) (by decide) rfl (fun ls hl => ?_)
      refine lv_goto (tgt := 18) hx hb d_R_insert_52 (by decide) ?_
      rw [if_pos (by rw [lk_le] at *; omega)] at hU2
      exact ih _ _ H locs ls (by omega) (by omega) hU2 hP hD hS (lv_sub hl [0, 1, 2] rfl)
def ws_R_insert : List Cond := .code y_R_insert c_R_insert 4 none :: kb
set_option maxHeartbeats 4000000 in
set_option maxRecDepth 100000 in
/-- a root comes in its place -/
theorem m_R_insert (l : Launch) (D : va_G) (cJ : ClassId) (h fo wh pt rs sq on tw : Nat) (cn : Int) (F : Nat → ro_K) (x : ro_K) (n : Nat) (hn : cn = (n : Int)) (hn4 : n < 4) : Met l y_R_insert ws_R_insert ({ frames := 0, cells := 0, slots := 0, locals := 0 }) (rc_Pc D vC [(cJ, .long)] [.ref h, .long (lk x)] [(h, rR fo cn wh pt rs sq on tw), (fo, ka cJ 4 F)]) (va_Qv (fun (_ : Unit) => True) (fun _ t => va_P D vC [(h, rR fo (cn + 1) wh pt rs sq on tw), (fo, ka cJ 4 (va_up (inK x n F).2 (inK x n F).1 x))] t.heap) (rc_A [(h, rR fo cn wh pt rs sq on tw), (fo, ka cJ 4 F)])) 0 0 (rc_A [(h, rR fo cn wh pt rs sq on tw), (fo, ka cJ 4 F)]) := by
  refine Met.ofW (cc := c_R_insert) (maxL := 4) (ret := none) (by decide) rfl ?_
  intro p e s m args below meth c s₁ B hml hv
  obtain ⟨rfl, hP, hK, hD0, hN⟩ := hv
  have hx := B.exec
  have hb := B.bytes
  have hr := B.returns
  have hts0 := atoms_spec (ws := ws_R_insert) B.pre
  have hts : ∀ w ∈ kb, w.before _ s = true := fun w h => hts0 w (List.mem_cons_of_mem _ h)
  have hown : s.vm.findClass R_R = some m.cls := findClass_of_methodNamed B.named
  have hlocks := B.notSynchronized
  have hD := rc_self hD0
  generalize hAe : rc_A [(h, rR fo cn wh pt rs sq on tw), (fo, ka cJ 4 F)] = A at hD ⊢
  have hS : va_S A s.heap s.heap [] := va_S.rf
  have hl := lv_entry ([.ref h, .long (lk x)]) (n := 4) (Nat.le_of_ble_eq_true rfl)
  rw [lg_entry_eq]
  generalize (lg_sl ([.ref h, .long (lk x)]) ++ List.replicate (4 - (lg_sl ([.ref h, .long (lk x)])).length) Slot.unset).toArray = ls at hl ⊢

  have hl : lv_has ls 4 [(0, .ref h), (1, .long (lk x))] := hl
  have hle := inK_le x n F
  refine lv_aload_n hx hb d_R_insert_0 rfl (lv_at hl 0 rfl) ?_
  refine va_get (D := D) (ci := 1) (v := .int (iz cn)) (C := R_R) (T := T_R) (N := 8) hx hb hts in_R hown hK hP 0 rfl rfl 1 (by decide) (hts _ kw_31) (fun _ h9 => h9) rfl d_R_insert_1 ?_
  refine lv_aload_n hx hb d_R_insert_4 rfl (lv_at hl 0 rfl) ?_
  refine va_get (D := D) (ci := 1) (v := .ref fo) (C := R_R) (T := T_R) (N := 8) hx hb hts in_R hown hK hP 0 rfl rfl 0 (by decide) (hts _ kw_30) (fun _ h9 => h9) rfl d_R_insert_5 ?_
  refine va_alen (v := iz (4 : Nat)) hx hb hK hP 1 0 rfl rfl (iz_ofNat _) d_R_insert_8 ?_
  refine rz_icmp_lt (tgt := 13) hx hb d_R_insert_9 (by decide) (fun hc1 => ?_) (fun hc1 => ?_)
  · refine lv_aload_n hx hb d_R_insert_13 rfl (lv_at hl 0 rfl) ?_
    refine va_get (D := D) (ci := 1) (v := .int (iz cn)) (C := R_R) (T := T_R) (N := 8) hx hb hts in_R hown hK hP 0 rfl rfl 1 (by decide) (hts _ kw_31) (fun _ h9 => h9) rfl d_R_insert_14 ?_
    refine lv_istore_n (lv' := [(3, .int (iz cn)), (0, .ref h), (1, .long (lk x))]) hx hb d_R_insert_17 rfl hl (by decide) rfl (fun ls hl => ?_)
    refine lo_R_insert (x := x) (U := inK x n F) hx hb hml hown hts hK hN (fun H locs ls hP hD hS hl => ?_) n F _ _ _ ls hn hn4 rfl hP hD hS (lv_sub hl [0, 1, 2] rfl)
    refine lv_aload_n hx hb d_R_insert_55 rfl (lv_at hl 1 rfl) ?_
    refine va_get (D := D) (ci := 1) (v := .ref fo) (C := R_R) (T := T_R) (N := 8) hx hb hts in_R hown hK hP 0 rfl rfl 0 (by decide) (hts _ kw_30) (fun _ h9 => h9) rfl d_R_insert_56 ?_
    refine lv_iload_n hx hb d_R_insert_59 rfl (lv_at hl 0 rfl) ?_
    refine lv_lload_n hx hb d_R_insert_60 rfl (lv_at hl 2 rfl) ?_
    refine rk_st hx hb hK hP hD hS 1 0 rfl rfl (inK x n F).1 d_R_insert_61 (fun H locs hP hD hS => ?_)
    have hP : va_P D vC [(h, rR fo cn wh pt rs sq on tw), (fo, ka cJ 4 (va_up (inK x n F).2 (inK x n F).1 x))] H := hP
    have hD : va_D A [(h, rR fo cn wh pt rs sq on tw), (fo, ka cJ 4 (va_up (inK x n F).2 (inK x n F).1 x))] := hD
    refine lv_aload_n hx hb d_R_insert_62 rfl (lv_at hl 1 rfl) ?_
    refine lv_dup hx hb d_R_insert_63 rfl ?_
    refine va_get (D := D) (ci := 1) (v := .int (iz cn)) (C := R_R) (T := T_R) (N := 8) hx hb hts in_R hown hK hP 0 rfl rfl 1 (by decide) (hts _ kw_31) (fun _ h9 => h9) rfl d_R_insert_64 ?_
    refine rz_iconst hx hb d_R_insert_67 ?_
    refine rz_iadd hx hb d_R_insert_68 ?_
    refine va_put (D := D) (ci := 1) (v := .int (iz (cn + 1))) (ty := .int) (C := R_R) (T := T_R) (N := 8) hx hb hts in_R ty_R tk_R nm_R hown hK hP hD hS 0 rfl rfl 1 (by decide) (hts _ kw_31) (fun _ h9 => h9) rfl (by decide +kernel) rfl rfl (Nat.le_of_ble_eq_true rfl) d_R_insert_69 (fun H locs hP hD hS => ?_)
    have hP : va_P D vC [(h, rR fo (cn + 1) wh pt rs sq on tw), (fo, ka cJ 4 (va_up (inK x n F).2 (inK x n F).1 x))] H := hP
    have hD : va_D A [(h, rR fo (cn + 1) wh pt rs sq on tw), (fo, ka cJ 4 (va_up (inK x n F).2 (inK x n F).1 x))] := hD
    exact W.vret hx hb hr (fun t ht hW => ⟨⟨(), rfl, trivial, rc_out ht hP⟩, hS.F ht⟩) hS.2.2 d_R_insert_72
  · omega
end WK
