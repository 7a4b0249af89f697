section WK
variable {p : Program} {l : Launch} {e : Env} {R : Room} {s : State} {m : MethodId} {args : Array Value} {below : List Frame} {meth : Method} {c : Code} {H : Heap} {locs : List Loc} {cells slots : Nat} {Q : State → Prop} {D : va_G} {A : Nat → Prop} {H0 : Heap}
/-- the slope of a factor, before numbers are taken -/
def slK (F : Nat → ro_K) (pw tm : Nat) : Nat → ro_K
  | 0 => F (pw + tm)
  | k + 1 => slK F pw tm k * ro_k ((pw : Int) + ((k : Int) + 1))
def slV (F : Nat → ro_K) (pw tm : Nat) : ro_K := if pw + tm < 5 then slK F pw tm tm else 0
def p8 : Nat → Nat
  | 0 => 32002
  | k + 1 => p8 k * 8
theorem p8_le : ∀ k : Nat, k ≤ 3 → p8 k ≤ 16385024 := by decide
def adS (F : Nat → Nat → ro_K) (j pw : Nat) : Nat → ro_K
  | 0 => 0
  | k + 1 => adS F j pw k + (if (j + k) % 2 = 0 then ro_k (chL (4 * (j + k) + j)) * slV (F (j + k)) pw k else -(ro_k (chL (4 * (j + k) + j)) * slV (F (j + k)) pw k))
theorem chL_le : ∀ j : Nat, j < 16 → 0 ≤ chL j ∧ chL j ≤ 3 := by decide
set_option maxHeartbeats 4000000 in
set_option maxRecDepth 100000 in
theorem lo_O_slopeAt {a pw tm : Nat} {F : Nat → ro_K} {zt zp : Int} (hzt : zt = (tm : Int)) (hzp : zp = (pw : Int)) (ht3 : tm ≤ 3) (hp : pw + tm < 5) (hx : p.tables.exec = Jvm.exec) (hb : c.code = c_O_slopeAt) (hend : ∀ (v : Int64) (ls : Array Slot), lq v (slK F pw tm tm) 16385024 → lv_has ls 6 [(3, .long v)] → W p l e R s m args below meth c H locs 0 0 Q (F0 m 38 ls [])) : ∀ (q k : Nat) (z : Int) (v : Int64) (ls : Array Slot), z = (k : Int) + 1 → k + q = tm → lq v (slK F pw tm k) (p8 k) → lv_has ls 6 [(5, .int (iz z)), (3, .long v), (0, .ref a), (1, .int (iz zt)), (2, .int (iz zp))] → W p l e R s m args below meth c H locs 0 0 Q (F0 m 18 ls []) := by
  intro q
  induction q with
  | zero =>
    intro k z v ls hz hk hv hl
    have e : k = tm := hk
    subst e
    refine lv_iload hx hb d_O_slopeAt_18 (lv_at hl 0 rfl) ?_
    refine lv_iload_n hx hb d_O_slopeAt_20 rfl (lv_at hl 3 rfl) ?_
    refine rz_icmp_gt (tgt := 38) hx hb d_O_slopeAt_21 (by decide) (fun hc1 => ?_) (fun hc1 => ?_)
    · exact hend v ls (lq_up hv (p8_le _ ht3)) (lv_sub hl [1] rfl)
    · omega
  | succ q ih =>
    intro k z v ls hz hk hv hl
    subst hz
    have hs1 : slK F pw tm (k + 1) = slK F pw tm k * ro_k ((pw : Int) + ((k : Int) + 1)) := rfl
    refine lv_iload hx hb d_O_slopeAt_18 (lv_at hl 0 rfl) ?_
    refine lv_iload_n hx hb d_O_slopeAt_20 rfl (lv_at hl 3 rfl) ?_
    refine rz_icmp_gt (tgt := 38) hx hb d_O_slopeAt_21 (by decide) (fun hc2 => ?_) (fun hc2 => ?_)
    · omega
    · refine lv_lload_n hx hb d_O_slopeAt_24 rfl (lv_at hl 1 rfl) ?_
      refine lv_iload_n hx hb d_O_slopeAt_25 rfl (lv_at hl 4 rfl) ?_
      refine lv_iload hx hb d_O_slopeAt_26 (lv_at hl 0 rfl) ?_
      refine rz_iadd hx hb d_O_slopeAt_28 ?_
      refine rz_i2l hx hb 8 d_O_slopeAt_29 (fun w1 hw1 => ?_) (by omega) (by omega)
      refine rlq_lmul hx hb (p8 (k + 1)) hv hw1 d_O_slopeAt_30 (fun w2 hw2 => ?_) ⟨Nat.le_refl _, by have := p8_le (k + 1) (by omega); omega⟩
      refine lv_lstore_n (lv' := [(3, .long w2), (5, .int (iz ((k : Int) + 1))), (0, .ref a), (1, .int (iz zt)), (2, .int (iz zp))]) hx hb d_O_slopeAt_31 rfl hl (by decide) rfl (fun ls hl => ?_)
      refine lv_iinc (v := iz (((k : Int) + 1) + 1)) (lv' := [(5, .int (iz (((k : Int) + 1) + 1))), (3, .long w2), (0, .ref a), (1, .int (iz zt)), (2, .int (iz zp))]) hx hb d_O_slopeAt_32 hl (k := 1) rfl (iz_add _ _) (by decide) rfl (fun ls hl => ?_)
      refine lv_goto (tgt := 18) hx hb d_O_slopeAt_35 (by decide) ?_
      exact ih (k + 1) _ w2 ls (by omega) (by omega) (by subst hzp; exact hw2) (lv_sub hl [0, 1, 2, 3, 4] rfl)
def ws_O_slopeAt : List Cond := .code y_O_slopeAt c_O_slopeAt 6 (some .long) :: kb
set_option maxHeartbeats 4000000 in
set_option maxRecDepth 100000 in
/-- the slope of a factor at a power -/
theorem m_O_slopeAt (l : Launch) (D : va_G) (cJ : ClassId) (a pw tm : Nat) (F : Nat → ro_K) (zt zp : Int) (hzt : zt = (tm : Int)) (hzp : zp = (pw : Int)) (ht3 : tm ≤ 3) (hp4 : pw ≤ 4) : Met l y_O_slopeAt ws_O_slopeAt ({ frames := 0, cells := 0, slots := 0, locals := 0 }) (rc_Pc D vC [(cJ, .long)] [.ref a, .int (iz zt), .int (iz zp)] [(a, ka cJ 5 F)]) (va_Ql (fun (q : Int64) (_ : Unit) => lq q (slV F pw tm) 16385024) (fun _ t => va_P D vC [(a, ka cJ 5 F)] t.heap) (rc_A [(a, ka cJ 5 F)])) 0 0 (rc_A [(a, ka cJ 5 F)]) := by
  refine Met.ofW (cc := c_O_slopeAt) (maxL := 6) (ret := (some .long)) (by decide) rfl ?_
  intro p e s m args below meth c s₁ B hml hv
  obtain ⟨rfl, hP, hK, hD0, hN⟩ := hv
  have hx := B.exec
  have hb := B.bytes
  have hr := B.returns
  have hts0 := atoms_spec (ws := ws_O_slopeAt) B.pre
  have hts : ∀ w ∈ kb, w.before _ s = true := fun w h => hts0 w (List.mem_cons_of_mem _ h)
  have hown : s.vm.findClass R_O = some m.cls := findClass_of_methodNamed B.named
  have hlocks := B.notSynchronized
  have hD := rc_self hD0
  generalize hAe : rc_A [(a, ka cJ 5 F)] = A at hD ⊢
  have hS : va_S A s.heap s.heap [] := va_S.rf
  have hl := lv_entry ([.ref a, .int (iz zt), .int (iz zp)]) (n := 6) (Nat.le_of_ble_eq_true rfl)
  rw [lg_entry_eq]
  generalize (lg_sl ([.ref a, .int (iz zt), .int (iz zp)]) ++ List.replicate (6 - (lg_sl ([.ref a, .int (iz zt), .int (iz zp)])).length) Slot.unset).toArray = ls at hl ⊢

  have hl : lv_has ls 6 [(0, .ref a), (1, .int (iz zt)), (2, .int (iz zp))] := hl
  refine lv_iload_n hx hb d_O_slopeAt_0 rfl (lv_at hl 2 rfl) ?_
  refine lv_iload_n hx hb d_O_slopeAt_1 rfl (lv_at hl 1 rfl) ?_
  refine rz_iadd hx hb d_O_slopeAt_2 ?_
  refine rz_iconst hx hb d_O_slopeAt_3 ?_
  refine rz_icmp_lt (tgt := 9) hx hb d_O_slopeAt_4 (by decide) (fun hc1 => ?_) (fun hc1 => ?_)
  · refine lv_aload_n hx hb d_O_slopeAt_9 rfl (lv_at hl 0 rfl) ?_
    refine lv_iload_n hx hb d_O_slopeAt_10 rfl (lv_at hl 2 rfl) ?_
    refine lv_iload_n hx hb d_O_slopeAt_11 rfl (lv_at hl 1 rfl) ?_
    refine rz_iadd hx hb d_O_slopeAt_12 ?_
    refine rk_ld hx hb hK hP 0 0 rfl rfl (pw + tm) d_O_slopeAt_13 ?_
    refine lv_lstore_n (lv' := [(3, .long (lk (F (pw + tm)))), (0, .ref a), (1, .int (iz zt)), (2, .int (iz zp))]) hx hb d_O_slopeAt_14 rfl hl (by decide) rfl (fun ls hl => ?_)
    refine rz_iconst hx hb d_O_slopeAt_15 ?_
    refine lv_istore (lv' := [(5, .int (iz 1)), (3, .long (lk (F (pw + tm)))), (0, .ref a), (1, .int (iz zt)), (2, .int (iz zp))]) hx hb d_O_slopeAt_16 hl (by decide) rfl (fun ls hl => ?_)
    refine lo_O_slopeAt (F := F) hzt hzp ht3 (by omega) hx hb (fun v ls hv hl => ?_) tm 0 _ _ ls rfl (by omega) (lq_of (lk_p _) (by decide)) (lv_sub hl [0, 1, 2, 3, 4] rfl)
    refine lv_lload_n hx hb d_O_slopeAt_38 rfl (lv_at hl 0 rfl) ?_
    exact W.lret hx hb hr (fun t ht hW => ⟨⟨_, (), rfl, (by unfold slV; rw [if_pos (by omega)]; exact hv), rc_out ht hP⟩, hS.F ht⟩) hS.2.2 d_O_slopeAt_39
  · refine lv_lconst (v := lk 0) hx hb d_O_slopeAt_7 rfl ?_
    exact W.lret hx hb hr (fun t ht hW => ⟨⟨_, (), rfl, (by unfold slV; rw [if_neg (by omega)]; exact ⟨by decide, by decide, rfl⟩), rc_out ht hP⟩, hS.F ht⟩) hS.2.2 d_O_slopeAt_8
set_option maxHeartbeats 4000000 in
set_option maxRecDepth 100000 in
theorem lo_O_adjointAt {cJ cO : ClassId} {h fa ot ah te id rt bs : Nat} {od kn : Int} {ct : Nat} {j pw o : Nat} {fr : Nat → Nat} {F : Nat → Nat → ro_K} {zj zp : Int} (hod : od = (o : Int)) (ho3 : o ≤ 3) (hzj : zj = (j : Int)) (hzp : zp = (pw : Int)) (hj : j ≤ o) (hp4 : pw ≤ 4) (hx : p.tables.exec = Jvm.exec) (hb : c.code = c_O_adjointAt) (hml : c.maxLocals = 8) (hown : s.vm.findClass R_O = some m.cls) (hts : ∀ w ∈ kb, w.before args s = true) (hK : va_K D vC [(cJ, .long), (cO, .array .long)] s) (hN : rc_N s) (hC : rz_C ct A s s.heap) (hR : 1 ≤ R.frames ∧ 25 ≤ R.locals) (hend : ∀ (v : Int64) (H : Heap) (locs : List Loc) (ls : Array Slot), lq v (adS F j pw (o + 1 - j)) 196620288 → va_P D vC ([(h, rO od fa ot ah te id rt bs kn), (fa, go cO 4 fr)] ++ gs 4 fr cJ 5 F) H → va_D A ([(h, rO od fa ot ah te id rt bs kn), (fa, go cO 4 fr)] ++ gs 4 fr cJ 5 F) → va_S A s.heap H locs → lv_has ls 8 [(3, .long v)] → W p l e R s m args below meth c H locs 0 0 Q (F0 m 67 ls [])) : ∀ (q k : Nat) (z : Int) (v : Int64) (H : Heap) (locs : List Loc) (ls : Array Slot), z = ((j + k : Nat) : Int) → k + q = o + 1 - j → lq v (adS F j pw k) (k * 49155072) → va_P D vC ([(h, rO od fa ot ah te id rt bs kn), (fa, go cO 4 fr)] ++ gs 4 fr cJ 5 F) H → va_D A ([(h, rO od fa ot ah te id rt bs kn), (fa, go cO 4 fr)] ++ gs 4 fr cJ 5 F) → va_S A s.heap H locs → lv_has ls 8 [(5, .int (iz z)), (3, .long v), (0, .ref h), (1, .int (iz zj)), (2, .int (iz zp))] → W p l e R s m args below meth c H locs 0 0 Q (F0 m 5 ls []) := by
  intro q
  induction q with
  | zero =>
    intro k z v H locs ls hz hk hv hP hD hS hl
    have e : k = o + 1 - j := hk
    subst e
    refine lv_iload hx hb d_O_adjointAt_5 (lv_at hl 0 rfl) ?_
    refine lv_aload_n hx hb d_O_adjointAt_7 rfl (lv_at hl 2 rfl) ?_
    refine va_get (D := D) (ci := 2) (v := .int (iz od)) (C := R_O) (T := T_O) (N := 9) hx hb hts in_O hown hK hP 0 rfl rfl 0 (by decide) (hts _ kw_83) (fun _ h9 => h9) rfl d_O_adjointAt_8 ?_
    refine rz_icmp_gt (tgt := 67) hx hb d_O_adjointAt_11 (by decide) (fun hc1 => ?_) (fun hc1 => ?_)
    · exact hend v H locs ls (lq_up hv (by omega)) hP hD hS (lv_sub hl [1] rfl)
    · omega
  | succ q ih =>
    intro k z v H locs ls hz hk hv hP hD hS hl
    subst hz
    have hch := chL_le (4 * (j + k) + j) (by omega)
    have hs1 : adS F j pw (k + 1) = adS F j pw k + (if (j + k) % 2 = 0 then ro_k (chL (4 * (j + k) + j)) * slV (F (j + k)) pw k else -(ro_k (chL (4 * (j + k) + j)) * slV (F (j + k)) pw k)) := rfl
    refine lv_iload hx hb d_O_adjointAt_5 (lv_at hl 0 rfl) ?_
    refine lv_aload_n hx hb d_O_adjointAt_7 rfl (lv_at hl 2 rfl) ?_
    refine va_get (D := D) (ci := 2) (v := .int (iz od)) (C := R_O) (T := T_O) (N := 9) hx hb hts in_O hown hK hP 0 rfl rfl 0 (by decide) (hts _ kw_83) (fun _ h9 => h9) rfl d_O_adjointAt_8 ?_
    refine rz_icmp_gt (tgt := 67) hx hb d_O_adjointAt_11 (by decide) (fun hc2 => ?_) (fun hc2 => ?_)
    · omega
    · refine va_gets hx hb hC.1 hS hown (hts _ kw_191) (fun _ h9 => h9) d_O_adjointAt_14 ?_
      refine rz_iconst hx hb d_O_adjointAt_17 ?_
      refine lv_iload hx hb d_O_adjointAt_18 (lv_at hl 0 rfl) ?_
      refine rz_imul hx hb d_O_adjointAt_20 ?_
      refine lv_iload_n hx hb d_O_adjointAt_21 rfl (lv_at hl 3 rfl) ?_
      refine rz_iadd hx hb d_O_adjointAt_22 ?_
      refine va_ti hx hb hC.2 hS (iz_in (j := 4 * (j + k) + j) (by omega) (by omega) (by decide)) (v := .int (iz (chL (4 * (j + k) + j)))) (by show Value.int (iz (chL (Int32.toNatClampNeg _))) = _; rw [iz_clamp (j := 4 * (j + k) + j) (by omega) (by omega)]) d_O_adjointAt_23 ?_
      refine rz_i2l hx hb 3 d_O_adjointAt_24 (fun w1 hw1 => ?_) (by omega) (by omega)
      refine lv_aload_n hx hb d_O_adjointAt_25 rfl (lv_at hl 2 rfl) ?_
      refine va_get (D := D) (ci := 2) (v := .ref fa) (C := R_O) (T := T_O) (N := 9) hx hb hts in_O hown hK hP 0 rfl rfl 1 (by decide) (hts _ kw_84) (fun _ h9 => h9) rfl d_O_adjointAt_26 ?_
      refine lv_iload hx hb d_O_adjointAt_29 (lv_at hl 0 rfl) ?_
      refine rg_ald hx hb hK hP 1 1 rfl rfl (j + k) d_O_adjointAt_31 ?_
      refine lv_iload hx hb d_O_adjointAt_32 (lv_at hl 0 rfl) ?_
      refine lv_iload_n hx hb d_O_adjointAt_34 rfl (lv_at hl 3 rfl) ?_
      refine rz_isub hx hb d_O_adjointAt_35 ?_
      refine lv_iload_n hx hb d_O_adjointAt_36 rfl (lv_at hl 4 rfl) ?_
      refine rr_calll (va_runS (As := [.ref (fr (j + k)), .int (iz (((j + k : Nat) : Int) - zj)), .int (iz zp)]) (rest := [.long w1]) ⟨hx, hb, hml, hown, hts⟩ (m_O_slopeAt l D cJ (fr (j + k)) pw k (F (j + k)) (((j + k : Nat) : Int) - zj) zp (by omega) hzp (by omega) hp4) (cwS 3 hts (kb_gi (kb_c kw_193 (kb_c kw_194 (kb_c kw_1 (kb_c kw_195 kb_all))))) rfl rfl rfl (by decide +kernel) ⟨Nat.le_trans (by decide) hR.1, Nat.le_trans (by decide) hR.2⟩) ⟨rc_blind, rr_pre (rs_nil hP) (rs_nilD hD) hK hN (by omega) [] rfl rfl [0] rfl⟩ rfl rfl hl.1 rfl (lv_room (Nat.le_of_ble_eq_true rfl)) d_O_adjointAt_37 ⟨Nat.zero_le _, Nat.zero_le _⟩) (rs_nil hP) (rs_nilD hD) hS (by omega) [] rfl (fun _ => rfl) (fun r3 u4 H locs hw4 hP hD hS => ?_)
      have hP := rs_nilR hP
      have hD := rs_nilRD hD
      rw [va_up_id] at hP hD
      have hP : va_P D vC ([(h, rO od fa ot ah te id rt bs kn), (fa, go cO 4 fr)] ++ gs 4 fr cJ 5 F) H := hP
      have hD : va_D A ([(h, rO od fa ot ah te id rt bs kn), (fa, go cO 4 fr)] ++ gs 4 fr cJ 5 F) := hD
      refine rlq_lmul hx hb 49155072 hw1 hw4 d_O_adjointAt_40 (fun v5 hv5 => ?_)
      refine lv_lstore (lv' := [(6, .long v5), (5, .int (iz ((j + k : Nat) : Int))), (3, .long v), (0, .ref h), (1, .int (iz zj)), (2, .int (iz zp))]) hx hb d_O_adjointAt_41 hl (by decide) rfl (fun ls hl => ?_)
      refine lv_lload_n hx hb d_O_adjointAt_43 rfl (lv_at hl 2 rfl) ?_
      refine lv_iload hx hb d_O_adjointAt_44 (lv_at hl 1 rfl) ?_
      refine rz_iconst hx hb d_O_adjointAt_46 ?_
      refine lv_irem (x := iz ((j + k : Nat) : Int)) (y := iz 2) hx hb d_O_adjointAt_47 (by decide) ?_
      rw [rz_irem2 (j + k) (by omega)]
      refine rz_if_ne (tgt := 56) hx hb d_O_adjointAt_48 (by decide) (fun hc6 => ?_) (fun hc6 => ?_)
      · refine lv_lload hx hb d_O_adjointAt_56 (lv_at hl 0 rfl) ?_
        refine rlq_lneg hx hb hv5 d_O_adjointAt_58 (fun v7 hv7 => ?_)
        refine rlq_ladd hx hb ((k + 1) * 49155072) hv hv7 d_O_adjointAt_59 (fun w2 hw2 => ?_) (by omega)
        refine lv_lstore_n (lv' := [(3, .long w2), (6, .long v5), (5, .int (iz ((j + k : Nat) : Int))), (0, .ref h), (1, .int (iz zj)), (2, .int (iz zp))]) hx hb d_O_adjointAt_60 rfl hl (by decide) rfl (fun ls hl => ?_)
        refine lv_iinc (v := iz (((j + k : Nat) : Int) + 1)) (lv' := [(5, .int (iz (((j + k : Nat) : Int) + 1))), (3, .long w2), (6, .long v5), (0, .ref h), (1, .int (iz zj)), (2, .int (iz zp))]) hx hb d_O_adjointAt_61 hl (k := 2) rfl (iz_add _ _) (by decide) rfl (fun ls hl => ?_)
        refine lv_goto (tgt := 5) hx hb d_O_adjointAt_64 (by decide) ?_
        exact ih (k + 1) _ w2 H locs ls (by omega) (by omega) (by rw [hs1, if_neg (by omega)]; exact hw2) hP hD hS (lv_sub hl [0, 1, 3, 4, 5] rfl)
      · refine lv_lload hx hb d_O_adjointAt_51 (lv_at hl 0 rfl) ?_
        refine lv_goto (tgt := 59) hx hb d_O_adjointAt_53 (by decide) ?_
        refine rlq_ladd hx hb ((k + 1) * 49155072) hv hv5 d_O_adjointAt_59 (fun w2 hw2 => ?_) (by omega)
        refine lv_lstore_n (lv' := [(3, .long w2), (6, .long v5), (5, .int (iz ((j + k : Nat) : Int))), (0, .ref h), (1, .int (iz zj)), (2, .int (iz zp))]) hx hb d_O_adjointAt_60 rfl hl (by decide) rfl (fun ls hl => ?_)
        refine lv_iinc (v := iz (((j + k : Nat) : Int) + 1)) (lv' := [(5, .int (iz (((j + k : Nat) : Int) + 1))), (3, .long w2), (6, .long v5), (0, .ref h), (1, .int (iz zj)), (2, .int (iz zp))]) hx hb d_O_adjointAt_61 hl (k := 2) rfl (iz_add _ _) (by decide) rfl (fun ls hl => ?_)
        refine lv_goto (tgt := 5) hx hb d_O_adjointAt_64 (by decide) ?_
        exact ih (k + 1) _ w2 H locs ls (by omega) (by omega) (by rw [hs1, if_pos (by omega)]; exact hw2) hP hD hS (lv_sub hl [0, 1, 3, 4, 5] rfl)
def ws_O_adjointAt : List Cond := .code y_O_adjointAt c_O_adjointAt 8 (some .long) :: kb
set_option maxHeartbeats 4000000 in
set_option maxRecDepth 100000 in
/-- what the adjoint has at a power -/
theorem m_O_adjointAt (l : Launch) (D : va_G) (cJ cO : ClassId) (h fa ot ah te id rt bs : Nat) (od kn : Int) (ct : Nat) (fr : Nat → Nat) (F : Nat → Nat → ro_K) (j pw o : Nat) (zj zp : Int) (hod : od = (o : Int)) (ho3 : o ≤ 3) (hzj : zj = (j : Int)) (hzp : zp = (pw : Int)) (hj : j ≤ o) (hp4 : pw ≤ 4) : Met l y_O_adjointAt ws_O_adjointAt ({ frames := 1, cells := 0, slots := 0, locals := 25 }) (rc_Pz D vC [(cJ, .long), (cO, .array .long)] [.ref h, .int (iz zj), .int (iz zp)] ([(h, rO od fa ot ah te id rt bs kn), (fa, go cO 4 fr)] ++ gs 4 fr cJ 5 F) ct) (va_Ql (fun (q : Int64) (_ : Unit) => q = lk (adS F j pw (o + 1 - j))) (fun _ t => va_P D vC ([(h, rO od fa ot ah te id rt bs kn), (fa, go cO 4 fr)] ++ gs 4 fr cJ 5 F) t.heap) (rc_A ([(h, rO od fa ot ah te id rt bs kn), (fa, go cO 4 fr)] ++ gs 4 fr cJ 5 F))) 0 0 (rc_A ([(h, rO od fa ot ah te id rt bs kn), (fa, go cO 4 fr)] ++ gs 4 fr cJ 5 F)) := by
  refine Met.ofW (cc := c_O_adjointAt) (maxL := 8) (ret := (some .long)) (by decide) rfl ?_
  intro p e s m args below meth c s₁ B hml hv
  obtain ⟨⟨rfl, hP, hK, hD0, hN⟩, hC⟩ := hv
  have hx := B.exec
  have hb := B.bytes
  have hr := B.returns
  have hts0 := atoms_spec (ws := ws_O_adjointAt) B.pre
  have hts : ∀ w ∈ kb, w.before _ s = true := fun w h => hts0 w (List.mem_cons_of_mem _ h)
  have hown : s.vm.findClass R_O = some m.cls := findClass_of_methodNamed B.named
  have hlocks := B.notSynchronized
  have hD := rc_self hD0
  generalize hAe : rc_A ([(h, rO od fa ot ah te id rt bs kn), (fa, go cO 4 fr)] ++ gs 4 fr cJ 5 F) = A at hD hC ⊢
  have hS : va_S A s.heap s.heap [] := va_S.rf
  have hl := lv_entry ([.ref h, .int (iz zj), .int (iz zp)]) (n := 8) (Nat.le_of_ble_eq_true rfl)
  rw [lg_entry_eq]
  generalize (lg_sl ([.ref h, .int (iz zj), .int (iz zp)]) ++ List.replicate (8 - (lg_sl ([.ref h, .int (iz zj), .int (iz zp)])).length) Slot.unset).toArray = ls at hl ⊢

  have hl : lv_has ls 8 [(0, .ref h), (1, .int (iz zj)), (2, .int (iz zp))] := hl
  refine lv_lconst (v := lk 0) hx hb d_O_adjointAt_0 rfl ?_
  refine lv_lstore_n (lv' := [(3, .long (lk 0)), (0, .ref h), (1, .int (iz zj)), (2, .int (iz zp))]) hx hb d_O_adjointAt_1 rfl hl (by decide) rfl (fun ls hl => ?_)
  refine lv_iload_n hx hb d_O_adjointAt_2 rfl (lv_at hl 2 rfl) ?_
  refine lv_istore (lv' := [(5, .int (iz zj)), (3, .long (lk 0)), (0, .ref h), (1, .int (iz zj)), (2, .int (iz zp))]) hx hb d_O_adjointAt_3 hl (by decide) rfl (fun ls hl => ?_)
  refine lo_O_adjointAt (F := F) (o := o) hod ho3 hzj hzp hj hp4 hx hb hml hown hts hK hN hC ⟨Nat.le_of_ble_eq_true rfl, Nat.le_of_ble_eq_true rfl⟩ (fun v H locs ls hv hP hD hS hl => ?_) (o + 1 - j) 0 _ _ _ _ ls (by omega) (by omega) ⟨by decide, by decide, rfl⟩ hP hD hS (lv_sub hl [0, 1, 2, 3, 4] rfl)
  refine lv_lload_n hx hb d_O_adjointAt_67 rfl (lv_at hl 0 rfl) ?_
  refine rc_calll (va_runS (As := [.long v]) (rest := []) ⟨hx, hb, hml, hown, hts⟩ (m_O_number l D v) (cwS 1 hts (kb_gi (kb_c kw_123 (kb_c kw_124 (kb_c kw_1 (kb_c kw_125 kb_all))))) rfl rfl rfl (by decide +kernel) ⟨Nat.le_of_ble_eq_true rfl, Nat.le_of_ble_eq_true rfl⟩) ⟨rc_blind, rc_pre hP hD hK hN [] rfl rfl [] rfl⟩ rfl rfl hl.1 rfl (lv_room (Nat.le_of_ble_eq_true rfl)) d_O_adjointAt_68 ⟨Nat.zero_le _, Nat.zero_le _⟩) hP hD hS [] rfl (fun _ => rfl) (fun r1 u2 H locs hw2 hP hD hS => ?_)
  rw [hv.2.2] at hw2
  subst hw2
  have hP : va_P D vC ([(h, rO od fa ot ah te id rt bs kn), (fa, go cO 4 fr)] ++ gs 4 fr cJ 5 F) H := hP
  have hD : va_D A ([(h, rO od fa ot ah te id rt bs kn), (fa, go cO 4 fr)] ++ gs 4 fr cJ 5 F) := hD
  exact W.lret hx hb hr (fun t ht hW => ⟨⟨_, (), rfl, rfl, rc_out ht hP⟩, hS.F ht⟩) hS.2.2 d_O_adjointAt_71
end WK
