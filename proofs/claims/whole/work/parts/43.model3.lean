section WK
variable {p : Program} {l : Launch} {e : Env} {R : Room} {s : State} {m : MethodId} {args : Array Value} {below : List Frame} {meth : Method} {c : Code} {H : Heap} {locs : List Loc} {cells slots : Nat} {Q : State → Prop} {D : va_G} {A : Nat → Prop} {H0 : Heap}
/-- what a power makes -/
def mkJ (F : Nat → Nat → ro_K) (i s : Nat) (v : ro_K) (P : Nat → ro_K) : Nat → Nat → ro_K
  | 0 => P
  | j + 1 => va_up (mkJ F i s v P j) (s + j) (mkJ F i s v P j (s + j) + v * F i j)
def mkI (F : Nat → Nat → ro_K) (n : Nat) (t : ro_K) (P : Nat → ro_K) : Nat → Nat → ro_K
  | 0 => P
  | i + 1 => mkJ F i (n - i) (t * ro_k (ffz (n : Int) i)) (mkI F n t P i) 5
def mkN (F : Nat → Nat → ro_K) (o n : Nat) (t : ro_K) (P : Nat → ro_K) : Nat → ro_K := mkI F n t P (min o n + 1)
def mkA (F : Nat → Nat → ro_K) (o : Nat) (a P : Nat → ro_K) : Nat → Nat → ro_K
  | 0 => P
  | n + 1 => mkN F o n (a n) (mkA F o a P n)
/-- Horner -/
def hoK (f : Nat → ro_K) (y : ro_K) : Nat → ro_K
  | 0 => 0
  | n + 1 => hoK f y n * y + f (4 - n)
theorem hoK_ev (f : Nat → ro_K) (y : ro_K) : hoK f y 5 = ro_ev 5 f y := by
  show ((((0 * y + f 4) * y + f 3) * y + f 2) * y + f 1) * y + f 0 = f 0 + y * (f 1 + y * (f 2 + y * (f 3 + y * (f 4 + y * 0))))
  grind
theorem i2l_lk {x : Nat} (h : x < 32003) : (iz (x : Int)).toInt64 = lk (ro_k (x : Int)) := by
  have h1 : lx (iz (x : Int)).toInt64 (x : Int) := lx_iz (by omega) (by omega)
  have h2 : (iz (x : Int)).toInt64 = lz (x : Int) := by rw [lz_self (iz (x : Int)).toInt64]; congr 1
  exact nb_k h2 (by omega) (by omega) rfl
/-- how many of the numbers below x are roots -/
def cntN (f : Nat → ro_K) : Nat → Nat
  | 0 => 0
  | x + 1 => if ro_ev 5 f (ro_k (x : Int)) = 0 then cntN f x + 1 else cntN f x
theorem cntN_le (f : Nat → ro_K) : ∀ x, cntN f x ≤ x
  | 0 => Nat.le_refl 0
  | x + 1 => by
    have ih := cntN_le f x
    show (if ro_ev 5 f (ro_k (x : Int)) = 0 then cntN f x + 1 else cntN f x) ≤ x + 1
    by_cases h : ro_ev 5 f (ro_k (x : Int)) = 0
    · rw [if_pos h]; omega
    · rw [if_neg h]; omega
set_option maxHeartbeats 4000000 in
set_option maxRecDepth 100000 in
theorem lo_M_make_j {cJ cI : ClassId} {h : Nat} {cd od : Int} {fc hd md lo : Nat} {lv : Int} {tb rw bs : Nat} {mn : Int} {nu tu : Nat} {F : Nat → Nat → ro_K} {P : Nat → ro_K} {n i : Nat} {zn zi : Int} {v tt : ro_K} (hzn : zn = (n : Int)) (hn : n ≤ 12) (hzi : zi = (i : Int)) (hi : i ≤ n) (hi3 : i ≤ 3) (hx : p.tables.exec = Jvm.exec) (hb : c.code = c_M_make) (hml : c.maxLocals = 8) (hown : s.vm.findClass R_M = some m.cls) (hts : ∀ w ∈ kb, w.before args s = true) (hK : va_K D vC [(cJ, .long), (cI, .int)] s) (hN : rc_N s)  (hend : ∀ (H : Heap) (locs : List Loc) (ls : Array Slot), va_P D vC [(h, rM cd od fc hd md lo lv tb rw bs mn nu tu), (fc, k2 cJ 20 5 F), (md, ka cJ 17 (mkJ F i (n - i) v P 5))] H → va_D A [(h, rM cd od fc hd md lo lv tb rw bs mn nu tu), (fc, k2 cJ 20 5 F), (md, ka cJ 17 (mkJ F i (n - i) v P 5))] → va_S A H0 H locs → lv_has ls 8 [(4, .int (iz zi)), (0, .ref h), (1, .int (iz zn)), (2, .long (lk tt))] → W p l e R s m args below meth c H locs 0 0 Q (F0 m 92 ls [])) : ∀ (q k : Nat) (z : Int) (H : Heap) (locs : List Loc) (ls : Array Slot), z = (k : Int) → k + q = 5 → va_P D vC [(h, rM cd od fc hd md lo lv tb rw bs mn nu tu), (fc, k2 cJ 20 5 F), (md, ka cJ 17 (mkJ F i (n - i) v P k))] H → va_D A [(h, rM cd od fc hd md lo lv tb rw bs mn nu tu), (fc, k2 cJ 20 5 F), (md, ka cJ 17 (mkJ F i (n - i) v P k))] → va_S A H0 H locs → lv_has ls 8 [(7, .int (iz z)), (5, .long (lk v)), (4, .int (iz zi)), (0, .ref h), (1, .int (iz zn)), (2, .long (lk tt))] → W p l e R s m args below meth c H locs 0 0 Q (F0 m 36 ls []) := by
  intro q
  induction q with
  | zero =>
    intro k z H locs ls hz hk hP hD hS hl
    have e : k = 5 := hk
    subst e
    refine lv_iload hx hb d_M_make_36 (lv_at hl 0 rfl) ?_
    refine rz_iconst hx hb d_M_make_38 ?_
    refine rz_icmp_ge (tgt := 92) hx hb d_M_make_39 (by decide) (fun hc1 => ?_) (fun hc1 => ?_)
    · exact hend H locs ls hP hD hS (lv_sub hl [2, 3, 4, 5] rfl)
    · omega
  | succ q ih =>
    intro k z H locs ls hz hk hP hD hS hl
    subst hz
    refine lv_iload hx hb d_M_make_36 (lv_at hl 0 rfl) ?_
    refine rz_iconst hx hb d_M_make_38 ?_
    refine rz_icmp_ge (tgt := 92) hx hb d_M_make_39 (by decide) (fun hc2 => ?_) (fun hc2 => ?_)
    · omega
    · refine lv_aload_n hx hb d_M_make_42 rfl (lv_at hl 3 rfl) ?_
      refine va_get (D := D) (ci := 3) (v := .ref md) (C := R_M) (T := T_M) (N := 13) hx hb hts in_M hown hK hP 0 rfl rfl 4 (by decide) (hts _ kw_534) (fun _ h9 => h9) rfl d_M_make_43 ?_
      refine lv_iload_n hx hb d_M_make_46 rfl (lv_at hl 4 rfl) ?_
      refine lv_iload hx hb d_M_make_47 (lv_at hl 2 rfl) ?_
      refine rz_isub hx hb d_M_make_49 ?_
      refine lv_iload hx hb d_M_make_50 (lv_at hl 0 rfl) ?_
      refine rz_iadd hx hb d_M_make_52 ?_
      refine lv_aload_n hx hb d_M_make_53 rfl (lv_at hl 3 rfl) ?_
      refine va_get (D := D) (ci := 3) (v := .ref md) (C := R_M) (T := T_M) (N := 13) hx hb hts in_M hown hK hP 0 rfl rfl 4 (by decide) (hts _ kw_534) (fun _ h9 => h9) rfl d_M_make_54 ?_
      refine lv_iload_n hx hb d_M_make_57 rfl (lv_at hl 4 rfl) ?_
      refine lv_iload hx hb d_M_make_58 (lv_at hl 2 rfl) ?_
      refine rz_isub hx hb d_M_make_60 ?_
      refine lv_iload hx hb d_M_make_61 (lv_at hl 0 rfl) ?_
      refine rz_iadd hx hb d_M_make_63 ?_
      refine rk_ld hx hb hK hP 2 0 rfl rfl (n - i + k) d_M_make_64 ?_
      refine lv_lload hx hb d_M_make_65 (lv_at hl 1 rfl) ?_
      refine lv_aload_n hx hb d_M_make_67 rfl (lv_at hl 3 rfl) ?_
      refine va_get (D := D) (ci := 3) (v := .ref fc) (C := R_M) (T := T_M) (N := 13) hx hb hts in_M hown hK hP 0 rfl rfl 2 (by decide) (hts _ kw_532) (fun _ h9 => h9) rfl d_M_make_68 ?_
      refine rz_iconst hx hb d_M_make_71 ?_
      refine lv_iload hx hb d_M_make_72 (lv_at hl 2 rfl) ?_
      refine rz_imul hx hb d_M_make_74 ?_
      refine lv_iload hx hb d_M_make_75 (lv_at hl 0 rfl) ?_
      refine rz_iadd hx hb d_M_make_77 ?_
      refine rm_ld hx hb hK hP 1 0 rfl rfl i k d_M_make_78 ?_
      refine rlp_lmul hx hb 1024128004 (lk_p v) (lk_p (F i k)) d_M_make_79 (fun v3 hv3 => ?_)
      refine rlp_ladd hx hb 1024160006 (lk_p ((mkJ F i (n - i) v P k) (n - i + k))) hv3 d_M_make_80 (fun v4 hv4 => ?_)
      refine lv_ldc2 (v := 32003) hx hb hown (hts _ kw_589) d_M_make_81 ?_
      refine rlp_lrem hx hb hv4 d_M_make_84 ?_
      refine rk_st hx hb hK hP hD hS 2 0 rfl rfl (n - i + k) d_M_make_85 (fun H locs hP hD hS => ?_)
      have hP : va_P D vC [(h, rM cd od fc hd md lo lv tb rw bs mn nu tu), (fc, k2 cJ 20 5 F), (md, ka cJ 17 (va_up (mkJ F i (n - i) v P k) (n - i + k) (((mkJ F i (n - i) v P k) (n - i + k)) + (v * (F i k)))))] H := hP
      have hD : va_D A [(h, rM cd od fc hd md lo lv tb rw bs mn nu tu), (fc, k2 cJ 20 5 F), (md, ka cJ 17 (va_up (mkJ F i (n - i) v P k) (n - i + k) (((mkJ F i (n - i) v P k) (n - i + k)) + (v * (F i k)))))] := hD
      refine lv_iinc (v := iz ((k : Int) + 1)) (lv' := [(7, .int (iz ((k : Int) + 1))), (5, .long (lk v)), (4, .int (iz zi)), (0, .ref h), (1, .int (iz zn)), (2, .long (lk tt))]) hx hb d_M_make_86 hl (k := 0) rfl (iz_add _ _) (by decide) rfl (fun ls hl => ?_)
      refine lv_goto (tgt := 36) hx hb d_M_make_89 (by decide) ?_
      exact ih (k + 1) _ H locs ls (by omega) (by omega) hP hD hS (lv_sub hl [0, 1, 2, 3, 4, 5] rfl)
set_option maxHeartbeats 4000000 in
set_option maxRecDepth 100000 in
theorem lo_M_make {cJ cI : ClassId} {h : Nat} {cd od : Int} {fc hd md lo : Nat} {lv : Int} {tb rw bs : Nat} {mn : Int} {nu tu : Nat} {o : Nat} (hod : od = (o : Int)) (ho3 : o ≤ 3) {F : Nat → Nat → ro_K} {P : Nat → ro_K} {n : Nat} {zn : Int} {tt : ro_K} (hzn : zn = (n : Int)) (hn : n ≤ 12) (hx : p.tables.exec = Jvm.exec) (hb : c.code = c_M_make) (hml : c.maxLocals = 8) (hown : s.vm.findClass R_M = some m.cls) (hts : ∀ w ∈ kb, w.before args s = true) (hK : va_K D vC [(cJ, .long), (cI, .int)] s) (hN : rc_N s) (hR : 2 ≤ R.frames ∧ 48 ≤ R.locals) (hend : ∀ (H : Heap) (locs : List Loc) (ls : Array Slot), va_P D vC [(h, rM cd od fc hd md lo lv tb rw bs mn nu tu), (fc, k2 cJ 20 5 F), (md, ka cJ 17 (mkI F n tt P (min o n + 1)))] H → va_D A [(h, rM cd od fc hd md lo lv tb rw bs mn nu tu), (fc, k2 cJ 20 5 F), (md, ka cJ 17 (mkI F n tt P (min o n + 1)))] → va_S A H0 H locs → W p l e R s m args below meth c H locs 0 0 Q (F0 m 98 ls [])) : ∀ (q k : Nat) (z : Int) (H : Heap) (locs : List Loc) (ls : Array Slot), z = (k : Int) → k + q = min o n + 1 → va_P D vC [(h, rM cd od fc hd md lo lv tb rw bs mn nu tu), (fc, k2 cJ 20 5 F), (md, ka cJ 17 (mkI F n tt P k))] H → va_D A [(h, rM cd od fc hd md lo lv tb rw bs mn nu tu), (fc, k2 cJ 20 5 F), (md, ka cJ 17 (mkI F n tt P k))] → va_S A H0 H locs → lv_has ls 8 [(4, .int (iz z)), (0, .ref h), (1, .int (iz zn)), (2, .long (lk tt))] → W p l e R s m args below meth c H locs 0 0 Q (F0 m 3 ls []) := by
  intro q
  induction q with
  | zero =>
    intro k z H locs ls hz hk hP hD hS hl
    have e : k = min o n + 1 := hk
    subst e
    refine lv_iload hx hb d_M_make_3 (lv_at hl 0 rfl) ?_
    refine lv_aload_n hx hb d_M_make_5 rfl (lv_at hl 1 rfl) ?_
    refine va_get (D := D) (ci := 3) (v := .int (iz od)) (C := R_M) (T := T_M) (N := 13) hx hb hts in_M hown hK hP 0 rfl rfl 1 (by decide) (hts _ kw_531) (fun _ h9 => h9) rfl d_M_make_6 ?_
    refine rz_icmp_gt (tgt := 98) hx hb d_M_make_9 (by decide) (fun hc1 => ?_) (fun hc1 => ?_)
    · exact hend H locs ls hP hD hS
    · refine lv_iload hx hb d_M_make_12 (lv_at hl 0 rfl) ?_
      refine lv_iload_n hx hb d_M_make_14 rfl (lv_at hl 2 rfl) ?_
      refine rz_icmp_gt (tgt := 98) hx hb d_M_make_15 (by decide) (fun hc2 => ?_) (fun hc2 => ?_)
      · exact hend H locs ls hP hD hS
      · omega
  | succ q ih =>
    intro k z H locs ls hz hk hP hD hS hl
    subst hz
    refine lv_iload hx hb d_M_make_3 (lv_at hl 0 rfl) ?_
    refine lv_aload_n hx hb d_M_make_5 rfl (lv_at hl 1 rfl) ?_
    refine va_get (D := D) (ci := 3) (v := .int (iz od)) (C := R_M) (T := T_M) (N := 13) hx hb hts in_M hown hK hP 0 rfl rfl 1 (by decide) (hts _ kw_531) (fun _ h9 => h9) rfl d_M_make_6 ?_
    refine rz_icmp_gt (tgt := 98) hx hb d_M_make_9 (by decide) (fun hc3 => ?_) (fun hc3 => ?_)
    · omega
    · refine lv_iload hx hb d_M_make_12 (lv_at hl 0 rfl) ?_
      refine lv_iload_n hx hb d_M_make_14 rfl (lv_at hl 2 rfl) ?_
      refine rz_icmp_gt (tgt := 98) hx hb d_M_make_15 (by decide) (fun hc4 => ?_) (fun hc4 => ?_)
      · omega
      · refine lv_lload_n hx hb d_M_make_18 rfl (lv_at hl 3 rfl) ?_
        refine lv_iload_n hx hb d_M_make_19 rfl (lv_at hl 2 rfl) ?_
        refine lv_i2l hx hb d_M_make_20 rfl ?_
        refine lv_iload hx hb d_M_make_21 (lv_at hl 0 rfl) ?_
        refine rc_calll (va_runS (As := [.long ((iz zn)).toInt64, .int (iz (k : Int))]) (rest := [.long (lk tt)]) ⟨hx, hb, hml, hown, hts⟩ (m_M_falling l D ((iz zn)).toInt64 zn (k : Int) k (lx_iz (by omega) (by omega)) (by omega) (by omega) (by omega) (by omega)) (cwS 2 hts (kb_gi (kb_c kw_611 (kb_c kw_612 (kb_c kw_5 (kb_c kw_613 kb_all))))) rfl rfl rfl (by decide +kernel) ⟨Nat.le_trans (by decide) hR.1, Nat.le_trans (by decide) hR.2⟩) ⟨rc_blind, rc_pre hP hD hK hN [] rfl rfl [] rfl⟩ rfl rfl hl.1 rfl (lv_room (Nat.le_of_ble_eq_true rfl)) d_M_make_23 ⟨Nat.zero_le _, Nat.zero_le _⟩) hP hD hS [] rfl (fun _ => rfl) (fun r5 u6 H locs hw6 hP hD hS => ?_)
        subst hw6
        have hP : va_P D vC [(h, rM cd od fc hd md lo lv tb rw bs mn nu tu), (fc, k2 cJ 20 5 F), (md, ka cJ 17 (mkI F n tt P k))] H := hP
        have hD : va_D A [(h, rM cd od fc hd md lo lv tb rw bs mn nu tu), (fc, k2 cJ 20 5 F), (md, ka cJ 17 (mkI F n tt P k))] := hD
        refine rlp_lmul hx hb 1024128004 (lk_p tt) (lk_p (ro_k (ffz zn k))) d_M_make_26 (fun v7 hv7 => ?_)
        refine lv_ldc2 (v := 32003) hx hb hown (hts _ kw_589) d_M_make_27 ?_
        refine rlp_lrem hx hb hv7 d_M_make_30 ?_
        refine lv_lstore (lv' := [(5, .long (lk (tt * (ro_k (ffz zn k))))), (4, .int (iz (k : Int))), (0, .ref h), (1, .int (iz zn)), (2, .long (lk tt))]) hx hb d_M_make_31 hl (by decide) rfl (fun ls hl => ?_)
        refine rz_iconst hx hb d_M_make_33 ?_
        refine lv_istore (lv' := [(7, .int (iz 0)), (5, .long (lk (tt * (ro_k (ffz zn k))))), (4, .int (iz (k : Int))), (0, .ref h), (1, .int (iz zn)), (2, .long (lk tt))]) hx hb d_M_make_34 hl (by decide) rfl (fun ls hl => ?_)
        rw [hzn] at hl
        refine lo_M_make_j (F := F) (P := mkI F n tt P k) (n := n) (i := k) (v := (tt * ro_k (ffz (n : Int) k))) rfl hn rfl (by omega) (by omega) hx hb hml hown hts hK hN (fun H locs ls hP hD hS hl => ?_) 5 0 _ H locs ls rfl (by omega) hP hD hS (lv_sub hl [0, 1, 2, 3, 4, 5] rfl)
        rw [← hzn] at hl
        refine lv_iinc (v := iz ((k : Int) + 1)) (lv' := [(4, .int (iz ((k : Int) + 1))), (0, .ref h), (1, .int (iz zn)), (2, .long (lk tt))]) hx hb d_M_make_92 hl (k := 0) rfl (iz_add _ _) (by decide) rfl (fun ls hl => ?_)
        refine lv_goto (tgt := 3) hx hb d_M_make_95 (by decide) ?_
        exact ih (k + 1) _ H locs ls (by omega) (by omega) hP hD hS (lv_sub hl [0, 1, 2, 3] rfl)
def ws_M_make : List Cond := .code y_M_make c_M_make 8 none :: kb
set_option maxHeartbeats 4000000 in
set_option maxRecDepth 100000 in
/-- make -/
theorem m_M_make (l : Launch) (D : va_G) (cJ cI : ClassId) (h : Nat) (cd od : Int) (fc hd md lo : Nat) (lv : Int) (tb rw bs : Nat) (mn : Int) (nu tu : Nat) (F : Nat → Nat → ro_K) (P : Nat → ro_K) (zn : Int) (tt : ro_K) (o : Nat) (hod : od = (o : Int)) (ho3 : o ≤ 3) (n : Nat) (hzn : zn = (n : Int)) (hn : n ≤ 12) : Met l y_M_make ws_M_make ({ frames := 2, cells := 0, slots := 0, locals := 48 }) (rc_Pc D vC [(cJ, .long), (cI, .int)] [.ref h, .int (iz zn), .long (lk tt)] [(h, rM cd od fc hd md lo lv tb rw bs mn nu tu), (fc, k2 cJ 20 5 F), (md, ka cJ 17 P)]) (va_Qv (fun (_ : Unit) => True) (fun _ t => va_P D vC [(h, rM cd od fc hd md lo lv tb rw bs mn nu tu), (fc, k2 cJ 20 5 F), (md, ka cJ 17 (mkN F o n tt P))] t.heap) (rc_A [(h, rM cd od fc hd md lo lv tb rw bs mn nu tu), (fc, k2 cJ 20 5 F), (md, ka cJ 17 P)])) 0 0 (rc_A [(h, rM cd od fc hd md lo lv tb rw bs mn nu tu), (fc, k2 cJ 20 5 F), (md, ka cJ 17 P)]) := by
  refine Met.ofW (cc := c_M_make) (maxL := 8) (ret := none) (by decide) rfl ?_
  intro p e s m args below meth c s₁ B hml hv
  obtain ⟨rfl, hP, hK, hD0, hN⟩ := hv
  have hx := B.exec
  have hb := B.bytes
  have hr := B.returns
  have hts0 := atoms_spec (ws := ws_M_make) B.pre
  have hts : ∀ w ∈ kb, w.before _ s = true := fun w h => hts0 w (List.mem_cons_of_mem _ h)
  have hown : s.vm.findClass R_M = some m.cls := findClass_of_methodNamed B.named
  have hlocks := B.notSynchronized
  have hD := rc_self hD0
  generalize hAe : rc_A [(h, rM cd od fc hd md lo lv tb rw bs mn nu tu), (fc, k2 cJ 20 5 F), (md, ka cJ 17 P)] = A at hD ⊢
  have hS : va_S A s.heap s.heap [] := va_S.rf
  have hl := lv_entry ([.ref h, .int (iz zn), .long (lk tt)]) (n := 8) (Nat.le_of_ble_eq_true rfl)
  rw [lg_entry_eq]
  generalize (lg_sl ([.ref h, .int (iz zn), .long (lk tt)]) ++ List.replicate (8 - (lg_sl ([.ref h, .int (iz zn), .long (lk tt)])).length) Slot.unset).toArray = ls at hl ⊢

  have hl : lv_has ls 8 [(0, .ref h), (1, .int (iz zn)), (2, .long (lk tt))] := hl
  refine rz_iconst hx hb d_M_make_0 ?_
  refine lv_istore (lv' := [(4, .int (iz 0)), (0, .ref h), (1, .int (iz zn)), (2, .long (lk tt))]) hx hb d_M_make_1 hl (by decide) rfl (fun ls hl => ?_)
  refine lo_M_make (F := F) (P := P) (n := n) (tt := tt) hod ho3 hzn hn hx hb hml hown hts hK hN ⟨Nat.le_of_ble_eq_true rfl, Nat.le_of_ble_eq_true rfl⟩ (fun H locs ls hP hD hS => ?_) (min o n + 1) 0 _ _ _ ls rfl (by omega) hP hD hS (lv_sub hl [0, 1, 2, 3] rfl)
  exact W.vret hx hb hr (fun t ht hW => ⟨⟨(), rfl, trivial, rc_out ht hP⟩, hS.F ht⟩) hS.2.2 d_M_make_98
set_option maxHeartbeats 4000000 in
set_option maxRecDepth 100000 in
theorem lo_M_makeAll_a {cJ cI : ClassId} {h : Nat} {cd od : Int} {fc hd md lo : Nat} {lv : Int} {tb rw bs : Nat} {mn : Int} {nu tu : Nat} {F : Nat → Nat → ro_K} {a P : Nat → ro_K}  (hx : p.tables.exec = Jvm.exec) (hb : c.code = c_M_makeAll) (hml : c.maxLocals = 2) (hown : s.vm.findClass R_M = some m.cls) (hts : ∀ w ∈ kb, w.before args s = true) (hK : va_K D vC [(cJ, .long), (cI, .int)] s) (hN : rc_N s)  (hend : ∀ (H : Heap) (locs : List Loc) (ls : Array Slot), va_P D vC [(h, rM cd od fc hd md lo lv tb rw bs mn nu tu), (fc, k2 cJ 20 5 F), (hd, ka cJ 13 a), (md, ka cJ 17 (kfl P 0 17))] H → va_D A [(h, rM cd od fc hd md lo lv tb rw bs mn nu tu), (fc, k2 cJ 20 5 F), (hd, ka cJ 13 a), (md, ka cJ 17 (kfl P 0 17))] → va_S A H0 H locs → lv_has ls 2 [(0, .ref h)] → W p l e R s m args below meth c H locs 0 0 Q (F0 m 21 ls [])) : ∀ (q k : Nat) (z : Int) (H : Heap) (locs : List Loc) (ls : Array Slot), z = (k : Int) → k + q = 17 → va_P D vC [(h, rM cd od fc hd md lo lv tb rw bs mn nu tu), (fc, k2 cJ 20 5 F), (hd, ka cJ 13 a), (md, ka cJ 17 (kfl P 0 k))] H → va_D A [(h, rM cd od fc hd md lo lv tb rw bs mn nu tu), (fc, k2 cJ 20 5 F), (hd, ka cJ 13 a), (md, ka cJ 17 (kfl P 0 k))] → va_S A H0 H locs → lv_has ls 2 [(1, .int (iz z)), (0, .ref h)] → W p l e R s m args below meth c H locs 0 0 Q (F0 m 2 ls []) := by
  intro q
  induction q with
  | zero =>
    intro k z H locs ls hz hk hP hD hS hl
    have e : k = 17 := hk
    subst e
    refine lv_iload_n hx hb d_M_makeAll_2 rfl (lv_at hl 0 rfl) ?_
    refine rz_bipush hx hb d_M_makeAll_3 (by decide) ?_
    refine rz_icmp_ge (tgt := 21) hx hb d_M_makeAll_5 (by decide) (fun hc1 => ?_) (fun hc1 => ?_)
    · exact hend H locs ls hP hD hS (lv_sub hl [1] rfl)
    · omega
  | succ q ih =>
    intro k z H locs ls hz hk hP hD hS hl
    subst hz
    refine lv_iload_n hx hb d_M_makeAll_2 rfl (lv_at hl 0 rfl) ?_
    refine rz_bipush hx hb d_M_makeAll_3 (by decide) ?_
    refine rz_icmp_ge (tgt := 21) hx hb d_M_makeAll_5 (by decide) (fun hc2 => ?_) (fun hc2 => ?_)
    · omega
    · refine lv_aload_n hx hb d_M_makeAll_8 rfl (lv_at hl 1 rfl) ?_
      refine va_get (D := D) (ci := 3) (v := .ref md) (C := R_M) (T := T_M) (N := 13) hx hb hts in_M hown hK hP 0 rfl rfl 4 (by decide) (hts _ kw_534) (fun _ h9 => h9) rfl d_M_makeAll_9 ?_
      refine lv_iload_n hx hb d_M_makeAll_12 rfl (lv_at hl 0 rfl) ?_
      refine lv_lconst (v := lk 0) hx hb d_M_makeAll_13 rfl ?_
      refine rk_st hx hb hK hP hD hS 3 0 rfl rfl k d_M_makeAll_14 (fun H locs hP hD hS => ?_)
      have hP : va_P D vC [(h, rM cd od fc hd md lo lv tb rw bs mn nu tu), (fc, k2 cJ 20 5 F), (hd, ka cJ 13 a), (md, ka cJ 17 (va_up (kfl P 0 k) k 0))] H := hP
      have hD : va_D A [(h, rM cd od fc hd md lo lv tb rw bs mn nu tu), (fc, k2 cJ 20 5 F), (hd, ka cJ 13 a), (md, ka cJ 17 (va_up (kfl P 0 k) k 0))] := hD
      rw [kfl_s] at hP hD
      have hP : va_P D vC [(h, rM cd od fc hd md lo lv tb rw bs mn nu tu), (fc, k2 cJ 20 5 F), (hd, ka cJ 13 a), (md, ka cJ 17 (kfl P 0 (k + 1)))] H := hP
      have hD : va_D A [(h, rM cd od fc hd md lo lv tb rw bs mn nu tu), (fc, k2 cJ 20 5 F), (hd, ka cJ 13 a), (md, ka cJ 17 (kfl P 0 (k + 1)))] := hD
      refine lv_iinc (v := iz ((k : Int) + 1)) (lv' := [(1, .int (iz ((k : Int) + 1))), (0, .ref h)]) hx hb d_M_makeAll_15 hl (k := 0) rfl (iz_add _ _) (by decide) rfl (fun ls hl => ?_)
      refine lv_goto (tgt := 2) hx hb d_M_makeAll_18 (by decide) ?_
      exact ih (k + 1) _ H locs ls (by omega) (by omega) hP hD hS (lv_sub hl [0, 1] rfl)
set_option maxHeartbeats 4000000 in
set_option maxRecDepth 100000 in
theorem lo_M_makeAll_b {cJ cI : ClassId} {h : Nat} {cd od : Int} {fc hd md lo : Nat} {lv : Int} {tb rw bs : Nat} {mn : Int} {nu tu : Nat} {o : Nat} {F : Nat → Nat → ro_K} {a P : Nat → ro_K} (hod : od = (o : Int)) (ho3 : o ≤ 3) (hx : p.tables.exec = Jvm.exec) (hb : c.code = c_M_makeAll) (hml : c.maxLocals = 2) (hown : s.vm.findClass R_M = some m.cls) (hts : ∀ w ∈ kb, w.before args s = true) (hK : va_K D vC [(cJ, .long), (cI, .int)] s) (hN : rc_N s)  (hR : 3 ≤ R.frames ∧ 75 ≤ R.locals) (hend : ∀ (H : Heap) (locs : List Loc) (ls : Array Slot), va_P D vC [(h, rM cd od fc hd md lo lv tb rw bs mn nu tu), (fc, k2 cJ 20 5 F), (hd, ka cJ 13 a), (md, ka cJ 17 (mkA F o a P 13))] H → va_D A [(h, rM cd od fc hd md lo lv tb rw bs mn nu tu), (fc, k2 cJ 20 5 F), (hd, ka cJ 13 a), (md, ka cJ 17 (mkA F o a P 13))] → va_S A H0 H locs → W p l e R s m args below meth c H locs 0 0 Q (F0 m 46 ls [])) : ∀ (q k : Nat) (z : Int) (H : Heap) (locs : List Loc) (ls : Array Slot), z = (k : Int) → k + q = 13 → va_P D vC [(h, rM cd od fc hd md lo lv tb rw bs mn nu tu), (fc, k2 cJ 20 5 F), (hd, ka cJ 13 a), (md, ka cJ 17 (mkA F o a P k))] H → va_D A [(h, rM cd od fc hd md lo lv tb rw bs mn nu tu), (fc, k2 cJ 20 5 F), (hd, ka cJ 13 a), (md, ka cJ 17 (mkA F o a P k))] → va_S A H0 H locs → lv_has ls 2 [(1, .int (iz z)), (0, .ref h)] → W p l e R s m args below meth c H locs 0 0 Q (F0 m 23 ls []) := by
  intro q
  induction q with
  | zero =>
    intro k z H locs ls hz hk hP hD hS hl
    have e : k = 13 := hk
    subst e
    refine lv_iload_n hx hb d_M_makeAll_23 rfl (lv_at hl 0 rfl) ?_
    refine rz_bipush hx hb d_M_makeAll_24 (by decide) ?_
    refine rz_icmp_gt (tgt := 46) hx hb d_M_makeAll_26 (by decide) (fun hc1 => ?_) (fun hc1 => ?_)
    · exact hend H locs ls hP hD hS
    · omega
  | succ q ih =>
    intro k z H locs ls hz hk hP hD hS hl
    subst hz
    refine lv_iload_n hx hb d_M_makeAll_23 rfl (lv_at hl 0 rfl) ?_
    refine rz_bipush hx hb d_M_makeAll_24 (by decide) ?_
    refine rz_icmp_gt (tgt := 46) hx hb d_M_makeAll_26 (by decide) (fun hc2 => ?_) (fun hc2 => ?_)
    · omega
    · refine lv_aload_n hx hb d_M_makeAll_29 rfl (lv_at hl 1 rfl) ?_
      refine lv_iload_n hx hb d_M_makeAll_30 rfl (lv_at hl 0 rfl) ?_
      refine lv_aload_n hx hb d_M_makeAll_31 rfl (lv_at hl 1 rfl) ?_
      refine va_get (D := D) (ci := 3) (v := .ref hd) (C := R_M) (T := T_M) (N := 13) hx hb hts in_M hown hK hP 0 rfl rfl 3 (by decide) (hts _ kw_533) (fun _ h9 => h9) rfl d_M_makeAll_32 ?_
      refine lv_iload_n hx hb d_M_makeAll_35 rfl (lv_at hl 0 rfl) ?_
      refine rk_ld hx hb hK hP 2 0 rfl rfl k d_M_makeAll_36 ?_
      refine rc_callv (va_runV (As := [.int (iz (k : Int)), .long (lk (a k))]) (rest := []) ⟨hx, hb, hml, hown, hts⟩ (m_M_make l D cJ cI h cd od fc hd md lo lv tb rw bs mn nu tu F (mkA F o a P k) (k : Int) (a k) o hod ho3 k rfl (by omega)) (cwV 2 hts (kb_gi (kb_c kw_627 (kb_c kw_629 (kb_c ks_M_make (kb_c kw_5 (kb_c kw_630 kb_all)))))) rfl rfl rfl (by decide +kernel) ⟨Nat.le_trans (by decide) hR.1, Nat.le_trans (by decide) hR.2⟩) ⟨rc_blind, va_recv hK hP (ci := 3) (q0 := 0) rfl rfl, rc_pre hP hD hK hN [0, 1, 3] rfl rfl [0, 1] rfl⟩ rfl rfl hl.1 rfl (lv_room (Nat.le_of_ble_eq_true rfl)) d_M_makeAll_37 ⟨Nat.zero_le _, Nat.zero_le _⟩) hP hD hS [0, 1, 3] rfl (fun _ => rfl) (fun u3 H locs hw3 hP hD hS => ?_)
      have hP : va_P D vC [(h, rM cd od fc hd md lo lv tb rw bs mn nu tu), (fc, k2 cJ 20 5 F), (hd, ka cJ 13 a), (md, ka cJ 17 (mkN F o k (a k) (mkA F o a P k)))] H := hP
      have hD : va_D A [(h, rM cd od fc hd md lo lv tb rw bs mn nu tu), (fc, k2 cJ 20 5 F), (hd, ka cJ 13 a), (md, ka cJ 17 (mkN F o k (a k) (mkA F o a P k)))] := hD
      refine lv_iinc (v := iz ((k : Int) + 1)) (lv' := [(1, .int (iz ((k : Int) + 1))), (0, .ref h)]) hx hb d_M_makeAll_40 hl (k := 0) rfl (iz_add _ _) (by decide) rfl (fun ls hl => ?_)
      refine lv_goto (tgt := 23) hx hb d_M_makeAll_43 (by decide) ?_
      exact ih (k + 1) _ H locs ls (by omega) (by omega) hP hD hS (lv_sub hl [0, 1] rfl)
def ws_M_makeAll : List Cond := .code y_M_makeAll c_M_makeAll 2 none :: kb
set_option maxHeartbeats 4000000 in
set_option maxRecDepth 100000 in
/-- makeAll -/
theorem m_M_makeAll (l : Launch) (D : va_G) (cJ cI : ClassId) (h : Nat) (cd od : Int) (fc hd md lo : Nat) (lv : Int) (tb rw bs : Nat) (mn : Int) (nu tu : Nat) (F : Nat → Nat → ro_K) (a P : Nat → ro_K) (o : Nat) (hod : od = (o : Int)) (ho3 : o ≤ 3) : Met l y_M_makeAll ws_M_makeAll ({ frames := 3, cells := 0, slots := 0, locals := 75 }) (rc_Pc D vC [(cJ, .long), (cI, .int)] [.ref h] [(h, rM cd od fc hd md lo lv tb rw bs mn nu tu), (fc, k2 cJ 20 5 F), (hd, ka cJ 13 a), (md, ka cJ 17 P)]) (va_Qv (fun (_ : Unit) => True) (fun _ t => va_P D vC [(h, rM cd od fc hd md lo lv tb rw bs mn nu tu), (fc, k2 cJ 20 5 F), (hd, ka cJ 13 a), (md, ka cJ 17 (mkA F o a (kfl P 0 17) 13))] t.heap) (rc_A [(h, rM cd od fc hd md lo lv tb rw bs mn nu tu), (fc, k2 cJ 20 5 F), (hd, ka cJ 13 a), (md, ka cJ 17 P)])) 0 0 (rc_A [(h, rM cd od fc hd md lo lv tb rw bs mn nu tu), (fc, k2 cJ 20 5 F), (hd, ka cJ 13 a), (md, ka cJ 17 P)]) := by
  refine Met.ofW (cc := c_M_makeAll) (maxL := 2) (ret := none) (by decide) rfl ?_
  intro p e s m args below meth c s₁ B hml hv
  obtain ⟨rfl, hP, hK, hD0, hN⟩ := hv
  have hx := B.exec
  have hb := B.bytes
  have hr := B.returns
  have hts0 := atoms_spec (ws := ws_M_makeAll) B.pre
  have hts : ∀ w ∈ kb, w.before _ s = true := fun w h => hts0 w (List.mem_cons_of_mem _ h)
  have hown : s.vm.findClass R_M = some m.cls := findClass_of_methodNamed B.named
  have hlocks := B.notSynchronized
  have hD := rc_self hD0
  generalize hAe : rc_A [(h, rM cd od fc hd md lo lv tb rw bs mn nu tu), (fc, k2 cJ 20 5 F), (hd, ka cJ 13 a), (md, ka cJ 17 P)] = A at hD ⊢
  have hS : va_S A s.heap s.heap [] := va_S.rf
  have hl := lv_entry ([.ref h]) (n := 2) (Nat.le_of_ble_eq_true rfl)
  rw [lg_entry_eq]
  generalize (lg_sl ([.ref h]) ++ List.replicate (2 - (lg_sl ([.ref h])).length) Slot.unset).toArray = ls at hl ⊢

  have hl : lv_has ls 2 [(0, .ref h)] := hl
  refine rz_iconst hx hb d_M_makeAll_0 ?_
  refine lv_istore_n (lv' := [(1, .int (iz 0)), (0, .ref h)]) hx hb d_M_makeAll_1 rfl hl (by decide) rfl (fun ls hl => ?_)
  rw [show P = kfl P 0 0 from (kfl_0 P 0).symm] at hP hD
  refine lo_M_makeAll_a (P := P)  hx hb hml hown hts hK hN (fun H locs ls hP hD hS hl => ?_) 17 0 _ _ _ ls rfl (by omega) hP hD hS (lv_sub hl [0, 1] rfl)
  refine rz_iconst hx hb d_M_makeAll_21 ?_
  refine lv_istore_n (lv' := [(1, .int (iz 0)), (0, .ref h)]) hx hb d_M_makeAll_22 rfl hl (by decide) rfl (fun ls hl => ?_)
  refine lo_M_makeAll_b (P := kfl P 0 17) hod ho3 hx hb hml hown hts hK hN ⟨Nat.le_of_ble_eq_true rfl, Nat.le_of_ble_eq_true rfl⟩ (fun H locs ls hP hD hS => ?_) 13 0 _ _ _ ls rfl (by omega) hP hD hS (lv_sub hl [0, 1] rfl)
  exact W.vret hx hb hr (fun t ht hW => ⟨⟨(), rfl, trivial, rc_out ht hP⟩, hS.F ht⟩) hS.2.2 d_M_makeAll_46
def ws_M_made : List Cond := .code y_M_made c_M_made 2 (some .int) :: kb
set_option maxHeartbeats 4000000 in
set_option maxRecDepth 100000 in
/-- made -/
theorem m_M_made (l : Launch) (D : va_G) (cJ cI : ClassId) (h : Nat) (cd od : Int) (fc hd md lo : Nat) (lv : Int) (tb rw bs : Nat) (mn : Int) (nu tu : Nat) (F : Nat → Nat → ro_K) (a P : Nat → ro_K) (zp : Int) (o : Nat) (hod : od = (o : Int)) (ho3 : o ≤ 3) (hzpl : -2147483648 ≤ zp) (hzph : zp < 2147483648) : Met l y_M_made ws_M_made ({ frames := 4, cells := 0, slots := 0, locals := 96 }) (rc_Pc D vC [(cJ, .long), (cI, .int)] [.ref h, .int (iz zp)] [(h, rM cd od fc hd md lo lv tb rw bs mn nu tu), (fc, k2 cJ 20 5 F), (hd, ka cJ 13 a), (md, ka cJ 17 P)]) (va_Qi (fun (q : Int32) (_ : Unit) => q = if 0 ≤ zp ∧ zp ≤ 16 then iz (((mkA F o a (kfl P 0 17) 13) zp.toNat).val : Int) else iz 0) (fun _ t => va_P D vC [(h, rM 0 od fc hd md lo lv tb rw bs mn nu tu), (fc, k2 cJ 20 5 F), (hd, ka cJ 13 a), (md, ka cJ 17 (mkA F o a (kfl P 0 17) 13))] t.heap) (rc_A [(h, rM cd od fc hd md lo lv tb rw bs mn nu tu), (fc, k2 cJ 20 5 F), (hd, ka cJ 13 a), (md, ka cJ 17 P)])) 0 0 (rc_A [(h, rM cd od fc hd md lo lv tb rw bs mn nu tu), (fc, k2 cJ 20 5 F), (hd, ka cJ 13 a), (md, ka cJ 17 P)]) := by
  refine Met.ofW (cc := c_M_made) (maxL := 2) (ret := (some .int)) (by decide) rfl ?_
  intro p e s m args below meth c s₁ B hml hv
  obtain ⟨rfl, hP, hK, hD0, hN⟩ := hv
  have hx := B.exec
  have hb := B.bytes
  have hr := B.returns
  have hts0 := atoms_spec (ws := ws_M_made) B.pre
  have hts : ∀ w ∈ kb, w.before _ s = true := fun w h => hts0 w (List.mem_cons_of_mem _ h)
  have hown : s.vm.findClass R_M = some m.cls := findClass_of_methodNamed B.named
  have hlocks := B.notSynchronized
  have hD := rc_self hD0
  generalize hAe : rc_A [(h, rM cd od fc hd md lo lv tb rw bs mn nu tu), (fc, k2 cJ 20 5 F), (hd, ka cJ 13 a), (md, ka cJ 17 P)] = A at hD ⊢
  have hS : va_S A s.heap s.heap [] := va_S.rf
  have hl := lv_entry ([.ref h, .int (iz zp)]) (n := 2) (Nat.le_of_ble_eq_true rfl)
  rw [lg_entry_eq]
  generalize (lg_sl ([.ref h, .int (iz zp)]) ++ List.replicate (2 - (lg_sl ([.ref h, .int (iz zp)])).length) Slot.unset).toArray = ls at hl ⊢

  have hl : lv_has ls 2 [(0, .ref h), (1, .int (iz zp))] := hl
  refine lv_aload_n hx hb d_M_made_0 rfl (lv_at hl 0 rfl) ?_
  refine rz_iconst hx hb d_M_made_1 ?_
  refine va_put (D := D) (ci := 3) (v := .int (iz 0)) (ty := .int) (C := R_M) (T := T_M) (N := 13) hx hb hts in_M ty_M tk_M nm_M hown hK hP hD hS 0 rfl rfl 0 (by decide) (hts _ kw_530) (fun _ h9 => h9) rfl (by decide +kernel) rfl rfl (Nat.le_of_ble_eq_true rfl) d_M_made_2 (fun H locs hP hD hS => ?_)
  have hP : va_P D vC [(h, rM 0 od fc hd md lo lv tb rw bs mn nu tu), (fc, k2 cJ 20 5 F), (hd, ka cJ 13 a), (md, ka cJ 17 P)] H := hP
  have hD : va_D A [(h, rM 0 od fc hd md lo lv tb rw bs mn nu tu), (fc, k2 cJ 20 5 F), (hd, ka cJ 13 a), (md, ka cJ 17 P)] := hD
  refine lv_aload_n hx hb d_M_made_5 rfl (lv_at hl 0 rfl) ?_
  refine rc_callv (va_runV (As := []) (rest := []) ⟨hx, hb, hml, hown, hts⟩ (m_M_makeAll l D cJ cI h 0 od fc hd md lo lv tb rw bs mn nu tu F a P o hod ho3) (cwV 0 hts (kb_gi (kb_c kw_623 (kb_c kw_625 (kb_c ks_M_makeAll (kb_c kw_5 (kb_c kw_626 kb_all)))))) rfl rfl rfl (by decide +kernel) ⟨Nat.le_of_ble_eq_true rfl, Nat.le_of_ble_eq_true rfl⟩) ⟨rc_blind, va_recv hK hP (ci := 3) (q0 := 0) rfl rfl, rc_pre hP hD hK hN [0, 1, 2, 3] rfl rfl [0, 1] rfl⟩ rfl rfl hl.1 rfl (lv_room (Nat.le_of_ble_eq_true rfl)) d_M_made_6 ⟨Nat.zero_le _, Nat.zero_le _⟩) hP hD hS [0, 1, 2, 3] rfl (fun _ => rfl) (fun u1 H locs hw1 hP hD hS => ?_)
  have hP : va_P D vC [(h, rM 0 od fc hd md lo lv tb rw bs mn nu tu), (fc, k2 cJ 20 5 F), (hd, ka cJ 13 a), (md, ka cJ 17 (mkA F o a (kfl P 0 17) 13))] H := hP
  have hD : va_D A [(h, rM 0 od fc hd md lo lv tb rw bs mn nu tu), (fc, k2 cJ 20 5 F), (hd, ka cJ 13 a), (md, ka cJ 17 (mkA F o a (kfl P 0 17) 13))] := hD
  refine lv_iload_n hx hb d_M_made_9 rfl (lv_at hl 1 rfl) ?_
  refine lv_i2l hx hb d_M_made_10 rfl ?_
  refine lv_lconst (v := lk 0) hx hb d_M_made_11 rfl ?_
  refine lv_ldc2 (v := 16) hx hb hown (hts _ kw_631) d_M_made_12 ?_
  refine rc_calli (va_runS (As := [.long ((iz zp)).toInt64, .long (lk 0), .long 16]) (rest := []) ⟨hx, hb, hml, hown, hts⟩ (m_M_in l D ((iz zp)).toInt64 (lk 0) 16 zp 0 16 (lx_iz (by omega) (by omega)) (by show Int64.toInt _ = _; decide) (by show Int64.toInt _ = _; decide)) (cwS 3 hts (kb_gi (kb_c kw_582 (kb_c kw_583 (kb_c kw_5 (kb_c kw_584 kb_all))))) rfl rfl rfl (by decide +kernel) ⟨Nat.le_of_ble_eq_true rfl, Nat.le_of_ble_eq_true rfl⟩) ⟨rc_blind, rc_pre hP hD hK hN [] rfl rfl [] rfl⟩ rfl rfl hl.1 rfl (lv_room (Nat.le_of_ble_eq_true rfl)) d_M_made_15 ⟨Nat.zero_le _, Nat.zero_le _⟩) hP hD hS [] rfl (fun _ => rfl) (fun r2 u3 H locs hw3 hP hD hS => ?_)
  subst hw3
  have hP : va_P D vC [(h, rM 0 od fc hd md lo lv tb rw bs mn nu tu), (fc, k2 cJ 20 5 F), (hd, ka cJ 13 a), (md, ka cJ 17 (mkA F o a (kfl P 0 17) 13))] H := hP
  have hD : va_D A [(h, rM 0 od fc hd md lo lv tb rw bs mn nu tu), (fc, k2 cJ 20 5 F), (hd, ka cJ 13 a), (md, ka cJ 17 (mkA F o a (kfl P 0 17) 13))] := hD
  refine rb_if_eq (tgt := 31) hx hb d_M_made_18 (by decide) (fun hc4 => ?_) (fun hc4 => ?_)
  · refine rz_iconst hx hb d_M_made_31 ?_
    exact W.iret hx hb hr (fun t ht hW => ⟨⟨_, (), rfl, (by rw [if_neg (by assumption)]), rc_out ht hP⟩, hS.F ht⟩) hS.2.2 d_M_made_32
  · refine lv_aload_n hx hb d_M_made_21 rfl (lv_at hl 0 rfl) ?_
    refine va_get (D := D) (ci := 3) (v := .ref md) (C := R_M) (T := T_M) (N := 13) hx hb hts in_M hown hK hP 0 rfl rfl 4 (by decide) (hts _ kw_534) (fun _ h9 => h9) rfl d_M_made_22 ?_
    refine lv_iload_n hx hb d_M_made_25 rfl (lv_at hl 1 rfl) ?_
    refine rk_ld hx hb hK hP 3 0 rfl rfl zp.toNat d_M_made_26 ?_
    refine rz_l2i hx hb d_M_made_27 ?_
    refine lv_goto (tgt := 32) hx hb d_M_made_28 (by decide) ?_
    exact W.iret hx hb hr (fun t ht hW => ⟨⟨_, (), rfl, (by rw [if_pos (by assumption)]), rc_out ht hP⟩, hS.F ht⟩) hS.2.2 d_M_made_32
/-- whether the first k numbers are all 0 -/
def azN (P : Nat → ro_K) (k : Nat) : Prop := ∀ j, j < k → P j = 0
theorem azN_s {P : Nat → ro_K} {k : Nat} (h : azN P k) (h2 : P k = 0) : azN P (k + 1) := by
  intro j hj
  by_cases e : j = k
  · subst e; exact h2
  · exact h j (by omega)
theorem azN_n {P : Nat → ro_K} {k : Nat} (h : P k ≠ 0) : ¬ azN P (k + 1) := fun z => h (z k (Nat.lt_succ_self k))
theorem azN_d {P : Nat → ro_K} {k : Nat} (h : ¬ azN P k) : ¬ azN P (k + 1) := fun z => h (fun j hj => z j (by omega))
theorem kd_pos {f : Nat → ro_K} {k : Nat} (h : f k ≠ 0) : 0 ≤ kd f (k + 1) := by
  show 0 ≤ (if f k = 0 then kd f k else (k : Int))
  rw [if_neg h]
  omega
theorem kd_keep {f : Nat → ro_K} {k : Nat} (h : 0 ≤ kd f k) : 0 ≤ kd f (k + 1) := by
  show 0 ≤ (if f k = 0 then kd f k else (k : Int))
  by_cases z : f k = 0
  · rw [if_pos z]; exact h
  · rw [if_neg z]; omega
theorem kd_none {f : Nat → ro_K} {k : Nat} (h : ¬ 0 ≤ kd f k) (z : f k = 0) : ¬ 0 ≤ kd f (k + 1) := by
  show ¬ 0 ≤ (if f k = 0 then kd f k else (k : Int))
  rw [if_pos z]
  exact h
set_option maxHeartbeats 4000000 in
set_option maxRecDepth 100000 in
theorem lo_M_solves {cJ cI : ClassId} {h : Nat} {cd od : Int} {fc hd md lo : Nat} {lv : Int} {tb rw bs : Nat} {mn : Int} {nu tu : Nat} {F : Nat → Nat → ro_K} {a P : Nat → ro_K}  (hx : p.tables.exec = Jvm.exec) (hb : c.code = c_M_solves) (hml : c.maxLocals = 3) (hown : s.vm.findClass R_M = some m.cls) (hts : ∀ w ∈ kb, w.before args s = true) (hK : va_K D vC [(cJ, .long), (cI, .int)] s) (hN : rc_N s) (hend : ∀ (zb : Int) (H : Heap) (locs : List Loc) (ls : Array Slot), ((zb = 1 ∧ azN P 17) ∨ (zb = 0 ∧ ¬ (azN P 17))) → va_P D vC [(h, rM cd od fc hd md lo lv tb rw bs mn nu tu), (fc, k2 cJ 20 5 F), (hd, ka cJ 13 a), (md, ka cJ 17 P)] H → va_D A [(h, rM cd od fc hd md lo lv tb rw bs mn nu tu), (fc, k2 cJ 20 5 F), (hd, ka cJ 13 a), (md, ka cJ 17 P)] → va_S A H0 H locs → lv_has ls 3 [(1, .int (iz zb)), (0, .ref h)] → W p l e R s m args below meth c H locs 0 0 Q (F0 m 46 ls [])) : ∀ (q k : Nat) (z zb : Int) (H : Heap) (locs : List Loc) (ls : Array Slot), z = (k : Int) → k + q = 17 → ((zb = 1 ∧ azN P k) ∨ (zb = 0 ∧ ¬ (azN P k))) → va_P D vC [(h, rM cd od fc hd md lo lv tb rw bs mn nu tu), (fc, k2 cJ 20 5 F), (hd, ka cJ 13 a), (md, ka cJ 17 P)] H → va_D A [(h, rM cd od fc hd md lo lv tb rw bs mn nu tu), (fc, k2 cJ 20 5 F), (hd, ka cJ 13 a), (md, ka cJ 17 P)] → va_S A H0 H locs → lv_has ls 3 [(2, .int (iz z)), (1, .int (iz zb)), (0, .ref h)] → W p l e R s m args below meth c H locs 0 0 Q (F0 m 13 ls []) := by
  intro q
  induction q with
  | zero =>
    intro k z zb H locs ls hz hk hi hP hD hS hl
    have e : k = 17 := hk
    subst e
    refine lv_iload_n hx hb d_M_solves_13 rfl (lv_at hl 0 rfl) ?_
    refine rz_bipush hx hb d_M_solves_14 (by decide) ?_
    refine rz_icmp_ge (tgt := 46) hx hb d_M_solves_16 (by decide) (fun hc1 => ?_) (fun hc1 => ?_)
    · exact hend zb H locs ls hi hP hD hS (lv_sub hl [1, 2] rfl)
    · omega
  | succ q ih =>
    intro k z zb H locs ls hz hk hi hP hD hS hl
    subst hz
  
    refine lv_iload_n hx hb d_M_solves_13 rfl (lv_at hl 0 rfl) ?_
    refine rz_bipush hx hb d_M_solves_14 (by decide) ?_
    refine rz_icmp_ge (tgt := 46) hx hb d_M_solves_16 (by decide) (fun hc2 => ?_) (fun hc2 => ?_)
    · omega
    · refine lv_iload_n hx hb d_M_solves_19 rfl (lv_at hl 1 rfl) ?_
      refine rz_if_eq (tgt := 38) hx hb d_M_solves_20 (by decide) (fun hc3 => ?_) (fun hc3 => ?_)
      · refine rz_iconst hx hb d_M_solves_38 ?_
        refine lv_istore_n (lv' := [(1, .int (iz 0)), (2, .int (iz (k : Int))), (0, .ref h)]) hx hb d_M_solves_39 rfl hl (by decide) rfl (fun ls hl => ?_)
        refine lv_iinc (v := iz ((k : Int) + 1)) (lv' := [(2, .int (iz ((k : Int) + 1))), (1, .int (iz 0)), (0, .ref h)]) hx hb d_M_solves_40 hl (k := 1) rfl (iz_add _ _) (by decide) rfl (fun ls hl => ?_)
        refine lv_goto (tgt := 13) hx hb d_M_solves_43 (by decide) ?_
        exact ih (k + 1) _ _ H locs ls (by omega) (by omega) (Or.inr ⟨rfl, by first | exact azN_n (by assumption) | exact azN_d (hi.elim (fun z => absurd z.1 (by omega)) (fun z => z.2))⟩) hP hD hS (lv_sub hl [0, 1, 2] rfl)
      · refine lv_aload_n hx hb d_M_solves_23 rfl (lv_at hl 2 rfl) ?_
        refine va_get (D := D) (ci := 3) (v := .ref md) (C := R_M) (T := T_M) (N := 13) hx hb hts in_M hown hK hP 0 rfl rfl 4 (by decide) (hts _ kw_534) (fun _ h9 => h9) rfl d_M_solves_24 ?_
        refine lv_iload_n hx hb d_M_solves_27 rfl (lv_at hl 0 rfl) ?_
        refine rk_ld hx hb hK hP 3 0 rfl rfl k d_M_solves_28 ?_
        refine lv_lconst (v := lk 0) hx hb d_M_solves_29 rfl ?_
        refine rz_lcmp_ne (tgt := 38) hx hb d_M_solves_30 d_M_solves_31 (by decide) (fun hc4 => ?_) (fun hc4 => ?_)
        · have hc4 : (P k) ≠ 0 := fun z => hc4 (lk_inj.mpr z)
          refine rz_iconst hx hb d_M_solves_38 ?_
          refine lv_istore_n (lv' := [(1, .int (iz 0)), (2, .int (iz (k : Int))), (0, .ref h)]) hx hb d_M_solves_39 rfl hl (by decide) rfl (fun ls hl => ?_)
          refine lv_iinc (v := iz ((k : Int) + 1)) (lv' := [(2, .int (iz ((k : Int) + 1))), (1, .int (iz 0)), (0, .ref h)]) hx hb d_M_solves_40 hl (k := 1) rfl (iz_add _ _) (by decide) rfl (fun ls hl => ?_)
          refine lv_goto (tgt := 13) hx hb d_M_solves_43 (by decide) ?_
          exact ih (k + 1) _ _ H locs ls (by omega) (by omega) (Or.inr ⟨rfl, by first | exact azN_n (by assumption) | exact azN_d (hi.elim (fun z => absurd z.1 (by omega)) (fun z => z.2))⟩) hP hD hS (lv_sub hl [0, 1, 2] rfl)
        · have hc4 : (P k) = 0 := lk_inj.mp hc4
          refine rz_iconst hx hb d_M_solves_34 ?_
          refine lv_goto (tgt := 39) hx hb d_M_solves_35 (by decide) ?_
          refine lv_istore_n (lv' := [(1, .int (iz 1)), (2, .int (iz (k : Int))), (0, .ref h)]) hx hb d_M_solves_39 rfl hl (by decide) rfl (fun ls hl => ?_)
          refine lv_iinc (v := iz ((k : Int) + 1)) (lv' := [(2, .int (iz ((k : Int) + 1))), (1, .int (iz 1)), (0, .ref h)]) hx hb d_M_solves_40 hl (k := 1) rfl (iz_add _ _) (by decide) rfl (fun ls hl => ?_)
          refine lv_goto (tgt := 13) hx hb d_M_solves_43 (by decide) ?_
          exact ih (k + 1) _ _ H locs ls (by omega) (by omega) (Or.inl ⟨rfl, azN_s (hi.elim (fun z => z.2) (fun z => absurd z.1 (by assumption))) (by assumption)⟩) hP hD hS (lv_sub hl [0, 1, 2] rfl)

def ws_M_solves : List Cond := .code y_M_solves c_M_solves 3 (some .boolean) :: kb
set_option maxHeartbeats 4000000 in
set_option maxRecDepth 100000 in
/-- solves -/
theorem m_M_solves (l : Launch) (D : va_G) (cJ cI : ClassId) (h : Nat) (cd od : Int) (fc hd md lo : Nat) (lv : Int) (tb rw bs : Nat) (mn : Int) (nu tu : Nat) (F : Nat → Nat → ro_K) (a P : Nat → ro_K) (o : Nat) (hod : od = (o : Int)) (ho3 : o ≤ 3) : Met l y_M_solves ws_M_solves ({ frames := 4, cells := 0, slots := 0, locals := 96 }) (rc_Pc D vC [(cJ, .long), (cI, .int)] [.ref h] [(h, rM cd od fc hd md lo lv tb rw bs mn nu tu), (fc, k2 cJ 20 5 F), (hd, ka cJ 13 a), (md, ka cJ 17 P)]) (va_Qi (fun (q : Int32) (_ : Unit) => (azN (mkA F o a (kfl P 0 17) 13) 17 ∧ q = iz 1) ∨ (¬ azN (mkA F o a (kfl P 0 17) 13) 17 ∧ q = iz 0)) (fun _ t => va_P D vC [(h, rM 0 od fc hd md lo lv tb rw bs mn nu tu), (fc, k2 cJ 20 5 F), (hd, ka cJ 13 a), (md, ka cJ 17 (mkA F o a (kfl P 0 17) 13))] t.heap) (rc_A [(h, rM cd od fc hd md lo lv tb rw bs mn nu tu), (fc, k2 cJ 20 5 F), (hd, ka cJ 13 a), (md, ka cJ 17 P)])) 0 0 (rc_A [(h, rM cd od fc hd md lo lv tb rw bs mn nu tu), (fc, k2 cJ 20 5 F), (hd, ka cJ 13 a), (md, ka cJ 17 P)]) := by
  refine Met.ofW (cc := c_M_solves) (maxL := 3) (ret := (some .boolean)) (by decide) rfl ?_
  intro p e s m args below meth c s₁ B hml hv
  obtain ⟨rfl, hP, hK, hD0, hN⟩ := hv
  have hx := B.exec
  have hb := B.bytes
  have hr := B.returns
  have hts0 := atoms_spec (ws := ws_M_solves) B.pre
  have hts : ∀ w ∈ kb, w.before _ s = true := fun w h => hts0 w (List.mem_cons_of_mem _ h)
  have hown : s.vm.findClass R_M = some m.cls := findClass_of_methodNamed B.named
  have hlocks := B.notSynchronized
  have hD := rc_self hD0
  generalize hAe : rc_A [(h, rM cd od fc hd md lo lv tb rw bs mn nu tu), (fc, k2 cJ 20 5 F), (hd, ka cJ 13 a), (md, ka cJ 17 P)] = A at hD ⊢
  have hS : va_S A s.heap s.heap [] := va_S.rf
  have hl := lv_entry ([.ref h]) (n := 3) (Nat.le_of_ble_eq_true rfl)
  rw [lg_entry_eq]
  generalize (lg_sl ([.ref h]) ++ List.replicate (3 - (lg_sl ([.ref h])).length) Slot.unset).toArray = ls at hl ⊢

  have hl : lv_has ls 3 [(0, .ref h)] := hl
  refine lv_aload_n hx hb d_M_solves_0 rfl (lv_at hl 0 rfl) ?_
  refine rz_iconst hx hb d_M_solves_1 ?_
  refine va_put (D := D) (ci := 3) (v := .int (iz 0)) (ty := .int) (C := R_M) (T := T_M) (N := 13) hx hb hts in_M ty_M tk_M nm_M hown hK hP hD hS 0 rfl rfl 0 (by decide) (hts _ kw_530) (fun _ h9 => h9) rfl (by decide +kernel) rfl rfl (Nat.le_of_ble_eq_true rfl) d_M_solves_2 (fun H locs hP hD hS => ?_)
  have hP : va_P D vC [(h, rM 0 od fc hd md lo lv tb rw bs mn nu tu), (fc, k2 cJ 20 5 F), (hd, ka cJ 13 a), (md, ka cJ 17 P)] H := hP
  have hD : va_D A [(h, rM 0 od fc hd md lo lv tb rw bs mn nu tu), (fc, k2 cJ 20 5 F), (hd, ka cJ 13 a), (md, ka cJ 17 P)] := hD
  refine lv_aload_n hx hb d_M_solves_5 rfl (lv_at hl 0 rfl) ?_
  refine rc_callv (va_runV (As := []) (rest := []) ⟨hx, hb, hml, hown, hts⟩ (m_M_makeAll l D cJ cI h 0 od fc hd md lo lv tb rw bs mn nu tu F a P o hod ho3) (cwV 0 hts (kb_gi (kb_c kw_623 (kb_c kw_625 (kb_c ks_M_makeAll (kb_c kw_5 (kb_c kw_626 kb_all)))))) rfl rfl rfl (by decide +kernel) ⟨Nat.le_of_ble_eq_true rfl, Nat.le_of_ble_eq_true rfl⟩) ⟨rc_blind, va_recv hK hP (ci := 3) (q0 := 0) rfl rfl, rc_pre hP hD hK hN [0, 1, 2, 3] rfl rfl [0, 1] rfl⟩ rfl rfl hl.1 rfl (lv_room (Nat.le_of_ble_eq_true rfl)) d_M_solves_6 ⟨Nat.zero_le _, Nat.zero_le _⟩) hP hD hS [0, 1, 2, 3] rfl (fun _ => rfl) (fun u1 H locs hw1 hP hD hS => ?_)
  have hP : va_P D vC [(h, rM 0 od fc hd md lo lv tb rw bs mn nu tu), (fc, k2 cJ 20 5 F), (hd, ka cJ 13 a), (md, ka cJ 17 (mkA F o a (kfl P 0 17) 13))] H := hP
  have hD : va_D A [(h, rM 0 od fc hd md lo lv tb rw bs mn nu tu), (fc, k2 cJ 20 5 F), (hd, ka cJ 13 a), (md, ka cJ 17 (mkA F o a (kfl P 0 17) 13))] := hD
  refine rz_iconst hx hb d_M_solves_9 ?_
  refine lv_istore_n (lv' := [(1, .int (iz 1)), (0, .ref h)]) hx hb d_M_solves_10 rfl hl (by decide) rfl (fun ls hl => ?_)
  refine rz_iconst hx hb d_M_solves_11 ?_
  refine lv_istore_n (lv' := [(2, .int (iz 0)), (1, .int (iz 1)), (0, .ref h)]) hx hb d_M_solves_12 rfl hl (by decide) rfl (fun ls hl => ?_)
  refine lo_M_solves (P := (mkA F o a (kfl P 0 17) 13))  hx hb hml hown hts hK hN (fun zb H locs ls hi hP hD hS hl => ?_) 17 0 _ _ _ _ ls rfl (by omega) (Or.inl ⟨rfl, fun j hj => absurd hj (Nat.not_lt_zero j)⟩) hP hD hS (lv_sub hl [0, 1, 2] rfl)
  refine lv_iload_n hx hb d_M_solves_46 rfl (lv_at hl 0 rfl) ?_
  rcases hi with ⟨rfl, hi⟩ | ⟨rfl, hi⟩
  · exact W.zret hx hb hr rfl (fun t ht hW => ⟨⟨_, (), rfl, (Or.inl ⟨hi, rfl⟩), rc_out ht hP⟩, hS.F ht⟩) hS.2.2 d_M_solves_47
  · exact W.zret hx hb hr rfl (fun t ht hW => ⟨⟨_, (), rfl, (Or.inr ⟨hi, rfl⟩), rc_out ht hP⟩, hS.F ht⟩) hS.2.2 d_M_solves_47
set_option maxHeartbeats 4000000 in
set_option maxRecDepth 100000 in
theorem lo_M_hasHead {cJ cI : ClassId} {h : Nat} {cd od : Int} {fc hd md lo : Nat} {lv : Int} {tb rw bs : Nat} {mn : Int} {nu tu : Nat} {o : Nat} {F : Nat → Nat → ro_K} (hod : od = (o : Int)) (ho3 : o ≤ 3) (hx : p.tables.exec = Jvm.exec) (hb : c.code = c_M_hasHead) (hml : c.maxLocals = 3) (hown : s.vm.findClass R_M = some m.cls) (hts : ∀ w ∈ kb, w.before args s = true) (hK : va_K D vC [(cJ, .long), (cI, .int)] s) (hN : rc_N s) (hend : ∀ (zb : Int) (H : Heap) (locs : List Loc) (ls : Array Slot), ((zb = 1 ∧ 0 ≤ kd (F o) 5) ∨ (zb = 0 ∧ ¬ (0 ≤ kd (F o) 5))) → va_P D vC [(h, rM cd od fc hd md lo lv tb rw bs mn nu tu), (fc, k2 cJ 20 5 F)] H → va_D A [(h, rM cd od fc hd md lo lv tb rw bs mn nu tu), (fc, k2 cJ 20 5 F)] → va_S A H0 H locs → lv_has ls 3 [(1, .int (iz zb)), (0, .ref h)] → W p l e R s m args below meth c H locs 0 0 Q (F0 m 43 ls [])) : ∀ (q k : Nat) (z zb : Int) (H : Heap) (locs : List Loc) (ls : Array Slot), z = (k : Int) → k + q = 5 → ((zb = 1 ∧ 0 ≤ kd (F o) k) ∨ (zb = 0 ∧ ¬ (0 ≤ kd (F o) k))) → va_P D vC [(h, rM cd od fc hd md lo lv tb rw bs mn nu tu), (fc, k2 cJ 20 5 F)] H → va_D A [(h, rM cd od fc hd md lo lv tb rw bs mn nu tu), (fc, k2 cJ 20 5 F)] → va_S A H0 H locs → lv_has ls 3 [(2, .int (iz z)), (1, .int (iz zb)), (0, .ref h)] → W p l e R s m args below meth c H locs 0 0 Q (F0 m 4 ls []) := by
  intro q
  induction q with
  | zero =>
    intro k z zb H locs ls hz hk hi hP hD hS hl
    have e : k = 5 := hk
    subst e
    refine lv_iload_n hx hb d_M_hasHead_4 rfl (lv_at hl 0 rfl) ?_
    refine rz_iconst hx hb d_M_hasHead_5 ?_
    refine rz_icmp_ge (tgt := 43) hx hb d_M_hasHead_6 (by decide) (fun hc1 => ?_) (fun hc1 => ?_)
    · exact hend zb H locs ls hi hP hD hS (lv_sub hl [1, 2] rfl)
    · omega
  | succ q ih =>
    intro k z zb H locs ls hz hk hi hP hD hS hl
    subst hz
  
    refine lv_iload_n hx hb d_M_hasHead_4 rfl (lv_at hl 0 rfl) ?_
    refine rz_iconst hx hb d_M_hasHead_5 ?_
    refine rz_icmp_ge (tgt := 43) hx hb d_M_hasHead_6 (by decide) (fun hc2 => ?_) (fun hc2 => ?_)
    · omega
    · refine lv_iload_n hx hb d_M_hasHead_9 rfl (lv_at hl 1 rfl) ?_
      refine rz_if_ne (tgt := 31) hx hb d_M_hasHead_10 (by decide) (fun hc3 => ?_) (fun hc3 => ?_)
      · refine rz_iconst hx hb d_M_hasHead_31 ?_
        refine lv_goto (tgt := 36) hx hb d_M_hasHead_32 (by decide) ?_
        refine lv_istore_n (lv' := [(1, .int (iz 1)), (2, .int (iz (k : Int))), (0, .ref h)]) hx hb d_M_hasHead_36 rfl hl (by decide) rfl (fun ls hl => ?_)
        refine lv_iinc (v := iz ((k : Int) + 1)) (lv' := [(2, .int (iz ((k : Int) + 1))), (1, .int (iz 1)), (0, .ref h)]) hx hb d_M_hasHead_37 hl (k := 1) rfl (iz_add _ _) (by decide) rfl (fun ls hl => ?_)
        refine lv_goto (tgt := 4) hx hb d_M_hasHead_40 (by decide) ?_
        exact ih (k + 1) _ _ H locs ls (by omega) (by omega) (Or.inl ⟨rfl, by first | exact kd_pos (by assumption) | exact kd_keep (hi.elim (fun z => z.2) (fun z => absurd z.1 (by assumption)))⟩) hP hD hS (lv_sub hl [0, 1, 2] rfl)
      · refine lv_aload_n hx hb d_M_hasHead_13 rfl (lv_at hl 2 rfl) ?_
        refine va_get (D := D) (ci := 3) (v := .ref fc) (C := R_M) (T := T_M) (N := 13) hx hb hts in_M hown hK hP 0 rfl rfl 2 (by decide) (hts _ kw_532) (fun _ h9 => h9) rfl d_M_hasHead_14 ?_
        refine rz_iconst hx hb d_M_hasHead_17 ?_
        refine lv_aload_n hx hb d_M_hasHead_18 rfl (lv_at hl 2 rfl) ?_
        refine va_get (D := D) (ci := 3) (v := .int (iz od)) (C := R_M) (T := T_M) (N := 13) hx hb hts in_M hown hK hP 0 rfl rfl 1 (by decide) (hts _ kw_531) (fun _ h9 => h9) rfl d_M_hasHead_19 ?_
        refine rz_imul hx hb d_M_hasHead_22 ?_
        refine lv_iload_n hx hb d_M_hasHead_23 rfl (lv_at hl 0 rfl) ?_
        refine rz_iadd hx hb d_M_hasHead_24 ?_
        refine rm_ld hx hb hK hP 1 0 rfl rfl o k d_M_hasHead_25 ?_
        refine lv_lconst (v := lk 0) hx hb d_M_hasHead_26 rfl ?_
        refine rz_lcmp_eq (tgt := 35) hx hb d_M_hasHead_27 d_M_hasHead_28 (by decide) (fun hc4 => ?_) (fun hc4 => ?_)
        · have hc4 : (F o k) = 0 := lk_inj.mp hc4
          refine rz_iconst hx hb d_M_hasHead_35 ?_
          refine lv_istore_n (lv' := [(1, .int (iz 0)), (2, .int (iz (k : Int))), (0, .ref h)]) hx hb d_M_hasHead_36 rfl hl (by decide) rfl (fun ls hl => ?_)
          refine lv_iinc (v := iz ((k : Int) + 1)) (lv' := [(2, .int (iz ((k : Int) + 1))), (1, .int (iz 0)), (0, .ref h)]) hx hb d_M_hasHead_37 hl (k := 1) rfl (iz_add _ _) (by decide) rfl (fun ls hl => ?_)
          refine lv_goto (tgt := 4) hx hb d_M_hasHead_40 (by decide) ?_
          exact ih (k + 1) _ _ H locs ls (by omega) (by omega) (Or.inr ⟨rfl, kd_none (hi.elim (fun z => absurd z.1 (by omega)) (fun z => z.2)) (by assumption)⟩) hP hD hS (lv_sub hl [0, 1, 2] rfl)
        · have hc4 : (F o k) ≠ 0 := fun z => hc4 (lk_inj.mpr z)
          refine rz_iconst hx hb d_M_hasHead_31 ?_
          refine lv_goto (tgt := 36) hx hb d_M_hasHead_32 (by decide) ?_
          refine lv_istore_n (lv' := [(1, .int (iz 1)), (2, .int (iz (k : Int))), (0, .ref h)]) hx hb d_M_hasHead_36 rfl hl (by decide) rfl (fun ls hl => ?_)
          refine lv_iinc (v := iz ((k : Int) + 1)) (lv' := [(2, .int (iz ((k : Int) + 1))), (1, .int (iz 1)), (0, .ref h)]) hx hb d_M_hasHead_37 hl (k := 1) rfl (iz_add _ _) (by decide) rfl (fun ls hl => ?_)
          refine lv_goto (tgt := 4) hx hb d_M_hasHead_40 (by decide) ?_
          exact ih (k + 1) _ _ H locs ls (by omega) (by omega) (Or.inl ⟨rfl, by first | exact kd_pos (by assumption) | exact kd_keep (hi.elim (fun z => z.2) (fun z => absurd z.1 (by assumption)))⟩) hP hD hS (lv_sub hl [0, 1, 2] rfl)

def ws_M_hasHead : List Cond := .code y_M_hasHead c_M_hasHead 3 (some .boolean) :: kb
set_option maxHeartbeats 4000000 in
set_option maxRecDepth 100000 in
/-- hasHead -/
theorem m_M_hasHead (l : Launch) (D : va_G) (cJ cI : ClassId) (h : Nat) (cd od : Int) (fc hd md lo : Nat) (lv : Int) (tb rw bs : Nat) (mn : Int) (nu tu : Nat) (F : Nat → Nat → ro_K) (o : Nat) (hod : od = (o : Int)) (ho3 : o ≤ 3) : Met l y_M_hasHead ws_M_hasHead ({ frames := 0, cells := 0, slots := 0, locals := 0 }) (rc_Pc D vC [(cJ, .long), (cI, .int)] [.ref h] [(h, rM cd od fc hd md lo lv tb rw bs mn nu tu), (fc, k2 cJ 20 5 F)]) (va_Qi (fun (q : Int32) (_ : Unit) => (0 ≤ kd (F o) 5 ∧ q = iz 1) ∨ (¬ 0 ≤ kd (F o) 5 ∧ q = iz 0)) (fun _ t => va_P D vC [(h, rM cd od fc hd md lo lv tb rw bs mn nu tu), (fc, k2 cJ 20 5 F)] t.heap) (rc_A [(h, rM cd od fc hd md lo lv tb rw bs mn nu tu), (fc, k2 cJ 20 5 F)])) 0 0 (rc_A [(h, rM cd od fc hd md lo lv tb rw bs mn nu tu), (fc, k2 cJ 20 5 F)]) := by
  refine Met.ofW (cc := c_M_hasHead) (maxL := 3) (ret := (some .boolean)) (by decide) rfl ?_
  intro p e s m args below meth c s₁ B hml hv
  obtain ⟨rfl, hP, hK, hD0, hN⟩ := hv
  have hx := B.exec
  have hb := B.bytes
  have hr := B.returns
  have hts0 := atoms_spec (ws := ws_M_hasHead) B.pre
  have hts : ∀ w ∈ kb, w.before _ s = true := fun w h => hts0 w (List.mem_cons_of_mem _ h)
  have hown : s.vm.findClass R_M = some m.cls := findClass_of_methodNamed B.named
  have hlocks := B.notSynchronized
  have hD := rc_self hD0
  generalize hAe : rc_A [(h, rM cd od fc hd md lo lv tb rw bs mn nu tu), (fc, k2 cJ 20 5 F)] = A at hD ⊢
  have hS : va_S A s.heap s.heap [] := va_S.rf
  have hl := lv_entry ([.ref h]) (n := 3) (Nat.le_of_ble_eq_true rfl)
  rw [lg_entry_eq]
  generalize (lg_sl ([.ref h]) ++ List.replicate (3 - (lg_sl ([.ref h])).length) Slot.unset).toArray = ls at hl ⊢

  have hl : lv_has ls 3 [(0, .ref h)] := hl
  refine rz_iconst hx hb d_M_hasHead_0 ?_
  refine lv_istore_n (lv' := [(1, .int (iz 0)), (0, .ref h)]) hx hb d_M_hasHead_1 rfl hl (by decide) rfl (fun ls hl => ?_)
  refine rz_iconst hx hb d_M_hasHead_2 ?_
  refine lv_istore_n (lv' := [(2, .int (iz 0)), (1, .int (iz 0)), (0, .ref h)]) hx hb d_M_hasHead_3 rfl hl (by decide) rfl (fun ls hl => ?_)
  refine lo_M_hasHead (F := F) hod ho3 hx hb hml hown hts hK hN (fun zb H locs ls hi hP hD hS hl => ?_) 5 0 _ _ _ _ ls rfl (by omega) (Or.inr ⟨rfl, by show ¬ (0 : Int) ≤ -1; decide⟩) hP hD hS (lv_sub hl [0, 1, 2] rfl)
  refine lv_iload_n hx hb d_M_hasHead_43 rfl (lv_at hl 0 rfl) ?_
  rcases hi with ⟨rfl, hi⟩ | ⟨rfl, hi⟩
  · exact W.zret hx hb hr rfl (fun t ht hW => ⟨⟨_, (), rfl, (Or.inl ⟨hi, rfl⟩), rc_out ht hP⟩, hS.F ht⟩) hS.2.2 d_M_hasHead_44
  · exact W.zret hx hb hr rfl (fun t ht hW => ⟨⟨_, (), rfl, (Or.inr ⟨hi, rfl⟩), rc_out ht hP⟩, hS.F ht⟩) hS.2.2 d_M_hasHead_44
set_option maxHeartbeats 4000000 in
set_option maxRecDepth 100000 in
theorem lo_M_headAt {cJ cI : ClassId} {h : Nat} {cd od : Int} {fc hd md lo : Nat} {lv : Int} {tb rw bs : Nat} {mn : Int} {nu tu : Nat} {o : Nat} (hod : od = (o : Int)) (ho3 : o ≤ 3) {F : Nat → Nat → ro_K} {y : ro_K} (hx : p.tables.exec = Jvm.exec) (hb : c.code = c_M_headAt) (hml : c.maxLocals = 6) (hown : s.vm.findClass R_M = some m.cls) (hts : ∀ w ∈ kb, w.before args s = true) (hK : va_K D vC [(cJ, .long), (cI, .int)] s) (hN : rc_N s) (hP : va_P D vC [(h, rM cd od fc hd md lo lv tb rw bs mn nu tu), (fc, k2 cJ 20 5 F)] H) (hend : ∀ ls, lv_has ls 6 [(3, .long (lk (hoK (F o) y 5)))] → W p l e R s m args below meth c H locs 0 0 Q (F0 m 39 ls [])) : ∀ (q k : Nat) (z : Int) (ls : Array Slot), z = 4 - (k : Int) → k + q = 5 → lv_has ls 6 [(5, .int (iz z)), (3, .long (lk (hoK (F o) y k))), (0, .ref h), (1, .long (lk y))] → W p l e R s m args below meth c H locs 0 0 Q (F0 m 5 ls []) := by
  intro q
  induction q with
  | zero =>
    intro k z ls hz hk hl
    have e : k = 5 := hk
    subst e
    refine lv_iload hx hb d_M_headAt_5 (lv_at hl 0 rfl) ?_
    refine rz_if_lt (tgt := 39) hx hb d_M_headAt_7 (by decide) (fun hc1 => ?_) (fun hc1 => ?_)
    · exact hend ls (lv_sub hl [1] rfl)
    · omega
  | succ q ih =>
    intro k z ls hz hk hl
    refine lv_iload hx hb d_M_headAt_5 (lv_at hl 0 rfl) ?_
    refine rz_if_lt (tgt := 39) hx hb d_M_headAt_7 (by decide) (fun hc2 => ?_) (fun hc2 => ?_)
    · omega
    · refine lv_lload_n hx hb d_M_headAt_10 rfl (lv_at hl 1 rfl) ?_
      refine lv_lload_n hx hb d_M_headAt_11 rfl (lv_at hl 3 rfl) ?_
      refine rlp_lmul hx hb 1024128004 (lk_p (hoK (F o) y k)) (lk_p y) d_M_headAt_12 (fun v3 hv3 => ?_)
      refine lv_aload_n hx hb d_M_headAt_13 rfl (lv_at hl 2 rfl) ?_
      refine va_get (D := D) (ci := 3) (v := .ref fc) (C := R_M) (T := T_M) (N := 13) hx hb hts in_M hown hK hP 0 rfl rfl 2 (by decide) (hts _ kw_532) (fun _ h9 => h9) rfl d_M_headAt_14 ?_
      refine rz_iconst hx hb d_M_headAt_17 ?_
      refine lv_aload_n hx hb d_M_headAt_18 rfl (lv_at hl 2 rfl) ?_
      refine va_get (D := D) (ci := 3) (v := .int (iz od)) (C := R_M) (T := T_M) (N := 13) hx hb hts in_M hown hK hP 0 rfl rfl 1 (by decide) (hts _ kw_531) (fun _ h9 => h9) rfl d_M_headAt_19 ?_
      refine rz_imul hx hb d_M_headAt_22 ?_
      refine lv_iload hx hb d_M_headAt_23 (lv_at hl 0 rfl) ?_
      refine rz_iadd hx hb d_M_headAt_25 ?_
      refine rm_ld hx hb hK hP 1 0 rfl rfl o (4 - k) d_M_headAt_26 ?_
      refine rlp_ladd hx hb 1024160006 hv3 (lk_p (F o (4 - k))) d_M_headAt_27 (fun v4 hv4 => ?_)
      refine lv_ldc2 (v := 32003) hx hb hown (hts _ kw_589) d_M_headAt_28 ?_
      refine rlp_lrem hx hb hv4 d_M_headAt_31 ?_
      refine lv_lstore_n (lv' := [(3, .long (lk (((hoK (F o) y k) * y) + (F o (4 - k))))), (5, .int (iz z)), (0, .ref h), (1, .long (lk y))]) hx hb d_M_headAt_32 rfl hl (by decide) rfl (fun ls hl => ?_)
      refine lv_iinc (v := iz (z + (-1))) (lv' := [(5, .int (iz (z + (-1)))), (3, .long (lk (((hoK (F o) y k) * y) + (F o (4 - k))))), (0, .ref h), (1, .long (lk y))]) hx hb d_M_headAt_33 hl (k := 1) rfl (iz_add _ _) (by decide) rfl (fun ls hl => ?_)
      refine lv_goto (tgt := 5) hx hb d_M_headAt_36 (by decide) ?_
      exact ih (k + 1) _ ls (by omega) (by omega) (lv_sub hl [0, 1, 2, 3] rfl)
def ws_M_headAt : List Cond := .code y_M_headAt c_M_headAt 6 (some .long) :: kb
set_option maxHeartbeats 4000000 in
set_option maxRecDepth 100000 in
/-- headAt -/
theorem m_M_headAt (l : Launch) (D : va_G) (cJ cI : ClassId) (h : Nat) (cd od : Int) (fc hd md lo : Nat) (lv : Int) (tb rw bs : Nat) (mn : Int) (nu tu : Nat) (F : Nat → Nat → ro_K) (y : ro_K) (o : Nat) (hod : od = (o : Int)) (ho3 : o ≤ 3) : Met l y_M_headAt ws_M_headAt ({ frames := 0, cells := 0, slots := 0, locals := 0 }) (rc_Pc D vC [(cJ, .long), (cI, .int)] [.ref h, .long (lk y)] [(h, rM cd od fc hd md lo lv tb rw bs mn nu tu), (fc, k2 cJ 20 5 F)]) (va_Ql (fun (q : Int64) (_ : Unit) => q = lk (ro_ev 5 (F o) y)) (fun _ t => va_P D vC [(h, rM cd od fc hd md lo lv tb rw bs mn nu tu), (fc, k2 cJ 20 5 F)] t.heap) (rc_A [(h, rM cd od fc hd md lo lv tb rw bs mn nu tu), (fc, k2 cJ 20 5 F)])) 0 0 (rc_A [(h, rM cd od fc hd md lo lv tb rw bs mn nu tu), (fc, k2 cJ 20 5 F)]) := by
  refine Met.ofW (cc := c_M_headAt) (maxL := 6) (ret := (some .long)) (by decide) rfl ?_
  intro p e s m args below meth c s₁ B hml hv
  obtain ⟨rfl, hP, hK, hD0, hN⟩ := hv
  have hx := B.exec
  have hb := B.bytes
  have hr := B.returns
  have hts0 := atoms_spec (ws := ws_M_headAt) B.pre
  have hts : ∀ w ∈ kb, w.before _ s = true := fun w h => hts0 w (List.mem_cons_of_mem _ h)
  have hown : s.vm.findClass R_M = some m.cls := findClass_of_methodNamed B.named
  have hlocks := B.notSynchronized
  have hD := rc_self hD0
  generalize hAe : rc_A [(h, rM cd od fc hd md lo lv tb rw bs mn nu tu), (fc, k2 cJ 20 5 F)] = A at hD ⊢
  have hS : va_S A s.heap s.heap [] := va_S.rf
  have hl := lv_entry ([.ref h, .long (lk y)]) (n := 6) (Nat.le_of_ble_eq_true rfl)
  rw [lg_entry_eq]
  generalize (lg_sl ([.ref h, .long (lk y)]) ++ List.replicate (6 - (lg_sl ([.ref h, .long (lk y)])).length) Slot.unset).toArray = ls at hl ⊢

  have hl : lv_has ls 6 [(0, .ref h), (1, .long (lk y))] := hl
  refine lv_lconst (v := lk 0) hx hb d_M_headAt_0 rfl ?_
  refine lv_lstore_n (lv' := [(3, .long (lk 0)), (0, .ref h), (1, .long (lk y))]) hx hb d_M_headAt_1 rfl hl (by decide) rfl (fun ls hl => ?_)
  refine rz_iconst hx hb d_M_headAt_2 ?_
  refine lv_istore (lv' := [(5, .int (iz 4)), (3, .long (lk 0)), (0, .ref h), (1, .long (lk y))]) hx hb d_M_headAt_3 hl (by decide) rfl (fun ls hl => ?_)
  refine lo_M_headAt (F := F) (y := y) hod ho3 hx hb hml hown hts hK hN hP (fun ls hl => ?_) 5 0 _ ls (by omega) (by omega) (lv_sub hl [0, 1, 2, 3] rfl)
  refine lv_lload_n hx hb d_M_headAt_39 rfl (lv_at hl 0 rfl) ?_
  exact W.lret hx hb hr (fun t ht hW => ⟨⟨_, (), rfl, (by rw [hoK_ev]), rc_out ht hP⟩, hS.F ht⟩) hS.2.2 d_M_headAt_40
set_option maxHeartbeats 4000000 in
set_option maxRecDepth 100000 in
theorem lo_M_find {cJ cI : ClassId} {h : Nat} {cd od : Int} {fc hd md lo : Nat} {lv : Int} {tb rw bs : Nat} {mn : Int} {nu tu : Nat} {o : Nat} (hod : od = (o : Int)) (ho3 : o ≤ 3) {F : Nat → Nat → ro_K} {zk : Int}  (hzkl : -2147483648 ≤ zk) (hzkh : zk < 2147483648) (hx : p.tables.exec = Jvm.exec) (hb : c.code = c_M_find) (hml : c.maxLocals = 4) (hown : s.vm.findClass R_M = some m.cls) (hts : ∀ w ∈ kb, w.before args s = true) (hK : va_K D vC [(cJ, .long), (cI, .int)] s) (hN : rc_N s) (hR : 1 ≤ R.frames ∧ 25 ≤ R.locals) (he1 : ∀ (x : Nat) (H : Heap) (locs : List Loc) (ls : Array Slot), x < 32003 → ro_ev 5 (F o) (ro_k (x : Int)) = 0 → (cntN (F o) x : Int) = zk → va_P D vC [(h, rM cd od fc hd md lo lv tb rw bs mn nu tu), (fc, k2 cJ 20 5 F)] H → va_D A [(h, rM cd od fc hd md lo lv tb rw bs mn nu tu), (fc, k2 cJ 20 5 F)] → va_S A H0 H locs → lv_has ls 4 [(3, .int (iz (x : Int)))] → W p l e R s m args below meth c H locs 0 0 Q (F0 m 30 ls [])) (he2 : ∀ (H : Heap) (locs : List Loc) (ls : Array Slot), (∀ x : Nat, x < 32003 → ro_ev 5 (F o) (ro_k (x : Int)) = 0 → (cntN (F o) x : Int) ≠ zk) → va_P D vC [(h, rM cd od fc hd md lo lv tb rw bs mn nu tu), (fc, k2 cJ 20 5 F)] H → va_D A [(h, rM cd od fc hd md lo lv tb rw bs mn nu tu), (fc, k2 cJ 20 5 F)] → va_S A H0 H locs → lv_has ls 4 [(2, .int (iz (cntN (F o) 32003 : Int)))] → W p l e R s m args below meth c H locs 0 0 Q (F0 m 41 ls [])) : ∀ (q x : Nat) (z zn : Int) (H : Heap) (locs : List Loc) (ls : Array Slot), z = (x : Int) → zn = (cntN (F o) x : Int) → x + q = 32003 → (∀ y : Nat, y < x → ro_ev 5 (F o) (ro_k (y : Int)) = 0 → (cntN (F o) y : Int) ≠ zk) → va_P D vC [(h, rM cd od fc hd md lo lv tb rw bs mn nu tu), (fc, k2 cJ 20 5 F)] H → va_D A [(h, rM cd od fc hd md lo lv tb rw bs mn nu tu), (fc, k2 cJ 20 5 F)] → va_S A H0 H locs → lv_has ls 4 [(3, .int (iz z)), (2, .int (iz zn)), (0, .ref h), (1, .int (iz zk))] → W p l e R s m args below meth c H locs 0 0 Q (F0 m 4 ls []) := by
  intro q
  induction q with
  | zero =>
    intro x z zn H locs ls hz hzn hx3 hno hP hD hS hl
    have e : x = 32003 := hx3
    subst e
    have hcl := cntN_le (F o) 32003
    refine lv_iload_n hx hb d_M_find_4 rfl (lv_at hl 0 rfl) ?_
    refine rz_sipush hx hb d_M_find_5 (by decide) ?_
    refine rz_icmp_ge (tgt := 41) hx hb d_M_find_8 (by decide) (fun hc1 => ?_) (fun hc1 => ?_)
    · subst hzn
      exact he2 H locs ls hno hP hD hS (lv_sub hl [1] rfl)
    · omega
  | succ q ih =>
    intro x z zn H locs ls hz hzn hx3 hno hP hD hS hl
    subst hz
    subst hzn
    have hcl := cntN_le (F o) x
    have hs1 : cntN (F o) (x + 1) = if ro_ev 5 (F o) (ro_k (x : Int)) = 0 then cntN (F o) x + 1 else cntN (F o) x := rfl
    refine lv_iload_n hx hb d_M_find_4 rfl (lv_at hl 0 rfl) ?_
    refine rz_sipush hx hb d_M_find_5 (by decide) ?_
    refine rz_icmp_ge (tgt := 41) hx hb d_M_find_8 (by decide) (fun hc2 => ?_) (fun hc2 => ?_)
    · omega
    · refine lv_aload_n hx hb d_M_find_11 rfl (lv_at hl 2 rfl) ?_
      refine lv_iload_n hx hb d_M_find_12 rfl (lv_at hl 0 rfl) ?_
      refine lv_i2l hx hb d_M_find_13 rfl ?_
      rw [i2l_lk (show x < 32003 by omega)]
      refine rc_calll (va_runV (As := [.long (lk (ro_k (x : Int)))]) (rest := []) ⟨hx, hb, hml, hown, hts⟩ (m_M_headAt l D cJ cI h cd od fc hd md lo lv tb rw bs mn nu tu F (ro_k (x : Int)) o hod ho3) (cwV 1 hts (kb_gi (kb_c kw_648 (kb_c kw_650 (kb_c ks_M_headAt (kb_c kw_5 (kb_c kw_651 kb_all)))))) rfl rfl rfl (by decide +kernel) ⟨Nat.le_trans (by decide) hR.1, Nat.le_trans (by decide) hR.2⟩) ⟨rc_blind, va_recv hK hP (ci := 3) (q0 := 0) rfl rfl, rc_pre hP hD hK hN [0, 1] rfl rfl [0, 1] rfl⟩ rfl rfl hl.1 rfl (lv_room (Nat.le_of_ble_eq_true rfl)) d_M_find_14 ⟨Nat.zero_le _, Nat.zero_le _⟩) hP hD hS [0, 1] rfl (fun _ => rfl) (fun r3 u4 H locs hw4 hP hD hS => ?_)
      subst hw4
      have hP : va_P D vC [(h, rM cd od fc hd md lo lv tb rw bs mn nu tu), (fc, k2 cJ 20 5 F)] H := hP
      have hD : va_D A [(h, rM cd od fc hd md lo lv tb rw bs mn nu tu), (fc, k2 cJ 20 5 F)] := hD
      refine lv_lconst (v := lk 0) hx hb d_M_find_17 rfl ?_
      refine rz_lcmp_eq (tgt := 25) hx hb d_M_find_18 d_M_find_19 (by decide) (fun hc5 => ?_) (fun hc5 => ?_)
      · have hc5 : (ro_ev 5 (F o) (ro_k (x : Int))) = 0 := lk_inj.mp hc5
        refine lv_iload_n hx hb d_M_find_25 rfl (lv_at hl 1 rfl) ?_
        refine lv_iload_n hx hb d_M_find_26 rfl (lv_at hl 3 rfl) ?_
        refine rz_icmp_ne (tgt := 32) hx hb d_M_find_27 (by decide) (fun hc6 => ?_) (fun hc6 => ?_)
        · refine lv_iinc (v := iz ((cntN (F o) x : Int) + 1)) (lv' := [(2, .int (iz ((cntN (F o) x : Int) + 1))), (3, .int (iz (x : Int))), (0, .ref h), (1, .int (iz zk))]) hx hb d_M_find_32 hl (k := 1) rfl (iz_add _ _) (by decide) rfl (fun ls hl => ?_)
          refine lv_iinc (v := iz ((x : Int) + 1)) (lv' := [(3, .int (iz ((x : Int) + 1))), (2, .int (iz ((cntN (F o) x : Int) + 1))), (0, .ref h), (1, .int (iz zk))]) hx hb d_M_find_35 hl (k := 1) rfl (iz_add _ _) (by decide) rfl (fun ls hl => ?_)
          refine lv_goto (tgt := 4) hx hb d_M_find_38 (by decide) ?_
          refine ih (x + 1) _ _ H locs ls (by omega) (by rw [hs1, if_pos (by assumption)]; omega) (by omega) (fun y hy hr => ?_) hP hD hS (lv_sub hl [0, 1, 2, 3] rfl)
          by_cases e : y = x
          · subst e; assumption
          · exact hno y (by omega) hr
        · exact he1 x H locs ls (by omega) (by assumption) (by assumption) hP hD hS (lv_sub hl [0] rfl)
      · have hc5 : (ro_ev 5 (F o) (ro_k (x : Int))) ≠ 0 := fun z => hc5 (lk_inj.mpr z)
        refine lv_goto (tgt := 35) hx hb d_M_find_22 (by decide) ?_
        refine lv_iinc (v := iz ((x : Int) + 1)) (lv' := [(3, .int (iz ((x : Int) + 1))), (2, .int (iz (cntN (F o) x : Int))), (0, .ref h), (1, .int (iz zk))]) hx hb d_M_find_35 hl (k := 0) rfl (iz_add _ _) (by decide) rfl (fun ls hl => ?_)
        refine lv_goto (tgt := 4) hx hb d_M_find_38 (by decide) ?_
        refine ih (x + 1) _ _ H locs ls (by omega) (by rw [hs1, if_neg (by assumption)]) (by omega) (fun y hy hr => ?_) hP hD hS (lv_sub hl [0, 1, 2, 3] rfl)
        by_cases e : y = x
        · subst e; exact absurd hr (by assumption)
        · exact hno y (by omega) hr
def ws_M_find : List Cond := .code y_M_find c_M_find 4 (some .int) :: kb
set_option maxHeartbeats 4000000 in
set_option maxRecDepth 100000 in
/-- find -/
theorem m_M_find (l : Launch) (D : va_G) (cJ cI : ClassId) (h : Nat) (cd od : Int) (fc hd md lo : Nat) (lv : Int) (tb rw bs : Nat) (mn : Int) (nu tu : Nat) (F : Nat → Nat → ro_K) (zk : Int) (o : Nat) (hod : od = (o : Int)) (ho3 : o ≤ 3) (hzkl : -2147483648 ≤ zk) (hzkh : zk < 2147483648) : Met l y_M_find ws_M_find ({ frames := 1, cells := 0, slots := 0, locals := 25 }) (rc_Pc D vC [(cJ, .long), (cI, .int)] [.ref h, .int (iz zk)] [(h, rM cd od fc hd md lo lv tb rw bs mn nu tu), (fc, k2 cJ 20 5 F)]) (va_Qi (fun (q : Int32) (_ : Unit) => (∃ x : Nat, x < 32003 ∧ ro_ev 5 (F o) (ro_k (x : Int)) = 0 ∧ (cntN (F o) x : Int) = zk ∧ q = iz (x : Int)) ∨ ((∀ x : Nat, x < 32003 → ro_ev 5 (F o) (ro_k (x : Int)) = 0 → (cntN (F o) x : Int) ≠ zk) ∧ q = iz (-1 - (cntN (F o) 32003 : Int)))) (fun _ t => va_P D vC [(h, rM cd od fc hd md lo lv tb rw bs mn nu tu), (fc, k2 cJ 20 5 F)] t.heap) (rc_A [(h, rM cd od fc hd md lo lv tb rw bs mn nu tu), (fc, k2 cJ 20 5 F)])) 0 0 (rc_A [(h, rM cd od fc hd md lo lv tb rw bs mn nu tu), (fc, k2 cJ 20 5 F)]) := by
  refine Met.ofW (cc := c_M_find) (maxL := 4) (ret := (some .int)) (by decide) rfl ?_
  intro p e s m args below meth c s₁ B hml hv
  obtain ⟨rfl, hP, hK, hD0, hN⟩ := hv
  have hx := B.exec
  have hb := B.bytes
  have hr := B.returns
  have hts0 := atoms_spec (ws := ws_M_find) B.pre
  have hts : ∀ w ∈ kb, w.before _ s = true := fun w h => hts0 w (List.mem_cons_of_mem _ h)
  have hown : s.vm.findClass R_M = some m.cls := findClass_of_methodNamed B.named
  have hlocks := B.notSynchronized
  have hD := rc_self hD0
  generalize hAe : rc_A [(h, rM cd od fc hd md lo lv tb rw bs mn nu tu), (fc, k2 cJ 20 5 F)] = A at hD ⊢
  have hS : va_S A s.heap s.heap [] := va_S.rf
  have hl := lv_entry ([.ref h, .int (iz zk)]) (n := 4) (Nat.le_of_ble_eq_true rfl)
  rw [lg_entry_eq]
  generalize (lg_sl ([.ref h, .int (iz zk)]) ++ List.replicate (4 - (lg_sl ([.ref h, .int (iz zk)])).length) Slot.unset).toArray = ls at hl ⊢

  have hl : lv_has ls 4 [(0, .ref h), (1, .int (iz zk))] := hl
  refine rz_iconst hx hb d_M_find_0 ?_
  refine lv_istore_n (lv' := [(2, .int (iz 0)), (0, .ref h), (1, .int (iz zk))]) hx hb d_M_find_1 rfl hl (by decide) rfl (fun ls hl => ?_)
  refine rz_iconst hx hb d_M_find_2 ?_
  refine lv_istore_n (lv' := [(3, .int (iz 0)), (2, .int (iz 0)), (0, .ref h), (1, .int (iz zk))]) hx hb d_M_find_3 rfl hl (by decide) rfl (fun ls hl => ?_)
  refine lo_M_find (F := F) (zk := zk) hod ho3 hzkl hzkh hx hb hml hown hts hK hN ⟨Nat.le_of_ble_eq_true rfl, Nat.le_of_ble_eq_true rfl⟩ (fun x H locs ls hx3 hr0 hc hP hD hS hl => ?_) (fun H locs ls hno hP hD hS hl => ?_) 32003 0 _ _ _ _ ls rfl rfl (by omega) (fun y hy => absurd hy (Nat.not_lt_zero y)) hP hD hS (lv_sub hl [0, 1, 2, 3] rfl)
  · refine lv_iload_n hx hb d_M_find_30 rfl (lv_at hl 0 rfl) ?_
    exact W.iret hx hb hr (fun t ht hW => ⟨⟨_, (), rfl, (Or.inl ⟨x, hx3, hr0, hc, rfl⟩), rc_out ht hP⟩, hS.F ht⟩) hS.2.2 d_M_find_31
  · refine rz_iconst hx hb d_M_find_41 ?_
    refine lv_iload_n hx hb d_M_find_42 rfl (lv_at hl 0 rfl) ?_
    refine rz_isub hx hb d_M_find_43 ?_
    exact W.iret hx hb hr (fun t ht hW => ⟨⟨_, (), rfl, (Or.inr ⟨hno, rfl⟩), rc_out ht hP⟩, hS.F ht⟩) hS.2.2 d_M_find_44
def ws_M_places : List Cond := .code y_M_places c_M_places 1 (some .int) :: kb
set_option maxHeartbeats 4000000 in
set_option maxRecDepth 100000 in
/-- places -/
theorem m_M_places (l : Launch) (D : va_G) (cJ cI : ClassId) (h : Nat) (cd od : Int) (fc hd md lo : Nat) (lv : Int) (tb rw bs : Nat) (mn : Int) (nu tu : Nat) (F : Nat → Nat → ro_K) (o : Nat) (hod : od = (o : Int)) (ho3 : o ≤ 3) : Met l y_M_places ws_M_places ({ frames := 2, cells := 0, slots := 0, locals := 48 }) (rc_Pc D vC [(cJ, .long), (cI, .int)] [.ref h] [(h, rM cd od fc hd md lo lv tb rw bs mn nu tu), (fc, k2 cJ 20 5 F)]) (va_Qi (fun (q : Int32) (u : Int) => (0 ≤ kd (F o) 5 ∧ u = 0 ∧ q = iz (cntN (F o) 32003 : Int)) ∨ (¬ 0 ≤ kd (F o) 5 ∧ u = 1 ∧ q = iz 0)) (fun u t => va_P D vC [(h, rM u od fc hd md lo lv tb rw bs mn nu tu), (fc, k2 cJ 20 5 F)] t.heap) (rc_A [(h, rM cd od fc hd md lo lv tb rw bs mn nu tu), (fc, k2 cJ 20 5 F)])) 0 0 (rc_A [(h, rM cd od fc hd md lo lv tb rw bs mn nu tu), (fc, k2 cJ 20 5 F)]) := by
  refine Met.ofW (cc := c_M_places) (maxL := 1) (ret := (some .int)) (by decide) rfl ?_
  intro p e s m args below meth c s₁ B hml hv
  obtain ⟨rfl, hP, hK, hD0, hN⟩ := hv
  have hx := B.exec
  have hb := B.bytes
  have hr := B.returns
  have hts0 := atoms_spec (ws := ws_M_places) B.pre
  have hts : ∀ w ∈ kb, w.before _ s = true := fun w h => hts0 w (List.mem_cons_of_mem _ h)
  have hown : s.vm.findClass R_M = some m.cls := findClass_of_methodNamed B.named
  have hlocks := B.notSynchronized
  have hD := rc_self hD0
  generalize hAe : rc_A [(h, rM cd od fc hd md lo lv tb rw bs mn nu tu), (fc, k2 cJ 20 5 F)] = A at hD ⊢
  have hS : va_S A s.heap s.heap [] := va_S.rf
  have hl := lv_entry ([.ref h]) (n := 1) (Nat.le_of_ble_eq_true rfl)
  rw [lg_entry_eq]
  generalize (lg_sl ([.ref h]) ++ List.replicate (1 - (lg_sl ([.ref h])).length) Slot.unset).toArray = ls at hl ⊢

  have hl : lv_has ls 1 [(0, .ref h)] := hl
  refine lv_aload_n hx hb d_M_places_0 rfl (lv_at hl 0 rfl) ?_
  refine lv_aload_n hx hb d_M_places_1 rfl (lv_at hl 0 rfl) ?_
  refine rc_calli (va_runV (As := []) (rest := [.ref h]) ⟨hx, hb, hml, hown, hts⟩ (m_M_hasHead l D cJ cI h cd od fc hd md lo lv tb rw bs mn nu tu F o hod ho3) (cwV 0 hts (kb_gi (kb_c kw_640 (kb_c kw_642 (kb_c ks_M_hasHead (kb_c kw_5 (kb_c kw_643 kb_all)))))) rfl rfl rfl (by decide +kernel) ⟨Nat.le_of_ble_eq_true rfl, Nat.le_of_ble_eq_true rfl⟩) ⟨rc_blind, va_recv hK hP (ci := 3) (q0 := 0) rfl rfl, rc_pre hP hD hK hN [0, 1] rfl rfl [0, 1] rfl⟩ rfl rfl hl.1 rfl (lv_room (Nat.le_of_ble_eq_true rfl)) d_M_places_2 ⟨Nat.zero_le _, Nat.zero_le _⟩) hP hD hS [0, 1] rfl (fun _ => rfl) (fun r1 u2 H locs hw2 hP hD hS => ?_)
  have hP : va_P D vC [(h, rM cd od fc hd md lo lv tb rw bs mn nu tu), (fc, k2 cJ 20 5 F)] H := hP
  have hD : va_D A [(h, rM cd od fc hd md lo lv tb rw bs mn nu tu), (fc, k2 cJ 20 5 F)] := hD
  rcases hw2 with ⟨hH, rfl⟩ | ⟨hH, rfl⟩
  · refine rz_if_eq (tgt := 12) hx hb d_M_places_5 (by decide) (fun hc => absurd hc (by decide)) (fun _ => ?_)
    refine rz_iconst hx hb d_M_places_8 ?_
    refine lv_goto (tgt := 13) hx hb d_M_places_9 (by decide) ?_
    refine va_put (D := D) (ci := 3) (v := .int (iz 0)) (ty := .int) (C := R_M) (T := T_M) (N := 13) hx hb hts in_M ty_M tk_M nm_M hown hK hP hD hS 0 rfl rfl 0 (by decide) (hts _ kw_530) (fun _ h9 => h9) rfl (by decide +kernel) rfl rfl (Nat.le_of_ble_eq_true rfl) d_M_places_13 (fun H locs hP hD hS => ?_)
    have hP : va_P D vC [(h, rM 0 od fc hd md lo lv tb rw bs mn nu tu), (fc, k2 cJ 20 5 F)] H := hP
    have hD : va_D A [(h, rM 0 od fc hd md lo lv tb rw bs mn nu tu), (fc, k2 cJ 20 5 F)] := hD
    refine lv_aload_n hx hb d_M_places_16 rfl (lv_at hl 0 rfl) ?_
    refine va_get (D := D) (ci := 3) (v := .int (iz 0)) (C := R_M) (T := T_M) (N := 13) hx hb hts in_M hown hK hP 0 rfl rfl 0 (by decide) (hts _ kw_530) (fun _ h9 => h9) rfl d_M_places_17 ?_
    refine rz_if_le (tgt := 27) hx hb d_M_places_20 (by decide) (fun _ => ?_) (fun hc => absurd hc (by decide))
    refine rz_iconst hx hb d_M_places_27 ?_
    refine lv_aload_n hx hb d_M_places_28 rfl (lv_at hl 0 rfl) ?_
    refine rz_iconst hx hb d_M_places_29 ?_
    refine rc_calli (va_runV (As := [.int (iz (-1))]) (rest := [.int (iz (-1))]) ⟨hx, hb, hml, hown, hts⟩ (m_M_find l D cJ cI h 0 od fc hd md lo lv tb rw bs mn nu tu F (-1) o hod ho3 (by decide) (by decide)) (cwV 1 hts (kb_gi (kb_c kw_644 (kb_c kw_646 (kb_c ks_M_find (kb_c kw_5 (kb_c kw_647 kb_all)))))) rfl rfl rfl (by decide +kernel) ⟨Nat.le_of_ble_eq_true rfl, Nat.le_of_ble_eq_true rfl⟩) ⟨rc_blind, va_recv hK hP (ci := 3) (q0 := 0) rfl rfl, rc_pre hP hD hK hN [0, 1] rfl rfl [0, 1] rfl⟩ rfl rfl hl.1 rfl (lv_room (Nat.le_of_ble_eq_true rfl)) d_M_places_30 ⟨Nat.zero_le _, Nat.zero_le _⟩) hP hD hS [0, 1] rfl (fun _ => rfl) (fun r3 u4 H locs hw4 hP hD hS => ?_)
    have hq : r3 = iz (-1 - (cntN (F o) 32003 : Int)) := hw4.elim (fun ⟨x, _, _, hc, _⟩ => absurd hc (by omega)) (fun z => z.2)
    subst hq
    have hP : va_P D vC [(h, rM 0 od fc hd md lo lv tb rw bs mn nu tu), (fc, k2 cJ 20 5 F)] H := hP
    have hD : va_D A [(h, rM 0 od fc hd md lo lv tb rw bs mn nu tu), (fc, k2 cJ 20 5 F)] := hD
    refine rz_isub hx hb d_M_places_33 ?_
    exact W.iret hx hb hr (fun t ht hW => ⟨⟨_, 0, rfl, (Or.inl ⟨hH, rfl, by congr 1; omega⟩), rc_out ht hP⟩, hS.F ht⟩) hS.2.2 d_M_places_34
  · refine rz_if_eq (tgt := 12) hx hb d_M_places_5 (by decide) (fun _ => ?_) (fun hc => absurd hc (by decide))
    refine rz_iconst hx hb d_M_places_12 ?_
    refine va_put (D := D) (ci := 3) (v := .int (iz 1)) (ty := .int) (C := R_M) (T := T_M) (N := 13) hx hb hts in_M ty_M tk_M nm_M hown hK hP hD hS 0 rfl rfl 0 (by decide) (hts _ kw_530) (fun _ h9 => h9) rfl (by decide +kernel) rfl rfl (Nat.le_of_ble_eq_true rfl) d_M_places_13 (fun H locs hP hD hS => ?_)
    have hP : va_P D vC [(h, rM 1 od fc hd md lo lv tb rw bs mn nu tu), (fc, k2 cJ 20 5 F)] H := hP
    have hD : va_D A [(h, rM 1 od fc hd md lo lv tb rw bs mn nu tu), (fc, k2 cJ 20 5 F)] := hD
    refine lv_aload_n hx hb d_M_places_16 rfl (lv_at hl 0 rfl) ?_
    refine va_get (D := D) (ci := 3) (v := .int (iz 1)) (C := R_M) (T := T_M) (N := 13) hx hb hts in_M hown hK hP 0 rfl rfl 0 (by decide) (hts _ kw_530) (fun _ h9 => h9) rfl d_M_places_17 ?_
    refine rz_if_le (tgt := 27) hx hb d_M_places_20 (by decide) (fun hc => absurd hc (by decide)) (fun _ => ?_)
    refine rz_iconst hx hb d_M_places_23 ?_
    refine lv_goto (tgt := 34) hx hb d_M_places_24 (by decide) ?_
    exact W.iret hx hb hr (fun t ht hW => ⟨⟨_, 1, rfl, (Or.inr ⟨hH, rfl, rfl⟩), rc_out ht hP⟩, hS.F ht⟩) hS.2.2 d_M_places_34
def ws_M_place : List Cond := .code y_M_place c_M_place 3 (some .int) :: kb
set_option maxHeartbeats 4000000 in
set_option maxRecDepth 100000 in
/-- place -/
theorem m_M_place (l : Launch) (D : va_G) (cJ cI : ClassId) (h : Nat) (cd od : Int) (fc hd md lo : Nat) (lv : Int) (tb rw bs : Nat) (mn : Int) (nu tu : Nat) (F : Nat → Nat → ro_K) (zk : Int) (o : Nat) (hod : od = (o : Int)) (ho3 : o ≤ 3) (hzkl : -2147483648 ≤ zk) (hzkh : zk < 2147483648) : Met l y_M_place ws_M_place ({ frames := 2, cells := 0, slots := 0, locals := 48 }) (rc_Pc D vC [(cJ, .long), (cI, .int)] [.ref h, .int (iz zk)] [(h, rM cd od fc hd md lo lv tb rw bs mn nu tu), (fc, k2 cJ 20 5 F)]) (va_Qi (fun (q : Int32) (u : Int) => (¬ 0 ≤ kd (F o) 5 ∧ u = 1 ∧ q = iz 0) ∨ (0 ≤ kd (F o) 5 ∧ ∃ x : Nat, x < 32003 ∧ ro_ev 5 (F o) (ro_k (x : Int)) = 0 ∧ (cntN (F o) x : Int) = zk ∧ u = 0 ∧ q = iz (x : Int)) ∨ (0 ≤ kd (F o) 5 ∧ (zk < 0 ∨ ∀ x : Nat, x < 32003 → ro_ev 5 (F o) (ro_k (x : Int)) = 0 → (cntN (F o) x : Int) ≠ zk) ∧ u = 2 ∧ q = iz 0)) (fun u t => va_P D vC [(h, rM u od fc hd md lo lv tb rw bs mn nu tu), (fc, k2 cJ 20 5 F)] t.heap) (rc_A [(h, rM cd od fc hd md lo lv tb rw bs mn nu tu), (fc, k2 cJ 20 5 F)])) 0 0 (rc_A [(h, rM cd od fc hd md lo lv tb rw bs mn nu tu), (fc, k2 cJ 20 5 F)]) := by
  refine Met.ofW (cc := c_M_place) (maxL := 3) (ret := (some .int)) (by decide) rfl ?_
  intro p e s m args below meth c s₁ B hml hv
  obtain ⟨rfl, hP, hK, hD0, hN⟩ := hv
  have hx := B.exec
  have hb := B.bytes
  have hr := B.returns
  have hts0 := atoms_spec (ws := ws_M_place) B.pre
  have hts : ∀ w ∈ kb, w.before _ s = true := fun w h => hts0 w (List.mem_cons_of_mem _ h)
  have hown : s.vm.findClass R_M = some m.cls := findClass_of_methodNamed B.named
  have hlocks := B.notSynchronized
  have hD := rc_self hD0
  generalize hAe : rc_A [(h, rM cd od fc hd md lo lv tb rw bs mn nu tu), (fc, k2 cJ 20 5 F)] = A at hD ⊢
  have hS : va_S A s.heap s.heap [] := va_S.rf
  have hl := lv_entry ([.ref h, .int (iz zk)]) (n := 3) (Nat.le_of_ble_eq_true rfl)
  rw [lg_entry_eq]
  generalize (lg_sl ([.ref h, .int (iz zk)]) ++ List.replicate (3 - (lg_sl ([.ref h, .int (iz zk)])).length) Slot.unset).toArray = ls at hl ⊢

  have hl : lv_has ls 3 [(0, .ref h), (1, .int (iz zk))] := hl
  refine lv_aload_n hx hb d_M_place_0 rfl (lv_at hl 0 rfl) ?_
  refine rc_calli (va_runV (As := []) (rest := []) ⟨hx, hb, hml, hown, hts⟩ (m_M_hasHead l D cJ cI h cd od fc hd md lo lv tb rw bs mn nu tu F o hod ho3) (cwV 0 hts (kb_gi (kb_c kw_640 (kb_c kw_642 (kb_c ks_M_hasHead (kb_c kw_5 (kb_c kw_643 kb_all)))))) rfl rfl rfl (by decide +kernel) ⟨Nat.le_of_ble_eq_true rfl, Nat.le_of_ble_eq_true rfl⟩) ⟨rc_blind, va_recv hK hP (ci := 3) (q0 := 0) rfl rfl, rc_pre hP hD hK hN [0, 1] rfl rfl [0, 1] rfl⟩ rfl rfl hl.1 rfl (lv_room (Nat.le_of_ble_eq_true rfl)) d_M_place_1 ⟨Nat.zero_le _, Nat.zero_le _⟩) hP hD hS [0, 1] rfl (fun _ => rfl) (fun r1 u2 H locs hw2 hP hD hS => ?_)
  have hP : va_P D vC [(h, rM cd od fc hd md lo lv tb rw bs mn nu tu), (fc, k2 cJ 20 5 F)] H := hP
  have hD : va_D A [(h, rM cd od fc hd md lo lv tb rw bs mn nu tu), (fc, k2 cJ 20 5 F)] := hD
  rcases hw2 with ⟨hH, rfl⟩ | ⟨hH, rfl⟩
  · refine rz_if_ne (tgt := 13) hx hb d_M_place_4 (by decide) (fun _ => ?_) (fun hc => absurd hc (by decide))
    refine lv_iload_n hx hb d_M_place_13 rfl (lv_at hl 1 rfl) ?_
    refine rz_if_ge (tgt := 21) hx hb d_M_place_14 (by decide) (fun hc3 => ?_) (fun hc3 => ?_)
    · refine lv_aload_n hx hb d_M_place_21 rfl (lv_at hl 0 rfl) ?_
      refine lv_iload_n hx hb d_M_place_22 rfl (lv_at hl 1 rfl) ?_
      refine rc_calli (va_runV (As := [.int (iz zk)]) (rest := []) ⟨hx, hb, hml, hown, hts⟩ (m_M_find l D cJ cI h cd od fc hd md lo lv tb rw bs mn nu tu F zk o hod ho3 hzkl hzkh) (cwV 1 hts (kb_gi (kb_c kw_644 (kb_c kw_646 (kb_c ks_M_find (kb_c kw_5 (kb_c kw_647 kb_all)))))) rfl rfl rfl (by decide +kernel) ⟨Nat.le_of_ble_eq_true rfl, Nat.le_of_ble_eq_true rfl⟩) ⟨rc_blind, va_recv hK hP (ci := 3) (q0 := 0) rfl rfl, rc_pre hP hD hK hN [0, 1] rfl rfl [0, 1] rfl⟩ rfl rfl hl.1 rfl (lv_room (Nat.le_of_ble_eq_true rfl)) d_M_place_23 ⟨Nat.zero_le _, Nat.zero_le _⟩) hP hD hS [0, 1] rfl (fun _ => rfl) (fun r4 u5 H locs hw5 hP hD hS => ?_)
      have hP : va_P D vC [(h, rM cd od fc hd md lo lv tb rw bs mn nu tu), (fc, k2 cJ 20 5 F)] H := hP
      have hD : va_D A [(h, rM cd od fc hd md lo lv tb rw bs mn nu tu), (fc, k2 cJ 20 5 F)] := hD
      rcases hw5 with ⟨x, hx3, hr0, hc0, rfl⟩ | ⟨hno, rfl⟩
      · refine lv_istore_n (lv' := [(2, .int (iz (x : Int))), (0, .ref h), (1, .int (iz zk))]) hx hb d_M_place_26 rfl hl (by decide) rfl (fun ls hl => ?_)
        refine lv_aload_n hx hb d_M_place_27 rfl (lv_at hl 1 rfl) ?_
        refine lv_iload_n hx hb d_M_place_28 rfl (lv_at hl 0 rfl) ?_
        refine rz_if_ge (tgt := 36) hx hb d_M_place_29 (by decide) (fun _ => ?_) (fun hc => absurd hc (by omega))
        refine rz_iconst hx hb d_M_place_36 ?_
        refine va_put (D := D) (ci := 3) (v := .int (iz 0)) (ty := .int) (C := R_M) (T := T_M) (N := 13) hx hb hts in_M ty_M tk_M nm_M hown hK hP hD hS 0 rfl rfl 0 (by decide) (hts _ kw_530) (fun _ h9 => h9) rfl (by decide +kernel) rfl rfl (Nat.le_of_ble_eq_true rfl) d_M_place_37 (fun H locs hP hD hS => ?_)
        have hP : va_P D vC [(h, rM 0 od fc hd md lo lv tb rw bs mn nu tu), (fc, k2 cJ 20 5 F)] H := hP
        have hD : va_D A [(h, rM 0 od fc hd md lo lv tb rw bs mn nu tu), (fc, k2 cJ 20 5 F)] := hD
        refine lv_aload_n hx hb d_M_place_40 rfl (lv_at hl 1 rfl) ?_
        refine va_get (D := D) (ci := 3) (v := .int (iz 0)) (C := R_M) (T := T_M) (N := 13) hx hb hts in_M hown hK hP 0 rfl rfl 0 (by decide) (hts _ kw_530) (fun _ h9 => h9) rfl d_M_place_41 ?_
        refine rz_if_le (tgt := 51) hx hb d_M_place_44 (by decide) (fun _ => ?_) (fun hc => absurd hc (by decide))
        refine lv_iload_n hx hb d_M_place_51 rfl (lv_at hl 0 rfl) ?_
        exact W.iret hx hb hr (fun t ht hW => ⟨⟨_, 0, rfl, (Or.inr (Or.inl ⟨hH, x, hx3, hr0, hc0, rfl, rfl⟩)), rc_out ht hP⟩, hS.F ht⟩) hS.2.2 d_M_place_52
      · have hcl := cntN_le (F o) 32003
        refine lv_istore_n (lv' := [(2, .int (iz (-1 - (cntN (F o) 32003 : Int)))), (0, .ref h), (1, .int (iz zk))]) hx hb d_M_place_26 rfl hl (by decide) rfl (fun ls hl => ?_)
        refine lv_aload_n hx hb d_M_place_27 rfl (lv_at hl 1 rfl) ?_
        refine lv_iload_n hx hb d_M_place_28 rfl (lv_at hl 0 rfl) ?_
        refine rz_if_ge (tgt := 36) hx hb d_M_place_29 (by decide) (fun hc => absurd hc (by omega)) (fun _ => ?_)
        refine rz_iconst hx hb d_M_place_32 ?_
        refine lv_goto (tgt := 37) hx hb d_M_place_33 (by decide) ?_
        refine va_put (D := D) (ci := 3) (v := .int (iz 2)) (ty := .int) (C := R_M) (T := T_M) (N := 13) hx hb hts in_M ty_M tk_M nm_M hown hK hP hD hS 0 rfl rfl 0 (by decide) (hts _ kw_530) (fun _ h9 => h9) rfl (by decide +kernel) rfl rfl (Nat.le_of_ble_eq_true rfl) d_M_place_37 (fun H locs hP hD hS => ?_)
        have hP : va_P D vC [(h, rM 2 od fc hd md lo lv tb rw bs mn nu tu), (fc, k2 cJ 20 5 F)] H := hP
        have hD : va_D A [(h, rM 2 od fc hd md lo lv tb rw bs mn nu tu), (fc, k2 cJ 20 5 F)] := hD
        refine lv_aload_n hx hb d_M_place_40 rfl (lv_at hl 1 rfl) ?_
        refine va_get (D := D) (ci := 3) (v := .int (iz 2)) (C := R_M) (T := T_M) (N := 13) hx hb hts in_M hown hK hP 0 rfl rfl 0 (by decide) (hts _ kw_530) (fun _ h9 => h9) rfl d_M_place_41 ?_
        refine rz_if_le (tgt := 51) hx hb d_M_place_44 (by decide) (fun hc => absurd hc (by decide)) (fun _ => ?_)
        refine rz_iconst hx hb d_M_place_47 ?_
        refine lv_goto (tgt := 52) hx hb d_M_place_48 (by decide) ?_
        exact W.iret hx hb hr (fun t ht hW => ⟨⟨_, 2, rfl, (Or.inr (Or.inr ⟨hH, by first | exact Or.inl (by assumption) | exact Or.inr hno, rfl, rfl⟩)), rc_out ht hP⟩, hS.F ht⟩) hS.2.2 d_M_place_52
    · refine rz_iconst hx hb d_M_place_17 ?_
      refine lv_goto (tgt := 26) hx hb d_M_place_18 (by decide) ?_
      refine lv_istore_n (lv' := [(2, .int (iz (-1))), (0, .ref h), (1, .int (iz zk))]) hx hb d_M_place_26 rfl hl (by decide) rfl (fun ls hl => ?_)
      refine lv_aload_n hx hb d_M_place_27 rfl (lv_at hl 1 rfl) ?_
      refine lv_iload_n hx hb d_M_place_28 rfl (lv_at hl 0 rfl) ?_
      refine rz_if_ge (tgt := 36) hx hb d_M_place_29 (by decide) (fun hc => absurd hc (by decide)) (fun _ => ?_)
      refine rz_iconst hx hb d_M_place_32 ?_
      refine lv_goto (tgt := 37) hx hb d_M_place_33 (by decide) ?_
      refine va_put (D := D) (ci := 3) (v := .int (iz 2)) (ty := .int) (C := R_M) (T := T_M) (N := 13) hx hb hts in_M ty_M tk_M nm_M hown hK hP hD hS 0 rfl rfl 0 (by decide) (hts _ kw_530) (fun _ h9 => h9) rfl (by decide +kernel) rfl rfl (Nat.le_of_ble_eq_true rfl) d_M_place_37 (fun H locs hP hD hS => ?_)
      have hP : va_P D vC [(h, rM 2 od fc hd md lo lv tb rw bs mn nu tu), (fc, k2 cJ 20 5 F)] H := hP
      have hD : va_D A [(h, rM 2 od fc hd md lo lv tb rw bs mn nu tu), (fc, k2 cJ 20 5 F)] := hD
      refine lv_aload_n hx hb d_M_place_40 rfl (lv_at hl 1 rfl) ?_
      refine va_get (D := D) (ci := 3) (v := .int (iz 2)) (C := R_M) (T := T_M) (N := 13) hx hb hts in_M hown hK hP 0 rfl rfl 0 (by decide) (hts _ kw_530) (fun _ h9 => h9) rfl d_M_place_41 ?_
      refine rz_if_le (tgt := 51) hx hb d_M_place_44 (by decide) (fun hc => absurd hc (by decide)) (fun _ => ?_)
      refine rz_iconst hx hb d_M_place_47 ?_
      refine lv_goto (tgt := 52) hx hb d_M_place_48 (by decide) ?_
      exact W.iret hx hb hr (fun t ht hW => ⟨⟨_, 2, rfl, (Or.inr (Or.inr ⟨hH, by first | exact Or.inl (by assumption) | exact Or.inr hno, rfl, rfl⟩)), rc_out ht hP⟩, hS.F ht⟩) hS.2.2 d_M_place_52
  · refine rz_if_ne (tgt := 13) hx hb d_M_place_4 (by decide) (fun hc => absurd hc (by decide)) (fun _ => ?_)
    refine lv_aload_n hx hb d_M_place_7 rfl (lv_at hl 0 rfl) ?_
    refine rz_iconst hx hb d_M_place_8 ?_
    refine rc_calli (va_runV (As := [.int (iz 1)]) (rest := []) ⟨hx, hb, hml, hown, hts⟩ (m_M_raise l D h cd od fc hd md lo lv tb rw bs mn nu tu 1) (cwV 1 hts (kb_gi (kb_c kw_656 (kb_c kw_658 (kb_c ks_M_raise (kb_c kw_5 (kb_c kw_659 kb_all)))))) rfl rfl rfl (by decide +kernel) ⟨Nat.le_of_ble_eq_true rfl, Nat.le_of_ble_eq_true rfl⟩) ⟨rc_blind, va_recv hK hP (ci := 3) (q0 := 0) rfl rfl, rc_pre hP hD hK hN [0] rfl rfl [] rfl⟩ rfl rfl hl.1 rfl (lv_room (Nat.le_of_ble_eq_true rfl)) d_M_place_9 ⟨Nat.zero_le _, Nat.zero_le _⟩) hP hD hS [0] rfl (fun _ => rfl) (fun r6 u7 H locs hw7 hP hD hS => ?_)
    subst hw7
    have hP : va_P D vC [(h, rM 1 od fc hd md lo lv tb rw bs mn nu tu), (fc, k2 cJ 20 5 F)] H := hP
    have hD : va_D A [(h, rM 1 od fc hd md lo lv tb rw bs mn nu tu), (fc, k2 cJ 20 5 F)] := hD
    exact W.iret hx hb hr (fun t ht hW => ⟨⟨_, 1, rfl, (Or.inl ⟨hH, rfl, rfl⟩), rc_out ht hP⟩, hS.F ht⟩) hS.2.2 d_M_place_12
end WK
