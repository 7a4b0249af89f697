section WK
variable {p : Program} {l : Launch} {e : Env} {R : Room} {s : State} {m : MethodId} {args : Array Value} {below : List Frame} {meth : Method} {c : Code} {H : Heap} {locs : List Loc} {cells slots : Nat} {Q : State → Prop} {D : va_G} {A : Nat → Prop} {H0 : Heap}
theorem lk_toInt (x : ro_K) : (lk x).toInt = (x.val : Int) := by
  have hx := x.isLt
  rw [← nb_k (v := lz (x.val : Int)) rfl (by omega) (by omega) (ro_k_back x)]
  exact lz_toInt (by omega) (by omega)
theorem lk_le0 {x : ro_K} (h : lk x ≤ lk 0) : x = 0 := by
  rw [Int64.le_iff_toInt_le, lk_toInt, lk_toInt] at h
  have h0 : ((0 : ro_K).val : Int) = 0 := rfl
  apply Fin.ext
  show x.val = 0
  omega
/-- the columns of the table -/
def tbC (M : Nat → Nat → ro_K) (P : Nat → ro_K) (n : Nat) : Nat → Nat → Nat → ro_K
  | 0 => M
  | k + 1 => up2 (tbC M P n k) k n (P k)
def tbP (F : Nat → Nat → ro_K) (o : Nat) (P : Nat → ro_K) : Nat → Nat → ro_K
  | 0 => P
  | n + 1 => mkN F o n 1 (kfl (tbP F o P n) 0 17)
def tbN (F : Nat → Nat → ro_K) (o : Nat) (P : Nat → ro_K) (M : Nat → Nat → ro_K) : Nat → Nat → Nat → ro_K
  | 0 => M
  | n + 1 => tbC (tbN F o P M n) (tbP F o P (n + 1)) n 17
/-- a member of the base, as the reference makes it -/
def bsV (M : Nat → Nat → ro_K) (L : Nat → Int) (n k : Nat) : ro_K := if k = n then 1 else if L k = -1 then 0 else -M (L k).toNat n
def bsK (M : Nat → Nat → ro_K) (L : Nat → Int) (n c : Nat) (B : Nat → Nat → ro_K) : Nat → Nat → Nat → ro_K
  | 0 => B
  | k + 1 => up2 (bsK M L n c B k) c k (bsV M L n k)
def svM (M : Nat → Nat → ro_K) (L : Nat → Int) : Nat → Nat → (Nat → Nat → ro_K) → Nat × (Nat → Nat → ro_K)
  | 0, c, B => (c, B)
  | n + 1, c, B => if L n = -1 then svM M L n (c + 1) (bsK M L n c B 13) else svM M L n c B
theorem svM_le (M : Nat → Nat → ro_K) (L : Nat → Int) : ∀ n c B, (svM M L n c B).1 ≤ c + n
  | 0, c, B => Nat.le_refl c
  | n + 1, c, B => by
    show (if L n = -1 then svM M L n (c + 1) (bsK M L n c B 13) else svM M L n c B).1 ≤ _
    by_cases h : L n = -1
    · rw [if_pos h]; have := svM_le M L n (c + 1) (bsK M L n c B 13); omega
    · rw [if_neg h]; have := svM_le M L n c B; omega
set_option maxHeartbeats 4000000 in
set_option maxRecDepth 100000 in
theorem lo_M_bringOut_a {cJ cI : ClassId} {h : Nat} {cd od : Int} {fc hd md lo : Nat} {lv : Int} {tb rw bs : Nat} {mn : Int} {nu tu : Nat} {M : Nat → Nat → ro_K} {r aa : Nat} {zr za zn : Int} (hzr : zr = (r : Int)) (hr7 : r < 17) (hza : za = (aa : Int)) (ha7 : aa < 17) (hx : p.tables.exec = Jvm.exec) (hb : c.code = c_M_bringOut) (hml : c.maxLocals = 10) (hown : s.vm.findClass R_M = some m.cls) (hts : ∀ w ∈ kb, w.before args s = true) (hK : va_K D vC [(cJ, .long), (cI, .int)] s) (hN : rc_N s)  (hend : ∀ (H : Heap) (locs : List Loc) (ls : Array Slot), va_P D vC [(h, rM cd od fc hd md lo lv tb rw bs mn nu tu), (tb, k2 cJ 221 13 (swk M aa r 13))] H → va_D A [(h, rM cd od fc hd md lo lv tb rw bs mn nu tu), (tb, k2 cJ 221 13 (swk M aa r 13))] → va_S A H0 H locs → lv_has ls 10 [(0, .ref h), (1, .int (iz zr)), (3, .int (iz zn))] → W p l e R s m args below meth c H locs 0 0 Q (F0 m 68 ls [])) : ∀ (q k : Nat) (z : Int) (H : Heap) (locs : List Loc) (ls : Array Slot), z = (k : Int) → k + q = 13 → va_P D vC [(h, rM cd od fc hd md lo lv tb rw bs mn nu tu), (tb, k2 cJ 221 13 (swk M aa r k))] H → va_D A [(h, rM cd od fc hd md lo lv tb rw bs mn nu tu), (tb, k2 cJ 221 13 (swk M aa r k))] → va_S A H0 H locs → lv_has ls 10 [(4, .int (iz z)), (0, .ref h), (1, .int (iz zr)), (2, .int (iz za)), (3, .int (iz zn))] → W p l e R s m args below meth c H locs 0 0 Q (F0 m 3 ls []) := by
  intro q
  induction q with
  | zero =>
    intro k z H locs ls hz hk hP hD hS hl
    have e : k = 13 := hk
    subst e
    refine lv_iload hx hb d_M_bringOut_3 (lv_at hl 0 rfl) ?_
    refine rz_bipush hx hb d_M_bringOut_5 (by decide) ?_
    refine rz_icmp_gt (tgt := 68) hx hb d_M_bringOut_7 (by decide) (fun hc1 => ?_) (fun hc1 => ?_)
    · exact hend H locs ls hP hD hS (lv_sub hl [1, 2, 4] rfl)
    · omega
  | succ q ih =>
    intro k z H locs ls hz hk hP hD hS hl
    subst hz
    refine lv_iload hx hb d_M_bringOut_3 (lv_at hl 0 rfl) ?_
    refine rz_bipush hx hb d_M_bringOut_5 (by decide) ?_
    refine rz_icmp_gt (tgt := 68) hx hb d_M_bringOut_7 (by decide) (fun hc2 => ?_) (fun hc2 => ?_)
    · omega
    · refine lv_aload_n hx hb d_M_bringOut_10 rfl (lv_at hl 1 rfl) ?_
      refine va_get (D := D) (ci := 3) (v := .ref tb) (C := R_M) (T := T_M) (N := 13) hx hb hts in_M hown hK hP 0 rfl rfl 7 (by decide) (hts _ kw_537) (fun _ h9 => h9) rfl d_M_bringOut_11 ?_
      refine rz_bipush hx hb d_M_bringOut_14 (by decide) ?_
      refine lv_iload_n hx hb d_M_bringOut_16 rfl (lv_at hl 3 rfl) ?_
      refine rz_imul hx hb d_M_bringOut_17 ?_
      refine lv_iload hx hb d_M_bringOut_18 (lv_at hl 0 rfl) ?_
      refine rz_iadd hx hb d_M_bringOut_20 ?_
      refine rm_ld hx hb hK hP 1 0 rfl rfl aa k d_M_bringOut_21 ?_
      refine lv_lstore (lv' := [(5, .long (lk ((swk M aa r k) aa k))), (4, .int (iz (k : Int))), (0, .ref h), (1, .int (iz zr)), (2, .int (iz za)), (3, .int (iz zn))]) hx hb d_M_bringOut_22 hl (by decide) rfl (fun ls hl => ?_)
      refine lv_aload_n hx hb d_M_bringOut_24 rfl (lv_at hl 2 rfl) ?_
      refine va_get (D := D) (ci := 3) (v := .ref tb) (C := R_M) (T := T_M) (N := 13) hx hb hts in_M hown hK hP 0 rfl rfl 7 (by decide) (hts _ kw_537) (fun _ h9 => h9) rfl d_M_bringOut_25 ?_
      refine rz_bipush hx hb d_M_bringOut_28 (by decide) ?_
      refine lv_iload_n hx hb d_M_bringOut_30 rfl (lv_at hl 4 rfl) ?_
      refine rz_imul hx hb d_M_bringOut_31 ?_
      refine lv_iload hx hb d_M_bringOut_32 (lv_at hl 1 rfl) ?_
      refine rz_iadd hx hb d_M_bringOut_34 ?_
      refine lv_aload_n hx hb d_M_bringOut_35 rfl (lv_at hl 2 rfl) ?_
      refine va_get (D := D) (ci := 3) (v := .ref tb) (C := R_M) (T := T_M) (N := 13) hx hb hts in_M hown hK hP 0 rfl rfl 7 (by decide) (hts _ kw_537) (fun _ h9 => h9) rfl d_M_bringOut_36 ?_
      refine rz_bipush hx hb d_M_bringOut_39 (by decide) ?_
      refine lv_iload_n hx hb d_M_bringOut_41 rfl (lv_at hl 3 rfl) ?_
      refine rz_imul hx hb d_M_bringOut_42 ?_
      refine lv_iload hx hb d_M_bringOut_43 (lv_at hl 1 rfl) ?_
      refine rz_iadd hx hb d_M_bringOut_45 ?_
      refine rm_ld hx hb hK hP 1 0 rfl rfl r k d_M_bringOut_46 ?_
      refine rm_st hx hb hK hP hD hS 1 0 rfl rfl aa k d_M_bringOut_47 (fun H locs hP hD hS => ?_)
      have hP : va_P D vC [(h, rM cd od fc hd md lo lv tb rw bs mn nu tu), (tb, k2 cJ 221 13 (up2 (swk M aa r k) aa k ((swk M aa r k) r k)))] H := hP
      have hD : va_D A [(h, rM cd od fc hd md lo lv tb rw bs mn nu tu), (tb, k2 cJ 221 13 (up2 (swk M aa r k) aa k ((swk M aa r k) r k)))] := hD
      refine lv_aload_n hx hb d_M_bringOut_48 rfl (lv_at hl 2 rfl) ?_
      refine va_get (D := D) (ci := 3) (v := .ref tb) (C := R_M) (T := T_M) (N := 13) hx hb hts in_M hown hK hP 0 rfl rfl 7 (by decide) (hts _ kw_537) (fun _ h9 => h9) rfl d_M_bringOut_49 ?_
      refine rz_bipush hx hb d_M_bringOut_52 (by decide) ?_
      refine lv_iload_n hx hb d_M_bringOut_54 rfl (lv_at hl 3 rfl) ?_
      refine rz_imul hx hb d_M_bringOut_55 ?_
      refine lv_iload hx hb d_M_bringOut_56 (lv_at hl 1 rfl) ?_
      refine rz_iadd hx hb d_M_bringOut_58 ?_
      refine lv_lload hx hb d_M_bringOut_59 (lv_at hl 0 rfl) ?_
      refine rm_st hx hb hK hP hD hS 1 0 rfl rfl r k d_M_bringOut_61 (fun H locs hP hD hS => ?_)
      have hP : va_P D vC [(h, rM cd od fc hd md lo lv tb rw bs mn nu tu), (tb, k2 cJ 221 13 (up2 (up2 (swk M aa r k) aa k ((swk M aa r k) r k)) r k ((swk M aa r k) aa k)))] H := hP
      have hD : va_D A [(h, rM cd od fc hd md lo lv tb rw bs mn nu tu), (tb, k2 cJ 221 13 (up2 (up2 (swk M aa r k) aa k ((swk M aa r k) r k)) r k ((swk M aa r k) aa k)))] := hD
      rw [swk_s] at hP hD
      have hP : va_P D vC [(h, rM cd od fc hd md lo lv tb rw bs mn nu tu), (tb, k2 cJ 221 13 (swk M aa r (k + 1)))] H := hP
      have hD : va_D A [(h, rM cd od fc hd md lo lv tb rw bs mn nu tu), (tb, k2 cJ 221 13 (swk M aa r (k + 1)))] := hD
      refine lv_iinc (v := iz ((k : Int) + 1)) (lv' := [(4, .int (iz ((k : Int) + 1))), (5, .long (lk ((swk M aa r k) aa k))), (0, .ref h), (1, .int (iz zr)), (2, .int (iz za)), (3, .int (iz zn))]) hx hb d_M_bringOut_62 hl (k := 1) rfl (iz_add _ _) (by decide) rfl (fun ls hl => ?_)
      refine lv_goto (tgt := 3) hx hb d_M_bringOut_65 (by decide) ?_
      exact ih (k + 1) _ H locs ls (by omega) (by omega) hP hD hS (lv_sub hl [0, 2, 3, 4, 5] rfl)
set_option maxHeartbeats 4000000 in
set_option maxRecDepth 100000 in
theorem lo_M_bringOut_b {cJ cI : ClassId} {h : Nat} {cd od : Int} {fc hd md lo : Nat} {lv : Int} {tb rw bs : Nat} {mn : Int} {nu tu : Nat} {M : Nat → Nat → ro_K} {r : Nat} {zr zn : Int} {y : ro_K} (hzr : zr = (r : Int)) (hr7 : r < 17) (hx : p.tables.exec = Jvm.exec) (hb : c.code = c_M_bringOut) (hml : c.maxLocals = 10) (hown : s.vm.findClass R_M = some m.cls) (hts : ∀ w ∈ kb, w.before args s = true) (hK : va_K D vC [(cJ, .long), (cI, .int)] s) (hN : rc_N s)  (hend : ∀ (H : Heap) (locs : List Loc) (ls : Array Slot), va_P D vC [(h, rM cd od fc hd md lo lv tb rw bs mn nu tu), (tb, k2 cJ 221 13 (sck M r y 13))] H → va_D A [(h, rM cd od fc hd md lo lv tb rw bs mn nu tu), (tb, k2 cJ 221 13 (sck M r y 13))] → va_S A H0 H locs → lv_has ls 10 [(0, .ref h), (1, .int (iz zr)), (3, .int (iz zn))] → W p l e R s m args below meth c H locs 0 0 Q (F0 m 131 ls [])) : ∀ (q k : Nat) (z : Int) (H : Heap) (locs : List Loc) (ls : Array Slot), z = (k : Int) → k + q = 13 → va_P D vC [(h, rM cd od fc hd md lo lv tb rw bs mn nu tu), (tb, k2 cJ 221 13 (sck M r y k))] H → va_D A [(h, rM cd od fc hd md lo lv tb rw bs mn nu tu), (tb, k2 cJ 221 13 (sck M r y k))] → va_S A H0 H locs → lv_has ls 10 [(6, .int (iz z)), (4, .long (lk y)), (0, .ref h), (1, .int (iz zr)), (3, .int (iz zn))] → W p l e R s m args below meth c H locs 0 0 Q (F0 m 87 ls []) := by
  intro q
  induction q with
  | zero =>
    intro k z H locs ls hz hk hP hD hS hl
    have e : k = 13 := hk
    subst e
    refine lv_iload hx hb d_M_bringOut_87 (lv_at hl 0 rfl) ?_
    refine rz_bipush hx hb d_M_bringOut_89 (by decide) ?_
    refine rz_icmp_gt (tgt := 131) hx hb d_M_bringOut_91 (by decide) (fun hc1 => ?_) (fun hc1 => ?_)
    · exact hend H locs ls hP hD hS (lv_sub hl [2, 3, 4] rfl)
    · omega
  | succ q ih =>
    intro k z H locs ls hz hk hP hD hS hl
    subst hz
    refine lv_iload hx hb d_M_bringOut_87 (lv_at hl 0 rfl) ?_
    refine rz_bipush hx hb d_M_bringOut_89 (by decide) ?_
    refine rz_icmp_gt (tgt := 131) hx hb d_M_bringOut_91 (by decide) (fun hc2 => ?_) (fun hc2 => ?_)
    · omega
    · refine lv_aload_n hx hb d_M_bringOut_94 rfl (lv_at hl 2 rfl) ?_
      refine va_get (D := D) (ci := 3) (v := .ref tb) (C := R_M) (T := T_M) (N := 13) hx hb hts in_M hown hK hP 0 rfl rfl 7 (by decide) (hts _ kw_537) (fun _ h9 => h9) rfl d_M_bringOut_95 ?_
      refine rz_bipush hx hb d_M_bringOut_98 (by decide) ?_
      refine lv_iload_n hx hb d_M_bringOut_100 rfl (lv_at hl 3 rfl) ?_
      refine rz_imul hx hb d_M_bringOut_101 ?_
      refine lv_iload hx hb d_M_bringOut_102 (lv_at hl 0 rfl) ?_
      refine rz_iadd hx hb d_M_bringOut_104 ?_
      refine lv_aload_n hx hb d_M_bringOut_105 rfl (lv_at hl 2 rfl) ?_
      refine va_get (D := D) (ci := 3) (v := .ref tb) (C := R_M) (T := T_M) (N := 13) hx hb hts in_M hown hK hP 0 rfl rfl 7 (by decide) (hts _ kw_537) (fun _ h9 => h9) rfl d_M_bringOut_106 ?_
      refine rz_bipush hx hb d_M_bringOut_109 (by decide) ?_
      refine lv_iload_n hx hb d_M_bringOut_111 rfl (lv_at hl 3 rfl) ?_
      refine rz_imul hx hb d_M_bringOut_112 ?_
      refine lv_iload hx hb d_M_bringOut_113 (lv_at hl 0 rfl) ?_
      refine rz_iadd hx hb d_M_bringOut_115 ?_
      refine rm_ld hx hb hK hP 1 0 rfl rfl r k d_M_bringOut_116 ?_
      refine lv_lload hx hb d_M_bringOut_117 (lv_at hl 1 rfl) ?_
      refine rlp_lmul hx hb 1024128004 (lk_p ((sck M r y k) r k)) (lk_p y) d_M_bringOut_119 (fun v3 hv3 => ?_)
      refine lv_ldc2 (v := 32003) hx hb hown (hts _ kw_589) d_M_bringOut_120 ?_
      refine rlp_lrem hx hb hv3 d_M_bringOut_123 ?_
      refine rm_st hx hb hK hP hD hS 1 0 rfl rfl r k d_M_bringOut_124 (fun H locs hP hD hS => ?_)
      have hP : va_P D vC [(h, rM cd od fc hd md lo lv tb rw bs mn nu tu), (tb, k2 cJ 221 13 (up2 (sck M r y k) r k (((sck M r y k) r k) * y)))] H := hP
      have hD : va_D A [(h, rM cd od fc hd md lo lv tb rw bs mn nu tu), (tb, k2 cJ 221 13 (up2 (sck M r y k) r k (((sck M r y k) r k) * y)))] := hD
      rw [sck_s] at hP hD
      have hP : va_P D vC [(h, rM cd od fc hd md lo lv tb rw bs mn nu tu), (tb, k2 cJ 221 13 (sck M r y (k + 1)))] H := hP
      have hD : va_D A [(h, rM cd od fc hd md lo lv tb rw bs mn nu tu), (tb, k2 cJ 221 13 (sck M r y (k + 1)))] := hD
      refine lv_iinc (v := iz ((k : Int) + 1)) (lv' := [(6, .int (iz ((k : Int) + 1))), (4, .long (lk y)), (0, .ref h), (1, .int (iz zr)), (3, .int (iz zn))]) hx hb d_M_bringOut_125 hl (k := 0) rfl (iz_add _ _) (by decide) rfl (fun ls hl => ?_)
      refine lv_goto (tgt := 87) hx hb d_M_bringOut_128 (by decide) ?_
      exact ih (k + 1) _ H locs ls (by omega) (by omega) hP hD hS (lv_sub hl [0, 1, 2, 3, 4] rfl)
set_option maxHeartbeats 4000000 in
set_option maxRecDepth 100000 in
theorem lo_M_bringOut_k {cJ cI : ClassId} {h : Nat} {cd od : Int} {fc hd md lo : Nat} {lv : Int} {tb rw bs : Nat} {mn : Int} {nu tu : Nat} {M : Nat → Nat → ro_K} {r i : Nat} {zr zi zn : Int} {t : ro_K} (hzr : zr = (r : Int)) (hr7 : r < 17) (hzi : zi = (i : Int)) (hi : i < 17) (hne : i ≠ r) (ht0 : t ≠ 0) (hx : p.tables.exec = Jvm.exec) (hb : c.code = c_M_bringOut) (hml : c.maxLocals = 10) (hown : s.vm.findClass R_M = some m.cls) (hts : ∀ w ∈ kb, w.before args s = true) (hK : va_K D vC [(cJ, .long), (cI, .int)] s) (hN : rc_N s)  (hR : 1 ≤ R.frames ∧ 23 ≤ R.locals) (hend : ∀ (H : Heap) (locs : List Loc) (ls : Array Slot), va_P D vC [(h, rM cd od fc hd md lo lv tb rw bs mn nu tu), (tb, k2 cJ 221 13 (clk M r i t 13))] H → va_D A [(h, rM cd od fc hd md lo lv tb rw bs mn nu tu), (tb, k2 cJ 221 13 (clk M r i t 13))] → va_S A H0 H locs → lv_has ls 10 [(6, .int (iz zi)), (0, .ref h), (1, .int (iz zr)), (3, .int (iz zn))] → W p l e R s m args below meth c H locs 0 0 Q (F0 m 233 ls [])) : ∀ (q k : Nat) (z : Int) (H : Heap) (locs : List Loc) (ls : Array Slot), z = (k : Int) → k + q = 13 → va_P D vC [(h, rM cd od fc hd md lo lv tb rw bs mn nu tu), (tb, k2 cJ 221 13 (clk M r i t k))] H → va_D A [(h, rM cd od fc hd md lo lv tb rw bs mn nu tu), (tb, k2 cJ 221 13 (clk M r i t k))] → va_S A H0 H locs → lv_has ls 10 [(9, .int (iz z)), (7, .long (lk t)), (6, .int (iz zi)), (0, .ref h), (1, .int (iz zr)), (3, .int (iz zn))] → W p l e R s m args below meth c H locs 0 0 Q (F0 m 168 ls []) := by
  intro q
  induction q with
  | zero =>
    intro k z H locs ls hz hk hP hD hS hl
    have e : k = 13 := hk
    subst e
    refine lv_iload hx hb d_M_bringOut_168 (lv_at hl 0 rfl) ?_
    refine rz_bipush hx hb d_M_bringOut_170 (by decide) ?_
    refine rz_icmp_gt (tgt := 233) hx hb d_M_bringOut_172 (by decide) (fun hc1 => ?_) (fun hc1 => ?_)
    · exact hend H locs ls hP hD hS (lv_sub hl [2, 3, 4, 5] rfl)
    · omega
  | succ q ih =>
    intro k z H locs ls hz hk hP hD hS hl
    subst hz
    refine lv_iload hx hb d_M_bringOut_168 (lv_at hl 0 rfl) ?_
    refine rz_bipush hx hb d_M_bringOut_170 (by decide) ?_
    refine rz_icmp_gt (tgt := 233) hx hb d_M_bringOut_172 (by decide) (fun hc2 => ?_) (fun hc2 => ?_)
    · omega
    · refine lv_lload hx hb d_M_bringOut_175 (lv_at hl 1 rfl) ?_
      refine lv_lconst (v := lk 0) hx hb d_M_bringOut_177 rfl ?_
      refine rz_lcmp_le (tgt := 233) hx hb d_M_bringOut_178 d_M_bringOut_179 (by decide) (fun hc => absurd (lk_le0 hc) ht0) (fun _ => ?_)
      refine lv_aload_n hx hb d_M_bringOut_182 rfl (lv_at hl 3 rfl) ?_
      refine va_get (D := D) (ci := 3) (v := .ref tb) (C := R_M) (T := T_M) (N := 13) hx hb hts in_M hown hK hP 0 rfl rfl 7 (by decide) (hts _ kw_537) (fun _ h9 => h9) rfl d_M_bringOut_183 ?_
      refine rz_bipush hx hb d_M_bringOut_186 (by decide) ?_
      refine lv_iload hx hb d_M_bringOut_188 (lv_at hl 2 rfl) ?_
      refine rz_imul hx hb d_M_bringOut_190 ?_
      refine lv_iload hx hb d_M_bringOut_191 (lv_at hl 0 rfl) ?_
      refine rz_iadd hx hb d_M_bringOut_193 ?_
      refine lv_aload_n hx hb d_M_bringOut_194 rfl (lv_at hl 3 rfl) ?_
      refine va_get (D := D) (ci := 3) (v := .ref tb) (C := R_M) (T := T_M) (N := 13) hx hb hts in_M hown hK hP 0 rfl rfl 7 (by decide) (hts _ kw_537) (fun _ h9 => h9) rfl d_M_bringOut_195 ?_
      refine rz_bipush hx hb d_M_bringOut_198 (by decide) ?_
      refine lv_iload hx hb d_M_bringOut_200 (lv_at hl 2 rfl) ?_
      refine rz_imul hx hb d_M_bringOut_202 ?_
      refine lv_iload hx hb d_M_bringOut_203 (lv_at hl 0 rfl) ?_
      refine rz_iadd hx hb d_M_bringOut_205 ?_
      refine rm_ld hx hb hK hP 1 0 rfl rfl i k d_M_bringOut_206 ?_
      refine lv_lload hx hb d_M_bringOut_207 (lv_at hl 1 rfl) ?_
      refine lv_aload_n hx hb d_M_bringOut_209 rfl (lv_at hl 3 rfl) ?_
      refine va_get (D := D) (ci := 3) (v := .ref tb) (C := R_M) (T := T_M) (N := 13) hx hb hts in_M hown hK hP 0 rfl rfl 7 (by decide) (hts _ kw_537) (fun _ h9 => h9) rfl d_M_bringOut_210 ?_
      refine rz_bipush hx hb d_M_bringOut_213 (by decide) ?_
      refine lv_iload_n hx hb d_M_bringOut_215 rfl (lv_at hl 4 rfl) ?_
      refine rz_imul hx hb d_M_bringOut_216 ?_
      refine lv_iload hx hb d_M_bringOut_217 (lv_at hl 0 rfl) ?_
      refine rz_iadd hx hb d_M_bringOut_219 ?_
      refine rm_ld hx hb hK hP 1 0 rfl rfl r k d_M_bringOut_220 ?_
      refine rlp_lmul hx hb 1024128004 (lk_p t) (lk_p ((clk M r i t k) r k)) d_M_bringOut_221 (fun v3 hv3 => ?_)
      refine rlq_lsub hx hb 1024160006 (lq_of (lk_p ((clk M r i t k) i k)) (by decide)) (lq_of hv3 (by decide)) d_M_bringOut_222 (fun v4 hv4 => ?_)
      refine rc_calll (va_runS (As := [.long v4]) (rest := [.int (iz ((13 * zi) + (k : Int))), .ref tb]) ⟨hx, hb, hml, hown, hts⟩ (m_M_modulo l D v4) (cwS 1 hts (kb_gi (kb_c kw_586 (kb_c kw_587 (kb_c kw_5 (kb_c kw_588 kb_all))))) rfl rfl rfl (by decide +kernel) ⟨Nat.le_trans (by decide) hR.1, Nat.le_trans (by decide) hR.2⟩) ⟨rc_blind, rc_pre hP hD hK hN [] rfl rfl [] rfl⟩ rfl rfl hl.1 rfl (lv_room (Nat.le_of_ble_eq_true rfl)) d_M_bringOut_223 ⟨Nat.zero_le _, Nat.zero_le _⟩) hP hD hS [] rfl (fun _ => rfl) (fun r5 u6 H locs hw6 hP hD hS => ?_)
      rw [hv4.2.2] at hw6
      subst hw6
      have hP : va_P D vC [(h, rM cd od fc hd md lo lv tb rw bs mn nu tu), (tb, k2 cJ 221 13 (clk M r i t k))] H := hP
      have hD : va_D A [(h, rM cd od fc hd md lo lv tb rw bs mn nu tu), (tb, k2 cJ 221 13 (clk M r i t k))] := hD
      refine rm_st hx hb hK hP hD hS 1 0 rfl rfl i k d_M_bringOut_226 (fun H locs hP hD hS => ?_)
      have hP : va_P D vC [(h, rM cd od fc hd md lo lv tb rw bs mn nu tu), (tb, k2 cJ 221 13 (up2 (clk M r i t k) i k (((clk M r i t k) i k) - (t * ((clk M r i t k) r k)))))] H := hP
      have hD : va_D A [(h, rM cd od fc hd md lo lv tb rw bs mn nu tu), (tb, k2 cJ 221 13 (up2 (clk M r i t k) i k (((clk M r i t k) i k) - (t * ((clk M r i t k) r k)))))] := hD
      rw [clk_s M hne] at hP hD
      have hP : va_P D vC [(h, rM cd od fc hd md lo lv tb rw bs mn nu tu), (tb, k2 cJ 221 13 (clk M r i t (k + 1)))] H := hP
      have hD : va_D A [(h, rM cd od fc hd md lo lv tb rw bs mn nu tu), (tb, k2 cJ 221 13 (clk M r i t (k + 1)))] := hD
      refine lv_iinc (v := iz ((k : Int) + 1)) (lv' := [(9, .int (iz ((k : Int) + 1))), (7, .long (lk t)), (6, .int (iz zi)), (0, .ref h), (1, .int (iz zr)), (3, .int (iz zn))]) hx hb d_M_bringOut_227 hl (k := 0) rfl (iz_add _ _) (by decide) rfl (fun ls hl => ?_)
      refine lv_goto (tgt := 168) hx hb d_M_bringOut_230 (by decide) ?_
      exact ih (k + 1) _ H locs ls (by omega) (by omega) hP hD hS (lv_sub hl [0, 1, 2, 3, 4, 5] rfl)
set_option maxHeartbeats 4000000 in
set_option maxRecDepth 100000 in
theorem lo_M_bringOut_i {cJ cI : ClassId} {h : Nat} {cd od : Int} {fc hd md lo : Nat} {lv : Int} {tb rw bs : Nat} {mn : Int} {nu tu : Nat} {M : Nat → Nat → ro_K} {r n : Nat} {zr zn : Int} (hzr : zr = (r : Int)) (hr7 : r < 17) (hzn : zn = (n : Int)) (hn : n < 13) (hx : p.tables.exec = Jvm.exec) (hb : c.code = c_M_bringOut) (hml : c.maxLocals = 10) (hown : s.vm.findClass R_M = some m.cls) (hts : ∀ w ∈ kb, w.before args s = true) (hK : va_K D vC [(cJ, .long), (cI, .int)] s) (hN : rc_N s)  (hR : 1 ≤ R.frames ∧ 23 ≤ R.locals) (hend : ∀ (H : Heap) (locs : List Loc) (ls : Array Slot), va_P D vC [(h, rM cd od fc hd md lo lv tb rw bs mn nu tu), (tb, k2 cJ 221 13 (clI M r n 17))] H → va_D A [(h, rM cd od fc hd md lo lv tb rw bs mn nu tu), (tb, k2 cJ 221 13 (clI M r n 17))] → va_S A H0 H locs → W p l e R s m args below meth c H locs 0 0 Q (F0 m 239 ls [])) : ∀ (q k : Nat) (z : Int) (H : Heap) (locs : List Loc) (ls : Array Slot), z = (k : Int) → k + q = 17 → va_P D vC [(h, rM cd od fc hd md lo lv tb rw bs mn nu tu), (tb, k2 cJ 221 13 (clI M r n k))] H → va_D A [(h, rM cd od fc hd md lo lv tb rw bs mn nu tu), (tb, k2 cJ 221 13 (clI M r n k))] → va_S A H0 H locs → lv_has ls 10 [(6, .int (iz z)), (0, .ref h), (1, .int (iz zr)), (3, .int (iz zn))] → W p l e R s m args below meth c H locs 0 0 Q (F0 m 134 ls []) := by
  intro q
  induction q with
  | zero =>
    intro k z H locs ls hz hk hP hD hS hl
    have e : k = 17 := hk
    subst e
    refine lv_iload hx hb d_M_bringOut_134 (lv_at hl 0 rfl) ?_
    refine rz_bipush hx hb d_M_bringOut_136 (by decide) ?_
    refine rz_icmp_ge (tgt := 239) hx hb d_M_bringOut_138 (by decide) (fun hc1 => ?_) (fun hc1 => ?_)
    · exact hend H locs ls hP hD hS
    · omega
  | succ q ih =>
    intro k z H locs ls hz hk hP hD hS hl
    subst hz
    refine lv_iload hx hb d_M_bringOut_134 (lv_at hl 0 rfl) ?_
    refine rz_bipush hx hb d_M_bringOut_136 (by decide) ?_
    refine rz_icmp_ge (tgt := 239) hx hb d_M_bringOut_138 (by decide) (fun hc2 => ?_) (fun hc2 => ?_)
    · omega
    · refine lv_iload hx hb d_M_bringOut_141 (lv_at hl 0 rfl) ?_
      refine lv_iload_n hx hb d_M_bringOut_143 rfl (lv_at hl 2 rfl) ?_
      refine rz_icmp_ne (tgt := 151) hx hb d_M_bringOut_144 (by decide) (fun hc3 => ?_) (fun hc3 => ?_)
      · refine lv_aload_n hx hb d_M_bringOut_151 rfl (lv_at hl 1 rfl) ?_
        refine va_get (D := D) (ci := 3) (v := .ref tb) (C := R_M) (T := T_M) (N := 13) hx hb hts in_M hown hK hP 0 rfl rfl 7 (by decide) (hts _ kw_537) (fun _ h9 => h9) rfl d_M_bringOut_152 ?_
        refine rz_bipush hx hb d_M_bringOut_155 (by decide) ?_
        refine lv_iload hx hb d_M_bringOut_157 (lv_at hl 0 rfl) ?_
        refine rz_imul hx hb d_M_bringOut_159 ?_
        refine lv_iload_n hx hb d_M_bringOut_160 rfl (lv_at hl 3 rfl) ?_
        refine rz_iadd hx hb d_M_bringOut_161 ?_
        refine rm_ld hx hb hK hP 1 0 rfl rfl k n d_M_bringOut_162 ?_
        refine lv_lstore (lv' := [(7, .long (lk ((clI M r n k) k n))), (6, .int (iz (k : Int))), (0, .ref h), (1, .int (iz zr)), (3, .int (iz zn))]) hx hb d_M_bringOut_163 hl (by decide) rfl (fun ls hl => ?_)
        refine rz_iconst hx hb d_M_bringOut_165 ?_
        refine lv_istore (lv' := [(9, .int (iz 0)), (7, .long (lk ((clI M r n k) k n))), (6, .int (iz (k : Int))), (0, .ref h), (1, .int (iz zr)), (3, .int (iz zn))]) hx hb d_M_bringOut_166 hl (by decide) rfl (fun ls hl => ?_)
        rw [clI_row] at hl
        by_cases ht0 : M k n = 0
        · rw [ht0] at hl
          refine lv_iload hx hb d_M_bringOut_168 (lv_at hl 0 rfl) ?_
          refine rz_bipush hx hb d_M_bringOut_170 (by decide) ?_
          refine rz_icmp_gt (tgt := 233) hx hb d_M_bringOut_172 (by decide) (fun hc => absurd hc (by decide)) (fun _ => ?_)
          refine lv_lload hx hb d_M_bringOut_175 (lv_at hl 1 rfl) ?_
          refine lv_lconst (v := lk 0) hx hb d_M_bringOut_177 rfl ?_
          refine rz_lcmp_le (tgt := 233) hx hb d_M_bringOut_178 d_M_bringOut_179 (by decide) (fun _ => ?_) (fun hc => absurd hc (by decide))
          rw [clI_k M (Or.inr ht0)] at hP hD
          have hP : va_P D vC [(h, rM cd od fc hd md lo lv tb rw bs mn nu tu), (tb, k2 cJ 221 13 (clI M r n (k + 1)))] H := hP
          have hD : va_D A [(h, rM cd od fc hd md lo lv tb rw bs mn nu tu), (tb, k2 cJ 221 13 (clI M r n (k + 1)))] := hD
          refine lv_iinc (v := iz ((k : Int) + 1)) (lv' := [(6, .int (iz ((k : Int) + 1))), (9, .int (iz 0)), (7, .long (lk 0)), (0, .ref h), (1, .int (iz zr)), (3, .int (iz zn))]) hx hb d_M_bringOut_233 hl (k := 2) rfl (iz_add _ _) (by decide) rfl (fun ls hl => ?_)
          refine lv_goto (tgt := 134) hx hb d_M_bringOut_236 (by decide) ?_
          exact ih (k + 1) _ H locs ls (by omega) (by omega) hP hD hS (lv_sub hl [0, 3, 4, 5] rfl)
        · refine lo_M_bringOut_k (M := clI M r n k) (r := r) (i := k) (t := M k n) hzr hr7 rfl (by omega) (by omega) ht0 hx hb hml hown hts hK hN hR (fun H locs ls hP hD hS hl => ?_) 13 0 _ H locs ls rfl (by omega) (by rw [clk_0]; exact hP) (by rw [clk_0]; exact hD) hS (lv_sub hl [0, 1, 2, 3, 4, 5] rfl)
          rw [clI_s M (by omega)] at hP hD
          refine lv_iinc (v := iz ((k : Int) + 1)) (lv' := [(6, .int (iz ((k : Int) + 1))), (0, .ref h), (1, .int (iz zr)), (3, .int (iz zn))]) hx hb d_M_bringOut_233 hl (k := 0) rfl (iz_add _ _) (by decide) rfl (fun ls hl => ?_)
          refine lv_goto (tgt := 134) hx hb d_M_bringOut_236 (by decide) ?_
          exact ih (k + 1) _ H locs ls (by omega) (by omega) hP hD hS (lv_sub hl [0, 1, 2, 3] rfl)
      · refine lv_lconst (v := lk 0) hx hb d_M_bringOut_147 rfl ?_
        refine lv_goto (tgt := 163) hx hb d_M_bringOut_148 (by decide) ?_
        refine lv_lstore (lv' := [(7, .long (lk 0)), (6, .int (iz (k : Int))), (0, .ref h), (1, .int (iz zr)), (3, .int (iz zn))]) hx hb d_M_bringOut_163 hl (by decide) rfl (fun ls hl => ?_)
        refine rz_iconst hx hb d_M_bringOut_165 ?_
        refine lv_istore (lv' := [(9, .int (iz 0)), (7, .long (lk 0)), (6, .int (iz (k : Int))), (0, .ref h), (1, .int (iz zr)), (3, .int (iz zn))]) hx hb d_M_bringOut_166 hl (by decide) rfl (fun ls hl => ?_)
        refine lv_iload hx hb d_M_bringOut_168 (lv_at hl 0 rfl) ?_
        refine rz_bipush hx hb d_M_bringOut_170 (by decide) ?_
        refine rz_icmp_gt (tgt := 233) hx hb d_M_bringOut_172 (by decide) (fun hc => absurd hc (by decide)) (fun _ => ?_)
        refine lv_lload hx hb d_M_bringOut_175 (lv_at hl 1 rfl) ?_
        refine lv_lconst (v := lk 0) hx hb d_M_bringOut_177 rfl ?_
        refine rz_lcmp_le (tgt := 233) hx hb d_M_bringOut_178 d_M_bringOut_179 (by decide) (fun _ => ?_) (fun hc => absurd hc (by decide))
        rw [clI_k M (Or.inl (by omega))] at hP hD
        have hP : va_P D vC [(h, rM cd od fc hd md lo lv tb rw bs mn nu tu), (tb, k2 cJ 221 13 (clI M r n (k + 1)))] H := hP
        have hD : va_D A [(h, rM cd od fc hd md lo lv tb rw bs mn nu tu), (tb, k2 cJ 221 13 (clI M r n (k + 1)))] := hD
        refine lv_iinc (v := iz ((k : Int) + 1)) (lv' := [(6, .int (iz ((k : Int) + 1))), (9, .int (iz 0)), (7, .long (lk 0)), (0, .ref h), (1, .int (iz zr)), (3, .int (iz zn))]) hx hb d_M_bringOut_233 hl (k := 2) rfl (iz_add _ _) (by decide) rfl (fun ls hl => ?_)
        refine lv_goto (tgt := 134) hx hb d_M_bringOut_236 (by decide) ?_
        exact ih (k + 1) _ H locs ls (by omega) (by omega) hP hD hS (lv_sub hl [0, 3, 4, 5] rfl)
def ws_M_bringOut : List Cond := .code y_M_bringOut c_M_bringOut 10 none :: kb
set_option maxHeartbeats 4000000 in
set_option maxRecDepth 100000 in
/-- bringOut -/
theorem m_M_bringOut (l : Launch) (D : va_G) (cJ cI : ClassId) (h : Nat) (cd od : Int) (fc hd md lo : Nat) (lv : Int) (tb rw bs : Nat) (mn : Int) (nu tu : Nat) (M : Nat → Nat → ro_K) (zr za zn : Int) (r aa n : Nat) (hzr : zr = (r : Int)) (hr7 : r < 17) (hza : za = (aa : Int)) (ha7 : aa < 17) (hzn : zn = (n : Int)) (hn : n < 13) : Met l y_M_bringOut ws_M_bringOut ({ frames := 1, cells := 0, slots := 0, locals := 26 }) (rc_Pc D vC [(cJ, .long), (cI, .int)] [.ref h, .int (iz zr), .int (iz za), .int (iz zn)] [(h, rM cd od fc hd md lo lv tb rw bs mn nu tu), (tb, k2 cJ 221 13 M)]) (va_Qv (fun (_ : Unit) => True) (fun _ t => va_P D vC [(h, rM cd od fc hd md lo lv tb rw bs mn nu tu), (tb, k2 cJ 221 13 (clI (sck (swk M aa r 13) r (ro_iv ((swk M aa r 13) r n)) 13) r n 17))] t.heap) (rc_A [(h, rM cd od fc hd md lo lv tb rw bs mn nu tu), (tb, k2 cJ 221 13 M)])) 0 0 (rc_A [(h, rM cd od fc hd md lo lv tb rw bs mn nu tu), (tb, k2 cJ 221 13 M)]) := by
  refine Met.ofW (cc := c_M_bringOut) (maxL := 10) (ret := none) (by decide) rfl ?_
  intro p e s m args below meth c s₁ B hml hv
  obtain ⟨rfl, hP, hK, hD0, hN⟩ := hv
  have hx := B.exec
  have hb := B.bytes
  have hr := B.returns
  have hts0 := atoms_spec (ws := ws_M_bringOut) B.pre
  have hts : ∀ w ∈ kb, w.before _ s = true := fun w h => hts0 w (List.mem_cons_of_mem _ h)
  have hown : s.vm.findClass R_M = some m.cls := findClass_of_methodNamed B.named
  have hlocks := B.notSynchronized
  have hD := rc_self hD0
  generalize hAe : rc_A [(h, rM cd od fc hd md lo lv tb rw bs mn nu tu), (tb, k2 cJ 221 13 M)] = A at hD ⊢
  have hS : va_S A s.heap s.heap [] := va_S.rf
  have hl := lv_entry ([.ref h, .int (iz zr), .int (iz za), .int (iz zn)]) (n := 10) (Nat.le_of_ble_eq_true rfl)
  rw [lg_entry_eq]
  generalize (lg_sl ([.ref h, .int (iz zr), .int (iz za), .int (iz zn)]) ++ List.replicate (10 - (lg_sl ([.ref h, .int (iz zr), .int (iz za), .int (iz zn)])).length) Slot.unset).toArray = ls at hl ⊢

  have hl : lv_has ls 10 [(0, .ref h), (1, .int (iz zr)), (2, .int (iz za)), (3, .int (iz zn))] := hl
  refine rz_iconst hx hb d_M_bringOut_0 ?_
  refine lv_istore (lv' := [(4, .int (iz 0)), (0, .ref h), (1, .int (iz zr)), (2, .int (iz za)), (3, .int (iz zn))]) hx hb d_M_bringOut_1 hl (by decide) rfl (fun ls hl => ?_)
  rw [show M = swk M aa r 0 from (swk_0 M aa r).symm] at hP hD
  refine lo_M_bringOut_a (M := M) (r := r) (aa := aa) hzr hr7 hza ha7 hx hb hml hown hts hK hN (fun H locs ls hP hD hS hl => ?_) 13 0 _ _ _ ls rfl (by omega) hP hD hS (lv_sub hl [0, 1, 2, 3, 4] rfl)
  refine lv_aload_n hx hb d_M_bringOut_68 rfl (lv_at hl 0 rfl) ?_
  refine va_get (D := D) (ci := 3) (v := .ref tb) (C := R_M) (T := T_M) (N := 13) hx hb hts in_M hown hK hP 0 rfl rfl 7 (by decide) (hts _ kw_537) (fun _ h9 => h9) rfl d_M_bringOut_69 ?_
  refine rz_bipush hx hb d_M_bringOut_72 (by decide) ?_
  refine lv_iload_n hx hb d_M_bringOut_74 rfl (lv_at hl 1 rfl) ?_
  refine rz_imul hx hb d_M_bringOut_75 ?_
  refine lv_iload_n hx hb d_M_bringOut_76 rfl (lv_at hl 2 rfl) ?_
  refine rz_iadd hx hb d_M_bringOut_77 ?_
  refine rm_ld hx hb hK hP 1 0 rfl rfl r n d_M_bringOut_78 ?_
  refine rc_calll (va_runS (As := [.long (lk ((swk M aa r 13) r n))]) (rest := []) ⟨hx, hb, hml, hown, hts⟩ (m_M_inverse l D ((swk M aa r 13) r n)) (cwS 1 hts (kb_gi (kb_c kw_692 (kb_c kw_693 (kb_c kw_5 (kb_c kw_694 kb_all))))) rfl rfl rfl (by decide +kernel) ⟨Nat.le_of_ble_eq_true rfl, Nat.le_of_ble_eq_true rfl⟩) ⟨rc_blind, rc_pre hP hD hK hN [] rfl rfl [] rfl⟩ rfl rfl hl.1 rfl (lv_room (Nat.le_of_ble_eq_true rfl)) d_M_bringOut_79 ⟨Nat.zero_le _, Nat.zero_le _⟩) hP hD hS [] rfl (fun _ => rfl) (fun r1 u2 H locs hw2 hP hD hS => ?_)
  subst hw2
  have hP : va_P D vC [(h, rM cd od fc hd md lo lv tb rw bs mn nu tu), (tb, k2 cJ 221 13 (swk M aa r 13))] H := hP
  have hD : va_D A [(h, rM cd od fc hd md lo lv tb rw bs mn nu tu), (tb, k2 cJ 221 13 (swk M aa r 13))] := hD
  refine lv_lstore (lv' := [(4, .long (lk (ro_iv ((swk M aa r 13) r n)))), (0, .ref h), (1, .int (iz zr)), (3, .int (iz zn))]) hx hb d_M_bringOut_82 hl (by decide) rfl (fun ls hl => ?_)
  refine rz_iconst hx hb d_M_bringOut_84 ?_
  refine lv_istore (lv' := [(6, .int (iz 0)), (4, .long (lk (ro_iv ((swk M aa r 13) r n)))), (0, .ref h), (1, .int (iz zr)), (3, .int (iz zn))]) hx hb d_M_bringOut_85 hl (by decide) rfl (fun ls hl => ?_)
  rw [show (swk M aa r 13) = sck (swk M aa r 13) r (ro_iv ((swk M aa r 13) r n)) 0 from (sck_0 _ r _).symm] at hP hD
  refine lo_M_bringOut_b (M := (swk M aa r 13)) (r := r) (y := (ro_iv ((swk M aa r 13) r n))) hzr hr7 hx hb hml hown hts hK hN (fun H locs ls hP hD hS hl => ?_) 13 0 _ _ _ ls rfl (by omega) hP hD hS (lv_sub hl [0, 1, 2, 3, 4] rfl)
  refine rz_iconst hx hb d_M_bringOut_131 ?_
  refine lv_istore (lv' := [(6, .int (iz 0)), (0, .ref h), (1, .int (iz zr)), (3, .int (iz zn))]) hx hb d_M_bringOut_132 hl (by decide) rfl (fun ls hl => ?_)
  rw [show (sck (swk M aa r 13) r (ro_iv ((swk M aa r 13) r n)) 13) = clI (sck (swk M aa r 13) r (ro_iv ((swk M aa r 13) r n)) 13) r n 0 from (clI_0 _ r n).symm] at hP hD
  refine lo_M_bringOut_i (M := (sck (swk M aa r 13) r (ro_iv ((swk M aa r 13) r n)) 13)) (r := r) (n := n) hzr hr7 hzn hn hx hb hml hown hts hK hN ⟨Nat.le_of_ble_eq_true rfl, Nat.le_of_ble_eq_true rfl⟩ (fun H locs ls hP hD hS => ?_) 17 0 _ _ _ ls rfl (by omega) hP hD hS (lv_sub hl [0, 1, 2, 3] rfl)
  exact W.vret hx hb hr (fun t ht hW => ⟨⟨(), rfl, trivial, rc_out ht hP⟩, hS.F ht⟩) hS.2.2 d_M_bringOut_239
set_option maxHeartbeats 4000000 in
set_option maxRecDepth 100000 in
theorem lo_M_findAnswers_z {cJ cI : ClassId} {h : Nat} {cd od : Int} {fc hd md lo : Nat} {lv : Int} {tb rw bs : Nat} {mn : Int} {nu tu : Nat} {F M B : Nat → Nat → ro_K} {P : Nat → ro_K} {Lx : Nat → Int} {zn : Int}  (hx : p.tables.exec = Jvm.exec) (hb : c.code = c_M_findAnswers) (hml : c.maxLocals = 4) (hown : s.vm.findClass R_M = some m.cls) (hts : ∀ w ∈ kb, w.before args s = true) (hK : va_K D vC [(cJ, .long), (cI, .int)] s) (hN : rc_N s)  (hend : ∀ (H : Heap) (locs : List Loc) (ls : Array Slot), va_P D vC [(h, rM cd od fc hd md lo lv tb rw bs mn nu tu), (fc, k2 cJ 20 5 F), (md, ka cJ 17 (kfl P 0 17)), (tb, k2 cJ 221 13 M), (rw, ki cI 13 Lx), (bs, k2 cJ 169 13 B)] H → va_D A [(h, rM cd od fc hd md lo lv tb rw bs mn nu tu), (fc, k2 cJ 20 5 F), (md, ka cJ 17 (kfl P 0 17)), (tb, k2 cJ 221 13 M), (rw, ki cI 13 Lx), (bs, k2 cJ 169 13 B)] → va_S A H0 H locs → lv_has ls 4 [(1, .int (iz zn)), (0, .ref h)] → W p l e R s m args below meth c H locs 0 0 Q (F0 m 29 ls [])) : ∀ (q k : Nat) (z : Int) (H : Heap) (locs : List Loc) (ls : Array Slot), z = (k : Int) → k + q = 17 → va_P D vC [(h, rM cd od fc hd md lo lv tb rw bs mn nu tu), (fc, k2 cJ 20 5 F), (md, ka cJ 17 (kfl P 0 k)), (tb, k2 cJ 221 13 M), (rw, ki cI 13 Lx), (bs, k2 cJ 169 13 B)] H → va_D A [(h, rM cd od fc hd md lo lv tb rw bs mn nu tu), (fc, k2 cJ 20 5 F), (md, ka cJ 17 (kfl P 0 k)), (tb, k2 cJ 221 13 M), (rw, ki cI 13 Lx), (bs, k2 cJ 169 13 B)] → va_S A H0 H locs → lv_has ls 4 [(2, .int (iz z)), (1, .int (iz zn)), (0, .ref h)] → W p l e R s m args below meth c H locs 0 0 Q (F0 m 10 ls []) := by
  intro q
  induction q with
  | zero =>
    intro k z H locs ls hz hk hP hD hS hl
    have e : k = 17 := hk
    subst e
    refine lv_iload_n hx hb d_M_findAnswers_10 rfl (lv_at hl 0 rfl) ?_
    refine rz_bipush hx hb d_M_findAnswers_11 (by decide) ?_
    refine rz_icmp_ge (tgt := 29) hx hb d_M_findAnswers_13 (by decide) (fun hc1 => ?_) (fun hc1 => ?_)
    · exact hend H locs ls hP hD hS (lv_sub hl [1, 2] rfl)
    · omega
  | succ q ih =>
    intro k z H locs ls hz hk hP hD hS hl
    subst hz
    refine lv_iload_n hx hb d_M_findAnswers_10 rfl (lv_at hl 0 rfl) ?_
    refine rz_bipush hx hb d_M_findAnswers_11 (by decide) ?_
    refine rz_icmp_ge (tgt := 29) hx hb d_M_findAnswers_13 (by decide) (fun hc2 => ?_) (fun hc2 => ?_)
    · omega
    · refine lv_aload_n hx hb d_M_findAnswers_16 rfl (lv_at hl 2 rfl) ?_
      refine va_get (D := D) (ci := 3) (v := .ref md) (C := R_M) (T := T_M) (N := 13) hx hb hts in_M hown hK hP 0 rfl rfl 4 (by decide) (hts _ kw_534) (fun _ h9 => h9) rfl d_M_findAnswers_17 ?_
      refine lv_iload_n hx hb d_M_findAnswers_20 rfl (lv_at hl 0 rfl) ?_
      refine lv_lconst (v := lk 0) hx hb d_M_findAnswers_21 rfl ?_
      refine rk_st hx hb hK hP hD hS 2 0 rfl rfl k d_M_findAnswers_22 (fun H locs hP hD hS => ?_)
      have hP : va_P D vC [(h, rM cd od fc hd md lo lv tb rw bs mn nu tu), (fc, k2 cJ 20 5 F), (md, ka cJ 17 (va_up (kfl P 0 k) k 0)), (tb, k2 cJ 221 13 M), (rw, ki cI 13 Lx), (bs, k2 cJ 169 13 B)] H := hP
      have hD : va_D A [(h, rM cd od fc hd md lo lv tb rw bs mn nu tu), (fc, k2 cJ 20 5 F), (md, ka cJ 17 (va_up (kfl P 0 k) k 0)), (tb, k2 cJ 221 13 M), (rw, ki cI 13 Lx), (bs, k2 cJ 169 13 B)] := hD
      rw [kfl_s] at hP hD
      have hP : va_P D vC [(h, rM cd od fc hd md lo lv tb rw bs mn nu tu), (fc, k2 cJ 20 5 F), (md, ka cJ 17 (kfl P 0 (k + 1))), (tb, k2 cJ 221 13 M), (rw, ki cI 13 Lx), (bs, k2 cJ 169 13 B)] H := hP
      have hD : va_D A [(h, rM cd od fc hd md lo lv tb rw bs mn nu tu), (fc, k2 cJ 20 5 F), (md, ka cJ 17 (kfl P 0 (k + 1))), (tb, k2 cJ 221 13 M), (rw, ki cI 13 Lx), (bs, k2 cJ 169 13 B)] := hD
      refine lv_iinc (v := iz ((k : Int) + 1)) (lv' := [(2, .int (iz ((k : Int) + 1))), (1, .int (iz zn)), (0, .ref h)]) hx hb d_M_findAnswers_23 hl (k := 0) rfl (iz_add _ _) (by decide) rfl (fun ls hl => ?_)
      refine lv_goto (tgt := 10) hx hb d_M_findAnswers_26 (by decide) ?_
      exact ih (k + 1) _ H locs ls (by omega) (by omega) hP hD hS (lv_sub hl [0, 1, 2] rfl)
set_option maxHeartbeats 4000000 in
set_option maxRecDepth 100000 in
theorem lo_M_findAnswers_c {cJ cI : ClassId} {h : Nat} {cd od : Int} {fc hd md lo : Nat} {lv : Int} {tb rw bs : Nat} {mn : Int} {nu tu : Nat} {F M B : Nat → Nat → ro_K} {P : Nat → ro_K} {Lx : Nat → Int} {zn : Int} {n : Nat} (hzn : zn = (n : Int)) (hn : n < 13) (hx : p.tables.exec = Jvm.exec) (hb : c.code = c_M_findAnswers) (hml : c.maxLocals = 4) (hown : s.vm.findClass R_M = some m.cls) (hts : ∀ w ∈ kb, w.before args s = true) (hK : va_K D vC [(cJ, .long), (cI, .int)] s) (hN : rc_N s)  (hend : ∀ (H : Heap) (locs : List Loc) (ls : Array Slot), va_P D vC [(h, rM cd od fc hd md lo lv tb rw bs mn nu tu), (fc, k2 cJ 20 5 F), (md, ka cJ 17 P), (tb, k2 cJ 221 13 (tbC M P n 17)), (rw, ki cI 13 Lx), (bs, k2 cJ 169 13 B)] H → va_D A [(h, rM cd od fc hd md lo lv tb rw bs mn nu tu), (fc, k2 cJ 20 5 F), (md, ka cJ 17 P), (tb, k2 cJ 221 13 (tbC M P n 17)), (rw, ki cI 13 Lx), (bs, k2 cJ 169 13 B)] → va_S A H0 H locs → lv_has ls 4 [(1, .int (iz zn)), (0, .ref h)] → W p l e R s m args below meth c H locs 0 0 Q (F0 m 66 ls [])) : ∀ (q k : Nat) (z : Int) (H : Heap) (locs : List Loc) (ls : Array Slot), z = (k : Int) → k + q = 17 → va_P D vC [(h, rM cd od fc hd md lo lv tb rw bs mn nu tu), (fc, k2 cJ 20 5 F), (md, ka cJ 17 P), (tb, k2 cJ 221 13 (tbC M P n k)), (rw, ki cI 13 Lx), (bs, k2 cJ 169 13 B)] H → va_D A [(h, rM cd od fc hd md lo lv tb rw bs mn nu tu), (fc, k2 cJ 20 5 F), (md, ka cJ 17 P), (tb, k2 cJ 221 13 (tbC M P n k)), (rw, ki cI 13 Lx), (bs, k2 cJ 169 13 B)] → va_S A H0 H locs → lv_has ls 4 [(2, .int (iz z)), (1, .int (iz zn)), (0, .ref h)] → W p l e R s m args below meth c H locs 0 0 Q (F0 m 37 ls []) := by
  intro q
  induction q with
  | zero =>
    intro k z H locs ls hz hk hP hD hS hl
    have e : k = 17 := hk
    subst e
    refine lv_iload_n hx hb d_M_findAnswers_37 rfl (lv_at hl 0 rfl) ?_
    refine rz_bipush hx hb d_M_findAnswers_38 (by decide) ?_
    refine rz_icmp_ge (tgt := 66) hx hb d_M_findAnswers_40 (by decide) (fun hc1 => ?_) (fun hc1 => ?_)
    · exact hend H locs ls hP hD hS (lv_sub hl [1, 2] rfl)
    · omega
  | succ q ih =>
    intro k z H locs ls hz hk hP hD hS hl
    subst hz
    refine lv_iload_n hx hb d_M_findAnswers_37 rfl (lv_at hl 0 rfl) ?_
    refine rz_bipush hx hb d_M_findAnswers_38 (by decide) ?_
    refine rz_icmp_ge (tgt := 66) hx hb d_M_findAnswers_40 (by decide) (fun hc2 => ?_) (fun hc2 => ?_)
    · omega
    · refine lv_aload_n hx hb d_M_findAnswers_43 rfl (lv_at hl 2 rfl) ?_
      refine va_get (D := D) (ci := 3) (v := .ref tb) (C := R_M) (T := T_M) (N := 13) hx hb hts in_M hown hK hP 0 rfl rfl 7 (by decide) (hts _ kw_537) (fun _ h9 => h9) rfl d_M_findAnswers_44 ?_
      refine rz_bipush hx hb d_M_findAnswers_47 (by decide) ?_
      refine lv_iload_n hx hb d_M_findAnswers_49 rfl (lv_at hl 0 rfl) ?_
      refine rz_imul hx hb d_M_findAnswers_50 ?_
      refine lv_iload_n hx hb d_M_findAnswers_51 rfl (lv_at hl 1 rfl) ?_
      refine rz_iadd hx hb d_M_findAnswers_52 ?_
      refine lv_aload_n hx hb d_M_findAnswers_53 rfl (lv_at hl 2 rfl) ?_
      refine va_get (D := D) (ci := 3) (v := .ref md) (C := R_M) (T := T_M) (N := 13) hx hb hts in_M hown hK hP 0 rfl rfl 4 (by decide) (hts _ kw_534) (fun _ h9 => h9) rfl d_M_findAnswers_54 ?_
      refine lv_iload_n hx hb d_M_findAnswers_57 rfl (lv_at hl 0 rfl) ?_
      refine rk_ld hx hb hK hP 2 0 rfl rfl k d_M_findAnswers_58 ?_
      refine rm_st hx hb hK hP hD hS 3 0 rfl rfl k n d_M_findAnswers_59 (fun H locs hP hD hS => ?_)
      have hP : va_P D vC [(h, rM cd od fc hd md lo lv tb rw bs mn nu tu), (fc, k2 cJ 20 5 F), (md, ka cJ 17 P), (tb, k2 cJ 221 13 (up2 (tbC M P n k) k n (P k))), (rw, ki cI 13 Lx), (bs, k2 cJ 169 13 B)] H := hP
      have hD : va_D A [(h, rM cd od fc hd md lo lv tb rw bs mn nu tu), (fc, k2 cJ 20 5 F), (md, ka cJ 17 P), (tb, k2 cJ 221 13 (up2 (tbC M P n k) k n (P k))), (rw, ki cI 13 Lx), (bs, k2 cJ 169 13 B)] := hD
      refine lv_iinc (v := iz ((k : Int) + 1)) (lv' := [(2, .int (iz ((k : Int) + 1))), (1, .int (iz zn)), (0, .ref h)]) hx hb d_M_findAnswers_60 hl (k := 0) rfl (iz_add _ _) (by decide) rfl (fun ls hl => ?_)
      refine lv_goto (tgt := 37) hx hb d_M_findAnswers_63 (by decide) ?_
      exact ih (k + 1) _ H locs ls (by omega) (by omega) hP hD hS (lv_sub hl [0, 1, 2] rfl)
set_option maxHeartbeats 4000000 in
set_option maxRecDepth 100000 in
theorem lo_M_findAnswers_n {cJ cI : ClassId} {h : Nat} {cd od : Int} {fc hd md lo : Nat} {lv : Int} {tb rw bs : Nat} {mn : Int} {nu tu : Nat} {o : Nat} {F M B : Nat → Nat → ro_K} {P : Nat → ro_K} {Lx : Nat → Int} (hod : od = (o : Int)) (ho3 : o ≤ 3) (hx : p.tables.exec = Jvm.exec) (hb : c.code = c_M_findAnswers) (hml : c.maxLocals = 4) (hown : s.vm.findClass R_M = some m.cls) (hts : ∀ w ∈ kb, w.before args s = true) (hK : va_K D vC [(cJ, .long), (cI, .int)] s) (hN : rc_N s)  (hR : 3 ≤ R.frames ∧ 75 ≤ R.locals) (hend : ∀ (H : Heap) (locs : List Loc) (ls : Array Slot), va_P D vC [(h, rM cd od fc hd md lo lv tb rw bs mn nu tu), (fc, k2 cJ 20 5 F), (md, ka cJ 17 (tbP F o P 13)), (tb, k2 cJ 221 13 (tbN F o P M 13)), (rw, ki cI 13 Lx), (bs, k2 cJ 169 13 B)] H → va_D A [(h, rM cd od fc hd md lo lv tb rw bs mn nu tu), (fc, k2 cJ 20 5 F), (md, ka cJ 17 (tbP F o P 13)), (tb, k2 cJ 221 13 (tbN F o P M 13)), (rw, ki cI 13 Lx), (bs, k2 cJ 169 13 B)] → va_S A H0 H locs → lv_has ls 4 [(0, .ref h)] → W p l e R s m args below meth c H locs 0 0 Q (F0 m 72 ls [])) : ∀ (q k : Nat) (z : Int) (H : Heap) (locs : List Loc) (ls : Array Slot), z = (k : Int) → k + q = 13 → va_P D vC [(h, rM cd od fc hd md lo lv tb rw bs mn nu tu), (fc, k2 cJ 20 5 F), (md, ka cJ 17 (tbP F o P k)), (tb, k2 cJ 221 13 (tbN F o P M k)), (rw, ki cI 13 Lx), (bs, k2 cJ 169 13 B)] H → va_D A [(h, rM cd od fc hd md lo lv tb rw bs mn nu tu), (fc, k2 cJ 20 5 F), (md, ka cJ 17 (tbP F o P k)), (tb, k2 cJ 221 13 (tbN F o P M k)), (rw, ki cI 13 Lx), (bs, k2 cJ 169 13 B)] → va_S A H0 H locs → lv_has ls 4 [(1, .int (iz z)), (0, .ref h)] → W p l e R s m args below meth c H locs 0 0 Q (F0 m 2 ls []) := by
  intro q
  induction q with
  | zero =>
    intro k z H locs ls hz hk hP hD hS hl
    have e : k = 13 := hk
    subst e
    refine lv_iload_n hx hb d_M_findAnswers_2 rfl (lv_at hl 0 rfl) ?_
    refine rz_bipush hx hb d_M_findAnswers_3 (by decide) ?_
    refine rz_icmp_gt (tgt := 72) hx hb d_M_findAnswers_5 (by decide) (fun hc1 => ?_) (fun hc1 => ?_)
    · exact hend H locs ls hP hD hS (lv_sub hl [1] rfl)
    · omega
  | succ q ih =>
    intro k z H locs ls hz hk hP hD hS hl
    subst hz
    refine lv_iload_n hx hb d_M_findAnswers_2 rfl (lv_at hl 0 rfl) ?_
    refine rz_bipush hx hb d_M_findAnswers_3 (by decide) ?_
    refine rz_icmp_gt (tgt := 72) hx hb d_M_findAnswers_5 (by decide) (fun hc2 => ?_) (fun hc2 => ?_)
    · omega
    · refine rz_iconst hx hb d_M_findAnswers_8 ?_
      refine lv_istore_n (lv' := [(2, .int (iz 0)), (1, .int (iz (k : Int))), (0, .ref h)]) hx hb d_M_findAnswers_9 rfl hl (by decide) rfl (fun ls hl => ?_)
      rw [show tbP F o P k = kfl (tbP F o P k) 0 0 from (kfl_0 _ 0).symm] at hP hD
      refine lo_M_findAnswers_z (P := tbP F o P k) hx hb hml hown hts hK hN (fun H locs ls hP hD hS hl => ?_) 17 0 _ H locs ls rfl (by omega) hP hD hS (lv_sub hl [0, 1, 2] rfl)
      refine lv_aload_n hx hb d_M_findAnswers_29 rfl (lv_at hl 1 rfl) ?_
      refine lv_iload_n hx hb d_M_findAnswers_30 rfl (lv_at hl 0 rfl) ?_
      refine lv_lconst (v := lk 1) hx hb d_M_findAnswers_31 rfl ?_
      refine rc_callv (va_runV (As := [.int (iz (k : Int)), .long (lk 1)]) (rest := []) ⟨hx, hb, hml, hown, hts⟩ (m_M_make l D cJ cI h cd od fc hd md lo lv tb rw bs mn nu tu F (kfl (tbP F o P k) 0 17) (k : Int) 1 o hod ho3 k rfl (by omega)) (cwV 2 hts (kb_gi (kb_c kw_627 (kb_c kw_629 (kb_c ks_M_make (kb_c kw_5 (kb_c kw_630 kb_all)))))) rfl rfl rfl (by decide +kernel) ⟨Nat.le_trans (by decide) hR.1, Nat.le_trans (by decide) hR.2⟩) ⟨rc_blind, va_recv hK hP (ci := 3) (q0 := 0) rfl rfl, rc_pre hP hD hK hN [0, 1, 2] rfl rfl [0, 1] rfl⟩ rfl rfl hl.1 rfl (lv_room (Nat.le_of_ble_eq_true rfl)) d_M_findAnswers_32 ⟨Nat.zero_le _, Nat.zero_le _⟩) hP hD hS [0, 1, 2] rfl (fun _ => rfl) (fun u3 H locs hw3 hP hD hS => ?_)
      have hP : va_P D vC [(h, rM cd od fc hd md lo lv tb rw bs mn nu tu), (fc, k2 cJ 20 5 F), (md, ka cJ 17 (mkN F o k 1 (kfl (tbP F o P k) 0 17))), (tb, k2 cJ 221 13 (tbN F o P M k)), (rw, ki cI 13 Lx), (bs, k2 cJ 169 13 B)] H := hP
      have hD : va_D A [(h, rM cd od fc hd md lo lv tb rw bs mn nu tu), (fc, k2 cJ 20 5 F), (md, ka cJ 17 (mkN F o k 1 (kfl (tbP F o P k) 0 17))), (tb, k2 cJ 221 13 (tbN F o P M k)), (rw, ki cI 13 Lx), (bs, k2 cJ 169 13 B)] := hD
      refine rz_iconst hx hb d_M_findAnswers_35 ?_
      refine lv_istore_n (lv' := [(2, .int (iz 0)), (1, .int (iz (k : Int))), (0, .ref h)]) hx hb d_M_findAnswers_36 rfl hl (by decide) rfl (fun ls hl => ?_)
      refine lo_M_findAnswers_c (P := tbP F o P (k + 1)) (M := tbN F o P M k) (n := k) rfl (by omega) hx hb hml hown hts hK hN (fun H locs ls hP hD hS hl => ?_) 17 0 _ H locs ls rfl (by omega) hP hD hS (lv_sub hl [0, 1, 2] rfl)
      refine lv_iinc (v := iz ((k : Int) + 1)) (lv' := [(1, .int (iz ((k : Int) + 1))), (0, .ref h)]) hx hb d_M_findAnswers_66 hl (k := 0) rfl (iz_add _ _) (by decide) rfl (fun ls hl => ?_)
      refine lv_goto (tgt := 2) hx hb d_M_findAnswers_69 (by decide) ?_
      exact ih (k + 1) _ H locs ls (by omega) (by omega) hP hD hS (lv_sub hl [0, 1] rfl)
set_option maxHeartbeats 4000000 in
set_option maxRecDepth 100000 in
theorem lw_M_findAnswers {cJ cI : ClassId} {h : Nat} {cd od : Int} {fc hd md lo : Nat} {lv : Int} {tb rw bs : Nat} {mn : Int} {nu tu : Nat} {F M B : Nat → Nat → ro_K} {P : Nat → ro_K} {Lx : Nat → Int} {zp zu : Int} {p0 R0 : Nat} (hzp : zp = (p0 : Int)) (hp : p0 < 13) (hx : p.tables.exec = Jvm.exec) (hb : c.code = c_M_findAnswers) (hml : c.maxLocals = 4) (hown : s.vm.findClass R_M = some m.cls) (hts : ∀ w ∈ kb, w.before args s = true) (hK : va_K D vC [(cJ, .long), (cI, .int)] s) (hN : rc_N s) (hP : va_P D vC [(h, rM cd od fc hd md lo lv tb rw bs mn nu tu), (fc, k2 cJ 20 5 F), (md, ka cJ 17 P), (tb, k2 cJ 221 13 M), (rw, ki cI 13 Lx), (bs, k2 cJ 169 13 B)] H) (hend : ∀ (ls : Array Slot), lv_has ls 4 [(3, .int (iz (R0 : Int))), (2, .int (iz zp)), (1, .int (iz zu)), (0, .ref h)] → W p l e R s m args below meth c H locs 0 0 Q (F0 m 112 ls [])) : ∀ (k : Nat) (z : Int) (ls : Array Slot), k ≤ 17 → z = 17 - (k : Int) → rwL M p0 k = R0 → lv_has ls 4 [(3, .int (iz z)), (2, .int (iz zp)), (1, .int (iz zu)), (0, .ref h)] → W p l e R s m args below meth c H locs 0 0 Q (F0 m 84 ls []) := by
  intro k
  induction k with
  | zero =>
    intro z ls hk hz hR0 hl
    have e : z = (R0 : Int) := by rw [← hR0, hz]; rfl
    subst e
    refine lv_iload_n hx hb d_M_findAnswers_84 rfl (lv_at hl 0 rfl) ?_
    refine rz_bipush hx hb d_M_findAnswers_85 (by decide) ?_
    refine rz_icmp_ge (tgt := 112) hx hb d_M_findAnswers_87 (by decide) (fun hc1 => ?_) (fun hc1 => ?_)
    · exact hend ls hl
    · exact absurd hz (by omega)
  | succ k ih =>
    intro z ls hk hz hR0 hl
    have hs1 : (if M (16 - k) p0 = 0 then rwL M p0 k else 16 - k) = R0 := hR0
    refine lv_iload_n hx hb d_M_findAnswers_84 rfl (lv_at hl 0 rfl) ?_
    refine rz_bipush hx hb d_M_findAnswers_85 (by decide) ?_
    refine rz_icmp_ge (tgt := 112) hx hb d_M_findAnswers_87 (by decide) (fun hc => absurd hc (by omega)) (fun _ => ?_)
    refine lv_aload_n hx hb d_M_findAnswers_90 rfl (lv_at hl 3 rfl) ?_
    refine va_get (D := D) (ci := 3) (v := .ref tb) (C := R_M) (T := T_M) (N := 13) hx hb hts in_M hown hK hP 0 rfl rfl 7 (by decide) (hts _ kw_537) (fun _ h9 => h9) rfl d_M_findAnswers_91 ?_
    refine rz_bipush hx hb d_M_findAnswers_94 (by decide) ?_
    refine lv_iload_n hx hb d_M_findAnswers_96 rfl (lv_at hl 0 rfl) ?_
    refine rz_imul hx hb d_M_findAnswers_97 ?_
    refine lv_iload_n hx hb d_M_findAnswers_98 rfl (lv_at hl 1 rfl) ?_
    refine rz_iadd hx hb d_M_findAnswers_99 ?_
    refine rm_ld hx hb hK hP 3 0 rfl rfl (16 - k) p0 d_M_findAnswers_100 ?_
    refine lv_lconst (v := lk 0) hx hb d_M_findAnswers_101 rfl ?_
    refine rz_lcmp_ne (tgt := 112) hx hb d_M_findAnswers_102 d_M_findAnswers_103 (by decide) (fun hc2 => ?_) (fun hc2 => ?_)
    · have hc2 : (M (16 - k) p0) ≠ 0 := fun z => hc2 (lk_inj.mpr z)
      rw [if_neg (by assumption)] at hs1
      have e : z = (R0 : Int) := by omega
      subst e
      exact hend ls hl
    · have hc2 : (M (16 - k) p0) = 0 := lk_inj.mp hc2
      refine lv_iinc (v := iz (z + 1)) (lv' := [(3, .int (iz (z + 1))), (2, .int (iz zp)), (1, .int (iz zu)), (0, .ref h)]) hx hb d_M_findAnswers_106 hl (k := 0) rfl (iz_add _ _) (by decide) rfl (fun ls hl => ?_)
      refine lv_goto (tgt := 84) hx hb d_M_findAnswers_109 (by decide) ?_
      rw [if_pos (by assumption)] at hs1
      exact ih _ ls (by omega) (by omega) hs1 (lv_sub hl [0, 1, 2, 3] rfl)
set_option maxHeartbeats 4000000 in
set_option maxRecDepth 100000 in
theorem lr_M_findAnswers {cJ cI : ClassId} {h : Nat} {cd od : Int} {fc hd md lo : Nat} {lv : Int} {tb rw bs : Nat} {mn : Int} {nu tu : Nat} {F B : Nat → Nat → ro_K} {P : Nat → ro_K} {U : (Nat → Nat → ro_K) × (Nat → Int)} (hx : p.tables.exec = Jvm.exec) (hb : c.code = c_M_findAnswers) (hml : c.maxLocals = 4) (hown : s.vm.findClass R_M = some m.cls) (hts : ∀ w ∈ kb, w.before args s = true) (hK : va_K D vC [(cJ, .long), (cI, .int)] s) (hN : rc_N s) (hR : 3 ≤ R.frames ∧ 75 ≤ R.locals) (hend : ∀ (H : Heap) (locs : List Loc) (ls : Array Slot), va_P D vC [(h, rM cd od fc hd md lo lv tb rw bs mn nu tu), (fc, k2 cJ 20 5 F), (md, ka cJ 17 P), (tb, k2 cJ 221 13 U.1), (rw, ki cI 13 U.2), (bs, k2 cJ 169 13 B)] H → va_D A [(h, rM cd od fc hd md lo lv tb rw bs mn nu tu), (fc, k2 cJ 20 5 F), (md, ka cJ 17 P), (tb, k2 cJ 221 13 U.1), (rw, ki cI 13 U.2), (bs, k2 cJ 169 13 B)] → va_S A H0 H locs → lv_has ls 4 [(0, .ref h)] → W p l e R s m args below meth c H locs 0 0 Q (F0 m 154 ls [])) : ∀ (n p0 u : Nat) (M : Nat → Nat → ro_K) (Lx : Nat → Int) (zp zu : Int) (H : Heap) (locs : List Loc) (ls : Array Slot), zp = (p0 : Int) → p0 + n = 13 → zu = (u : Int) → u ≤ p0 → rdL n p0 u M Lx = U → va_P D vC [(h, rM cd od fc hd md lo lv tb rw bs mn nu tu), (fc, k2 cJ 20 5 F), (md, ka cJ 17 P), (tb, k2 cJ 221 13 M), (rw, ki cI 13 Lx), (bs, k2 cJ 169 13 B)] H → va_D A [(h, rM cd od fc hd md lo lv tb rw bs mn nu tu), (fc, k2 cJ 20 5 F), (md, ka cJ 17 P), (tb, k2 cJ 221 13 M), (rw, ki cI 13 Lx), (bs, k2 cJ 169 13 B)] → va_S A H0 H locs → lv_has ls 4 [(2, .int (iz zp)), (1, .int (iz zu)), (0, .ref h)] → W p l e R s m args below meth c H locs 0 0 Q (F0 m 76 ls []) := by
  intro n
  induction n with
  | zero =>
    intro p0 u M Lx zp zu H locs ls hzp hn hzu hu hU hP hD hS hl
    have e1 : M = U.1 := congrArg Prod.fst hU
    have e2 : Lx = U.2 := congrArg Prod.snd hU
    rw [e1, e2] at hP hD
    refine lv_iload_n hx hb d_M_findAnswers_76 rfl (lv_at hl 0 rfl) ?_
    refine rz_bipush hx hb d_M_findAnswers_77 (by decide) ?_
    refine rz_icmp_gt (tgt := 154) hx hb d_M_findAnswers_79 (by decide) (fun hc1 => ?_) (fun hc1 => ?_)
    · exact hend H locs ls hP hD hS (lv_sub hl [2] rfl)
    · omega
  | succ n ih =>
    intro p0 u M Lx zp zu H locs ls hzp hn hzu hu hU hP hD hS hl
    have hU2 : (if rwL M p0 (17 - u) = 17 then rdL n (p0 + 1) u M (va_up Lx p0 (-1)) else rdL n (p0 + 1) (u + 1) (gst M p0 u) (va_up Lx p0 (u : Int))) = U := hU
    obtain ⟨b1, b2, b3⟩ := rwL_le M p0 (17 - u) (by omega)
    refine lv_iload_n hx hb d_M_findAnswers_76 rfl (lv_at hl 0 rfl) ?_
    refine rz_bipush hx hb d_M_findAnswers_77 (by decide) ?_
    refine rz_icmp_gt (tgt := 154) hx hb d_M_findAnswers_79 (by decide) (fun hc2 => ?_) (fun hc2 => ?_)
    · omega
    · refine lv_iload_n hx hb d_M_findAnswers_82 rfl (lv_at hl 1 rfl) ?_
      refine lv_istore_n (lv' := [(3, .int (iz zu)), (2, .int (iz zp)), (1, .int (iz zu)), (0, .ref h)]) hx hb d_M_findAnswers_83 rfl hl (by decide) rfl (fun ls hl => ?_)
      refine lw_M_findAnswers (R0 := rwL M p0 (17 - u)) hzp (by omega) hx hb hml hown hts hK hN hP (fun ls hl => ?_) (17 - u) _ ls (by omega) (by omega) rfl (lv_sub hl [0, 1, 2, 3] rfl)
      by_cases hrw : rwL M p0 (17 - u) = 17
      · rw [if_pos hrw] at hU2
        refine lv_aload_n hx hb d_M_findAnswers_112 rfl (lv_at hl 3 rfl) ?_
        refine va_get (D := D) (ci := 3) (v := .ref rw) (C := R_M) (T := T_M) (N := 13) hx hb hts in_M hown hK hP 0 rfl rfl 8 (by decide) (hts _ kw_538) (fun _ h9 => h9) rfl d_M_findAnswers_113 ?_
        refine lv_iload_n hx hb d_M_findAnswers_116 rfl (lv_at hl 1 rfl) ?_
        refine lv_iload_n hx hb d_M_findAnswers_117 rfl (lv_at hl 0 rfl) ?_
        refine rz_bipush hx hb d_M_findAnswers_118 (by decide) ?_
        refine rz_icmp_ne (tgt := 127) hx hb d_M_findAnswers_120 (by decide) (fun hc => absurd hc (by omega)) (fun _ => ?_)
        refine rz_iconst hx hb d_M_findAnswers_123 ?_
        refine lv_goto (tgt := 128) hx hb d_M_findAnswers_124 (by decide) ?_
        refine rk_ist hx hb hK hP hD hS 4 1 rfl rfl p0 d_M_findAnswers_128 (fun H locs hP hD hS => ?_)
        have hP : va_P D vC [(h, rM cd od fc hd md lo lv tb rw bs mn nu tu), (fc, k2 cJ 20 5 F), (md, ka cJ 17 P), (tb, k2 cJ 221 13 M), (rw, ki cI 13 (va_up Lx p0 (-1))), (bs, k2 cJ 169 13 B)] H := hP
        have hD : va_D A [(h, rM cd od fc hd md lo lv tb rw bs mn nu tu), (fc, k2 cJ 20 5 F), (md, ka cJ 17 P), (tb, k2 cJ 221 13 M), (rw, ki cI 13 (va_up Lx p0 (-1))), (bs, k2 cJ 169 13 B)] := hD
        refine lv_iload_n hx hb d_M_findAnswers_129 rfl (lv_at hl 0 rfl) ?_
        refine rz_bipush hx hb d_M_findAnswers_130 (by decide) ?_
        refine rz_icmp_ne (tgt := 138) hx hb d_M_findAnswers_132 (by decide) (fun hc => absurd hc (by omega)) (fun _ => ?_)
        refine lv_goto (tgt := 148) hx hb d_M_findAnswers_135 (by decide) ?_
        refine lv_iinc (v := iz (zp + 1)) (lv' := [(2, .int (iz (zp + 1))), (3, .int (iz (rwL M p0 (17 - u) : Int))), (1, .int (iz zu)), (0, .ref h)]) hx hb d_M_findAnswers_148 hl (k := 1) rfl (iz_add _ _) (by decide) rfl (fun ls hl => ?_)
        refine lv_goto (tgt := 76) hx hb d_M_findAnswers_151 (by decide) ?_
        exact ih (p0 + 1) u _ _ _ _ H locs ls (by omega) (by omega) hzu (by omega) hU2 hP hD hS (lv_sub hl [0, 2, 3] rfl)
      · rw [if_neg hrw] at hU2
        refine lv_aload_n hx hb d_M_findAnswers_112 rfl (lv_at hl 3 rfl) ?_
        refine va_get (D := D) (ci := 3) (v := .ref rw) (C := R_M) (T := T_M) (N := 13) hx hb hts in_M hown hK hP 0 rfl rfl 8 (by decide) (hts _ kw_538) (fun _ h9 => h9) rfl d_M_findAnswers_113 ?_
        refine lv_iload_n hx hb d_M_findAnswers_116 rfl (lv_at hl 1 rfl) ?_
        refine lv_iload_n hx hb d_M_findAnswers_117 rfl (lv_at hl 0 rfl) ?_
        refine rz_bipush hx hb d_M_findAnswers_118 (by decide) ?_
        refine rz_icmp_ne (tgt := 127) hx hb d_M_findAnswers_120 (by decide) (fun _ => ?_) (fun hc => absurd hc (by omega))
        refine lv_iload_n hx hb d_M_findAnswers_127 rfl (lv_at hl 2 rfl) ?_
        refine rk_ist hx hb hK hP hD hS 4 1 rfl rfl p0 d_M_findAnswers_128 (fun H locs hP hD hS => ?_)
        have hP : va_P D vC [(h, rM cd od fc hd md lo lv tb rw bs mn nu tu), (fc, k2 cJ 20 5 F), (md, ka cJ 17 P), (tb, k2 cJ 221 13 M), (rw, ki cI 13 (va_up Lx p0 zu)), (bs, k2 cJ 169 13 B)] H := hP
        have hD : va_D A [(h, rM cd od fc hd md lo lv tb rw bs mn nu tu), (fc, k2 cJ 20 5 F), (md, ka cJ 17 P), (tb, k2 cJ 221 13 M), (rw, ki cI 13 (va_up Lx p0 zu)), (bs, k2 cJ 169 13 B)] := hD
        refine lv_iload_n hx hb d_M_findAnswers_129 rfl (lv_at hl 0 rfl) ?_
        refine rz_bipush hx hb d_M_findAnswers_130 (by decide) ?_
        refine rz_icmp_ne (tgt := 138) hx hb d_M_findAnswers_132 (by decide) (fun _ => ?_) (fun hc => absurd hc (by omega))
        refine lv_aload_n hx hb d_M_findAnswers_138 rfl (lv_at hl 3 rfl) ?_
        refine lv_iload_n hx hb d_M_findAnswers_139 rfl (lv_at hl 2 rfl) ?_
        refine lv_iload_n hx hb d_M_findAnswers_140 rfl (lv_at hl 0 rfl) ?_
        refine lv_iload_n hx hb d_M_findAnswers_141 rfl (lv_at hl 1 rfl) ?_
        refine rc_callv (va_runV (As := [.int (iz zu), .int (iz (rwL M p0 (17 - u) : Int)), .int (iz zp)]) (rest := []) ⟨hx, hb, hml, hown, hts⟩ (m_M_bringOut l D cJ cI h cd od fc hd md lo lv tb rw bs mn nu tu M zu (rwL M p0 (17 - u) : Int) zp u (rwL M p0 (17 - u)) p0 hzu (by omega) rfl (by omega) hzp (by omega)) (cwV 3 hts (kb_gi (kb_c kw_688 (kb_c kw_690 (kb_c ks_M_bringOut (kb_c kw_5 (kb_c kw_691 kb_all)))))) rfl rfl rfl (by decide +kernel) ⟨Nat.le_trans (by decide) hR.1, Nat.le_trans (by decide) hR.2⟩) ⟨rc_blind, va_recv hK hP (ci := 3) (q0 := 0) rfl rfl, rc_pre hP hD hK hN [0, 3] rfl rfl [0, 1] rfl⟩ rfl rfl hl.1 rfl (lv_room (Nat.le_of_ble_eq_true rfl)) d_M_findAnswers_142 ⟨Nat.zero_le _, Nat.zero_le _⟩) hP hD hS [0, 3] rfl (fun _ => rfl) (fun u3 H locs hw3 hP hD hS => ?_)
        have hP : va_P D vC [(h, rM cd od fc hd md lo lv tb rw bs mn nu tu), (fc, k2 cJ 20 5 F), (md, ka cJ 17 P), (tb, k2 cJ 221 13 (gst M p0 u)), (rw, ki cI 13 (va_up Lx p0 zu)), (bs, k2 cJ 169 13 B)] H := hP
        have hD : va_D A [(h, rM cd od fc hd md lo lv tb rw bs mn nu tu), (fc, k2 cJ 20 5 F), (md, ka cJ 17 P), (tb, k2 cJ 221 13 (gst M p0 u)), (rw, ki cI 13 (va_up Lx p0 zu)), (bs, k2 cJ 169 13 B)] := hD
        refine lv_iinc (v := iz (zu + 1)) (lv' := [(1, .int (iz (zu + 1))), (3, .int (iz (rwL M p0 (17 - u) : Int))), (2, .int (iz zp)), (0, .ref h)]) hx hb d_M_findAnswers_145 hl (k := 2) rfl (iz_add _ _) (by decide) rfl (fun ls hl => ?_)
        refine lv_iinc (v := iz (zp + 1)) (lv' := [(2, .int (iz (zp + 1))), (1, .int (iz (zu + 1))), (3, .int (iz (rwL M p0 (17 - u) : Int))), (0, .ref h)]) hx hb d_M_findAnswers_148 hl (k := 2) rfl (iz_add _ _) (by decide) rfl (fun ls hl => ?_)
        refine lv_goto (tgt := 76) hx hb d_M_findAnswers_151 (by decide) ?_
        subst hzu
        exact ih (p0 + 1) (u + 1) _ _ _ _ H locs ls (by omega) (by omega) (by omega) (by omega) hU2 hP hD hS (lv_sub hl [0, 1, 3] rfl)
set_option maxHeartbeats 4000000 in
set_option maxRecDepth 100000 in
theorem lo_M_findAnswers_k {cJ cI : ClassId} {h : Nat} {cd od : Int} {fc hd md lo : Nat} {lv : Int} {tb rw bs : Nat} {mn : Int} {nu tu : Nat} {F M B : Nat → Nat → ro_K} {P : Nat → ro_K} {Lx : Nat → Int} {zn : Int} {n c0 : Nat} (hzn : zn = (n : Int)) (hn : n < 13) (hmn : mn = (c0 : Int)) (hc0 : c0 < 13) (hL : lok Lx) (hx : p.tables.exec = Jvm.exec) (hb : c.code = c_M_findAnswers) (hml : c.maxLocals = 4) (hown : s.vm.findClass R_M = some m.cls) (hts : ∀ w ∈ kb, w.before args s = true) (hK : va_K D vC [(cJ, .long), (cI, .int)] s) (hN : rc_N s)  (hR : 3 ≤ R.frames ∧ 75 ≤ R.locals) (hend : ∀ (H : Heap) (locs : List Loc) (ls : Array Slot), va_P D vC [(h, rM cd od fc hd md lo lv tb rw bs mn nu tu), (fc, k2 cJ 20 5 F), (md, ka cJ 17 P), (tb, k2 cJ 221 13 M), (rw, ki cI 13 Lx), (bs, k2 cJ 169 13 (bsK M Lx n c0 B 13))] H → va_D A [(h, rM cd od fc hd md lo lv tb rw bs mn nu tu), (fc, k2 cJ 20 5 F), (md, ka cJ 17 P), (tb, k2 cJ 221 13 M), (rw, ki cI 13 Lx), (bs, k2 cJ 169 13 (bsK M Lx n c0 B 13))] → va_S A H0 H locs → lv_has ls 4 [(2, .int (iz zn)), (0, .ref h)] → W p l e R s m args below meth c H locs 0 0 Q (F0 m 250 ls [])) : ∀ (q k : Nat) (z : Int) (H : Heap) (locs : List Loc) (ls : Array Slot), z = (k : Int) → k + q = 13 → va_P D vC [(h, rM cd od fc hd md lo lv tb rw bs mn nu tu), (fc, k2 cJ 20 5 F), (md, ka cJ 17 P), (tb, k2 cJ 221 13 M), (rw, ki cI 13 Lx), (bs, k2 cJ 169 13 (bsK M Lx n c0 B k))] H → va_D A [(h, rM cd od fc hd md lo lv tb rw bs mn nu tu), (fc, k2 cJ 20 5 F), (md, ka cJ 17 P), (tb, k2 cJ 221 13 M), (rw, ki cI 13 Lx), (bs, k2 cJ 169 13 (bsK M Lx n c0 B k))] → va_S A H0 H locs → lv_has ls 4 [(3, .int (iz z)), (2, .int (iz zn)), (0, .ref h)] → W p l e R s m args below meth c H locs 0 0 Q (F0 m 181 ls []) := by
  intro q
  induction q with
  | zero =>
    intro k z H locs ls hz hk hP hD hS hl
    have e : k = 13 := hk
    subst e
    refine lv_iload_n hx hb d_M_findAnswers_181 rfl (lv_at hl 0 rfl) ?_
    refine rz_bipush hx hb d_M_findAnswers_182 (by decide) ?_
    refine rz_icmp_gt (tgt := 250) hx hb d_M_findAnswers_184 (by decide) (fun hc1 => ?_) (fun hc1 => ?_)
    · exact hend H locs ls hP hD hS (lv_sub hl [1, 2] rfl)
    · omega
  | succ q ih =>
    intro k z H locs ls hz hk hP hD hS hl
    subst hz
    have hLk := hL k (by omega)
    have hLb : -1 ≤ Lx k ∧ Lx k < 17 := by rcases hLk with h | ⟨r, h1, h2⟩ <;> omega
    refine lv_iload_n hx hb d_M_findAnswers_181 rfl (lv_at hl 0 rfl) ?_
    refine rz_bipush hx hb d_M_findAnswers_182 (by decide) ?_
    refine rz_icmp_gt (tgt := 250) hx hb d_M_findAnswers_184 (by decide) (fun hc2 => ?_) (fun hc2 => ?_)
    · omega
    · refine lv_aload_n hx hb d_M_findAnswers_187 rfl (lv_at hl 2 rfl) ?_
      refine va_get (D := D) (ci := 3) (v := .ref bs) (C := R_M) (T := T_M) (N := 13) hx hb hts in_M hown hK hP 0 rfl rfl 9 (by decide) (hts _ kw_539) (fun _ h9 => h9) rfl d_M_findAnswers_188 ?_
      refine rz_bipush hx hb d_M_findAnswers_191 (by decide) ?_
      refine lv_aload_n hx hb d_M_findAnswers_193 rfl (lv_at hl 2 rfl) ?_
      refine va_get (D := D) (ci := 3) (v := .int (iz mn)) (C := R_M) (T := T_M) (N := 13) hx hb hts in_M hown hK hP 0 rfl rfl 10 (by decide) (hts _ kw_540) (fun _ h9 => h9) rfl d_M_findAnswers_194 ?_
      refine rz_imul hx hb d_M_findAnswers_197 ?_
      refine lv_iload_n hx hb d_M_findAnswers_198 rfl (lv_at hl 0 rfl) ?_
      refine rz_iadd hx hb d_M_findAnswers_199 ?_
      refine lv_iload_n hx hb d_M_findAnswers_200 rfl (lv_at hl 0 rfl) ?_
      refine lv_iload_n hx hb d_M_findAnswers_201 rfl (lv_at hl 1 rfl) ?_
      refine rz_icmp_ne (tgt := 209) hx hb d_M_findAnswers_202 (by decide) (fun hc3 => ?_) (fun hc3 => ?_)
      · refine lv_aload_n hx hb d_M_findAnswers_209 rfl (lv_at hl 2 rfl) ?_
        refine va_get (D := D) (ci := 3) (v := .ref rw) (C := R_M) (T := T_M) (N := 13) hx hb hts in_M hown hK hP 0 rfl rfl 8 (by decide) (hts _ kw_538) (fun _ h9 => h9) rfl d_M_findAnswers_210 ?_
        refine lv_iload_n hx hb d_M_findAnswers_213 rfl (lv_at hl 0 rfl) ?_
        refine rk_ild hx hb hK hP 4 1 rfl rfl k d_M_findAnswers_214 ?_
        refine rz_iconst hx hb d_M_findAnswers_215 ?_
        refine rz_icmp_ne (tgt := 223) hx hb d_M_findAnswers_216 (by decide) (fun hc4 => ?_) (fun hc4 => ?_)
        · refine lv_aload_n hx hb d_M_findAnswers_223 rfl (lv_at hl 2 rfl) ?_
          refine va_get (D := D) (ci := 3) (v := .ref tb) (C := R_M) (T := T_M) (N := 13) hx hb hts in_M hown hK hP 0 rfl rfl 7 (by decide) (hts _ kw_537) (fun _ h9 => h9) rfl d_M_findAnswers_224 ?_
          refine rz_bipush hx hb d_M_findAnswers_227 (by decide) ?_
          refine lv_aload_n hx hb d_M_findAnswers_229 rfl (lv_at hl 2 rfl) ?_
          refine va_get (D := D) (ci := 3) (v := .ref rw) (C := R_M) (T := T_M) (N := 13) hx hb hts in_M hown hK hP 0 rfl rfl 8 (by decide) (hts _ kw_538) (fun _ h9 => h9) rfl d_M_findAnswers_230 ?_
          refine lv_iload_n hx hb d_M_findAnswers_233 rfl (lv_at hl 0 rfl) ?_
          refine rk_ild hx hb hK hP 4 1 rfl rfl k d_M_findAnswers_234 ?_
          refine rz_imul hx hb d_M_findAnswers_235 ?_
          refine lv_iload_n hx hb d_M_findAnswers_236 rfl (lv_at hl 1 rfl) ?_
          refine rz_iadd hx hb d_M_findAnswers_237 ?_
          refine rm_ld hx hb hK hP 3 0 rfl rfl (Lx k).toNat n d_M_findAnswers_238 ?_
          refine rlq_lneg hx hb (lq_of (lk_p (M (Lx k).toNat n)) (by decide)) d_M_findAnswers_239 (fun v5 hv5 => ?_)
          refine rc_calll (va_runS (As := [.long v5]) (rest := [.int (iz ((13 * mn) + (k : Int))), .ref bs]) ⟨hx, hb, hml, hown, hts⟩ (m_M_modulo l D v5) (cwS 1 hts (kb_gi (kb_c kw_586 (kb_c kw_587 (kb_c kw_5 (kb_c kw_588 kb_all))))) rfl rfl rfl (by decide +kernel) ⟨Nat.le_trans (by decide) hR.1, Nat.le_trans (by decide) hR.2⟩) ⟨rc_blind, rc_pre hP hD hK hN [] rfl rfl [] rfl⟩ rfl rfl hl.1 rfl (lv_room (Nat.le_of_ble_eq_true rfl)) d_M_findAnswers_240 ⟨Nat.zero_le _, Nat.zero_le _⟩) hP hD hS [] rfl (fun _ => rfl) (fun r6 u7 H locs hw7 hP hD hS => ?_)
          rw [hv5.2.2] at hw7
          subst hw7
          have hP : va_P D vC [(h, rM cd od fc hd md lo lv tb rw bs mn nu tu), (fc, k2 cJ 20 5 F), (md, ka cJ 17 P), (tb, k2 cJ 221 13 M), (rw, ki cI 13 Lx), (bs, k2 cJ 169 13 (bsK M Lx n c0 B k))] H := hP
          have hD : va_D A [(h, rM cd od fc hd md lo lv tb rw bs mn nu tu), (fc, k2 cJ 20 5 F), (md, ka cJ 17 P), (tb, k2 cJ 221 13 M), (rw, ki cI 13 Lx), (bs, k2 cJ 169 13 (bsK M Lx n c0 B k))] := hD
          refine rm_st hx hb hK hP hD hS 5 0 rfl rfl c0 k d_M_findAnswers_243 (fun H locs hP hD hS => ?_)
          have hP : va_P D vC [(h, rM cd od fc hd md lo lv tb rw bs mn nu tu), (fc, k2 cJ 20 5 F), (md, ka cJ 17 P), (tb, k2 cJ 221 13 M), (rw, ki cI 13 Lx), (bs, k2 cJ 169 13 (up2 (bsK M Lx n c0 B k) c0 k (-(M (Lx k).toNat n))))] H := hP
          have hD : va_D A [(h, rM cd od fc hd md lo lv tb rw bs mn nu tu), (fc, k2 cJ 20 5 F), (md, ka cJ 17 P), (tb, k2 cJ 221 13 M), (rw, ki cI 13 Lx), (bs, k2 cJ 169 13 (up2 (bsK M Lx n c0 B k) c0 k (-(M (Lx k).toNat n))))] := hD
          rw [show (-(M (Lx k).toNat n)) = bsV M Lx n k from (by unfold bsV; rw [if_neg (by omega), if_neg (by assumption)])] at hP hD
          have hP : va_P D vC [(h, rM cd od fc hd md lo lv tb rw bs mn nu tu), (fc, k2 cJ 20 5 F), (md, ka cJ 17 P), (tb, k2 cJ 221 13 M), (rw, ki cI 13 Lx), (bs, k2 cJ 169 13 (bsK M Lx n c0 B (k + 1)))] H := hP
          have hD : va_D A [(h, rM cd od fc hd md lo lv tb rw bs mn nu tu), (fc, k2 cJ 20 5 F), (md, ka cJ 17 P), (tb, k2 cJ 221 13 M), (rw, ki cI 13 Lx), (bs, k2 cJ 169 13 (bsK M Lx n c0 B (k + 1)))] := hD
          refine lv_iinc (v := iz ((k : Int) + 1)) (lv' := [(3, .int (iz ((k : Int) + 1))), (2, .int (iz zn)), (0, .ref h)]) hx hb d_M_findAnswers_244 hl (k := 0) rfl (iz_add _ _) (by decide) rfl (fun ls hl => ?_)
          refine lv_goto (tgt := 181) hx hb d_M_findAnswers_247 (by decide) ?_
          exact ih (k + 1) _ H locs ls (by omega) (by omega) hP hD hS (lv_sub hl [0, 1, 2] rfl)
        · refine lv_lconst (v := lk 0) hx hb d_M_findAnswers_219 rfl ?_
          refine lv_goto (tgt := 243) hx hb d_M_findAnswers_220 (by decide) ?_
          refine rm_st hx hb hK hP hD hS 5 0 rfl rfl c0 k d_M_findAnswers_243 (fun H locs hP hD hS => ?_)
          have hP : va_P D vC [(h, rM cd od fc hd md lo lv tb rw bs mn nu tu), (fc, k2 cJ 20 5 F), (md, ka cJ 17 P), (tb, k2 cJ 221 13 M), (rw, ki cI 13 Lx), (bs, k2 cJ 169 13 (up2 (bsK M Lx n c0 B k) c0 k 0))] H := hP
          have hD : va_D A [(h, rM cd od fc hd md lo lv tb rw bs mn nu tu), (fc, k2 cJ 20 5 F), (md, ka cJ 17 P), (tb, k2 cJ 221 13 M), (rw, ki cI 13 Lx), (bs, k2 cJ 169 13 (up2 (bsK M Lx n c0 B k) c0 k 0))] := hD
          rw [show (0 : ro_K) = bsV M Lx n k from (by unfold bsV; rw [if_neg (by omega), if_pos (by assumption)])] at hP hD
          have hP : va_P D vC [(h, rM cd od fc hd md lo lv tb rw bs mn nu tu), (fc, k2 cJ 20 5 F), (md, ka cJ 17 P), (tb, k2 cJ 221 13 M), (rw, ki cI 13 Lx), (bs, k2 cJ 169 13 (bsK M Lx n c0 B (k + 1)))] H := hP
          have hD : va_D A [(h, rM cd od fc hd md lo lv tb rw bs mn nu tu), (fc, k2 cJ 20 5 F), (md, ka cJ 17 P), (tb, k2 cJ 221 13 M), (rw, ki cI 13 Lx), (bs, k2 cJ 169 13 (bsK M Lx n c0 B (k + 1)))] := hD
          refine lv_iinc (v := iz ((k : Int) + 1)) (lv' := [(3, .int (iz ((k : Int) + 1))), (2, .int (iz zn)), (0, .ref h)]) hx hb d_M_findAnswers_244 hl (k := 0) rfl (iz_add _ _) (by decide) rfl (fun ls hl => ?_)
          refine lv_goto (tgt := 181) hx hb d_M_findAnswers_247 (by decide) ?_
          exact ih (k + 1) _ H locs ls (by omega) (by omega) hP hD hS (lv_sub hl [0, 1, 2] rfl)
      · refine lv_lconst (v := lk 1) hx hb d_M_findAnswers_205 rfl ?_
        refine lv_goto (tgt := 243) hx hb d_M_findAnswers_206 (by decide) ?_
        refine rm_st hx hb hK hP hD hS 5 0 rfl rfl c0 k d_M_findAnswers_243 (fun H locs hP hD hS => ?_)
        have hP : va_P D vC [(h, rM cd od fc hd md lo lv tb rw bs mn nu tu), (fc, k2 cJ 20 5 F), (md, ka cJ 17 P), (tb, k2 cJ 221 13 M), (rw, ki cI 13 Lx), (bs, k2 cJ 169 13 (up2 (bsK M Lx n c0 B k) c0 k 1))] H := hP
        have hD : va_D A [(h, rM cd od fc hd md lo lv tb rw bs mn nu tu), (fc, k2 cJ 20 5 F), (md, ka cJ 17 P), (tb, k2 cJ 221 13 M), (rw, ki cI 13 Lx), (bs, k2 cJ 169 13 (up2 (bsK M Lx n c0 B k) c0 k 1))] := hD
        rw [show (1 : ro_K) = bsV M Lx n k from (if_pos (by omega)).symm] at hP hD
        have hP : va_P D vC [(h, rM cd od fc hd md lo lv tb rw bs mn nu tu), (fc, k2 cJ 20 5 F), (md, ka cJ 17 P), (tb, k2 cJ 221 13 M), (rw, ki cI 13 Lx), (bs, k2 cJ 169 13 (bsK M Lx n c0 B (k + 1)))] H := hP
        have hD : va_D A [(h, rM cd od fc hd md lo lv tb rw bs mn nu tu), (fc, k2 cJ 20 5 F), (md, ka cJ 17 P), (tb, k2 cJ 221 13 M), (rw, ki cI 13 Lx), (bs, k2 cJ 169 13 (bsK M Lx n c0 B (k + 1)))] := hD
        refine lv_iinc (v := iz ((k : Int) + 1)) (lv' := [(3, .int (iz ((k : Int) + 1))), (2, .int (iz zn)), (0, .ref h)]) hx hb d_M_findAnswers_244 hl (k := 0) rfl (iz_add _ _) (by decide) rfl (fun ls hl => ?_)
        refine lv_goto (tgt := 181) hx hb d_M_findAnswers_247 (by decide) ?_
        exact ih (k + 1) _ H locs ls (by omega) (by omega) hP hD hS (lv_sub hl [0, 1, 2] rfl)
set_option maxHeartbeats 4000000 in
set_option maxRecDepth 100000 in
theorem lb_M_findAnswers {cJ cI : ClassId} {h : Nat} {cd od : Int} {fc hd md lo : Nat} {lv : Int} {tb rw bs : Nat} {nu tu : Nat} {F M : Nat → Nat → ro_K} {P : Nat → ro_K} {Lx : Nat → Int} {U : Nat × (Nat → Nat → ro_K)} (hL : lok Lx) (hx : p.tables.exec = Jvm.exec) (hb : c.code = c_M_findAnswers) (hml : c.maxLocals = 4) (hown : s.vm.findClass R_M = some m.cls) (hts : ∀ w ∈ kb, w.before args s = true) (hK : va_K D vC [(cJ, .long), (cI, .int)] s) (hN : rc_N s) (hR : 3 ≤ R.frames ∧ 75 ≤ R.locals) (hend : ∀ (mn : Int) (H : Heap) (locs : List Loc) (ls : Array Slot), mn = (U.1 : Int) → va_P D vC [(h, rM cd od fc hd md lo lv tb rw bs mn nu tu), (fc, k2 cJ 20 5 F), (md, ka cJ 17 P), (tb, k2 cJ 221 13 M), (rw, ki cI 13 Lx), (bs, k2 cJ 169 13 U.2)] H → va_D A [(h, rM cd od fc hd md lo lv tb rw bs mn nu tu), (fc, k2 cJ 20 5 F), (md, ka cJ 17 P), (tb, k2 cJ 221 13 M), (rw, ki cI 13 Lx), (bs, k2 cJ 169 13 U.2)] → va_S A H0 H locs → W p l e R s m args below meth c H locs 0 0 Q (F0 m 266 ls [])) : ∀ (n c0 : Nat) (B : Nat → Nat → ro_K) (mn z : Int) (H : Heap) (locs : List Loc) (ls : Array Slot), z = (n : Int) - 1 → c0 + n ≤ 13 → mn = (c0 : Int) → svM M Lx n c0 B = U → va_P D vC [(h, rM cd od fc hd md lo lv tb rw bs mn nu tu), (fc, k2 cJ 20 5 F), (md, ka cJ 17 P), (tb, k2 cJ 221 13 M), (rw, ki cI 13 Lx), (bs, k2 cJ 169 13 B)] H → va_D A [(h, rM cd od fc hd md lo lv tb rw bs mn nu tu), (fc, k2 cJ 20 5 F), (md, ka cJ 17 P), (tb, k2 cJ 221 13 M), (rw, ki cI 13 Lx), (bs, k2 cJ 169 13 B)] → va_S A H0 H locs → lv_has ls 4 [(2, .int (iz z)), (0, .ref h)] → W p l e R s m args below meth c H locs 0 0 Q (F0 m 162 ls []) := by
  intro n
  induction n with
  | zero =>
    intro c0 B mn z H locs ls hz hc hmn hU hP hD hS hl
    subst hU
    refine lv_iload_n hx hb d_M_findAnswers_162 rfl (lv_at hl 0 rfl) ?_
    refine rz_if_lt (tgt := 266) hx hb d_M_findAnswers_163 (by decide) (fun hc1 => ?_) (fun hc1 => ?_)
    · exact hend mn H locs ls hmn hP hD hS
    · omega
  | succ n ih =>
    intro c0 B mn z H locs ls hz hc hmn hU hP hD hS hl
    have hU2 : (if Lx n = -1 then svM M Lx n (c0 + 1) (bsK M Lx n c0 B 13) else svM M Lx n c0 B) = U := hU
    have hLn : -1 ≤ Lx n ∧ Lx n < 17 := by rcases hL n (by omega) with h | ⟨r, h1, h2⟩ <;> omega
    refine lv_iload_n hx hb d_M_findAnswers_162 rfl (lv_at hl 0 rfl) ?_
    refine rz_if_lt (tgt := 266) hx hb d_M_findAnswers_163 (by decide) (fun hc2 => ?_) (fun hc2 => ?_)
    · omega
    · refine lv_aload_n hx hb d_M_findAnswers_166 rfl (lv_at hl 1 rfl) ?_
      refine va_get (D := D) (ci := 3) (v := .ref rw) (C := R_M) (T := T_M) (N := 13) hx hb hts in_M hown hK hP 0 rfl rfl 8 (by decide) (hts _ kw_538) (fun _ h9 => h9) rfl d_M_findAnswers_167 ?_
      refine lv_iload_n hx hb d_M_findAnswers_170 rfl (lv_at hl 0 rfl) ?_
      refine rk_ild hx hb hK hP 4 1 rfl rfl n d_M_findAnswers_171 ?_
      refine rz_iconst hx hb d_M_findAnswers_172 ?_
      refine rz_icmp_eq (tgt := 179) hx hb d_M_findAnswers_173 (by decide) (fun hc3 => ?_) (fun hc3 => ?_)
      · refine rz_iconst hx hb d_M_findAnswers_179 ?_
        refine lv_istore_n (lv' := [(3, .int (iz 0)), (2, .int (iz z)), (0, .ref h)]) hx hb d_M_findAnswers_180 rfl hl (by decide) rfl (fun ls hl => ?_)
        refine lo_M_findAnswers_k (M := M) (Lx := Lx) (B := B) (n := n) (c0 := c0) (by omega) (by omega) hmn (by omega) hL hx hb hml hown hts hK hN hR (fun H locs ls hP hD hS hl => ?_) 13 0 _ H locs ls rfl (by omega) hP hD hS (lv_sub hl [0, 1, 2] rfl)
        refine lv_aload_n hx hb d_M_findAnswers_250 rfl (lv_at hl 1 rfl) ?_
        refine lv_dup hx hb d_M_findAnswers_251 rfl ?_
        refine va_get (D := D) (ci := 3) (v := .int (iz mn)) (C := R_M) (T := T_M) (N := 13) hx hb hts in_M hown hK hP 0 rfl rfl 10 (by decide) (hts _ kw_540) (fun _ h9 => h9) rfl d_M_findAnswers_252 ?_
        refine rz_iconst hx hb d_M_findAnswers_255 ?_
        refine rz_iadd hx hb d_M_findAnswers_256 ?_
        refine va_put (D := D) (ci := 3) (v := .int (iz (mn + 1))) (ty := .int) (C := R_M) (T := T_M) (N := 13) hx hb hts in_M ty_M tk_M nm_M hown hK hP hD hS 0 rfl rfl 10 (by decide) (hts _ kw_540) (fun _ h9 => h9) rfl (by decide +kernel) rfl rfl (Nat.le_of_ble_eq_true rfl) d_M_findAnswers_257 (fun H locs hP hD hS => ?_)
        have hP : va_P D vC [(h, rM cd od fc hd md lo lv tb rw bs (mn + 1) nu tu), (fc, k2 cJ 20 5 F), (md, ka cJ 17 P), (tb, k2 cJ 221 13 M), (rw, ki cI 13 Lx), (bs, k2 cJ 169 13 (bsK M Lx n c0 B 13))] H := hP
        have hD : va_D A [(h, rM cd od fc hd md lo lv tb rw bs (mn + 1) nu tu), (fc, k2 cJ 20 5 F), (md, ka cJ 17 P), (tb, k2 cJ 221 13 M), (rw, ki cI 13 Lx), (bs, k2 cJ 169 13 (bsK M Lx n c0 B 13))] := hD
        refine lv_iinc (v := iz (z + (-1))) (lv' := [(2, .int (iz (z + (-1)))), (0, .ref h)]) hx hb d_M_findAnswers_260 hl (k := 0) rfl (iz_add _ _) (by decide) rfl (fun ls hl => ?_)
        refine lv_goto (tgt := 162) hx hb d_M_findAnswers_263 (by decide) ?_
        rw [if_pos (by assumption)] at hU2
        exact ih (c0 + 1) _ _ _ H locs ls (by omega) (by omega) (by omega) hU2 hP hD hS (lv_sub hl [0, 1] rfl)
      · refine lv_goto (tgt := 260) hx hb d_M_findAnswers_176 (by decide) ?_
        refine lv_iinc (v := iz (z + (-1))) (lv' := [(2, .int (iz (z + (-1)))), (0, .ref h)]) hx hb d_M_findAnswers_260 hl (k := 0) rfl (iz_add _ _) (by decide) rfl (fun ls hl => ?_)
        refine lv_goto (tgt := 162) hx hb d_M_findAnswers_263 (by decide) ?_
        rw [if_neg (by assumption)] at hU2
        exact ih c0 _ _ _ H locs ls (by omega) (by omega) hmn hU2 hP hD hS (lv_sub hl [0, 1] rfl)
abbrev faT (F : Nat → Nat → ro_K) (o : Nat) (P : Nat → ro_K) (M : Nat → Nat → ro_K) (L : Nat → Int) : (Nat → Nat → ro_K) × (Nat → Int) := rdL 13 0 0 (tbN F o P M 13) L
abbrev faS (F : Nat → Nat → ro_K) (o : Nat) (P : Nat → ro_K) (M : Nat → Nat → ro_K) (L : Nat → Int) (B : Nat → Nat → ro_K) : Nat × (Nat → Nat → ro_K) := svM (faT F o P M L).1 (faT F o P M L).2 13 0 B
def ws_M_findAnswers : List Cond := .code y_M_findAnswers c_M_findAnswers 4 none :: kb
set_option maxHeartbeats 4000000 in
set_option maxRecDepth 100000 in
/-- findAnswers -/
theorem m_M_findAnswers (l : Launch) (D : va_G) (cJ cI : ClassId) (h : Nat) (cd od : Int) (fc hd md lo : Nat) (lv : Int) (tb rw bs : Nat) (mn : Int) (nu tu : Nat) (F M Bm : Nat → Nat → ro_K) (P : Nat → ro_K) (Lx : Nat → Int) (o : Nat) (hod : od = (o : Int)) (ho3 : o ≤ 3) : Met l y_M_findAnswers ws_M_findAnswers ({ frames := 3, cells := 0, slots := 0, locals := 75 }) (rc_Pc D vC [(cJ, .long), (cI, .int)] [.ref h] [(h, rM cd od fc hd md lo lv tb rw bs mn nu tu), (fc, k2 cJ 20 5 F), (md, ka cJ 17 P), (tb, k2 cJ 221 13 M), (rw, ki cI 13 Lx), (bs, k2 cJ 169 13 Bm)]) (va_Qv (fun (_ : Unit) => True) (fun _ t => va_P D vC [(h, rM cd od fc hd md lo lv tb rw bs ((faS F o P M Lx Bm).1 : Int) nu tu), (fc, k2 cJ 20 5 F), (md, ka cJ 17 (tbP F o P 13)), (tb, k2 cJ 221 13 (faT F o P M Lx).1), (rw, ki cI 13 (faT F o P M Lx).2), (bs, k2 cJ 169 13 (faS F o P M Lx Bm).2)] t.heap) (rc_A [(h, rM cd od fc hd md lo lv tb rw bs mn nu tu), (fc, k2 cJ 20 5 F), (md, ka cJ 17 P), (tb, k2 cJ 221 13 M), (rw, ki cI 13 Lx), (bs, k2 cJ 169 13 Bm)])) 0 0 (rc_A [(h, rM cd od fc hd md lo lv tb rw bs mn nu tu), (fc, k2 cJ 20 5 F), (md, ka cJ 17 P), (tb, k2 cJ 221 13 M), (rw, ki cI 13 Lx), (bs, k2 cJ 169 13 Bm)]) := by
  refine Met.ofW (cc := c_M_findAnswers) (maxL := 4) (ret := none) (by decide) rfl ?_
  intro p e s m args below meth c s₁ B hml hv
  obtain ⟨rfl, hP, hK, hD0, hN⟩ := hv
  have hx := B.exec
  have hb := B.bytes
  have hr := B.returns
  have hts0 := atoms_spec (ws := ws_M_findAnswers) B.pre
  have hts : ∀ w ∈ kb, w.before _ s = true := fun w h => hts0 w (List.mem_cons_of_mem _ h)
  have hown : s.vm.findClass R_M = some m.cls := findClass_of_methodNamed B.named
  have hlocks := B.notSynchronized
  have hD := rc_self hD0
  generalize hAe : rc_A [(h, rM cd od fc hd md lo lv tb rw bs mn nu tu), (fc, k2 cJ 20 5 F), (md, ka cJ 17 P), (tb, k2 cJ 221 13 M), (rw, ki cI 13 Lx), (bs, k2 cJ 169 13 Bm)] = A at hD ⊢
  have hS : va_S A s.heap s.heap [] := va_S.rf
  have hl := lv_entry ([.ref h]) (n := 4) (Nat.le_of_ble_eq_true rfl)
  rw [lg_entry_eq]
  generalize (lg_sl ([.ref h]) ++ List.replicate (4 - (lg_sl ([.ref h])).length) Slot.unset).toArray = ls at hl ⊢

  have hl : lv_has ls 4 [(0, .ref h)] := hl
  have hlok := rdL_lok 13 0 0 (tbN F o P M 13) Lx rfl (Nat.le_refl 0) (fun j hj => absurd hj (Nat.not_lt_zero j))
  refine rz_iconst hx hb d_M_findAnswers_0 ?_
  refine lv_istore_n (lv' := [(1, .int (iz 0)), (0, .ref h)]) hx hb d_M_findAnswers_1 rfl hl (by decide) rfl (fun ls hl => ?_)
  refine lo_M_findAnswers_n (F := F) (P := P) (M := M) (o := o) hod ho3 hx hb hml hown hts hK hN ⟨Nat.le_of_ble_eq_true rfl, Nat.le_of_ble_eq_true rfl⟩ (fun H locs ls hP hD hS hl => ?_) 13 0 _ _ _ ls rfl (by omega) hP hD hS (lv_sub hl [0, 1] rfl)
  refine rz_iconst hx hb d_M_findAnswers_72 ?_
  refine lv_istore_n (lv' := [(1, .int (iz 0)), (0, .ref h)]) hx hb d_M_findAnswers_73 rfl hl (by decide) rfl (fun ls hl => ?_)
  refine rz_iconst hx hb d_M_findAnswers_74 ?_
  refine lv_istore_n (lv' := [(2, .int (iz 0)), (1, .int (iz 0)), (0, .ref h)]) hx hb d_M_findAnswers_75 rfl hl (by decide) rfl (fun ls hl => ?_)
  refine lr_M_findAnswers (U := (faT F o P M Lx)) hx hb hml hown hts hK hN ⟨Nat.le_of_ble_eq_true rfl, Nat.le_of_ble_eq_true rfl⟩ (fun H locs ls hP hD hS hl => ?_) 13 0 0 _ _ _ _ H locs ls rfl rfl rfl (Nat.le_refl 0) rfl hP hD hS (lv_sub hl [0, 1, 2] rfl)
  refine lv_aload_n hx hb d_M_findAnswers_154 rfl (lv_at hl 0 rfl) ?_
  refine rz_iconst hx hb d_M_findAnswers_155 ?_
  refine va_put (D := D) (ci := 3) (v := .int (iz 0)) (ty := .int) (C := R_M) (T := T_M) (N := 13) hx hb hts in_M ty_M tk_M nm_M hown hK hP hD hS 0 rfl rfl 10 (by decide) (hts _ kw_540) (fun _ h9 => h9) rfl (by decide +kernel) rfl rfl (Nat.le_of_ble_eq_true rfl) d_M_findAnswers_156 (fun H locs hP hD hS => ?_)
  have hP : va_P D vC [(h, rM cd od fc hd md lo lv tb rw bs 0 nu tu), (fc, k2 cJ 20 5 F), (md, ka cJ 17 (tbP F o P 13)), (tb, k2 cJ 221 13 (faT F o P M Lx).1), (rw, ki cI 13 (faT F o P M Lx).2), (bs, k2 cJ 169 13 Bm)] H := hP
  have hD : va_D A [(h, rM cd od fc hd md lo lv tb rw bs 0 nu tu), (fc, k2 cJ 20 5 F), (md, ka cJ 17 (tbP F o P 13)), (tb, k2 cJ 221 13 (faT F o P M Lx).1), (rw, ki cI 13 (faT F o P M Lx).2), (bs, k2 cJ 169 13 Bm)] := hD
  refine rz_bipush hx hb d_M_findAnswers_159 (by decide) ?_
  refine lv_istore_n (lv' := [(2, .int (iz 12)), (0, .ref h)]) hx hb d_M_findAnswers_161 rfl hl (by decide) rfl (fun ls hl => ?_)
  refine lb_M_findAnswers (U := (faS F o P M Lx Bm)) hlok hx hb hml hown hts hK hN ⟨Nat.le_of_ble_eq_true rfl, Nat.le_of_ble_eq_true rfl⟩ (fun mn H locs ls hmn hP hD hS => ?_) 13 0 Bm _ _ H locs ls rfl (by omega) rfl rfl hP hD hS (lv_sub hl [0, 1] rfl)
  subst hmn
  exact W.vret hx hb hr (fun t ht hW => ⟨⟨(), rfl, trivial, rc_out ht hP⟩, hS.F ht⟩) hS.2.2 d_M_findAnswers_266
def ws_M_answers : List Cond := .code y_M_answers c_M_answers 1 (some .int) :: kb
set_option maxHeartbeats 4000000 in
set_option maxRecDepth 100000 in
/-- answers -/
theorem m_M_answers (l : Launch) (D : va_G) (cJ cI : ClassId) (h : Nat) (cd od : Int) (fc hd md lo : Nat) (lv : Int) (tb rw bs : Nat) (mn : Int) (nu tu : Nat) (F M Bm : Nat → Nat → ro_K) (P : Nat → ro_K) (Lx : Nat → Int) (o : Nat) (hod : od = (o : Int)) (ho3 : o ≤ 3) : Met l y_M_answers ws_M_answers ({ frames := 4, cells := 0, slots := 0, locals := 98 }) (rc_Pc D vC [(cJ, .long), (cI, .int)] [.ref h] [(h, rM cd od fc hd md lo lv tb rw bs mn nu tu), (fc, k2 cJ 20 5 F), (md, ka cJ 17 P), (tb, k2 cJ 221 13 M), (rw, ki cI 13 Lx), (bs, k2 cJ 169 13 Bm)]) (va_Qi (fun (q : Int32) (_ : Unit) => q = iz ((faS F o P M Lx Bm).1 : Int)) (fun _ t => va_P D vC [(h, rM 0 od fc hd md lo lv tb rw bs ((faS F o P M Lx Bm).1 : Int) nu tu), (fc, k2 cJ 20 5 F), (md, ka cJ 17 (tbP F o P 13)), (tb, k2 cJ 221 13 (faT F o P M Lx).1), (rw, ki cI 13 (faT F o P M Lx).2), (bs, k2 cJ 169 13 (faS F o P M Lx Bm).2)] t.heap) (rc_A [(h, rM cd od fc hd md lo lv tb rw bs mn nu tu), (fc, k2 cJ 20 5 F), (md, ka cJ 17 P), (tb, k2 cJ 221 13 M), (rw, ki cI 13 Lx), (bs, k2 cJ 169 13 Bm)])) 0 0 (rc_A [(h, rM cd od fc hd md lo lv tb rw bs mn nu tu), (fc, k2 cJ 20 5 F), (md, ka cJ 17 P), (tb, k2 cJ 221 13 M), (rw, ki cI 13 Lx), (bs, k2 cJ 169 13 Bm)]) := by
  refine Met.ofW (cc := c_M_answers) (maxL := 1) (ret := (some .int)) (by decide) rfl ?_
  intro p e s m args below meth c s₁ B hml hv
  obtain ⟨rfl, hP, hK, hD0, hN⟩ := hv
  have hx := B.exec
  have hb := B.bytes
  have hr := B.returns
  have hts0 := atoms_spec (ws := ws_M_answers) B.pre
  have hts : ∀ w ∈ kb, w.before _ s = true := fun w h => hts0 w (List.mem_cons_of_mem _ h)
  have hown : s.vm.findClass R_M = some m.cls := findClass_of_methodNamed B.named
  have hlocks := B.notSynchronized
  have hD := rc_self hD0
  generalize hAe : rc_A [(h, rM cd od fc hd md lo lv tb rw bs mn nu tu), (fc, k2 cJ 20 5 F), (md, ka cJ 17 P), (tb, k2 cJ 221 13 M), (rw, ki cI 13 Lx), (bs, k2 cJ 169 13 Bm)] = A at hD ⊢
  have hS : va_S A s.heap s.heap [] := va_S.rf
  have hl := lv_entry ([.ref h]) (n := 1) (Nat.le_of_ble_eq_true rfl)
  rw [lg_entry_eq]
  generalize (lg_sl ([.ref h]) ++ List.replicate (1 - (lg_sl ([.ref h])).length) Slot.unset).toArray = ls at hl ⊢

  have hl : lv_has ls 1 [(0, .ref h)] := hl
  refine lv_aload_n hx hb d_M_answers_0 rfl (lv_at hl 0 rfl) ?_
  refine rz_iconst hx hb d_M_answers_1 ?_
  refine va_put (D := D) (ci := 3) (v := .int (iz 0)) (ty := .int) (C := R_M) (T := T_M) (N := 13) hx hb hts in_M ty_M tk_M nm_M hown hK hP hD hS 0 rfl rfl 0 (by decide) (hts _ kw_530) (fun _ h9 => h9) rfl (by decide +kernel) rfl rfl (Nat.le_of_ble_eq_true rfl) d_M_answers_2 (fun H locs hP hD hS => ?_)
  have hP : va_P D vC [(h, rM 0 od fc hd md lo lv tb rw bs mn nu tu), (fc, k2 cJ 20 5 F), (md, ka cJ 17 P), (tb, k2 cJ 221 13 M), (rw, ki cI 13 Lx), (bs, k2 cJ 169 13 Bm)] H := hP
  have hD : va_D A [(h, rM 0 od fc hd md lo lv tb rw bs mn nu tu), (fc, k2 cJ 20 5 F), (md, ka cJ 17 P), (tb, k2 cJ 221 13 M), (rw, ki cI 13 Lx), (bs, k2 cJ 169 13 Bm)] := hD
  refine lv_aload_n hx hb d_M_answers_5 rfl (lv_at hl 0 rfl) ?_
  refine rc_callv (va_runV (As := []) (rest := []) ⟨hx, hb, hml, hown, hts⟩ (m_M_findAnswers l D cJ cI h 0 od fc hd md lo lv tb rw bs mn nu tu F M Bm P Lx o hod ho3) (cwV 0 hts (kb_gi (kb_c kw_684 (kb_c kw_686 (kb_c ks_M_findAnswers (kb_c kw_5 (kb_c kw_687 kb_all)))))) rfl rfl rfl (by decide +kernel) ⟨Nat.le_of_ble_eq_true rfl, Nat.le_of_ble_eq_true rfl⟩) ⟨rc_blind, va_recv hK hP (ci := 3) (q0 := 0) rfl rfl, rc_pre hP hD hK hN [0, 1, 2, 3, 4, 5] rfl rfl [0, 1] rfl⟩ rfl rfl hl.1 rfl (lv_room (Nat.le_of_ble_eq_true rfl)) d_M_answers_6 ⟨Nat.zero_le _, Nat.zero_le _⟩) hP hD hS [0, 1, 2, 3, 4, 5] rfl (fun _ => rfl) (fun u1 H locs hw1 hP hD hS => ?_)
  have hP : va_P D vC [(h, rM 0 od fc hd md lo lv tb rw bs ((faS F o P M Lx Bm).1 : Int) nu tu), (fc, k2 cJ 20 5 F), (md, ka cJ 17 (tbP F o P 13)), (tb, k2 cJ 221 13 (faT F o P M Lx).1), (rw, ki cI 13 (faT F o P M Lx).2), (bs, k2 cJ 169 13 (faS F o P M Lx Bm).2)] H := hP
  have hD : va_D A [(h, rM 0 od fc hd md lo lv tb rw bs ((faS F o P M Lx Bm).1 : Int) nu tu), (fc, k2 cJ 20 5 F), (md, ka cJ 17 (tbP F o P 13)), (tb, k2 cJ 221 13 (faT F o P M Lx).1), (rw, ki cI 13 (faT F o P M Lx).2), (bs, k2 cJ 169 13 (faS F o P M Lx Bm).2)] := hD
  refine lv_aload_n hx hb d_M_answers_9 rfl (lv_at hl 0 rfl) ?_
  refine va_get (D := D) (ci := 3) (v := .int (iz ((faS F o P M Lx Bm).1 : Int))) (C := R_M) (T := T_M) (N := 13) hx hb hts in_M hown hK hP 0 rfl rfl 10 (by decide) (hts _ kw_540) (fun _ h9 => h9) rfl d_M_answers_10 ?_
  exact W.iret hx hb hr (fun t ht hW => ⟨⟨_, (), rfl, rfl, rc_out ht hP⟩, hS.F ht⟩) hS.2.2 d_M_answers_13
def ws_M_isMember : List Cond := .code y_M_isMember c_M_isMember 3 (some .boolean) :: kb
set_option maxHeartbeats 4000000 in
set_option maxRecDepth 100000 in
/-- isMember -/
theorem m_M_isMember (l : Launch) (D : va_G) (cJ cI : ClassId) (h : Nat) (cd od : Int) (fc hd md lo : Nat) (lv : Int) (tb rw bs : Nat) (mn : Int) (nu tu : Nat) (F M Bm : Nat → Nat → ro_K) (P : Nat → ro_K) (Lx : Nat → Int) (zk zp : Int) (o : Nat) (hod : od = (o : Int)) (ho3 : o ≤ 3) (hzkl : -2147483648 ≤ zk) (hzkh : zk < 2147483648) (hzpl : -2147483648 ≤ zp) (hzph : zp < 2147483648) : Met l y_M_isMember ws_M_isMember ({ frames := 4, cells := 0, slots := 0, locals := 98 }) (rc_Pc D vC [(cJ, .long), (cI, .int)] [.ref h, .int (iz zk), .int (iz zp)] [(h, rM cd od fc hd md lo lv tb rw bs mn nu tu), (fc, k2 cJ 20 5 F), (md, ka cJ 17 P), (tb, k2 cJ 221 13 M), (rw, ki cI 13 Lx), (bs, k2 cJ 169 13 Bm)]) (va_Qi (fun (q : Int32) (u : Int) => (u = 0 ∧ ((0 ≤ zk ∧ zk ≤ ((faS F o P M Lx Bm).1 : Int) - 1) ∧ 0 ≤ zp ∧ zp ≤ 12) ∧ q = iz 1) ∨ (u = 1 ∧ ¬ ((0 ≤ zk ∧ zk ≤ ((faS F o P M Lx Bm).1 : Int) - 1) ∧ 0 ≤ zp ∧ zp ≤ 12) ∧ q = iz 0)) (fun u t => va_P D vC [(h, rM u od fc hd md lo lv tb rw bs ((faS F o P M Lx Bm).1 : Int) nu tu), (fc, k2 cJ 20 5 F), (md, ka cJ 17 (tbP F o P 13)), (tb, k2 cJ 221 13 (faT F o P M Lx).1), (rw, ki cI 13 (faT F o P M Lx).2), (bs, k2 cJ 169 13 (faS F o P M Lx Bm).2)] t.heap) (rc_A [(h, rM cd od fc hd md lo lv tb rw bs mn nu tu), (fc, k2 cJ 20 5 F), (md, ka cJ 17 P), (tb, k2 cJ 221 13 M), (rw, ki cI 13 Lx), (bs, k2 cJ 169 13 Bm)])) 0 0 (rc_A [(h, rM cd od fc hd md lo lv tb rw bs mn nu tu), (fc, k2 cJ 20 5 F), (md, ka cJ 17 P), (tb, k2 cJ 221 13 M), (rw, ki cI 13 Lx), (bs, k2 cJ 169 13 Bm)]) := by
  refine Met.ofW (cc := c_M_isMember) (maxL := 3) (ret := (some .boolean)) (by decide) rfl ?_
  intro p e s m args below meth c s₁ B hml hv
  obtain ⟨rfl, hP, hK, hD0, hN⟩ := hv
  have hx := B.exec
  have hb := B.bytes
  have hr := B.returns
  have hts0 := atoms_spec (ws := ws_M_isMember) B.pre
  have hts : ∀ w ∈ kb, w.before _ s = true := fun w h => hts0 w (List.mem_cons_of_mem _ h)
  have hown : s.vm.findClass R_M = some m.cls := findClass_of_methodNamed B.named
  have hlocks := B.notSynchronized
  have hD := rc_self hD0
  generalize hAe : rc_A [(h, rM cd od fc hd md lo lv tb rw bs mn nu tu), (fc, k2 cJ 20 5 F), (md, ka cJ 17 P), (tb, k2 cJ 221 13 M), (rw, ki cI 13 Lx), (bs, k2 cJ 169 13 Bm)] = A at hD ⊢
  have hS : va_S A s.heap s.heap [] := va_S.rf
  have hl := lv_entry ([.ref h, .int (iz zk), .int (iz zp)]) (n := 3) (Nat.le_of_ble_eq_true rfl)
  rw [lg_entry_eq]
  generalize (lg_sl ([.ref h, .int (iz zk), .int (iz zp)]) ++ List.replicate (3 - (lg_sl ([.ref h, .int (iz zk), .int (iz zp)])).length) Slot.unset).toArray = ls at hl ⊢

  have hl : lv_has ls 3 [(0, .ref h), (1, .int (iz zk)), (2, .int (iz zp))] := hl
  have hle2 : (faS F o P M Lx Bm).1 ≤ 13 := by
    have hle := svM_le (faT F o P M Lx).1 (faT F o P M Lx).2 13 0 Bm
    have e : (faS F o P M Lx Bm).1 = (svM (faT F o P M Lx).1 (faT F o P M Lx).2 13 0 Bm).1 := rfl
    omega
  refine lv_aload_n hx hb d_M_isMember_0 rfl (lv_at hl 0 rfl) ?_
  refine rc_callv (va_runV (As := []) (rest := []) ⟨hx, hb, hml, hown, hts⟩ (m_M_findAnswers l D cJ cI h cd od fc hd md lo lv tb rw bs mn nu tu F M Bm P Lx o hod ho3) (cwV 0 hts (kb_gi (kb_c kw_684 (kb_c kw_686 (kb_c ks_M_findAnswers (kb_c kw_5 (kb_c kw_687 kb_all)))))) rfl rfl rfl (by decide +kernel) ⟨Nat.le_of_ble_eq_true rfl, Nat.le_of_ble_eq_true rfl⟩) ⟨rc_blind, va_recv hK hP (ci := 3) (q0 := 0) rfl rfl, rc_pre hP hD hK hN [0, 1, 2, 3, 4, 5] rfl rfl [0, 1] rfl⟩ rfl rfl hl.1 rfl (lv_room (Nat.le_of_ble_eq_true rfl)) d_M_isMember_1 ⟨Nat.zero_le _, Nat.zero_le _⟩) hP hD hS [0, 1, 2, 3, 4, 5] rfl (fun _ => rfl) (fun u1 H locs hw1 hP hD hS => ?_)
  have hP : va_P D vC [(h, rM cd od fc hd md lo lv tb rw bs ((faS F o P M Lx Bm).1 : Int) nu tu), (fc, k2 cJ 20 5 F), (md, ka cJ 17 (tbP F o P 13)), (tb, k2 cJ 221 13 (faT F o P M Lx).1), (rw, ki cI 13 (faT F o P M Lx).2), (bs, k2 cJ 169 13 (faS F o P M Lx Bm).2)] H := hP
  have hD : va_D A [(h, rM cd od fc hd md lo lv tb rw bs ((faS F o P M Lx Bm).1 : Int) nu tu), (fc, k2 cJ 20 5 F), (md, ka cJ 17 (tbP F o P 13)), (tb, k2 cJ 221 13 (faT F o P M Lx).1), (rw, ki cI 13 (faT F o P M Lx).2), (bs, k2 cJ 169 13 (faS F o P M Lx Bm).2)] := hD
  refine lv_aload_n hx hb d_M_isMember_4 rfl (lv_at hl 0 rfl) ?_
  refine lv_iload_n hx hb d_M_isMember_5 rfl (lv_at hl 1 rfl) ?_
  refine lv_i2l hx hb d_M_isMember_6 rfl ?_
  refine lv_lconst (v := lk 0) hx hb d_M_isMember_7 rfl ?_
  refine lv_aload_n hx hb d_M_isMember_8 rfl (lv_at hl 0 rfl) ?_
  refine va_get (D := D) (ci := 3) (v := .int (iz ((faS F o P M Lx Bm).1 : Int))) (C := R_M) (T := T_M) (N := 13) hx hb hts in_M hown hK hP 0 rfl rfl 10 (by decide) (hts _ kw_540) (fun _ h9 => h9) rfl d_M_isMember_9 ?_
  refine rz_iconst hx hb d_M_isMember_12 ?_
  refine rz_isub hx hb d_M_isMember_13 ?_
  refine lv_i2l hx hb d_M_isMember_14 rfl ?_
  refine rc_calli (va_runS (As := [.long ((iz zk)).toInt64, .long (lk 0), .long ((iz (((faS F o P M Lx Bm).1 : Int) - 1))).toInt64]) (rest := [.ref h]) ⟨hx, hb, hml, hown, hts⟩ (m_M_in l D ((iz zk)).toInt64 (lk 0) ((iz (((faS F o P M Lx Bm).1 : Int) - 1))).toInt64 zk 0 (((faS F o P M Lx Bm).1 : Int) - 1) (lx_iz (by omega) (by omega)) (by show Int64.toInt _ = _; decide) (lx_iz (by omega) (by omega))) (cwS 3 hts (kb_gi (kb_c kw_582 (kb_c kw_583 (kb_c kw_5 (kb_c kw_584 kb_all))))) rfl rfl rfl (by decide +kernel) ⟨Nat.le_of_ble_eq_true rfl, Nat.le_of_ble_eq_true rfl⟩) ⟨rc_blind, rc_pre hP hD hK hN [] rfl rfl [] rfl⟩ rfl rfl hl.1 rfl (lv_room (Nat.le_of_ble_eq_true rfl)) d_M_isMember_15 ⟨Nat.zero_le _, Nat.zero_le _⟩) hP hD hS [] rfl (fun _ => rfl) (fun r2 u3 H locs hw3 hP hD hS => ?_)
  subst hw3
  have hP : va_P D vC [(h, rM cd od fc hd md lo lv tb rw bs ((faS F o P M Lx Bm).1 : Int) nu tu), (fc, k2 cJ 20 5 F), (md, ka cJ 17 (tbP F o P 13)), (tb, k2 cJ 221 13 (faT F o P M Lx).1), (rw, ki cI 13 (faT F o P M Lx).2), (bs, k2 cJ 169 13 (faS F o P M Lx Bm).2)] H := hP
  have hD : va_D A [(h, rM cd od fc hd md lo lv tb rw bs ((faS F o P M Lx Bm).1 : Int) nu tu), (fc, k2 cJ 20 5 F), (md, ka cJ 17 (tbP F o P 13)), (tb, k2 cJ 221 13 (faT F o P M Lx).1), (rw, ki cI 13 (faT F o P M Lx).2), (bs, k2 cJ 169 13 (faS F o P M Lx Bm).2)] := hD
  refine rb_if_eq (tgt := 37) hx hb d_M_isMember_18 (by decide) (fun hc4 => ?_) (fun hc4 => ?_)
  · refine rz_iconst hx hb d_M_isMember_37 ?_
    refine va_put (D := D) (ci := 3) (v := .int (iz 1)) (ty := .int) (C := R_M) (T := T_M) (N := 13) hx hb hts in_M ty_M tk_M nm_M hown hK hP hD hS 0 rfl rfl 0 (by decide) (hts _ kw_530) (fun _ h9 => h9) rfl (by decide +kernel) rfl rfl (Nat.le_of_ble_eq_true rfl) d_M_isMember_38 (fun H locs hP hD hS => ?_)
    have hP : va_P D vC [(h, rM 1 od fc hd md lo lv tb rw bs ((faS F o P M Lx Bm).1 : Int) nu tu), (fc, k2 cJ 20 5 F), (md, ka cJ 17 (tbP F o P 13)), (tb, k2 cJ 221 13 (faT F o P M Lx).1), (rw, ki cI 13 (faT F o P M Lx).2), (bs, k2 cJ 169 13 (faS F o P M Lx Bm).2)] H := hP
    have hD : va_D A [(h, rM 1 od fc hd md lo lv tb rw bs ((faS F o P M Lx Bm).1 : Int) nu tu), (fc, k2 cJ 20 5 F), (md, ka cJ 17 (tbP F o P 13)), (tb, k2 cJ 221 13 (faT F o P M Lx).1), (rw, ki cI 13 (faT F o P M Lx).2), (bs, k2 cJ 169 13 (faS F o P M Lx Bm).2)] := hD
    refine lv_aload_n hx hb d_M_isMember_41 rfl (lv_at hl 0 rfl) ?_
    refine va_get (D := D) (ci := 3) (v := .int (iz 1)) (C := R_M) (T := T_M) (N := 13) hx hb hts in_M hown hK hP 0 rfl rfl 0 (by decide) (hts _ kw_530) (fun _ h9 => h9) rfl d_M_isMember_42 ?_
    refine rz_if_ne (tgt := 52) hx hb d_M_isMember_45 (by decide) (fun _ => ?_) (fun hc => absurd hc (by decide))
    refine rz_iconst hx hb d_M_isMember_52 ?_
    exact W.zret hx hb hr rfl (fun t ht hW => ⟨⟨_, 1, rfl, (Or.inr ⟨rfl, (by omega), rfl⟩), rc_out ht hP⟩, hS.F ht⟩) hS.2.2 d_M_isMember_53
  · refine lv_iload_n hx hb d_M_isMember_21 rfl (lv_at hl 2 rfl) ?_
    refine lv_i2l hx hb d_M_isMember_22 rfl ?_
    refine lv_lconst (v := lk 0) hx hb d_M_isMember_23 rfl ?_
    refine lv_ldc2 (v := 12) hx hb hown (hts _ kw_618) d_M_isMember_24 ?_
    refine rc_calli (va_runS (As := [.long ((iz zp)).toInt64, .long (lk 0), .long 12]) (rest := [.ref h]) ⟨hx, hb, hml, hown, hts⟩ (m_M_in l D ((iz zp)).toInt64 (lk 0) 12 zp 0 12 (lx_iz (by omega) (by omega)) (by show Int64.toInt _ = _; decide) (by show Int64.toInt _ = _; decide)) (cwS 3 hts (kb_gi (kb_c kw_582 (kb_c kw_583 (kb_c kw_5 (kb_c kw_584 kb_all))))) rfl rfl rfl (by decide +kernel) ⟨Nat.le_of_ble_eq_true rfl, Nat.le_of_ble_eq_true rfl⟩) ⟨rc_blind, rc_pre hP hD hK hN [] rfl rfl [] rfl⟩ rfl rfl hl.1 rfl (lv_room (Nat.le_of_ble_eq_true rfl)) d_M_isMember_27 ⟨Nat.zero_le _, Nat.zero_le _⟩) hP hD hS [] rfl (fun _ => rfl) (fun r5 u6 H locs hw6 hP hD hS => ?_)
    subst hw6
    have hP : va_P D vC [(h, rM cd od fc hd md lo lv tb rw bs ((faS F o P M Lx Bm).1 : Int) nu tu), (fc, k2 cJ 20 5 F), (md, ka cJ 17 (tbP F o P 13)), (tb, k2 cJ 221 13 (faT F o P M Lx).1), (rw, ki cI 13 (faT F o P M Lx).2), (bs, k2 cJ 169 13 (faS F o P M Lx Bm).2)] H := hP
    have hD : va_D A [(h, rM cd od fc hd md lo lv tb rw bs ((faS F o P M Lx Bm).1 : Int) nu tu), (fc, k2 cJ 20 5 F), (md, ka cJ 17 (tbP F o P 13)), (tb, k2 cJ 221 13 (faT F o P M Lx).1), (rw, ki cI 13 (faT F o P M Lx).2), (bs, k2 cJ 169 13 (faS F o P M Lx Bm).2)] := hD
    refine rb_if_eq (tgt := 37) hx hb d_M_isMember_30 (by decide) (fun hc7 => ?_) (fun hc7 => ?_)
    · refine rz_iconst hx hb d_M_isMember_37 ?_
      refine va_put (D := D) (ci := 3) (v := .int (iz 1)) (ty := .int) (C := R_M) (T := T_M) (N := 13) hx hb hts in_M ty_M tk_M nm_M hown hK hP hD hS 0 rfl rfl 0 (by decide) (hts _ kw_530) (fun _ h9 => h9) rfl (by decide +kernel) rfl rfl (Nat.le_of_ble_eq_true rfl) d_M_isMember_38 (fun H locs hP hD hS => ?_)
      have hP : va_P D vC [(h, rM 1 od fc hd md lo lv tb rw bs ((faS F o P M Lx Bm).1 : Int) nu tu), (fc, k2 cJ 20 5 F), (md, ka cJ 17 (tbP F o P 13)), (tb, k2 cJ 221 13 (faT F o P M Lx).1), (rw, ki cI 13 (faT F o P M Lx).2), (bs, k2 cJ 169 13 (faS F o P M Lx Bm).2)] H := hP
      have hD : va_D A [(h, rM 1 od fc hd md lo lv tb rw bs ((faS F o P M Lx Bm).1 : Int) nu tu), (fc, k2 cJ 20 5 F), (md, ka cJ 17 (tbP F o P 13)), (tb, k2 cJ 221 13 (faT F o P M Lx).1), (rw, ki cI 13 (faT F o P M Lx).2), (bs, k2 cJ 169 13 (faS F o P M Lx Bm).2)] := hD
      refine lv_aload_n hx hb d_M_isMember_41 rfl (lv_at hl 0 rfl) ?_
      refine va_get (D := D) (ci := 3) (v := .int (iz 1)) (C := R_M) (T := T_M) (N := 13) hx hb hts in_M hown hK hP 0 rfl rfl 0 (by decide) (hts _ kw_530) (fun _ h9 => h9) rfl d_M_isMember_42 ?_
      refine rz_if_ne (tgt := 52) hx hb d_M_isMember_45 (by decide) (fun _ => ?_) (fun hc => absurd hc (by decide))
      refine rz_iconst hx hb d_M_isMember_52 ?_
      exact W.zret hx hb hr rfl (fun t ht hW => ⟨⟨_, 1, rfl, (Or.inr ⟨rfl, (by omega), rfl⟩), rc_out ht hP⟩, hS.F ht⟩) hS.2.2 d_M_isMember_53
    · refine rz_iconst hx hb d_M_isMember_33 ?_
      refine lv_goto (tgt := 38) hx hb d_M_isMember_34 (by decide) ?_
      refine va_put (D := D) (ci := 3) (v := .int (iz 0)) (ty := .int) (C := R_M) (T := T_M) (N := 13) hx hb hts in_M ty_M tk_M nm_M hown hK hP hD hS 0 rfl rfl 0 (by decide) (hts _ kw_530) (fun _ h9 => h9) rfl (by decide +kernel) rfl rfl (Nat.le_of_ble_eq_true rfl) d_M_isMember_38 (fun H locs hP hD hS => ?_)
      have hP : va_P D vC [(h, rM 0 od fc hd md lo lv tb rw bs ((faS F o P M Lx Bm).1 : Int) nu tu), (fc, k2 cJ 20 5 F), (md, ka cJ 17 (tbP F o P 13)), (tb, k2 cJ 221 13 (faT F o P M Lx).1), (rw, ki cI 13 (faT F o P M Lx).2), (bs, k2 cJ 169 13 (faS F o P M Lx Bm).2)] H := hP
      have hD : va_D A [(h, rM 0 od fc hd md lo lv tb rw bs ((faS F o P M Lx Bm).1 : Int) nu tu), (fc, k2 cJ 20 5 F), (md, ka cJ 17 (tbP F o P 13)), (tb, k2 cJ 221 13 (faT F o P M Lx).1), (rw, ki cI 13 (faT F o P M Lx).2), (bs, k2 cJ 169 13 (faS F o P M Lx Bm).2)] := hD
      refine lv_aload_n hx hb d_M_isMember_41 rfl (lv_at hl 0 rfl) ?_
      refine va_get (D := D) (ci := 3) (v := .int (iz 0)) (C := R_M) (T := T_M) (N := 13) hx hb hts in_M hown hK hP 0 rfl rfl 0 (by decide) (hts _ kw_530) (fun _ h9 => h9) rfl d_M_isMember_42 ?_
      refine rz_if_ne (tgt := 52) hx hb d_M_isMember_45 (by decide) (fun hc => absurd hc (by decide)) (fun _ => ?_)
      refine rz_iconst hx hb d_M_isMember_48 ?_
      refine lv_goto (tgt := 53) hx hb d_M_isMember_49 (by decide) ?_
      exact W.zret hx hb hr rfl (fun t ht hW => ⟨⟨_, 0, rfl, (Or.inl ⟨rfl, ⟨by assumption, by assumption⟩, rfl⟩), rc_out ht hP⟩, hS.F ht⟩) hS.2.2 d_M_isMember_53
def ws_M_answer : List Cond := .code y_M_answer c_M_answer 3 (some .int) :: kb
set_option maxHeartbeats 4000000 in
set_option maxRecDepth 100000 in
/-- answer -/
theorem m_M_answer (l : Launch) (D : va_G) (cJ cI : ClassId) (h : Nat) (cd od : Int) (fc hd md lo : Nat) (lv : Int) (tb rw bs : Nat) (mn : Int) (nu tu : Nat) (F M Bm : Nat → Nat → ro_K) (P : Nat → ro_K) (Lx : Nat → Int) (zk zp : Int) (o : Nat) (hod : od = (o : Int)) (ho3 : o ≤ 3) (hzkl : -2147483648 ≤ zk) (hzkh : zk < 2147483648) (hzpl : -2147483648 ≤ zp) (hzph : zp < 2147483648) : Met l y_M_answer ws_M_answer ({ frames := 5, cells := 0, slots := 0, locals := 120 }) (rc_Pc D vC [(cJ, .long), (cI, .int)] [.ref h, .int (iz zk), .int (iz zp)] [(h, rM cd od fc hd md lo lv tb rw bs mn nu tu), (fc, k2 cJ 20 5 F), (md, ka cJ 17 P), (tb, k2 cJ 221 13 M), (rw, ki cI 13 Lx), (bs, k2 cJ 169 13 Bm)]) (va_Qi (fun (q : Int32) (u : Int) => (((0 ≤ zk ∧ zk ≤ ((faS F o P M Lx Bm).1 : Int) - 1) ∧ 0 ≤ zp ∧ zp ≤ 12) ∧ u = 0 ∧ q = iz (((faS F o P M Lx Bm).2 zk.toNat zp.toNat).val : Int)) ∨ (¬ ((0 ≤ zk ∧ zk ≤ ((faS F o P M Lx Bm).1 : Int) - 1) ∧ 0 ≤ zp ∧ zp ≤ 12) ∧ u = 1 ∧ q = iz 0)) (fun u t => va_P D vC [(h, rM u od fc hd md lo lv tb rw bs ((faS F o P M Lx Bm).1 : Int) nu tu), (fc, k2 cJ 20 5 F), (md, ka cJ 17 (tbP F o P 13)), (tb, k2 cJ 221 13 (faT F o P M Lx).1), (rw, ki cI 13 (faT F o P M Lx).2), (bs, k2 cJ 169 13 (faS F o P M Lx Bm).2)] t.heap) (rc_A [(h, rM cd od fc hd md lo lv tb rw bs mn nu tu), (fc, k2 cJ 20 5 F), (md, ka cJ 17 P), (tb, k2 cJ 221 13 M), (rw, ki cI 13 Lx), (bs, k2 cJ 169 13 Bm)])) 0 0 (rc_A [(h, rM cd od fc hd md lo lv tb rw bs mn nu tu), (fc, k2 cJ 20 5 F), (md, ka cJ 17 P), (tb, k2 cJ 221 13 M), (rw, ki cI 13 Lx), (bs, k2 cJ 169 13 Bm)]) := by
  refine Met.ofW (cc := c_M_answer) (maxL := 3) (ret := (some .int)) (by decide) rfl ?_
  intro p e s m args below meth c s₁ B hml hv
  obtain ⟨rfl, hP, hK, hD0, hN⟩ := hv
  have hx := B.exec
  have hb := B.bytes
  have hr := B.returns
  have hts0 := atoms_spec (ws := ws_M_answer) B.pre
  have hts : ∀ w ∈ kb, w.before _ s = true := fun w h => hts0 w (List.mem_cons_of_mem _ h)
  have hown : s.vm.findClass R_M = some m.cls := findClass_of_methodNamed B.named
  have hlocks := B.notSynchronized
  have hD := rc_self hD0
  generalize hAe : rc_A [(h, rM cd od fc hd md lo lv tb rw bs mn nu tu), (fc, k2 cJ 20 5 F), (md, ka cJ 17 P), (tb, k2 cJ 221 13 M), (rw, ki cI 13 Lx), (bs, k2 cJ 169 13 Bm)] = A at hD ⊢
  have hS : va_S A s.heap s.heap [] := va_S.rf
  have hl := lv_entry ([.ref h, .int (iz zk), .int (iz zp)]) (n := 3) (Nat.le_of_ble_eq_true rfl)
  rw [lg_entry_eq]
  generalize (lg_sl ([.ref h, .int (iz zk), .int (iz zp)]) ++ List.replicate (3 - (lg_sl ([.ref h, .int (iz zk), .int (iz zp)])).length) Slot.unset).toArray = ls at hl ⊢

  have hl : lv_has ls 3 [(0, .ref h), (1, .int (iz zk)), (2, .int (iz zp))] := hl
  have hle2 : (faS F o P M Lx Bm).1 ≤ 13 := by
    have hle := svM_le (faT F o P M Lx).1 (faT F o P M Lx).2 13 0 Bm
    have e : (faS F o P M Lx Bm).1 = (svM (faT F o P M Lx).1 (faT F o P M Lx).2 13 0 Bm).1 := rfl
    omega
  refine lv_aload_n hx hb d_M_answer_0 rfl (lv_at hl 0 rfl) ?_
  refine lv_iload_n hx hb d_M_answer_1 rfl (lv_at hl 1 rfl) ?_
  refine lv_iload_n hx hb d_M_answer_2 rfl (lv_at hl 2 rfl) ?_
  refine rc_calli (va_runV (As := [.int (iz zk), .int (iz zp)]) (rest := []) ⟨hx, hb, hml, hown, hts⟩ (m_M_isMember l D cJ cI h cd od fc hd md lo lv tb rw bs mn nu tu F M Bm P Lx zk zp o hod ho3 hzkl hzkh hzpl hzph) (cwV 2 hts (kb_gi (kb_c kw_699 (kb_c kw_701 (kb_c ks_M_isMember (kb_c kw_5 (kb_c kw_702 kb_all)))))) rfl rfl rfl (by decide +kernel) ⟨Nat.le_of_ble_eq_true rfl, Nat.le_of_ble_eq_true rfl⟩) ⟨rc_blind, va_recv hK hP (ci := 3) (q0 := 0) rfl rfl, rc_pre hP hD hK hN [0, 1, 2, 3, 4, 5] rfl rfl [0, 1] rfl⟩ rfl rfl hl.1 rfl (lv_room (Nat.le_of_ble_eq_true rfl)) d_M_answer_3 ⟨Nat.zero_le _, Nat.zero_le _⟩) hP hD hS [0, 1, 2, 3, 4, 5] rfl (fun _ => rfl) (fun r1 u2 H locs hw2 hP hD hS => ?_)
  rcases hw2 with ⟨rfl, hC, rfl⟩ | ⟨rfl, hC, rfl⟩
  · have hP : va_P D vC [(h, rM 0 od fc hd md lo lv tb rw bs ((faS F o P M Lx Bm).1 : Int) nu tu), (fc, k2 cJ 20 5 F), (md, ka cJ 17 (tbP F o P 13)), (tb, k2 cJ 221 13 (faT F o P M Lx).1), (rw, ki cI 13 (faT F o P M Lx).2), (bs, k2 cJ 169 13 (faS F o P M Lx Bm).2)] H := hP
    have hD : va_D A [(h, rM 0 od fc hd md lo lv tb rw bs ((faS F o P M Lx Bm).1 : Int) nu tu), (fc, k2 cJ 20 5 F), (md, ka cJ 17 (tbP F o P 13)), (tb, k2 cJ 221 13 (faT F o P M Lx).1), (rw, ki cI 13 (faT F o P M Lx).2), (bs, k2 cJ 169 13 (faS F o P M Lx Bm).2)] := hD
    refine rz_if_eq (tgt := 24) hx hb d_M_answer_6 (by decide) (fun hc => absurd hc (by decide)) (fun _ => ?_)
    refine lv_aload_n hx hb d_M_answer_9 rfl (lv_at hl 0 rfl) ?_
    refine va_get (D := D) (ci := 3) (v := .ref bs) (C := R_M) (T := T_M) (N := 13) hx hb hts in_M hown hK hP 0 rfl rfl 9 (by decide) (hts _ kw_539) (fun _ h9 => h9) rfl d_M_answer_10 ?_
    refine rz_bipush hx hb d_M_answer_13 (by decide) ?_
    refine lv_iload_n hx hb d_M_answer_15 rfl (lv_at hl 1 rfl) ?_
    refine rz_imul hx hb d_M_answer_16 ?_
    refine lv_iload_n hx hb d_M_answer_17 rfl (lv_at hl 2 rfl) ?_
    refine rz_iadd hx hb d_M_answer_18 ?_
    refine rm_ld hx hb hK hP 5 0 rfl rfl zk.toNat zp.toNat d_M_answer_19 ?_
    refine rz_l2i hx hb d_M_answer_20 ?_
    refine lv_goto (tgt := 25) hx hb d_M_answer_21 (by decide) ?_
    exact W.iret hx hb hr (fun t ht hW => ⟨⟨_, 0, rfl, (Or.inl ⟨hC, rfl, rfl⟩), rc_out ht hP⟩, hS.F ht⟩) hS.2.2 d_M_answer_25
  · have hP : va_P D vC [(h, rM 1 od fc hd md lo lv tb rw bs ((faS F o P M Lx Bm).1 : Int) nu tu), (fc, k2 cJ 20 5 F), (md, ka cJ 17 (tbP F o P 13)), (tb, k2 cJ 221 13 (faT F o P M Lx).1), (rw, ki cI 13 (faT F o P M Lx).2), (bs, k2 cJ 169 13 (faS F o P M Lx Bm).2)] H := hP
    have hD : va_D A [(h, rM 1 od fc hd md lo lv tb rw bs ((faS F o P M Lx Bm).1 : Int) nu tu), (fc, k2 cJ 20 5 F), (md, ka cJ 17 (tbP F o P 13)), (tb, k2 cJ 221 13 (faT F o P M Lx).1), (rw, ki cI 13 (faT F o P M Lx).2), (bs, k2 cJ 169 13 (faS F o P M Lx Bm).2)] := hD
    refine rz_if_eq (tgt := 24) hx hb d_M_answer_6 (by decide) (fun _ => ?_) (fun hc => absurd hc (by decide))
    refine rz_iconst hx hb d_M_answer_24 ?_
    exact W.iret hx hb hr (fun t ht hW => ⟨⟨_, 1, rfl, (Or.inr ⟨hC, rfl, rfl⟩), rc_out ht hP⟩, hS.F ht⟩) hS.2.2 d_M_answer_25
def cpk (G F : Nat → ro_K) : Nat → Nat → ro_K
  | 0 => F
  | k + 1 => va_up (cpk G F k) k (G k)
set_option maxHeartbeats 4000000 in
set_option maxRecDepth 100000 in
theorem lo_M_take {cJ cI : ClassId} {h : Nat} {cd od : Int} {fc hd md lo : Nat} {lv : Int} {tb rw bs : Nat} {mn : Int} {nu tu : Nat} {F M B : Nat → Nat → ro_K} {P : Nat → ro_K} {Lx : Nat → Int} {a : Nat → ro_K} {zk : Int} {kk : Nat} (hzk : zk = (kk : Int)) (hk3 : kk < 13) (hx : p.tables.exec = Jvm.exec) (hb : c.code = c_M_take) (hml : c.maxLocals = 3) (hown : s.vm.findClass R_M = some m.cls) (hts : ∀ w ∈ kb, w.before args s = true) (hK : va_K D vC [(cJ, .long), (cI, .int)] s) (hN : rc_N s)  (hend : ∀ (H : Heap) (locs : List Loc) (ls : Array Slot), va_P D vC [(h, rM cd od fc hd md lo lv tb rw bs mn nu tu), (fc, k2 cJ 20 5 F), (md, ka cJ 17 P), (tb, k2 cJ 221 13 M), (rw, ki cI 13 Lx), (bs, k2 cJ 169 13 B), (hd, ka cJ 13 (cpk (B kk) a 13))] H → va_D A [(h, rM cd od fc hd md lo lv tb rw bs mn nu tu), (fc, k2 cJ 20 5 F), (md, ka cJ 17 P), (tb, k2 cJ 221 13 M), (rw, ki cI 13 Lx), (bs, k2 cJ 169 13 B), (hd, ka cJ 13 (cpk (B kk) a 13))] → va_S A H0 H locs → W p l e R s m args below meth c H locs 0 0 Q (F0 m 41 ls [])) : ∀ (q k : Nat) (z : Int) (H : Heap) (locs : List Loc) (ls : Array Slot), z = (k : Int) → k + q = 13 → va_P D vC [(h, rM cd od fc hd md lo lv tb rw bs mn nu tu), (fc, k2 cJ 20 5 F), (md, ka cJ 17 P), (tb, k2 cJ 221 13 M), (rw, ki cI 13 Lx), (bs, k2 cJ 169 13 B), (hd, ka cJ 13 (cpk (B kk) a k))] H → va_D A [(h, rM cd od fc hd md lo lv tb rw bs mn nu tu), (fc, k2 cJ 20 5 F), (md, ka cJ 17 P), (tb, k2 cJ 221 13 M), (rw, ki cI 13 Lx), (bs, k2 cJ 169 13 B), (hd, ka cJ 13 (cpk (B kk) a k))] → va_S A H0 H locs → lv_has ls 3 [(2, .int (iz z)), (0, .ref h), (1, .int (iz zk))] → W p l e R s m args below meth c H locs 0 0 Q (F0 m 12 ls []) := by
  intro q
  induction q with
  | zero =>
    intro k z H locs ls hz hk hP hD hS hl
    have e : k = 13 := hk
    subst e
    refine lv_iload_n hx hb d_M_take_12 rfl (lv_at hl 0 rfl) ?_
    refine rz_bipush hx hb d_M_take_13 (by decide) ?_
    refine rz_icmp_gt (tgt := 41) hx hb d_M_take_15 (by decide) (fun hc1 => ?_) (fun hc1 => ?_)
    · exact hend H locs ls hP hD hS
    · omega
  | succ q ih =>
    intro k z H locs ls hz hk hP hD hS hl
    subst hz
    refine lv_iload_n hx hb d_M_take_12 rfl (lv_at hl 0 rfl) ?_
    refine rz_bipush hx hb d_M_take_13 (by decide) ?_
    refine rz_icmp_gt (tgt := 41) hx hb d_M_take_15 (by decide) (fun hc2 => ?_) (fun hc2 => ?_)
    · omega
    · refine lv_aload_n hx hb d_M_take_18 rfl (lv_at hl 1 rfl) ?_
      refine va_get (D := D) (ci := 3) (v := .ref hd) (C := R_M) (T := T_M) (N := 13) hx hb hts in_M hown hK hP 0 rfl rfl 3 (by decide) (hts _ kw_533) (fun _ h9 => h9) rfl d_M_take_19 ?_
      refine lv_iload_n hx hb d_M_take_22 rfl (lv_at hl 0 rfl) ?_
      refine lv_aload_n hx hb d_M_take_23 rfl (lv_at hl 1 rfl) ?_
      refine va_get (D := D) (ci := 3) (v := .ref bs) (C := R_M) (T := T_M) (N := 13) hx hb hts in_M hown hK hP 0 rfl rfl 9 (by decide) (hts _ kw_539) (fun _ h9 => h9) rfl d_M_take_24 ?_
      refine rz_bipush hx hb d_M_take_27 (by decide) ?_
      refine lv_iload_n hx hb d_M_take_29 rfl (lv_at hl 2 rfl) ?_
      refine rz_imul hx hb d_M_take_30 ?_
      refine lv_iload_n hx hb d_M_take_31 rfl (lv_at hl 0 rfl) ?_
      refine rz_iadd hx hb d_M_take_32 ?_
      refine rm_ld hx hb hK hP 5 0 rfl rfl kk k d_M_take_33 ?_
      refine rk_st hx hb hK hP hD hS 6 0 rfl rfl k d_M_take_34 (fun H locs hP hD hS => ?_)
      have hP : va_P D vC [(h, rM cd od fc hd md lo lv tb rw bs mn nu tu), (fc, k2 cJ 20 5 F), (md, ka cJ 17 P), (tb, k2 cJ 221 13 M), (rw, ki cI 13 Lx), (bs, k2 cJ 169 13 B), (hd, ka cJ 13 (va_up (cpk (B kk) a k) k (B kk k)))] H := hP
      have hD : va_D A [(h, rM cd od fc hd md lo lv tb rw bs mn nu tu), (fc, k2 cJ 20 5 F), (md, ka cJ 17 P), (tb, k2 cJ 221 13 M), (rw, ki cI 13 Lx), (bs, k2 cJ 169 13 B), (hd, ka cJ 13 (va_up (cpk (B kk) a k) k (B kk k)))] := hD
      refine lv_iinc (v := iz ((k : Int) + 1)) (lv' := [(2, .int (iz ((k : Int) + 1))), (0, .ref h), (1, .int (iz zk))]) hx hb d_M_take_35 hl (k := 0) rfl (iz_add _ _) (by decide) rfl (fun ls hl => ?_)
      refine lv_goto (tgt := 12) hx hb d_M_take_38 (by decide) ?_
      exact ih (k + 1) _ H locs ls (by omega) (by omega) hP hD hS (lv_sub hl [0, 1, 2] rfl)
def ws_M_take : List Cond := .code y_M_take c_M_take 3 none :: kb
set_option maxHeartbeats 4000000 in
set_option maxRecDepth 100000 in
/-- take -/
theorem m_M_take (l : Launch) (D : va_G) (cJ cI : ClassId) (h : Nat) (cd od : Int) (fc hd md lo : Nat) (lv : Int) (tb rw bs : Nat) (mn : Int) (nu tu : Nat) (F M Bm : Nat → Nat → ro_K) (P : Nat → ro_K) (Lx : Nat → Int) (a : Nat → ro_K) (zk : Int) (o : Nat) (hod : od = (o : Int)) (ho3 : o ≤ 3) (hzkl : -2147483648 ≤ zk) (hzkh : zk < 2147483648) : Met l y_M_take ws_M_take ({ frames := 5, cells := 0, slots := 0, locals := 120 }) (rc_Pc D vC [(cJ, .long), (cI, .int)] [.ref h, .int (iz zk)] [(h, rM cd od fc hd md lo lv tb rw bs mn nu tu), (fc, k2 cJ 20 5 F), (md, ka cJ 17 P), (tb, k2 cJ 221 13 M), (rw, ki cI 13 Lx), (bs, k2 cJ 169 13 Bm), (hd, ka cJ 13 a)]) (va_Qv (fun (u : Int × (Nat → ro_K)) => ((0 ≤ zk ∧ zk ≤ ((faS F o P M Lx Bm).1 : Int) - 1) ∧ u = (0, (cpk ((faS F o P M Lx Bm).2 zk.toNat) a 13))) ∨ (¬ (0 ≤ zk ∧ zk ≤ ((faS F o P M Lx Bm).1 : Int) - 1) ∧ u = (1, a))) (fun u t => va_P D vC [(h, rM u.1 od fc hd md lo lv tb rw bs ((faS F o P M Lx Bm).1 : Int) nu tu), (fc, k2 cJ 20 5 F), (md, ka cJ 17 (tbP F o P 13)), (tb, k2 cJ 221 13 (faT F o P M Lx).1), (rw, ki cI 13 (faT F o P M Lx).2), (bs, k2 cJ 169 13 (faS F o P M Lx Bm).2), (hd, ka cJ 13 u.2)] t.heap) (rc_A [(h, rM cd od fc hd md lo lv tb rw bs mn nu tu), (fc, k2 cJ 20 5 F), (md, ka cJ 17 P), (tb, k2 cJ 221 13 M), (rw, ki cI 13 Lx), (bs, k2 cJ 169 13 Bm), (hd, ka cJ 13 a)])) 0 0 (rc_A [(h, rM cd od fc hd md lo lv tb rw bs mn nu tu), (fc, k2 cJ 20 5 F), (md, ka cJ 17 P), (tb, k2 cJ 221 13 M), (rw, ki cI 13 Lx), (bs, k2 cJ 169 13 Bm), (hd, ka cJ 13 a)]) := by
  refine Met.ofW (cc := c_M_take) (maxL := 3) (ret := none) (by decide) rfl ?_
  intro p e s m args below meth c s₁ B hml hv
  obtain ⟨rfl, hP, hK, hD0, hN⟩ := hv
  have hx := B.exec
  have hb := B.bytes
  have hr := B.returns
  have hts0 := atoms_spec (ws := ws_M_take) B.pre
  have hts : ∀ w ∈ kb, w.before _ s = true := fun w h => hts0 w (List.mem_cons_of_mem _ h)
  have hown : s.vm.findClass R_M = some m.cls := findClass_of_methodNamed B.named
  have hlocks := B.notSynchronized
  have hD := rc_self hD0
  generalize hAe : rc_A [(h, rM cd od fc hd md lo lv tb rw bs mn nu tu), (fc, k2 cJ 20 5 F), (md, ka cJ 17 P), (tb, k2 cJ 221 13 M), (rw, ki cI 13 Lx), (bs, k2 cJ 169 13 Bm), (hd, ka cJ 13 a)] = A at hD ⊢
  have hS : va_S A s.heap s.heap [] := va_S.rf
  have hl := lv_entry ([.ref h, .int (iz zk)]) (n := 3) (Nat.le_of_ble_eq_true rfl)
  rw [lg_entry_eq]
  generalize (lg_sl ([.ref h, .int (iz zk)]) ++ List.replicate (3 - (lg_sl ([.ref h, .int (iz zk)])).length) Slot.unset).toArray = ls at hl ⊢

  have hl : lv_has ls 3 [(0, .ref h), (1, .int (iz zk))] := hl
  have hle2 : (faS F o P M Lx Bm).1 ≤ 13 := by
    have hle := svM_le (faT F o P M Lx).1 (faT F o P M Lx).2 13 0 Bm
    have e : (faS F o P M Lx Bm).1 = (svM (faT F o P M Lx).1 (faT F o P M Lx).2 13 0 Bm).1 := rfl
    omega
  refine lv_aload_n hx hb d_M_take_0 rfl (lv_at hl 0 rfl) ?_
  refine lv_iload_n hx hb d_M_take_1 rfl (lv_at hl 1 rfl) ?_
  refine rz_iconst hx hb d_M_take_2 ?_
  refine rc_calli (va_runV (As := [.int (iz zk), .int (iz 0)]) (rest := []) ⟨hx, hb, hml, hown, hts⟩ (m_M_isMember l D cJ cI h cd od fc hd md lo lv tb rw bs mn nu tu F M Bm P Lx zk 0 o hod ho3 hzkl hzkh (by decide) (by decide)) (cwV 2 hts (kb_gi (kb_c kw_699 (kb_c kw_701 (kb_c ks_M_isMember (kb_c kw_5 (kb_c kw_702 kb_all)))))) rfl rfl rfl (by decide +kernel) ⟨Nat.le_of_ble_eq_true rfl, Nat.le_of_ble_eq_true rfl⟩) ⟨rc_blind, va_recv hK hP (ci := 3) (q0 := 0) rfl rfl, rc_pre hP hD hK hN [0, 1, 2, 3, 4, 5] rfl rfl [0, 1] rfl⟩ rfl rfl hl.1 rfl (lv_room (Nat.le_of_ble_eq_true rfl)) d_M_take_3 ⟨Nat.zero_le _, Nat.zero_le _⟩) hP hD hS [0, 1, 2, 3, 4, 5] rfl (fun _ => rfl) (fun r1 u2 H locs hw2 hP hD hS => ?_)
  rcases hw2 with ⟨rfl, hC, rfl⟩ | ⟨rfl, hC, rfl⟩
  · have hP : va_P D vC [(h, rM 0 od fc hd md lo lv tb rw bs ((faS F o P M Lx Bm).1 : Int) nu tu), (fc, k2 cJ 20 5 F), (md, ka cJ 17 (tbP F o P 13)), (tb, k2 cJ 221 13 (faT F o P M Lx).1), (rw, ki cI 13 (faT F o P M Lx).2), (bs, k2 cJ 169 13 (faS F o P M Lx Bm).2), (hd, ka cJ 13 a)] H := hP
    have hD : va_D A [(h, rM 0 od fc hd md lo lv tb rw bs ((faS F o P M Lx Bm).1 : Int) nu tu), (fc, k2 cJ 20 5 F), (md, ka cJ 17 (tbP F o P 13)), (tb, k2 cJ 221 13 (faT F o P M Lx).1), (rw, ki cI 13 (faT F o P M Lx).2), (bs, k2 cJ 169 13 (faS F o P M Lx Bm).2), (hd, ka cJ 13 a)] := hD
    refine rz_if_ne (tgt := 10) hx hb d_M_take_6 (by decide) (fun _ => ?_) (fun hc => absurd hc (by decide))
    refine rz_iconst hx hb d_M_take_10 ?_
    refine lv_istore_n (lv' := [(2, .int (iz 0)), (0, .ref h), (1, .int (iz zk))]) hx hb d_M_take_11 rfl hl (by decide) rfl (fun ls hl => ?_)
    refine lo_M_take (B := (faS F o P M Lx Bm).2) (a := a) (kk := zk.toNat) (by omega) (by omega) hx hb hml hown hts hK hN (fun H locs ls hP hD hS => ?_) 13 0 _ H locs ls rfl (by omega) hP hD hS (lv_sub hl [0, 1, 2] rfl)
    exact W.vret hx hb hr (fun t ht hW => ⟨⟨(0, (cpk ((faS F o P M Lx Bm).2 zk.toNat) a 13)), rfl, (Or.inl ⟨hC.1, rfl⟩), rc_out ht hP⟩, hS.F ht⟩) hS.2.2 d_M_take_41
  · have hP : va_P D vC [(h, rM 1 od fc hd md lo lv tb rw bs ((faS F o P M Lx Bm).1 : Int) nu tu), (fc, k2 cJ 20 5 F), (md, ka cJ 17 (tbP F o P 13)), (tb, k2 cJ 221 13 (faT F o P M Lx).1), (rw, ki cI 13 (faT F o P M Lx).2), (bs, k2 cJ 169 13 (faS F o P M Lx Bm).2), (hd, ka cJ 13 a)] H := hP
    have hD : va_D A [(h, rM 1 od fc hd md lo lv tb rw bs ((faS F o P M Lx Bm).1 : Int) nu tu), (fc, k2 cJ 20 5 F), (md, ka cJ 17 (tbP F o P 13)), (tb, k2 cJ 221 13 (faT F o P M Lx).1), (rw, ki cI 13 (faT F o P M Lx).2), (bs, k2 cJ 169 13 (faS F o P M Lx Bm).2), (hd, ka cJ 13 a)] := hD
    refine rz_if_ne (tgt := 10) hx hb d_M_take_6 (by decide) (fun hc => absurd hc (by decide)) (fun _ => ?_)
    exact W.vret hx hb hr (fun t ht hW => ⟨⟨(1, a), rfl, (Or.inr ⟨by omega, rfl⟩), rc_out ht hP⟩, hS.F ht⟩) hS.2.2 d_M_take_9
end WK
