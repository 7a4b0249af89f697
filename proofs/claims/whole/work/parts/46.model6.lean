section WK
variable {p : Program} {l : Launch} {e : Env} {R : Room} {s : State} {m : MethodId} {args : Array Value} {below : List Frame} {meth : Method} {c : Code} {H : Heap} {locs : List Loc} {cells slots : Nat} {Q : State → Prop} {D : va_G} {A : Nat → Prop} {H0 : Heap}
/-- the adjoint, as the reference makes it -/
def tnK (F : Nat → Nat → ro_K) (i j : Nat) (w : ro_K) (T : Nat → Nat → ro_K) : Nat → Nat → Nat → ro_K
  | 0 => T
  | p + 1 => up2 (tnK F i j w T p) j p (tnK F i j w T p j p + w * (F i (i - j + p) * ro_k (ffz ((i - j + p : Nat) : Int) (i - j))))
def tnJ (F : Nat → Nat → ro_K) (i : Nat) (sg : Int) (T : Nat → Nat → ro_K) : Nat → Nat → Nat → ro_K
  | 0 => T
  | j + 1 => tnK F i j (ro_k (sg * chL (4 * i + j))) (tnJ F i sg T j) (5 - (i - j))
def sgI (i : Nat) : Int := if i % 2 = 0 then 1 else -1
def tnI (F T : Nat → Nat → ro_K) : Nat → Nat → Nat → ro_K
  | 0 => T
  | i + 1 => tnJ F i (sgI i) (tnI F T i) (i + 1)
theorem ov_step : ∀ i : Nat, i < 4 → ∀ j : Nat, j < 4 → j ≤ i → ∀ b : Bool, (((if b then 1 else -1) * chL (4 * i + j)) * ((i : Int) - j)).tdiv ((j : Int) + 1) = (if b then 1 else -1) * chL (4 * i + (j + 1)) := by decide
theorem ov_next {ov : Int64} {sg : Int} {i j : Nat} (hi : i < 4) (hj : j ≤ i) (hs : sg = 1 ∨ sg = -1) (h : lx ov (sg * chL (4 * i + j))) : lx (ov * (iz ((i : Int) - (j : Int))).toInt64 / (iz ((j : Int) + 1)).toInt64) (sg * chL (4 * i + (j + 1))) := by
  have hc : 0 ≤ chL (4 * i + j) ∧ chL (4 * i + j) ≤ 3 := chL_le _ (by omega)
  have h1 : lx (iz ((i : Int) - (j : Int))).toInt64 ((i : Int) - j) := lx_iz (by omega) (by omega)
  have h2 : lx (iz ((j : Int) + 1)).toInt64 ((j : Int) + 1) := lx_iz (by omega) (by omega)
  have hb : -1048576 ≤ sg * chL (4 * i + j) * ((i : Int) - j) ∧ sg * chL (4 * i + j) * ((i : Int) - j) ≤ 1048576 := by
    have e := abs_mul_le (a := sg * chL (4 * i + j)) (b := (i : Int) - j) (B := 3) (C := 4) (by rcases hs with h | h <;> subst h <;> omega) (by rcases hs with h | h <;> subst h <;> omega) (by omega) (by omega)
    omega
  have h3 := lx_mul h h1 hb.1 hb.2
  unfold lx at h2 h3 ⊢
  rw [Int64.toInt_div_of_ne_right _ _ (by intro e; rw [e] at h2; have h20 : (-1 : Int64).toInt = -1 := by decide
                                          omega), h3, h2]
  rcases hs with h | h
  · subst h; exact ov_step i hi j (by omega) hj true
  · subst h; exact ov_step i hi j (by omega) hj false
theorem nz1 {z : Int} (h1 : 0 < z) (h2 : z < 1000) : ¬ (iz z).toInt64 = 0 := by
  intro e
  have h : lx (iz z).toInt64 z := lx_iz (by omega) (by omega)
  unfold lx at h
  rw [e] at h
  have h0 : (0 : Int64).toInt = 0 := by decide
  omega
theorem ov_0p : ∀ k : Nat, k < 4 → lx (lk 1) (1 * chL (4 * k + 0)) := by
  intro k hk
  have e : ∀ k : Nat, k < 4 → 1 * chL (4 * k + 0) = 1 := by decide
  rw [e k hk]
  show Int64.toInt _ = _
  decide
theorem ov_0n : ∀ k : Nat, k < 4 → lx (-1) (-1 * chL (4 * k + 0)) := by
  intro k hk
  have e : ∀ k : Nat, k < 4 → -1 * chL (4 * k + 0) = -1 := by decide
  rw [e k hk]
  show Int64.toInt _ = _
  decide
/-- the sum that a series' number is made of -/
def sJ (E : Nat → Nat → ro_K) (o : Nat) (T : Nat → ro_K) (n i : Nat) (S : ro_K) : Nat → ro_K
  | 0 => S
  | j + 1 => if (i : Int) ≤ (n : Int) - o - j + i ∧ (n : Int) - o - j + i < n then sJ E o T n i S j + E i j * ro_k (ffz ((n : Int) - o - j + i) i) * T ((n : Int) - o - j + i).toNat else sJ E o T n i S j
def sI (E : Nat → Nat → ro_K) (o : Nat) (T : Nat → ro_K) (n : Nat) : Nat → ro_K
  | 0 => 0
  | i + 1 => sJ E o T n i (sI E o T n i) 5
def msT (E : Nat → Nat → ro_K) (o : Nat) (T : Nat → ro_K) : Nat → Nat → ro_K
  | 0 => T
  | k + 1 => va_up (va_up (msT E o T k) (o + k) 0) (o + k) (-sI E o (va_up (msT E o T k) (o + k) 0) (o + k) (o + 1) * ro_iv (E o 0 * ro_k (ffz ((o + k : Nat) : Int) o)))
set_option maxHeartbeats 4000000 in
set_option maxRecDepth 100000 in
theorem lo_M_turn_z {cJ cI : ClassId} {h : Nat} {cd od : Int} {fc hd md lo : Nat} {lv : Int} {tb rw bs : Nat} {mn : Int} {nu tu : Nat} {F T : Nat → Nat → ro_K}  (hx : p.tables.exec = Jvm.exec) (hb : c.code = c_M_turn) (hml : c.maxLocals = 6) (hown : s.vm.findClass R_M = some m.cls) (hts : ∀ w ∈ kb, w.before args s = true) (hK : va_K D vC [(cJ, .long), (cI, .int)] s) (hN : rc_N s)  (hend : ∀ (H : Heap) (locs : List Loc) (ls : Array Slot), va_P D vC [(h, rM cd od fc hd md lo lv tb rw bs mn nu tu), (fc, k2 cJ 20 5 F), (tu, k2 cJ 20 5 (c2 (fun _ _ => 0) T 20))] H → va_D A [(h, rM cd od fc hd md lo lv tb rw bs mn nu tu), (fc, k2 cJ 20 5 F), (tu, k2 cJ 20 5 (c2 (fun _ _ => 0) T 20))] → va_S A H0 H locs → lv_has ls 6 [(0, .ref h)] → W p l e R s m args below meth c H locs 0 0 Q (F0 m 26 ls [])) : ∀ (q k : Nat) (z : Int) (H : Heap) (locs : List Loc) (ls : Array Slot), z = (k : Int) → k + q = 20 → va_P D vC [(h, rM cd od fc hd md lo lv tb rw bs mn nu tu), (fc, k2 cJ 20 5 F), (tu, k2 cJ 20 5 (c2 (fun _ _ => 0) T k))] H → va_D A [(h, rM cd od fc hd md lo lv tb rw bs mn nu tu), (fc, k2 cJ 20 5 F), (tu, k2 cJ 20 5 (c2 (fun _ _ => 0) T k))] → va_S A H0 H locs → lv_has ls 6 [(1, .int (iz z)), (0, .ref h)] → W p l e R s m args below meth c H locs 0 0 Q (F0 m 7 ls []) := by
  intro q
  induction q with
  | zero =>
    intro k z H locs ls hz hk hP hD hS hl
    have e : k = 20 := hk
    subst e
    refine lv_iload_n hx hb d_M_turn_7 rfl (lv_at hl 0 rfl) ?_
    refine rz_bipush hx hb d_M_turn_8 (by decide) ?_
    refine rz_icmp_ge (tgt := 26) hx hb d_M_turn_10 (by decide) (fun hc1 => ?_) (fun hc1 => ?_)
    · exact hend H locs ls hP hD hS (lv_sub hl [1] rfl)
    · omega
  | succ q ih =>
    intro k z H locs ls hz hk hP hD hS hl
    subst hz
    refine lv_iload_n hx hb d_M_turn_7 rfl (lv_at hl 0 rfl) ?_
    refine rz_bipush hx hb d_M_turn_8 (by decide) ?_
    refine rz_icmp_ge (tgt := 26) hx hb d_M_turn_10 (by decide) (fun hc2 => ?_) (fun hc2 => ?_)
    · omega
    · refine lv_aload_n hx hb d_M_turn_13 rfl (lv_at hl 1 rfl) ?_
      refine va_get (D := D) (ci := 3) (v := .ref tu) (C := R_M) (T := T_M) (N := 13) hx hb hts in_M hown hK hP 0 rfl rfl 12 (by decide) (hts _ kw_542) (fun _ h9 => h9) rfl d_M_turn_14 ?_
      refine lv_iload_n hx hb d_M_turn_17 rfl (lv_at hl 0 rfl) ?_
      refine lv_lconst (v := lk 0) hx hb d_M_turn_18 rfl ?_
      refine rm_stf hx hb hK hP hD hS 2 0 rfl rfl k d_M_turn_19 (fun H locs hP hD hS => ?_)
      have hP : va_P D vC [(h, rM cd od fc hd md lo lv tb rw bs mn nu tu), (fc, k2 cJ 20 5 F), (tu, k2 cJ 20 5 (up2 (c2 (fun _ _ => 0) T k) (k / 5) (k % 5) 0))] H := hP
      have hD : va_D A [(h, rM cd od fc hd md lo lv tb rw bs mn nu tu), (fc, k2 cJ 20 5 F), (tu, k2 cJ 20 5 (up2 (c2 (fun _ _ => 0) T k) (k / 5) (k % 5) 0))] := hD
      refine lv_iinc (v := iz ((k : Int) + 1)) (lv' := [(1, .int (iz ((k : Int) + 1))), (0, .ref h)]) hx hb d_M_turn_20 hl (k := 0) rfl (iz_add _ _) (by decide) rfl (fun ls hl => ?_)
      refine lv_goto (tgt := 7) hx hb d_M_turn_23 (by decide) ?_
      exact ih (k + 1) _ H locs ls (by omega) (by omega) hP hD hS (lv_sub hl [0, 1] rfl)
set_option maxHeartbeats 4000000 in
set_option maxRecDepth 100000 in
theorem lk_M_turn {cJ cI : ClassId} {h : Nat} {cd od : Int} {fc hd md lo : Nat} {lv : Int} {tb rw bs : Nat} {mn : Int} {nu tu : Nat} {F T : Nat → Nat → ro_K} {i j : Nat} {zi zj sg : Int} {ov : Int64} (hzi : zi = (i : Int)) (hi : i ≤ 3) (hzj : zj = (j : Int)) (hj : j ≤ i) (hs : sg = 1 ∨ sg = -1) (hov : lx ov (sg * chL (4 * i + j))) (hx : p.tables.exec = Jvm.exec) (hb : c.code = c_M_turn) (hml : c.maxLocals = 6) (hown : s.vm.findClass R_M = some m.cls) (hts : ∀ w ∈ kb, w.before args s = true) (hK : va_K D vC [(cJ, .long), (cI, .int)] s) (hN : rc_N s) (hR : 2 ≤ R.frames ∧ 48 ≤ R.locals) (hend : ∀ (H : Heap) (locs : List Loc) (ls : Array Slot), va_P D vC [(h, rM cd od fc hd md lo lv tb rw bs mn nu tu), (fc, k2 cJ 20 5 F), (tu, k2 cJ 20 5 (tnK F i j (ro_k (sg * chL (4 * i + j))) T (5 - (i - j))))] H → va_D A [(h, rM cd od fc hd md lo lv tb rw bs mn nu tu), (fc, k2 cJ 20 5 F), (tu, k2 cJ 20 5 (tnK F i j (ro_k (sg * chL (4 * i + j))) T (5 - (i - j))))] → va_S A H0 H locs → lv_has ls 6 [(4, .int (iz zj)), (2, .long ov), (1, .int (iz zi)), (0, .ref h)] → W p l e R s m args below meth c H locs 0 0 Q (F0 m 143 ls [])) : ∀ (q k : Nat) (z : Int) (H : Heap) (locs : List Loc) (ls : Array Slot), z = ((i - j + k : Nat) : Int) → k + q = (5 - (i - j)) → va_P D vC [(h, rM cd od fc hd md lo lv tb rw bs mn nu tu), (fc, k2 cJ 20 5 F), (tu, k2 cJ 20 5 (tnK F i j (ro_k (sg * chL (4 * i + j))) T k))] H → va_D A [(h, rM cd od fc hd md lo lv tb rw bs mn nu tu), (fc, k2 cJ 20 5 F), (tu, k2 cJ 20 5 (tnK F i j (ro_k (sg * chL (4 * i + j))) T k))] → va_S A H0 H locs → lv_has ls 6 [(5, .int (iz z)), (4, .int (iz zj)), (2, .long ov), (1, .int (iz zi)), (0, .ref h)] → W p l e R s m args below meth c H locs 0 0 Q (F0 m 65 ls []) := by
  intro q
  induction q with
  | zero =>
    intro k z H locs ls hz hk hP hD hS hl
    have e : k = (5 - (i - j)) := hk
    subst e
    refine lv_iload hx hb d_M_turn_65 (lv_at hl 0 rfl) ?_
    refine rz_iconst hx hb d_M_turn_67 ?_
    refine rz_icmp_ge (tgt := 143) hx hb d_M_turn_68 (by decide) (fun hc1 => ?_) (fun hc1 => ?_)
    · exact hend H locs ls hP hD hS (lv_sub hl [1, 2, 3, 4] rfl)
    · omega
  | succ q ih =>
    intro k z H locs ls hz hk hP hD hS hl
    subst hz
    have hc9 : 0 ≤ chL (4 * i + j) ∧ chL (4 * i + j) ≤ 3 := chL_le _ (by omega)
    have hsc : sg * chL (4 * i + j) ≤ 3 ∧ -3 ≤ sg * chL (4 * i + j) := by rcases hs with h | h <;> subst h <;> omega
    refine lv_iload hx hb d_M_turn_65 (lv_at hl 0 rfl) ?_
    refine rz_iconst hx hb d_M_turn_67 ?_
    refine rz_icmp_ge (tgt := 143) hx hb d_M_turn_68 (by decide) (fun hc2 => ?_) (fun hc2 => ?_)
    · omega
    · refine lv_aload_n hx hb d_M_turn_71 rfl (lv_at hl 4 rfl) ?_
      refine va_get (D := D) (ci := 3) (v := .ref tu) (C := R_M) (T := T_M) (N := 13) hx hb hts in_M hown hK hP 0 rfl rfl 12 (by decide) (hts _ kw_542) (fun _ h9 => h9) rfl d_M_turn_72 ?_
      refine rz_iconst hx hb d_M_turn_75 ?_
      refine lv_iload hx hb d_M_turn_76 (lv_at hl 1 rfl) ?_
      refine rz_imul hx hb d_M_turn_78 ?_
      refine lv_iload hx hb d_M_turn_79 (lv_at hl 0 rfl) ?_
      refine rz_iadd hx hb d_M_turn_81 ?_
      refine lv_iload_n hx hb d_M_turn_82 rfl (lv_at hl 3 rfl) ?_
      refine rz_isub hx hb d_M_turn_83 ?_
      refine lv_iload hx hb d_M_turn_84 (lv_at hl 1 rfl) ?_
      refine rz_iadd hx hb d_M_turn_86 ?_
      refine lv_aload_n hx hb d_M_turn_87 rfl (lv_at hl 4 rfl) ?_
      refine va_get (D := D) (ci := 3) (v := .ref tu) (C := R_M) (T := T_M) (N := 13) hx hb hts in_M hown hK hP 0 rfl rfl 12 (by decide) (hts _ kw_542) (fun _ h9 => h9) rfl d_M_turn_88 ?_
      refine rz_iconst hx hb d_M_turn_91 ?_
      refine lv_iload hx hb d_M_turn_92 (lv_at hl 1 rfl) ?_
      refine rz_imul hx hb d_M_turn_94 ?_
      refine lv_iload hx hb d_M_turn_95 (lv_at hl 0 rfl) ?_
      refine rz_iadd hx hb d_M_turn_97 ?_
      refine lv_iload_n hx hb d_M_turn_98 rfl (lv_at hl 3 rfl) ?_
      refine rz_isub hx hb d_M_turn_99 ?_
      refine lv_iload hx hb d_M_turn_100 (lv_at hl 1 rfl) ?_
      refine rz_iadd hx hb d_M_turn_102 ?_
      refine rm_ld hx hb hK hP 2 0 rfl rfl j k d_M_turn_103 ?_
      refine lv_lload_n hx hb d_M_turn_104 rfl (lv_at hl 2 rfl) ?_
      refine lv_aload_n hx hb d_M_turn_105 rfl (lv_at hl 4 rfl) ?_
      refine va_get (D := D) (ci := 3) (v := .ref fc) (C := R_M) (T := T_M) (N := 13) hx hb hts in_M hown hK hP 0 rfl rfl 2 (by decide) (hts _ kw_532) (fun _ h9 => h9) rfl d_M_turn_106 ?_
      refine rz_iconst hx hb d_M_turn_109 ?_
      refine lv_iload_n hx hb d_M_turn_110 rfl (lv_at hl 3 rfl) ?_
      refine rz_imul hx hb d_M_turn_111 ?_
      refine lv_iload hx hb d_M_turn_112 (lv_at hl 0 rfl) ?_
      refine rz_iadd hx hb d_M_turn_114 ?_
      refine rm_ld hx hb hK hP 1 0 rfl rfl i (i - j + k) d_M_turn_115 ?_
      refine lv_iload hx hb d_M_turn_116 (lv_at hl 0 rfl) ?_
      refine lv_i2l hx hb d_M_turn_118 rfl ?_
      refine lv_iload_n hx hb d_M_turn_119 rfl (lv_at hl 3 rfl) ?_
      refine lv_iload hx hb d_M_turn_120 (lv_at hl 1 rfl) ?_
      refine rz_isub hx hb d_M_turn_122 ?_
      refine rc_calll (va_runS (As := [.long ((iz ((i - j + k : Nat) : Int))).toInt64, .int (iz (zi - zj))]) (rest := [.long (lk (F i (i - j + k))), .long ov, .long (lk ((tnK F i j (ro_k (sg * chL (4 * i + j))) T k) j k)), .int (iz ((((5 * zj) + ((i - j + k : Nat) : Int)) - zi) + zj)), .ref tu]) ⟨hx, hb, hml, hown, hts⟩ (m_M_falling l D ((iz ((i - j + k : Nat) : Int))).toInt64 ((i - j + k : Nat) : Int) (zi - zj) (i - j) (lx_iz (by omega) (by omega)) (by omega) (by omega) (by omega) (by omega)) (cwS 2 hts (kb_gi (kb_c kw_611 (kb_c kw_612 (kb_c kw_5 (kb_c kw_613 kb_all))))) rfl rfl rfl (by decide +kernel) ⟨Nat.le_trans (by decide) hR.1, Nat.le_trans (by decide) hR.2⟩) ⟨rc_blind, rc_pre hP hD hK hN [] rfl rfl [] rfl⟩ rfl rfl hl.1 rfl (lv_room (Nat.le_of_ble_eq_true rfl)) d_M_turn_123 ⟨Nat.zero_le _, Nat.zero_le _⟩) hP hD hS [] rfl (fun _ => rfl) (fun r3 u4 H locs hw4 hP hD hS => ?_)
      subst hw4
      have hP : va_P D vC [(h, rM cd od fc hd md lo lv tb rw bs mn nu tu), (fc, k2 cJ 20 5 F), (tu, k2 cJ 20 5 (tnK F i j (ro_k (sg * chL (4 * i + j))) T k))] H := hP
      have hD : va_D A [(h, rM cd od fc hd md lo lv tb rw bs mn nu tu), (fc, k2 cJ 20 5 F), (tu, k2 cJ 20 5 (tnK F i j (ro_k (sg * chL (4 * i + j))) T k))] := hD
      refine rlp_lmul hx hb 1024128004 (lk_p (F i (i - j + k))) (lk_p (ro_k (ffz ((i - j + k : Nat) : Int) (i - j)))) d_M_turn_126 (fun v5 hv5 => ?_)
      refine lv_ldc2 (v := 32003) hx hb hown (hts _ kw_589) d_M_turn_127 ?_
      refine rlp_lrem hx hb hv5 d_M_turn_130 ?_
      refine rlq_lmul hx hb 96006 (lq_lx 3 hov (by omega) (by omega)) (lq_of (lk_p _) (by decide)) d_M_turn_131 (fun w1 hw1 => ?_) (by decide)
      refine rlq_ladd hx hb 128008 (lq_of (lk_p _) (by decide)) hw1 d_M_turn_132 (fun w2 hw2 => ?_) (by decide)
      refine rc_calll (va_runS (As := [.long w2]) (rest := [.int (iz ((((5 * zj) + ((i - j + k : Nat) : Int)) - zi) + zj)), .ref tu]) ⟨hx, hb, hml, hown, hts⟩ (m_M_modulo l D w2) (cwS 1 hts (kb_gi (kb_c kw_586 (kb_c kw_587 (kb_c kw_5 (kb_c kw_588 kb_all))))) rfl rfl rfl (by decide +kernel) ⟨Nat.le_trans (by decide) hR.1, Nat.le_trans (by decide) hR.2⟩) ⟨rc_blind, rc_pre hP hD hK hN [] rfl rfl [] rfl⟩ rfl rfl hl.1 rfl (lv_room (Nat.le_of_ble_eq_true rfl)) d_M_turn_133 ⟨Nat.zero_le _, Nat.zero_le _⟩) hP hD hS [] rfl (fun _ => rfl) (fun r6 u7 H locs hw7 hP hD hS => ?_)
      rw [hw2.2.2] at hw7
      subst hw7
      have hP : va_P D vC [(h, rM cd od fc hd md lo lv tb rw bs mn nu tu), (fc, k2 cJ 20 5 F), (tu, k2 cJ 20 5 (tnK F i j (ro_k (sg * chL (4 * i + j))) T k))] H := hP
      have hD : va_D A [(h, rM cd od fc hd md lo lv tb rw bs mn nu tu), (fc, k2 cJ 20 5 F), (tu, k2 cJ 20 5 (tnK F i j (ro_k (sg * chL (4 * i + j))) T k))] := hD
      refine rm_st hx hb hK hP hD hS 2 0 rfl rfl j k d_M_turn_136 (fun H locs hP hD hS => ?_)
      have hP : va_P D vC [(h, rM cd od fc hd md lo lv tb rw bs mn nu tu), (fc, k2 cJ 20 5 F), (tu, k2 cJ 20 5 (up2 (tnK F i j (ro_k (sg * chL (4 * i + j))) T k) j k (tnK F i j (ro_k (sg * chL (4 * i + j))) T k j k + (ro_k (sg * chL (4 * i + j))) * ((F i (i - j + k)) * (ro_k (ffz ((i - j + k : Nat) : Int) (i - j)))))))] H := hP
      have hD : va_D A [(h, rM cd od fc hd md lo lv tb rw bs mn nu tu), (fc, k2 cJ 20 5 F), (tu, k2 cJ 20 5 (up2 (tnK F i j (ro_k (sg * chL (4 * i + j))) T k) j k (tnK F i j (ro_k (sg * chL (4 * i + j))) T k j k + (ro_k (sg * chL (4 * i + j))) * ((F i (i - j + k)) * (ro_k (ffz ((i - j + k : Nat) : Int) (i - j)))))))] := hD
      refine lv_iinc (v := iz (((i - j + k : Nat) : Int) + 1)) (lv' := [(5, .int (iz (((i - j + k : Nat) : Int) + 1))), (4, .int (iz zj)), (2, .long ov), (1, .int (iz zi)), (0, .ref h)]) hx hb d_M_turn_137 hl (k := 0) rfl (iz_add _ _) (by decide) rfl (fun ls hl => ?_)
      refine lv_goto (tgt := 65) hx hb d_M_turn_140 (by decide) ?_
      exact ih (k + 1) _ H locs ls (by omega) (by omega) hP hD hS (lv_sub hl [0, 1, 2, 3, 4] rfl)
set_option maxHeartbeats 4000000 in
set_option maxRecDepth 100000 in
theorem lj_M_turn {cJ cI : ClassId} {h : Nat} {cd od : Int} {fc hd md lo : Nat} {lv : Int} {tb rw bs : Nat} {mn : Int} {nu tu : Nat} {F T : Nat → Nat → ro_K} {i : Nat} {zi sg : Int} (hzi : zi = (i : Int)) (hi : i ≤ 3) (hs : sg = 1 ∨ sg = -1) (hx : p.tables.exec = Jvm.exec) (hb : c.code = c_M_turn) (hml : c.maxLocals = 6) (hown : s.vm.findClass R_M = some m.cls) (hts : ∀ w ∈ kb, w.before args s = true) (hK : va_K D vC [(cJ, .long), (cI, .int)] s) (hN : rc_N s) (hR : 2 ≤ R.frames ∧ 48 ≤ R.locals) (hend : ∀ (H : Heap) (locs : List Loc) (ls : Array Slot), va_P D vC [(h, rM cd od fc hd md lo lv tb rw bs mn nu tu), (fc, k2 cJ 20 5 F), (tu, k2 cJ 20 5 (tnJ F i sg T (i + 1)))] H → va_D A [(h, rM cd od fc hd md lo lv tb rw bs mn nu tu), (fc, k2 cJ 20 5 F), (tu, k2 cJ 20 5 (tnJ F i sg T (i + 1)))] → va_S A H0 H locs → lv_has ls 6 [(1, .int (iz zi)), (0, .ref h)] → W p l e R s m args below meth c H locs 0 0 Q (F0 m 163 ls [])) : ∀ (q k : Nat) (z : Int) (ov : Int64) (H : Heap) (locs : List Loc) (ls : Array Slot), z = (k : Int) → k + q = i + 1 → lx ov (sg * chL (4 * i + k)) → va_P D vC [(h, rM cd od fc hd md lo lv tb rw bs mn nu tu), (fc, k2 cJ 20 5 F), (tu, k2 cJ 20 5 (tnJ F i sg T k))] H → va_D A [(h, rM cd od fc hd md lo lv tb rw bs mn nu tu), (fc, k2 cJ 20 5 F), (tu, k2 cJ 20 5 (tnJ F i sg T k))] → va_S A H0 H locs → lv_has ls 6 [(4, .int (iz z)), (2, .long ov), (1, .int (iz zi)), (0, .ref h)] → W p l e R s m args below meth c H locs 0 0 Q (F0 m 53 ls []) := by
  intro q
  induction q with
  | zero =>
    intro k z ov H locs ls hz hk hov hP hD hS hl
    have e : k = i + 1 := hk
    subst e
    refine lv_iload hx hb d_M_turn_53 (lv_at hl 0 rfl) ?_
    refine lv_iload_n hx hb d_M_turn_55 rfl (lv_at hl 2 rfl) ?_
    refine rz_icmp_gt (tgt := 163) hx hb d_M_turn_56 (by decide) (fun hc1 => ?_) (fun hc1 => ?_)
    · exact hend H locs ls hP hD hS (lv_sub hl [2, 3] rfl)
    · omega
  | succ q ih =>
    intro k z ov H locs ls hz hk hov hP hD hS hl
    subst hz
    subst hzi
    refine lv_iload hx hb d_M_turn_53 (lv_at hl 0 rfl) ?_
    refine lv_iload_n hx hb d_M_turn_55 rfl (lv_at hl 2 rfl) ?_
    refine rz_icmp_gt (tgt := 163) hx hb d_M_turn_56 (by decide) (fun hc2 => ?_) (fun hc2 => ?_)
    · omega
    · refine lv_iload_n hx hb d_M_turn_59 rfl (lv_at hl 2 rfl) ?_
      refine lv_iload hx hb d_M_turn_60 (lv_at hl 0 rfl) ?_
      refine rz_isub hx hb d_M_turn_62 ?_
      refine lv_istore (lv' := [(5, .int (iz ((i : Int) - (k : Int)))), (4, .int (iz (k : Int))), (2, .long ov), (1, .int (iz (i : Int))), (0, .ref h)]) hx hb d_M_turn_63 hl (by decide) rfl (fun ls hl => ?_)
      refine lk_M_turn (F := F) (T := tnJ F i sg T k) (i := i) (j := k) (sg := sg) rfl hi rfl (by omega) hs hov hx hb hml hown hts hK hN hR (fun H locs ls hP hD hS hl => ?_) (5 - (i - k)) 0 _ H locs ls (by omega) (by omega) hP hD hS (lv_sub hl [0, 1, 2, 3, 4] rfl)
      refine lv_lload_n hx hb d_M_turn_143 rfl (lv_at hl 1 rfl) ?_
      refine lv_iload_n hx hb d_M_turn_144 rfl (lv_at hl 2 rfl) ?_
      refine lv_iload hx hb d_M_turn_145 (lv_at hl 0 rfl) ?_
      refine rz_isub hx hb d_M_turn_147 ?_
      refine lv_i2l hx hb d_M_turn_148 rfl ?_
      refine lv_lmul hx hb d_M_turn_149 ?_
      refine lv_iload hx hb d_M_turn_150 (lv_at hl 0 rfl) ?_
      refine rz_iconst hx hb d_M_turn_152 ?_
      refine rz_iadd hx hb d_M_turn_153 ?_
      refine lv_i2l hx hb d_M_turn_154 rfl ?_
      refine lv_ldiv hx hb d_M_turn_155 (nz1 (by omega) (by omega)) ?_
      refine lv_lstore_n (lv' := [(2, .long (ov * (iz ((i : Int) - (k : Int))).toInt64 / (iz ((k : Int) + 1)).toInt64)), (4, .int (iz (k : Int))), (1, .int (iz (i : Int))), (0, .ref h)]) hx hb d_M_turn_156 rfl hl (by decide) rfl (fun ls hl => ?_)
      refine lv_iinc (v := iz ((k : Int) + 1)) (lv' := [(4, .int (iz ((k : Int) + 1))), (2, .long (ov * (iz ((i : Int) - (k : Int))).toInt64 / (iz ((k : Int) + 1)).toInt64)), (1, .int (iz (i : Int))), (0, .ref h)]) hx hb d_M_turn_157 hl (k := 1) rfl (iz_add _ _) (by decide) rfl (fun ls hl => ?_)
      refine lv_goto (tgt := 53) hx hb d_M_turn_160 (by decide) ?_
      exact ih (k + 1) _ _ H locs ls (by omega) (by omega) (ov_next (by omega) (by omega) hs hov) hP hD hS (lv_sub hl [0, 1, 2, 3] rfl)
set_option maxHeartbeats 4000000 in
set_option maxRecDepth 100000 in
theorem lo_M_turn_i {cJ cI : ClassId} {h : Nat} {cd od : Int} {fc hd md lo : Nat} {lv : Int} {tb rw bs : Nat} {mn : Int} {nu tu : Nat} {o : Nat} {F T : Nat → Nat → ro_K} (hod : od = (o : Int)) (ho3 : o ≤ 3) (hx : p.tables.exec = Jvm.exec) (hb : c.code = c_M_turn) (hml : c.maxLocals = 6) (hown : s.vm.findClass R_M = some m.cls) (hts : ∀ w ∈ kb, w.before args s = true) (hK : va_K D vC [(cJ, .long), (cI, .int)] s) (hN : rc_N s)  (hR : 2 ≤ R.frames ∧ 48 ≤ R.locals) (hend : ∀ (H : Heap) (locs : List Loc) (ls : Array Slot), va_P D vC [(h, rM cd od fc hd md lo lv tb rw bs mn nu tu), (fc, k2 cJ 20 5 F), (tu, k2 cJ 20 5 (tnI F T (o + 1)))] H → va_D A [(h, rM cd od fc hd md lo lv tb rw bs mn nu tu), (fc, k2 cJ 20 5 F), (tu, k2 cJ 20 5 (tnI F T (o + 1)))] → va_S A H0 H locs → lv_has ls 6 [(0, .ref h)] → W p l e R s m args below meth c H locs 0 0 Q (F0 m 169 ls [])) : ∀ (q k : Nat) (z : Int) (H : Heap) (locs : List Loc) (ls : Array Slot), z = (k : Int) → k + q = (o + 1) → va_P D vC [(h, rM cd od fc hd md lo lv tb rw bs mn nu tu), (fc, k2 cJ 20 5 F), (tu, k2 cJ 20 5 (tnI F T k))] H → va_D A [(h, rM cd od fc hd md lo lv tb rw bs mn nu tu), (fc, k2 cJ 20 5 F), (tu, k2 cJ 20 5 (tnI F T k))] → va_S A H0 H locs → lv_has ls 6 [(1, .int (iz z)), (0, .ref h)] → W p l e R s m args below meth c H locs 0 0 Q (F0 m 28 ls []) := by
  intro q
  induction q with
  | zero =>
    intro k z H locs ls hz hk hP hD hS hl
    have e : k = (o + 1) := hk
    subst e
    refine lv_iload_n hx hb d_M_turn_28 rfl (lv_at hl 0 rfl) ?_
    refine lv_aload_n hx hb d_M_turn_29 rfl (lv_at hl 1 rfl) ?_
    refine va_get (D := D) (ci := 3) (v := .int (iz od)) (C := R_M) (T := T_M) (N := 13) hx hb hts in_M hown hK hP 0 rfl rfl 1 (by decide) (hts _ kw_531) (fun _ h9 => h9) rfl d_M_turn_30 ?_
    refine rz_icmp_gt (tgt := 169) hx hb d_M_turn_33 (by decide) (fun hc1 => ?_) (fun hc1 => ?_)
    · exact hend H locs ls hP hD hS (lv_sub hl [1] rfl)
    · omega
  | succ q ih =>
    intro k z H locs ls hz hk hP hD hS hl
    subst hz
    refine lv_iload_n hx hb d_M_turn_28 rfl (lv_at hl 0 rfl) ?_
    refine lv_aload_n hx hb d_M_turn_29 rfl (lv_at hl 1 rfl) ?_
    refine va_get (D := D) (ci := 3) (v := .int (iz od)) (C := R_M) (T := T_M) (N := 13) hx hb hts in_M hown hK hP 0 rfl rfl 1 (by decide) (hts _ kw_531) (fun _ h9 => h9) rfl d_M_turn_30 ?_
    refine rz_icmp_gt (tgt := 169) hx hb d_M_turn_33 (by decide) (fun hc2 => ?_) (fun hc2 => ?_)
    · omega
    · refine lv_iload_n hx hb d_M_turn_36 rfl (lv_at hl 0 rfl) ?_
      refine rz_iconst hx hb d_M_turn_37 ?_
      refine lv_irem (x := iz (k : Int)) (y := iz 2) hx hb d_M_turn_38 (by decide) ?_
      rw [iz_rem2 (by omega)]
      refine rz_if_ne (tgt := 46) hx hb d_M_turn_39 (by decide) (fun hc3 => ?_) (fun hc3 => ?_)
      · refine lv_ldc2 (v := (-1)) hx hb hown (hts _ kw_610) d_M_turn_46 ?_
        refine lv_lstore_n (lv' := [(2, .long (-1)), (1, .int (iz (k : Int))), (0, .ref h)]) hx hb d_M_turn_49 rfl hl (by decide) rfl (fun ls hl => ?_)
        refine rz_iconst hx hb d_M_turn_50 ?_
        refine lv_istore (lv' := [(4, .int (iz 0)), (2, .long (-1)), (1, .int (iz (k : Int))), (0, .ref h)]) hx hb d_M_turn_51 hl (by decide) rfl (fun ls hl => ?_)
        have hsg : sgI k = -1 := if_neg (by omega)
        refine lj_M_turn (F := F) (T := tnI F T k) (i := k) (sg := sgI k) rfl (by omega) (by rw [hsg]; first | exact Or.inl rfl | exact Or.inr rfl) hx hb hml hown hts hK hN hR (fun H locs ls hP hD hS hl => ?_) (k + 1) 0 _ _ H locs ls rfl (by omega) (by rw [hsg]; exact ov_0n k (by omega)) hP hD hS (lv_sub hl [0, 1, 2, 3] rfl)
        refine lv_iinc (v := iz ((k : Int) + 1)) (lv' := [(1, .int (iz ((k : Int) + 1))), (0, .ref h)]) hx hb d_M_turn_163 hl (k := 0) rfl (iz_add _ _) (by decide) rfl (fun ls hl => ?_)
        refine lv_goto (tgt := 28) hx hb d_M_turn_166 (by decide) ?_
        exact ih (k + 1) _ H locs ls (by omega) (by omega) hP hD hS (lv_sub hl [0, 1] rfl)
      · refine lv_lconst (v := lk 1) hx hb d_M_turn_42 rfl ?_
        refine lv_goto (tgt := 49) hx hb d_M_turn_43 (by decide) ?_
        refine lv_lstore_n (lv' := [(2, .long (lk 1)), (1, .int (iz (k : Int))), (0, .ref h)]) hx hb d_M_turn_49 rfl hl (by decide) rfl (fun ls hl => ?_)
        refine rz_iconst hx hb d_M_turn_50 ?_
        refine lv_istore (lv' := [(4, .int (iz 0)), (2, .long (lk 1)), (1, .int (iz (k : Int))), (0, .ref h)]) hx hb d_M_turn_51 hl (by decide) rfl (fun ls hl => ?_)
        have hsg : sgI k = 1 := if_pos (by omega)
        refine lj_M_turn (F := F) (T := tnI F T k) (i := k) (sg := sgI k) rfl (by omega) (by rw [hsg]; first | exact Or.inl rfl | exact Or.inr rfl) hx hb hml hown hts hK hN hR (fun H locs ls hP hD hS hl => ?_) (k + 1) 0 _ _ H locs ls rfl (by omega) (by rw [hsg]; exact ov_0p k (by omega)) hP hD hS (lv_sub hl [0, 1, 2, 3] rfl)
        refine lv_iinc (v := iz ((k : Int) + 1)) (lv' := [(1, .int (iz ((k : Int) + 1))), (0, .ref h)]) hx hb d_M_turn_163 hl (k := 0) rfl (iz_add _ _) (by decide) rfl (fun ls hl => ?_)
        refine lv_goto (tgt := 28) hx hb d_M_turn_166 (by decide) ?_
        exact ih (k + 1) _ H locs ls (by omega) (by omega) hP hD hS (lv_sub hl [0, 1] rfl)
set_option maxHeartbeats 4000000 in
set_option maxRecDepth 100000 in
theorem lo_M_turn_c {cJ cI : ClassId} {h : Nat} {cd od : Int} {fc hd md lo : Nat} {lv : Int} {tb rw bs : Nat} {mn : Int} {nu tu : Nat} {F T : Nat → Nat → ro_K}  (hx : p.tables.exec = Jvm.exec) (hb : c.code = c_M_turn) (hml : c.maxLocals = 6) (hown : s.vm.findClass R_M = some m.cls) (hts : ∀ w ∈ kb, w.before args s = true) (hK : va_K D vC [(cJ, .long), (cI, .int)] s) (hN : rc_N s)  (hend : ∀ (H : Heap) (locs : List Loc) (ls : Array Slot), va_P D vC [(h, rM cd od fc hd md lo lv tb rw bs mn nu tu), (fc, k2 cJ 20 5 (c2 T F 20)), (tu, k2 cJ 20 5 T)] H → va_D A [(h, rM cd od fc hd md lo lv tb rw bs mn nu tu), (fc, k2 cJ 20 5 (c2 T F 20)), (tu, k2 cJ 20 5 T)] → va_S A H0 H locs → W p l e R s m args below meth c H locs 0 0 Q (F0 m 195 ls [])) : ∀ (q k : Nat) (z : Int) (H : Heap) (locs : List Loc) (ls : Array Slot), z = (k : Int) → k + q = 20 → va_P D vC [(h, rM cd od fc hd md lo lv tb rw bs mn nu tu), (fc, k2 cJ 20 5 (c2 T F k)), (tu, k2 cJ 20 5 T)] H → va_D A [(h, rM cd od fc hd md lo lv tb rw bs mn nu tu), (fc, k2 cJ 20 5 (c2 T F k)), (tu, k2 cJ 20 5 T)] → va_S A H0 H locs → lv_has ls 6 [(1, .int (iz z)), (0, .ref h)] → W p l e R s m args below meth c H locs 0 0 Q (F0 m 171 ls []) := by
  intro q
  induction q with
  | zero =>
    intro k z H locs ls hz hk hP hD hS hl
    have e : k = 20 := hk
    subst e
    refine lv_iload_n hx hb d_M_turn_171 rfl (lv_at hl 0 rfl) ?_
    refine rz_bipush hx hb d_M_turn_172 (by decide) ?_
    refine rz_icmp_ge (tgt := 195) hx hb d_M_turn_174 (by decide) (fun hc1 => ?_) (fun hc1 => ?_)
    · exact hend H locs ls hP hD hS
    · omega
  | succ q ih =>
    intro k z H locs ls hz hk hP hD hS hl
    subst hz
    refine lv_iload_n hx hb d_M_turn_171 rfl (lv_at hl 0 rfl) ?_
    refine rz_bipush hx hb d_M_turn_172 (by decide) ?_
    refine rz_icmp_ge (tgt := 195) hx hb d_M_turn_174 (by decide) (fun hc2 => ?_) (fun hc2 => ?_)
    · omega
    · refine lv_aload_n hx hb d_M_turn_177 rfl (lv_at hl 1 rfl) ?_
      refine va_get (D := D) (ci := 3) (v := .ref fc) (C := R_M) (T := T_M) (N := 13) hx hb hts in_M hown hK hP 0 rfl rfl 2 (by decide) (hts _ kw_532) (fun _ h9 => h9) rfl d_M_turn_178 ?_
      refine lv_iload_n hx hb d_M_turn_181 rfl (lv_at hl 0 rfl) ?_
      refine lv_aload_n hx hb d_M_turn_182 rfl (lv_at hl 1 rfl) ?_
      refine va_get (D := D) (ci := 3) (v := .ref tu) (C := R_M) (T := T_M) (N := 13) hx hb hts in_M hown hK hP 0 rfl rfl 12 (by decide) (hts _ kw_542) (fun _ h9 => h9) rfl d_M_turn_183 ?_
      refine lv_iload_n hx hb d_M_turn_186 rfl (lv_at hl 0 rfl) ?_
      refine rm_ldf hx hb hK hP 2 0 rfl rfl k d_M_turn_187 ?_
      refine rm_stf hx hb hK hP hD hS 1 0 rfl rfl k d_M_turn_188 (fun H locs hP hD hS => ?_)
      have hP : va_P D vC [(h, rM cd od fc hd md lo lv tb rw bs mn nu tu), (fc, k2 cJ 20 5 (up2 (c2 T F k) (k / 5) (k % 5) (T (k / 5) (k % 5)))), (tu, k2 cJ 20 5 T)] H := hP
      have hD : va_D A [(h, rM cd od fc hd md lo lv tb rw bs mn nu tu), (fc, k2 cJ 20 5 (up2 (c2 T F k) (k / 5) (k % 5) (T (k / 5) (k % 5)))), (tu, k2 cJ 20 5 T)] := hD
      refine lv_iinc (v := iz ((k : Int) + 1)) (lv' := [(1, .int (iz ((k : Int) + 1))), (0, .ref h)]) hx hb d_M_turn_189 hl (k := 0) rfl (iz_add _ _) (by decide) rfl (fun ls hl => ?_)
      refine lv_goto (tgt := 171) hx hb d_M_turn_192 (by decide) ?_
      exact ih (k + 1) _ H locs ls (by omega) (by omega) hP hD hS (lv_sub hl [0, 1] rfl)
def ws_M_turn : List Cond := .code y_M_turn c_M_turn 6 none :: kb
set_option maxHeartbeats 4000000 in
set_option maxRecDepth 100000 in
/-- turn -/
theorem m_M_turn (l : Launch) (D : va_G) (cJ cI : ClassId) (h : Nat) (cd od : Int) (fc hd md lo : Nat) (lv : Int) (tb rw bs : Nat) (mn : Int) (nu tu : Nat) (F T : Nat → Nat → ro_K) (o : Nat) (hod : od = (o : Int)) (ho3 : o ≤ 3) : Met l y_M_turn ws_M_turn ({ frames := 2, cells := 0, slots := 0, locals := 48 }) (rc_Pc D vC [(cJ, .long), (cI, .int)] [.ref h] [(h, rM cd od fc hd md lo lv tb rw bs mn nu tu), (fc, k2 cJ 20 5 F), (tu, k2 cJ 20 5 T)]) (va_Qv (fun (_ : Unit) => True) (fun _ t => va_P D vC [(h, rM 0 od fc hd md lo lv tb rw bs mn nu tu), (fc, k2 cJ 20 5 (c2 (tnI F (c2 (fun _ _ => 0) T 20) (o + 1)) F 20)), (tu, k2 cJ 20 5 (tnI F (c2 (fun _ _ => 0) T 20) (o + 1)))] t.heap) (rc_A [(h, rM cd od fc hd md lo lv tb rw bs mn nu tu), (fc, k2 cJ 20 5 F), (tu, k2 cJ 20 5 T)])) 0 0 (rc_A [(h, rM cd od fc hd md lo lv tb rw bs mn nu tu), (fc, k2 cJ 20 5 F), (tu, k2 cJ 20 5 T)]) := by
  refine Met.ofW (cc := c_M_turn) (maxL := 6) (ret := none) (by decide) rfl ?_
  intro p e s m args below meth c s₁ B hml hv
  obtain ⟨rfl, hP, hK, hD0, hN⟩ := hv
  have hx := B.exec
  have hb := B.bytes
  have hr := B.returns
  have hts0 := atoms_spec (ws := ws_M_turn) B.pre
  have hts : ∀ w ∈ kb, w.before _ s = true := fun w h => hts0 w (List.mem_cons_of_mem _ h)
  have hown : s.vm.findClass R_M = some m.cls := findClass_of_methodNamed B.named
  have hlocks := B.notSynchronized
  have hD := rc_self hD0
  generalize hAe : rc_A [(h, rM cd od fc hd md lo lv tb rw bs mn nu tu), (fc, k2 cJ 20 5 F), (tu, k2 cJ 20 5 T)] = A at hD ⊢
  have hS : va_S A s.heap s.heap [] := va_S.rf
  have hl := lv_entry ([.ref h]) (n := 6) (Nat.le_of_ble_eq_true rfl)
  rw [lg_entry_eq]
  generalize (lg_sl ([.ref h]) ++ List.replicate (6 - (lg_sl ([.ref h])).length) Slot.unset).toArray = ls at hl ⊢

  have hl : lv_has ls 6 [(0, .ref h)] := hl
  refine lv_aload_n hx hb d_M_turn_0 rfl (lv_at hl 0 rfl) ?_
  refine rz_iconst hx hb d_M_turn_1 ?_
  refine va_put (D := D) (ci := 3) (v := .int (iz 0)) (ty := .int) (C := R_M) (T := T_M) (N := 13) hx hb hts in_M ty_M tk_M nm_M hown hK hP hD hS 0 rfl rfl 0 (by decide) (hts _ kw_530) (fun _ h9 => h9) rfl (by decide +kernel) rfl rfl (Nat.le_of_ble_eq_true rfl) d_M_turn_2 (fun H locs hP hD hS => ?_)
  have hP : va_P D vC [(h, rM 0 od fc hd md lo lv tb rw bs mn nu tu), (fc, k2 cJ 20 5 F), (tu, k2 cJ 20 5 T)] H := hP
  have hD : va_D A [(h, rM 0 od fc hd md lo lv tb rw bs mn nu tu), (fc, k2 cJ 20 5 F), (tu, k2 cJ 20 5 T)] := hD
  refine rz_iconst hx hb d_M_turn_5 ?_
  refine lv_istore_n (lv' := [(1, .int (iz 0)), (0, .ref h)]) hx hb d_M_turn_6 rfl hl (by decide) rfl (fun ls hl => ?_)
  refine lo_M_turn_z (F := F) (T := T)  hx hb hml hown hts hK hN (fun H locs ls hP hD hS hl => ?_) 20 0 _ _ _ ls rfl (by omega) hP hD hS (lv_sub hl [0, 1] rfl)
  refine rz_iconst hx hb d_M_turn_26 ?_
  refine lv_istore_n (lv' := [(1, .int (iz 0)), (0, .ref h)]) hx hb d_M_turn_27 rfl hl (by decide) rfl (fun ls hl => ?_)
  refine lo_M_turn_i (F := F) (T := (c2 (fun _ _ => 0) T 20)) (o := o) hod ho3 hx hb hml hown hts hK hN ⟨Nat.le_of_ble_eq_true rfl, Nat.le_of_ble_eq_true rfl⟩ (fun H locs ls hP hD hS hl => ?_) (o + 1) 0 _ _ _ ls rfl (by omega) hP hD hS (lv_sub hl [0, 1] rfl)
  refine rz_iconst hx hb d_M_turn_169 ?_
  refine lv_istore_n (lv' := [(1, .int (iz 0)), (0, .ref h)]) hx hb d_M_turn_170 rfl hl (by decide) rfl (fun ls hl => ?_)
  refine lo_M_turn_c (F := F) (T := (tnI F (c2 (fun _ _ => 0) T 20) (o + 1)))  hx hb hml hown hts hK hN (fun H locs ls hP hD hS => ?_) 20 0 _ _ _ ls rfl (by omega) hP hD hS (lv_sub hl [0, 1] rfl)
  exact W.vret hx hb hr (fun t ht hW => ⟨⟨(), rfl, trivial, rc_out ht hP⟩, hS.F ht⟩) hS.2.2 d_M_turn_195
set_option maxHeartbeats 4000000 in
set_option maxRecDepth 100000 in
theorem lj_M_series {cJ cI : ClassId} {h : Nat} {cd od : Int} {fc hd md lo : Nat} {lv : Int} {tb rw bs : Nat} {mn : Int} {nu tu : Nat} {o : Nat} (hod : od = (o : Int)) (ho3 : o ≤ 3) {F E : Nat → Nat → ro_K} {T : Nat → ro_K} {n i : Nat} {zn zi zp : Int} {S : ro_K} (hzn : zn = (n : Int)) (hn0 : o ≤ n) (hn : n ≤ 30) (hzi : zi = (i : Int)) (hi : i ≤ o) (hx : p.tables.exec = Jvm.exec) (hb : c.code = c_M_series) (hml : c.maxLocals = 16) (hown : s.vm.findClass R_M = some m.cls) (hts : ∀ w ∈ kb, w.before args s = true) (hK : va_K D vC [(cJ, .long), (cI, .int)] s) (hN : rc_N s) (hR : 2 ≤ R.frames ∧ 48 ≤ R.locals) (hend : ∀ (H : Heap) (locs : List Loc) (ls : Array Slot), va_P D vC [(h, rM cd od fc hd md lo lv tb rw bs mn nu tu), (fc, k2 cJ 20 5 F), (lo, k2 cJ 20 5 E), (nu, ka cJ 31 T)] H → va_D A [(h, rM cd od fc hd md lo lv tb rw bs mn nu tu), (fc, k2 cJ 20 5 F), (lo, k2 cJ 20 5 E), (nu, ka cJ 31 T)] → va_S A H0 H locs → lv_has ls 16 [(11, .long (lk (sJ E o T n i S 5))), (13, .int (iz zi)), (10, .int (iz zn)), (0, .ref h), (9, .int (iz zp))] → W p l e R s m args below meth c H locs 0 0 Q (F0 m 215 ls [])) : ∀ (q k : Nat) (z : Int) (H : Heap) (locs : List Loc) (ls : Array Slot), z = (k : Int) → k + q = 5 → va_P D vC [(h, rM cd od fc hd md lo lv tb rw bs mn nu tu), (fc, k2 cJ 20 5 F), (lo, k2 cJ 20 5 E), (nu, ka cJ 31 T)] H → va_D A [(h, rM cd od fc hd md lo lv tb rw bs mn nu tu), (fc, k2 cJ 20 5 F), (lo, k2 cJ 20 5 E), (nu, ka cJ 31 T)] → va_S A H0 H locs → lv_has ls 16 [(14, .int (iz z)), (11, .long (lk (sJ E o T n i S k))), (13, .int (iz zi)), (10, .int (iz zn)), (0, .ref h), (9, .int (iz zp))] → W p l e R s m args below meth c H locs 0 0 Q (F0 m 132 ls []) := by
  intro q
  induction q with
  | zero =>
    intro k z H locs ls hz hk hP hD hS hl
    have e : k = 5 := hk
    subst e
    refine lv_iload hx hb d_M_series_132 (lv_at hl 0 rfl) ?_
    refine rz_iconst hx hb d_M_series_134 ?_
    refine rz_icmp_ge (tgt := 215) hx hb d_M_series_135 (by decide) (fun hc1 => ?_) (fun hc1 => ?_)
    · exact hend H locs ls hP hD hS (lv_sub hl [1, 2, 3, 4, 5] rfl)
    · omega
  | succ q ih =>
    intro k z H locs ls hz hk hP hD hS hl
    subst hz
    subst hzn
    subst hzi
    subst hod
    have hs1 : sJ E o T n i S (k + 1) = if (i : Int) ≤ (n : Int) - o - k + i ∧ (n : Int) - o - k + i < n then sJ E o T n i S k + E i k * ro_k (ffz ((n : Int) - o - k + i) i) * T ((n : Int) - o - k + i).toNat else sJ E o T n i S k := rfl
    refine lv_iload hx hb d_M_series_132 (lv_at hl 0 rfl) ?_
    refine rz_iconst hx hb d_M_series_134 ?_
    refine rz_icmp_ge (tgt := 215) hx hb d_M_series_135 (by decide) (fun hc2 => ?_) (fun hc2 => ?_)
    · omega
    · refine lv_iload hx hb d_M_series_138 (lv_at hl 3 rfl) ?_
      refine lv_aload_n hx hb d_M_series_140 rfl (lv_at hl 4 rfl) ?_
      refine va_get (D := D) (ci := 3) (v := .int (iz (o : Int))) (C := R_M) (T := T_M) (N := 13) hx hb hts in_M hown hK hP 0 rfl rfl 1 (by decide) (hts _ kw_531) (fun _ h9 => h9) rfl d_M_series_141 ?_
      refine rz_isub hx hb d_M_series_144 ?_
      refine lv_iload hx hb d_M_series_145 (lv_at hl 0 rfl) ?_
      refine rz_isub hx hb d_M_series_147 ?_
      refine lv_iload hx hb d_M_series_148 (lv_at hl 2 rfl) ?_
      refine rz_iadd hx hb d_M_series_150 ?_
      refine lv_istore (lv' := [(15, .int (iz ((((n : Int) - (o : Int)) - (k : Int)) + (i : Int)))), (14, .int (iz (k : Int))), (11, .long (lk (sJ E o T n i S k))), (13, .int (iz (i : Int))), (10, .int (iz (n : Int))), (0, .ref h), (9, .int (iz zp))]) hx hb d_M_series_151 hl (by decide) rfl (fun ls hl => ?_)
      refine lv_iload hx hb d_M_series_153 (lv_at hl 0 rfl) ?_
      refine lv_iload hx hb d_M_series_155 (lv_at hl 3 rfl) ?_
      refine rz_icmp_lt (tgt := 209) hx hb d_M_series_157 (by decide) (fun hc3 => ?_) (fun hc3 => ?_)
      · refine lv_iinc (v := iz ((k : Int) + 1)) (lv' := [(14, .int (iz ((k : Int) + 1))), (15, .int (iz ((((n : Int) - (o : Int)) - (k : Int)) + (i : Int)))), (11, .long (lk (sJ E o T n i S k))), (13, .int (iz (i : Int))), (10, .int (iz (n : Int))), (0, .ref h), (9, .int (iz zp))]) hx hb d_M_series_209 hl (k := 1) rfl (iz_add _ _) (by decide) rfl (fun ls hl => ?_)
        refine lv_goto (tgt := 132) hx hb d_M_series_212 (by decide) ?_
        exact ih (k + 1) ((k : Int) + 1) H locs ls (by omega) (by omega) hP hD hS (by rw [hs1, if_neg (by omega)]; exact lv_sub hl [0, 2, 3, 4, 5, 6] rfl)
      · refine lv_iload hx hb d_M_series_160 (lv_at hl 0 rfl) ?_
        refine lv_iload hx hb d_M_series_162 (lv_at hl 4 rfl) ?_
        refine rz_icmp_ge (tgt := 209) hx hb d_M_series_164 (by decide) (fun hc4 => ?_) (fun hc4 => ?_)
        · refine lv_iinc (v := iz ((k : Int) + 1)) (lv' := [(14, .int (iz ((k : Int) + 1))), (15, .int (iz ((((n : Int) - (o : Int)) - (k : Int)) + (i : Int)))), (11, .long (lk (sJ E o T n i S k))), (13, .int (iz (i : Int))), (10, .int (iz (n : Int))), (0, .ref h), (9, .int (iz zp))]) hx hb d_M_series_209 hl (k := 1) rfl (iz_add _ _) (by decide) rfl (fun ls hl => ?_)
          refine lv_goto (tgt := 132) hx hb d_M_series_212 (by decide) ?_
          exact ih (k + 1) ((k : Int) + 1) H locs ls (by omega) (by omega) hP hD hS (by rw [hs1, if_neg (by omega)]; exact lv_sub hl [0, 2, 3, 4, 5, 6] rfl)
        · refine lv_lload hx hb d_M_series_167 (lv_at hl 2 rfl) ?_
          refine lv_aload_n hx hb d_M_series_169 rfl (lv_at hl 5 rfl) ?_
          refine va_get (D := D) (ci := 3) (v := .ref lo) (C := R_M) (T := T_M) (N := 13) hx hb hts in_M hown hK hP 0 rfl rfl 5 (by decide) (hts _ kw_535) (fun _ h9 => h9) rfl d_M_series_170 ?_
          refine rz_iconst hx hb d_M_series_173 ?_
          refine lv_iload hx hb d_M_series_174 (lv_at hl 3 rfl) ?_
          refine rz_imul hx hb d_M_series_176 ?_
          refine lv_iload hx hb d_M_series_177 (lv_at hl 1 rfl) ?_
          refine rz_iadd hx hb d_M_series_179 ?_
          refine rm_ld hx hb hK hP 2 0 rfl rfl i k d_M_series_180 ?_
          refine lv_iload hx hb d_M_series_181 (lv_at hl 0 rfl) ?_
          refine lv_i2l hx hb d_M_series_183 rfl ?_
          refine lv_iload hx hb d_M_series_184 (lv_at hl 3 rfl) ?_
          refine rc_calll (va_runS (As := [.long ((iz ((((n : Int) - (o : Int)) - (k : Int)) + (i : Int)))).toInt64, .int (iz (i : Int))]) (rest := [.long (lk (E i k)), .long (lk (sJ E o T n i S k))]) ⟨hx, hb, hml, hown, hts⟩ (m_M_falling l D ((iz ((((n : Int) - (o : Int)) - (k : Int)) + (i : Int)))).toInt64 ((((n : Int) - (o : Int)) - (k : Int)) + (i : Int)) (i : Int) i (lx_iz (by omega) (by omega)) (by omega) (by omega) (by omega) (by omega)) (cwS 2 hts (kb_gi (kb_c kw_611 (kb_c kw_612 (kb_c kw_5 (kb_c kw_613 kb_all))))) rfl rfl rfl (by decide +kernel) ⟨Nat.le_trans (by decide) hR.1, Nat.le_trans (by decide) hR.2⟩) ⟨rc_blind, rc_pre hP hD hK hN [] rfl rfl [] rfl⟩ rfl rfl hl.1 rfl (lv_room (Nat.le_of_ble_eq_true rfl)) d_M_series_186 ⟨Nat.zero_le _, Nat.zero_le _⟩) hP hD hS [] rfl (fun _ => rfl) (fun r5 u6 H locs hw6 hP hD hS => ?_)
          subst hw6
          have hP : va_P D vC [(h, rM cd (o : Int) fc hd md lo lv tb rw bs mn nu tu), (fc, k2 cJ 20 5 F), (lo, k2 cJ 20 5 E), (nu, ka cJ 31 T)] H := hP
          have hD : va_D A [(h, rM cd (o : Int) fc hd md lo lv tb rw bs mn nu tu), (fc, k2 cJ 20 5 F), (lo, k2 cJ 20 5 E), (nu, ka cJ 31 T)] := hD
          refine rlp_lmul hx hb 1024128004 (lk_p (E i k)) (lk_p (ro_k (ffz ((((n : Int) - (o : Int)) - (k : Int)) + (i : Int)) i))) d_M_series_189 (fun v7 hv7 => ?_)
          refine lv_ldc2 (v := 32003) hx hb hown (hts _ kw_589) d_M_series_190 ?_
          refine rlp_lrem hx hb hv7 d_M_series_193 ?_
          refine lv_aload_n hx hb d_M_series_194 rfl (lv_at hl 5 rfl) ?_
          refine va_get (D := D) (ci := 3) (v := .ref nu) (C := R_M) (T := T_M) (N := 13) hx hb hts in_M hown hK hP 0 rfl rfl 11 (by decide) (hts _ kw_541) (fun _ h9 => h9) rfl d_M_series_195 ?_
          refine lv_iload hx hb d_M_series_198 (lv_at hl 0 rfl) ?_
          refine rk_ld hx hb hK hP 3 0 rfl rfl (((((n : Int) - (o : Int)) - (k : Int)) + (i : Int))).toNat d_M_series_200 ?_
          refine rlp_lmul hx hb 1024128004 (lk_p ((E i k) * (ro_k (ffz ((((n : Int) - (o : Int)) - (k : Int)) + (i : Int)) i)))) (lk_p (T (((((n : Int) - (o : Int)) - (k : Int)) + (i : Int))).toNat)) d_M_series_201 (fun v8 hv8 => ?_)
          refine rlp_ladd hx hb 1024160006 (lk_p (sJ E o T n i S k)) hv8 d_M_series_202 (fun v9 hv9 => ?_)
          refine lv_ldc2 (v := 32003) hx hb hown (hts _ kw_589) d_M_series_203 ?_
          refine rlp_lrem hx hb hv9 d_M_series_206 ?_
          refine lv_lstore (lv' := [(11, .long (lk ((sJ E o T n i S k) + (((E i k) * (ro_k (ffz ((((n : Int) - (o : Int)) - (k : Int)) + (i : Int)) i))) * (T (((((n : Int) - (o : Int)) - (k : Int)) + (i : Int))).toNat))))), (15, .int (iz ((((n : Int) - (o : Int)) - (k : Int)) + (i : Int)))), (14, .int (iz (k : Int))), (13, .int (iz (i : Int))), (10, .int (iz (n : Int))), (0, .ref h), (9, .int (iz zp))]) hx hb d_M_series_207 hl (by decide) rfl (fun ls hl => ?_)
          refine lv_iinc (v := iz ((k : Int) + 1)) (lv' := [(14, .int (iz ((k : Int) + 1))), (11, .long (lk ((sJ E o T n i S k) + (((E i k) * (ro_k (ffz ((((n : Int) - (o : Int)) - (k : Int)) + (i : Int)) i))) * (T (((((n : Int) - (o : Int)) - (k : Int)) + (i : Int))).toNat))))), (15, .int (iz ((((n : Int) - (o : Int)) - (k : Int)) + (i : Int)))), (13, .int (iz (i : Int))), (10, .int (iz (n : Int))), (0, .ref h), (9, .int (iz zp))]) hx hb d_M_series_209 hl (k := 2) rfl (iz_add _ _) (by decide) rfl (fun ls hl => ?_)
          refine lv_goto (tgt := 132) hx hb d_M_series_212 (by decide) ?_
          exact ih (k + 1) ((k : Int) + 1) H locs ls (by omega) (by omega) hP hD hS (by rw [hs1, if_pos ⟨by omega, by omega⟩]; exact lv_sub hl [0, 1, 3, 4, 5, 6] rfl)
set_option maxHeartbeats 4000000 in
set_option maxRecDepth 100000 in
theorem li_M_series {cJ cI : ClassId} {h : Nat} {cd od : Int} {fc hd md lo : Nat} {lv : Int} {tb rw bs : Nat} {mn : Int} {nu tu : Nat} {o : Nat} (hod : od = (o : Int)) (ho3 : o ≤ 3) {F E : Nat → Nat → ro_K} {T : Nat → ro_K} {n : Nat} {zn zp : Int} (hzn : zn = (n : Int)) (hn0 : o ≤ n) (hn : n ≤ 30) (hx : p.tables.exec = Jvm.exec) (hb : c.code = c_M_series) (hml : c.maxLocals = 16) (hown : s.vm.findClass R_M = some m.cls) (hts : ∀ w ∈ kb, w.before args s = true) (hK : va_K D vC [(cJ, .long), (cI, .int)] s) (hN : rc_N s) (hR : 2 ≤ R.frames ∧ 48 ≤ R.locals) (hend : ∀ (H : Heap) (locs : List Loc) (ls : Array Slot), va_P D vC [(h, rM cd od fc hd md lo lv tb rw bs mn nu tu), (fc, k2 cJ 20 5 F), (lo, k2 cJ 20 5 E), (nu, ka cJ 31 T)] H → va_D A [(h, rM cd od fc hd md lo lv tb rw bs mn nu tu), (fc, k2 cJ 20 5 F), (lo, k2 cJ 20 5 E), (nu, ka cJ 31 T)] → va_S A H0 H locs → lv_has ls 16 [(11, .long (lk (sI E o T n (o + 1)))), (10, .int (iz zn)), (0, .ref h), (9, .int (iz zp))] → W p l e R s m args below meth c H locs 0 0 Q (F0 m 221 ls [])) : ∀ (q k : Nat) (z : Int) (H : Heap) (locs : List Loc) (ls : Array Slot), z = (k : Int) → k + q = o + 1 → va_P D vC [(h, rM cd od fc hd md lo lv tb rw bs mn nu tu), (fc, k2 cJ 20 5 F), (lo, k2 cJ 20 5 E), (nu, ka cJ 31 T)] H → va_D A [(h, rM cd od fc hd md lo lv tb rw bs mn nu tu), (fc, k2 cJ 20 5 F), (lo, k2 cJ 20 5 E), (nu, ka cJ 31 T)] → va_S A H0 H locs → lv_has ls 16 [(13, .int (iz z)), (11, .long (lk (sI E o T n k))), (10, .int (iz zn)), (0, .ref h), (9, .int (iz zp))] → W p l e R s m args below meth c H locs 0 0 Q (F0 m 120 ls []) := by
  intro q
  induction q with
  | zero =>
    intro k z H locs ls hz hk hP hD hS hl
    have e : k = o + 1 := hk
    subst e
    refine lv_iload hx hb d_M_series_120 (lv_at hl 0 rfl) ?_
    refine lv_aload_n hx hb d_M_series_122 rfl (lv_at hl 3 rfl) ?_
    refine va_get (D := D) (ci := 3) (v := .int (iz od)) (C := R_M) (T := T_M) (N := 13) hx hb hts in_M hown hK hP 0 rfl rfl 1 (by decide) (hts _ kw_531) (fun _ h9 => h9) rfl d_M_series_123 ?_
    refine rz_icmp_gt (tgt := 221) hx hb d_M_series_126 (by decide) (fun hc1 => ?_) (fun hc1 => ?_)
    · exact hend H locs ls hP hD hS (lv_sub hl [1, 2, 3, 4] rfl)
    · omega
  | succ q ih =>
    intro k z H locs ls hz hk hP hD hS hl
    subst hz
    refine lv_iload hx hb d_M_series_120 (lv_at hl 0 rfl) ?_
    refine lv_aload_n hx hb d_M_series_122 rfl (lv_at hl 3 rfl) ?_
    refine va_get (D := D) (ci := 3) (v := .int (iz od)) (C := R_M) (T := T_M) (N := 13) hx hb hts in_M hown hK hP 0 rfl rfl 1 (by decide) (hts _ kw_531) (fun _ h9 => h9) rfl d_M_series_123 ?_
    refine rz_icmp_gt (tgt := 221) hx hb d_M_series_126 (by decide) (fun hc2 => ?_) (fun hc2 => ?_)
    · omega
    · refine rz_iconst hx hb d_M_series_129 ?_
      refine lv_istore (lv' := [(14, .int (iz 0)), (13, .int (iz (k : Int))), (11, .long (lk (sI E o T n k))), (10, .int (iz zn)), (0, .ref h), (9, .int (iz zp))]) hx hb d_M_series_130 hl (by decide) rfl (fun ls hl => ?_)
      refine lj_M_series (F := F) (E := E) (T := T) (n := n) (i := k) (S := sI E o T n k) hod ho3 hzn hn0 hn rfl (by omega) hx hb hml hown hts hK hN hR (fun H locs ls hP hD hS hl => ?_) 5 0 _ H locs ls rfl (by omega) hP hD hS (lv_sub hl [0, 2, 1, 3, 4, 5] rfl)
      refine lv_iinc (v := iz ((k : Int) + 1)) (lv' := [(13, .int (iz ((k : Int) + 1))), (11, .long (lk (sI E o T n (k + 1)))), (10, .int (iz zn)), (0, .ref h), (9, .int (iz zp))]) hx hb d_M_series_215 hl (k := 1) rfl (iz_add _ _) (by decide) rfl (fun ls hl => ?_)
      refine lv_goto (tgt := 120) hx hb d_M_series_218 (by decide) ?_
      exact ih (k + 1) _ H locs ls (by omega) (by omega) hP hD hS (lv_sub hl [0, 1, 2, 3, 4] rfl)
set_option maxHeartbeats 4000000 in
set_option maxRecDepth 100000 in
theorem ln_M_series {cJ cI : ClassId} {h : Nat} {cd od : Int} {fc hd md lo : Nat} {lv : Int} {tb rw bs : Nat} {mn : Int} {nu tu : Nat} {o : Nat} (hod : od = (o : Int)) (ho3 : o ≤ 3) {F E : Nat → Nat → ro_K} {T : Nat → ro_K} {zp : Int} (hx : p.tables.exec = Jvm.exec) (hb : c.code = c_M_series) (hml : c.maxLocals = 16) (hown : s.vm.findClass R_M = some m.cls) (hts : ∀ w ∈ kb, w.before args s = true) (hK : va_K D vC [(cJ, .long), (cI, .int)] s) (hN : rc_N s) (hR : 2 ≤ R.frames ∧ 48 ≤ R.locals) (hend : ∀ (H : Heap) (locs : List Loc) (ls : Array Slot), va_P D vC [(h, rM cd od fc hd md lo lv tb rw bs mn nu tu), (fc, k2 cJ 20 5 F), (lo, k2 cJ 20 5 E), (nu, ka cJ 31 (msT E o T (31 - o)))] H → va_D A [(h, rM cd od fc hd md lo lv tb rw bs mn nu tu), (fc, k2 cJ 20 5 F), (lo, k2 cJ 20 5 E), (nu, ka cJ 31 (msT E o T (31 - o)))] → va_S A H0 H locs → lv_has ls 16 [(0, .ref h), (9, .int (iz zp))] → W p l e R s m args below meth c H locs 0 0 Q (F0 m 274 ls [])) : ∀ (q k : Nat) (z : Int) (H : Heap) (locs : List Loc) (ls : Array Slot), z = ((o + k : Nat) : Int) → k + q = 31 - o → va_P D vC [(h, rM cd od fc hd md lo lv tb rw bs mn nu tu), (fc, k2 cJ 20 5 F), (lo, k2 cJ 20 5 E), (nu, ka cJ 31 (msT E o T k))] H → va_D A [(h, rM cd od fc hd md lo lv tb rw bs mn nu tu), (fc, k2 cJ 20 5 F), (lo, k2 cJ 20 5 E), (nu, ka cJ 31 (msT E o T k))] → va_S A H0 H locs → lv_has ls 16 [(10, .int (iz z)), (0, .ref h), (9, .int (iz zp))] → W p l e R s m args below meth c H locs 0 0 Q (F0 m 99 ls []) := by
  intro q
  induction q with
  | zero =>
    intro k z H locs ls hz hk hP hD hS hl
    have e : k = 31 - o := hk
    subst e
    refine lv_iload hx hb d_M_series_99 (lv_at hl 0 rfl) ?_
    refine rz_bipush hx hb d_M_series_101 (by decide) ?_
    refine rz_icmp_gt (tgt := 274) hx hb d_M_series_103 (by decide) (fun hc1 => ?_) (fun hc1 => ?_)
    · exact hend H locs ls hP hD hS (lv_sub hl [1, 2] rfl)
    · omega
  | succ q ih =>
    intro k z H locs ls hz hk hP hD hS hl
    subst hz
    refine lv_iload hx hb d_M_series_99 (lv_at hl 0 rfl) ?_
    refine rz_bipush hx hb d_M_series_101 (by decide) ?_
    refine rz_icmp_gt (tgt := 274) hx hb d_M_series_103 (by decide) (fun hc2 => ?_) (fun hc2 => ?_)
    · omega
    · refine lv_lconst (v := lk 0) hx hb d_M_series_106 rfl ?_
      refine lv_lstore (lv' := [(11, .long (lk 0)), (10, .int (iz ((o + k : Nat) : Int))), (0, .ref h), (9, .int (iz zp))]) hx hb d_M_series_107 hl (by decide) rfl (fun ls hl => ?_)
      refine lv_aload_n hx hb d_M_series_109 rfl (lv_at hl 2 rfl) ?_
      refine va_get (D := D) (ci := 3) (v := .ref nu) (C := R_M) (T := T_M) (N := 13) hx hb hts in_M hown hK hP 0 rfl rfl 11 (by decide) (hts _ kw_541) (fun _ h9 => h9) rfl d_M_series_110 ?_
      refine lv_iload hx hb d_M_series_113 (lv_at hl 1 rfl) ?_
      refine lv_lconst (v := lk 0) hx hb d_M_series_115 rfl ?_
      refine rk_st hx hb hK hP hD hS 3 0 rfl rfl (o + k) d_M_series_116 (fun H locs hP hD hS => ?_)
      have hP : va_P D vC [(h, rM cd od fc hd md lo lv tb rw bs mn nu tu), (fc, k2 cJ 20 5 F), (lo, k2 cJ 20 5 E), (nu, ka cJ 31 (va_up (msT E o T k) (o + k) 0))] H := hP
      have hD : va_D A [(h, rM cd od fc hd md lo lv tb rw bs mn nu tu), (fc, k2 cJ 20 5 F), (lo, k2 cJ 20 5 E), (nu, ka cJ 31 (va_up (msT E o T k) (o + k) 0))] := hD
      refine rz_iconst hx hb d_M_series_117 ?_
      refine lv_istore (lv' := [(13, .int (iz 0)), (11, .long (lk 0)), (10, .int (iz ((o + k : Nat) : Int))), (0, .ref h), (9, .int (iz zp))]) hx hb d_M_series_118 hl (by decide) rfl (fun ls hl => ?_)
      refine li_M_series (F := F) (E := E) (T := (va_up (msT E o T k) (o + k) 0)) (n := o + k) hod ho3 rfl (by omega) (by omega) hx hb hml hown hts hK hN hR (fun H locs ls hP hD hS hl => ?_) (o + 1) 0 _ H locs ls rfl (by omega) hP hD hS (lv_sub hl [0, 1, 2, 3, 4] rfl)
      refine lv_aload_n hx hb d_M_series_221 rfl (lv_at hl 2 rfl) ?_
      refine va_get (D := D) (ci := 3) (v := .ref nu) (C := R_M) (T := T_M) (N := 13) hx hb hts in_M hown hK hP 0 rfl rfl 11 (by decide) (hts _ kw_541) (fun _ h9 => h9) rfl d_M_series_222 ?_
      refine lv_iload hx hb d_M_series_225 (lv_at hl 1 rfl) ?_
      refine lv_lload hx hb d_M_series_227 (lv_at hl 0 rfl) ?_
      refine rlq_lneg hx hb (lq_of (lk_p (sI E o (va_up (msT E o T k) (o + k) 0) (o + k) (o + 1))) (by decide)) d_M_series_229 (fun v3 hv3 => ?_)
      refine rc_calll (va_runS (As := [.long v3]) (rest := [.int (iz ((o + k : Nat) : Int)), .ref nu]) ⟨hx, hb, hml, hown, hts⟩ (m_M_modulo l D v3) (cwS 1 hts (kb_gi (kb_c kw_586 (kb_c kw_587 (kb_c kw_5 (kb_c kw_588 kb_all))))) rfl rfl rfl (by decide +kernel) ⟨Nat.le_trans (by decide) hR.1, Nat.le_trans (by decide) hR.2⟩) ⟨rc_blind, rc_pre hP hD hK hN [] rfl rfl [] rfl⟩ rfl rfl hl.1 rfl (lv_room (Nat.le_of_ble_eq_true rfl)) d_M_series_230 ⟨Nat.zero_le _, Nat.zero_le _⟩) hP hD hS [] rfl (fun _ => rfl) (fun r4 u5 H locs hw5 hP hD hS => ?_)
      rw [hv3.2.2] at hw5
      subst hw5
      have hP : va_P D vC [(h, rM cd od fc hd md lo lv tb rw bs mn nu tu), (fc, k2 cJ 20 5 F), (lo, k2 cJ 20 5 E), (nu, ka cJ 31 (va_up (msT E o T k) (o + k) 0))] H := hP
      have hD : va_D A [(h, rM cd od fc hd md lo lv tb rw bs mn nu tu), (fc, k2 cJ 20 5 F), (lo, k2 cJ 20 5 E), (nu, ka cJ 31 (va_up (msT E o T k) (o + k) 0))] := hD
      refine lv_aload_n hx hb d_M_series_233 rfl (lv_at hl 2 rfl) ?_
      refine va_get (D := D) (ci := 3) (v := .ref lo) (C := R_M) (T := T_M) (N := 13) hx hb hts in_M hown hK hP 0 rfl rfl 5 (by decide) (hts _ kw_535) (fun _ h9 => h9) rfl d_M_series_234 ?_
      refine rz_iconst hx hb d_M_series_237 ?_
      refine lv_aload_n hx hb d_M_series_238 rfl (lv_at hl 2 rfl) ?_
      refine va_get (D := D) (ci := 3) (v := .int (iz od)) (C := R_M) (T := T_M) (N := 13) hx hb hts in_M hown hK hP 0 rfl rfl 1 (by decide) (hts _ kw_531) (fun _ h9 => h9) rfl d_M_series_239 ?_
      refine rz_imul hx hb d_M_series_242 ?_
      refine rm_ld hx hb hK hP 2 0 rfl rfl o 0 d_M_series_243 ?_
      refine lv_iload hx hb d_M_series_244 (lv_at hl 1 rfl) ?_
      refine lv_i2l hx hb d_M_series_246 rfl ?_
      refine lv_aload_n hx hb d_M_series_247 rfl (lv_at hl 2 rfl) ?_
      refine va_get (D := D) (ci := 3) (v := .int (iz od)) (C := R_M) (T := T_M) (N := 13) hx hb hts in_M hown hK hP 0 rfl rfl 1 (by decide) (hts _ kw_531) (fun _ h9 => h9) rfl d_M_series_248 ?_
      refine rc_calll (va_runS (As := [.long ((iz ((o + k : Nat) : Int))).toInt64, .int (iz od)]) (rest := [.long (lk (E o 0)), .long (lk (-(sI E o (va_up (msT E o T k) (o + k) 0) (o + k) (o + 1)))), .int (iz ((o + k : Nat) : Int)), .ref nu]) ⟨hx, hb, hml, hown, hts⟩ (m_M_falling l D ((iz ((o + k : Nat) : Int))).toInt64 ((o + k : Nat) : Int) od o (lx_iz (by omega) (by omega)) (by omega) (by omega) (by omega) (by omega)) (cwS 2 hts (kb_gi (kb_c kw_611 (kb_c kw_612 (kb_c kw_5 (kb_c kw_613 kb_all))))) rfl rfl rfl (by decide +kernel) ⟨Nat.le_trans (by decide) hR.1, Nat.le_trans (by decide) hR.2⟩) ⟨rc_blind, rc_pre hP hD hK hN [] rfl rfl [] rfl⟩ rfl rfl hl.1 rfl (lv_room (Nat.le_of_ble_eq_true rfl)) d_M_series_251 ⟨Nat.zero_le _, Nat.zero_le _⟩) hP hD hS [] rfl (fun _ => rfl) (fun r6 u7 H locs hw7 hP hD hS => ?_)
      subst hw7
      have hP : va_P D vC [(h, rM cd od fc hd md lo lv tb rw bs mn nu tu), (fc, k2 cJ 20 5 F), (lo, k2 cJ 20 5 E), (nu, ka cJ 31 (va_up (msT E o T k) (o + k) 0))] H := hP
      have hD : va_D A [(h, rM cd od fc hd md lo lv tb rw bs mn nu tu), (fc, k2 cJ 20 5 F), (lo, k2 cJ 20 5 E), (nu, ka cJ 31 (va_up (msT E o T k) (o + k) 0))] := hD
      refine rlp_lmul hx hb 1024128004 (lk_p (E o 0)) (lk_p (ro_k (ffz ((o + k : Nat) : Int) o))) d_M_series_254 (fun v8 hv8 => ?_)
      refine lv_ldc2 (v := 32003) hx hb hown (hts _ kw_589) d_M_series_255 ?_
      refine rlp_lrem hx hb hv8 d_M_series_258 ?_
      refine rc_calll (va_runS (As := [.long (lk ((E o 0) * (ro_k (ffz ((o + k : Nat) : Int) o))))]) (rest := [.long (lk (-(sI E o (va_up (msT E o T k) (o + k) 0) (o + k) (o + 1)))), .int (iz ((o + k : Nat) : Int)), .ref nu]) ⟨hx, hb, hml, hown, hts⟩ (m_M_inverse l D ((E o 0) * (ro_k (ffz ((o + k : Nat) : Int) o)))) (cwS 1 hts (kb_gi (kb_c kw_692 (kb_c kw_693 (kb_c kw_5 (kb_c kw_694 kb_all))))) rfl rfl rfl (by decide +kernel) ⟨Nat.le_trans (by decide) hR.1, Nat.le_trans (by decide) hR.2⟩) ⟨rc_blind, rc_pre hP hD hK hN [] rfl rfl [] rfl⟩ rfl rfl hl.1 rfl (lv_room (Nat.le_of_ble_eq_true rfl)) d_M_series_259 ⟨Nat.zero_le _, Nat.zero_le _⟩) hP hD hS [] rfl (fun _ => rfl) (fun r9 u10 H locs hw10 hP hD hS => ?_)
      subst hw10
      have hP : va_P D vC [(h, rM cd od fc hd md lo lv tb rw bs mn nu tu), (fc, k2 cJ 20 5 F), (lo, k2 cJ 20 5 E), (nu, ka cJ 31 (va_up (msT E o T k) (o + k) 0))] H := hP
      have hD : va_D A [(h, rM cd od fc hd md lo lv tb rw bs mn nu tu), (fc, k2 cJ 20 5 F), (lo, k2 cJ 20 5 E), (nu, ka cJ 31 (va_up (msT E o T k) (o + k) 0))] := hD
      refine rlp_lmul hx hb 1024128004 (lk_p (-(sI E o (va_up (msT E o T k) (o + k) 0) (o + k) (o + 1)))) (lk_p (ro_iv ((E o 0) * (ro_k (ffz ((o + k : Nat) : Int) o))))) d_M_series_262 (fun v11 hv11 => ?_)
      refine lv_ldc2 (v := 32003) hx hb hown (hts _ kw_589) d_M_series_263 ?_
      refine rlp_lrem hx hb hv11 d_M_series_266 ?_
      refine rk_st hx hb hK hP hD hS 3 0 rfl rfl (o + k) d_M_series_267 (fun H locs hP hD hS => ?_)
      have hP : va_P D vC [(h, rM cd od fc hd md lo lv tb rw bs mn nu tu), (fc, k2 cJ 20 5 F), (lo, k2 cJ 20 5 E), (nu, ka cJ 31 (va_up (va_up (msT E o T k) (o + k) 0) (o + k) ((-(sI E o (va_up (msT E o T k) (o + k) 0) (o + k) (o + 1))) * (ro_iv ((E o 0) * (ro_k (ffz ((o + k : Nat) : Int) o)))))))] H := hP
      have hD : va_D A [(h, rM cd od fc hd md lo lv tb rw bs mn nu tu), (fc, k2 cJ 20 5 F), (lo, k2 cJ 20 5 E), (nu, ka cJ 31 (va_up (va_up (msT E o T k) (o + k) 0) (o + k) ((-(sI E o (va_up (msT E o T k) (o + k) 0) (o + k) (o + 1))) * (ro_iv ((E o 0) * (ro_k (ffz ((o + k : Nat) : Int) o)))))))] := hD
      refine lv_iinc (v := iz (((o + k : Nat) : Int) + 1)) (lv' := [(10, .int (iz (((o + k : Nat) : Int) + 1))), (11, .long (lk (sI E o (va_up (msT E o T k) (o + k) 0) (o + k) (o + 1)))), (0, .ref h), (9, .int (iz zp))]) hx hb d_M_series_268 hl (k := 1) rfl (iz_add _ _) (by decide) rfl (fun ls hl => ?_)
      refine lv_goto (tgt := 99) hx hb d_M_series_271 (by decide) ?_
      exact ih (k + 1) _ H locs ls (by omega) (by omega) hP hD hS (lv_sub hl [0, 2, 3] rfl)
def ws_M_series : List Cond := .code y_M_series c_M_series 16 (some .int) :: kb
set_option maxHeartbeats 4000000 in
set_option maxRecDepth 100000 in
/-- series -/
theorem m_M_series (l : Launch) (D : va_G) (cJ cI : ClassId) (h : Nat) (cd od : Int) (fc hd md lo : Nat) (lv : Int) (tb rw bs : Nat) (mn : Int) (nu tu : Nat) (F E : Nat → Nat → ro_K) (T : Nat → ro_K) (va vc vd ve : Int64) (zp : Int) (o : Nat) (hod : od = (o : Int)) (ho3 : o ≤ 3) (hzpl : -2147483648 ≤ zp) (hzph : zp < 2147483648) : Met l y_M_series ws_M_series ({ frames := 2, cells := 0, slots := 0, locals := 48 }) (rc_Pc D vC [(cJ, .long), (cI, .int)] [.ref h, .long va, .long vc, .long vd, .long ve, .int (iz zp)] [(h, rM cd od fc hd md lo lv tb rw bs mn nu tu), (fc, k2 cJ 20 5 F), (lo, k2 cJ 20 5 E), (nu, ka cJ 31 T)]) (va_Qi (fun (q : Int32) (u : Int × (Nat → Nat → ro_K) × (Nat → ro_K)) => (¬ (0 ≤ zp ∧ zp ≤ 30) ∧ u = (1, E, T) ∧ q = iz 0) ∨ ((0 ≤ zp ∧ zp ≤ 30) ∧ (mvF (ro_k va.toInt) (c2 F E 20) 4) o 0 = 0 ∧ u = (2, (mvF (ro_k va.toInt) (c2 F E 20) 4), T) ∧ q = iz 0) ∨ ((0 ≤ zp ∧ zp ≤ 30) ∧ (mvF (ro_k va.toInt) (c2 F E 20) 4) o 0 ≠ 0 ∧ u = (0, (mvF (ro_k va.toInt) (c2 F E 20) 4), (msT (mvF (ro_k va.toInt) (c2 F E 20) 4) o (srI T vc vd ve) (31 - o))) ∧ q = iz (((msT (mvF (ro_k va.toInt) (c2 F E 20) 4) o (srI T vc vd ve) (31 - o)) zp.toNat).val : Int))) (fun u t => va_P D vC [(h, rM u.1 od fc hd md lo lv tb rw bs mn nu tu), (fc, k2 cJ 20 5 F), (lo, k2 cJ 20 5 u.2.1), (nu, ka cJ 31 u.2.2)] t.heap) (rc_A [(h, rM cd od fc hd md lo lv tb rw bs mn nu tu), (fc, k2 cJ 20 5 F), (lo, k2 cJ 20 5 E), (nu, ka cJ 31 T)])) 0 0 (rc_A [(h, rM cd od fc hd md lo lv tb rw bs mn nu tu), (fc, k2 cJ 20 5 F), (lo, k2 cJ 20 5 E), (nu, ka cJ 31 T)]) := by
  refine Met.ofW (cc := c_M_series) (maxL := 16) (ret := (some .int)) (by decide) rfl ?_
  intro p e s m args below meth c s₁ B hml hv
  obtain ⟨rfl, hP, hK, hD0, hN⟩ := hv
  have hx := B.exec
  have hb := B.bytes
  have hr := B.returns
  have hts0 := atoms_spec (ws := ws_M_series) B.pre
  have hts : ∀ w ∈ kb, w.before _ s = true := fun w h => hts0 w (List.mem_cons_of_mem _ h)
  have hown : s.vm.findClass R_M = some m.cls := findClass_of_methodNamed B.named
  have hlocks := B.notSynchronized
  have hD := rc_self hD0
  generalize hAe : rc_A [(h, rM cd od fc hd md lo lv tb rw bs mn nu tu), (fc, k2 cJ 20 5 F), (lo, k2 cJ 20 5 E), (nu, ka cJ 31 T)] = A at hD ⊢
  have hS : va_S A s.heap s.heap [] := va_S.rf
  have hl := lv_entry ([.ref h, .long va, .long vc, .long vd, .long ve, .int (iz zp)]) (n := 16) (Nat.le_of_ble_eq_true rfl)
  rw [lg_entry_eq]
  generalize (lg_sl ([.ref h, .long va, .long vc, .long vd, .long ve, .int (iz zp)]) ++ List.replicate (16 - (lg_sl ([.ref h, .long va, .long vc, .long vd, .long ve, .int (iz zp)])).length) Slot.unset).toArray = ls at hl ⊢

  have hl : lv_has ls 16 [(0, .ref h), (1, .long va), (3, .long vc), (5, .long vd), (7, .long ve), (9, .int (iz zp))] := hl
  refine lv_iload hx hb d_M_series_0 (lv_at hl 5 rfl) ?_
  refine lv_i2l hx hb d_M_series_2 rfl ?_
  refine lv_lconst (v := lk 0) hx hb d_M_series_3 rfl ?_
  refine lv_ldc2 (v := 30) hx hb hown (hts _ kw_711) d_M_series_4 ?_
  refine rc_calli (va_runS (As := [.long ((iz zp)).toInt64, .long (lk 0), .long 30]) (rest := []) ⟨hx, hb, hml, hown, hts⟩ (m_M_in l D ((iz zp)).toInt64 (lk 0) 30 zp 0 30 (lx_iz (by omega) (by omega)) (by show Int64.toInt _ = _; decide) (by show Int64.toInt _ = _; decide)) (cwS 3 hts (kb_gi (kb_c kw_582 (kb_c kw_583 (kb_c kw_5 (kb_c kw_584 kb_all))))) rfl rfl rfl (by decide +kernel) ⟨Nat.le_of_ble_eq_true rfl, Nat.le_of_ble_eq_true rfl⟩) ⟨rc_blind, rc_pre hP hD hK hN [] rfl rfl [] rfl⟩ rfl rfl hl.1 rfl (lv_room (Nat.le_of_ble_eq_true rfl)) d_M_series_7 ⟨Nat.zero_le _, Nat.zero_le _⟩) hP hD hS [] rfl (fun _ => rfl) (fun r1 u2 H locs hw2 hP hD hS => ?_)
  subst hw2
  have hP : va_P D vC [(h, rM cd od fc hd md lo lv tb rw bs mn nu tu), (fc, k2 cJ 20 5 F), (lo, k2 cJ 20 5 E), (nu, ka cJ 31 T)] H := hP
  have hD : va_D A [(h, rM cd od fc hd md lo lv tb rw bs mn nu tu), (fc, k2 cJ 20 5 F), (lo, k2 cJ 20 5 E), (nu, ka cJ 31 T)] := hD
  refine rb_if_ne (tgt := 19) hx hb d_M_series_10 (by decide) (fun hc3 => ?_) (fun hc3 => ?_)
  · refine lv_aload_n hx hb d_M_series_19 rfl (lv_at hl 0 rfl) ?_
    refine lv_lload_n hx hb d_M_series_20 rfl (lv_at hl 1 rfl) ?_
    refine rc_calll (va_runS (As := [.long va]) (rest := [.ref h]) ⟨hx, hb, hml, hown, hts⟩ (m_M_modulo l D va) (cwS 1 hts (kb_gi (kb_c kw_586 (kb_c kw_587 (kb_c kw_5 (kb_c kw_588 kb_all))))) rfl rfl rfl (by decide +kernel) ⟨Nat.le_of_ble_eq_true rfl, Nat.le_of_ble_eq_true rfl⟩) ⟨rc_blind, rc_pre hP hD hK hN [] rfl rfl [] rfl⟩ rfl rfl hl.1 rfl (lv_room (Nat.le_of_ble_eq_true rfl)) d_M_series_21 ⟨Nat.zero_le _, Nat.zero_le _⟩) hP hD hS [] rfl (fun _ => rfl) (fun r4 u5 H locs hw5 hP hD hS => ?_)
    subst hw5
    have hP : va_P D vC [(h, rM cd od fc hd md lo lv tb rw bs mn nu tu), (fc, k2 cJ 20 5 F), (lo, k2 cJ 20 5 E), (nu, ka cJ 31 T)] H := hP
    have hD : va_D A [(h, rM cd od fc hd md lo lv tb rw bs mn nu tu), (fc, k2 cJ 20 5 F), (lo, k2 cJ 20 5 E), (nu, ka cJ 31 T)] := hD
    refine rc_callv (va_runV (As := [.long (lk (ro_k va.toInt))]) (rest := []) ⟨hx, hb, hml, hown, hts⟩ (m_M_moveTo l D cJ cI h cd od fc hd md lo lv tb rw bs mn nu tu F E (ro_k va.toInt)) (cwV 1 hts (kb_gi (kb_c kw_602 (kb_c kw_604 (kb_c ks_M_moveTo (kb_c kw_5 (kb_c kw_605 kb_all)))))) rfl rfl rfl (by decide +kernel) ⟨Nat.le_of_ble_eq_true rfl, Nat.le_of_ble_eq_true rfl⟩) ⟨rc_blind, va_recv hK hP (ci := 3) (q0 := 0) rfl rfl, rc_pre hP hD hK hN [0, 1, 2] rfl rfl [0, 1] rfl⟩ rfl rfl hl.1 rfl (lv_room (Nat.le_of_ble_eq_true rfl)) d_M_series_24 ⟨Nat.zero_le _, Nat.zero_le _⟩) hP hD hS [0, 1, 2] rfl (fun _ => rfl) (fun u6 H locs hw6 hP hD hS => ?_)
    have hP : va_P D vC [(h, rM cd od fc hd md lo lv tb rw bs mn nu tu), (fc, k2 cJ 20 5 F), (lo, k2 cJ 20 5 (mvF (ro_k va.toInt) (c2 F E 20) 4)), (nu, ka cJ 31 T)] H := hP
    have hD : va_D A [(h, rM cd od fc hd md lo lv tb rw bs mn nu tu), (fc, k2 cJ 20 5 F), (lo, k2 cJ 20 5 (mvF (ro_k va.toInt) (c2 F E 20) 4)), (nu, ka cJ 31 T)] := hD
    refine lv_aload_n hx hb d_M_series_27 rfl (lv_at hl 0 rfl) ?_
    refine lv_aload_n hx hb d_M_series_28 rfl (lv_at hl 0 rfl) ?_
    refine va_get (D := D) (ci := 3) (v := .ref lo) (C := R_M) (T := T_M) (N := 13) hx hb hts in_M hown hK hP 0 rfl rfl 5 (by decide) (hts _ kw_535) (fun _ h9 => h9) rfl d_M_series_29 ?_
    refine rz_iconst hx hb d_M_series_32 ?_
    refine lv_aload_n hx hb d_M_series_33 rfl (lv_at hl 0 rfl) ?_
    refine va_get (D := D) (ci := 3) (v := .int (iz od)) (C := R_M) (T := T_M) (N := 13) hx hb hts in_M hown hK hP 0 rfl rfl 1 (by decide) (hts _ kw_531) (fun _ h9 => h9) rfl d_M_series_34 ?_
    refine rz_imul hx hb d_M_series_37 ?_
    refine rm_ld hx hb hK hP 2 0 rfl rfl o 0 d_M_series_38 ?_
    refine lv_lconst (v := lk 0) hx hb d_M_series_39 rfl ?_
    refine rz_lcmp_ne (tgt := 48) hx hb d_M_series_40 d_M_series_41 (by decide) (fun hc7 => ?_) (fun hc7 => ?_)
    · have hc7 : ((mvF (ro_k va.toInt) (c2 F E 20) 4) o 0) ≠ 0 := fun z => hc7 (lk_inj.mpr z)
      refine rz_iconst hx hb d_M_series_48 ?_
      refine va_put (D := D) (ci := 3) (v := .int (iz 0)) (ty := .int) (C := R_M) (T := T_M) (N := 13) hx hb hts in_M ty_M tk_M nm_M hown hK hP hD hS 0 rfl rfl 0 (by decide) (hts _ kw_530) (fun _ h9 => h9) rfl (by decide +kernel) rfl rfl (Nat.le_of_ble_eq_true rfl) d_M_series_49 (fun H locs hP hD hS => ?_)
      have hP : va_P D vC [(h, rM 0 od fc hd md lo lv tb rw bs mn nu tu), (fc, k2 cJ 20 5 F), (lo, k2 cJ 20 5 (mvF (ro_k va.toInt) (c2 F E 20) 4)), (nu, ka cJ 31 T)] H := hP
      have hD : va_D A [(h, rM 0 od fc hd md lo lv tb rw bs mn nu tu), (fc, k2 cJ 20 5 F), (lo, k2 cJ 20 5 (mvF (ro_k va.toInt) (c2 F E 20) 4)), (nu, ka cJ 31 T)] := hD
      refine lv_aload_n hx hb d_M_series_52 rfl (lv_at hl 0 rfl) ?_
      refine va_get (D := D) (ci := 3) (v := .int (iz 0)) (C := R_M) (T := T_M) (N := 13) hx hb hts in_M hown hK hP 0 rfl rfl 0 (by decide) (hts _ kw_530) (fun _ h9 => h9) rfl d_M_series_53 ?_
      refine rz_if_le (tgt := 61) hx hb d_M_series_56 (by decide) (fun _ => ?_) (fun hc => absurd hc (by decide))
      refine lv_aload_n hx hb d_M_series_61 rfl (lv_at hl 0 rfl) ?_
      refine va_get (D := D) (ci := 3) (v := .ref nu) (C := R_M) (T := T_M) (N := 13) hx hb hts in_M hown hK hP 0 rfl rfl 11 (by decide) (hts _ kw_541) (fun _ h9 => h9) rfl d_M_series_62 ?_
      refine rz_iconst hx hb d_M_series_65 ?_
      refine lv_lload_n hx hb d_M_series_66 rfl (lv_at hl 2 rfl) ?_
      refine rc_calll (va_runS (As := [.long vc]) (rest := [.int (iz 0), .ref nu]) ⟨hx, hb, hml, hown, hts⟩ (m_M_modulo l D vc) (cwS 1 hts (kb_gi (kb_c kw_586 (kb_c kw_587 (kb_c kw_5 (kb_c kw_588 kb_all))))) rfl rfl rfl (by decide +kernel) ⟨Nat.le_of_ble_eq_true rfl, Nat.le_of_ble_eq_true rfl⟩) ⟨rc_blind, rc_pre hP hD hK hN [] rfl rfl [] rfl⟩ rfl rfl hl.1 rfl (lv_room (Nat.le_of_ble_eq_true rfl)) d_M_series_67 ⟨Nat.zero_le _, Nat.zero_le _⟩) hP hD hS [] rfl (fun _ => rfl) (fun r8 u9 H locs hw9 hP hD hS => ?_)
      subst hw9
      have hP : va_P D vC [(h, rM 0 od fc hd md lo lv tb rw bs mn nu tu), (fc, k2 cJ 20 5 F), (lo, k2 cJ 20 5 (mvF (ro_k va.toInt) (c2 F E 20) 4)), (nu, ka cJ 31 T)] H := hP
      have hD : va_D A [(h, rM 0 od fc hd md lo lv tb rw bs mn nu tu), (fc, k2 cJ 20 5 F), (lo, k2 cJ 20 5 (mvF (ro_k va.toInt) (c2 F E 20) 4)), (nu, ka cJ 31 T)] := hD
      refine rk_st hx hb hK hP hD hS 3 0 rfl rfl 0 d_M_series_70 (fun H locs hP hD hS => ?_)
      have hP : va_P D vC [(h, rM 0 od fc hd md lo lv tb rw bs mn nu tu), (fc, k2 cJ 20 5 F), (lo, k2 cJ 20 5 (mvF (ro_k va.toInt) (c2 F E 20) 4)), (nu, ka cJ 31 (va_up T 0 (ro_k vc.toInt)))] H := hP
      have hD : va_D A [(h, rM 0 od fc hd md lo lv tb rw bs mn nu tu), (fc, k2 cJ 20 5 F), (lo, k2 cJ 20 5 (mvF (ro_k va.toInt) (c2 F E 20) 4)), (nu, ka cJ 31 (va_up T 0 (ro_k vc.toInt)))] := hD
      refine lv_aload_n hx hb d_M_series_71 rfl (lv_at hl 0 rfl) ?_
      refine va_get (D := D) (ci := 3) (v := .ref nu) (C := R_M) (T := T_M) (N := 13) hx hb hts in_M hown hK hP 0 rfl rfl 11 (by decide) (hts _ kw_541) (fun _ h9 => h9) rfl d_M_series_72 ?_
      refine rz_iconst hx hb d_M_series_75 ?_
      refine lv_lload hx hb d_M_series_76 (lv_at hl 3 rfl) ?_
      refine rc_calll (va_runS (As := [.long vd]) (rest := [.int (iz 1), .ref nu]) ⟨hx, hb, hml, hown, hts⟩ (m_M_modulo l D vd) (cwS 1 hts (kb_gi (kb_c kw_586 (kb_c kw_587 (kb_c kw_5 (kb_c kw_588 kb_all))))) rfl rfl rfl (by decide +kernel) ⟨Nat.le_of_ble_eq_true rfl, Nat.le_of_ble_eq_true rfl⟩) ⟨rc_blind, rc_pre hP hD hK hN [] rfl rfl [] rfl⟩ rfl rfl hl.1 rfl (lv_room (Nat.le_of_ble_eq_true rfl)) d_M_series_78 ⟨Nat.zero_le _, Nat.zero_le _⟩) hP hD hS [] rfl (fun _ => rfl) (fun r10 u11 H locs hw11 hP hD hS => ?_)
      subst hw11
      have hP : va_P D vC [(h, rM 0 od fc hd md lo lv tb rw bs mn nu tu), (fc, k2 cJ 20 5 F), (lo, k2 cJ 20 5 (mvF (ro_k va.toInt) (c2 F E 20) 4)), (nu, ka cJ 31 (va_up T 0 (ro_k vc.toInt)))] H := hP
      have hD : va_D A [(h, rM 0 od fc hd md lo lv tb rw bs mn nu tu), (fc, k2 cJ 20 5 F), (lo, k2 cJ 20 5 (mvF (ro_k va.toInt) (c2 F E 20) 4)), (nu, ka cJ 31 (va_up T 0 (ro_k vc.toInt)))] := hD
      refine rk_st hx hb hK hP hD hS 3 0 rfl rfl 1 d_M_series_81 (fun H locs hP hD hS => ?_)
      have hP : va_P D vC [(h, rM 0 od fc hd md lo lv tb rw bs mn nu tu), (fc, k2 cJ 20 5 F), (lo, k2 cJ 20 5 (mvF (ro_k va.toInt) (c2 F E 20) 4)), (nu, ka cJ 31 (va_up (va_up T 0 (ro_k vc.toInt)) 1 (ro_k vd.toInt)))] H := hP
      have hD : va_D A [(h, rM 0 od fc hd md lo lv tb rw bs mn nu tu), (fc, k2 cJ 20 5 F), (lo, k2 cJ 20 5 (mvF (ro_k va.toInt) (c2 F E 20) 4)), (nu, ka cJ 31 (va_up (va_up T 0 (ro_k vc.toInt)) 1 (ro_k vd.toInt)))] := hD
      refine lv_aload_n hx hb d_M_series_82 rfl (lv_at hl 0 rfl) ?_
      refine va_get (D := D) (ci := 3) (v := .ref nu) (C := R_M) (T := T_M) (N := 13) hx hb hts in_M hown hK hP 0 rfl rfl 11 (by decide) (hts _ kw_541) (fun _ h9 => h9) rfl d_M_series_83 ?_
      refine rz_iconst hx hb d_M_series_86 ?_
      refine lv_lload hx hb d_M_series_87 (lv_at hl 4 rfl) ?_
      refine rc_calll (va_runS (As := [.long ve]) (rest := [.int (iz 2), .ref nu]) ⟨hx, hb, hml, hown, hts⟩ (m_M_modulo l D ve) (cwS 1 hts (kb_gi (kb_c kw_586 (kb_c kw_587 (kb_c kw_5 (kb_c kw_588 kb_all))))) rfl rfl rfl (by decide +kernel) ⟨Nat.le_of_ble_eq_true rfl, Nat.le_of_ble_eq_true rfl⟩) ⟨rc_blind, rc_pre hP hD hK hN [] rfl rfl [] rfl⟩ rfl rfl hl.1 rfl (lv_room (Nat.le_of_ble_eq_true rfl)) d_M_series_89 ⟨Nat.zero_le _, Nat.zero_le _⟩) hP hD hS [] rfl (fun _ => rfl) (fun r12 u13 H locs hw13 hP hD hS => ?_)
      subst hw13
      have hP : va_P D vC [(h, rM 0 od fc hd md lo lv tb rw bs mn nu tu), (fc, k2 cJ 20 5 F), (lo, k2 cJ 20 5 (mvF (ro_k va.toInt) (c2 F E 20) 4)), (nu, ka cJ 31 (va_up (va_up T 0 (ro_k vc.toInt)) 1 (ro_k vd.toInt)))] H := hP
      have hD : va_D A [(h, rM 0 od fc hd md lo lv tb rw bs mn nu tu), (fc, k2 cJ 20 5 F), (lo, k2 cJ 20 5 (mvF (ro_k va.toInt) (c2 F E 20) 4)), (nu, ka cJ 31 (va_up (va_up T 0 (ro_k vc.toInt)) 1 (ro_k vd.toInt)))] := hD
      refine rk_st hx hb hK hP hD hS 3 0 rfl rfl 2 d_M_series_92 (fun H locs hP hD hS => ?_)
      have hP : va_P D vC [(h, rM 0 od fc hd md lo lv tb rw bs mn nu tu), (fc, k2 cJ 20 5 F), (lo, k2 cJ 20 5 (mvF (ro_k va.toInt) (c2 F E 20) 4)), (nu, ka cJ 31 (va_up (va_up (va_up T 0 (ro_k vc.toInt)) 1 (ro_k vd.toInt)) 2 (ro_k ve.toInt)))] H := hP
      have hD : va_D A [(h, rM 0 od fc hd md lo lv tb rw bs mn nu tu), (fc, k2 cJ 20 5 F), (lo, k2 cJ 20 5 (mvF (ro_k va.toInt) (c2 F E 20) 4)), (nu, ka cJ 31 (va_up (va_up (va_up T 0 (ro_k vc.toInt)) 1 (ro_k vd.toInt)) 2 (ro_k ve.toInt)))] := hD
      refine lv_aload_n hx hb d_M_series_93 rfl (lv_at hl 0 rfl) ?_
      refine va_get (D := D) (ci := 3) (v := .int (iz od)) (C := R_M) (T := T_M) (N := 13) hx hb hts in_M hown hK hP 0 rfl rfl 1 (by decide) (hts _ kw_531) (fun _ h9 => h9) rfl d_M_series_94 ?_
      refine lv_istore (lv' := [(10, .int (iz od)), (0, .ref h), (1, .long va), (3, .long vc), (5, .long vd), (7, .long ve), (9, .int (iz zp))]) hx hb d_M_series_97 hl (by decide) rfl (fun ls hl => ?_)
      refine ln_M_series (F := F) (E := (mvF (ro_k va.toInt) (c2 F E 20) 4)) (T := (srI T vc vd ve)) hod ho3 hx hb hml hown hts hK hN ⟨Nat.le_of_ble_eq_true rfl, Nat.le_of_ble_eq_true rfl⟩ (fun H locs ls hP hD hS hl => ?_) (31 - o) 0 _ H locs ls (by omega) (by omega) hP hD hS (lv_sub hl [0, 1, 6] rfl)
      refine lv_aload_n hx hb d_M_series_274 rfl (lv_at hl 0 rfl) ?_
      refine va_get (D := D) (ci := 3) (v := .ref nu) (C := R_M) (T := T_M) (N := 13) hx hb hts in_M hown hK hP 0 rfl rfl 11 (by decide) (hts _ kw_541) (fun _ h9 => h9) rfl d_M_series_275 ?_
      refine lv_iload hx hb d_M_series_278 (lv_at hl 1 rfl) ?_
      refine rk_ld hx hb hK hP 3 0 rfl rfl zp.toNat d_M_series_280 ?_
      refine rz_l2i hx hb d_M_series_281 ?_
      exact W.iret hx hb hr (fun t ht hW => ⟨⟨_, (0, (mvF (ro_k va.toInt) (c2 F E 20) 4), (msT (mvF (ro_k va.toInt) (c2 F E 20) 4) o (srI T vc vd ve) (31 - o))), rfl, (Or.inr (Or.inr ⟨by assumption, by assumption, rfl, rfl⟩)), rc_out ht hP⟩, hS.F ht⟩) hS.2.2 d_M_series_282
    · have hc7 : ((mvF (ro_k va.toInt) (c2 F E 20) 4) o 0) = 0 := lk_inj.mp hc7
      refine rz_iconst hx hb d_M_series_44 ?_
      refine lv_goto (tgt := 49) hx hb d_M_series_45 (by decide) ?_
      refine va_put (D := D) (ci := 3) (v := .int (iz 2)) (ty := .int) (C := R_M) (T := T_M) (N := 13) hx hb hts in_M ty_M tk_M nm_M hown hK hP hD hS 0 rfl rfl 0 (by decide) (hts _ kw_530) (fun _ h9 => h9) rfl (by decide +kernel) rfl rfl (Nat.le_of_ble_eq_true rfl) d_M_series_49 (fun H locs hP hD hS => ?_)
      have hP : va_P D vC [(h, rM 2 od fc hd md lo lv tb rw bs mn nu tu), (fc, k2 cJ 20 5 F), (lo, k2 cJ 20 5 (mvF (ro_k va.toInt) (c2 F E 20) 4)), (nu, ka cJ 31 T)] H := hP
      have hD : va_D A [(h, rM 2 od fc hd md lo lv tb rw bs mn nu tu), (fc, k2 cJ 20 5 F), (lo, k2 cJ 20 5 (mvF (ro_k va.toInt) (c2 F E 20) 4)), (nu, ka cJ 31 T)] := hD
      refine lv_aload_n hx hb d_M_series_52 rfl (lv_at hl 0 rfl) ?_
      refine va_get (D := D) (ci := 3) (v := .int (iz 2)) (C := R_M) (T := T_M) (N := 13) hx hb hts in_M hown hK hP 0 rfl rfl 0 (by decide) (hts _ kw_530) (fun _ h9 => h9) rfl d_M_series_53 ?_
      refine rz_if_le (tgt := 61) hx hb d_M_series_56 (by decide) (fun hc => absurd hc (by decide)) (fun _ => ?_)
      refine rz_iconst hx hb d_M_series_59 ?_
      exact W.iret hx hb hr (fun t ht hW => ⟨⟨_, (2, (mvF (ro_k va.toInt) (c2 F E 20) 4), T), rfl, (Or.inr (Or.inl ⟨by assumption, by assumption, rfl, rfl⟩)), rc_out ht hP⟩, hS.F ht⟩) hS.2.2 d_M_series_60
  · refine lv_aload_n hx hb d_M_series_13 rfl (lv_at hl 0 rfl) ?_
    refine rz_iconst hx hb d_M_series_14 ?_
    refine rc_calli (va_runV (As := [.int (iz 1)]) (rest := []) ⟨hx, hb, hml, hown, hts⟩ (m_M_raise l D h cd od fc hd md lo lv tb rw bs mn nu tu 1) (cwV 1 hts (kb_gi (kb_c kw_656 (kb_c kw_658 (kb_c ks_M_raise (kb_c kw_5 (kb_c kw_659 kb_all)))))) rfl rfl rfl (by decide +kernel) ⟨Nat.le_of_ble_eq_true rfl, Nat.le_of_ble_eq_true rfl⟩) ⟨rc_blind, va_recv hK hP (ci := 3) (q0 := 0) rfl rfl, rc_pre hP hD hK hN [0] rfl rfl [] rfl⟩ rfl rfl hl.1 rfl (lv_room (Nat.le_of_ble_eq_true rfl)) d_M_series_15 ⟨Nat.zero_le _, Nat.zero_le _⟩) hP hD hS [0] rfl (fun _ => rfl) (fun r14 u15 H locs hw15 hP hD hS => ?_)
    subst hw15
    have hP : va_P D vC [(h, rM 1 od fc hd md lo lv tb rw bs mn nu tu), (fc, k2 cJ 20 5 F), (lo, k2 cJ 20 5 E), (nu, ka cJ 31 T)] H := hP
    have hD : va_D A [(h, rM 1 od fc hd md lo lv tb rw bs mn nu tu), (fc, k2 cJ 20 5 F), (lo, k2 cJ 20 5 E), (nu, ka cJ 31 T)] := hD
    exact W.iret hx hb hr (fun t ht hW => ⟨⟨_, (1, E, T), rfl, (Or.inl ⟨by assumption, rfl, rfl⟩), rc_out ht hP⟩, hS.F ht⟩) hS.2.2 d_M_series_18
end WK
