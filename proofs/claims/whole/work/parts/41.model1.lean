section WK
variable {p : Program} {l : Launch} {e : Env} {R : Room} {s : State} {m : MethodId} {args : Array Value} {below : List Frame} {meth : Method} {c : Code} {H : Heap} {locs : List Loc} {cells slots : Nat} {Q : State → Prop} {D : va_G} {A : Nat → Prop} {H0 : Heap}
def ws_M_modulo : List Cond := .code y_M_modulo c_M_modulo 4 (some .long) :: kb
set_option maxHeartbeats 4000000 in
set_option maxRecDepth 100000 in
/-- the number that a long is -/
theorem m_M_modulo (l : Launch) (D : va_G) (v : Int64) : Met l y_M_modulo ws_M_modulo ({ frames := 0, cells := 0, slots := 0, locals := 0 }) (rc_Pc D vC [] [.long v] []) (va_Ql (fun (r : Int64) (_ : Unit) => r = lk (ro_k v.toInt)) (fun _ t => va_P D vC [] t.heap) (rc_A [])) 0 0 (rc_A []) := by
  refine Met.ofW (cc := c_M_modulo) (maxL := 4) (ret := (some .long)) (by decide) rfl ?_
  intro p e s m args below meth c s₁ B hml hv
  obtain ⟨rfl, hP, hK, hD0, hN⟩ := hv
  have hx := B.exec
  have hb := B.bytes
  have hr := B.returns
  have hts0 := atoms_spec (ws := ws_M_modulo) B.pre
  have hts : ∀ w ∈ kb, w.before _ s = true := fun w h => hts0 w (List.mem_cons_of_mem _ h)
  have hown : s.vm.findClass R_M = some m.cls := findClass_of_methodNamed B.named
  have hlocks := B.notSynchronized
  have hD := rc_self hD0
  generalize hAe : rc_A [] = A at hD ⊢
  have hS : va_S A s.heap s.heap [] := va_S.rf
  have hl := lv_entry ([.long v]) (n := 4) (Nat.le_of_ble_eq_true rfl)
  rw [lg_entry_eq]
  generalize (lg_sl ([.long v]) ++ List.replicate (4 - (lg_sl ([.long v])).length) Slot.unset).toArray = ls at hl ⊢

  have hl : lv_has ls 4 [(0, .long v)] := hl
  obtain ⟨b1, b2, b3⟩ := tm_k v.toInt
  refine lv_lload_n hx hb d_M_modulo_0 rfl (lv_at hl 0 rfl) ?_
  refine lv_ldc2 (v := 32003) hx hb hown (hts _ kw_589) d_M_modulo_1 ?_
  refine lv_lrem hx hb d_M_modulo_4 (by decide) ?_
  rw [nb_rem]
  generalize v.toInt.tmod 32003 = z at b1 b2 b3 ⊢
  refine lv_lstore_n (lv' := [(2, .long (lz z)), (0, .long v)]) hx hb d_M_modulo_5 rfl hl (by decide) rfl (fun ls hl => ?_)
  refine lv_lload_n hx hb d_M_modulo_6 rfl (lv_at hl 0 rfl) ?_
  refine lv_lconst (v := lz 0) hx hb d_M_modulo_7 rfl ?_
  refine rz_lcmp_ge (tgt := 20) hx hb d_M_modulo_8 d_M_modulo_9 (by decide) (fun hc => ?_) (fun hc => ?_)
  · rw [Int64.le_iff_toInt_le, lz_toInt (by decide) (by decide), lz_toInt (by omega) (by omega)] at hc
    refine lv_lload_n hx hb d_M_modulo_20 rfl (lv_at hl 0 rfl) ?_
    exact W.lret hx hb hr (fun t ht hW => ⟨⟨_, (), rfl, nb_k rfl hc b2 b3, rc_out ht hP⟩, hS.F ht⟩) hS.2.2 d_M_modulo_21
  · rw [Int64.le_iff_toInt_le, lz_toInt (by decide) (by decide), lz_toInt (by omega) (by omega)] at hc
    refine lv_lload_n hx hb d_M_modulo_12 rfl (lv_at hl 0 rfl) ?_
    refine lv_ldc2 (v := 32003) hx hb hown (hts _ kw_589) d_M_modulo_13 ?_
    refine lv_ladd hx hb d_M_modulo_16 ?_
    refine lv_goto (tgt := 21) hx hb d_M_modulo_17 (by decide) ?_
    have e3 : lz z + 32003 = lz (z + 32003) := lz_add z 32003
    rw [e3]
    exact W.lret hx hb hr (fun t ht hW => ⟨⟨_, (), rfl, nb_k rfl (by omega) (by omega) (by rw [← b3, ro_k_eq]; omega), rc_out ht hP⟩, hS.F ht⟩) hS.2.2 d_M_modulo_21
theorem in_no1 {v lo hi : Int64} (h : v < lo) : ¬ (lo.toInt ≤ v.toInt ∧ v.toInt ≤ hi.toInt) := by
  have := Int64.lt_iff_toInt_lt.mp h
  omega
theorem in_no2 {v lo hi : Int64} (h : hi < v) : ¬ (lo.toInt ≤ v.toInt ∧ v.toInt ≤ hi.toInt) := by
  have := Int64.lt_iff_toInt_lt.mp h
  omega
theorem in_yes {v lo hi : Int64} (h : ¬ v < lo) (h2 : ¬ hi < v) : lo.toInt ≤ v.toInt ∧ v.toInt ≤ hi.toInt := by
  rw [Int64.lt_iff_toInt_lt] at h h2
  omega
def ws_M_in : List Cond := .code y_M_in c_M_in 6 (some .boolean) :: kb
set_option maxHeartbeats 4000000 in
set_option maxRecDepth 100000 in
/-- between -/
theorem m_M_in (l : Launch) (D : va_G) (v lo hi : Int64) (zv zl zh : Int) (hv : lx v zv) (hlo : lx lo zl) (hhi : lx hi zh) : Met l y_M_in ws_M_in ({ frames := 0, cells := 0, slots := 0, locals := 0 }) (rc_Pc D vC [] [.long v, .long lo, .long hi] []) (va_Qi (fun (q : Int32) (_ : Unit) => q = if zl ≤ zv ∧ zv ≤ zh then iz 1 else iz 0) (fun _ t => va_P D vC [] t.heap) (rc_A [])) 0 0 (rc_A []) := by
  refine Met.ofW (cc := c_M_in) (maxL := 6) (ret := (some .boolean)) (by decide) rfl ?_
  intro p e s m args below meth c s₁ B hml hv
  obtain ⟨rfl, hP, hK, hD0, hN⟩ := hv
  have hx := B.exec
  have hb := B.bytes
  have hr := B.returns
  have hts0 := atoms_spec (ws := ws_M_in) B.pre
  have hts : ∀ w ∈ kb, w.before _ s = true := fun w h => hts0 w (List.mem_cons_of_mem _ h)
  have hown : s.vm.findClass R_M = some m.cls := findClass_of_methodNamed B.named
  have hlocks := B.notSynchronized
  have hD := rc_self hD0
  generalize hAe : rc_A [] = A at hD ⊢
  have hS : va_S A s.heap s.heap [] := va_S.rf
  have hl := lv_entry ([.long v, .long lo, .long hi]) (n := 6) (Nat.le_of_ble_eq_true rfl)
  rw [lg_entry_eq]
  generalize (lg_sl ([.long v, .long lo, .long hi]) ++ List.replicate (6 - (lg_sl ([.long v, .long lo, .long hi])).length) Slot.unset).toArray = ls at hl ⊢

  have hl : lv_has ls 6 [(0, .long v), (2, .long lo), (4, .long hi)] := hl
  unfold lx at hv hlo hhi
  subst hv
  subst hlo
  subst hhi
  refine lv_lload_n hx hb d_M_in_0 rfl (lv_at hl 0 rfl) ?_
  refine lv_lload_n hx hb d_M_in_1 rfl (lv_at hl 1 rfl) ?_
  refine rz_lcmp_lt (tgt := 17) hx hb d_M_in_2 d_M_in_3 (by decide) (fun hc1 => ?_) (fun hc1 => ?_)
  · refine rz_iconst hx hb d_M_in_17 ?_
    exact W.zret hx hb hr rfl (fun t ht hW => ⟨⟨_, (), rfl, (by rw [if_neg (by first | exact in_no1 (by assumption) | exact in_no2 (by assumption) | exact in_yes (by assumption) (by assumption))]), rc_out ht hP⟩, hS.F ht⟩) hS.2.2 d_M_in_18
  · refine lv_lload_n hx hb d_M_in_6 rfl (lv_at hl 0 rfl) ?_
    refine lv_lload hx hb d_M_in_7 (lv_at hl 2 rfl) ?_
    refine rz_lcmp_gt (tgt := 17) hx hb d_M_in_9 d_M_in_10 (by decide) (fun hc2 => ?_) (fun hc2 => ?_)
    · refine rz_iconst hx hb d_M_in_17 ?_
      exact W.zret hx hb hr rfl (fun t ht hW => ⟨⟨_, (), rfl, (by rw [if_neg (by first | exact in_no1 (by assumption) | exact in_no2 (by assumption) | exact in_yes (by assumption) (by assumption))]), rc_out ht hP⟩, hS.F ht⟩) hS.2.2 d_M_in_18
    · refine rz_iconst hx hb d_M_in_13 ?_
      refine lv_goto (tgt := 18) hx hb d_M_in_14 (by decide) ?_
      exact W.zret hx hb hr rfl (fun t ht hW => ⟨⟨_, (), rfl, (by rw [if_pos (by first | exact in_no1 (by assumption) | exact in_no2 (by assumption) | exact in_yes (by assumption) (by assumption))]), rc_out ht hP⟩, hS.F ht⟩) hS.2.2 d_M_in_18
theorem pw_half (x : ro_K) (n : Nat) : ro_pw x n = (if n % 2 = 1 then x else 1) * ro_pw (x * x) (n / 2) := by
  rw [ro_pw_mul, ← ro_pw_add]
  by_cases h : n % 2 = 1
  · rw [if_pos h]
    have e : n = n / 2 + n / 2 + 1 := by omega
    have e2 : ro_pw x (n / 2 + n / 2 + 1) = ro_pw x (n / 2 + n / 2) * x := rfl
    rw [← e] at e2
    rw [e2]
    grind
  · rw [if_neg h, show n / 2 + n / 2 = n by omega]
    grind
set_option maxHeartbeats 4000000 in
set_option maxRecDepth 100000 in
theorem lo_M_inverse {g : ro_K} (hx : p.tables.exec = Jvm.exec) (hb : c.code = c_M_inverse) (hown : s.vm.findClass R_M = some m.cls) (hts : ∀ w ∈ kb, w.before args s = true) (hend : ∀ (ls : Array Slot), lv_has ls 7 [(2, .long (lk g))] → W p l e R s m args below meth c H locs 0 0 Q (F0 m 56 ls [])) : ∀ (f n : Nat) (r y : ro_K) (z : Int) (ls : Array Slot), n ≤ f → n < 2147483648 → z = (n : Int) → r * ro_pw y n = g → lv_has ls 7 [(6, .int (iz z)), (4, .long (lk y)), (2, .long (lk r))] → W p l e R s m args below meth c H locs 0 0 Q (F0 m 10 ls []) := by
  intro f
  induction f with
  | zero =>
    intro n r y z ls hf hn2 hz hg hl
    refine lv_iload hx hb d_M_inverse_10 (lv_at hl 0 rfl) ?_
    refine rz_if_le (tgt := 56) hx hb d_M_inverse_12 (by decide) (fun hc1 => ?_) (fun hc1 => ?_)
    · have e : n = 0 := by omega
      subst e
      have e2 : r = g := by rw [← hg]; show r = r * 1; grind
      subst e2
      exact hend ls (lv_sub hl [2] rfl)
    · omega
  | succ f ih =>
    intro n r y z ls hf hn2 hz hg hl
    have hp := pw_half y n
    refine lv_iload hx hb d_M_inverse_10 (lv_at hl 0 rfl) ?_
    refine rz_if_le (tgt := 56) hx hb d_M_inverse_12 (by decide) (fun hc2 => ?_) (fun hc2 => ?_)
    · have e : n = 0 := by omega
      subst e
      have e2 : r = g := by rw [← hg]; show r = r * 1; grind
      subst e2
      exact hend ls (lv_sub hl [2] rfl)
    · refine lv_iload hx hb d_M_inverse_15 (lv_at hl 0 rfl) ?_
      refine rz_iconst hx hb d_M_inverse_17 ?_
      subst hz
      refine lv_irem (x := iz (n : Int)) (y := iz 2) hx hb d_M_inverse_18 (by decide) ?_
      rw [iz_rem2 hn2]
      refine rz_iconst hx hb d_M_inverse_19 ?_
      refine rz_icmp_ne (tgt := 34) hx hb d_M_inverse_20 (by decide) (fun hc3 => ?_) (fun hc3 => ?_)
      · refine lv_lload_n hx hb d_M_inverse_34 rfl (lv_at hl 2 rfl) ?_
        refine lv_lstore_n (lv' := [(2, .long (lk r)), (6, .int (iz (n : Int))), (4, .long (lk y))]) hx hb d_M_inverse_35 rfl hl (by decide) rfl (fun ls hl => ?_)
        refine lv_lload hx hb d_M_inverse_36 (lv_at hl 2 rfl) ?_
        refine lv_lload hx hb d_M_inverse_38 (lv_at hl 2 rfl) ?_
        refine rlp_lmul hx hb 1024128004 (lk_p y) (lk_p y) d_M_inverse_40 (fun v4 hv4 => ?_)
        refine lv_ldc2 (v := 32003) hx hb hown (hts _ kw_589) d_M_inverse_41 ?_
        refine rlp_lrem hx hb hv4 d_M_inverse_44 ?_
        refine lv_lstore (lv' := [(4, .long (lk (y * y))), (2, .long (lk r)), (6, .int (iz (n : Int)))]) hx hb d_M_inverse_45 hl (by decide) rfl (fun ls hl => ?_)
        refine lv_iload hx hb d_M_inverse_47 (lv_at hl 2 rfl) ?_
        refine rz_iconst hx hb d_M_inverse_49 ?_
        refine lv_idiv (x := iz (n : Int)) (y := iz 2) hx hb d_M_inverse_50 (by decide) ?_
        rw [iz_half hn2]
        refine lv_istore (lv' := [(6, .int (iz ((n / 2 : Nat) : Int))), (4, .long (lk (y * y))), (2, .long (lk r))]) hx hb d_M_inverse_51 hl (by decide) rfl (fun ls hl => ?_)
        refine lv_goto (tgt := 10) hx hb d_M_inverse_53 (by decide) ?_
        exact ih (n / 2) r (y * y) _ ls (by omega) (by omega) rfl (by rw [hp, if_neg (by omega)] at hg; rw [← hg]; grind) (lv_sub hl [0, 1, 2] rfl)
      · refine lv_lload_n hx hb d_M_inverse_23 rfl (lv_at hl 2 rfl) ?_
        refine lv_lload hx hb d_M_inverse_24 (lv_at hl 1 rfl) ?_
        refine rlp_lmul hx hb 1024128004 (lk_p r) (lk_p y) d_M_inverse_26 (fun v5 hv5 => ?_)
        refine lv_ldc2 (v := 32003) hx hb hown (hts _ kw_589) d_M_inverse_27 ?_
        refine rlp_lrem hx hb hv5 d_M_inverse_30 ?_
        refine lv_goto (tgt := 35) hx hb d_M_inverse_31 (by decide) ?_
        refine lv_lstore_n (lv' := [(2, .long (lk (r * y))), (6, .int (iz (n : Int))), (4, .long (lk y))]) hx hb d_M_inverse_35 rfl hl (by decide) rfl (fun ls hl => ?_)
        refine lv_lload hx hb d_M_inverse_36 (lv_at hl 2 rfl) ?_
        refine lv_lload hx hb d_M_inverse_38 (lv_at hl 2 rfl) ?_
        refine rlp_lmul hx hb 1024128004 (lk_p y) (lk_p y) d_M_inverse_40 (fun v6 hv6 => ?_)
        refine lv_ldc2 (v := 32003) hx hb hown (hts _ kw_589) d_M_inverse_41 ?_
        refine rlp_lrem hx hb hv6 d_M_inverse_44 ?_
        refine lv_lstore (lv' := [(4, .long (lk (y * y))), (2, .long (lk (r * y))), (6, .int (iz (n : Int)))]) hx hb d_M_inverse_45 hl (by decide) rfl (fun ls hl => ?_)
        refine lv_iload hx hb d_M_inverse_47 (lv_at hl 2 rfl) ?_
        refine rz_iconst hx hb d_M_inverse_49 ?_
        refine lv_idiv (x := iz (n : Int)) (y := iz 2) hx hb d_M_inverse_50 (by decide) ?_
        rw [iz_half hn2]
        refine lv_istore (lv' := [(6, .int (iz ((n / 2 : Nat) : Int))), (4, .long (lk (y * y))), (2, .long (lk (r * y)))]) hx hb d_M_inverse_51 hl (by decide) rfl (fun ls hl => ?_)
        refine lv_goto (tgt := 10) hx hb d_M_inverse_53 (by decide) ?_
        exact ih (n / 2) (r * y) (y * y) _ ls (by omega) (by omega) rfl (by rw [hp, if_pos (by omega)] at hg; rw [← hg]; grind) (lv_sub hl [0, 1, 2] rfl)
def ws_M_inverse : List Cond := .code y_M_inverse c_M_inverse 7 (some .long) :: kb
set_option maxHeartbeats 4000000 in
set_option maxRecDepth 100000 in
/-- the inverse -/
theorem m_M_inverse (l : Launch) (D : va_G) (x : ro_K) : Met l y_M_inverse ws_M_inverse ({ frames := 0, cells := 0, slots := 0, locals := 0 }) (rc_Pc D vC [] [.long (lk x)] []) (va_Ql (fun (q : Int64) (_ : Unit) => q = lk (ro_iv x)) (fun _ t => va_P D vC [] t.heap) (rc_A [])) 0 0 (rc_A []) := by
  refine Met.ofW (cc := c_M_inverse) (maxL := 7) (ret := (some .long)) (by decide) rfl ?_
  intro p e s m args below meth c s₁ B hml hv
  obtain ⟨rfl, hP, hK, hD0, hN⟩ := hv
  have hx := B.exec
  have hb := B.bytes
  have hr := B.returns
  have hts0 := atoms_spec (ws := ws_M_inverse) B.pre
  have hts : ∀ w ∈ kb, w.before _ s = true := fun w h => hts0 w (List.mem_cons_of_mem _ h)
  have hown : s.vm.findClass R_M = some m.cls := findClass_of_methodNamed B.named
  have hlocks := B.notSynchronized
  have hD := rc_self hD0
  generalize hAe : rc_A [] = A at hD ⊢
  have hS : va_S A s.heap s.heap [] := va_S.rf
  have hl := lv_entry ([.long (lk x)]) (n := 7) (Nat.le_of_ble_eq_true rfl)
  rw [lg_entry_eq]
  generalize (lg_sl ([.long (lk x)]) ++ List.replicate (7 - (lg_sl ([.long (lk x)])).length) Slot.unset).toArray = ls at hl ⊢

  have hl : lv_has ls 7 [(0, .long (lk x))] := hl
  refine lv_lconst (v := lk 1) hx hb d_M_inverse_0 rfl ?_
  refine lv_lstore_n (lv' := [(2, .long (lk 1)), (0, .long (lk x))]) hx hb d_M_inverse_1 rfl hl (by decide) rfl (fun ls hl => ?_)
  refine lv_lload_n hx hb d_M_inverse_2 rfl (lv_at hl 1 rfl) ?_
  refine lv_lstore (lv' := [(4, .long (lk x)), (2, .long (lk 1)), (0, .long (lk x))]) hx hb d_M_inverse_3 hl (by decide) rfl (fun ls hl => ?_)
  refine rz_sipush hx hb d_M_inverse_5 (by decide) ?_
  refine lv_istore (lv' := [(6, .int (iz 32001)), (4, .long (lk x)), (2, .long (lk 1)), (0, .long (lk x))]) hx hb d_M_inverse_8 hl (by decide) rfl (fun ls hl => ?_)
  refine lo_M_inverse (g := ro_iv x) hx hb hown hts (fun ls hl => ?_) 32001 32001 1 x _ ls (Nat.le_refl _) (by decide) rfl (by unfold ro_iv; generalize ro_pw x 32001 = w0; grind) (lv_sub hl [0, 1, 2] rfl)
  refine lv_lload_n hx hb d_M_inverse_56 rfl (lv_at hl 0 rfl) ?_
  exact W.lret hx hb hr (fun t ht hW => ⟨⟨_, (), rfl, rfl, rc_out ht hP⟩, hS.F ht⟩) hS.2.2 d_M_inverse_57
set_option maxHeartbeats 4000000 in
set_option maxRecDepth 100000 in
theorem lo_M_falling {v : Int64} {zn zi : Int} {i : Nat} (hv : lx v zn) (hzi : zi = (i : Int)) (hi : i ≤ 100) (h0 : -100000 ≤ zn) (h1 : zn ≤ 100000) (hx : p.tables.exec = Jvm.exec) (hb : c.code = c_M_falling) (hml : c.maxLocals = 6) (hown : s.vm.findClass R_M = some m.cls) (hts : ∀ w ∈ kb, w.before args s = true) (hK : va_K D vC [] s) (hN : rc_N s) (hR : 1 ≤ R.frames ∧ 23 ≤ R.locals) (hend : ∀ (H : Heap) (locs : List Loc) (ls : Array Slot), va_P D vC [] H → va_D A [] → va_S A H0 H locs → lv_has ls 6 [(3, .long (lk (ro_k (ffz zn i))))] → W p l e R s m args below meth c H locs 0 0 Q (F0 m 31 ls [])) : ∀ (q k : Nat) (z : Int) (H : Heap) (locs : List Loc) (ls : Array Slot), z = (k : Int) → k + q = i → va_P D vC [] H → va_D A [] → va_S A H0 H locs → lv_has ls 6 [(5, .int (iz z)), (3, .long (lk (ro_k (ffz zn k)))), (0, .long v), (2, .int (iz zi))] → W p l e R s m args below meth c H locs 0 0 Q (F0 m 5 ls []) := by
  intro q
  induction q with
  | zero =>
    intro k z H locs ls hz hk hP hD hS hl
    have e : k = i := hk
    subst e
    refine lv_iload hx hb d_M_falling_5 (lv_at hl 0 rfl) ?_
    refine lv_iload_n hx hb d_M_falling_7 rfl (lv_at hl 3 rfl) ?_
    refine rz_icmp_ge (tgt := 31) hx hb d_M_falling_8 (by decide) (fun hc1 => ?_) (fun hc1 => ?_)
    · exact hend H locs ls hP hD hS (lv_sub hl [1] rfl)
    · omega
  | succ q ih =>
    intro k z H locs ls hz hk hP hD hS hl
    subst hz
    have hs1 : ro_k (ffz zn (k + 1)) = ro_k (ffz zn k) * ro_k (zn - (k : Int)) := ro_k_mul _ _
    refine lv_iload hx hb d_M_falling_5 (lv_at hl 0 rfl) ?_
    refine lv_iload_n hx hb d_M_falling_7 rfl (lv_at hl 3 rfl) ?_
    refine rz_icmp_ge (tgt := 31) hx hb d_M_falling_8 (by decide) (fun hc2 => ?_) (fun hc2 => ?_)
    · omega
    · refine lv_lload_n hx hb d_M_falling_11 rfl (lv_at hl 1 rfl) ?_
      refine lv_lload_n hx hb d_M_falling_12 rfl (lv_at hl 2 rfl) ?_
      refine lv_iload hx hb d_M_falling_13 (lv_at hl 0 rfl) ?_
      refine lv_i2l hx hb d_M_falling_15 rfl ?_
      refine rlq_lsub hx hb 200000 (lq_lx 100000 hv (by omega) (by omega)) (lq_lx 100 (lx_iz (z := (k : Int)) (by omega) (by omega)) (by omega) (by omega)) d_M_falling_16 (fun w1 hw1 => ?_) (by decide)
      rw [← ro_k_sub] at hw1
      refine rc_calll (va_runS (As := [.long w1]) (rest := [.long (lk (ro_k (ffz zn k)))]) ⟨hx, hb, hml, hown, hts⟩ (m_M_modulo l D w1) (cwS 1 hts (kb_gi (kb_c kw_586 (kb_c kw_587 (kb_c kw_5 (kb_c kw_588 kb_all))))) rfl rfl rfl (by decide +kernel) ⟨Nat.le_trans (by decide) hR.1, Nat.le_trans (by decide) hR.2⟩) ⟨rc_blind, rc_pre hP hD hK hN [] rfl rfl [] rfl⟩ rfl rfl hl.1 rfl (lv_room (Nat.le_of_ble_eq_true rfl)) d_M_falling_17 ⟨Nat.zero_le _, Nat.zero_le _⟩) hP hD hS [] rfl (fun _ => rfl) (fun r3 u4 H locs hw4 hP hD hS => ?_)
      rw [hw1.2.2] at hw4
      subst hw4
      have hP : va_P D vC [] H := hP
      have hD : va_D A [] := hD
      refine rlp_lmul hx hb 1024128004 (lk_p (ro_k (ffz zn k))) (lk_p (ro_k (zn - (k : Int)))) d_M_falling_20 (fun v5 hv5 => ?_)
      refine rc_calll (va_runS (As := [.long v5]) (rest := []) ⟨hx, hb, hml, hown, hts⟩ (m_M_modulo l D v5) (cwS 1 hts (kb_gi (kb_c kw_586 (kb_c kw_587 (kb_c kw_5 (kb_c kw_588 kb_all))))) rfl rfl rfl (by decide +kernel) ⟨Nat.le_trans (by decide) hR.1, Nat.le_trans (by decide) hR.2⟩) ⟨rc_blind, rc_pre hP hD hK hN [] rfl rfl [] rfl⟩ rfl rfl hl.1 rfl (lv_room (Nat.le_of_ble_eq_true rfl)) d_M_falling_21 ⟨Nat.zero_le _, Nat.zero_le _⟩) hP hD hS [] rfl (fun _ => rfl) (fun r6 u7 H locs hw7 hP hD hS => ?_)
      rw [(lq_of hv5 (by decide)).2.2] at hw7
      subst hw7
      have hP : va_P D vC [] H := hP
      have hD : va_D A [] := hD
      refine lv_lstore_n (lv' := [(3, .long (lk ((ro_k (ffz zn k)) * (ro_k (zn - (k : Int)))))), (5, .int (iz (k : Int))), (0, .long v), (2, .int (iz zi))]) hx hb d_M_falling_24 rfl hl (by decide) rfl (fun ls hl => ?_)
      refine lv_iinc (v := iz ((k : Int) + 1)) (lv' := [(5, .int (iz ((k : Int) + 1))), (3, .long (lk ((ro_k (ffz zn k)) * (ro_k (zn - (k : Int)))))), (0, .long v), (2, .int (iz zi))]) hx hb d_M_falling_25 hl (k := 1) rfl (iz_add _ _) (by decide) rfl (fun ls hl => ?_)
      refine lv_goto (tgt := 5) hx hb d_M_falling_28 (by decide) ?_
      exact ih (k + 1) ((k : Int) + 1) H locs ls (by omega) (by omega) hP hD hS (by rw [hs1]; exact lv_sub hl [0, 1, 2, 3] rfl)
def ws_M_falling : List Cond := .code y_M_falling c_M_falling 6 (some .long) :: kb
set_option maxHeartbeats 4000000 in
set_option maxRecDepth 100000 in
/-- n (n - 1) .. (n - i + 1) -/
theorem m_M_falling (l : Launch) (D : va_G) (v : Int64) (zn zi : Int) (i : Nat) (hv : lx v zn) (hzi : zi = (i : Int)) (hi : i ≤ 100) (h0 : -100000 ≤ zn) (h1 : zn ≤ 100000) : Met l y_M_falling ws_M_falling ({ frames := 1, cells := 0, slots := 0, locals := 23 }) (rc_Pc D vC [] [.long v, .int (iz zi)] []) (va_Ql (fun (q : Int64) (_ : Unit) => q = lk (ro_k (ffz zn i))) (fun _ t => va_P D vC [] t.heap) (rc_A [])) 0 0 (rc_A []) := by
  refine Met.ofW (cc := c_M_falling) (maxL := 6) (ret := (some .long)) (by decide) rfl ?_
  intro p e s m args below meth c s₁ B hml hv
  obtain ⟨rfl, hP, hK, hD0, hN⟩ := hv
  have hx := B.exec
  have hb := B.bytes
  have hr := B.returns
  have hts0 := atoms_spec (ws := ws_M_falling) B.pre
  have hts : ∀ w ∈ kb, w.before _ s = true := fun w h => hts0 w (List.mem_cons_of_mem _ h)
  have hown : s.vm.findClass R_M = some m.cls := findClass_of_methodNamed B.named
  have hlocks := B.notSynchronized
  have hD := rc_self hD0
  generalize hAe : rc_A [] = A at hD ⊢
  have hS : va_S A s.heap s.heap [] := va_S.rf
  have hl := lv_entry ([.long v, .int (iz zi)]) (n := 6) (Nat.le_of_ble_eq_true rfl)
  rw [lg_entry_eq]
  generalize (lg_sl ([.long v, .int (iz zi)]) ++ List.replicate (6 - (lg_sl ([.long v, .int (iz zi)])).length) Slot.unset).toArray = ls at hl ⊢

  have hl : lv_has ls 6 [(0, .long v), (2, .int (iz zi))] := hl
  refine lv_lconst (v := lk 1) hx hb d_M_falling_0 rfl ?_
  refine lv_lstore_n (lv' := [(3, .long (lk 1)), (0, .long v), (2, .int (iz zi))]) hx hb d_M_falling_1 rfl hl (by decide) rfl (fun ls hl => ?_)
  refine rz_iconst hx hb d_M_falling_2 ?_
  refine lv_istore (lv' := [(5, .int (iz 0)), (3, .long (lk 1)), (0, .long v), (2, .int (iz zi))]) hx hb d_M_falling_3 hl (by decide) rfl (fun ls hl => ?_)
  refine lo_M_falling hv hzi hi h0 h1 hx hb hml hown hts hK hN ⟨Nat.le_of_ble_eq_true rfl, Nat.le_of_ble_eq_true rfl⟩ (fun H locs ls hP hD hS hl => ?_) i 0 _ _ _ ls rfl (by omega) hP hD hS (lv_sub hl [0, 1, 2, 3] rfl)
  refine lv_lload_n hx hb d_M_falling_31 rfl (lv_at hl 0 rfl) ?_
  exact W.lret hx hb hr (fun t ht hW => ⟨⟨_, (), rfl, rfl, rc_out ht hP⟩, hS.F ht⟩) hS.2.2 d_M_falling_32
def ws_M_thrown : List Cond := .code y_M_thrown c_M_thrown 1 (some .int) :: kb
set_option maxHeartbeats 4000000 in
set_option maxRecDepth 100000 in
/-- thrown -/
theorem m_M_thrown (l : Launch) (D : va_G) (h : Nat) (cd od : Int) (fc hd md lo : Nat) (lv : Int) (tb rw bs : Nat) (mn : Int) (nu tu : Nat) : Met l y_M_thrown ws_M_thrown ({ frames := 0, cells := 0, slots := 0, locals := 0 }) (rc_Pc D vC [] [.ref h] [(h, rM cd od fc hd md lo lv tb rw bs mn nu tu)]) (va_Qi (fun (q : Int32) (_ : Unit) => q = iz cd) (fun _ t => va_P D vC [(h, rM cd od fc hd md lo lv tb rw bs mn nu tu)] t.heap) (rc_A [(h, rM cd od fc hd md lo lv tb rw bs mn nu tu)])) 0 0 (rc_A [(h, rM cd od fc hd md lo lv tb rw bs mn nu tu)]) := by
  refine Met.ofW (cc := c_M_thrown) (maxL := 1) (ret := (some .int)) (by decide) rfl ?_
  intro p e s m args below meth c s₁ B hml hv
  obtain ⟨rfl, hP, hK, hD0, hN⟩ := hv
  have hx := B.exec
  have hb := B.bytes
  have hr := B.returns
  have hts0 := atoms_spec (ws := ws_M_thrown) B.pre
  have hts : ∀ w ∈ kb, w.before _ s = true := fun w h => hts0 w (List.mem_cons_of_mem _ h)
  have hown : s.vm.findClass R_M = some m.cls := findClass_of_methodNamed B.named
  have hlocks := B.notSynchronized
  have hD := rc_self hD0
  generalize hAe : rc_A [(h, rM cd od fc hd md lo lv tb rw bs mn nu tu)] = A at hD ⊢
  have hS : va_S A s.heap s.heap [] := va_S.rf
  have hl := lv_entry ([.ref h]) (n := 1) (Nat.le_of_ble_eq_true rfl)
  rw [lg_entry_eq]
  generalize (lg_sl ([.ref h]) ++ List.replicate (1 - (lg_sl ([.ref h])).length) Slot.unset).toArray = ls at hl ⊢

  have hl : lv_has ls 1 [(0, .ref h)] := hl
  refine lv_aload_n hx hb d_M_thrown_0 rfl (lv_at hl 0 rfl) ?_
  refine va_get (D := D) (ci := 3) (v := .int (iz cd)) (C := R_M) (T := T_M) (N := 13) hx hb hts in_M hown hK hP 0 rfl rfl 0 (by decide) (hts _ kw_530) (fun _ h9 => h9) rfl d_M_thrown_1 ?_
  exact W.iret hx hb hr (fun t ht hW => ⟨⟨_, (), rfl, rfl, rc_out ht hP⟩, hS.F ht⟩) hS.2.2 d_M_thrown_4
def ws_M_raise : List Cond := .code y_M_raise c_M_raise 2 (some .int) :: kb
set_option maxHeartbeats 4000000 in
set_option maxRecDepth 100000 in
/-- raise -/
theorem m_M_raise (l : Launch) (D : va_G) (h : Nat) (cd od : Int) (fc hd md lo : Nat) (lv : Int) (tb rw bs : Nat) (mn : Int) (nu tu : Nat) (zk : Int) : Met l y_M_raise ws_M_raise ({ frames := 0, cells := 0, slots := 0, locals := 0 }) (rc_Pc D vC [] [.ref h, .int (iz zk)] [(h, rM cd od fc hd md lo lv tb rw bs mn nu tu)]) (va_Qi (fun (q : Int32) (_ : Unit) => q = iz 0) (fun _ t => va_P D vC [(h, rM zk od fc hd md lo lv tb rw bs mn nu tu)] t.heap) (rc_A [(h, rM cd od fc hd md lo lv tb rw bs mn nu tu)])) 0 0 (rc_A [(h, rM cd od fc hd md lo lv tb rw bs mn nu tu)]) := by
  refine Met.ofW (cc := c_M_raise) (maxL := 2) (ret := (some .int)) (by decide) rfl ?_
  intro p e s m args below meth c s₁ B hml hv
  obtain ⟨rfl, hP, hK, hD0, hN⟩ := hv
  have hx := B.exec
  have hb := B.bytes
  have hr := B.returns
  have hts0 := atoms_spec (ws := ws_M_raise) B.pre
  have hts : ∀ w ∈ kb, w.before _ s = true := fun w h => hts0 w (List.mem_cons_of_mem _ h)
  have hown : s.vm.findClass R_M = some m.cls := findClass_of_methodNamed B.named
  have hlocks := B.notSynchronized
  have hD := rc_self hD0
  generalize hAe : rc_A [(h, rM cd od fc hd md lo lv tb rw bs mn nu tu)] = A at hD ⊢
  have hS : va_S A s.heap s.heap [] := va_S.rf
  have hl := lv_entry ([.ref h, .int (iz zk)]) (n := 2) (Nat.le_of_ble_eq_true rfl)
  rw [lg_entry_eq]
  generalize (lg_sl ([.ref h, .int (iz zk)]) ++ List.replicate (2 - (lg_sl ([.ref h, .int (iz zk)])).length) Slot.unset).toArray = ls at hl ⊢

  have hl : lv_has ls 2 [(0, .ref h), (1, .int (iz zk))] := hl
  refine lv_aload_n hx hb d_M_raise_0 rfl (lv_at hl 0 rfl) ?_
  refine lv_iload_n hx hb d_M_raise_1 rfl (lv_at hl 1 rfl) ?_
  refine va_put (D := D) (ci := 3) (v := .int (iz zk)) (ty := .int) (C := R_M) (T := T_M) (N := 13) hx hb hts in_M ty_M tk_M nm_M hown hK hP hD hS 0 rfl rfl 0 (by decide) (hts _ kw_530) (fun _ h9 => h9) rfl (by decide +kernel) rfl rfl (Nat.le_of_ble_eq_true rfl) d_M_raise_2 (fun H locs hP hD hS => ?_)
  have hP : va_P D vC [(h, rM zk od fc hd md lo lv tb rw bs mn nu tu)] H := hP
  have hD : va_D A [(h, rM zk od fc hd md lo lv tb rw bs mn nu tu)] := hD
  refine rz_iconst hx hb d_M_raise_5 ?_
  exact W.iret hx hb hr (fun t ht hW => ⟨⟨_, (), rfl, rfl, rc_out ht hP⟩, hS.F ht⟩) hS.2.2 d_M_raise_6
end WK
