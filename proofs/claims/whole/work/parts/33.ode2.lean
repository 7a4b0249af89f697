section WK
variable {p : Program} {l : Launch} {e : Env} {R : Room} {s : State} {m : MethodId} {args : Array Value} {below : List Frame} {meth : Method} {c : Code} {H : Heap} {locs : List Loc} {cells slots : Nat} {Q : State → Prop} {D : va_G} {A : Nat → Prop} {H0 : Heap}
/-- a long that is a number exactly -/
def lx (w : Int64) (z : Int) : Prop := w.toInt = z
theorem lx_mul {u v : Int64} {a b : Int} (h1 : lx u a) (h2 : lx v b) (hl : -1048576 ≤ a * b) (hh : a * b ≤ 1048576) : lx (u * v) (a * b) := by
  unfold lx at *
  rw [Int64.toInt_mul, h1, h2]
  exact Jvm.Kit.bmod64 (by omega) (by omega)
theorem lx_iz {z : Int} (h1 : -2147483648 ≤ z) (h2 : z < 2147483648) : lx (iz z).toInt64 z := by
  unfold lx
  rw [Int32.toInt_toInt64, iz_toInt h1 h2]
theorem lq_lx {w : Int64} {z : Int} (B : Nat) (h : lx w z) (h1 : -(B : Int) ≤ z) (h2 : z ≤ (B : Int)) : lq w (ro_k z) B := by
  unfold lx at h
  exact ⟨by rw [h]; exact h2, by rw [h]; exact h1, by rw [h]⟩
theorem lq_up {w : Int64} {x : ro_K} {B C : Nat} (h : lq w x B) (hc : B ≤ C) : lq w x C := ⟨by have := h.1; omega, by have := h.2.1; omega, h.2.2⟩
theorem rlx_lmul {cc : ByteArray} {pc : Nat} {ls : Array Slot} {rest : List Value} (hx : p.tables.exec = Jvm.exec) (hb : c.code = cc) {u v : Int64} {a b : Int} (h1 : lx u a) (h2 : lx v b) (hl : -1048576 ≤ a * b) (hh : a * b ≤ 1048576) (hdg : decode cc pc = .ok (.lmul, 1)) (k : ∀ w : Int64, lx w (a * b) → W p l e R s m args below meth c H locs cells slots Q (F0 m (pc + 1) ls (.long w :: rest))) : W p l e R s m args below meth c H locs cells slots Q (F0 m pc ls (.long v :: .long u :: rest)) := lv_lmul hx hb hdg (k _ (lx_mul h1 h2 hl hh))
/-- n (n - 1) .. (n - i + 1) -/
def ffz (n : Int) : Nat → Int
  | 0 => 1
  | i + 1 => ffz n i * (n - i)
def p32 : Nat → Int
  | 0 => 1
  | i + 1 => p32 i * 32
theorem ffz_p {n : Int} (h0 : 0 ≤ n) (h1 : n ≤ 31) : ∀ i : Nat, i ≤ 4 → ffz n i ≤ p32 i ∧ -(p32 i) ≤ ffz n i
  | 0, _ => ⟨by show (1 : Int) ≤ 1; decide, by show -(1 : Int) ≤ 1; decide⟩
  | i + 1, hi => by
    have ih := ffz_p h0 h1 i (by omega)
    exact abs_mul_le ih.1 ih.2 (show n - (i : Int) ≤ 32 by omega) (show -32 ≤ n - (i : Int) by omega)
theorem p32_le : ∀ i : Nat, i ≤ 4 → p32 i ≤ 1048576 := by decide
theorem ffz_le {n : Int} (h0 : 0 ≤ n) (h1 : n ≤ 31) {i : Nat} (hi : i ≤ 4) : ffz n i ≤ 1048576 ∧ -1048576 ≤ ffz n i := by
  have a := ffz_p h0 h1 i hi
  have b := p32_le i hi
  omega
/-- what an equation makes of x to the n at n + g: the first i factors -/
def shS (E : Nat → Nat → ro_K) (n g : Int) : Nat → ro_K
  | 0 => 0
  | i + 1 => shS E n g i + (if 0 ≤ g + i ∧ g + i < 5 then E i (g + i).toNat * ro_k (ffz n i) else 0)
set_option maxHeartbeats 4000000 in
set_option maxRecDepth 100000 in
theorem lo_O_share {cJ cO : ClassId} {h fa ot ah te id rt bs : Nat} {od kn : Int} {o eq : Nat} {er : Nat → Nat} {E : Nat → Nat → ro_K} {n g : Int} (hod : od = (o : Int)) (ho3 : o ≤ 3) (hn0 : 0 ≤ n) (hn1 : n ≤ 31) (hg0 : -1000 ≤ g) (hg1 : g ≤ 1000) (hx : p.tables.exec = Jvm.exec) (hb : c.code = c_O_share) (hml : c.maxLocals = 10) (hown : s.vm.findClass R_O = some m.cls) (hts : ∀ w ∈ kb, w.before args s = true) (hK : va_K D vC [(cJ, .long), (cO, .array .long)] s) (hN : rc_N s) (hP : va_P D vC ([(h, rO od fa ot ah te id rt bs kn), (eq, go cO 4 er)] ++ gs 4 er cJ 5 E) H) (hend : ∀ (v : Int64) (ls : Array Slot), lq v (shS E n g (o + 1)) 549755813888 → lv_has ls 10 [(4, .long v)] → W p l e R s m args below meth c H locs 0 0 Q (F0 m 66 ls [])) : ∀ (q i : Nat) (z : Int) (sl v : Int64) (ls : Array Slot), z = (i : Int) → i + q = o + 1 → lx sl (ffz n i) → lq v (shS E n g i) (i * 68719476736) → lv_has ls 10 [(8, .int (iz z)), (6, .long sl), (4, .long v), (0, .ref h), (1, .ref eq), (2, .int (iz n)), (3, .int (iz g))] → W p l e R s m args below meth c H locs 0 0 Q (F0 m 9 ls []) := by
  intro q
  induction q with
  | zero =>
    intro i z sl v ls hz hi hsl hv hl
    have e : i = o + 1 := hi
    subst e
    refine lv_iload hx hb d_O_share_9 (lv_at hl 0 rfl) ?_
    refine lv_aload_n hx hb d_O_share_11 rfl (lv_at hl 3 rfl) ?_
    refine va_get (D := D) (ci := 2) (v := .int (iz od)) (C := R_O) (T := T_O) (N := 9) hx hb hts in_O hown hK hP 0 rfl rfl 0 (by decide) (hts _ kw_83) (fun _ h9 => h9) rfl d_O_share_12 ?_
    refine rz_icmp_gt (tgt := 66) hx hb d_O_share_15 (by decide) (fun hc1 => ?_) (fun hc1 => ?_)
    · exact hend v ls (lq_up hv (by omega)) (lv_sub hl [2] rfl)
    · omega
  | succ q ih =>
    intro i z sl v ls hz hi hsl hv hl
    subst hz
    have hf := ffz_le hn0 hn1 (show i ≤ 4 by omega)
    have hf2 := ffz_le hn0 hn1 (show i + 1 ≤ 4 by omega)
    have hf3 : ffz n (i + 1) = ffz n i * (n - i) := rfl
    have hs1 : shS E n g (i + 1) = shS E n g i + (if 0 ≤ g + i ∧ g + i < 5 then E i (g + i).toNat * ro_k (ffz n i) else 0) := rfl
    refine lv_iload hx hb d_O_share_9 (lv_at hl 0 rfl) ?_
    refine lv_aload_n hx hb d_O_share_11 rfl (lv_at hl 3 rfl) ?_
    refine va_get (D := D) (ci := 2) (v := .int (iz od)) (C := R_O) (T := T_O) (N := 9) hx hb hts in_O hown hK hP 0 rfl rfl 0 (by decide) (hts _ kw_83) (fun _ h9 => h9) rfl d_O_share_12 ?_
    refine rz_icmp_gt (tgt := 66) hx hb d_O_share_15 (by decide) (fun hc2 => ?_) (fun hc2 => ?_)
    · omega
    · refine lv_iload_n hx hb d_O_share_18 rfl (lv_at hl 6 rfl) ?_
      refine lv_iload hx hb d_O_share_19 (lv_at hl 0 rfl) ?_
      refine rz_iadd hx hb d_O_share_21 ?_
      refine lv_istore (lv' := [(9, .int (iz (g + (i : Int)))), (8, .int (iz (i : Int))), (6, .long sl), (4, .long v), (0, .ref h), (1, .ref eq), (2, .int (iz n)), (3, .int (iz g))]) hx hb d_O_share_22 hl (by decide) rfl (fun ls hl => ?_)
      refine lv_iload hx hb d_O_share_24 (lv_at hl 0 rfl) ?_
      refine rz_if_lt (tgt := 50) hx hb d_O_share_26 (by decide) (fun hc3 => ?_) (fun hc3 => ?_)
      · refine lv_lload hx hb d_O_share_50 (lv_at hl 2 rfl) ?_
        refine lv_iload_n hx hb d_O_share_52 rfl (lv_at hl 6 rfl) ?_
        refine lv_iload hx hb d_O_share_53 (lv_at hl 1 rfl) ?_
        refine rz_isub hx hb d_O_share_55 ?_
        refine lv_i2l hx hb d_O_share_56 rfl ?_
        refine rlx_lmul hx hb hsl (lx_iz (by omega) (by omega)) (by rw [← hf3]; exact hf2.2) (by rw [← hf3]; exact hf2.1) d_O_share_57 (fun w3 hw3 => ?_)
        refine lv_lstore (lv' := [(6, .long w3), (9, .int (iz (g + (i : Int)))), (8, .int (iz (i : Int))), (4, .long v), (0, .ref h), (1, .ref eq), (2, .int (iz n)), (3, .int (iz g))]) hx hb d_O_share_58 hl (by decide) rfl (fun ls hl => ?_)
        refine lv_iinc (v := iz ((i : Int) + 1)) (lv' := [(8, .int (iz ((i : Int) + 1))), (6, .long w3), (9, .int (iz (g + (i : Int)))), (4, .long v), (0, .ref h), (1, .ref eq), (2, .int (iz n)), (3, .int (iz g))]) hx hb d_O_share_60 hl (k := 2) rfl (iz_add _ _) (by decide) rfl (fun ls hl => ?_)
        refine lv_goto (tgt := 9) hx hb d_O_share_63 (by decide) ?_
        exact ih (i + 1) _ w3 v ls (by omega) (by omega) hw3 (by rw [hs1, if_neg (by omega), show shS E n g i + 0 = shS E n g i by grind]; exact lq_up hv (by omega)) (lv_sub hl [0, 1, 3, 4, 5, 6, 7] rfl)
      · refine lv_iload hx hb d_O_share_29 (lv_at hl 0 rfl) ?_
        refine rz_iconst hx hb d_O_share_31 ?_
        refine rz_icmp_ge (tgt := 50) hx hb d_O_share_32 (by decide) (fun hc4 => ?_) (fun hc4 => ?_)
        · refine lv_lload hx hb d_O_share_50 (lv_at hl 2 rfl) ?_
          refine lv_iload_n hx hb d_O_share_52 rfl (lv_at hl 6 rfl) ?_
          refine lv_iload hx hb d_O_share_53 (lv_at hl 1 rfl) ?_
          refine rz_isub hx hb d_O_share_55 ?_
          refine lv_i2l hx hb d_O_share_56 rfl ?_
          refine rlx_lmul hx hb hsl (lx_iz (by omega) (by omega)) (by rw [← hf3]; exact hf2.2) (by rw [← hf3]; exact hf2.1) d_O_share_57 (fun w3 hw3 => ?_)
          refine lv_lstore (lv' := [(6, .long w3), (9, .int (iz (g + (i : Int)))), (8, .int (iz (i : Int))), (4, .long v), (0, .ref h), (1, .ref eq), (2, .int (iz n)), (3, .int (iz g))]) hx hb d_O_share_58 hl (by decide) rfl (fun ls hl => ?_)
          refine lv_iinc (v := iz ((i : Int) + 1)) (lv' := [(8, .int (iz ((i : Int) + 1))), (6, .long w3), (9, .int (iz (g + (i : Int)))), (4, .long v), (0, .ref h), (1, .ref eq), (2, .int (iz n)), (3, .int (iz g))]) hx hb d_O_share_60 hl (k := 2) rfl (iz_add _ _) (by decide) rfl (fun ls hl => ?_)
          refine lv_goto (tgt := 9) hx hb d_O_share_63 (by decide) ?_
          exact ih (i + 1) _ w3 v ls (by omega) (by omega) hw3 (by rw [hs1, if_neg (by omega), show shS E n g i + 0 = shS E n g i by grind]; exact lq_up hv (by omega)) (lv_sub hl [0, 1, 3, 4, 5, 6, 7] rfl)
        · refine lv_lload hx hb d_O_share_35 (lv_at hl 3 rfl) ?_
          refine lv_aload_n hx hb d_O_share_37 rfl (lv_at hl 5 rfl) ?_
          refine lv_iload hx hb d_O_share_38 (lv_at hl 1 rfl) ?_
          refine rg_ald hx hb hK hP 1 1 rfl rfl i d_O_share_40 ?_
          refine lv_iload hx hb d_O_share_41 (lv_at hl 0 rfl) ?_
          refine rg_ld hx hb hK hP 0 rfl i (g + (i : Int)).toNat d_O_share_43 ?_
          refine lv_lload hx hb d_O_share_44 (lv_at hl 2 rfl) ?_
          refine rlq_lmul hx hb 34359738368 (lq_of (lk_p _) (by decide)) (lq_lx 1048576 hsl hf.2 hf.1) d_O_share_46 (fun w1 hw1 => ?_) (by decide)
          refine rlq_ladd hx hb ((i + 1) * 68719476736) hv hw1 d_O_share_47 (fun w2 hw2 => ?_) (by omega)
          refine lv_lstore (lv' := [(4, .long w2), (9, .int (iz (g + (i : Int)))), (8, .int (iz (i : Int))), (6, .long sl), (0, .ref h), (1, .ref eq), (2, .int (iz n)), (3, .int (iz g))]) hx hb d_O_share_48 hl (by decide) rfl (fun ls hl => ?_)
          refine lv_lload hx hb d_O_share_50 (lv_at hl 3 rfl) ?_
          refine lv_iload_n hx hb d_O_share_52 rfl (lv_at hl 6 rfl) ?_
          refine lv_iload hx hb d_O_share_53 (lv_at hl 2 rfl) ?_
          refine rz_isub hx hb d_O_share_55 ?_
          refine lv_i2l hx hb d_O_share_56 rfl ?_
          refine rlx_lmul hx hb hsl (lx_iz (by omega) (by omega)) (by rw [← hf3]; exact hf2.2) (by rw [← hf3]; exact hf2.1) d_O_share_57 (fun w3 hw3 => ?_)
          refine lv_lstore (lv' := [(6, .long w3), (4, .long w2), (9, .int (iz (g + (i : Int)))), (8, .int (iz (i : Int))), (0, .ref h), (1, .ref eq), (2, .int (iz n)), (3, .int (iz g))]) hx hb d_O_share_58 hl (by decide) rfl (fun ls hl => ?_)
          refine lv_iinc (v := iz ((i : Int) + 1)) (lv' := [(8, .int (iz ((i : Int) + 1))), (6, .long w3), (4, .long w2), (9, .int (iz (g + (i : Int)))), (0, .ref h), (1, .ref eq), (2, .int (iz n)), (3, .int (iz g))]) hx hb d_O_share_60 hl (k := 3) rfl (iz_add _ _) (by decide) rfl (fun ls hl => ?_)
          refine lv_goto (tgt := 9) hx hb d_O_share_63 (by decide) ?_
          exact ih (i + 1) _ w3 w2 ls (by omega) (by omega) hw3 (by rw [hs1, if_pos (by omega)]; exact hw2) (lv_sub hl [0, 1, 2, 4, 5, 6, 7] rfl)
def ws_O_share : List Cond := .code y_O_share c_O_share 10 (some .long) :: kb
set_option maxHeartbeats 4000000 in
set_option maxRecDepth 100000 in
/-- what an equation makes of x to the n, at n + g -/
theorem m_O_share (l : Launch) (D : va_G) (cJ cO : ClassId) (h fa ot ah te id rt bs : Nat) (od kn : Int) (eq : Nat) (er : Nat → Nat) (E : Nat → Nat → ro_K) (n g : Int) (o : Nat) (hod : od = (o : Int)) (ho3 : o ≤ 3) (hn0 : 0 ≤ n) (hn1 : n ≤ 31) (hg0 : -1000 ≤ g) (hg1 : g ≤ 1000) : Met l y_O_share ws_O_share ({ frames := 1, cells := 0, slots := 0, locals := 23 }) (rc_Pc D vC [(cJ, .long), (cO, .array .long)] [.ref h, .ref eq, .int (iz n), .int (iz g)] ([(h, rO od fa ot ah te id rt bs kn), (eq, go cO 4 er)] ++ gs 4 er cJ 5 E)) (va_Ql (fun (q : Int64) (_ : Unit) => q = lk (shS E n g (o + 1))) (fun _ t => va_P D vC ([(h, rO od fa ot ah te id rt bs kn), (eq, go cO 4 er)] ++ gs 4 er cJ 5 E) t.heap) (rc_A ([(h, rO od fa ot ah te id rt bs kn), (eq, go cO 4 er)] ++ gs 4 er cJ 5 E))) 0 0 (rc_A ([(h, rO od fa ot ah te id rt bs kn), (eq, go cO 4 er)] ++ gs 4 er cJ 5 E)) := by
  refine Met.ofW (cc := c_O_share) (maxL := 10) (ret := (some .long)) (by decide) rfl ?_
  intro p e s m args below meth c s₁ B hml hv
  obtain ⟨rfl, hP, hK, hD0, hN⟩ := hv
  have hx := B.exec
  have hb := B.bytes
  have hr := B.returns
  have hts0 := atoms_spec (ws := ws_O_share) B.pre
  have hts : ∀ w ∈ kb, w.before _ s = true := fun w h => hts0 w (List.mem_cons_of_mem _ h)
  have hown : s.vm.findClass R_O = some m.cls := findClass_of_methodNamed B.named
  have hlocks := B.notSynchronized
  have hD := rc_self hD0
  generalize hAe : rc_A ([(h, rO od fa ot ah te id rt bs kn), (eq, go cO 4 er)] ++ gs 4 er cJ 5 E) = A at hD ⊢
  have hS : va_S A s.heap s.heap [] := va_S.rf
  have hl := lv_entry ([.ref h, .ref eq, .int (iz n), .int (iz g)]) (n := 10) (Nat.le_of_ble_eq_true rfl)
  rw [lg_entry_eq]
  generalize (lg_sl ([.ref h, .ref eq, .int (iz n), .int (iz g)]) ++ List.replicate (10 - (lg_sl ([.ref h, .ref eq, .int (iz n), .int (iz g)])).length) Slot.unset).toArray = ls at hl ⊢

  have hl : lv_has ls 10 [(0, .ref h), (1, .ref eq), (2, .int (iz n)), (3, .int (iz g))] := hl
  refine lv_lconst (v := lk 0) hx hb d_O_share_0 rfl ?_
  refine lv_lstore (lv' := [(4, .long (lk 0)), (0, .ref h), (1, .ref eq), (2, .int (iz n)), (3, .int (iz g))]) hx hb d_O_share_1 hl (by decide) rfl (fun ls hl => ?_)
  refine lv_lconst (v := lk 1) hx hb d_O_share_3 rfl ?_
  refine lv_lstore (lv' := [(6, .long (lk 1)), (4, .long (lk 0)), (0, .ref h), (1, .ref eq), (2, .int (iz n)), (3, .int (iz g))]) hx hb d_O_share_4 hl (by decide) rfl (fun ls hl => ?_)
  refine rz_iconst hx hb d_O_share_6 ?_
  refine lv_istore (lv' := [(8, .int (iz 0)), (6, .long (lk 1)), (4, .long (lk 0)), (0, .ref h), (1, .ref eq), (2, .int (iz n)), (3, .int (iz g))]) hx hb d_O_share_7 hl (by decide) rfl (fun ls hl => ?_)
  refine lo_O_share (E := E) hod ho3 hn0 hn1 hg0 hg1 hx hb hml hown hts hK hN hP (fun v ls hv hl => ?_) (o + 1) 0 _ (lk 1) (lk 0) ls rfl (by omega) (show (lk 1).toInt = 1 by decide) ⟨by decide, by decide, rfl⟩ (lv_sub hl [0, 1, 2, 3, 4, 5, 6] rfl)
  refine lv_lload hx hb d_O_share_66 (lv_at hl 0 rfl) ?_
  refine rc_calll (va_runS (As := [.long v]) (rest := []) ⟨hx, hb, hml, hown, hts⟩ (m_O_number l D v) (cwS 1 hts (kb_gi (kb_c kw_123 (kb_c kw_124 (kb_c kw_1 (kb_c kw_125 kb_all))))) rfl rfl rfl (by decide +kernel) ⟨Nat.le_of_ble_eq_true rfl, Nat.le_of_ble_eq_true rfl⟩) ⟨rc_blind, rc_pre hP hD hK hN [] rfl rfl [] rfl⟩ rfl rfl hl.1 rfl (lv_room (Nat.le_of_ble_eq_true rfl)) d_O_share_68 ⟨Nat.zero_le _, Nat.zero_le _⟩) hP hD hS [] rfl (fun _ => rfl) (fun r1 u2 H locs hw2 hP hD hS => ?_)
  rw [hv.2.2] at hw2
  subst hw2
  have hP : va_P D vC ([(h, rO od fa ot ah te id rt bs kn), (eq, go cO 4 er)] ++ gs 4 er cJ 5 E) H := hP
  have hD : va_D A ([(h, rO od fa ot ah te id rt bs kn), (eq, go cO 4 er)] ++ gs 4 er cJ 5 E) := hD
  exact W.lret hx hb hr (fun t ht hW => ⟨⟨_, (), rfl, rfl, rc_out ht hP⟩, hS.F ht⟩) hS.2.2 d_O_share_71
/-- what is made at a power: the first n powers of the polynomial at hand -/
def maS (F : Nat → Nat → ro_K) (o : Nat) (a : Nat → ro_K) (pw : Int) : Nat → ro_K
  | 0 => 0
  | n + 1 => maS F o a pw n + a n * shS F (n : Int) (pw - n) (o + 1)
set_option maxHeartbeats 4000000 in
set_option maxRecDepth 100000 in
theorem lo_O_madeAt {cJ cO : ClassId} {h fa ot ah te id rt bs : Nat} {od kn : Int} {o : Nat} {fr : Nat → Nat} {F : Nat → Nat → ro_K} {a : Nat → ro_K} {pw : Int} (hod : od = (o : Int)) (ho3 : o ≤ 3) (hp0 : 0 ≤ pw) (hp1 : pw ≤ 100) (hx : p.tables.exec = Jvm.exec) (hb : c.code = c_O_madeAt) (hml : c.maxLocals = 5) (hown : s.vm.findClass R_O = some m.cls) (hts : ∀ w ∈ kb, w.before args s = true) (hK : va_K D vC [(cJ, .long), (cO, .array .long)] s) (hN : rc_N s) (hR : 2 ≤ R.frames ∧ 52 ≤ R.locals) (hend : ∀ (v : Int64) (H : Heap) (locs : List Loc) (ls : Array Slot), lq v (maS F o a pw 13) 17179869184 → va_P D vC ([(h, rO od fa ot ah te id rt bs kn), (ah, ka cJ 13 a), (fa, go cO 4 fr)] ++ gs 4 fr cJ 5 F) H → va_D A ([(h, rO od fa ot ah te id rt bs kn), (ah, ka cJ 13 a), (fa, go cO 4 fr)] ++ gs 4 fr cJ 5 F) → va_S A H0 H locs → lv_has ls 5 [(2, .long v)] → W p l e R s m args below meth c H locs 0 0 Q (F0 m 55 ls [])) : ∀ (q n : Nat) (z : Int) (v : Int64) (H : Heap) (locs : List Loc) (ls : Array Slot), z = (n : Int) → n + q = 13 → lq v (maS F o a pw n) (n * 1073741824) → va_P D vC ([(h, rO od fa ot ah te id rt bs kn), (ah, ka cJ 13 a), (fa, go cO 4 fr)] ++ gs 4 fr cJ 5 F) H → va_D A ([(h, rO od fa ot ah te id rt bs kn), (ah, ka cJ 13 a), (fa, go cO 4 fr)] ++ gs 4 fr cJ 5 F) → va_S A H0 H locs → lv_has ls 5 [(4, .int (iz z)), (2, .long v), (0, .ref h), (1, .int (iz pw))] → W p l e R s m args below meth c H locs 0 0 Q (F0 m 5 ls []) := by
  intro q
  induction q with
  | zero =>
    intro n z v H locs ls hz hn hv hP hD hS hl
    have e : n = 13 := hn
    subst e
    refine lv_iload hx hb d_O_madeAt_5 (lv_at hl 0 rfl) ?_
    refine rz_bipush hx hb d_O_madeAt_7 (by decide) ?_
    refine rz_icmp_ge (tgt := 55) hx hb d_O_madeAt_9 (by decide) (fun hc1 => ?_) (fun hc1 => ?_)
    · exact hend v H locs ls (lq_up hv (by omega)) hP hD hS (lv_sub hl [1] rfl)
    · omega
  | succ q ih =>
    intro n z v H locs ls hz hn hv hP hD hS hl
    subst hz
    have hs1 : maS F o a pw (n + 1) = maS F o a pw n + a n * shS F (n : Int) (pw - n) (o + 1) := rfl
    refine lv_iload hx hb d_O_madeAt_5 (lv_at hl 0 rfl) ?_
    refine rz_bipush hx hb d_O_madeAt_7 (by decide) ?_
    refine rz_icmp_ge (tgt := 55) hx hb d_O_madeAt_9 (by decide) (fun hc2 => ?_) (fun hc2 => ?_)
    · omega
    · refine lv_aload_n hx hb d_O_madeAt_12 rfl (lv_at hl 2 rfl) ?_
      refine va_get (D := D) (ci := 2) (v := .ref ah) (C := R_O) (T := T_O) (N := 9) hx hb hts in_O hown hK hP 0 rfl rfl 3 (by decide) (hts _ kw_86) (fun _ h9 => h9) rfl d_O_madeAt_13 ?_
      refine lv_iload hx hb d_O_madeAt_16 (lv_at hl 0 rfl) ?_
      refine rk_ld hx hb hK hP 1 0 rfl rfl n d_O_madeAt_18 ?_
      refine lv_lconst (v := lk 0) hx hb d_O_madeAt_19 rfl ?_
      refine rz_lcmp_eq (tgt := 49) hx hb d_O_madeAt_20 d_O_madeAt_21 (by decide) (fun hc3 => ?_) (fun hc3 => ?_)
      · have hc3 : (a n) = 0 := lk_inj.mp hc3
        refine lv_iinc (v := iz ((n : Int) + 1)) (lv' := [(4, .int (iz ((n : Int) + 1))), (2, .long v), (0, .ref h), (1, .int (iz pw))]) hx hb d_O_madeAt_49 hl (k := 0) rfl (iz_add _ _) (by decide) rfl (fun ls hl => ?_)
        refine lv_goto (tgt := 5) hx hb d_O_madeAt_52 (by decide) ?_
        exact ih (n + 1) _ v H locs ls (by omega) (by omega) (by rw [hs1, show a n = 0 by assumption, show maS F o a pw n + 0 * shS F (n : Int) (pw - n) (o + 1) = maS F o a pw n by grind]; exact lq_up hv (by omega)) hP hD hS (lv_sub hl [0, 1, 2, 3] rfl)
      · have hc3 : (a n) ≠ 0 := fun z => hc3 (lk_inj.mpr z)
        refine lv_lload_n hx hb d_O_madeAt_24 rfl (lv_at hl 1 rfl) ?_
        refine lv_aload_n hx hb d_O_madeAt_25 rfl (lv_at hl 2 rfl) ?_
        refine va_get (D := D) (ci := 2) (v := .ref ah) (C := R_O) (T := T_O) (N := 9) hx hb hts in_O hown hK hP 0 rfl rfl 3 (by decide) (hts _ kw_86) (fun _ h9 => h9) rfl d_O_madeAt_26 ?_
        refine lv_iload hx hb d_O_madeAt_29 (lv_at hl 0 rfl) ?_
        refine rk_ld hx hb hK hP 1 0 rfl rfl n d_O_madeAt_31 ?_
        refine lv_aload_n hx hb d_O_madeAt_32 rfl (lv_at hl 2 rfl) ?_
        refine lv_aload_n hx hb d_O_madeAt_33 rfl (lv_at hl 2 rfl) ?_
        refine va_get (D := D) (ci := 2) (v := .ref fa) (C := R_O) (T := T_O) (N := 9) hx hb hts in_O hown hK hP 0 rfl rfl 1 (by decide) (hts _ kw_84) (fun _ h9 => h9) rfl d_O_madeAt_34 ?_
        refine lv_iload hx hb d_O_madeAt_37 (lv_at hl 0 rfl) ?_
        refine lv_iload_n hx hb d_O_madeAt_39 rfl (lv_at hl 3 rfl) ?_
        refine lv_iload hx hb d_O_madeAt_40 (lv_at hl 0 rfl) ?_
        refine rz_isub hx hb d_O_madeAt_42 ?_
        refine rs_calll (va_runV (As := [.ref fa, .int (iz (n : Int)), .int (iz (pw - (n : Int)))]) (rest := [.long (lk (a n)), .long v]) ⟨hx, hb, hml, hown, hts⟩ (m_O_share l D cJ cO h fa ot ah te id rt bs od kn fa fr F (n : Int) (pw - (n : Int)) o hod ho3 (by omega) (by omega) (by omega) (by omega)) (cwV 3 hts (kb_gi (kb_c kw_119 (kb_c kw_121 (kb_c ks_O_share (kb_c kw_1 (kb_c kw_122 kb_all)))))) rfl rfl rfl (by decide +kernel) ⟨Nat.le_trans (by decide) hR.1, Nat.le_trans (by decide) hR.2⟩) ⟨rc_blind, va_recv hK hP (ci := 2) (q0 := 0) rfl rfl, rs_pre (Y := []) (rs_nil hP) (rs_nilD hD) hK hN [0, 2] rfl rfl [0, 1] rfl⟩ rfl rfl hl.1 rfl (lv_room (Nat.le_of_ble_eq_true rfl)) d_O_madeAt_43 ⟨Nat.zero_le _, Nat.zero_le _⟩) hP hD hS [0, 2] rfl (fun _ => rfl) (fun _ => gs_adr _ _ _ _ _ _) (fun r4 u5 H locs hw5 hP hD hS => ?_)
        subst hw5
        have hP : va_P D vC ([(h, rO od fa ot ah te id rt bs kn), (ah, ka cJ 13 a), (fa, go cO 4 fr)] ++ gs 4 fr cJ 5 F) H := hP
        have hD : va_D A ([(h, rO od fa ot ah te id rt bs kn), (ah, ka cJ 13 a), (fa, go cO 4 fr)] ++ gs 4 fr cJ 5 F) := hD
        refine rlp_lmul hx hb 1024128004 (lk_p (a n)) (lk_p (shS F (n : Int) (pw - (n : Int)) (o + 1))) d_O_madeAt_46 (fun v6 hv6 => ?_)
        refine rlq_ladd hx hb ((n + 1) * 1073741824) hv (lq_of hv6 (by decide)) d_O_madeAt_47 (fun w2 hw2 => ?_) (by omega)
        refine lv_lstore_n (lv' := [(2, .long w2), (4, .int (iz (n : Int))), (0, .ref h), (1, .int (iz pw))]) hx hb d_O_madeAt_48 rfl hl (by decide) rfl (fun ls hl => ?_)
        refine lv_iinc (v := iz ((n : Int) + 1)) (lv' := [(4, .int (iz ((n : Int) + 1))), (2, .long w2), (0, .ref h), (1, .int (iz pw))]) hx hb d_O_madeAt_49 hl (k := 1) rfl (iz_add _ _) (by decide) rfl (fun ls hl => ?_)
        refine lv_goto (tgt := 5) hx hb d_O_madeAt_52 (by decide) ?_
        exact ih (n + 1) _ w2 H locs ls (by omega) (by omega) (by rw [hs1]; exact hw2) hP hD hS (lv_sub hl [0, 1, 2, 3] rfl)
def ws_O_madeAt : List Cond := .code y_O_madeAt c_O_madeAt 5 (some .long) :: kb
set_option maxHeartbeats 4000000 in
set_option maxRecDepth 100000 in
/-- what is made at a power -/
theorem m_O_madeAt (l : Launch) (D : va_G) (cJ cO : ClassId) (h fa ot ah te id rt bs : Nat) (od kn : Int) (fr : Nat → Nat) (F : Nat → Nat → ro_K) (a : Nat → ro_K) (pw : Int) (o : Nat) (hod : od = (o : Int)) (ho3 : o ≤ 3) (hp0 : 0 ≤ pw) (hp1 : pw ≤ 100) : Met l y_O_madeAt ws_O_madeAt ({ frames := 2, cells := 0, slots := 0, locals := 52 }) (rc_Pc D vC [(cJ, .long), (cO, .array .long)] [.ref h, .int (iz pw)] ([(h, rO od fa ot ah te id rt bs kn), (ah, ka cJ 13 a), (fa, go cO 4 fr)] ++ gs 4 fr cJ 5 F)) (va_Ql (fun (q : Int64) (_ : Unit) => q = lk (maS F o a pw 13)) (fun _ t => va_P D vC ([(h, rO od fa ot ah te id rt bs kn), (ah, ka cJ 13 a), (fa, go cO 4 fr)] ++ gs 4 fr cJ 5 F) t.heap) (rc_A ([(h, rO od fa ot ah te id rt bs kn), (ah, ka cJ 13 a), (fa, go cO 4 fr)] ++ gs 4 fr cJ 5 F))) 0 0 (rc_A ([(h, rO od fa ot ah te id rt bs kn), (ah, ka cJ 13 a), (fa, go cO 4 fr)] ++ gs 4 fr cJ 5 F)) := by
  refine Met.ofW (cc := c_O_madeAt) (maxL := 5) (ret := (some .long)) (by decide) rfl ?_
  intro p e s m args below meth c s₁ B hml hv
  obtain ⟨rfl, hP, hK, hD0, hN⟩ := hv
  have hx := B.exec
  have hb := B.bytes
  have hr := B.returns
  have hts0 := atoms_spec (ws := ws_O_madeAt) B.pre
  have hts : ∀ w ∈ kb, w.before _ s = true := fun w h => hts0 w (List.mem_cons_of_mem _ h)
  have hown : s.vm.findClass R_O = some m.cls := findClass_of_methodNamed B.named
  have hlocks := B.notSynchronized
  have hD := rc_self hD0
  generalize hAe : rc_A ([(h, rO od fa ot ah te id rt bs kn), (ah, ka cJ 13 a), (fa, go cO 4 fr)] ++ gs 4 fr cJ 5 F) = A at hD ⊢
  have hS : va_S A s.heap s.heap [] := va_S.rf
  have hl := lv_entry ([.ref h, .int (iz pw)]) (n := 5) (Nat.le_of_ble_eq_true rfl)
  rw [lg_entry_eq]
  generalize (lg_sl ([.ref h, .int (iz pw)]) ++ List.replicate (5 - (lg_sl ([.ref h, .int (iz pw)])).length) Slot.unset).toArray = ls at hl ⊢

  have hl : lv_has ls 5 [(0, .ref h), (1, .int (iz pw))] := hl
  refine lv_lconst (v := lk 0) hx hb d_O_madeAt_0 rfl ?_
  refine lv_lstore_n (lv' := [(2, .long (lk 0)), (0, .ref h), (1, .int (iz pw))]) hx hb d_O_madeAt_1 rfl hl (by decide) rfl (fun ls hl => ?_)
  refine rz_iconst hx hb d_O_madeAt_2 ?_
  refine lv_istore (lv' := [(4, .int (iz 0)), (2, .long (lk 0)), (0, .ref h), (1, .int (iz pw))]) hx hb d_O_madeAt_3 hl (by decide) rfl (fun ls hl => ?_)
  refine lo_O_madeAt (F := F) (a := a) hod ho3 hp0 hp1 hx hb hml hown hts hK hN ⟨Nat.le_of_ble_eq_true rfl, Nat.le_of_ble_eq_true rfl⟩ (fun v H locs ls hv hP hD hS hl => ?_) 13 0 _ _ _ _ ls rfl (by omega) ⟨by decide, by decide, rfl⟩ hP hD hS (lv_sub hl [0, 1, 2, 3] rfl)
  refine lv_lload_n hx hb d_O_madeAt_55 rfl (lv_at hl 0 rfl) ?_
  refine rc_calll (va_runS (As := [.long v]) (rest := []) ⟨hx, hb, hml, hown, hts⟩ (m_O_number l D v) (cwS 1 hts (kb_gi (kb_c kw_123 (kb_c kw_124 (kb_c kw_1 (kb_c kw_125 kb_all))))) rfl rfl rfl (by decide +kernel) ⟨Nat.le_of_ble_eq_true rfl, Nat.le_of_ble_eq_true rfl⟩) ⟨rc_blind, rc_pre hP hD hK hN [] rfl rfl [] rfl⟩ rfl rfl hl.1 rfl (lv_room (Nat.le_of_ble_eq_true rfl)) d_O_madeAt_56 ⟨Nat.zero_le _, Nat.zero_le _⟩) hP hD hS [] rfl (fun _ => rfl) (fun r1 u2 H locs hw2 hP hD hS => ?_)
  rw [hv.2.2] at hw2
  subst hw2
  have hP : va_P D vC ([(h, rO od fa ot ah te id rt bs kn), (ah, ka cJ 13 a), (fa, go cO 4 fr)] ++ gs 4 fr cJ 5 F) H := hP
  have hD : va_D A ([(h, rO od fa ot ah te id rt bs kn), (ah, ka cJ 13 a), (fa, go cO 4 fr)] ++ gs 4 fr cJ 5 F) := hD
  exact W.lret hx hb hr (fun t ht hW => ⟨⟨_, (), rfl, rfl, rc_out ht hP⟩, hS.F ht⟩) hS.2.2 d_O_madeAt_59
/-- the terms from n on, k of them, each by what the equation makes of it at a power -/
def ntS (E : Nat → Nat → ro_K) (o : Nat) (T : Nat → ro_K) (pw : Int) (n0 : Nat) : Nat → ro_K
  | 0 => 0
  | k + 1 => ntS E o T pw n0 k + T (n0 + k) * shS E ((n0 + k : Nat) : Int) (pw - ((n0 + k : Nat) : Int)) (o + 1)
/-- the number at nx -/
def ntV (E : Nat → Nat → ro_K) (o : Nat) (T : Nat → ro_K) (nx : Nat) : ro_K := -(ntS E o T ((nx : Int) - o) (nx - o - 4) (nx - (nx - o - 4))) * ro_iv (shS E (nx : Int) (-(o : Int)) (o + 1))
set_option maxHeartbeats 4000000 in
set_option maxRecDepth 100000 in
theorem lo_O_nextTerm {cJ cO : ClassId} {h fa ot ah te id rt bs : Nat} {od kn : Int} {o n0 nx : Nat} {er : Nat → Nat} {E : Nat → Nat → ro_K} {T : Nat → ro_K} {pw zx : Int} (hod : od = (o : Int)) (ho3 : o ≤ 3) (hzx : zx = (nx : Int)) (hnx : nx ≤ 30) (hpw0 : 0 ≤ pw) (hpw1 : pw ≤ 30) (hn0 : n0 ≤ nx) (hx : p.tables.exec = Jvm.exec) (hb : c.code = c_O_nextTerm) (hml : c.maxLocals = 6) (hown : s.vm.findClass R_O = some m.cls) (hts : ∀ w ∈ kb, w.before args s = true) (hK : va_K D vC [(cJ, .long), (cO, .array .long)] s) (hN : rc_N s) (hR : 2 ≤ R.frames ∧ 52 ≤ R.locals) (hend : ∀ (v : Int64) (H : Heap) (locs : List Loc) (ls : Array Slot), lq v (ntS E o T pw n0 (nx - n0)) 68719476736 → va_P D vC ([(h, rO od fa ot ah te id rt bs kn), (te, ka cJ 31 T), (ot, go cO 4 er)] ++ gs 4 er cJ 5 E) H → va_D A ([(h, rO od fa ot ah te id rt bs kn), (te, ka cJ 31 T), (ot, go cO 4 er)] ++ gs 4 er cJ 5 E) → va_S A H0 H locs → lv_has ls 6 [(3, .long v), (0, .ref h), (1, .int (iz zx))] → W p l e R s m args below meth c H locs 0 0 Q (F0 m 57 ls [])) : ∀ (q k : Nat) (z : Int) (v : Int64) (H : Heap) (locs : List Loc) (ls : Array Slot), z = ((n0 + k : Nat) : Int) → n0 + k + q = nx → lq v (ntS E o T pw n0 k) (k * 1073741824) → va_P D vC ([(h, rO od fa ot ah te id rt bs kn), (te, ka cJ 31 T), (ot, go cO 4 er)] ++ gs 4 er cJ 5 E) H → va_D A ([(h, rO od fa ot ah te id rt bs kn), (te, ka cJ 31 T), (ot, go cO 4 er)] ++ gs 4 er cJ 5 E) → va_S A H0 H locs → lv_has ls 6 [(5, .int (iz z)), (3, .long v), (2, .int (iz pw)), (0, .ref h), (1, .int (iz zx))] → W p l e R s m args below meth c H locs 0 0 Q (F0 m 20 ls []) := by
  intro q
  induction q with
  | zero =>
    intro k z v H locs ls hz hn hv hP hD hS hl
    have e : k = nx - n0 := by omega
    subst e
    refine lv_iload hx hb d_O_nextTerm_20 (lv_at hl 0 rfl) ?_
    refine lv_iload_n hx hb d_O_nextTerm_22 rfl (lv_at hl 4 rfl) ?_
    refine rz_icmp_ge (tgt := 57) hx hb d_O_nextTerm_23 (by decide) (fun hc1 => ?_) (fun hc1 => ?_)
    · exact hend v H locs ls (lq_up hv (by omega)) hP hD hS (lv_sub hl [1, 3, 4] rfl)
    · omega
  | succ q ih =>
    intro k z v H locs ls hz hn hv hP hD hS hl
    subst hz
    have hs1 : ntS E o T pw n0 (k + 1) = ntS E o T pw n0 k + T (n0 + k) * shS E ((n0 + k : Nat) : Int) (pw - ((n0 + k : Nat) : Int)) (o + 1) := rfl
    refine lv_iload hx hb d_O_nextTerm_20 (lv_at hl 0 rfl) ?_
    refine lv_iload_n hx hb d_O_nextTerm_22 rfl (lv_at hl 4 rfl) ?_
    refine rz_icmp_ge (tgt := 57) hx hb d_O_nextTerm_23 (by decide) (fun hc2 => ?_) (fun hc2 => ?_)
    · omega
    · refine lv_lload_n hx hb d_O_nextTerm_26 rfl (lv_at hl 1 rfl) ?_
      refine lv_aload_n hx hb d_O_nextTerm_27 rfl (lv_at hl 3 rfl) ?_
      refine va_get (D := D) (ci := 2) (v := .ref te) (C := R_O) (T := T_O) (N := 9) hx hb hts in_O hown hK hP 0 rfl rfl 4 (by decide) (hts _ kw_87) (fun _ h9 => h9) rfl d_O_nextTerm_28 ?_
      refine lv_iload hx hb d_O_nextTerm_31 (lv_at hl 0 rfl) ?_
      refine rk_ld hx hb hK hP 1 0 rfl rfl (n0 + k) d_O_nextTerm_33 ?_
      refine lv_aload_n hx hb d_O_nextTerm_34 rfl (lv_at hl 3 rfl) ?_
      refine lv_aload_n hx hb d_O_nextTerm_35 rfl (lv_at hl 3 rfl) ?_
      refine va_get (D := D) (ci := 2) (v := .ref ot) (C := R_O) (T := T_O) (N := 9) hx hb hts in_O hown hK hP 0 rfl rfl 2 (by decide) (hts _ kw_85) (fun _ h9 => h9) rfl d_O_nextTerm_36 ?_
      refine lv_iload hx hb d_O_nextTerm_39 (lv_at hl 0 rfl) ?_
      refine lv_iload_n hx hb d_O_nextTerm_41 rfl (lv_at hl 2 rfl) ?_
      refine lv_iload hx hb d_O_nextTerm_42 (lv_at hl 0 rfl) ?_
      refine rz_isub hx hb d_O_nextTerm_44 ?_
      refine rs_calll (va_runV (As := [.ref ot, .int (iz ((n0 + k : Nat) : Int)), .int (iz (pw - ((n0 + k : Nat) : Int)))]) (rest := [.long (lk (T (n0 + k))), .long v]) ⟨hx, hb, hml, hown, hts⟩ (m_O_share l D cJ cO h fa ot ah te id rt bs od kn ot er E ((n0 + k : Nat) : Int) (pw - ((n0 + k : Nat) : Int)) o hod ho3 (by omega) (by omega) (by omega) (by omega)) (cwV 3 hts (kb_gi (kb_c kw_119 (kb_c kw_121 (kb_c ks_O_share (kb_c kw_1 (kb_c kw_122 kb_all)))))) rfl rfl rfl (by decide +kernel) ⟨Nat.le_trans (by decide) hR.1, Nat.le_trans (by decide) hR.2⟩) ⟨rc_blind, va_recv hK hP (ci := 2) (q0 := 0) rfl rfl, rs_pre (Y := []) (rs_nil hP) (rs_nilD hD) hK hN [0, 2] rfl rfl [0, 1] rfl⟩ rfl rfl hl.1 rfl (lv_room (Nat.le_of_ble_eq_true rfl)) d_O_nextTerm_45 ⟨Nat.zero_le _, Nat.zero_le _⟩) hP hD hS [0, 2] rfl (fun _ => rfl) (fun _ => gs_adr _ _ _ _ _ _) (fun r3 u4 H locs hw4 hP hD hS => ?_)
      subst hw4
      have hP : va_P D vC ([(h, rO od fa ot ah te id rt bs kn), (te, ka cJ 31 T), (ot, go cO 4 er)] ++ gs 4 er cJ 5 E) H := hP
      have hD : va_D A ([(h, rO od fa ot ah te id rt bs kn), (te, ka cJ 31 T), (ot, go cO 4 er)] ++ gs 4 er cJ 5 E) := hD
      refine rlp_lmul hx hb 1024128004 (lk_p (T (n0 + k))) (lk_p (shS E ((n0 + k : Nat) : Int) (pw - ((n0 + k : Nat) : Int)) (o + 1))) d_O_nextTerm_48 (fun v5 hv5 => ?_)
      refine rlq_ladd hx hb ((k + 1) * 1073741824) hv (lq_of hv5 (by decide)) d_O_nextTerm_49 (fun w2 hw2 => ?_) (by omega)
      refine lv_lstore_n (lv' := [(3, .long w2), (5, .int (iz ((n0 + k : Nat) : Int))), (2, .int (iz pw)), (0, .ref h), (1, .int (iz zx))]) hx hb d_O_nextTerm_50 rfl hl (by decide) rfl (fun ls hl => ?_)
      refine lv_iinc (v := iz (((n0 + k : Nat) : Int) + 1)) (lv' := [(5, .int (iz (((n0 + k : Nat) : Int) + 1))), (3, .long w2), (2, .int (iz pw)), (0, .ref h), (1, .int (iz zx))]) hx hb d_O_nextTerm_51 hl (k := 1) rfl (iz_add _ _) (by decide) rfl (fun ls hl => ?_)
      refine lv_goto (tgt := 20) hx hb d_O_nextTerm_54 (by decide) ?_
      exact ih (k + 1) _ w2 H locs ls (by omega) (by omega) (by rw [hs1]; exact hw2) hP hD hS (lv_sub hl [0, 1, 2, 3, 4] rfl)
def ws_O_nextTerm : List Cond := .code y_O_nextTerm c_O_nextTerm 6 (some .long) :: kb
set_option maxHeartbeats 4000000 in
set_option maxRecDepth 100000 in
/-- the next number of a series -/
theorem m_O_nextTerm (l : Launch) (D : va_G) (cJ cO : ClassId) (h fa ot ah te id rt bs : Nat) (od kn : Int) (er : Nat → Nat) (E : Nat → Nat → ro_K) (T : Nat → ro_K) (zx : Int) (o nx : Nat) (hod : od = (o : Int)) (ho1 : 1 ≤ o) (ho3 : o ≤ 3) (hzx : zx = (nx : Int)) (hnx : nx ≤ 30) (hon : o ≤ nx) : Met l y_O_nextTerm ws_O_nextTerm ({ frames := 2, cells := 0, slots := 0, locals := 52 }) (rc_Pc D vC [(cJ, .long), (cO, .array .long)] [.ref h, .int (iz zx)] ([(h, rO od fa ot ah te id rt bs kn), (te, ka cJ 31 T), (ot, go cO 4 er)] ++ gs 4 er cJ 5 E)) (va_Ql (fun (q : Int64) (_ : Unit) => q = lk (ntV E o T nx)) (fun _ t => va_P D vC ([(h, rO od fa ot ah te id rt bs kn), (te, ka cJ 31 T), (ot, go cO 4 er)] ++ gs 4 er cJ 5 E) t.heap) (rc_A ([(h, rO od fa ot ah te id rt bs kn), (te, ka cJ 31 T), (ot, go cO 4 er)] ++ gs 4 er cJ 5 E))) 0 0 (rc_A ([(h, rO od fa ot ah te id rt bs kn), (te, ka cJ 31 T), (ot, go cO 4 er)] ++ gs 4 er cJ 5 E)) := by
  refine Met.ofW (cc := c_O_nextTerm) (maxL := 6) (ret := (some .long)) (by decide) rfl ?_
  intro p e s m args below meth c s₁ B hml hv
  obtain ⟨rfl, hP, hK, hD0, hN⟩ := hv
  have hx := B.exec
  have hb := B.bytes
  have hr := B.returns
  have hts0 := atoms_spec (ws := ws_O_nextTerm) B.pre
  have hts : ∀ w ∈ kb, w.before _ s = true := fun w h => hts0 w (List.mem_cons_of_mem _ h)
  have hown : s.vm.findClass R_O = some m.cls := findClass_of_methodNamed B.named
  have hlocks := B.notSynchronized
  have hD := rc_self hD0
  generalize hAe : rc_A ([(h, rO od fa ot ah te id rt bs kn), (te, ka cJ 31 T), (ot, go cO 4 er)] ++ gs 4 er cJ 5 E) = A at hD ⊢
  have hS : va_S A s.heap s.heap [] := va_S.rf
  have hl := lv_entry ([.ref h, .int (iz zx)]) (n := 6) (Nat.le_of_ble_eq_true rfl)
  rw [lg_entry_eq]
  generalize (lg_sl ([.ref h, .int (iz zx)]) ++ List.replicate (6 - (lg_sl ([.ref h, .int (iz zx)])).length) Slot.unset).toArray = ls at hl ⊢

  have hl : lv_has ls 6 [(0, .ref h), (1, .int (iz zx))] := hl
  refine lv_iload_n hx hb d_O_nextTerm_0 rfl (lv_at hl 1 rfl) ?_
  refine lv_aload_n hx hb d_O_nextTerm_1 rfl (lv_at hl 0 rfl) ?_
  refine va_get (D := D) (ci := 2) (v := .int (iz od)) (C := R_O) (T := T_O) (N := 9) hx hb hts in_O hown hK hP 0 rfl rfl 0 (by decide) (hts _ kw_83) (fun _ h9 => h9) rfl d_O_nextTerm_2 ?_
  refine rz_isub hx hb d_O_nextTerm_5 ?_
  refine lv_istore_n (lv' := [(2, .int (iz (zx - od))), (0, .ref h), (1, .int (iz zx))]) hx hb d_O_nextTerm_6 rfl hl (by decide) rfl (fun ls hl => ?_)
  refine lv_lconst (v := lk 0) hx hb d_O_nextTerm_7 rfl ?_
  refine lv_lstore_n (lv' := [(3, .long (lk 0)), (2, .int (iz (zx - od))), (0, .ref h), (1, .int (iz zx))]) hx hb d_O_nextTerm_8 rfl hl (by decide) rfl (fun ls hl => ?_)
  refine rz_iconst hx hb d_O_nextTerm_9 ?_
  refine lv_iload_n hx hb d_O_nextTerm_10 rfl (lv_at hl 1 rfl) ?_
  refine rz_iconst hx hb d_O_nextTerm_11 ?_
  refine rz_isub hx hb d_O_nextTerm_12 ?_
  refine rz_iconst hx hb d_O_nextTerm_13 ?_
  refine rz_iadd hx hb d_O_nextTerm_14 ?_
  refine va_mmax hx hb (hml.trans hl.1.symm) hown (hts _ kw_80) (hts _ kw_81) (hts _ kw_4) (hts _ kw_82) (Nat.le_of_ble_eq_true rfl) (by decide) (Nat.zero_le _) (Nat.zero_le _) d_O_nextTerm_15 ?_
  have emax : (if iz 0 < iz (((zx - od) - 5) + 1) then iz (((zx - od) - 5) + 1) else iz 0) = iz ((nx - o - 4 : Nat) : Int) := by
    by_cases hc : iz 0 < iz (((zx - od) - 5) + 1)
    · rw [if_pos hc]; rw [iz_lt ⟨by decide, by decide⟩ ⟨by omega, by omega⟩] at hc; congr 1; omega
    · rw [if_neg hc]; rw [iz_lt ⟨by decide, by decide⟩ ⟨by omega, by omega⟩] at hc; congr 1; omega
  rw [emax]
  refine lv_istore (lv' := [(5, .int (iz ((nx - o - 4 : Nat) : Int))), (3, .long (lk 0)), (2, .int (iz (zx - od))), (0, .ref h), (1, .int (iz zx))]) hx hb d_O_nextTerm_18 hl (by decide) rfl (fun ls hl => ?_)
  refine lo_O_nextTerm (E := E) (T := T) (n0 := nx - o - 4) (nx := nx) (pw := zx - od) hod ho3 hzx hnx (by omega) (by omega) (by omega) hx hb hml hown hts hK hN ⟨Nat.le_of_ble_eq_true rfl, Nat.le_of_ble_eq_true rfl⟩ (fun v H locs ls hv hP hD hS hl => ?_) (nx - (nx - o - 4)) 0 _ _ _ _ ls rfl (by omega) ⟨by decide, by decide, rfl⟩ hP hD hS (lv_sub hl [0, 1, 2, 3, 4] rfl)
  refine lv_lload_n hx hb d_O_nextTerm_57 rfl (lv_at hl 0 rfl) ?_
  refine rc_calll (va_runS (As := [.long v]) (rest := []) ⟨hx, hb, hml, hown, hts⟩ (m_O_number l D v) (cwS 1 hts (kb_gi (kb_c kw_123 (kb_c kw_124 (kb_c kw_1 (kb_c kw_125 kb_all))))) rfl rfl rfl (by decide +kernel) ⟨Nat.le_of_ble_eq_true rfl, Nat.le_of_ble_eq_true rfl⟩) ⟨rc_blind, rc_pre hP hD hK hN [] rfl rfl [] rfl⟩ rfl rfl hl.1 rfl (lv_room (Nat.le_of_ble_eq_true rfl)) d_O_nextTerm_58 ⟨Nat.zero_le _, Nat.zero_le _⟩) hP hD hS [] rfl (fun _ => rfl) (fun r1 u2 H locs hw2 hP hD hS => ?_)
  rw [hv.2.2] at hw2
  subst hw2
  have hP : va_P D vC ([(h, rO od fa ot ah te id rt bs kn), (te, ka cJ 31 T), (ot, go cO 4 er)] ++ gs 4 er cJ 5 E) H := hP
  have hD : va_D A ([(h, rO od fa ot ah te id rt bs kn), (te, ka cJ 31 T), (ot, go cO 4 er)] ++ gs 4 er cJ 5 E) := hD
  refine rlq_lneg hx hb (lq_of (lk_p (ntS E o T (zx - od) (nx - o - 4) (nx - (nx - o - 4)))) (by decide)) d_O_nextTerm_61 (fun v3 hv3 => ?_)
  refine lv_aload_n hx hb d_O_nextTerm_62 rfl (lv_at hl 1 rfl) ?_
  refine lv_aload_n hx hb d_O_nextTerm_63 rfl (lv_at hl 1 rfl) ?_
  refine va_get (D := D) (ci := 2) (v := .ref ot) (C := R_O) (T := T_O) (N := 9) hx hb hts in_O hown hK hP 0 rfl rfl 2 (by decide) (hts _ kw_85) (fun _ h9 => h9) rfl d_O_nextTerm_64 ?_
  refine lv_iload_n hx hb d_O_nextTerm_67 rfl (lv_at hl 2 rfl) ?_
  refine lv_aload_n hx hb d_O_nextTerm_68 rfl (lv_at hl 1 rfl) ?_
  refine va_get (D := D) (ci := 2) (v := .int (iz od)) (C := R_O) (T := T_O) (N := 9) hx hb hts in_O hown hK hP 0 rfl rfl 0 (by decide) (hts _ kw_83) (fun _ h9 => h9) rfl d_O_nextTerm_69 ?_
  refine rz_ineg hx hb d_O_nextTerm_72 ?_
  refine rs_calll (va_runV (As := [.ref ot, .int (iz zx), .int (iz (-od))]) (rest := [.long v3]) ⟨hx, hb, hml, hown, hts⟩ (m_O_share l D cJ cO h fa ot ah te id rt bs od kn ot er E zx (-od) o hod ho3 (by omega) (by omega) (by omega) (by omega)) (cwV 3 hts (kb_gi (kb_c kw_119 (kb_c kw_121 (kb_c ks_O_share (kb_c kw_1 (kb_c kw_122 kb_all)))))) rfl rfl rfl (by decide +kernel) ⟨Nat.le_of_ble_eq_true rfl, Nat.le_of_ble_eq_true rfl⟩) ⟨rc_blind, va_recv hK hP (ci := 2) (q0 := 0) rfl rfl, rs_pre (Y := []) (rs_nil hP) (rs_nilD hD) hK hN [0, 2] rfl rfl [0, 1] rfl⟩ rfl rfl hl.1 rfl (lv_room (Nat.le_of_ble_eq_true rfl)) d_O_nextTerm_73 ⟨Nat.zero_le _, Nat.zero_le _⟩) hP hD hS [0, 2] rfl (fun _ => rfl) (fun _ => gs_adr _ _ _ _ _ _) (fun r4 u5 H locs hw5 hP hD hS => ?_)
  subst hw5
  have hP : va_P D vC ([(h, rO od fa ot ah te id rt bs kn), (te, ka cJ 31 T), (ot, go cO 4 er)] ++ gs 4 er cJ 5 E) H := hP
  have hD : va_D A ([(h, rO od fa ot ah te id rt bs kn), (te, ka cJ 31 T), (ot, go cO 4 er)] ++ gs 4 er cJ 5 E) := hD
  refine rc_calll (va_runS (As := [.long (lk (shS E zx (-od) (o + 1)))]) (rest := [.long v3]) ⟨hx, hb, hml, hown, hts⟩ (m_O_inverse l D (shS E zx (-od) (o + 1))) (cwS 1 hts (kb_gi (kb_c kw_523 (kb_c kw_160 (kb_c kw_1 (kb_c kw_161 kb_all))))) rfl rfl rfl (by decide +kernel) ⟨Nat.le_of_ble_eq_true rfl, Nat.le_of_ble_eq_true rfl⟩) ⟨rc_blind, rc_pre hP hD hK hN [] rfl rfl [] rfl⟩ rfl rfl hl.1 rfl (lv_room (Nat.le_of_ble_eq_true rfl)) d_O_nextTerm_76 ⟨Nat.zero_le _, Nat.zero_le _⟩) hP hD hS [] rfl (fun _ => rfl) (fun r6 u7 H locs hw7 hP hD hS => ?_)
  subst hw7
  have hP : va_P D vC ([(h, rO od fa ot ah te id rt bs kn), (te, ka cJ 31 T), (ot, go cO 4 er)] ++ gs 4 er cJ 5 E) H := hP
  have hD : va_D A ([(h, rO od fa ot ah te id rt bs kn), (te, ka cJ 31 T), (ot, go cO 4 er)] ++ gs 4 er cJ 5 E) := hD
  refine rlq_lmul hx hb 1024128004 hv3 (lq_of (lk_p (ro_iv (shS E zx (-od) (o + 1)))) (by decide)) d_O_nextTerm_79 (fun v8 hv8 => ?_)
  refine rc_calll (va_runS (As := [.long v8]) (rest := []) ⟨hx, hb, hml, hown, hts⟩ (m_O_number l D v8) (cwS 1 hts (kb_gi (kb_c kw_123 (kb_c kw_124 (kb_c kw_1 (kb_c kw_125 kb_all))))) rfl rfl rfl (by decide +kernel) ⟨Nat.le_of_ble_eq_true rfl, Nat.le_of_ble_eq_true rfl⟩) ⟨rc_blind, rc_pre hP hD hK hN [] rfl rfl [] rfl⟩ rfl rfl hl.1 rfl (lv_room (Nat.le_of_ble_eq_true rfl)) d_O_nextTerm_80 ⟨Nat.zero_le _, Nat.zero_le _⟩) hP hD hS [] rfl (fun _ => rfl) (fun r9 u10 H locs hw10 hP hD hS => ?_)
  rw [hv8.2.2] at hw10
  subst hw10
  have hP : va_P D vC ([(h, rO od fa ot ah te id rt bs kn), (te, ka cJ 31 T), (ot, go cO 4 er)] ++ gs 4 er cJ 5 E) H := hP
  have hD : va_D A ([(h, rO od fa ot ah te id rt bs kn), (te, ka cJ 31 T), (ot, go cO 4 er)] ++ gs 4 er cJ 5 E) := hD
  exact W.lret hx hb hr (fun t ht hW => ⟨⟨_, (), rfl, (by subst hod; subst hzx; rfl), rc_out ht hP⟩, hS.F ht⟩) hS.2.2 d_O_nextTerm_83
end WK
