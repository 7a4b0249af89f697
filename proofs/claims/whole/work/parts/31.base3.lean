section WK
variable {p : Program} {l : Launch} {e : Env} {R : Room} {s : State} {m : MethodId} {args : Array Value} {below : List Frame} {meth : Method} {c : Code} {H : Heap} {locs : List Loc} {cells slots : Nat} {Q : State → Prop} {D : va_G} {A : Nat → Prop} {H0 : Heap}
theorem rdL_lok : ∀ (n p0 u : Nat) (M : Nat → Nat → ro_K) (L : Nat → Int), p0 + n = 13 → u ≤ p0 → (∀ j, j < p0 → L j = -1 ∨ ∃ r : Nat, r < 17 ∧ L j = (r : Int)) → lok (rdL n p0 u M L).2
  | 0, p0, u, M, L, hn, _, h => fun j hj => h j (by omega)
  | n + 1, p0, u, M, L, hn, hu, h => by
    have up : ∀ x : Int, (x = -1 ∨ ∃ r : Nat, r < 17 ∧ x = (r : Int)) → ∀ j, j < p0 + 1 → va_up L p0 x j = -1 ∨ ∃ r : Nat, r < 17 ∧ va_up L p0 x j = (r : Int) := by
      intro x hx j hj
      by_cases e : j = p0
      · subst e; rw [va_up_self]; exact hx
      · rw [va_up_ne _ _ e]; exact h j (by omega)
    by_cases hr : rwL M p0 (17 - u) = 17
    · have e : rdL (n + 1) p0 u M L = rdL n (p0 + 1) u M (va_up L p0 (-1)) := if_pos hr
      rw [e]
      exact rdL_lok n (p0 + 1) u M _ (by omega) (by omega) (up _ (Or.inl rfl))
    · have e : rdL (n + 1) p0 u M L = rdL n (p0 + 1) (u + 1) (gst M p0 u) (va_up L p0 (u : Int)) := if_neg hr
      rw [e]
      exact rdL_lok n (p0 + 1) (u + 1) _ _ (by omega) (by omega) (up _ (Or.inr ⟨u, by omega, rfl⟩))
/-- the members, from the highest power down: how many, and they -/
def svL (M : Nat → Nat → ro_K) (L : Nat → Int) : Nat → Nat → (Nat → Nat → ro_K) → Nat × (Nat → Nat → ro_K)
  | 0, c, B => (c, B)
  | n + 1, c, B => if L n = -1 then svL M L n (c + 1) (va_up B c (fmk M L n n (B c))) else svL M L n c B
theorem svL_le (M : Nat → Nat → ro_K) (L : Nat → Int) : ∀ n c B, (svL M L n c B).1 ≤ c + n
  | 0, c, B => Nat.le_refl c
  | n + 1, c, B => by
    show (if L n = -1 then svL M L n (c + 1) (va_up B c (fmk M L n n (B c))) else svL M L n c B).1 ≤ _
    by_cases h : L n = -1
    · rw [if_pos h]; have := svL_le M L n (c + 1) (va_up B c (fmk M L n n (B c))); omega
    · rw [if_neg h]; have := svL_le M L n c B; omega
set_option maxHeartbeats 4000000 in
set_option maxRecDepth 100000 in
theorem lo_B_solve {cJ cO cI : ClassId} {h ro le me : Nat} {ra mb : Nat → Nat} {M : Nat → Nat → ro_K} {Lx : Nat → Int} {U : Nat × (Nat → Nat → ro_K)} (hL : lok Lx) (hx : p.tables.exec = Jvm.exec) (hb : c.code = c_B_solve) (hml : c.maxLocals = 2) (hown : s.vm.findClass R_B = some m.cls) (hts : ∀ w ∈ kb, w.before args s = true) (hK : va_K D vC [(cJ, .long), (cO, .array .long), (cI, .int)] s) (hN : rc_N s) (hR : 3 ≤ R.frames ∧ 72 ≤ R.locals) (hend : ∀ (cn : Int) (H : Heap) (locs : List Loc) (ls : Array Slot), cn = (U.1 : Int) → va_P D vC (([(h, rB ro le me cn), (ro, go cO 17 ra), (le, ki cI 13 Lx), (me, go cO 13 mb)] ++ gs 13 mb cJ 13 U.2) ++ gs 17 ra cJ 13 M) H → va_D A (([(h, rB ro le me cn), (ro, go cO 17 ra), (le, ki cI 13 Lx), (me, go cO 13 mb)] ++ gs 13 mb cJ 13 U.2) ++ gs 17 ra cJ 13 M) → va_S A H0 H locs → W p l e R s m args below meth c H locs 0 0 Q (F0 m 56 ls [])) : ∀ (n c0 : Nat) (Bm : Nat → Nat → ro_K) (cn z : Int) (H : Heap) (locs : List Loc) (ls : Array Slot), z = (n : Int) - 1 → c0 + n ≤ 13 → cn = (c0 : Int) → svL M Lx n c0 Bm = U → va_P D vC (([(h, rB ro le me cn), (ro, go cO 17 ra), (le, ki cI 13 Lx), (me, go cO 13 mb)] ++ gs 13 mb cJ 13 Bm) ++ gs 17 ra cJ 13 M) H → va_D A (([(h, rB ro le me cn), (ro, go cO 17 ra), (le, ki cI 13 Lx), (me, go cO 13 mb)] ++ gs 13 mb cJ 13 Bm) ++ gs 17 ra cJ 13 M) → va_S A H0 H locs → lv_has ls 2 [(1, .int (iz z)), (0, .ref h)] → W p l e R s m args below meth c H locs 0 0 Q (F0 m 12 ls []) := by
  intro n
  induction n with
  | zero =>
    intro c0 Bm cn z H locs ls hz hc hcn hU hP hD hS hl
    subst hU
    refine lv_iload_n hx hb d_B_solve_12 rfl (lv_at hl 0 rfl) ?_
    refine rz_if_lt (tgt := 56) hx hb d_B_solve_13 (by decide) (fun hc => ?_) (fun hc => absurd hc (by omega))
    exact hend cn H locs ls hcn hP hD hS
  | succ n ih =>
    intro c0 Bm cn z H locs ls hz hc hcn hU hP hD hS hl
    have hU2 : (if Lx n = -1 then svL M Lx n (c0 + 1) (va_up Bm c0 (fmk M Lx n n (Bm c0))) else svL M Lx n c0 Bm) = U := hU
    have hLn : -1 ≤ Lx n ∧ Lx n < 17 := by rcases hL n (by omega) with h | ⟨r, h1, h2⟩ <;> omega
    refine lv_iload_n hx hb d_B_solve_12 rfl (lv_at hl 0 rfl) ?_
    refine rz_if_lt (tgt := 56) hx hb d_B_solve_13 (by decide) (fun hc => absurd hc (by omega)) (fun hc => ?_)
    refine lv_aload_n hx hb d_B_solve_16 rfl (lv_at hl 1 rfl) ?_
    refine va_get (D := D) (ci := 0) (v := .ref le) (C := R_B) (T := T_B) (N := 4) hx hb hts in_B hown hK hP 0 rfl rfl 1 (by decide) (hts _ kw_64) (fun _ h9 => h9) rfl d_B_solve_17 ?_
    refine lv_iload_n hx hb d_B_solve_20 rfl (lv_at hl 0 rfl) ?_
    refine rk_ild hx hb hK hP 2 2 rfl rfl n d_B_solve_21 ?_
    refine rz_iconst hx hb d_B_solve_22 ?_
    refine rz_icmp_ne (tgt := 50) hx hb d_B_solve_23 (by decide) (fun hc1 => ?_) (fun hc1 => ?_)
    · refine lv_iinc (v := iz (z + (-1))) (lv' := [(1, .int (iz (z + (-1)))), (0, .ref h)]) hx hb d_B_solve_50 hl (k := 0) rfl (iz_add _ _) (by decide) rfl (fun ls hl => ?_)
      refine lv_goto (tgt := 12) hx hb d_B_solve_53 (by decide) ?_
      rw [if_neg (by assumption)] at hU2
      exact ih c0 _ _ _ H locs ls (by omega) (by omega) hcn hU2 hP hD hS (lv_sub hl [0, 1] rfl)
    · refine lv_aload_n hx hb d_B_solve_26 rfl (lv_at hl 1 rfl) ?_
      refine lv_aload_n hx hb d_B_solve_27 rfl (lv_at hl 1 rfl) ?_
      refine va_get (D := D) (ci := 0) (v := .ref me) (C := R_B) (T := T_B) (N := 4) hx hb hts in_B hown hK hP 0 rfl rfl 2 (by decide) (hts _ kw_65) (fun _ h9 => h9) rfl d_B_solve_28 ?_
      refine lv_aload_n hx hb d_B_solve_31 rfl (lv_at hl 1 rfl) ?_
      refine va_get (D := D) (ci := 0) (v := .int (iz cn)) (C := R_B) (T := T_B) (N := 4) hx hb hts in_B hown hK hP 0 rfl rfl 3 (by decide) (hts _ kw_66) (fun _ h9 => h9) rfl d_B_solve_32 ?_
      refine rg_ald hx hb hK hP 3 1 rfl rfl c0 d_B_solve_35 ?_
      refine lv_iload_n hx hb d_B_solve_36 rfl (lv_at hl 0 rfl) ?_
      refine rs_callv (va_runV (As := [.ref (mb c0), .int (iz z)]) (rest := []) ⟨hx, hb, hml, hown, hts⟩ (m_B_fillMember l D cJ cO cI h ro le me cn ra (mb c0) n M Lx (Bm c0) z hL (by omega) (by omega)) (cwV 2 hts (kb_gi (kb_c kw_168 (kb_c kw_170 (kb_c ks_B_fillMember (kb_c kw_3 (kb_c kw_171 kb_all)))))) rfl rfl rfl (by decide +kernel) ⟨Nat.le_trans (by decide) hR.1, Nat.le_trans (by decide) hR.2⟩) ⟨rc_blind, va_recv hK hP (ci := 0) (q0 := 0) rfl rfl, rs_pre (Y := []) (rs_nil hP) (rs_nilD hD) hK hN [4 + c0, 0, 1, 2] (by simp only [List.map_cons, List.map_nil]; rw [show ([(h, rB ro le me cn), (ro, go cO 17 ra), (le, ki cI 13 Lx), (me, go cO 13 mb)] ++ gs 13 mb cJ 13 Bm)[4 + c0]? = some (mb c0, ka cJ 13 (Bm c0)) from gs_get (X := [(h, rB ro le me cn), (ro, go cO 17 ra), (le, ki cI 13 Lx), (me, go cO 13 mb)]) (by omega)]; rfl) (by simp [va_nd]; omega) [0, 1, 2] rfl⟩ rfl rfl hl.1 rfl (lv_room (Nat.le_of_ble_eq_true rfl)) d_B_solve_37 ⟨Nat.zero_le _, Nat.zero_le _⟩) hP hD hS [4 + c0, 0, 1, 2] (by simp only [List.map_cons, List.map_nil]; rw [show ([(h, rB ro le me cn), (ro, go cO 17 ra), (le, ki cI 13 Lx), (me, go cO 13 mb)] ++ gs 13 mb cJ 13 Bm)[4 + c0]? = some (mb c0, ka cJ 13 (Bm c0)) from gs_get (X := [(h, rB ro le me cn), (ro, go cO 17 ra), (le, ki cI 13 Lx), (me, go cO 13 mb)]) (by omega)]; rfl) (fun _ => rfl) (fun _ => gs_adr _ _ _ _ _ _) (fun u2 H locs hw2 hP hD hS => ?_)
      have hP : va_P D vC ((((([(h, rB ro le me cn), (ro, go cO 17 ra), (le, ki cI 13 Lx), (me, go cO 13 mb)] ++ gs 13 mb cJ 13 Bm).set (4 + c0) (mb c0, ka cJ 13 (fmk M Lx n n (Bm c0)))).set 0 (h, rB ro le me cn)).set 1 (ro, go cO 17 ra)).set 2 (le, ki cI 13 Lx) ++ gs 17 ra cJ 13 M) H := hP
      have hD : va_D A ((((([(h, rB ro le me cn), (ro, go cO 17 ra), (le, ki cI 13 Lx), (me, go cO 13 mb)] ++ gs 13 mb cJ 13 Bm).set (4 + c0) (mb c0, ka cJ 13 (fmk M Lx n n (Bm c0)))).set 0 (h, rB ro le me cn)).set 1 (ro, go cO 17 ra)).set 2 (le, ki cI 13 Lx) ++ gs 17 ra cJ 13 M) := hD
      rw [show ([(h, rB ro le me cn), (ro, go cO 17 ra), (le, ki cI 13 Lx), (me, go cO 13 mb)] ++ gs 13 mb cJ 13 Bm).set (4 + c0) (mb c0, ka cJ 13 (fmk M Lx n n (Bm c0))) = [(h, rB ro le me cn), (ro, go cO 17 ra), (le, ki cI 13 Lx), (me, go cO 13 mb)] ++ gs 13 mb cJ 13 (va_up Bm c0 (fmk M Lx n n (Bm c0))) from gs_set (X := [(h, rB ro le me cn), (ro, go cO 17 ra), (le, ki cI 13 Lx), (me, go cO 13 mb)]) (by omega) _ _ (va_up_self Bm c0 _) (fun a ha => va_up_ne Bm _ ha)] at hP hD
      have hP : va_P D vC (([(h, rB ro le me cn), (ro, go cO 17 ra), (le, ki cI 13 Lx), (me, go cO 13 mb)] ++ gs 13 mb cJ 13 (va_up Bm c0 (fmk M Lx n n (Bm c0)))) ++ gs 17 ra cJ 13 M) H := hP
      have hD : va_D A (([(h, rB ro le me cn), (ro, go cO 17 ra), (le, ki cI 13 Lx), (me, go cO 13 mb)] ++ gs 13 mb cJ 13 (va_up Bm c0 (fmk M Lx n n (Bm c0)))) ++ gs 17 ra cJ 13 M) := hD
      refine lv_aload_n hx hb d_B_solve_40 rfl (lv_at hl 1 rfl) ?_
      refine lv_dup hx hb d_B_solve_41 rfl ?_
      refine va_get (D := D) (ci := 0) (v := .int (iz cn)) (C := R_B) (T := T_B) (N := 4) hx hb hts in_B hown hK hP 0 rfl rfl 3 (by decide) (hts _ kw_66) (fun _ h9 => h9) rfl d_B_solve_42 ?_
      refine rz_iconst hx hb d_B_solve_45 ?_
      refine rz_iadd hx hb d_B_solve_46 ?_
      refine va_put (D := D) (ci := 0) (v := .int (iz (cn + 1))) (ty := .int) (C := R_B) (T := T_B) (N := 4) hx hb hts in_B ty_B tk_B nm_B hown hK hP hD hS 0 rfl rfl 3 (by decide) (hts _ kw_66) (fun _ h9 => h9) rfl (by decide +kernel) rfl rfl (Nat.le_of_ble_eq_true rfl) d_B_solve_47 (fun H locs hP hD hS => ?_)
      have hP : va_P D vC (([(h, rB ro le me (cn + 1)), (ro, go cO 17 ra), (le, ki cI 13 Lx), (me, go cO 13 mb)] ++ gs 13 mb cJ 13 (va_up Bm c0 (fmk M Lx n n (Bm c0)))) ++ gs 17 ra cJ 13 M) H := hP
      have hD : va_D A (([(h, rB ro le me (cn + 1)), (ro, go cO 17 ra), (le, ki cI 13 Lx), (me, go cO 13 mb)] ++ gs 13 mb cJ 13 (va_up Bm c0 (fmk M Lx n n (Bm c0)))) ++ gs 17 ra cJ 13 M) := hD
      refine lv_iinc (v := iz (z + (-1))) (lv' := [(1, .int (iz (z + (-1)))), (0, .ref h)]) hx hb d_B_solve_50 hl (k := 0) rfl (iz_add _ _) (by decide) rfl (fun ls hl => ?_)
      refine lv_goto (tgt := 12) hx hb d_B_solve_53 (by decide) ?_
      rw [if_pos (by assumption)] at hU2
      exact ih (c0 + 1) _ _ _ H locs ls (by omega) (by omega) (by omega) hU2 hP hD hS (lv_sub hl [0, 1] rfl)
def ws_B_solve : List Cond := .code y_B_solve c_B_solve 2 none :: kb
set_option maxHeartbeats 4000000 in
set_option maxRecDepth 100000 in
/-- the base -/
theorem m_B_solve (l : Launch) (D : va_G) (cJ cO cI : ClassId) (h ro le me : Nat) (cn : Int) (ra mb : Nat → Nat) (M Bm : Nat → Nat → ro_K) (Lx : Nat → Int) : Met l y_B_solve ws_B_solve ({ frames := 3, cells := 0, slots := 0, locals := 72 }) (rc_Pc D vC [(cJ, .long), (cO, .array .long), (cI, .int)] [.ref h] (([(h, rB ro le me cn), (ro, go cO 17 ra), (le, ki cI 13 Lx), (me, go cO 13 mb)] ++ gs 13 mb cJ 13 Bm) ++ gs 17 ra cJ 13 M)) (va_Qv (fun (_ : Unit) => True) (fun _ t => va_P D vC (([(h, rB ro le me ((svL (rdL 13 0 0 M Lx).1 (rdL 13 0 0 M Lx).2 13 0 Bm).1 : Int)), (ro, go cO 17 ra), (le, ki cI 13 (rdL 13 0 0 M Lx).2), (me, go cO 13 mb)] ++ gs 13 mb cJ 13 (svL (rdL 13 0 0 M Lx).1 (rdL 13 0 0 M Lx).2 13 0 Bm).2) ++ gs 17 ra cJ 13 (rdL 13 0 0 M Lx).1) t.heap) (rc_A (([(h, rB ro le me cn), (ro, go cO 17 ra), (le, ki cI 13 Lx), (me, go cO 13 mb)] ++ gs 13 mb cJ 13 Bm) ++ gs 17 ra cJ 13 M))) 0 0 (rc_A (([(h, rB ro le me cn), (ro, go cO 17 ra), (le, ki cI 13 Lx), (me, go cO 13 mb)] ++ gs 13 mb cJ 13 Bm) ++ gs 17 ra cJ 13 M)) := by
  refine Met.ofW (cc := c_B_solve) (maxL := 2) (ret := none) (by decide) rfl ?_
  intro p e s m args below meth c s₁ B hml hv
  obtain ⟨rfl, hP, hK, hD0, hN⟩ := hv
  have hx := B.exec
  have hb := B.bytes
  have hr := B.returns
  have hts0 := atoms_spec (ws := ws_B_solve) B.pre
  have hts : ∀ w ∈ kb, w.before _ s = true := fun w h => hts0 w (List.mem_cons_of_mem _ h)
  have hown : s.vm.findClass R_B = some m.cls := findClass_of_methodNamed B.named
  have hlocks := B.notSynchronized
  have hD := rc_self hD0
  generalize hAe : rc_A (([(h, rB ro le me cn), (ro, go cO 17 ra), (le, ki cI 13 Lx), (me, go cO 13 mb)] ++ gs 13 mb cJ 13 Bm) ++ gs 17 ra cJ 13 M) = A at hD ⊢
  have hS : va_S A s.heap s.heap [] := va_S.rf
  have hl := lv_entry ([.ref h]) (n := 2) (Nat.le_of_ble_eq_true rfl)
  rw [lg_entry_eq]
  generalize (lg_sl ([.ref h]) ++ List.replicate (2 - (lg_sl ([.ref h])).length) Slot.unset).toArray = ls at hl ⊢

  have hl : lv_has ls 2 [(0, .ref h)] := hl
  have hlok := rdL_lok 13 0 0 M Lx rfl (Nat.le_refl 0) (fun j hj => absurd hj (Nat.not_lt_zero j))
  refine lv_aload_n hx hb d_B_solve_0 rfl (lv_at hl 0 rfl) ?_
  refine rs_callv (va_runV (As := []) (rest := []) ⟨hx, hb, hml, hown, hts⟩ (m_B_reduceRows l D cJ cO cI h ro le me cn ra M Lx) (cwV 0 hts (kb_gi (kb_c kw_143 (kb_c kw_145 (kb_c ks_B_reduceRows (kb_c kw_3 (kb_c kw_146 kb_all)))))) rfl rfl rfl (by decide +kernel) ⟨Nat.le_of_ble_eq_true rfl, Nat.le_of_ble_eq_true rfl⟩) ⟨rc_blind, va_recv hK hP (ci := 0) (q0 := 0) rfl rfl, rs_pre (Y := []) (rs_nil hP) (rs_nilD hD) hK hN [0, 1, 2] rfl rfl [0, 1, 2] rfl⟩ rfl rfl hl.1 rfl (lv_room (Nat.le_of_ble_eq_true rfl)) d_B_solve_1 ⟨Nat.zero_le _, Nat.zero_le _⟩) hP hD hS [0, 1, 2] rfl (fun _ => rfl) (fun _ => gs_adr _ _ _ _ _ _) (fun u1 H locs hw1 hP hD hS => ?_)
  have hP : va_P D vC (([(h, rB ro le me cn), (ro, go cO 17 ra), (le, ki cI 13 (rdL 13 0 0 M Lx).2), (me, go cO 13 mb)] ++ gs 13 mb cJ 13 Bm) ++ gs 17 ra cJ 13 (rdL 13 0 0 M Lx).1) H := hP
  have hD : va_D A (([(h, rB ro le me cn), (ro, go cO 17 ra), (le, ki cI 13 (rdL 13 0 0 M Lx).2), (me, go cO 13 mb)] ++ gs 13 mb cJ 13 Bm) ++ gs 17 ra cJ 13 (rdL 13 0 0 M Lx).1) := hD
  refine lv_aload_n hx hb d_B_solve_4 rfl (lv_at hl 0 rfl) ?_
  refine rz_iconst hx hb d_B_solve_5 ?_
  refine va_put (D := D) (ci := 0) (v := .int (iz 0)) (ty := .int) (C := R_B) (T := T_B) (N := 4) hx hb hts in_B ty_B tk_B nm_B hown hK hP hD hS 0 rfl rfl 3 (by decide) (hts _ kw_66) (fun _ h9 => h9) rfl (by decide +kernel) rfl rfl (Nat.le_of_ble_eq_true rfl) d_B_solve_6 (fun H locs hP hD hS => ?_)
  have hP : va_P D vC (([(h, rB ro le me 0), (ro, go cO 17 ra), (le, ki cI 13 (rdL 13 0 0 M Lx).2), (me, go cO 13 mb)] ++ gs 13 mb cJ 13 Bm) ++ gs 17 ra cJ 13 (rdL 13 0 0 M Lx).1) H := hP
  have hD : va_D A (([(h, rB ro le me 0), (ro, go cO 17 ra), (le, ki cI 13 (rdL 13 0 0 M Lx).2), (me, go cO 13 mb)] ++ gs 13 mb cJ 13 Bm) ++ gs 17 ra cJ 13 (rdL 13 0 0 M Lx).1) := hD
  refine rz_bipush hx hb d_B_solve_9 (by decide) ?_
  refine lv_istore_n (lv' := [(1, .int (iz 12)), (0, .ref h)]) hx hb d_B_solve_11 rfl hl (by decide) rfl (fun ls hl => ?_)
  refine lo_B_solve (M := (rdL 13 0 0 M Lx).1) (Lx := (rdL 13 0 0 M Lx).2) (U := (svL (rdL 13 0 0 M Lx).1 (rdL 13 0 0 M Lx).2 13 0 Bm)) hlok hx hb hml hown hts hK hN ⟨Nat.le_of_ble_eq_true rfl, Nat.le_of_ble_eq_true rfl⟩ (fun cn H locs ls hcn hP hD hS => ?_) 13 0 Bm _ _ H locs ls rfl (by omega) rfl rfl hP hD hS (lv_sub hl [0, 1] rfl)
  subst hcn
  exact W.vret hx hb hr (fun t ht hW => ⟨⟨(), rfl, trivial, rc_out ht hP⟩, hS.F ht⟩) hS.2.2 d_B_solve_56
end WK
