section WK
variable {p : Program} {l : Launch} {e : Env} {R : Room} {s : State} {m : MethodId} {args : Array Value} {below : List Frame} {meth : Method} {c : Code} {H : Heap} {locs : List Loc} {cells slots : Nat} {Q : State → Prop} {D : va_G} {A : Nat → Prop} {H0 : Heap}
/-- the first n of a row are all the roots of F, rising -/
def rts (F : Nat → ro_K) (n : Nat) (Fo : Nat → ro_K) : Prop := n ≤ 4 ∧ srt Fo n ∧ ∀ x, (∃ j, j < n ∧ Fo j = x) ↔ ro_ev 5 F x = 0
/-- .. and the roots in M still are to come -/
def rtp (F : Nat → ro_K) (n : Nat) (Fo : Nat → ro_K) (M : List ro_K) : Prop := n + M.length ≤ 4 ∧ M.Nodup ∧ srt Fo n ∧ (∀ j, j < n → Fo j ∉ M) ∧ ∀ x, ((∃ j, j < n ∧ Fo j = x) ∨ x ∈ M) ↔ ro_ev 5 F x = 0
theorem rtp_step {F Fo : Nat → ro_K} {n : Nat} {M : List ro_K} {x : ro_K} (h : rtp F n Fo M) (hx : x ∈ M) : rtp F (n + 1) (va_up (inK x n Fo).2 (inK x n Fo).1 x) (M.erase x) := by
  obtain ⟨h1, h2, h3, h4, h5⟩ := h
  have hne : ∀ j, j < n → Fo j ≠ x := fun j hj e => h4 j hj (by rw [e]; exact hx)
  obtain ⟨s1, s2⟩ := inK_spec x n n Fo (Nat.le_refl n) (fun i j hij hj _ ej => h3 i j hij (by omega)) (fun j hj1 hj2 => absurd hj2 (by omega)) (fun j hj ej => hne j (by omega))
  have hl := List.length_erase_of_mem hx
  have hp : 0 < M.length := List.length_pos_of_mem hx
  have s3 : ∀ a, (∃ j, j < n + 1 ∧ va_up (inK x n Fo).2 (inK x n Fo).1 x j = a) ↔ (a = x ∨ ∃ j, j < n ∧ Fo j = a) := by
    intro a
    rw [s2 a]
    constructor
    · rintro (z | ⟨j, hj, ej, e⟩)
      · exact Or.inl z
      · exact Or.inr ⟨j, by omega, e⟩
    · rintro (z | ⟨j, hj, e⟩)
      · exact Or.inl z
      · exact Or.inr ⟨j, by omega, by omega, e⟩
  refine ⟨by omega, List.Nodup.erase x h2, s1, fun j hj hm => ?_, fun a => ?_⟩
  · rw [List.Nodup.mem_erase_iff h2] at hm
    rcases (s3 _).mp ⟨j, hj, rfl⟩ with z | ⟨i, hi, e⟩
    · exact hm.1 z
    · exact h4 i hi (by rw [e]; exact hm.2)
  · rw [s3 a, ← h5 a, List.Nodup.mem_erase_iff h2]
    constructor
    · rintro ((z | z) | z)
      · rw [z]; exact Or.inr hx
      · exact Or.inl z
      · exact Or.inr z.2
    · rintro (z | z)
      · exact Or.inl (Or.inr z)
      · by_cases e : a = x
        · exact Or.inl (Or.inl e)
        · exact Or.inr ⟨e, z⟩
theorem rtp_nil {F Fo : Nat → ro_K} {n : Nat} (h : rtp F n Fo []) : rts F n Fo := by
  obtain ⟨h1, h2, h3, h4, h5⟩ := h
  refine ⟨by simpa using h1, h3, fun x => ?_⟩
  rw [← h5 x]
  simp
abbrev rS8 : Type := Nat × (Nat → ro_K) × (Nat → ro_K) × rS5
set_option maxHeartbeats 4000000 in
set_option maxRecDepth 100000 in
theorem lo_R_find {fo wh pt rs sq on tw h pa : Nat} {cJ : ClassId} {F : Nat → ro_K} (hx : p.tables.exec = Jvm.exec) (hb : c.code = c_R_find) (hml : c.maxLocals = 5) (hown : s.vm.findClass R_R = some m.cls) (hts : ∀ w ∈ kb, w.before args s = true) (hK : va_K D vC [(cJ, .long)] s) (hN : rc_N s) (hR : 4 ≤ R.frames ∧ 109 ≤ R.locals) (hend : ∀ (n : Nat) (cn : Int) (Fo Y P r S a b : Nat → ro_K) (H : Heap) (locs : List Loc) (ls : Array Slot), cn = (n : Int) → rts F n Fo → va_P D vC [(pa, ka cJ 5 F), (h, rR fo cn wh pt rs sq on tw), (fo, ka cJ 4 Fo), (wh, ka cJ 5 Y), (pt, ka cJ 5 P), (rs, ka cJ 5 r), (sq, ka cJ 8 S), (on, ka cJ 5 a), (tw, ka cJ 5 b)] H → va_D A [(pa, ka cJ 5 F), (h, rR fo cn wh pt rs sq on tw), (fo, ka cJ 4 Fo), (wh, ka cJ 5 Y), (pt, ka cJ 5 P), (rs, ka cJ 5 r), (sq, ka cJ 8 S), (on, ka cJ 5 a), (tw, ka cJ 5 b)] → va_S A H0 H locs → W p l e R s m args below meth c H locs 0 0 Q (F0 m 66 ls [])) : ∀ (k n : Nat) (M : List ro_K) (cn : Int) (Fo Y P r S a b : Nat → ro_K) (z : Int) (H : Heap) (locs : List Loc) (ls : Array Slot), z = (k : Int) → M.length = k → cn = (n : Int) → rtp F n Fo M → (∀ i, i < 5 → Y i = ro_pl M i) → va_P D vC [(pa, ka cJ 5 F), (h, rR fo cn wh pt rs sq on tw), (fo, ka cJ 4 Fo), (wh, ka cJ 5 Y), (pt, ka cJ 5 P), (rs, ka cJ 5 r), (sq, ka cJ 8 S), (on, ka cJ 5 a), (tw, ka cJ 5 b)] H → va_D A [(pa, ka cJ 5 F), (h, rR fo cn wh pt rs sq on tw), (fo, ka cJ 4 Fo), (wh, ka cJ 5 Y), (pt, ka cJ 5 P), (rs, ka cJ 5 r), (sq, ka cJ 8 S), (on, ka cJ 5 a), (tw, ka cJ 5 b)] → va_S A H0 H locs → lv_has ls 5 [(2, .int (iz z)), (0, .ref h), (1, .ref pa)] → W p l e R s m args below meth c H locs 0 0 Q (F0 m 41 ls []) := by
  intro k
  induction k with
  | zero =>
    intro n M cn Fo Y P r S a b z H locs ls hz hk hcn hp hY hP hD hS hl
    have e : M = [] := List.length_eq_zero_iff.mp hk
    subst e
    refine lv_iload_n hx hb d_R_find_41 rfl (lv_at hl 0 rfl) ?_
    refine rz_if_le (tgt := 66) hx hb d_R_find_42 (by decide) (fun hc => ?_) (fun hc => absurd hc (by omega))
    exact hend n cn Fo Y P r S a b H locs ls hcn (rtp_nil hp) hP hD hS
  | succ k ih =>
    intro n M cn Fo Y P r S a b z H locs ls hz hk hcn hp hY hP hD hS hl
    obtain ⟨p1, p2, p3, p4, p5⟩ := id hp
    have hM0 : M ≠ [] := fun e => by rw [e] at hk; simp at hk
    refine lv_iload_n hx hb d_R_find_41 rfl (lv_at hl 0 rfl) ?_
    refine rz_if_le (tgt := 66) hx hb d_R_find_42 (by decide) (fun hc => absurd hc (by omega)) (fun hc => ?_)
    refine lv_aload_n hx hb d_R_find_45 rfl (lv_at hl 1 rfl) ?_
    refine rc_calll (va_runV (As := []) (rest := []) ⟨hx, hb, hml, hown, hts⟩ (m_R_oneRoot l D cJ h fo wh pt rs sq on tw cn Y P r S a b M p2 hM0 (by omega) hY) (cwV 0 hts (kb_gi (kb_c kw_387 (kb_c kw_389 (kb_c ks_R_oneRoot (kb_c kw_2 (kb_c kw_390 kb_all)))))) rfl rfl rfl (by decide +kernel) ⟨Nat.le_trans (by decide) hR.1, Nat.le_trans (by decide) hR.2⟩) ⟨rc_blind, va_recv hK hP (ci := 1) (q0 := 1) rfl rfl, rc_pre hP hD hK hN [1, 3, 4, 5, 6, 7, 8] rfl rfl [0] rfl⟩ rfl rfl hl.1 rfl (lv_room (Nat.le_of_ble_eq_true rfl)) d_R_find_46 ⟨Nat.zero_le _, Nat.zero_le _⟩) hP hD hS [1, 3, 4, 5, 6, 7, 8] rfl (fun _ => rfl) (fun r1 u2 H locs hw2 hP hD hS => ?_)
    obtain ⟨x, hxM, rfl⟩ := hw2
    have hP : va_P D vC [(pa, ka cJ 5 F), (h, rR fo cn wh pt rs sq on tw), (fo, ka cJ 4 Fo), (wh, ka cJ 5 Y), (pt, ka cJ 5 u2.1), (rs, ka cJ 5 u2.2.1), (sq, ka cJ 8 u2.2.2.1), (on, ka cJ 5 u2.2.2.2.1), (tw, ka cJ 5 u2.2.2.2.2)] H := hP
    have hD : va_D A [(pa, ka cJ 5 F), (h, rR fo cn wh pt rs sq on tw), (fo, ka cJ 4 Fo), (wh, ka cJ 5 Y), (pt, ka cJ 5 u2.1), (rs, ka cJ 5 u2.2.1), (sq, ka cJ 8 u2.2.2.1), (on, ka cJ 5 u2.2.2.2.1), (tw, ka cJ 5 u2.2.2.2.2)] := hD
    refine lv_lstore_n (lv' := [(3, .long (lk x)), (2, .int (iz z)), (0, .ref h), (1, .ref pa)]) hx hb d_R_find_49 rfl hl (by decide) rfl (fun ls hl => ?_)
    refine lv_aload_n hx hb d_R_find_50 rfl (lv_at hl 2 rfl) ?_
    refine lv_lload_n hx hb d_R_find_51 rfl (lv_at hl 0 rfl) ?_
    refine rc_callv (va_runV (As := [.long (lk x)]) (rest := []) ⟨hx, hb, hml, hown, hts⟩ (m_R_insert l D cJ h fo wh pt rs sq on tw cn Fo x n hcn (by omega)) (cwV 1 hts (kb_gi (kb_c kw_391 (kb_c kw_393 (kb_c ks_R_insert (kb_c kw_2 (kb_c kw_394 kb_all)))))) rfl rfl rfl (by decide +kernel) ⟨Nat.le_trans (by decide) hR.1, Nat.le_trans (by decide) hR.2⟩) ⟨rc_blind, va_recv hK hP (ci := 1) (q0 := 1) rfl rfl, rc_pre hP hD hK hN [1, 2] rfl rfl [0] rfl⟩ rfl rfl hl.1 rfl (lv_room (Nat.le_of_ble_eq_true rfl)) d_R_find_52 ⟨Nat.zero_le _, Nat.zero_le _⟩) hP hD hS [1, 2] rfl (fun _ => rfl) (fun u3 H locs hw3 hP hD hS => ?_)
    have hP : va_P D vC [(pa, ka cJ 5 F), (h, rR fo (cn + 1) wh pt rs sq on tw), (fo, ka cJ 4 (va_up (inK x n Fo).2 (inK x n Fo).1 x)), (wh, ka cJ 5 Y), (pt, ka cJ 5 u2.1), (rs, ka cJ 5 u2.2.1), (sq, ka cJ 8 u2.2.2.1), (on, ka cJ 5 u2.2.2.2.1), (tw, ka cJ 5 u2.2.2.2.2)] H := hP
    have hD : va_D A [(pa, ka cJ 5 F), (h, rR fo (cn + 1) wh pt rs sq on tw), (fo, ka cJ 4 (va_up (inK x n Fo).2 (inK x n Fo).1 x)), (wh, ka cJ 5 Y), (pt, ka cJ 5 u2.1), (rs, ka cJ 5 u2.2.1), (sq, ka cJ 8 u2.2.2.1), (on, ka cJ 5 u2.2.2.2.1), (tw, ka cJ 5 u2.2.2.2.2)] := hD
    refine lv_aload_n hx hb d_R_find_55 rfl (lv_at hl 2 rfl) ?_
    refine lv_lload_n hx hb d_R_find_56 rfl (lv_at hl 0 rfl) ?_
    refine rc_callv (va_runV (As := [.long (lk x)]) (rest := []) ⟨hx, hb, hml, hown, hts⟩ (m_R_divideOut l D cJ h fo wh pt rs sq on tw (cn + 1) Y x) (cwV 1 hts (kb_gi (kb_c kw_395 (kb_c kw_397 (kb_c ks_R_divideOut (kb_c kw_2 (kb_c kw_398 kb_all)))))) rfl rfl rfl (by decide +kernel) ⟨Nat.le_trans (by decide) hR.1, Nat.le_trans (by decide) hR.2⟩) ⟨rc_blind, va_recv hK hP (ci := 1) (q0 := 1) rfl rfl, rc_pre hP hD hK hN [1, 3] rfl rfl [0] rfl⟩ rfl rfl hl.1 rfl (lv_room (Nat.le_of_ble_eq_true rfl)) d_R_find_57 ⟨Nat.zero_le _, Nat.zero_le _⟩) hP hD hS [1, 3] rfl (fun _ => rfl) (fun u4 H locs hw4 hP hD hS => ?_)
    have hP : va_P D vC [(pa, ka cJ 5 F), (h, rR fo (cn + 1) wh pt rs sq on tw), (fo, ka cJ 4 (va_up (inK x n Fo).2 (inK x n Fo).1 x)), (wh, ka cJ 5 (dvL x 5 0 Y)), (pt, ka cJ 5 u2.1), (rs, ka cJ 5 u2.2.1), (sq, ka cJ 8 u2.2.2.1), (on, ka cJ 5 u2.2.2.2.1), (tw, ka cJ 5 u2.2.2.2.2)] H := hP
    have hD : va_D A [(pa, ka cJ 5 F), (h, rR fo (cn + 1) wh pt rs sq on tw), (fo, ka cJ 4 (va_up (inK x n Fo).2 (inK x n Fo).1 x)), (wh, ka cJ 5 (dvL x 5 0 Y)), (pt, ka cJ 5 u2.1), (rs, ka cJ 5 u2.2.1), (sq, ka cJ 8 u2.2.2.1), (on, ka cJ 5 u2.2.2.2.1), (tw, ka cJ 5 u2.2.2.2.2)] := hD
    refine lv_iinc (v := iz (z + (-1))) (lv' := [(2, .int (iz (z + (-1)))), (3, .long (lk x)), (0, .ref h), (1, .ref pa)]) hx hb d_R_find_60 hl (k := 1) rfl (iz_add _ _) (by decide) rfl (fun ls hl => ?_)
    refine lv_goto (tgt := 41) hx hb d_R_find_63 (by decide) ?_
    exact ih (n + 1) (M.erase x) (cn + 1) _ _ _ _ _ _ _ _ H locs ls (by omega) (by rw [List.length_erase_of_mem hxM, hk]; rfl) (by omega) (rtp_step hp hxM) (divide_spec p2 (by omega) hxM hY) hP hD hS (lv_sub hl [0, 2, 3] rfl)
def ws_R_find : List Cond := .code y_R_find c_R_find 5 none :: kb
set_option maxHeartbeats 4000000 in
set_option maxRecDepth 100000 in
/-- all roots, rising -/
theorem m_R_find (l : Launch) (D : va_G) (pa : Nat) (cJ : ClassId) (h fo wh pt rs sq on tw : Nat) (cn : Int) (F Fo Y P r S a b : Nat → ro_K) (hF : 0 ≤ kd F 5) : Met l y_R_find ws_R_find ({ frames := 4, cells := 0, slots := 0, locals := 109 }) (rc_Pc D vC [(cJ, .long)] [.ref h, .ref pa] [(pa, ka cJ 5 F), (h, rR fo cn wh pt rs sq on tw), (fo, ka cJ 4 Fo), (wh, ka cJ 5 Y), (pt, ka cJ 5 P), (rs, ka cJ 5 r), (sq, ka cJ 8 S), (on, ka cJ 5 a), (tw, ka cJ 5 b)]) (va_Qv (fun (u : rS8) => rts F u.1 u.2.1) (fun u t => va_P D vC [(pa, ka cJ 5 F), (h, rR fo (u.1 : Int) wh pt rs sq on tw), (fo, ka cJ 4 u.2.1), (wh, ka cJ 5 u.2.2.1), (pt, ka cJ 5 u.2.2.2.1), (rs, ka cJ 5 u.2.2.2.2.1), (sq, ka cJ 8 u.2.2.2.2.2.1), (on, ka cJ 5 u.2.2.2.2.2.2.1), (tw, ka cJ 5 u.2.2.2.2.2.2.2)] t.heap) (rc_A [(pa, ka cJ 5 F), (h, rR fo cn wh pt rs sq on tw), (fo, ka cJ 4 Fo), (wh, ka cJ 5 Y), (pt, ka cJ 5 P), (rs, ka cJ 5 r), (sq, ka cJ 8 S), (on, ka cJ 5 a), (tw, ka cJ 5 b)])) 0 0 (rc_A [(pa, ka cJ 5 F), (h, rR fo cn wh pt rs sq on tw), (fo, ka cJ 4 Fo), (wh, ka cJ 5 Y), (pt, ka cJ 5 P), (rs, ka cJ 5 r), (sq, ka cJ 8 S), (on, ka cJ 5 a), (tw, ka cJ 5 b)]) := by
  refine Met.ofW (cc := c_R_find) (maxL := 5) (ret := none) (by decide) rfl ?_
  intro p e s m args below meth c s₁ B hml hv
  obtain ⟨rfl, hP, hK, hD0, hN⟩ := hv
  have hx := B.exec
  have hb := B.bytes
  have hr := B.returns
  have hts0 := atoms_spec (ws := ws_R_find) B.pre
  have hts : ∀ w ∈ kb, w.before _ s = true := fun w h => hts0 w (List.mem_cons_of_mem _ h)
  have hown : s.vm.findClass R_R = some m.cls := findClass_of_methodNamed B.named
  have hlocks := B.notSynchronized
  have hD := rc_self hD0
  generalize hAe : rc_A [(pa, ka cJ 5 F), (h, rR fo cn wh pt rs sq on tw), (fo, ka cJ 4 Fo), (wh, ka cJ 5 Y), (pt, ka cJ 5 P), (rs, ka cJ 5 r), (sq, ka cJ 8 S), (on, ka cJ 5 a), (tw, ka cJ 5 b)] = A at hD ⊢
  have hS : va_S A s.heap s.heap [] := va_S.rf
  have hl := lv_entry ([.ref h, .ref pa]) (n := 5) (Nat.le_of_ble_eq_true rfl)
  rw [lg_entry_eq]
  generalize (lg_sl ([.ref h, .ref pa]) ++ List.replicate (5 - (lg_sl ([.ref h, .ref pa])).length) Slot.unset).toArray = ls at hl ⊢

  have hl : lv_has ls 5 [(0, .ref h), (1, .ref pa)] := hl
  have hk := kd_lo F 5
  refine lv_aload_n hx hb d_R_find_0 rfl (lv_at hl 0 rfl) ?_
  refine rz_iconst hx hb d_R_find_1 ?_
  refine va_put (D := D) (ci := 1) (v := .int (iz 0)) (ty := .int) (C := R_R) (T := T_R) (N := 8) hx hb hts in_R ty_R tk_R nm_R hown hK hP hD hS 1 rfl rfl 1 (by decide) (hts _ kw_31) (fun _ h9 => h9) rfl (by decide +kernel) rfl rfl (Nat.le_of_ble_eq_true rfl) d_R_find_2 (fun H locs hP hD hS => ?_)
  have hP : va_P D vC [(pa, ka cJ 5 F), (h, rR fo 0 wh pt rs sq on tw), (fo, ka cJ 4 Fo), (wh, ka cJ 5 Y), (pt, ka cJ 5 P), (rs, ka cJ 5 r), (sq, ka cJ 8 S), (on, ka cJ 5 a), (tw, ka cJ 5 b)] H := hP
  have hD : va_D A [(pa, ka cJ 5 F), (h, rR fo 0 wh pt rs sq on tw), (fo, ka cJ 4 Fo), (wh, ka cJ 5 Y), (pt, ka cJ 5 P), (rs, ka cJ 5 r), (sq, ka cJ 8 S), (on, ka cJ 5 a), (tw, ka cJ 5 b)] := hD
  refine lv_aload_n hx hb d_R_find_5 rfl (lv_at hl 1 rfl) ?_
  refine rc_calli (va_runSN (As := [.ref pa]) (rest := []) ⟨hx, hb, hml, hown, hts⟩ (m_O_degree l D cJ pa 5 F (by omega)) ⟨va_cnB 1 hts (kb_gi (kb_c kw_330 kb_all)) rfl rfl rfl hN.1 (hts _ kw_1) (by decide +kernel) ⟨Nat.le_of_ble_eq_true rfl, Nat.le_of_ble_eq_true rfl⟩, hts _ kw_329, trivial⟩ ⟨rc_blind, rc_pre hP hD hK hN [0] rfl rfl [0] rfl⟩ rfl rfl hl.1 rfl (lv_room (Nat.le_of_ble_eq_true rfl)) d_R_find_6 ⟨Nat.zero_le _, Nat.zero_le _⟩) hP hD hS [0] rfl (fun _ => rfl) (fun r1 u2 H locs hw2 hP hD hS => ?_)
  subst hw2
  have hP : va_P D vC [(pa, ka cJ 5 F), (h, rR fo 0 wh pt rs sq on tw), (fo, ka cJ 4 Fo), (wh, ka cJ 5 Y), (pt, ka cJ 5 P), (rs, ka cJ 5 r), (sq, ka cJ 8 S), (on, ka cJ 5 a), (tw, ka cJ 5 b)] H := hP
  have hD : va_D A [(pa, ka cJ 5 F), (h, rR fo 0 wh pt rs sq on tw), (fo, ka cJ 4 Fo), (wh, ka cJ 5 Y), (pt, ka cJ 5 P), (rs, ka cJ 5 r), (sq, ka cJ 8 S), (on, ka cJ 5 a), (tw, ka cJ 5 b)] := hD
  refine rz_iconst hx hb d_R_find_9 ?_
  refine rz_icmp_ge (tgt := 14) hx hb d_R_find_10 (by decide) (fun hc3 => ?_) (fun hc3 => ?_)
  · obtain ⟨d, hd⟩ : ∃ d : Nat, kd (va_cpy F Y 0 0 5) 5 = (d : Int) ∧ 1 ≤ d := by
      rcases kd_spec F 5 with ⟨q, -⟩ | ⟨d, q1, q2, q3, q4⟩
      · omega
      · exact ⟨d, kd_of q2 (by rw [cpy5 F Y q2]; exact q3) (fun i h1 h2 => by rw [cpy5 F Y h2]; exact q4 i h1 h2), by omega⟩
    obtain ⟨hm, cc, hcc, hkm⟩ := km_spec hd.1
    have hroots : ∀ x, ro_ev 5 (km (va_cpy F Y 0 0 5)) x = 0 ↔ ro_ev 5 F x = 0 := by
      intro x
      have e : ro_ev 5 (km (va_cpy F Y 0 0 5)) x = cc * ro_ev 5 F x := by
        rw [ro_ev_congr 5 x (g := fun i => cc * F i) (fun i hi => by rw [hkm i hi, cpy5 F Y hi]; grind), ro_ev_smul]
      have nz : cc ≠ 0 := fun z => ro_1ne0 (by rw [← hcc, z]; grind)
      rw [e]
      constructor
      · intro q
        rcases ro_nz q with z | z
        · exact absurd z nz
        · exact z
      · intro q; rw [q]; grind
    refine lv_aload_n hx hb d_R_find_14 rfl (lv_at hl 1 rfl) ?_
    refine lv_aload_n hx hb d_R_find_15 rfl (lv_at hl 0 rfl) ?_
    refine va_get (D := D) (ci := 1) (v := .ref wh) (C := R_R) (T := T_R) (N := 8) hx hb hts in_R hown hK hP 1 rfl rfl 2 (by decide) (hts _ kw_32) (fun _ h9 => h9) rfl d_R_find_16 ?_
    refine rc_callv (va_runS (As := [.ref pa, .ref wh]) (rest := []) ⟨hx, hb, hml, hown, hts⟩ (m_R_copy l D cJ pa wh 5 F Y (by omega)) (cwS 2 hts (kb_gi (kb_c kw_352 (kb_c kw_353 (kb_c kw_2 (kb_c kw_354 kb_all))))) rfl rfl rfl (by decide +kernel) ⟨Nat.le_of_ble_eq_true rfl, Nat.le_of_ble_eq_true rfl⟩) ⟨rc_blind, rc_pre hP hD hK hN [0, 3] rfl rfl [0] rfl⟩ rfl rfl hl.1 rfl (lv_room (Nat.le_of_ble_eq_true rfl)) d_R_find_19 ⟨Nat.zero_le _, Nat.zero_le _⟩) hP hD hS [0, 3] rfl (fun _ => rfl) (fun u4 H locs hw4 hP hD hS => ?_)
    have hP : va_P D vC [(pa, ka cJ 5 F), (h, rR fo 0 wh pt rs sq on tw), (fo, ka cJ 4 Fo), (wh, ka cJ 5 (va_cpy F Y 0 0 5)), (pt, ka cJ 5 P), (rs, ka cJ 5 r), (sq, ka cJ 8 S), (on, ka cJ 5 a), (tw, ka cJ 5 b)] H := hP
    have hD : va_D A [(pa, ka cJ 5 F), (h, rR fo 0 wh pt rs sq on tw), (fo, ka cJ 4 Fo), (wh, ka cJ 5 (va_cpy F Y 0 0 5)), (pt, ka cJ 5 P), (rs, ka cJ 5 r), (sq, ka cJ 8 S), (on, ka cJ 5 a), (tw, ka cJ 5 b)] := hD
    refine lv_aload_n hx hb d_R_find_22 rfl (lv_at hl 0 rfl) ?_
    refine va_get (D := D) (ci := 1) (v := .ref wh) (C := R_R) (T := T_R) (N := 8) hx hb hts in_R hown hK hP 1 rfl rfl 2 (by decide) (hts _ kw_32) (fun _ h9 => h9) rfl d_R_find_23 ?_
    refine rc_callv (va_runS (As := [.ref wh]) (rest := []) ⟨hx, hb, hml, hown, hts⟩ (m_R_makeMonic l D cJ wh (va_cpy F Y 0 0 5)) (cwS 1 hts (kb_gi (kb_c kw_356 (kb_c kw_357 (kb_c kw_2 (kb_c kw_358 kb_all))))) rfl rfl rfl (by decide +kernel) ⟨Nat.le_of_ble_eq_true rfl, Nat.le_of_ble_eq_true rfl⟩) ⟨rc_blind, rc_pre hP hD hK hN [3] rfl rfl [0] rfl⟩ rfl rfl hl.1 rfl (lv_room (Nat.le_of_ble_eq_true rfl)) d_R_find_26 ⟨Nat.zero_le _, Nat.zero_le _⟩) hP hD hS [3] rfl (fun _ => rfl) (fun u5 H locs hw5 hP hD hS => ?_)
    have hP : va_P D vC [(pa, ka cJ 5 F), (h, rR fo 0 wh pt rs sq on tw), (fo, ka cJ 4 Fo), (wh, ka cJ 5 (km (va_cpy F Y 0 0 5))), (pt, ka cJ 5 P), (rs, ka cJ 5 r), (sq, ka cJ 8 S), (on, ka cJ 5 a), (tw, ka cJ 5 b)] H := hP
    have hD : va_D A [(pa, ka cJ 5 F), (h, rR fo 0 wh pt rs sq on tw), (fo, ka cJ 4 Fo), (wh, ka cJ 5 (km (va_cpy F Y 0 0 5))), (pt, ka cJ 5 P), (rs, ka cJ 5 r), (sq, ka cJ 8 S), (on, ka cJ 5 a), (tw, ka cJ 5 b)] := hD
    refine lv_aload_n hx hb d_R_find_29 rfl (lv_at hl 0 rfl) ?_
    refine rc_callv (va_runV (As := []) (rest := []) ⟨hx, hb, hml, hown, hts⟩ (m_R_keepRootsOnce l D cJ h fo wh pt rs sq on tw 0 (km (va_cpy F Y 0 0 5)) r S a b d hm hd.2) (cwV 0 hts (kb_gi (kb_c kw_361 (kb_c kw_363 (kb_c ks_R_keepRootsOnce (kb_c kw_2 (kb_c kw_364 kb_all)))))) rfl rfl rfl (by decide +kernel) ⟨Nat.le_of_ble_eq_true rfl, Nat.le_of_ble_eq_true rfl⟩) ⟨rc_blind, va_recv hK hP (ci := 1) (q0 := 1) rfl rfl, rc_pre hP hD hK hN [1, 3, 5, 6, 7, 8] rfl rfl [0] rfl⟩ rfl rfl hl.1 rfl (lv_room (Nat.le_of_ble_eq_true rfl)) d_R_find_30 ⟨Nat.zero_le _, Nat.zero_le _⟩) hP hD hS [1, 3, 5, 6, 7, 8] rfl (fun _ => rfl) (fun u6 H locs hw6 hP hD hS => ?_)
    obtain ⟨M, m1, m2, m3, m4⟩ := hw6
    have hkM := mo_kd (pl_mo m2 m3)
    have hP : va_P D vC [(pa, ka cJ 5 F), (h, rR fo 0 wh pt rs sq on tw), (fo, ka cJ 4 Fo), (wh, ka cJ 5 u6.1), (pt, ka cJ 5 P), (rs, ka cJ 5 u6.2.1), (sq, ka cJ 8 u6.2.2.1), (on, ka cJ 5 u6.2.2.2.1), (tw, ka cJ 5 u6.2.2.2.2)] H := hP
    have hD : va_D A [(pa, ka cJ 5 F), (h, rR fo 0 wh pt rs sq on tw), (fo, ka cJ 4 Fo), (wh, ka cJ 5 u6.1), (pt, ka cJ 5 P), (rs, ka cJ 5 u6.2.1), (sq, ka cJ 8 u6.2.2.1), (on, ka cJ 5 u6.2.2.2.1), (tw, ka cJ 5 u6.2.2.2.2)] := hD
    refine lv_aload_n hx hb d_R_find_33 rfl (lv_at hl 0 rfl) ?_
    refine va_get (D := D) (ci := 1) (v := .ref wh) (C := R_R) (T := T_R) (N := 8) hx hb hts in_R hown hK hP 1 rfl rfl 2 (by decide) (hts _ kw_32) (fun _ h9 => h9) rfl d_R_find_34 ?_
    refine rc_calli (va_runSN (As := [.ref wh]) (rest := []) ⟨hx, hb, hml, hown, hts⟩ (m_O_degree l D cJ wh 5 u6.1 (by omega)) ⟨va_cnB 1 hts (kb_gi (kb_c kw_330 kb_all)) rfl rfl rfl hN.1 (hts _ kw_1) (by decide +kernel) ⟨Nat.le_of_ble_eq_true rfl, Nat.le_of_ble_eq_true rfl⟩, hts _ kw_329, trivial⟩ ⟨rc_blind, rc_pre hP hD hK hN [3] rfl rfl [0] rfl⟩ rfl rfl hl.1 rfl (lv_room (Nat.le_of_ble_eq_true rfl)) d_R_find_37 ⟨Nat.zero_le _, Nat.zero_le _⟩) hP hD hS [3] rfl (fun _ => rfl) (fun r7 u8 H locs hw8 hP hD hS => ?_)
    subst hw8
    have hP : va_P D vC [(pa, ka cJ 5 F), (h, rR fo 0 wh pt rs sq on tw), (fo, ka cJ 4 Fo), (wh, ka cJ 5 u6.1), (pt, ka cJ 5 P), (rs, ka cJ 5 u6.2.1), (sq, ka cJ 8 u6.2.2.1), (on, ka cJ 5 u6.2.2.2.1), (tw, ka cJ 5 u6.2.2.2.2)] H := hP
    have hD : va_D A [(pa, ka cJ 5 F), (h, rR fo 0 wh pt rs sq on tw), (fo, ka cJ 4 Fo), (wh, ka cJ 5 u6.1), (pt, ka cJ 5 P), (rs, ka cJ 5 u6.2.1), (sq, ka cJ 8 u6.2.2.1), (on, ka cJ 5 u6.2.2.2.1), (tw, ka cJ 5 u6.2.2.2.2)] := hD
    refine lv_istore_n (lv' := [(2, .int (iz (kd u6.1 5))), (0, .ref h), (1, .ref pa)]) hx hb d_R_find_40 rfl hl (by decide) rfl (fun ls hl => ?_)
    refine lo_R_find (F := F) hx hb hml hown hts hK hN ⟨Nat.le_of_ble_eq_true rfl, Nat.le_of_ble_eq_true rfl⟩ (fun n cn Fo Y P r S a b H locs ls hcn hrt hP hD hS => ?_) M.length 0 M 0 _ _ _ _ _ _ _ _ H locs ls hkM rfl rfl ⟨by omega, m1, fun i j _ h => absurd h (Nat.not_lt_zero j), fun j h => absurd h (Nat.not_lt_zero j), fun x => ?_⟩ m3 hP hD hS (lv_sub hl [0, 1, 2] rfl)
    · subst hcn
      exact W.vret hx hb hr (fun t ht hW => ⟨⟨(n, Fo, Y, P, r, S, a, b), rfl, hrt, rc_out ht hP⟩, hS.F ht⟩) hS.2.2 d_R_find_66
    · rw [← hroots x, ← m4 x]
      constructor
      · rintro (⟨j, h, -⟩ | z)
        · exact absurd h (Nat.not_lt_zero j)
        · exact z
      · exact Or.inr
  · refine W.vret hx hb hr (fun t ht hW => ⟨⟨(0, Fo, Y, P, r, S, a, b), rfl, ⟨Nat.zero_le 4, fun i j _ h => absurd h (Nat.not_lt_zero j), fun x => ⟨fun ⟨j, h, _⟩ => absurd h (Nat.not_lt_zero j), fun h => ?_⟩⟩, rc_out ht hP⟩, hS.F ht⟩) hS.2.2 d_R_find_13
    exfalso
    rcases kd_spec F 5 with ⟨q, -⟩ | ⟨d, q1, q2, q3, q4⟩
    · omega
    · have e0 : d = 0 := by omega
      subst e0
      rw [ro_ev_s, ro_ev_zero 4 x (fun i hi => q4 (i + 1) (by omega) (by omega))] at h
      exact q3 (by grind)
def ws_R_howMany : List Cond := .code y_R_howMany c_R_howMany 1 (some .int) :: kb
set_option maxHeartbeats 4000000 in
set_option maxRecDepth 100000 in
/-- how many -/
theorem m_R_howMany (l : Launch) (D : va_G) (cJ : ClassId) (h fo wh pt rs sq on tw : Nat) (cn : Int) : Met l y_R_howMany ws_R_howMany ({ frames := 0, cells := 0, slots := 0, locals := 0 }) (rc_Pc D vC [] [.ref h] [(h, rR fo cn wh pt rs sq on tw)]) (va_Qi (fun (q : Int32) (_ : Unit) => q = iz cn) (fun _ t => va_P D vC [(h, rR fo cn wh pt rs sq on tw)] t.heap) (rc_A [(h, rR fo cn wh pt rs sq on tw)])) 0 0 (rc_A [(h, rR fo cn wh pt rs sq on tw)]) := by
  refine Met.ofW (cc := c_R_howMany) (maxL := 1) (ret := (some .int)) (by decide) rfl ?_
  intro p e s m args below meth c s₁ B hml hv
  obtain ⟨rfl, hP, hK, hD0, hN⟩ := hv
  have hx := B.exec
  have hb := B.bytes
  have hr := B.returns
  have hts0 := atoms_spec (ws := ws_R_howMany) B.pre
  have hts : ∀ w ∈ kb, w.before _ s = true := fun w h => hts0 w (List.mem_cons_of_mem _ h)
  have hown : s.vm.findClass R_R = some m.cls := findClass_of_methodNamed B.named
  have hlocks := B.notSynchronized
  have hD := rc_self hD0
  generalize hAe : rc_A [(h, rR fo cn wh pt rs sq on tw)] = A at hD ⊢
  have hS : va_S A s.heap s.heap [] := va_S.rf
  have hl := lv_entry ([.ref h]) (n := 1) (Nat.le_of_ble_eq_true rfl)
  rw [lg_entry_eq]
  generalize (lg_sl ([.ref h]) ++ List.replicate (1 - (lg_sl ([.ref h])).length) Slot.unset).toArray = ls at hl ⊢

  have hl : lv_has ls 1 [(0, .ref h)] := hl
  refine lv_aload_n hx hb d_R_howMany_0 rfl (lv_at hl 0 rfl) ?_
  refine va_get (D := D) (ci := 1) (v := .int (iz cn)) (C := R_R) (T := T_R) (N := 8) hx hb hts in_R hown hK hP 0 rfl rfl 1 (by decide) (hts _ kw_31) (fun _ h9 => h9) rfl d_R_howMany_1 ?_
  exact W.iret hx hb hr (fun t ht hW => ⟨⟨_, (), rfl, rfl, rc_out ht hP⟩, hS.F ht⟩) hS.2.2 d_R_howMany_4
def ws_R_orNone : List Cond := .code y_R_orNone c_R_orNone 2 (some .int) :: kb
set_option maxHeartbeats 4000000 in
set_option maxRecDepth 100000 in
/-- the k-th, or -1 -/
theorem m_R_orNone (l : Launch) (D : va_G) (cJ : ClassId) (h fo wh pt rs sq on tw : Nat) (cn : Int) (Fo : Nat → ro_K) (n : Nat) (k : Int32) (hn : cn = (n : Int)) (hn4 : n ≤ 4) : Met l y_R_orNone ws_R_orNone ({ frames := 0, cells := 0, slots := 0, locals := 0 }) (rc_Pc D vC [(cJ, .long)] [.ref h, .int k] [(h, rR fo cn wh pt rs sq on tw), (fo, ka cJ 4 Fo)]) (va_Qi (fun (q : Int32) (_ : Unit) => q = if 0 ≤ k.toInt ∧ k.toInt < (n : Int) then iz ((Fo k.toInt.toNat).val : Int) else iz (-1)) (fun _ t => va_P D vC [(h, rR fo cn wh pt rs sq on tw), (fo, ka cJ 4 Fo)] t.heap) (rc_A [(h, rR fo cn wh pt rs sq on tw), (fo, ka cJ 4 Fo)])) 0 0 (rc_A [(h, rR fo cn wh pt rs sq on tw), (fo, ka cJ 4 Fo)]) := by
  refine Met.ofW (cc := c_R_orNone) (maxL := 2) (ret := (some .int)) (by decide) rfl ?_
  intro p e s m args below meth c s₁ B hml hv
  obtain ⟨rfl, hP, hK, hD0, hN⟩ := hv
  have hx := B.exec
  have hb := B.bytes
  have hr := B.returns
  have hts0 := atoms_spec (ws := ws_R_orNone) B.pre
  have hts : ∀ w ∈ kb, w.before _ s = true := fun w h => hts0 w (List.mem_cons_of_mem _ h)
  have hown : s.vm.findClass R_R = some m.cls := findClass_of_methodNamed B.named
  have hlocks := B.notSynchronized
  have hD := rc_self hD0
  generalize hAe : rc_A [(h, rR fo cn wh pt rs sq on tw), (fo, ka cJ 4 Fo)] = A at hD ⊢
  have hS : va_S A s.heap s.heap [] := va_S.rf
  have hl := lv_entry ([.ref h, .int k]) (n := 2) (Nat.le_of_ble_eq_true rfl)
  rw [lg_entry_eq]
  generalize (lg_sl ([.ref h, .int k]) ++ List.replicate (2 - (lg_sl ([.ref h, .int k])).length) Slot.unset).toArray = ls at hl ⊢

  have hl : lv_has ls 2 [(0, .ref h), (1, .int k)] := hl
  have k1 := iz_lo k
  have k2 := iz_hi k
  rw [iz_self k] at hl
  generalize k.toInt = z at hl k1 k2 ⊢
  refine lv_iload_n hx hb d_R_orNone_0 rfl (lv_at hl 1 rfl) ?_
  refine rz_if_lt (tgt := 12) hx hb d_R_orNone_1 (by decide) (fun hc1 => ?_) (fun hc1 => ?_)
  · refine rz_iconst hx hb d_R_orNone_12 ?_
    refine lv_goto (tgt := 23) hx hb d_R_orNone_13 (by decide) ?_
    exact W.iret hx hb hr (fun t ht hW => ⟨⟨_, (), rfl, (by rw [if_neg (by omega)]), rc_out ht hP⟩, hS.F ht⟩) hS.2.2 d_R_orNone_23
  · refine lv_iload_n hx hb d_R_orNone_4 rfl (lv_at hl 1 rfl) ?_
    refine lv_aload_n hx hb d_R_orNone_5 rfl (lv_at hl 0 rfl) ?_
    refine va_get (D := D) (ci := 1) (v := .int (iz cn)) (C := R_R) (T := T_R) (N := 8) hx hb hts in_R hown hK hP 0 rfl rfl 1 (by decide) (hts _ kw_31) (fun _ h9 => h9) rfl d_R_orNone_6 ?_
    refine rz_icmp_lt (tgt := 16) hx hb d_R_orNone_9 (by decide) (fun hc2 => ?_) (fun hc2 => ?_)
    · refine lv_aload_n hx hb d_R_orNone_16 rfl (lv_at hl 0 rfl) ?_
      refine va_get (D := D) (ci := 1) (v := .ref fo) (C := R_R) (T := T_R) (N := 8) hx hb hts in_R hown hK hP 0 rfl rfl 0 (by decide) (hts _ kw_30) (fun _ h9 => h9) rfl d_R_orNone_17 ?_
      refine lv_iload_n hx hb d_R_orNone_20 rfl (lv_at hl 1 rfl) ?_
      refine rk_ld hx hb hK hP 1 0 rfl rfl z.toNat d_R_orNone_21 ?_
      refine rz_l2i hx hb d_R_orNone_22 ?_
      exact W.iret hx hb hr (fun t ht hW => ⟨⟨_, (), rfl, (by rw [if_pos (by omega)]), rc_out ht hP⟩, hS.F ht⟩) hS.2.2 d_R_orNone_23
    · refine rz_iconst hx hb d_R_orNone_12 ?_
      refine lv_goto (tgt := 23) hx hb d_R_orNone_13 (by decide) ?_
      exact W.iret hx hb hr (fun t ht hW => ⟨⟨_, (), rfl, (by rw [if_neg (by omega)]), rc_out ht hP⟩, hS.F ht⟩) hS.2.2 d_R_orNone_23
end WK
