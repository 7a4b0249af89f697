section WK
variable {p : Program} {l : Launch} {e : Env} {R : Room} {s : State} {m : MethodId} {args : Array Value} {below : List Frame} {meth : Method} {c : Code} {H : Heap} {locs : List Loc} {cells slots : Nat} {Q : State → Prop} {D : va_G} {A : Nat → Prop} {H0 : Heap}
def ws_R_init : List Cond := .code y_R_init c_R_init 1 none :: kb
set_option maxHeartbeats 4000000 in
set_option maxRecDepth 100000 in
theorem m_R_init (l : Launch) (D : va_G) (cJ : ClassId) (h : Nat) (sz : Nat) : Met l y_R_init ws_R_init ({ frames := 1, cells := 7, slots := 37, locals := 60 }) (ri_Pc D vC [(cJ, .long)] [.ref h] [(h, .inr (1, [.null, .int (iz 0), .null, .null, .null, .null, .null, .null]))] sz) (va_Qv (fun (u : Nat → Nat) => True) (fun u t => va_P D vC [(h, rR (u 0) 0 (u 1) (u 2) (u 3) (u 4) (u 5) (u 6)), ((u 0), ka cJ 4 (fun _ => 0)), ((u 1), ka cJ 5 (fun _ => 0)), ((u 2), ka cJ 5 (fun _ => 0)), ((u 3), ka cJ 5 (fun _ => 0)), ((u 4), ka cJ 8 (fun _ => 0)), ((u 5), ka cJ 5 (fun _ => 0)), ((u 6), ka cJ 5 (fun _ => 0))] t.heap ∧ va_D (va_A [(h, .inr (1, [.null, .int (iz 0), .null, .null, .null, .null, .null, .null]))] sz) [(h, rR (u 0) 0 (u 1) (u 2) (u 3) (u 4) (u 5) (u 6)), ((u 0), ka cJ 4 (fun _ => 0)), ((u 1), ka cJ 5 (fun _ => 0)), ((u 2), ka cJ 5 (fun _ => 0)), ((u 3), ka cJ 5 (fun _ => 0)), ((u 4), ka cJ 8 (fun _ => 0)), ((u 5), ka cJ 5 (fun _ => 0)), ((u 6), ka cJ 5 (fun _ => 0))]) (va_A [(h, .inr (1, [.null, .int (iz 0), .null, .null, .null, .null, .null, .null]))] sz)) 7 37 (va_A [(h, .inr (1, [.null, .int (iz 0), .null, .null, .null, .null, .null, .null]))] sz) := by
  refine Met.ofW (cc := c_R_init) (maxL := 1) (ret := none) (by decide) rfl ?_
  intro p e s m args below meth c s₁ B hml hv
  obtain ⟨rfl, hsz, hP, hK, hD0, hN⟩ := hv
  have hx := B.exec
  have hb := B.bytes
  have hr := B.returns
  have hts0 := atoms_spec (ws := ws_R_init) B.pre
  have hts : ∀ w ∈ kb, w.before _ s = true := fun w h => hts0 w (List.mem_cons_of_mem _ h)
  have hown : s.vm.findClass R_R = some m.cls := findClass_of_methodNamed B.named
  have hin : meth.name = "<init>" := (name_of_methodNamed B.named B.method).1
  subst hsz
  have hD := hD0.self (sz := s.heap.size)
  generalize hAe : va_A [(h, .inr (1, [.null, .int (iz 0), .null, .null, .null, .null, .null, .null]))] s.heap.size = A at hD ⊢
  have hA : ∀ q : Nat, s.heap.size ≤ q → A q := fun q h => by rw [← hAe]; exact Or.inr h
  have hS : va_S A s.heap s.heap [] := va_S.rf
  have hl := lv_entry ([.ref h]) (n := 1) (Nat.le_of_ble_eq_true rfl)
  rw [lg_entry_eq]
  generalize (lg_sl ([.ref h]) ++ List.replicate (1 - (lg_sl ([.ref h])).length) Slot.unset).toArray = ls at hl ⊢
  have hl : lv_has ls 1 [(0, .ref h)] := hl
  refine lv_aload_n hx hb d_R_init_0 rfl (lv_at hl 0 rfl) ?_
  refine W.objInit hx hb hown (hts _ kw_29) (hts _ kw_20) (hts _ kw_21) rfl (by rw [hml]; exact hl.1) rfl d_R_init_1 (Nat.le_of_ble_eq_true rfl) (Nat.le_of_ble_eq_true rfl) ?_
  refine W.eq (g2 := F0 m 4 ls []) rfl ?_
  refine lv_aload_n hx hb d_R_init_4 rfl (lv_at hl 0 rfl) ?_
  refine rz_iconst hx hb d_R_init_5 ?_
  refine rw_newa hx hb (hts _ kw_55) hK hP hD hS hA 0 rfl 4 rfl (by decide) (Nat.le_of_ble_eq_true rfl) (Nat.le_of_ble_eq_true rfl) d_R_init_6 (fun q1 H hP hD hS => ?_)
  have hP : va_P D vC [(h, .inr (1, [.null, .int (iz 0), .null, .null, .null, .null, .null, .null])), (q1, ka cJ 4 (fun _ => 0))] H := hP
  have hD : va_D A [(h, .inr (1, [.null, .int (iz 0), .null, .null, .null, .null, .null, .null])), (q1, ka cJ 4 (fun _ => 0))] := hD
  refine va_putF (D := D) (ci := 1) (v := .ref q1) (ty := (.array .long)) (C := R_R) (T := T_R) (N := 8) hx hb hts in_R ty_R tk_R nm_R hown hK hP hD hS 0 rfl rfl 0 (by decide) (hts _ kw_30) (fun _ h9 => h9) rfl hin rfl (by decide +kernel) rfl rfl (Nat.le_of_ble_eq_true rfl) d_R_init_8 (fun H locs hP hD hS => ?_)
  have hP : va_P D vC [(h, .inr (1, [.ref q1, .int (iz 0), .null, .null, .null, .null, .null, .null])), (q1, ka cJ 4 (fun _ => 0))] H := hP
  have hD : va_D A [(h, .inr (1, [.ref q1, .int (iz 0), .null, .null, .null, .null, .null, .null])), (q1, ka cJ 4 (fun _ => 0))] := hD
  refine lv_aload_n hx hb d_R_init_11 rfl (lv_at hl 0 rfl) ?_
  refine rz_iconst hx hb d_R_init_12 ?_
  refine va_put (D := D) (ci := 1) (v := .int (iz 0)) (ty := .int) (C := R_R) (T := T_R) (N := 8) hx hb hts in_R ty_R tk_R nm_R hown hK hP hD hS 0 rfl rfl 1 (by decide) (hts _ kw_31) (fun _ h9 => h9) rfl (by decide +kernel) rfl rfl (Nat.le_of_ble_eq_true rfl) d_R_init_13 (fun H locs hP hD hS => ?_)
  have hP : va_P D vC [(h, .inr (1, [.ref q1, .int (iz 0), .null, .null, .null, .null, .null, .null])), (q1, ka cJ 4 (fun _ => 0))] H := hP
  have hD : va_D A [(h, .inr (1, [.ref q1, .int (iz 0), .null, .null, .null, .null, .null, .null])), (q1, ka cJ 4 (fun _ => 0))] := hD
  refine lv_aload_n hx hb d_R_init_16 rfl (lv_at hl 0 rfl) ?_
  refine rz_iconst hx hb d_R_init_17 ?_
  refine rw_newa hx hb (hts _ kw_55) hK hP hD hS hA 0 rfl 5 rfl (by decide) (Nat.le_of_ble_eq_true rfl) (Nat.le_of_ble_eq_true rfl) d_R_init_18 (fun q2 H hP hD hS => ?_)
  have hP : va_P D vC [(h, .inr (1, [.ref q1, .int (iz 0), .null, .null, .null, .null, .null, .null])), (q1, ka cJ 4 (fun _ => 0)), (q2, ka cJ 5 (fun _ => 0))] H := hP
  have hD : va_D A [(h, .inr (1, [.ref q1, .int (iz 0), .null, .null, .null, .null, .null, .null])), (q1, ka cJ 4 (fun _ => 0)), (q2, ka cJ 5 (fun _ => 0))] := hD
  refine va_putF (D := D) (ci := 1) (v := .ref q2) (ty := (.array .long)) (C := R_R) (T := T_R) (N := 8) hx hb hts in_R ty_R tk_R nm_R hown hK hP hD hS 0 rfl rfl 2 (by decide) (hts _ kw_32) (fun _ h9 => h9) rfl hin rfl (by decide +kernel) rfl rfl (Nat.le_of_ble_eq_true rfl) d_R_init_20 (fun H locs hP hD hS => ?_)
  have hP : va_P D vC [(h, .inr (1, [.ref q1, .int (iz 0), .ref q2, .null, .null, .null, .null, .null])), (q1, ka cJ 4 (fun _ => 0)), (q2, ka cJ 5 (fun _ => 0))] H := hP
  have hD : va_D A [(h, .inr (1, [.ref q1, .int (iz 0), .ref q2, .null, .null, .null, .null, .null])), (q1, ka cJ 4 (fun _ => 0)), (q2, ka cJ 5 (fun _ => 0))] := hD
  refine lv_aload_n hx hb d_R_init_23 rfl (lv_at hl 0 rfl) ?_
  refine rz_iconst hx hb d_R_init_24 ?_
  refine rw_newa hx hb (hts _ kw_55) hK hP hD hS hA 0 rfl 5 rfl (by decide) (Nat.le_of_ble_eq_true rfl) (Nat.le_of_ble_eq_true rfl) d_R_init_25 (fun q3 H hP hD hS => ?_)
  have hP : va_P D vC [(h, .inr (1, [.ref q1, .int (iz 0), .ref q2, .null, .null, .null, .null, .null])), (q1, ka cJ 4 (fun _ => 0)), (q2, ka cJ 5 (fun _ => 0)), (q3, ka cJ 5 (fun _ => 0))] H := hP
  have hD : va_D A [(h, .inr (1, [.ref q1, .int (iz 0), .ref q2, .null, .null, .null, .null, .null])), (q1, ka cJ 4 (fun _ => 0)), (q2, ka cJ 5 (fun _ => 0)), (q3, ka cJ 5 (fun _ => 0))] := hD
  refine va_putF (D := D) (ci := 1) (v := .ref q3) (ty := (.array .long)) (C := R_R) (T := T_R) (N := 8) hx hb hts in_R ty_R tk_R nm_R hown hK hP hD hS 0 rfl rfl 3 (by decide) (hts _ kw_33) (fun _ h9 => h9) rfl hin rfl (by decide +kernel) rfl rfl (Nat.le_of_ble_eq_true rfl) d_R_init_27 (fun H locs hP hD hS => ?_)
  have hP : va_P D vC [(h, .inr (1, [.ref q1, .int (iz 0), .ref q2, .ref q3, .null, .null, .null, .null])), (q1, ka cJ 4 (fun _ => 0)), (q2, ka cJ 5 (fun _ => 0)), (q3, ka cJ 5 (fun _ => 0))] H := hP
  have hD : va_D A [(h, .inr (1, [.ref q1, .int (iz 0), .ref q2, .ref q3, .null, .null, .null, .null])), (q1, ka cJ 4 (fun _ => 0)), (q2, ka cJ 5 (fun _ => 0)), (q3, ka cJ 5 (fun _ => 0))] := hD
  refine lv_aload_n hx hb d_R_init_30 rfl (lv_at hl 0 rfl) ?_
  refine rz_iconst hx hb d_R_init_31 ?_
  refine rw_newa hx hb (hts _ kw_55) hK hP hD hS hA 0 rfl 5 rfl (by decide) (Nat.le_of_ble_eq_true rfl) (Nat.le_of_ble_eq_true rfl) d_R_init_32 (fun q4 H hP hD hS => ?_)
  have hP : va_P D vC [(h, .inr (1, [.ref q1, .int (iz 0), .ref q2, .ref q3, .null, .null, .null, .null])), (q1, ka cJ 4 (fun _ => 0)), (q2, ka cJ 5 (fun _ => 0)), (q3, ka cJ 5 (fun _ => 0)), (q4, ka cJ 5 (fun _ => 0))] H := hP
  have hD : va_D A [(h, .inr (1, [.ref q1, .int (iz 0), .ref q2, .ref q3, .null, .null, .null, .null])), (q1, ka cJ 4 (fun _ => 0)), (q2, ka cJ 5 (fun _ => 0)), (q3, ka cJ 5 (fun _ => 0)), (q4, ka cJ 5 (fun _ => 0))] := hD
  refine va_putF (D := D) (ci := 1) (v := .ref q4) (ty := (.array .long)) (C := R_R) (T := T_R) (N := 8) hx hb hts in_R ty_R tk_R nm_R hown hK hP hD hS 0 rfl rfl 4 (by decide) (hts _ kw_34) (fun _ h9 => h9) rfl hin rfl (by decide +kernel) rfl rfl (Nat.le_of_ble_eq_true rfl) d_R_init_34 (fun H locs hP hD hS => ?_)
  have hP : va_P D vC [(h, .inr (1, [.ref q1, .int (iz 0), .ref q2, .ref q3, .ref q4, .null, .null, .null])), (q1, ka cJ 4 (fun _ => 0)), (q2, ka cJ 5 (fun _ => 0)), (q3, ka cJ 5 (fun _ => 0)), (q4, ka cJ 5 (fun _ => 0))] H := hP
  have hD : va_D A [(h, .inr (1, [.ref q1, .int (iz 0), .ref q2, .ref q3, .ref q4, .null, .null, .null])), (q1, ka cJ 4 (fun _ => 0)), (q2, ka cJ 5 (fun _ => 0)), (q3, ka cJ 5 (fun _ => 0)), (q4, ka cJ 5 (fun _ => 0))] := hD
  refine lv_aload_n hx hb d_R_init_37 rfl (lv_at hl 0 rfl) ?_
  refine rz_bipush hx hb d_R_init_38 (by decide) ?_
  refine rw_newa hx hb (hts _ kw_55) hK hP hD hS hA 0 rfl 8 rfl (by decide) (Nat.le_of_ble_eq_true rfl) (Nat.le_of_ble_eq_true rfl) d_R_init_40 (fun q5 H hP hD hS => ?_)
  have hP : va_P D vC [(h, .inr (1, [.ref q1, .int (iz 0), .ref q2, .ref q3, .ref q4, .null, .null, .null])), (q1, ka cJ 4 (fun _ => 0)), (q2, ka cJ 5 (fun _ => 0)), (q3, ka cJ 5 (fun _ => 0)), (q4, ka cJ 5 (fun _ => 0)), (q5, ka cJ 8 (fun _ => 0))] H := hP
  have hD : va_D A [(h, .inr (1, [.ref q1, .int (iz 0), .ref q2, .ref q3, .ref q4, .null, .null, .null])), (q1, ka cJ 4 (fun _ => 0)), (q2, ka cJ 5 (fun _ => 0)), (q3, ka cJ 5 (fun _ => 0)), (q4, ka cJ 5 (fun _ => 0)), (q5, ka cJ 8 (fun _ => 0))] := hD
  refine va_putF (D := D) (ci := 1) (v := .ref q5) (ty := (.array .long)) (C := R_R) (T := T_R) (N := 8) hx hb hts in_R ty_R tk_R nm_R hown hK hP hD hS 0 rfl rfl 5 (by decide) (hts _ kw_35) (fun _ h9 => h9) rfl hin rfl (by decide +kernel) rfl rfl (Nat.le_of_ble_eq_true rfl) d_R_init_42 (fun H locs hP hD hS => ?_)
  have hP : va_P D vC [(h, .inr (1, [.ref q1, .int (iz 0), .ref q2, .ref q3, .ref q4, .ref q5, .null, .null])), (q1, ka cJ 4 (fun _ => 0)), (q2, ka cJ 5 (fun _ => 0)), (q3, ka cJ 5 (fun _ => 0)), (q4, ka cJ 5 (fun _ => 0)), (q5, ka cJ 8 (fun _ => 0))] H := hP
  have hD : va_D A [(h, .inr (1, [.ref q1, .int (iz 0), .ref q2, .ref q3, .ref q4, .ref q5, .null, .null])), (q1, ka cJ 4 (fun _ => 0)), (q2, ka cJ 5 (fun _ => 0)), (q3, ka cJ 5 (fun _ => 0)), (q4, ka cJ 5 (fun _ => 0)), (q5, ka cJ 8 (fun _ => 0))] := hD
  refine lv_aload_n hx hb d_R_init_45 rfl (lv_at hl 0 rfl) ?_
  refine rz_iconst hx hb d_R_init_46 ?_
  refine rw_newa hx hb (hts _ kw_55) hK hP hD hS hA 0 rfl 5 rfl (by decide) (Nat.le_of_ble_eq_true rfl) (Nat.le_of_ble_eq_true rfl) d_R_init_47 (fun q6 H hP hD hS => ?_)
  have hP : va_P D vC [(h, .inr (1, [.ref q1, .int (iz 0), .ref q2, .ref q3, .ref q4, .ref q5, .null, .null])), (q1, ka cJ 4 (fun _ => 0)), (q2, ka cJ 5 (fun _ => 0)), (q3, ka cJ 5 (fun _ => 0)), (q4, ka cJ 5 (fun _ => 0)), (q5, ka cJ 8 (fun _ => 0)), (q6, ka cJ 5 (fun _ => 0))] H := hP
  have hD : va_D A [(h, .inr (1, [.ref q1, .int (iz 0), .ref q2, .ref q3, .ref q4, .ref q5, .null, .null])), (q1, ka cJ 4 (fun _ => 0)), (q2, ka cJ 5 (fun _ => 0)), (q3, ka cJ 5 (fun _ => 0)), (q4, ka cJ 5 (fun _ => 0)), (q5, ka cJ 8 (fun _ => 0)), (q6, ka cJ 5 (fun _ => 0))] := hD
  refine va_putF (D := D) (ci := 1) (v := .ref q6) (ty := (.array .long)) (C := R_R) (T := T_R) (N := 8) hx hb hts in_R ty_R tk_R nm_R hown hK hP hD hS 0 rfl rfl 6 (by decide) (hts _ kw_36) (fun _ h9 => h9) rfl hin rfl (by decide +kernel) rfl rfl (Nat.le_of_ble_eq_true rfl) d_R_init_49 (fun H locs hP hD hS => ?_)
  have hP : va_P D vC [(h, .inr (1, [.ref q1, .int (iz 0), .ref q2, .ref q3, .ref q4, .ref q5, .ref q6, .null])), (q1, ka cJ 4 (fun _ => 0)), (q2, ka cJ 5 (fun _ => 0)), (q3, ka cJ 5 (fun _ => 0)), (q4, ka cJ 5 (fun _ => 0)), (q5, ka cJ 8 (fun _ => 0)), (q6, ka cJ 5 (fun _ => 0))] H := hP
  have hD : va_D A [(h, .inr (1, [.ref q1, .int (iz 0), .ref q2, .ref q3, .ref q4, .ref q5, .ref q6, .null])), (q1, ka cJ 4 (fun _ => 0)), (q2, ka cJ 5 (fun _ => 0)), (q3, ka cJ 5 (fun _ => 0)), (q4, ka cJ 5 (fun _ => 0)), (q5, ka cJ 8 (fun _ => 0)), (q6, ka cJ 5 (fun _ => 0))] := hD
  refine lv_aload_n hx hb d_R_init_52 rfl (lv_at hl 0 rfl) ?_
  refine rz_iconst hx hb d_R_init_53 ?_
  refine rw_newa hx hb (hts _ kw_55) hK hP hD hS hA 0 rfl 5 rfl (by decide) (Nat.le_of_ble_eq_true rfl) (Nat.le_of_ble_eq_true rfl) d_R_init_54 (fun q7 H hP hD hS => ?_)
  have hP : va_P D vC [(h, .inr (1, [.ref q1, .int (iz 0), .ref q2, .ref q3, .ref q4, .ref q5, .ref q6, .null])), (q1, ka cJ 4 (fun _ => 0)), (q2, ka cJ 5 (fun _ => 0)), (q3, ka cJ 5 (fun _ => 0)), (q4, ka cJ 5 (fun _ => 0)), (q5, ka cJ 8 (fun _ => 0)), (q6, ka cJ 5 (fun _ => 0)), (q7, ka cJ 5 (fun _ => 0))] H := hP
  have hD : va_D A [(h, .inr (1, [.ref q1, .int (iz 0), .ref q2, .ref q3, .ref q4, .ref q5, .ref q6, .null])), (q1, ka cJ 4 (fun _ => 0)), (q2, ka cJ 5 (fun _ => 0)), (q3, ka cJ 5 (fun _ => 0)), (q4, ka cJ 5 (fun _ => 0)), (q5, ka cJ 8 (fun _ => 0)), (q6, ka cJ 5 (fun _ => 0)), (q7, ka cJ 5 (fun _ => 0))] := hD
  refine va_putF (D := D) (ci := 1) (v := .ref q7) (ty := (.array .long)) (C := R_R) (T := T_R) (N := 8) hx hb hts in_R ty_R tk_R nm_R hown hK hP hD hS 0 rfl rfl 7 (by decide) (hts _ kw_37) (fun _ h9 => h9) rfl hin rfl (by decide +kernel) rfl rfl (Nat.le_of_ble_eq_true rfl) d_R_init_56 (fun H locs hP hD hS => ?_)
  have hP : va_P D vC [(h, rR q1 0 q2 q3 q4 q5 q6 q7), (q1, ka cJ 4 (fun _ => 0)), (q2, ka cJ 5 (fun _ => 0)), (q3, ka cJ 5 (fun _ => 0)), (q4, ka cJ 5 (fun _ => 0)), (q5, ka cJ 8 (fun _ => 0)), (q6, ka cJ 5 (fun _ => 0)), (q7, ka cJ 5 (fun _ => 0))] H := hP
  have hD : va_D A [(h, rR q1 0 q2 q3 q4 q5 q6 q7), (q1, ka cJ 4 (fun _ => 0)), (q2, ka cJ 5 (fun _ => 0)), (q3, ka cJ 5 (fun _ => 0)), (q4, ka cJ 5 (fun _ => 0)), (q5, ka cJ 8 (fun _ => 0)), (q6, ka cJ 5 (fun _ => 0)), (q7, ka cJ 5 (fun _ => 0))] := hD
  refine W.widen (k := 7) (n := 37) (Nat.le_of_ble_eq_true rfl) (Nat.le_of_ble_eq_true rfl) ?_
  exact W.vret hx hb hr (fun t ht hW => ⟨⟨(fun i => ([q1, q2, q3, q4, q5, q6, q7] : List Nat).getD i 0), rfl, trivial, rc_out ht hP, hD⟩, hS.F ht⟩) hS.2.2 d_R_init_59
def ws_B_init : List Cond := .code y_B_init c_B_init 1 none :: kb
set_option maxHeartbeats 4000000 in
set_option maxRecDepth 100000 in
theorem m_B_init (l : Launch) (D : va_G) (cJ cO cI : ClassId) (h : Nat) (sz : Nat) : Met l y_B_init ws_B_init ({ frames := 1, cells := 33, slots := 433, locals := 60 }) (ri_Pc D vC [(cJ, .long), (cO, .array .long), (cI, .int)] [.ref h] [(h, .inr (0, [.null, .null, .null, .int (iz 0)]))] sz) (va_Qv (fun (u : (Nat → Nat) × (Nat → Nat → Nat)) => True) (fun u t => va_P D vC (([(h, rB (u.1 0) (u.1 1) (u.1 2) 0), ((u.1 0), go cO 17 (u.2 1)), ((u.1 1), ki cI 13 (fun _ => 0)), ((u.1 2), go cO 13 (u.2 0))] ++ gs 13 (u.2 0) cJ 13 (fun _ _ => 0)) ++ gs 17 (u.2 1) cJ 13 (fun _ _ => 0)) t.heap ∧ va_D (va_A [(h, .inr (0, [.null, .null, .null, .int (iz 0)]))] sz) (([(h, rB (u.1 0) (u.1 1) (u.1 2) 0), ((u.1 0), go cO 17 (u.2 1)), ((u.1 1), ki cI 13 (fun _ => 0)), ((u.1 2), go cO 13 (u.2 0))] ++ gs 13 (u.2 0) cJ 13 (fun _ _ => 0)) ++ gs 17 (u.2 1) cJ 13 (fun _ _ => 0))) (va_A [(h, .inr (0, [.null, .null, .null, .int (iz 0)]))] sz)) 33 433 (va_A [(h, .inr (0, [.null, .null, .null, .int (iz 0)]))] sz) := by
  refine Met.ofW (cc := c_B_init) (maxL := 1) (ret := none) (by decide) rfl ?_
  intro p e s m args below meth c s₁ B hml hv
  obtain ⟨rfl, hsz, hP, hK, hD0, hN⟩ := hv
  have hx := B.exec
  have hb := B.bytes
  have hr := B.returns
  have hts0 := atoms_spec (ws := ws_B_init) B.pre
  have hts : ∀ w ∈ kb, w.before _ s = true := fun w h => hts0 w (List.mem_cons_of_mem _ h)
  have hown : s.vm.findClass R_B = some m.cls := findClass_of_methodNamed B.named
  have hin : meth.name = "<init>" := (name_of_methodNamed B.named B.method).1
  subst hsz
  have hD := hD0.self (sz := s.heap.size)
  generalize hAe : va_A [(h, .inr (0, [.null, .null, .null, .int (iz 0)]))] s.heap.size = A at hD ⊢
  have hA : ∀ q : Nat, s.heap.size ≤ q → A q := fun q h => by rw [← hAe]; exact Or.inr h
  have hS : va_S A s.heap s.heap [] := va_S.rf
  have hl := lv_entry ([.ref h]) (n := 1) (Nat.le_of_ble_eq_true rfl)
  rw [lg_entry_eq]
  generalize (lg_sl ([.ref h]) ++ List.replicate (1 - (lg_sl ([.ref h])).length) Slot.unset).toArray = ls at hl ⊢
  have hl : lv_has ls 1 [(0, .ref h)] := hl
  refine lv_aload_n hx hb d_B_init_0 rfl (lv_at hl 0 rfl) ?_
  refine W.objInit hx hb hown (hts _ kw_61) (hts _ kw_20) (hts _ kw_21) rfl (by rw [hml]; exact hl.1) rfl d_B_init_1 (Nat.le_of_ble_eq_true rfl) (Nat.le_of_ble_eq_true rfl) ?_
  refine W.eq (g2 := F0 m 4 ls []) rfl ?_
  refine lv_aload_n hx hb d_B_init_4 rfl (lv_at hl 0 rfl) ?_
  refine rz_bipush hx hb d_B_init_5 (by decide) ?_
  refine rz_bipush hx hb d_B_init_7 (by decide) ?_
  refine rw_mna hx hb hown (hts _ kw_62) hN (hts _ kw_55) hK hP hD hS hA 0 1 rfl rfl 17 13 rfl rfl (by decide) (by decide) (Nat.le_of_ble_eq_true rfl) (Nat.le_of_ble_eq_true rfl) d_B_init_9 (fun q1 r2 H hP hD hS => ?_)
  have hP : va_P D vC ([(h, .inr (0, [.null, .null, .null, .int (iz 0)])), (q1, go cO 17 r2)] ++ gs 17 r2 cJ 13 (fun _ _ => 0)) H := hP
  have hD : va_D A ([(h, .inr (0, [.null, .null, .null, .int (iz 0)])), (q1, go cO 17 r2)] ++ gs 17 r2 cJ 13 (fun _ _ => 0)) := hD
  refine va_putF (D := D) (ci := 0) (v := .ref q1) (ty := (.array (.array .long))) (C := R_B) (T := T_B) (N := 4) hx hb hts in_B ty_B tk_B nm_B hown hK hP hD hS 0 rfl rfl 0 (by decide) (hts _ kw_63) (fun _ h9 => h9) rfl hin rfl (by decide +kernel) rfl rfl (Nat.le_of_ble_eq_true rfl) d_B_init_13 (fun H locs hP hD hS => ?_)
  have hP : va_P D vC ([(h, .inr (0, [.ref q1, .null, .null, .int (iz 0)])), (q1, go cO 17 r2)] ++ gs 17 r2 cJ 13 (fun _ _ => 0)) H := hP
  have hD : va_D A ([(h, .inr (0, [.ref q1, .null, .null, .int (iz 0)])), (q1, go cO 17 r2)] ++ gs 17 r2 cJ 13 (fun _ _ => 0)) := hD
  refine lv_aload_n hx hb d_B_init_16 rfl (lv_at hl 0 rfl) ?_
  refine rz_bipush hx hb d_B_init_17 (by decide) ?_
  refine rw_newi hx hb (hts _ kw_76) hK hP hD hS hA 2 rfl 13 rfl (by decide) (Nat.le_of_ble_eq_true rfl) (Nat.le_of_ble_eq_true rfl) d_B_init_19 (fun q3 H hP hD hS => ?_)
  have hP := rp_1 hP
  have hD := rp_1D hD
  have hP : va_P D vC ([(h, .inr (0, [.ref q1, .null, .null, .int (iz 0)])), (q1, go cO 17 r2), (q3, ki cI 13 (fun _ => 0))] ++ gs 17 r2 cJ 13 (fun _ _ => 0)) H := hP
  have hD : va_D A ([(h, .inr (0, [.ref q1, .null, .null, .int (iz 0)])), (q1, go cO 17 r2), (q3, ki cI 13 (fun _ => 0))] ++ gs 17 r2 cJ 13 (fun _ _ => 0)) := hD
  refine va_putF (D := D) (ci := 0) (v := .ref q3) (ty := (.array .int)) (C := R_B) (T := T_B) (N := 4) hx hb hts in_B ty_B tk_B nm_B hown hK hP hD hS 0 rfl rfl 1 (by decide) (hts _ kw_64) (fun _ h9 => h9) rfl hin rfl (by decide +kernel) rfl rfl (Nat.le_of_ble_eq_true rfl) d_B_init_21 (fun H locs hP hD hS => ?_)
  have hP : va_P D vC ([(h, .inr (0, [.ref q1, .ref q3, .null, .int (iz 0)])), (q1, go cO 17 r2), (q3, ki cI 13 (fun _ => 0))] ++ gs 17 r2 cJ 13 (fun _ _ => 0)) H := hP
  have hD : va_D A ([(h, .inr (0, [.ref q1, .ref q3, .null, .int (iz 0)])), (q1, go cO 17 r2), (q3, ki cI 13 (fun _ => 0))] ++ gs 17 r2 cJ 13 (fun _ _ => 0)) := hD
  refine lv_aload_n hx hb d_B_init_24 rfl (lv_at hl 0 rfl) ?_
  refine rz_bipush hx hb d_B_init_25 (by decide) ?_
  refine rz_bipush hx hb d_B_init_27 (by decide) ?_
  refine rw_mna hx hb hown (hts _ kw_62) hN (hts _ kw_55) hK hP hD hS hA 0 1 rfl rfl 13 13 rfl rfl (by decide) (by decide) (Nat.le_of_ble_eq_true rfl) (Nat.le_of_ble_eq_true rfl) d_B_init_29 (fun q4 r5 H hP hD hS => ?_)
  have hP := rp_i hP
  have hD := rp_iD hD
  have hP : va_P D vC (([(h, .inr (0, [.ref q1, .ref q3, .null, .int (iz 0)])), (q1, go cO 17 r2), (q3, ki cI 13 (fun _ => 0)), (q4, go cO 13 r5)] ++ gs 17 r2 cJ 13 (fun _ _ => 0)) ++ gs 13 r5 cJ 13 (fun _ _ => 0)) H := hP
  have hD : va_D A (([(h, .inr (0, [.ref q1, .ref q3, .null, .int (iz 0)])), (q1, go cO 17 r2), (q3, ki cI 13 (fun _ => 0)), (q4, go cO 13 r5)] ++ gs 17 r2 cJ 13 (fun _ _ => 0)) ++ gs 13 r5 cJ 13 (fun _ _ => 0)) := hD
  have hP := rp_1 hP
  have hD := rp_1D hD
  have hP : va_P D vC (([(h, .inr (0, [.ref q1, .ref q3, .null, .int (iz 0)])), (q1, go cO 17 r2), (q3, ki cI 13 (fun _ => 0)), (q4, go cO 13 r5)] ++ gs 13 r5 cJ 13 (fun _ _ => 0)) ++ gs 17 r2 cJ 13 (fun _ _ => 0)) H := hP
  have hD : va_D A (([(h, .inr (0, [.ref q1, .ref q3, .null, .int (iz 0)])), (q1, go cO 17 r2), (q3, ki cI 13 (fun _ => 0)), (q4, go cO 13 r5)] ++ gs 13 r5 cJ 13 (fun _ _ => 0)) ++ gs 17 r2 cJ 13 (fun _ _ => 0)) := hD
  refine va_putF (D := D) (ci := 0) (v := .ref q4) (ty := (.array (.array .long))) (C := R_B) (T := T_B) (N := 4) hx hb hts in_B ty_B tk_B nm_B hown hK hP hD hS 0 rfl rfl 2 (by decide) (hts _ kw_65) (fun _ h9 => h9) rfl hin rfl (by decide +kernel) rfl rfl (Nat.le_of_ble_eq_true rfl) d_B_init_33 (fun H locs hP hD hS => ?_)
  have hP : va_P D vC (([(h, rB q1 q3 q4 0), (q1, go cO 17 r2), (q3, ki cI 13 (fun _ => 0)), (q4, go cO 13 r5)] ++ gs 13 r5 cJ 13 (fun _ _ => 0)) ++ gs 17 r2 cJ 13 (fun _ _ => 0)) H := hP
  have hD : va_D A (([(h, rB q1 q3 q4 0), (q1, go cO 17 r2), (q3, ki cI 13 (fun _ => 0)), (q4, go cO 13 r5)] ++ gs 13 r5 cJ 13 (fun _ _ => 0)) ++ gs 17 r2 cJ 13 (fun _ _ => 0)) := hD
  refine lv_aload_n hx hb d_B_init_36 rfl (lv_at hl 0 rfl) ?_
  refine rz_iconst hx hb d_B_init_37 ?_
  refine va_put (D := D) (ci := 0) (v := .int (iz 0)) (ty := .int) (C := R_B) (T := T_B) (N := 4) hx hb hts in_B ty_B tk_B nm_B hown hK hP hD hS 0 rfl rfl 3 (by decide) (hts _ kw_66) (fun _ h9 => h9) rfl (by decide +kernel) rfl rfl (Nat.le_of_ble_eq_true rfl) d_B_init_38 (fun H locs hP hD hS => ?_)
  have hP : va_P D vC (([(h, rB q1 q3 q4 0), (q1, go cO 17 r2), (q3, ki cI 13 (fun _ => 0)), (q4, go cO 13 r5)] ++ gs 13 r5 cJ 13 (fun _ _ => 0)) ++ gs 17 r2 cJ 13 (fun _ _ => 0)) H := hP
  have hD : va_D A (([(h, rB q1 q3 q4 0), (q1, go cO 17 r2), (q3, ki cI 13 (fun _ => 0)), (q4, go cO 13 r5)] ++ gs 13 r5 cJ 13 (fun _ _ => 0)) ++ gs 17 r2 cJ 13 (fun _ _ => 0)) := hD
  refine W.widen (k := 33) (n := 433) (Nat.le_of_ble_eq_true rfl) (Nat.le_of_ble_eq_true rfl) ?_
  exact W.vret hx hb hr (fun t ht hW => ⟨⟨(fun i => ([q1, q3, q4] : List Nat).getD i 0, fun i => ([r5, r2] : List (Nat → Nat)).getD i id), rfl, trivial, rc_out ht hP, hD⟩, hS.F ht⟩) hS.2.2 d_B_init_41
theorem mn_3 {z : Int} (h1 : -2147483648 ≤ z) (h2 : z < 2147483648) : (if iz z < iz 3 then iz z else iz 3) = iz (min 3 z) := by
  by_cases h : iz z < iz 3
  · rw [if_pos h]; rw [iz_lt ⟨h1, h2⟩ ⟨by decide, by decide⟩] at h; congr 1; omega
  · rw [if_neg h]; rw [iz_lt ⟨h1, h2⟩ ⟨by decide, by decide⟩] at h; congr 1; omega
theorem mx_1 {z : Int} (h1 : -2147483648 ≤ z) (h2 : z < 2147483648) : (if iz 1 < iz (min 3 z) then iz (min 3 z) else iz 1) = iz (max 1 (min 3 z)) := by
  by_cases h : iz 1 < iz (min 3 z)
  · rw [if_pos h]; rw [iz_lt ⟨by decide, by decide⟩ ⟨by omega, by omega⟩] at h; congr 1; omega
  · rw [if_neg h]; rw [iz_lt ⟨by decide, by decide⟩ ⟨by omega, by omega⟩] at h; congr 1; omega
def ws_O_init : List Cond := .code y_O_init c_O_init 2 none :: kb
set_option maxHeartbeats 4000000 in
set_option maxRecDepth 100000 in
theorem m_O_init (l : Launch) (D : va_G) (cJ cO cI : ClassId) (h : Nat) (zr : Int) (hzrl : -2147483648 ≤ zr) (hzrh : zr < 2147483648) (sz : Nat) : Met l y_O_init ws_O_init ({ frames := 3, cells := 55, slots := 579, locals := 120 }) (ri_Pc D vC [(cJ, .long), (cO, .array .long), (cI, .int)] [.ref h, .int (iz zr)] [(h, .inr (2, [.int (iz 0), .null, .null, .null, .null, .null, .null, .null, .int (iz 0)]))] sz) (va_Qv (fun (u : (Nat → Nat) × (Nat → Nat → Nat)) => True) (fun u t => va_P D vC (((([(h, rO (max 1 (min 3 zr)) (u.1 0) (u.1 1) (u.1 2) (u.1 3) (u.1 4) (u.1 5) (u.1 6) 0), ((u.1 0), go cO 4 (u.2 1)), ((u.1 1), go cO 4 (u.2 0)), ((u.1 2), ka cJ 13 (fun _ => 0)), ((u.1 3), ka cJ 31 (fun _ => 0)), ((u.1 4), ka cJ 5 (fun _ => 0)), ((u.1 5), rR (u.1 7) 0 (u.1 8) (u.1 9) (u.1 10) (u.1 11) (u.1 12) (u.1 13)), ((u.1 7), ka cJ 4 (fun _ => 0)), ((u.1 8), ka cJ 5 (fun _ => 0)), ((u.1 9), ka cJ 5 (fun _ => 0)), ((u.1 10), ka cJ 5 (fun _ => 0)), ((u.1 11), ka cJ 8 (fun _ => 0)), ((u.1 12), ka cJ 5 (fun _ => 0)), ((u.1 13), ka cJ 5 (fun _ => 0)), ((u.1 6), rB (u.1 14) (u.1 15) (u.1 16) 0), ((u.1 14), go cO 17 (u.2 3)), ((u.1 15), ki cI 13 (fun _ => 0)), ((u.1 16), go cO 13 (u.2 2))] ++ gs 4 (u.2 0) cJ 5 (fun _ _ => 0)) ++ gs 4 (u.2 1) cJ 5 (fun _ _ => 0)) ++ gs 13 (u.2 2) cJ 13 (fun _ _ => 0)) ++ gs 17 (u.2 3) cJ 13 (fun _ _ => 0)) t.heap ∧ va_D (va_A [(h, .inr (2, [.int (iz 0), .null, .null, .null, .null, .null, .null, .null, .int (iz 0)]))] sz) (((([(h, rO (max 1 (min 3 zr)) (u.1 0) (u.1 1) (u.1 2) (u.1 3) (u.1 4) (u.1 5) (u.1 6) 0), ((u.1 0), go cO 4 (u.2 1)), ((u.1 1), go cO 4 (u.2 0)), ((u.1 2), ka cJ 13 (fun _ => 0)), ((u.1 3), ka cJ 31 (fun _ => 0)), ((u.1 4), ka cJ 5 (fun _ => 0)), ((u.1 5), rR (u.1 7) 0 (u.1 8) (u.1 9) (u.1 10) (u.1 11) (u.1 12) (u.1 13)), ((u.1 7), ka cJ 4 (fun _ => 0)), ((u.1 8), ka cJ 5 (fun _ => 0)), ((u.1 9), ka cJ 5 (fun _ => 0)), ((u.1 10), ka cJ 5 (fun _ => 0)), ((u.1 11), ka cJ 8 (fun _ => 0)), ((u.1 12), ka cJ 5 (fun _ => 0)), ((u.1 13), ka cJ 5 (fun _ => 0)), ((u.1 6), rB (u.1 14) (u.1 15) (u.1 16) 0), ((u.1 14), go cO 17 (u.2 3)), ((u.1 15), ki cI 13 (fun _ => 0)), ((u.1 16), go cO 13 (u.2 2))] ++ gs 4 (u.2 0) cJ 5 (fun _ _ => 0)) ++ gs 4 (u.2 1) cJ 5 (fun _ _ => 0)) ++ gs 13 (u.2 2) cJ 13 (fun _ _ => 0)) ++ gs 17 (u.2 3) cJ 13 (fun _ _ => 0))) (va_A [(h, .inr (2, [.int (iz 0), .null, .null, .null, .null, .null, .null, .null, .int (iz 0)]))] sz)) 55 579 (va_A [(h, .inr (2, [.int (iz 0), .null, .null, .null, .null, .null, .null, .null, .int (iz 0)]))] sz) := by
  refine Met.ofW (cc := c_O_init) (maxL := 2) (ret := none) (by decide) rfl ?_
  intro p e s m args below meth c s₁ B hml hv
  obtain ⟨rfl, hsz, hP, hK, hD0, hN⟩ := hv
  have hx := B.exec
  have hb := B.bytes
  have hr := B.returns
  have hts0 := atoms_spec (ws := ws_O_init) B.pre
  have hts : ∀ w ∈ kb, w.before _ s = true := fun w h => hts0 w (List.mem_cons_of_mem _ h)
  have hown : s.vm.findClass R_O = some m.cls := findClass_of_methodNamed B.named
  have hin : meth.name = "<init>" := (name_of_methodNamed B.named B.method).1
  subst hsz
  have hD := hD0.self (sz := s.heap.size)
  generalize hAe : va_A [(h, .inr (2, [.int (iz 0), .null, .null, .null, .null, .null, .null, .null, .int (iz 0)]))] s.heap.size = A at hD ⊢
  have hA : ∀ q : Nat, s.heap.size ≤ q → A q := fun q h => by rw [← hAe]; exact Or.inr h
  have hS : va_S A s.heap s.heap [] := va_S.rf
  have hl := lv_entry ([.ref h, .int (iz zr)]) (n := 2) (Nat.le_of_ble_eq_true rfl)
  rw [lg_entry_eq]
  generalize (lg_sl ([.ref h, .int (iz zr)]) ++ List.replicate (2 - (lg_sl ([.ref h, .int (iz zr)])).length) Slot.unset).toArray = ls at hl ⊢
  have hl : lv_has ls 2 [(0, .ref h), (1, .int (iz zr))] := hl
  refine lv_aload_n hx hb d_O_init_0 rfl (lv_at hl 0 rfl) ?_
  refine W.objInit hx hb hown (hts _ kw_19) (hts _ kw_20) (hts _ kw_21) rfl (by rw [hml]; exact hl.1) rfl d_O_init_1 (Nat.le_of_ble_eq_true rfl) (Nat.le_of_ble_eq_true rfl) ?_
  refine W.eq (g2 := F0 m 4 ls []) rfl ?_
  refine lv_aload_n hx hb d_O_init_4 rfl (lv_at hl 0 rfl) ?_
  refine rz_iconst hx hb d_O_init_5 ?_
  refine rz_iconst hx hb d_O_init_6 ?_
  refine rw_mna hx hb hown (hts _ kw_22) hN (hts _ kw_55) hK hP hD hS hA 0 1 rfl rfl 4 5 rfl rfl (by decide) (by decide) (Nat.le_of_ble_eq_true rfl) (Nat.le_of_ble_eq_true rfl) d_O_init_7 (fun q1 r2 H hP hD hS => ?_)
  have hP : va_P D vC ([(h, .inr (2, [.int (iz 0), .null, .null, .null, .null, .null, .null, .null, .int (iz 0)])), (q1, go cO 4 r2)] ++ gs 4 r2 cJ 5 (fun _ _ => 0)) H := hP
  have hD : va_D A ([(h, .inr (2, [.int (iz 0), .null, .null, .null, .null, .null, .null, .null, .int (iz 0)])), (q1, go cO 4 r2)] ++ gs 4 r2 cJ 5 (fun _ _ => 0)) := hD
  refine va_putF (D := D) (ci := 2) (v := .ref q1) (ty := (.array (.array .long))) (C := R_O) (T := T_O) (N := 9) hx hb hts in_O ty_O tk_O nm_O hown hK hP hD hS 0 rfl rfl 1 (by decide) (hts _ kw_84) (fun _ h9 => h9) rfl hin rfl (by decide +kernel) rfl rfl (Nat.le_of_ble_eq_true rfl) d_O_init_11 (fun H locs hP hD hS => ?_)
  have hP : va_P D vC ([(h, .inr (2, [.int (iz 0), .ref q1, .null, .null, .null, .null, .null, .null, .int (iz 0)])), (q1, go cO 4 r2)] ++ gs 4 r2 cJ 5 (fun _ _ => 0)) H := hP
  have hD : va_D A ([(h, .inr (2, [.int (iz 0), .ref q1, .null, .null, .null, .null, .null, .null, .int (iz 0)])), (q1, go cO 4 r2)] ++ gs 4 r2 cJ 5 (fun _ _ => 0)) := hD
  refine lv_aload_n hx hb d_O_init_14 rfl (lv_at hl 0 rfl) ?_
  refine rz_iconst hx hb d_O_init_15 ?_
  refine rz_iconst hx hb d_O_init_16 ?_
  refine rw_mna hx hb hown (hts _ kw_22) hN (hts _ kw_55) hK hP hD hS hA 0 1 rfl rfl 4 5 rfl rfl (by decide) (by decide) (Nat.le_of_ble_eq_true rfl) (Nat.le_of_ble_eq_true rfl) d_O_init_17 (fun q3 r4 H hP hD hS => ?_)
  have hP := rp_i hP
  have hD := rp_iD hD
  have hP : va_P D vC (([(h, .inr (2, [.int (iz 0), .ref q1, .null, .null, .null, .null, .null, .null, .int (iz 0)])), (q1, go cO 4 r2), (q3, go cO 4 r4)] ++ gs 4 r2 cJ 5 (fun _ _ => 0)) ++ gs 4 r4 cJ 5 (fun _ _ => 0)) H := hP
  have hD : va_D A (([(h, .inr (2, [.int (iz 0), .ref q1, .null, .null, .null, .null, .null, .null, .int (iz 0)])), (q1, go cO 4 r2), (q3, go cO 4 r4)] ++ gs 4 r2 cJ 5 (fun _ _ => 0)) ++ gs 4 r4 cJ 5 (fun _ _ => 0)) := hD
  have hP := rp_1 hP
  have hD := rp_1D hD
  have hP : va_P D vC (([(h, .inr (2, [.int (iz 0), .ref q1, .null, .null, .null, .null, .null, .null, .int (iz 0)])), (q1, go cO 4 r2), (q3, go cO 4 r4)] ++ gs 4 r4 cJ 5 (fun _ _ => 0)) ++ gs 4 r2 cJ 5 (fun _ _ => 0)) H := hP
  have hD : va_D A (([(h, .inr (2, [.int (iz 0), .ref q1, .null, .null, .null, .null, .null, .null, .int (iz 0)])), (q1, go cO 4 r2), (q3, go cO 4 r4)] ++ gs 4 r4 cJ 5 (fun _ _ => 0)) ++ gs 4 r2 cJ 5 (fun _ _ => 0)) := hD
  refine va_putF (D := D) (ci := 2) (v := .ref q3) (ty := (.array (.array .long))) (C := R_O) (T := T_O) (N := 9) hx hb hts in_O ty_O tk_O nm_O hown hK hP hD hS 0 rfl rfl 2 (by decide) (hts _ kw_85) (fun _ h9 => h9) rfl hin rfl (by decide +kernel) rfl rfl (Nat.le_of_ble_eq_true rfl) d_O_init_21 (fun H locs hP hD hS => ?_)
  have hP : va_P D vC (([(h, .inr (2, [.int (iz 0), .ref q1, .ref q3, .null, .null, .null, .null, .null, .int (iz 0)])), (q1, go cO 4 r2), (q3, go cO 4 r4)] ++ gs 4 r4 cJ 5 (fun _ _ => 0)) ++ gs 4 r2 cJ 5 (fun _ _ => 0)) H := hP
  have hD : va_D A (([(h, .inr (2, [.int (iz 0), .ref q1, .ref q3, .null, .null, .null, .null, .null, .int (iz 0)])), (q1, go cO 4 r2), (q3, go cO 4 r4)] ++ gs 4 r4 cJ 5 (fun _ _ => 0)) ++ gs 4 r2 cJ 5 (fun _ _ => 0)) := hD
  refine lv_aload_n hx hb d_O_init_24 rfl (lv_at hl 0 rfl) ?_
  refine rz_bipush hx hb d_O_init_25 (by decide) ?_
  refine rw_newa hx hb (hts _ kw_55) hK hP hD hS hA 0 rfl 13 rfl (by decide) (Nat.le_of_ble_eq_true rfl) (Nat.le_of_ble_eq_true rfl) d_O_init_27 (fun q5 H hP hD hS => ?_)
  have hP := rp_2 hP
  have hD := rp_2D hD
  have hP : va_P D vC (([(h, .inr (2, [.int (iz 0), .ref q1, .ref q3, .null, .null, .null, .null, .null, .int (iz 0)])), (q1, go cO 4 r2), (q3, go cO 4 r4), (q5, ka cJ 13 (fun _ => 0))] ++ gs 4 r4 cJ 5 (fun _ _ => 0)) ++ gs 4 r2 cJ 5 (fun _ _ => 0)) H := hP
  have hD : va_D A (([(h, .inr (2, [.int (iz 0), .ref q1, .ref q3, .null, .null, .null, .null, .null, .int (iz 0)])), (q1, go cO 4 r2), (q3, go cO 4 r4), (q5, ka cJ 13 (fun _ => 0))] ++ gs 4 r4 cJ 5 (fun _ _ => 0)) ++ gs 4 r2 cJ 5 (fun _ _ => 0)) := hD
  refine va_putF (D := D) (ci := 2) (v := .ref q5) (ty := (.array .long)) (C := R_O) (T := T_O) (N := 9) hx hb hts in_O ty_O tk_O nm_O hown hK hP hD hS 0 rfl rfl 3 (by decide) (hts _ kw_86) (fun _ h9 => h9) rfl hin rfl (by decide +kernel) rfl rfl (Nat.le_of_ble_eq_true rfl) d_O_init_29 (fun H locs hP hD hS => ?_)
  have hP : va_P D vC (([(h, .inr (2, [.int (iz 0), .ref q1, .ref q3, .ref q5, .null, .null, .null, .null, .int (iz 0)])), (q1, go cO 4 r2), (q3, go cO 4 r4), (q5, ka cJ 13 (fun _ => 0))] ++ gs 4 r4 cJ 5 (fun _ _ => 0)) ++ gs 4 r2 cJ 5 (fun _ _ => 0)) H := hP
  have hD : va_D A (([(h, .inr (2, [.int (iz 0), .ref q1, .ref q3, .ref q5, .null, .null, .null, .null, .int (iz 0)])), (q1, go cO 4 r2), (q3, go cO 4 r4), (q5, ka cJ 13 (fun _ => 0))] ++ gs 4 r4 cJ 5 (fun _ _ => 0)) ++ gs 4 r2 cJ 5 (fun _ _ => 0)) := hD
  refine lv_aload_n hx hb d_O_init_32 rfl (lv_at hl 0 rfl) ?_
  refine rz_bipush hx hb d_O_init_33 (by decide) ?_
  refine rw_newa hx hb (hts _ kw_55) hK hP hD hS hA 0 rfl 31 rfl (by decide) (Nat.le_of_ble_eq_true rfl) (Nat.le_of_ble_eq_true rfl) d_O_init_35 (fun q6 H hP hD hS => ?_)
  have hP := rp_2 hP
  have hD := rp_2D hD
  have hP : va_P D vC (([(h, .inr (2, [.int (iz 0), .ref q1, .ref q3, .ref q5, .null, .null, .null, .null, .int (iz 0)])), (q1, go cO 4 r2), (q3, go cO 4 r4), (q5, ka cJ 13 (fun _ => 0)), (q6, ka cJ 31 (fun _ => 0))] ++ gs 4 r4 cJ 5 (fun _ _ => 0)) ++ gs 4 r2 cJ 5 (fun _ _ => 0)) H := hP
  have hD : va_D A (([(h, .inr (2, [.int (iz 0), .ref q1, .ref q3, .ref q5, .null, .null, .null, .null, .int (iz 0)])), (q1, go cO 4 r2), (q3, go cO 4 r4), (q5, ka cJ 13 (fun _ => 0)), (q6, ka cJ 31 (fun _ => 0))] ++ gs 4 r4 cJ 5 (fun _ _ => 0)) ++ gs 4 r2 cJ 5 (fun _ _ => 0)) := hD
  refine va_putF (D := D) (ci := 2) (v := .ref q6) (ty := (.array .long)) (C := R_O) (T := T_O) (N := 9) hx hb hts in_O ty_O tk_O nm_O hown hK hP hD hS 0 rfl rfl 4 (by decide) (hts _ kw_87) (fun _ h9 => h9) rfl hin rfl (by decide +kernel) rfl rfl (Nat.le_of_ble_eq_true rfl) d_O_init_37 (fun H locs hP hD hS => ?_)
  have hP : va_P D vC (([(h, .inr (2, [.int (iz 0), .ref q1, .ref q3, .ref q5, .ref q6, .null, .null, .null, .int (iz 0)])), (q1, go cO 4 r2), (q3, go cO 4 r4), (q5, ka cJ 13 (fun _ => 0)), (q6, ka cJ 31 (fun _ => 0))] ++ gs 4 r4 cJ 5 (fun _ _ => 0)) ++ gs 4 r2 cJ 5 (fun _ _ => 0)) H := hP
  have hD : va_D A (([(h, .inr (2, [.int (iz 0), .ref q1, .ref q3, .ref q5, .ref q6, .null, .null, .null, .int (iz 0)])), (q1, go cO 4 r2), (q3, go cO 4 r4), (q5, ka cJ 13 (fun _ => 0)), (q6, ka cJ 31 (fun _ => 0))] ++ gs 4 r4 cJ 5 (fun _ _ => 0)) ++ gs 4 r2 cJ 5 (fun _ _ => 0)) := hD
  refine lv_aload_n hx hb d_O_init_40 rfl (lv_at hl 0 rfl) ?_
  refine rz_iconst hx hb d_O_init_41 ?_
  refine rw_newa hx hb (hts _ kw_55) hK hP hD hS hA 0 rfl 5 rfl (by decide) (Nat.le_of_ble_eq_true rfl) (Nat.le_of_ble_eq_true rfl) d_O_init_42 (fun q7 H hP hD hS => ?_)
  have hP := rp_2 hP
  have hD := rp_2D hD
  have hP : va_P D vC (([(h, .inr (2, [.int (iz 0), .ref q1, .ref q3, .ref q5, .ref q6, .null, .null, .null, .int (iz 0)])), (q1, go cO 4 r2), (q3, go cO 4 r4), (q5, ka cJ 13 (fun _ => 0)), (q6, ka cJ 31 (fun _ => 0)), (q7, ka cJ 5 (fun _ => 0))] ++ gs 4 r4 cJ 5 (fun _ _ => 0)) ++ gs 4 r2 cJ 5 (fun _ _ => 0)) H := hP
  have hD : va_D A (([(h, .inr (2, [.int (iz 0), .ref q1, .ref q3, .ref q5, .ref q6, .null, .null, .null, .int (iz 0)])), (q1, go cO 4 r2), (q3, go cO 4 r4), (q5, ka cJ 13 (fun _ => 0)), (q6, ka cJ 31 (fun _ => 0)), (q7, ka cJ 5 (fun _ => 0))] ++ gs 4 r4 cJ 5 (fun _ _ => 0)) ++ gs 4 r2 cJ 5 (fun _ _ => 0)) := hD
  refine va_putF (D := D) (ci := 2) (v := .ref q7) (ty := (.array .long)) (C := R_O) (T := T_O) (N := 9) hx hb hts in_O ty_O tk_O nm_O hown hK hP hD hS 0 rfl rfl 5 (by decide) (hts _ kw_88) (fun _ h9 => h9) rfl hin rfl (by decide +kernel) rfl rfl (Nat.le_of_ble_eq_true rfl) d_O_init_44 (fun H locs hP hD hS => ?_)
  have hP : va_P D vC (([(h, .inr (2, [.int (iz 0), .ref q1, .ref q3, .ref q5, .ref q6, .ref q7, .null, .null, .int (iz 0)])), (q1, go cO 4 r2), (q3, go cO 4 r4), (q5, ka cJ 13 (fun _ => 0)), (q6, ka cJ 31 (fun _ => 0)), (q7, ka cJ 5 (fun _ => 0))] ++ gs 4 r4 cJ 5 (fun _ _ => 0)) ++ gs 4 r2 cJ 5 (fun _ _ => 0)) H := hP
  have hD : va_D A (([(h, .inr (2, [.int (iz 0), .ref q1, .ref q3, .ref q5, .ref q6, .ref q7, .null, .null, .int (iz 0)])), (q1, go cO 4 r2), (q3, go cO 4 r4), (q5, ka cJ 13 (fun _ => 0)), (q6, ka cJ 31 (fun _ => 0)), (q7, ka cJ 5 (fun _ => 0))] ++ gs 4 r4 cJ 5 (fun _ _ => 0)) ++ gs 4 r2 cJ 5 (fun _ _ => 0)) := hD
  refine lv_aload_n hx hb d_O_init_47 rfl (lv_at hl 0 rfl) ?_
  refine va_new (ci := 1) (fs := [.null, .int (iz 0), .null, .null, .null, .null, .null, .null]) (C := R_R) (T := T_R) (N := 8) hx hb hts in_R ty_R tk_R hown (hts _ kw_24) (hts _ kw_25) (hts _ kw_2) hK hP hD hS hA rfl (fun j hj => by rcases (show j = 0 ∨ j = 1 ∨ j = 2 ∨ j = 3 ∨ j = 4 ∨ j = 5 ∨ j = 6 ∨ j = 7 by omega) with rfl | rfl | rfl | rfl | rfl | rfl | rfl | rfl <;> rfl) (Nat.le_of_ble_eq_true rfl) (Nat.le_of_ble_eq_true rfl) d_O_init_48 (fun q8 H hP hD hS => ?_)
  refine lv_dup hx hb d_O_init_51 rfl ?_
  refine ri_callv (va_runIN (As := []) (rest := [.ref q8, .ref h]) ⟨hx, hb, hml, hown, hts⟩ (m_R_init l D cJ q8 H.size) ⟨va_cnB 0 hts (kb_gi (kb_c kw_28 kb_all)) rfl rfl rfl hN.1 (hts _ kw_2) (by decide +kernel) ⟨Nat.le_of_ble_eq_true rfl, Nat.le_of_ble_eq_true rfl⟩, rfl, hts _ kw_27⟩ ⟨ri_blind, ri_pre hP hK hN [0] rfl⟩ rfl rfl hl.1 rfl (lv_room (Nat.le_of_ble_eq_true rfl)) d_O_init_52 ⟨Nat.le_of_ble_eq_true rfl, Nat.le_of_ble_eq_true rfl⟩) hP hD hS hA (fun u9 H locs _ hP hD hS => ?_)
  have hP := rp_2 hP
  have hD := rp_2D hD
  have hP : va_P D vC (([(h, .inr (2, [.int (iz 0), .ref q1, .ref q3, .ref q5, .ref q6, .ref q7, .null, .null, .int (iz 0)])), (q1, go cO 4 r2), (q3, go cO 4 r4), (q5, ka cJ 13 (fun _ => 0)), (q6, ka cJ 31 (fun _ => 0)), (q7, ka cJ 5 (fun _ => 0)), (q8, rR (u9 0) 0 (u9 1) (u9 2) (u9 3) (u9 4) (u9 5) (u9 6)), ((u9 0), ka cJ 4 (fun _ => 0)), ((u9 1), ka cJ 5 (fun _ => 0)), ((u9 2), ka cJ 5 (fun _ => 0)), ((u9 3), ka cJ 5 (fun _ => 0)), ((u9 4), ka cJ 8 (fun _ => 0)), ((u9 5), ka cJ 5 (fun _ => 0)), ((u9 6), ka cJ 5 (fun _ => 0))] ++ gs 4 r4 cJ 5 (fun _ _ => 0)) ++ gs 4 r2 cJ 5 (fun _ _ => 0)) H := hP
  have hD : va_D A (([(h, .inr (2, [.int (iz 0), .ref q1, .ref q3, .ref q5, .ref q6, .ref q7, .null, .null, .int (iz 0)])), (q1, go cO 4 r2), (q3, go cO 4 r4), (q5, ka cJ 13 (fun _ => 0)), (q6, ka cJ 31 (fun _ => 0)), (q7, ka cJ 5 (fun _ => 0)), (q8, rR (u9 0) 0 (u9 1) (u9 2) (u9 3) (u9 4) (u9 5) (u9 6)), ((u9 0), ka cJ 4 (fun _ => 0)), ((u9 1), ka cJ 5 (fun _ => 0)), ((u9 2), ka cJ 5 (fun _ => 0)), ((u9 3), ka cJ 5 (fun _ => 0)), ((u9 4), ka cJ 8 (fun _ => 0)), ((u9 5), ka cJ 5 (fun _ => 0)), ((u9 6), ka cJ 5 (fun _ => 0))] ++ gs 4 r4 cJ 5 (fun _ _ => 0)) ++ gs 4 r2 cJ 5 (fun _ _ => 0)) := hD
  refine va_putF (D := D) (ci := 2) (v := .ref q8) (ty := (.object "RationalOdes$Roots")) (C := R_O) (T := T_O) (N := 9) hx hb hts in_O ty_O tk_O nm_O hown hK hP hD hS 0 rfl rfl 6 (by decide) (hts _ kw_89) (fun _ h9 => h9) rfl hin rfl (by decide +kernel) rfl rfl (Nat.le_of_ble_eq_true rfl) d_O_init_55 (fun H locs hP hD hS => ?_)
  have hP : va_P D vC (([(h, .inr (2, [.int (iz 0), .ref q1, .ref q3, .ref q5, .ref q6, .ref q7, .ref q8, .null, .int (iz 0)])), (q1, go cO 4 r2), (q3, go cO 4 r4), (q5, ka cJ 13 (fun _ => 0)), (q6, ka cJ 31 (fun _ => 0)), (q7, ka cJ 5 (fun _ => 0)), (q8, rR (u9 0) 0 (u9 1) (u9 2) (u9 3) (u9 4) (u9 5) (u9 6)), ((u9 0), ka cJ 4 (fun _ => 0)), ((u9 1), ka cJ 5 (fun _ => 0)), ((u9 2), ka cJ 5 (fun _ => 0)), ((u9 3), ka cJ 5 (fun _ => 0)), ((u9 4), ka cJ 8 (fun _ => 0)), ((u9 5), ka cJ 5 (fun _ => 0)), ((u9 6), ka cJ 5 (fun _ => 0))] ++ gs 4 r4 cJ 5 (fun _ _ => 0)) ++ gs 4 r2 cJ 5 (fun _ _ => 0)) H := hP
  have hD : va_D A (([(h, .inr (2, [.int (iz 0), .ref q1, .ref q3, .ref q5, .ref q6, .ref q7, .ref q8, .null, .int (iz 0)])), (q1, go cO 4 r2), (q3, go cO 4 r4), (q5, ka cJ 13 (fun _ => 0)), (q6, ka cJ 31 (fun _ => 0)), (q7, ka cJ 5 (fun _ => 0)), (q8, rR (u9 0) 0 (u9 1) (u9 2) (u9 3) (u9 4) (u9 5) (u9 6)), ((u9 0), ka cJ 4 (fun _ => 0)), ((u9 1), ka cJ 5 (fun _ => 0)), ((u9 2), ka cJ 5 (fun _ => 0)), ((u9 3), ka cJ 5 (fun _ => 0)), ((u9 4), ka cJ 8 (fun _ => 0)), ((u9 5), ka cJ 5 (fun _ => 0)), ((u9 6), ka cJ 5 (fun _ => 0))] ++ gs 4 r4 cJ 5 (fun _ _ => 0)) ++ gs 4 r2 cJ 5 (fun _ _ => 0)) := hD
  refine lv_aload_n hx hb d_O_init_58 rfl (lv_at hl 0 rfl) ?_
  refine va_new (ci := 0) (fs := [.null, .null, .null, .int (iz 0)]) (C := R_B) (T := T_B) (N := 4) hx hb hts in_B ty_B tk_B hown (hts _ kw_56) (hts _ kw_57) (hts _ kw_3) hK hP hD hS hA rfl (fun j hj => by rcases (show j = 0 ∨ j = 1 ∨ j = 2 ∨ j = 3 by omega) with rfl | rfl | rfl | rfl <;> rfl) (Nat.le_of_ble_eq_true rfl) (Nat.le_of_ble_eq_true rfl) d_O_init_59 (fun q10 H hP hD hS => ?_)
  refine lv_dup hx hb d_O_init_62 rfl ?_
  refine ri_callv (va_runIN (As := []) (rest := [.ref q10, .ref h]) ⟨hx, hb, hml, hown, hts⟩ (m_B_init l D cJ cO cI q10 H.size) ⟨va_cnB 0 hts (kb_gi (kb_c kw_60 kb_all)) rfl rfl rfl hN.2.1 (hts _ kw_3) (by decide +kernel) ⟨Nat.le_of_ble_eq_true rfl, Nat.le_of_ble_eq_true rfl⟩, rfl, hts _ kw_59⟩ ⟨ri_blind, ri_pre hP hK hN [0, 1, 2] rfl⟩ rfl rfl hl.1 rfl (lv_room (Nat.le_of_ble_eq_true rfl)) d_O_init_63 ⟨Nat.le_of_ble_eq_true rfl, Nat.le_of_ble_eq_true rfl⟩) hP hD hS hA (fun u11 H locs _ hP hD hS => ?_)
  have hP := rp_B hP
  have hD := rp_BD hD
  have hP : va_P D vC (((([(h, .inr (2, [.int (iz 0), .ref q1, .ref q3, .ref q5, .ref q6, .ref q7, .ref q8, .null, .int (iz 0)])), (q1, go cO 4 r2), (q3, go cO 4 r4), (q5, ka cJ 13 (fun _ => 0)), (q6, ka cJ 31 (fun _ => 0)), (q7, ka cJ 5 (fun _ => 0)), (q8, rR (u9 0) 0 (u9 1) (u9 2) (u9 3) (u9 4) (u9 5) (u9 6)), ((u9 0), ka cJ 4 (fun _ => 0)), ((u9 1), ka cJ 5 (fun _ => 0)), ((u9 2), ka cJ 5 (fun _ => 0)), ((u9 3), ka cJ 5 (fun _ => 0)), ((u9 4), ka cJ 8 (fun _ => 0)), ((u9 5), ka cJ 5 (fun _ => 0)), ((u9 6), ka cJ 5 (fun _ => 0)), (q10, rB (u11.1 0) (u11.1 1) (u11.1 2) 0), ((u11.1 0), go cO 17 (u11.2 1)), ((u11.1 1), ki cI 13 (fun _ => 0)), ((u11.1 2), go cO 13 (u11.2 0))] ++ gs 4 r4 cJ 5 (fun _ _ => 0)) ++ gs 4 r2 cJ 5 (fun _ _ => 0)) ++ gs 13 (u11.2 0) cJ 13 (fun _ _ => 0)) ++ gs 17 (u11.2 1) cJ 13 (fun _ _ => 0)) H := hP
  have hD : va_D A (((([(h, .inr (2, [.int (iz 0), .ref q1, .ref q3, .ref q5, .ref q6, .ref q7, .ref q8, .null, .int (iz 0)])), (q1, go cO 4 r2), (q3, go cO 4 r4), (q5, ka cJ 13 (fun _ => 0)), (q6, ka cJ 31 (fun _ => 0)), (q7, ka cJ 5 (fun _ => 0)), (q8, rR (u9 0) 0 (u9 1) (u9 2) (u9 3) (u9 4) (u9 5) (u9 6)), ((u9 0), ka cJ 4 (fun _ => 0)), ((u9 1), ka cJ 5 (fun _ => 0)), ((u9 2), ka cJ 5 (fun _ => 0)), ((u9 3), ka cJ 5 (fun _ => 0)), ((u9 4), ka cJ 8 (fun _ => 0)), ((u9 5), ka cJ 5 (fun _ => 0)), ((u9 6), ka cJ 5 (fun _ => 0)), (q10, rB (u11.1 0) (u11.1 1) (u11.1 2) 0), ((u11.1 0), go cO 17 (u11.2 1)), ((u11.1 1), ki cI 13 (fun _ => 0)), ((u11.1 2), go cO 13 (u11.2 0))] ++ gs 4 r4 cJ 5 (fun _ _ => 0)) ++ gs 4 r2 cJ 5 (fun _ _ => 0)) ++ gs 13 (u11.2 0) cJ 13 (fun _ _ => 0)) ++ gs 17 (u11.2 1) cJ 13 (fun _ _ => 0)) := hD
  refine va_putF (D := D) (ci := 2) (v := .ref q10) (ty := (.object "RationalOdes$Base")) (C := R_O) (T := T_O) (N := 9) hx hb hts in_O ty_O tk_O nm_O hown hK hP hD hS 0 rfl rfl 7 (by decide) (hts _ kw_90) (fun _ h9 => h9) rfl hin rfl (by decide +kernel) rfl rfl (Nat.le_of_ble_eq_true rfl) d_O_init_66 (fun H locs hP hD hS => ?_)
  have hP : va_P D vC (((([(h, rO 0 q1 q3 q5 q6 q7 q8 q10 0), (q1, go cO 4 r2), (q3, go cO 4 r4), (q5, ka cJ 13 (fun _ => 0)), (q6, ka cJ 31 (fun _ => 0)), (q7, ka cJ 5 (fun _ => 0)), (q8, rR (u9 0) 0 (u9 1) (u9 2) (u9 3) (u9 4) (u9 5) (u9 6)), ((u9 0), ka cJ 4 (fun _ => 0)), ((u9 1), ka cJ 5 (fun _ => 0)), ((u9 2), ka cJ 5 (fun _ => 0)), ((u9 3), ka cJ 5 (fun _ => 0)), ((u9 4), ka cJ 8 (fun _ => 0)), ((u9 5), ka cJ 5 (fun _ => 0)), ((u9 6), ka cJ 5 (fun _ => 0)), (q10, rB (u11.1 0) (u11.1 1) (u11.1 2) 0), ((u11.1 0), go cO 17 (u11.2 1)), ((u11.1 1), ki cI 13 (fun _ => 0)), ((u11.1 2), go cO 13 (u11.2 0))] ++ gs 4 r4 cJ 5 (fun _ _ => 0)) ++ gs 4 r2 cJ 5 (fun _ _ => 0)) ++ gs 13 (u11.2 0) cJ 13 (fun _ _ => 0)) ++ gs 17 (u11.2 1) cJ 13 (fun _ _ => 0)) H := hP
  have hD : va_D A (((([(h, rO 0 q1 q3 q5 q6 q7 q8 q10 0), (q1, go cO 4 r2), (q3, go cO 4 r4), (q5, ka cJ 13 (fun _ => 0)), (q6, ka cJ 31 (fun _ => 0)), (q7, ka cJ 5 (fun _ => 0)), (q8, rR (u9 0) 0 (u9 1) (u9 2) (u9 3) (u9 4) (u9 5) (u9 6)), ((u9 0), ka cJ 4 (fun _ => 0)), ((u9 1), ka cJ 5 (fun _ => 0)), ((u9 2), ka cJ 5 (fun _ => 0)), ((u9 3), ka cJ 5 (fun _ => 0)), ((u9 4), ka cJ 8 (fun _ => 0)), ((u9 5), ka cJ 5 (fun _ => 0)), ((u9 6), ka cJ 5 (fun _ => 0)), (q10, rB (u11.1 0) (u11.1 1) (u11.1 2) 0), ((u11.1 0), go cO 17 (u11.2 1)), ((u11.1 1), ki cI 13 (fun _ => 0)), ((u11.1 2), go cO 13 (u11.2 0))] ++ gs 4 r4 cJ 5 (fun _ _ => 0)) ++ gs 4 r2 cJ 5 (fun _ _ => 0)) ++ gs 13 (u11.2 0) cJ 13 (fun _ _ => 0)) ++ gs 17 (u11.2 1) cJ 13 (fun _ _ => 0)) := hD
  refine lv_aload_n hx hb d_O_init_69 rfl (lv_at hl 0 rfl) ?_
  refine rz_iconst hx hb d_O_init_70 ?_
  refine va_put (D := D) (ci := 2) (v := .int (iz 0)) (ty := .boolean) (C := R_O) (T := T_O) (N := 9) hx hb hts in_O ty_O tk_O nm_O hown hK hP hD hS 0 rfl rfl 8 (by decide) (hts _ kw_91) (fun _ h9 => h9) rfl (by decide +kernel) rfl rfl (Nat.le_of_ble_eq_true rfl) d_O_init_71 (fun H locs hP hD hS => ?_)
  have hP : va_P D vC (((([(h, rO 0 q1 q3 q5 q6 q7 q8 q10 0), (q1, go cO 4 r2), (q3, go cO 4 r4), (q5, ka cJ 13 (fun _ => 0)), (q6, ka cJ 31 (fun _ => 0)), (q7, ka cJ 5 (fun _ => 0)), (q8, rR (u9 0) 0 (u9 1) (u9 2) (u9 3) (u9 4) (u9 5) (u9 6)), ((u9 0), ka cJ 4 (fun _ => 0)), ((u9 1), ka cJ 5 (fun _ => 0)), ((u9 2), ka cJ 5 (fun _ => 0)), ((u9 3), ka cJ 5 (fun _ => 0)), ((u9 4), ka cJ 8 (fun _ => 0)), ((u9 5), ka cJ 5 (fun _ => 0)), ((u9 6), ka cJ 5 (fun _ => 0)), (q10, rB (u11.1 0) (u11.1 1) (u11.1 2) 0), ((u11.1 0), go cO 17 (u11.2 1)), ((u11.1 1), ki cI 13 (fun _ => 0)), ((u11.1 2), go cO 13 (u11.2 0))] ++ gs 4 r4 cJ 5 (fun _ _ => 0)) ++ gs 4 r2 cJ 5 (fun _ _ => 0)) ++ gs 13 (u11.2 0) cJ 13 (fun _ _ => 0)) ++ gs 17 (u11.2 1) cJ 13 (fun _ _ => 0)) H := hP
  have hD : va_D A (((([(h, rO 0 q1 q3 q5 q6 q7 q8 q10 0), (q1, go cO 4 r2), (q3, go cO 4 r4), (q5, ka cJ 13 (fun _ => 0)), (q6, ka cJ 31 (fun _ => 0)), (q7, ka cJ 5 (fun _ => 0)), (q8, rR (u9 0) 0 (u9 1) (u9 2) (u9 3) (u9 4) (u9 5) (u9 6)), ((u9 0), ka cJ 4 (fun _ => 0)), ((u9 1), ka cJ 5 (fun _ => 0)), ((u9 2), ka cJ 5 (fun _ => 0)), ((u9 3), ka cJ 5 (fun _ => 0)), ((u9 4), ka cJ 8 (fun _ => 0)), ((u9 5), ka cJ 5 (fun _ => 0)), ((u9 6), ka cJ 5 (fun _ => 0)), (q10, rB (u11.1 0) (u11.1 1) (u11.1 2) 0), ((u11.1 0), go cO 17 (u11.2 1)), ((u11.1 1), ki cI 13 (fun _ => 0)), ((u11.1 2), go cO 13 (u11.2 0))] ++ gs 4 r4 cJ 5 (fun _ _ => 0)) ++ gs 4 r2 cJ 5 (fun _ _ => 0)) ++ gs 13 (u11.2 0) cJ 13 (fun _ _ => 0)) ++ gs 17 (u11.2 1) cJ 13 (fun _ _ => 0)) := hD
  refine lv_aload_n hx hb d_O_init_74 rfl (lv_at hl 0 rfl) ?_
  refine rz_iconst hx hb d_O_init_75 ?_
  refine rz_iconst hx hb d_O_init_76 ?_
  refine lv_iload_n hx hb d_O_init_77 rfl (lv_at hl 1 rfl) ?_
  refine va_mmin hx hb (hml.trans hl.1.symm) hown (hts _ kw_77) (hts _ kw_78) (hts _ kw_4) (hts _ kw_79) (Nat.le_of_ble_eq_true rfl) (Nat.le_of_ble_eq_true rfl) (Nat.le_of_ble_eq_true rfl) (Nat.le_of_ble_eq_true rfl) d_O_init_78 ?_
  rw [mn_3 hzrl hzrh]
  refine va_mmax hx hb (hml.trans hl.1.symm) hown (hts _ kw_80) (hts _ kw_81) (hts _ kw_4) (hts _ kw_82) (Nat.le_of_ble_eq_true rfl) (Nat.le_of_ble_eq_true rfl) (Nat.le_of_ble_eq_true rfl) (Nat.le_of_ble_eq_true rfl) d_O_init_81 ?_
  rw [mx_1 hzrl hzrh]
  refine va_putF (D := D) (ci := 2) (v := .int (iz (max 1 (min 3 zr)))) (ty := .int) (C := R_O) (T := T_O) (N := 9) hx hb hts in_O ty_O tk_O nm_O hown hK hP hD hS 0 rfl rfl 0 (by decide) (hts _ kw_83) (fun _ h9 => h9) rfl hin rfl (by decide +kernel) rfl rfl (Nat.le_of_ble_eq_true rfl) d_O_init_84 (fun H locs hP hD hS => ?_)
  have hP : va_P D vC (((([(h, rO (max 1 (min 3 zr)) q1 q3 q5 q6 q7 q8 q10 0), (q1, go cO 4 r2), (q3, go cO 4 r4), (q5, ka cJ 13 (fun _ => 0)), (q6, ka cJ 31 (fun _ => 0)), (q7, ka cJ 5 (fun _ => 0)), (q8, rR (u9 0) 0 (u9 1) (u9 2) (u9 3) (u9 4) (u9 5) (u9 6)), ((u9 0), ka cJ 4 (fun _ => 0)), ((u9 1), ka cJ 5 (fun _ => 0)), ((u9 2), ka cJ 5 (fun _ => 0)), ((u9 3), ka cJ 5 (fun _ => 0)), ((u9 4), ka cJ 8 (fun _ => 0)), ((u9 5), ka cJ 5 (fun _ => 0)), ((u9 6), ka cJ 5 (fun _ => 0)), (q10, rB (u11.1 0) (u11.1 1) (u11.1 2) 0), ((u11.1 0), go cO 17 (u11.2 1)), ((u11.1 1), ki cI 13 (fun _ => 0)), ((u11.1 2), go cO 13 (u11.2 0))] ++ gs 4 r4 cJ 5 (fun _ _ => 0)) ++ gs 4 r2 cJ 5 (fun _ _ => 0)) ++ gs 13 (u11.2 0) cJ 13 (fun _ _ => 0)) ++ gs 17 (u11.2 1) cJ 13 (fun _ _ => 0)) H := hP
  have hD : va_D A (((([(h, rO (max 1 (min 3 zr)) q1 q3 q5 q6 q7 q8 q10 0), (q1, go cO 4 r2), (q3, go cO 4 r4), (q5, ka cJ 13 (fun _ => 0)), (q6, ka cJ 31 (fun _ => 0)), (q7, ka cJ 5 (fun _ => 0)), (q8, rR (u9 0) 0 (u9 1) (u9 2) (u9 3) (u9 4) (u9 5) (u9 6)), ((u9 0), ka cJ 4 (fun _ => 0)), ((u9 1), ka cJ 5 (fun _ => 0)), ((u9 2), ka cJ 5 (fun _ => 0)), ((u9 3), ka cJ 5 (fun _ => 0)), ((u9 4), ka cJ 8 (fun _ => 0)), ((u9 5), ka cJ 5 (fun _ => 0)), ((u9 6), ka cJ 5 (fun _ => 0)), (q10, rB (u11.1 0) (u11.1 1) (u11.1 2) 0), ((u11.1 0), go cO 17 (u11.2 1)), ((u11.1 1), ki cI 13 (fun _ => 0)), ((u11.1 2), go cO 13 (u11.2 0))] ++ gs 4 r4 cJ 5 (fun _ _ => 0)) ++ gs 4 r2 cJ 5 (fun _ _ => 0)) ++ gs 13 (u11.2 0) cJ 13 (fun _ _ => 0)) ++ gs 17 (u11.2 1) cJ 13 (fun _ _ => 0)) := hD
  refine W.widen (k := 55) (n := 579) (Nat.le_of_ble_eq_true rfl) (Nat.le_of_ble_eq_true rfl) ?_
  exact W.vret hx hb hr (fun t ht hW => ⟨⟨(fun i => ([q1, q3, q5, q6, q7, q8, q10, (u9 0), (u9 1), (u9 2), (u9 3), (u9 4), (u9 5), (u9 6), (u11.1 0), (u11.1 1), (u11.1 2)] : List Nat).getD i 0, fun i => ([r4, r2, (u11.2 0), (u11.2 1)] : List (Nat → Nat)).getD i id), rfl, trivial, rc_out ht hP, hD⟩, hS.F ht⟩) hS.2.2 d_O_init_87
def ws_M_init : List Cond := .code y_M_init c_M_init 2 none :: kb
set_option maxHeartbeats 4000000 in
set_option maxRecDepth 100000 in
theorem m_M_init (l : Launch) (D : va_G) (cJ cO cI : ClassId) (h : Nat) (zr : Int) (hzrl : -2147483648 ≤ zr) (hzrh : zr < 2147483648) (sz : Nat) : Met l y_M_init ws_M_init ({ frames := 1, cells := 9, slots := 524, locals := 60 }) (ri_Pc D vC [(cJ, .long), (cO, .array .long), (cI, .int)] [.ref h, .int (iz zr)] [(h, .inr (3, [.int (iz 0), .int (iz 0), .null, .null, .null, .null, .int (iz 0), .null, .null, .null, .int (iz 0), .null, .null]))] sz) (va_Qv (fun (u : Nat → Nat) => True) (fun u t => va_P D vC [(h, rM 0 (max 1 (min 3 zr)) (u 0) (u 1) (u 2) (u 3) 0 (u 4) (u 5) (u 6) 0 (u 7) (u 8)), ((u 0), ka cJ 20 (fun _ => 0)), ((u 1), ka cJ 13 (fun _ => 0)), ((u 2), ka cJ 17 (fun _ => 0)), ((u 3), ka cJ 20 (fun _ => 0)), ((u 4), ka cJ 221 (fun _ => 0)), ((u 5), ki cI 13 (fun _ => 0)), ((u 6), ka cJ 169 (fun _ => 0)), ((u 7), ka cJ 31 (fun _ => 0)), ((u 8), ka cJ 20 (fun _ => 0))] t.heap ∧ va_D (va_A [(h, .inr (3, [.int (iz 0), .int (iz 0), .null, .null, .null, .null, .int (iz 0), .null, .null, .null, .int (iz 0), .null, .null]))] sz) [(h, rM 0 (max 1 (min 3 zr)) (u 0) (u 1) (u 2) (u 3) 0 (u 4) (u 5) (u 6) 0 (u 7) (u 8)), ((u 0), ka cJ 20 (fun _ => 0)), ((u 1), ka cJ 13 (fun _ => 0)), ((u 2), ka cJ 17 (fun _ => 0)), ((u 3), ka cJ 20 (fun _ => 0)), ((u 4), ka cJ 221 (fun _ => 0)), ((u 5), ki cI 13 (fun _ => 0)), ((u 6), ka cJ 169 (fun _ => 0)), ((u 7), ka cJ 31 (fun _ => 0)), ((u 8), ka cJ 20 (fun _ => 0))]) (va_A [(h, .inr (3, [.int (iz 0), .int (iz 0), .null, .null, .null, .null, .int (iz 0), .null, .null, .null, .int (iz 0), .null, .null]))] sz)) 9 524 (va_A [(h, .inr (3, [.int (iz 0), .int (iz 0), .null, .null, .null, .null, .int (iz 0), .null, .null, .null, .int (iz 0), .null, .null]))] sz) := by
  refine Met.ofW (cc := c_M_init) (maxL := 2) (ret := none) (by decide) rfl ?_
  intro p e s m args below meth c s₁ B hml hv
  obtain ⟨rfl, hsz, hP, hK, hD0, hN⟩ := hv
  have hx := B.exec
  have hb := B.bytes
  have hr := B.returns
  have hts0 := atoms_spec (ws := ws_M_init) B.pre
  have hts : ∀ w ∈ kb, w.before _ s = true := fun w h => hts0 w (List.mem_cons_of_mem _ h)
  have hown : s.vm.findClass R_M = some m.cls := findClass_of_methodNamed B.named
  have hin : meth.name = "<init>" := (name_of_methodNamed B.named B.method).1
  subst hsz
  have hD := hD0.self (sz := s.heap.size)
  generalize hAe : va_A [(h, .inr (3, [.int (iz 0), .int (iz 0), .null, .null, .null, .null, .int (iz 0), .null, .null, .null, .int (iz 0), .null, .null]))] s.heap.size = A at hD ⊢
  have hA : ∀ q : Nat, s.heap.size ≤ q → A q := fun q h => by rw [← hAe]; exact Or.inr h
  have hS : va_S A s.heap s.heap [] := va_S.rf
  have hl := lv_entry ([.ref h, .int (iz zr)]) (n := 2) (Nat.le_of_ble_eq_true rfl)
  rw [lg_entry_eq]
  generalize (lg_sl ([.ref h, .int (iz zr)]) ++ List.replicate (2 - (lg_sl ([.ref h, .int (iz zr)])).length) Slot.unset).toArray = ls at hl ⊢
  have hl : lv_has ls 2 [(0, .ref h), (1, .int (iz zr))] := hl
  refine lv_aload_n hx hb d_M_init_0 rfl (lv_at hl 0 rfl) ?_
  refine W.objInit hx hb hown (hts _ kw_529) (hts _ kw_20) (hts _ kw_21) rfl (by rw [hml]; exact hl.1) rfl d_M_init_1 (Nat.le_of_ble_eq_true rfl) (Nat.le_of_ble_eq_true rfl) ?_
  refine W.eq (g2 := F0 m 4 ls []) rfl ?_
  refine lv_aload_n hx hb d_M_init_4 rfl (lv_at hl 0 rfl) ?_
  refine rz_bipush hx hb d_M_init_5 (by decide) ?_
  refine rw_newa hx hb (hts _ kw_55) hK hP hD hS hA 0 rfl 20 rfl (by decide) (Nat.le_of_ble_eq_true rfl) (Nat.le_of_ble_eq_true rfl) d_M_init_7 (fun q1 H hP hD hS => ?_)
  have hP : va_P D vC [(h, .inr (3, [.int (iz 0), .int (iz 0), .null, .null, .null, .null, .int (iz 0), .null, .null, .null, .int (iz 0), .null, .null])), (q1, ka cJ 20 (fun _ => 0))] H := hP
  have hD : va_D A [(h, .inr (3, [.int (iz 0), .int (iz 0), .null, .null, .null, .null, .int (iz 0), .null, .null, .null, .int (iz 0), .null, .null])), (q1, ka cJ 20 (fun _ => 0))] := hD
  refine va_putF (D := D) (ci := 3) (v := .ref q1) (ty := (.array .long)) (C := R_M) (T := T_M) (N := 13) hx hb hts in_M ty_M tk_M nm_M hown hK hP hD hS 0 rfl rfl 2 (by decide) (hts _ kw_532) (fun _ h9 => h9) rfl hin rfl (by decide +kernel) rfl rfl (Nat.le_of_ble_eq_true rfl) d_M_init_9 (fun H locs hP hD hS => ?_)
  have hP : va_P D vC [(h, .inr (3, [.int (iz 0), .int (iz 0), .ref q1, .null, .null, .null, .int (iz 0), .null, .null, .null, .int (iz 0), .null, .null])), (q1, ka cJ 20 (fun _ => 0))] H := hP
  have hD : va_D A [(h, .inr (3, [.int (iz 0), .int (iz 0), .ref q1, .null, .null, .null, .int (iz 0), .null, .null, .null, .int (iz 0), .null, .null])), (q1, ka cJ 20 (fun _ => 0))] := hD
  refine lv_aload_n hx hb d_M_init_12 rfl (lv_at hl 0 rfl) ?_
  refine rz_bipush hx hb d_M_init_13 (by decide) ?_
  refine rw_newa hx hb (hts _ kw_55) hK hP hD hS hA 0 rfl 13 rfl (by decide) (Nat.le_of_ble_eq_true rfl) (Nat.le_of_ble_eq_true rfl) d_M_init_15 (fun q2 H hP hD hS => ?_)
  have hP : va_P D vC [(h, .inr (3, [.int (iz 0), .int (iz 0), .ref q1, .null, .null, .null, .int (iz 0), .null, .null, .null, .int (iz 0), .null, .null])), (q1, ka cJ 20 (fun _ => 0)), (q2, ka cJ 13 (fun _ => 0))] H := hP
  have hD : va_D A [(h, .inr (3, [.int (iz 0), .int (iz 0), .ref q1, .null, .null, .null, .int (iz 0), .null, .null, .null, .int (iz 0), .null, .null])), (q1, ka cJ 20 (fun _ => 0)), (q2, ka cJ 13 (fun _ => 0))] := hD
  refine va_putF (D := D) (ci := 3) (v := .ref q2) (ty := (.array .long)) (C := R_M) (T := T_M) (N := 13) hx hb hts in_M ty_M tk_M nm_M hown hK hP hD hS 0 rfl rfl 3 (by decide) (hts _ kw_533) (fun _ h9 => h9) rfl hin rfl (by decide +kernel) rfl rfl (Nat.le_of_ble_eq_true rfl) d_M_init_17 (fun H locs hP hD hS => ?_)
  have hP : va_P D vC [(h, .inr (3, [.int (iz 0), .int (iz 0), .ref q1, .ref q2, .null, .null, .int (iz 0), .null, .null, .null, .int (iz 0), .null, .null])), (q1, ka cJ 20 (fun _ => 0)), (q2, ka cJ 13 (fun _ => 0))] H := hP
  have hD : va_D A [(h, .inr (3, [.int (iz 0), .int (iz 0), .ref q1, .ref q2, .null, .null, .int (iz 0), .null, .null, .null, .int (iz 0), .null, .null])), (q1, ka cJ 20 (fun _ => 0)), (q2, ka cJ 13 (fun _ => 0))] := hD
  refine lv_aload_n hx hb d_M_init_20 rfl (lv_at hl 0 rfl) ?_
  refine rz_bipush hx hb d_M_init_21 (by decide) ?_
  refine rw_newa hx hb (hts _ kw_55) hK hP hD hS hA 0 rfl 17 rfl (by decide) (Nat.le_of_ble_eq_true rfl) (Nat.le_of_ble_eq_true rfl) d_M_init_23 (fun q3 H hP hD hS => ?_)
  have hP : va_P D vC [(h, .inr (3, [.int (iz 0), .int (iz 0), .ref q1, .ref q2, .null, .null, .int (iz 0), .null, .null, .null, .int (iz 0), .null, .null])), (q1, ka cJ 20 (fun _ => 0)), (q2, ka cJ 13 (fun _ => 0)), (q3, ka cJ 17 (fun _ => 0))] H := hP
  have hD : va_D A [(h, .inr (3, [.int (iz 0), .int (iz 0), .ref q1, .ref q2, .null, .null, .int (iz 0), .null, .null, .null, .int (iz 0), .null, .null])), (q1, ka cJ 20 (fun _ => 0)), (q2, ka cJ 13 (fun _ => 0)), (q3, ka cJ 17 (fun _ => 0))] := hD
  refine va_putF (D := D) (ci := 3) (v := .ref q3) (ty := (.array .long)) (C := R_M) (T := T_M) (N := 13) hx hb hts in_M ty_M tk_M nm_M hown hK hP hD hS 0 rfl rfl 4 (by decide) (hts _ kw_534) (fun _ h9 => h9) rfl hin rfl (by decide +kernel) rfl rfl (Nat.le_of_ble_eq_true rfl) d_M_init_25 (fun H locs hP hD hS => ?_)
  have hP : va_P D vC [(h, .inr (3, [.int (iz 0), .int (iz 0), .ref q1, .ref q2, .ref q3, .null, .int (iz 0), .null, .null, .null, .int (iz 0), .null, .null])), (q1, ka cJ 20 (fun _ => 0)), (q2, ka cJ 13 (fun _ => 0)), (q3, ka cJ 17 (fun _ => 0))] H := hP
  have hD : va_D A [(h, .inr (3, [.int (iz 0), .int (iz 0), .ref q1, .ref q2, .ref q3, .null, .int (iz 0), .null, .null, .null, .int (iz 0), .null, .null])), (q1, ka cJ 20 (fun _ => 0)), (q2, ka cJ 13 (fun _ => 0)), (q3, ka cJ 17 (fun _ => 0))] := hD
  refine lv_aload_n hx hb d_M_init_28 rfl (lv_at hl 0 rfl) ?_
  refine rz_bipush hx hb d_M_init_29 (by decide) ?_
  refine rw_newa hx hb (hts _ kw_55) hK hP hD hS hA 0 rfl 20 rfl (by decide) (Nat.le_of_ble_eq_true rfl) (Nat.le_of_ble_eq_true rfl) d_M_init_31 (fun q4 H hP hD hS => ?_)
  have hP : va_P D vC [(h, .inr (3, [.int (iz 0), .int (iz 0), .ref q1, .ref q2, .ref q3, .null, .int (iz 0), .null, .null, .null, .int (iz 0), .null, .null])), (q1, ka cJ 20 (fun _ => 0)), (q2, ka cJ 13 (fun _ => 0)), (q3, ka cJ 17 (fun _ => 0)), (q4, ka cJ 20 (fun _ => 0))] H := hP
  have hD : va_D A [(h, .inr (3, [.int (iz 0), .int (iz 0), .ref q1, .ref q2, .ref q3, .null, .int (iz 0), .null, .null, .null, .int (iz 0), .null, .null])), (q1, ka cJ 20 (fun _ => 0)), (q2, ka cJ 13 (fun _ => 0)), (q3, ka cJ 17 (fun _ => 0)), (q4, ka cJ 20 (fun _ => 0))] := hD
  refine va_putF (D := D) (ci := 3) (v := .ref q4) (ty := (.array .long)) (C := R_M) (T := T_M) (N := 13) hx hb hts in_M ty_M tk_M nm_M hown hK hP hD hS 0 rfl rfl 5 (by decide) (hts _ kw_535) (fun _ h9 => h9) rfl hin rfl (by decide +kernel) rfl rfl (Nat.le_of_ble_eq_true rfl) d_M_init_33 (fun H locs hP hD hS => ?_)
  have hP : va_P D vC [(h, .inr (3, [.int (iz 0), .int (iz 0), .ref q1, .ref q2, .ref q3, .ref q4, .int (iz 0), .null, .null, .null, .int (iz 0), .null, .null])), (q1, ka cJ 20 (fun _ => 0)), (q2, ka cJ 13 (fun _ => 0)), (q3, ka cJ 17 (fun _ => 0)), (q4, ka cJ 20 (fun _ => 0))] H := hP
  have hD : va_D A [(h, .inr (3, [.int (iz 0), .int (iz 0), .ref q1, .ref q2, .ref q3, .ref q4, .int (iz 0), .null, .null, .null, .int (iz 0), .null, .null])), (q1, ka cJ 20 (fun _ => 0)), (q2, ka cJ 13 (fun _ => 0)), (q3, ka cJ 17 (fun _ => 0)), (q4, ka cJ 20 (fun _ => 0))] := hD
  refine lv_aload_n hx hb d_M_init_36 rfl (lv_at hl 0 rfl) ?_
  refine rz_sipush hx hb d_M_init_37 (by decide) ?_
  refine rw_newa hx hb (hts _ kw_55) hK hP hD hS hA 0 rfl 221 rfl (by decide) (Nat.le_of_ble_eq_true rfl) (Nat.le_of_ble_eq_true rfl) d_M_init_40 (fun q5 H hP hD hS => ?_)
  have hP : va_P D vC [(h, .inr (3, [.int (iz 0), .int (iz 0), .ref q1, .ref q2, .ref q3, .ref q4, .int (iz 0), .null, .null, .null, .int (iz 0), .null, .null])), (q1, ka cJ 20 (fun _ => 0)), (q2, ka cJ 13 (fun _ => 0)), (q3, ka cJ 17 (fun _ => 0)), (q4, ka cJ 20 (fun _ => 0)), (q5, ka cJ 221 (fun _ => 0))] H := hP
  have hD : va_D A [(h, .inr (3, [.int (iz 0), .int (iz 0), .ref q1, .ref q2, .ref q3, .ref q4, .int (iz 0), .null, .null, .null, .int (iz 0), .null, .null])), (q1, ka cJ 20 (fun _ => 0)), (q2, ka cJ 13 (fun _ => 0)), (q3, ka cJ 17 (fun _ => 0)), (q4, ka cJ 20 (fun _ => 0)), (q5, ka cJ 221 (fun _ => 0))] := hD
  refine va_putF (D := D) (ci := 3) (v := .ref q5) (ty := (.array .long)) (C := R_M) (T := T_M) (N := 13) hx hb hts in_M ty_M tk_M nm_M hown hK hP hD hS 0 rfl rfl 7 (by decide) (hts _ kw_537) (fun _ h9 => h9) rfl hin rfl (by decide +kernel) rfl rfl (Nat.le_of_ble_eq_true rfl) d_M_init_42 (fun H locs hP hD hS => ?_)
  have hP : va_P D vC [(h, .inr (3, [.int (iz 0), .int (iz 0), .ref q1, .ref q2, .ref q3, .ref q4, .int (iz 0), .ref q5, .null, .null, .int (iz 0), .null, .null])), (q1, ka cJ 20 (fun _ => 0)), (q2, ka cJ 13 (fun _ => 0)), (q3, ka cJ 17 (fun _ => 0)), (q4, ka cJ 20 (fun _ => 0)), (q5, ka cJ 221 (fun _ => 0))] H := hP
  have hD : va_D A [(h, .inr (3, [.int (iz 0), .int (iz 0), .ref q1, .ref q2, .ref q3, .ref q4, .int (iz 0), .ref q5, .null, .null, .int (iz 0), .null, .null])), (q1, ka cJ 20 (fun _ => 0)), (q2, ka cJ 13 (fun _ => 0)), (q3, ka cJ 17 (fun _ => 0)), (q4, ka cJ 20 (fun _ => 0)), (q5, ka cJ 221 (fun _ => 0))] := hD
  refine lv_aload_n hx hb d_M_init_45 rfl (lv_at hl 0 rfl) ?_
  refine rz_bipush hx hb d_M_init_46 (by decide) ?_
  refine rw_newi hx hb (hts _ kw_76) hK hP hD hS hA 2 rfl 13 rfl (by decide) (Nat.le_of_ble_eq_true rfl) (Nat.le_of_ble_eq_true rfl) d_M_init_48 (fun q6 H hP hD hS => ?_)
  have hP : va_P D vC [(h, .inr (3, [.int (iz 0), .int (iz 0), .ref q1, .ref q2, .ref q3, .ref q4, .int (iz 0), .ref q5, .null, .null, .int (iz 0), .null, .null])), (q1, ka cJ 20 (fun _ => 0)), (q2, ka cJ 13 (fun _ => 0)), (q3, ka cJ 17 (fun _ => 0)), (q4, ka cJ 20 (fun _ => 0)), (q5, ka cJ 221 (fun _ => 0)), (q6, ki cI 13 (fun _ => 0))] H := hP
  have hD : va_D A [(h, .inr (3, [.int (iz 0), .int (iz 0), .ref q1, .ref q2, .ref q3, .ref q4, .int (iz 0), .ref q5, .null, .null, .int (iz 0), .null, .null])), (q1, ka cJ 20 (fun _ => 0)), (q2, ka cJ 13 (fun _ => 0)), (q3, ka cJ 17 (fun _ => 0)), (q4, ka cJ 20 (fun _ => 0)), (q5, ka cJ 221 (fun _ => 0)), (q6, ki cI 13 (fun _ => 0))] := hD
  refine va_putF (D := D) (ci := 3) (v := .ref q6) (ty := (.array .int)) (C := R_M) (T := T_M) (N := 13) hx hb hts in_M ty_M tk_M nm_M hown hK hP hD hS 0 rfl rfl 8 (by decide) (hts _ kw_538) (fun _ h9 => h9) rfl hin rfl (by decide +kernel) rfl rfl (Nat.le_of_ble_eq_true rfl) d_M_init_50 (fun H locs hP hD hS => ?_)
  have hP : va_P D vC [(h, .inr (3, [.int (iz 0), .int (iz 0), .ref q1, .ref q2, .ref q3, .ref q4, .int (iz 0), .ref q5, .ref q6, .null, .int (iz 0), .null, .null])), (q1, ka cJ 20 (fun _ => 0)), (q2, ka cJ 13 (fun _ => 0)), (q3, ka cJ 17 (fun _ => 0)), (q4, ka cJ 20 (fun _ => 0)), (q5, ka cJ 221 (fun _ => 0)), (q6, ki cI 13 (fun _ => 0))] H := hP
  have hD : va_D A [(h, .inr (3, [.int (iz 0), .int (iz 0), .ref q1, .ref q2, .ref q3, .ref q4, .int (iz 0), .ref q5, .ref q6, .null, .int (iz 0), .null, .null])), (q1, ka cJ 20 (fun _ => 0)), (q2, ka cJ 13 (fun _ => 0)), (q3, ka cJ 17 (fun _ => 0)), (q4, ka cJ 20 (fun _ => 0)), (q5, ka cJ 221 (fun _ => 0)), (q6, ki cI 13 (fun _ => 0))] := hD
  refine lv_aload_n hx hb d_M_init_53 rfl (lv_at hl 0 rfl) ?_
  refine rz_sipush hx hb d_M_init_54 (by decide) ?_
  refine rw_newa hx hb (hts _ kw_55) hK hP hD hS hA 0 rfl 169 rfl (by decide) (Nat.le_of_ble_eq_true rfl) (Nat.le_of_ble_eq_true rfl) d_M_init_57 (fun q7 H hP hD hS => ?_)
  have hP : va_P D vC [(h, .inr (3, [.int (iz 0), .int (iz 0), .ref q1, .ref q2, .ref q3, .ref q4, .int (iz 0), .ref q5, .ref q6, .null, .int (iz 0), .null, .null])), (q1, ka cJ 20 (fun _ => 0)), (q2, ka cJ 13 (fun _ => 0)), (q3, ka cJ 17 (fun _ => 0)), (q4, ka cJ 20 (fun _ => 0)), (q5, ka cJ 221 (fun _ => 0)), (q6, ki cI 13 (fun _ => 0)), (q7, ka cJ 169 (fun _ => 0))] H := hP
  have hD : va_D A [(h, .inr (3, [.int (iz 0), .int (iz 0), .ref q1, .ref q2, .ref q3, .ref q4, .int (iz 0), .ref q5, .ref q6, .null, .int (iz 0), .null, .null])), (q1, ka cJ 20 (fun _ => 0)), (q2, ka cJ 13 (fun _ => 0)), (q3, ka cJ 17 (fun _ => 0)), (q4, ka cJ 20 (fun _ => 0)), (q5, ka cJ 221 (fun _ => 0)), (q6, ki cI 13 (fun _ => 0)), (q7, ka cJ 169 (fun _ => 0))] := hD
  refine va_putF (D := D) (ci := 3) (v := .ref q7) (ty := (.array .long)) (C := R_M) (T := T_M) (N := 13) hx hb hts in_M ty_M tk_M nm_M hown hK hP hD hS 0 rfl rfl 9 (by decide) (hts _ kw_539) (fun _ h9 => h9) rfl hin rfl (by decide +kernel) rfl rfl (Nat.le_of_ble_eq_true rfl) d_M_init_59 (fun H locs hP hD hS => ?_)
  have hP : va_P D vC [(h, .inr (3, [.int (iz 0), .int (iz 0), .ref q1, .ref q2, .ref q3, .ref q4, .int (iz 0), .ref q5, .ref q6, .ref q7, .int (iz 0), .null, .null])), (q1, ka cJ 20 (fun _ => 0)), (q2, ka cJ 13 (fun _ => 0)), (q3, ka cJ 17 (fun _ => 0)), (q4, ka cJ 20 (fun _ => 0)), (q5, ka cJ 221 (fun _ => 0)), (q6, ki cI 13 (fun _ => 0)), (q7, ka cJ 169 (fun _ => 0))] H := hP
  have hD : va_D A [(h, .inr (3, [.int (iz 0), .int (iz 0), .ref q1, .ref q2, .ref q3, .ref q4, .int (iz 0), .ref q5, .ref q6, .ref q7, .int (iz 0), .null, .null])), (q1, ka cJ 20 (fun _ => 0)), (q2, ka cJ 13 (fun _ => 0)), (q3, ka cJ 17 (fun _ => 0)), (q4, ka cJ 20 (fun _ => 0)), (q5, ka cJ 221 (fun _ => 0)), (q6, ki cI 13 (fun _ => 0)), (q7, ka cJ 169 (fun _ => 0))] := hD
  refine lv_aload_n hx hb d_M_init_62 rfl (lv_at hl 0 rfl) ?_
  refine rz_bipush hx hb d_M_init_63 (by decide) ?_
  refine rw_newa hx hb (hts _ kw_55) hK hP hD hS hA 0 rfl 31 rfl (by decide) (Nat.le_of_ble_eq_true rfl) (Nat.le_of_ble_eq_true rfl) d_M_init_65 (fun q8 H hP hD hS => ?_)
  have hP : va_P D vC [(h, .inr (3, [.int (iz 0), .int (iz 0), .ref q1, .ref q2, .ref q3, .ref q4, .int (iz 0), .ref q5, .ref q6, .ref q7, .int (iz 0), .null, .null])), (q1, ka cJ 20 (fun _ => 0)), (q2, ka cJ 13 (fun _ => 0)), (q3, ka cJ 17 (fun _ => 0)), (q4, ka cJ 20 (fun _ => 0)), (q5, ka cJ 221 (fun _ => 0)), (q6, ki cI 13 (fun _ => 0)), (q7, ka cJ 169 (fun _ => 0)), (q8, ka cJ 31 (fun _ => 0))] H := hP
  have hD : va_D A [(h, .inr (3, [.int (iz 0), .int (iz 0), .ref q1, .ref q2, .ref q3, .ref q4, .int (iz 0), .ref q5, .ref q6, .ref q7, .int (iz 0), .null, .null])), (q1, ka cJ 20 (fun _ => 0)), (q2, ka cJ 13 (fun _ => 0)), (q3, ka cJ 17 (fun _ => 0)), (q4, ka cJ 20 (fun _ => 0)), (q5, ka cJ 221 (fun _ => 0)), (q6, ki cI 13 (fun _ => 0)), (q7, ka cJ 169 (fun _ => 0)), (q8, ka cJ 31 (fun _ => 0))] := hD
  refine va_putF (D := D) (ci := 3) (v := .ref q8) (ty := (.array .long)) (C := R_M) (T := T_M) (N := 13) hx hb hts in_M ty_M tk_M nm_M hown hK hP hD hS 0 rfl rfl 11 (by decide) (hts _ kw_541) (fun _ h9 => h9) rfl hin rfl (by decide +kernel) rfl rfl (Nat.le_of_ble_eq_true rfl) d_M_init_67 (fun H locs hP hD hS => ?_)
  have hP : va_P D vC [(h, .inr (3, [.int (iz 0), .int (iz 0), .ref q1, .ref q2, .ref q3, .ref q4, .int (iz 0), .ref q5, .ref q6, .ref q7, .int (iz 0), .ref q8, .null])), (q1, ka cJ 20 (fun _ => 0)), (q2, ka cJ 13 (fun _ => 0)), (q3, ka cJ 17 (fun _ => 0)), (q4, ka cJ 20 (fun _ => 0)), (q5, ka cJ 221 (fun _ => 0)), (q6, ki cI 13 (fun _ => 0)), (q7, ka cJ 169 (fun _ => 0)), (q8, ka cJ 31 (fun _ => 0))] H := hP
  have hD : va_D A [(h, .inr (3, [.int (iz 0), .int (iz 0), .ref q1, .ref q2, .ref q3, .ref q4, .int (iz 0), .ref q5, .ref q6, .ref q7, .int (iz 0), .ref q8, .null])), (q1, ka cJ 20 (fun _ => 0)), (q2, ka cJ 13 (fun _ => 0)), (q3, ka cJ 17 (fun _ => 0)), (q4, ka cJ 20 (fun _ => 0)), (q5, ka cJ 221 (fun _ => 0)), (q6, ki cI 13 (fun _ => 0)), (q7, ka cJ 169 (fun _ => 0)), (q8, ka cJ 31 (fun _ => 0))] := hD
  refine lv_aload_n hx hb d_M_init_70 rfl (lv_at hl 0 rfl) ?_
  refine rz_bipush hx hb d_M_init_71 (by decide) ?_
  refine rw_newa hx hb (hts _ kw_55) hK hP hD hS hA 0 rfl 20 rfl (by decide) (Nat.le_of_ble_eq_true rfl) (Nat.le_of_ble_eq_true rfl) d_M_init_73 (fun q9 H hP hD hS => ?_)
  have hP : va_P D vC [(h, .inr (3, [.int (iz 0), .int (iz 0), .ref q1, .ref q2, .ref q3, .ref q4, .int (iz 0), .ref q5, .ref q6, .ref q7, .int (iz 0), .ref q8, .null])), (q1, ka cJ 20 (fun _ => 0)), (q2, ka cJ 13 (fun _ => 0)), (q3, ka cJ 17 (fun _ => 0)), (q4, ka cJ 20 (fun _ => 0)), (q5, ka cJ 221 (fun _ => 0)), (q6, ki cI 13 (fun _ => 0)), (q7, ka cJ 169 (fun _ => 0)), (q8, ka cJ 31 (fun _ => 0)), (q9, ka cJ 20 (fun _ => 0))] H := hP
  have hD : va_D A [(h, .inr (3, [.int (iz 0), .int (iz 0), .ref q1, .ref q2, .ref q3, .ref q4, .int (iz 0), .ref q5, .ref q6, .ref q7, .int (iz 0), .ref q8, .null])), (q1, ka cJ 20 (fun _ => 0)), (q2, ka cJ 13 (fun _ => 0)), (q3, ka cJ 17 (fun _ => 0)), (q4, ka cJ 20 (fun _ => 0)), (q5, ka cJ 221 (fun _ => 0)), (q6, ki cI 13 (fun _ => 0)), (q7, ka cJ 169 (fun _ => 0)), (q8, ka cJ 31 (fun _ => 0)), (q9, ka cJ 20 (fun _ => 0))] := hD
  refine va_putF (D := D) (ci := 3) (v := .ref q9) (ty := (.array .long)) (C := R_M) (T := T_M) (N := 13) hx hb hts in_M ty_M tk_M nm_M hown hK hP hD hS 0 rfl rfl 12 (by decide) (hts _ kw_542) (fun _ h9 => h9) rfl hin rfl (by decide +kernel) rfl rfl (Nat.le_of_ble_eq_true rfl) d_M_init_75 (fun H locs hP hD hS => ?_)
  have hP : va_P D vC [(h, rM 0 0 q1 q2 q3 q4 0 q5 q6 q7 0 q8 q9), (q1, ka cJ 20 (fun _ => 0)), (q2, ka cJ 13 (fun _ => 0)), (q3, ka cJ 17 (fun _ => 0)), (q4, ka cJ 20 (fun _ => 0)), (q5, ka cJ 221 (fun _ => 0)), (q6, ki cI 13 (fun _ => 0)), (q7, ka cJ 169 (fun _ => 0)), (q8, ka cJ 31 (fun _ => 0)), (q9, ka cJ 20 (fun _ => 0))] H := hP
  have hD : va_D A [(h, rM 0 0 q1 q2 q3 q4 0 q5 q6 q7 0 q8 q9), (q1, ka cJ 20 (fun _ => 0)), (q2, ka cJ 13 (fun _ => 0)), (q3, ka cJ 17 (fun _ => 0)), (q4, ka cJ 20 (fun _ => 0)), (q5, ka cJ 221 (fun _ => 0)), (q6, ki cI 13 (fun _ => 0)), (q7, ka cJ 169 (fun _ => 0)), (q8, ka cJ 31 (fun _ => 0)), (q9, ka cJ 20 (fun _ => 0))] := hD
  refine lv_aload_n hx hb d_M_init_78 rfl (lv_at hl 0 rfl) ?_
  refine lv_iload_n hx hb d_M_init_79 rfl (lv_at hl 1 rfl) ?_
  refine rz_iconst hx hb d_M_init_80 ?_
  refine rz_icmp_ge (tgt := 88) hx hb d_M_init_81 (by decide) (fun hc10 => ?_) (fun hc10 => ?_)
  · refine lv_iload_n hx hb d_M_init_88 rfl (lv_at hl 1 rfl) ?_
    refine rz_iconst hx hb d_M_init_89 ?_
    refine rz_icmp_le (tgt := 97) hx hb d_M_init_90 (by decide) (fun hc11 => ?_) (fun hc11 => ?_)
    · refine lv_iload_n hx hb d_M_init_97 rfl (lv_at hl 1 rfl) ?_
      refine W.eq (g2 := F0 m 98 ls [.int (iz (max 1 (min 3 zr))), .ref h]) (congrArg (fun z => F0 m 98 ls [.int (iz z), .ref h]) (show (zr : Int) = (max 1 (min 3 zr)) by omega)) ?_
      refine va_putF (D := D) (ci := 3) (v := .int (iz (max 1 (min 3 zr)))) (ty := .int) (C := R_M) (T := T_M) (N := 13) hx hb hts in_M ty_M tk_M nm_M hown hK hP hD hS 0 rfl rfl 1 (by decide) (hts _ kw_531) (fun _ h9 => h9) rfl hin rfl (by decide +kernel) rfl rfl (Nat.le_of_ble_eq_true rfl) d_M_init_98 (fun H locs hP hD hS => ?_)
      have hP : va_P D vC [(h, rM 0 (max 1 (min 3 zr)) q1 q2 q3 q4 0 q5 q6 q7 0 q8 q9), (q1, ka cJ 20 (fun _ => 0)), (q2, ka cJ 13 (fun _ => 0)), (q3, ka cJ 17 (fun _ => 0)), (q4, ka cJ 20 (fun _ => 0)), (q5, ka cJ 221 (fun _ => 0)), (q6, ki cI 13 (fun _ => 0)), (q7, ka cJ 169 (fun _ => 0)), (q8, ka cJ 31 (fun _ => 0)), (q9, ka cJ 20 (fun _ => 0))] H := hP
      have hD : va_D A [(h, rM 0 (max 1 (min 3 zr)) q1 q2 q3 q4 0 q5 q6 q7 0 q8 q9), (q1, ka cJ 20 (fun _ => 0)), (q2, ka cJ 13 (fun _ => 0)), (q3, ka cJ 17 (fun _ => 0)), (q4, ka cJ 20 (fun _ => 0)), (q5, ka cJ 221 (fun _ => 0)), (q6, ki cI 13 (fun _ => 0)), (q7, ka cJ 169 (fun _ => 0)), (q8, ka cJ 31 (fun _ => 0)), (q9, ka cJ 20 (fun _ => 0))] := hD
      refine W.widen (k := 9) (n := 524) (Nat.le_of_ble_eq_true rfl) (Nat.le_of_ble_eq_true rfl) ?_
      exact W.vret hx hb hr (fun t ht hW => ⟨⟨(fun i => ([q1, q2, q3, q4, q5, q6, q7, q8, q9] : List Nat).getD i 0), rfl, trivial, rc_out ht hP, hD⟩, hS.F ht⟩) hS.2.2 d_M_init_101
    · refine rz_iconst hx hb d_M_init_93 ?_
      refine lv_goto (tgt := 98) hx hb d_M_init_94 (by decide) ?_
      refine W.eq (g2 := F0 m 98 ls [.int (iz (max 1 (min 3 zr))), .ref h]) (congrArg (fun z => F0 m 98 ls [.int (iz z), .ref h]) (show (3 : Int) = (max 1 (min 3 zr)) by omega)) ?_
      refine va_putF (D := D) (ci := 3) (v := .int (iz (max 1 (min 3 zr)))) (ty := .int) (C := R_M) (T := T_M) (N := 13) hx hb hts in_M ty_M tk_M nm_M hown hK hP hD hS 0 rfl rfl 1 (by decide) (hts _ kw_531) (fun _ h9 => h9) rfl hin rfl (by decide +kernel) rfl rfl (Nat.le_of_ble_eq_true rfl) d_M_init_98 (fun H locs hP hD hS => ?_)
      have hP : va_P D vC [(h, rM 0 (max 1 (min 3 zr)) q1 q2 q3 q4 0 q5 q6 q7 0 q8 q9), (q1, ka cJ 20 (fun _ => 0)), (q2, ka cJ 13 (fun _ => 0)), (q3, ka cJ 17 (fun _ => 0)), (q4, ka cJ 20 (fun _ => 0)), (q5, ka cJ 221 (fun _ => 0)), (q6, ki cI 13 (fun _ => 0)), (q7, ka cJ 169 (fun _ => 0)), (q8, ka cJ 31 (fun _ => 0)), (q9, ka cJ 20 (fun _ => 0))] H := hP
      have hD : va_D A [(h, rM 0 (max 1 (min 3 zr)) q1 q2 q3 q4 0 q5 q6 q7 0 q8 q9), (q1, ka cJ 20 (fun _ => 0)), (q2, ka cJ 13 (fun _ => 0)), (q3, ka cJ 17 (fun _ => 0)), (q4, ka cJ 20 (fun _ => 0)), (q5, ka cJ 221 (fun _ => 0)), (q6, ki cI 13 (fun _ => 0)), (q7, ka cJ 169 (fun _ => 0)), (q8, ka cJ 31 (fun _ => 0)), (q9, ka cJ 20 (fun _ => 0))] := hD
      refine W.widen (k := 9) (n := 524) (Nat.le_of_ble_eq_true rfl) (Nat.le_of_ble_eq_true rfl) ?_
      exact W.vret hx hb hr (fun t ht hW => ⟨⟨(fun i => ([q1, q2, q3, q4, q5, q6, q7, q8, q9] : List Nat).getD i 0), rfl, trivial, rc_out ht hP, hD⟩, hS.F ht⟩) hS.2.2 d_M_init_101
  · refine rz_iconst hx hb d_M_init_84 ?_
    refine lv_goto (tgt := 98) hx hb d_M_init_85 (by decide) ?_
    refine W.eq (g2 := F0 m 98 ls [.int (iz (max 1 (min 3 zr))), .ref h]) (congrArg (fun z => F0 m 98 ls [.int (iz z), .ref h]) (show (1 : Int) = (max 1 (min 3 zr)) by omega)) ?_
    refine va_putF (D := D) (ci := 3) (v := .int (iz (max 1 (min 3 zr)))) (ty := .int) (C := R_M) (T := T_M) (N := 13) hx hb hts in_M ty_M tk_M nm_M hown hK hP hD hS 0 rfl rfl 1 (by decide) (hts _ kw_531) (fun _ h9 => h9) rfl hin rfl (by decide +kernel) rfl rfl (Nat.le_of_ble_eq_true rfl) d_M_init_98 (fun H locs hP hD hS => ?_)
    have hP : va_P D vC [(h, rM 0 (max 1 (min 3 zr)) q1 q2 q3 q4 0 q5 q6 q7 0 q8 q9), (q1, ka cJ 20 (fun _ => 0)), (q2, ka cJ 13 (fun _ => 0)), (q3, ka cJ 17 (fun _ => 0)), (q4, ka cJ 20 (fun _ => 0)), (q5, ka cJ 221 (fun _ => 0)), (q6, ki cI 13 (fun _ => 0)), (q7, ka cJ 169 (fun _ => 0)), (q8, ka cJ 31 (fun _ => 0)), (q9, ka cJ 20 (fun _ => 0))] H := hP
    have hD : va_D A [(h, rM 0 (max 1 (min 3 zr)) q1 q2 q3 q4 0 q5 q6 q7 0 q8 q9), (q1, ka cJ 20 (fun _ => 0)), (q2, ka cJ 13 (fun _ => 0)), (q3, ka cJ 17 (fun _ => 0)), (q4, ka cJ 20 (fun _ => 0)), (q5, ka cJ 221 (fun _ => 0)), (q6, ki cI 13 (fun _ => 0)), (q7, ka cJ 169 (fun _ => 0)), (q8, ka cJ 31 (fun _ => 0)), (q9, ka cJ 20 (fun _ => 0))] := hD
    refine W.widen (k := 9) (n := 524) (Nat.le_of_ble_eq_true rfl) (Nat.le_of_ble_eq_true rfl) ?_
    exact W.vret hx hb hr (fun t ht hW => ⟨⟨(fun i => ([q1, q2, q3, q4, q5, q6, q7, q8, q9] : List Nat).getD i 0), rfl, trivial, rc_out ht hP, hD⟩, hS.F ht⟩) hS.2.2 d_M_init_101
end WK
