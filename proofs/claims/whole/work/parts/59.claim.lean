/-! THE CLAIM OUT OF ONE WALK OF THE LAW'S BODY. Your part is whole_start (and what it stands on); all else here is the same for every law, but numbers. -/
def R_law : String := "RationalOdesLaw"
def lw_P (b : Addr) (xs : List Int32) (args : Array Value) (s : State) : Prop := args = #[.ref b] ∧ s.IntsAt b xs ∧ xs.length ≤ 5121 ∧ (Jvm.Cond.and given_1 narrow_1).before args s = true
def lw_Q (_ : Array Value) (s : State) (o : Outcome) (t : State) : Prop := o = .returned (some (.int 1)) ∧ Framed s o t [] 601024 7293000
def lw_Z (below : List Frame) (a : Array Value) (s : State) : State → Prop := fun t => ∃ o, t.status = .running ∧ Ended t below o ∧ lw_Q a s o t
/-- the law's own end, with 1 on the stack, nothing written that was there before, its room as the claim has it -/
theorem lw_ret {p : Program} {l : Launch} {e : Env} {s : State} {m : MethodId} {below : List Frame} {meth : Method} {c : Code} {b : Nat} (hx : p.tables.exec = Jvm.exec) (hb : c.code = code) (hr : meth.sig.returnType = ret) (hlocks : meth.locks = false) {pc : Nat} {H : Heap} {ls : Array Slot} (hdg : decode code pc = .ok (.ireturn, 1)) : W p l e room_1 s m #[Value.ref b] below meth c H [] 601024 7293000 (lw_Z below #[Value.ref b] s) (F0 m pc ls [.int 1]) := by
  intro T hT X
  obtain ⟨fs, hret, hrun, hended, hW, hframe⟩ := X.leave (v := some (.int 1)) (hlocks := hlocks) (fun h => by rw [hr] at h; cases h)
  have hmeth' : T.vm.method? m = some meth := X.method'
  refine ⟨T.setFrames fs, ?_, .returned (some (.int 1)), hrun, hended, rfl, ⟨_, rfl⟩, hW, hframe⟩
  jvm_step X.here [X.here.top, hx, hb, hdg, hmeth', hr, ret, narrow_b1]
  (try refine ⟨rfl, ?_⟩); (try refine ⟨rfl, ?_⟩)
  first | (intro acts; rw [hret _ acts rfl rfl rfl]) | rw [hret _ _ rfl rfl rfl]
  exact Steps.refl _
/-- what holds at the law's entry: the machine, the code, the tables' words (any of lw_tbl by 'hts w (by decide +kernel)'), the script of L ints xs at the cell b, what the Statement gives of the start (any of its parts by flat_of_before) -/
def lw_At (p : Program) (s : State) (m : MethodId) (meth : Method) (c : Code) (b L : Nat) (xs : Nat → Int32) : Prop :=
  p.tables.exec = Jvm.exec ∧ c.code = code ∧ meth.sig.returnType = ret ∧ c.maxLocals = 7 ∧ s.vm.findClass R_law = some m.cls ∧ (∀ w ∈ lw_tbl, w.before #[Value.ref b] s = true) ∧ va_X b L xs s s.heap ∧ b < s.heap.size ∧ meth.locks = false ∧ (Jvm.Cond.and given_1 narrow_1).before #[Value.ref b] s = true

/-! the law's entry -/
def ws_L_cell : List Cond := .code y_L_cell c_L_cell 2 (some .int) :: kb
def cz (L : Nat) (xs : Nat → Int32) : Int := if 0 < L then sx xs 0 else 0
theorem cz_in (L : Nat) (xs : Nat → Int32) : -2147483648 ≤ cz L xs ∧ cz L xs < 2147483648 := by
  have h := sx_in xs 0
  unfold cz
  by_cases h0 : 0 < L
  · rw [if_pos h0]; exact h
  · rw [if_neg h0]; omega
def lw_cp (b L : Nat) (xs : Nat → Int32) : Array Value → State → Prop := va_Pc [.ref b, .int (iz 0)] (fun U => va_X b L xs U U.heap ∧ b < U.heap.size)
theorem lw_cb {b L : Nat} {xs : Nat → Int32} : FrameBlind (lw_cp b L xs) := fun a U g mk q => ⟨q.1, va_X.moved (u := U) (U := U.calling g mk a) (Vm.Alike.refl U.vm) q.2.1, q.2.2⟩
set_option maxHeartbeats 4000000 in
set_option maxRecDepth 100000 in
theorem m_L_cell (l : Launch) (b L : Nat) (xs : Nat → Int32) (hL : L ≤ 5121) : Met l y_L_cell ws_L_cell ({ frames := 0, cells := 0, slots := 0, locals := 0 }) (lw_cp b L xs) (va_Qi (fun (q : Int32) (_ : Unit) => q = iz (cz L xs)) (fun _ _ => True) (fun _ => False)) 0 0 (fun _ => False) := by
  refine Met.ofW (cc := c_L_cell) (maxL := 2) (ret := (some .int)) (by decide) rfl ?_
  intro p e s m args below meth c s₁ B hml hv
  obtain ⟨rfl, hX, hbl⟩ := hv
  have hx := B.exec
  have hb := B.bytes
  have hr := B.returns
  have hlocks := B.notSynchronized
  have hS : va_S (fun _ => False) s.heap s.heap [] := va_S.rf
  have hbA : ¬ (fun _ : Nat => False) b := fun z => z
  have hl := lv_entry ([.ref b, .int (iz 0)]) (n := 2) (Nat.le_of_ble_eq_true rfl)
  rw [lg_entry_eq]
  generalize (lg_sl ([.ref b, .int (iz 0)]) ++ List.replicate (2 - (lg_sl ([.ref b, .int (iz 0)])).length) Slot.unset).toArray = ls at hl ⊢
  have hl : lv_has ls 2 [(0, .ref b), (1, .int (iz 0))] := hl
  refine lv_iload_n hx hb d_L_cell_0 rfl (lv_at hl 1 rfl) ?_
  refine lv_aload_n hx hb d_L_cell_1 rfl (lv_at hl 0 rfl) ?_
  refine rl_slen hx hb hX hbl hbA hS d_L_cell_2 ?_
  refine rz_icmp_ge (tgt := 12) hx hb d_L_cell_3 (by decide) (fun hc => ?_) (fun hc => ?_)
  · refine rz_iconst hx hb d_L_cell_12 ?_
    exact W.iret hx hb hr (fun t ht hW => ⟨⟨_, (), rfl, by unfold cz; rw [if_neg (by omega)], trivial⟩, hS.F ht⟩) hS.2.2 d_L_cell_13
  · refine lv_aload_n hx hb d_L_cell_6 rfl (lv_at hl 0 rfl) ?_
    refine lv_iload_n hx hb d_L_cell_7 rfl (lv_at hl 1 rfl) ?_
    refine rl_sld hx hb hX hbl hbA hS 0 d_L_cell_8 ?_
    refine lv_goto (tgt := 13) hx hb d_L_cell_9 (by decide) ?_
    exact W.iret hx hb hr (fun t ht hW => ⟨⟨_, (), rfl, by unfold cz; rw [if_pos (by omega)], trivial⟩, hS.F ht⟩) hS.2.2 d_L_cell_13
theorem lw_at {args : Array Value} {s : State} (hts : ∀ w ∈ lw_tbl, w.before args s = true) {w : Cond} (i : Nat) (h : tables_1[i]? = some w) : w.before args s = true := hts w (List.mem_append_right _ (List.mem_of_getElem? h))
theorem lw_arr {s : State} {args : Array Value} {ty : FieldType} (h : (Cond.arrayClass ty).before args s = true) : ∃ c : ClassId, ArrOfT s c ty ∧ s.vm.findClass ("[" ++ ty.toString) = some c := by
  obtain ⟨c, k, comp, h1, h2, h3⟩ := Cond.arrayClass_spec h
  exact ⟨c, fun n z => ⟨fun k e => (by cases e), k, h2, comp, h3⟩, h1⟩
theorem lw_arrO {s : State} {args : Array Value} (h : (Cond.arrayOver (.array .long)).before args s = true) : ∃ c : ClassId, ArrOfT s c (.array .long) ∧ s.vm.findClass ("[" ++ (FieldType.array .long).toString) = some c := by
  obtain ⟨comp, c, k, h0, h1, h2, h3⟩ := Cond.arrayOver_specA h
  exact ⟨c, fun n z => ⟨fun k e => (by cases e), k, h1, comp, h2⟩, h3⟩
theorem lw_ov {args : Array Value} {s : State} {ty : FieldType} (h : (Cond.arrayOver ty).before args s = true) : va_Nw (.arrayOver ty) s := h
theorem lw_perm (O M U a b f r : va_W) : ((((((O ++ a) ++ f) ++ b) ++ r) ++ M) ++ U).Perm (((((U ++ (O ++ M)) ++ a) ++ f) ++ b) ++ r) := by
  have e1 : ((((((O ++ a) ++ f) ++ b) ++ r) ++ M) ++ U) = O ++ ((a ++ (f ++ (b ++ r))) ++ (M ++ U)) := by simp only [List.append_assoc]
  have e2 : (((((U ++ (O ++ M)) ++ a) ++ f) ++ b) ++ r) = (U ++ O) ++ (M ++ (a ++ (f ++ (b ++ r)))) := by simp only [List.append_assoc]
  rw [e1, e2]
  generalize (a ++ (f ++ (b ++ r))) = X
  have p1 : (X ++ (M ++ U)).Perm ((U ++ M) ++ X) := List.perm_append_comm.trans (List.perm_append_comm.append_right X)
  have p2 : (O ++ (X ++ (M ++ U))).Perm (O ++ ((U ++ M) ++ X)) := p1.append_left O
  have e3 : O ++ ((U ++ M) ++ X) = (O ++ U) ++ (M ++ X) := by simp only [List.append_assoc]
  rw [e3] at p2
  exact p2.trans (List.perm_append_comm.append_right (M ++ X))

set_option maxHeartbeats 4000000 in
set_option maxRecDepth 100000 in
theorem whole_start {p : Program} {e : Env} {s : State} {m : MethodId} {below : List Frame} {meth : Method} {c : Code} (l : Launch) (hst : l.stackTraces = false) {b L : Nat} {xs : Nat → Int32} (hL : L ≤ 5121) (C0 : lw_At p s m meth c b L xs) : W p l e room_1 s m #[Value.ref b] below meth c s.heap [] 0 0 (lw_Z below #[Value.ref b] s) (entryFrame m ([Value.ref b] : List Value).toArray 7) := by
  obtain ⟨hx, hb, hr, hml, hown, hts, hX, hbl, hlocks, hgv⟩ := id C0
  have hA : ∀ q : Nat, s.heap.size ≤ q → (fun q : Nat => s.heap.size ≤ q) q := fun _ h => h
  have hbA : ¬ (fun q : Nat => s.heap.size ≤ q) b := Nat.not_le.mpr hbl
  have hnA : ∀ q : Nat, q < s.heap.size → ¬ (fun q : Nat => s.heap.size ≤ q) q := fun _ h => Nat.not_le.mpr h
  have htk : ∀ w ∈ kb, w.before #[Value.ref b] s = true := fun w hw => hts w (List.mem_filter.mp hw).1
  have hfl := flat_of_before _ hgv
  have hcz := cz_in L xs
  obtain ⟨c0, iS0, hKn0⟩ := u_known (C := R_B) (T := T_B) (N := 4) (n := 4) htk in_B (htk _ kw_57)
  obtain ⟨c1, iS1, hKn1⟩ := u_known (C := R_R) (T := T_R) (N := 8) (n := 8) htk in_R (htk _ kw_25)
  obtain ⟨c2, iS2, hKn2⟩ := u_known (C := R_O) (T := T_O) (N := 9) (n := 9) htk in_O (htk _ kw_15)
  obtain ⟨c3, iS3, hKn3⟩ := u_known (C := R_M) (T := T_M) (N := 13) (n := 13) htk in_M (htk _ kw_525)
  obtain ⟨cJ, hJ1, hJ2⟩ := lw_arr (ty := .long) (lw_at hts 55 (by decide +kernel))
  obtain ⟨cI, hI1, hI2⟩ := lw_arr (ty := .int) (lw_at hts 76 (by decide +kernel))
  obtain ⟨cO, hO1, hO2⟩ := lw_arrO (lw_at hts 23 (by decide +kernel))
  obtain ⟨dC, dI, hKc⟩ : ∃ (dC : Nat → ClassId) (dI : Nat → Nat → Nat), ∀ (k : Nat) (q : vw_C), vC[k]? = some q → u_Kn s q.1 q.2.1 q.2.2 (dC k) (dI k) := by
    refine ⟨fun k => if k = 0 then c0 else if k = 1 then c1 else if k = 2 then c2 else c3, fun k => if k = 0 then iS0 else if k = 1 then iS1 else if k = 2 then iS2 else iS3, ?_⟩
    intro k q hq
    match k, hq with
    | 0, hq => cases hq; exact hKn0
    | 1, hq => cases hq; exact hKn1
    | 2, hq => cases hq; exact hKn2
    | 3, hq => cases hq; exact hKn3
    | k + 4, hq => simp [vC] at hq
  have hK : va_K (dC, dI) vC [(cJ, .long), (cO, .array .long), (cI, .int)] s := by
    refine ⟨hKc, fun k q hq => ?_⟩
    match k, hq with
    | 0, hq => cases hq; exact ⟨hJ1, hJ2⟩
    | 1, hq => cases hq; exact ⟨hO1, hO2⟩
    | 2, hq => cases hq; exact ⟨hI1, hI2⟩
    | k + 3, hq => simp at hq
  have hN : rc_N s := ⟨va_Nw.of rfl (lw_at hts 351 (by decide +kernel)), va_Nw.of rfl (lw_at hts 359 (by decide +kernel)), va_Nw.of rfl (lw_at hts 381 (by decide +kernel)), va_Nw.of rfl (lw_at hts 386 (by decide +kernel)), va_Nw.of rfl (lw_at hts 159 (by decide +kernel)), va_Nw.of rfl (lw_at hts 167 (by decide +kernel))⟩
  have hN2 : ri_N s := ⟨va_Nw.of rfl (lw_at hts 26 (by decide +kernel)), va_Nw.of rfl (lw_at hts 58 (by decide +kernel)), lw_ov (lw_at hts 23 (by decide +kernel))⟩
  have hW9 : rx_W s := ⟨va_Nw.of rfl (lw_at hts 228 (by decide +kernel)), va_Nw.of rfl (lw_at hts 333 (by decide +kernel)), va_Nw.of rfl (lw_at hts 505 (by decide +kernel)), va_Nw.of rfl (lw_at hts 230 (by decide +kernel)), va_Nw.of rfl (lw_at hts 232 (by decide +kernel)), va_Nw.of rfl (lw_at hts 234 (by decide +kernel)), va_Nc.of (hfl _ (by decide +kernel)), va_Nc.of (hfl _ (by decide +kernel))⟩
  obtain ⟨sa0, -, -, -, hsa0, -⟩ := Cond.exactly_spec (hfl (.exactly (.string "RationalOdes" 152) "java/lang/String") (by decide +kernel))
  obtain ⟨sa1, -, -, -, hsa1, -⟩ := Cond.exactly_spec (hfl (.exactly (.string "RationalOdes" 154) "java/lang/String") (by decide +kernel))
  obtain ⟨sa2, -, -, -, hsa2, -⟩ := Cond.exactly_spec (hfl (.exactly (.string "RationalOdes" 164) "java/lang/String") (by decide +kernel))
  obtain ⟨sa3, -, -, -, hsa3, -⟩ := Cond.exactly_spec (hfl (.exactly (.string "RationalOdes" 83) "java/lang/String") (by decide +kernel))
  obtain ⟨sa4, -, -, -, hsa4, -⟩ := Cond.exactly_spec (hfl (.exactly (.string "RationalOdes" 171) "java/lang/String") (by decide +kernel))
  obtain ⟨sa5, -, -, -, hsa5, -⟩ := Cond.exactly_spec (hfl (.exactly (.string "RationalOdes" 156) "java/lang/String") (by decide +kernel))
  obtain ⟨sa6, -, -, -, hsa6, -⟩ := Cond.exactly_spec (hfl (.exactly (.string "RationalOdes" 126) "java/lang/String") (by decide +kernel))
  obtain ⟨sa7, -, -, -, hsa7, -⟩ := Cond.exactly_spec (hfl (.exactly (.string "RationalOdes" 134) "java/lang/String") (by decide +kernel))
  have hS9 : rx_S (fun j => if j = 0 then sa0 else if j = 1 then sa1 else if j = 2 then sa2 else if j = 3 then sa3 else if j = 4 then sa4 else if j = 5 then sa5 else if j = 6 then sa6 else sa7) s := ⟨vk_R.of (lw_at hts 267 (by decide +kernel)) hsa0, vk_R.of (lw_at hts 312 (by decide +kernel)) hsa1, vk_R.of (lw_at hts 340 (by decide +kernel)) hsa2, vk_R.of (lw_at hts 410 (by decide +kernel)) hsa3, vk_R.of (lw_at hts 430 (by decide +kernel)) hsa4, vk_R.of (lw_at hts 482 (by decide +kernel)) hsa5, vk_R.of (lw_at hts 502 (by decide +kernel)) hsa6, vk_R.of (lw_at hts 512 (by decide +kernel)) hsa7⟩
  generalize (fun j => if j = 0 then sa0 else if j = 1 then sa1 else if j = 2 then sa2 else if j = 3 then sa3 else if j = 4 then sa4 else if j = 5 then sa5 else if j = 6 then sa6 else sa7) = sa at hS9
  have hE : rx_E sa (fun q : Nat => s.heap.size ≤ q) s s.heap := ⟨hW9, hS9, vx_Zqof (lw_at hts 253 (by decide +kernel)) (lw_at hts 6 (by decide +kernel)) (hfl _ (by decide +kernel)) hnA, vx_Zqof (lw_at hts 255 (by decide +kernel)) (lw_at hts 6 (by decide +kernel)) (hfl _ (by decide +kernel)) hnA⟩
  obtain ⟨ct, hct, hT9⟩ := va_Tof (A := fun q : Nat => s.heap.size ≤ q) (tm := .static "RationalOdes" "CHOICES" "[I") (ty := .int) (N := 16) (f := fun j => .int (iz (chL j))) (by decide) (hfl _ (by decide +kernel)) (va_eqt (hfl (.eq (.length (.static "RationalOdes" "CHOICES" "[I")) (.int 16)) (by decide +kernel))) (fun j hj => by
    have hj9 : j = 0 ∨ j = 1 ∨ j = 2 ∨ j = 3 ∨ j = 4 ∨ j = 5 ∨ j = 6 ∨ j = 7 ∨ j = 8 ∨ j = 9 ∨ j = 10 ∨ j = 11 ∨ j = 12 ∨ j = 13 ∨ j = 14 ∨ j = 15 := by omega
    rcases hj9 with rfl | rfl | rfl | rfl | rfl | rfl | rfl | rfl | rfl | rfl | rfl | rfl | rfl | rfl | rfl | rfl
    · exact va_eqt (hfl (.eq (.elem (.static "RationalOdes" "CHOICES" "[I") (.int 0)) (.int 1)) (by decide +kernel))
    · exact va_eqt (hfl (.eq (.elem (.static "RationalOdes" "CHOICES" "[I") (.int 1)) (.int 0)) (by decide +kernel))
    · exact va_eqt (hfl (.eq (.elem (.static "RationalOdes" "CHOICES" "[I") (.int 2)) (.int 0)) (by decide +kernel))
    · exact va_eqt (hfl (.eq (.elem (.static "RationalOdes" "CHOICES" "[I") (.int 3)) (.int 0)) (by decide +kernel))
    · exact va_eqt (hfl (.eq (.elem (.static "RationalOdes" "CHOICES" "[I") (.int 4)) (.int 1)) (by decide +kernel))
    · exact va_eqt (hfl (.eq (.elem (.static "RationalOdes" "CHOICES" "[I") (.int 5)) (.int 1)) (by decide +kernel))
    · exact va_eqt (hfl (.eq (.elem (.static "RationalOdes" "CHOICES" "[I") (.int 6)) (.int 0)) (by decide +kernel))
    · exact va_eqt (hfl (.eq (.elem (.static "RationalOdes" "CHOICES" "[I") (.int 7)) (.int 0)) (by decide +kernel))
    · exact va_eqt (hfl (.eq (.elem (.static "RationalOdes" "CHOICES" "[I") (.int 8)) (.int 1)) (by decide +kernel))
    · exact va_eqt (hfl (.eq (.elem (.static "RationalOdes" "CHOICES" "[I") (.int 9)) (.int 2)) (by decide +kernel))
    · exact va_eqt (hfl (.eq (.elem (.static "RationalOdes" "CHOICES" "[I") (.int 10)) (.int 1)) (by decide +kernel))
    · exact va_eqt (hfl (.eq (.elem (.static "RationalOdes" "CHOICES" "[I") (.int 11)) (.int 0)) (by decide +kernel))
    · exact va_eqt (hfl (.eq (.elem (.static "RationalOdes" "CHOICES" "[I") (.int 12)) (.int 1)) (by decide +kernel))
    · exact va_eqt (hfl (.eq (.elem (.static "RationalOdes" "CHOICES" "[I") (.int 13)) (.int 3)) (by decide +kernel))
    · exact va_eqt (hfl (.eq (.elem (.static "RationalOdes" "CHOICES" "[I") (.int 14)) (.int 3)) (by decide +kernel))
    · exact va_eqt (hfl (.eq (.elem (.static "RationalOdes" "CHOICES" "[I") (.int 15)) (.int 1)) (by decide +kernel))) hnA
  have hC : rz_C ct (fun q : Nat => s.heap.size ≤ q) s s.heap := ⟨va_Zof (lw_at hts 192 (by decide +kernel)) (lw_at hts 1 (by decide +kernel)) hct hnA, hT9⟩
  have hS : va_S (fun q : Nat => s.heap.size ≤ q) s.heap s.heap [] := va_S.rf
  have hP : va_P (dC, dI) vC [] s.heap := fun k q h => by simp at h
  have hD : va_D (fun q : Nat => s.heap.size ≤ q) [] := ⟨fun i j p q h => by simp at h, fun k q h => by simp at h⟩
  have hl := lv_entry ([.ref b]) (n := 7) (Nat.le_of_ble_eq_true rfl)
  rw [lg_entry_eq]
  generalize (lg_sl ([.ref b]) ++ List.replicate (7 - (lg_sl ([.ref b])).length) Slot.unset).toArray = ls at hl ⊢
  have hl : lv_has ls 7 [(0, .ref b)] := hl
  refine va_new (ci := 2) (fs := [.int (iz 0), .null, .null, .null, .null, .null, .null, .null, .int (iz 0)]) (C := R_O) (T := T_O) (N := 9) hx hb htk in_O ty_O tk_O hown (htk _ kw_14) (htk _ kw_15) (htk _ kw_1) hK hP hD hS hA rfl (fun j hj => by rcases (show j = 0 ∨ j = 1 ∨ j = 2 ∨ j = 3 ∨ j = 4 ∨ j = 5 ∨ j = 6 ∨ j = 7 ∨ j = 8 by omega) with rfl | rfl | rfl | rfl | rfl | rfl | rfl | rfl | rfl <;> rfl) (Nat.le_of_ble_eq_true rfl) (Nat.le_of_ble_eq_true rfl) d_L_law_0 (fun h H hP hD hS => ?_)
  refine lv_dup hx hb d_L_law_3 rfl ?_
  refine lv_aload_n hx hb d_L_law_4 rfl (lv_at hl 0 rfl) ?_
  refine rz_iconst hx hb d_L_law_5 ?_
  refine va_calli (va_runS (As := [.ref b, .int (iz 0)]) (rest := [.ref h, .ref h]) ⟨hx, hb, hml, hown, htk⟩ (m_L_cell l b L xs hL) (cwS 2 htk (kb_gi (kb_c kw_211 (kb_c kw_212 (kb_c kw_0 (kb_c kw_213 kb_all))))) rfl rfl rfl (by decide +kernel) ⟨Nat.le_of_ble_eq_true rfl, Nat.le_of_ble_eq_true rfl⟩) ⟨lw_cb, fun U h8 h9 => ⟨rfl, va_X.moved h9.alike (by rw [h8]; exact hX.kept (hS.2.1 b hbl hbA)), by rw [h8]; exact Nat.lt_of_lt_of_le hbl hS.1⟩⟩ rfl rfl hl.1 rfl (lv_room (Nat.le_of_ble_eq_true rfl)) d_L_law_6 ⟨Nat.le_of_ble_eq_true rfl, Nat.le_of_ble_eq_true rfl⟩) hS (fun q _ h => h.elim) (fun q h => h.elim) (fun r6 u H9 H1 locs ht9 _ hp _ hz hk hS => ?_)
  have hP := hP.kept (fun k x hx9 => hk x.1 ((hP k x hx9).lt) (fun z => z))
  subst hp
  generalize H1 = H at hP hS ⊢
  refine ri_callv (va_runI (As := [.int (iz (cz L xs))]) (rest := [.ref h]) ⟨hx, hb, hml, hown, htk⟩ (m_O_init l (dC, dI) cJ cO cI h (cz L xs) hcz.1 hcz.2 H.size) (cwI 1 htk (kb_gi (kb_c kw_18 kb_all)) rfl rfl rfl (htk _ kw_1) (htk _ kw_16) (htk _ kw_17) rfl (by decide +kernel) ⟨Nat.le_of_ble_eq_true rfl, Nat.le_of_ble_eq_true rfl⟩) ⟨ri_blind, ri_pre hP hK hN2 [0, 1, 2] rfl⟩ rfl rfl hl.1 rfl (lv_room (Nat.le_of_ble_eq_true rfl)) d_L_law_9 ⟨Nat.le_of_ble_eq_true rfl, Nat.le_of_ble_eq_true rfl⟩) hP hD hS hA (fun v H locs _ hP hD hS => ?_)
  refine lv_astore_n (lv' := [(1, .ref h), (0, .ref b)]) hx hb d_L_law_12 rfl hl (by decide) rfl (fun ls hl => ?_)
  refine va_new (ci := 3) (fs := [.int (iz 0), .int (iz 0), .null, .null, .null, .null, .int (iz 0), .null, .null, .null, .int (iz 0), .null, .null]) (C := R_M) (T := T_M) (N := 13) hx hb htk in_M ty_M tk_M hown (htk _ kw_524) (htk _ kw_525) (htk _ kw_5) hK hP hD hS hA rfl (fun j hj => by rcases (show j = 0 ∨ j = 1 ∨ j = 2 ∨ j = 3 ∨ j = 4 ∨ j = 5 ∨ j = 6 ∨ j = 7 ∨ j = 8 ∨ j = 9 ∨ j = 10 ∨ j = 11 ∨ j = 12 by omega) with rfl | rfl | rfl | rfl | rfl | rfl | rfl | rfl | rfl | rfl | rfl | rfl | rfl <;> rfl) (Nat.le_of_ble_eq_true rfl) (Nat.le_of_ble_eq_true rfl) d_L_law_13 (fun g H hP hD hS => ?_)
  refine lv_dup hx hb d_L_law_16 rfl ?_
  refine lv_aload_n hx hb d_L_law_17 rfl (lv_at hl 1 rfl) ?_
  refine rz_iconst hx hb d_L_law_18 ?_
  refine va_calli (va_runS (As := [.ref b, .int (iz 0)]) (rest := [.ref g, .ref g]) ⟨hx, hb, hml, hown, htk⟩ (m_L_cell l b L xs hL) (cwS 2 htk (kb_gi (kb_c kw_211 (kb_c kw_212 (kb_c kw_0 (kb_c kw_213 kb_all))))) rfl rfl rfl (by decide +kernel) ⟨Nat.le_of_ble_eq_true rfl, Nat.le_of_ble_eq_true rfl⟩) ⟨lw_cb, fun U h8 h9 => ⟨rfl, va_X.moved h9.alike (by rw [h8]; exact hX.kept (hS.2.1 b hbl hbA)), by rw [h8]; exact Nat.lt_of_lt_of_le hbl hS.1⟩⟩ rfl rfl hl.1 rfl (lv_room (Nat.le_of_ble_eq_true rfl)) d_L_law_19 ⟨Nat.le_of_ble_eq_true rfl, Nat.le_of_ble_eq_true rfl⟩) hS (fun q _ h => h.elim) (fun q h => h.elim) (fun r19 u H9 H1 locs ht9 _ hp _ hz hk hS => ?_)
  have hP := hP.kept (fun k x hx9 => hk x.1 ((hP k x hx9).lt) (fun z => z))
  subst hp
  generalize H1 = H at hP hS ⊢
  refine ri_callv (va_runI (As := [.int (iz (cz L xs))]) (rest := [.ref g]) ⟨hx, hb, hml, hown, htk⟩ (m_M_init l (dC, dI) cJ cO cI g (cz L xs) hcz.1 hcz.2 H.size) (cwI 1 htk (kb_gi (kb_c kw_528 kb_all)) rfl rfl rfl (htk _ kw_5) (htk _ kw_526) (htk _ kw_527) rfl (by decide +kernel) ⟨Nat.le_of_ble_eq_true rfl, Nat.le_of_ble_eq_true rfl⟩) ⟨ri_blind, ri_pre hP hK hN2 [0, 1, 2] rfl⟩ rfl rfl hl.1 rfl (lv_room (Nat.le_of_ble_eq_true rfl)) d_L_law_22 ⟨Nat.le_of_ble_eq_true rfl, Nat.le_of_ble_eq_true rfl⟩) hP hD hS hA (fun w H locs _ hP hD hS => ?_)
  refine lv_astore_n (lv' := [(2, .ref g), (1, .ref h), (0, .ref b)]) hx hb d_L_law_25 rfl hl (by decide) rfl (fun ls hl => ?_)
  refine rz_iconst hx hb d_L_law_26 ?_
  refine rw_newa hx hb (lw_at hts 55 (by decide +kernel)) hK hP hD hS hA 0 rfl 1 rfl (by decide) (Nat.le_of_ble_eq_true rfl) (Nat.le_of_ble_eq_true rfl) d_L_law_27 (fun ou H hP hD hS => ?_)
  refine lv_astore_n (lv' := [(3, .ref ou), (2, .ref g), (1, .ref h), (0, .ref b)]) hx hb d_L_law_29 rfl hl (by decide) rfl (fun ls hl => ?_)
  refine rz_iconst hx hb d_L_law_30 ?_
  refine lv_istore (lv' := [(4, .int (iz 1)), (3, .ref ou), (2, .ref g), (1, .ref h), (0, .ref b)]) hx hb d_L_law_31 hl (by decide) rfl (fun ls hl => ?_)
  have hP := rp_P (lw_perm _ _ _ _ _ _ _) hP
  have hD := rp_D (lw_perm _ _ _ _ _ _ _) hD
  have hP : va_P (dC, dI) vC (((([(ou, kl cJ 1 (fun _ => lk 0)), (h, rO (max 1 (min 3 (cz L xs))) (v.1 0) (v.1 1) (v.1 2) (v.1 3) (v.1 4) (v.1 5) (v.1 6) 0), ((v.1 0), go cO 4 (v.2 1)), ((v.1 1), go cO 4 (v.2 0)), ((v.1 2), ka cJ 13 (fun _ => 0)), ((v.1 3), ka cJ 31 (fun _ => 0)), ((v.1 4), ka cJ 5 (fun _ => 0)), ((v.1 5), rR (v.1 7) 0 (v.1 8) (v.1 9) (v.1 10) (v.1 11) (v.1 12) (v.1 13)), ((v.1 7), ka cJ 4 (fun _ => 0)), ((v.1 8), ka cJ 5 (fun _ => 0)), ((v.1 9), ka cJ 5 (fun _ => 0)), ((v.1 10), ka cJ 5 (fun _ => 0)), ((v.1 11), ka cJ 8 (fun _ => 0)), ((v.1 12), ka cJ 5 (fun _ => 0)), ((v.1 13), ka cJ 5 (fun _ => 0)), ((v.1 6), rB (v.1 14) (v.1 15) (v.1 16) 0), ((v.1 14), go cO 17 (v.2 3)), ((v.1 15), ki cI 13 (fun _ => 0)), ((v.1 16), go cO 13 (v.2 2)), (g, rM 0 (max 1 (min 3 (cz L xs))) (w 0) (w 1) (w 2) (w 3) 0 (w 4) (w 5) (w 6) 0 (w 7) (w 8)), ((w 0), k2 cJ 20 5 (fun _ _ => 0)), ((w 1), ka cJ 13 (fun _ => 0)), ((w 2), ka cJ 17 (fun _ => 0)), ((w 3), k2 cJ 20 5 (fun _ _ => 0)), ((w 4), k2 cJ 221 13 (fun _ _ => 0)), ((w 5), ki cI 13 (fun _ => 0)), ((w 6), k2 cJ 169 13 (fun _ _ => 0)), ((w 7), ka cJ 31 (fun _ => 0)), ((w 8), k2 cJ 20 5 (fun _ _ => 0))] ++ gs 4 (v.2 0) cJ 5 (fun _ _ => 0)) ++ gs 4 (v.2 1) cJ 5 (fun _ _ => 0)) ++ gs 13 (v.2 2) cJ 13 (fun _ _ => 0)) ++ gs 17 (v.2 3) cJ 13 (fun _ _ => 0)) H := hP
  have hD : va_D (fun q : Nat => s.heap.size ≤ q) (((([(ou, kl cJ 1 (fun _ => lk 0)), (h, rO (max 1 (min 3 (cz L xs))) (v.1 0) (v.1 1) (v.1 2) (v.1 3) (v.1 4) (v.1 5) (v.1 6) 0), ((v.1 0), go cO 4 (v.2 1)), ((v.1 1), go cO 4 (v.2 0)), ((v.1 2), ka cJ 13 (fun _ => 0)), ((v.1 3), ka cJ 31 (fun _ => 0)), ((v.1 4), ka cJ 5 (fun _ => 0)), ((v.1 5), rR (v.1 7) 0 (v.1 8) (v.1 9) (v.1 10) (v.1 11) (v.1 12) (v.1 13)), ((v.1 7), ka cJ 4 (fun _ => 0)), ((v.1 8), ka cJ 5 (fun _ => 0)), ((v.1 9), ka cJ 5 (fun _ => 0)), ((v.1 10), ka cJ 5 (fun _ => 0)), ((v.1 11), ka cJ 8 (fun _ => 0)), ((v.1 12), ka cJ 5 (fun _ => 0)), ((v.1 13), ka cJ 5 (fun _ => 0)), ((v.1 6), rB (v.1 14) (v.1 15) (v.1 16) 0), ((v.1 14), go cO 17 (v.2 3)), ((v.1 15), ki cI 13 (fun _ => 0)), ((v.1 16), go cO 13 (v.2 2)), (g, rM 0 (max 1 (min 3 (cz L xs))) (w 0) (w 1) (w 2) (w 3) 0 (w 4) (w 5) (w 6) 0 (w 7) (w 8)), ((w 0), k2 cJ 20 5 (fun _ _ => 0)), ((w 1), ka cJ 13 (fun _ => 0)), ((w 2), ka cJ 17 (fun _ => 0)), ((w 3), k2 cJ 20 5 (fun _ _ => 0)), ((w 4), k2 cJ 221 13 (fun _ _ => 0)), ((w 5), ki cI 13 (fun _ => 0)), ((w 6), k2 cJ 169 13 (fun _ _ => 0)), ((w 7), ka cJ 31 (fun _ => 0)), ((w 8), k2 cJ 20 5 (fun _ _ => 0))] ++ gs 4 (v.2 0) cJ 5 (fun _ _ => 0)) ++ gs 4 (v.2 1) cJ 5 (fun _ _ => 0)) ++ gs 13 (v.2 2) cJ 13 (fun _ _ => 0)) ++ gs 17 (v.2 3) cJ 13 (fun _ _ => 0)) := hD
  obtain ⟨o, ho⟩ : ∃ o : Nat, (max 1 (min 3 (cz L xs))) = (o : Int) := ⟨((max 1 (min 3 (cz L xs)))).toNat, by omega⟩
  refine W.widen (k := 100) (n := 2000) (by decide) (by decide) ?_
  exact law_loop (A := fun q : Nat => s.heap.size ≤ q) hx hb hml hown htk hK hN hst hE hC hX hbl hbA hL ho (by omega) (by omega) (fun kc ks H locs ls h1 h2 hS => by
    refine W.widen (k := 601024) (n := 7293000) h1 h2 ?_
    refine va_forget hS.2.2 ?_
    refine lv_iconst (v := 1) hx hb d_L_law_1344 (by decide) ?_
    exact lw_ret hx hb hr hlocks d_L_law_1345) 513 1 1 100 2000 (fun _ => lk 0) 0 (fun _ => 0) (fun _ => 0) (fun _ => 0) 0 (fun _ => 0) (fun _ => 0) (fun _ => 0) (fun _ => 0) (fun _ => 0) (fun _ => 0) (fun _ => 0) 0 (fun _ => 0) (fun _ _ => 0) (fun _ _ => 0) (fun _ _ => 0) (fun _ _ => 0) 0 0 0 (fun _ _ => 0) (fun _ => 0) (fun _ => 0) (fun _ _ => 0) (fun _ _ => 0) (fun _ => 0) (fun _ _ => 0) (fun _ => 0) (fun _ _ => 0) H locs ls rfl (by omega) (by omega) (by omega) (by omega) ⟨lw_i0 (by omega) _ _ _ _, rfl⟩ hP hD hS (lv_sub hl [4, 3, 2, 1, 0] rfl)

-- ===== YOUR PART ENDS =====
set_option maxHeartbeats 4000000 in
theorem lw_walk (l : Launch) (hst : l.stackTraces = false) (b : Addr) (xs : List Int32) : MetFree l x (headSpec (Jvm.Cond.code x code maxLocals ret :: tables_1) room_1) (lw_P b xs) (fun _ _ _ _ _ => True) lw_Q := by
  refine MetFree.of_bodyS (code := code) (maxLocals := maxLocals) (ret := ret) (by decide) ?_ ?_
  · intro args s m h hn
    obtain ⟨meth, c, h1, h2, h3, h4, h5, h6, -, -⟩ := Cond.code_spec hn (atoms_spec (ws := Jvm.Cond.code x code maxLocals ret :: tables_1) h _ List.mem_cons_self)
    exact ⟨meth, c, h1, h2, h3, h4, h5, h6⟩
  · intro p e s m args below meth c s₁ B hml0 hP _
    obtain ⟨rfl, hx, hbd, hgv⟩ := hP
    obtain ⟨scr, harrAt, hlist, hof, hsmall⟩ := hx
    obtain ⟨hcb, hkn, -, -⟩ := State.arrayAt?_spec harrAt
    have hown : s.vm.findClass R_law = some m.cls := findClass_of_methodNamed B.named
    have hts0 : ∀ c ∈ (Jvm.Cond.code x code maxLocals ret :: tables_1), c.before #[Value.ref b] s = true := atoms_spec (ws := Jvm.Cond.code x code maxLocals ret :: tables_1) B.pre
    have hts : ∀ w ∈ lw_tbl, w.before #[Value.ref b] s = true := k2_hts_sels lw_privs (fun w hw => hts0 w (List.mem_cons_of_mem _ hw)) lw_privs_ok
    have hml : c.maxLocals = 7 := B.maxLocals_eq (hts0 _ List.mem_cons_self)
    have X₀ : Stand p l e room_1 s m #[Value.ref b] below meth c s₁ [] 0 0 := Stand.of_body B
    have hh0 : s₁.heap = s.heap := by rw [B.state]; rfl
    have hsz : scr.slots.size = xs.length := by rw [← Array.length_toList, hlist, List.length_map]
    have hval : ∀ j : Nat, j < xs.length → scr.slots[j]? = some (.int (xs.getD j 0)) := fun j hj => by
      rw [← Array.getElem?_toList, hlist]
      simp [hj]
    have hbl : b < s.heap.size := (Array.getElem?_eq_some_iff.mp hcb).1
    have hX : va_X b xs.length (fun j => xs.getD j 0) s s.heap := ⟨scr, hcb, hof, hkn, hsz, hval⟩
    have K : W p l e room_1 s m #[Value.ref b] below meth c s₁.heap [] 0 0 (lw_Z below #[Value.ref b] s) (entryFrame m ([Value.ref b] : List Value).toArray 7) := by
      rw [hh0]
      exact whole_start l hst hbd ⟨B.exec, B.bytes, B.returns, hml, hown, hts, hX, hbl, B.notSynchronized, hgv⟩
    obtain ⟨t, a1, o, b1, b2, b3⟩ := K s₁ rfl X₀
    exact ⟨t, o, a1, b1, b2, b3⟩
theorem lw_pre_spec {args : Array Value} {s : State} (h : (Jvm.Cond.and given_1 narrow_1).before args s = true) (hr : rest_1_c.before args s = true) : ∃ (b : Addr) (xs : List Int32), lw_P b xs args s := by
  have hs := flat_of_before _ h
  have hq := flat_of_before _ hr
  have hc : (Cond.count 1).before args s = true := hs _ (by decide +kernel)
  have harr : (Cond.arrayOf (.arg 0) .int).before args s = true := hs _ (by decide +kernel)
  have hle : (Cond.le (.length (.arg 0)) (.int 5121)).before args s = true := hs _ (by decide +kernel)
  have hlen : (Cond.isInt (.length (.arg 0))).before args s = true := hq _ (by decide +kernel)
  have hall : (Cond.all (.arg 0) (.isInt (.elem (.arg 0) (.index 0)))).before args s = true := hq _ (by decide +kernel)
  obtain ⟨b, xs, hb, hx⟩ := State.ints_of_pre rfl harr hlen hall
  have hsm : xs.length < 2 ^ 31 := hx.choose_spec.2.2.2
  have hev : (Term.length (.arg 0)).eval args s none [] s = some (.int xs.length.toInt32) := hx.length_eval hb
  have hv := Cond.le_ints hev (show (Term.int 5121).eval args s none [] s = some (.int 5121) from rfl)
  have hd : xs.length.toInt32 ≤ 5121 := by
    simpa [Cond.before, Cond.holds, hv] using hle
  have hN : xs.length ≤ 5121 := (Int32.ofNat_le_ofNat hsm (by decide)).mp (show Int32.ofNat xs.length ≤ Int32.ofNat 5121 from hd)
  exact ⟨b, xs, Cond.one_arg hc (show args[0]? = some (.ref b) from hb), hx, hN, h⟩
theorem lw_comes (l : Launch) (hst : l.stackTraces = false) : Comes l x (Jvm.Cond.code x code maxLocals ret :: tables_1) room_1 (fun tb e args s => Calls_1 tb e args s ∧ rest_1 tb e args s ∧ Pre_1 tb e args s)
    (fun _ _ args s o t => lw_Q args s o t) := by
  intro p e ha hc hk s m args below hf hfit hheap happ hpre
  obtain ⟨b, xs, hP⟩ := lw_pre_spec hpre.2.2 hpre.2.1
  obtain ⟨k, o, h1, h2, h3, hQ⟩ := lw_walk l hst b xs p e ha hc hk s m args below hf ((Spec.applies_iff_loose hf).mp happ).1 hP trivial
  exact ⟨k, o, h1, h2, h3, hQ⟩
theorem lw_frame {s t : State} {o : Outcome} {args : Array Value} (h : Framed s o t [] 601024 7293000) :
    Framed s o t (fieldLocs frame_1_writes args s ++ arrayLocs frame_1_arrays args s ++ staticLocs frame_1_statics s) 601024 7293000 := h
theorem lw_limb (L : Cond) (hL : ∀ (args : Array Value) (s t : State), L.after args s (.returned (some (.int 1))) t = true) :
    ArmFor flags0 classFile x code maxLocals ret World_1 tables_1 room_1 Calls_1 rest_1 Pre_1
      (fun tb e a s o t => postC L tb e a s o t ∧ Framed s o t (fieldLocs frame_1_writes a s ++ arrayLocs frame_1_arrays a s ++ staticLocs frame_1_statics s) 601024 7293000) := by
  intro l hfl _ _ p e ha hc hk s m args below hf hfit hheap happ hpre
  obtain ⟨k, o, h1, h2, h3, rfl, hF⟩ := lw_comes l (by unfold Launch.stackTraces; rw [hfl]; decide +kernel) p e ha hc hk s m args below hf hfit hheap happ hpre
  exact ⟨k, _, h1, h2, h3, hL args s _, lw_frame hF⟩
theorem i_vc : Claimed_1_1 ∧ Claimed_1_2 := ⟨lw_limb limb_1_1 (fun args s t => by simp [limb_1_1, Cond.after, Cond.holds, Cond.value]), lw_limb limb_1_2 (fun args s t => Cond.after_iff.mpr (by
  first | (rw [show limb_1_2 = Cond.eq .result (.int 1) from rfl, Cond.eq_ints (x := 1) (y := 1) rfl rfl]; simp; done) | (simp [limb_1_2, Cond.value, Term.eval]; done)))⟩

