/-! THE LAW's OWN ROWS: methods with a table, the cell out, the script, calls that make cells -/
theorem rh_ofW {l : Launch} {y : MethodName} {ws ws' : List Cond} {rm : Room} {Pc : Array Value → State → Prop} {Qc : Array Value → State → Outcome → State → Prop} {mc ms : Nat} {free : Addr → Prop} {cc : ByteArray} {maxL : Nat} {ret : Option FieldType} {hh : List (Nat × Nat × Nat × Nat)}
    (hy : plainName y.cls = true) (hw : ws = Cond.codeWith y cc maxL ret hh :: ws')
    (body : ∀ p e s m args below meth c s₁, BodyLoose p l y (headSpec ws rm) cc maxL ret e s m args below meth c s₁ → c.maxLocals = maxL → Pc args s →
      W p l e (headSpec ws rm).room s m args below meth c s.heap [] 0 0 (MQ below Qc args s mc ms free) (entryFrame m args maxL)) : Met l y ws rm Pc Qc mc ms free := by
  refine MetFree.of_bodyS (code := cc) (maxLocals := maxL) (ret := ret) hy ?_ ?_
  · intro args s m h hn
    obtain ⟨m9, meth, c, hn9, h1, h2, h3, h4, -, h5, h6, -⟩ := Cond.codeWith_spec (atoms_spec (ws := ws) h _ (by rw [hw]; exact List.mem_cons_self))
    cases hn.symm.trans hn9
    exact ⟨meth, c, h1, h2, h3, h4, h5, h6⟩
  · intro p e s m args below meth c s₁ B hml hP _
    have hh0 : s₁.heap = s.heap := by rw [B.state]; rfl
    obtain ⟨t, a1, o, b1, b2, b3⟩ := body p e s m args below meth c s₁ B hml hP s₁ hh0 (Stand.of_body B)
    exact ⟨t, o, a1, b1, b2, b3⟩
/-- a long[] of any longs -/
abbrev kl (cJ : ClassId) (n : Nat) (V : Nat → Int64) : va_E := .inl (cJ, n, .inr (.inl V))
theorem vp_self (V : Nat → Int64) (j : Nat) (x : Int64) : vp_updL V j x j = x := by
  unfold vp_updL
  simp
section LKR
variable {p : Program} {l : Launch} {e : Env} {R : Room} {s : State} {m : MethodId} {args : Array Value} {below : List Frame} {meth : Method} {c : Code} {H : Heap} {locs : List Loc} {cells slots : Nat} {Q : State → Prop}
variable {cc : ByteArray} {pc : Nat} {ls : Array Slot} {rest st0 : List Value} {D : va_G} {cl : List vw_C} {A : Nat → Prop} {a : Nat} {tys : List (ClassId × FieldType)} {ws w wc X S Y Xc : va_W} {H0 : Heap} {aa : Array Value} {mc ms : Nat}
theorem rl_ld (hx : p.tables.exec = Jvm.exec) (hb : c.code = cc) (hK : va_K D cl tys s) (hP : va_P D cl ws H) (q0 t0 : Nat) {cJ : ClassId} {n : Nat} {V : Nat → Int64} (ha : ws[q0]? = some (a, kl cJ n V)) (ht : tys[t0]? = some (cJ, .long)) {z : Int} (j : Nat) (hdg : decode cc pc = .ok (.laload, 1))
    (kk : W p l e R s m args below meth c H locs cells slots Q (F0 m (pc + 1) ls (.long (V j) :: rest))) (hj : z = (j : Int) := by omega) (hlt : j < n := by omega) (hn : n ≤ 2147483648 := by omega) : W p l e R s m args below meth c H locs cells slots Q (F0 m pc ls (.int (iz z) :: .ref a :: rest)) := by
  refine va_lald hx hb hK hP q0 t0 ha ht (iz_in hj hlt hn) hdg ?_
  rw [iz_clamp hj (by omega)]
  exact kk
theorem rl_st (hx : p.tables.exec = Jvm.exec) (hb : c.code = cc) (hK : va_K D cl tys s) (hP : va_P D cl ws H) (hD : va_D A ws) (hS : va_S A H0 H locs) (q0 t0 : Nat) {cJ : ClassId} {n : Nat} {V : Nat → Int64} (ha : ws[q0]? = some (a, kl cJ n V)) (ht : tys[t0]? = some (cJ, .long)) {z : Int} {x : Int64} (j : Nat) (hdg : decode cc pc = .ok (.lastore, 1))
    (kk : ∀ (H1 : Heap) (locs1 : List Loc), va_P D cl (ws.set q0 (a, kl cJ n (vp_updL V j x))) H1 → va_D A (ws.set q0 (a, kl cJ n (vp_updL V j x))) → va_S A H0 H1 locs1 → W p l e R s m args below meth c H1 locs1 cells slots Q (F0 m (pc + 1) ls rest)) (hj : z = (j : Int) := by omega) (hlt : j < n := by omega) (hn : n ≤ 2147483648 := by omega) : W p l e R s m args below meth c H locs cells slots Q (F0 m pc ls (.long x :: .int (iz z) :: .ref a :: rest)) := by
  refine va_last hx hb hK hP hD hS q0 t0 ha ht (iz_in hj hlt hn) hdg (fun H1 locs1 h1 h2 h3 => ?_)
  rw [iz_clamp hj (by omega)] at h1 h2
  exact kk H1 locs1 h1 h2 h3
/-! calls that may make cells which nobody keeps -/
theorem rcM_calli {T : Type} {post : Int32 → T → Prop} {w1 : T → va_W} (hr : va_Run p l e R s m args below meth c H locs cells slots mc ms (F0 m pc ls st0) rest (va_Qi post (fun u t => va_P D cl (w1 u) t.heap) (rc_A wc) aa) (rc_A wc)) (hP : va_P D cl w H) (hD : va_D A w) (hS : va_S A H0 H locs) (is : List Nat) (hC : is.map (fun i => w[i]?) = wc.map some) (hw : ∀ u, (w1 u).map (fun q => q.1) = wc.map (fun q => q.1))
    (kk : ∀ (r : Int32) (u : T) (H1 : Heap) (locs1 : List Loc), post r u → va_P D cl (rc_set w is (w1 u)) H1 → va_D A (rc_set w is (w1 u)) → va_S A H0 H1 locs1 → W p l e R s m args below meth c H1 locs1 (cells + mc) (slots + ms) Q (F0 m (pc + 3) ls (.int r :: rest))) : W p l e R s m args below meth c H locs cells slots Q (F0 m pc ls st0) := by
  have hF := rc_in hD hC
  refine va_calli hr hS (fun q _ h => hF q h) hF (fun r u t H1 locs1 ht _ hp hB _ hk hS1 => ?_)
  rw [ht] at hB
  obtain ⟨j1, j2⟩ := rc_join hP hD hC (hw u) hk hB
  exact kk r u H1 locs1 hp j1 j2 hS1
theorem rsM_calli {T : Type} {post : Int32 → T → Prop} {X1 S1 : T → va_W} (hr : va_Run p l e R s m args below meth c H locs cells slots mc ms (F0 m pc ls st0) rest (va_Qi post (fun u t => va_P D cl (X1 u ++ S1 u) t.heap) (rc_A (Xc ++ S)) aa) (rc_A (Xc ++ S))) (hP : va_P D cl (X ++ (S ++ Y)) H) (hD : va_D A (X ++ (S ++ Y))) (hS : va_S A H0 H locs) (is : List Nat) (hC : is.map (fun i => X[i]?) = Xc.map some) (hw : ∀ u, (X1 u).map (fun q => q.1) = Xc.map (fun q => q.1)) (hs : ∀ u, (S1 u).map (fun q => q.1) = S.map (fun q => q.1))
    (kk : ∀ (r : Int32) (u : T) (H1 : Heap) (locs1 : List Loc), post r u → va_P D cl (rc_set X is (X1 u) ++ (S1 u ++ Y)) H1 → va_D A (rc_set X is (X1 u) ++ (S1 u ++ Y)) → va_S A H0 H1 locs1 → W p l e R s m args below meth c H1 locs1 (cells + mc) (slots + ms) Q (F0 m (pc + 3) ls (.int r :: rest))) : W p l e R s m args below meth c H locs cells slots Q (F0 m pc ls st0) := by
  have hF := rs_in hD hC
  refine va_calli hr hS (fun q _ h => hF q h) hF (fun r u t H1 locs1 ht _ hp hB _ hk hS1 => ?_)
  rw [ht] at hB
  obtain ⟨j1, j2⟩ := rs_join hP hD hC (hw u) (hs u) hk hB
  exact kk r u H1 locs1 hp j1 j2 hS1
/-! the script -/
def sx (xs : Nat → Int32) (j : Nat) : Int := (xs j).toInt
theorem sx_in (xs : Nat → Int32) (j : Nat) : -2147483648 ≤ sx xs j ∧ sx xs j < 2147483648 := by
  have h1 := (xs j).minValue_le_toInt
  have h2 := (xs j).toInt_lt
  unfold sx
  exact ⟨h1, h2⟩
theorem iz_sx (xs : Nat → Int32) (j : Nat) : iz (sx xs j) = xs j := by
  apply Int32.toInt.inj
  rw [iz_toInt (sx_in xs j).1 (sx_in xs j).2]
  rfl
theorem rl_sld (hx : p.tables.exec = Jvm.exec) (hb : c.code = cc) {b L : Nat} {xs : Nat → Int32} (hX : va_X b L xs s H0) (hbl : b < H0.size) (hbA : ¬ A b) (hS : va_S A H0 H locs) {z : Int} (j : Nat) (hdg : decode cc pc = .ok (.iaload, 1))
    (kk : W p l e R s m args below meth c H locs cells slots Q (F0 m (pc + 1) ls (.int (iz (sx xs j)) :: rest))) (hj : z = (j : Int) := by omega) (hlt : j < L := by omega) (hn : L ≤ 2147483648 := by omega) : W p l e R s m args below meth c H locs cells slots Q (F0 m pc ls (.int (iz z) :: .ref b :: rest)) := by
  refine va_sld hx hb hX hbl hbA hS (iz_in hj hlt hn) hdg ?_
  rw [iz_clamp hj (by omega), ← iz_sx xs j]
  exact kk
theorem rl_slen (hx : p.tables.exec = Jvm.exec) (hb : c.code = cc) {b L : Nat} {xs : Nat → Int32} (hX : va_X b L xs s H0) (hbl : b < H0.size) (hbA : ¬ A b) (hS : va_S A H0 H locs) (hdg : decode cc pc = .ok (.arraylength, 1))
    (kk : W p l e R s m args below meth c H locs cells slots Q (F0 m (pc + 1) ls (.int (iz (L : Int)) :: rest))) : W p l e R s m args below meth c H locs cells slots Q (F0 m pc ls (.ref b :: rest)) := by
  refine va_slen hx hb hX hbl hbA hS hdg ?_
  have e9 : Int32.ofNat L = iz (L : Int) := iz_ofNat L
  rw [e9]
  exact kk
/-- a long out of two ints -/
abbrev lwd (a b : Int) : Int64 := ((iz a).toInt64 <<< ((iz 32).toInt64 &&& 63)) ||| ((iz b).toInt64 &&& 4294967295)
/-- x != 0, as javac lays it -/
theorem rb_bool (hx : p.tables.exec = Jvm.exec) (hb : c.code = cc) {z off off2 : Int} {t1 t2 : Nat} (d0 : decode cc pc = .ok (.ifCond .eq off, 3)) (h1 : (pc : Int) + off = (t1 : Int)) (d1 : decode cc (pc + 3) = .ok (.iconst 1, 1)) (d2 : decode cc (pc + 4) = .ok (.goto off2, 3)) (h2 : ((pc + 4 : Nat) : Int) + off2 = (t2 : Int)) (d3 : decode cc t1 = .ok (.iconst 0, 1)) (h3 : t1 + 1 = t2) (hz : -2147483648 ≤ z ∧ z < 2147483648)
    (kk : W p l e R s m args below meth c H locs cells slots Q (F0 m t2 ls (.int (iz (if z = 0 then 0 else 1)) :: rest))) : W p l e R s m args below meth c H locs cells slots Q (F0 m pc ls (.int (iz z) :: rest)) := by
  refine rz_if_eq (tgt := t1) hx hb d0 h1 (fun hc => ?_) (fun hc => ?_) hz
  · refine rz_iconst hx hb d3 ?_
    rw [if_pos hc] at kk
    rw [h3]
    exact kk
  · refine rz_iconst hx hb d1 ?_
    refine lv_goto (tgt := t2) hx hb d2 h2 ?_
    rw [if_neg hc] at kk
    exact kk
end LKR
/-! worlds in another order -/
theorem rp_P {D : va_G} {cl : List vw_C} {w w' : va_W} {H : Heap} (hp : w.Perm w') (h : va_P D cl w H) : va_P D cl w' H := by
  intro k q hk
  have hm : q ∈ w := hp.mem_iff.mpr (List.mem_of_getElem? hk)
  obtain ⟨i, hi⟩ := List.getElem?_of_mem hm
  exact h i q hi
theorem rp_nd {w : va_W} : (∀ (i j : Nat) (p q : Nat × va_E), w[i]? = some p → w[j]? = some q → p.1 = q.1 → i = j) ↔ (w.map (fun q => q.1)).Nodup := by
  unfold List.Nodup
  rw [List.pairwise_iff_getElem]
  constructor
  · intro h i j hi hj hij e9
    rw [List.length_map] at hi hj
    rw [List.getElem_map, List.getElem_map] at e9
    have := h i j _ _ (List.getElem?_eq_getElem hi) (List.getElem?_eq_getElem hj) e9
    omega
  · intro h i j p q hi hj e9
    obtain ⟨li, ei⟩ := List.getElem?_eq_some_iff.mp hi
    obtain ⟨lj, ej⟩ := List.getElem?_eq_some_iff.mp hj
    by_cases q1 : i = j
    · exact q1
    · rcases Nat.lt_or_gt_of_ne q1 with z | z
      · exact absurd (by rw [List.getElem_map, List.getElem_map, ei, ej]; exact e9) (h i j (by rw [List.length_map]; exact li) (by rw [List.length_map]; exact lj) z)
      · exact absurd (by rw [List.getElem_map, List.getElem_map, ei, ej]; exact e9.symm) (h j i (by rw [List.length_map]; exact lj) (by rw [List.length_map]; exact li) z)
theorem rp_D {A : Nat → Prop} {w w' : va_W} (hp : w.Perm w') (h : va_D A w) : va_D A w' := by
  refine ⟨rp_nd.mpr ((hp.map _).nodup_iff.mp (rp_nd.mp h.1)), fun k q hk => ?_⟩
  have hm : q ∈ w := hp.mem_iff.mpr (List.mem_of_getElem? hk)
  obtain ⟨i, hi⟩ := List.getElem?_of_mem hm
  exact h.2 i q hi
