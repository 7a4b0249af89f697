/-! CALLS over one row of a stretch -/
theorem rc_set_app {is : List Nat} : ∀ {cs X : va_W} (Z : va_W), (∀ i ∈ is, i < X.length) → rc_set (X ++ Z) is cs = rc_set X is cs ++ Z := by
  induction is with
  | nil => intro cs X Z _; cases cs <;> rfl
  | cons i is ih =>
    intro cs X Z h
    cases cs with
    | nil => rfl
    | cons c cs =>
      show rc_set ((X ++ Z).set i c) is cs = rc_set (X.set i c) is cs ++ Z
      rw [List.set_append_left _ _ (h i List.mem_cons_self)]
      exact ih Z (fun j hj => by rw [List.length_set]; exact h j (List.mem_cons_of_mem _ hj))
theorem rr_lt {is : List Nat} {X wo : va_W} (hC : is.map (fun i => X[i]?) = wo.map some) : ∀ i ∈ is, i < X.length := by
  intro i hi
  have h1 : X[i]? ∈ wo.map some := by rw [← hC]; exact List.mem_map.mpr ⟨i, hi, rfl⟩
  obtain ⟨q, -, h2⟩ := List.mem_map.mp h1
  exact (List.getElem?_eq_some_iff.mp h2.symm).1
theorem rr_get {X Y : va_W} {n : Nat} {ad : Nat → Nat} {cJ : ClassId} {len : Nat} {M : Nat → Nat → ro_K} {i : Nat} (hi : i < n) : (X ++ (gs n ad cJ len M ++ Y))[X.length + i]? = some (ad i, ka cJ len (M i)) := by
  rw [← List.append_assoc]
  exact gs_getT hi
theorem rr_C {is : List Nat} {X Y wo : va_W} {n : Nat} {ad : Nat → Nat} {cJ : ClassId} {len : Nat} {M : Nat → Nat → ro_K} {i : Nat} (hi : i < n) (hC : is.map (fun i => X[i]?) = wo.map some) : ((X.length + i) :: is).map (fun k => (X ++ (gs n ad cJ len M ++ Y))[k]?) = ((ad i, ka cJ len (M i)) :: wo).map some := by
  rw [List.map_cons, List.map_cons, rr_get hi, ← hC]
  congr 1
  apply List.map_congr_left
  intro k hk
  exact List.getElem?_append_left (rr_lt hC k hk)
theorem rr_nd {is : List Nat} {X wo : va_W} (i : Nat) (hC : is.map (fun i => X[i]?) = wo.map some) (hn : va_nd is = true) : va_nd ((X.length + i) :: is) = true := by
  show (decide (X.length + i ∉ is) && va_nd is) = true
  rw [hn, Bool.and_true, decide_eq_true_eq]
  intro h
  have := rr_lt hC _ h
  omega
theorem rr_set {is : List Nat} {X Y wo cs : va_W} {n : Nat} {ad : Nat → Nat} {cJ : ClassId} {len : Nat} {M : Nat → Nat → ro_K} {i : Nat} (hi : i < n) (hC : is.map (fun i => X[i]?) = wo.map some) (F : Nat → ro_K) : rc_set (X ++ (gs n ad cJ len M ++ Y)) ((X.length + i) :: is) ((ad i, ka cJ len F) :: cs) = rc_set X is cs ++ (gs n ad cJ len (va_up M i F) ++ Y) := by
  show rc_set ((X ++ (gs n ad cJ len M ++ Y)).set (X.length + i) (ad i, ka cJ len F)) is cs = _
  rw [← List.append_assoc, gs_setT hi F (va_up M i F) (va_up_self M i F) (fun a h => va_up_ne M F h), List.append_assoc]
  exact rc_set_app _ (rr_lt hC)
section RRC
variable {p : Program} {l : Launch} {e : Env} {R : Room} {s : State} {m : MethodId} {args : Array Value} {below : List Frame} {meth : Method} {c : Code} {H : Heap} {locs : List Loc} {cells slots : Nat} {Q : State → Prop}
variable {pc : Nat} {ls : Array Slot} {rest st0 : List Value} {a : Array Value} {A : Nat → Prop} {H0 : Heap} {D : va_G} {cl : List vw_C} {X Y wo : va_W} {n : Nat} {ad : Nat → Nat} {cJ : ClassId} {len : Nat} {M : Nat → Nat → ro_K} {i : Nat}
theorem rr_pre {tys tysC : List (ClassId × FieldType)} {av : List Value} (hP : va_P D cl (X ++ (gs n ad cJ len M ++ Y)) H) (hD : va_D A (X ++ (gs n ad cJ len M ++ Y))) (hK : va_K D cl tys s) (hN : rc_N s) (hi : i < n) (is : List Nat) (hC : is.map (fun i => X[i]?) = wo.map some) (hn : va_nd is = true) (it : List Nat) (hT : it.filterMap (fun i => tys[i]?) = tysC) :
    ∀ U : State, U.heap = H → s.WarmedH U.vm → rc_Pc D cl tysC av ((ad i, ka cJ len (M i)) :: wo) av.toArray U := rc_pre hP hD hK hN _ (rr_C hi hC) (rr_nd i hC hn) it hT
theorem rr_calll {T : Type} {post : Int64 → T → Prop} {F1 : T → Nat → ro_K} {w1 : T → va_W} (hr : va_Run p l e R s m args below meth c H locs cells slots 0 0 (F0 m pc ls st0) rest (va_Ql post (fun u t => va_P D cl ((ad i, ka cJ len (F1 u)) :: w1 u) t.heap) (rc_A ((ad i, ka cJ len (M i)) :: wo)) a) (rc_A ((ad i, ka cJ len (M i)) :: wo))) (hP : va_P D cl (X ++ (gs n ad cJ len M ++ Y)) H) (hD : va_D A (X ++ (gs n ad cJ len M ++ Y))) (hS : va_S A H0 H locs) (hi : i < n) (is : List Nat) (hC : is.map (fun i => X[i]?) = wo.map some) (hw : ∀ u, (w1 u).map (fun q => q.1) = wo.map (fun q => q.1))
    (kk : ∀ (r : Int64) (u : T) (H1 : Heap) (locs1 : List Loc), post r u → va_P D cl (rc_set X is (w1 u) ++ (gs n ad cJ len (va_up M i (F1 u)) ++ Y)) H1 → va_D A (rc_set X is (w1 u) ++ (gs n ad cJ len (va_up M i (F1 u)) ++ Y)) → va_S A H0 H1 locs1 → W p l e R s m args below meth c H1 locs1 cells slots Q (F0 m (pc + 3) ls (.long r :: rest))) : W p l e R s m args below meth c H locs cells slots Q (F0 m pc ls st0) := by
  refine rc_calll hr hP hD hS _ (rr_C hi hC) (fun u => by rw [List.map_cons, List.map_cons, hw u]) (fun r u H1 locs1 h1 h2 h3 h4 => ?_)
  rw [rr_set hi hC] at h2 h3
  exact kk r u H1 locs1 h1 h2 h3 h4
theorem rr_calli {T : Type} {post : Int32 → T → Prop} {F1 : T → Nat → ro_K} {w1 : T → va_W} (hr : va_Run p l e R s m args below meth c H locs cells slots 0 0 (F0 m pc ls st0) rest (va_Qi post (fun u t => va_P D cl ((ad i, ka cJ len (F1 u)) :: w1 u) t.heap) (rc_A ((ad i, ka cJ len (M i)) :: wo)) a) (rc_A ((ad i, ka cJ len (M i)) :: wo))) (hP : va_P D cl (X ++ (gs n ad cJ len M ++ Y)) H) (hD : va_D A (X ++ (gs n ad cJ len M ++ Y))) (hS : va_S A H0 H locs) (hi : i < n) (is : List Nat) (hC : is.map (fun i => X[i]?) = wo.map some) (hw : ∀ u, (w1 u).map (fun q => q.1) = wo.map (fun q => q.1))
    (kk : ∀ (r : Int32) (u : T) (H1 : Heap) (locs1 : List Loc), post r u → va_P D cl (rc_set X is (w1 u) ++ (gs n ad cJ len (va_up M i (F1 u)) ++ Y)) H1 → va_D A (rc_set X is (w1 u) ++ (gs n ad cJ len (va_up M i (F1 u)) ++ Y)) → va_S A H0 H1 locs1 → W p l e R s m args below meth c H1 locs1 cells slots Q (F0 m (pc + 3) ls (.int r :: rest))) : W p l e R s m args below meth c H locs cells slots Q (F0 m pc ls st0) := by
  refine rc_calli hr hP hD hS _ (rr_C hi hC) (fun u => by rw [List.map_cons, List.map_cons, hw u]) (fun r u H1 locs1 h1 h2 h3 h4 => ?_)
  rw [rr_set hi hC] at h2 h3
  exact kk r u H1 locs1 h1 h2 h3 h4
theorem rr_callv {T : Type} {post : T → Prop} {F1 : T → Nat → ro_K} {w1 : T → va_W} (hr : va_Run p l e R s m args below meth c H locs cells slots 0 0 (F0 m pc ls st0) rest (va_Qv post (fun u t => va_P D cl ((ad i, ka cJ len (F1 u)) :: w1 u) t.heap) (rc_A ((ad i, ka cJ len (M i)) :: wo)) a) (rc_A ((ad i, ka cJ len (M i)) :: wo))) (hP : va_P D cl (X ++ (gs n ad cJ len M ++ Y)) H) (hD : va_D A (X ++ (gs n ad cJ len M ++ Y))) (hS : va_S A H0 H locs) (hi : i < n) (is : List Nat) (hC : is.map (fun i => X[i]?) = wo.map some) (hw : ∀ u, (w1 u).map (fun q => q.1) = wo.map (fun q => q.1))
    (kk : ∀ (u : T) (H1 : Heap) (locs1 : List Loc), post u → va_P D cl (rc_set X is (w1 u) ++ (gs n ad cJ len (va_up M i (F1 u)) ++ Y)) H1 → va_D A (rc_set X is (w1 u) ++ (gs n ad cJ len (va_up M i (F1 u)) ++ Y)) → va_S A H0 H1 locs1 → W p l e R s m args below meth c H1 locs1 cells slots Q (F0 m (pc + 3) ls (rest))) : W p l e R s m args below meth c H locs cells slots Q (F0 m pc ls st0) := by
  refine rc_callv hr hP hD hS _ (rr_C hi hC) (fun u => by rw [List.map_cons, List.map_cons, hw u]) (fun u H1 locs1 h1 h2 h3 h4 => ?_)
  rw [rr_set hi hC] at h2 h3
  exact kk u H1 locs1 h1 h2 h3 h4
theorem rs_c2 (X S Y1 Y2 : va_W) : (((X ++ S) ++ Y1) ++ Y2) = (X ++ S) ++ (Y1 ++ Y2) := by simp only [List.append_assoc]
theorem rg_ldT2 {tys : List (ClassId × FieldType)} {cc : ByteArray} {Y1 Y2 : va_W} (hx : p.tables.exec = Jvm.exec) (hb : c.code = cc) (hK : va_K D cl tys s) (hP : va_P D cl (((X ++ gs n ad cJ len M) ++ Y1) ++ Y2) H) (t0 : Nat) (ht : tys[t0]? = some (cJ, .long)) {z : Int} (i j : Nat) (hdg : decode cc pc = .ok (.laload, 1)) (kk : W p l e R s m args below meth c H locs cells slots Q (F0 m (pc + 1) ls (.long (lk (M i j)) :: rest))) (hi : i < n := by omega) (hj : z = (j : Int) := by omega) (hlt : j < len := by omega) (hn : len ≤ 2147483648 := by omega) : W p l e R s m args below meth c H locs cells slots Q (F0 m pc ls (.int (iz z) :: .ref (ad i) :: rest)) :=
  rg_ldT hx hb hK (by rw [← rs_c2]; exact hP) t0 ht i j hdg kk hi hj hlt hn
theorem rg_stT2 {tys : List (ClassId × FieldType)} {cc : ByteArray} {Y1 Y2 : va_W} (hx : p.tables.exec = Jvm.exec) (hb : c.code = cc) (hK : va_K D cl tys s) (hP : va_P D cl (((X ++ gs n ad cJ len M) ++ Y1) ++ Y2) H) (hD : va_D A (((X ++ gs n ad cJ len M) ++ Y1) ++ Y2)) (hS : va_S A H0 H locs) (t0 : Nat) (ht : tys[t0]? = some (cJ, .long)) {z : Int} {x : ro_K} (i j : Nat) (hdg : decode cc pc = .ok (.lastore, 1)) (kk : ∀ (H1 : Heap) (locs1 : List Loc), va_P D cl (((X ++ gs n ad cJ len (up2 M i j x)) ++ Y1) ++ Y2) H1 → va_D A (((X ++ gs n ad cJ len (up2 M i j x)) ++ Y1) ++ Y2) → va_S A H0 H1 locs1 → W p l e R s m args below meth c H1 locs1 cells slots Q (F0 m (pc + 1) ls rest)) (hi : i < n := by omega) (hj : z = (j : Int) := by omega) (hlt : j < len := by omega) (hn : len ≤ 2147483648 := by omega) : W p l e R s m args below meth c H locs cells slots Q (F0 m pc ls (.long (lk x) :: .int (iz z) :: .ref (ad i) :: rest)) :=
  rg_stT hx hb hK (by rw [← rs_c2]; exact hP) (by rw [← rs_c2]; exact hD) hS t0 ht i j hdg (fun H1 locs1 h1 h2 h3 => kk H1 locs1 (by rw [rs_c2]; exact h1) (by rw [rs_c2]; exact h2) h3) hi hj hlt hn
theorem rs_c3 (X S Y1 Y2 Y3 : va_W) : ((((X ++ S) ++ Y1) ++ Y2) ++ Y3) = (X ++ S) ++ (Y1 ++ (Y2 ++ Y3)) := by simp only [List.append_assoc]
theorem rg_ldT3 {tys : List (ClassId × FieldType)} {cc : ByteArray} {Y1 Y2 Y3 : va_W} (hx : p.tables.exec = Jvm.exec) (hb : c.code = cc) (hK : va_K D cl tys s) (hP : va_P D cl ((((X ++ gs n ad cJ len M) ++ Y1) ++ Y2) ++ Y3) H) (t0 : Nat) (ht : tys[t0]? = some (cJ, .long)) {z : Int} (i j : Nat) (hdg : decode cc pc = .ok (.laload, 1)) (kk : W p l e R s m args below meth c H locs cells slots Q (F0 m (pc + 1) ls (.long (lk (M i j)) :: rest))) (hi : i < n := by omega) (hj : z = (j : Int) := by omega) (hlt : j < len := by omega) (hn : len ≤ 2147483648 := by omega) : W p l e R s m args below meth c H locs cells slots Q (F0 m pc ls (.int (iz z) :: .ref (ad i) :: rest)) :=
  rg_ldT hx hb hK (by rw [← rs_c3]; exact hP) t0 ht i j hdg kk hi hj hlt hn
theorem rg_stT3 {tys : List (ClassId × FieldType)} {cc : ByteArray} {Y1 Y2 Y3 : va_W} (hx : p.tables.exec = Jvm.exec) (hb : c.code = cc) (hK : va_K D cl tys s) (hP : va_P D cl ((((X ++ gs n ad cJ len M) ++ Y1) ++ Y2) ++ Y3) H) (hD : va_D A ((((X ++ gs n ad cJ len M) ++ Y1) ++ Y2) ++ Y3)) (hS : va_S A H0 H locs) (t0 : Nat) (ht : tys[t0]? = some (cJ, .long)) {z : Int} {x : ro_K} (i j : Nat) (hdg : decode cc pc = .ok (.lastore, 1)) (kk : ∀ (H1 : Heap) (locs1 : List Loc), va_P D cl ((((X ++ gs n ad cJ len (up2 M i j x)) ++ Y1) ++ Y2) ++ Y3) H1 → va_D A ((((X ++ gs n ad cJ len (up2 M i j x)) ++ Y1) ++ Y2) ++ Y3) → va_S A H0 H1 locs1 → W p l e R s m args below meth c H1 locs1 cells slots Q (F0 m (pc + 1) ls rest)) (hi : i < n := by omega) (hj : z = (j : Int) := by omega) (hlt : j < len := by omega) (hn : len ≤ 2147483648 := by omega) : W p l e R s m args below meth c H locs cells slots Q (F0 m pc ls (.long (lk x) :: .int (iz z) :: .ref (ad i) :: rest)) :=
  rg_stT hx hb hK (by rw [← rs_c3]; exact hP) (by rw [← rs_c3]; exact hD) hS t0 ht i j hdg (fun H1 locs1 h1 h2 h3 => kk H1 locs1 (by rw [rs_c3]; exact h1) (by rw [rs_c3]; exact h2) h3) hi hj hlt hn
/-- a row is copied over a row of another stretch; S1 the source, S2 behind it -/
theorem rs_nilR {X S : va_W} {H : Heap} (h : va_P D cl (X ++ (S ++ [])) H) : va_P D cl (X ++ S) H := by rw [List.append_nil] at h; exact h
theorem rs_nilRD {X S : va_W} (h : va_D A (X ++ (S ++ []))) : va_D A (X ++ S) := by rw [List.append_nil] at h; exact h
end RRC
