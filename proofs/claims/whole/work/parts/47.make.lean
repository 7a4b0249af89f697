/-! MAKING CELLS: new arrays, arrays of arrays, constructors -/
def ri_N (U : State) : Prop := va_Nw (.methodLinkNest R_O 29 y_R_init R_O) U ∧ va_Nw (.methodLinkNest R_O 36 y_B_init R_O) U ∧ va_Nw (.arrayOver (.array .long)) U
theorem ri_N.moved {s U : State} (hW : s.WarmedH U.vm) (h : ri_N s) : ri_N U := ⟨va_Nw.warmM hW h.1, va_Nw.warmM hW h.2.1, Jvm.Stand.arrayOver_alikeB hW.alike h.2.2⟩
theorem ri_N.same {s U : State} (hW : s.vm = U.vm) (h : ri_N s) : ri_N U := ⟨va_Nw.same rfl hW h.1, va_Nw.same rfl hW h.2.1, Jvm.Stand.arrayOver_alikeB (by rw [hW]; exact Vm.Alike.refl U.vm) h.2.2⟩
def ri_Pc (D : va_G) (cl : List vw_C) (tys : List (ClassId × FieldType)) (av : List Value) (w : va_W) (sz : Nat) : Array Value → State → Prop := va_Pc av (fun U => U.heap.size = sz ∧ va_P D cl w U.heap ∧ va_K D cl tys U ∧ va_D (fun _ => True) w ∧ ri_N U)
theorem ri_blind {D : va_G} {cl : List vw_C} {tys : List (ClassId × FieldType)} {av : List Value} {w : va_W} {sz : Nat} : FrameBlind (ri_Pc D cl tys av w sz) := by
  intro a U g mk q
  obtain ⟨q0, qz, qP, qK, qD, qN⟩ := q
  exact ⟨q0, qz, qP, va_K.moved (u := U) (U := U.calling g mk a) (Vm.Alike.refl U.vm) qK, qD, ri_N.same rfl qN⟩
theorem ri_arr {c : ClassId} {n : Nat} {f g : Nat → Value} (h : ∀ j, j < n → f j = g j) : arrV c n f = arrV c n g := by
  have e : (fun j : Fin n => f j.val) = (fun j => g j.val) := funext fun j => h j.val j.isLt
  unfold arrV
  rw [e]
theorem ri_mem {D : va_G} {cl : List vw_C} {w : va_W} {H : Heap} : va_P D cl w H ↔ ∀ q ∈ w, va_at D cl q H := by
  constructor
  · intro h q hq
    obtain ⟨k, hk⟩ := List.getElem?_of_mem hq
    exact h k q hk
  · intro h k q hk
    exact h q (List.mem_of_getElem? hk)
section RI
variable {p : Program} {l : Launch} {e : Env} {R : Room} {s : State} {m : MethodId} {args : Array Value} {below : List Frame} {meth : Method} {c : Code} {H : Heap} {locs : List Loc} {cells slots : Nat} {Q : State → Prop}
variable {cc : ByteArray} {pc : Nat} {ls : Array Slot} {rest : List Value} {D : va_G} {cl : List vw_C} {A : Nat → Prop} {a : Nat} {tys : List (ClassId × FieldType)} {ws : va_W} {H0 : Heap}
theorem rw_newa (hx : p.tables.exec = Jvm.exec) (hb : c.code = cc) (harr : (Cond.arrayClass .long).before args s = true) (hK : va_K D cl tys s) (hP : va_P D cl ws H) (hD : va_D A ws) (hS : va_S A H0 H locs) (hA : ∀ q, H0.size ≤ q → A q) (t0 : Nat) {cJ : ClassId} (ht : tys[t0]? = some (cJ, .long)) (N : Nat) {z : Int} (hz : z = (N : Int)) (hN : N ≤ 1000) (hcells : cells + 1 ≤ R.cells) (hslots : slots + N ≤ R.slots) (hdg : decode cc pc = .ok (.newarray .long, 2))
    (kk : ∀ (q : Nat) (H1 : Heap), va_P D cl (ws ++ [(q, ka cJ N (fun _ => 0))]) H1 → va_D A (ws ++ [(q, ka cJ N (fun _ => 0))]) → va_S A H0 H1 locs → W p l e R s m args below meth c H1 locs (cells + 1) (slots + N) Q (F0 m (pc + 2) ls (.ref q :: rest))) : W p l e R s m args below meth c H locs cells slots Q (F0 m pc ls (.int (iz z) :: rest)) := by
  refine va_newa (atype := .long) (ty := .long) (a0 := (N, .inr (.inl (fun _ => lk 0)))) hx hb harr rfl hK hP hD hS hA (fun cA => rfl) (by rw [iz_0, iz_lt ⟨by omega, by omega⟩ ⟨by decide, by decide⟩]; omega) (iz_clamp hz (by omega)) (by show N * 8 ≤ _; omega) hcells hslots hdg (fun q cA H1 hK1 h1 h2 h3 => ?_)
  have e1 := va_nm_long (hK1.2 tys.length (cA, .long) (by simp)).2
  have e2 := va_nm_long (hK.2 t0 _ ht).2
  cases Option.some.inj (e1.symm.trans e2)
  exact kk q H1 h1 h2 h3
theorem rw_newi (hx : p.tables.exec = Jvm.exec) (hb : c.code = cc) (harr : (Cond.arrayClass .int).before args s = true) (hK : va_K D cl tys s) (hP : va_P D cl ws H) (hD : va_D A ws) (hS : va_S A H0 H locs) (hA : ∀ q, H0.size ≤ q → A q) (t0 : Nat) {cI : ClassId} (ht : tys[t0]? = some (cI, .int)) (N : Nat) {z : Int} (hz : z = (N : Int)) (hN : N ≤ 1000) (hcells : cells + 1 ≤ R.cells) (hslots : slots + N ≤ R.slots) (hdg : decode cc pc = .ok (.newarray .int, 2))
    (kk : ∀ (q : Nat) (H1 : Heap), va_P D cl (ws ++ [(q, ki cI N (fun _ => 0))]) H1 → va_D A (ws ++ [(q, ki cI N (fun _ => 0))]) → va_S A H0 H1 locs → W p l e R s m args below meth c H1 locs (cells + 1) (slots + N) Q (F0 m (pc + 2) ls (.ref q :: rest))) : W p l e R s m args below meth c H locs cells slots Q (F0 m pc ls (.int (iz z) :: rest)) := by
  refine va_newa (atype := .int) (ty := .int) (a0 := (N, .inl (fun _ => iz 0))) hx hb harr rfl hK hP hD hS hA (fun cA => rfl) (by rw [iz_0, iz_lt ⟨by omega, by omega⟩ ⟨by decide, by decide⟩]; omega) (iz_clamp hz (by omega)) (by show N * 4 ≤ _; omega) hcells hslots hdg (fun q cA H1 hK1 h1 h2 h3 => ?_)
  have e1 := va_nm_int (hK1.2 tys.length (cA, .int) (by simp)).2
  have e2 := va_nm_int (hK.2 t0 _ ht).2
  cases Option.some.inj (e1.symm.trans e2)
  exact kk q H1 h1 h2 h3
theorem ri_outer {D : va_G} {cl : List vw_C} {H : Heap} {X Y : va_W} {q N : Nat} {cO : ClassId} {r : Nat → Nat} (h : va_P D cl ((X ++ [(q, .inl (cO, N, .inr (.inr (.inr (.inr (fun i => if i < N then some (r i) else none))))))]) ++ Y) H) : va_P D cl ((X ++ [(q, go cO N r)]) ++ Y) H := by
  rw [ri_mem] at h ⊢
  intro x hx
  simp only [List.mem_append, List.mem_singleton] at hx
  rcases hx with (hx | hx) | hx
  · exact h x (by simp only [List.mem_append]; exact Or.inl (Or.inl hx))
  · subst hx
    have h1 := h (q, .inl (cO, N, .inr (.inr (.inr (.inr (fun i => if i < N then some (r i) else none)))))) (by simp)
    show H[q]? = some (vp_cell cO (N, .inr (.inr (.inr (.inr (fun i => some (r i)))))))
    have h2 : H[q]? = some (vp_cell cO (N, .inr (.inr (.inr (.inr (fun i => if i < N then some (r i) else none)))))) := h1
    rw [h2, vp_cell_q, vp_cell_q]
    congr 1
    apply ri_arr
    intro j hj
    rw [if_pos hj]
  · exact h x (by simp only [List.mem_append]; exact Or.inr hx)
theorem ri_rows {N : Nat} {r : Nat → Nat} {cJ : ClassId} {K : Nat} (f : Nat → va_E) : va_pl ([] ++ (List.range N).map r) (vr_up f ((List.range N).map r) (.inl (cJ, (K, .inr (.inl (fun _ => lk 0)))))) = gs N r cJ K (fun _ _ => 0) := by
  unfold va_pl gs
  rw [List.nil_append, List.map_map]
  apply List.map_congr_left
  intro i hi
  show (r i, vr_up f _ _ (r i)) = _
  rw [vr_up_in (List.mem_map.mpr ⟨i, hi, rfl⟩)]
theorem rw_mna (hx : p.tables.exec = Jvm.exec) (hb : c.code = cc) {own : String} {index : Nat} (hown : s.vm.findClass own = some m.cls) (hclink : (Cond.classLink own index "[[J").before args s = true) (hov : ri_N s) (harr : (Cond.arrayClass .long).before args s = true) (hK : va_K D cl tys s) (hP : va_P D cl ws H) (hD : va_D A ws) (hS : va_S A H0 H locs) (hA : ∀ q, H0.size ≤ q → A q) (t0 t1 : Nat) {cJ cO : ClassId} (ht : tys[t0]? = some (cJ, .long)) (ht1 : tys[t1]? = some (cO, .array .long)) (N K : Nat) {z y : Int} (hz : z = (N : Int)) (hy : y = (K : Int)) (hN : N ≤ 1000) (hKn : K ≤ 1000) (hcells : cells + (1 + N) ≤ R.cells) (hslots : slots + (N + N * K) ≤ R.slots) (hdg : decode cc pc = .ok (.multianewarray index 2, 4))
    (kk : ∀ (q : Nat) (r : Nat → Nat) (H1 : Heap), va_P D cl ((ws ++ [(q, go cO N r)]) ++ gs N r cJ K (fun _ _ => 0)) H1 → va_D A ((ws ++ [(q, go cO N r)]) ++ gs N r cJ K (fun _ _ => 0)) → va_S A H0 H1 locs → W p l e R s m args below meth c H1 locs (cells + 1 + N) (slots + N + N * K) Q (F0 m (pc + 4) ls (.ref q :: rest))) : W p l e R s m args below meth c H locs cells slots Q (F0 m pc ls (.int (iz y) :: .int (iz z) :: rest)) := by
  have e2 := va_nm_long (hK.2 t0 _ ht).2
  have en : ("[" ++ (FieldType.array .long).toString) = "[[J" := by decide +kernel
  have en1 : (FieldType.array .long).toString = "[J" := by decide +kernel
  refine va_mna (X := ws) (L := []) (f := fun _ => .inr (0, [])) (ty := .long) (cy := cJ) (z := (K, .inr (.inl (fun _ => lk 0)))) hx hb hown (by rw [en]; exact hclink) (Jvm.Stand.arrayOver_alikeB (Vm.Alike.refl s.vm) hov.2.2) harr (by rw [en1]; exact e2) hK (by show va_P D cl (ws ++ []) H; rw [List.append_nil]; exact hP) (by show va_D A (ws ++ []); rw [List.append_nil]; exact hD) hS hA (by rw [iz_0, iz_lt ⟨by omega, by omega⟩ ⟨by decide, by decide⟩]; omega) (by rw [iz_0, iz_lt ⟨by omega, by omega⟩ ⟨by decide, by decide⟩]; omega) (iz_clamp hz (by omega)) (iz_clamp hy (by omega)) (by omega) (by show K * 8 ≤ _; omega) (by omega) rfl rfl hcells hslots (fun c => arrV_new c K _) hdg (fun q r cA H1 _ _ hK1 h1 h2 h3 => ?_)
  have e3 : s.vm.findClass ("[" ++ (FieldType.array .long).toString) = some cA := (hK1.2 tys.length (cA, .array .long) (by simp)).2
  have e4 : s.vm.findClass ("[" ++ (FieldType.array .long).toString) = some cO := (hK.2 t1 _ ht1).2
  cases Option.some.inj (e3.symm.trans e4)
  rw [ri_rows] at h1 h2
  refine kk q r H1 (ri_outer h1) (rs_D h2 ?_) h3
  rw [List.map_append, List.map_append, List.map_append, List.map_append]
  rfl
theorem ri_join {A0 : Nat → Prop} {Y w1 : va_W} {a0 : Nat} {e0 : va_E} {H1 : Heap} (hP : va_P D cl (Y ++ [(a0, e0)]) H) (hD : va_D A0 (Y ++ [(a0, e0)])) (hA : ∀ q, H.size ≤ q → A0 q) (hk : ∀ q : Nat, q < H.size → ¬ va_A [(a0, e0)] H.size q → H1[q]? = H[q]?) (hP1 : va_P D cl w1 H1) (hD1 : va_D (va_A [(a0, e0)] H.size) w1) : va_P D cl (Y ++ w1) H1 ∧ va_D A0 (Y ++ w1) := by
  have hY : ∀ (k : Nat) (q : Nat × va_E), Y[k]? = some q → q.1 < H.size ∧ q.1 ≠ a0 ∧ A0 q.1 := by
    intro k q hq
    have hlt := (List.getElem?_eq_some_iff.mp hq).1
    have h1 : (Y ++ [(a0, e0)])[k]? = some q := by rw [List.getElem?_append_left hlt]; exact hq
    refine ⟨(hP k q h1).lt, fun z => ?_, hD.2 k q h1⟩
    have h2 : (Y ++ [(a0, e0)])[Y.length]? = some (a0, e0) := by rw [List.getElem?_append_right (Nat.le_refl _), Nat.sub_self]; rfl
    have := hD.1 k Y.length q (a0, e0) h1 h2 z
    omega
  have hA1 : ∀ q, va_A [(a0, e0)] H.size q → q = a0 ∨ H.size ≤ q := by
    rintro q (⟨k, e1, hk1⟩ | h)
    · have h0 : k < 1 := (List.getElem?_eq_some_iff.mp hk1).1
      rw [show k = 0 by omega] at hk1
      cases hk1
      exact Or.inl rfl
    · exact Or.inr h
  have ha0 : A0 a0 := hD.2 Y.length (a0, e0) (by rw [List.getElem?_append_right (Nat.le_refl _), Nat.sub_self]; rfl)
  constructor
  · intro k q hq
    by_cases hl : k < Y.length
    · rw [List.getElem?_append_left hl] at hq
      obtain ⟨h1, h2, -⟩ := hY k q hq
      have h3 : (Y ++ [(a0, e0)])[k]? = some q := by rw [List.getElem?_append_left hl]; exact hq
      refine (hP k q h3).kept (hk q.1 h1 (fun z => ?_))
      rcases hA1 _ z with h | h
      · exact h2 h
      · omega
    · rw [List.getElem?_append_right (by omega)] at hq
      exact hP1 _ q hq
  · refine ⟨fun i j x y hi hj hxy => ?_, fun k q hq => ?_⟩
    · by_cases h1 : i < Y.length <;> by_cases h2 : j < Y.length
      · have g1 : (Y ++ [(a0, e0)])[i]? = some x := by rw [List.getElem?_append_left h1] at hi ⊢; exact hi
        have g2 : (Y ++ [(a0, e0)])[j]? = some y := by rw [List.getElem?_append_left h2] at hj ⊢; exact hj
        exact hD.1 i j x y g1 g2 hxy
      · rw [List.getElem?_append_left h1] at hi
        rw [List.getElem?_append_right (by omega)] at hj
        obtain ⟨b1, b2, -⟩ := hY i x hi
        rcases hA1 _ (hD1.2 _ y hj) with h | h
        · exact absurd (hxy.trans h) b2
        · omega
      · rw [List.getElem?_append_left h2] at hj
        rw [List.getElem?_append_right (by omega)] at hi
        obtain ⟨b1, b2, -⟩ := hY j y hj
        rcases hA1 _ (hD1.2 _ x hi) with h | h
        · exact absurd (hxy.symm.trans h) b2
        · omega
      · rw [List.getElem?_append_right (by omega)] at hi hj
        have := hD1.1 _ _ x y hi hj hxy
        omega
    · by_cases hl : k < Y.length
      · rw [List.getElem?_append_left hl] at hq
        exact (hY k q hq).2.2
      · rw [List.getElem?_append_right (by omega)] at hq
        rcases hA1 _ (hD1.2 _ q hq) with h | h
        · rw [h]; exact ha0
        · exact hA _ h
/-- a constructor's call: its cell is the world's last -/
theorem ri_callv {T : Type} {post : T → Prop} {w1 : T → va_W} {Y : va_W} {a0 : Nat} {e0 : va_E} {mc ms : Nat} {st0 : List Value} {aa : Array Value} (hr : va_Run p l e R s m args below meth c H locs cells slots mc ms (F0 m pc ls st0) rest (va_Qv post (fun u t => va_P D cl (w1 u) t.heap ∧ va_D (va_A [(a0, e0)] H.size) (w1 u)) (va_A [(a0, e0)] H.size) aa) (va_A [(a0, e0)] H.size)) (hP : va_P D cl (Y ++ [(a0, e0)]) H) (hD : va_D A (Y ++ [(a0, e0)])) (hS : va_S A H0 H locs) (hA : ∀ q, H0.size ≤ q → A q)
    (kk : ∀ (u : T) (H1 : Heap) (locs1 : List Loc), post u → va_P D cl (Y ++ w1 u) H1 → va_D A (Y ++ w1 u) → va_S A H0 H1 locs1 → W p l e R s m args below meth c H1 locs1 (cells + mc) (slots + ms) Q (F0 m (pc + 3) ls rest)) : W p l e R s m args below meth c H locs cells slots Q (F0 m pc ls st0) := by
  have hA2 : ∀ q, H.size ≤ q → A q := fun q h => hA q (Nat.le_trans hS.1 h)
  have hF : ∀ q, va_A [(a0, e0)] H.size q → A q := by
    rintro q (⟨k, e1, hk1⟩ | h)
    · have h0 : k < 1 := (List.getElem?_eq_some_iff.mp hk1).1
      rw [show k = 0 by omega] at hk1
      cases hk1
      exact hD.2 Y.length (a0, e0) (by rw [List.getElem?_append_right (Nat.le_refl _), Nat.sub_self]; rfl)
    · exact hA2 q h
  refine va_callv hr hS (fun q _ h => hF q h) hF (fun u t H1 locs1 ht _ hp hB _ hk hS1 => ?_)
  rw [ht] at hB
  obtain ⟨j1, j2⟩ := ri_join hP hD hA2 hk hB.1 hB.2
  exact kk u H1 locs1 hp j1 j2 hS1
theorem ri_pre {tysC : List (ClassId × FieldType)} {Y : va_W} {a0 : Nat} {e0 : va_E} {av : List Value} (hP : va_P D cl (Y ++ [(a0, e0)]) H) (hK : va_K D cl tys s) (hN : ri_N s) (it : List Nat) (hT : it.filterMap (fun i => tys[i]?) = tysC) :
    ∀ U : State, U.heap = H → s.WarmedH U.vm → ri_Pc D cl tysC av [(a0, e0)] H.size av.toArray U := by
  intro U hU hW
  refine ⟨rfl, by rw [hU], ?_, va_K.moved hW.alike (hK.sub it hT), ⟨fun i j x y hi hj _ => ?_, fun _ _ _ => trivial⟩, hN.moved hW⟩
  · rw [hU, ri_mem]
    intro q hq
    exact (ri_mem.mp hP) q (List.mem_append_right _ hq)
  · have h1 : i < 1 := (List.getElem?_eq_some_iff.mp hi).1
    have h2 : j < 1 := (List.getElem?_eq_some_iff.mp hj).1
    omega
end RI
/-- the places of cells and stretches change -/
theorem rp_1 {D : va_G} {cl : List vw_C} {X a Z : va_W} {H : Heap} (h : va_P D cl ((X ++ a) ++ Z) H) : va_P D cl ((X ++ Z) ++ a) H := va_P.swap h
theorem rp_1D {A : Nat → Prop} {X a Z : va_W} (h : va_D A ((X ++ a) ++ Z)) : va_D A ((X ++ Z) ++ a) := va_D.swap h
theorem rp_2 {D : va_G} {cl : List vw_C} {X a b Z : va_W} {H : Heap} (h : va_P D cl (((X ++ a) ++ b) ++ Z) H) : va_P D cl (((X ++ Z) ++ a) ++ b) H := by
  rw [List.append_assoc X a b] at h
  have h1 := va_P.swap h
  rw [← List.append_assoc] at h1
  exact h1
theorem rp_2D {A : Nat → Prop} {X a b Z : va_W} (h : va_D A (((X ++ a) ++ b) ++ Z)) : va_D A (((X ++ Z) ++ a) ++ b) := by
  rw [List.append_assoc X a b] at h
  have h1 := va_D.swap h
  rw [← List.append_assoc] at h1
  exact h1
theorem rp_i {D : va_G} {cl : List vw_C} {X a Z b : va_W} {H : Heap} (h : va_P D cl (((X ++ a) ++ Z) ++ b) H) : va_P D cl (((X ++ Z) ++ a) ++ b) H := rp_2 (va_P.swap h)
theorem rp_iD {A : Nat → Prop} {X a Z b : va_W} (h : va_D A (((X ++ a) ++ Z) ++ b)) : va_D A (((X ++ Z) ++ a) ++ b) := rp_2D (va_D.swap h)
theorem rp_B {D : va_G} {cl : List vw_C} {X a b L c d : va_W} {H : Heap} (h : va_P D cl (((X ++ a) ++ b) ++ ((L ++ c) ++ d)) H) : va_P D cl (((((X ++ L) ++ a) ++ b) ++ c) ++ d) H := by
  rw [ri_mem] at h ⊢
  intro q hq
  apply h q
  simp only [List.mem_append] at hq ⊢
  rcases hq with ((((h1 | h1) | h1) | h1) | h1) | h1
  · exact Or.inl (Or.inl (Or.inl h1))
  · exact Or.inr (Or.inl (Or.inl h1))
  · exact Or.inl (Or.inl (Or.inr h1))
  · exact Or.inl (Or.inr h1)
  · exact Or.inr (Or.inl (Or.inr h1))
  · exact Or.inr (Or.inr h1)
theorem rp_BD {A : Nat → Prop} {X a b L c d : va_W} (h : va_D A (((X ++ a) ++ b) ++ ((L ++ c) ++ d))) : va_D A (((((X ++ L) ++ a) ++ b) ++ c) ++ d) := by
  have e1 : (((X ++ a) ++ b) ++ ((L ++ c) ++ d)) = (((X ++ a) ++ b) ++ L) ++ (c ++ d) := by simp only [List.append_assoc]
  rw [e1] at h
  have h1 := va_D.swap h
  have e2 : (((X ++ a) ++ b) ++ (c ++ d)) ++ L = (X ++ (a ++ (b ++ (c ++ d)))) ++ L := by simp only [List.append_assoc]
  rw [e2] at h1
  have h2 := va_D.swap h1
  have e3 : (X ++ L) ++ (a ++ (b ++ (c ++ d))) = ((((X ++ L) ++ a) ++ b) ++ c) ++ d := by simp only [List.append_assoc]
  rw [e3] at h2
  exact h2
