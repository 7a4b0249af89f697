/-! WORLDS WITH MORE STRETCHES: places, new association -/
theorem rs_e1 (X S Y1 : va_W) : ((X ++ S) ++ Y1) = (X ++ (S ++ Y1)) := by simp only [List.append_assoc]
theorem rs_a1 {D : va_G} {cl : List vw_C} {X S Y1 : va_W} {H : Heap} (h : va_P D cl ((X ++ S) ++ Y1) H) : va_P D cl (X ++ (S ++ Y1)) H := by rw [← rs_e1]; exact h
theorem rs_b1 {D : va_G} {cl : List vw_C} {X S Y1 : va_W} {H : Heap} (h : va_P D cl (X ++ (S ++ Y1)) H) : va_P D cl ((X ++ S) ++ Y1) H := by rw [rs_e1]; exact h
theorem rs_aD1 {A : Nat → Prop} {X S Y1 : va_W} (h : va_D A ((X ++ S) ++ Y1)) : va_D A (X ++ (S ++ Y1)) := by rw [← rs_e1]; exact h
theorem rs_bD1 {A : Nat → Prop} {X S Y1 : va_W} (h : va_D A (X ++ (S ++ Y1))) : va_D A ((X ++ S) ++ Y1) := by rw [rs_e1]; exact h
theorem rs_e2 (X S Y1 Y2 : va_W) : (((X ++ S) ++ Y1) ++ Y2) = (X ++ (S ++ (Y1 ++ Y2))) := by simp only [List.append_assoc]
theorem rs_a2 {D : va_G} {cl : List vw_C} {X S Y1 Y2 : va_W} {H : Heap} (h : va_P D cl (((X ++ S) ++ Y1) ++ Y2) H) : va_P D cl (X ++ (S ++ (Y1 ++ Y2))) H := by rw [← rs_e2]; exact h
theorem rs_b2 {D : va_G} {cl : List vw_C} {X S Y1 Y2 : va_W} {H : Heap} (h : va_P D cl (X ++ (S ++ (Y1 ++ Y2))) H) : va_P D cl (((X ++ S) ++ Y1) ++ Y2) H := by rw [rs_e2]; exact h
theorem rs_aD2 {A : Nat → Prop} {X S Y1 Y2 : va_W} (h : va_D A (((X ++ S) ++ Y1) ++ Y2)) : va_D A (X ++ (S ++ (Y1 ++ Y2))) := by rw [← rs_e2]; exact h
theorem rs_bD2 {A : Nat → Prop} {X S Y1 Y2 : va_W} (h : va_D A (X ++ (S ++ (Y1 ++ Y2)))) : va_D A (((X ++ S) ++ Y1) ++ Y2) := by rw [rs_e2]; exact h
theorem rs_e3 (X S Y1 Y2 Y3 : va_W) : ((((X ++ S) ++ Y1) ++ Y2) ++ Y3) = (X ++ (S ++ (Y1 ++ (Y2 ++ Y3)))) := by simp only [List.append_assoc]
theorem rs_a3 {D : va_G} {cl : List vw_C} {X S Y1 Y2 Y3 : va_W} {H : Heap} (h : va_P D cl ((((X ++ S) ++ Y1) ++ Y2) ++ Y3) H) : va_P D cl (X ++ (S ++ (Y1 ++ (Y2 ++ Y3)))) H := by rw [← rs_e3]; exact h
theorem rs_b3 {D : va_G} {cl : List vw_C} {X S Y1 Y2 Y3 : va_W} {H : Heap} (h : va_P D cl (X ++ (S ++ (Y1 ++ (Y2 ++ Y3)))) H) : va_P D cl ((((X ++ S) ++ Y1) ++ Y2) ++ Y3) H := by rw [rs_e3]; exact h
theorem rs_aD3 {A : Nat → Prop} {X S Y1 Y2 Y3 : va_W} (h : va_D A ((((X ++ S) ++ Y1) ++ Y2) ++ Y3)) : va_D A (X ++ (S ++ (Y1 ++ (Y2 ++ Y3)))) := by rw [← rs_e3]; exact h
theorem rs_bD3 {A : Nat → Prop} {X S Y1 Y2 Y3 : va_W} (h : va_D A (X ++ (S ++ (Y1 ++ (Y2 ++ Y3))))) : va_D A ((((X ++ S) ++ Y1) ++ Y2) ++ Y3) := by rw [rs_e3]; exact h
theorem gs_get0 {X : va_W} {n : Nat} {ad : Nat → Nat} {cJ : ClassId} {len : Nat} {M : Nat → Nat → ro_K} {i n0 : Nat} (hX : X.length = n0) (hi : i < n) : (X ++ gs n ad cJ len M)[n0 + i]? = some (ad i, ka cJ len (M i)) := by
  subst hX
  exact gs_get hi
theorem gs_set0 {X : va_W} {n : Nat} {ad : Nat → Nat} {cJ : ClassId} {len : Nat} {M : Nat → Nat → ro_K} {i n0 : Nat} (hX : X.length = n0) (hi : i < n) (R : Nat → ro_K) (M2 : Nat → Nat → ro_K) (h1 : M2 i = R) (h2 : ∀ a, a ≠ i → M2 a = M a) : (X ++ gs n ad cJ len M).set (n0 + i) (ad i, ka cJ len R) = (X ++ gs n ad cJ len M2) := by
  subst hX
  rw [gs_set hi R M2 h1 h2]
theorem gs_get1 {X : va_W} {Y1 : va_W} {n : Nat} {ad : Nat → Nat} {cJ : ClassId} {len : Nat} {M : Nat → Nat → ro_K} {i n0 : Nat} (hX : X.length = n0) (hi : i < n) : ((X ++ gs n ad cJ len M) ++ Y1)[n0 + i]? = some (ad i, ka cJ len (M i)) := by
  subst hX
  rw [List.getElem?_append_left (by simp only [List.length_append, gs_len]; omega)]
  exact gs_get hi
theorem gs_set1 {X : va_W} {Y1 : va_W} {n : Nat} {ad : Nat → Nat} {cJ : ClassId} {len : Nat} {M : Nat → Nat → ro_K} {i n0 : Nat} (hX : X.length = n0) (hi : i < n) (R : Nat → ro_K) (M2 : Nat → Nat → ro_K) (h1 : M2 i = R) (h2 : ∀ a, a ≠ i → M2 a = M a) : ((X ++ gs n ad cJ len M) ++ Y1).set (n0 + i) (ad i, ka cJ len R) = ((X ++ gs n ad cJ len M2) ++ Y1) := by
  subst hX
  rw [List.set_append_left _ _ (by simp only [List.length_append, gs_len]; omega)]
  rw [gs_set hi R M2 h1 h2]
theorem gs_get2 {X : va_W} {Y1 Y2 : va_W} {n : Nat} {ad : Nat → Nat} {cJ : ClassId} {len : Nat} {M : Nat → Nat → ro_K} {i n0 : Nat} (hX : X.length = n0) (hi : i < n) : (((X ++ gs n ad cJ len M) ++ Y1) ++ Y2)[n0 + i]? = some (ad i, ka cJ len (M i)) := by
  subst hX
  rw [List.getElem?_append_left (by simp only [List.length_append, gs_len]; omega)]
  rw [List.getElem?_append_left (by simp only [List.length_append, gs_len]; omega)]
  exact gs_get hi
theorem gs_set2 {X : va_W} {Y1 Y2 : va_W} {n : Nat} {ad : Nat → Nat} {cJ : ClassId} {len : Nat} {M : Nat → Nat → ro_K} {i n0 : Nat} (hX : X.length = n0) (hi : i < n) (R : Nat → ro_K) (M2 : Nat → Nat → ro_K) (h1 : M2 i = R) (h2 : ∀ a, a ≠ i → M2 a = M a) : (((X ++ gs n ad cJ len M) ++ Y1) ++ Y2).set (n0 + i) (ad i, ka cJ len R) = (((X ++ gs n ad cJ len M2) ++ Y1) ++ Y2) := by
  subst hX
  rw [List.set_append_left _ _ (by simp only [List.length_append, gs_len]; omega)]
  rw [List.set_append_left _ _ (by simp only [List.length_append, gs_len]; omega)]
  rw [gs_set hi R M2 h1 h2]
theorem gs_get3 {X : va_W} {Y1 Y2 Y3 : va_W} {n : Nat} {ad : Nat → Nat} {cJ : ClassId} {len : Nat} {M : Nat → Nat → ro_K} {i n0 : Nat} (hX : X.length = n0) (hi : i < n) : ((((X ++ gs n ad cJ len M) ++ Y1) ++ Y2) ++ Y3)[n0 + i]? = some (ad i, ka cJ len (M i)) := by
  subst hX
  rw [List.getElem?_append_left (by simp only [List.length_append, gs_len]; omega)]
  rw [List.getElem?_append_left (by simp only [List.length_append, gs_len]; omega)]
  rw [List.getElem?_append_left (by simp only [List.length_append, gs_len]; omega)]
  exact gs_get hi
theorem gs_set3 {X : va_W} {Y1 Y2 Y3 : va_W} {n : Nat} {ad : Nat → Nat} {cJ : ClassId} {len : Nat} {M : Nat → Nat → ro_K} {i n0 : Nat} (hX : X.length = n0) (hi : i < n) (R : Nat → ro_K) (M2 : Nat → Nat → ro_K) (h1 : M2 i = R) (h2 : ∀ a, a ≠ i → M2 a = M a) : ((((X ++ gs n ad cJ len M) ++ Y1) ++ Y2) ++ Y3).set (n0 + i) (ad i, ka cJ len R) = ((((X ++ gs n ad cJ len M2) ++ Y1) ++ Y2) ++ Y3) := by
  subst hX
  rw [List.set_append_left _ _ (by simp only [List.length_append, gs_len]; omega)]
  rw [List.set_append_left _ _ (by simp only [List.length_append, gs_len]; omega)]
  rw [List.set_append_left _ _ (by simp only [List.length_append, gs_len]; omega)]
  rw [gs_set hi R M2 h1 h2]
theorem va_up_id {α : Type} (F : Nat → α) (i : Nat) : va_up F i (F i) = F := by
  funext a
  unfold va_up
  by_cases h : a = i
  · subst h; rw [if_pos rfl]
  · rw [if_neg h]
/-- the static table of choices -/
def chL (j : Nat) : Int := ([1, 0, 0, 0, 1, 1, 0, 0, 1, 2, 1, 0, 1, 3, 3, 1] : List Int).getD j 0
def rz_C (ct : Nat) (A : Nat → Prop) (U : State) (H : Heap) : Prop := va_Z "RationalOdes" "CHOICES" "[I" (.ref ct) A U H ∧ va_T .int ct 16 (fun j => .int (iz (chL j))) A U H
def rc_Pz (D : va_G) (cl : List vw_C) (tys : List (ClassId × FieldType)) (av : List Value) (w : va_W) (ct : Nat) : Array Value → State → Prop := fun a U => rc_Pc D cl tys av w a U ∧ rz_C ct (rc_A w) U U.heap
theorem rz_blind {D : va_G} {cl : List vw_C} {tys : List (ClassId × FieldType)} {av : List Value} {w : va_W} {ct : Nat} : FrameBlind (rc_Pz D cl tys av w ct) := by
  intro a U g mk q
  exact ⟨rc_blind a U g mk q.1, va_Z.moved (u := U) (U := U.calling g mk a) (Vm.Alike.refl U.vm) q.2.1, va_T.moved (u := U) (U := U.calling g mk a) (Vm.Alike.refl U.vm) q.2.2⟩
theorem rz_go {ct : Nat} {A B : Nat → Prop} {s U : State} {H : Heap} {locs : List Loc} (hC : rz_C ct A s s.heap) (hS : va_S A s.heap H locs) (hAB : ∀ q, B q → A q) (hU : U.heap = H) (hW : s.WarmedH U.vm) : rz_C ct B U U.heap := by
  rw [hU]
  exact ⟨va_Z.narrow (va_Z.moved hW.alike (hC.1.kept hS.2.1)) hAB, va_T.narrow (va_T.moved hW.alike (hC.2.kept hS.2.1)) hAB⟩
theorem rz_irem2 : ∀ i : Nat, i < 4 → iz (i : Int) - iz (i : Int) / iz 2 * iz 2 = iz ((i % 2 : Nat) : Int) := by decide
