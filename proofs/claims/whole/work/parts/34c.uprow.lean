/-! a row set anew -/
theorem gs_uP0 {D : va_G} {cl : List vw_C} {H : Heap} {X : va_W} {n : Nat} {ad : Nat → Nat} {cJ : ClassId} {len : Nat} {M : Nat → Nat → ro_K} {i n0 : Nat} {R : Nat → ro_K} (h : va_P D cl ((X ++ gs n ad cJ len M).set (n0 + i) (ad i, ka cJ len R)) H) (hi : i < n := by omega) (hX : X.length = n0 := by rfl) : va_P D cl (X ++ gs n ad cJ len (va_up M i R)) H := by
  rw [gs_set0 hX hi R (va_up M i R) (va_up_self M i R) (fun a h => va_up_ne M R h)] at h
  exact h
theorem gs_uD0 {A : Nat → Prop} {X : va_W} {n : Nat} {ad : Nat → Nat} {cJ : ClassId} {len : Nat} {M : Nat → Nat → ro_K} {i n0 : Nat} {R : Nat → ro_K} (h : va_D A ((X ++ gs n ad cJ len M).set (n0 + i) (ad i, ka cJ len R))) (hi : i < n := by omega) (hX : X.length = n0 := by rfl) : va_D A (X ++ gs n ad cJ len (va_up M i R)) := by
  rw [gs_set0 hX hi R (va_up M i R) (va_up_self M i R) (fun a h => va_up_ne M R h)] at h
  exact h
theorem gs_uP1 {D : va_G} {cl : List vw_C} {H : Heap} {X : va_W} {Y1 : va_W} {n : Nat} {ad : Nat → Nat} {cJ : ClassId} {len : Nat} {M : Nat → Nat → ro_K} {i n0 : Nat} {R : Nat → ro_K} (h : va_P D cl (((X ++ gs n ad cJ len M) ++ Y1).set (n0 + i) (ad i, ka cJ len R)) H) (hi : i < n := by omega) (hX : X.length = n0 := by rfl) : va_P D cl ((X ++ gs n ad cJ len (va_up M i R)) ++ Y1) H := by
  rw [gs_set1 hX hi R (va_up M i R) (va_up_self M i R) (fun a h => va_up_ne M R h)] at h
  exact h
theorem gs_uD1 {A : Nat → Prop} {X : va_W} {Y1 : va_W} {n : Nat} {ad : Nat → Nat} {cJ : ClassId} {len : Nat} {M : Nat → Nat → ro_K} {i n0 : Nat} {R : Nat → ro_K} (h : va_D A (((X ++ gs n ad cJ len M) ++ Y1).set (n0 + i) (ad i, ka cJ len R))) (hi : i < n := by omega) (hX : X.length = n0 := by rfl) : va_D A ((X ++ gs n ad cJ len (va_up M i R)) ++ Y1) := by
  rw [gs_set1 hX hi R (va_up M i R) (va_up_self M i R) (fun a h => va_up_ne M R h)] at h
  exact h
theorem gs_uP2 {D : va_G} {cl : List vw_C} {H : Heap} {X : va_W} {Y1 Y2 : va_W} {n : Nat} {ad : Nat → Nat} {cJ : ClassId} {len : Nat} {M : Nat → Nat → ro_K} {i n0 : Nat} {R : Nat → ro_K} (h : va_P D cl ((((X ++ gs n ad cJ len M) ++ Y1) ++ Y2).set (n0 + i) (ad i, ka cJ len R)) H) (hi : i < n := by omega) (hX : X.length = n0 := by rfl) : va_P D cl (((X ++ gs n ad cJ len (va_up M i R)) ++ Y1) ++ Y2) H := by
  rw [gs_set2 hX hi R (va_up M i R) (va_up_self M i R) (fun a h => va_up_ne M R h)] at h
  exact h
theorem gs_uD2 {A : Nat → Prop} {X : va_W} {Y1 Y2 : va_W} {n : Nat} {ad : Nat → Nat} {cJ : ClassId} {len : Nat} {M : Nat → Nat → ro_K} {i n0 : Nat} {R : Nat → ro_K} (h : va_D A ((((X ++ gs n ad cJ len M) ++ Y1) ++ Y2).set (n0 + i) (ad i, ka cJ len R))) (hi : i < n := by omega) (hX : X.length = n0 := by rfl) : va_D A (((X ++ gs n ad cJ len (va_up M i R)) ++ Y1) ++ Y2) := by
  rw [gs_set2 hX hi R (va_up M i R) (va_up_self M i R) (fun a h => va_up_ne M R h)] at h
  exact h
theorem gs_uP3 {D : va_G} {cl : List vw_C} {H : Heap} {X : va_W} {Y1 Y2 Y3 : va_W} {n : Nat} {ad : Nat → Nat} {cJ : ClassId} {len : Nat} {M : Nat → Nat → ro_K} {i n0 : Nat} {R : Nat → ro_K} (h : va_P D cl (((((X ++ gs n ad cJ len M) ++ Y1) ++ Y2) ++ Y3).set (n0 + i) (ad i, ka cJ len R)) H) (hi : i < n := by omega) (hX : X.length = n0 := by rfl) : va_P D cl ((((X ++ gs n ad cJ len (va_up M i R)) ++ Y1) ++ Y2) ++ Y3) H := by
  rw [gs_set3 hX hi R (va_up M i R) (va_up_self M i R) (fun a h => va_up_ne M R h)] at h
  exact h
theorem gs_uD3 {A : Nat → Prop} {X : va_W} {Y1 Y2 Y3 : va_W} {n : Nat} {ad : Nat → Nat} {cJ : ClassId} {len : Nat} {M : Nat → Nat → ro_K} {i n0 : Nat} {R : Nat → ro_K} (h : va_D A (((((X ++ gs n ad cJ len M) ++ Y1) ++ Y2) ++ Y3).set (n0 + i) (ad i, ka cJ len R))) (hi : i < n := by omega) (hX : X.length = n0 := by rfl) : va_D A ((((X ++ gs n ad cJ len (va_up M i R)) ++ Y1) ++ Y2) ++ Y3) := by
  rw [gs_set3 hX hi R (va_up M i R) (va_up_self M i R) (fun a h => va_up_ne M R h)] at h
  exact h
