/-! WORLDS with several stretches: some of them for a callee -/
theorem rs_e_2_0 (X S1 S2 : va_W) : ((X ++ S1) ++ S2) = (X ++ (S1 ++ S2)) := by simp only [List.append_assoc]
theorem rs_a_2_0 {D : va_G} {cl : List vw_C} {X S1 S2 : va_W} {H : Heap} (h : va_P D cl ((X ++ S1) ++ S2) H) : va_P D cl (X ++ (S1 ++ S2)) H := by rw [← rs_e_2_0]; exact h
theorem rs_b_2_0 {D : va_G} {cl : List vw_C} {X S1 S2 : va_W} {H : Heap} (h : va_P D cl (X ++ (S1 ++ S2)) H) : va_P D cl ((X ++ S1) ++ S2) H := by rw [rs_e_2_0]; exact h
theorem rs_aD_2_0 {A : Nat → Prop} {X S1 S2 : va_W} (h : va_D A ((X ++ S1) ++ S2)) : va_D A (X ++ (S1 ++ S2)) := by rw [← rs_e_2_0]; exact h
theorem rs_bD_2_0 {A : Nat → Prop} {X S1 S2 : va_W} (h : va_D A (X ++ (S1 ++ S2))) : va_D A ((X ++ S1) ++ S2) := by rw [rs_e_2_0]; exact h
theorem rs_e_2_1 (X S1 S2 Y1 : va_W) : (((X ++ S1) ++ S2) ++ Y1) = (X ++ ((S1 ++ S2) ++ Y1)) := by simp only [List.append_assoc]
theorem rs_a_2_1 {D : va_G} {cl : List vw_C} {X S1 S2 Y1 : va_W} {H : Heap} (h : va_P D cl (((X ++ S1) ++ S2) ++ Y1) H) : va_P D cl (X ++ ((S1 ++ S2) ++ Y1)) H := by rw [← rs_e_2_1]; exact h
theorem rs_b_2_1 {D : va_G} {cl : List vw_C} {X S1 S2 Y1 : va_W} {H : Heap} (h : va_P D cl (X ++ ((S1 ++ S2) ++ Y1)) H) : va_P D cl (((X ++ S1) ++ S2) ++ Y1) H := by rw [rs_e_2_1]; exact h
theorem rs_aD_2_1 {A : Nat → Prop} {X S1 S2 Y1 : va_W} (h : va_D A (((X ++ S1) ++ S2) ++ Y1)) : va_D A (X ++ ((S1 ++ S2) ++ Y1)) := by rw [← rs_e_2_1]; exact h
theorem rs_bD_2_1 {A : Nat → Prop} {X S1 S2 Y1 : va_W} (h : va_D A (X ++ ((S1 ++ S2) ++ Y1))) : va_D A (((X ++ S1) ++ S2) ++ Y1) := by rw [rs_e_2_1]; exact h
theorem rs_e_2_2 (X S1 S2 Y1 Y2 : va_W) : ((((X ++ S1) ++ S2) ++ Y1) ++ Y2) = (X ++ ((S1 ++ S2) ++ (Y1 ++ Y2))) := by simp only [List.append_assoc]
theorem rs_a_2_2 {D : va_G} {cl : List vw_C} {X S1 S2 Y1 Y2 : va_W} {H : Heap} (h : va_P D cl ((((X ++ S1) ++ S2) ++ Y1) ++ Y2) H) : va_P D cl (X ++ ((S1 ++ S2) ++ (Y1 ++ Y2))) H := by rw [← rs_e_2_2]; exact h
theorem rs_b_2_2 {D : va_G} {cl : List vw_C} {X S1 S2 Y1 Y2 : va_W} {H : Heap} (h : va_P D cl (X ++ ((S1 ++ S2) ++ (Y1 ++ Y2))) H) : va_P D cl ((((X ++ S1) ++ S2) ++ Y1) ++ Y2) H := by rw [rs_e_2_2]; exact h
theorem rs_aD_2_2 {A : Nat → Prop} {X S1 S2 Y1 Y2 : va_W} (h : va_D A ((((X ++ S1) ++ S2) ++ Y1) ++ Y2)) : va_D A (X ++ ((S1 ++ S2) ++ (Y1 ++ Y2))) := by rw [← rs_e_2_2]; exact h
theorem rs_bD_2_2 {A : Nat → Prop} {X S1 S2 Y1 Y2 : va_W} (h : va_D A (X ++ ((S1 ++ S2) ++ (Y1 ++ Y2)))) : va_D A ((((X ++ S1) ++ S2) ++ Y1) ++ Y2) := by rw [rs_e_2_2]; exact h
theorem rs_e_3_0 (X S1 S2 S3 : va_W) : (((X ++ S1) ++ S2) ++ S3) = (X ++ (S1 ++ (S2 ++ S3))) := by simp only [List.append_assoc]
theorem rs_a_3_0 {D : va_G} {cl : List vw_C} {X S1 S2 S3 : va_W} {H : Heap} (h : va_P D cl (((X ++ S1) ++ S2) ++ S3) H) : va_P D cl (X ++ (S1 ++ (S2 ++ S3))) H := by rw [← rs_e_3_0]; exact h
theorem rs_b_3_0 {D : va_G} {cl : List vw_C} {X S1 S2 S3 : va_W} {H : Heap} (h : va_P D cl (X ++ (S1 ++ (S2 ++ S3))) H) : va_P D cl (((X ++ S1) ++ S2) ++ S3) H := by rw [rs_e_3_0]; exact h
theorem rs_aD_3_0 {A : Nat → Prop} {X S1 S2 S3 : va_W} (h : va_D A (((X ++ S1) ++ S2) ++ S3)) : va_D A (X ++ (S1 ++ (S2 ++ S3))) := by rw [← rs_e_3_0]; exact h
theorem rs_bD_3_0 {A : Nat → Prop} {X S1 S2 S3 : va_W} (h : va_D A (X ++ (S1 ++ (S2 ++ S3)))) : va_D A (((X ++ S1) ++ S2) ++ S3) := by rw [rs_e_3_0]; exact h
theorem rs_e_3_1 (X S1 S2 S3 Y1 : va_W) : ((((X ++ S1) ++ S2) ++ S3) ++ Y1) = (X ++ ((S1 ++ (S2 ++ S3)) ++ Y1)) := by simp only [List.append_assoc]
theorem rs_a_3_1 {D : va_G} {cl : List vw_C} {X S1 S2 S3 Y1 : va_W} {H : Heap} (h : va_P D cl ((((X ++ S1) ++ S2) ++ S3) ++ Y1) H) : va_P D cl (X ++ ((S1 ++ (S2 ++ S3)) ++ Y1)) H := by rw [← rs_e_3_1]; exact h
theorem rs_b_3_1 {D : va_G} {cl : List vw_C} {X S1 S2 S3 Y1 : va_W} {H : Heap} (h : va_P D cl (X ++ ((S1 ++ (S2 ++ S3)) ++ Y1)) H) : va_P D cl ((((X ++ S1) ++ S2) ++ S3) ++ Y1) H := by rw [rs_e_3_1]; exact h
theorem rs_aD_3_1 {A : Nat → Prop} {X S1 S2 S3 Y1 : va_W} (h : va_D A ((((X ++ S1) ++ S2) ++ S3) ++ Y1)) : va_D A (X ++ ((S1 ++ (S2 ++ S3)) ++ Y1)) := by rw [← rs_e_3_1]; exact h
theorem rs_bD_3_1 {A : Nat → Prop} {X S1 S2 S3 Y1 : va_W} (h : va_D A (X ++ ((S1 ++ (S2 ++ S3)) ++ Y1))) : va_D A ((((X ++ S1) ++ S2) ++ S3) ++ Y1) := by rw [rs_e_3_1]; exact h
theorem gs_adr2 {a b a1 b1 : va_W} (h1 : a1.map (fun q => q.1) = a.map (fun q => q.1)) (h2 : b1.map (fun q => q.1) = b.map (fun q => q.1)) : (a1 ++ b1).map (fun q => q.1) = (a ++ b).map (fun q => q.1) := by rw [List.map_append, List.map_append, h1, h2]
