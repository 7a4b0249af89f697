/-! ARRAYS OF ARRAYS: the rows as a stretch of the world; int arrays -/
def gs (n : Nat) (ad : Nat → Nat) (cJ : ClassId) (len : Nat) (M : Nat → Nat → ro_K) : va_W := (List.range n).map (fun i => (ad i, ka cJ len (M i)))
abbrev go (cO : ClassId) (n : Nat) (ad : Nat → Nat) : va_E := .inl (cO, n, .inr (.inr (.inr (.inr (fun i => some (ad i))))))
abbrev ki (cI : ClassId) (n : Nat) (L : Nat → Int) : va_E := .inl (cI, n, .inl (fun j => iz (L j)))
def up2 (M : Nat → Nat → ro_K) (i j : Nat) (x : ro_K) : Nat → Nat → ro_K := fun a b => if a = i ∧ b = j then x else M a b
theorem up2_row (M : Nat → Nat → ro_K) (i j : Nat) (x : ro_K) : up2 M i j x i = va_up (M i) j x := by
  funext b
  unfold up2 va_up
  by_cases h : b = j
  · rw [if_pos ⟨rfl, h⟩, if_pos h]
  · rw [if_neg (fun z => h z.2), if_neg h]
theorem up2_ne (M : Nat → Nat → ro_K) {i a : Nat} (j : Nat) (x : ro_K) (h : a ≠ i) : up2 M i j x a = M a := by
  funext b
  exact if_neg (fun z => h z.1)
theorem gs_at (n : Nat) (ad : Nat → Nat) (cJ : ClassId) (len : Nat) (M : Nat → Nat → ro_K) {i : Nat} (hi : i < n) : (gs n ad cJ len M)[i]? = some (ad i, ka cJ len (M i)) := by
  unfold gs
  rw [List.getElem?_map, List.getElem?_range hi]
  rfl
theorem gs_len (n : Nat) (ad : Nat → Nat) (cJ : ClassId) (len : Nat) (M : Nat → Nat → ro_K) : (gs n ad cJ len M).length = n := by
  unfold gs
  rw [List.length_map, List.length_range]
theorem gs_get {X : va_W} {n : Nat} {ad : Nat → Nat} {cJ : ClassId} {len : Nat} {M : Nat → Nat → ro_K} {i : Nat} (hi : i < n) : (X ++ gs n ad cJ len M)[X.length + i]? = some (ad i, ka cJ len (M i)) := by
  rw [List.getElem?_append_right (by omega), show X.length + i - X.length = i by omega]
  exact gs_at n ad cJ len M hi
theorem gs_getT {X Y : va_W} {n : Nat} {ad : Nat → Nat} {cJ : ClassId} {len : Nat} {M : Nat → Nat → ro_K} {i : Nat} (hi : i < n) : ((X ++ gs n ad cJ len M) ++ Y)[X.length + i]? = some (ad i, ka cJ len (M i)) := by
  rw [List.getElem?_append_left (by rw [List.length_append, gs_len]; omega)]
  exact gs_get hi
theorem gs_up {n : Nat} {ad : Nat → Nat} {cJ : ClassId} {len : Nat} {M : Nat → Nat → ro_K} {i : Nat} (hi : i < n) (R : Nat → ro_K) (M2 : Nat → Nat → ro_K) (h1 : M2 i = R) (h2 : ∀ a, a ≠ i → M2 a = M a) : (gs n ad cJ len M).set i (ad i, ka cJ len R) = gs n ad cJ len M2 := by
  apply List.ext_getElem?
  intro k
  by_cases hk : k < n
  · rw [gs_at n ad cJ len M2 hk]
    by_cases e : k = i
    · subst e
      rw [List.getElem?_set_self (by rw [gs_len]; exact hk), h1]
    · rw [List.getElem?_set_ne (Ne.symm e), gs_at n ad cJ len M hk, h2 k e]
  · rw [List.getElem?_eq_none (by rw [List.length_set, gs_len]; omega), List.getElem?_eq_none (by rw [gs_len]; omega)]
theorem gs_set {X : va_W} {n : Nat} {ad : Nat → Nat} {cJ : ClassId} {len : Nat} {M : Nat → Nat → ro_K} {i : Nat} (hi : i < n) (R : Nat → ro_K) (M2 : Nat → Nat → ro_K) (h1 : M2 i = R) (h2 : ∀ a, a ≠ i → M2 a = M a) : (X ++ gs n ad cJ len M).set (X.length + i) (ad i, ka cJ len R) = X ++ gs n ad cJ len M2 := by
  rw [List.set_append_right _ _ (by omega), show X.length + i - X.length = i by omega, gs_up hi R M2 h1 h2]
theorem gs_setT {X Y : va_W} {n : Nat} {ad : Nat → Nat} {cJ : ClassId} {len : Nat} {M : Nat → Nat → ro_K} {i : Nat} (hi : i < n) (R : Nat → ro_K) (M2 : Nat → Nat → ro_K) (h1 : M2 i = R) (h2 : ∀ a, a ≠ i → M2 a = M a) : ((X ++ gs n ad cJ len M) ++ Y).set (X.length + i) (ad i, ka cJ len R) = (X ++ gs n ad cJ len M2) ++ Y := by
  rw [List.set_append_left _ _ (by rw [List.length_append, gs_len]; omega), gs_set hi R M2 h1 h2]
section RG
variable {p : Program} {l : Launch} {e : Env} {R : Room} {s : State} {m : MethodId} {args : Array Value} {below : List Frame} {meth : Method} {c : Code} {H : Heap} {locs : List Loc} {cells slots : Nat} {Q : State → Prop}
variable {cc : ByteArray} {pc : Nat} {ls : Array Slot} {rest : List Value} {D : va_G} {cl : List vw_C} {A : Nat → Prop} {a : Nat} {tys : List (ClassId × FieldType)} {ws X Y : va_W} {H0 : Heap}
theorem rg_ald (hx : p.tables.exec = Jvm.exec) (hb : c.code = cc) (hK : va_K D cl tys s) (hP : va_P D cl ws H) (q0 t0 : Nat) {cO : ClassId} {n : Nat} {ad : Nat → Nat} {ty : FieldType} (ha : ws[q0]? = some (a, go cO n ad)) (ht : tys[t0]? = some (cO, .array ty)) {z : Int} (j : Nat) (hdg : decode cc pc = .ok (.aaload, 1))
    (kk : W p l e R s m args below meth c H locs cells slots Q (F0 m (pc + 1) ls (.ref (ad j) :: rest))) (hj : z = (j : Int) := by omega) (hlt : j < n := by omega) (hn : n ≤ 2147483648 := by omega) : W p l e R s m args below meth c H locs cells slots Q (F0 m pc ls (.int (iz z) :: .ref a :: rest)) := by
  have hin := iz_in hj hlt hn
  have hc := iz_clamp hj (by omega)
  refine W.aald (v := .ref (ad j)) (ty := .array ty) hx hb (hP q0 _ ha) ((hK.2 t0 _ ht).1 n (fun j => va_rf (some (ad j)))) rfl (fun q => by cases q) (by show ¬ (iz z < 0 ∨ (arrV _ _ _).slots.size ≤ _); rw [arrV_size]; exact hin) (by show (arrV _ _ _).slots[_]? = _; rw [hc, arrV_read _ _ hlt]; rfl) rfl rfl hdg kk
theorem rg_ld (hx : p.tables.exec = Jvm.exec) (hb : c.code = cc) (hK : va_K D cl tys s) {n : Nat} {ad : Nat → Nat} {cJ : ClassId} {len : Nat} {M : Nat → Nat → ro_K} (hP : va_P D cl (X ++ gs n ad cJ len M) H) (t0 : Nat) (ht : tys[t0]? = some (cJ, .long)) {z : Int} (i j : Nat) (hdg : decode cc pc = .ok (.laload, 1))
    (kk : W p l e R s m args below meth c H locs cells slots Q (F0 m (pc + 1) ls (.long (lk (M i j)) :: rest))) (hi : i < n := by omega) (hj : z = (j : Int) := by omega) (hlt : j < len := by omega) (hn : len ≤ 2147483648 := by omega) : W p l e R s m args below meth c H locs cells slots Q (F0 m pc ls (.int (iz z) :: .ref (ad i) :: rest)) :=
  rk_ld hx hb hK hP (X.length + i) t0 (gs_get hi) ht j hdg kk hj hlt hn
theorem rg_ldT (hx : p.tables.exec = Jvm.exec) (hb : c.code = cc) (hK : va_K D cl tys s) {n : Nat} {ad : Nat → Nat} {cJ : ClassId} {len : Nat} {M : Nat → Nat → ro_K} (hP : va_P D cl ((X ++ gs n ad cJ len M) ++ Y) H) (t0 : Nat) (ht : tys[t0]? = some (cJ, .long)) {z : Int} (i j : Nat) (hdg : decode cc pc = .ok (.laload, 1))
    (kk : W p l e R s m args below meth c H locs cells slots Q (F0 m (pc + 1) ls (.long (lk (M i j)) :: rest))) (hi : i < n := by omega) (hj : z = (j : Int) := by omega) (hlt : j < len := by omega) (hn : len ≤ 2147483648 := by omega) : W p l e R s m args below meth c H locs cells slots Q (F0 m pc ls (.int (iz z) :: .ref (ad i) :: rest)) :=
  rk_ld hx hb hK hP (X.length + i) t0 (gs_getT hi) ht j hdg kk hj hlt hn
theorem rg_st (hx : p.tables.exec = Jvm.exec) (hb : c.code = cc) (hK : va_K D cl tys s) {n : Nat} {ad : Nat → Nat} {cJ : ClassId} {len : Nat} {M : Nat → Nat → ro_K} (hP : va_P D cl (X ++ gs n ad cJ len M) H) (hD : va_D A (X ++ gs n ad cJ len M)) (hS : va_S A H0 H locs) (t0 : Nat) (ht : tys[t0]? = some (cJ, .long)) {z : Int} {x : ro_K} (i j : Nat) (hdg : decode cc pc = .ok (.lastore, 1))
    (kk : ∀ (H1 : Heap) (locs1 : List Loc), va_P D cl (X ++ gs n ad cJ len (up2 M i j x)) H1 → va_D A (X ++ gs n ad cJ len (up2 M i j x)) → va_S A H0 H1 locs1 → W p l e R s m args below meth c H1 locs1 cells slots Q (F0 m (pc + 1) ls rest)) (hi : i < n := by omega) (hj : z = (j : Int) := by omega) (hlt : j < len := by omega) (hn : len ≤ 2147483648 := by omega) : W p l e R s m args below meth c H locs cells slots Q (F0 m pc ls (.long (lk x) :: .int (iz z) :: .ref (ad i) :: rest)) := by
  refine rk_st hx hb hK hP hD hS (X.length + i) t0 (gs_get hi) ht j hdg (fun H1 locs1 h1 h2 h3 => ?_) hj hlt hn
  rw [gs_set hi _ (up2 M i j x) (up2_row M i j x) (fun a h => up2_ne M j x h)] at h1 h2
  exact kk H1 locs1 h1 h2 h3
theorem rg_stT (hx : p.tables.exec = Jvm.exec) (hb : c.code = cc) (hK : va_K D cl tys s) {n : Nat} {ad : Nat → Nat} {cJ : ClassId} {len : Nat} {M : Nat → Nat → ro_K} (hP : va_P D cl ((X ++ gs n ad cJ len M) ++ Y) H) (hD : va_D A ((X ++ gs n ad cJ len M) ++ Y)) (hS : va_S A H0 H locs) (t0 : Nat) (ht : tys[t0]? = some (cJ, .long)) {z : Int} {x : ro_K} (i j : Nat) (hdg : decode cc pc = .ok (.lastore, 1))
    (kk : ∀ (H1 : Heap) (locs1 : List Loc), va_P D cl ((X ++ gs n ad cJ len (up2 M i j x)) ++ Y) H1 → va_D A ((X ++ gs n ad cJ len (up2 M i j x)) ++ Y) → va_S A H0 H1 locs1 → W p l e R s m args below meth c H1 locs1 cells slots Q (F0 m (pc + 1) ls rest)) (hi : i < n := by omega) (hj : z = (j : Int) := by omega) (hlt : j < len := by omega) (hn : len ≤ 2147483648 := by omega) : W p l e R s m args below meth c H locs cells slots Q (F0 m pc ls (.long (lk x) :: .int (iz z) :: .ref (ad i) :: rest)) := by
  refine rk_st hx hb hK hP hD hS (X.length + i) t0 (gs_getT hi) ht j hdg (fun H1 locs1 h1 h2 h3 => ?_) hj hlt hn
  rw [gs_setT hi _ (up2 M i j x) (up2_row M i j x) (fun a h => up2_ne M j x h)] at h1 h2
  exact kk H1 locs1 h1 h2 h3
theorem rk_ild (hx : p.tables.exec = Jvm.exec) (hb : c.code = cc) (hK : va_K D cl tys s) (hP : va_P D cl ws H) (q0 t0 : Nat) {cI : ClassId} {n : Nat} {L : Nat → Int} (ha : ws[q0]? = some (a, ki cI n L)) (ht : tys[t0]? = some (cI, .int)) {z : Int} (j : Nat) (hdg : decode cc pc = .ok (.iaload, 1))
    (kk : W p l e R s m args below meth c H locs cells slots Q (F0 m (pc + 1) ls (.int (iz (L j)) :: rest))) (hj : z = (j : Int) := by omega) (hlt : j < n := by omega) (hn : n ≤ 2147483648 := by omega) : W p l e R s m args below meth c H locs cells slots Q (F0 m pc ls (.int (iz z) :: .ref a :: rest)) := by
  refine va_iald hx hb hK hP q0 t0 ha ht (iz_in hj hlt hn) hdg ?_
  rw [iz_clamp hj (by omega)]
  exact kk
theorem ki_up (L : Nat → Int) (j : Nat) (x : Int) : upd (fun j => iz (L j)) j (iz x) = fun i => iz (va_up L j x i) := by
  funext i
  unfold upd va_up
  by_cases h : i = j
  · rw [if_pos h, if_pos h]
  · rw [if_neg h, if_neg h]
theorem rk_ist (hx : p.tables.exec = Jvm.exec) (hb : c.code = cc) (hK : va_K D cl tys s) (hP : va_P D cl ws H) (hD : va_D A ws) (hS : va_S A H0 H locs) (q0 t0 : Nat) {cI : ClassId} {n : Nat} {L : Nat → Int} (ha : ws[q0]? = some (a, ki cI n L)) (ht : tys[t0]? = some (cI, .int)) {z x : Int} (j : Nat) (hdg : decode cc pc = .ok (.iastore, 1))
    (kk : ∀ (H1 : Heap) (locs1 : List Loc), va_P D cl (ws.set q0 (a, ki cI n (va_up L j x))) H1 → va_D A (ws.set q0 (a, ki cI n (va_up L j x))) → va_S A H0 H1 locs1 → W p l e R s m args below meth c H1 locs1 cells slots Q (F0 m (pc + 1) ls rest)) (hj : z = (j : Int) := by omega) (hlt : j < n := by omega) (hn : n ≤ 2147483648 := by omega) : W p l e R s m args below meth c H locs cells slots Q (F0 m pc ls (.int (iz x) :: .int (iz z) :: .ref a :: rest)) := by
  refine va_iast hx hb hK hP hD hS q0 t0 ha ht (iz_in hj hlt hn) hdg (fun H1 locs1 h1 h2 h3 => ?_)
  rw [iz_clamp hj (by omega), ki_up] at h1 h2
  exact kk H1 locs1 h1 h2 h3
end RG
/-! ELIMINATION: pure -/
def rwL (A : Nat → Nat → ro_K) (p : Nat) : Nat → Nat
  | 0 => 17
  | k + 1 => if A (16 - k) p = 0 then rwL A p k else 16 - k
theorem rwL_le (A : Nat → Nat → ro_K) (p : Nat) : ∀ k, k ≤ 17 → 17 - k ≤ rwL A p k ∧ rwL A p k ≤ 17 ∧ (rwL A p k < 17 → A (rwL A p k) p ≠ 0)
  | 0, _ => ⟨by show 17 - 0 ≤ 17; omega, Nat.le_refl 17, fun h => absurd h (Nat.lt_irrefl 17)⟩
  | k + 1, hk => by
    have ih := rwL_le A p k (by omega)
    by_cases h : A (16 - k) p = 0
    · have e : rwL A p (k + 1) = rwL A p k := if_pos h
      rw [e]
      exact ⟨by omega, ih.2.1, ih.2.2⟩
    · have e : rwL A p (k + 1) = 16 - k := if_neg h
      rw [e]
      exact ⟨by omega, by omega, fun _ => h⟩
def swk (A : Nat → Nat → ro_K) (r w k : Nat) : Nat → Nat → ro_K := fun i j => if j < k then (if i = r then A w j else if i = w then A r j else A i j) else A i j
theorem swk_0 (A : Nat → Nat → ro_K) (r w : Nat) : swk A r w 0 = A := by
  funext i j
  exact if_neg (Nat.not_lt_zero j)
theorem swk_s (A : Nat → Nat → ro_K) (r w k : Nat) : up2 (up2 (swk A r w k) r k (swk A r w k w k)) w k (swk A r w k r k) = swk A r w (k + 1) := by
  funext i j
  have e1 : ∀ q, swk A r w k q k = A q k := fun q => if_neg (Nat.lt_irrefl k)
  rw [e1, e1]
  unfold up2 swk
  by_cases hj : j = k
  · subst hj
    by_cases hw : i = w
    · rw [if_pos ⟨hw, rfl⟩, if_pos (by omega)]
      by_cases hr : i = r
      · rw [if_pos hr, ← hw, ← hr]
      · rw [if_neg hr, if_pos hw]
    · rw [if_neg (fun z => hw z.1)]
      by_cases hr : i = r
      · rw [if_pos ⟨hr, rfl⟩, if_pos (by omega), if_pos hr]
      · rw [if_neg (fun z => hr z.1), if_neg (by omega), if_pos (by omega), if_neg hr, if_neg hw]
  · rw [if_neg (fun z => hj z.2), if_neg (fun z => hj z.2)]
    by_cases h : j < k
    · rw [if_pos h, if_pos (show j < k + 1 by omega)]
    · rw [if_neg h, if_neg (show ¬ j < k + 1 by omega)]
def sck (A : Nat → Nat → ro_K) (w : Nat) (x : ro_K) (k : Nat) : Nat → Nat → ro_K := fun i j => if i = w ∧ j < k then A w j * x else A i j
theorem sck_0 (A : Nat → Nat → ro_K) (w : Nat) (x : ro_K) : sck A w x 0 = A := by
  funext i j
  exact if_neg (fun z => Nat.not_lt_zero j z.2)
theorem sck_s (A : Nat → Nat → ro_K) (w : Nat) (x : ro_K) (k : Nat) : up2 (sck A w x k) w k (sck A w x k w k * x) = sck A w x (k + 1) := by
  funext i j
  have e1 : sck A w x k w k = A w k := if_neg (fun z => Nat.lt_irrefl k z.2)
  rw [e1]
  unfold up2 sck
  by_cases h : i = w ∧ j = k
  · rw [if_pos h, if_pos (by omega), h.2]
  · rw [if_neg h]
    by_cases h2 : i = w ∧ j < k
    · rw [if_pos h2, if_pos (by omega)]
    · rw [if_neg h2, if_neg (by omega)]
def clk (A : Nat → Nat → ro_K) (w i0 : Nat) (t : ro_K) (k : Nat) : Nat → Nat → ro_K := fun i j => if i = i0 ∧ j < k then A i0 j - t * A w j else A i j
theorem clk_0 (A : Nat → Nat → ro_K) (w i0 : Nat) (t : ro_K) : clk A w i0 t 0 = A := by
  funext i j
  exact if_neg (fun z => Nat.not_lt_zero j z.2)
theorem clk_s (A : Nat → Nat → ro_K) {w i0 : Nat} (hne : i0 ≠ w) (t : ro_K) (k : Nat) : up2 (clk A w i0 t k) i0 k (clk A w i0 t k i0 k - t * clk A w i0 t k w k) = clk A w i0 t (k + 1) := by
  funext i j
  have e1 : clk A w i0 t k i0 k = A i0 k := if_neg (fun z => Nat.lt_irrefl k z.2)
  have e2 : clk A w i0 t k w k = A w k := if_neg (fun z => hne z.1.symm)
  rw [e1, e2]
  unfold up2 clk
  by_cases h : i = i0 ∧ j = k
  · rw [if_pos h, if_pos (by omega), h.2]
  · rw [if_neg h]
    by_cases h2 : i = i0 ∧ j < k
    · rw [if_pos h2, if_pos (by omega)]
    · rw [if_neg h2, if_neg (by omega)]
def clI (A : Nat → Nat → ro_K) (w p n : Nat) : Nat → Nat → ro_K := fun i j => if i < n ∧ i ≠ w ∧ j < 13 then A i j - A i p * A w j else A i j
theorem clI_0 (A : Nat → Nat → ro_K) (w p : Nat) : clI A w p 0 = A := by
  funext i j
  exact if_neg (fun z => Nat.not_lt_zero i z.1)
theorem clI_row (A : Nat → Nat → ro_K) (w p n j : Nat) : clI A w p n n j = A n j := if_neg (fun z => Nat.lt_irrefl n z.1)
theorem clI_w (A : Nat → Nat → ro_K) (w p n j : Nat) : clI A w p n w j = A w j := if_neg (fun z => z.2.1 rfl)
theorem clI_s (A : Nat → Nat → ro_K) {w p n : Nat} (hne : n ≠ w) : clk (clI A w p n) w n (A n p) 13 = clI A w p (n + 1) := by
  funext i j
  unfold clk
  rw [clI_row, clI_w]
  unfold clI
  by_cases h : i = n ∧ j < 13
  · rw [if_pos h, if_pos ⟨by omega, by rw [h.1]; exact hne, h.2⟩, h.1]
  · rw [if_neg h]
    by_cases h2 : i < n ∧ i ≠ w ∧ j < 13
    · rw [if_pos h2, if_pos ⟨by omega, h2.2⟩]
    · rw [if_neg h2, if_neg (fun z => by
        rcases Nat.lt_or_ge i n with q | q
        · exact h2 ⟨q, z.2⟩
        · exact h ⟨by omega, z.2.2⟩)]
theorem clI_k (A : Nat → Nat → ro_K) {w p n : Nat} (h : n = w ∨ A n p = 0) : clI A w p n = clI A w p (n + 1) := by
  funext i j
  unfold clI
  by_cases h2 : i < n ∧ i ≠ w ∧ j < 13
  · rw [if_pos h2, if_pos ⟨by omega, h2.2⟩]
  · rw [if_neg h2]
    by_cases h3 : i < n + 1 ∧ i ≠ w ∧ j < 13
    · rw [if_pos h3]
      have e : i = n := by
        rcases Nat.lt_or_ge i n with q | q
        · exact absurd ⟨q, h3.2⟩ h2
        · omega
      subst e
      rcases h with h | h
      · exact absurd h h3.2.1
      · rw [h]; grind
    · rw [if_neg h3]
/-- one column: the matrix, behind the row that leads in it comes to place u -/
def gst (A : Nat → Nat → ro_K) (p u : Nat) : Nat → Nat → ro_K := clI (sck (swk A (rwL A p (17 - u)) u 13) u (ro_iv (swk A (rwL A p (17 - u)) u 13 u p)) 13) u p 17
/-- the columns from p on: matrix, leading rows, rows used -/
def rdL : Nat → Nat → Nat → (Nat → Nat → ro_K) → (Nat → Int) → (Nat → Nat → ro_K) × (Nat → Int)
  | 0, _, _, A, L => (A, L)
  | n + 1, p, u, A, L => if rwL A p (17 - u) = 17 then rdL n (p + 1) u A (va_up L p (-1)) else rdL n (p + 1) (u + 1) (gst A p u) (va_up L p (u : Int))
