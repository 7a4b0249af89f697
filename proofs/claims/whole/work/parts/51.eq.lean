section EQ
/-! THE CLASS AGAINST THE REFERENCE: numbers alone, no heap -/
def ag (n w : Nat) (F G : Nat → Nat → ro_K) : Prop := ∀ i, i < n → ∀ j, j < w → F i j = G i j
/-- the rows behind the highest one are 0 -/
def zr (o : Nat) (F : Nat → Nat → ro_K) : Prop := ∀ i, o < i → i < 4 → ∀ j, j < 5 → F i j = 0
theorem ag_tr {n w : Nat} {F G H : Nat → Nat → ro_K} (h1 : ag n w F G) (h2 : ag n w G H) : ag n w F H := fun i hi j hj => (h1 i hi j hj).trans (h2 i hi j hj)
theorem ag_sy {n w : Nat} {F G : Nat → Nat → ro_K} (h1 : ag n w F G) : ag n w G F := fun i hi j hj => (h1 i hi j hj).symm
theorem zr_ag {o : Nat} {F G : Nat → Nat → ro_K} (h : ag 4 5 F G) (z : zr o F) : zr o G := fun i h1 h2 j h3 => (h i h2 j h3).symm.trans (z i h1 h2 j h3)
theorem kfl_lt {F : Nat → ro_K} {n j : Nat} (h : j < n) : kfl F 0 n j = 0 := if_pos h
theorem kfl_ge {F : Nat → ro_K} {n j : Nat} (h : ¬ j < n) : kfl F 0 n j = F j := if_neg h
theorem cpy_lt {f g : Nat → ro_K} {n j : Nat} (h : j < n) : va_cpy f g 0 0 n j = f j := by
  unfold va_cpy
  rw [if_pos ⟨by omega, by omega⟩]
  congr 1
  omega
/-- the numbers with x + b in place of x -/
theorem shO_at (b : ro_K) (F : Nat → ro_K) : shO b 4 F 0 = F 0 + b * F 1 + b * b * F 2 + b * b * b * F 3 + b * b * b * b * F 4 ∧ shO b 4 F 1 = F 1 + 2 * b * F 2 + 3 * b * b * F 3 + 4 * b * b * b * F 4 ∧ shO b 4 F 2 = F 2 + 3 * b * F 3 + 6 * b * b * F 4 ∧ shO b 4 F 3 = F 3 + 4 * b * F 4 ∧ shO b 4 F 4 = F 4 := by
  refine ⟨?_, ?_, ?_, ?_, ?_⟩ <;> simp only [shO, shI, sh1, va_up, Nat.reduceAdd, Nat.reduceSub, Nat.reduceEqDiff, if_true, if_false, reduceIte, Nat.zero_add, Nat.add_zero] <;> grind
theorem lt5 {P : Nat → Prop} (h : P 0 ∧ P 1 ∧ P 2 ∧ P 3 ∧ P 4) : ∀ j, j < 5 → P j := by
  intro j hj
  have : j = 0 ∨ j = 1 ∨ j = 2 ∨ j = 3 ∨ j = 4 := by omega
  rcases this with e | e | e | e | e <;> subst e
  · exact h.1
  · exact h.2.1
  · exact h.2.2.1
  · exact h.2.2.2.1
  · exact h.2.2.2.2
theorem shO_cg (b : ro_K) {F G : Nat → ro_K} (h : ∀ j, j < 5 → F j = G j) : ∀ j, j < 5 → shO b 4 F j = shO b 4 G j := by
  have h0 := h 0 (by omega); have h1 := h 1 (by omega); have h2 := h 2 (by omega); have h3 := h 3 (by omega); have h4 := h 4 (by omega)
  have a := shO_at b F; have c := shO_at b G
  rw [h0, h1, h2, h3, h4] at a
  exact lt5 ⟨a.1.trans c.1.symm, a.2.1.trans c.2.1.symm, a.2.2.1.trans c.2.2.1.symm, a.2.2.2.1.trans c.2.2.2.1.symm, a.2.2.2.2.trans c.2.2.2.2.symm⟩
theorem shO_z (b : ro_K) {F : Nat → ro_K} (h : ∀ j, j < 5 → F j = 0) : ∀ j, j < 5 → shO b 4 F j = 0 := by
  have h0 := h 0 (by omega); have h1 := h 1 (by omega); have h2 := h 2 (by omega); have h3 := h 3 (by omega); have h4 := h 4 (by omega)
  have a := shO_at b F
  rw [h0, h1, h2, h3, h4] at a
  exact lt5 ⟨a.1.trans (by grind), a.2.1.trans (by grind), a.2.2.1.trans (by grind), a.2.2.2.1.trans (by grind), a.2.2.2.2⟩
theorem shO_nz (b : ro_K) {F : Nat → ro_K} (h : ∀ j, j < 5 → shO b 4 F j = 0) : ∀ j, j < 5 → F j = 0 := by
  have h0 := h 0 (by omega); have h1 := h 1 (by omega); have h2 := h 2 (by omega); have h3 := h 3 (by omega); have h4 := h 4 (by omega)
  have a := shO_at b F
  rw [h0, h1, h2, h3, h4] at a
  obtain ⟨a0, a1, a2, a3, a4⟩ := a
  have b4 : F 4 = 0 := a4.symm
  rw [b4] at a0 a1 a2 a3
  have b3 : F 3 = 0 := by grind
  rw [b3] at a0 a1 a2
  have b2 : F 2 = 0 := by grind
  rw [b2] at a0 a1
  have b1 : F 1 = 0 := by grind
  rw [b1] at a0
  have b0 : F 0 = 0 := by grind
  exact lt5 ⟨b0, b1, b2, b3, b4⟩
theorem stE_row (F : Nat → Nat → ro_K) (b : ro_K) (E : Nat → Nat → ro_K) : ∀ k i, stE F b E k i = if i < k then shO b 4 (va_cpy (F i) (E i) 0 0 5) else E i
  | 0, i => (if_neg (Nat.not_lt_zero i)).symm
  | k + 1, i => by
    have ih := stE_row F b E k
    have ek : stE F b E k k = E k := by rw [ih k, if_neg (Nat.lt_irrefl k)]
    show va_up (va_up (stE F b E k) k (va_cpy (F k) (stE F b E k k) 0 0 5)) k (shO b 4 ((va_up (stE F b E k) k (va_cpy (F k) (stE F b E k k) 0 0 5)) k)) i = _
    rw [va_up_self, ek]
    by_cases e : i = k
    · subst e; rw [va_up_self, if_pos (Nat.lt_succ_self i)]
    · rw [va_up_ne _ _ e, va_up_ne _ _ e, ih i]
      by_cases h : i < k
      · rw [if_pos h, if_pos (by omega)]
      · rw [if_neg h, if_neg (by omega)]
theorem mvF_row (b : ro_K) (F : Nat → Nat → ro_K) : ∀ k i, mvF b F k i = if i < k then shO b 4 (F i) else F i
  | 0, i => (if_neg (Nat.not_lt_zero i)).symm
  | k + 1, i => by
    have ih := mvF_row b F k
    have ek : mvF b F k k = F k := by rw [ih k, if_neg (Nat.lt_irrefl k)]
    show va_up (mvF b F k) k (shO b 4 (mvF b F k k)) i = _
    rw [ek]
    by_cases e : i = k
    · subst e; rw [va_up_self, if_pos (Nat.lt_succ_self i)]
    · rw [va_up_ne _ _ e, ih i]
      by_cases h : i < k
      · rw [if_pos h, if_pos (by omega)]
      · rw [if_neg h, if_neg (by omega)]
theorem clF_row (F : Nat → Nat → ro_K) : ∀ k i, clF F k i = if i < k then kfl (F i) 0 5 else F i
  | 0, i => (if_neg (Nat.not_lt_zero i)).symm
  | k + 1, i => by
    have ih := clF_row F k
    have ek : clF F k k = F k := by rw [ih k, if_neg (Nat.lt_irrefl k)]
    show va_up (clF F k) k (kfl (clF F k k) 0 5) i = _
    rw [ek]
    by_cases e : i = k
    · subst e; rw [va_up_self, if_pos (Nat.lt_succ_self i)]
    · rw [va_up_ne _ _ e, ih i]
      by_cases h : i < k
      · rw [if_pos h, if_pos (by omega)]
      · rw [if_neg h, if_neg (by omega)]
theorem cpF_row (E F : Nat → Nat → ro_K) : ∀ k i, cpF E F k i = if i < k then va_cpy (E i) (F i) 0 0 5 else F i
  | 0, i => (if_neg (Nat.not_lt_zero i)).symm
  | k + 1, i => by
    have ih := cpF_row E F k
    have ek : cpF E F k k = F k := by rw [ih k, if_neg (Nat.lt_irrefl k)]
    show va_up (cpF E F k) k (va_cpy (E k) (cpF E F k k) 0 0 5) i = _
    rw [ek]
    by_cases e : i = k
    · subst e; rw [va_up_self, if_pos (Nat.lt_succ_self i)]
    · rw [va_up_ne _ _ e, ih i]
      by_cases h : i < k
      · rw [if_pos h, if_pos (by omega)]
      · rw [if_neg h, if_neg (by omega)]
theorem c2_at (G F : Nat → Nat → ro_K) : ∀ k i j, j < 5 → c2 G F k i j = if 5 * i + j < k then G i j else F i j
  | 0, i, j, _ => (if_neg (Nat.not_lt_zero _)).symm
  | k + 1, i, j, hj => by
    have ih := c2_at G F k i j hj
    show up2 (c2 G F k) (k / 5) (k % 5) (G (k / 5) (k % 5)) i j = _
    unfold up2
    by_cases e : i = k / 5 ∧ j = k % 5
    · rw [if_pos e, if_pos (by omega), e.1, e.2]
    · rw [if_neg e, ih]
      by_cases h : 5 * i + j < k
      · rw [if_pos h, if_pos (by omega)]
      · rw [if_neg h, if_neg (by omega)]
theorem c2_in (G F : Nat → Nat → ro_K) : ag 4 5 (c2 G F 20) G := by
  intro i hi j hj
  rw [c2_at G F 20 i j hj, if_pos (by omega)]
/-- the factors at another place -/
theorem eq_st {F G : Nat → Nat → ro_K} {o : Nat} (b : ro_K) {E E' : Nat → Nat → ro_K} (h : ag 4 5 F G) (z : zr o F) (ze : zr o E) (ho : o ≤ 3) : ag 4 5 (stE F b E (o + 1)) (mvF b (c2 G E' 20) 4) ∧ zr o (stE F b E (o + 1)) := by
  have q : zr o (stE F b E (o + 1)) := by
    intro i h1 h2 j h3
    rw [stE_row, if_neg (by omega)]
    exact ze i h1 h2 j h3
  refine ⟨fun i hi j hj => ?_, q⟩
  rw [mvF_row, if_pos hi]
  by_cases h1 : i < o + 1
  · rw [stE_row, if_pos h1]
    refine shO_cg b (fun k hk => ?_) j hj
    rw [cpy_lt hk, c2_in G E' i hi k hk]
    exact h i hi k hk
  · rw [q i (by omega) hi j hj]
    symm
    refine shO_z b (fun k hk => ?_) j hj
    rw [c2_in G E' i hi k hk, ← h i hi k hk]
    exact z i (by omega) hi k hk
theorem eq_mv {F G : Nat → Nat → ro_K} {o : Nat} (b : ro_K) {E' : Nat → Nat → ro_K} (h : ag 4 5 F G) (z : zr o F) (ho : o ≤ 3) : ag 4 5 (mvF b F (o + 1)) (c2 (mvF b (c2 G E' 20) 4) G 20) ∧ zr o (mvF b F (o + 1)) := by
  have q : zr o (mvF b F (o + 1)) := by
    intro i h1 h2 j h3
    rw [mvF_row, if_neg (by omega)]
    exact z i h1 h2 j h3
  refine ⟨fun i hi j hj => ?_, q⟩
  rw [c2_in _ G i hi j hj, mvF_row b (c2 G E' 20), if_pos hi]
  by_cases h1 : i < o + 1
  · rw [mvF_row, if_pos h1]
    refine shO_cg b (fun k hk => ?_) j hj
    rw [c2_in G E' i hi k hk]
    exact h i hi k hk
  · rw [q i (by omega) hi j hj]
    symm
    refine shO_z b (fun k hk => ?_) j hj
    rw [c2_in G E' i hi k hk, ← h i hi k hk]
    exact z i (by omega) hi k hk
theorem eq_cl {F G : Nat → Nat → ro_K} {o : Nat} (z : zr o F) (ho : o ≤ 3) : ag 4 5 (clF F (o + 1)) (c2 (fun _ _ => 0) G 20) ∧ zr o (clF F (o + 1)) := by
  have q : zr o (clF F (o + 1)) := by
    intro i h1 h2 j h3
    rw [clF_row, if_neg (by omega)]
    exact z i h1 h2 j h3
  refine ⟨fun i hi j hj => ?_, q⟩
  rw [c2_in _ G i hi j hj]
  by_cases h1 : i < o + 1
  · rw [clF_row, if_pos h1]; exact kfl_lt hj
  · exact q i (by omega) hi j hj
theorem eq_put {F G : Nat → Nat → ro_K} {o : Nat} (h : ag 4 5 F G) (z : zr o F) {i pw : Nat} (hi : i ≤ o) (x : ro_K) : ag 4 5 (up2 F i pw x) (up2 G i pw x) ∧ zr o (up2 F i pw x) := by
  refine ⟨fun a ha b hb => ?_, fun a h1 h2 b hb => ?_⟩
  · unfold up2
    by_cases e : a = i ∧ b = pw
    · rw [if_pos e, if_pos e]
    · rw [if_neg e, if_neg e]; exact h a ha b hb
  · unfold up2
    rw [if_neg (by omega)]
    exact z a h1 h2 b hb
/-! the adjoint -/
def aX (F : Nat → Nat → ro_K) (i j p : Nat) : ro_K := if j ≤ i ∧ i - j + p < 5 then ro_k (sgI i * chL (4 * i + j)) * (F i (i - j + p) * ro_k (ffz ((i - j + p : Nat) : Int) (i - j))) else 0
theorem tnK_at (F : Nat → Nat → ro_K) (i j : Nat) (w : ro_K) (T : Nat → Nat → ro_K) : ∀ k a b, tnK F i j w T k a b = T a b + if a = j ∧ b < k then w * (F i (i - j + b) * ro_k (ffz ((i - j + b : Nat) : Int) (i - j))) else 0
  | 0, a, b => by
    rw [if_neg (by omega)]
    show T a b = _
    grind
  | k + 1, a, b => by
    show up2 (tnK F i j w T k) j k (tnK F i j w T k j k + w * (F i (i - j + k) * ro_k (ffz ((i - j + k : Nat) : Int) (i - j)))) a b = _
    unfold up2
    by_cases e : a = j ∧ b = k
    · rw [if_pos e, e.1, e.2, tnK_at F i j w T k j k, if_neg (by omega), if_pos (by omega)]
      grind
    · rw [if_neg e, tnK_at F i j w T k a b]
      by_cases h : a = j ∧ b < k
      · rw [if_pos h, if_pos (by omega)]
      · rw [if_neg h, if_neg (by omega)]
theorem tnJ_at (F : Nat → Nat → ro_K) (i : Nat) (T : Nat → Nat → ro_K) : ∀ k a b, k ≤ i + 1 → tnJ F i (sgI i) T k a b = T a b + if a < k then aX F i a b else 0
  | 0, a, b, _ => by
    rw [if_neg (by omega)]
    show T a b = _
    grind
  | k + 1, a, b, hk => by
    show tnK F i k (ro_k (sgI i * chL (4 * i + k))) (tnJ F i (sgI i) T k) (5 - (i - k)) a b = _
    rw [tnK_at, tnJ_at F i T k a b (by omega)]
    by_cases e : a = k
    · subst e
      rw [if_neg (Nat.lt_irrefl a), if_pos (Nat.lt_succ_self a)]
      unfold aX
      by_cases h : b < 5 - (i - a)
      · rw [if_pos ⟨rfl, h⟩, if_pos (by omega)]; grind
      · rw [if_neg (by omega), if_neg (by omega)]; grind
    · rw [if_neg (show ¬ (a = k ∧ b < 5 - (i - k)) from fun z => e z.1)]
      by_cases h : a < k
      · rw [if_pos h, if_pos (by omega)]; grind
      · rw [if_neg h, if_neg (by omega)]; grind
theorem tnI_at (F T : Nat → Nat → ro_K) : ∀ k a b, tnI F T (k + 1) a b = tnI F T k a b + aX F k a b := by
  intro k a b
  show tnJ F k (sgI k) (tnI F T k) (k + 1) a b = _
  rw [tnJ_at F k _ (k + 1) a b (Nat.le_refl _)]
  by_cases h : a < k + 1
  · rw [if_pos h]
  · rw [if_neg h]
    unfold aX
    rw [if_neg (by omega)]
theorem slK_ff (F : Nat → ro_K) (pw : Nat) : ∀ tm, tm ≤ 3 → slK F pw tm tm = F (pw + tm) * ro_k (ffz ((tm + pw : Nat) : Int) tm) := by
  intro tm htm
  have : tm = 0 ∨ tm = 1 ∨ tm = 2 ∨ tm = 3 := by omega
  rcases this with e | e | e | e <;> subst e
  · show F (pw + 0) = F (pw + 0) * ro_k 1
    rw [ro_k1]; grind
  · show F (pw + 1) * ro_k ((pw : Int) + (((0 : Nat) : Int) + 1)) = F (pw + 1) * ro_k (1 * (((1 + pw : Nat) : Int) - ((0 : Nat) : Int)))
    congr 2; omega
  · show F (pw + 2) * ro_k ((pw : Int) + (((0 : Nat) : Int) + 1)) * ro_k ((pw : Int) + (((1 : Nat) : Int) + 1)) = F (pw + 2) * ro_k (1 * (((2 + pw : Nat) : Int) - ((0 : Nat) : Int)) * (((2 + pw : Nat) : Int) - ((1 : Nat) : Int)))
    have e1 : (pw : Int) + (((0 : Nat) : Int) + 1) = (pw : Int) + 1 := by omega
    have e2 : (pw : Int) + (((1 : Nat) : Int) + 1) = (pw : Int) + 2 := by omega
    have e3 : 1 * (((2 + pw : Nat) : Int) - ((0 : Nat) : Int)) = (pw : Int) + 2 := by omega
    have e4 : ((2 + pw : Nat) : Int) - ((1 : Nat) : Int) = (pw : Int) + 1 := by omega
    rw [e1, e2, e3, e4, ro_k_mul]; grind
  · show F (pw + 3) * ro_k ((pw : Int) + (((0 : Nat) : Int) + 1)) * ro_k ((pw : Int) + (((1 : Nat) : Int) + 1)) * ro_k ((pw : Int) + (((2 : Nat) : Int) + 1)) = F (pw + 3) * ro_k (1 * (((3 + pw : Nat) : Int) - ((0 : Nat) : Int)) * (((3 + pw : Nat) : Int) - ((1 : Nat) : Int)) * (((3 + pw : Nat) : Int) - ((2 : Nat) : Int)))
    have e1 : (pw : Int) + (((0 : Nat) : Int) + 1) = (pw : Int) + 1 := by omega
    have e2 : (pw : Int) + (((1 : Nat) : Int) + 1) = (pw : Int) + 2 := by omega
    have e5 : (pw : Int) + (((2 : Nat) : Int) + 1) = (pw : Int) + 3 := by omega
    have e3 : 1 * (((3 + pw : Nat) : Int) - ((0 : Nat) : Int)) = (pw : Int) + 3 := by omega
    have e4 : ((3 + pw : Nat) : Int) - ((1 : Nat) : Int) = (pw : Int) + 2 := by omega
    have e6 : ((3 + pw : Nat) : Int) - ((2 : Nat) : Int) = (pw : Int) + 1 := by omega
    rw [e1, e2, e3, e4, e5, e6, ro_k_mul, ro_k_mul]; grind
theorem adS_at (F : Nat → Nat → ro_K) (j p : Nat) : ∀ k, j + k ≤ 3 → adS F j p (k + 1) = adS F j p k + aX F (j + k) j p := by
  intro k hk
  show adS F j p k + (if (j + k) % 2 = 0 then ro_k (chL (4 * (j + k) + j)) * slV (F (j + k)) p k else -(ro_k (chL (4 * (j + k) + j)) * slV (F (j + k)) p k)) = _
  congr 1
  unfold aX slV sgI
  have e1 : j + k - j = k := by omega
  rw [e1]
  by_cases h : p + k < 5
  · rw [if_pos h, if_pos (show j ≤ j + k ∧ k + p < 5 by omega), slK_ff _ _ _ (by omega), Nat.add_comm k p]
    by_cases h2 : (j + k) % 2 = 0
    · rw [if_pos h2, if_pos h2, Int.one_mul]
    · rw [if_neg h2, if_neg h2, ro_k_mul, ro_k_neg, ro_k1]; grind
  · rw [if_neg h, if_neg (show ¬ (j ≤ j + k ∧ k + p < 5) by omega)]
    by_cases h2 : (j + k) % 2 = 0
    · rw [if_pos h2]; grind
    · rw [if_neg h2]; grind
theorem tnI_low (F T : Nat → Nat → ro_K) (a b : Nat) : ∀ k, k ≤ a → tnI F T k a b = T a b
  | 0, _ => rfl
  | k + 1, h => by
    rw [tnI_at, tnI_low F T a b k (by omega)]
    unfold aX
    rw [if_neg (by omega)]; grind
theorem eq_ad {F T : Nat → Nat → ro_K} {a b : Nat} (hT : T a b = 0) : ∀ k, a + k ≤ 4 → tnI F T (a + k) a b = adS F a b k
  | 0, _ => by rw [Nat.add_zero, tnI_low F T a b a (Nat.le_refl a), hT]; rfl
  | k + 1, h => by
    rw [← Nat.add_assoc, tnI_at, eq_ad hT k (by omega), adS_at F a b k (by omega)]
theorem aX_cg {F G : Nat → Nat → ro_K} (h : ag 4 5 F G) {i j p : Nat} (hi : i < 4) : aX F i j p = aX G i j p := by
  unfold aX
  by_cases e : j ≤ i ∧ i - j + p < 5
  · rw [if_pos e, if_pos e, h i hi _ e.2]
  · rw [if_neg e, if_neg e]
theorem tnI_cg {F G T : Nat → Nat → ro_K} (h : ag 4 5 F G) (a b : Nat) : ∀ k, k ≤ 4 → tnI F T k a b = tnI G T k a b
  | 0, _ => rfl
  | k + 1, hk => by rw [tnI_at, tnI_at, tnI_cg h a b k (by omega), aX_cg h (by omega)]
theorem tuR_at (F : Nat → Nat → ro_K) (o : Nat) (E : Nat → Nat → ro_K) (j : Nat) : ∀ p a b, tuR F o E j p a b = if a = j ∧ b < p then adS F j b (o + 1 - j) else E a b
  | 0, a, b => (if_neg (by omega)).symm
  | p + 1, a, b => by
    show up2 (tuR F o E j p) j p (adS F j p (o + 1 - j)) a b = _
    unfold up2
    by_cases e : a = j ∧ b = p
    · rw [if_pos e, if_pos (by omega), e.2]
    · rw [if_neg e, tuR_at F o E j p a b]
      by_cases h : a = j ∧ b < p
      · rw [if_pos h, if_pos (by omega)]
      · rw [if_neg h, if_neg (by omega)]
theorem tuE_at (F : Nat → Nat → ro_K) (o : Nat) (E : Nat → Nat → ro_K) : ∀ k a b, tuE F o E k a b = if a < k ∧ b < 5 then adS F a b (o + 1 - a) else E a b
  | 0, a, b => (if_neg (by omega)).symm
  | k + 1, a, b => by
    show tuR F o (tuE F o E k) k 5 a b = _
    rw [tuR_at, tuE_at F o E k a b]
    by_cases e : a = k ∧ b < 5
    · rw [if_pos e, if_pos (by omega), e.1]
    · rw [if_neg e]
      by_cases h : a < k ∧ b < 5
      · rw [if_pos h, if_pos (by omega)]
      · rw [if_neg h, if_neg (by omega)]
theorem eq_tu {F G : Nat → Nat → ro_K} {o : Nat} {E T : Nat → Nat → ro_K} (h : ag 4 5 F G) (z : zr o F) (ze : zr o E) (ho : o ≤ 3) : ag 4 5 (cpF (tuE F o E (o + 1)) F (o + 1)) (c2 (tnI G (c2 (fun _ _ => 0) T 20) (o + 1)) G 20) ∧ zr o (cpF (tuE F o E (o + 1)) F (o + 1)) ∧ zr o (tuE F o E (o + 1)) := by
  have q : zr o (cpF (tuE F o E (o + 1)) F (o + 1)) := by
    intro i h1 h2 j h3
    rw [cpF_row, if_neg (by omega)]
    exact z i h1 h2 j h3
  have q2 : zr o (tuE F o E (o + 1)) := by
    intro i h1 h2 j h3
    rw [tuE_at, if_neg (by omega)]
    exact ze i h1 h2 j h3
  refine ⟨fun i hi j hj => ?_, q, q2⟩
  have hT : c2 (fun _ _ => (0 : ro_K)) T 20 i j = 0 := c2_in _ T i hi j hj
  rw [c2_in _ G i hi j hj]
  by_cases h1 : i < o + 1
  · rw [cpF_row, if_pos h1, cpy_lt hj, tuE_at, if_pos ⟨h1, hj⟩, ← tnI_cg h i j (o + 1) (by omega)]
    have e : o + 1 = i + (o + 1 - i) := by omega
    rw [e, eq_ad hT (o + 1 - i) (by omega), ← e]
  · rw [q i (by omega) hi j hj, tnI_low _ _ i j (o + 1) (by omega), hT]
/-! what is made -/
theorem shS_cg {F G : Nat → Nat → ro_K} (h : ag 4 5 F G) (n g : Int) : ∀ k, k ≤ 4 → shS F n g k = shS G n g k
  | 0, _ => rfl
  | k + 1, hk => by
    show shS F n g k + (if 0 ≤ g + k ∧ g + k < 5 then F k (g + k).toNat * ro_k (ffz n k) else 0) = shS G n g k + (if 0 ≤ g + k ∧ g + k < 5 then G k (g + k).toNat * ro_k (ffz n k) else 0)
    rw [shS_cg h n g k (by omega)]
    by_cases e : 0 ≤ g + k ∧ g + k < 5
    · rw [if_pos e, if_pos e, h k (by omega) _ (by omega)]
    · rw [if_neg e, if_neg e]
theorem mkJ_at (F : Nat → Nat → ro_K) (i s : Nat) (v : ro_K) (P : Nat → ro_K) : ∀ k q, mkJ F i s v P k q = P q + if s ≤ q ∧ q < s + k then v * F i (q - s) else 0
  | 0, q => by
    rw [if_neg (by omega)]
    show P q = _
    grind
  | k + 1, q => by
    show va_up (mkJ F i s v P k) (s + k) (mkJ F i s v P k (s + k) + v * F i k) q = _
    by_cases e : q = s + k
    · subst e
      rw [va_up_self, mkJ_at F i s v P k (s + k), if_neg (by omega), if_pos (by omega), Nat.add_sub_cancel_left]
      grind
    · rw [va_up_ne _ _ e, mkJ_at F i s v P k q]
      by_cases h : s ≤ q ∧ q < s + k
      · rw [if_pos h, if_pos (by omega)]
      · rw [if_neg h, if_neg (by omega)]
theorem mkI_at (F : Nat → Nat → ro_K) (n : Nat) (t : ro_K) (P : Nat → ro_K) (q : Nat) : ∀ k, k ≤ n + 1 → mkI F n t P k q = P q + t * shS F (n : Int) ((q : Int) - n) k
  | 0, _ => by
    show P q = P q + t * 0
    grind
  | k + 1, hk => by
    show mkJ F k (n - k) (t * ro_k (ffz (n : Int) k)) (mkI F n t P k) 5 q = P q + t * (shS F (n : Int) ((q : Int) - n) k + (if 0 ≤ (q : Int) - n + k ∧ (q : Int) - n + k < 5 then F k ((q : Int) - n + k).toNat * ro_k (ffz (n : Int) k) else 0))
    rw [mkJ_at, mkI_at F n t P q k (by omega)]
    by_cases e : n - k ≤ q ∧ q < n - k + 5
    · rw [if_pos e, if_pos (by omega)]
      have : ((q : Int) - n + k).toNat = q - (n - k) := by omega
      rw [this]; grind
    · rw [if_neg e, if_neg (by omega)]; grind
theorem ffz_z (n : Nat) : ∀ i, n < i → ffz (n : Int) i = 0
  | 0, h => absurd h (Nat.not_lt_zero n)
  | i + 1, h => by
    show ffz (n : Int) i * ((n : Int) - i) = 0
    by_cases e : n = i
    · subst e; rw [Int.sub_self, Int.mul_zero]
    · rw [ffz_z n i (by omega), Int.zero_mul]
theorem shS_far (F : Nat → Nat → ro_K) (n : Nat) (g : Int) : ∀ d, shS F (n : Int) g (n + 1 + d) = shS F (n : Int) g (n + 1)
  | 0 => rfl
  | d + 1 => by
    show shS F (n : Int) g (n + 1 + d) + (if 0 ≤ g + ((n + 1 + d : Nat) : Int) ∧ g + ((n + 1 + d : Nat) : Int) < 5 then F (n + 1 + d) (g + ((n + 1 + d : Nat) : Int)).toNat * ro_k (ffz (n : Int) (n + 1 + d)) else 0) = _
    rw [shS_far F n g d, ffz_z n _ (by omega), ro_k0]
    by_cases e : 0 ≤ g + ((n + 1 + d : Nat) : Int) ∧ g + ((n + 1 + d : Nat) : Int) < 5
    · rw [if_pos e]; grind
    · rw [if_neg e]; grind
theorem mkN_at (F : Nat → Nat → ro_K) (o n : Nat) (t : ro_K) (P : Nat → ro_K) (q : Nat) : mkN F o n t P q = P q + t * shS F (n : Int) ((q : Int) - n) (o + 1) := by
  unfold mkN
  rw [mkI_at F n t P q _ (by omega)]
  by_cases h : o ≤ n
  · rw [Nat.min_eq_left h]
  · rw [Nat.min_eq_right (by omega)]
    have e : o + 1 = n + 1 + (o - n) := by omega
    rw [e, shS_far]
theorem mkA_at (F : Nat → Nat → ro_K) (o : Nat) (a P : Nat → ro_K) (q : Nat) : ∀ k, mkA F o a P k q = P q + maS F o a (q : Int) k
  | 0 => by
    show P q = P q + 0
    grind
  | k + 1 => by
    show mkN F o k (a k) (mkA F o a P k) q = P q + (maS F o a (q : Int) k + a k * shS F (k : Int) ((q : Int) - k) (o + 1))
    rw [mkN_at, mkA_at F o a P q k]; grind
theorem maS_cg {F G : Nat → Nat → ro_K} (h : ag 4 5 F G) {o : Nat} (ho : o ≤ 3) {a a' : Nat → ro_K} (pw : Int) : ∀ k, (∀ j, j < k → a j = a' j) → maS F o a pw k = maS G o a' pw k
  | 0, _ => rfl
  | k + 1, ha => by
    show maS F o a pw k + a k * shS F (k : Int) (pw - k) (o + 1) = maS G o a' pw k + a' k * shS G (k : Int) (pw - k) (o + 1)
    rw [maS_cg h ho pw k (fun j hj => ha j (by omega)), ha k (by omega), shS_cg h _ _ (o + 1) (by omega)]
theorem eq_ma {F G : Nat → Nat → ro_K} (h : ag 4 5 F G) {o : Nat} (ho : o ≤ 3) {a a' : Nat → ro_K} (ha : ∀ j, j < 13 → a j = a' j) (P : Nat → ro_K) {q : Nat} (hq : q < 17) : mkA G o a' (kfl P 0 17) 13 q = maS F o a (q : Int) 13 := by
  rw [mkA_at, kfl_lt hq, maS_cg h ho _ 13 ha]; grind
theorem slB_at (F : Nat → Nat → ro_K) (o : Nat) (a : Nat → ro_K) : ∀ k, slB F o a k = true ↔ ∀ q, q < k → maS F o a (q : Int) 13 = 0
  | 0 => ⟨fun _ q hq => absurd hq (Nat.not_lt_zero q), fun _ => rfl⟩
  | k + 1 => by
    have ih := slB_at F o a k
    show (slB F o a k && decide (maS F o a (k : Int) 13 = 0)) = true ↔ _
    rw [Bool.and_eq_true, decide_eq_true_iff, ih]
    constructor
    · intro h q hq
      by_cases e : q = k
      · subst e; exact h.2
      · exact h.1 q (by omega)
    · intro h
      exact ⟨fun q hq => h q (by omega), h k (by omega)⟩
theorem eq_sl {F G : Nat → Nat → ro_K} (h : ag 4 5 F G) {o : Nat} (ho : o ≤ 3) {a a' : Nat → ro_K} (ha : ∀ j, j < 13 → a j = a' j) (P : Nat → ro_K) : slB F o a 17 = true ↔ azN (mkA G o a' (kfl P 0 17) 13) 17 := by
  rw [slB_at]
  constructor
  · intro e q hq
    rw [eq_ma h ho ha P hq]; exact e q hq
  · intro e q hq
    rw [← eq_ma h ho ha P hq]; exact e q hq
end EQ
