section EQ
/-! places, levels, exponents -/
theorem kd_cg {F G : Nat → ro_K} : ∀ n, (∀ j, j < n → F j = G j) → kd F n = kd G n
  | 0, _ => rfl
  | n + 1, h => by
    show (if F n = 0 then kd F n else (n : Int)) = (if G n = 0 then kd G n else (n : Int))
    rw [h n (by omega), kd_cg n (fun j hj => h j (by omega))]
theorem rts_cg {F G : Nat → ro_K} (h : ∀ j, j < 5 → F j = G j) {n : Nat} {Fo : Nat → ro_K} (r : rts F n Fo) : rts G n Fo :=
  ⟨r.1, r.2.1, fun x => by rw [← ro_ev_congr 5 x h]; exact r.2.2 x⟩
theorem cntN_Z (f : Nat → ro_K) : ∀ x, cntN f x = cntZ (fun y => ro_ev 5 f (ro_k (y : Int))) x
  | 0 => rfl
  | x + 1 => by
    show (if ro_ev 5 f (ro_k (x : Int)) = 0 then cntN f x + 1 else cntN f x) = (if ro_ev 5 f (ro_k (x : Int)) = 0 then cntZ (fun y => ro_ev 5 f (ro_k (y : Int))) x + 1 else cntZ (fun y => ro_ev 5 f (ro_k (y : Int))) x)
    rw [cntN_Z f x]
theorem ro_k_v {x : Nat} (h : x < 32003) : (ro_k (x : Int)).val = x := by rw [ro_k_val]; omega
/-- the zeros below x are the first roots -/
theorem cnt_at {g : Nat → ro_K} {n : Nat} {Fo : Nat → ro_K} (hs : srt Fo n) (hg : ∀ x, x < 32003 → (g x = 0 ↔ ∃ j, j < n ∧ (Fo j).val = x)) : ∀ x, x ≤ 32003 → cntZ g x ≤ n ∧ ∀ j, j < n → ((Fo j).val < x ↔ j < cntZ g x)
  | 0, _ => ⟨Nat.zero_le n, fun j _ => by show _ ↔ j < 0; omega⟩
  | x + 1, hx => by
    obtain ⟨i1, i2⟩ := cnt_at hs hg x (by omega)
    have hgx := hg x (by omega)
    show (if g x = 0 then cntZ g x + 1 else cntZ g x) ≤ n ∧ ∀ j, j < n → ((Fo j).val < x + 1 ↔ j < (if g x = 0 then cntZ g x + 1 else cntZ g x))
    by_cases h : g x = 0
    · rw [if_pos h]
      obtain ⟨j0, hj0, e0⟩ := hgx.mp h
      have a1 : ¬ j0 < cntZ g x := fun z => by have := (i2 j0 hj0).mpr z; omega
      have a2 : j0 = cntZ g x := by
        by_cases q : j0 = cntZ g x
        · exact q
        · have := hs (cntZ g x) j0 (by omega) hj0
          have := (i2 (cntZ g x) (by omega)).mp (by omega)
          omega
      refine ⟨by omega, fun j hj => ?_⟩
      by_cases q : j = j0
      · subst q; omega
      · have b := i2 j hj
        have b2 : (Fo j).val ≠ x := by
          intro z
          rcases Nat.lt_or_gt_of_ne q with w | w
          · have := hs j j0 w hj0; omega
          · have := hs j0 j w hj; omega
        omega
    · rw [if_neg h]
      refine ⟨i1, fun j hj => ?_⟩
      have b := i2 j hj
      have b2 : (Fo j).val ≠ x := fun z => h (hgx.mpr ⟨j, hj, z⟩)
      omega
theorem cnt_all {g : Nat → ro_K} {n : Nat} {Fo : Nat → ro_K} (hs : srt Fo n) (hg : ∀ x, x < 32003 → (g x = 0 ↔ ∃ j, j < n ∧ (Fo j).val = x)) : cntZ g 32003 = n := by
  obtain ⟨i1, i2⟩ := cnt_at hs hg 32003 (Nat.le_refl _)
  by_cases h : cntZ g 32003 = n
  · exact h
  · have := (i2 (cntZ g 32003) (by omega)).mp (Fo _).isLt
    omega
/-- the k-th zero is the k-th root -/
theorem cnt_k {g : Nat → ro_K} {n : Nat} {Fo : Nat → ro_K} (hs : srt Fo n) (hg : ∀ x, x < 32003 → (g x = 0 ↔ ∃ j, j < n ∧ (Fo j).val = x)) {x : Nat} (hx : x < 32003) (h0 : g x = 0) : cntZ g x < n ∧ (Fo (cntZ g x)).val = x := by
  obtain ⟨j0, hj0, e0⟩ := (hg x hx).mp h0
  obtain ⟨i1, i2⟩ := cnt_at hs hg x (by omega)
  have a1 : ¬ j0 < cntZ g x := fun z => by have := (i2 j0 hj0).mpr z; omega
  have a2 : j0 = cntZ g x := by
    by_cases q : j0 = cntZ g x
    · exact q
    · have := hs (cntZ g x) j0 (by omega) hj0
      have := (i2 (cntZ g x) (by omega)).mp (by omega)
      omega
  rw [← a2]
  exact ⟨hj0, e0⟩
theorem cnt_j {g : Nat → ro_K} {n : Nat} {Fo : Nat → ro_K} (hs : srt Fo n) (hg : ∀ x, x < 32003 → (g x = 0 ↔ ∃ j, j < n ∧ (Fo j).val = x)) {j : Nat} (hj : j < n) : g (Fo j).val = 0 ∧ cntZ g (Fo j).val = j := by
  have h0 : g (Fo j).val = 0 := (hg _ (Fo j).isLt).mpr ⟨j, hj, rfl⟩
  have a := cnt_k hs hg (Fo j).isLt h0
  refine ⟨h0, ?_⟩
  by_cases e : cntZ g (Fo j).val = j
  · exact e
  · rcases Nat.lt_or_gt_of_ne e with w | w
    · have := hs _ _ w hj; omega
    · have := hs _ _ w a.1; omega
theorem rts_g {F : Nat → ro_K} {n : Nat} {Fo : Nat → ro_K} (r : rts F n Fo) : ∀ x : Nat, x < 32003 → (ro_ev 5 F (ro_k (x : Int)) = 0 ↔ ∃ j, j < n ∧ (Fo j).val = x) := by
  intro x hx
  rw [← r.2.2 (ro_k (x : Int))]
  constructor
  · rintro ⟨j, hj, e⟩
    exact ⟨j, hj, by rw [e, ro_k_v hx]⟩
  · rintro ⟨j, hj, e⟩
    refine ⟨j, hj, ?_⟩
    rw [← e, ro_k_back]
theorem rts_n {F : Nat → ro_K} {n : Nat} {Fo : Nat → ro_K} (r : rts F n Fo) : cntN F 32003 = n := by
  rw [cntN_Z]; exact cnt_all r.2.1 (rts_g r)
theorem rts_k {F : Nat → ro_K} {n : Nat} {Fo : Nat → ro_K} (r : rts F n Fo) {x : Nat} (hx : x < 32003) (h0 : ro_ev 5 F (ro_k (x : Int)) = 0) : cntN F x < n ∧ (Fo (cntN F x)).val = x := by
  rw [cntN_Z]; exact cnt_k r.2.1 (rts_g r) hx h0
theorem rts_j {F : Nat → ro_K} {n : Nat} {Fo : Nat → ro_K} (r : rts F n Fo) {j : Nat} (hj : j < n) : ro_ev 5 F (ro_k ((Fo j).val : Int)) = 0 ∧ cntN F (Fo j).val = j := by
  rw [cntN_Z]; exact cnt_j r.2.1 (rts_g r) hj
theorem kd_neg {F : Nat → ro_K} {n : Nat} : kd F n < 0 ↔ ∀ i, i < n → F i = 0 := by
  rcases kd_spec F n with h | ⟨d, e, hd, hn, _⟩
  · exact ⟨fun _ => h.2, fun _ => h.1⟩
  · exact ⟨fun z => by omega, fun z => absurd (z d hd) hn⟩
theorem azB_at (F : Nat → Nat → ro_K) : ∀ k, azB F k = true ↔ ∀ i, i < k → ∀ j, j < 5 → F i j = 0
  | 0 => ⟨fun _ i hi => absurd hi (Nat.not_lt_zero i), fun _ => rfl⟩
  | k + 1 => by
    have ih := azB_at F k
    show (azB F k && decide (kd (F k) 5 < 0)) = true ↔ _
    rw [Bool.and_eq_true, decide_eq_true_iff, ih, kd_neg]
    constructor
    · intro h i hi
      by_cases e : i = k
      · subst e; exact h.2
      · exact h.1 i (by omega)
    · intro h
      exact ⟨fun i hi => h i (by omega), h k (by omega)⟩
theorem eq_az {F G : Nat → Nat → ro_K} {o : Nat} (h : ag 4 5 F G) (z : zr o F) (ho : o ≤ 3) : azB F (o + 1) = true ↔ azN (fl 5 G) 20 := by
  rw [azB_at]
  constructor
  · intro a k hk
    show G (k / 5) (k % 5) = 0
    rw [← h (k / 5) (by omega) (k % 5) (by omega)]
    by_cases e : k / 5 < o + 1
    · exact a _ e _ (by omega)
    · exact z _ (by omega) (by omega) _ (by omega)
  · intro a i hi j hj
    rw [h i (by omega) j hj]
    have b := a (5 * i + j) (by omega)
    have e1 : (5 * i + j) / 5 = i := by omega
    have e2 : (5 * i + j) % 5 = j := by omega
    show G i j = 0
    unfold fl at b
    rw [e1, e2] at b
    exact b
/-- g is a gap of the first n rows, told of numbers -/
def gp (E : Nat → Nat → ro_K) (n : Nat) (g : Int) : Prop := ∃ i j : Nat, i < n ∧ j < 5 ∧ E i j ≠ 0 ∧ (j : Int) - i = g
theorem igL_at (E : Nat → Nat → ro_K) (g : Int) : ∀ n i, igL E g n i = true ↔ ∃ k, i ≤ k ∧ k < i + n ∧ oat E k (g + k) ≠ 0
  | 0, i => ⟨fun h => absurd h (by show ¬ (false = true); decide), fun ⟨k, h1, h2, _⟩ => by omega⟩
  | n + 1, i => by
    have ih := igL_at E g n (i + 1)
    show (if oat E i (g + i) = 0 then igL E g n (i + 1) else true) = true ↔ _
    by_cases h : oat E i (g + i) = 0
    · rw [if_pos h, ih]
      constructor
      · rintro ⟨k, h1, h2, h3⟩; exact ⟨k, by omega, by omega, h3⟩
      · rintro ⟨k, h1, h2, h3⟩
        refine ⟨k, ?_, by omega, h3⟩
        by_cases e : k = i
        · subst e; exact absurd h h3
        · omega
    · rw [if_neg h]
      exact ⟨fun _ => ⟨i, by omega, by omega, h⟩, fun _ => rfl⟩
theorem igB_at (E : Nat → Nat → ro_K) (o : Nat) (g : Int) : igB E o g = true ↔ gp E (o + 1) g := by
  unfold igB
  rw [igL_at]
  constructor
  · rintro ⟨k, h1, h2, h3⟩
    unfold oat at h3
    by_cases e : 0 ≤ g + k ∧ g + k < 5
    · rw [if_pos e] at h3
      exact ⟨k, (g + k).toNat, by omega, by omega, h3, by omega⟩
    · rw [if_neg e] at h3; exact absurd rfl h3
  · rintro ⟨i, j, h1, h2, h3, h4⟩
    refine ⟨i, by omega, by omega, ?_⟩
    unfold oat
    rw [if_pos (by omega)]
    have : (g + (i : Int)).toNat = j := by omega
    rw [this]; exact h3
theorem lgL_sp (E : Nat → Nat → ro_K) (o : Nat) : ∀ n, (gp E (o + 1) (lgL E o n) ∨ lgL E o n = 4) ∧ ∀ g, 4 - (n : Int) ≤ g → g < lgL E o n → ¬ gp E (o + 1) g
  | 0 => ⟨Or.inr rfl, fun g h1 h2 => by have h2 : g < 4 := h2; omega⟩
  | n + 1 => by
    have ih := lgL_sp E o n
    show (gp E (o + 1) (if igB E o (3 - (n : Int)) = true then 3 - (n : Int) else lgL E o n) ∨ (if igB E o (3 - (n : Int)) = true then 3 - (n : Int) else lgL E o n) = 4) ∧ ∀ g, 4 - ((n + 1 : Nat) : Int) ≤ g → g < (if igB E o (3 - (n : Int)) = true then 3 - (n : Int) else lgL E o n) → ¬ gp E (o + 1) g
    by_cases h : igB E o (3 - (n : Int)) = true
    · rw [if_pos h]
      exact ⟨Or.inl ((igB_at E o _).mp h), fun g h1 h2 => by omega⟩
    · rw [if_neg h]
      refine ⟨ih.1, fun g h1 h2 => ?_⟩
      by_cases e : g = 3 - (n : Int)
      · subst e; exact fun z => h ((igB_at E o _).mpr z)
      · exact ih.2 g (by omega) h2
theorem ggL_sp (E : Nat → Nat → ro_K) (o : Nat) : ∀ n, (gp E (o + 1) (ggL E o n) ∨ ggL E o n = -(o : Int)) ∧ ∀ g, g ≤ (n : Int) - o → ggL E o n < g → ¬ gp E (o + 1) g
  | 0 => ⟨Or.inr rfl, fun g h1 h2 => by have h2 : -(o : Int) < g := h2; omega⟩
  | n + 1 => by
    have ih := ggL_sp E o n
    show (gp E (o + 1) (if igB E o ((n : Int) + 1 - o) = true then (n : Int) + 1 - o else ggL E o n) ∨ (if igB E o ((n : Int) + 1 - o) = true then (n : Int) + 1 - o else ggL E o n) = -(o : Int)) ∧ ∀ g, g ≤ ((n + 1 : Nat) : Int) - o → (if igB E o ((n : Int) + 1 - o) = true then (n : Int) + 1 - o else ggL E o n) < g → ¬ gp E (o + 1) g
    by_cases h : igB E o ((n : Int) + 1 - o) = true
    · rw [if_pos h]
      exact ⟨Or.inl ((igB_at E o _).mp h), fun g h1 h2 => by omega⟩
    · rw [if_neg h]
      refine ⟨ih.1, fun g h1 h2 => ?_⟩
      by_cases e : g = (n : Int) + 1 - o
      · subst e; exact fun z => h ((igB_at E o _).mpr z)
      · exact ih.2 g (by omega) h2
/-- the level is a gap, and none lies before it -/
theorem gtL_sp {E : Nat → Nat → ro_K} {o : Nat} {ze : Int} (hn : ∃ g, gp E (o + 1) g) : gp E (o + 1) (gtL E o ze) ∧ ∀ g, gp E (o + 1) g → if ze = 0 then gtL E o ze ≤ g else g ≤ gtL E o ze := by
  have hr : ∀ g, gp E (o + 1) g → -(o : Int) ≤ g ∧ g ≤ 4 := by
    rintro g ⟨i, j, h1, h2, h3, h4⟩; omega
  obtain ⟨g0, hg0⟩ := hn
  unfold gtL
  by_cases h : ze = 0
  · simp only [if_pos h]
    obtain ⟨a, b⟩ := lgL_sp E o (4 + o)
    have mn : ∀ g, gp E (o + 1) g → lgL E o (4 + o) ≤ g := by
      intro g hg
      have r := hr g hg
      by_cases q : lgL E o (4 + o) ≤ g
      · exact q
      · exact absurd hg (b g (by omega) (by omega))
    refine ⟨?_, mn⟩
    rcases a with a | a
    · exact a
    · have r := hr g0 hg0
      have r2 := mn g0 hg0
      have e : g0 = lgL E o (4 + o) := by omega
      rw [← e]; exact hg0
  · simp only [if_neg h]
    obtain ⟨a, b⟩ := ggL_sp E o (4 + o)
    have mn : ∀ g, gp E (o + 1) g → g ≤ ggL E o (4 + o) := by
      intro g hg
      have r := hr g hg
      by_cases q : g ≤ ggL E o (4 + o)
      · exact q
      · exact absurd hg (b g (by omega) (by omega))
    refine ⟨?_, mn⟩
    rcases a with a | a
    · exact a
    · have r := hr g0 hg0
      have r2 := mn g0 hg0
      have e : g0 = ggL E o (4 + o) := by omega
      rw [← e]; exact hg0
/-- better than, for a level -/
def lb (ze a b : Int) : Prop := if ze = 0 then a ≤ b else b ≤ a
theorem lb_tr {ze a b c : Int} (h1 : lb ze a b) (h2 : lb ze b c) : lb ze a c := by
  unfold lb at *
  by_cases h : ze = 0
  · simp only [if_pos h] at *; omega
  · simp only [if_neg h] at *; omega
theorem lb_rf (ze a : Int) : lb ze a a := by
  unfold lb
  by_cases h : ze = 0
  · rw [if_pos h]; omega
  · rw [if_neg h]; omega
theorem lvJ_sp (E : Nat → Nat → ro_K) (ze : Int) (i : Nat) (L : Int) : ∀ n, lb ze (lvJ E ze i L n) L ∧ (∀ j, j < n → E i j ≠ 0 → lb ze (lvJ E ze i L n) ((j : Int) - i)) ∧ (lvJ E ze i L n = L ∨ ∃ j, j < n ∧ E i j ≠ 0 ∧ lvJ E ze i L n = (j : Int) - i)
  | 0 => ⟨lb_rf ze L, fun j hj => absurd hj (Nat.not_lt_zero j), Or.inl rfl⟩
  | n + 1 => by
    obtain ⟨a, b, d⟩ := lvJ_sp E ze i L n
    generalize hx : lvJ E ze i L n = x at a b d
    have e : lvJ E ze i L (n + 1) = if E i n = 0 then x else if ze = 0 then (if (n : Int) - i < x then (n : Int) - i else x) else (if x < (n : Int) - i then (n : Int) - i else x) := by rw [← hx]; rfl
    by_cases h : E i n = 0
    · rw [if_pos h] at e
      rw [e]
      refine ⟨a, fun j hj hne => ?_, ?_⟩
      · by_cases q : j = n
        · subst q; exact absurd h hne
        · exact b j (by omega) hne
      · rcases d with d | ⟨j, h1, h2, h3⟩
        · exact Or.inl d
        · exact Or.inr ⟨j, by omega, h2, h3⟩
    · rw [if_neg h] at e
      have e2 : lb ze (lvJ E ze i L (n + 1)) x ∧ lb ze (lvJ E ze i L (n + 1)) ((n : Int) - i) ∧ (lvJ E ze i L (n + 1) = x ∨ lvJ E ze i L (n + 1) = (n : Int) - i) := by
        rw [e]
        unfold lb
        by_cases z : ze = 0
        · simp only [if_pos z]
          by_cases q : (n : Int) - i < x
          · rw [if_pos q]; omega
          · rw [if_neg q]; omega
        · simp only [if_neg z]
          by_cases q : x < (n : Int) - i
          · rw [if_pos q]; omega
          · rw [if_neg q]; omega
      refine ⟨lb_tr e2.1 a, fun j hj hne => ?_, ?_⟩
      · by_cases q : j = n
        · subst q; exact e2.2.1
        · exact lb_tr e2.1 (b j (by omega) hne)
      · rcases e2.2.2 with q | q
        · rw [q]
          rcases d with d | ⟨j, h1, h2, h3⟩
          · exact Or.inl d
          · exact Or.inr ⟨j, by omega, h2, h3⟩
        · exact Or.inr ⟨n, by omega, h, q⟩
theorem lvI_sp (E : Nat → Nat → ro_K) (ze : Int) (L : Int) : ∀ n, lb ze (lvI E ze L n) L ∧ (∀ g, gp E n g → lb ze (lvI E ze L n) g) ∧ (lvI E ze L n = L ∨ gp E n (lvI E ze L n))
  | 0 => ⟨lb_rf ze L, fun g ⟨i, j, h1, _⟩ => absurd h1 (Nat.not_lt_zero i), Or.inl rfl⟩
  | n + 1 => by
    obtain ⟨a, b, d⟩ := lvI_sp E ze L n
    obtain ⟨a2, b2, d2⟩ := lvJ_sp E ze n (lvI E ze L n) 5
    have e : lvI E ze L (n + 1) = lvJ E ze n (lvI E ze L n) 5 := rfl
    rw [e]
    refine ⟨lb_tr a2 a, ?_, ?_⟩
    · rintro g ⟨i, j, h1, h2, h3, h4⟩
      by_cases q : i = n
      · subst q; rw [← h4]; exact b2 j h2 h3
      · exact lb_tr a2 (b g ⟨i, j, by omega, h2, h3, h4⟩)
    · rcases d2 with q | ⟨j, h1, h2, h3⟩
      · rw [q]
        rcases d with d | ⟨i, j, h1, h2, h3, h4⟩
        · exact Or.inl d
        · exact Or.inr ⟨i, j, by omega, h2, h3, h4⟩
      · exact Or.inr ⟨n, j, by omega, h1, h2, h3.symm⟩
theorem eq_lv {E G : Nat → Nat → ro_K} {o : Nat} {ze : Int} (h : ag 4 5 E G) (z : zr o E) (ho : o ≤ 3) (hn : ∃ g, gp E (o + 1) g) : gtL E o ze = mtL G ze ∧ gp E (o + 1) (gtL E o ze) := by
  have hgp : ∀ g, gp E (o + 1) g ↔ gp G 4 g := by
    intro g
    constructor
    · rintro ⟨i, j, h1, h2, h3, h4⟩
      exact ⟨i, j, by omega, h2, by rw [← h i (by omega) j h2]; exact h3, h4⟩
    · rintro ⟨i, j, h1, h2, h3, h4⟩
      rw [← h i h1 j h2] at h3
      refine ⟨i, j, ?_, h2, h3, h4⟩
      by_cases q : i < o + 1
      · exact q
      · exact absurd (z i (by omega) h1 j h2) h3
  obtain ⟨a, b⟩ := gtL_sp (ze := ze) hn
  obtain ⟨a2, b2, d2⟩ := lvI_sp G ze (lv0 ze) 4
  obtain ⟨g0, hg0⟩ := hn
  have hr : ∀ g, gp G 4 g → -3 ≤ g ∧ g ≤ 4 := by
    rintro g ⟨i, j, h1, h2, h3, h4⟩; omega
  refine ⟨?_, a⟩
  have m1 := b2 _ ((hgp _).mp a)
  have r1 := hr _ ((hgp _).mp a)
  have e : mtL G ze = lvI G ze (lv0 ze) 4 := rfl
  rw [e]
  have m2 : gp G 4 (lvI G ze (lv0 ze) 4) := by
    rcases d2 with d | d
    · exfalso
      rw [d] at m1
      unfold lb lv0 at m1
      by_cases q : ze = 0
      · simp only [if_pos q] at m1; omega
      · simp only [if_neg q] at m1; omega
    · exact d
  have m3 := b _ ((hgp _).mpr m2)
  unfold lb at m1
  by_cases q : ze = 0
  · simp only [if_pos q] at m1 m3; omega
  · simp only [if_neg q] at m1 m3; omega
/-- where not all factors are 0, there is a gap at each place -/
theorem gp_some {F : Nat → Nat → ro_K} {o : Nat} (b : ro_K) (E : Nat → Nat → ro_K) (h : azB F (o + 1) = false) : ∃ g, gp (stE F b E (o + 1)) (o + 1) g := by
  by_cases q : ∃ i j : Nat, i < o + 1 ∧ j < 5 ∧ stE F b E (o + 1) i j ≠ 0
  · obtain ⟨i, j, h1, h2, h3⟩ := q
    exact ⟨_, i, j, h1, h2, h3, rfl⟩
  · exfalso
    have : azB F (o + 1) = true := by
      rw [azB_at]
      intro i hi j hj
      refine shO_nz b (F := F i) (fun k hk => ?_) j hj
      have e1 : stE F b E (o + 1) i k = shO b 4 (F i) k := by
        rw [stE_row, if_pos hi]
        exact shO_cg b (fun m hm => cpy_lt hm) k hk
      rw [← e1]
      by_cases w : stE F b E (o + 1) i k = 0
      · exact w
      · exact absurd ⟨i, k, hi, hk, w⟩ q
    rw [this] at h
    exact absurd h (by decide)
theorem oat_cg {E G : Nat → Nat → ro_K} (h : ag 4 5 E G) {i : Nat} (hi : i < 4) (x : Int) : oat E i x = oat G i x := by
  unfold oat
  by_cases e : 0 ≤ x ∧ x < 5
  · rw [if_pos e, if_pos e]; exact h i hi _ (by omega)
  · rw [if_neg e, if_neg e]
theorem oat_z {E : Nat → Nat → ro_K} {o : Nat} (z : zr o E) {i : Nat} (h1 : o < i) (hi : i < 4) (x : Int) : oat E i x = 0 := by
  unfold oat
  by_cases e : 0 ≤ x ∧ x < 5
  · rw [if_pos e]; exact z i h1 hi _ (by omega)
  · rw [if_neg e]
theorem inF_at (E : Nat → Nat → ro_K) (g : Int) (J : Nat → ro_K) : inF E g J 0 = oat E 0 g ∧ inF E g J 1 = (oat E 1 (g + 1) - oat E 2 (g + 2)) + 2 * oat E 3 (g + 3) ∧ inF E g J 2 = oat E 2 (g + 2) - 3 * oat E 3 (g + 3) ∧ inF E g J 3 = oat E 3 (g + 3) ∧ inF E g J 4 = 0 := ⟨rfl, rfl, rfl, rfl, rfl⟩
theorem exS_cg {E G : Nat → Nat → ro_K} (h : ag 4 5 E G) (g : Int) (s : Nat) : ∀ k, k ≤ 4 → exS E g s k = exS G g s k
  | 0, _ => rfl
  | k + 1, hk => by
    show exS E g s k + oat E k (g + k) * ro_k (ffz (s : Int) k) = exS G g s k + oat G k (g + k) * ro_k (ffz (s : Int) k)
    rw [exS_cg h g s k (by omega), oat_cg h (by omega)]
theorem exS_z {E : Nat → Nat → ro_K} {o : Nat} (z : zr o E) (g : Int) (s : Nat) : ∀ d, o + 1 + d ≤ 4 → exS E g s (o + 1 + d) = exS E g s (o + 1)
  | 0, _ => rfl
  | d + 1, hd => by
    show exS E g s (o + 1 + d) + oat E (o + 1 + d) (g + ((o + 1 + d : Nat) : Int)) * ro_k (ffz (s : Int) (o + 1 + d)) = _
    rw [exS_z z g s d (by omega), oat_z z (by omega) (by omega)]; grind
theorem ev_in (E : Nat → Nat → ro_K) (g : Int) (J : Nat → ro_K) (s : Nat) : ro_ev 5 (inF E g J) (ro_k (s : Int)) = exS E g s 4 := by
  obtain ⟨h0, h1, h2, h3, h4⟩ := inF_at E g J
  show inF E g J 0 + ro_k (s : Int) * (inF E g J 1 + ro_k (s : Int) * (inF E g J 2 + ro_k (s : Int) * (inF E g J 3 + ro_k (s : Int) * (inF E g J 4 + ro_k (s : Int) * 0)))) = (((0 + oat E 0 (g + ((0 : Nat) : Int)) * ro_k 1) + oat E 1 (g + ((1 : Nat) : Int)) * ro_k (1 * ((s : Int) - ((0 : Nat) : Int)))) + oat E 2 (g + ((2 : Nat) : Int)) * ro_k (1 * ((s : Int) - ((0 : Nat) : Int)) * ((s : Int) - ((1 : Nat) : Int)))) + oat E 3 (g + ((3 : Nat) : Int)) * ro_k (1 * ((s : Int) - ((0 : Nat) : Int)) * ((s : Int) - ((1 : Nat) : Int)) * ((s : Int) - ((2 : Nat) : Int)))
  have e0 : g + ((0 : Nat) : Int) = g := by omega
  have e1 : (s : Int) - ((0 : Nat) : Int) = s := by omega
  have k2' : ro_k ((2 : Nat) : Int) = 2 := rfl
  have k1' : ro_k ((1 : Nat) : Int) = 1 := rfl
  rw [h0, h1, h2, h3, h4, e0, e1, Int.one_mul]
  simp only [ro_k_mul, ro_k_sub, ro_k1, k1', k2']
  show _ = 0 + oat E 0 g * 1 + oat E 1 (g + 1) * ro_k (s : Int) + oat E 2 (g + 2) * (ro_k (s : Int) * (ro_k (s : Int) - 1)) + oat E 3 (g + 3) * (ro_k (s : Int) * (ro_k (s : Int) - 1) * (ro_k (s : Int) - 2))
  generalize ro_k (s : Int) = y
  generalize oat E 0 g = c0
  generalize oat E 1 (g + 1) = c1
  generalize oat E 2 (g + 2) = c2'
  generalize oat E 3 (g + 3) = c3
  grind
theorem eq_ex {E G : Nat → Nat → ro_K} {o : Nat} (h : ag 4 5 E G) (z : zr o E) (ho : o ≤ 3) (g : Int) (J : Nat → ro_K) (s : Nat) : ro_ev 5 (inF E g J) (ro_k (s : Int)) = exS G g s (o + 1) := by
  rw [ev_in, ← exS_cg h g s (o + 1) (by omega)]
  have e : 4 = o + 1 + (3 - o) := by omega
  rw [e, exS_z z g s (3 - o) (by omega)]
theorem inF_nz {E : Nat → Nat → ro_K} {o : Nat} (ho : o ≤ 3) {g : Int} (J : Nat → ro_K) (h : gp E (o + 1) g) : 0 ≤ kd (inF E g J) 5 := by
  by_cases q : 0 ≤ kd (inF E g J) 5
  · exact q
  · exfalso
    have a := kd_neg.mp (show kd (inF E g J) 5 < 0 by omega)
    obtain ⟨h0, h1, h2, h3, h4⟩ := inF_at E g J
    rw [a 0 (by omega)] at h0
    rw [a 1 (by omega)] at h1
    rw [a 2 (by omega)] at h2
    rw [a 3 (by omega)] at h3
    rw [← h3] at h1 h2
    have b2 : oat E 2 (g + 2) = 0 := by grind
    rw [b2] at h1
    have b1 : oat E 1 (g + 1) = 0 := by grind
    obtain ⟨i, j, i1, i2, i3, i4⟩ := h
    have b : oat E i (g + i) ≠ 0 := by
      unfold oat
      rw [if_pos (by omega)]
      have : (g + (i : Int)).toNat = j := by omega
      rw [this]; exact i3
    have : i = 0 ∨ i = 1 ∨ i = 2 ∨ i = 3 := by omega
    rcases this with e | e | e | e <;> subst e
    · have e0 : g + ((0 : Nat) : Int) = g := by omega
      rw [e0] at b
      exact b h0.symm
    · exact b b1
    · exact b b2
    · exact b h3.symm
end EQ
