section EQ
/-! the base -/
theorem enR_at (F : Nat → Nat → ro_K) (o : Nat) (M : Nat → Nat → ro_K) (j : Nat) : ∀ k a b, enR F o M j k a b = if a = j ∧ b < k then shS F (b : Int) ((j : Int) - (b : Int)) (o + 1) else M a b
  | 0, a, b => (if_neg (by omega)).symm
  | k + 1, a, b => by
    show up2 (enR F o M j k) j k (shS F (k : Int) ((j : Int) - (k : Int)) (o + 1)) a b = _
    unfold up2
    by_cases e : a = j ∧ b = k
    · rw [if_pos e, if_pos (by omega), e.2]
    · rw [if_neg e, enR_at F o M j k a b]
      by_cases h : a = j ∧ b < k
      · rw [if_pos h, if_pos (by omega)]
      · rw [if_neg h, if_neg (by omega)]
theorem enM_at (F : Nat → Nat → ro_K) (o : Nat) (M : Nat → Nat → ro_K) : ∀ k a b, enM F o M k a b = if a < k ∧ b < 13 then shS F (b : Int) ((a : Int) - (b : Int)) (o + 1) else M a b
  | 0, a, b => (if_neg (by omega)).symm
  | k + 1, a, b => by
    show enR F o (enM F o M k) k 13 a b = _
    rw [enR_at, enM_at F o M k a b]
    by_cases e : a = k ∧ b < 13
    · rw [if_pos e, if_pos (by omega), e.1]
    · rw [if_neg e]
      by_cases h : a < k ∧ b < 13
      · rw [if_pos h, if_pos (by omega)]
      · rw [if_neg h, if_neg (by omega)]
theorem tbC_at (M : Nat → Nat → ro_K) (P : Nat → ro_K) (n : Nat) : ∀ k a b, tbC M P n k a b = if a < k ∧ b = n then P a else M a b
  | 0, a, b => (if_neg (by omega)).symm
  | k + 1, a, b => by
    show up2 (tbC M P n k) k n (P k) a b = _
    unfold up2
    by_cases e : a = k ∧ b = n
    · rw [if_pos e, if_pos (by omega), e.1]
    · rw [if_neg e, tbC_at M P n k a b]
      by_cases h : a < k ∧ b = n
      · rw [if_pos h, if_pos (by omega)]
      · rw [if_neg h, if_neg (by omega)]
theorem tbP_at (F : Nat → Nat → ro_K) (o : Nat) (P : Nat → ro_K) (n : Nat) {q : Nat} (hq : q < 17) : tbP F o P (n + 1) q = shS F (n : Int) ((q : Int) - (n : Int)) (o + 1) := by
  show mkN F o n 1 (kfl (tbP F o P n) 0 17) q = _
  rw [mkN_at, kfl_lt hq]; grind
theorem tbN_at (F : Nat → Nat → ro_K) (o : Nat) (P : Nat → ro_K) (M : Nat → Nat → ro_K) : ∀ k a b, a < 17 → tbN F o P M k a b = if b < k then shS F (b : Int) ((a : Int) - (b : Int)) (o + 1) else M a b
  | 0, a, b, _ => (if_neg (by omega)).symm
  | k + 1, a, b, ha => by
    show tbC (tbN F o P M k) (tbP F o P (k + 1)) k 17 a b = _
    rw [tbC_at, tbN_at F o P M k a b ha]
    by_cases e : a < 17 ∧ b = k
    · rw [if_pos e, if_pos (by omega), tbP_at F o P k ha, e.2]
    · rw [if_neg e]
      by_cases h : b < k
      · rw [if_pos h, if_pos (by omega)]
      · rw [if_neg h, if_neg (by omega)]
theorem eq_sys {F G : Nat → Nat → ro_K} (h : ag 4 5 F G) {o : Nat} (ho : o ≤ 3) (M M' : Nat → Nat → ro_K) (P : Nat → ro_K) : ag 17 13 (enM F o M 17) (tbN G o P M' 13) := by
  intro a ha b hb
  rw [enM_at, if_pos ⟨ha, hb⟩, tbN_at G o P M' 13 a b ha, if_pos hb, shS_cg h _ _ (o + 1) (by omega)]
theorem rwL_cg {A B : Nat → Nat → ro_K} (h : ag 17 13 A B) {p : Nat} (hp : p < 13) : ∀ k, rwL A p k = rwL B p k
  | 0 => rfl
  | k + 1 => by
    show (if A (16 - k) p = 0 then rwL A p k else 16 - k) = (if B (16 - k) p = 0 then rwL B p k else 16 - k)
    rw [h (16 - k) (by omega) p hp, rwL_cg h hp k]
theorem swk_cg {A B : Nat → Nat → ro_K} (h : ag 17 13 A B) {r w : Nat} (hr : r < 17) (hw : w < 17) : ag 17 13 (swk A r w 13) (swk B r w 13) := by
  intro i hi j hj
  unfold swk
  rw [if_pos hj, if_pos hj, h w hw j hj, h r hr j hj, h i hi j hj]
theorem sck_cg {A B : Nat → Nat → ro_K} (h : ag 17 13 A B) {w : Nat} (hw : w < 17) (x : ro_K) : ag 17 13 (sck A w x 13) (sck B w x 13) := by
  intro i hi j hj
  unfold sck
  rw [h w hw j hj, h i hi j hj]
theorem clI_cg {A B : Nat → Nat → ro_K} (h : ag 17 13 A B) {w p : Nat} (hw : w < 17) (hp : p < 13) : ag 17 13 (clI A w p 17) (clI B w p 17) := by
  intro i hi j hj
  unfold clI
  rw [h w hw j hj, h i hi j hj, h i hi p hp]
theorem gst_cg {A B : Nat → Nat → ro_K} (h : ag 17 13 A B) {p u : Nat} (hp : p < 13) (hu : u < 17) (hr : rwL A p (17 - u) ≠ 17) : ag 17 13 (gst A p u) (gst B p u) := by
  have r := rwL_le A p (17 - u) (by omega)
  have h1 := swk_cg h (r := rwL A p (17 - u)) (w := u) (by omega) hu
  unfold gst
  rw [← rwL_cg h hp (17 - u), ← h1 u hu p hp]
  exact clI_cg (sck_cg h1 hu _) hu hp
theorem rdL_cg : ∀ (n p u : Nat) (A B : Nat → Nat → ro_K) (L L' : Nat → Int), p + n = 13 → u ≤ p → ag 17 13 A B → (∀ j, j < p → L j = L' j) → ag 17 13 (rdL n p u A L).1 (rdL n p u B L').1 ∧ ∀ j, j < 13 → (rdL n p u A L).2 j = (rdL n p u B L').2 j
  | 0, p, u, A, B, L, L', hn, _, h, hL => ⟨h, fun j hj => hL j (by omega)⟩
  | n + 1, p, u, A, B, L, L', hn, hu, h, hL => by
    have up : ∀ x : Int, ∀ j, j < p + 1 → va_up L p x j = va_up L' p x j := by
      intro x j hj
      by_cases e : j = p
      · subst e; rw [va_up_self, va_up_self]
      · rw [va_up_ne _ _ e, va_up_ne _ _ e]; exact hL j (by omega)
    have er := rwL_cg h (p := p) (by omega) (17 - u)
    by_cases hr : rwL A p (17 - u) = 17
    · have e : rdL (n + 1) p u A L = rdL n (p + 1) u A (va_up L p (-1)) := if_pos hr
      have e' : rdL (n + 1) p u B L' = rdL n (p + 1) u B (va_up L' p (-1)) := if_pos (er ▸ hr)
      rw [e, e']
      exact rdL_cg n (p + 1) u A B _ _ (by omega) (by omega) h (up _)
    · have e : rdL (n + 1) p u A L = rdL n (p + 1) (u + 1) (gst A p u) (va_up L p (u : Int)) := if_neg hr
      have e' : rdL (n + 1) p u B L' = rdL n (p + 1) (u + 1) (gst B p u) (va_up L' p (u : Int)) := if_neg (er ▸ hr)
      rw [e, e']
      exact rdL_cg n (p + 1) (u + 1) _ _ _ _ (by omega) (by omega) (gst_cg h (by omega) (by omega) hr) (up _)
/-- rows not used have no number in the columns done; a row that leads has none before its lead -/
def ech (p u : Nat) (A : Nat → Nat → ro_K) (L : Nat → Int) : Prop := (∀ i, u ≤ i → i < 17 → ∀ n, n < p → A i n = 0) ∧ ∀ j, j < p → L j = -1 ∨ ∃ r : Nat, r < u ∧ L j = (r : Int) ∧ ∀ n, n < j → A r n = 0
theorem rwL_17 (A : Nat → Nat → ro_K) (p : Nat) : ∀ k, k ≤ 17 → rwL A p k = 17 → ∀ i, 17 - k ≤ i → i < 17 → A i p = 0
  | 0, _, _, i, h1, h2 => by omega
  | k + 1, hk, h, i, h1, h2 => by
    by_cases e : A (16 - k) p = 0
    · have e2 : rwL A p (k + 1) = rwL A p k := if_pos e
      rw [e2] at h
      by_cases q : i = 16 - k
      · subst q; exact e
      · exact rwL_17 A p k (by omega) h i (by omega) h2
    · have e2 : rwL A p (k + 1) = 16 - k := if_neg e
      rw [e2] at h
      omega
theorem rdL_ech : ∀ (n p u : Nat) (A : Nat → Nat → ro_K) (L : Nat → Int), p + n = 13 → u ≤ p → ech p u A L → ∃ u', ech 13 u' (rdL n p u A L).1 (rdL n p u A L).2
  | 0, p, u, A, L, hn, _, h => by
    have e : p = 13 := hn
    subst e
    exact ⟨u, h⟩
  | n + 1, p, u, A, L, hn, hu, h => by
    have up : ∀ x : Int, ∀ j, j < p → va_up L p x j = L j := by
      intro x j hj
      exact va_up_ne _ _ (by omega)
    by_cases hr : rwL A p (17 - u) = 17
    · have e : rdL (n + 1) p u A L = rdL n (p + 1) u A (va_up L p (-1)) := if_pos hr
      rw [e]
      refine rdL_ech n (p + 1) u A _ (by omega) (by omega) ⟨fun i h1 h2 k hk => ?_, fun j hj => ?_⟩
      · by_cases q : k = p
        · subst q; exact rwL_17 A k (17 - u) (by omega) hr i (by omega) h2
        · exact h.1 i h1 h2 k (by omega)
      · by_cases q : j = p
        · subst q; rw [va_up_self]; exact Or.inl rfl
        · rw [up _ j (by omega)]; exact h.2 j (by omega)
    · have e : rdL (n + 1) p u A L = rdL n (p + 1) (u + 1) (gst A p u) (va_up L p (u : Int)) := if_neg hr
      rw [e]
      have r := rwL_le A p (17 - u) (by omega)
      have ra := r.2.2 (by omega)
      have hu7 : u < 17 := by omega
      -- the row that comes to u
      have s1 : ∀ i j, i < 17 → j < 13 → swk A (rwL A p (17 - u)) u 13 i j = if i = rwL A p (17 - u) then A u j else if i = u then A (rwL A p (17 - u)) j else A i j := by
        intro i j hi hj; unfold swk; rw [if_pos hj]
      have s2 : ∀ j, j < 13 → swk A (rwL A p (17 - u)) u 13 u j = A (rwL A p (17 - u)) j := by
        intro j hj
        rw [s1 u j hu7 hj]
        by_cases q : u = rwL A p (17 - u)
        · rw [if_pos q]; rw [← q]
        · rw [if_neg q, if_pos rfl]
      generalize hx : ro_iv (swk A (rwL A p (17 - u)) u 13 u p) = x
      have hx1 : A (rwL A p (17 - u)) p * x = 1 := by
        rw [← hx, s2 p (by omega)]; exact ro_iv_mul ra
      have g1 : ∀ i j, i < 17 → j < 13 → gst A p u i j = if i ≠ u then swk A (rwL A p (17 - u)) u 13 i j - swk A (rwL A p (17 - u)) u 13 i p * (A (rwL A p (17 - u)) j * x) else A (rwL A p (17 - u)) j * x := by
        intro i j hi hj
        unfold gst
        rw [hx]
        unfold clI sck
        by_cases q : i = u
        · subst q
          rw [if_neg (show ¬ (i < 17 ∧ i ≠ i ∧ j < 13) from fun z => z.2.1 rfl), if_neg (show ¬ (i ≠ i) from fun z => z rfl), if_pos (show i = i ∧ j < 13 from ⟨rfl, hj⟩), s2 j hj]
        · rw [if_pos ⟨hi, q, hj⟩, if_pos q, if_neg (by omega), if_neg (by omega), if_pos ⟨rfl, hj⟩, s2 j hj]
      have z0 : ∀ j, j < p → A (rwL A p (17 - u)) j = 0 := fun j hj => h.1 _ (by omega) (by omega) j hj
      have g2 : ∀ i j, i < 17 → j < p → i < u → gst A p u i j = A i j := by
        intro i j hi hj hiu
        rw [g1 i j hi (by omega), if_pos (by omega), z0 j hj, s1 i j hi (by omega), if_neg (by omega), if_neg (by omega)]
        grind
      refine rdL_ech n (p + 1) (u + 1) _ _ (by omega) (by omega) ⟨fun i h1 h2 k hk => ?_, fun j hj => ?_⟩
      · rw [g1 i k h2 (by omega), if_pos (by omega)]
        by_cases q : k = p
        · subst q; rw [hx1]; grind
        · rw [z0 k (by omega), s1 i k h2 (by omega)]
          by_cases w : i = rwL A p (17 - u)
          · rw [if_pos w, h.1 u (by omega) hu7 k (by omega)]; grind
          · rw [if_neg w, if_neg (by omega), h.1 i (by omega) h2 k (by omega)]; grind
      · by_cases q : j = p
        · subst q
          rw [va_up_self]
          refine Or.inr ⟨u, by omega, rfl, fun k hk => ?_⟩
          rw [g1 u k hu7 (by omega), if_neg (by omega), z0 k hk]; grind
        · rw [up _ j (by omega)]
          rcases h.2 j (by omega) with w | ⟨r0, w1, w2, w3⟩
          · exact Or.inl w
          · refine Or.inr ⟨r0, by omega, w2, fun k hk => ?_⟩
            rw [g2 r0 k (by omega) (by omega) w1]
            exact w3 k hk
theorem bsK_at (M : Nat → Nat → ro_K) (L : Nat → Int) (n c : Nat) (B : Nat → Nat → ro_K) : ∀ k a b, bsK M L n c B k a b = if a = c ∧ b < k then bsV M L n b else B a b
  | 0, a, b => (if_neg (by omega)).symm
  | k + 1, a, b => by
    show up2 (bsK M L n c B k) c k (bsV M L n k) a b = _
    unfold up2
    by_cases e : a = c ∧ b = k
    · rw [if_pos e, if_pos (by omega), e.2]
    · rw [if_neg e, bsK_at M L n c B k a b]
      by_cases h : a = c ∧ b < k
      · rw [if_pos h, if_pos (by omega)]
      · rw [if_neg h, if_neg (by omega)]
theorem eq_mem {M M' : Nat → Nat → ro_K} {L L' : Nat → Int} {u : Nat} (hM : ag 17 13 M M') (hL : ∀ j, j < 13 → L j = L' j) (hk : lok L) (he : ech 13 u M L) (hu : u ≤ 17) {n : Nat} (hn : n < 13) (F : Nat → ro_K) : ∀ b, b < 13 → fmk M L n n F b = bsV M' L' n b := by
  intro b hb
  unfold fmk bsV
  rw [← hL b hb]
  have hrow : L b ≠ -1 → M (L b).toNat n = M' (L b).toNat n := by
    intro w
    rcases hk b hb with q | ⟨r, h1, h2⟩
    · exact absurd q w
    · rw [h2]; exact hM r h1 n hn
  by_cases h1 : b < n
  · rw [if_pos h1, if_neg (show ¬ b = n by omega)]
    by_cases w : L b = -1
    · rw [if_pos w, if_pos w]
    · rw [if_neg w, if_neg w, hrow w]
  · rw [if_neg h1]
    by_cases h2 : b = n
    · rw [if_pos h2, if_pos h2]
    · rw [if_neg h2, if_neg h2, kfl_lt hb]
      by_cases w : L b = -1
      · rw [if_pos w]
      · rw [if_neg w, ← hrow w]
        rcases he.2 b hb with q | ⟨r, r1, r2, r3⟩
        · exact absurd q w
        · rw [r2]
          show 0 = -M r n
          rw [r3 n (by omega)]; grind
theorem eq_sv {M M' : Nat → Nat → ro_K} {L L' : Nat → Int} {u : Nat} (hM : ag 17 13 M M') (hL : ∀ j, j < 13 → L j = L' j) (hk : lok L) (he : ech 13 u M L) (hu : u ≤ 17) : ∀ (n c : Nat) (B B' : Nat → Nat → ro_K), n ≤ 13 → (∀ a, a < c → ∀ b, b < 13 → B a b = B' a b) → (svL M L n c B).1 = (svM M' L' n c B').1 ∧ ∀ a, a < (svL M L n c B).1 → ∀ b, b < 13 → (svL M L n c B).2 a b = (svM M' L' n c B').2 a b
  | 0, c, B, B', _, h => ⟨rfl, h⟩
  | n + 1, c, B, B', hn, h => by
    by_cases w : L n = -1
    · have e : svL M L (n + 1) c B = svL M L n (c + 1) (va_up B c (fmk M L n n (B c))) := if_pos w
      have e' : svM M' L' (n + 1) c B' = svM M' L' n (c + 1) (bsK M' L' n c B' 13) := if_pos (by rw [← hL n (by omega)]; exact w)
      rw [e, e']
      refine eq_sv hM hL hk he hu n (c + 1) _ _ (by omega) (fun a ha b hb => ?_)
      rw [bsK_at]
      by_cases q : a = c
      · subst q; rw [va_up_self, if_pos ⟨rfl, hb⟩]
        exact eq_mem hM hL hk he hu (by omega) _ b hb
      · rw [va_up_ne _ _ q, if_neg (by omega)]
        exact h a (by omega) b hb
    · have e : svL M L (n + 1) c B = svL M L n c B := if_neg w
      have e' : svM M' L' (n + 1) c B' = svM M' L' n c B' := if_neg (by rw [← hL n (by omega)]; exact w)
      rw [e, e']
      exact eq_sv hM hL hk he hu n c B B' (by omega) h
theorem ech_u {p u : Nat} {A : Nat → Nat → ro_K} {L : Nat → Int} (h : ech p u A L) (hl : lok L) (hp : p ≤ 13) : ech p (min u 17) A L := by
  refine ⟨fun i h1 h2 => h.1 i (by omega) h2, fun j hj => ?_⟩
  rcases h.2 j hj with q | ⟨r, r1, r2, r3⟩
  · exact Or.inl q
  · rcases hl j (by omega) with q | ⟨r', s1, s2⟩
    · exact Or.inl q
    · have : r = r' := by omega
      exact Or.inr ⟨r, by omega, r2, r3⟩
/-- the base, found by the class and by the reference -/
theorem eq_base {F G : Nat → Nat → ro_K} (h : ag 4 5 F G) {o : Nat} (ho : o ≤ 3) (M M' : Nat → Nat → ro_K) (P : Nat → ro_K) (L L' : Nat → Int) (B B' : Nat → Nat → ro_K) : (knN F o M L B).2.2.2 = ((faS G o P M' L' B').1 : Int) ∧ (faS G o P M' L' B').1 ≤ 13 ∧ ∀ a, a < (faS G o P M' L' B').1 → ∀ b, b < 13 → (knN F o M L B).2.2.1 a b = (faS G o P M' L' B').2 a b := by
  have c := rdL_cg 13 0 0 _ _ L L' rfl (Nat.le_refl 0) (eq_sys h ho M M' P) (fun j hj => absurd hj (Nat.not_lt_zero j))
  have hl := rdL_lok 13 0 0 (enM F o M 17) L rfl (Nat.le_refl 0) (fun j hj => absurd hj (Nat.not_lt_zero j))
  obtain ⟨u, hu⟩ := rdL_ech 13 0 0 (enM F o M 17) L rfl (Nat.le_refl 0) ⟨fun i _ _ n hn => absurd hn (Nat.not_lt_zero n), fun j hj => absurd hj (Nat.not_lt_zero j)⟩
  have s := eq_sv c.1 c.2 hl (ech_u hu hl (Nat.le_refl 13)) (Nat.min_le_right u 17) 13 0 B B' (Nat.le_refl 13) (fun a ha => absurd ha (Nat.not_lt_zero a))
  have le := svM_le (faT G o P M' L').1 (faT G o P M' L').2 13 0 B'
  unfold knN faS faT
  unfold faT at c s le
  clear hl hu
  generalize rdL 13 0 0 (enM F o M 17) L = X at c s ⊢
  generalize rdL 13 0 0 (tbN G o P M' 13) L' = Y at c s le ⊢
  refine ⟨?_, by omega, fun a ha b hb => ?_⟩
  · show ((svL X.1 X.2 13 0 B).1 : Int) = _
    rw [s.1]
  · exact s.2 a (by rw [s.1]; exact ha) b hb
theorem cpk_at (G F : Nat → ro_K) : ∀ k j, cpk G F k j = if j < k then G j else F j
  | 0, j => (if_neg (Nat.not_lt_zero j)).symm
  | k + 1, j => by
    show va_up (cpk G F k) k (G k) j = _
    by_cases e : j = k
    · subst e; rw [va_up_self, if_pos (Nat.lt_succ_self j)]
    · rw [va_up_ne _ _ e, cpk_at G F k j]
      by_cases q : j < k
      · rw [if_pos q, if_pos (by omega)]
      · rw [if_neg q, if_neg (by omega)]
/-! series -/
theorem win (h : Int → ro_K) (n0 : Nat) (c : Int) (hz : ∀ n : Int, (n < c - 4 ∨ c < n) → h n = 0) (f : Nat → ro_K) (f0 : f 0 = 0) (fs : ∀ k, f (k + 1) = f k + h ((n0 + k : Nat) : Int)) : ∀ k : Nat, f k = (((((if (n0 : Int) ≤ c - 0 ∧ c - 0 < n0 + k then h (c - 0) else 0) + (if (n0 : Int) ≤ c - 1 ∧ c - 1 < n0 + k then h (c - 1) else 0)) + (if (n0 : Int) ≤ c - 2 ∧ c - 2 < n0 + k then h (c - 2) else 0)) + (if (n0 : Int) ≤ c - 3 ∧ c - 3 < n0 + k then h (c - 3) else 0)) + (if (n0 : Int) ≤ c - 4 ∧ c - 4 < n0 + k then h (c - 4) else 0))
  | 0 => by
    rw [f0, if_neg (by omega), if_neg (by omega), if_neg (by omega), if_neg (by omega), if_neg (by omega)]; grind
  | k + 1 => by
    rw [fs k, win h n0 c hz f f0 fs k]
    have st : ∀ d : Int, (if (n0 : Int) ≤ c - d ∧ c - d < n0 + ((k + 1 : Nat) : Int) then h (c - d) else 0) = (if (n0 : Int) ≤ c - d ∧ c - d < n0 + (k : Int) then h (c - d) else 0) + (if c - d = n0 + (k : Int) then h ((n0 + k : Nat) : Int) else 0) := by
      intro d
      by_cases e : c - d = n0 + (k : Int)
      · rw [if_pos (by omega), if_neg (by omega), if_pos e]
        have : ((n0 + k : Nat) : Int) = c - d := by omega
        rw [this]; grind
      · rw [if_neg e]
        by_cases q : (n0 : Int) ≤ c - d ∧ c - d < n0 + (k : Int)
        · rw [if_pos q, if_pos (by omega)]; grind
        · rw [if_neg q, if_neg (by omega)]; grind
    rw [st 0, st 1, st 2, st 3, st 4]
    by_cases e : c - 4 ≤ n0 + (k : Int) ∧ n0 + (k : Int) ≤ c
    · have : c - 0 = n0 + (k : Int) ∨ c - 1 = n0 + (k : Int) ∨ c - 2 = n0 + (k : Int) ∨ c - 3 = n0 + (k : Int) ∨ c - 4 = n0 + (k : Int) := by omega
      rcases this with q | q | q | q | q
      · rw [if_pos q, if_neg (show ¬ c - 1 = n0 + (k : Int) by omega), if_neg (show ¬ c - 2 = n0 + (k : Int) by omega), if_neg (show ¬ c - 3 = n0 + (k : Int) by omega), if_neg (show ¬ c - 4 = n0 + (k : Int) by omega)]; grind
      · rw [if_pos q, if_neg (show ¬ c - 0 = n0 + (k : Int) by omega), if_neg (show ¬ c - 2 = n0 + (k : Int) by omega), if_neg (show ¬ c - 3 = n0 + (k : Int) by omega), if_neg (show ¬ c - 4 = n0 + (k : Int) by omega)]; grind
      · rw [if_pos q, if_neg (show ¬ c - 0 = n0 + (k : Int) by omega), if_neg (show ¬ c - 1 = n0 + (k : Int) by omega), if_neg (show ¬ c - 3 = n0 + (k : Int) by omega), if_neg (show ¬ c - 4 = n0 + (k : Int) by omega)]; grind
      · rw [if_pos q, if_neg (show ¬ c - 0 = n0 + (k : Int) by omega), if_neg (show ¬ c - 1 = n0 + (k : Int) by omega), if_neg (show ¬ c - 2 = n0 + (k : Int) by omega), if_neg (show ¬ c - 4 = n0 + (k : Int) by omega)]; grind
      · rw [if_pos q, if_neg (show ¬ c - 0 = n0 + (k : Int) by omega), if_neg (show ¬ c - 1 = n0 + (k : Int) by omega), if_neg (show ¬ c - 2 = n0 + (k : Int) by omega), if_neg (show ¬ c - 3 = n0 + (k : Int) by omega)]; grind
    · rw [hz ((n0 + k : Nat) : Int) (by omega), if_neg (show ¬ c - 0 = n0 + (k : Int) by omega), if_neg (show ¬ c - 1 = n0 + (k : Int) by omega), if_neg (show ¬ c - 2 = n0 + (k : Int) by omega), if_neg (show ¬ c - 3 = n0 + (k : Int) by omega), if_neg (show ¬ c - 4 = n0 + (k : Int) by omega)]; grind
/-- one factor's part of a term -/
def hI (E : Nat → Nat → ro_K) (T : Nat → ro_K) (pw : Int) (i : Nat) (n : Int) : ro_K := T n.toNat * (if 0 ≤ pw - n + i ∧ pw - n + i < 5 then E i (pw - n + i).toNat * ro_k (ffz n i) else 0)
def fI (E : Nat → Nat → ro_K) (T : Nat → ro_K) (pw : Int) (n0 i : Nat) : Nat → ro_K
  | 0 => 0
  | k + 1 => fI E T pw n0 i k + hI E T pw i ((n0 + k : Nat) : Int)
def fS (E : Nat → Nat → ro_K) (T : Nat → ro_K) (pw : Int) (n0 k : Nat) : Nat → ro_K
  | 0 => 0
  | i + 1 => fS E T pw n0 k i + fI E T pw n0 i k
theorem fS_s (E : Nat → Nat → ro_K) (T : Nat → ro_K) (pw : Int) (n0 k : Nat) : ∀ i, fS E T pw n0 (k + 1) i = fS E T pw n0 k i + T (n0 + k) * shS E ((n0 + k : Nat) : Int) (pw - ((n0 + k : Nat) : Int)) i
  | 0 => by show 0 = 0 + _ * 0; grind
  | i + 1 => by
    show fS E T pw n0 (k + 1) i + (fI E T pw n0 i k + T ((n0 + k : Nat) : Int).toNat * _) = fS E T pw n0 k i + fI E T pw n0 i k + T (n0 + k) * (shS E ((n0 + k : Nat) : Int) (pw - ((n0 + k : Nat) : Int)) i + _)
    rw [fS_s E T pw n0 k i, Int.toNat_natCast]
    grind
theorem fS_0 (E : Nat → Nat → ro_K) (T : Nat → ro_K) (pw : Int) (n0 : Nat) : ∀ i, fS E T pw n0 0 i = 0
  | 0 => rfl
  | i + 1 => by show fS E T pw n0 0 i + 0 = 0; rw [fS_0]; grind
theorem ntS_fS (E : Nat → Nat → ro_K) (o : Nat) (T : Nat → ro_K) (pw : Int) (n0 : Nat) : ∀ k, ntS E o T pw n0 k = fS E T pw n0 k (o + 1)
  | 0 => (fS_0 E T pw n0 (o + 1)).symm
  | k + 1 => by rw [fS_s, ← ntS_fS E o T pw n0 k]; rfl
theorem fI_sJ {E G : Nat → Nat → ro_K} (h : ag 4 5 E G) {o n i : Nat} (hi : i ≤ o) (ho : o ≤ 3) (hn : o ≤ n) {T T' : Nat → ro_K} (hT : ∀ q, q < n → T q = T' q) (S : ro_K) : sJ G o T' n i S 5 = S + fI E T ((n : Int) - o) (n - o - 4) i (n - (n - o - 4)) := by
  have w := win (hI E T ((n : Int) - o) i) (n - o - 4) ((n : Int) - o + i) (fun m hm => by
    unfold hI
    rw [if_neg (by omega)]; grind) (fI E T ((n : Int) - o) (n - o - 4) i) rfl (fun k => rfl) (n - (n - o - 4))
  rw [w]
  have t : ∀ j : Nat, j < 5 → ∀ x : ro_K, (if (i : Int) ≤ (n : Int) - o - j + i ∧ (n : Int) - o - j + i < n then x + G i j * ro_k (ffz ((n : Int) - o - j + i) i) * T' ((n : Int) - o - j + i).toNat else x) = x + (if ((n - o - 4 : Nat) : Int) ≤ (n : Int) - o + i - j ∧ (n : Int) - o + i - j < ((n - o - 4 : Nat) : Int) + ((n - (n - o - 4) : Nat) : Int) then hI E T ((n : Int) - o) i ((n : Int) - o + i - j) else 0) := by
    intro j hj x
    have ea : (n : Int) - o - j + i = (n : Int) - o + i - j := by omega
    rw [ea]
    by_cases q : (n : Int) - o + i - j < n ∧ 0 ≤ (n : Int) - o + i - j
    · rw [if_pos (show ((n - o - 4 : Nat) : Int) ≤ (n : Int) - o + i - j ∧ (n : Int) - o + i - j < ((n - o - 4 : Nat) : Int) + ((n - (n - o - 4) : Nat) : Int) by omega)]
      unfold hI
      have e1 : (n : Int) - o - ((n : Int) - o + i - j) + i = j := by omega
      rw [e1, if_pos (show (0 : Int) ≤ (j : Int) ∧ (j : Int) < 5 by omega), Int.toNat_natCast, h i (by omega) j hj, hT _ (by omega)]
      by_cases w2 : (i : Int) ≤ (n : Int) - o + i - j
      · rw [if_pos ⟨w2, q.1⟩]; grind
      · rw [if_neg (by omega)]
        obtain ⟨m, hm⟩ : ∃ m : Nat, (n : Int) - o + i - j = (m : Int) := ⟨((n : Int) - o + i - j).toNat, by omega⟩
        rw [hm, ffz_z m i (by omega), ro_k0]; grind
    · rw [if_neg (show ¬ ((i : Int) ≤ (n : Int) - o + i - j ∧ (n : Int) - o + i - j < n) by omega), if_neg (show ¬ (((n - o - 4 : Nat) : Int) ≤ (n : Int) - o + i - j ∧ (n : Int) - o + i - j < ((n - o - 4 : Nat) : Int) + ((n - (n - o - 4) : Nat) : Int)) by omega)]; grind
  have t0 := t 0 (by omega); have t1 := t 1 (by omega); have t2 := t 2 (by omega); have t3 := t 3 (by omega); have t4 := t 4 (by omega)
  have s : ∀ j, sJ G o T' n i S (j + 1) = if (i : Int) ≤ (n : Int) - o - j + i ∧ (n : Int) - o - j + i < n then sJ G o T' n i S j + G i j * ro_k (ffz ((n : Int) - o - j + i) i) * T' ((n : Int) - o - j + i).toNat else sJ G o T' n i S j := fun j => rfl
  have z0 : sJ G o T' n i S 0 = S := rfl
  rw [s 4, t4, s 3, t3, s 2, t2, s 1, t1, s 0, t0, z0]
  simp only [Int.cast_ofNat_Int, Int.natCast_zero, Int.natCast_one]
  grind
theorem fS_sI {E G : Nat → Nat → ro_K} (h : ag 4 5 E G) {o n : Nat} (ho : o ≤ 3) (hn : o ≤ n) {T T' : Nat → ro_K} (hT : ∀ q, q < n → T q = T' q) : ∀ i, i ≤ o + 1 → sI G o T' n i = fS E T ((n : Int) - o) (n - o - 4) (n - (n - o - 4)) i
  | 0, _ => rfl
  | i + 1, hi => by
    show sJ G o T' n i (sI G o T' n i) 5 = fS E T _ _ _ i + _
    rw [fI_sJ h (by omega) ho hn hT, fS_sI h ho hn hT i (by omega)]
theorem shS_neg (E : Nat → Nat → ro_K) (n : Int) (o : Nat) : ∀ k, k ≤ o → shS E n (-(o : Int)) k = 0
  | 0, _ => rfl
  | k + 1, hk => by
    show shS E n (-(o : Int)) k + (if 0 ≤ -(o : Int) + k ∧ -(o : Int) + k < 5 then E k (-(o : Int) + k).toNat * ro_k (ffz n k) else 0) = 0
    rw [shS_neg E n o k (by omega), if_neg (by omega)]; grind
theorem eq_nt {E G : Nat → Nat → ro_K} (h : ag 4 5 E G) {o n : Nat} (ho : o ≤ 3) (hn : o ≤ n) {T T' : Nat → ro_K} (hT : ∀ q, q < n → T q = T' q) : ntV E o T n = -sI G o T' n (o + 1) * ro_iv (G o 0 * ro_k (ffz (n : Int) o)) := by
  unfold ntV
  rw [ntS_fS, ← fS_sI h ho hn hT (o + 1) (Nat.le_refl _)]
  have e : shS E (n : Int) (-(o : Int)) (o + 1) = G o 0 * ro_k (ffz (n : Int) o) := by
    show shS E (n : Int) (-(o : Int)) o + (if 0 ≤ -(o : Int) + o ∧ -(o : Int) + o < 5 then E o (-(o : Int) + o).toNat * ro_k (ffz (n : Int) o) else 0) = _
    have e0 : -(o : Int) + o = 0 := by omega
    rw [shS_neg E _ o o (Nat.le_refl o), e0, if_pos (by omega)]
    show 0 + E o 0 * _ = _
    rw [h o (by omega) 0 (by omega)]; grind
  rw [e]
theorem eq_se {E G : Nat → Nat → ro_K} (h : ag 4 5 E G) {o : Nat} (ho : o ≤ 3) {T T' : Nat → ro_K} (hT : ∀ q, q < o → T q = T' q) : ∀ k q, q < o + k → srT E o T k q = msT G o T' k q
  | 0, q, hq => hT q (by omega)
  | k + 1, q, hq => by
    have ih := eq_se h ho hT k
    show va_up (srT E o T k) (o + k) (ntV E o (srT E o T k) (o + k)) q = va_up (va_up (msT G o T' k) (o + k) 0) (o + k) (-sI G o (va_up (msT G o T' k) (o + k) 0) (o + k) (o + 1) * ro_iv (G o 0 * ro_k (ffz ((o + k : Nat) : Int) o))) q
    by_cases e : q = o + k
    · subst e
      rw [va_up_self, va_up_self]
      refine eq_nt h ho (by omega) (fun q hq => ?_)
      rw [va_up_ne _ _ (by omega)]
      exact ih q hq
    · rw [va_up_ne _ _ e, va_up_ne _ _ e, va_up_ne _ _ e]
      exact ih q (by omega)
theorem msT_keep (G : Nat → Nat → ro_K) (o : Nat) (T' : Nat → ro_K) (k q : Nat) (hq : q < o + k) : ∀ d, msT G o T' (k + d) q = msT G o T' k q
  | 0 => rfl
  | d + 1 => by
    show va_up (va_up (msT G o T' (k + d)) (o + (k + d)) 0) (o + (k + d)) _ q = _
    rw [va_up_ne _ _ (by omega), va_up_ne _ _ (by omega), msT_keep G o T' k q hq d]
theorem srI_low (T T' : Nat → ro_K) (c d e : Int64) : ∀ q, q < 3 → srI T c d e q = srI T' c d e q := by
  intro q hq
  have : q = 0 ∨ q = 1 ∨ q = 2 := by omega
  rcases this with z | z | z <;> subst z <;> rfl
theorem eq_series {E G : Nat → Nat → ro_K} (h : ag 4 5 E G) {o : Nat} (ho : o ≤ 3) (T T' : Nat → ro_K) (c d e : Int64) {pw : Nat} (hp : pw ≤ 30) : srT E o (srI T c d e) (pw + 1 - o) pw = msT G o (srI T' c d e) (31 - o) pw := by
  rw [eq_se h ho (T' := srI T' c d e) (fun q hq => srI_low T T' c d e q (by omega)) (pw + 1 - o) pw (by omega)]
  have e1 : 31 - o = pw + 1 - o + (31 - o - (pw + 1 - o)) := by omega
  rw [e1, msT_keep G o _ (pw + 1 - o) pw (by omega)]
end EQ
