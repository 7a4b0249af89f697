/-! THE FIELD of 32003 numbers, and its powers -/
abbrev ro_K : Type := Fin 32003
theorem ro_lt (z : Int) : (z % 32003).toNat < 32003 := by omega
/-- the number that an integer is -/
def ro_k (z : Int) : ro_K := ⟨(z % 32003).toNat, ro_lt z⟩
theorem ro_k_val (z : Int) : (ro_k z).val = (z % 32003).toNat := rfl
theorem ro_k_eq {a b : Int} : ro_k a = ro_k b ↔ a % 32003 = b % 32003 := by
  rw [Fin.ext_iff, ro_k_val, ro_k_val]; omega
theorem ro_k_zero {a : Int} : ro_k a = 0 ↔ a % 32003 = 0 := by
  rw [Fin.ext_iff, ro_k_val]; show _ = 0 ↔ _; omega
theorem ro_k0 : ro_k 0 = 0 := rfl
theorem ro_k1 : ro_k 1 = 1 := rfl
theorem ro_k_add (a b : Int) : ro_k (a + b) = ro_k a + ro_k b := by
  apply Fin.ext
  rw [Fin.val_add, ro_k_val, ro_k_val, ro_k_val]; omega
theorem ro_k_mul (a b : Int) : ro_k (a * b) = ro_k a * ro_k b := by
  apply Fin.ext
  rw [Fin.val_mul, ro_k_val, ro_k_val, ro_k_val, Int.mul_emod]
  obtain ⟨x, hx⟩ : ∃ x : Nat, a % 32003 = (x : Int) := ⟨(a % 32003).toNat, by omega⟩
  obtain ⟨y, hy⟩ : ∃ y : Nat, b % 32003 = (y : Int) := ⟨(b % 32003).toNat, by omega⟩
  rw [hx, hy, Int.toNat_natCast, Int.toNat_natCast, ← Int.natCast_mul]
  omega
theorem ro_k_sub (a b : Int) : ro_k (a - b) = ro_k a - ro_k b := by
  have h : ro_k (a - b + b) = ro_k (a - b) + ro_k b := ro_k_add _ _
  rw [Int.sub_add_cancel] at h
  rw [h]; grind
theorem ro_k_neg (a : Int) : ro_k (-a) = - ro_k a := by
  have h : ro_k (-a + a) = ro_k (-a) + ro_k a := ro_k_add _ _
  rw [Int.add_left_neg, ro_k0] at h
  grind
theorem ro_k_mod (a : Int) : ro_k (a % 32003) = ro_k a := by rw [ro_k_eq]; omega
theorem ro_k_inj {a b : Int} (ha : 0 ≤ a) (ha2 : a < 32003) (hb : 0 ≤ b) (hb2 : b < 32003) (h : ro_k a = ro_k b) : a = b := by
  rw [ro_k_eq] at h; omega
theorem ro_k_back (x : ro_K) : ro_k (x.val : Int) = x := by
  apply Fin.ext
  rw [ro_k_val]
  have := x.isLt
  omega
def ro_pw (a : ro_K) : Nat → ro_K
  | 0 => 1
  | n + 1 => ro_pw a n * a
theorem ro_pw_add (a : ro_K) (m n : Nat) : ro_pw a (m + n) = ro_pw a m * ro_pw a n := by
  induction n with
  | zero => show ro_pw a m = ro_pw a m * 1; grind
  | succ n ih => show ro_pw a (m + n) * a = ro_pw a m * (ro_pw a n * a); rw [ih]; grind
theorem ro_pw_1 (a : ro_K) : ro_pw a 1 = a := by show 1 * a = a; grind
theorem ro_pw_one (n : Nat) : ro_pw 1 n = 1 := by
  induction n with
  | zero => rfl
  | succ n ih => show ro_pw 1 n * 1 = 1; rw [ih]; rfl
theorem ro_pw_mul (a b : ro_K) (n : Nat) : ro_pw (a * b) n = ro_pw a n * ro_pw b n := by
  induction n with
  | zero => show (1 : ro_K) = 1 * 1; rfl
  | succ n ih => show ro_pw (a * b) n * (a * b) = ro_pw a n * a * (ro_pw b n * b); rw [ih]; grind
theorem ro_pw_val (a : ro_K) (n : Nat) : (ro_pw a n).val = a.val ^ n % 32003 := by
  induction n with
  | zero => rfl
  | succ n ih =>
    show (ro_pw a n * a).val = _
    rw [Fin.val_mul, ih, Nat.pow_succ, Nat.mod_mul_mod]
/-- Fermat's theorem for this number, looked at for each of them -/
def ro_fc (b : Nat) : Nat → Bool
  | 0 => true
  | n + 1 => Nat.beq (Nat.mod (Nat.pow (Nat.add b n) 32002) 32003) 1 && ro_fc b n
theorem ro_fc_at {b : Nat} : ∀ n, ro_fc b n = true → ∀ j, j < n → (b + j) ^ 32002 % 32003 = 1
  | 0, _, j, hj => absurd hj (Nat.not_lt_zero j)
  | n + 1, h, j, hj => by
    have h' : (Nat.beq (Nat.mod (Nat.pow (Nat.add b n) 32002) 32003) 1 && ro_fc b n) = true := h
    rw [Bool.and_eq_true] at h'
    rcases Nat.lt_or_ge j n with q | q
    · exact ro_fc_at n h'.2 j q
    · have e : j = n := by omega
      subst e
      exact Nat.eq_of_beq_eq_true h'.1
theorem ro_fc1 : ro_fc 1 8000 = true := by decide +kernel
theorem ro_fc2 : ro_fc 8001 8000 = true := by decide +kernel
theorem ro_fc3 : ro_fc 16001 8000 = true := by decide +kernel
theorem ro_fc4 : ro_fc 24001 8002 = true := by decide +kernel
theorem ro_fermat {a : ro_K} (h : a ≠ 0) : ro_pw a 32002 = 1 := by
  apply Fin.ext
  rw [ro_pw_val]
  have hl := a.isLt
  have h0 : a.val ≠ 0 := fun e => h (Fin.ext e)
  generalize a.val = v at hl h0
  show v ^ 32002 % 32003 = 1
  rcases Nat.lt_or_ge v 8001 with q | q
  · obtain ⟨j, rfl⟩ : ∃ j, v = 1 + j := ⟨v - 1, by omega⟩
    exact ro_fc_at _ ro_fc1 j (by omega)
  rcases Nat.lt_or_ge v 16001 with q2 | q2
  · obtain ⟨j, rfl⟩ : ∃ j, v = 8001 + j := ⟨v - 8001, by omega⟩
    exact ro_fc_at _ ro_fc2 j (by omega)
  rcases Nat.lt_or_ge v 24001 with q3 | q3
  · obtain ⟨j, rfl⟩ : ∃ j, v = 16001 + j := ⟨v - 16001, by omega⟩
    exact ro_fc_at _ ro_fc3 j (by omega)
  · obtain ⟨j, rfl⟩ : ∃ j, v = 24001 + j := ⟨v - 24001, by omega⟩
    exact ro_fc_at _ ro_fc4 j (by omega)
/-- the inverse; 0's is 0 -/
def ro_iv (a : ro_K) : ro_K := ro_pw a 32001
theorem ro_iv_gen {a : ro_K} {n : Nat} (h : ro_pw a (n + 1) = 1) : a * ro_pw a n = 1 := by
  have e : ro_pw a n * a = 1 := h
  generalize ro_pw a n = z at e ⊢
  grind
theorem ro_iv_mul {a : ro_K} (h : a ≠ 0) : a * ro_iv a = 1 := ro_iv_gen (n := 32001) (ro_fermat h)
theorem ro_nz {a b : ro_K} (h : a * b = 0) : a = 0 ∨ b = 0 := by
  by_cases ha : a = 0
  · exact Or.inl ha
  · refine Or.inr ?_
    have e := ro_iv_mul ha
    generalize ro_iv a = z at e
    have e2 : b = z * (a * b) := by
      have : z * (a * b) = (a * z) * b := by grind
      rw [this, e]; grind
    rw [e2, h]; grind
theorem ro_pw_s1 {a : ro_K} {n : Nat} (h : ro_pw a n = 1) : ro_pw a (n + 1) = a := by
  show ro_pw a n * a = a
  rw [h]; grind
theorem ro_pw_0 (n : Nat) : ro_pw 0 (n + 1) = 0 := by
  show ro_pw 0 n * 0 = 0
  generalize ro_pw 0 n = z
  grind
theorem ro_pw_p (a : ro_K) : ro_pw a 32003 = a := by
  by_cases h : a = 0
  · subst h
    exact ro_pw_0 32002
  · exact ro_pw_s1 (n := 32002) (ro_fermat h)
theorem ro_half_gen {a : ro_K} {n : Nat} (h : ro_pw a (n + n) = 1) : ro_pw a n = 1 ∨ ro_pw a n = -1 := by
  have e := ro_pw_add a n n
  rw [h] at e
  generalize ro_pw a n = z at e ⊢
  have e2 : (z - 1) * (z + 1) = 0 := by grind
  rcases ro_nz e2 with q | q
  · left; grind
  · right; grind
theorem ro_half {a : ro_K} (h : a ≠ 0) : ro_pw a 16001 = 1 ∨ ro_pw a 16001 = -1 := ro_half_gen (n := 16001) (ro_fermat h)
theorem ro_neg_gen (a : ro_K) (n : Nat) : ro_pw (-a) (2 * n + 1) = - ro_pw a (2 * n + 1) := by
  have key : ro_pw (-a) (2 * n) = ro_pw a (2 * n) := by
    induction n with
    | zero => rfl
    | succ n ih =>
      show ro_pw (-a) (2 * n) * (-a) * (-a) = ro_pw a (2 * n) * a * a
      rw [ih]
      generalize ro_pw a (2 * n) = z
      grind
  show ro_pw (-a) (2 * n) * (-a) = - (ro_pw a (2 * n) * a)
  rw [key]
  generalize ro_pw a (2 * n) = z
  grind
theorem ro_half_neg (a : ro_K) : ro_pw (-a) 16001 = - ro_pw a 16001 := ro_neg_gen a 8000
theorem ro_half_0 : ro_pw 0 16001 = 0 := ro_pw_0 16000
theorem ro_1ne : (1 : ro_K) ≠ -1 := by decide
theorem ro_1ne0 : (1 : ro_K) ≠ 0 := by decide
/-- two numbers are told apart by what is a square once one of them is moved to 0 -/
theorem ro_apart {s t : ro_K} (h : s ≠ t) : ∃ b : ro_K, (ro_pw (s + b) 16001 = 1 ∧ ro_pw (t + b) 16001 ≠ 1) ∨ (ro_pw (s + b) 16001 ≠ 1 ∧ ro_pw (t + b) 16001 = 1) := by
  have hd : s + -t ≠ 0 := fun e => h (by grind)
  rcases ro_half hd with q | q
  · refine ⟨-t, Or.inl ⟨q, ?_⟩⟩
    have e : t + -t = 0 := by grind
    rw [e, ro_half_0]
    exact fun z => ro_1ne0 z.symm
  · refine ⟨-s, Or.inr ⟨?_, ?_⟩⟩
    · have e : s + -s = 0 := by grind
      rw [e, ro_half_0]
      exact fun z => ro_1ne0 z.symm
    · have e : t + -s = -(s + -t) := by grind
      rw [e, ro_half_neg, q]
      show - (- (1 : ro_K)) = 1
      decide
