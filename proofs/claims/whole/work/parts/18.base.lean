/-! THE CLASSES whose objects the worlds hold; small rows that the walks use -/
abbrev vC : List vw_C := [(R_B, T_B, 4), (R_R, T_R, 8), (R_O, T_O, 9), (R_M, T_M, 13)]
theorem rc_self {w : va_W} {A : Nat → Prop} (h : va_D A w) : va_D (rc_A w) w := ⟨h.1, fun k q hk => ⟨k, q.2, hk⟩⟩
theorem lp_c2 : lp 2 2 2 := ⟨2, rfl, by decide, rfl⟩
theorem lp_c3 : lp 3 3 3 := ⟨3, rfl, by decide, rfl⟩
def lz (z : Int) : Int64 := Int64.ofInt z
theorem lz_mul (a b : Int) : lz a * lz b = lz (a * b) := by
  apply Int64.toBitVec_inj.mp
  simp [lz, BitVec.ofInt_mul]
theorem lz_add (a b : Int) : lz a + lz b = lz (a + b) := by
  apply Int64.toBitVec_inj.mp
  simp [lz, BitVec.ofInt_add]
theorem lz_neg (a : Int) : -lz a = lz (-a) := by
  apply Int64.toBitVec_inj.mp
  simp [lz, BitVec.ofInt_neg]
theorem lz_sub (a b : Int) : lz a - lz b = lz (a - b) := by
  rw [Int64.sub_eq_add_neg, lz_neg, lz_add, Int.sub_eq_add_neg]
theorem lz_toInt {z : Int} (h1 : -9223372036854775808 ≤ z) (h2 : z < 9223372036854775808) : (lz z).toInt = z := Int64.toInt_ofInt_of_le h1 h2
theorem lz_self (x : Int64) : x = lz x.toInt := (Int64.ofInt_toInt x).symm
/-- what v less the whole parts of 32003 is -/
theorem nb_rem (v : Int64) : v - v / 32003 * 32003 = lz (v.toInt.tmod 32003) := by
  have e3 : (32003 : Int64) = lz 32003 := rfl
  have hd : v / 32003 = lz (v.toInt.tdiv 32003) := by
    have h := Int64.toInt_div_of_ne_right v 32003 (by decide)
    rw [lz_self (v / 32003), h]
    rfl
  rw [hd, e3, lz_mul]
  have hv := lz_self v
  have key : lz v.toInt - lz (v.toInt.tdiv 32003 * 32003) = lz (v.toInt.tmod 32003) := by
    rw [lz_sub]
    congr 1
    have := Int.mul_tdiv_add_tmod v.toInt 32003
    omega
  rw [← hv] at key
  exact key
theorem nb_k {v : Int64} {x : ro_K} {z : Int} (h : v = lz z) (h0 : 0 ≤ z) (h1 : z < 32003) (hx : ro_k z = x) : v = lk x := by
  subst h
  subst hx
  unfold lk
  rw [ro_k_val, show (z % 32003).toNat = z.toNat by omega]
  have : z = ((z.toNat : Nat) : Int) := by omega
  rw [this]
  exact Int64.ofInt_eq_ofNat
theorem tm_k (a : Int) : -32003 < a.tmod 32003 ∧ a.tmod 32003 < 32003 ∧ ro_k (a.tmod 32003) = ro_k a := by
  have b := tmod_bounds (a := a) (M := 32003) (by decide)
  refine ⟨b.1, b.2, ?_⟩
  rw [ro_k_eq]
  have := Int.mul_tdiv_add_tmod a 32003
  omega
theorem rc_out {t : State} {H : Heap} {D : va_G} {cl : List vw_C} {w : va_W} (ht : t.heap = H) (h : va_P D cl w H) : va_P D cl w t.heap := by rw [ht]; exact h
