/-! WHAT THE ROWS OF Roots MEAN: polynomials in rows of five (or eight) numbers -/
def ct (n : Nat) (F : Nat → ro_K) : Nat → ro_K := fun i => if i < n then F i else 0
theorem ct_lt {n : Nat} {F : Nat → ro_K} {i : Nat} (h : i < n) : ct n F i = F i := if_pos h
theorem ct_ge {n : Nat} {F : Nat → ro_K} {i : Nat} (h : n ≤ i) : ct n F i = 0 := if_neg (Nat.not_lt.mpr h)
theorem ev_ct (n : Nat) (F : Nat → ro_K) (x : ro_K) : ro_ev n (ct n F) x = ro_ev n F x := ro_ev_congr n x (fun i h => ct_lt h)
theorem kd_spec (F : Nat → ro_K) : ∀ n, (kd F n < 0 ∧ ∀ i, i < n → F i = 0) ∨ ∃ d : Nat, kd F n = (d : Int) ∧ d < n ∧ F d ≠ 0 ∧ ∀ i, d < i → i < n → F i = 0
  | 0 => Or.inl ⟨(by show (-1 : Int) < 0; decide), fun i h => absurd h (Nat.not_lt_zero i)⟩
  | n + 1 => by
    have ih := kd_spec F n
    by_cases h : F n = 0
    · have e : kd F (n + 1) = kd F n := if_pos h
      rw [e]
      rcases ih with ⟨a, b⟩ | ⟨d, a, b, c, e2⟩
      · left
        refine ⟨a, fun i hi => ?_⟩
        by_cases q : i = n
        · subst q; exact h
        · exact b i (by omega)
      · right
        refine ⟨d, a, by omega, c, fun i h1 h2 => ?_⟩
        by_cases q : i = n
        · subst q; exact h
        · exact e2 i h1 (by omega)
    · have e : kd F (n + 1) = (n : Int) := if_neg h
      right
      exact ⟨n, e, by omega, h, fun i h1 h2 => absurd h2 (by omega)⟩
theorem kd_of {F : Nat → ro_K} {n d : Nat} (hd : d < n) (h : F d ≠ 0) (hz : ∀ i, d < i → i < n → F i = 0) : kd F n = (d : Int) := by
  rcases kd_spec F n with ⟨-, b⟩ | ⟨d2, a, b, c, e⟩
  · exact absurd (b d hd) h
  · rcases Nat.lt_trichotomy d2 d with q | q | q
    · exact absurd (e d q hd) h
    · rw [a, q]
    · exact absurd (hz d2 q b) c
/-- monic of degree d -/
def mo (F : Nat → ro_K) (d : Nat) : Prop := d < 5 ∧ F d = 1 ∧ ∀ i, d < i → i < 5 → F i = 0
theorem mo_kd {F : Nat → ro_K} {d : Nat} (h : mo F d) : kd F 5 = (d : Int) := kd_of h.1 (by rw [h.2.1]; exact ro_1ne0) h.2.2
theorem mo_ct {F : Nat → ro_K} {d : Nat} (h : mo F d) : ct 5 F d = 1 ∧ ∀ i, d < i → ct 5 F i = 0 := by
  refine ⟨by rw [ct_lt h.1]; exact h.2.1, fun i hi => ?_⟩
  rcases Nat.lt_or_ge i 5 with q | q
  · rw [ct_lt q]; exact h.2.2 i hi q
  · exact ct_ge q
theorem km_spec {F : Nat → ro_K} {d : Nat} (h : kd F 5 = (d : Int)) : mo (km F) d ∧ ∃ c : ro_K, c * F d = 1 ∧ ∀ i, i < 5 → km F i = F i * c := by
  rcases kd_spec F 5 with ⟨a, -⟩ | ⟨d2, a, b, c, e⟩
  · omega
  · have ed : d2 = d := by omega
    subst ed
    have hi := ro_iv_mul c
    have ek : ∀ i, i < 5 → km F i = F i * ro_iv (F d2) := by
      intro i hi5
      unfold km
      rw [if_neg (by omega), h]
      show (if i < ((d2 : Int)).toNat + 1 then F i * ro_iv (F ((d2 : Int)).toNat) else F i) = _
      rw [Int.toNat_natCast]
      by_cases q : i < d2 + 1
      · rw [if_pos q]
      · rw [if_neg q, e i (by omega) hi5]
        generalize ro_iv (F d2) = z
        grind
    generalize ro_iv (F d2) = z at hi ek
    refine ⟨⟨b, by rw [ek d2 b]; exact hi, fun i h1 h2 => ?_⟩, z, by grind, ek⟩
    rw [ek i h2, e i h1 h2]
    grind
/-- s powers up -/
def sN : Nat → (Nat → ro_K) → (Nat → ro_K)
  | 0, f => f
  | s + 1, f => ro_sh (sN s f)
theorem sN_at (f : Nat → ro_K) : ∀ (s j : Nat), sN s f j = if s ≤ j then f (j - s) else 0
  | 0, j => by rw [if_pos (Nat.zero_le j)]; rfl
  | s + 1, 0 => by rw [if_neg (by omega)]; rfl
  | s + 1, j + 1 => by
    show sN s f j = _
    rw [sN_at f s j]
    by_cases h : s ≤ j
    · rw [if_pos h, if_pos (by omega), show j + 1 - (s + 1) = j - s by omega]
    · rw [if_neg h, if_neg (by omega)]
theorem dv_sN {g F : Nat → ro_K} (h : ro_dv g F) : ∀ s, ro_dv g (sN s F)
  | 0 => h
  | s + 1 => ro_dv_sh (dv_sN h s)
theorem tm1_ct {n d s : Nat} {g F : Nat → ro_K} (hg : mo g d) (hs : d + s < n) (j : Nat) : ct n (tm1 d g F s) j = ct n F j - F (d + s) * sN s (ct 5 g) j := by
  have hm := mo_ct hg
  rw [sN_at]
  generalize ht : F (d + s) = t
  rcases Nat.lt_or_ge j n with q | q
  · rw [ct_lt q, ct_lt q]
    show (if s ≤ j ∧ j < s + (d + 1) then F j - F (d + s) * g (j - s) else F j) = _
    rw [ht]
    by_cases h1 : s ≤ j
    · by_cases h2 : j < s + (d + 1)
      · rw [if_pos ⟨h1, h2⟩, if_pos h1, ct_lt (by have := hg.1; omega)]
      · rw [if_neg (fun z => h2 z.2), if_pos h1, hm.2 (j - s) (by omega)]
        grind
    · rw [if_neg (fun z => h1 z.1), if_neg h1]
      grind
  · rw [ct_ge q, ct_ge q, if_pos (by omega), hm.2 (j - s) (by omega)]
    grind
theorem tmo_spec {n d : Nat} {g : Nat → ro_K} (hg : mo g d) : ∀ (q : Nat) (F : Nat → ro_K), (q = 0 ∨ d + q ≤ n) → (∀ i, d + q ≤ i → i < n → F i = 0) → (∀ i, d ≤ i → i < n → tmo d g q F i = 0) ∧ ro_dv (ct 5 g) (fun i => ct n F i - ct n (tmo d g q F) i)
  | 0, F, _, hz => ⟨hz, ro_dv_congr (ro_dv_0 _) (fun i => by show ct n F i - ct n F i = 0; grind)⟩
  | q + 1, F, hq, hz => by
    have hlt : d + q < n := by omega
    obtain ⟨h1, h2⟩ := tmo_spec (n := n) hg q (tm1 d g F q) (by omega) (fun i hi hn => by
      show (if q ≤ i ∧ i < q + (d + 1) then F i - F (d + q) * g (i - q) else F i) = 0
      by_cases e : i = d + q
      · subst e
        rw [if_pos (by omega), show d + q - q = d by omega, hg.2.1]
        grind
      · rw [if_neg (by omega)]
        exact hz i (by omega) hn)
    refine ⟨h1, ?_⟩
    have h3 := ro_dv_add (ro_dv_smul (F (d + q)) (dv_sN (ro_dv_self (ct 5 g)) q)) h2
    refine ro_dv_congr h3 (fun i => ?_)
    show ct n F i - ct n (tmo d g q (tm1 d g F q)) i = F (d + q) * sN q (ct 5 g) i + (ct n (tm1 d g F q) i - ct n (tmo d g q (tm1 d g F q)) i)
    rw [tm1_ct hg hlt i]
    grind
theorem tmr_spec {n d : Nat} {g : Nat → ro_K} (F : Nat → ro_K) (hg : mo g d) : (∀ i, d ≤ i → i < n → tmr n F g i = 0) ∧ ro_dv (ct 5 g) (fun i => ct n F i - ct n (tmr n F g) i) := by
  have hk := mo_kd hg
  have e : tmr n F g = tmo d g (kd F n - (d : Int) + 1).toNat F := by
    unfold tmr
    rw [if_neg (by omega), hk, Int.toNat_natCast]
  rw [e]
  have hb := kd_lo F n
  refine tmo_spec hg _ F (by omega) (fun i hi hn => ?_)
  rcases kd_spec F n with ⟨-, b⟩ | ⟨d2, a, -, -, z⟩
  · exact b i hn
  · exact z i (by omega) hn
theorem dv_ev {g F : Nat → ro_K} {n k : Nat} (h : ro_dv g F) (hg : ∀ i, k ≤ i → g i = 0) (hF : ∀ i, n ≤ i → F i = 0) {x : ro_K} (hx : ro_ev k g x = 0) : ro_ev n F x = 0 := by
  obtain ⟨l, hl⟩ := h
  have e := ro_ev_mc hg x l (l.length + k + n) (by omega)
  rw [hx] at e
  rw [← ro_ev_more n (l.length + k + n) x (by omega) hF, ro_ev_congr _ x (fun i _ => hl i), e]
  grind
theorem ct_sub0 {n : Nat} {F G : Nat → ro_K} : ∀ i, n ≤ i → (fun i => ct n F i - ct n G i) i = 0 := fun i h => by
  show ct n F i - ct n G i = 0
  rw [ct_ge h, ct_ge h]; grind
theorem ev_sub0 {n : Nat} {F G : Nat → ro_K} {x : ro_K} (h : ro_ev n (fun i => ct n F i - ct n G i) x = 0) : ro_ev n F x = ro_ev n G x := by
  rw [ro_ev_sub, ev_ct, ev_ct] at h
  grind
/-- less multiples of g, nothing changes where g is 0 -/
theorem tmr_ev {n d : Nat} {g : Nat → ro_K} (F : Nat → ro_K) (hg : mo g d) {x : ro_K} (hx : ro_ev 5 g x = 0) : ro_ev n (tmr n F g) x = ro_ev n F x := by
  have h := (tmr_spec (n := n) F hg).2
  have := dv_ev (n := n) (k := 5) h (fun i hi => ct_ge hi) ct_sub0 (x := x) (by rw [ev_ct]; exact hx)
  exact (ev_sub0 this).symm
/-- Euclid -/
theorem eu_spec : ∀ (n : Nat) (sw : Bool) (G L : Nat → ro_K) (d : Nat), mo G d → kd L 5 < (n : Int) → (∃ d2, mo (euB n sw G L).2.1 d2) ∧ ro_dv (ct 5 (euB n sw G L).2.1) (ct 5 G) ∧ ro_dv (ct 5 (euB n sw G L).2.1) (ct 5 L) ∧ ∀ x, ro_ev 5 (euB n sw G L).2.1 x = 0 ↔ (ro_ev 5 G x = 0 ∧ ro_ev 5 L x = 0) := by
  have stop : ∀ (G L : Nat → ro_K) (d : Nat), mo G d → kd L 5 < 0 → (∃ d2, mo G d2) ∧ ro_dv (ct 5 G) (ct 5 G) ∧ ro_dv (ct 5 G) (ct 5 L) ∧ ∀ x, ro_ev 5 G x = 0 ↔ (ro_ev 5 G x = 0 ∧ ro_ev 5 L x = 0) := by
    intro G L d hG hL
    have hz : ∀ i, i < 5 → L i = 0 := by
      rcases kd_spec L 5 with ⟨-, b⟩ | ⟨d2, a, -⟩
      · exact b
      · omega
    refine ⟨⟨d, hG⟩, ro_dv_self _, ro_dv_congr (ro_dv_0 _) (fun i => ?_), fun x => ⟨fun h => ⟨h, ro_ev_zero 5 x hz⟩, fun h => h.1⟩⟩
    rcases Nat.lt_or_ge i 5 with q | q
    · rw [ct_lt q]; exact hz i q
    · exact ct_ge q
  intro n
  induction n with
  | zero => intro sw G L d hG hL; exact stop G L d hG hL
  | succ n ih =>
    intro sw G L d hG hL
    by_cases h : kd L 5 < 0
    · have e : euB (n + 1) sw G L = (sw, G, L) := if_pos h
      rw [e]
      exact stop G L d hG h
    · have e : euB (n + 1) sw G L = euB n (!sw) (km L) (tmr 5 G (km L)) := if_neg h
      rw [e]
      obtain ⟨dL, hdL⟩ : ∃ dL : Nat, kd L 5 = (dL : Int) := ⟨(kd L 5).toNat, by omega⟩
      obtain ⟨hm, c, hc1, hc⟩ := km_spec hdL
      obtain ⟨t1, t2⟩ := tmr_spec (n := 5) G hm
      have hlt : kd (tmr 5 G (km L)) 5 < (n : Int) := by
        rcases kd_spec (tmr 5 G (km L)) 5 with ⟨a, -⟩ | ⟨d2, a, b, q, -⟩
        · omega
        · rcases Nat.lt_or_ge d2 dL with z | z
          · omega
          · exact absurd (t1 d2 z b) q
      obtain ⟨p1, p2, p3, p4⟩ := ih (!sw) (km L) (tmr 5 G (km L)) dL hm hlt
      generalize (euB n (!sw) (km L) (tmr 5 G (km L))).2.1 = g' at p1 p2 p3 p4
      have eL : ∀ i, ct 5 L i = L dL * ct 5 (km L) i := by
        intro i
        rcases Nat.lt_or_ge i 5 with q | q
        · rw [ct_lt q, ct_lt q, hc i q]; grind
        · rw [ct_ge q, ct_ge q]; grind
      refine ⟨p1, ?_, ro_dv_congr (ro_dv_smul (L dL) p2) eL, fun x => ?_⟩
      · exact ro_dv_congr (ro_dv_add (ro_dv_trans p2 t2) p3) (fun i => by grind)
      · have ev : ro_ev 5 L x = L dL * ro_ev 5 (km L) x := by
          rw [← ev_ct 5 L, ro_ev_congr 5 x (fun i _ => eL i), ro_ev_smul, ev_ct]
        have nz : L dL ≠ 0 := fun z => ro_1ne0 (by rw [← hc1, z]; grind)
        rw [p4 x]
        constructor
        · rintro ⟨a, b⟩
          exact ⟨by rw [← tmr_ev G hm a]; exact b, by rw [ev, a]; grind⟩
        · rintro ⟨a, b⟩
          rw [ev] at b
          have a2 : ro_ev 5 (km L) x = 0 := by
            rcases ro_nz b with z | z
            · exact absurd z nz
            · exact z
          exact ⟨a2, by rw [tmr_ev G hm a2]; exact a⟩
/-! the square -/
def sqs (r R : Nat → ro_K) : Nat → (Nat → ro_K)
  | 0 => fun _ => 0
  | k + 1 => fun j => sqs r R k j + r k * sN k R j
theorem sqJ_ct (r : Nat → ro_K) {i n : Nat} (hn : i + n ≤ 8) (S : Nat → ro_K) : ∀ (k : Nat), k ≤ n → ∀ j, ct 8 (sqJ r i k S) j = ct 8 S j + r i * sN i (ct k r) j
  | 0, _, j => by
    rw [sN_at]
    show ct 8 S j = ct 8 S j + r i * (if i ≤ j then ct 0 r (j - i) else 0)
    rw [ct_ge (Nat.zero_le _)]
    by_cases h : i ≤ j
    · rw [if_pos h]; grind
    · rw [if_neg h]; grind
  | k + 1, hk, j => by
    have ih := sqJ_ct r hn S k (by omega)
    have ihj := ih j
    have ihk := ih (i + k)
    rw [sN_at] at ihj ihk ⊢
    rw [if_pos (by omega), show i + k - i = k by omega, ct_ge (Nat.le_refl k), ct_lt (show i + k < 8 by omega)] at ihk
    by_cases e : j = i + k
    · subst e
      rw [if_pos (by omega), show i + k - i = k by omega, ct_lt (Nat.lt_succ_self k), ct_lt (show i + k < 8 by omega)]
      show va_up (sqJ r i k S) (i + k) (sqJ r i k S (i + k) + r i * r k) (i + k) = _
      rw [va_up_self, ihk]
      grind
    · have e1 : ct 8 (sqJ r i (k + 1) S) j = ct 8 (sqJ r i k S) j := by
        rcases Nat.lt_or_ge j 8 with q | q
        · rw [ct_lt q, ct_lt q]
          show va_up (sqJ r i k S) (i + k) _ j = _
          rw [va_up_ne _ _ e]
        · rw [ct_ge q, ct_ge q]
      rw [e1, ihj]
      by_cases h : i ≤ j
      · rw [if_pos h, if_pos h]
        by_cases h2 : j - i < k
        · rw [ct_lt (F := r) h2, ct_lt (F := r) (show j - i < k + 1 by omega)]
        · rw [ct_ge (F := r) (show k ≤ j - i by omega), ct_ge (F := r) (show k + 1 ≤ j - i by omega)]
      · rw [if_neg h, if_neg h]
theorem sqI_ct (r : Nat → ro_K) {n : Nat} (hn : n ≤ 4) (S : Nat → ro_K) : ∀ (k : Nat), k ≤ n → ∀ j, ct 8 (sqI r n k S) j = ct 8 S j + sqs r (ct n r) k j
  | 0, _, j => by show ct 8 S j = ct 8 S j + 0; grind
  | k + 1, hk, j => by
    show ct 8 (sqJ r k n (sqI r n k S)) j = ct 8 S j + (sqs r (ct n r) k j + r k * sN k (ct n r) j)
    rw [sqJ_ct r (by omega) _ n (Nat.le_refl n) j, sqI_ct r hn S k (by omega) j]
    grind
theorem kfl_ct (S : Nat → ro_K) (n j : Nat) : ct n (kfl S 0 n) j = 0 := by
  rcases Nat.lt_or_ge j n with q | q
  · rw [ct_lt q]; exact if_pos q
  · exact ct_ge q
theorem sq_ct (r : Nat → ro_K) {n : Nat} (hn : n ≤ 4) (S : Nat → ro_K) (j : Nat) : ct 8 (sqI r n n (kfl S 0 8)) j = sqs r (ct n r) n j := by
  rw [sqI_ct r hn _ n (Nat.le_refl n) j, kfl_ct]; grind
theorem sqs_7 (r : Nat → ro_K) {n : Nat} (hn : n ≤ 4) : ∀ k, k ≤ n → ∀ j, 7 ≤ j → sqs r (ct n r) k j = 0
  | 0, _, _, _ => rfl
  | k + 1, hk, j, hj => by
    show sqs r (ct n r) k j + r k * sN k (ct n r) j = 0
    rw [sqs_7 r hn k (by omega) j hj, sN_at, if_pos (by omega), ct_ge (by omega)]
    grind
theorem ev_top : ∀ (n : Nat) (f : Nat → ro_K) (x : ro_K), ro_ev (n + 1) f x = ro_ev n f x + f n * ro_pw x n
  | 0, f, x => by show f 0 + x * 0 = 0 + f 0 * 1; grind
  | n + 1, f, x => by
    rw [ro_ev_s (n + 1), ev_top n (fun i => f (i + 1)) x, ro_ev_s n]
    show f 0 + x * (ro_ev n (fun i => f (i + 1)) x + f (n + 1) * ro_pw x n) = f 0 + x * ro_ev n (fun i => f (i + 1)) x + f (n + 1) * (ro_pw x n * x)
    grind
theorem ev_sN (R : Nat → ro_K) (m : Nat) (x : ro_K) : ∀ k, ro_ev (m + k) (sN k R) x = ro_pw x k * ro_ev m R x
  | 0 => by show ro_ev m R x = 1 * ro_ev m R x; grind
  | k + 1 => by
    show ro_ev (m + k + 1) (ro_sh (sN k R)) x = ro_pw x k * x * ro_ev m R x
    rw [ro_ev_sh, ev_sN R m x k]
    grind
theorem ev_sqs (r : Nat → ro_K) {n : Nat} (hn : n ≤ 4) (x : ro_K) : ∀ k, k ≤ n → ro_ev 8 (sqs r (ct n r) k) x = ro_ev k r x * ro_ev n r x
  | 0, _ => by
    rw [ro_ev_zero (f := sqs r (ct n r) 0) 8 x (fun i _ => rfl)]
    show (0 : ro_K) = 0 * ro_ev n r x
    grind
  | k + 1, hk => by
    have e : ro_ev 8 (sqs r (ct n r) (k + 1)) x = ro_ev 8 (sqs r (ct n r) k) x + ro_ev 8 (fun j => r k * sN k (ct n r) j) x := ro_ev_add 8 (sqs r (ct n r) k) (fun j => r k * sN k (ct n r) j) x
    have e2 : ro_ev 8 (sN k (ct n r)) x = ro_pw x k * ro_ev n r x := by
      rw [ro_ev_more (n + k) 8 x (by omega) (fun i hi => by rw [sN_at, if_pos (by omega)]; exact ct_ge (by omega)), ev_sN, ev_ct]
    rw [e, ro_ev_smul, e2, ev_sqs r hn x k (by omega), ev_top k r x]
    grind
theorem tlL_at (b : ro_K) : ∀ (n : Nat) (S : Nat → ro_K) (j : Nat), tlL b n S j = if 1 ≤ j ∧ j ≤ n then S j * b + S (j - 1) else S j
  | 0, S, j => by rw [if_neg (by omega)]; rfl
  | n + 1, S, j => by
    show tlL b n (va_up S (n + 1) (S (n + 1) * b + S n)) j = _
    rw [tlL_at b n]
    by_cases h : 1 ≤ j ∧ j ≤ n
    · rw [if_pos h, if_pos (by omega), va_up_ne _ _ (by omega), va_up_ne _ _ (by omega)]
    · rw [if_neg h]
      by_cases h2 : j = n + 1
      · subst h2
        rw [va_up_self, if_pos (by omega), show n + 1 - 1 = n by omega]
      · rw [va_up_ne _ _ h2, if_neg (by omega)]
theorem tl_ct (b : ro_K) (S : Nat → ro_K) (h7 : S 7 = 0) (j : Nat) : ct 8 (tlF b S) j = b * ct 8 S j + ro_sh (ct 8 S) j := by
  cases j with
  | zero =>
    rw [ro_sh_0, ct_lt (by decide), ct_lt (by decide)]
    show va_up (tlL b 7 S) 0 (tlL b 7 S 0 * b) 0 = _
    rw [va_up_self, tlL_at, if_neg (by omega)]
    grind
  | succ j =>
    rw [ro_sh_s]
    rcases Nat.lt_or_ge (j + 1) 8 with q | q
    · rw [ct_lt q, ct_lt q, ct_lt (by omega)]
      show va_up (tlL b 7 S) 0 (tlL b 7 S 0 * b) (j + 1) = _
      rw [va_up_ne _ _ (by omega), tlL_at, if_pos (by omega), show j + 1 - 1 = j by omega]
      grind
    · rw [ct_ge q, ct_ge q]
      by_cases e : j = 7
      · subst e
        rw [ct_lt (by decide), h7]; grind
      · rw [ct_ge (by omega)]; grind
/-! raising -/
theorem rs_row {b : ro_K} {pw n k : Nat} {g r S : Nat → ro_K} (hg : mo g n) : (∀ i, n ≤ i → i < 8 → rsS b pw n k g r S i = 0) ∧ (∀ i, ct 5 (va_cpy (rsS b pw n k g r S) r 0 0 5) i = ct 8 (rsS b pw n k g r S) i) := by
  have h := (tmr_spec (n := 8) (if pw / 2 ^ k % 2 = 1 then tlF b (sqI r n n (kfl S 0 8)) else sqI r n n (kfl S 0 8)) hg).1
  refine ⟨h, fun i => ?_⟩
  rcases Nat.lt_or_ge i 5 with q | q
  · rw [ct_lt q, ct_lt (by omega)]
    show (if 0 ≤ i ∧ i < 0 + 5 then rsS b pw n k g r S (0 + (i - 0)) else r i) = _
    rw [if_pos (by omega), show 0 + (i - 0) = i by omega]
  · rw [ct_ge q]
    rcases Nat.lt_or_ge i 8 with z | z
    · rw [ct_lt z]; exact (h i (by have := hg.1; omega) z).symm
    · exact (ct_ge z).symm
theorem ev_58 {F G : Nat → ro_K} (h : ∀ i, ct 5 F i = ct 8 G i) (x : ro_K) : ro_ev 5 F x = ro_ev 8 G x := by
  rw [← ev_ct 5 F, ← ev_ct 8 G, ← ro_ev_more 5 8 x (by decide) (fun i hi => ct_ge (n := 5) (F := F) hi)]
  exact ro_ev_congr 8 x (fun i _ => h i)
theorem pow_bit (pw k : Nat) : pw / 2 ^ k = 2 * (pw / 2 ^ (k + 1)) + pw / 2 ^ k % 2 := by
  rw [Nat.pow_succ, ← Nat.div_div_eq_div_mul]
  omega
theorem rs_sq_ev {r S : Nat → ro_K} {n : Nat} (hn : n ≤ 4) (hr : ∀ i, n ≤ i → i < 5 → r i = 0) (x : ro_K) : ro_ev 8 (sqI r n n (kfl S 0 8)) x = ro_ev 5 r x * ro_ev 5 r x := by
  have e : ro_ev 5 r x = ro_ev n r x := by
    have h := ro_ev_more n 5 (f := ct n r) x (by omega) (fun i hi => ct_ge hi)
    rw [ev_ct] at h
    rw [← h]
    refine ro_ev_congr 5 x (fun i hi => ?_)
    rcases Nat.lt_or_ge i n with q | q
    · rw [ct_lt q]
    · rw [ct_ge q]; exact hr i q hi
  rw [← ev_ct, ro_ev_congr 8 x (fun i _ => sq_ct r hn S i), ev_sqs r hn x n (Nat.le_refl n), e]
theorem sq_7 {r S : Nat → ro_K} {n : Nat} (hn : n ≤ 4) : sqI r n n (kfl S 0 8) 7 = 0 := by
  have h := sq_ct r hn S 7
  rw [ct_lt (by decide), sqs_7 r hn n (Nat.le_refl n) 7 (by decide)] at h
  exact h
/-- where g is 0, what was raised is x + b to the power -/
theorem rsL_ev {b x : ro_K} {pw n : Nat} {g : Nat → ro_K} (hg : mo g n) (hx : ro_ev 5 g x = 0) : ∀ (k : Nat) (r S : Nat → ro_K), (∀ i, n ≤ i → i < 5 → r i = 0) → ro_ev 5 r x = ro_pw (x + b) (pw / 2 ^ k) → (∀ i, n ≤ i → i < 5 → (rsL b pw n g k r S).1 i = 0) ∧ ro_ev 5 (rsL b pw n g k r S).1 x = ro_pw (x + b) pw
  | 0, r, S, h1, h2 => ⟨h1, by rw [Nat.pow_zero, Nat.div_one] at h2; exact h2⟩
  | k + 1, r, S, h1, h2 => by
    obtain ⟨z1, z2⟩ := rs_row (b := b) (pw := pw) (k := k) (r := r) (S := S) hg
    have hn : n ≤ 4 := by have := hg.1; omega
    refine rsL_ev hg hx k _ _ (fun i hi hi5 => ?_) ?_
    · have := z2 i
      rw [ct_lt hi5, ct_lt (by omega), z1 i hi (by omega)] at this
      exact this
    · rw [ev_58 z2 x]
      show ro_ev 8 (tmr 8 _ g) x = _
      have ep : ro_pw (x + b) (pw / 2 ^ k) = ro_ev 5 r x * ro_ev 5 r x * ro_pw (x + b) (pw / 2 ^ k % 2) := by
        have := congrArg (ro_pw (x + b)) (pow_bit pw k)
        rw [ro_pw_add, Nat.two_mul, ro_pw_add, ← h2] at this
        exact this
      rw [tmr_ev _ hg hx, ep]
      have hs := rs_sq_ev (S := S) hn h1 x
      by_cases hb : pw / 2 ^ k % 2 = 1
      · rw [if_pos hb, hb, ro_pw_1, ← ev_ct, ro_ev_congr 8 x (fun i _ => tl_ct b _ (sq_7 hn) i), ro_ev_add 8 (fun i => b * ct 8 (sqI r n n (kfl S 0 8)) i) (ro_sh (ct 8 (sqI r n n (kfl S 0 8)))), ro_ev_smul, ev_ct, hs]
        have e7 : ro_ev 8 (ro_sh (ct 8 (sqI r n n (kfl S 0 8)))) x = x * (ro_ev 5 r x * ro_ev 5 r x) := by
          rw [ro_ev_sh 7, ← ro_ev_more 7 8 x (by decide) (fun i hi => by
            by_cases e : i = 7
            · subst e; rw [ct_lt (by decide)]; exact sq_7 hn
            · exact ct_ge (by omega)), ev_ct, hs]
        rw [e7]
        grind
      · rw [if_neg hb, show pw / 2 ^ k % 2 = 0 by omega, hs]
        show _ = _ * 1
        grind
