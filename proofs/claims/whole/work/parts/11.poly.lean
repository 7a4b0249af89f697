/-! POLYNOMIALS over the field: the number at each power; n powers are looked at -/
def ro_ev : Nat → (Nat → ro_K) → ro_K → ro_K
  | 0, _, _ => 0
  | n + 1, f, x => f 0 + x * ro_ev n (fun i => f (i + 1)) x
theorem ro_ev_s (n : Nat) (f : Nat → ro_K) (x : ro_K) : ro_ev (n + 1) f x = f 0 + x * ro_ev n (fun i => f (i + 1)) x := rfl
theorem ro_ev_congr : ∀ (n : Nat) {f g : Nat → ro_K} (x : ro_K), (∀ i, i < n → f i = g i) → ro_ev n f x = ro_ev n g x
  | 0, _, _, _, _ => rfl
  | n + 1, f, g, x, h => by
    rw [ro_ev_s, ro_ev_s, h 0 (Nat.succ_pos n), ro_ev_congr n x (fun i hi => h (i + 1) (Nat.succ_lt_succ hi))]
theorem ro_ev_zero : ∀ (n : Nat) {f : Nat → ro_K} (x : ro_K), (∀ i, i < n → f i = 0) → ro_ev n f x = 0
  | 0, _, _, _ => rfl
  | n + 1, f, x, h => by
    rw [ro_ev_s, h 0 (Nat.succ_pos n), ro_ev_zero n x (fun i hi => h (i + 1) (Nat.succ_lt_succ hi))]
    grind
theorem ro_ev_more : ∀ (n m : Nat) {f : Nat → ro_K} (x : ro_K), n ≤ m → (∀ i, n ≤ i → f i = 0) → ro_ev m f x = ro_ev n f x
  | 0, m, f, x, _, h => ro_ev_zero m x (fun i _ => h i (Nat.zero_le i))
  | n + 1, 0, f, x, hm, _ => absurd hm (by omega)
  | n + 1, m + 1, f, x, hm, h => by
    rw [ro_ev_s, ro_ev_s, ro_ev_more n m x (by omega) (fun i hi => h (i + 1) (by omega))]
theorem ro_ev_add : ∀ (n : Nat) (f g : Nat → ro_K) (x : ro_K), ro_ev n (fun i => f i + g i) x = ro_ev n f x + ro_ev n g x
  | 0, _, _, _ => by show (0 : ro_K) = 0 + 0; rfl
  | n + 1, f, g, x => by
    rw [ro_ev_s, ro_ev_s, ro_ev_s, ro_ev_add n (fun i => f (i + 1)) (fun i => g (i + 1)) x]
    grind
theorem ro_ev_smul : ∀ (n : Nat) (c : ro_K) (f : Nat → ro_K) (x : ro_K), ro_ev n (fun i => c * f i) x = c * ro_ev n f x
  | 0, c, _, _ => by show (0 : ro_K) = c * 0; grind
  | n + 1, c, f, x => by
    rw [ro_ev_s, ro_ev_s, ro_ev_smul n c (fun i => f (i + 1)) x]
    grind
theorem ro_ev_sub (n : Nat) (f g : Nat → ro_K) (x : ro_K) : ro_ev n (fun i => f i - g i) x = ro_ev n f x - ro_ev n g x := by
  have h := ro_ev_add n (fun i => f i - g i) g x
  rw [ro_ev_congr n (f := fun i => f i - g i + g i) (g := f) x (fun i _ => by grind)] at h
  rw [h]; grind
/-- one power more, at the lower end -/
def ro_sh (f : Nat → ro_K) : Nat → ro_K := fun i => match i with
  | 0 => 0
  | j + 1 => f j
theorem ro_sh_0 (f : Nat → ro_K) : ro_sh f 0 = 0 := rfl
theorem ro_sh_s (f : Nat → ro_K) (j : Nat) : ro_sh f (j + 1) = f j := rfl
theorem ro_ev_sh (n : Nat) (f : Nat → ro_K) (x : ro_K) : ro_ev (n + 1) (ro_sh f) x = x * ro_ev n f x := by
  rw [ro_ev_s, ro_sh_0, ro_ev_congr n (f := fun i => ro_sh f (i + 1)) (g := f) x (fun i _ => rfl)]
  grind
/-- division by x - a -/
theorem ro_div : ∀ (n : Nat) (f : Nat → ro_K) (a : ro_K), ∃ q : Nat → ro_K, (∀ x, ro_ev (n + 1) f x = (x - a) * ro_ev n q x + ro_ev (n + 1) f a) ∧ ((∀ i, i < n → q i = 0) → ∀ i, 1 ≤ i → i < n + 1 → f i = 0)
  | 0, f, a => by
    refine ⟨fun _ => 0, fun x => ?_, fun _ i h1 h2 => absurd h2 (by omega)⟩
    rw [ro_ev_s, ro_ev_s]
    show f 0 + x * 0 = (x - a) * 0 + (f 0 + a * 0)
    grind
  | n + 1, f, a => by
    obtain ⟨q, h1, h2⟩ := ro_div n (fun i => f (i + 1)) a
    refine ⟨fun i => match i with | 0 => ro_ev (n + 1) (fun i => f (i + 1)) a | j + 1 => q j, fun x => ?_, fun hz i hi1 hi2 => ?_⟩
    · rw [ro_ev_s (n + 1) f x, ro_ev_s (n + 1) f a, h1 x, ro_ev_s n _ x]
      show f 0 + x * ((x - a) * ro_ev n q x + ro_ev (n + 1) (fun i => f (i + 1)) a) = (x - a) * (ro_ev (n + 1) (fun i => f (i + 1)) a + x * ro_ev n q x) + (f 0 + a * ro_ev (n + 1) (fun i => f (i + 1)) a)
      grind
    · have hq : ∀ i, i < n → q i = 0 := fun i hi => hz (i + 1) (by omega)
      have h3 := h2 hq
      obtain ⟨j, rfl⟩ : ∃ j, i = j + 1 := ⟨i - 1, by omega⟩
      by_cases hj : 1 ≤ j
      · exact h3 j hj (by omega)
      · have hj0 : j = 0 := by omega
        subst hj0
        have hc : ro_ev (n + 1) (fun i => f (i + 1)) a = 0 := hz 0 (by omega)
        rw [ro_ev_s, ro_ev_zero n a (fun i hi => h3 (i + 1) (by omega) (by omega))] at hc
        have : f (0 + 1) + a * 0 = 0 := hc
        grind
/-- n numbers and n different roots: all are 0 -/
theorem ro_count : ∀ (n : Nat) (f : Nat → ro_K) (L : List ro_K), L.Nodup → n ≤ L.length → (∀ a ∈ L, ro_ev n f a = 0) → ∀ i, i < n → f i = 0
  | 0, _, _, _, _, _, i, hi => absurd hi (Nat.not_lt_zero i)
  | n + 1, f, [], _, hl, _, i, hi => absurd hl (by simp)
  | n + 1, f, a :: L, hn, hl, hr, i, hi => by
    obtain ⟨q, h1, h2⟩ := ro_div n f a
    have ha : ro_ev (n + 1) f a = 0 := hr a List.mem_cons_self
    rw [List.nodup_cons] at hn
    have hq := ro_count n q L hn.2 (by simp at hl; exact hl) (fun b hb => by
      have e := h1 b
      rw [ha, hr b (List.mem_cons_of_mem a hb)] at e
      have e2 : (b - a) * ro_ev n q b = 0 := by grind
      rcases ro_nz e2 with z | z
      · exact absurd (show a ∈ L by rw [show a = b by grind]; exact hb) hn.1
      · exact z)
    have h3 := h2 hq
    by_cases hi1 : 1 ≤ i
    · exact h3 i hi1 hi
    · have e0 : i = 0 := by omega
      subst e0
      rw [ro_ev_s, ro_ev_zero n a (fun i hi => h3 (i + 1) (by omega) (by omega))] at ha
      grind
/-! multiples -/
def ro_mc : List ro_K → (Nat → ro_K) → Nat → ro_K
  | [], _, _ => 0
  | a :: h, g, i => a * g i + ro_sh (ro_mc h g) i
def ro_dv (g F : Nat → ro_K) : Prop := ∃ h : List ro_K, ∀ i, F i = ro_mc h g i
theorem ro_dv_0 (g : Nat → ro_K) : ro_dv g (fun _ => 0) := ⟨[], fun _ => rfl⟩
theorem ro_dv_congr {g F G : Nat → ro_K} (h : ro_dv g F) (e : ∀ i, G i = F i) : ro_dv g G := by
  obtain ⟨l, hl⟩ := h
  exact ⟨l, fun i => (e i).trans (hl i)⟩
theorem ro_dv_self (g : Nat → ro_K) : ro_dv g g := ⟨[1], fun i => by
  show g i = 1 * g i + ro_sh (fun _ => 0) i
  cases i with
  | zero => rw [ro_sh_0]; grind
  | succ j => rw [ro_sh_s]; grind⟩
def ro_la : List ro_K → List ro_K → List ro_K
  | [], m => m
  | a :: l, [] => a :: l
  | a :: l, b :: m => (a + b) :: ro_la l m
theorem ro_sh_add (f g : Nat → ro_K) (i : Nat) : ro_sh (fun i => f i + g i) i = ro_sh f i + ro_sh g i := by
  cases i with
  | zero => show (0 : ro_K) = 0 + 0; rfl
  | succ j => rfl
theorem ro_sh_smul (c : ro_K) (f : Nat → ro_K) (i : Nat) : ro_sh (fun i => c * f i) i = c * ro_sh f i := by
  cases i with
  | zero => show (0 : ro_K) = c * 0; grind
  | succ j => rfl
theorem ro_sh_congr {f g : Nat → ro_K} (h : ∀ i, f i = g i) (i : Nat) : ro_sh f i = ro_sh g i := by
  cases i with
  | zero => rfl
  | succ j => exact h j
theorem ro_mc_la (g : Nat → ro_K) : ∀ (l m : List ro_K) (i : Nat), ro_mc (ro_la l m) g i = ro_mc l g i + ro_mc m g i
  | [], m, i => by show ro_mc m g i = 0 + ro_mc m g i; grind
  | a :: l, [], i => by show ro_mc (a :: l) g i = ro_mc (a :: l) g i + 0; grind
  | a :: l, b :: m, i => by
    show (a + b) * g i + ro_sh (ro_mc (ro_la l m) g) i = (a * g i + ro_sh (ro_mc l g) i) + (b * g i + ro_sh (ro_mc m g) i)
    rw [ro_sh_congr (ro_mc_la g l m) i, ro_sh_add]
    grind
theorem ro_dv_add {g F G : Nat → ro_K} (h1 : ro_dv g F) (h2 : ro_dv g G) : ro_dv g (fun i => F i + G i) := by
  obtain ⟨l, hl⟩ := h1
  obtain ⟨m, hm⟩ := h2
  exact ⟨ro_la l m, fun i => by show F i + G i = _; rw [ro_mc_la, hl, hm]⟩
theorem ro_mc_map (c : ro_K) (g : Nat → ro_K) : ∀ (l : List ro_K) (i : Nat), ro_mc (l.map (fun a => c * a)) g i = c * ro_mc l g i
  | [], i => by show (0 : ro_K) = c * 0; grind
  | a :: l, i => by
    show c * a * g i + ro_sh (ro_mc (l.map (fun a => c * a)) g) i = c * (a * g i + ro_sh (ro_mc l g) i)
    rw [ro_sh_congr (ro_mc_map c g l) i, ro_sh_smul]
    grind
theorem ro_dv_smul {g F : Nat → ro_K} (c : ro_K) (h : ro_dv g F) : ro_dv g (fun i => c * F i) := by
  obtain ⟨l, hl⟩ := h
  exact ⟨l.map (fun a => c * a), fun i => by show c * F i = _; rw [ro_mc_map, hl]⟩
theorem ro_dv_sub {g F G : Nat → ro_K} (h1 : ro_dv g F) (h2 : ro_dv g G) : ro_dv g (fun i => F i - G i) :=
  ro_dv_congr (ro_dv_add h1 (ro_dv_smul (-1) h2)) (fun i => by grind)
theorem ro_dv_sh {g F : Nat → ro_K} (h : ro_dv g F) : ro_dv g (ro_sh F) := by
  obtain ⟨l, hl⟩ := h
  refine ⟨0 :: l, fun i => ?_⟩
  show ro_sh F i = 0 * g i + ro_sh (ro_mc l g) i
  rw [ro_sh_congr hl i]; grind
theorem ro_dv_trans {g w F : Nat → ro_K} (h1 : ro_dv g w) (h2 : ro_dv w F) : ro_dv g F := by
  obtain ⟨l, hl⟩ := h2
  have key : ∀ l : List ro_K, ro_dv g (ro_mc l w) := by
    intro l
    induction l with
    | nil => exact ro_dv_0 g
    | cons a l ih => exact ro_dv_add (ro_dv_smul a h1) (ro_dv_sh ih)
  exact ro_dv_congr (key l) hl
/-- the value of a list of numbers, lowest power first -/
def ro_lv : List ro_K → ro_K → ro_K
  | [], _ => 0
  | a :: l, x => a + x * ro_lv l x
theorem ro_lv_ev : ∀ (l : List ro_K) (x : ro_K), ro_lv l x = ro_ev l.length (fun i => l.getD i 0) x
  | [], _ => rfl
  | a :: l, x => by
    show a + x * ro_lv l x = ro_ev (l.length + 1) (fun i => (a :: l).getD i 0) x
    rw [ro_ev_s, ro_lv_ev l x]
    rfl
theorem ro_ev_mc {n : Nat} {g : Nat → ro_K} (hg : ∀ i, n ≤ i → g i = 0) (x : ro_K) : ∀ (h : List ro_K) (m : Nat), h.length + n ≤ m → ro_ev m (ro_mc h g) x = ro_lv h x * ro_ev n g x
  | [], m, _ => by
    rw [ro_ev_zero (f := ro_mc [] g) m x (fun i _ => rfl)]
    show (0 : ro_K) = 0 * ro_ev n g x
    grind
  | a :: h, m, hm => by
    simp only [List.length_cons] at hm
    obtain ⟨k, rfl⟩ : ∃ k, m = k + 1 := ⟨m - 1, by omega⟩
    have e : ro_ev (k + 1) (ro_mc (a :: h) g) x = ro_ev (k + 1) (fun i => a * g i + ro_sh (ro_mc h g) i) x := ro_ev_congr _ x (fun i _ => rfl)
    rw [e, ro_ev_add (k + 1) (fun i => a * g i) (ro_sh (ro_mc h g)) x, ro_ev_smul, ro_ev_sh, ro_ev_mc hg x h k (by omega), ro_ev_more n (k + 1) x (by omega) hg]
    show _ = (a + x * ro_lv h x) * ro_ev n g x
    grind
theorem ro_mc_zero (g : Nat → ro_K) : ∀ (h : List ro_K), (∀ i, h.getD i 0 = 0) → ∀ j, ro_mc h g j = 0
  | [], _, _ => rfl
  | a :: h, hz, j => by
    have ha : a = 0 := hz 0
    show a * g j + ro_sh (ro_mc h g) j = 0
    rw [ha, ro_sh_congr (g := fun _ => 0) (ro_mc_zero g h (fun i => hz (i + 1))) j]
    cases j with
    | zero => rw [ro_sh_0]; grind
    | succ j => rw [ro_sh_s]; grind
theorem ro_mc_top {d : Nat} {g : Nat → ro_K} (h1 : g d = 1) (h0 : ∀ i, d < i → g i = 0) : ∀ (h : List ro_K) (t : Nat), (∀ i, t < i → h.getD i 0 = 0) → ro_mc h g (t + d) = h.getD t 0
  | [], _, _ => rfl
  | a :: h, 0, hz => by
    show a * g (0 + d) + ro_sh (ro_mc h g) (0 + d) = a
    rw [ro_sh_congr (g := fun _ => 0) (ro_mc_zero g h (fun i => hz (i + 1) (Nat.succ_pos i))) (0 + d), Nat.zero_add, h1]
    cases d with
    | zero => rw [ro_sh_0]; grind
    | succ j => rw [ro_sh_s]; grind
  | a :: h, t + 1, hz => by
    show a * g (t + 1 + d) + ro_sh (ro_mc h g) (t + 1 + d) = h.getD t 0
    have e := ro_mc_top h1 h0 h t (fun i hi => hz (i + 1) (by omega))
    rw [h0 (t + 1 + d) (by omega), show t + 1 + d = (t + d) + 1 by omega, ro_sh_s, e]
    grind
/-- a multiple's own numbers end where the degrees say -/
theorem ro_mc_deg {d N : Nat} {g F : Nat → ro_K} (h1 : g d = 1) (h0 : ∀ i, d < i → g i = 0) (hF : ∀ i, N < i → F i = 0) {h : List ro_K} (e : ∀ i, F i = ro_mc h g i) : ∀ i, N < i + d → h.getD i 0 = 0 := by
  have key : ∀ k i, h.length ≤ i + k → N < i + d → h.getD i 0 = 0 := by
    intro k
    induction k with
    | zero => intro i hi _; rw [List.getD_eq_getElem?_getD, List.getElem?_eq_none (by omega)]; rfl
    | succ k ih =>
      intro i hi hN
      have := ro_mc_top h1 h0 h i (fun j hj => ih j (by omega) (by omega))
      rw [← this, ← e]
      exact hF _ hN
  exact fun i hi => key h.length i (by omega) hi
theorem ro_len_filter {α : Type} (p : α → Bool) : ∀ L : List α, (L.filter p).length + (L.filter (fun a => !p a)).length = L.length
  | [] => rfl
  | a :: L => by
    have ih := ro_len_filter p L
    by_cases h : p a = true
    · simp [List.filter_cons, h]; omega
    · simp [List.filter_cons, h]; omega
/-- a part of a polynomial all of whose roots are there and different: so are the part's -/
theorem ro_split {d N : Nat} {g F : Nat → ro_K} (hF1 : F N = 1) (hF0 : ∀ i, N < i → F i = 0) (h1 : g d = 1) (h0 : ∀ i, d < i → g i = 0) (hdv : ro_dv g F) {R : List ro_K} (hR : R.Nodup) (hl : R.length = N) (hr : ∀ a ∈ R, ro_ev (N + 1) F a = 0) :
    (R.filter (fun a => decide (ro_ev (d + 1) g a = 0))).length = d := by
  obtain ⟨h, e⟩ := hdv
  have hdeg := ro_mc_deg h1 h0 hF0 e
  have hd : d ≤ N := by
    refine Nat.le_of_not_lt (fun q => ?_)
    have z := ro_mc_zero g h (fun i => hdeg i (by omega)) N
    rw [← e, hF1] at z
    exact ro_1ne0 z
  have hval : ∀ a, ro_ev (N + 1) F a = ro_lv h a * ro_ev (d + 1) g a := by
    intro a
    have q1 := ro_ev_mc (n := d + 1) (g := g) (fun i hi => h0 i (by omega)) a h (N + 1 + h.length + (d + 1)) (by omega)
    rw [← q1, ← ro_ev_more (N + 1) (N + 1 + h.length + (d + 1)) a (by omega) (fun i hi => hF0 i (by omega))]
    exact ro_ev_congr _ a (fun i _ => e i)
  have hG : (R.filter (fun a => decide (ro_ev (d + 1) g a = 0))).length ≤ d := by
    refine Nat.le_of_not_lt (fun q => ?_)
    have z := ro_count (d + 1) g (R.filter (fun a => decide (ro_ev (d + 1) g a = 0))) (List.Nodup.sublist List.filter_sublist hR) (by omega) (fun a ha => by
      have := (List.mem_filter.mp ha).2
      simpa using this) d (by omega)
    rw [h1] at z
    exact ro_1ne0 z
  have hB : (R.filter (fun a => !decide (ro_ev (d + 1) g a = 0))).length ≤ N - d := by
    refine Nat.le_of_not_lt (fun q => ?_)
    have z := ro_count (N - d + 1) (fun i => h.getD i 0) (R.filter (fun a => !decide (ro_ev (d + 1) g a = 0))) (List.Nodup.sublist List.filter_sublist hR) (by omega) (fun a ha => by
      obtain ⟨m1, m2⟩ := List.mem_filter.mp ha
      have hne : ¬ ro_ev (d + 1) g a = 0 := by simpa using m2
      have hv := hval a
      rw [hr a m1] at hv
      rcases ro_nz hv.symm with z | z
      · rw [ro_lv_ev] at z
        rw [← ro_ev_more (N - d + 1) (N - d + 1 + h.length) a (by omega) (fun i hi => hdeg i (by omega))]
        rw [← ro_ev_more h.length (N - d + 1 + h.length) a (by omega) (fun i hi => by rw [List.getD_eq_getElem?_getD, List.getElem?_eq_none hi]; rfl)] at z
        exact z
      · exact absurd z hne)
    have z2 := ro_mc_zero g h (fun i => by
      by_cases hi : i < N - d + 1
      · exact z i hi
      · exact hdeg i (by omega)) N
    rw [← e, hF1] at z2
    exact ro_1ne0 z2
  have hs := ro_len_filter (fun a => decide (ro_ev (d + 1) g a = 0)) R
  omega
/-- the product of x - r for the r of a list -/
def ro_pl : List ro_K → Nat → ro_K
  | [], i => if i = 0 then 1 else 0
  | r :: L, i => ro_sh (ro_pl L) i - r * ro_pl L i
theorem ro_pl_0 : ∀ (L : List ro_K) (i : Nat), L.length < i → ro_pl L i = 0
  | [], i, h => by
    show (if i = 0 then (1 : ro_K) else 0) = 0
    rw [if_neg (by simp at h; omega)]
  | r :: L, i, h => by
    simp only [List.length_cons] at h
    show ro_sh (ro_pl L) i - r * ro_pl L i = 0
    obtain ⟨j, rfl⟩ : ∃ j, i = j + 1 := ⟨i - 1, by omega⟩
    rw [ro_sh_s, ro_pl_0 L j (by omega), ro_pl_0 L (j + 1) (by omega)]
    grind
theorem ro_pl_1 : ∀ (L : List ro_K), ro_pl L L.length = 1
  | [] => rfl
  | r :: L => by
    show ro_sh (ro_pl L) (L.length + 1) - r * ro_pl L (L.length + 1) = 1
    rw [ro_sh_s, ro_pl_1 L, ro_pl_0 L (L.length + 1) (by omega)]
    grind
theorem ro_pl_ev (r : ro_K) (L : List ro_K) (x : ro_K) : ro_ev (L.length + 2) (ro_pl (r :: L)) x = (x - r) * ro_ev (L.length + 1) (ro_pl L) x := by
  have e : ro_ev (L.length + 2) (ro_pl (r :: L)) x = ro_ev (L.length + 2) (fun i => ro_sh (ro_pl L) i - r * ro_pl L i) x := ro_ev_congr _ x (fun i _ => rfl)
  rw [e, ro_ev_sub, ro_ev_smul, show L.length + 2 = (L.length + 1) + 1 by omega, ro_ev_sh, ro_ev_more (L.length + 1) (L.length + 1 + 1) x (by omega) (fun i hi => ro_pl_0 L i (by omega))]
  grind
theorem ro_pl_root : ∀ (L : List ro_K) (x : ro_K), ro_ev (L.length + 1) (ro_pl L) x = 0 ↔ x ∈ L
  | [], x => by
    show (1 : ro_K) + x * 0 = 0 ↔ x ∈ []
    have h : (1 : ro_K) + x * 0 ≠ 0 := fun q => ro_1ne0 (by grind)
    simp [h]
  | r :: L, x => by
    have e := ro_pl_ev r L x
    have ih := ro_pl_root L x
    show ro_ev (L.length + 2) (ro_pl (r :: L)) x = 0 ↔ x ∈ r :: L
    rw [e, List.mem_cons]
    constructor
    · intro h
      rcases ro_nz h with q | q
      · left; grind
      · right; exact ih.mp q
    · rintro (q | q)
      · rw [q]; grind
      · rw [ih.mpr q]; grind
/-- one with as many different roots as its degree is their product -/
theorem ro_pl_of {d : Nat} {g : Nat → ro_K} (h1 : g d = 1) (h0 : ∀ i, d < i → g i = 0) {L : List ro_K} (hL : L.Nodup) (hl : L.length = d) (hr : ∀ a ∈ L, ro_ev (d + 1) g a = 0) : ∀ i, g i = ro_pl L i := by
  subst hl
  have hz := ro_count L.length (fun i => g i - ro_pl L i) L hL (Nat.le_refl _) (fun a ha => by
    have e : ro_ev (L.length + 1) (fun i => g i - ro_pl L i) a = 0 := by
      rw [ro_ev_sub, hr a ha, (ro_pl_root L a).mpr ha]; grind
    rw [ro_ev_more L.length (L.length + 1) a (by omega)] at e
    · exact e
    · intro i hi
      by_cases q : i = L.length
      · subst q; rw [h1, ro_pl_1]; grind
      · rw [h0 i (by omega), ro_pl_0 L i (by omega)]; grind)
  intro i
  rcases Nat.lt_or_ge i L.length with q | q
  · have := hz i q
    grind
  · by_cases q2 : i = L.length
    · subst q2; rw [h1, ro_pl_1]
    · rw [h0 i (by omega), ro_pl_0 L i (by omega)]
/-- all the numbers -/
def ro_all : List ro_K := (List.range 32003).map (fun n : Nat => ro_k (n : Int))
theorem ro_all_len : ro_all.length = 32003 := by unfold ro_all; rw [List.length_map, List.length_range]
theorem ro_all_mem (x : ro_K) : x ∈ ro_all := List.mem_map.mpr ⟨x.val, List.mem_range.mpr x.isLt, ro_k_back x⟩
theorem ro_all_nodup : ro_all.Nodup := by
  unfold ro_all List.Nodup
  rw [List.pairwise_map]
  refine List.Pairwise.imp_of_mem ?_ List.nodup_range
  intro a b ha hb hab q
  rw [List.mem_range] at ha hb
  have := ro_k_inj (by omega) (by omega) (by omega) (by omega) q
  omega
/-- x to the p, less x -/
def ro_xp : Nat → ro_K := fun i => if i = 32003 then 1 else if i = 1 then -1 else 0
/-- x to the n -/
def ro_xn (n : Nat) : Nat → ro_K := fun i => if i = n then 1 else 0
theorem ro_xn_s (n i : Nat) : ro_xn (n + 1) i = ro_sh (ro_xn n) i := by
  cases i with
  | zero => show (if 0 = n + 1 then (1 : ro_K) else 0) = 0; rw [if_neg (by omega)]
  | succ j =>
    rw [ro_sh_s]
    show (if j + 1 = n + 1 then (1 : ro_K) else 0) = if j = n then 1 else 0
    by_cases h : j = n
    · rw [if_pos h, if_pos (by omega)]
    · rw [if_neg h, if_neg (by omega)]
theorem ro_ev_xn (x : ro_K) : ∀ (n m : Nat), n < m → ro_ev m (ro_xn n) x = ro_pw x n
  | 0, m, h => by
    obtain ⟨k, rfl⟩ : ∃ k, m = k + 1 := ⟨m - 1, by omega⟩
    rw [ro_ev_s, ro_ev_zero k x (fun i _ => by show (if i + 1 = 0 then (1 : ro_K) else 0) = 0; rw [if_neg (by omega)])]
    show (1 : ro_K) + x * 0 = 1
    grind
  | n + 1, m, h => by
    obtain ⟨k, rfl⟩ : ∃ k, m = k + 1 := ⟨m - 1, by omega⟩
    rw [ro_ev_congr (k + 1) x (fun i _ => ro_xn_s n i), ro_ev_sh, ro_ev_xn x n k (by omega)]
    show x * ro_pw x n = ro_pw x n * x
    grind
theorem ro_xp_root (x : ro_K) : ro_ev (32003 + 1) ro_xp x = 0 := by
  have e : ro_ev (32003 + 1) ro_xp x = ro_ev (32003 + 1) (fun i => ro_xn 32003 i - ro_xn 1 i) x := ro_ev_congr _ x (fun i _ => by
    show (if i = 32003 then (1 : ro_K) else if i = 1 then -1 else 0) = (if i = 32003 then 1 else 0) - (if i = 1 then 1 else 0)
    by_cases h : i = 32003
    · rw [if_pos h, if_pos h, if_neg (by omega)]; grind
    · rw [if_neg h, if_neg h]
      by_cases h1 : i = 1
      · rw [if_pos h1, if_pos h1]; grind
      · rw [if_neg h1, if_neg h1]; grind)
  rw [e, ro_ev_sub, ro_ev_xn x 32003 _ (by omega), ro_ev_xn x 1 _ (by omega), ro_pw_p, ro_pw_1]
  grind
/-- a part of x to the p less x is the product over its different roots -/
theorem ro_xp_split {d : Nat} {g : Nat → ro_K} (h1 : g d = 1) (h0 : ∀ i, d < i → g i = 0) (hdv : ro_dv g ro_xp) : ∃ L : List ro_K, L.Nodup ∧ L.length = d ∧ (∀ i, g i = ro_pl L i) := by
  have hs := ro_split (N := 32003) (F := ro_xp) rfl (fun i hi => by
    show (if i = 32003 then (1 : ro_K) else if i = 1 then -1 else 0) = 0
    rw [if_neg (by omega), if_neg (by omega)]) h1 h0 hdv ro_all_nodup ro_all_len (fun a _ => ro_xp_root a)
  refine ⟨_, List.Nodup.sublist List.filter_sublist ro_all_nodup, hs, ?_⟩
  exact ro_pl_of h1 h0 (List.Nodup.sublist List.filter_sublist ro_all_nodup) hs (fun a ha => by
    have := (List.mem_filter.mp ha).2
    simpa using this)
