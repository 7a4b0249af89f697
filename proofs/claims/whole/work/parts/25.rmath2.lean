/-! x TO THE p, less multiples of g, as polynomials -/
theorem xn_sN (e f i : Nat) : ro_xn (e + f) i = sN e (ro_xn f) i := by
  rw [sN_at]
  show (if i = e + f then (1 : ro_K) else 0) = if e ≤ i then (if i - e = f then 1 else 0) else 0
  by_cases h : e ≤ i
  · rw [if_pos h]
    by_cases h2 : i - e = f
    · rw [if_pos h2, if_pos (by omega)]
    · rw [if_neg h2, if_neg (by omega)]
  · rw [if_neg h, if_neg (by omega)]
theorem sN_add (f g : Nat → ro_K) (s i : Nat) : sN s (fun i => f i + g i) i = sN s f i + sN s g i := by
  rw [sN_at, sN_at, sN_at]
  by_cases h : s ≤ i
  · rw [if_pos h, if_pos h, if_pos h]
  · rw [if_neg h, if_neg h, if_neg h]; grind
theorem sN_sub (f g : Nat → ro_K) (s i : Nat) : sN s (fun i => f i - g i) i = sN s f i - sN s g i := by
  rw [sN_at, sN_at, sN_at]
  by_cases h : s ≤ i
  · rw [if_pos h, if_pos h, if_pos h]
  · rw [if_neg h, if_neg h, if_neg h]; grind
theorem sqs_xn (r : Nat → ro_K) (e : Nat) : ∀ k j, sqs r (ro_xn e) k j = sN e (ct k r) j
  | 0, j => by
    rw [sN_at]
    show (0 : ro_K) = if e ≤ j then ct 0 r (j - e) else 0
    rw [ct_ge (Nat.zero_le _)]
    by_cases h : e ≤ j
    · rw [if_pos h]
    · rw [if_neg h]
  | k + 1, j => by
    show sqs r (ro_xn e) k j + r k * sN k (ro_xn e) j = _
    rw [sqs_xn r e k j, ← xn_sN, sN_at, sN_at]
    show (if e ≤ j then ct k r (j - e) else 0) + r k * (if j = k + e then (1 : ro_K) else 0) = if e ≤ j then ct (k + 1) r (j - e) else 0
    by_cases h : e ≤ j
    · rw [if_pos h, if_pos h]
      by_cases h2 : j = k + e
      · rw [if_pos h2, ct_ge (F := r) (show k ≤ j - e by omega), ct_lt (F := r) (show j - e < k + 1 by omega), show j - e = k by omega]
        grind
      · rw [if_neg h2]
        by_cases h3 : j - e < k
        · rw [ct_lt (F := r) h3, ct_lt (F := r) (show j - e < k + 1 by omega)]; grind
        · rw [ct_ge (F := r) (show k ≤ j - e by omega), ct_ge (F := r) (show k + 1 ≤ j - e by omega)]; grind
    · rw [if_neg h, if_neg h, if_neg (by omega)]; grind
theorem dv_sqs {g X R : Nat → ro_K} (r : Nat → ro_K) (h : ro_dv g (fun i => X i - R i)) : ∀ k, ro_dv g (fun j => sqs r X k j - sqs r R k j)
  | 0 => ro_dv_congr (ro_dv_0 g) (fun i => by show (0 : ro_K) - 0 = 0; grind)
  | k + 1 => by
    refine ro_dv_congr (ro_dv_add (dv_sqs r h k) (ro_dv_smul (r k) (dv_sN h k))) (fun j => ?_)
    show sqs r X k j + r k * sN k X j - (sqs r R k j + r k * sN k R j) = (sqs r X k j - sqs r R k j) + r k * sN k (fun i => X i - R i) j
    rw [sN_sub]
    grind
theorem sqs_congr {r R R' : Nat → ro_K} (h : ∀ i, R i = R' i) : ∀ k j, sqs r R k j = sqs r R' k j
  | 0, _ => rfl
  | k + 1, j => by
    show sqs r R k j + r k * sN k R j = sqs r R' k j + r k * sN k R' j
    rw [sqs_congr h k j, sN_at, sN_at]
    by_cases q : k ≤ j
    · rw [if_pos q, if_pos q, h]
    · rw [if_neg q, if_neg q]
theorem ct_n5 {r : Nat → ro_K} {n : Nat} (hn : n ≤ 5) (hr : ∀ i, n ≤ i → i < 5 → r i = 0) (i : Nat) : ct n r i = ct 5 r i := by
  rcases Nat.lt_or_ge i n with q | q
  · rw [ct_lt q, ct_lt (by omega)]
  · rw [ct_ge q]
    rcases Nat.lt_or_ge i 5 with z | z
    · rw [ct_lt z, hr i q z]
    · rw [ct_ge z]
theorem rsL_dv {pw n : Nat} {g : Nat → ro_K} (hg : mo g n) : ∀ (k : Nat) (r S : Nat → ro_K), (∀ i, n ≤ i → i < 5 → r i = 0) → ro_dv (ct 5 g) (fun i => ro_xn (pw / 2 ^ k) i - ct 5 r i) → ro_dv (ct 5 g) (fun i => ro_xn pw i - ct 5 (rsL 0 pw n g k r S).1 i)
  | 0, r, S, _, h2 => by rw [Nat.pow_zero, Nat.div_one] at h2; exact h2
  | k + 1, r, S, h1, h2 => by
    obtain ⟨z1, z2⟩ := rs_row (b := 0) (pw := pw) (k := k) (r := r) (S := S) hg
    have hn : n ≤ 4 := by have := hg.1; omega
    refine rsL_dv hg k _ _ (fun i hi hi5 => ?_) ?_
    · have := z2 i
      rw [ct_lt hi5, ct_lt (by omega), z1 i hi (by omega)] at this
      exact this
    · generalize hee : pw / 2 ^ (k + 1) = e at h2
      have hSQ : ro_dv (ct 5 g) (fun i => ro_xn (e + e) i - ct 8 (sqI r n n (kfl S 0 8)) i) := by
        have d1 := dv_sN h2 e
        have d2 := dv_sqs r h2 n
        refine ro_dv_congr (ro_dv_add d1 d2) (fun i => ?_)
        show ro_xn (e + e) i - ct 8 (sqI r n n (kfl S 0 8)) i = sN e (fun i => ro_xn e i - ct 5 r i) i + (sqs r (ro_xn e) n i - sqs r (ct 5 r) n i)
        have e3 : sN e (ct n r) i = sN e (ct 5 r) i := by
          rw [sN_at, sN_at]
          by_cases q : e ≤ i
          · rw [if_pos q, if_pos q, ct_n5 (by omega) h1]
          · rw [if_neg q, if_neg q]
        rw [sN_sub, sq_ct r hn S i, xn_sN, sqs_xn, e3, sqs_congr (r := r) (ct_n5 (by omega) h1) n i]
        grind
      have hY : ro_dv (ct 5 g) (fun i => ro_xn (pw / 2 ^ k) i - ct 8 (if pw / 2 ^ k % 2 = 1 then tlF 0 (sqI r n n (kfl S 0 8)) else sqI r n n (kfl S 0 8)) i) := by
        have hp := pow_bit pw k
        rw [hee] at hp
        by_cases hb : pw / 2 ^ k % 2 = 1
        · rw [if_pos hb]
          refine ro_dv_congr (ro_dv_sh hSQ) (fun i => ?_)
          rw [tl_ct 0 _ (sq_7 hn) i, show pw / 2 ^ k = (e + e) + 1 by omega, ro_xn_s]
          have e1 : ro_sh (fun i => ro_xn (e + e) i - ct 8 (sqI r n n (kfl S 0 8)) i) i = ro_sh (ro_xn (e + e)) i - ro_sh (ct 8 (sqI r n n (kfl S 0 8))) i := sN_sub (ro_xn (e + e)) (ct 8 (sqI r n n (kfl S 0 8))) 1 i
          rw [e1]
          grind
        · rw [if_neg hb, show pw / 2 ^ k = e + e by omega]
          exact hSQ
      have h4 := (tmr_spec (n := 8) (if pw / 2 ^ k % 2 = 1 then tlF 0 (sqI r n n (kfl S 0 8)) else sqI r n n (kfl S 0 8)) hg).2
      refine ro_dv_congr (ro_dv_add hY h4) (fun i => ?_)
      rw [z2 i]
      show ro_xn (pw / 2 ^ k) i - ct 8 (tmr 8 _ g) i = _
      grind
theorem rs_start {r : Nat → ro_K} {n : Nat} (hn : 1 ≤ n) : (∀ i, n ≤ i → i < 5 → va_up (kfl r 0 5) 0 1 i = 0) ∧ (∀ i, ct 5 (va_up (kfl r 0 5) 0 1) i = ro_xn 0 i) := by
  refine ⟨fun i h1 h2 => ?_, fun i => ?_⟩
  · rw [va_up_ne _ _ (by omega)]
    exact if_pos h2
  · show _ = if i = 0 then (1 : ro_K) else 0
    by_cases h : i = 0
    · subst h; rw [ct_lt (by decide), va_up_self, if_pos rfl]
    · rw [if_neg h]
      rcases Nat.lt_or_ge i 5 with q | q
      · rw [ct_lt q, va_up_ne _ _ h]; exact if_pos q
      · exact ct_ge q
theorem rsF_ev {b x : ro_K} {pw n : Nat} {g r S : Nat → ro_K} (hpw : pw < 32768) (hg : mo g n) (hn : 1 ≤ n) (hx : ro_ev 5 g x = 0) : ro_ev 5 (rsF b pw n g r S).1 x = ro_pw (x + b) pw := by
  obtain ⟨a1, a2⟩ := rs_start (r := r) hn
  refine (rsL_ev hg hx 15 _ S a1 ?_).2
  rw [← ev_ct, ro_ev_congr 5 x (fun i _ => a2 i), ro_ev_xn x 0 5 (by decide), Nat.div_eq_of_lt (by omega)]
  rfl
theorem rsF_dv {pw n : Nat} {g r S : Nat → ro_K} (hpw : pw < 32768) (hg : mo g n) (hn : 1 ≤ n) : ro_dv (ct 5 g) (fun i => ro_xn pw i - ct 5 (rsF 0 pw n g r S).1 i) := by
  obtain ⟨a1, a2⟩ := rs_start (r := r) hn
  refine rsL_dv hg 15 _ S a1 (ro_dv_congr (ro_dv_0 _) (fun i => ?_))
  rw [Nat.div_eq_of_lt (by omega), a2 i]
  grind
theorem cpy5 (F G : Nat → ro_K) {i : Nat} (h : i < 5) : va_cpy F G 0 0 5 i = F i := by
  show (if 0 ≤ i ∧ i < 0 + 5 then F (0 + (i - 0)) else G i) = F i
  rw [if_pos (by omega), show 0 + (i - 0) = i by omega]
theorem ct_cpy (F G : Nat → ro_K) (i : Nat) : ct 5 (va_cpy F G 0 0 5) i = ct 5 F i := by
  rcases Nat.lt_or_ge i 5 with q | q
  · rw [ct_lt q, ct_lt q, cpy5 F G q]
  · rw [ct_ge q, ct_ge q]
theorem ev_cpy (F G : Nat → ro_K) (x : ro_K) : ro_ev 5 (va_cpy F G 0 0 5) x = ro_ev 5 F x := ro_ev_congr 5 x (fun i h => cpy5 F G h)
theorem mo_cpy {F : Nat → ro_K} {d : Nat} (G : Nat → ro_K) (h : mo F d) : mo (va_cpy F G 0 0 5) d := ⟨h.1, by rw [cpy5 F G h.1]; exact h.2.1, fun i h1 h2 => by rw [cpy5 F G h2]; exact h.2.2 i h1 h2⟩
theorem ev_up0 (R : Nat → ro_K) (c x : ro_K) : ro_ev 5 (va_up R 0 (R 0 - c)) x = ro_ev 5 R x - c := by
  rw [ro_ev_s 4, ro_ev_s 4 R, va_up_self, ro_ev_congr 4 x (f := fun i => va_up R 0 (R 0 - c) (i + 1)) (g := fun i => R (i + 1)) (fun i _ => va_up_ne _ _ (by omega))]
  grind
theorem ct_up1 (R : Nat → ro_K) (i : Nat) : ct 5 (va_up R 1 (R 1 - 1)) i = ct 5 R i - ro_xn 1 i := by
  show _ = ct 5 R i - if i = 1 then (1 : ro_K) else 0
  by_cases h : i = 1
  · subst h
    rw [ct_lt (by decide), ct_lt (by decide), va_up_self, if_pos rfl]
  · rw [if_neg h]
    rcases Nat.lt_or_ge i 5 with q | q
    · rw [ct_lt q, ct_lt q, va_up_ne _ _ h]; grind
    · rw [ct_ge q, ct_ge q]; grind
/-- what keepRootsOnce leaves: the product over the different roots -/
theorem keep_spec {F r S a b : Nat → ro_K} {d : Nat} (hm : mo F d) (h1 : 1 ≤ d) : ∃ L : List ro_K, L.Nodup ∧ L.length ≤ 4 ∧ (∀ i, i < 5 → (euB 5 false (va_cpy F a 0 0 5) (va_cpy (va_up (rsF 0 32003 d F r S).1 1 ((rsF 0 32003 d F r S).1 1 - 1)) b 0 0 5)).2.1 i = ro_pl L i) ∧ ∀ x, x ∈ L ↔ ro_ev 5 F x = 0 := by
  have hdv := rsF_dv (pw := 32003) (r := r) (S := S) (by decide) hm h1
  have hev := fun x (hx : ro_ev 5 F x = 0) => rsF_ev (b := 0) (pw := 32003) (r := r) (S := S) (by decide) hm h1 hx
  generalize (rsF 0 32003 d F r S).1 = R at hdv hev
  obtain ⟨⟨d2, g1⟩, g2, g3, g4⟩ := eu_spec 5 false (va_cpy F a 0 0 5) (va_cpy (va_up R 1 (R 1 - 1)) b 0 0 5) d (mo_cpy a hm) (kd_lo _ 5).2
  generalize (euB 5 false (va_cpy F a 0 0 5) (va_cpy (va_up R 1 (R 1 - 1)) b 0 0 5)).2.1 = g' at g1 g2 g3 g4
  have hxp : ro_dv (ct 5 g') ro_xp := by
    have q1 : ro_dv (ct 5 g') (ct 5 F) := ro_dv_congr g2 (fun i => (ct_cpy F a i).symm)
    have q2 : ro_dv (ct 5 g') (fun i => ct 5 R i - ro_xn 1 i) := ro_dv_congr g3 (fun i => by rw [ct_cpy, ct_up1])
    refine ro_dv_congr (ro_dv_add (ro_dv_trans q1 hdv) q2) (fun i => ?_)
    show (if i = 32003 then (1 : ro_K) else if i = 1 then -1 else 0) = ((if i = 32003 then 1 else 0) - ct 5 R i) + (ct 5 R i - if i = 1 then 1 else 0)
    by_cases h : i = 32003
    · rw [if_pos h, if_pos h, if_neg (by omega)]; grind
    · rw [if_neg h, if_neg h]
      by_cases h1 : i = 1
      · rw [if_pos h1, if_pos h1]; grind
      · rw [if_neg h1, if_neg h1]; grind
  obtain ⟨m1, m2⟩ := mo_ct g1
  obtain ⟨L, l1, l2, l3⟩ := ro_xp_split m1 m2 hxp
  have hd2 := g1.1
  have hev5 : ∀ x, ro_ev 5 g' x = ro_ev (L.length + 1) (ro_pl L) x := by
    intro x
    rw [← ev_ct, ro_ev_congr 5 x (fun i _ => l3 i)]
    exact ro_ev_more (L.length + 1) 5 x (by omega) (fun i hi => ro_pl_0 L i (by omega))
  refine ⟨L, l1, by omega, fun i hi => by rw [← l3 i, ct_lt hi], fun x => ?_⟩
  rw [← ro_pl_root L x, ← hev5 x, g4 x, ev_cpy, ev_cpy]
  constructor
  · exact fun h => h.1
  · intro h
    refine ⟨h, ?_⟩
    have hz : ro_ev 5 (va_up R 1 (R 1 - 1)) x = ro_ev 5 R x - x := by
      rw [← ev_ct, ro_ev_congr 5 x (fun i _ => ct_up1 R i), ro_ev_sub, ev_ct, ro_ev_xn x 1 5 (by decide), ro_pw_1]
    rw [hz, hev x h, show x + 0 = x by grind, ro_pw_p]
    grind
/-- what the part and x + b to the half, less 1, have in common -/
theorem common_spec {N : List ro_K} {F r S a c : Nat → ro_K} {b : ro_K} (hN : N.Nodup) (h1 : 1 ≤ N.length) (h4 : N.length ≤ 4) (hF : ∀ i, i < 5 → F i = ro_pl N i) :
    mo F N.length ∧ ∀ i, i < 5 → (euB 5 false (va_cpy F a 0 0 5) (va_cpy (va_up (rsF b 16001 N.length F r S).1 0 ((rsF b 16001 N.length F r S).1 0 - 1)) c 0 0 5)).2.1 i = ro_pl (N.filter (fun s => decide (ro_pw (s + b) 16001 = 1))) i := by
  have hm : mo F N.length := ⟨by omega, by rw [hF _ (by omega)]; exact ro_pl_1 N, fun i q1 q2 => by rw [hF i q2]; exact ro_pl_0 N i q1⟩
  refine ⟨hm, ?_⟩
  have hFr : ∀ x, ro_ev 5 F x = ro_ev (N.length + 1) (ro_pl N) x := by
    intro x
    rw [ro_ev_congr 5 x hF]
    exact ro_ev_more (N.length + 1) 5 x (by omega) (fun i hi => ro_pl_0 N i (by omega))
  have hev := fun x (hx : ro_ev 5 F x = 0) => rsF_ev (b := b) (pw := 16001) (r := r) (S := S) (by decide) hm h1 hx
  generalize (rsF b 16001 N.length F r S).1 = R at hev
  obtain ⟨⟨d2, g1⟩, g2, -, g4⟩ := eu_spec 5 false (va_cpy F a 0 0 5) (va_cpy (va_up R 0 (R 0 - 1)) c 0 0 5) N.length (mo_cpy a hm) (kd_lo _ 5).2
  generalize (euB 5 false (va_cpy F a 0 0 5) (va_cpy (va_up R 0 (R 0 - 1)) c 0 0 5)).2.1 = g' at g1 g2 g4
  have q1 : ro_dv (ct 5 g') (ct 5 F) := ro_dv_congr g2 (fun i => (ct_cpy F a i).symm)
  obtain ⟨m1, m2⟩ := mo_ct g1
  obtain ⟨f1, f2⟩ := mo_ct hm
  have hroot : ∀ x ∈ N, ro_ev (N.length + 1) (ct 5 F) x = 0 := by
    intro x hx
    rw [← ro_ev_more (N.length + 1) 5 x (by omega) (fun i hi => f2 i (by omega)), ev_ct, hFr, ro_pl_root]
    exact hx
  have hd2 := g1.1
  have hs := ro_split f1 f2 m1 m2 q1 hN rfl hroot
  have hg5 : ∀ x, ro_ev (d2 + 1) (ct 5 g') x = ro_ev 5 g' x := by
    intro x
    rw [← ro_ev_more (d2 + 1) 5 x (by omega) (fun i hi => m2 i (by omega)), ev_ct]
  have hfilt : N.filter (fun s => decide (ro_ev (d2 + 1) (ct 5 g') s = 0)) = N.filter (fun s => decide (ro_pw (s + b) 16001 = 1)) := by
    refine List.filter_congr (fun s hs => ?_)
    have hFs : ro_ev 5 F s = 0 := by rw [hFr, ro_pl_root]; exact hs
    have e : ro_ev 5 g' s = 0 ↔ ro_pw (s + b) 16001 = 1 := by
      rw [g4 s, ev_cpy, ev_cpy, ev_up0, hev s hFs]
      generalize ro_pw (s + b) 16001 = y
      constructor
      · intro h; have := h.2; grind
      · intro h; exact ⟨hFs, by rw [h]; grind⟩
    rw [hg5, decide_eq_decide]
    exact e
  have hpl := ro_pl_of m1 m2 (List.Nodup.sublist List.filter_sublist hN) hs (fun x hx => by
    have := (List.mem_filter.mp hx).2
    simpa using this)
  rw [hfilt] at hpl
  intro i hi
  rw [← hpl i, ct_lt hi]
/-- division by x - r -/
theorem dvL_spec (r : ro_K) (Q : Nat → ro_K) : ∀ (n : Nat) (y : ro_K) (F : Nat → ro_K), (∀ i, i < n → F i = ro_sh Q i - r * Q i) → (∀ k, n = k + 1 → y = Q k) → (∀ i, i < n → dvL r n y F i = Q i) ∧ ∀ i, n ≤ i → dvL r n y F i = F i
  | 0, y, F, _, _ => ⟨fun i h => absurd h (Nat.not_lt_zero i), fun _ _ => rfl⟩
  | n + 1, y, F, hF, hy => by
    have hyn := hy n rfl
    obtain ⟨h1, h2⟩ := dvL_spec r Q n (F n + y * r) (va_up F n y) (fun i hi => by rw [va_up_ne _ _ (by omega)]; exact hF i (by omega)) (fun k hk => by
      subst hk
      rw [hF (k + 1) (by omega), ro_sh_s, hyn]
      grind)
    refine ⟨fun i hi => ?_, fun i hi => ?_⟩
    · show dvL r n (F n + y * r) (va_up F n y) i = Q i
      by_cases e : i = n
      · subst e; rw [h2 i (Nat.le_refl i), va_up_self]; exact hyn
      · exact h1 i (by omega)
    · show dvL r n (F n + y * r) (va_up F n y) i = F i
      rw [h2 i (by omega), va_up_ne _ _ (by omega)]
theorem pl_erase {M : List ro_K} {r : ro_K} (hM : M.Nodup) (hr : r ∈ M) (i : Nat) : ro_pl M i = ro_pl (r :: M.erase r) i := by
  have hl : (r :: M.erase r).length = M.length := by
    have := List.length_erase_of_mem hr
    have hp : 0 < M.length := List.length_pos_of_mem hr
    simp only [List.length_cons]
    omega
  refine (ro_pl_of (d := M.length) (g := ro_pl M) (ro_pl_1 M) (ro_pl_0 M) (L := r :: M.erase r) ?_ hl (fun x hx => ?_) i)
  · rw [List.nodup_cons]
    exact ⟨List.Nodup.not_mem_erase hM, List.Nodup.erase r hM⟩
  · rw [ro_pl_root]
    rcases List.mem_cons.mp hx with z | z
    · rw [z]; exact hr
    · exact List.mem_of_mem_erase z
theorem divide_spec {M : List ro_K} {r : ro_K} {F : Nat → ro_K} (hM : M.Nodup) (h4 : M.length ≤ 4) (hr : r ∈ M) (hF : ∀ i, i < 5 → F i = ro_pl M i) : ∀ i, i < 5 → dvL r 5 0 F i = ro_pl (M.erase r) i := by
  have hl : (M.erase r).length ≤ 3 := by
    have := List.length_erase_of_mem hr
    omega
  refine (dvL_spec r (ro_pl (M.erase r)) 5 0 F (fun i hi => ?_) (fun k hk => ?_)).1
  · rw [hF i hi, pl_erase hM hr i]
    rfl
  · rw [ro_pl_0 _ k (by omega)]
/-! sorted rows -/
def srt (F : Nat → ro_K) (c : Nat) : Prop := ∀ i j, i < j → j < c → (F i).val < (F j).val
theorem inK_spec (x : ro_K) (c : Nat) : ∀ (k : Nat) (F : Nat → ro_K), k ≤ c → (∀ i j, i < j → j < c + 1 → i ≠ k → j ≠ k → (F i).val < (F j).val) → (∀ j, k < j → j < c + 1 → x.val < (F j).val) → (∀ j, j < c + 1 → j ≠ k → F j ≠ x) →
    srt (va_up (inK x k F).2 (inK x k F).1 x) (c + 1) ∧ ∀ a, (∃ j, j < c + 1 ∧ va_up (inK x k F).2 (inK x k F).1 x j = a) ↔ (a = x ∨ ∃ j, j < c + 1 ∧ j ≠ k ∧ F j = a) := by
  have fin : ∀ (k : Nat) (F : Nat → ro_K), k ≤ c → (∀ i j, i < j → j < c + 1 → i ≠ k → j ≠ k → (F i).val < (F j).val) → (∀ j, k < j → j < c + 1 → x.val < (F j).val) → (∀ j, j < k → (F j).val < x.val) → srt (va_up F k x) (c + 1) ∧ ∀ a, (∃ j, j < c + 1 ∧ va_up F k x j = a) ↔ (a = x ∨ ∃ j, j < c + 1 ∧ j ≠ k ∧ F j = a) := by
    intro k F hk h1 h2 h3
    refine ⟨fun i j hij hj => ?_, fun a => ⟨?_, ?_⟩⟩
    · by_cases ei : i = k
      · subst ei; rw [va_up_self, va_up_ne _ _ (by omega)]; exact h2 j hij hj
      · rw [va_up_ne _ _ ei]
        by_cases ej : j = k
        · subst ej; rw [va_up_self]; exact h3 i hij
        · rw [va_up_ne _ _ ej]; exact h1 i j hij hj ei ej
    · rintro ⟨j, hj, e⟩
      by_cases ej : j = k
      · subst ej; rw [va_up_self] at e; exact Or.inl e.symm
      · rw [va_up_ne _ _ ej] at e; exact Or.inr ⟨j, hj, ej, e⟩
    · rintro (e | ⟨j, hj, ej, e⟩)
      · exact ⟨k, by omega, by rw [va_up_self]; exact e.symm⟩
      · exact ⟨j, hj, by rw [va_up_ne _ _ ej]; exact e⟩
  intro k
  induction k with
  | zero => intro F hk h1 h2 _; exact fin 0 F hk h1 h2 (fun j hj => absurd hj (Nat.not_lt_zero j))
  | succ k ih =>
    intro F hk h1 h2 h3
    by_cases h : x.val < (F k).val
    · have e : inK x (k + 1) F = inK x k (va_up F (k + 1) (F k)) := if_pos h
      rw [e]
      obtain ⟨p1, p2⟩ := ih (va_up F (k + 1) (F k)) (by omega) (fun i j hij hj ei ej => by
        by_cases e1 : i = k + 1
        · subst e1
          rw [va_up_self, va_up_ne _ _ (by omega)]
          exact h1 k j (by omega) hj (by omega) (by omega)
        · rw [va_up_ne _ _ e1]
          by_cases e2 : j = k + 1
          · subst e2
            rw [va_up_self]
            exact h1 i k (by omega) (by omega) (by omega) (by omega)
          · rw [va_up_ne _ _ e2]; exact h1 i j hij hj e1 e2) (fun j hkj hj => by
        by_cases e2 : j = k + 1
        · subst e2; rw [va_up_self]; exact h
        · rw [va_up_ne _ _ e2]; exact h2 j (by omega) hj) (fun j hj ej => by
        by_cases e2 : j = k + 1
        · subst e2; rw [va_up_self]; exact h3 k (by omega) (by omega)
        · rw [va_up_ne _ _ e2]; exact h3 j hj e2)
      refine ⟨p1, fun a => ?_⟩
      rw [p2 a]
      constructor
      · rintro (z | ⟨j, hj, ej, ea⟩)
        · exact Or.inl z
        · by_cases e2 : j = k + 1
          · subst e2; rw [va_up_self] at ea; exact Or.inr ⟨k, by omega, by omega, ea⟩
          · rw [va_up_ne _ _ e2] at ea; exact Or.inr ⟨j, hj, e2, ea⟩
      · rintro (z | ⟨j, hj, ej, ea⟩)
        · exact Or.inl z
        · by_cases e2 : j = k
          · subst e2; exact Or.inr ⟨j + 1, by omega, by omega, by rw [va_up_self]; exact ea⟩
          · exact Or.inr ⟨j, hj, e2, by rw [va_up_ne _ _ ej]; exact ea⟩
    · have e : inK x (k + 1) F = (k + 1, F) := if_neg h
      rw [e]
      refine fin (k + 1) F hk h1 h2 (fun j hj => ?_)
      have hne : (F k).val ≠ x.val := fun z => h3 k (by omega) (by omega) (Fin.ext z)
      by_cases e2 : j = k
      · subst e2; omega
      · have := h1 j k (by omega) (by omega) (by omega) (by omega)
        omega
