section WK
variable {p : Program} {l : Launch} {e : Env} {R : Room} {s : State} {m : MethodId} {args : Array Value} {below : List Frame} {meth : Method} {c : Code} {H : Heap} {locs : List Loc} {cells slots : Nat} {Q : State → Prop} {D : va_G} {A : Nat → Prop} {H0 : Heap}
theorem azN_or {P : Nat → ro_K} {k : Nat} (h : ¬ azN P k) : ¬ azN P (k + 1) := azN_d h
/-- the level, as it is looked for -/
def lvJ (E : Nat → Nat → ro_K) (ze : Int) (i : Nat) (L : Int) : Nat → Int
  | 0 => L
  | j + 1 => if E i j = 0 then lvJ E ze i L j else if ze = 0 then (if (j : Int) - i < lvJ E ze i L j then (j : Int) - i else lvJ E ze i L j) else (if lvJ E ze i L j < (j : Int) - i then (j : Int) - i else lvJ E ze i L j)
def lvI (E : Nat → Nat → ro_K) (ze : Int) (L : Int) : Nat → Int
  | 0 => L
  | i + 1 => lvJ E ze i (lvI E ze L i) 5
theorem lvJ_in (E : Nat → Nat → ro_K) (ze : Int) (i : Nat) (L : Int) (hi : i ≤ 3) (h0 : -9 ≤ L) (h1 : L ≤ 9) : ∀ j, j ≤ 5 → -9 ≤ lvJ E ze i L j ∧ lvJ E ze i L j ≤ 9
  | 0, _ => ⟨h0, h1⟩
  | j + 1, hj => by
    have ih := lvJ_in E ze i L hi h0 h1 j (by omega)
    show -9 ≤ (if E i j = 0 then lvJ E ze i L j else if ze = 0 then (if (j : Int) - i < lvJ E ze i L j then (j : Int) - i else lvJ E ze i L j) else (if lvJ E ze i L j < (j : Int) - i then (j : Int) - i else lvJ E ze i L j)) ∧ (if E i j = 0 then lvJ E ze i L j else if ze = 0 then (if (j : Int) - i < lvJ E ze i L j then (j : Int) - i else lvJ E ze i L j) else (if lvJ E ze i L j < (j : Int) - i then (j : Int) - i else lvJ E ze i L j)) ≤ 9
    repeat' split
    all_goals omega
theorem lvI_in (E : Nat → Nat → ro_K) (ze : Int) (L : Int) (h0 : -9 ≤ L) (h1 : L ≤ 9) : ∀ i, i ≤ 4 → -9 ≤ lvI E ze L i ∧ lvI E ze L i ≤ 9
  | 0, _ => ⟨h0, h1⟩
  | i + 1, hi => by
    have ih := lvI_in E ze L h0 h1 i (by omega)
    exact lvJ_in E ze i _ (by omega) ih.1 ih.2 5 (Nat.le_refl 5)
def lv0 (ze : Int) : Int := if ze = 0 then 9 else -9
theorem lv0_in (ze : Int) : -9 ≤ lv0 ze ∧ lv0 ze ≤ 9 := by
  unfold lv0
  split <;> omega
def mtE (F E : Nat → Nat → ro_K) (ze : Int) (v : Int64) : Nat → Nat → ro_K := mvF (gtB ze v) (c2 F E 20) 4
def mtL (E : Nat → Nat → ro_K) (ze : Int) : Int := lvI E ze (lv0 ze) 4
theorem mtL_in (E : Nat → Nat → ro_K) (ze : Int) : -9 ≤ mtL E ze ∧ mtL E ze ≤ 9 := lvI_in E ze _ (lv0_in ze).1 (lv0_in ze).2 4 (Nat.le_refl 4)
/-- how many zeros there are below x -/
def cntZ (f : Nat → ro_K) : Nat → Nat
  | 0 => 0
  | x + 1 => if f x = 0 then cntZ f x + 1 else cntZ f x
theorem cntZ_le (f : Nat → ro_K) : ∀ x, cntZ f x ≤ x
  | 0 => Nat.le_refl 0
  | x + 1 => by
    have ih := cntZ_le f x
    show (if f x = 0 then cntZ f x + 1 else cntZ f x) ≤ x + 1
    split <;> omega
/-- the indicial polynomial at s, its first i parts -/
def exS (E : Nat → Nat → ro_K) (g : Int) (s : Nat) : Nat → ro_K
  | 0 => 0
  | i + 1 => exS E g s i + oat E i (g + i) * ro_k (ffz (s : Int) i)
set_option maxHeartbeats 4000000 in
set_option maxRecDepth 100000 in
theorem lo_M_findLevel_s {cJ cI : ClassId} {h : Nat} {cd od : Int} {fc hd md lo : Nat} {lv : Int} {tb rw bs : Nat} {mn : Int} {nu tu : Nat} {F E : Nat → Nat → ro_K} {ze : Int} {v : Int64}  (hx : p.tables.exec = Jvm.exec) (hb : c.code = c_M_findLevel) (hml : c.maxLocals = 7) (hown : s.vm.findClass R_M = some m.cls) (hts : ∀ w ∈ kb, w.before args s = true) (hK : va_K D vC [(cJ, .long), (cI, .int)] s) (hN : rc_N s) (hend : ∀ (zb : Int) (H : Heap) (locs : List Loc) (ls : Array Slot), ((zb = 1 ∧ ¬ azN (fl 5 F) 20) ∨ (zb = 0 ∧ ¬ (¬ azN (fl 5 F) 20))) → va_P D vC [(h, rM cd od fc hd md lo lv tb rw bs mn nu tu), (fc, k2 cJ 20 5 F), (lo, k2 cJ 20 5 E)] H → va_D A [(h, rM cd od fc hd md lo lv tb rw bs mn nu tu), (fc, k2 cJ 20 5 F), (lo, k2 cJ 20 5 E)] → va_S A H0 H locs → lv_has ls 7 [(4, .int (iz zb)), (0, .ref h), (1, .int (iz ze)), (2, .long v)] → W p l e R s m args below meth c H locs 0 0 Q (F0 m 43 ls [])) : ∀ (q k : Nat) (z zb : Int) (H : Heap) (locs : List Loc) (ls : Array Slot), z = (k : Int) → k + q = 20 → ((zb = 1 ∧ ¬ azN (fl 5 F) k) ∨ (zb = 0 ∧ ¬ (¬ azN (fl 5 F) k))) → va_P D vC [(h, rM cd od fc hd md lo lv tb rw bs mn nu tu), (fc, k2 cJ 20 5 F), (lo, k2 cJ 20 5 E)] H → va_D A [(h, rM cd od fc hd md lo lv tb rw bs mn nu tu), (fc, k2 cJ 20 5 F), (lo, k2 cJ 20 5 E)] → va_S A H0 H locs → lv_has ls 7 [(5, .int (iz z)), (4, .int (iz zb)), (0, .ref h), (1, .int (iz ze)), (2, .long v)] → W p l e R s m args below meth c H locs 0 0 Q (F0 m 6 ls []) := by
  intro q
  induction q with
  | zero =>
    intro k z zb H locs ls hz hk hi hP hD hS hl
    have e : k = 20 := hk
    subst e
    refine lv_iload hx hb d_M_findLevel_6 (lv_at hl 0 rfl) ?_
    refine rz_bipush hx hb d_M_findLevel_8 (by decide) ?_
    refine rz_icmp_ge (tgt := 43) hx hb d_M_findLevel_10 (by decide) (fun hc1 => ?_) (fun hc1 => ?_)
    · exact hend zb H locs ls hi hP hD hS (lv_sub hl [1, 2, 3, 4] rfl)
    · omega
  | succ q ih =>
    intro k z zb H locs ls hz hk hi hP hD hS hl
    subst hz
  
    refine lv_iload hx hb d_M_findLevel_6 (lv_at hl 0 rfl) ?_
    refine rz_bipush hx hb d_M_findLevel_8 (by decide) ?_
    refine rz_icmp_ge (tgt := 43) hx hb d_M_findLevel_10 (by decide) (fun hc2 => ?_) (fun hc2 => ?_)
    · omega
    · refine lv_iload hx hb d_M_findLevel_13 (lv_at hl 1 rfl) ?_
      refine rz_if_ne (tgt := 30) hx hb d_M_findLevel_15 (by decide) (fun hc3 => ?_) (fun hc3 => ?_)
      · refine rz_iconst hx hb d_M_findLevel_30 ?_
        refine lv_goto (tgt := 35) hx hb d_M_findLevel_31 (by decide) ?_
        refine lv_istore (lv' := [(4, .int (iz 1)), (5, .int (iz (k : Int))), (0, .ref h), (1, .int (iz ze)), (2, .long v)]) hx hb d_M_findLevel_35 hl (by decide) rfl (fun ls hl => ?_)
        refine lv_iinc (v := iz ((k : Int) + 1)) (lv' := [(5, .int (iz ((k : Int) + 1))), (4, .int (iz 1)), (0, .ref h), (1, .int (iz ze)), (2, .long v)]) hx hb d_M_findLevel_37 hl (k := 1) rfl (iz_add _ _) (by decide) rfl (fun ls hl => ?_)
        refine lv_goto (tgt := 6) hx hb d_M_findLevel_40 (by decide) ?_
        exact ih (k + 1) _ _ H locs ls (by omega) (by omega) (Or.inl ⟨rfl, by first | exact azN_n (by assumption) | exact azN_d (hi.elim (fun z => z.2) (fun z => absurd z.1 (by assumption)))⟩) hP hD hS (lv_sub hl [0, 1, 2, 3, 4] rfl)
      · refine lv_aload_n hx hb d_M_findLevel_18 rfl (lv_at hl 2 rfl) ?_
        refine va_get (D := D) (ci := 3) (v := .ref fc) (C := R_M) (T := T_M) (N := 13) hx hb hts in_M hown hK hP 0 rfl rfl 2 (by decide) (hts _ kw_532) (fun _ h9 => h9) rfl d_M_findLevel_19 ?_
        refine lv_iload hx hb d_M_findLevel_22 (lv_at hl 0 rfl) ?_
        refine rm_ldf hx hb hK hP 1 0 rfl rfl k d_M_findLevel_24 ?_
        refine lv_lconst (v := lk 0) hx hb d_M_findLevel_25 rfl ?_
        refine rz_lcmp_eq (tgt := 34) hx hb d_M_findLevel_26 d_M_findLevel_27 (by decide) (fun hc4 => ?_) (fun hc4 => ?_)
        · have hc4 : (F (k / 5) (k % 5)) = 0 := lk_inj.mp hc4
          refine rz_iconst hx hb d_M_findLevel_34 ?_
          refine lv_istore (lv' := [(4, .int (iz 0)), (5, .int (iz (k : Int))), (0, .ref h), (1, .int (iz ze)), (2, .long v)]) hx hb d_M_findLevel_35 hl (by decide) rfl (fun ls hl => ?_)
          refine lv_iinc (v := iz ((k : Int) + 1)) (lv' := [(5, .int (iz ((k : Int) + 1))), (4, .int (iz 0)), (0, .ref h), (1, .int (iz ze)), (2, .long v)]) hx hb d_M_findLevel_37 hl (k := 1) rfl (iz_add _ _) (by decide) rfl (fun ls hl => ?_)
          refine lv_goto (tgt := 6) hx hb d_M_findLevel_40 (by decide) ?_
          exact ih (k + 1) _ _ H locs ls (by omega) (by omega) (Or.inr ⟨rfl, fun hn => hn (azN_s (hi.elim (fun z => absurd z.1 (by omega)) (fun z => Classical.not_not.mp z.2)) (by assumption))⟩) hP hD hS (lv_sub hl [0, 1, 2, 3, 4] rfl)
        · have hc4 : (F (k / 5) (k % 5)) ≠ 0 := fun z => hc4 (lk_inj.mpr z)
          refine rz_iconst hx hb d_M_findLevel_30 ?_
          refine lv_goto (tgt := 35) hx hb d_M_findLevel_31 (by decide) ?_
          refine lv_istore (lv' := [(4, .int (iz 1)), (5, .int (iz (k : Int))), (0, .ref h), (1, .int (iz ze)), (2, .long v)]) hx hb d_M_findLevel_35 hl (by decide) rfl (fun ls hl => ?_)
          refine lv_iinc (v := iz ((k : Int) + 1)) (lv' := [(5, .int (iz ((k : Int) + 1))), (4, .int (iz 1)), (0, .ref h), (1, .int (iz ze)), (2, .long v)]) hx hb d_M_findLevel_37 hl (k := 1) rfl (iz_add _ _) (by decide) rfl (fun ls hl => ?_)
          refine lv_goto (tgt := 6) hx hb d_M_findLevel_40 (by decide) ?_
          exact ih (k + 1) _ _ H locs ls (by omega) (by omega) (Or.inl ⟨rfl, by first | exact azN_n (by assumption) | exact azN_d (hi.elim (fun z => z.2) (fun z => absurd z.1 (by assumption)))⟩) hP hD hS (lv_sub hl [0, 1, 2, 3, 4] rfl)
set_option maxHeartbeats 4000000 in
set_option maxRecDepth 100000 in
theorem lj_M_findLevel {cJ cI : ClassId} {h : Nat} {cd od : Int} {fc hd md lo : Nat} {tb rw bs : Nat} {mn : Int} {nu tu : Nat} {F E : Nat → Nat → ro_K} {ze zi L : Int} {i : Nat} (hzi : zi = (i : Int)) (hi : i ≤ 3) (hL0 : -9 ≤ L) (hL1 : L ≤ 9) (hz0 : 0 ≤ ze) (hz1 : ze ≤ 1) (hx : p.tables.exec = Jvm.exec) (hb : c.code = c_M_findLevel) (hml : c.maxLocals = 7) (hown : s.vm.findClass R_M = some m.cls) (hts : ∀ w ∈ kb, w.before args s = true) (hK : va_K D vC [(cJ, .long), (cI, .int)] s) (hN : rc_N s) (hend : ∀ (H : Heap) (locs : List Loc) (ls : Array Slot), va_P D vC [(h, rM cd od fc hd md lo (lvJ E ze i L 5) tb rw bs mn nu tu), (fc, k2 cJ 20 5 F), (lo, k2 cJ 20 5 E)] H → va_D A [(h, rM cd od fc hd md lo (lvJ E ze i L 5) tb rw bs mn nu tu), (fc, k2 cJ 20 5 F), (lo, k2 cJ 20 5 E)] → va_S A H0 H locs → lv_has ls 7 [(5, .int (iz zi)), (0, .ref h), (1, .int (iz ze))] → W p l e R s m args below meth c H locs 0 0 Q (F0 m 179 ls [])) : ∀ (q k : Nat) (z : Int) (H : Heap) (locs : List Loc) (ls : Array Slot), z = (k : Int) → k + q = 5 → va_P D vC [(h, rM cd od fc hd md lo (lvJ E ze i L k) tb rw bs mn nu tu), (fc, k2 cJ 20 5 F), (lo, k2 cJ 20 5 E)] H → va_D A [(h, rM cd od fc hd md lo (lvJ E ze i L k) tb rw bs mn nu tu), (fc, k2 cJ 20 5 F), (lo, k2 cJ 20 5 E)] → va_S A H0 H locs → lv_has ls 7 [(6, .int (iz z)), (5, .int (iz zi)), (0, .ref h), (1, .int (iz ze))] → W p l e R s m args below meth c H locs 0 0 Q (F0 m 107 ls []) := by
  intro q
  induction q with
  | zero =>
    intro k z H locs ls hz hk hP hD hS hl
    have e : k = 5 := hk
    subst e
    refine lv_iload hx hb d_M_findLevel_107 (lv_at hl 0 rfl) ?_
    refine rz_iconst hx hb d_M_findLevel_109 ?_
    refine rz_icmp_ge (tgt := 179) hx hb d_M_findLevel_110 (by decide) (fun hc1 => ?_) (fun hc1 => ?_)
    · exact hend H locs ls hP hD hS (lv_sub hl [1, 2, 3] rfl)
    · omega
  | succ q ih =>
    intro k z H locs ls hz hk hP hD hS hl
    subst hz
    subst hzi
    have hin := lvJ_in E ze i L hi hL0 hL1 k (by omega)
    refine lv_iload hx hb d_M_findLevel_107 (lv_at hl 0 rfl) ?_
    refine rz_iconst hx hb d_M_findLevel_109 ?_
    refine rz_icmp_ge (tgt := 179) hx hb d_M_findLevel_110 (by decide) (fun hc2 => ?_) (fun hc2 => ?_)
    · omega
    · refine lv_aload_n hx hb d_M_findLevel_113 rfl (lv_at hl 2 rfl) ?_
      refine va_get (D := D) (ci := 3) (v := .ref lo) (C := R_M) (T := T_M) (N := 13) hx hb hts in_M hown hK hP 0 rfl rfl 5 (by decide) (hts _ kw_535) (fun _ h9 => h9) rfl d_M_findLevel_114 ?_
      refine rz_iconst hx hb d_M_findLevel_117 ?_
      refine lv_iload hx hb d_M_findLevel_118 (lv_at hl 1 rfl) ?_
      refine rz_imul hx hb d_M_findLevel_120 ?_
      refine lv_iload hx hb d_M_findLevel_121 (lv_at hl 0 rfl) ?_
      refine rz_iadd hx hb d_M_findLevel_123 ?_
      refine rm_ld hx hb hK hP 2 0 rfl rfl i k d_M_findLevel_124 ?_
      refine lv_lconst (v := lk 0) hx hb d_M_findLevel_125 rfl ?_
      refine rz_lcmp_ne (tgt := 133) hx hb d_M_findLevel_126 d_M_findLevel_127 (by decide) (fun hc3 => ?_) (fun hc3 => ?_)
      · have hc3 : (E i k) ≠ 0 := fun z => hc3 (lk_inj.mpr z)
        refine lv_iload_n hx hb d_M_findLevel_133 rfl (lv_at hl 3 rfl) ?_
        refine rz_if_eq (tgt := 152) hx hb d_M_findLevel_134 (by decide) (fun hc4 => ?_) (fun hc4 => ?_)
        · refine lv_iload hx hb d_M_findLevel_152 (lv_at hl 0 rfl) ?_
          refine lv_iload hx hb d_M_findLevel_154 (lv_at hl 1 rfl) ?_
          refine rz_isub hx hb d_M_findLevel_156 ?_
          refine lv_aload_n hx hb d_M_findLevel_157 rfl (lv_at hl 2 rfl) ?_
          refine va_get (D := D) (ci := 3) (v := .int (iz (lvJ E ze i L k))) (C := R_M) (T := T_M) (N := 13) hx hb hts in_M hown hK hP 0 rfl rfl 6 (by decide) (hts _ kw_536) (fun _ h9 => h9) rfl d_M_findLevel_158 ?_
          refine rz_icmp_ge (tgt := 173) hx hb d_M_findLevel_161 (by decide) (fun hc5 => ?_) (fun hc5 => ?_)
          · refine lv_iinc (v := iz ((k : Int) + 1)) (lv' := [(6, .int (iz ((k : Int) + 1))), (5, .int (iz (i : Int))), (0, .ref h), (1, .int (iz ze))]) hx hb d_M_findLevel_173 hl (k := 0) rfl (iz_add _ _) (by decide) rfl (fun ls hl => ?_)
            refine lv_goto (tgt := 107) hx hb d_M_findLevel_176 (by decide) ?_
            have hs1 : lvJ E ze i L (k + 1) = (lvJ E ze i L k) := by
              show (if E i k = 0 then lvJ E ze i L k else if ze = 0 then (if (k : Int) - i < lvJ E ze i L k then (k : Int) - i else lvJ E ze i L k) else (if lvJ E ze i L k < (k : Int) - i then (k : Int) - i else lvJ E ze i L k)) = _
              first
                | rw [if_pos (by assumption)]
                | rw [if_neg (by assumption), if_pos (by assumption), if_pos (by omega)]
                | rw [if_neg (by assumption), if_pos (by assumption), if_neg (by omega)]
                | rw [if_neg (by assumption), if_neg (by assumption), if_pos (by omega)]
                | rw [if_neg (by assumption), if_neg (by assumption), if_neg (by omega)]
            rw [← hs1] at hP hD
            exact ih (k + 1) _ H locs ls (by omega) (by omega) hP hD hS (lv_sub hl [0, 1, 2, 3] rfl)
          · refine lv_aload_n hx hb d_M_findLevel_164 rfl (lv_at hl 2 rfl) ?_
            refine lv_iload hx hb d_M_findLevel_165 (lv_at hl 0 rfl) ?_
            refine lv_iload hx hb d_M_findLevel_167 (lv_at hl 1 rfl) ?_
            refine rz_isub hx hb d_M_findLevel_169 ?_
            refine va_put (D := D) (ci := 3) (v := .int (iz ((k : Int) - (i : Int)))) (ty := .int) (C := R_M) (T := T_M) (N := 13) hx hb hts in_M ty_M tk_M nm_M hown hK hP hD hS 0 rfl rfl 6 (by decide) (hts _ kw_536) (fun _ h9 => h9) rfl (by decide +kernel) rfl rfl (Nat.le_of_ble_eq_true rfl) d_M_findLevel_170 (fun H locs hP hD hS => ?_)
            have hP : va_P D vC [(h, rM cd od fc hd md lo ((k : Int) - (i : Int)) tb rw bs mn nu tu), (fc, k2 cJ 20 5 F), (lo, k2 cJ 20 5 E)] H := hP
            have hD : va_D A [(h, rM cd od fc hd md lo ((k : Int) - (i : Int)) tb rw bs mn nu tu), (fc, k2 cJ 20 5 F), (lo, k2 cJ 20 5 E)] := hD
            refine lv_iinc (v := iz ((k : Int) + 1)) (lv' := [(6, .int (iz ((k : Int) + 1))), (5, .int (iz (i : Int))), (0, .ref h), (1, .int (iz ze))]) hx hb d_M_findLevel_173 hl (k := 0) rfl (iz_add _ _) (by decide) rfl (fun ls hl => ?_)
            refine lv_goto (tgt := 107) hx hb d_M_findLevel_176 (by decide) ?_
            have hs1 : lvJ E ze i L (k + 1) = ((k : Int) - (i : Int)) := by
              show (if E i k = 0 then lvJ E ze i L k else if ze = 0 then (if (k : Int) - i < lvJ E ze i L k then (k : Int) - i else lvJ E ze i L k) else (if lvJ E ze i L k < (k : Int) - i then (k : Int) - i else lvJ E ze i L k)) = _
              first
                | rw [if_pos (by assumption)]
                | rw [if_neg (by assumption), if_pos (by assumption), if_pos (by omega)]
                | rw [if_neg (by assumption), if_pos (by assumption), if_neg (by omega)]
                | rw [if_neg (by assumption), if_neg (by assumption), if_pos (by omega)]
                | rw [if_neg (by assumption), if_neg (by assumption), if_neg (by omega)]
            rw [← hs1] at hP hD
            exact ih (k + 1) _ H locs ls (by omega) (by omega) hP hD hS (lv_sub hl [0, 1, 2, 3] rfl)
        · refine lv_iload hx hb d_M_findLevel_137 (lv_at hl 0 rfl) ?_
          refine lv_iload hx hb d_M_findLevel_139 (lv_at hl 1 rfl) ?_
          refine rz_isub hx hb d_M_findLevel_141 ?_
          refine lv_aload_n hx hb d_M_findLevel_142 rfl (lv_at hl 2 rfl) ?_
          refine va_get (D := D) (ci := 3) (v := .int (iz (lvJ E ze i L k))) (C := R_M) (T := T_M) (N := 13) hx hb hts in_M hown hK hP 0 rfl rfl 6 (by decide) (hts _ kw_536) (fun _ h9 => h9) rfl d_M_findLevel_143 ?_
          refine rz_icmp_le (tgt := 173) hx hb d_M_findLevel_146 (by decide) (fun hc6 => ?_) (fun hc6 => ?_)
          · refine lv_iinc (v := iz ((k : Int) + 1)) (lv' := [(6, .int (iz ((k : Int) + 1))), (5, .int (iz (i : Int))), (0, .ref h), (1, .int (iz ze))]) hx hb d_M_findLevel_173 hl (k := 0) rfl (iz_add _ _) (by decide) rfl (fun ls hl => ?_)
            refine lv_goto (tgt := 107) hx hb d_M_findLevel_176 (by decide) ?_
            have hs1 : lvJ E ze i L (k + 1) = (lvJ E ze i L k) := by
              show (if E i k = 0 then lvJ E ze i L k else if ze = 0 then (if (k : Int) - i < lvJ E ze i L k then (k : Int) - i else lvJ E ze i L k) else (if lvJ E ze i L k < (k : Int) - i then (k : Int) - i else lvJ E ze i L k)) = _
              first
                | rw [if_pos (by assumption)]
                | rw [if_neg (by assumption), if_pos (by assumption), if_pos (by omega)]
                | rw [if_neg (by assumption), if_pos (by assumption), if_neg (by omega)]
                | rw [if_neg (by assumption), if_neg (by assumption), if_pos (by omega)]
                | rw [if_neg (by assumption), if_neg (by assumption), if_neg (by omega)]
            rw [← hs1] at hP hD
            exact ih (k + 1) _ H locs ls (by omega) (by omega) hP hD hS (lv_sub hl [0, 1, 2, 3] rfl)
          · refine lv_goto (tgt := 164) hx hb d_M_findLevel_149 (by decide) ?_
            refine lv_aload_n hx hb d_M_findLevel_164 rfl (lv_at hl 2 rfl) ?_
            refine lv_iload hx hb d_M_findLevel_165 (lv_at hl 0 rfl) ?_
            refine lv_iload hx hb d_M_findLevel_167 (lv_at hl 1 rfl) ?_
            refine rz_isub hx hb d_M_findLevel_169 ?_
            refine va_put (D := D) (ci := 3) (v := .int (iz ((k : Int) - (i : Int)))) (ty := .int) (C := R_M) (T := T_M) (N := 13) hx hb hts in_M ty_M tk_M nm_M hown hK hP hD hS 0 rfl rfl 6 (by decide) (hts _ kw_536) (fun _ h9 => h9) rfl (by decide +kernel) rfl rfl (Nat.le_of_ble_eq_true rfl) d_M_findLevel_170 (fun H locs hP hD hS => ?_)
            have hP : va_P D vC [(h, rM cd od fc hd md lo ((k : Int) - (i : Int)) tb rw bs mn nu tu), (fc, k2 cJ 20 5 F), (lo, k2 cJ 20 5 E)] H := hP
            have hD : va_D A [(h, rM cd od fc hd md lo ((k : Int) - (i : Int)) tb rw bs mn nu tu), (fc, k2 cJ 20 5 F), (lo, k2 cJ 20 5 E)] := hD
            refine lv_iinc (v := iz ((k : Int) + 1)) (lv' := [(6, .int (iz ((k : Int) + 1))), (5, .int (iz (i : Int))), (0, .ref h), (1, .int (iz ze))]) hx hb d_M_findLevel_173 hl (k := 0) rfl (iz_add _ _) (by decide) rfl (fun ls hl => ?_)
            refine lv_goto (tgt := 107) hx hb d_M_findLevel_176 (by decide) ?_
            have hs1 : lvJ E ze i L (k + 1) = ((k : Int) - (i : Int)) := by
              show (if E i k = 0 then lvJ E ze i L k else if ze = 0 then (if (k : Int) - i < lvJ E ze i L k then (k : Int) - i else lvJ E ze i L k) else (if lvJ E ze i L k < (k : Int) - i then (k : Int) - i else lvJ E ze i L k)) = _
              first
                | rw [if_pos (by assumption)]
                | rw [if_neg (by assumption), if_pos (by assumption), if_pos (by omega)]
                | rw [if_neg (by assumption), if_pos (by assumption), if_neg (by omega)]
                | rw [if_neg (by assumption), if_neg (by assumption), if_pos (by omega)]
                | rw [if_neg (by assumption), if_neg (by assumption), if_neg (by omega)]
            rw [← hs1] at hP hD
            exact ih (k + 1) _ H locs ls (by omega) (by omega) hP hD hS (lv_sub hl [0, 1, 2, 3] rfl)
      · have hc3 : (E i k) = 0 := lk_inj.mp hc3
        refine lv_goto (tgt := 173) hx hb d_M_findLevel_130 (by decide) ?_
        refine lv_iinc (v := iz ((k : Int) + 1)) (lv' := [(6, .int (iz ((k : Int) + 1))), (5, .int (iz (i : Int))), (0, .ref h), (1, .int (iz ze))]) hx hb d_M_findLevel_173 hl (k := 0) rfl (iz_add _ _) (by decide) rfl (fun ls hl => ?_)
        refine lv_goto (tgt := 107) hx hb d_M_findLevel_176 (by decide) ?_
        have hs1 : lvJ E ze i L (k + 1) = (lvJ E ze i L k) := by
          show (if E i k = 0 then lvJ E ze i L k else if ze = 0 then (if (k : Int) - i < lvJ E ze i L k then (k : Int) - i else lvJ E ze i L k) else (if lvJ E ze i L k < (k : Int) - i then (k : Int) - i else lvJ E ze i L k)) = _
          first
            | rw [if_pos (by assumption)]
            | rw [if_neg (by assumption), if_pos (by assumption), if_pos (by omega)]
            | rw [if_neg (by assumption), if_pos (by assumption), if_neg (by omega)]
            | rw [if_neg (by assumption), if_neg (by assumption), if_pos (by omega)]
            | rw [if_neg (by assumption), if_neg (by assumption), if_neg (by omega)]
        rw [← hs1] at hP hD
        exact ih (k + 1) _ H locs ls (by omega) (by omega) hP hD hS (lv_sub hl [0, 1, 2, 3] rfl)
set_option maxHeartbeats 4000000 in
set_option maxRecDepth 100000 in
theorem li_M_findLevel {cJ cI : ClassId} {h : Nat} {cd od : Int} {fc hd md lo : Nat} {tb rw bs : Nat} {mn : Int} {nu tu : Nat} {F E : Nat → Nat → ro_K} {ze L : Int} (hL0 : -9 ≤ L) (hL1 : L ≤ 9) (hz0 : 0 ≤ ze) (hz1 : ze ≤ 1) (hx : p.tables.exec = Jvm.exec) (hb : c.code = c_M_findLevel) (hml : c.maxLocals = 7) (hown : s.vm.findClass R_M = some m.cls) (hts : ∀ w ∈ kb, w.before args s = true) (hK : va_K D vC [(cJ, .long), (cI, .int)] s) (hN : rc_N s) (hend : ∀ (H : Heap) (locs : List Loc) (ls : Array Slot), va_P D vC [(h, rM cd od fc hd md lo (lvI E ze L 4) tb rw bs mn nu tu), (fc, k2 cJ 20 5 F), (lo, k2 cJ 20 5 E)] H → va_D A [(h, rM cd od fc hd md lo (lvI E ze L 4) tb rw bs mn nu tu), (fc, k2 cJ 20 5 F), (lo, k2 cJ 20 5 E)] → va_S A H0 H locs → W p l e R s m args below meth c H locs 0 0 Q (F0 m 185 ls [])) : ∀ (q k : Nat) (z : Int) (H : Heap) (locs : List Loc) (ls : Array Slot), z = (k : Int) → k + q = 4 → va_P D vC [(h, rM cd od fc hd md lo (lvI E ze L k) tb rw bs mn nu tu), (fc, k2 cJ 20 5 F), (lo, k2 cJ 20 5 E)] H → va_D A [(h, rM cd od fc hd md lo (lvI E ze L k) tb rw bs mn nu tu), (fc, k2 cJ 20 5 F), (lo, k2 cJ 20 5 E)] → va_S A H0 H locs → lv_has ls 7 [(5, .int (iz z)), (0, .ref h), (1, .int (iz ze))] → W p l e R s m args below meth c H locs 0 0 Q (F0 m 98 ls []) := by
  intro q
  induction q with
  | zero =>
    intro k z H locs ls hz hk hP hD hS hl
    have e : k = 4 := hk
    subst e
    refine lv_iload hx hb d_M_findLevel_98 (lv_at hl 0 rfl) ?_
    refine rz_iconst hx hb d_M_findLevel_100 ?_
    refine rz_icmp_ge (tgt := 185) hx hb d_M_findLevel_101 (by decide) (fun hc1 => ?_) (fun hc1 => ?_)
    · exact hend H locs ls hP hD hS
    · omega
  | succ q ih =>
    intro k z H locs ls hz hk hP hD hS hl
    subst hz
  
    refine lv_iload hx hb d_M_findLevel_98 (lv_at hl 0 rfl) ?_
    refine rz_iconst hx hb d_M_findLevel_100 ?_
    refine rz_icmp_ge (tgt := 185) hx hb d_M_findLevel_101 (by decide) (fun hc2 => ?_) (fun hc2 => ?_)
    · omega
    · refine rz_iconst hx hb d_M_findLevel_104 ?_
      refine lv_istore (lv' := [(6, .int (iz 0)), (5, .int (iz (k : Int))), (0, .ref h), (1, .int (iz ze))]) hx hb d_M_findLevel_105 hl (by decide) rfl (fun ls hl => ?_)
      have hin := lvI_in E ze L hL0 hL1 k (by omega)
      refine lj_M_findLevel (F := F) (E := E) (ze := ze) (L := lvI E ze L k) (i := k) rfl (by omega) hin.1 hin.2 hz0 hz1 hx hb hml hown hts hK hN (fun H locs ls hP hD hS hl => ?_) 5 0 _ H locs ls rfl (by omega) hP hD hS (lv_sub hl [0, 1, 2, 3] rfl)
      refine lv_iinc (v := iz ((k : Int) + 1)) (lv' := [(5, .int (iz ((k : Int) + 1))), (0, .ref h), (1, .int (iz ze))]) hx hb d_M_findLevel_179 hl (k := 0) rfl (iz_add _ _) (by decide) rfl (fun ls hl => ?_)
      refine lv_goto (tgt := 98) hx hb d_M_findLevel_182 (by decide) ?_
      exact ih (k + 1) _ H locs ls (by omega) (by omega) hP hD hS (lv_sub hl [0, 1, 2] rfl)
def ws_M_findLevel : List Cond := .code y_M_findLevel c_M_findLevel 7 (some .boolean) :: kb
set_option maxHeartbeats 4000000 in
set_option maxRecDepth 100000 in
/-- findLevel -/
theorem m_M_findLevel (l : Launch) (D : va_G) (cJ cI : ClassId) (h : Nat) (cd od : Int) (fc hd md lo : Nat) (lv : Int) (tb rw bs : Nat) (mn : Int) (nu tu : Nat) (F E : Nat → Nat → ro_K) (ze : Int) (v : Int64) (hz0 : 0 ≤ ze) (hz1 : ze ≤ 1) : Met l y_M_findLevel ws_M_findLevel ({ frames := 1, cells := 0, slots := 0, locals := 25 }) (rc_Pc D vC [(cJ, .long), (cI, .int)] [.ref h, .int (iz ze), .long v] [(h, rM cd od fc hd md lo lv tb rw bs mn nu tu), (fc, k2 cJ 20 5 F), (lo, k2 cJ 20 5 E)]) (va_Qi (fun (q : Int32) (u : Int × Int × (Nat → Nat → ro_K)) => (¬ azN (fl 5 F) 20 ∧ u = (0, mtL (mtE F E ze v) ze, (mtE F E ze v)) ∧ q = iz 1) ∨ (azN (fl 5 F) 20 ∧ u = (1, lv, E) ∧ q = iz 0)) (fun u t => va_P D vC [(h, rM u.1 od fc hd md lo u.2.1 tb rw bs mn nu tu), (fc, k2 cJ 20 5 F), (lo, k2 cJ 20 5 u.2.2)] t.heap) (rc_A [(h, rM cd od fc hd md lo lv tb rw bs mn nu tu), (fc, k2 cJ 20 5 F), (lo, k2 cJ 20 5 E)])) 0 0 (rc_A [(h, rM cd od fc hd md lo lv tb rw bs mn nu tu), (fc, k2 cJ 20 5 F), (lo, k2 cJ 20 5 E)]) := by
  refine Met.ofW (cc := c_M_findLevel) (maxL := 7) (ret := (some .boolean)) (by decide) rfl ?_
  intro p e s m args below meth c s₁ B hml hv
  obtain ⟨rfl, hP, hK, hD0, hN⟩ := hv
  have hx := B.exec
  have hb := B.bytes
  have hr := B.returns
  have hts0 := atoms_spec (ws := ws_M_findLevel) B.pre
  have hts : ∀ w ∈ kb, w.before _ s = true := fun w h => hts0 w (List.mem_cons_of_mem _ h)
  have hown : s.vm.findClass R_M = some m.cls := findClass_of_methodNamed B.named
  have hlocks := B.notSynchronized
  have hD := rc_self hD0
  generalize hAe : rc_A [(h, rM cd od fc hd md lo lv tb rw bs mn nu tu), (fc, k2 cJ 20 5 F), (lo, k2 cJ 20 5 E)] = A at hD ⊢
  have hS : va_S A s.heap s.heap [] := va_S.rf
  have hl := lv_entry ([.ref h, .int (iz ze), .long v]) (n := 7) (Nat.le_of_ble_eq_true rfl)
  rw [lg_entry_eq]
  generalize (lg_sl ([.ref h, .int (iz ze), .long v]) ++ List.replicate (7 - (lg_sl ([.ref h, .int (iz ze), .long v])).length) Slot.unset).toArray = ls at hl ⊢

  have hl : lv_has ls 7 [(0, .ref h), (1, .int (iz ze)), (2, .long v)] := hl
  refine rz_iconst hx hb d_M_findLevel_0 ?_
  refine lv_istore (lv' := [(4, .int (iz 0)), (0, .ref h), (1, .int (iz ze)), (2, .long v)]) hx hb d_M_findLevel_1 hl (by decide) rfl (fun ls hl => ?_)
  refine rz_iconst hx hb d_M_findLevel_3 ?_
  refine lv_istore (lv' := [(5, .int (iz 0)), (4, .int (iz 0)), (0, .ref h), (1, .int (iz ze)), (2, .long v)]) hx hb d_M_findLevel_4 hl (by decide) rfl (fun ls hl => ?_)
  refine lo_M_findLevel_s (F := F) (E := E) (ze := ze) (v := v)  hx hb hml hown hts hK hN (fun zb H locs ls hi hP hD hS hl => ?_) 20 0 _ _ _ _ ls rfl (by omega) (Or.inr ⟨rfl, fun hn => hn (fun j hj => absurd hj (Nat.not_lt_zero j))⟩) hP hD hS (lv_sub hl [0, 1, 2, 3, 4] rfl)
  rcases hi with ⟨rfl, hC⟩ | ⟨rfl, hC⟩
  · refine lv_aload_n hx hb d_M_findLevel_43 rfl (lv_at hl 1 rfl) ?_
    refine lv_iload hx hb d_M_findLevel_44 (lv_at hl 0 rfl) ?_
    refine rz_if_eq (tgt := 53) hx hb d_M_findLevel_46 (by decide) (fun hc => absurd hc (by decide)) (fun _ => ?_)
    refine rz_iconst hx hb d_M_findLevel_49 ?_
    refine lv_goto (tgt := 54) hx hb d_M_findLevel_50 (by decide) ?_
    refine va_put (D := D) (ci := 3) (v := .int (iz 0)) (ty := .int) (C := R_M) (T := T_M) (N := 13) hx hb hts in_M ty_M tk_M nm_M hown hK hP hD hS 0 rfl rfl 0 (by decide) (hts _ kw_530) (fun _ h9 => h9) rfl (by decide +kernel) rfl rfl (Nat.le_of_ble_eq_true rfl) d_M_findLevel_54 (fun H locs hP hD hS => ?_)
    have hP : va_P D vC [(h, rM 0 od fc hd md lo lv tb rw bs mn nu tu), (fc, k2 cJ 20 5 F), (lo, k2 cJ 20 5 E)] H := hP
    have hD : va_D A [(h, rM 0 od fc hd md lo lv tb rw bs mn nu tu), (fc, k2 cJ 20 5 F), (lo, k2 cJ 20 5 E)] := hD
    refine lv_iload hx hb d_M_findLevel_57 (lv_at hl 0 rfl) ?_
    refine rz_if_ne (tgt := 64) hx hb d_M_findLevel_59 (by decide) (fun _ => ?_) (fun hc => absurd hc (by decide))
    refine lv_aload_n hx hb d_M_findLevel_64 rfl (lv_at hl 1 rfl) ?_
    refine lv_iload_n hx hb d_M_findLevel_65 rfl (lv_at hl 2 rfl) ?_
    refine rz_if_eq (tgt := 73) hx hb d_M_findLevel_66 (by decide) (fun hc1 => ?_) (fun hc1 => ?_)
    · refine lv_lload_n hx hb d_M_findLevel_73 rfl (lv_at hl 3 rfl) ?_
      refine rc_calll (va_runS (As := [.long v]) (rest := [.ref h]) ⟨hx, hb, hml, hown, hts⟩ (m_M_modulo l D v) (cwS 1 hts (kb_gi (kb_c kw_586 (kb_c kw_587 (kb_c kw_5 (kb_c kw_588 kb_all))))) rfl rfl rfl (by decide +kernel) ⟨Nat.le_of_ble_eq_true rfl, Nat.le_of_ble_eq_true rfl⟩) ⟨rc_blind, rc_pre hP hD hK hN [] rfl rfl [] rfl⟩ rfl rfl hl.1 rfl (lv_room (Nat.le_of_ble_eq_true rfl)) d_M_findLevel_74 ⟨Nat.zero_le _, Nat.zero_le _⟩) hP hD hS [] rfl (fun _ => rfl) (fun r2 u3 H locs hw3 hP hD hS => ?_)
      subst hw3
      have hP : va_P D vC [(h, rM 0 od fc hd md lo lv tb rw bs mn nu tu), (fc, k2 cJ 20 5 F), (lo, k2 cJ 20 5 E)] H := hP
      have hD : va_D A [(h, rM 0 od fc hd md lo lv tb rw bs mn nu tu), (fc, k2 cJ 20 5 F), (lo, k2 cJ 20 5 E)] := hD
      rw [show (ro_k v.toInt) = gtB ze v from (if_pos (by assumption)).symm]
      refine rc_callv (va_runV (As := [.long (lk (gtB ze v))]) (rest := []) ⟨hx, hb, hml, hown, hts⟩ (m_M_moveTo l D cJ cI h 0 od fc hd md lo lv tb rw bs mn nu tu F E (gtB ze v)) (cwV 1 hts (kb_gi (kb_c kw_602 (kb_c kw_604 (kb_c ks_M_moveTo (kb_c kw_5 (kb_c kw_605 kb_all)))))) rfl rfl rfl (by decide +kernel) ⟨Nat.le_of_ble_eq_true rfl, Nat.le_of_ble_eq_true rfl⟩) ⟨rc_blind, va_recv hK hP (ci := 3) (q0 := 0) rfl rfl, rc_pre hP hD hK hN [0, 1, 2] rfl rfl [0, 1] rfl⟩ rfl rfl hl.1 rfl (lv_room (Nat.le_of_ble_eq_true rfl)) d_M_findLevel_77 ⟨Nat.zero_le _, Nat.zero_le _⟩) hP hD hS [0, 1, 2] rfl (fun _ => rfl) (fun u4 H locs hw4 hP hD hS => ?_)
      have hP : va_P D vC [(h, rM 0 od fc hd md lo lv tb rw bs mn nu tu), (fc, k2 cJ 20 5 F), (lo, k2 cJ 20 5 (mvF (gtB ze v) (c2 F E 20) 4))] H := hP
      have hD : va_D A [(h, rM 0 od fc hd md lo lv tb rw bs mn nu tu), (fc, k2 cJ 20 5 F), (lo, k2 cJ 20 5 (mvF (gtB ze v) (c2 F E 20) 4))] := hD
      have hP : va_P D vC [(h, rM 0 od fc hd md lo lv tb rw bs mn nu tu), (fc, k2 cJ 20 5 F), (lo, k2 cJ 20 5 (mtE F E ze v))] H := hP
      have hD : va_D A [(h, rM 0 od fc hd md lo lv tb rw bs mn nu tu), (fc, k2 cJ 20 5 F), (lo, k2 cJ 20 5 (mtE F E ze v))] := hD
      refine lv_aload_n hx hb d_M_findLevel_80 rfl (lv_at hl 1 rfl) ?_
      refine lv_iload_n hx hb d_M_findLevel_81 rfl (lv_at hl 2 rfl) ?_
      by_cases hze : ze = 0
      · refine rz_if_eq (tgt := 90) hx hb d_M_findLevel_82 (by decide) (fun hc => ?_) (fun hc => absurd hze hc)
        refine rz_bipush hx hb d_M_findLevel_90 (by decide) ?_
        rw [show (9 : Int) = lv0 ze from (if_pos hze).symm]
        refine va_put (D := D) (ci := 3) (v := .int (iz (lv0 ze))) (ty := .int) (C := R_M) (T := T_M) (N := 13) hx hb hts in_M ty_M tk_M nm_M hown hK hP hD hS 0 rfl rfl 6 (by decide) (hts _ kw_536) (fun _ h9 => h9) rfl (by decide +kernel) rfl rfl (Nat.le_of_ble_eq_true rfl) d_M_findLevel_92 (fun H locs hP hD hS => ?_)
        have hP : va_P D vC [(h, rM 0 od fc hd md lo (lv0 ze) tb rw bs mn nu tu), (fc, k2 cJ 20 5 F), (lo, k2 cJ 20 5 (mtE F E ze v))] H := hP
        have hD : va_D A [(h, rM 0 od fc hd md lo (lv0 ze) tb rw bs mn nu tu), (fc, k2 cJ 20 5 F), (lo, k2 cJ 20 5 (mtE F E ze v))] := hD
        refine rz_iconst hx hb d_M_findLevel_95 ?_
        refine lv_istore (lv' := [(5, .int (iz 0)), (4, .int (iz 1)), (0, .ref h), (1, .int (iz ze)), (2, .long v)]) hx hb d_M_findLevel_96 hl (by decide) rfl (fun ls hl => ?_)
        refine li_M_findLevel (F := F) (E := (mtE F E ze v)) (ze := ze) (L := lv0 ze) (lv0_in ze).1 (lv0_in ze).2 hz0 hz1 hx hb hml hown hts hK hN (fun H locs ls hP hD hS => ?_) 4 0 _ H locs ls rfl (by omega) hP hD hS (lv_sub hl [0, 2, 3] rfl)
        refine rz_iconst hx hb d_M_findLevel_185 ?_
        exact W.zret hx hb hr rfl (fun t ht hW => ⟨⟨_, (0, mtL (mtE F E ze v) ze, (mtE F E ze v)), rfl, (Or.inl ⟨hC, rfl, rfl⟩), rc_out ht hP⟩, hS.F ht⟩) hS.2.2 d_M_findLevel_186
      · refine rz_if_eq (tgt := 90) hx hb d_M_findLevel_82 (by decide) (fun hc => absurd hc hze) (fun hc => ?_)
        refine rz_bipush hx hb d_M_findLevel_85 (by decide) ?_
        refine lv_goto (tgt := 92) hx hb d_M_findLevel_87 (by decide) ?_
        rw [show ((-9) : Int) = lv0 ze from (if_neg hze).symm]
        refine va_put (D := D) (ci := 3) (v := .int (iz (lv0 ze))) (ty := .int) (C := R_M) (T := T_M) (N := 13) hx hb hts in_M ty_M tk_M nm_M hown hK hP hD hS 0 rfl rfl 6 (by decide) (hts _ kw_536) (fun _ h9 => h9) rfl (by decide +kernel) rfl rfl (Nat.le_of_ble_eq_true rfl) d_M_findLevel_92 (fun H locs hP hD hS => ?_)
        have hP : va_P D vC [(h, rM 0 od fc hd md lo (lv0 ze) tb rw bs mn nu tu), (fc, k2 cJ 20 5 F), (lo, k2 cJ 20 5 (mtE F E ze v))] H := hP
        have hD : va_D A [(h, rM 0 od fc hd md lo (lv0 ze) tb rw bs mn nu tu), (fc, k2 cJ 20 5 F), (lo, k2 cJ 20 5 (mtE F E ze v))] := hD
        refine rz_iconst hx hb d_M_findLevel_95 ?_
        refine lv_istore (lv' := [(5, .int (iz 0)), (4, .int (iz 1)), (0, .ref h), (1, .int (iz ze)), (2, .long v)]) hx hb d_M_findLevel_96 hl (by decide) rfl (fun ls hl => ?_)
        refine li_M_findLevel (F := F) (E := (mtE F E ze v)) (ze := ze) (L := lv0 ze) (lv0_in ze).1 (lv0_in ze).2 hz0 hz1 hx hb hml hown hts hK hN (fun H locs ls hP hD hS => ?_) 4 0 _ H locs ls rfl (by omega) hP hD hS (lv_sub hl [0, 2, 3] rfl)
        refine rz_iconst hx hb d_M_findLevel_185 ?_
        exact W.zret hx hb hr rfl (fun t ht hW => ⟨⟨_, (0, mtL (mtE F E ze v) ze, (mtE F E ze v)), rfl, (Or.inl ⟨hC, rfl, rfl⟩), rc_out ht hP⟩, hS.F ht⟩) hS.2.2 d_M_findLevel_186
    · refine lv_lconst (v := lk 0) hx hb d_M_findLevel_69 rfl ?_
      refine lv_goto (tgt := 77) hx hb d_M_findLevel_70 (by decide) ?_
      rw [show (0 : ro_K) = gtB ze v from (if_neg (by assumption)).symm]
      refine rc_callv (va_runV (As := [.long (lk (gtB ze v))]) (rest := []) ⟨hx, hb, hml, hown, hts⟩ (m_M_moveTo l D cJ cI h 0 od fc hd md lo lv tb rw bs mn nu tu F E (gtB ze v)) (cwV 1 hts (kb_gi (kb_c kw_602 (kb_c kw_604 (kb_c ks_M_moveTo (kb_c kw_5 (kb_c kw_605 kb_all)))))) rfl rfl rfl (by decide +kernel) ⟨Nat.le_of_ble_eq_true rfl, Nat.le_of_ble_eq_true rfl⟩) ⟨rc_blind, va_recv hK hP (ci := 3) (q0 := 0) rfl rfl, rc_pre hP hD hK hN [0, 1, 2] rfl rfl [0, 1] rfl⟩ rfl rfl hl.1 rfl (lv_room (Nat.le_of_ble_eq_true rfl)) d_M_findLevel_77 ⟨Nat.zero_le _, Nat.zero_le _⟩) hP hD hS [0, 1, 2] rfl (fun _ => rfl) (fun u5 H locs hw5 hP hD hS => ?_)
      have hP : va_P D vC [(h, rM 0 od fc hd md lo lv tb rw bs mn nu tu), (fc, k2 cJ 20 5 F), (lo, k2 cJ 20 5 (mvF (gtB ze v) (c2 F E 20) 4))] H := hP
      have hD : va_D A [(h, rM 0 od fc hd md lo lv tb rw bs mn nu tu), (fc, k2 cJ 20 5 F), (lo, k2 cJ 20 5 (mvF (gtB ze v) (c2 F E 20) 4))] := hD
      have hP : va_P D vC [(h, rM 0 od fc hd md lo lv tb rw bs mn nu tu), (fc, k2 cJ 20 5 F), (lo, k2 cJ 20 5 (mtE F E ze v))] H := hP
      have hD : va_D A [(h, rM 0 od fc hd md lo lv tb rw bs mn nu tu), (fc, k2 cJ 20 5 F), (lo, k2 cJ 20 5 (mtE F E ze v))] := hD
      refine lv_aload_n hx hb d_M_findLevel_80 rfl (lv_at hl 1 rfl) ?_
      refine lv_iload_n hx hb d_M_findLevel_81 rfl (lv_at hl 2 rfl) ?_
      by_cases hze : ze = 0
      · refine rz_if_eq (tgt := 90) hx hb d_M_findLevel_82 (by decide) (fun hc => ?_) (fun hc => absurd hze hc)
        refine rz_bipush hx hb d_M_findLevel_90 (by decide) ?_
        rw [show (9 : Int) = lv0 ze from (if_pos hze).symm]
        refine va_put (D := D) (ci := 3) (v := .int (iz (lv0 ze))) (ty := .int) (C := R_M) (T := T_M) (N := 13) hx hb hts in_M ty_M tk_M nm_M hown hK hP hD hS 0 rfl rfl 6 (by decide) (hts _ kw_536) (fun _ h9 => h9) rfl (by decide +kernel) rfl rfl (Nat.le_of_ble_eq_true rfl) d_M_findLevel_92 (fun H locs hP hD hS => ?_)
        have hP : va_P D vC [(h, rM 0 od fc hd md lo (lv0 ze) tb rw bs mn nu tu), (fc, k2 cJ 20 5 F), (lo, k2 cJ 20 5 (mtE F E ze v))] H := hP
        have hD : va_D A [(h, rM 0 od fc hd md lo (lv0 ze) tb rw bs mn nu tu), (fc, k2 cJ 20 5 F), (lo, k2 cJ 20 5 (mtE F E ze v))] := hD
        refine rz_iconst hx hb d_M_findLevel_95 ?_
        refine lv_istore (lv' := [(5, .int (iz 0)), (4, .int (iz 1)), (0, .ref h), (1, .int (iz ze)), (2, .long v)]) hx hb d_M_findLevel_96 hl (by decide) rfl (fun ls hl => ?_)
        refine li_M_findLevel (F := F) (E := (mtE F E ze v)) (ze := ze) (L := lv0 ze) (lv0_in ze).1 (lv0_in ze).2 hz0 hz1 hx hb hml hown hts hK hN (fun H locs ls hP hD hS => ?_) 4 0 _ H locs ls rfl (by omega) hP hD hS (lv_sub hl [0, 2, 3] rfl)
        refine rz_iconst hx hb d_M_findLevel_185 ?_
        exact W.zret hx hb hr rfl (fun t ht hW => ⟨⟨_, (0, mtL (mtE F E ze v) ze, (mtE F E ze v)), rfl, (Or.inl ⟨hC, rfl, rfl⟩), rc_out ht hP⟩, hS.F ht⟩) hS.2.2 d_M_findLevel_186
      · refine rz_if_eq (tgt := 90) hx hb d_M_findLevel_82 (by decide) (fun hc => absurd hc hze) (fun hc => ?_)
        refine rz_bipush hx hb d_M_findLevel_85 (by decide) ?_
        refine lv_goto (tgt := 92) hx hb d_M_findLevel_87 (by decide) ?_
        rw [show ((-9) : Int) = lv0 ze from (if_neg hze).symm]
        refine va_put (D := D) (ci := 3) (v := .int (iz (lv0 ze))) (ty := .int) (C := R_M) (T := T_M) (N := 13) hx hb hts in_M ty_M tk_M nm_M hown hK hP hD hS 0 rfl rfl 6 (by decide) (hts _ kw_536) (fun _ h9 => h9) rfl (by decide +kernel) rfl rfl (Nat.le_of_ble_eq_true rfl) d_M_findLevel_92 (fun H locs hP hD hS => ?_)
        have hP : va_P D vC [(h, rM 0 od fc hd md lo (lv0 ze) tb rw bs mn nu tu), (fc, k2 cJ 20 5 F), (lo, k2 cJ 20 5 (mtE F E ze v))] H := hP
        have hD : va_D A [(h, rM 0 od fc hd md lo (lv0 ze) tb rw bs mn nu tu), (fc, k2 cJ 20 5 F), (lo, k2 cJ 20 5 (mtE F E ze v))] := hD
        refine rz_iconst hx hb d_M_findLevel_95 ?_
        refine lv_istore (lv' := [(5, .int (iz 0)), (4, .int (iz 1)), (0, .ref h), (1, .int (iz ze)), (2, .long v)]) hx hb d_M_findLevel_96 hl (by decide) rfl (fun ls hl => ?_)
        refine li_M_findLevel (F := F) (E := (mtE F E ze v)) (ze := ze) (L := lv0 ze) (lv0_in ze).1 (lv0_in ze).2 hz0 hz1 hx hb hml hown hts hK hN (fun H locs ls hP hD hS => ?_) 4 0 _ H locs ls rfl (by omega) hP hD hS (lv_sub hl [0, 2, 3] rfl)
        refine rz_iconst hx hb d_M_findLevel_185 ?_
        exact W.zret hx hb hr rfl (fun t ht hW => ⟨⟨_, (0, mtL (mtE F E ze v) ze, (mtE F E ze v)), rfl, (Or.inl ⟨hC, rfl, rfl⟩), rc_out ht hP⟩, hS.F ht⟩) hS.2.2 d_M_findLevel_186
  · refine lv_aload_n hx hb d_M_findLevel_43 rfl (lv_at hl 1 rfl) ?_
    refine lv_iload hx hb d_M_findLevel_44 (lv_at hl 0 rfl) ?_
    refine rz_if_eq (tgt := 53) hx hb d_M_findLevel_46 (by decide) (fun _ => ?_) (fun hc => absurd hc (by decide))
    refine rz_iconst hx hb d_M_findLevel_53 ?_
    refine va_put (D := D) (ci := 3) (v := .int (iz 1)) (ty := .int) (C := R_M) (T := T_M) (N := 13) hx hb hts in_M ty_M tk_M nm_M hown hK hP hD hS 0 rfl rfl 0 (by decide) (hts _ kw_530) (fun _ h9 => h9) rfl (by decide +kernel) rfl rfl (Nat.le_of_ble_eq_true rfl) d_M_findLevel_54 (fun H locs hP hD hS => ?_)
    have hP : va_P D vC [(h, rM 1 od fc hd md lo lv tb rw bs mn nu tu), (fc, k2 cJ 20 5 F), (lo, k2 cJ 20 5 E)] H := hP
    have hD : va_D A [(h, rM 1 od fc hd md lo lv tb rw bs mn nu tu), (fc, k2 cJ 20 5 F), (lo, k2 cJ 20 5 E)] := hD
    refine lv_iload hx hb d_M_findLevel_57 (lv_at hl 0 rfl) ?_
    refine rz_if_ne (tgt := 64) hx hb d_M_findLevel_59 (by decide) (fun hc => absurd hc (by decide)) (fun _ => ?_)
    refine rz_iconst hx hb d_M_findLevel_62 ?_
    exact W.zret hx hb hr rfl (fun t ht hW => ⟨⟨_, (1, lv, E), rfl, (Or.inr ⟨Classical.not_not.mp hC, rfl, rfl⟩), rc_out ht hP⟩, hS.F ht⟩) hS.2.2 d_M_findLevel_63
def ws_M_level : List Cond := .code y_M_level c_M_level 4 (some .int) :: kb
set_option maxHeartbeats 4000000 in
set_option maxRecDepth 100000 in
/-- level -/
theorem m_M_level (l : Launch) (D : va_G) (cJ cI : ClassId) (h : Nat) (cd od : Int) (fc hd md lo : Nat) (lv : Int) (tb rw bs : Nat) (mn : Int) (nu tu : Nat) (F E : Nat → Nat → ro_K) (ze : Int) (v : Int64) (hz0 : 0 ≤ ze) (hz1 : ze ≤ 1) : Met l y_M_level ws_M_level ({ frames := 2, cells := 0, slots := 0, locals := 51 }) (rc_Pc D vC [(cJ, .long), (cI, .int)] [.ref h, .int (iz ze), .long v] [(h, rM cd od fc hd md lo lv tb rw bs mn nu tu), (fc, k2 cJ 20 5 F), (lo, k2 cJ 20 5 E)]) (va_Qi (fun (q : Int32) (u : Int × Int × (Nat → Nat → ro_K)) => (¬ azN (fl 5 F) 20 ∧ u = (0, (mtL (mtE F E ze v) ze), (mtE F E ze v)) ∧ q = iz (mtL (mtE F E ze v) ze)) ∨ (azN (fl 5 F) 20 ∧ u = (1, lv, E) ∧ q = iz 0)) (fun u t => va_P D vC [(h, rM u.1 od fc hd md lo u.2.1 tb rw bs mn nu tu), (fc, k2 cJ 20 5 F), (lo, k2 cJ 20 5 u.2.2)] t.heap) (rc_A [(h, rM cd od fc hd md lo lv tb rw bs mn nu tu), (fc, k2 cJ 20 5 F), (lo, k2 cJ 20 5 E)])) 0 0 (rc_A [(h, rM cd od fc hd md lo lv tb rw bs mn nu tu), (fc, k2 cJ 20 5 F), (lo, k2 cJ 20 5 E)]) := by
  refine Met.ofW (cc := c_M_level) (maxL := 4) (ret := (some .int)) (by decide) rfl ?_
  intro p e s m args below meth c s₁ B hml hv
  obtain ⟨rfl, hP, hK, hD0, hN⟩ := hv
  have hx := B.exec
  have hb := B.bytes
  have hr := B.returns
  have hts0 := atoms_spec (ws := ws_M_level) B.pre
  have hts : ∀ w ∈ kb, w.before _ s = true := fun w h => hts0 w (List.mem_cons_of_mem _ h)
  have hown : s.vm.findClass R_M = some m.cls := findClass_of_methodNamed B.named
  have hlocks := B.notSynchronized
  have hD := rc_self hD0
  generalize hAe : rc_A [(h, rM cd od fc hd md lo lv tb rw bs mn nu tu), (fc, k2 cJ 20 5 F), (lo, k2 cJ 20 5 E)] = A at hD ⊢
  have hS : va_S A s.heap s.heap [] := va_S.rf
  have hl := lv_entry ([.ref h, .int (iz ze), .long v]) (n := 4) (Nat.le_of_ble_eq_true rfl)
  rw [lg_entry_eq]
  generalize (lg_sl ([.ref h, .int (iz ze), .long v]) ++ List.replicate (4 - (lg_sl ([.ref h, .int (iz ze), .long v])).length) Slot.unset).toArray = ls at hl ⊢

  have hl : lv_has ls 4 [(0, .ref h), (1, .int (iz ze)), (2, .long v)] := hl
  refine lv_aload_n hx hb d_M_level_0 rfl (lv_at hl 0 rfl) ?_
  refine lv_iload_n hx hb d_M_level_1 rfl (lv_at hl 1 rfl) ?_
  refine lv_lload_n hx hb d_M_level_2 rfl (lv_at hl 2 rfl) ?_
  refine rc_calli (va_runV (As := [.int (iz ze), .long v]) (rest := []) ⟨hx, hb, hml, hown, hts⟩ (m_M_findLevel l D cJ cI h cd od fc hd md lo lv tb rw bs mn nu tu F E ze v hz0 hz1) (cwV 2 hts (kb_gi (kb_c kw_664 (kb_c kw_666 (kb_c ks_M_findLevel (kb_c kw_5 (kb_c kw_667 kb_all)))))) rfl rfl rfl (by decide +kernel) ⟨Nat.le_of_ble_eq_true rfl, Nat.le_of_ble_eq_true rfl⟩) ⟨rc_blind, va_recv hK hP (ci := 3) (q0 := 0) rfl rfl, rc_pre hP hD hK hN [0, 1, 2] rfl rfl [0, 1] rfl⟩ rfl rfl hl.1 rfl (lv_room (Nat.le_of_ble_eq_true rfl)) d_M_level_3 ⟨Nat.zero_le _, Nat.zero_le _⟩) hP hD hS [0, 1, 2] rfl (fun _ => rfl) (fun r1 u2 H locs hw2 hP hD hS => ?_)
  rcases hw2 with ⟨hC, rfl, rfl⟩ | ⟨hC, rfl, rfl⟩
  · have hP : va_P D vC [(h, rM 0 od fc hd md lo (mtL (mtE F E ze v) ze) tb rw bs mn nu tu), (fc, k2 cJ 20 5 F), (lo, k2 cJ 20 5 (mtE F E ze v))] H := hP
    have hD : va_D A [(h, rM 0 od fc hd md lo (mtL (mtE F E ze v) ze) tb rw bs mn nu tu), (fc, k2 cJ 20 5 F), (lo, k2 cJ 20 5 (mtE F E ze v))] := hD
    refine rz_if_eq (tgt := 16) hx hb d_M_level_6 (by decide) (fun hc => absurd hc (by decide)) (fun _ => ?_)
    refine lv_aload_n hx hb d_M_level_9 rfl (lv_at hl 0 rfl) ?_
    refine va_get (D := D) (ci := 3) (v := .int (iz (mtL (mtE F E ze v) ze))) (C := R_M) (T := T_M) (N := 13) hx hb hts in_M hown hK hP 0 rfl rfl 6 (by decide) (hts _ kw_536) (fun _ h9 => h9) rfl d_M_level_10 ?_
    refine lv_goto (tgt := 17) hx hb d_M_level_13 (by decide) ?_
    exact W.iret hx hb hr (fun t ht hW => ⟨⟨_, (0, (mtL (mtE F E ze v) ze), (mtE F E ze v)), rfl, (Or.inl ⟨hC, rfl, rfl⟩), rc_out ht hP⟩, hS.F ht⟩) hS.2.2 d_M_level_17
  · have hP : va_P D vC [(h, rM 1 od fc hd md lo lv tb rw bs mn nu tu), (fc, k2 cJ 20 5 F), (lo, k2 cJ 20 5 E)] H := hP
    have hD : va_D A [(h, rM 1 od fc hd md lo lv tb rw bs mn nu tu), (fc, k2 cJ 20 5 F), (lo, k2 cJ 20 5 E)] := hD
    refine rz_if_eq (tgt := 16) hx hb d_M_level_6 (by decide) (fun _ => ?_) (fun hc => absurd hc (by decide))
    refine rz_iconst hx hb d_M_level_16 ?_
    exact W.iret hx hb hr (fun t ht hW => ⟨⟨_, (1, lv, E), rfl, (Or.inr ⟨hC, rfl, rfl⟩), rc_out ht hP⟩, hS.F ht⟩) hS.2.2 d_M_level_17
def ws_M_localAt : List Cond := .code y_M_localAt c_M_localAt 2 (some .long) :: kb
set_option maxHeartbeats 4000000 in
set_option maxRecDepth 100000 in
/-- localAt -/
theorem m_M_localAt (l : Launch) (D : va_G) (cJ cI : ClassId) (h : Nat) (cd od : Int) (fc hd md lo : Nat) (lv : Int) (tb rw bs : Nat) (mn : Int) (nu tu : Nat) (E : Nat → Nat → ro_K) (zi : Int) (i : Nat) (hzi : zi = (i : Int)) (hi : i ≤ 3) (hl0 : -100 ≤ lv) (hl1 : lv ≤ 100) : Met l y_M_localAt ws_M_localAt ({ frames := 1, cells := 0, slots := 0, locals := 25 }) (rc_Pc D vC [(cJ, .long), (cI, .int)] [.ref h, .int (iz zi)] [(h, rM cd od fc hd md lo lv tb rw bs mn nu tu), (lo, k2 cJ 20 5 E)]) (va_Ql (fun (q : Int64) (_ : Unit) => q = lk (oat E i (lv + zi))) (fun _ t => va_P D vC [(h, rM cd od fc hd md lo lv tb rw bs mn nu tu), (lo, k2 cJ 20 5 E)] t.heap) (rc_A [(h, rM cd od fc hd md lo lv tb rw bs mn nu tu), (lo, k2 cJ 20 5 E)])) 0 0 (rc_A [(h, rM cd od fc hd md lo lv tb rw bs mn nu tu), (lo, k2 cJ 20 5 E)]) := by
  refine Met.ofW (cc := c_M_localAt) (maxL := 2) (ret := (some .long)) (by decide) rfl ?_
  intro p e s m args below meth c s₁ B hml hv
  obtain ⟨rfl, hP, hK, hD0, hN⟩ := hv
  have hx := B.exec
  have hb := B.bytes
  have hr := B.returns
  have hts0 := atoms_spec (ws := ws_M_localAt) B.pre
  have hts : ∀ w ∈ kb, w.before _ s = true := fun w h => hts0 w (List.mem_cons_of_mem _ h)
  have hown : s.vm.findClass R_M = some m.cls := findClass_of_methodNamed B.named
  have hlocks := B.notSynchronized
  have hD := rc_self hD0
  generalize hAe : rc_A [(h, rM cd od fc hd md lo lv tb rw bs mn nu tu), (lo, k2 cJ 20 5 E)] = A at hD ⊢
  have hS : va_S A s.heap s.heap [] := va_S.rf
  have hl := lv_entry ([.ref h, .int (iz zi)]) (n := 2) (Nat.le_of_ble_eq_true rfl)
  rw [lg_entry_eq]
  generalize (lg_sl ([.ref h, .int (iz zi)]) ++ List.replicate (2 - (lg_sl ([.ref h, .int (iz zi)])).length) Slot.unset).toArray = ls at hl ⊢

  have hl : lv_has ls 2 [(0, .ref h), (1, .int (iz zi))] := hl
  refine lv_aload_n hx hb d_M_localAt_0 rfl (lv_at hl 0 rfl) ?_
  refine va_get (D := D) (ci := 3) (v := .int (iz lv)) (C := R_M) (T := T_M) (N := 13) hx hb hts in_M hown hK hP 0 rfl rfl 6 (by decide) (hts _ kw_536) (fun _ h9 => h9) rfl d_M_localAt_1 ?_
  refine lv_iload_n hx hb d_M_localAt_4 rfl (lv_at hl 1 rfl) ?_
  refine rz_iadd hx hb d_M_localAt_5 ?_
  refine lv_i2l hx hb d_M_localAt_6 rfl ?_
  refine lv_lconst (v := lk 0) hx hb d_M_localAt_7 rfl ?_
  refine lv_ldc2 (v := 4) hx hb hown (hts _ kw_585) d_M_localAt_8 ?_
  refine rc_calli (va_runS (As := [.long ((iz (lv + zi))).toInt64, .long (lk 0), .long 4]) (rest := []) ⟨hx, hb, hml, hown, hts⟩ (m_M_in l D ((iz (lv + zi))).toInt64 (lk 0) 4 (lv + zi) 0 4 (lx_iz (by omega) (by omega)) (by show Int64.toInt _ = _; decide) (by show Int64.toInt _ = _; decide)) (cwS 3 hts (kb_gi (kb_c kw_582 (kb_c kw_583 (kb_c kw_5 (kb_c kw_584 kb_all))))) rfl rfl rfl (by decide +kernel) ⟨Nat.le_of_ble_eq_true rfl, Nat.le_of_ble_eq_true rfl⟩) ⟨rc_blind, rc_pre hP hD hK hN [] rfl rfl [] rfl⟩ rfl rfl hl.1 rfl (lv_room (Nat.le_of_ble_eq_true rfl)) d_M_localAt_11 ⟨Nat.zero_le _, Nat.zero_le _⟩) hP hD hS [] rfl (fun _ => rfl) (fun r1 u2 H locs hw2 hP hD hS => ?_)
  subst hw2
  have hP : va_P D vC [(h, rM cd od fc hd md lo lv tb rw bs mn nu tu), (lo, k2 cJ 20 5 E)] H := hP
  have hD : va_D A [(h, rM cd od fc hd md lo lv tb rw bs mn nu tu), (lo, k2 cJ 20 5 E)] := hD
  refine rb_if_eq (tgt := 35) hx hb d_M_localAt_14 (by decide) (fun hc3 => ?_) (fun hc3 => ?_)
  · refine lv_lconst (v := lk 0) hx hb d_M_localAt_35 rfl ?_
    exact W.lret hx hb hr (fun t ht hW => ⟨⟨_, (), rfl, (by unfold oat; rw [if_neg (by omega)]), rc_out ht hP⟩, hS.F ht⟩) hS.2.2 d_M_localAt_36
  · refine lv_aload_n hx hb d_M_localAt_17 rfl (lv_at hl 0 rfl) ?_
    refine va_get (D := D) (ci := 3) (v := .ref lo) (C := R_M) (T := T_M) (N := 13) hx hb hts in_M hown hK hP 0 rfl rfl 5 (by decide) (hts _ kw_535) (fun _ h9 => h9) rfl d_M_localAt_18 ?_
    refine rz_iconst hx hb d_M_localAt_21 ?_
    refine lv_iload_n hx hb d_M_localAt_22 rfl (lv_at hl 1 rfl) ?_
    refine rz_imul hx hb d_M_localAt_23 ?_
    refine lv_aload_n hx hb d_M_localAt_24 rfl (lv_at hl 0 rfl) ?_
    refine va_get (D := D) (ci := 3) (v := .int (iz lv)) (C := R_M) (T := T_M) (N := 13) hx hb hts in_M hown hK hP 0 rfl rfl 6 (by decide) (hts _ kw_536) (fun _ h9 => h9) rfl d_M_localAt_25 ?_
    refine rz_iadd hx hb d_M_localAt_28 ?_
    refine lv_iload_n hx hb d_M_localAt_29 rfl (lv_at hl 1 rfl) ?_
    refine rz_iadd hx hb d_M_localAt_30 ?_
    refine rm_ld hx hb hK hP 1 0 rfl rfl i (lv + zi).toNat d_M_localAt_31 ?_
    refine lv_goto (tgt := 36) hx hb d_M_localAt_32 (by decide) ?_
    exact W.lret hx hb hr (fun t ht hW => ⟨⟨_, (), rfl, (by unfold oat; rw [if_pos (by omega)]), rc_out ht hP⟩, hS.F ht⟩) hS.2.2 d_M_localAt_36
def ws_M_regular : List Cond := .code y_M_regular c_M_regular 4 (some .boolean) :: kb
set_option maxHeartbeats 4000000 in
set_option maxRecDepth 100000 in
/-- regular -/
theorem m_M_regular (l : Launch) (D : va_G) (cJ cI : ClassId) (h : Nat) (cd od : Int) (fc hd md lo : Nat) (lv : Int) (tb rw bs : Nat) (mn : Int) (nu tu : Nat) (F E : Nat → Nat → ro_K) (ze : Int) (v : Int64) (o : Nat) (hod : od = (o : Int)) (ho3 : o ≤ 3) (hz0 : 0 ≤ ze) (hz1 : ze ≤ 1) : Met l y_M_regular ws_M_regular ({ frames := 2, cells := 0, slots := 0, locals := 51 }) (rc_Pc D vC [(cJ, .long), (cI, .int)] [.ref h, .int (iz ze), .long v] [(h, rM cd od fc hd md lo lv tb rw bs mn nu tu), (fc, k2 cJ 20 5 F), (lo, k2 cJ 20 5 E)]) (va_Qi (fun (q : Int32) (u : Int × Int × (Nat → Nat → ro_K)) => (¬ azN (fl 5 F) 20 ∧ u = (0, (mtL (mtE F E ze v) ze), (mtE F E ze v)) ∧ q = if oat (mtE F E ze v) o ((mtL (mtE F E ze v) ze) + (o : Int)) = 0 then iz 0 else iz 1) ∨ (azN (fl 5 F) 20 ∧ u = (1, lv, E) ∧ q = iz 0)) (fun u t => va_P D vC [(h, rM u.1 od fc hd md lo u.2.1 tb rw bs mn nu tu), (fc, k2 cJ 20 5 F), (lo, k2 cJ 20 5 u.2.2)] t.heap) (rc_A [(h, rM cd od fc hd md lo lv tb rw bs mn nu tu), (fc, k2 cJ 20 5 F), (lo, k2 cJ 20 5 E)])) 0 0 (rc_A [(h, rM cd od fc hd md lo lv tb rw bs mn nu tu), (fc, k2 cJ 20 5 F), (lo, k2 cJ 20 5 E)]) := by
  refine Met.ofW (cc := c_M_regular) (maxL := 4) (ret := (some .boolean)) (by decide) rfl ?_
  intro p e s m args below meth c s₁ B hml hv
  obtain ⟨rfl, hP, hK, hD0, hN⟩ := hv
  have hx := B.exec
  have hb := B.bytes
  have hr := B.returns
  have hts0 := atoms_spec (ws := ws_M_regular) B.pre
  have hts : ∀ w ∈ kb, w.before _ s = true := fun w h => hts0 w (List.mem_cons_of_mem _ h)
  have hown : s.vm.findClass R_M = some m.cls := findClass_of_methodNamed B.named
  have hlocks := B.notSynchronized
  have hD := rc_self hD0
  generalize hAe : rc_A [(h, rM cd od fc hd md lo lv tb rw bs mn nu tu), (fc, k2 cJ 20 5 F), (lo, k2 cJ 20 5 E)] = A at hD ⊢
  have hS : va_S A s.heap s.heap [] := va_S.rf
  have hl := lv_entry ([.ref h, .int (iz ze), .long v]) (n := 4) (Nat.le_of_ble_eq_true rfl)
  rw [lg_entry_eq]
  generalize (lg_sl ([.ref h, .int (iz ze), .long v]) ++ List.replicate (4 - (lg_sl ([.ref h, .int (iz ze), .long v])).length) Slot.unset).toArray = ls at hl ⊢

  have hl : lv_has ls 4 [(0, .ref h), (1, .int (iz ze)), (2, .long v)] := hl
  have hmt := mtL_in (mtE F E ze v) ze
  refine lv_aload_n hx hb d_M_regular_0 rfl (lv_at hl 0 rfl) ?_
  refine lv_iload_n hx hb d_M_regular_1 rfl (lv_at hl 1 rfl) ?_
  refine lv_lload_n hx hb d_M_regular_2 rfl (lv_at hl 2 rfl) ?_
  refine rc_calli (va_runV (As := [.int (iz ze), .long v]) (rest := []) ⟨hx, hb, hml, hown, hts⟩ (m_M_findLevel l D cJ cI h cd od fc hd md lo lv tb rw bs mn nu tu F E ze v hz0 hz1) (cwV 2 hts (kb_gi (kb_c kw_664 (kb_c kw_666 (kb_c ks_M_findLevel (kb_c kw_5 (kb_c kw_667 kb_all)))))) rfl rfl rfl (by decide +kernel) ⟨Nat.le_of_ble_eq_true rfl, Nat.le_of_ble_eq_true rfl⟩) ⟨rc_blind, va_recv hK hP (ci := 3) (q0 := 0) rfl rfl, rc_pre hP hD hK hN [0, 1, 2] rfl rfl [0, 1] rfl⟩ rfl rfl hl.1 rfl (lv_room (Nat.le_of_ble_eq_true rfl)) d_M_regular_3 ⟨Nat.zero_le _, Nat.zero_le _⟩) hP hD hS [0, 1, 2] rfl (fun _ => rfl) (fun r1 u2 H locs hw2 hP hD hS => ?_)
  rcases hw2 with ⟨hC, rfl, rfl⟩ | ⟨hC, rfl, rfl⟩
  · have hP : va_P D vC [(h, rM 0 od fc hd md lo (mtL (mtE F E ze v) ze) tb rw bs mn nu tu), (fc, k2 cJ 20 5 F), (lo, k2 cJ 20 5 (mtE F E ze v))] H := hP
    have hD : va_D A [(h, rM 0 od fc hd md lo (mtL (mtE F E ze v) ze) tb rw bs mn nu tu), (fc, k2 cJ 20 5 F), (lo, k2 cJ 20 5 (mtE F E ze v))] := hD
    refine rz_if_eq (tgt := 26) hx hb d_M_regular_6 (by decide) (fun hc => absurd hc (by decide)) (fun _ => ?_)
    refine lv_aload_n hx hb d_M_regular_9 rfl (lv_at hl 0 rfl) ?_
    refine lv_aload_n hx hb d_M_regular_10 rfl (lv_at hl 0 rfl) ?_
    refine va_get (D := D) (ci := 3) (v := .int (iz od)) (C := R_M) (T := T_M) (N := 13) hx hb hts in_M hown hK hP 0 rfl rfl 1 (by decide) (hts _ kw_531) (fun _ h9 => h9) rfl d_M_regular_11 ?_
    refine rc_calll (va_runV (As := [.int (iz od)]) (rest := []) ⟨hx, hb, hml, hown, hts⟩ (m_M_localAt l D cJ cI h 0 od fc hd md lo (mtL (mtE F E ze v) ze) tb rw bs mn nu tu (mtE F E ze v) od o hod (by omega) (by omega) (by omega)) (cwV 1 hts (kb_gi (kb_c kw_672 (kb_c kw_674 (kb_c ks_M_localAt (kb_c kw_5 (kb_c kw_675 kb_all)))))) rfl rfl rfl (by decide +kernel) ⟨Nat.le_of_ble_eq_true rfl, Nat.le_of_ble_eq_true rfl⟩) ⟨rc_blind, va_recv hK hP (ci := 3) (q0 := 0) rfl rfl, rc_pre hP hD hK hN [0, 2] rfl rfl [0, 1] rfl⟩ rfl rfl hl.1 rfl (lv_room (Nat.le_of_ble_eq_true rfl)) d_M_regular_14 ⟨Nat.zero_le _, Nat.zero_le _⟩) hP hD hS [0, 2] rfl (fun _ => rfl) (fun r3 u4 H locs hw4 hP hD hS => ?_)
    subst hw4
    have hP : va_P D vC [(h, rM 0 od fc hd md lo (mtL (mtE F E ze v) ze) tb rw bs mn nu tu), (fc, k2 cJ 20 5 F), (lo, k2 cJ 20 5 (mtE F E ze v))] H := hP
    have hD : va_D A [(h, rM 0 od fc hd md lo (mtL (mtE F E ze v) ze) tb rw bs mn nu tu), (fc, k2 cJ 20 5 F), (lo, k2 cJ 20 5 (mtE F E ze v))] := hD
    refine lv_lconst (v := lk 0) hx hb d_M_regular_17 rfl ?_
    refine rz_lcmp_eq (tgt := 26) hx hb d_M_regular_18 d_M_regular_19 (by decide) (fun hc5 => ?_) (fun hc5 => ?_)
    · have hc5 : (oat (mtE F E ze v) o ((mtL (mtE F E ze v) ze) + od)) = 0 := lk_inj.mp hc5
      refine rz_iconst hx hb d_M_regular_26 ?_
      exact W.zret hx hb hr rfl (fun t ht hW => ⟨⟨_, (0, (mtL (mtE F E ze v) ze), (mtE F E ze v)), rfl, (Or.inl ⟨hC, rfl, by subst hod; rw [if_pos (by assumption)]⟩), rc_out ht hP⟩, hS.F ht⟩) hS.2.2 d_M_regular_27
    · have hc5 : (oat (mtE F E ze v) o ((mtL (mtE F E ze v) ze) + od)) ≠ 0 := fun z => hc5 (lk_inj.mpr z)
      refine rz_iconst hx hb d_M_regular_22 ?_
      refine lv_goto (tgt := 27) hx hb d_M_regular_23 (by decide) ?_
      exact W.zret hx hb hr rfl (fun t ht hW => ⟨⟨_, (0, (mtL (mtE F E ze v) ze), (mtE F E ze v)), rfl, (Or.inl ⟨hC, rfl, by subst hod; rw [if_neg (by assumption)]⟩), rc_out ht hP⟩, hS.F ht⟩) hS.2.2 d_M_regular_27
  · have hP : va_P D vC [(h, rM 1 od fc hd md lo lv tb rw bs mn nu tu), (fc, k2 cJ 20 5 F), (lo, k2 cJ 20 5 E)] H := hP
    have hD : va_D A [(h, rM 1 od fc hd md lo lv tb rw bs mn nu tu), (fc, k2 cJ 20 5 F), (lo, k2 cJ 20 5 E)] := hD
    refine rz_if_eq (tgt := 26) hx hb d_M_regular_6 (by decide) (fun _ => ?_) (fun hc => absurd hc (by decide))
    refine rz_iconst hx hb d_M_regular_26 ?_
    exact W.zret hx hb hr rfl (fun t ht hW => ⟨⟨_, (1, lv, E), rfl, (Or.inr ⟨hC, rfl, rfl⟩), rc_out ht hP⟩, hS.F ht⟩) hS.2.2 d_M_regular_27
set_option maxHeartbeats 4000000 in
set_option maxRecDepth 100000 in
theorem li_M_exponent {cJ cI : ClassId} {h : Nat} {cd od : Int} {fc hd md lo : Nat} {tb rw bs : Nat} {mn : Int} {nu tu : Nat} {o : Nat} (hod : od = (o : Int)) (ho3 : o ≤ 3) {F E : Nat → Nat → ro_K} {g zn zs zk : Int} {x : Nat} (hzs : zs = (x : Int)) (hx3 : x < 32003) (hg0 : -9 ≤ g) (hg1 : g ≤ 9) (hx : p.tables.exec = Jvm.exec) (hb : c.code = c_M_exponent) (hml : c.maxLocals = 10) (hown : s.vm.findClass R_M = some m.cls) (hts : ∀ w ∈ kb, w.before args s = true) (hK : va_K D vC [(cJ, .long), (cI, .int)] s) (hN : rc_N s) (hR : 2 ≤ R.frames ∧ 51 ≤ R.locals) (hend : ∀ (H : Heap) (locs : List Loc) (ls : Array Slot), va_P D vC [(h, rM cd od fc hd md lo g tb rw bs mn nu tu), (fc, k2 cJ 20 5 F), (lo, k2 cJ 20 5 E)] H → va_D A [(h, rM cd od fc hd md lo g tb rw bs mn nu tu), (fc, k2 cJ 20 5 F), (lo, k2 cJ 20 5 E)] → va_S A H0 H locs → lv_has ls 10 [(7, .long (lk (exS E g x (o + 1)))), (5, .int (iz zn)), (6, .int (iz zs)), (0, .ref h), (4, .int (iz zk))] → W p l e R s m args below meth c H locs 0 0 Q (F0 m 75 ls [])) : ∀ (q k : Nat) (z : Int) (H : Heap) (locs : List Loc) (ls : Array Slot), z = (k : Int) → k + q = o + 1 → va_P D vC [(h, rM cd od fc hd md lo g tb rw bs mn nu tu), (fc, k2 cJ 20 5 F), (lo, k2 cJ 20 5 E)] H → va_D A [(h, rM cd od fc hd md lo g tb rw bs mn nu tu), (fc, k2 cJ 20 5 F), (lo, k2 cJ 20 5 E)] → va_S A H0 H locs → lv_has ls 10 [(9, .int (iz z)), (7, .long (lk (exS E g x k))), (5, .int (iz zn)), (6, .int (iz zs)), (0, .ref h), (4, .int (iz zk))] → W p l e R s m args below meth c H locs 0 0 Q (F0 m 36 ls []) := by
  intro q
  induction q with
  | zero =>
    intro k z H locs ls hz hk hP hD hS hl
    have e : k = o + 1 := hk
    subst e
    refine lv_iload hx hb d_M_exponent_36 (lv_at hl 0 rfl) ?_
    refine lv_aload_n hx hb d_M_exponent_38 rfl (lv_at hl 4 rfl) ?_
    refine va_get (D := D) (ci := 3) (v := .int (iz od)) (C := R_M) (T := T_M) (N := 13) hx hb hts in_M hown hK hP 0 rfl rfl 1 (by decide) (hts _ kw_531) (fun _ h9 => h9) rfl d_M_exponent_39 ?_
    refine rz_icmp_gt (tgt := 75) hx hb d_M_exponent_42 (by decide) (fun hc1 => ?_) (fun hc1 => ?_)
    · exact hend H locs ls hP hD hS (lv_sub hl [1, 2, 3, 4, 5] rfl)
    · omega
  | succ q ih =>
    intro k z H locs ls hz hk hP hD hS hl
    subst hz
    subst hzs
    have hs1 : exS E g x (k + 1) = exS E g x k + oat E k (g + (k : Int)) * ro_k (ffz (x : Int) k) := rfl
    refine lv_iload hx hb d_M_exponent_36 (lv_at hl 0 rfl) ?_
    refine lv_aload_n hx hb d_M_exponent_38 rfl (lv_at hl 4 rfl) ?_
    refine va_get (D := D) (ci := 3) (v := .int (iz od)) (C := R_M) (T := T_M) (N := 13) hx hb hts in_M hown hK hP 0 rfl rfl 1 (by decide) (hts _ kw_531) (fun _ h9 => h9) rfl d_M_exponent_39 ?_
    refine rz_icmp_gt (tgt := 75) hx hb d_M_exponent_42 (by decide) (fun hc2 => ?_) (fun hc2 => ?_)
    · omega
    · refine lv_lload hx hb d_M_exponent_45 (lv_at hl 1 rfl) ?_
      refine lv_aload_n hx hb d_M_exponent_47 rfl (lv_at hl 4 rfl) ?_
      refine lv_iload hx hb d_M_exponent_48 (lv_at hl 0 rfl) ?_
      refine rc_calll (va_runV (As := [.int (iz (k : Int))]) (rest := [.long (lk (exS E g x k))]) ⟨hx, hb, hml, hown, hts⟩ (m_M_localAt l D cJ cI h cd od fc hd md lo g tb rw bs mn nu tu E (k : Int) k rfl (by omega) (by omega) (by omega)) (cwV 1 hts (kb_gi (kb_c kw_672 (kb_c kw_674 (kb_c ks_M_localAt (kb_c kw_5 (kb_c kw_675 kb_all)))))) rfl rfl rfl (by decide +kernel) ⟨Nat.le_trans (by decide) hR.1, Nat.le_trans (by decide) hR.2⟩) ⟨rc_blind, va_recv hK hP (ci := 3) (q0 := 0) rfl rfl, rc_pre hP hD hK hN [0, 2] rfl rfl [0, 1] rfl⟩ rfl rfl hl.1 rfl (lv_room (Nat.le_of_ble_eq_true rfl)) d_M_exponent_50 ⟨Nat.zero_le _, Nat.zero_le _⟩) hP hD hS [0, 2] rfl (fun _ => rfl) (fun r3 u4 H locs hw4 hP hD hS => ?_)
      subst hw4
      have hP : va_P D vC [(h, rM cd od fc hd md lo g tb rw bs mn nu tu), (fc, k2 cJ 20 5 F), (lo, k2 cJ 20 5 E)] H := hP
      have hD : va_D A [(h, rM cd od fc hd md lo g tb rw bs mn nu tu), (fc, k2 cJ 20 5 F), (lo, k2 cJ 20 5 E)] := hD
      refine lv_iload hx hb d_M_exponent_53 (lv_at hl 3 rfl) ?_
      refine lv_i2l hx hb d_M_exponent_55 rfl ?_
      refine lv_iload hx hb d_M_exponent_56 (lv_at hl 0 rfl) ?_
      refine rc_calll (va_runS (As := [.long ((iz (x : Int))).toInt64, .int (iz (k : Int))]) (rest := [.long (lk (oat E k (g + (k : Int)))), .long (lk (exS E g x k))]) ⟨hx, hb, hml, hown, hts⟩ (m_M_falling l D ((iz (x : Int))).toInt64 (x : Int) (k : Int) k (lx_iz (by omega) (by omega)) (by omega) (by omega) (by omega) (by omega)) (cwS 2 hts (kb_gi (kb_c kw_611 (kb_c kw_612 (kb_c kw_5 (kb_c kw_613 kb_all))))) rfl rfl rfl (by decide +kernel) ⟨Nat.le_trans (by decide) hR.1, Nat.le_trans (by decide) hR.2⟩) ⟨rc_blind, rc_pre hP hD hK hN [] rfl rfl [] rfl⟩ rfl rfl hl.1 rfl (lv_room (Nat.le_of_ble_eq_true rfl)) d_M_exponent_58 ⟨Nat.zero_le _, Nat.zero_le _⟩) hP hD hS [] rfl (fun _ => rfl) (fun r5 u6 H locs hw6 hP hD hS => ?_)
      subst hw6
      have hP : va_P D vC [(h, rM cd od fc hd md lo g tb rw bs mn nu tu), (fc, k2 cJ 20 5 F), (lo, k2 cJ 20 5 E)] H := hP
      have hD : va_D A [(h, rM cd od fc hd md lo g tb rw bs mn nu tu), (fc, k2 cJ 20 5 F), (lo, k2 cJ 20 5 E)] := hD
      refine rlp_lmul hx hb 1024128004 (lk_p (oat E k (g + (k : Int)))) (lk_p (ro_k (ffz (x : Int) k))) d_M_exponent_61 (fun v7 hv7 => ?_)
      refine rlp_ladd hx hb 1024160006 (lk_p (exS E g x k)) hv7 d_M_exponent_62 (fun v8 hv8 => ?_)
      refine lv_ldc2 (v := 32003) hx hb hown (hts _ kw_589) d_M_exponent_63 ?_
      refine rlp_lrem hx hb hv8 d_M_exponent_66 ?_
      refine lv_lstore (lv' := [(7, .long (lk ((exS E g x k) + ((oat E k (g + (k : Int))) * (ro_k (ffz (x : Int) k)))))), (9, .int (iz (k : Int))), (5, .int (iz zn)), (6, .int (iz (x : Int))), (0, .ref h), (4, .int (iz zk))]) hx hb d_M_exponent_67 hl (by decide) rfl (fun ls hl => ?_)
      refine lv_iinc (v := iz ((k : Int) + 1)) (lv' := [(9, .int (iz ((k : Int) + 1))), (7, .long (lk ((exS E g x k) + ((oat E k (g + (k : Int))) * (ro_k (ffz (x : Int) k)))))), (5, .int (iz zn)), (6, .int (iz (x : Int))), (0, .ref h), (4, .int (iz zk))]) hx hb d_M_exponent_69 hl (k := 1) rfl (iz_add _ _) (by decide) rfl (fun ls hl => ?_)
      refine lv_goto (tgt := 36) hx hb d_M_exponent_72 (by decide) ?_
      exact ih (k + 1) _ H locs ls (by omega) (by omega) hP hD hS (lv_sub hl [0, 1, 2, 3, 4, 5] rfl)
set_option maxHeartbeats 4000000 in
set_option maxRecDepth 100000 in
theorem lo_M_exponent {cJ cI : ClassId} {h : Nat} {cd od : Int} {fc hd md lo : Nat} {tb rw bs : Nat} {mn : Int} {nu tu : Nat} {o : Nat} (hod : od = (o : Int)) (ho3 : o ≤ 3) {F E : Nat → Nat → ro_K} {g zk : Int} (hg0 : -9 ≤ g) (hg1 : g ≤ 9) (hk0 : 0 ≤ zk) (hkh : zk < 2147483648) (hx : p.tables.exec = Jvm.exec) (hb : c.code = c_M_exponent) (hml : c.maxLocals = 10) (hown : s.vm.findClass R_M = some m.cls) (hts : ∀ w ∈ kb, w.before args s = true) (hK : va_K D vC [(cJ, .long), (cI, .int)] s) (hN : rc_N s) (hR : 2 ≤ R.frames ∧ 51 ≤ R.locals) (he1 : ∀ (x : Nat) (H : Heap) (locs : List Loc) (ls : Array Slot), x < 32003 → exS E g x (o + 1) = 0 → (cntZ (fun x => exS E g x (o + 1)) x : Int) = zk → va_P D vC [(h, rM cd od fc hd md lo g tb rw bs mn nu tu), (fc, k2 cJ 20 5 F), (lo, k2 cJ 20 5 E)] H → va_D A [(h, rM cd od fc hd md lo g tb rw bs mn nu tu), (fc, k2 cJ 20 5 F), (lo, k2 cJ 20 5 E)] → va_S A H0 H locs → lv_has ls 10 [(6, .int (iz (x : Int)))] → W p l e R s m args below meth c H locs 0 0 Q (F0 m 92 ls [])) (he2 : ∀ (H : Heap) (locs : List Loc) (ls : Array Slot), (∀ x : Nat, x < 32003 → exS E g x (o + 1) = 0 → (cntZ (fun x => exS E g x (o + 1)) x : Int) ≠ zk) → va_P D vC [(h, rM cd od fc hd md lo g tb rw bs mn nu tu), (fc, k2 cJ 20 5 F), (lo, k2 cJ 20 5 E)] H → va_D A [(h, rM cd od fc hd md lo g tb rw bs mn nu tu), (fc, k2 cJ 20 5 F), (lo, k2 cJ 20 5 E)] → va_S A H0 H locs → W p l e R s m args below meth c H locs 0 0 Q (F0 m 104 ls [])) : ∀ (q x : Nat) (z zn : Int) (H : Heap) (locs : List Loc) (ls : Array Slot), z = (x : Int) → zn = (cntZ (fun x => exS E g x (o + 1)) x : Int) → x + q = 32003 → (∀ y : Nat, y < x → exS E g y (o + 1) = 0 → (cntZ (fun x => exS E g x (o + 1)) y : Int) ≠ zk) → va_P D vC [(h, rM cd od fc hd md lo g tb rw bs mn nu tu), (fc, k2 cJ 20 5 F), (lo, k2 cJ 20 5 E)] H → va_D A [(h, rM cd od fc hd md lo g tb rw bs mn nu tu), (fc, k2 cJ 20 5 F), (lo, k2 cJ 20 5 E)] → va_S A H0 H locs → lv_has ls 10 [(6, .int (iz z)), (5, .int (iz zn)), (0, .ref h), (4, .int (iz zk))] → W p l e R s m args below meth c H locs 0 0 Q (F0 m 17 ls []) := by
  intro q
  induction q with
  | zero =>
    intro x z zn H locs ls hz hzn hx3 hno hP hD hS hl
    have e : x = 32003 := hx3
    subst e
    refine lv_iload hx hb d_M_exponent_17 (lv_at hl 0 rfl) ?_
    refine rz_sipush hx hb d_M_exponent_19 (by decide) ?_
    refine rz_icmp_ge (tgt := 104) hx hb d_M_exponent_22 (by decide) (fun hc1 => ?_) (fun hc1 => ?_)
    · exact he2 H locs ls hno hP hD hS
    · omega
  | succ q ih =>
    intro x z zn H locs ls hz hzn hx3 hno hP hD hS hl
    subst hz
    subst hzn
    have hcl := cntZ_le (fun x => exS E g x (o + 1)) x
    have hs1 : cntZ (fun x => exS E g x (o + 1)) (x + 1) = if exS E g x (o + 1) = 0 then cntZ (fun x => exS E g x (o + 1)) x + 1 else cntZ (fun x => exS E g x (o + 1)) x := rfl
    generalize hcn : cntZ (fun x => exS E g x (o + 1)) x = cn at hl hcl hs1
    refine lv_iload hx hb d_M_exponent_17 (lv_at hl 0 rfl) ?_
    refine rz_sipush hx hb d_M_exponent_19 (by decide) ?_
    refine rz_icmp_ge (tgt := 104) hx hb d_M_exponent_22 (by decide) (fun hc2 => ?_) (fun hc2 => ?_)
    · omega
    · refine lv_iload hx hb d_M_exponent_25 (lv_at hl 3 rfl) ?_
      refine rz_if_lt (tgt := 104) hx hb d_M_exponent_27 (by decide) (fun hc3 => ?_) (fun hc3 => ?_)
      · omega
      · refine lv_lconst (v := lk 0) hx hb d_M_exponent_30 rfl ?_
        refine lv_lstore (lv' := [(7, .long (lk 0)), (6, .int (iz (x : Int))), (5, .int (iz (cn : Int))), (0, .ref h), (4, .int (iz zk))]) hx hb d_M_exponent_31 hl (by decide) rfl (fun ls hl => ?_)
        refine rz_iconst hx hb d_M_exponent_33 ?_
        refine lv_istore (lv' := [(9, .int (iz 0)), (7, .long (lk 0)), (6, .int (iz (x : Int))), (5, .int (iz (cn : Int))), (0, .ref h), (4, .int (iz zk))]) hx hb d_M_exponent_34 hl (by decide) rfl (fun ls hl => ?_)
        refine li_M_exponent (F := F) (E := E) (g := g) (x := x) hod ho3 rfl (by omega) hg0 hg1 hx hb hml hown hts hK hN hR (fun H locs ls hP hD hS hl => ?_) (o + 1) 0 _ H locs ls rfl (by omega) hP hD hS (lv_sub hl [0, 1, 3, 2, 4, 5] rfl)
        refine lv_lload hx hb d_M_exponent_75 (lv_at hl 0 rfl) ?_
        refine lv_lconst (v := lk 0) hx hb d_M_exponent_77 rfl ?_
        refine rz_lcmp_eq (tgt := 85) hx hb d_M_exponent_78 d_M_exponent_79 (by decide) (fun hc4 => ?_) (fun hc4 => ?_)
        · have hc4 : (exS E g x (o + 1)) = 0 := lk_inj.mp hc4
          refine lv_iload hx hb d_M_exponent_85 (lv_at hl 1 rfl) ?_
          refine lv_iload hx hb d_M_exponent_87 (lv_at hl 4 rfl) ?_
          refine rz_icmp_ne (tgt := 95) hx hb d_M_exponent_89 (by decide) (fun hc5 => ?_) (fun hc5 => ?_)
          · refine lv_iinc (v := iz ((cn : Int) + 1)) (lv' := [(5, .int (iz ((cn : Int) + 1))), (7, .long (lk (exS E g x (o + 1)))), (6, .int (iz (x : Int))), (0, .ref h), (4, .int (iz zk))]) hx hb d_M_exponent_95 hl (k := 1) rfl (iz_add _ _) (by decide) rfl (fun ls hl => ?_)
            refine lv_iinc (v := iz ((x : Int) + 1)) (lv' := [(6, .int (iz ((x : Int) + 1))), (5, .int (iz ((cn : Int) + 1))), (7, .long (lk (exS E g x (o + 1)))), (0, .ref h), (4, .int (iz zk))]) hx hb d_M_exponent_98 hl (k := 2) rfl (iz_add _ _) (by decide) rfl (fun ls hl => ?_)
            refine lv_goto (tgt := 17) hx hb d_M_exponent_101 (by decide) ?_
            refine ih (x + 1) _ _ H locs ls (by omega) (by rw [hs1, if_pos (by assumption)]; omega) (by omega) (fun y hy hr => ?_) hP hD hS (lv_sub hl [0, 1, 3, 4] rfl)
            by_cases e : y = x
            · subst e; rw [hcn]; assumption
            · exact hno y (by omega) hr
          · exact he1 x H locs ls (by omega) (by assumption) (by rw [hcn]; assumption) hP hD hS (lv_sub hl [2] rfl)
        · have hc4 : (exS E g x (o + 1)) ≠ 0 := fun z => hc4 (lk_inj.mpr z)
          refine lv_goto (tgt := 98) hx hb d_M_exponent_82 (by decide) ?_
          refine lv_iinc (v := iz ((x : Int) + 1)) (lv' := [(6, .int (iz ((x : Int) + 1))), (7, .long (lk (exS E g x (o + 1)))), (5, .int (iz (cn : Int))), (0, .ref h), (4, .int (iz zk))]) hx hb d_M_exponent_98 hl (k := 2) rfl (iz_add _ _) (by decide) rfl (fun ls hl => ?_)
          refine lv_goto (tgt := 17) hx hb d_M_exponent_101 (by decide) ?_
          refine ih (x + 1) _ _ H locs ls (by omega) (by rw [hs1, if_neg (by assumption)]) (by omega) (fun y hy hr => ?_) hP hD hS (lv_sub hl [0, 2, 3, 4] rfl)
          by_cases e : y = x
          · subst e; exact absurd hr (by assumption)
          · exact hno y (by omega) hr
def ws_M_exponent : List Cond := .code y_M_exponent c_M_exponent 10 (some .int) :: kb
set_option maxHeartbeats 4000000 in
set_option maxRecDepth 100000 in
/-- exponent -/
theorem m_M_exponent (l : Launch) (D : va_G) (cJ cI : ClassId) (h : Nat) (cd od : Int) (fc hd md lo : Nat) (lv : Int) (tb rw bs : Nat) (mn : Int) (nu tu : Nat) (F E : Nat → Nat → ro_K) (ze : Int) (v : Int64) (zk : Int) (o : Nat) (hod : od = (o : Int)) (ho3 : o ≤ 3) (hzkl : -2147483648 ≤ zk) (hzkh : zk < 2147483648) (hz0 : 0 ≤ ze) (hz1 : ze ≤ 1) : Met l y_M_exponent ws_M_exponent ({ frames := 2, cells := 0, slots := 0, locals := 51 }) (rc_Pc D vC [(cJ, .long), (cI, .int)] [.ref h, .int (iz ze), .long v, .int (iz zk)] [(h, rM cd od fc hd md lo lv tb rw bs mn nu tu), (fc, k2 cJ 20 5 F), (lo, k2 cJ 20 5 E)]) (va_Qi (fun (q : Int32) (u : Int × Int × (Nat → Nat → ro_K)) => (¬ azN (fl 5 F) 20 ∧ u = (0, (mtL (mtE F E ze v) ze), (mtE F E ze v)) ∧ ((∃ x : Nat, x < 32003 ∧ exS (mtE F E ze v) (mtL (mtE F E ze v) ze) x (o + 1) = 0 ∧ (cntZ (fun x => exS (mtE F E ze v) (mtL (mtE F E ze v) ze) x (o + 1)) x : Int) = zk ∧ q = iz (x : Int)) ∨ ((zk < 0 ∨ ∀ x : Nat, x < 32003 → exS (mtE F E ze v) (mtL (mtE F E ze v) ze) x (o + 1) = 0 → (cntZ (fun x => exS (mtE F E ze v) (mtL (mtE F E ze v) ze) x (o + 1)) x : Int) ≠ zk) ∧ q = iz (-1)))) ∨ (azN (fl 5 F) 20 ∧ u = (1, lv, E) ∧ q = iz 0)) (fun u t => va_P D vC [(h, rM u.1 od fc hd md lo u.2.1 tb rw bs mn nu tu), (fc, k2 cJ 20 5 F), (lo, k2 cJ 20 5 u.2.2)] t.heap) (rc_A [(h, rM cd od fc hd md lo lv tb rw bs mn nu tu), (fc, k2 cJ 20 5 F), (lo, k2 cJ 20 5 E)])) 0 0 (rc_A [(h, rM cd od fc hd md lo lv tb rw bs mn nu tu), (fc, k2 cJ 20 5 F), (lo, k2 cJ 20 5 E)]) := by
  refine Met.ofW (cc := c_M_exponent) (maxL := 10) (ret := (some .int)) (by decide) rfl ?_
  intro p e s m args below meth c s₁ B hml hv
  obtain ⟨rfl, hP, hK, hD0, hN⟩ := hv
  have hx := B.exec
  have hb := B.bytes
  have hr := B.returns
  have hts0 := atoms_spec (ws := ws_M_exponent) B.pre
  have hts : ∀ w ∈ kb, w.before _ s = true := fun w h => hts0 w (List.mem_cons_of_mem _ h)
  have hown : s.vm.findClass R_M = some m.cls := findClass_of_methodNamed B.named
  have hlocks := B.notSynchronized
  have hD := rc_self hD0
  generalize hAe : rc_A [(h, rM cd od fc hd md lo lv tb rw bs mn nu tu), (fc, k2 cJ 20 5 F), (lo, k2 cJ 20 5 E)] = A at hD ⊢
  have hS : va_S A s.heap s.heap [] := va_S.rf
  have hl := lv_entry ([.ref h, .int (iz ze), .long v, .int (iz zk)]) (n := 10) (Nat.le_of_ble_eq_true rfl)
  rw [lg_entry_eq]
  generalize (lg_sl ([.ref h, .int (iz ze), .long v, .int (iz zk)]) ++ List.replicate (10 - (lg_sl ([.ref h, .int (iz ze), .long v, .int (iz zk)])).length) Slot.unset).toArray = ls at hl ⊢

  have hl : lv_has ls 10 [(0, .ref h), (1, .int (iz ze)), (2, .long v), (4, .int (iz zk))] := hl
  have hmt := mtL_in (mtE F E ze v) ze
  refine lv_aload_n hx hb d_M_exponent_0 rfl (lv_at hl 0 rfl) ?_
  refine lv_iload_n hx hb d_M_exponent_1 rfl (lv_at hl 1 rfl) ?_
  refine lv_lload_n hx hb d_M_exponent_2 rfl (lv_at hl 2 rfl) ?_
  refine rc_calli (va_runV (As := [.int (iz ze), .long v]) (rest := []) ⟨hx, hb, hml, hown, hts⟩ (m_M_findLevel l D cJ cI h cd od fc hd md lo lv tb rw bs mn nu tu F E ze v hz0 hz1) (cwV 2 hts (kb_gi (kb_c kw_664 (kb_c kw_666 (kb_c ks_M_findLevel (kb_c kw_5 (kb_c kw_667 kb_all)))))) rfl rfl rfl (by decide +kernel) ⟨Nat.le_of_ble_eq_true rfl, Nat.le_of_ble_eq_true rfl⟩) ⟨rc_blind, va_recv hK hP (ci := 3) (q0 := 0) rfl rfl, rc_pre hP hD hK hN [0, 1, 2] rfl rfl [0, 1] rfl⟩ rfl rfl hl.1 rfl (lv_room (Nat.le_of_ble_eq_true rfl)) d_M_exponent_3 ⟨Nat.zero_le _, Nat.zero_le _⟩) hP hD hS [0, 1, 2] rfl (fun _ => rfl) (fun r1 u2 H locs hw2 hP hD hS => ?_)
  rcases hw2 with ⟨hC, rfl, rfl⟩ | ⟨hC, rfl, rfl⟩
  · have hP : va_P D vC [(h, rM 0 od fc hd md lo (mtL (mtE F E ze v) ze) tb rw bs mn nu tu), (fc, k2 cJ 20 5 F), (lo, k2 cJ 20 5 (mtE F E ze v))] H := hP
    have hD : va_D A [(h, rM 0 od fc hd md lo (mtL (mtE F E ze v) ze) tb rw bs mn nu tu), (fc, k2 cJ 20 5 F), (lo, k2 cJ 20 5 (mtE F E ze v))] := hD
    refine rz_if_ne (tgt := 11) hx hb d_M_exponent_6 (by decide) (fun _ => ?_) (fun hc => absurd hc (by decide))
    refine rz_iconst hx hb d_M_exponent_11 ?_
    refine lv_istore (lv' := [(5, .int (iz 0)), (0, .ref h), (1, .int (iz ze)), (2, .long v), (4, .int (iz zk))]) hx hb d_M_exponent_12 hl (by decide) rfl (fun ls hl => ?_)
    refine rz_iconst hx hb d_M_exponent_14 ?_
    refine lv_istore (lv' := [(6, .int (iz 0)), (5, .int (iz 0)), (0, .ref h), (1, .int (iz ze)), (2, .long v), (4, .int (iz zk))]) hx hb d_M_exponent_15 hl (by decide) rfl (fun ls hl => ?_)
    by_cases hk0 : zk < 0
    · refine lv_iload hx hb d_M_exponent_17 (lv_at hl 0 rfl) ?_
      refine rz_sipush hx hb d_M_exponent_19 (by decide) ?_
      refine rz_icmp_ge (tgt := 104) hx hb d_M_exponent_22 (by decide) (fun hc3 => ?_) (fun hc3 => ?_)
      · refine rz_iconst hx hb d_M_exponent_104 ?_
        exact W.iret hx hb hr (fun t ht hW => ⟨⟨_, (0, (mtL (mtE F E ze v) ze), (mtE F E ze v)), rfl, (Or.inl ⟨hC, rfl, Or.inr ⟨Or.inl hk0, rfl⟩⟩), rc_out ht hP⟩, hS.F ht⟩) hS.2.2 d_M_exponent_105
      · refine lv_iload hx hb d_M_exponent_25 (lv_at hl 5 rfl) ?_
        refine rz_if_lt (tgt := 104) hx hb d_M_exponent_27 (by decide) (fun hc4 => ?_) (fun hc4 => ?_)
        · refine rz_iconst hx hb d_M_exponent_104 ?_
          exact W.iret hx hb hr (fun t ht hW => ⟨⟨_, (0, (mtL (mtE F E ze v) ze), (mtE F E ze v)), rfl, (Or.inl ⟨hC, rfl, Or.inr ⟨Or.inl hk0, rfl⟩⟩), rc_out ht hP⟩, hS.F ht⟩) hS.2.2 d_M_exponent_105
        · omega
    · refine lo_M_exponent (F := F) (E := (mtE F E ze v)) (g := (mtL (mtE F E ze v) ze)) (zk := zk) hod ho3 hmt.1 hmt.2 (by omega) hzkh hx hb hml hown hts hK hN ⟨Nat.le_of_ble_eq_true rfl, Nat.le_of_ble_eq_true rfl⟩ (fun x H locs ls hx3 hr0 hc0 hP hD hS hl => ?_) (fun H locs ls hno hP hD hS => ?_) 32003 0 _ _ _ _ ls rfl rfl (by omega) (fun y hy => absurd hy (Nat.not_lt_zero y)) hP hD hS (lv_sub hl [0, 1, 2, 5] rfl)
      · refine lv_iload hx hb d_M_exponent_92 (lv_at hl 0 rfl) ?_
        exact W.iret hx hb hr (fun t ht hW => ⟨⟨_, (0, (mtL (mtE F E ze v) ze), (mtE F E ze v)), rfl, (Or.inl ⟨hC, rfl, Or.inl ⟨x, hx3, hr0, hc0, rfl⟩⟩), rc_out ht hP⟩, hS.F ht⟩) hS.2.2 d_M_exponent_94
      · refine rz_iconst hx hb d_M_exponent_104 ?_
        exact W.iret hx hb hr (fun t ht hW => ⟨⟨_, (0, (mtL (mtE F E ze v) ze), (mtE F E ze v)), rfl, (Or.inl ⟨hC, rfl, Or.inr ⟨Or.inr hno, rfl⟩⟩), rc_out ht hP⟩, hS.F ht⟩) hS.2.2 d_M_exponent_105
  · have hP : va_P D vC [(h, rM 1 od fc hd md lo lv tb rw bs mn nu tu), (fc, k2 cJ 20 5 F), (lo, k2 cJ 20 5 E)] H := hP
    have hD : va_D A [(h, rM 1 od fc hd md lo lv tb rw bs mn nu tu), (fc, k2 cJ 20 5 F), (lo, k2 cJ 20 5 E)] := hD
    refine rz_if_ne (tgt := 11) hx hb d_M_exponent_6 (by decide) (fun hc => absurd hc (by decide)) (fun _ => ?_)
    refine rz_iconst hx hb d_M_exponent_9 ?_
    exact W.iret hx hb hr (fun t ht hW => ⟨⟨_, (1, lv, E), rfl, (Or.inr ⟨hC, rfl, rfl⟩), rc_out ht hP⟩, hS.F ht⟩) hS.2.2 d_M_exponent_10
end WK
