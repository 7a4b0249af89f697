/-! WHAT THE LAW KEEPS between two calls, and what each call makes of it: numbers alone -/
def lw_I (o : Nat) (F E : Nat → Nat → ro_K) (a : Nat → ro_K) (kn : Int) (M : Nat → Nat → ro_K) (Lx : Nat → Int) (Bm : Nat → Nat → ro_K) (bn : Int) (G : Nat → Nat → ro_K) (a2 : Nat → ro_K) : Prop :=
  ag 4 5 F G ∧ zr o F ∧ zr o E ∧ (∀ j, j < 13 → a j = a2 j) ∧ (kn = 0 ∨ (kn = 1 ∧ ∃ (M0 : Nat → Nat → ro_K) (L0 : Nat → Int) (B0 : Nat → Nat → ro_K), (M, Lx, Bm, bn) = knN F o M0 L0 B0))
theorem e4 (x : rKB) : (x.1, x.2.1, x.2.2.1, x.2.2.2) = x := rfl
section LI
variable {o : Nat} {F E : Nat → Nat → ro_K} {a : Nat → ro_K} {kn : Int} {M : Nat → Nat → ro_K} {Lx : Nat → Int} {Bm : Nat → Nat → ro_K} {bn : Int} {G : Nat → Nat → ro_K} {a2 : Nat → ro_K}
theorem lw_kn (h : lw_I o F E a kn M Lx Bm bn G a2) : kn = 0 ∨ kn = 1 := by
  rcases h.2.2.2.2 with z | ⟨z, -⟩
  · exact Or.inl z
  · exact Or.inr z
theorem lw_i0 (ho : o ≤ 3) (M' : Nat → Nat → ro_K) (L' : Nat → Int) (B' : Nat → Nat → ro_K) (b' : Int) : lw_I o (fun _ _ => 0) (fun _ _ => 0) (fun _ => 0) 0 M' L' B' b' (fun _ _ => 0) (fun _ => 0) :=
  ⟨fun _ _ _ _ => rfl, fun _ _ _ _ _ => rfl, fun _ _ _ _ _ => rfl, fun _ _ => rfl, Or.inl rfl⟩
theorem lw_same {i pw : Nat} {x : ro_K} (h : ag 4 5 F G) (hf : F i pw = x) : ag 4 5 F (up2 G i pw x) := by
  intro p hp q hq
  unfold up2
  by_cases e : p = i ∧ q = pw
  · rw [if_pos e, e.1, e.2]; exact hf
  · rw [if_neg e]; exact h p hp q hq
theorem lw_put0 {i pw : Nat} {x : ro_K} (h : lw_I o F E a kn M Lx Bm bn G a2) (hf : F i pw = x) : lw_I o F E a kn M Lx Bm bn (up2 G i pw x) a2 := ⟨lw_same h.1 hf, h.2⟩
theorem lw_put1 {i pw : Nat} {x : ro_K} (h : lw_I o F E a kn M Lx Bm bn G a2) (hi : i ≤ o) : lw_I o (up2 F i pw x) E a 0 M Lx Bm bn (up2 G i pw x) a2 :=
  have q := eq_put h.1 h.2.1 hi (pw := pw) x
  ⟨q.1, q.2, h.2.2.1, h.2.2.2.1, Or.inl rfl⟩
theorem lw_hand {pw : Nat} {x : ro_K} (h : lw_I o F E a kn M Lx Bm bn G a2) : lw_I o F E (va_up a pw x) kn M Lx Bm bn G (va_up a2 pw x) := by
  refine ⟨h.1, h.2.1, h.2.2.1, fun j hj => ?_, h.2.2.2.2⟩
  by_cases e : j = pw
  · subst e; rw [va_up_self, va_up_self]
  · rw [va_up_ne _ _ e, va_up_ne _ _ e]; exact h.2.2.2.1 j hj
theorem lw_E {E' : Nat → Nat → ro_K} (h : lw_I o F E a kn M Lx Bm bn G a2) (z : zr o E') : lw_I o F E' a kn M Lx Bm bn G a2 := ⟨h.1, h.2.1, z, h.2.2.2⟩
theorem lw_made (h : lw_I o F E a kn M Lx Bm bn G a2) (ho : o ≤ 3) (P : Nat → ro_K) {z : Int} (h0 : 0 ≤ z) (h1 : z ≤ 16) : ((maS F o a z 13).val : Int) = ((mkA G o a2 (kfl P 0 17) 13 z.toNat).val : Int) := by
  rw [eq_ma h.1 ho h.2.2.2.1 P (show z.toNat < 17 by omega)]
  have e : ((z.toNat : Nat) : Int) = z := by omega
  rw [e]
theorem lw_solves (h : lw_I o F E a kn M Lx Bm bn G a2) (ho : o ≤ 3) (P : Nat → ro_K) : slB F o a 17 = true ↔ azN (mkA G o a2 (kfl P 0 17) 13) 17 := eq_sl h.1 ho h.2.2.2.1 P
theorem lw_row (h : lw_I o F E a kn M Lx Bm bn G a2) (ho : o ≤ 3) : ∀ j, j < 5 → F o j = G o j := h.1 o (by omega)
theorem lw_kd (h : lw_I o F E a kn M Lx Bm bn G a2) (ho : o ≤ 3) : kd (F o) 5 = kd (G o) 5 := kd_cg 5 (lw_row h ho)
theorem lw_rts (h : lw_I o F E a kn M Lx Bm bn G a2) (ho : o ≤ 3) {n : Nat} {Fo : Nat → ro_K} (r : rts (F o) n Fo) : rts (G o) n Fo := rts_cg (lw_row h ho) r
theorem lw_az (h : lw_I o F E a kn M Lx Bm bn G a2) (ho : o ≤ 3) : azB F (o + 1) = true ↔ azN (fl 5 G) 20 := eq_az h.1 h.2.1 ho
theorem b01 (z : Int) : 0 ≤ (if z = 0 then (0 : Int) else 1) ∧ (if z = 0 then (0 : Int) else 1) ≤ 1 := by
  by_cases h : z = 0
  · rw [if_pos h]; omega
  · rw [if_neg h]; omega
/-- the factors at a place, and the level there -/
theorem lw_lv (h : lw_I o F E a kn M Lx Bm bn G a2) (ho : o ≤ 3) (haz : azB F (o + 1) = false) (ze : Int) (v : Int64) (E2 : Nat → Nat → ro_K) : ag 4 5 (gtE F o ze v E) (mtE G E2 ze v) ∧ zr o (gtE F o ze v E) ∧ gtL (gtE F o ze v E) o ze = mtL (mtE G E2 ze v) ze ∧ gp (gtE F o ze v E) (o + 1) (gtL (gtE F o ze v E) o ze) := by
  have q := eq_st (gtB ze v) (E' := E2) h.1 h.2.1 h.2.2.1 ho
  have r := eq_lv (ze := ze) q.1 q.2 ho (gp_some (gtB ze v) E haz)
  exact ⟨q.1, q.2, r.1, r.2⟩
theorem lw_reg (h : lw_I o F E a kn M Lx Bm bn G a2) (ho : o ≤ 3) (haz : azB F (o + 1) = false) (ze : Int) (v : Int64) (E2 : Nat → Nat → ro_K) : oat (gtE F o ze v E) o (gtL (gtE F o ze v E) o ze + (o : Int)) = oat (mtE G E2 ze v) o (mtL (mtE G E2 ze v) ze + (o : Int)) := by
  have q := lw_lv h ho haz ze v E2
  rw [q.2.2.1]
  exact oat_cg q.1 (by omega) _
theorem lw_inF (h : lw_I o F E a kn M Lx Bm bn G a2) (ho : o ≤ 3) (haz : azB F (o + 1) = false) (ze : Int) (v : Int64) (J : Nat → ro_K) : 0 ≤ kd (inF (gtE F o ze v E) (gtL (gtE F o ze v E) o ze) J) 5 := inF_nz ho J (lw_lv h ho haz ze v E).2.2.2
/-- the k-th exponent -/
theorem lw_exp (h : lw_I o F E a kn M Lx Bm bn G a2) (ho : o ≤ 3) (haz : azB F (o + 1) = false) (ze : Int) (v : Int64) (E2 : Nat → Nat → ro_K) (J : Nat → ro_K) {n : Nat} {Fo : Nat → ro_K} (r : rts (inF (gtE F o ze v E) (gtL (gtE F o ze v E) o ze) J) n Fo) {zk : Int} {q : Int32}
    (hq : (∃ x : Nat, x < 32003 ∧ exS (mtE G E2 ze v) (mtL (mtE G E2 ze v) ze) x (o + 1) = 0 ∧ (cntZ (fun x => exS (mtE G E2 ze v) (mtL (mtE G E2 ze v) ze) x (o + 1)) x : Int) = zk ∧ q = iz (x : Int)) ∨ ((zk < 0 ∨ ∀ x : Nat, x < 32003 → exS (mtE G E2 ze v) (mtL (mtE G E2 ze v) ze) x (o + 1) = 0 → (cntZ (fun x => exS (mtE G E2 ze v) (mtL (mtE G E2 ze v) ze) x (o + 1)) x : Int) ≠ zk) ∧ q = iz (-1))) : q = if 0 ≤ zk ∧ zk < (n : Int) then iz ((Fo zk.toNat).val : Int) else iz (-1) := by
  have w := lw_lv h ho haz ze v E2
  have hg : ∀ x : Nat, x < 32003 → ((fun x => exS (mtE G E2 ze v) (mtL (mtE G E2 ze v) ze) x (o + 1)) x = 0 ↔ ∃ j, j < n ∧ (Fo j).val = x) := by
    intro x hx
    have e := rts_g r x hx
    rw [w.2.2.1, eq_ex w.1 w.2.1 ho] at e
    exact e
  rcases hq with ⟨x, hx, h0, hc, rfl⟩ | ⟨hno, rfl⟩
  · have k := cnt_k r.2.1 hg hx h0
    rw [if_pos (by omega)]
    have e : zk.toNat = cntZ (fun x => exS (mtE G E2 ze v) (mtL (mtE G E2 ze v) ze) x (o + 1)) x := by omega
    rw [e, k.2]
  · rw [if_neg]
    intro hk
    rcases hno with z | z
    · omega
    · have k := cnt_j r.2.1 hg (j := zk.toNat) (by omega)
      exact z _ (Fo zk.toNat).isLt k.1 (by rw [k.2]; omega)
/-- the k-th place -/
theorem lw_plc (h : lw_I o F E a kn M Lx Bm bn G a2) (ho : o ≤ 3) {n : Nat} {Fo : Nat → ro_K} (r : rts (F o) n Fo) {zk : Int} {x : Nat} (hx : x < 32003) (h0 : ro_ev 5 (G o) (ro_k (x : Int)) = 0) (hc : (cntN (G o) x : Int) = zk) : 0 ≤ zk ∧ zk < (n : Int) ∧ x = (Fo zk.toNat).val := by
  have k := rts_k (lw_rts h ho r) hx h0
  have e : zk.toNat = cntN (G o) x := by omega
  rw [e]
  exact ⟨by omega, by omega, k.2.symm⟩
theorem lw_plj (h : lw_I o F E a kn M Lx Bm bn G a2) (ho : o ≤ 3) {n : Nat} {Fo : Nat → ro_K} (r : rts (F o) n Fo) {zk : Int} (h0 : 0 ≤ zk) (h1 : zk < (n : Int)) : ¬ (zk < 0 ∨ ∀ x : Nat, x < 32003 → ro_ev 5 (G o) (ro_k (x : Int)) = 0 → (cntN (G o) x : Int) ≠ zk) := by
  intro hno
  rcases hno with z | z
  · omega
  · have k := rts_j (lw_rts h ho r) (j := zk.toNat) (by omega)
    exact z _ (Fo zk.toNat).isLt k.1 (by rw [k.2]; omega)
theorem lw_cnt {n : Nat} {Fo : Nat → ro_K} {f : Nat → ro_K} (r : rts f n Fo) : (n : Int) = (cntN f 32003 : Int) := by rw [rts_n r]
/-- the base -/
theorem lw_base (h : lw_I o F E a kn M Lx Bm bn G a2) (ho : o ≤ 3) (P : Nat → ro_K) (M2 : Nat → Nat → ro_K) (L2 : Nat → Int) (B2 : Nat → Nat → ro_K) : (knD kn F o M Lx Bm bn).2.2.2 = ((faS G o P M2 L2 B2).1 : Int) ∧ (faS G o P M2 L2 B2).1 ≤ 13 ∧ (∀ i, i < (faS G o P M2 L2 B2).1 → ∀ b, b < 13 → (knD kn F o M Lx Bm bn).2.2.1 i b = (faS G o P M2 L2 B2).2 i b) ∧ ∃ (M0 : Nat → Nat → ro_K) (L0 : Nat → Int) (B0 : Nat → Nat → ro_K), ((knD kn F o M Lx Bm bn).1, (knD kn F o M Lx Bm bn).2.1, (knD kn F o M Lx Bm bn).2.2.1, (knD kn F o M Lx Bm bn).2.2.2) = knN F o M0 L0 B0 := by
  obtain ⟨M0, L0, B0, e⟩ : ∃ (M0 : Nat → Nat → ro_K) (L0 : Nat → Int) (B0 : Nat → Nat → ro_K), knD kn F o M Lx Bm bn = knN F o M0 L0 B0 := by
    rcases h.2.2.2.2 with z | ⟨z, M0, L0, B0, e⟩
    · exact ⟨M, Lx, Bm, by unfold knD; rw [if_pos z]⟩
    · refine ⟨M0, L0, B0, ?_⟩
      unfold knD
      rw [if_neg (by omega)]
      exact e
  have b := eq_base h.1 ho M0 M2 P L0 L2 B0 B2
  rw [e]
  exact ⟨b.1, b.2.1, b.2.2, M0, L0, B0, e4 _⟩
theorem lw_know (h : lw_I o F E a kn M Lx Bm bn G a2) (ho : o ≤ 3) : lw_I o F E a 1 (knD kn F o M Lx Bm bn).1 (knD kn F o M Lx Bm bn).2.1 (knD kn F o M Lx Bm bn).2.2.1 (knD kn F o M Lx Bm bn).2.2.2 G a2 :=
  ⟨h.1, h.2.1, h.2.2.1, h.2.2.2.1, Or.inr ⟨rfl, (lw_base h ho (fun _ => 0) (fun _ _ => 0) (fun _ => 0) (fun _ _ => 0)).2.2.2⟩⟩
theorem lw_take (h : lw_I o F E a kn M Lx Bm bn G a2) (ho : o ≤ 3) (P : Nat → ro_K) (M2 : Nat → Nat → ro_K) (L2 : Nat → Int) (B2 : Nat → Nat → ro_K) {k : Nat} (hk : k < (faS G o P M2 L2 B2).1) : lw_I o F E (va_cpy ((knD kn F o M Lx Bm bn).2.2.1 k) a 0 0 13) 1 (knD kn F o M Lx Bm bn).1 (knD kn F o M Lx Bm bn).2.1 (knD kn F o M Lx Bm bn).2.2.1 (knD kn F o M Lx Bm bn).2.2.2 G (cpk ((faS G o P M2 L2 B2).2 k) a2 13) := by
  have b := lw_know h ho
  refine ⟨b.1, b.2.1, b.2.2.1, fun j hj => ?_, b.2.2.2.2⟩
  rw [cpy_lt hj, cpk_at, if_pos hj]
  exact (lw_base h ho P M2 L2 B2).2.2.1 k hk j hj
/-- series -/
theorem lw_ser (h : lw_I o F E a kn M Lx Bm bn G a2) (ho : o ≤ 3) (v : Int64) (E2 : Nat → Nat → ro_K) : ag 4 5 (stE F (ro_k v.toInt) E (o + 1)) (mvF (ro_k v.toInt) (c2 G E2 20) 4) ∧ zr o (stE F (ro_k v.toInt) E (o + 1)) := eq_st _ h.1 h.2.1 h.2.2.1 ho
theorem lw_ser0 (h : lw_I o F E a kn M Lx Bm bn G a2) (ho : o ≤ 3) (v : Int64) (E2 : Nat → Nat → ro_K) : stE F (ro_k v.toInt) E (o + 1) o 0 = mvF (ro_k v.toInt) (c2 G E2 20) 4 o 0 := (lw_ser h ho v E2).1 o (by omega) 0 (by omega)
theorem lw_serv (h : lw_I o F E a kn M Lx Bm bn G a2) (ho : o ≤ 3) (v c d e : Int64) (E2 : Nat → Nat → ro_K) (T T2 : Nat → ro_K) {pw : Nat} (hp : pw ≤ 30) : srT (stE F (ro_k v.toInt) E (o + 1)) o (srI T c d e) (pw + 1 - o) pw = msT (mvF (ro_k v.toInt) (c2 G E2 20) 4) o (srI T2 c d e) (31 - o) pw := eq_series (lw_ser h ho v E2).1 ho T T2 c d e hp
theorem lw_turn (h : lw_I o F E a kn M Lx Bm bn G a2) (ho : o ≤ 3) (U2 : Nat → Nat → ro_K) : lw_I o (cpF (tuE F o E (o + 1)) F (o + 1)) (tuE F o E (o + 1)) a 0 M Lx Bm bn (c2 (tnI G (c2 (fun _ _ => 0) U2 20) (o + 1)) G 20) a2 :=
  have q := eq_tu (T := U2) h.1 h.2.1 h.2.2.1 ho
  ⟨q.1, q.2.1, q.2.2, h.2.2.2.1, Or.inl rfl⟩
theorem lw_move (h : lw_I o F E a kn M Lx Bm bn G a2) (ho : o ≤ 3) (v : Int64) (E2 : Nat → Nat → ro_K) : lw_I o (mvF (ro_k v.toInt) F (o + 1)) E a 0 M Lx Bm bn (c2 (mvF (ro_k v.toInt) (c2 G E2 20) 4) G 20) a2 :=
  have q := eq_mv (ro_k v.toInt) (E' := E2) h.1 h.2.1 ho
  ⟨q.1, q.2, h.2.2.1, h.2.2.2.1, Or.inl rfl⟩
theorem lw_clear (h : lw_I o F E a kn M Lx Bm bn G a2) (ho : o ≤ 3) : lw_I o (clF F (o + 1)) E (kfl a 0 13) 0 M Lx Bm bn (c2 (fun _ _ => 0) G 20) (kfl a2 0 13) :=
  have q := eq_cl (G := G) h.2.1 ho
  ⟨q.1, q.2, h.2.2.1, fun j hj => by rw [kfl_lt hj, kfl_lt hj], Or.inl rfl⟩
end LI
section LJ
variable {p : Program} {l : Launch} {e : Env} {R : Room} {s : State} {m : MethodId} {args : Array Value} {below : List Frame} {meth : Method} {c : Code} {H : Heap} {locs : List Loc} {cells slots : Nat} {Q : State → Prop} {cc : ByteArray} {pc : Nat} {ls : Array Slot} {rest : List Value}
theorem rl_icmp_eq (hx : p.tables.exec = Jvm.exec) (hb : c.code = cc) {x y : Int32} {off : Int} {tgt : Nat} (hdg : decode cc pc = .ok (.if_icmp .eq off, 3)) (ht : (pc : Int) + off = (tgt : Int)) (hxy : x = y) (k : W p l e R s m args below meth c H locs cells slots Q (F0 m tgt ls rest)) : W p l e R s m args below meth c H locs cells slots Q (F0 m pc ls (.int y :: .int x :: rest)) := by
  subst hxy
  have e9 : x = iz x.toInt := by
    apply Int32.toInt.inj
    rw [iz_toInt x.minValue_le_toInt x.toInt_lt]
  rw [e9]
  exact rz_icmp_eq hx hb hdg ht (fun _ => k) (fun h => absurd rfl h) ⟨x.minValue_le_toInt, x.toInt_lt⟩ ⟨x.minValue_le_toInt, x.toInt_lt⟩
theorem rl_lcmp_eq (hx : p.tables.exec = Jvm.exec) (hb : c.code = cc) {x y : Int64} {off : Int} {tgt : Nat} (hdg : decode cc pc = .ok (.lcmp, 1)) (hd2 : decode cc (pc + 1) = .ok (.ifCond .eq off, 3)) (ht : ((pc + 1 : Nat) : Int) + off = (tgt : Int)) (hxy : x = y) (k : W p l e R s m args below meth c H locs cells slots Q (F0 m tgt ls rest)) : W p l e R s m args below meth c H locs cells slots Q (F0 m pc ls (.long y :: .long x :: rest)) :=
  rz_lcmp_eq hx hb hdg hd2 ht (fun _ => k) (fun h => absurd hxy h)
end LJ
