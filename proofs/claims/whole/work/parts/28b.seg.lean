/-! CALLS in worlds with stretches of rows -/
theorem rs_D {A : Nat → Prop} {w w' : va_W} (h : va_D A w) (e : w'.map (fun q => q.1) = w.map (fun q => q.1)) : va_D A w' := by
  have key : ∀ (k : Nat) (q : Nat × va_E), w'[k]? = some q → ∃ q0, w[k]? = some q0 ∧ q0.1 = q.1 := by
    intro k q hk
    have g := congrArg (fun l => l[k]?) e
    simp only [List.getElem?_map, hk] at g
    cases hw : w[k]? with
    | none => rw [hw] at g; cases g
    | some q0 => rw [hw] at g; exact ⟨q0, rfl, (Option.some.inj g).symm⟩
  refine ⟨fun i j x y hi hj hxy => ?_, fun k q hk => ?_⟩
  · obtain ⟨x0, h1, h2⟩ := key i x hi
    obtain ⟨y0, h3, h4⟩ := key j y hj
    exact h.1 i j x0 y0 h1 h3 (h2.trans (hxy.trans h4.symm))
  · obtain ⟨q0, h1, h2⟩ := key k q hk
    rw [← h2]
    exact h.2 k q0 h1
theorem rs_adr {is : List Nat} {cs w wc : va_W} (hC : is.map (fun i => w[i]?) = wc.map some) (hw : cs.map (fun q => q.1) = wc.map (fun q => q.1)) : (rc_set w is cs).map (fun q => q.1) = w.map (fun q => q.1) := by
  induction is generalizing w cs wc with
  | nil => cases cs <;> rfl
  | cons i is ih =>
    match wc, cs, hC, hw with
    | [], _, hC, _ => simp at hC
    | c0 :: wc, [], _, hw => simp at hw
    | c0 :: wc, c :: cs, hC, hw =>
      simp only [List.map_cons, List.cons.injEq] at hC hw
      have hset : (w.set i c).map (fun q => q.1) = w.map (fun q => q.1) := by
        apply List.ext_getElem?
        intro k
        rw [List.getElem?_map, List.getElem?_map]
        by_cases e : i = k
        · subst e
          have hlt := (List.getElem?_eq_some_iff.mp hC.1).1
          rw [List.getElem?_set_self hlt, hC.1]
          show some c.1 = some c0.1
          rw [hw.1]
        · rw [List.getElem?_set_ne e]
      -- the rest
      have key : ∀ (is : List Nat) (cs : va_W) (w w2 : va_W), w2.map (fun q => q.1) = w.map (fun q => q.1) → (∀ (j i : Nat) (c : Nat × va_E), is[j]? = some i → cs[j]? = some c → ∃ e, w[i]? = some (c.1, e)) → (rc_set w2 is cs).map (fun q => q.1) = w.map (fun q => q.1) := by
        intro is
        induction is with
        | nil => intro cs w w2 h _; cases cs <;> exact h
        | cons i is ih2 =>
          intro cs w w2 h hh
          match cs with
          | [] => exact h
          | c :: cs =>
            refine ih2 cs w (w2.set i c) ?_ (fun j i' c' h1 h2 => hh (j + 1) i' c' (by simpa using h1) (by simpa using h2))
            obtain ⟨e0, he0⟩ := hh 0 i c (by simp) (by simp)
            rw [← h]
            apply List.ext_getElem?
            intro k
            rw [List.getElem?_map, List.getElem?_map]
            by_cases e : i = k
            · subst e
              have g := congrArg (fun l => l[i]?) h
              simp only [List.getElem?_map, he0] at g
              cases hw2 : w2[i]? with
              | none => rw [hw2] at g; cases g
              | some q0 =>
                have hlt := (List.getElem?_eq_some_iff.mp hw2).1
                rw [hw2] at g
                rw [List.getElem?_set_self hlt]
                show some c.1 = some q0.1
                exact g.symm
            · rw [List.getElem?_set_ne e]
      refine key is cs w (w.set i c) hset (fun j i' c' h1 h2 => ?_)
      have hl1 : cs.length = wc.length := by simpa using congrArg List.length hw.2
      have hlt : j < wc.length := by rw [← hl1]; exact (List.getElem?_eq_some_iff.mp h2).1
      obtain ⟨cw, hcw⟩ : ∃ cw, wc[j]? = some cw := ⟨wc[j], List.getElem?_eq_getElem hlt⟩
      have he : c'.1 = cw.1 := by
        have g := congrArg (fun l => l[j]?) hw.2
        simp only [List.getElem?_map, h2, hcw] at g
        exact Option.some.inj g
      obtain ⟨i2, g1, g2⟩ := rc_at hC.2 hcw
      cases h1.symm.trans g1
      exact ⟨cw.2, by rw [g2, he]⟩
/-- the callee has some of the fixed cells and a stretch -/
theorem rs_join {A : Nat → Prop} {D : va_G} {cl : List vw_C} {is : List Nat} {X S Y Xc X1 S1 : va_W} {H H1 : Heap} (hP : va_P D cl (X ++ (S ++ Y)) H) (hD : va_D A (X ++ (S ++ Y))) (hC : is.map (fun i => X[i]?) = Xc.map some) (hw : X1.map (fun q => q.1) = Xc.map (fun q => q.1)) (hs : S1.map (fun q => q.1) = S.map (fun q => q.1)) (hk : ∀ q : Nat, q < H.size → ¬ rc_A (Xc ++ S) q → H1[q]? = H[q]?) (hP1 : va_P D cl (X1 ++ S1) H1) : va_P D cl (rc_set X is X1 ++ (S1 ++ Y)) H1 ∧ va_D A (rc_set X is X1 ++ (S1 ++ Y)) := by
  have hl1 : X1.length = Xc.length := by simpa using congrArg List.length hw
  have hl : is.length = X1.length := (rc_len hC).trans hl1.symm
  have hadr := rs_adr hC hw
  have hlX : (rc_set X is X1).length = X.length := by simpa using congrArg List.length hadr
  have hlS : S1.length = S.length := by simpa using congrArg List.length hs
  have e : (rc_set X is X1 ++ (S1 ++ Y)).map (fun q => q.1) = (X ++ (S ++ Y)).map (fun q => q.1) := by
    rw [List.map_append, List.map_append, List.map_append, List.map_append, hadr, hs]
  refine ⟨fun k q h => ?_, rs_D hD e⟩
  by_cases h1 : k < X.length
  · rw [List.getElem?_append_left (by omega)] at h
    rcases rc_set_get is X1 X hl k q h with ⟨j, -, h2⟩ | ⟨h2, h3⟩
    · refine hP1 j q ?_
      rw [List.getElem?_append_left (List.getElem?_eq_some_iff.mp h2).1]
      exact h2
    · have hq : (X ++ (S ++ Y))[k]? = some q := by rw [List.getElem?_append_left h1]; exact h3
      refine (hP k q hq).kept (hk q.1 (hP k q hq).lt ?_)
      rintro ⟨k2, e2, h4⟩
      by_cases hk2 : k2 < Xc.length
      · rw [List.getElem?_append_left hk2] at h4
        obtain ⟨i, g1, g2⟩ := rc_at hC h4
        have g3 : (X ++ (S ++ Y))[i]? = some (q.1, e2) := by rw [List.getElem?_append_left (List.getElem?_eq_some_iff.mp g2).1]; exact g2
        have := hD.1 k i q (q.1, e2) hq g3 rfl
        subst this
        exact h2 (List.mem_of_getElem? g1)
      · rw [List.getElem?_append_right (by omega)] at h4
        have hlt := (List.getElem?_eq_some_iff.mp h4).1
        have g3 : (X ++ (S ++ Y))[X.length + (k2 - Xc.length)]? = some (q.1, e2) := by
          rw [List.getElem?_append_right (by omega), show X.length + (k2 - Xc.length) - X.length = k2 - Xc.length by omega, List.getElem?_append_left hlt]
          exact h4
        have := hD.1 k _ q (q.1, e2) hq g3 rfl
        omega
  · rw [List.getElem?_append_right (by omega), hlX] at h
    by_cases h2 : k - X.length < S1.length
    · rw [List.getElem?_append_left h2] at h
      refine hP1 (X1.length + (k - X.length)) q ?_
      rw [List.getElem?_append_right (by omega), show X1.length + (k - X.length) - X1.length = k - X.length by omega]
      exact h
    · rw [List.getElem?_append_right (by omega)] at h
      have hq : (X ++ (S ++ Y))[k]? = some q := by
        rw [List.getElem?_append_right (by omega), List.getElem?_append_right (by omega), ← hlS]
        exact h
      refine (hP k q hq).kept (hk q.1 (hP k q hq).lt ?_)
      rintro ⟨k2, e2, h4⟩
      by_cases hk2 : k2 < Xc.length
      · rw [List.getElem?_append_left hk2] at h4
        obtain ⟨i, g1, g2⟩ := rc_at hC h4
        have hi := (List.getElem?_eq_some_iff.mp g2).1
        have g3 : (X ++ (S ++ Y))[i]? = some (q.1, e2) := by rw [List.getElem?_append_left hi]; exact g2
        have := hD.1 k i q (q.1, e2) hq g3 rfl
        omega
      · rw [List.getElem?_append_right (by omega)] at h4
        have hlt := (List.getElem?_eq_some_iff.mp h4).1
        have g3 : (X ++ (S ++ Y))[X.length + (k2 - Xc.length)]? = some (q.1, e2) := by
          rw [List.getElem?_append_right (by omega), show X.length + (k2 - Xc.length) - X.length = k2 - Xc.length by omega, List.getElem?_append_left hlt]
          exact h4
        have := hD.1 k _ q (q.1, e2) hq g3 rfl
        omega
theorem rs_in {A : Nat → Prop} {is : List Nat} {X S Y Xc : va_W} (hD : va_D A (X ++ (S ++ Y))) (hC : is.map (fun i => X[i]?) = Xc.map some) : ∀ q, rc_A (Xc ++ S) q → A q := by
  rintro q ⟨k, e, h⟩
  by_cases hk : k < Xc.length
  · rw [List.getElem?_append_left hk] at h
    obtain ⟨i, -, g2⟩ := rc_at hC h
    exact hD.2 i (q, e) (by rw [List.getElem?_append_left (List.getElem?_eq_some_iff.mp g2).1]; exact g2)
  · rw [List.getElem?_append_right (by omega)] at h
    have hlt := (List.getElem?_eq_some_iff.mp h).1
    refine hD.2 (X.length + (k - Xc.length)) (q, e) ?_
    rw [List.getElem?_append_right (by omega), show X.length + (k - Xc.length) - X.length = k - Xc.length by omega, List.getElem?_append_left hlt]
    exact h
theorem rs_pre {D : va_G} {cl : List vw_C} {tys tysC : List (ClassId × FieldType)} {X S Y Xc : va_W} {A : Nat → Prop} {H : Heap} {s : State} {av : List Value} (hP : va_P D cl (X ++ (S ++ Y)) H) (hD : va_D A (X ++ (S ++ Y))) (hK : va_K D cl tys s) (hN : rc_N s) (is : List Nat) (hC : is.map (fun i => X[i]?) = Xc.map some) (hn : va_nd is = true) (it : List Nat) (hT : it.filterMap (fun i => tys[i]?) = tysC) :
    ∀ U : State, U.heap = H → s.WarmedH U.vm → rc_Pc D cl tysC av (Xc ++ S) av.toArray U := by
  intro U hU hW
  have key : ∀ (k : Nat) (q : Nat × va_E), (Xc ++ S)[k]? = some q → ∃ i, (X ++ (S ++ Y))[i]? = some q ∧ ((k < Xc.length ∧ is[k]? = some i ∧ i < X.length) ∨ (Xc.length ≤ k ∧ i = X.length + (k - Xc.length))) := by
    intro k q h
    by_cases hk : k < Xc.length
    · rw [List.getElem?_append_left hk] at h
      obtain ⟨i, g1, g2⟩ := rc_at hC h
      have hi := (List.getElem?_eq_some_iff.mp g2).1
      exact ⟨i, by rw [List.getElem?_append_left hi]; exact g2, Or.inl ⟨hk, g1, hi⟩⟩
    · rw [List.getElem?_append_right (by omega)] at h
      have hlt := (List.getElem?_eq_some_iff.mp h).1
      refine ⟨X.length + (k - Xc.length), ?_, Or.inr ⟨by omega, rfl⟩⟩
      rw [List.getElem?_append_right (by omega), show X.length + (k - Xc.length) - X.length = k - Xc.length by omega, List.getElem?_append_left hlt]
      exact h
  refine ⟨rfl, ?_, va_K.moved hW.alike (hK.sub it hT), ?_, hN.moved hW⟩
  · rw [hU]
    intro k q h
    obtain ⟨i, g, -⟩ := key k q h
    exact hP i q g
  · refine ⟨fun i j x y hx hy hxy => ?_, fun _ _ _ => trivial⟩
    obtain ⟨i1, g1, c1⟩ := key i x hx
    obtain ⟨i2, g2, c2⟩ := key j y hy
    have := hD.1 i1 i2 x y g1 g2 hxy
    subst this
    rcases c1 with ⟨a1, a2, a3⟩ | ⟨a1, a2⟩ <;> rcases c2 with ⟨b1, b2, b3⟩ | ⟨b1, b2⟩
    · exact va_nd_inj is hn i j i1 a2 b2
    · omega
    · omega
    · omega
theorem gs_adr (n : Nat) (ad : Nat → Nat) (cJ : ClassId) (len : Nat) (M M1 : Nat → Nat → ro_K) : (gs n ad cJ len M1).map (fun q => q.1) = (gs n ad cJ len M).map (fun q => q.1) := by
  unfold gs
  rw [List.map_map, List.map_map]
  rfl
section RSC
variable {p : Program} {l : Launch} {e : Env} {R : Room} {s : State} {m : MethodId} {args : Array Value} {below : List Frame} {meth : Method} {c : Code} {H : Heap} {locs : List Loc} {cells slots : Nat} {Q : State → Prop}
variable {pc : Nat} {ls : Array Slot} {rest st0 : List Value} {a : Array Value} {A : Nat → Prop} {H0 : Heap} {D : va_G} {cl : List vw_C} {X S Y Xc : va_W}
theorem rsT_calll {T : Type} {post : Int64 → T → Prop} {X1 S1 : T → va_W} (hr : va_Run p l e R s m args below meth c H locs cells slots 0 0 (F0 m pc ls st0) rest (va_Ql post (fun u t => va_P D cl (X1 u ++ S1 u) t.heap) (rc_A (Xc ++ S)) a) (rc_A (Xc ++ S))) (hP : va_P D cl (X ++ (S ++ Y)) H) (hD : va_D A (X ++ (S ++ Y))) (hS : va_S A H0 H locs) (is : List Nat) (hC : is.map (fun i => X[i]?) = Xc.map some) (hw : ∀ u, (X1 u).map (fun q => q.1) = Xc.map (fun q => q.1)) (hs : ∀ u, (S1 u).map (fun q => q.1) = S.map (fun q => q.1))
    (kk : ∀ (r : Int64) (u : T) (H1 : Heap) (locs1 : List Loc), post r u → va_P D cl (rc_set X is (X1 u) ++ (S1 u ++ Y)) H1 → va_D A (rc_set X is (X1 u) ++ (S1 u ++ Y)) → va_S A H0 H1 locs1 → W p l e R s m args below meth c H1 locs1 cells slots Q (F0 m (pc + 3) ls (.long r :: rest))) : W p l e R s m args below meth c H locs cells slots Q (F0 m pc ls st0) := by
  have hF := rs_in hD hC
  refine va_calll hr hS (fun q _ h => hF q h) hF (fun r u t H1 locs1 ht _ hp hB _ hk hS1 => ?_)
  rw [ht] at hB
  obtain ⟨j1, j2⟩ := rs_join hP hD hC (hw u) (hs u) hk hB
  exact kk r u H1 locs1 hp j1 j2 hS1
theorem rsT_calli {T : Type} {post : Int32 → T → Prop} {X1 S1 : T → va_W} (hr : va_Run p l e R s m args below meth c H locs cells slots 0 0 (F0 m pc ls st0) rest (va_Qi post (fun u t => va_P D cl (X1 u ++ S1 u) t.heap) (rc_A (Xc ++ S)) a) (rc_A (Xc ++ S))) (hP : va_P D cl (X ++ (S ++ Y)) H) (hD : va_D A (X ++ (S ++ Y))) (hS : va_S A H0 H locs) (is : List Nat) (hC : is.map (fun i => X[i]?) = Xc.map some) (hw : ∀ u, (X1 u).map (fun q => q.1) = Xc.map (fun q => q.1)) (hs : ∀ u, (S1 u).map (fun q => q.1) = S.map (fun q => q.1))
    (kk : ∀ (r : Int32) (u : T) (H1 : Heap) (locs1 : List Loc), post r u → va_P D cl (rc_set X is (X1 u) ++ (S1 u ++ Y)) H1 → va_D A (rc_set X is (X1 u) ++ (S1 u ++ Y)) → va_S A H0 H1 locs1 → W p l e R s m args below meth c H1 locs1 cells slots Q (F0 m (pc + 3) ls (.int r :: rest))) : W p l e R s m args below meth c H locs cells slots Q (F0 m pc ls st0) := by
  have hF := rs_in hD hC
  refine va_calli hr hS (fun q _ h => hF q h) hF (fun r u t H1 locs1 ht _ hp hB _ hk hS1 => ?_)
  rw [ht] at hB
  obtain ⟨j1, j2⟩ := rs_join hP hD hC (hw u) (hs u) hk hB
  exact kk r u H1 locs1 hp j1 j2 hS1
theorem rsT_callv {T : Type} {post : T → Prop} {X1 S1 : T → va_W} (hr : va_Run p l e R s m args below meth c H locs cells slots 0 0 (F0 m pc ls st0) rest (va_Qv post (fun u t => va_P D cl (X1 u ++ S1 u) t.heap) (rc_A (Xc ++ S)) a) (rc_A (Xc ++ S))) (hP : va_P D cl (X ++ (S ++ Y)) H) (hD : va_D A (X ++ (S ++ Y))) (hS : va_S A H0 H locs) (is : List Nat) (hC : is.map (fun i => X[i]?) = Xc.map some) (hw : ∀ u, (X1 u).map (fun q => q.1) = Xc.map (fun q => q.1)) (hs : ∀ u, (S1 u).map (fun q => q.1) = S.map (fun q => q.1))
    (kk : ∀ (u : T) (H1 : Heap) (locs1 : List Loc), post u → va_P D cl (rc_set X is (X1 u) ++ (S1 u ++ Y)) H1 → va_D A (rc_set X is (X1 u) ++ (S1 u ++ Y)) → va_S A H0 H1 locs1 → W p l e R s m args below meth c H1 locs1 cells slots Q (F0 m (pc + 3) ls rest)) : W p l e R s m args below meth c H locs cells slots Q (F0 m pc ls st0) := by
  have hF := rs_in hD hC
  refine va_callv hr hS (fun q _ h => hF q h) hF (fun u t H1 locs1 ht _ hp hB _ hk hS1 => ?_)
  rw [ht] at hB
  obtain ⟨j1, j2⟩ := rs_join hP hD hC (hw u) (hs u) hk hB
  exact kk u H1 locs1 hp j1 j2 hS1
theorem rs_nil {D : va_G} {cl : List vw_C} {X S : va_W} {H : Heap} (h : va_P D cl (X ++ S) H) : va_P D cl (X ++ (S ++ [])) H := by rw [List.append_nil]; exact h
theorem rs_nilD {A : Nat → Prop} {X S : va_W} (h : va_D A (X ++ S)) : va_D A (X ++ (S ++ [])) := by rw [List.append_nil]; exact h
theorem rs_calll {T : Type} {post : Int64 → T → Prop} {X1 S1 : T → va_W} (hr : va_Run p l e R s m args below meth c H locs cells slots 0 0 (F0 m pc ls st0) rest (va_Ql post (fun u t => va_P D cl (X1 u ++ S1 u) t.heap) (rc_A (Xc ++ S)) a) (rc_A (Xc ++ S))) (hP : va_P D cl (X ++ S) H) (hD : va_D A (X ++ S)) (hS : va_S A H0 H locs) (is : List Nat) (hC : is.map (fun i => X[i]?) = Xc.map some) (hw : ∀ u, (X1 u).map (fun q => q.1) = Xc.map (fun q => q.1)) (hs : ∀ u, (S1 u).map (fun q => q.1) = S.map (fun q => q.1))
    (kk : ∀ (r : Int64) (u : T) (H1 : Heap) (locs1 : List Loc), post r u → va_P D cl (rc_set X is (X1 u) ++ S1 u) H1 → va_D A (rc_set X is (X1 u) ++ S1 u) → va_S A H0 H1 locs1 → W p l e R s m args below meth c H1 locs1 cells slots Q (F0 m (pc + 3) ls (.long r :: rest))) : W p l e R s m args below meth c H locs cells slots Q (F0 m pc ls st0) :=
  rsT_calll (Y := []) hr (rs_nil hP) (rs_nilD hD) hS is hC hw hs (fun r u H1 locs1 h1 h2 h3 h4 => kk r u H1 locs1 h1 (by rw [List.append_nil] at h2; exact h2) (by rw [List.append_nil] at h3; exact h3) h4)
theorem rs_calli {T : Type} {post : Int32 → T → Prop} {X1 S1 : T → va_W} (hr : va_Run p l e R s m args below meth c H locs cells slots 0 0 (F0 m pc ls st0) rest (va_Qi post (fun u t => va_P D cl (X1 u ++ S1 u) t.heap) (rc_A (Xc ++ S)) a) (rc_A (Xc ++ S))) (hP : va_P D cl (X ++ S) H) (hD : va_D A (X ++ S)) (hS : va_S A H0 H locs) (is : List Nat) (hC : is.map (fun i => X[i]?) = Xc.map some) (hw : ∀ u, (X1 u).map (fun q => q.1) = Xc.map (fun q => q.1)) (hs : ∀ u, (S1 u).map (fun q => q.1) = S.map (fun q => q.1))
    (kk : ∀ (r : Int32) (u : T) (H1 : Heap) (locs1 : List Loc), post r u → va_P D cl (rc_set X is (X1 u) ++ S1 u) H1 → va_D A (rc_set X is (X1 u) ++ S1 u) → va_S A H0 H1 locs1 → W p l e R s m args below meth c H1 locs1 cells slots Q (F0 m (pc + 3) ls (.int r :: rest))) : W p l e R s m args below meth c H locs cells slots Q (F0 m pc ls st0) :=
  rsT_calli (Y := []) hr (rs_nil hP) (rs_nilD hD) hS is hC hw hs (fun r u H1 locs1 h1 h2 h3 h4 => kk r u H1 locs1 h1 (by rw [List.append_nil] at h2; exact h2) (by rw [List.append_nil] at h3; exact h3) h4)
theorem rs_callv {T : Type} {post : T → Prop} {X1 S1 : T → va_W} (hr : va_Run p l e R s m args below meth c H locs cells slots 0 0 (F0 m pc ls st0) rest (va_Qv post (fun u t => va_P D cl (X1 u ++ S1 u) t.heap) (rc_A (Xc ++ S)) a) (rc_A (Xc ++ S))) (hP : va_P D cl (X ++ S) H) (hD : va_D A (X ++ S)) (hS : va_S A H0 H locs) (is : List Nat) (hC : is.map (fun i => X[i]?) = Xc.map some) (hw : ∀ u, (X1 u).map (fun q => q.1) = Xc.map (fun q => q.1)) (hs : ∀ u, (S1 u).map (fun q => q.1) = S.map (fun q => q.1))
    (kk : ∀ (u : T) (H1 : Heap) (locs1 : List Loc), post u → va_P D cl (rc_set X is (X1 u) ++ S1 u) H1 → va_D A (rc_set X is (X1 u) ++ S1 u) → va_S A H0 H1 locs1 → W p l e R s m args below meth c H1 locs1 cells slots Q (F0 m (pc + 3) ls rest)) : W p l e R s m args below meth c H locs cells slots Q (F0 m pc ls st0) :=
  rsT_callv (Y := []) hr (rs_nil hP) (rs_nilD hD) hS is hC hw hs (fun u H1 locs1 h1 h2 h3 h4 => kk u H1 locs1 h1 (by rw [List.append_nil] at h2; exact h2) (by rw [List.append_nil] at h3; exact h3) h4)
end RSC
