/-! ROWS OF MY OWN over the kit: worlds whose cells keep their places; calls that make no cell -/
def rc_A (w : va_W) : Nat → Prop := fun q => ∃ (k : Nat) (e : va_E), w[k]? = some (q, e)
def rc_set : va_W → List Nat → va_W → va_W
  | w, i :: is, c :: cs => rc_set (w.set i c) is cs
  | w, _, _ => w
theorem rc_set_get : ∀ (is : List Nat) (cs w : va_W), is.length = cs.length → ∀ (k : Nat) (q : Nat × va_E), (rc_set w is cs)[k]? = some q → (∃ j : Nat, is[j]? = some k ∧ cs[j]? = some q) ∨ (k ∉ is ∧ w[k]? = some q)
  | [], [], w, _, k, q, h => Or.inr ⟨List.not_mem_nil, h⟩
  | [], c :: cs, w, hl, k, q, h => absurd hl (by simp)
  | i :: is, [], w, hl, k, q, h => absurd hl (by simp)
  | i :: is, c :: cs, w, hl, k, q, h => by
    rcases rc_set_get is cs (w.set i c) (by simpa using hl) k q h with ⟨j, h1, h2⟩ | ⟨h1, h2⟩
    · exact Or.inl ⟨j + 1, by simpa using h1, by simpa using h2⟩
    · by_cases hk : i = k
      · subst hk
        refine Or.inl ⟨0, by simp, ?_⟩
        rw [List.getElem?_set] at h2
        by_cases hi : i < w.length
        · simp [hi] at h2
          simp [h2]
        · simp [hi] at h2
      · rw [List.getElem?_set_ne hk] at h2
        refine Or.inr ⟨fun hm => ?_, h2⟩
        rcases List.mem_cons.mp hm with z | z
        · exact hk z.symm
        · exact h1 z
theorem rc_set_D {A : Nat → Prop} : ∀ (is : List Nat) (cs w : va_W), is.length = cs.length → va_D A w → (∀ (j i : Nat) (c : Nat × va_E), is[j]? = some i → cs[j]? = some c → ∃ e, w[i]? = some (c.1, e)) → va_D A (rc_set w is cs)
  | [], [], w, _, hD, _ => hD
  | [], c :: cs, w, hl, _, _ => absurd hl (by simp)
  | i :: is, [], w, hl, _, _ => absurd hl (by simp)
  | i :: is, c :: cs, w, hl, hD, h => by
    obtain ⟨e0, he0⟩ := h 0 i c (by simp) (by simp)
    refine rc_set_D is cs (w.set i c) (by simpa using hl) (hD.set (e := c.2) he0) (fun j i' c' h1 h2 => ?_)
    obtain ⟨e1, he1⟩ := h (j + 1) i' c' (by simpa using h1) (by simpa using h2)
    by_cases hk : i = i'
    · subst hk
      have := he0.symm.trans he1
      have hc : c.1 = c'.1 := by injection this with this; injection this
      have hlt := (List.getElem?_eq_some_iff.mp he0).1
      exact ⟨c.2, by rw [List.getElem?_set_self hlt, ← hc]⟩
    · exact ⟨e1, by rw [List.getElem?_set_ne hk]; exact he1⟩
theorem rc_at {is : List Nat} {w wc : va_W} (hC : is.map (fun i => w[i]?) = wc.map some) {k : Nat} {q : Nat × va_E} (h : wc[k]? = some q) : ∃ i, is[k]? = some i ∧ w[i]? = some q := by
  have h1 : (is.map (fun i => w[i]?))[k]? = some (some q) := by rw [hC, List.getElem?_map, h]; rfl
  rw [List.getElem?_map] at h1
  cases hi : is[k]? with
  | none => rw [hi] at h1; cases h1
  | some i => rw [hi] at h1; exact ⟨i, rfl, Option.some.inj h1⟩
theorem rc_len {is : List Nat} {w wc : va_W} (hC : is.map (fun i => w[i]?) = wc.map some) : is.length = wc.length := by
  have := congrArg List.length hC
  simpa using this
/-- the callee's cells are among the caller's -/
theorem rc_in {A : Nat → Prop} {is : List Nat} {w wc : va_W} (hD : va_D A w) (hC : is.map (fun i => w[i]?) = wc.map some) : ∀ q, rc_A wc q → A q := by
  intro q ⟨k, e, h⟩
  obtain ⟨i, -, h2⟩ := rc_at hC h
  exact hD.2 i _ h2
/-- behind a call: the callee's cells anew, at their places; all others as they were -/
theorem rc_join {A : Nat → Prop} {D : va_G} {cl : List vw_C} {is : List Nat} {w wc w1 : va_W} {H H1 : Heap} (hP : va_P D cl w H) (hD : va_D A w) (hC : is.map (fun i => w[i]?) = wc.map some) (hw : w1.map (fun q => q.1) = wc.map (fun q => q.1)) (hk : ∀ q : Nat, q < H.size → ¬ rc_A wc q → H1[q]? = H[q]?) (hP1 : va_P D cl w1 H1) : va_P D cl (rc_set w is w1) H1 ∧ va_D A (rc_set w is w1) := by
  have hl1 : w1.length = wc.length := by simpa using congrArg List.length hw
  have hl : is.length = w1.length := (rc_len hC).trans hl1.symm
  refine ⟨fun k q h => ?_, rc_set_D is w1 w hl hD (fun j i c h1 h2 => ?_)⟩
  · rcases rc_set_get is w1 w hl k q h with ⟨j, -, h2⟩ | ⟨h1, h2⟩
    · exact hP1 j q h2
    · refine (hP k q h2).kept (hk q.1 (hP k q h2).lt ?_)
      rintro ⟨k2, e, h3⟩
      obtain ⟨i, g1, g2⟩ := rc_at hC h3
      have := hD.1 k i q (q.1, e) h2 g2 rfl
      subst this
      exact h1 (List.mem_of_getElem? g1)
  · have hlt : j < wc.length := by rw [← hl1]; exact (List.getElem?_eq_some_iff.mp h2).1
    obtain ⟨cw, hcw⟩ : ∃ cw, wc[j]? = some cw := ⟨wc[j], List.getElem?_eq_getElem hlt⟩
    have he : c.1 = cw.1 := by
      have g := congrArg (fun l => l[j]?) hw
      simp only [List.getElem?_map, h2, hcw] at g
      exact Option.some.inj g
    obtain ⟨i', g1, g2⟩ := rc_at hC hcw
    cases h1.symm.trans g1
    exact ⟨cw.2, by rw [g2, he]⟩
/-- calls of the outer class's private methods out of the inner ones -/
def rc_N (U : State) : Prop := va_Nw (.methodLinkNest R_R 37 y_O_degree R_O) U ∧ va_Nw (.methodLinkNest R_R 97 y_O_inverse R_O) U ∧ va_Nw (.methodLinkNest R_R 67 y_O_number R_O) U ∧ va_Nw (.methodLinkNest R_R 93 y_O_isZero R_O) U ∧ va_Nw (.methodLinkNest R_B 48 y_O_inverse R_O) U ∧ va_Nw (.methodLinkNest R_B 54 y_O_number R_O) U
theorem rc_N.moved {s U : State} (hW : s.WarmedH U.vm) (h : rc_N s) : rc_N U := ⟨va_Nw.warmM hW h.1, va_Nw.warmM hW h.2.1, va_Nw.warmM hW h.2.2.1, va_Nw.warmM hW h.2.2.2.1, va_Nw.warmM hW h.2.2.2.2.1, va_Nw.warmM hW h.2.2.2.2.2⟩
theorem rc_N.same {s U : State} (hW : s.vm = U.vm) (h : rc_N s) : rc_N U := ⟨va_Nw.same rfl hW h.1, va_Nw.same rfl hW h.2.1, va_Nw.same rfl hW h.2.2.1, va_Nw.same rfl hW h.2.2.2.1, va_Nw.same rfl hW h.2.2.2.2.1, va_Nw.same rfl hW h.2.2.2.2.2⟩
/-- a contract's start -/
def rc_Pc (D : va_G) (cl : List vw_C) (tys : List (ClassId × FieldType)) (av : List Value) (w : va_W) : Array Value → State → Prop := va_Pc av (fun U => va_P D cl w U.heap ∧ va_K D cl tys U ∧ va_D (fun _ => True) w ∧ rc_N U)
theorem rc_blind {D : va_G} {cl : List vw_C} {tys : List (ClassId × FieldType)} {av : List Value} {w : va_W} : FrameBlind (rc_Pc D cl tys av w) := by
  intro a U g mk q
  obtain ⟨q0, qP, qK, qD, qN⟩ := q
  exact ⟨q0, qP, va_K.moved (u := U) (U := U.calling g mk a) (Vm.Alike.refl U.vm) qK, qD, rc_N.same rfl qN⟩
theorem rc_pre {D : va_G} {cl : List vw_C} {tys tysC : List (ClassId × FieldType)} {w wc : va_W} {A : Nat → Prop} {H : Heap} {s : State} {av : List Value} (hP : va_P D cl w H) (hD : va_D A w) (hK : va_K D cl tys s) (hN : rc_N s) (is : List Nat) (hC : is.map (fun i => w[i]?) = wc.map some) (hn : va_nd is = true) (it : List Nat) (hT : it.filterMap (fun i => tys[i]?) = tysC) :
    ∀ U : State, U.heap = H → s.WarmedH U.vm → rc_Pc D cl tysC av wc av.toArray U := by
  intro U hU hW
  refine ⟨rfl, ?_, va_K.moved hW.alike (hK.sub it hT), ?_, hN.moved hW⟩
  · rw [hU]
    intro k q h
    obtain ⟨i, -, g⟩ := rc_at hC h
    exact hP i q g
  · refine ⟨fun i j x y hx hy hxy => ?_, fun _ _ _ => trivial⟩
    obtain ⟨i1, g1, g2⟩ := rc_at hC hx
    obtain ⟨i2, g3, g4⟩ := rc_at hC hy
    have := hD.1 i1 i2 x y g2 g4 hxy
    subst this
    exact va_nd_inj is hn i j i1 g1 g3
section RCC
variable {p : Program} {l : Launch} {e : Env} {R : Room} {s : State} {m : MethodId} {args : Array Value} {below : List Frame} {meth : Method} {c : Code} {H : Heap} {locs : List Loc} {cells slots : Nat} {Q : State → Prop}
variable {pc : Nat} {ls : Array Slot} {rest st0 : List Value} {a : Array Value} {A : Nat → Prop} {H0 : Heap} {D : va_G} {cl : List vw_C} {w wc : va_W}
theorem rc_calll {S : Type} {post : Int64 → S → Prop} {w1 : S → va_W} (hr : va_Run p l e R s m args below meth c H locs cells slots 0 0 (F0 m pc ls st0) rest (va_Ql post (fun u t => va_P D cl (w1 u) t.heap) (rc_A wc) a) (rc_A wc)) (hP : va_P D cl w H) (hD : va_D A w) (hS : va_S A H0 H locs) (is : List Nat) (hC : is.map (fun i => w[i]?) = wc.map some) (hw : ∀ u, (w1 u).map (fun q => q.1) = wc.map (fun q => q.1))
    (kk : ∀ (r : Int64) (u : S) (H1 : Heap) (locs1 : List Loc), post r u → va_P D cl (rc_set w is (w1 u)) H1 → va_D A (rc_set w is (w1 u)) → va_S A H0 H1 locs1 → W p l e R s m args below meth c H1 locs1 cells slots Q (F0 m (pc + 3) ls (.long r :: rest))) : W p l e R s m args below meth c H locs cells slots Q (F0 m pc ls st0) := by
  have hF := rc_in hD hC
  refine va_calll hr hS (fun q _ h => hF q h) hF (fun r u t H1 locs1 ht _ hp hB _ hk hS1 => ?_)
  rw [ht] at hB
  obtain ⟨j1, j2⟩ := rc_join hP hD hC (hw u) hk hB
  exact kk r u H1 locs1 hp j1 j2 hS1
theorem rc_calli {S : Type} {post : Int32 → S → Prop} {w1 : S → va_W} (hr : va_Run p l e R s m args below meth c H locs cells slots 0 0 (F0 m pc ls st0) rest (va_Qi post (fun u t => va_P D cl (w1 u) t.heap) (rc_A wc) a) (rc_A wc)) (hP : va_P D cl w H) (hD : va_D A w) (hS : va_S A H0 H locs) (is : List Nat) (hC : is.map (fun i => w[i]?) = wc.map some) (hw : ∀ u, (w1 u).map (fun q => q.1) = wc.map (fun q => q.1))
    (kk : ∀ (r : Int32) (u : S) (H1 : Heap) (locs1 : List Loc), post r u → va_P D cl (rc_set w is (w1 u)) H1 → va_D A (rc_set w is (w1 u)) → va_S A H0 H1 locs1 → W p l e R s m args below meth c H1 locs1 cells slots Q (F0 m (pc + 3) ls (.int r :: rest))) : W p l e R s m args below meth c H locs cells slots Q (F0 m pc ls st0) := by
  have hF := rc_in hD hC
  refine va_calli hr hS (fun q _ h => hF q h) hF (fun r u t H1 locs1 ht _ hp hB _ hk hS1 => ?_)
  rw [ht] at hB
  obtain ⟨j1, j2⟩ := rc_join hP hD hC (hw u) hk hB
  exact kk r u H1 locs1 hp j1 j2 hS1
theorem rc_callv {S : Type} {post : S → Prop} {w1 : S → va_W} (hr : va_Run p l e R s m args below meth c H locs cells slots 0 0 (F0 m pc ls st0) rest (va_Qv post (fun u t => va_P D cl (w1 u) t.heap) (rc_A wc) a) (rc_A wc)) (hP : va_P D cl w H) (hD : va_D A w) (hS : va_S A H0 H locs) (is : List Nat) (hC : is.map (fun i => w[i]?) = wc.map some) (hw : ∀ u, (w1 u).map (fun q => q.1) = wc.map (fun q => q.1))
    (kk : ∀ (u : S) (H1 : Heap) (locs1 : List Loc), post u → va_P D cl (rc_set w is (w1 u)) H1 → va_D A (rc_set w is (w1 u)) → va_S A H0 H1 locs1 → W p l e R s m args below meth c H1 locs1 cells slots Q (F0 m (pc + 3) ls rest)) : W p l e R s m args below meth c H locs cells slots Q (F0 m pc ls st0) := by
  have hF := rc_in hD hC
  refine va_callv hr hS (fun q _ h => hF q h) hF (fun u t H1 locs1 ht _ hp hB _ hk hS1 => ?_)
  rw [ht] at hB
  obtain ⟨j1, j2⟩ := rc_join hP hD hC (hw u) hk hB
  exact kk u H1 locs1 hp j1 j2 hS1
theorem rc_callr {S : Type} {post : S → Prop} {ra : S → Nat} {w1 : S → va_W} (hr : va_Run p l e R s m args below meth c H locs cells slots 0 0 (F0 m pc ls st0) rest (va_Qr post (fun u b t => b = ra u ∧ va_P D cl (w1 u) t.heap) (rc_A wc) a) (rc_A wc)) (hP : va_P D cl w H) (hD : va_D A w) (hS : va_S A H0 H locs) (is : List Nat) (hC : is.map (fun i => w[i]?) = wc.map some) (hw : ∀ u, (w1 u).map (fun q => q.1) = wc.map (fun q => q.1))
    (kk : ∀ (u : S) (H1 : Heap) (locs1 : List Loc), post u → va_P D cl (rc_set w is (w1 u)) H1 → va_D A (rc_set w is (w1 u)) → va_S A H0 H1 locs1 → W p l e R s m args below meth c H1 locs1 cells slots Q (F0 m (pc + 3) ls (.ref (ra u) :: rest))) : W p l e R s m args below meth c H locs cells slots Q (F0 m pc ls st0) := by
  have hF := rc_in hD hC
  refine va_callr hr hS (fun q _ h => hF q h) hF (fun u b t H1 locs1 ht _ hp hB _ hk hS1 => ?_)
  obtain ⟨rfl, hB⟩ := hB
  rw [ht] at hB
  obtain ⟨j1, j2⟩ := rc_join hP hD hC (hw u) hk hB
  exact kk u H1 locs1 hp j1 j2 hS1
end RCC
