/-! THROWING: what a throw needs, and the calls of methods that throw -/
abbrev xI : String := "java/lang/IndexOutOfBoundsException"
abbrev xS : String := "java/lang/IllegalStateException"
abbrev xA : String := "java/lang/ArithmeticException"
def xN : List String := ["java/lang/RuntimeException", "java/lang/Exception"]
def rx_W (U : State) : Prop := va_Nw (.castable xI xI) U ∧ va_Nw (.castable xS xS) U ∧ va_Nw (.castable xA xA) U ∧ va_Nw (.declares (Bundle.initS "java/lang/RuntimeException")) U ∧ va_Nw (.declares (Bundle.initS "java/lang/Exception")) U ∧ va_Nw (.declares (Bundle.initS "java/lang/Throwable")) U ∧ va_Nc xI xS U ∧ va_Nc xA xI U
theorem rx_W.moved {s U : State} (hW : s.WarmedH U.vm) (h : rx_W s) : rx_W U := ⟨va_Nw.warmC hW h.1, va_Nw.warmC hW h.2.1, va_Nw.warmC hW h.2.2.1, va_Nw.warmD hW h.2.2.2.1, va_Nw.warmD hW h.2.2.2.2.1, va_Nw.warmD hW h.2.2.2.2.2.1, va_Nc.moved hW.alike h.2.2.2.2.2.2.1, va_Nc.moved hW.alike h.2.2.2.2.2.2.2⟩
theorem rx_W.same {s U : State} (hW : s.vm = U.vm) (h : rx_W s) : rx_W U := ⟨va_Nw.same rfl hW h.1, va_Nw.same rfl hW h.2.1, va_Nw.same rfl hW h.2.2.1, va_Nw.same rfl hW h.2.2.2.1, va_Nw.same rfl hW h.2.2.2.2.1, va_Nw.same rfl hW h.2.2.2.2.2.1, va_Nc.moved (by rw [hW]; exact Vm.Alike.refl U.vm) h.2.2.2.2.2.2.1, va_Nc.moved (by rw [hW]; exact Vm.Alike.refl U.vm) h.2.2.2.2.2.2.2⟩
def rx_S (sa : Nat → Nat) (U : State) : Prop := vk_R "RationalOdes" 152 "no such factor or power in it" (sa 0) U ∧ vk_R "RationalOdes" 154 "no such power" (sa 1) U ∧ vk_R "RationalOdes" 164 "the highest factor is 0" (sa 2) U ∧ vk_R "RationalOdes" 83 "no such place" (sa 3) U ∧ vk_R "RationalOdes" 171 "all factors are 0" (sa 4) U ∧ vk_R "RationalOdes" 156 "no such member of the base" (sa 5) U ∧ vk_R "RationalOdes" 126 "no such power in a series" (sa 6) U ∧ vk_R "RationalOdes" 134 "no series at a place" (sa 7) U
theorem rx_S.moved {sa : Nat → Nat} {s U : State} (hW : s.WarmedH U.vm) (h : rx_S sa s) : rx_S sa U := ⟨vk_R.warm hW h.1, vk_R.warm hW h.2.1, vk_R.warm hW h.2.2.1, vk_R.warm hW h.2.2.2.1, vk_R.warm hW h.2.2.2.2.1, vk_R.warm hW h.2.2.2.2.2.1, vk_R.warm hW h.2.2.2.2.2.2.1, vk_R.warm hW h.2.2.2.2.2.2.2⟩
theorem rx_S.same {sa : Nat → Nat} {s U : State} (hW : U.vm = s.vm) (h : rx_S sa s) : rx_S sa U := ⟨vk_R.same hW h.1, vk_R.same hW h.2.1, vk_R.same hW h.2.2.1, vk_R.same hW h.2.2.2.1, vk_R.same hW h.2.2.2.2.1, vk_R.same hW h.2.2.2.2.2.1, vk_R.same hW h.2.2.2.2.2.2.1, vk_R.same hW h.2.2.2.2.2.2.2⟩
def rx_Z (A : Nat → Prop) (U : State) (H : Heap) : Prop := vx_Zq Bundle.tN "UNASSIGNED_STACK" Bundle.steD A U H ∧ vx_Zq Bundle.tN "SUPPRESSED_SENTINEL" Bundle.listD A U H
def rx_E (sa : Nat → Nat) (A : Nat → Prop) (U : State) (H : Heap) : Prop := rx_W U ∧ rx_S sa U ∧ rx_Z A U H
theorem rx_E.go {sa : Nat → Nat} {A B : Nat → Prop} {s U : State} {H : Heap} {locs : List Loc} (hE : rx_E sa A s s.heap) (hS : va_S A s.heap H locs) (hAB : ∀ q, B q → A q) (hU : U.heap = H) (hW : s.WarmedH U.vm) : rx_E sa B U U.heap := by
  rw [hU]
  exact ⟨hE.1.moved hW, hE.2.1.moved hW, vx_Zq.narrow (vx_Zq.moved hW.alike (hE.2.2.1.kept hS.2.1)) hAB, vx_Zq.narrow (vx_Zq.moved hW.alike (hE.2.2.2.kept hS.2.1)) hAB⟩
def rx_Px (D : va_G) (cl : List vw_C) (tys : List (ClassId × FieldType)) (av : List Value) (w : va_W) (sa : Nat → Nat) : Array Value → State → Prop := fun a U => rc_Pc D cl tys av w a U ∧ rx_E sa (rc_A w) U U.heap
theorem rx_blind {D : va_G} {cl : List vw_C} {tys : List (ClassId × FieldType)} {av : List Value} {w : va_W} {sa : Nat → Nat} : FrameBlind (rx_Px D cl tys av w sa) := by
  intro a U g mk q
  exact ⟨rc_blind a U g mk q.1, rx_W.same rfl q.2.1, rx_S.same rfl q.2.2.1, vx_Zq.moved (u := U) (U := U.calling g mk a) (Vm.Alike.refl U.vm) q.2.2.2.1, vx_Zq.moved (u := U) (U := U.calling g mk a) (Vm.Alike.refl U.vm) q.2.2.2.2⟩
theorem rx_keep {D : va_G} {cl : List vw_C} {w : va_W} {A : Nat → Prop} {s t : State} {H : Heap} {locs : List Loc} (hP : va_P D cl w H) (hS : va_S A s.heap H locs) (h1 : H.size ≤ t.heap.size) (h2 : ∀ q : Nat, q < H.size → t.heap[q]? = H[q]?) : va_P D cl w t.heap ∧ va_F A s t :=
  ⟨hP.kept (fun k x hx => h2 x.1 ((hP k x hx).lt)), Nat.le_trans hS.1 h1, fun q h3 h4 => (h2 q (Nat.lt_of_lt_of_le h3 hS.1)).trans (hS.2.1 q h3 h4)⟩
theorem xt_I : ∀ w ∈ (vx_atS "RationalOdes" 85 xI xN).filter goodWord, w ∈ kb := fun w h => kb_t ((by decide +kernel : ∀ w ∈ (vx_atS "RationalOdes" 85 xI xN).filter goodWord, w ∈ tables_1) w h) ((by decide +kernel : ∀ w ∈ (vx_atS "RationalOdes" 85 xI xN).filter goodWord, goodWord w = true) w h)
theorem xb_I : ∀ w ∈ (vx_atS "RationalOdes" 85 xI xN).filter (fun w => !goodWord w), w ∈ ([.castable xI xI, .declares (Bundle.initS "java/lang/RuntimeException"), .declares (Bundle.initS "java/lang/Exception"), .declares (Bundle.initS "java/lang/Throwable")] : List Cond) := by decide +kernel
theorem xo_I : ∀ w ∈ Cond.classLink "RationalOdes" 81 xI :: Cond.initialized xI :: vx_atS "RationalOdes" 85 xI xN, vx_ot w = true := by decide +kernel
theorem xh_I {args : Array Value} {s : State} (hts : ∀ w ∈ kb, w.before args s = true) (h : rx_W s) : ∀ w ∈ vx_atS "RationalOdes" 85 xI xN, w.before args s = true := vx_hat (fun w hw => hts w (xt_I w hw)) xb_I (vx_c (va_Nw.use rfl h.1) (vx_c (va_Nw.use rfl h.2.2.2.1) (vx_c (va_Nw.use rfl h.2.2.2.2.1) (vx_c (va_Nw.use rfl h.2.2.2.2.2.1) vx_n))))
theorem xt_S : ∀ w ∈ (vx_atS "RationalOdes" 166 xS xN).filter goodWord, w ∈ kb := fun w h => kb_t ((by decide +kernel : ∀ w ∈ (vx_atS "RationalOdes" 166 xS xN).filter goodWord, w ∈ tables_1) w h) ((by decide +kernel : ∀ w ∈ (vx_atS "RationalOdes" 166 xS xN).filter goodWord, goodWord w = true) w h)
theorem xb_S : ∀ w ∈ (vx_atS "RationalOdes" 166 xS xN).filter (fun w => !goodWord w), w ∈ ([.castable xS xS, .declares (Bundle.initS "java/lang/RuntimeException"), .declares (Bundle.initS "java/lang/Exception"), .declares (Bundle.initS "java/lang/Throwable")] : List Cond) := by decide +kernel
theorem xo_S : ∀ w ∈ Cond.classLink "RationalOdes" 162 xS :: Cond.initialized xS :: vx_atS "RationalOdes" 166 xS xN, vx_ot w = true := by decide +kernel
theorem xh_S {args : Array Value} {s : State} (hts : ∀ w ∈ kb, w.before args s = true) (h : rx_W s) : ∀ w ∈ vx_atS "RationalOdes" 166 xS xN, w.before args s = true := vx_hat (fun w hw => hts w (xt_S w hw)) xb_S (vx_c (va_Nw.use rfl h.2.1) (vx_c (va_Nw.use rfl h.2.2.2.1) (vx_c (va_Nw.use rfl h.2.2.2.2.1) (vx_c (va_Nw.use rfl h.2.2.2.2.2.1) vx_n))))
theorem xt_A : ∀ w ∈ (vx_atS "RationalOdes" 136 xA xN).filter goodWord, w ∈ kb := fun w h => kb_t ((by decide +kernel : ∀ w ∈ (vx_atS "RationalOdes" 136 xA xN).filter goodWord, w ∈ tables_1) w h) ((by decide +kernel : ∀ w ∈ (vx_atS "RationalOdes" 136 xA xN).filter goodWord, goodWord w = true) w h)
theorem xb_A : ∀ w ∈ (vx_atS "RationalOdes" 136 xA xN).filter (fun w => !goodWord w), w ∈ ([.castable xA xA, .declares (Bundle.initS "java/lang/RuntimeException"), .declares (Bundle.initS "java/lang/Exception"), .declares (Bundle.initS "java/lang/Throwable")] : List Cond) := by decide +kernel
theorem xo_A : ∀ w ∈ Cond.classLink "RationalOdes" 132 xA :: Cond.initialized xA :: vx_atS "RationalOdes" 136 xA xN, vx_ot w = true := by decide +kernel
theorem xh_A {args : Array Value} {s : State} (hts : ∀ w ∈ kb, w.before args s = true) (h : rx_W s) : ∀ w ∈ vx_atS "RationalOdes" 136 xA xN, w.before args s = true := vx_hat (fun w hw => hts w (xt_A w hw)) xb_A (vx_c (va_Nw.use rfl h.2.2.1) (vx_c (va_Nw.use rfl h.2.2.2.1) (vx_c (va_Nw.use rfl h.2.2.2.2.1) (vx_c (va_Nw.use rfl h.2.2.2.2.2.1) vx_n))))
section RXC
variable {p : Program} {l : Launch} {e : Env} {R : Room} {s : State} {m : MethodId} {args : Array Value} {below : List Frame} {meth : Method} {c : Code} {H : Heap} {locs : List Loc} {cells slots : Nat} {Q : State → Prop}
variable {pc : Nat} {ls : Array Slot} {rest st0 : List Value} {a : Array Value} {A : Nat → Prop} {H0 : Heap} {D : va_G} {cl : List vw_C} {w wc X S Y Xc : va_W} {mc ms : Nat} {EX : String}
theorem rx_callv {T : Type} {px : T → Prop} {w1 : T → va_W} (hr : vx_Run p l e R s m args below meth c H locs cells slots mc ms (F0 m pc ls st0) rest (va_Qv (fun (_ : Unit) => False) (fun _ _ => True) (rc_A wc) a) (vx_X px (fun E u t => E = EX ∧ va_P D cl (w1 u) t.heap) (rc_A wc)) (rc_A wc)) (hP : va_P D cl w H) (hD : va_D A w) (hS : va_S A H0 H locs) (is : List Nat) (hC : is.map (fun i => w[i]?) = wc.map some) (hw : ∀ u, (w1 u).map (fun q => q.1) = wc.map (fun q => q.1))
    (kx : ∀ (ce : Cell) (q9 : Addr) (u : T) (H1 : Heap) (locs1 : List Loc), px u → va_P D cl (rc_set w is (w1 u)) H1 → va_D A (rc_set w is (w1 u)) → va_S A H0 H1 locs1 → H1[q9]? = some ce → ce.vm = .none → s.vm.findClass EX = some ce.cls → vx_W p l e R s m args below meth c H1 locs1 (cells + mc) (slots + ms) Q (F0 m pc ls rest) q9) : W p l e R s m args below meth c H locs cells slots Q (F0 m pc ls st0) := by
  have hF := rc_in hD hC
  refine vx_callv hr hS (fun q _ h => hF q h) hF (fun q _ h => hF q h) (fun E ce q9 u t H1 locs1 ht _ hp hB _ hk hS1 h5 h6 h7 => ?_) (fun u t H1 locs1 _ _ hp _ _ _ _ => hp.elim)
  obtain ⟨rfl, hB⟩ := hB
  rw [ht] at hB
  obtain ⟨j1, j2⟩ := rc_join hP hD hC (hw u) hk hB
  exact kx ce q9 u H1 locs1 hp j1 j2 hS1 h5 h6 h7
theorem rxT_callv {T : Type} {px : T → Prop} {X1 S1 : T → va_W} (hr : vx_Run p l e R s m args below meth c H locs cells slots mc ms (F0 m pc ls st0) rest (va_Qv (fun (_ : Unit) => False) (fun _ _ => True) (rc_A (Xc ++ S)) a) (vx_X px (fun E u t => E = EX ∧ va_P D cl (X1 u ++ S1 u) t.heap) (rc_A (Xc ++ S))) (rc_A (Xc ++ S))) (hP : va_P D cl (X ++ (S ++ Y)) H) (hD : va_D A (X ++ (S ++ Y))) (hS : va_S A H0 H locs) (is : List Nat) (hC : is.map (fun i => X[i]?) = Xc.map some) (hw : ∀ u, (X1 u).map (fun q => q.1) = Xc.map (fun q => q.1)) (hs : ∀ u, (S1 u).map (fun q => q.1) = S.map (fun q => q.1))
    (kx : ∀ (ce : Cell) (q9 : Addr) (u : T) (H1 : Heap) (locs1 : List Loc), px u → va_P D cl (rc_set X is (X1 u) ++ (S1 u ++ Y)) H1 → va_D A (rc_set X is (X1 u) ++ (S1 u ++ Y)) → va_S A H0 H1 locs1 → H1[q9]? = some ce → ce.vm = .none → s.vm.findClass EX = some ce.cls → vx_W p l e R s m args below meth c H1 locs1 (cells + mc) (slots + ms) Q (F0 m pc ls rest) q9) : W p l e R s m args below meth c H locs cells slots Q (F0 m pc ls st0) := by
  have hF := rs_in hD hC
  refine vx_callv hr hS (fun q _ h => hF q h) hF (fun q _ h => hF q h) (fun E ce q9 u t H1 locs1 ht _ hp hB _ hk hS1 h5 h6 h7 => ?_) (fun u t H1 locs1 _ _ hp _ _ _ _ => hp.elim)
  obtain ⟨rfl, hB⟩ := hB
  rw [ht] at hB
  obtain ⟨j1, j2⟩ := rs_join hP hD hC (hw u) (hs u) hk hB
  exact kx ce q9 u H1 locs1 hp j1 j2 hS1 h5 h6 h7
theorem rx_calli {T : Type} {px : T → Prop} {w1 : T → va_W} (hr : vx_Run p l e R s m args below meth c H locs cells slots mc ms (F0 m pc ls st0) rest (va_Qi (fun (_ : Int32) (_ : Unit) => False) (fun _ _ => True) (rc_A wc) a) (vx_X px (fun E u t => E = EX ∧ va_P D cl (w1 u) t.heap) (rc_A wc)) (rc_A wc)) (hP : va_P D cl w H) (hD : va_D A w) (hS : va_S A H0 H locs) (is : List Nat) (hC : is.map (fun i => w[i]?) = wc.map some) (hw : ∀ u, (w1 u).map (fun q => q.1) = wc.map (fun q => q.1))
    (kx : ∀ (ce : Cell) (q9 : Addr) (u : T) (H1 : Heap) (locs1 : List Loc), px u → va_P D cl (rc_set w is (w1 u)) H1 → va_D A (rc_set w is (w1 u)) → va_S A H0 H1 locs1 → H1[q9]? = some ce → ce.vm = .none → s.vm.findClass EX = some ce.cls → vx_W p l e R s m args below meth c H1 locs1 (cells + mc) (slots + ms) Q (F0 m pc ls rest) q9) : W p l e R s m args below meth c H locs cells slots Q (F0 m pc ls st0) := by
  have hF := rc_in hD hC
  refine vx_calli hr hS (fun q _ h => hF q h) hF (fun q _ h => hF q h) (fun E ce q9 u t H1 locs1 ht _ hp hB _ hk hS1 h5 h6 h7 => ?_) (fun r u t H1 locs1 _ _ hp _ _ _ _ => hp.elim)
  obtain ⟨rfl, hB⟩ := hB
  rw [ht] at hB
  obtain ⟨j1, j2⟩ := rc_join hP hD hC (hw u) hk hB
  exact kx ce q9 u H1 locs1 hp j1 j2 hS1 h5 h6 h7
theorem rxT_calli {T : Type} {px : T → Prop} {X1 S1 : T → va_W} (hr : vx_Run p l e R s m args below meth c H locs cells slots mc ms (F0 m pc ls st0) rest (va_Qi (fun (_ : Int32) (_ : Unit) => False) (fun _ _ => True) (rc_A (Xc ++ S)) a) (vx_X px (fun E u t => E = EX ∧ va_P D cl (X1 u ++ S1 u) t.heap) (rc_A (Xc ++ S))) (rc_A (Xc ++ S))) (hP : va_P D cl (X ++ (S ++ Y)) H) (hD : va_D A (X ++ (S ++ Y))) (hS : va_S A H0 H locs) (is : List Nat) (hC : is.map (fun i => X[i]?) = Xc.map some) (hw : ∀ u, (X1 u).map (fun q => q.1) = Xc.map (fun q => q.1)) (hs : ∀ u, (S1 u).map (fun q => q.1) = S.map (fun q => q.1))
    (kx : ∀ (ce : Cell) (q9 : Addr) (u : T) (H1 : Heap) (locs1 : List Loc), px u → va_P D cl (rc_set X is (X1 u) ++ (S1 u ++ Y)) H1 → va_D A (rc_set X is (X1 u) ++ (S1 u ++ Y)) → va_S A H0 H1 locs1 → H1[q9]? = some ce → ce.vm = .none → s.vm.findClass EX = some ce.cls → vx_W p l e R s m args below meth c H1 locs1 (cells + mc) (slots + ms) Q (F0 m pc ls rest) q9) : W p l e R s m args below meth c H locs cells slots Q (F0 m pc ls st0) := by
  have hF := rs_in hD hC
  refine vx_calli hr hS (fun q _ h => hF q h) hF (fun q _ h => hF q h) (fun E ce q9 u t H1 locs1 ht _ hp hB _ hk hS1 h5 h6 h7 => ?_) (fun r u t H1 locs1 _ _ hp _ _ _ _ => hp.elim)
  obtain ⟨rfl, hB⟩ := hB
  rw [ht] at hB
  obtain ⟨j1, j2⟩ := rs_join hP hD hC (hw u) (hs u) hk hB
  exact kx ce q9 u H1 locs1 hp j1 j2 hS1 h5 h6 h7
end RXC
