section WL
variable {p : Program} {l : Launch} {e : Env} {s : State} {m : MethodId} {args : Array Value} {below : List Frame} {meth : Method} {c : Code} {Q : State → Prop} {D : va_G} {A : Nat → Prop}
set_option maxHeartbeats 4000000 in
set_option maxRecDepth 100000 in
theorem lc_0 {cJ cO cI : ClassId} {ou h fa ot ah te id rt bs : Nat} {od : Int} {fo wh pt rs sq on tw : Nat} {ro le me : Nat} {fr er mb ra : Nat → Nat} {g : Nat} {fc hd md lo tb rw bm nu tu : Nat} {o : Nat} {sa : Nat → Nat} {ct b L : Nat} {xs : Nat → Int32} {V : Nat → Int64} {kn : Int} {a : Nat → ro_K} {T : Nat → ro_K} {J : Nat → ro_K} {cn : Int} {Fo : Nat → ro_K} {Y : Nat → ro_K} {P : Nat → ro_K} {r : Nat → ro_K} {S : Nat → ro_K} {a1 : Nat → ro_K} {b1 : Nat → ro_K} {bn : Int} {Lx : Nat → Int} {E : Nat → Nat → ro_K} {F : Nat → Nat → ro_K} {Bm : Nat → Nat → ro_K} {M : Nat → Nat → ro_K} {cd : Int} {lv : Int} {mn : Int} {G : Nat → Nat → ro_K} {a2 : Nat → ro_K} {P2 : Nat → ro_K} {E2 : Nat → Nat → ro_K} {M2 : Nat → Nat → ro_K} {L2 : Nat → Int} {B2 : Nat → Nat → ro_K} {T2 : Nat → ro_K} {U2 : Nat → Nat → ro_K} {z4 : Int} {k kc ks : Nat} {H : Heap} {locs : List Loc} {ls : Array Slot} (hx : p.tables.exec = Jvm.exec) (hb : c.code = c_L_law) (hml : c.maxLocals = 7) (hown : s.vm.findClass R_L = some m.cls) (hts : ∀ w ∈ kb, w.before args s = true) (hK : va_K D vC [(cJ, .long), (cO, .array .long), (cI, .int)] s) (hN : rc_N s) (hst : l.stackTraces = false) (hE : rx_E sa A s s.heap) (hC : rz_C ct A s s.heap) (hX : va_X b L xs s s.heap) (hbl : b < s.heap.size) (hbA : ¬ A b) (hL : L ≤ 5121) (hod : od = (o : Int)) (ho1 : 1 ≤ o) (ho3 : o ≤ 3) (hz4 : z4 = (k : Int)) (hk9 : k + 9 < L) (hkc : kc + 1 ≤ 601024) (hks : ks + 6 ≤ 7293000) (hI : (lw_I o F E a kn M Lx Bm bn G a2 ∧ J 4 = 0)) (hend : ∀ (V : Nat → Int64) (kn : Int) (a : Nat → ro_K) (T : Nat → ro_K) (J : Nat → ro_K) (cn : Int) (Fo : Nat → ro_K) (Y : Nat → ro_K) (P : Nat → ro_K) (r : Nat → ro_K) (S : Nat → ro_K) (a1 : Nat → ro_K) (b1 : Nat → ro_K) (bn : Int) (Lx : Nat → Int) (E : Nat → Nat → ro_K) (F : Nat → Nat → ro_K) (Bm : Nat → Nat → ro_K) (M : Nat → Nat → ro_K) (cd : Int) (lv : Int) (mn : Int) (G : Nat → Nat → ro_K) (a2 : Nat → ro_K) (P2 : Nat → ro_K) (E2 : Nat → Nat → ro_K) (M2 : Nat → Nat → ro_K) (L2 : Nat → Int) (B2 : Nat → Nat → ro_K) (T2 : Nat → ro_K) (U2 : Nat → Nat → ro_K) (H : Heap) (locs : List Loc) (ls : Array Slot), (lw_I o F E a kn M Lx Bm bn G a2 ∧ J 4 = 0) → va_P D vC (((([(ou, kl cJ 1 V), (h, rO od fa ot ah te id rt bs kn), (fa, go cO 4 fr), (ot, go cO 4 er), (ah, ka cJ 13 a), (te, ka cJ 31 T), (id, ka cJ 5 J), (rt, rR fo cn wh pt rs sq on tw), (fo, ka cJ 4 Fo), (wh, ka cJ 5 Y), (pt, ka cJ 5 P), (rs, ka cJ 5 r), (sq, ka cJ 8 S), (on, ka cJ 5 a1), (tw, ka cJ 5 b1), (bs, rB ro le me bn), (ro, go cO 17 ra), (le, ki cI 13 Lx), (me, go cO 13 mb), (g, rM cd od fc hd md lo lv tb rw bm mn nu tu), (fc, k2 cJ 20 5 G), (hd, ka cJ 13 a2), (md, ka cJ 17 P2), (lo, k2 cJ 20 5 E2), (tb, k2 cJ 221 13 M2), (rw, ki cI 13 L2), (bm, k2 cJ 169 13 B2), (nu, ka cJ 31 T2), (tu, k2 cJ 20 5 U2)] ++ gs 4 er cJ 5 E) ++ gs 4 fr cJ 5 F) ++ gs 13 mb cJ 13 Bm) ++ gs 17 ra cJ 13 M) H → va_D A (((([(ou, kl cJ 1 V), (h, rO od fa ot ah te id rt bs kn), (fa, go cO 4 fr), (ot, go cO 4 er), (ah, ka cJ 13 a), (te, ka cJ 31 T), (id, ka cJ 5 J), (rt, rR fo cn wh pt rs sq on tw), (fo, ka cJ 4 Fo), (wh, ka cJ 5 Y), (pt, ka cJ 5 P), (rs, ka cJ 5 r), (sq, ka cJ 8 S), (on, ka cJ 5 a1), (tw, ka cJ 5 b1), (bs, rB ro le me bn), (ro, go cO 17 ra), (le, ki cI 13 Lx), (me, go cO 13 mb), (g, rM cd od fc hd md lo lv tb rw bm mn nu tu), (fc, k2 cJ 20 5 G), (hd, ka cJ 13 a2), (md, ka cJ 17 P2), (lo, k2 cJ 20 5 E2), (tb, k2 cJ 221 13 M2), (rw, ki cI 13 L2), (bm, k2 cJ 169 13 B2), (nu, ka cJ 31 T2), (tu, k2 cJ 20 5 U2)] ++ gs 4 er cJ 5 E) ++ gs 4 fr cJ 5 F) ++ gs 13 mb cJ 13 Bm) ++ gs 17 ra cJ 13 M) → va_S A s.heap H locs → lv_has ls 7 [(0, .ref b), (1, .ref h), (2, .ref g), (3, .ref ou), (4, .int (iz z4))] → W p l e room_1 s m args below meth c H locs (kc + 1) (ks + 6) Q (F0 m 1338 ls [])) (hP : va_P D vC (((([(ou, kl cJ 1 V), (h, rO od fa ot ah te id rt bs kn), (fa, go cO 4 fr), (ot, go cO 4 er), (ah, ka cJ 13 a), (te, ka cJ 31 T), (id, ka cJ 5 J), (rt, rR fo cn wh pt rs sq on tw), (fo, ka cJ 4 Fo), (wh, ka cJ 5 Y), (pt, ka cJ 5 P), (rs, ka cJ 5 r), (sq, ka cJ 8 S), (on, ka cJ 5 a1), (tw, ka cJ 5 b1), (bs, rB ro le me bn), (ro, go cO 17 ra), (le, ki cI 13 Lx), (me, go cO 13 mb), (g, rM cd od fc hd md lo lv tb rw bm mn nu tu), (fc, k2 cJ 20 5 G), (hd, ka cJ 13 a2), (md, ka cJ 17 P2), (lo, k2 cJ 20 5 E2), (tb, k2 cJ 221 13 M2), (rw, ki cI 13 L2), (bm, k2 cJ 169 13 B2), (nu, ka cJ 31 T2), (tu, k2 cJ 20 5 U2)] ++ gs 4 er cJ 5 E) ++ gs 4 fr cJ 5 F) ++ gs 13 mb cJ 13 Bm) ++ gs 17 ra cJ 13 M) H) (hD : va_D A (((([(ou, kl cJ 1 V), (h, rO od fa ot ah te id rt bs kn), (fa, go cO 4 fr), (ot, go cO 4 er), (ah, ka cJ 13 a), (te, ka cJ 31 T), (id, ka cJ 5 J), (rt, rR fo cn wh pt rs sq on tw), (fo, ka cJ 4 Fo), (wh, ka cJ 5 Y), (pt, ka cJ 5 P), (rs, ka cJ 5 r), (sq, ka cJ 8 S), (on, ka cJ 5 a1), (tw, ka cJ 5 b1), (bs, rB ro le me bn), (ro, go cO 17 ra), (le, ki cI 13 Lx), (me, go cO 13 mb), (g, rM cd od fc hd md lo lv tb rw bm mn nu tu), (fc, k2 cJ 20 5 G), (hd, ka cJ 13 a2), (md, ka cJ 17 P2), (lo, k2 cJ 20 5 E2), (tb, k2 cJ 221 13 M2), (rw, ki cI 13 L2), (bm, k2 cJ 169 13 B2), (nu, ka cJ 31 T2), (tu, k2 cJ 20 5 U2)] ++ gs 4 er cJ 5 E) ++ gs 4 fr cJ 5 F) ++ gs 13 mb cJ 13 Bm) ++ gs 17 ra cJ 13 M)) (hS : va_S A s.heap H locs) (hl : lv_has ls 7 [(0, .ref b), (1, .ref h), (2, .ref g), (3, .ref ou), (4, .int (iz z4))]) : W p l e room_1 s m args below meth c H locs kc ks Q (F0 m 132 ls []) := by
  obtain ⟨hI, hJ⟩ := hI
  have hs1 := sx_in xs (k + 1)
  have hs2 := sx_in xs (k + 2)
  have hs3 := sx_in xs (k + 3)
  have hs4 := sx_in xs (k + 4)
  have hfc : kc + 0 ≤ room_1.cells := by show kc + 0 ≤ 601024; omega
  have hfs : ks + 0 ≤ room_1.slots := by show ks + 0 ≤ 7293000; omega
  have hfc1 : kc + 1 ≤ room_1.cells := hkc
  have hfs1 : ks + 6 ≤ room_1.slots := hks
  by_cases hok : 0 ≤ (sx xs (k + 1)) ∧ (sx xs (k + 1)) ≤ od ∧ 0 ≤ (sx xs (k + 2)) ∧ (sx xs (k + 2)) < 5
  · by_cases hf : F ((sx xs (k + 1)).toNat) ((sx xs (k + 2)).toNat) = ro_k (lwd (sx xs (k + 3)) (sx xs (k + 4))).toInt
    · refine lv_aload_n hx hb d_L_law_132 rfl (lv_at hl 1 rfl) ?_
      refine lv_aload_n hx hb d_L_law_133 rfl (lv_at hl 0 rfl) ?_
      refine lv_iload hx hb d_L_law_134 (lv_at hl 4 rfl) ?_
      refine rz_iconst hx hb d_L_law_136 ?_
      refine rz_iadd hx hb d_L_law_137 ?_
      refine rl_sld hx hb hX hbl hbA hS (k + 1) d_L_law_138 ?_
      refine lv_aload_n hx hb d_L_law_139 rfl (lv_at hl 0 rfl) ?_
      refine lv_iload hx hb d_L_law_140 (lv_at hl 4 rfl) ?_
      refine rz_iconst hx hb d_L_law_142 ?_
      refine rz_iadd hx hb d_L_law_143 ?_
      refine rl_sld hx hb hX hbl hbA hS (k + 2) d_L_law_144 ?_
      refine lv_aload_n hx hb d_L_law_145 rfl (lv_at hl 0 rfl) ?_
      refine lv_iload hx hb d_L_law_146 (lv_at hl 4 rfl) ?_
      refine rz_iconst hx hb d_L_law_148 ?_
      refine rz_iadd hx hb d_L_law_149 ?_
      refine rl_sld hx hb hX hbl hbA hS (k + 3) d_L_law_150 ?_
      refine lv_i2l hx hb d_L_law_151 rfl ?_
      refine rz_bipush hx hb d_L_law_152 (by decide) ?_
      refine lv_lshl hx hb d_L_law_154 rfl ?_
      refine lv_aload_n hx hb d_L_law_155 rfl (lv_at hl 0 rfl) ?_
      refine lv_iload hx hb d_L_law_156 (lv_at hl 4 rfl) ?_
      refine rz_iconst hx hb d_L_law_158 ?_
      refine rz_iadd hx hb d_L_law_159 ?_
      refine rl_sld hx hb hX hbl hbA hS (k + 4) d_L_law_160 ?_
      refine lv_i2l hx hb d_L_law_161 rfl ?_
      refine lv_ldc2 (v := 4294967295) hx hb hown (hts _ kw_712) d_L_law_162 ?_
      refine lv_land hx hb d_L_law_165 ?_
      refine lv_lor hx hb d_L_law_166 ?_
      refine lv_aload_n hx hb d_L_law_167 rfl (lv_at hl 3 rfl) ?_
      refine rsM_calli (vx_runSW (hh := [((0 : Nat), (19 : Nat), (22 : Nat), (13 : Nat))]) (As := [.ref h, .int (iz (sx xs (k + 1))), .int (iz (sx xs (k + 2))), .long (lwd (sx xs (k + 3)) (sx xs (k + 4))), .ref ou]) (rest := []) ⟨hx, hb, hml, hown, hts⟩ (h_L_put l D cJ cO h fa ot ah te id rt bs od kn ou V fr F (sx xs (k + 1)) (sx xs (k + 2)) (lwd (sx xs (k + 3)) (sx xs (k + 4))) o hod ho3 ((sx xs (k + 1)).toNat) ((sx xs (k + 2)).toNat) (by omega) (by omega) (by omega) (by omega)) (vx_cwSW 5 hts (kb_gi (kb_c kw_214 (kb_c kw_215 (kb_c kw_0 (kb_c kw_216 kb_all))))) rfl rfl rfl (by decide +kernel) ⟨Nat.le_of_ble_eq_true rfl, Nat.le_of_ble_eq_true rfl⟩) ⟨rc_blind, rs_pre (rs_a2 hP) (rs_aD2 hD) hK hN [1, 2, 0] rfl rfl [0, 1] rfl⟩ rfl rfl hl.1 rfl (lv_room (Nat.le_of_ble_eq_true rfl)) d_L_law_168 ⟨hfc, hfs⟩) (rs_a2 hP) (rs_aD2 hD) hS [1, 2, 0] rfl (fun _ => rfl) (fun _ => gs_adr _ _ _ _ _ _) (fun r1 u2 H locs hw2 hP hD hS => ?_)
      have hP := rs_b2 hP
      have hD := rs_bD2 hD
      obtain ⟨rfl, hw9⟩ := hw2
      have h9 : u2 = (kn, F, 0) := hw9.elim (fun z => z.2) (fun z => absurd hf z.1)
      subst h9
      have hP : va_P D vC (((([(ou, kl cJ 1 (vp_updL V 0 (lk 0))), (h, rO od fa ot ah te id rt bs kn), (fa, go cO 4 fr), (ot, go cO 4 er), (ah, ka cJ 13 a), (te, ka cJ 31 T), (id, ka cJ 5 J), (rt, rR fo cn wh pt rs sq on tw), (fo, ka cJ 4 Fo), (wh, ka cJ 5 Y), (pt, ka cJ 5 P), (rs, ka cJ 5 r), (sq, ka cJ 8 S), (on, ka cJ 5 a1), (tw, ka cJ 5 b1), (bs, rB ro le me bn), (ro, go cO 17 ra), (le, ki cI 13 Lx), (me, go cO 13 mb), (g, rM cd od fc hd md lo lv tb rw bm mn nu tu), (fc, k2 cJ 20 5 G), (hd, ka cJ 13 a2), (md, ka cJ 17 P2), (lo, k2 cJ 20 5 E2), (tb, k2 cJ 221 13 M2), (rw, ki cI 13 L2), (bm, k2 cJ 169 13 B2), (nu, ka cJ 31 T2), (tu, k2 cJ 20 5 U2)] ++ gs 4 er cJ 5 E) ++ gs 4 fr cJ 5 F) ++ gs 13 mb cJ 13 Bm) ++ gs 17 ra cJ 13 M) H := hP
      have hD : va_D A (((([(ou, kl cJ 1 (vp_updL V 0 (lk 0))), (h, rO od fa ot ah te id rt bs kn), (fa, go cO 4 fr), (ot, go cO 4 er), (ah, ka cJ 13 a), (te, ka cJ 31 T), (id, ka cJ 5 J), (rt, rR fo cn wh pt rs sq on tw), (fo, ka cJ 4 Fo), (wh, ka cJ 5 Y), (pt, ka cJ 5 P), (rs, ka cJ 5 r), (sq, ka cJ 8 S), (on, ka cJ 5 a1), (tw, ka cJ 5 b1), (bs, rB ro le me bn), (ro, go cO 17 ra), (le, ki cI 13 Lx), (me, go cO 13 mb), (g, rM cd od fc hd md lo lv tb rw bm mn nu tu), (fc, k2 cJ 20 5 G), (hd, ka cJ 13 a2), (md, ka cJ 17 P2), (lo, k2 cJ 20 5 E2), (tb, k2 cJ 221 13 M2), (rw, ki cI 13 L2), (bm, k2 cJ 169 13 B2), (nu, ka cJ 31 T2), (tu, k2 cJ 20 5 U2)] ++ gs 4 er cJ 5 E) ++ gs 4 fr cJ 5 F) ++ gs 13 mb cJ 13 Bm) ++ gs 17 ra cJ 13 M) := hD
      refine lv_istore (lv' := [(5, .int (iz 0)), (0, .ref b), (1, .ref h), (2, .ref g), (3, .ref ou), (4, .int (iz z4))]) hx hb d_L_law_171 hl (by decide) rfl (fun ls hl => ?_)
      refine lv_aload_n hx hb d_L_law_173 rfl (lv_at hl 3 rfl) ?_
      refine lv_aload_n hx hb d_L_law_174 rfl (lv_at hl 1 rfl) ?_
      refine lv_iload hx hb d_L_law_175 (lv_at hl 5 rfl) ?_
      refine rz_iconst hx hb d_L_law_177 ?_
      refine rz_iadd hx hb d_L_law_178 ?_
      refine rl_sld hx hb hX hbl hbA hS (k + 1) d_L_law_179 ?_
      refine lv_aload_n hx hb d_L_law_180 rfl (lv_at hl 1 rfl) ?_
      refine lv_iload hx hb d_L_law_181 (lv_at hl 5 rfl) ?_
      refine rz_iconst hx hb d_L_law_183 ?_
      refine rz_iadd hx hb d_L_law_184 ?_
      refine rl_sld hx hb hX hbl hbA hS (k + 2) d_L_law_185 ?_
      refine lv_aload_n hx hb d_L_law_186 rfl (lv_at hl 1 rfl) ?_
      refine lv_iload hx hb d_L_law_187 (lv_at hl 5 rfl) ?_
      refine rz_iconst hx hb d_L_law_189 ?_
      refine rz_iadd hx hb d_L_law_190 ?_
      refine rl_sld hx hb hX hbl hbA hS (k + 3) d_L_law_191 ?_
      refine lv_i2l hx hb d_L_law_192 rfl ?_
      refine rz_bipush hx hb d_L_law_193 (by decide) ?_
      refine lv_lshl hx hb d_L_law_195 rfl ?_
      refine lv_aload_n hx hb d_L_law_196 rfl (lv_at hl 1 rfl) ?_
      refine lv_iload hx hb d_L_law_197 (lv_at hl 5 rfl) ?_
      refine rz_iconst hx hb d_L_law_199 ?_
      refine rz_iadd hx hb d_L_law_200 ?_
      refine rl_sld hx hb hX hbl hbA hS (k + 4) d_L_law_201 ?_
      refine lv_i2l hx hb d_L_law_202 rfl ?_
      refine lv_ldc2 (v := 4294967295) hx hb hown (hts _ kw_712) d_L_law_203 ?_
      refine lv_land hx hb d_L_law_206 ?_
      refine lv_lor hx hb d_L_law_207 ?_
      refine rc_calli (va_runV (As := [.int (iz (sx xs (k + 1))), .int (iz (sx xs (k + 2))), .long (lwd (sx xs (k + 3)) (sx xs (k + 4)))]) (rest := []) ⟨hx, hb, hml, hown, hts⟩ (m_M_put l D cJ cI g cd od fc hd md lo lv tb rw bm mn nu tu G (sx xs (k + 1)) (sx xs (k + 2)) (lwd (sx xs (k + 3)) (sx xs (k + 4))) o hod ho3 (by omega) (by omega) (by omega) (by omega)) (cwV 3 hts (kb_gi (kb_c kw_574 (kb_c kw_575 (kb_c kw_576 (kb_c kw_5 (kb_c kw_577 kb_all)))))) rfl rfl rfl (by decide +kernel) ⟨Nat.le_of_ble_eq_true rfl, Nat.le_of_ble_eq_true rfl⟩) ⟨rc_blind, va_recv hK hP (ci := 3) (q0 := 19) rfl rfl, rc_pre hP hD hK hN [19, 20] rfl rfl [0, 2] rfl⟩ rfl rfl hl.1 rfl (lv_room (Nat.le_of_ble_eq_true rfl)) d_L_law_208 ⟨hfc, hfs⟩) hP hD hS [19, 20] rfl (fun _ => rfl) (fun r3 u4 H locs hw4 hP hD hS => ?_)
      have h9 : u4 = (0, up2 G ((sx xs (k + 1)).toNat) ((sx xs (k + 2)).toNat) (ro_k (lwd (sx xs (k + 3)) (sx xs (k + 4))).toInt)) ∧ r3 = iz 0 := by
        rcases hw4 with ⟨h6, h7, h8⟩ | ⟨h6, h7, h8⟩
        · exact ⟨h7, by rw [h8, if_pos (by rw [← hI.1 ((sx xs (k + 1)).toNat) (by omega) ((sx xs (k + 2)).toNat) (by omega)]; exact hf)]⟩
        · exact absurd ⟨⟨by omega, by omega⟩, by omega, by omega⟩ h6
      obtain ⟨rfl, rfl⟩ := h9
      have hP : va_P D vC (((([(ou, kl cJ 1 (vp_updL V 0 (lk 0))), (h, rO od fa ot ah te id rt bs kn), (fa, go cO 4 fr), (ot, go cO 4 er), (ah, ka cJ 13 a), (te, ka cJ 31 T), (id, ka cJ 5 J), (rt, rR fo cn wh pt rs sq on tw), (fo, ka cJ 4 Fo), (wh, ka cJ 5 Y), (pt, ka cJ 5 P), (rs, ka cJ 5 r), (sq, ka cJ 8 S), (on, ka cJ 5 a1), (tw, ka cJ 5 b1), (bs, rB ro le me bn), (ro, go cO 17 ra), (le, ki cI 13 Lx), (me, go cO 13 mb), (g, rM 0 od fc hd md lo lv tb rw bm mn nu tu), (fc, k2 cJ 20 5 (up2 G ((sx xs (k + 1)).toNat) ((sx xs (k + 2)).toNat) (ro_k (lwd (sx xs (k + 3)) (sx xs (k + 4))).toInt))), (hd, ka cJ 13 a2), (md, ka cJ 17 P2), (lo, k2 cJ 20 5 E2), (tb, k2 cJ 221 13 M2), (rw, ki cI 13 L2), (bm, k2 cJ 169 13 B2), (nu, ka cJ 31 T2), (tu, k2 cJ 20 5 U2)] ++ gs 4 er cJ 5 E) ++ gs 4 fr cJ 5 F) ++ gs 13 mb cJ 13 Bm) ++ gs 17 ra cJ 13 M) H := hP
      have hD : va_D A (((([(ou, kl cJ 1 (vp_updL V 0 (lk 0))), (h, rO od fa ot ah te id rt bs kn), (fa, go cO 4 fr), (ot, go cO 4 er), (ah, ka cJ 13 a), (te, ka cJ 31 T), (id, ka cJ 5 J), (rt, rR fo cn wh pt rs sq on tw), (fo, ka cJ 4 Fo), (wh, ka cJ 5 Y), (pt, ka cJ 5 P), (rs, ka cJ 5 r), (sq, ka cJ 8 S), (on, ka cJ 5 a1), (tw, ka cJ 5 b1), (bs, rB ro le me bn), (ro, go cO 17 ra), (le, ki cI 13 Lx), (me, go cO 13 mb), (g, rM 0 od fc hd md lo lv tb rw bm mn nu tu), (fc, k2 cJ 20 5 (up2 G ((sx xs (k + 1)).toNat) ((sx xs (k + 2)).toNat) (ro_k (lwd (sx xs (k + 3)) (sx xs (k + 4))).toInt))), (hd, ka cJ 13 a2), (md, ka cJ 17 P2), (lo, k2 cJ 20 5 E2), (tb, k2 cJ 221 13 M2), (rw, ki cI 13 L2), (bm, k2 cJ 169 13 B2), (nu, ka cJ 31 T2), (tu, k2 cJ 20 5 U2)] ++ gs 4 er cJ 5 E) ++ gs 4 fr cJ 5 F) ++ gs 13 mb cJ 13 Bm) ++ gs 17 ra cJ 13 M) := hD
      refine lv_istore (lv' := [(6, .int (iz 0)), (5, .int (iz 0)), (0, .ref b), (1, .ref h), (2, .ref g), (3, .ref ou), (4, .int (iz z4))]) hx hb d_L_law_211 hl (by decide) rfl (fun ls hl => ?_)
      refine lv_aload_n hx hb d_L_law_213 rfl (lv_at hl 4 rfl) ?_
      refine rc_calli (va_runV (As := []) (rest := []) ⟨hx, hb, hml, hown, hts⟩ (m_M_thrown l D g 0 od fc hd md lo lv tb rw bm mn nu tu) (cwV 0 hts (kb_gi (kb_c kw_570 (kb_c kw_571 (kb_c kw_572 (kb_c kw_5 (kb_c kw_573 kb_all)))))) rfl rfl rfl (by decide +kernel) ⟨Nat.le_of_ble_eq_true rfl, Nat.le_of_ble_eq_true rfl⟩) ⟨rc_blind, va_recv hK hP (ci := 3) (q0 := 19) rfl rfl, rc_pre hP hD hK hN [19] rfl rfl [] rfl⟩ rfl rfl hl.1 rfl (lv_room (Nat.le_of_ble_eq_true rfl)) d_L_law_214 ⟨hfc, hfs⟩) hP hD hS [19] rfl (fun _ => rfl) (fun r5 u6 H locs hw6 hP hD hS => ?_)
      subst hw6
      have hP : va_P D vC (((([(ou, kl cJ 1 (vp_updL V 0 (lk 0))), (h, rO od fa ot ah te id rt bs kn), (fa, go cO 4 fr), (ot, go cO 4 er), (ah, ka cJ 13 a), (te, ka cJ 31 T), (id, ka cJ 5 J), (rt, rR fo cn wh pt rs sq on tw), (fo, ka cJ 4 Fo), (wh, ka cJ 5 Y), (pt, ka cJ 5 P), (rs, ka cJ 5 r), (sq, ka cJ 8 S), (on, ka cJ 5 a1), (tw, ka cJ 5 b1), (bs, rB ro le me bn), (ro, go cO 17 ra), (le, ki cI 13 Lx), (me, go cO 13 mb), (g, rM 0 od fc hd md lo lv tb rw bm mn nu tu), (fc, k2 cJ 20 5 (up2 G ((sx xs (k + 1)).toNat) ((sx xs (k + 2)).toNat) (ro_k (lwd (sx xs (k + 3)) (sx xs (k + 4))).toInt))), (hd, ka cJ 13 a2), (md, ka cJ 17 P2), (lo, k2 cJ 20 5 E2), (tb, k2 cJ 221 13 M2), (rw, ki cI 13 L2), (bm, k2 cJ 169 13 B2), (nu, ka cJ 31 T2), (tu, k2 cJ 20 5 U2)] ++ gs 4 er cJ 5 E) ++ gs 4 fr cJ 5 F) ++ gs 13 mb cJ 13 Bm) ++ gs 17 ra cJ 13 M) H := hP
      have hD : va_D A (((([(ou, kl cJ 1 (vp_updL V 0 (lk 0))), (h, rO od fa ot ah te id rt bs kn), (fa, go cO 4 fr), (ot, go cO 4 er), (ah, ka cJ 13 a), (te, ka cJ 31 T), (id, ka cJ 5 J), (rt, rR fo cn wh pt rs sq on tw), (fo, ka cJ 4 Fo), (wh, ka cJ 5 Y), (pt, ka cJ 5 P), (rs, ka cJ 5 r), (sq, ka cJ 8 S), (on, ka cJ 5 a1), (tw, ka cJ 5 b1), (bs, rB ro le me bn), (ro, go cO 17 ra), (le, ki cI 13 Lx), (me, go cO 13 mb), (g, rM 0 od fc hd md lo lv tb rw bm mn nu tu), (fc, k2 cJ 20 5 (up2 G ((sx xs (k + 1)).toNat) ((sx xs (k + 2)).toNat) (ro_k (lwd (sx xs (k + 3)) (sx xs (k + 4))).toInt))), (hd, ka cJ 13 a2), (md, ka cJ 17 P2), (lo, k2 cJ 20 5 E2), (tb, k2 cJ 221 13 M2), (rw, ki cI 13 L2), (bm, k2 cJ 169 13 B2), (nu, ka cJ 31 T2), (tu, k2 cJ 20 5 U2)] ++ gs 4 er cJ 5 E) ++ gs 4 fr cJ 5 F) ++ gs 13 mb cJ 13 Bm) ++ gs 17 ra cJ 13 M) := hD
      refine lv_iload hx hb d_L_law_217 (lv_at hl 1 rfl) ?_
      refine rl_icmp_eq (tgt := 224) hx hb d_L_law_219 (by decide) rfl ?_
      refine lv_iload hx hb d_L_law_224 (lv_at hl 1 rfl) ?_
      refine rz_if_ne (tgt := 248) hx hb d_L_law_226 (by decide) (fun hc => absurd rfl hc) (fun _ => ?_)
      refine lv_aload_n hx hb d_L_law_229 rfl (lv_at hl 5 rfl) ?_
      refine rz_iconst hx hb d_L_law_230 ?_
      refine rl_ld hx hb hK hP 0 0 rfl rfl 0 d_L_law_231 ?_
      rw [vp_self]
      refine lv_iload hx hb d_L_law_232 (lv_at hl 0 rfl) ?_
      refine rz_if_eq (tgt := 241) hx hb d_L_law_234 (by decide) (fun _ => ?_) (fun hc => absurd rfl hc)
      refine lv_lconst (v := lk 0) hx hb d_L_law_241 rfl ?_
      refine rl_lcmp_eq (tgt := 248) hx hb d_L_law_242 d_L_law_243 (by decide) rfl ?_
      refine lv_goto (tgt := 1338) hx hb d_L_law_248 (by decide) ?_
      refine W.widen (k := kc + 1) (n := ks + 6) (by omega) (by omega) ?_
      exact hend (vp_updL V 0 (lk 0)) kn a T J cn Fo Y P r S a1 b1 bn Lx E F Bm M 0 lv mn (up2 G ((sx xs (k + 1)).toNat) ((sx xs (k + 2)).toNat) (ro_k (lwd (sx xs (k + 3)) (sx xs (k + 4))).toInt)) a2 P2 E2 M2 L2 B2 T2 U2 H locs ls ⟨lw_put0 hI hf, hJ⟩ hP hD hS (lv_sub hl [2, 3, 4, 5, 6] rfl)
    · refine lv_aload_n hx hb d_L_law_132 rfl (lv_at hl 1 rfl) ?_
      refine lv_aload_n hx hb d_L_law_133 rfl (lv_at hl 0 rfl) ?_
      refine lv_iload hx hb d_L_law_134 (lv_at hl 4 rfl) ?_
      refine rz_iconst hx hb d_L_law_136 ?_
      refine rz_iadd hx hb d_L_law_137 ?_
      refine rl_sld hx hb hX hbl hbA hS (k + 1) d_L_law_138 ?_
      refine lv_aload_n hx hb d_L_law_139 rfl (lv_at hl 0 rfl) ?_
      refine lv_iload hx hb d_L_law_140 (lv_at hl 4 rfl) ?_
      refine rz_iconst hx hb d_L_law_142 ?_
      refine rz_iadd hx hb d_L_law_143 ?_
      refine rl_sld hx hb hX hbl hbA hS (k + 2) d_L_law_144 ?_
      refine lv_aload_n hx hb d_L_law_145 rfl (lv_at hl 0 rfl) ?_
      refine lv_iload hx hb d_L_law_146 (lv_at hl 4 rfl) ?_
      refine rz_iconst hx hb d_L_law_148 ?_
      refine rz_iadd hx hb d_L_law_149 ?_
      refine rl_sld hx hb hX hbl hbA hS (k + 3) d_L_law_150 ?_
      refine lv_i2l hx hb d_L_law_151 rfl ?_
      refine rz_bipush hx hb d_L_law_152 (by decide) ?_
      refine lv_lshl hx hb d_L_law_154 rfl ?_
      refine lv_aload_n hx hb d_L_law_155 rfl (lv_at hl 0 rfl) ?_
      refine lv_iload hx hb d_L_law_156 (lv_at hl 4 rfl) ?_
      refine rz_iconst hx hb d_L_law_158 ?_
      refine rz_iadd hx hb d_L_law_159 ?_
      refine rl_sld hx hb hX hbl hbA hS (k + 4) d_L_law_160 ?_
      refine lv_i2l hx hb d_L_law_161 rfl ?_
      refine lv_ldc2 (v := 4294967295) hx hb hown (hts _ kw_712) d_L_law_162 ?_
      refine lv_land hx hb d_L_law_165 ?_
      refine lv_lor hx hb d_L_law_166 ?_
      refine lv_aload_n hx hb d_L_law_167 rfl (lv_at hl 3 rfl) ?_
      refine rsM_calli (vx_runSW (hh := [((0 : Nat), (19 : Nat), (22 : Nat), (13 : Nat))]) (As := [.ref h, .int (iz (sx xs (k + 1))), .int (iz (sx xs (k + 2))), .long (lwd (sx xs (k + 3)) (sx xs (k + 4))), .ref ou]) (rest := []) ⟨hx, hb, hml, hown, hts⟩ (h_L_put l D cJ cO h fa ot ah te id rt bs od kn ou V fr F (sx xs (k + 1)) (sx xs (k + 2)) (lwd (sx xs (k + 3)) (sx xs (k + 4))) o hod ho3 ((sx xs (k + 1)).toNat) ((sx xs (k + 2)).toNat) (by omega) (by omega) (by omega) (by omega)) (vx_cwSW 5 hts (kb_gi (kb_c kw_214 (kb_c kw_215 (kb_c kw_0 (kb_c kw_216 kb_all))))) rfl rfl rfl (by decide +kernel) ⟨Nat.le_of_ble_eq_true rfl, Nat.le_of_ble_eq_true rfl⟩) ⟨rc_blind, rs_pre (rs_a2 hP) (rs_aD2 hD) hK hN [1, 2, 0] rfl rfl [0, 1] rfl⟩ rfl rfl hl.1 rfl (lv_room (Nat.le_of_ble_eq_true rfl)) d_L_law_168 ⟨hfc, hfs⟩) (rs_a2 hP) (rs_aD2 hD) hS [1, 2, 0] rfl (fun _ => rfl) (fun _ => gs_adr _ _ _ _ _ _) (fun r7 u8 H locs hw8 hP hD hS => ?_)
      have hP := rs_b2 hP
      have hD := rs_bD2 hD
      obtain ⟨rfl, hw9⟩ := hw8
      have h9 : u8 = (0, up2 F ((sx xs (k + 1)).toNat) ((sx xs (k + 2)).toNat) (ro_k (lwd (sx xs (k + 3)) (sx xs (k + 4))).toInt), 1) := hw9.elim (fun z => absurd z.1 hf) (fun z => z.2)
      subst h9
      have hP : va_P D vC (((([(ou, kl cJ 1 (vp_updL V 0 (lk 1))), (h, rO od fa ot ah te id rt bs 0), (fa, go cO 4 fr), (ot, go cO 4 er), (ah, ka cJ 13 a), (te, ka cJ 31 T), (id, ka cJ 5 J), (rt, rR fo cn wh pt rs sq on tw), (fo, ka cJ 4 Fo), (wh, ka cJ 5 Y), (pt, ka cJ 5 P), (rs, ka cJ 5 r), (sq, ka cJ 8 S), (on, ka cJ 5 a1), (tw, ka cJ 5 b1), (bs, rB ro le me bn), (ro, go cO 17 ra), (le, ki cI 13 Lx), (me, go cO 13 mb), (g, rM cd od fc hd md lo lv tb rw bm mn nu tu), (fc, k2 cJ 20 5 G), (hd, ka cJ 13 a2), (md, ka cJ 17 P2), (lo, k2 cJ 20 5 E2), (tb, k2 cJ 221 13 M2), (rw, ki cI 13 L2), (bm, k2 cJ 169 13 B2), (nu, ka cJ 31 T2), (tu, k2 cJ 20 5 U2)] ++ gs 4 er cJ 5 E) ++ gs 4 fr cJ 5 (up2 F ((sx xs (k + 1)).toNat) ((sx xs (k + 2)).toNat) (ro_k (lwd (sx xs (k + 3)) (sx xs (k + 4))).toInt))) ++ gs 13 mb cJ 13 Bm) ++ gs 17 ra cJ 13 M) H := hP
      have hD : va_D A (((([(ou, kl cJ 1 (vp_updL V 0 (lk 1))), (h, rO od fa ot ah te id rt bs 0), (fa, go cO 4 fr), (ot, go cO 4 er), (ah, ka cJ 13 a), (te, ka cJ 31 T), (id, ka cJ 5 J), (rt, rR fo cn wh pt rs sq on tw), (fo, ka cJ 4 Fo), (wh, ka cJ 5 Y), (pt, ka cJ 5 P), (rs, ka cJ 5 r), (sq, ka cJ 8 S), (on, ka cJ 5 a1), (tw, ka cJ 5 b1), (bs, rB ro le me bn), (ro, go cO 17 ra), (le, ki cI 13 Lx), (me, go cO 13 mb), (g, rM cd od fc hd md lo lv tb rw bm mn nu tu), (fc, k2 cJ 20 5 G), (hd, ka cJ 13 a2), (md, ka cJ 17 P2), (lo, k2 cJ 20 5 E2), (tb, k2 cJ 221 13 M2), (rw, ki cI 13 L2), (bm, k2 cJ 169 13 B2), (nu, ka cJ 31 T2), (tu, k2 cJ 20 5 U2)] ++ gs 4 er cJ 5 E) ++ gs 4 fr cJ 5 (up2 F ((sx xs (k + 1)).toNat) ((sx xs (k + 2)).toNat) (ro_k (lwd (sx xs (k + 3)) (sx xs (k + 4))).toInt))) ++ gs 13 mb cJ 13 Bm) ++ gs 17 ra cJ 13 M) := hD
      refine lv_istore (lv' := [(5, .int (iz 0)), (0, .ref b), (1, .ref h), (2, .ref g), (3, .ref ou), (4, .int (iz z4))]) hx hb d_L_law_171 hl (by decide) rfl (fun ls hl => ?_)
      refine lv_aload_n hx hb d_L_law_173 rfl (lv_at hl 3 rfl) ?_
      refine lv_aload_n hx hb d_L_law_174 rfl (lv_at hl 1 rfl) ?_
      refine lv_iload hx hb d_L_law_175 (lv_at hl 5 rfl) ?_
      refine rz_iconst hx hb d_L_law_177 ?_
      refine rz_iadd hx hb d_L_law_178 ?_
      refine rl_sld hx hb hX hbl hbA hS (k + 1) d_L_law_179 ?_
      refine lv_aload_n hx hb d_L_law_180 rfl (lv_at hl 1 rfl) ?_
      refine lv_iload hx hb d_L_law_181 (lv_at hl 5 rfl) ?_
      refine rz_iconst hx hb d_L_law_183 ?_
      refine rz_iadd hx hb d_L_law_184 ?_
      refine rl_sld hx hb hX hbl hbA hS (k + 2) d_L_law_185 ?_
      refine lv_aload_n hx hb d_L_law_186 rfl (lv_at hl 1 rfl) ?_
      refine lv_iload hx hb d_L_law_187 (lv_at hl 5 rfl) ?_
      refine rz_iconst hx hb d_L_law_189 ?_
      refine rz_iadd hx hb d_L_law_190 ?_
      refine rl_sld hx hb hX hbl hbA hS (k + 3) d_L_law_191 ?_
      refine lv_i2l hx hb d_L_law_192 rfl ?_
      refine rz_bipush hx hb d_L_law_193 (by decide) ?_
      refine lv_lshl hx hb d_L_law_195 rfl ?_
      refine lv_aload_n hx hb d_L_law_196 rfl (lv_at hl 1 rfl) ?_
      refine lv_iload hx hb d_L_law_197 (lv_at hl 5 rfl) ?_
      refine rz_iconst hx hb d_L_law_199 ?_
      refine rz_iadd hx hb d_L_law_200 ?_
      refine rl_sld hx hb hX hbl hbA hS (k + 4) d_L_law_201 ?_
      refine lv_i2l hx hb d_L_law_202 rfl ?_
      refine lv_ldc2 (v := 4294967295) hx hb hown (hts _ kw_712) d_L_law_203 ?_
      refine lv_land hx hb d_L_law_206 ?_
      refine lv_lor hx hb d_L_law_207 ?_
      refine rc_calli (va_runV (As := [.int (iz (sx xs (k + 1))), .int (iz (sx xs (k + 2))), .long (lwd (sx xs (k + 3)) (sx xs (k + 4)))]) (rest := []) ⟨hx, hb, hml, hown, hts⟩ (m_M_put l D cJ cI g cd od fc hd md lo lv tb rw bm mn nu tu G (sx xs (k + 1)) (sx xs (k + 2)) (lwd (sx xs (k + 3)) (sx xs (k + 4))) o hod ho3 (by omega) (by omega) (by omega) (by omega)) (cwV 3 hts (kb_gi (kb_c kw_574 (kb_c kw_575 (kb_c kw_576 (kb_c kw_5 (kb_c kw_577 kb_all)))))) rfl rfl rfl (by decide +kernel) ⟨Nat.le_of_ble_eq_true rfl, Nat.le_of_ble_eq_true rfl⟩) ⟨rc_blind, va_recv hK hP (ci := 3) (q0 := 19) rfl rfl, rc_pre hP hD hK hN [19, 20] rfl rfl [0, 2] rfl⟩ rfl rfl hl.1 rfl (lv_room (Nat.le_of_ble_eq_true rfl)) d_L_law_208 ⟨hfc, hfs⟩) hP hD hS [19, 20] rfl (fun _ => rfl) (fun r9 u10 H locs hw10 hP hD hS => ?_)
      have h9 : u10 = (0, up2 G ((sx xs (k + 1)).toNat) ((sx xs (k + 2)).toNat) (ro_k (lwd (sx xs (k + 3)) (sx xs (k + 4))).toInt)) ∧ r9 = iz 1 := by
        rcases hw10 with ⟨h6, h7, h8⟩ | ⟨h6, h7, h8⟩
        · exact ⟨h7, by rw [h8, if_neg (by rw [← hI.1 ((sx xs (k + 1)).toNat) (by omega) ((sx xs (k + 2)).toNat) (by omega)]; exact hf)]⟩
        · exact absurd ⟨⟨by omega, by omega⟩, by omega, by omega⟩ h6
      obtain ⟨rfl, rfl⟩ := h9
      have hP : va_P D vC (((([(ou, kl cJ 1 (vp_updL V 0 (lk 1))), (h, rO od fa ot ah te id rt bs 0), (fa, go cO 4 fr), (ot, go cO 4 er), (ah, ka cJ 13 a), (te, ka cJ 31 T), (id, ka cJ 5 J), (rt, rR fo cn wh pt rs sq on tw), (fo, ka cJ 4 Fo), (wh, ka cJ 5 Y), (pt, ka cJ 5 P), (rs, ka cJ 5 r), (sq, ka cJ 8 S), (on, ka cJ 5 a1), (tw, ka cJ 5 b1), (bs, rB ro le me bn), (ro, go cO 17 ra), (le, ki cI 13 Lx), (me, go cO 13 mb), (g, rM 0 od fc hd md lo lv tb rw bm mn nu tu), (fc, k2 cJ 20 5 (up2 G ((sx xs (k + 1)).toNat) ((sx xs (k + 2)).toNat) (ro_k (lwd (sx xs (k + 3)) (sx xs (k + 4))).toInt))), (hd, ka cJ 13 a2), (md, ka cJ 17 P2), (lo, k2 cJ 20 5 E2), (tb, k2 cJ 221 13 M2), (rw, ki cI 13 L2), (bm, k2 cJ 169 13 B2), (nu, ka cJ 31 T2), (tu, k2 cJ 20 5 U2)] ++ gs 4 er cJ 5 E) ++ gs 4 fr cJ 5 (up2 F ((sx xs (k + 1)).toNat) ((sx xs (k + 2)).toNat) (ro_k (lwd (sx xs (k + 3)) (sx xs (k + 4))).toInt))) ++ gs 13 mb cJ 13 Bm) ++ gs 17 ra cJ 13 M) H := hP
      have hD : va_D A (((([(ou, kl cJ 1 (vp_updL V 0 (lk 1))), (h, rO od fa ot ah te id rt bs 0), (fa, go cO 4 fr), (ot, go cO 4 er), (ah, ka cJ 13 a), (te, ka cJ 31 T), (id, ka cJ 5 J), (rt, rR fo cn wh pt rs sq on tw), (fo, ka cJ 4 Fo), (wh, ka cJ 5 Y), (pt, ka cJ 5 P), (rs, ka cJ 5 r), (sq, ka cJ 8 S), (on, ka cJ 5 a1), (tw, ka cJ 5 b1), (bs, rB ro le me bn), (ro, go cO 17 ra), (le, ki cI 13 Lx), (me, go cO 13 mb), (g, rM 0 od fc hd md lo lv tb rw bm mn nu tu), (fc, k2 cJ 20 5 (up2 G ((sx xs (k + 1)).toNat) ((sx xs (k + 2)).toNat) (ro_k (lwd (sx xs (k + 3)) (sx xs (k + 4))).toInt))), (hd, ka cJ 13 a2), (md, ka cJ 17 P2), (lo, k2 cJ 20 5 E2), (tb, k2 cJ 221 13 M2), (rw, ki cI 13 L2), (bm, k2 cJ 169 13 B2), (nu, ka cJ 31 T2), (tu, k2 cJ 20 5 U2)] ++ gs 4 er cJ 5 E) ++ gs 4 fr cJ 5 (up2 F ((sx xs (k + 1)).toNat) ((sx xs (k + 2)).toNat) (ro_k (lwd (sx xs (k + 3)) (sx xs (k + 4))).toInt))) ++ gs 13 mb cJ 13 Bm) ++ gs 17 ra cJ 13 M) := hD
      refine lv_istore (lv' := [(6, .int (iz 1)), (5, .int (iz 0)), (0, .ref b), (1, .ref h), (2, .ref g), (3, .ref ou), (4, .int (iz z4))]) hx hb d_L_law_211 hl (by decide) rfl (fun ls hl => ?_)
      refine lv_aload_n hx hb d_L_law_213 rfl (lv_at hl 4 rfl) ?_
      refine rc_calli (va_runV (As := []) (rest := []) ⟨hx, hb, hml, hown, hts⟩ (m_M_thrown l D g 0 od fc hd md lo lv tb rw bm mn nu tu) (cwV 0 hts (kb_gi (kb_c kw_570 (kb_c kw_571 (kb_c kw_572 (kb_c kw_5 (kb_c kw_573 kb_all)))))) rfl rfl rfl (by decide +kernel) ⟨Nat.le_of_ble_eq_true rfl, Nat.le_of_ble_eq_true rfl⟩) ⟨rc_blind, va_recv hK hP (ci := 3) (q0 := 19) rfl rfl, rc_pre hP hD hK hN [19] rfl rfl [] rfl⟩ rfl rfl hl.1 rfl (lv_room (Nat.le_of_ble_eq_true rfl)) d_L_law_214 ⟨hfc, hfs⟩) hP hD hS [19] rfl (fun _ => rfl) (fun r11 u12 H locs hw12 hP hD hS => ?_)
      subst hw12
      have hP : va_P D vC (((([(ou, kl cJ 1 (vp_updL V 0 (lk 1))), (h, rO od fa ot ah te id rt bs 0), (fa, go cO 4 fr), (ot, go cO 4 er), (ah, ka cJ 13 a), (te, ka cJ 31 T), (id, ka cJ 5 J), (rt, rR fo cn wh pt rs sq on tw), (fo, ka cJ 4 Fo), (wh, ka cJ 5 Y), (pt, ka cJ 5 P), (rs, ka cJ 5 r), (sq, ka cJ 8 S), (on, ka cJ 5 a1), (tw, ka cJ 5 b1), (bs, rB ro le me bn), (ro, go cO 17 ra), (le, ki cI 13 Lx), (me, go cO 13 mb), (g, rM 0 od fc hd md lo lv tb rw bm mn nu tu), (fc, k2 cJ 20 5 (up2 G ((sx xs (k + 1)).toNat) ((sx xs (k + 2)).toNat) (ro_k (lwd (sx xs (k + 3)) (sx xs (k + 4))).toInt))), (hd, ka cJ 13 a2), (md, ka cJ 17 P2), (lo, k2 cJ 20 5 E2), (tb, k2 cJ 221 13 M2), (rw, ki cI 13 L2), (bm, k2 cJ 169 13 B2), (nu, ka cJ 31 T2), (tu, k2 cJ 20 5 U2)] ++ gs 4 er cJ 5 E) ++ gs 4 fr cJ 5 (up2 F ((sx xs (k + 1)).toNat) ((sx xs (k + 2)).toNat) (ro_k (lwd (sx xs (k + 3)) (sx xs (k + 4))).toInt))) ++ gs 13 mb cJ 13 Bm) ++ gs 17 ra cJ 13 M) H := hP
      have hD : va_D A (((([(ou, kl cJ 1 (vp_updL V 0 (lk 1))), (h, rO od fa ot ah te id rt bs 0), (fa, go cO 4 fr), (ot, go cO 4 er), (ah, ka cJ 13 a), (te, ka cJ 31 T), (id, ka cJ 5 J), (rt, rR fo cn wh pt rs sq on tw), (fo, ka cJ 4 Fo), (wh, ka cJ 5 Y), (pt, ka cJ 5 P), (rs, ka cJ 5 r), (sq, ka cJ 8 S), (on, ka cJ 5 a1), (tw, ka cJ 5 b1), (bs, rB ro le me bn), (ro, go cO 17 ra), (le, ki cI 13 Lx), (me, go cO 13 mb), (g, rM 0 od fc hd md lo lv tb rw bm mn nu tu), (fc, k2 cJ 20 5 (up2 G ((sx xs (k + 1)).toNat) ((sx xs (k + 2)).toNat) (ro_k (lwd (sx xs (k + 3)) (sx xs (k + 4))).toInt))), (hd, ka cJ 13 a2), (md, ka cJ 17 P2), (lo, k2 cJ 20 5 E2), (tb, k2 cJ 221 13 M2), (rw, ki cI 13 L2), (bm, k2 cJ 169 13 B2), (nu, ka cJ 31 T2), (tu, k2 cJ 20 5 U2)] ++ gs 4 er cJ 5 E) ++ gs 4 fr cJ 5 (up2 F ((sx xs (k + 1)).toNat) ((sx xs (k + 2)).toNat) (ro_k (lwd (sx xs (k + 3)) (sx xs (k + 4))).toInt))) ++ gs 13 mb cJ 13 Bm) ++ gs 17 ra cJ 13 M) := hD
      refine lv_iload hx hb d_L_law_217 (lv_at hl 1 rfl) ?_
      refine rl_icmp_eq (tgt := 224) hx hb d_L_law_219 (by decide) rfl ?_
      refine lv_iload hx hb d_L_law_224 (lv_at hl 1 rfl) ?_
      refine rz_if_ne (tgt := 248) hx hb d_L_law_226 (by decide) (fun hc => absurd rfl hc) (fun _ => ?_)
      refine lv_aload_n hx hb d_L_law_229 rfl (lv_at hl 5 rfl) ?_
      refine rz_iconst hx hb d_L_law_230 ?_
      refine rl_ld hx hb hK hP 0 0 rfl rfl 0 d_L_law_231 ?_
      rw [vp_self]
      refine lv_iload hx hb d_L_law_232 (lv_at hl 0 rfl) ?_
      refine rz_if_eq (tgt := 241) hx hb d_L_law_234 (by decide) (fun hc => absurd hc (by decide)) (fun _ => ?_)
      refine lv_lconst (v := lk 1) hx hb d_L_law_237 rfl ?_
      refine lv_goto (tgt := 242) hx hb d_L_law_238 (by decide) ?_
      refine rl_lcmp_eq (tgt := 248) hx hb d_L_law_242 d_L_law_243 (by decide) rfl ?_
      refine lv_goto (tgt := 1338) hx hb d_L_law_248 (by decide) ?_
      refine W.widen (k := kc + 1) (n := ks + 6) (by omega) (by omega) ?_
      exact hend (vp_updL V 0 (lk 1)) 0 a T J cn Fo Y P r S a1 b1 bn Lx E (up2 F ((sx xs (k + 1)).toNat) ((sx xs (k + 2)).toNat) (ro_k (lwd (sx xs (k + 3)) (sx xs (k + 4))).toInt)) Bm M 0 lv mn (up2 G ((sx xs (k + 1)).toNat) ((sx xs (k + 2)).toNat) (ro_k (lwd (sx xs (k + 3)) (sx xs (k + 4))).toInt)) a2 P2 E2 M2 L2 B2 T2 U2 H locs ls ⟨lw_put1 hI (by omega), hJ⟩ hP hD hS (lv_sub hl [2, 3, 4, 5, 6] rfl)
  · refine lv_aload_n hx hb d_L_law_132 rfl (lv_at hl 1 rfl) ?_
    refine lv_aload_n hx hb d_L_law_133 rfl (lv_at hl 0 rfl) ?_
    refine lv_iload hx hb d_L_law_134 (lv_at hl 4 rfl) ?_
    refine rz_iconst hx hb d_L_law_136 ?_
    refine rz_iadd hx hb d_L_law_137 ?_
    refine rl_sld hx hb hX hbl hbA hS (k + 1) d_L_law_138 ?_
    refine lv_aload_n hx hb d_L_law_139 rfl (lv_at hl 0 rfl) ?_
    refine lv_iload hx hb d_L_law_140 (lv_at hl 4 rfl) ?_
    refine rz_iconst hx hb d_L_law_142 ?_
    refine rz_iadd hx hb d_L_law_143 ?_
    refine rl_sld hx hb hX hbl hbA hS (k + 2) d_L_law_144 ?_
    refine lv_aload_n hx hb d_L_law_145 rfl (lv_at hl 0 rfl) ?_
    refine lv_iload hx hb d_L_law_146 (lv_at hl 4 rfl) ?_
    refine rz_iconst hx hb d_L_law_148 ?_
    refine rz_iadd hx hb d_L_law_149 ?_
    refine rl_sld hx hb hX hbl hbA hS (k + 3) d_L_law_150 ?_
    refine lv_i2l hx hb d_L_law_151 rfl ?_
    refine rz_bipush hx hb d_L_law_152 (by decide) ?_
    refine lv_lshl hx hb d_L_law_154 rfl ?_
    refine lv_aload_n hx hb d_L_law_155 rfl (lv_at hl 0 rfl) ?_
    refine lv_iload hx hb d_L_law_156 (lv_at hl 4 rfl) ?_
    refine rz_iconst hx hb d_L_law_158 ?_
    refine rz_iadd hx hb d_L_law_159 ?_
    refine rl_sld hx hb hX hbl hbA hS (k + 4) d_L_law_160 ?_
    refine lv_i2l hx hb d_L_law_161 rfl ?_
    refine lv_ldc2 (v := 4294967295) hx hb hown (hts _ kw_712) d_L_law_162 ?_
    refine lv_land hx hb d_L_law_165 ?_
    refine lv_lor hx hb d_L_law_166 ?_
    refine lv_aload_n hx hb d_L_law_167 rfl (lv_at hl 3 rfl) ?_
    refine rsM_calli (vx_runSW (hh := [((0 : Nat), (19 : Nat), (22 : Nat), (13 : Nat))]) (As := [.ref h, .int (iz (sx xs (k + 1))), .int (iz (sx xs (k + 2))), .long (lwd (sx xs (k + 3)) (sx xs (k + 4))), .ref ou]) (rest := []) ⟨hx, hb, hml, hown, hts⟩ (h_L_put_t l D hst sa cJ cO h fa ot ah te id rt bs od kn ou V fr F (sx xs (k + 1)) (sx xs (k + 2)) (lwd (sx xs (k + 3)) (sx xs (k + 4))) o hod ho3 (by omega) (by omega) (by omega) (by omega) (by omega)) (vx_cwSW 5 hts (kb_gi (kb_c kw_214 (kb_c kw_215 (kb_c kw_0 (kb_c kw_216 kb_all))))) rfl rfl rfl (by decide +kernel) ⟨Nat.le_of_ble_eq_true rfl, Nat.le_of_ble_eq_true rfl⟩) ⟨rx_blind, fun U h8 h9 => ⟨(rs_pre (rs_a2 hP) (rs_aD2 hD) hK hN [1, 2, 0] rfl rfl [0, 1] rfl) U h8 h9, hE.go hS (rs_in (rs_aD2 hD) (is := [1, 2, 0]) rfl) h8 h9⟩⟩ rfl rfl hl.1 rfl (lv_room (Nat.le_of_ble_eq_true rfl)) d_L_law_168 ⟨hfc1, hfs1⟩) (rs_a2 hP) (rs_aD2 hD) hS [1, 2, 0] rfl (fun _ => rfl) (fun _ => gs_adr _ _ _ _ _ _) (fun r13 u14 H locs hw14 hP hD hS => ?_)
    have hP := rs_b2 hP
    have hD := rs_bD2 hD
    subst hw14
    have hP : va_P D vC (((([(ou, kl cJ 1 V), (h, rO od fa ot ah te id rt bs kn), (fa, go cO 4 fr), (ot, go cO 4 er), (ah, ka cJ 13 a), (te, ka cJ 31 T), (id, ka cJ 5 J), (rt, rR fo cn wh pt rs sq on tw), (fo, ka cJ 4 Fo), (wh, ka cJ 5 Y), (pt, ka cJ 5 P), (rs, ka cJ 5 r), (sq, ka cJ 8 S), (on, ka cJ 5 a1), (tw, ka cJ 5 b1), (bs, rB ro le me bn), (ro, go cO 17 ra), (le, ki cI 13 Lx), (me, go cO 13 mb), (g, rM cd od fc hd md lo lv tb rw bm mn nu tu), (fc, k2 cJ 20 5 G), (hd, ka cJ 13 a2), (md, ka cJ 17 P2), (lo, k2 cJ 20 5 E2), (tb, k2 cJ 221 13 M2), (rw, ki cI 13 L2), (bm, k2 cJ 169 13 B2), (nu, ka cJ 31 T2), (tu, k2 cJ 20 5 U2)] ++ gs 4 er cJ 5 E) ++ gs 4 fr cJ 5 F) ++ gs 13 mb cJ 13 Bm) ++ gs 17 ra cJ 13 M) H := hP
    have hD : va_D A (((([(ou, kl cJ 1 V), (h, rO od fa ot ah te id rt bs kn), (fa, go cO 4 fr), (ot, go cO 4 er), (ah, ka cJ 13 a), (te, ka cJ 31 T), (id, ka cJ 5 J), (rt, rR fo cn wh pt rs sq on tw), (fo, ka cJ 4 Fo), (wh, ka cJ 5 Y), (pt, ka cJ 5 P), (rs, ka cJ 5 r), (sq, ka cJ 8 S), (on, ka cJ 5 a1), (tw, ka cJ 5 b1), (bs, rB ro le me bn), (ro, go cO 17 ra), (le, ki cI 13 Lx), (me, go cO 13 mb), (g, rM cd od fc hd md lo lv tb rw bm mn nu tu), (fc, k2 cJ 20 5 G), (hd, ka cJ 13 a2), (md, ka cJ 17 P2), (lo, k2 cJ 20 5 E2), (tb, k2 cJ 221 13 M2), (rw, ki cI 13 L2), (bm, k2 cJ 169 13 B2), (nu, ka cJ 31 T2), (tu, k2 cJ 20 5 U2)] ++ gs 4 er cJ 5 E) ++ gs 4 fr cJ 5 F) ++ gs 13 mb cJ 13 Bm) ++ gs 17 ra cJ 13 M) := hD
    refine lv_istore (lv' := [(5, .int (iz 1)), (0, .ref b), (1, .ref h), (2, .ref g), (3, .ref ou), (4, .int (iz z4))]) hx hb d_L_law_171 hl (by decide) rfl (fun ls hl => ?_)
    refine lv_aload_n hx hb d_L_law_173 rfl (lv_at hl 3 rfl) ?_
    refine lv_aload_n hx hb d_L_law_174 rfl (lv_at hl 1 rfl) ?_
    refine lv_iload hx hb d_L_law_175 (lv_at hl 5 rfl) ?_
    refine rz_iconst hx hb d_L_law_177 ?_
    refine rz_iadd hx hb d_L_law_178 ?_
    refine rl_sld hx hb hX hbl hbA hS (k + 1) d_L_law_179 ?_
    refine lv_aload_n hx hb d_L_law_180 rfl (lv_at hl 1 rfl) ?_
    refine lv_iload hx hb d_L_law_181 (lv_at hl 5 rfl) ?_
    refine rz_iconst hx hb d_L_law_183 ?_
    refine rz_iadd hx hb d_L_law_184 ?_
    refine rl_sld hx hb hX hbl hbA hS (k + 2) d_L_law_185 ?_
    refine lv_aload_n hx hb d_L_law_186 rfl (lv_at hl 1 rfl) ?_
    refine lv_iload hx hb d_L_law_187 (lv_at hl 5 rfl) ?_
    refine rz_iconst hx hb d_L_law_189 ?_
    refine rz_iadd hx hb d_L_law_190 ?_
    refine rl_sld hx hb hX hbl hbA hS (k + 3) d_L_law_191 ?_
    refine lv_i2l hx hb d_L_law_192 rfl ?_
    refine rz_bipush hx hb d_L_law_193 (by decide) ?_
    refine lv_lshl hx hb d_L_law_195 rfl ?_
    refine lv_aload_n hx hb d_L_law_196 rfl (lv_at hl 1 rfl) ?_
    refine lv_iload hx hb d_L_law_197 (lv_at hl 5 rfl) ?_
    refine rz_iconst hx hb d_L_law_199 ?_
    refine rz_iadd hx hb d_L_law_200 ?_
    refine rl_sld hx hb hX hbl hbA hS (k + 4) d_L_law_201 ?_
    refine lv_i2l hx hb d_L_law_202 rfl ?_
    refine lv_ldc2 (v := 4294967295) hx hb hown (hts _ kw_712) d_L_law_203 ?_
    refine lv_land hx hb d_L_law_206 ?_
    refine lv_lor hx hb d_L_law_207 ?_
    refine rc_calli (va_runV (As := [.int (iz (sx xs (k + 1))), .int (iz (sx xs (k + 2))), .long (lwd (sx xs (k + 3)) (sx xs (k + 4)))]) (rest := []) ⟨hx, hb, hml, hown, hts⟩ (m_M_put l D cJ cI g cd od fc hd md lo lv tb rw bm mn nu tu G (sx xs (k + 1)) (sx xs (k + 2)) (lwd (sx xs (k + 3)) (sx xs (k + 4))) o hod ho3 (by omega) (by omega) (by omega) (by omega)) (cwV 3 hts (kb_gi (kb_c kw_574 (kb_c kw_575 (kb_c kw_576 (kb_c kw_5 (kb_c kw_577 kb_all)))))) rfl rfl rfl (by decide +kernel) ⟨Nat.le_of_ble_eq_true rfl, Nat.le_of_ble_eq_true rfl⟩) ⟨rc_blind, va_recv hK hP (ci := 3) (q0 := 19) rfl rfl, rc_pre hP hD hK hN [19, 20] rfl rfl [0, 2] rfl⟩ rfl rfl hl.1 rfl (lv_room (Nat.le_of_ble_eq_true rfl)) d_L_law_208 ⟨hfc1, hfs1⟩) hP hD hS [19, 20] rfl (fun _ => rfl) (fun r15 u16 H locs hw16 hP hD hS => ?_)
    have h9 : u16 = (1, G) ∧ r15 = iz 0 := by
      rcases hw16 with ⟨h6, h7, h8⟩ | ⟨h6, h7, h8⟩
      · exfalso; omega
      · exact ⟨h7, h8⟩
    obtain ⟨rfl, rfl⟩ := h9
    have hP : va_P D vC (((([(ou, kl cJ 1 V), (h, rO od fa ot ah te id rt bs kn), (fa, go cO 4 fr), (ot, go cO 4 er), (ah, ka cJ 13 a), (te, ka cJ 31 T), (id, ka cJ 5 J), (rt, rR fo cn wh pt rs sq on tw), (fo, ka cJ 4 Fo), (wh, ka cJ 5 Y), (pt, ka cJ 5 P), (rs, ka cJ 5 r), (sq, ka cJ 8 S), (on, ka cJ 5 a1), (tw, ka cJ 5 b1), (bs, rB ro le me bn), (ro, go cO 17 ra), (le, ki cI 13 Lx), (me, go cO 13 mb), (g, rM 1 od fc hd md lo lv tb rw bm mn nu tu), (fc, k2 cJ 20 5 G), (hd, ka cJ 13 a2), (md, ka cJ 17 P2), (lo, k2 cJ 20 5 E2), (tb, k2 cJ 221 13 M2), (rw, ki cI 13 L2), (bm, k2 cJ 169 13 B2), (nu, ka cJ 31 T2), (tu, k2 cJ 20 5 U2)] ++ gs 4 er cJ 5 E) ++ gs 4 fr cJ 5 F) ++ gs 13 mb cJ 13 Bm) ++ gs 17 ra cJ 13 M) H := hP
    have hD : va_D A (((([(ou, kl cJ 1 V), (h, rO od fa ot ah te id rt bs kn), (fa, go cO 4 fr), (ot, go cO 4 er), (ah, ka cJ 13 a), (te, ka cJ 31 T), (id, ka cJ 5 J), (rt, rR fo cn wh pt rs sq on tw), (fo, ka cJ 4 Fo), (wh, ka cJ 5 Y), (pt, ka cJ 5 P), (rs, ka cJ 5 r), (sq, ka cJ 8 S), (on, ka cJ 5 a1), (tw, ka cJ 5 b1), (bs, rB ro le me bn), (ro, go cO 17 ra), (le, ki cI 13 Lx), (me, go cO 13 mb), (g, rM 1 od fc hd md lo lv tb rw bm mn nu tu), (fc, k2 cJ 20 5 G), (hd, ka cJ 13 a2), (md, ka cJ 17 P2), (lo, k2 cJ 20 5 E2), (tb, k2 cJ 221 13 M2), (rw, ki cI 13 L2), (bm, k2 cJ 169 13 B2), (nu, ka cJ 31 T2), (tu, k2 cJ 20 5 U2)] ++ gs 4 er cJ 5 E) ++ gs 4 fr cJ 5 F) ++ gs 13 mb cJ 13 Bm) ++ gs 17 ra cJ 13 M) := hD
    refine lv_istore (lv' := [(6, .int (iz 0)), (5, .int (iz 1)), (0, .ref b), (1, .ref h), (2, .ref g), (3, .ref ou), (4, .int (iz z4))]) hx hb d_L_law_211 hl (by decide) rfl (fun ls hl => ?_)
    refine lv_aload_n hx hb d_L_law_213 rfl (lv_at hl 4 rfl) ?_
    refine rc_calli (va_runV (As := []) (rest := []) ⟨hx, hb, hml, hown, hts⟩ (m_M_thrown l D g 1 od fc hd md lo lv tb rw bm mn nu tu) (cwV 0 hts (kb_gi (kb_c kw_570 (kb_c kw_571 (kb_c kw_572 (kb_c kw_5 (kb_c kw_573 kb_all)))))) rfl rfl rfl (by decide +kernel) ⟨Nat.le_of_ble_eq_true rfl, Nat.le_of_ble_eq_true rfl⟩) ⟨rc_blind, va_recv hK hP (ci := 3) (q0 := 19) rfl rfl, rc_pre hP hD hK hN [19] rfl rfl [] rfl⟩ rfl rfl hl.1 rfl (lv_room (Nat.le_of_ble_eq_true rfl)) d_L_law_214 ⟨hfc1, hfs1⟩) hP hD hS [19] rfl (fun _ => rfl) (fun r17 u18 H locs hw18 hP hD hS => ?_)
    subst hw18
    have hP : va_P D vC (((([(ou, kl cJ 1 V), (h, rO od fa ot ah te id rt bs kn), (fa, go cO 4 fr), (ot, go cO 4 er), (ah, ka cJ 13 a), (te, ka cJ 31 T), (id, ka cJ 5 J), (rt, rR fo cn wh pt rs sq on tw), (fo, ka cJ 4 Fo), (wh, ka cJ 5 Y), (pt, ka cJ 5 P), (rs, ka cJ 5 r), (sq, ka cJ 8 S), (on, ka cJ 5 a1), (tw, ka cJ 5 b1), (bs, rB ro le me bn), (ro, go cO 17 ra), (le, ki cI 13 Lx), (me, go cO 13 mb), (g, rM 1 od fc hd md lo lv tb rw bm mn nu tu), (fc, k2 cJ 20 5 G), (hd, ka cJ 13 a2), (md, ka cJ 17 P2), (lo, k2 cJ 20 5 E2), (tb, k2 cJ 221 13 M2), (rw, ki cI 13 L2), (bm, k2 cJ 169 13 B2), (nu, ka cJ 31 T2), (tu, k2 cJ 20 5 U2)] ++ gs 4 er cJ 5 E) ++ gs 4 fr cJ 5 F) ++ gs 13 mb cJ 13 Bm) ++ gs 17 ra cJ 13 M) H := hP
    have hD : va_D A (((([(ou, kl cJ 1 V), (h, rO od fa ot ah te id rt bs kn), (fa, go cO 4 fr), (ot, go cO 4 er), (ah, ka cJ 13 a), (te, ka cJ 31 T), (id, ka cJ 5 J), (rt, rR fo cn wh pt rs sq on tw), (fo, ka cJ 4 Fo), (wh, ka cJ 5 Y), (pt, ka cJ 5 P), (rs, ka cJ 5 r), (sq, ka cJ 8 S), (on, ka cJ 5 a1), (tw, ka cJ 5 b1), (bs, rB ro le me bn), (ro, go cO 17 ra), (le, ki cI 13 Lx), (me, go cO 13 mb), (g, rM 1 od fc hd md lo lv tb rw bm mn nu tu), (fc, k2 cJ 20 5 G), (hd, ka cJ 13 a2), (md, ka cJ 17 P2), (lo, k2 cJ 20 5 E2), (tb, k2 cJ 221 13 M2), (rw, ki cI 13 L2), (bm, k2 cJ 169 13 B2), (nu, ka cJ 31 T2), (tu, k2 cJ 20 5 U2)] ++ gs 4 er cJ 5 E) ++ gs 4 fr cJ 5 F) ++ gs 13 mb cJ 13 Bm) ++ gs 17 ra cJ 13 M) := hD
    refine lv_iload hx hb d_L_law_217 (lv_at hl 1 rfl) ?_
    refine rl_icmp_eq (tgt := 224) hx hb d_L_law_219 (by decide) rfl ?_
    refine lv_iload hx hb d_L_law_224 (lv_at hl 1 rfl) ?_
    refine rz_if_ne (tgt := 248) hx hb d_L_law_226 (by decide) (fun _ => ?_) (fun hc => absurd hc (by decide))
    refine lv_goto (tgt := 1338) hx hb d_L_law_248 (by decide) ?_
    refine W.widen (k := kc + 1) (n := ks + 6) (by omega) (by omega) ?_
    exact hend V kn a T J cn Fo Y P r S a1 b1 bn Lx E F Bm M 1 lv mn G a2 P2 E2 M2 L2 B2 T2 U2 H locs ls ⟨hI, hJ⟩ hP hD hS (lv_sub hl [2, 3, 4, 5, 6] rfl)
set_option maxHeartbeats 4000000 in
set_option maxRecDepth 100000 in
theorem lc_1 {cJ cO cI : ClassId} {ou h fa ot ah te id rt bs : Nat} {od : Int} {fo wh pt rs sq on tw : Nat} {ro le me : Nat} {fr er mb ra : Nat → Nat} {g : Nat} {fc hd md lo tb rw bm nu tu : Nat} {o : Nat} {sa : Nat → Nat} {ct b L : Nat} {xs : Nat → Int32} {V : Nat → Int64} {kn : Int} {a : Nat → ro_K} {T : Nat → ro_K} {J : Nat → ro_K} {cn : Int} {Fo : Nat → ro_K} {Y : Nat → ro_K} {P : Nat → ro_K} {r : Nat → ro_K} {S : Nat → ro_K} {a1 : Nat → ro_K} {b1 : Nat → ro_K} {bn : Int} {Lx : Nat → Int} {E : Nat → Nat → ro_K} {F : Nat → Nat → ro_K} {Bm : Nat → Nat → ro_K} {M : Nat → Nat → ro_K} {cd : Int} {lv : Int} {mn : Int} {G : Nat → Nat → ro_K} {a2 : Nat → ro_K} {P2 : Nat → ro_K} {E2 : Nat → Nat → ro_K} {M2 : Nat → Nat → ro_K} {L2 : Nat → Int} {B2 : Nat → Nat → ro_K} {T2 : Nat → ro_K} {U2 : Nat → Nat → ro_K} {z4 : Int} {k kc ks : Nat} {H : Heap} {locs : List Loc} {ls : Array Slot} (hx : p.tables.exec = Jvm.exec) (hb : c.code = c_L_law) (hml : c.maxLocals = 7) (hown : s.vm.findClass R_L = some m.cls) (hts : ∀ w ∈ kb, w.before args s = true) (hK : va_K D vC [(cJ, .long), (cO, .array .long), (cI, .int)] s) (hN : rc_N s) (hst : l.stackTraces = false) (hE : rx_E sa A s s.heap) (hC : rz_C ct A s s.heap) (hX : va_X b L xs s s.heap) (hbl : b < s.heap.size) (hbA : ¬ A b) (hL : L ≤ 5121) (hod : od = (o : Int)) (ho1 : 1 ≤ o) (ho3 : o ≤ 3) (hz4 : z4 = (k : Int)) (hk9 : k + 9 < L) (hkc : kc + 1 ≤ 601024) (hks : ks + 6 ≤ 7293000) (hI : (lw_I o F E a kn M Lx Bm bn G a2 ∧ J 4 = 0)) (hend : ∀ (V : Nat → Int64) (kn : Int) (a : Nat → ro_K) (T : Nat → ro_K) (J : Nat → ro_K) (cn : Int) (Fo : Nat → ro_K) (Y : Nat → ro_K) (P : Nat → ro_K) (r : Nat → ro_K) (S : Nat → ro_K) (a1 : Nat → ro_K) (b1 : Nat → ro_K) (bn : Int) (Lx : Nat → Int) (E : Nat → Nat → ro_K) (F : Nat → Nat → ro_K) (Bm : Nat → Nat → ro_K) (M : Nat → Nat → ro_K) (cd : Int) (lv : Int) (mn : Int) (G : Nat → Nat → ro_K) (a2 : Nat → ro_K) (P2 : Nat → ro_K) (E2 : Nat → Nat → ro_K) (M2 : Nat → Nat → ro_K) (L2 : Nat → Int) (B2 : Nat → Nat → ro_K) (T2 : Nat → ro_K) (U2 : Nat → Nat → ro_K) (H : Heap) (locs : List Loc) (ls : Array Slot), (lw_I o F E a kn M Lx Bm bn G a2 ∧ J 4 = 0) → va_P D vC (((([(ou, kl cJ 1 V), (h, rO od fa ot ah te id rt bs kn), (fa, go cO 4 fr), (ot, go cO 4 er), (ah, ka cJ 13 a), (te, ka cJ 31 T), (id, ka cJ 5 J), (rt, rR fo cn wh pt rs sq on tw), (fo, ka cJ 4 Fo), (wh, ka cJ 5 Y), (pt, ka cJ 5 P), (rs, ka cJ 5 r), (sq, ka cJ 8 S), (on, ka cJ 5 a1), (tw, ka cJ 5 b1), (bs, rB ro le me bn), (ro, go cO 17 ra), (le, ki cI 13 Lx), (me, go cO 13 mb), (g, rM cd od fc hd md lo lv tb rw bm mn nu tu), (fc, k2 cJ 20 5 G), (hd, ka cJ 13 a2), (md, ka cJ 17 P2), (lo, k2 cJ 20 5 E2), (tb, k2 cJ 221 13 M2), (rw, ki cI 13 L2), (bm, k2 cJ 169 13 B2), (nu, ka cJ 31 T2), (tu, k2 cJ 20 5 U2)] ++ gs 4 er cJ 5 E) ++ gs 4 fr cJ 5 F) ++ gs 13 mb cJ 13 Bm) ++ gs 17 ra cJ 13 M) H → va_D A (((([(ou, kl cJ 1 V), (h, rO od fa ot ah te id rt bs kn), (fa, go cO 4 fr), (ot, go cO 4 er), (ah, ka cJ 13 a), (te, ka cJ 31 T), (id, ka cJ 5 J), (rt, rR fo cn wh pt rs sq on tw), (fo, ka cJ 4 Fo), (wh, ka cJ 5 Y), (pt, ka cJ 5 P), (rs, ka cJ 5 r), (sq, ka cJ 8 S), (on, ka cJ 5 a1), (tw, ka cJ 5 b1), (bs, rB ro le me bn), (ro, go cO 17 ra), (le, ki cI 13 Lx), (me, go cO 13 mb), (g, rM cd od fc hd md lo lv tb rw bm mn nu tu), (fc, k2 cJ 20 5 G), (hd, ka cJ 13 a2), (md, ka cJ 17 P2), (lo, k2 cJ 20 5 E2), (tb, k2 cJ 221 13 M2), (rw, ki cI 13 L2), (bm, k2 cJ 169 13 B2), (nu, ka cJ 31 T2), (tu, k2 cJ 20 5 U2)] ++ gs 4 er cJ 5 E) ++ gs 4 fr cJ 5 F) ++ gs 13 mb cJ 13 Bm) ++ gs 17 ra cJ 13 M) → va_S A s.heap H locs → lv_has ls 7 [(0, .ref b), (1, .ref h), (2, .ref g), (3, .ref ou), (4, .int (iz z4))] → W p l e room_1 s m args below meth c H locs (kc + 1) (ks + 6) Q (F0 m 1338 ls [])) (hP : va_P D vC (((([(ou, kl cJ 1 V), (h, rO od fa ot ah te id rt bs kn), (fa, go cO 4 fr), (ot, go cO 4 er), (ah, ka cJ 13 a), (te, ka cJ 31 T), (id, ka cJ 5 J), (rt, rR fo cn wh pt rs sq on tw), (fo, ka cJ 4 Fo), (wh, ka cJ 5 Y), (pt, ka cJ 5 P), (rs, ka cJ 5 r), (sq, ka cJ 8 S), (on, ka cJ 5 a1), (tw, ka cJ 5 b1), (bs, rB ro le me bn), (ro, go cO 17 ra), (le, ki cI 13 Lx), (me, go cO 13 mb), (g, rM cd od fc hd md lo lv tb rw bm mn nu tu), (fc, k2 cJ 20 5 G), (hd, ka cJ 13 a2), (md, ka cJ 17 P2), (lo, k2 cJ 20 5 E2), (tb, k2 cJ 221 13 M2), (rw, ki cI 13 L2), (bm, k2 cJ 169 13 B2), (nu, ka cJ 31 T2), (tu, k2 cJ 20 5 U2)] ++ gs 4 er cJ 5 E) ++ gs 4 fr cJ 5 F) ++ gs 13 mb cJ 13 Bm) ++ gs 17 ra cJ 13 M) H) (hD : va_D A (((([(ou, kl cJ 1 V), (h, rO od fa ot ah te id rt bs kn), (fa, go cO 4 fr), (ot, go cO 4 er), (ah, ka cJ 13 a), (te, ka cJ 31 T), (id, ka cJ 5 J), (rt, rR fo cn wh pt rs sq on tw), (fo, ka cJ 4 Fo), (wh, ka cJ 5 Y), (pt, ka cJ 5 P), (rs, ka cJ 5 r), (sq, ka cJ 8 S), (on, ka cJ 5 a1), (tw, ka cJ 5 b1), (bs, rB ro le me bn), (ro, go cO 17 ra), (le, ki cI 13 Lx), (me, go cO 13 mb), (g, rM cd od fc hd md lo lv tb rw bm mn nu tu), (fc, k2 cJ 20 5 G), (hd, ka cJ 13 a2), (md, ka cJ 17 P2), (lo, k2 cJ 20 5 E2), (tb, k2 cJ 221 13 M2), (rw, ki cI 13 L2), (bm, k2 cJ 169 13 B2), (nu, ka cJ 31 T2), (tu, k2 cJ 20 5 U2)] ++ gs 4 er cJ 5 E) ++ gs 4 fr cJ 5 F) ++ gs 13 mb cJ 13 Bm) ++ gs 17 ra cJ 13 M)) (hS : va_S A s.heap H locs) (hl : lv_has ls 7 [(0, .ref b), (1, .ref h), (2, .ref g), (3, .ref ou), (4, .int (iz z4))]) : W p l e room_1 s m args below meth c H locs kc ks Q (F0 m 251 ls []) := by
  obtain ⟨hI, hJ⟩ := hI
  have hs1 := sx_in xs (k + 1)
  have hs2 := sx_in xs (k + 2)
  have hfc : kc + 0 ≤ room_1.cells := by show kc + 0 ≤ 601024; omega
  have hfs : ks + 0 ≤ room_1.slots := by show ks + 0 ≤ 7293000; omega
  have hfc1 : kc + 1 ≤ room_1.cells := hkc
  have hfs1 : ks + 6 ≤ room_1.slots := hks
  by_cases hok : 0 ≤ (sx xs (k + 1)) ∧ (sx xs (k + 1)) ≤ od ∧ 0 ≤ (sx xs (k + 2)) ∧ (sx xs (k + 2)) < 5
  · refine lv_aload_n hx hb d_L_law_251 rfl (lv_at hl 1 rfl) ?_
    refine lv_aload_n hx hb d_L_law_252 rfl (lv_at hl 0 rfl) ?_
    refine lv_iload hx hb d_L_law_253 (lv_at hl 4 rfl) ?_
    refine rz_iconst hx hb d_L_law_255 ?_
    refine rz_iadd hx hb d_L_law_256 ?_
    refine rl_sld hx hb hX hbl hbA hS (k + 1) d_L_law_257 ?_
    refine lv_aload_n hx hb d_L_law_258 rfl (lv_at hl 0 rfl) ?_
    refine lv_iload hx hb d_L_law_259 (lv_at hl 4 rfl) ?_
    refine rz_iconst hx hb d_L_law_261 ?_
    refine rz_iadd hx hb d_L_law_262 ?_
    refine rl_sld hx hb hX hbl hbA hS (k + 2) d_L_law_263 ?_
    refine lv_aload_n hx hb d_L_law_264 rfl (lv_at hl 3 rfl) ?_
    refine rsM_calli (vx_runSW (hh := [((0 : Nat), (10 : Nat), (13 : Nat), (13 : Nat))]) (As := [.ref h, .int (iz (sx xs (k + 1))), .int (iz (sx xs (k + 2))), .ref ou]) (rest := []) ⟨hx, hb, hml, hown, hts⟩ (h_L_at l D cJ cO h fa ot ah te id rt bs od kn ou V fr F (sx xs (k + 1)) (sx xs (k + 2)) o hod ho3 ((sx xs (k + 1)).toNat) ((sx xs (k + 2)).toNat) (by omega) (by omega) (by omega) (by omega)) (vx_cwSW 4 hts (kb_gi (kb_c kw_294 (kb_c kw_295 (kb_c kw_0 (kb_c kw_296 kb_all))))) rfl rfl rfl (by decide +kernel) ⟨Nat.le_of_ble_eq_true rfl, Nat.le_of_ble_eq_true rfl⟩) ⟨rc_blind, rs_pre (rs_a2 hP) (rs_aD2 hD) hK hN [1, 2, 0] rfl rfl [0, 1] rfl⟩ rfl rfl hl.1 rfl (lv_room (Nat.le_of_ble_eq_true rfl)) d_L_law_265 ⟨hfc, hfs⟩) (rs_a2 hP) (rs_aD2 hD) hS [1, 2, 0] rfl (fun _ => rfl) (fun _ => gs_adr _ _ _ _ _ _) (fun r1 u2 H locs hw2 hP hD hS => ?_)
    have hP := rs_b2 hP
    have hD := rs_bD2 hD
    subst hw2
    have hP : va_P D vC (((([(ou, kl cJ 1 (vp_updL V 0 ((iz ((F ((sx xs (k + 1)).toNat) ((sx xs (k + 2)).toNat)).val : Int)).toInt64))), (h, rO od fa ot ah te id rt bs kn), (fa, go cO 4 fr), (ot, go cO 4 er), (ah, ka cJ 13 a), (te, ka cJ 31 T), (id, ka cJ 5 J), (rt, rR fo cn wh pt rs sq on tw), (fo, ka cJ 4 Fo), (wh, ka cJ 5 Y), (pt, ka cJ 5 P), (rs, ka cJ 5 r), (sq, ka cJ 8 S), (on, ka cJ 5 a1), (tw, ka cJ 5 b1), (bs, rB ro le me bn), (ro, go cO 17 ra), (le, ki cI 13 Lx), (me, go cO 13 mb), (g, rM cd od fc hd md lo lv tb rw bm mn nu tu), (fc, k2 cJ 20 5 G), (hd, ka cJ 13 a2), (md, ka cJ 17 P2), (lo, k2 cJ 20 5 E2), (tb, k2 cJ 221 13 M2), (rw, ki cI 13 L2), (bm, k2 cJ 169 13 B2), (nu, ka cJ 31 T2), (tu, k2 cJ 20 5 U2)] ++ gs 4 er cJ 5 E) ++ gs 4 fr cJ 5 F) ++ gs 13 mb cJ 13 Bm) ++ gs 17 ra cJ 13 M) H := hP
    have hD : va_D A (((([(ou, kl cJ 1 (vp_updL V 0 ((iz ((F ((sx xs (k + 1)).toNat) ((sx xs (k + 2)).toNat)).val : Int)).toInt64))), (h, rO od fa ot ah te id rt bs kn), (fa, go cO 4 fr), (ot, go cO 4 er), (ah, ka cJ 13 a), (te, ka cJ 31 T), (id, ka cJ 5 J), (rt, rR fo cn wh pt rs sq on tw), (fo, ka cJ 4 Fo), (wh, ka cJ 5 Y), (pt, ka cJ 5 P), (rs, ka cJ 5 r), (sq, ka cJ 8 S), (on, ka cJ 5 a1), (tw, ka cJ 5 b1), (bs, rB ro le me bn), (ro, go cO 17 ra), (le, ki cI 13 Lx), (me, go cO 13 mb), (g, rM cd od fc hd md lo lv tb rw bm mn nu tu), (fc, k2 cJ 20 5 G), (hd, ka cJ 13 a2), (md, ka cJ 17 P2), (lo, k2 cJ 20 5 E2), (tb, k2 cJ 221 13 M2), (rw, ki cI 13 L2), (bm, k2 cJ 169 13 B2), (nu, ka cJ 31 T2), (tu, k2 cJ 20 5 U2)] ++ gs 4 er cJ 5 E) ++ gs 4 fr cJ 5 F) ++ gs 13 mb cJ 13 Bm) ++ gs 17 ra cJ 13 M) := hD
    refine lv_istore (lv' := [(5, .int (iz 0)), (0, .ref b), (1, .ref h), (2, .ref g), (3, .ref ou), (4, .int (iz z4))]) hx hb d_L_law_268 hl (by decide) rfl (fun ls hl => ?_)
    refine lv_aload_n hx hb d_L_law_270 rfl (lv_at hl 3 rfl) ?_
    refine lv_aload_n hx hb d_L_law_271 rfl (lv_at hl 1 rfl) ?_
    refine lv_iload hx hb d_L_law_272 (lv_at hl 5 rfl) ?_
    refine rz_iconst hx hb d_L_law_274 ?_
    refine rz_iadd hx hb d_L_law_275 ?_
    refine rl_sld hx hb hX hbl hbA hS (k + 1) d_L_law_276 ?_
    refine lv_aload_n hx hb d_L_law_277 rfl (lv_at hl 1 rfl) ?_
    refine lv_iload hx hb d_L_law_278 (lv_at hl 5 rfl) ?_
    refine rz_iconst hx hb d_L_law_280 ?_
    refine rz_iadd hx hb d_L_law_281 ?_
    refine rl_sld hx hb hX hbl hbA hS (k + 2) d_L_law_282 ?_
    refine rc_calli (va_runV (As := [.int (iz (sx xs (k + 1))), .int (iz (sx xs (k + 2)))]) (rest := []) ⟨hx, hb, hml, hown, hts⟩ (m_M_at l D cJ cI g cd od fc hd md lo lv tb rw bm mn nu tu G (sx xs (k + 1)) (sx xs (k + 2)) o hod ho3 (by omega) (by omega) (by omega) (by omega)) (cwV 2 hts (kb_gi (kb_c kw_590 (kb_c kw_591 (kb_c kw_592 (kb_c kw_5 (kb_c kw_593 kb_all)))))) rfl rfl rfl (by decide +kernel) ⟨Nat.le_of_ble_eq_true rfl, Nat.le_of_ble_eq_true rfl⟩) ⟨rc_blind, va_recv hK hP (ci := 3) (q0 := 19) rfl rfl, rc_pre hP hD hK hN [19, 20] rfl rfl [0, 2] rfl⟩ rfl rfl hl.1 rfl (lv_room (Nat.le_of_ble_eq_true rfl)) d_L_law_283 ⟨hfc, hfs⟩) hP hD hS [19, 20] rfl (fun _ => rfl) (fun r3 u4 H locs hw4 hP hD hS => ?_)
    have h9 : u4 = 0 ∧ r3 = iz ((G ((sx xs (k + 1)).toNat) ((sx xs (k + 2)).toNat)).val : Int) := by
      rcases hw4 with ⟨h6, h7, h8⟩ | ⟨h6, h7, h8⟩
      · exact ⟨h7, h8⟩
      · exact absurd ⟨⟨by omega, by omega⟩, by omega, by omega⟩ h6
    obtain ⟨rfl, rfl⟩ := h9
    have hP : va_P D vC (((([(ou, kl cJ 1 (vp_updL V 0 ((iz ((F ((sx xs (k + 1)).toNat) ((sx xs (k + 2)).toNat)).val : Int)).toInt64))), (h, rO od fa ot ah te id rt bs kn), (fa, go cO 4 fr), (ot, go cO 4 er), (ah, ka cJ 13 a), (te, ka cJ 31 T), (id, ka cJ 5 J), (rt, rR fo cn wh pt rs sq on tw), (fo, ka cJ 4 Fo), (wh, ka cJ 5 Y), (pt, ka cJ 5 P), (rs, ka cJ 5 r), (sq, ka cJ 8 S), (on, ka cJ 5 a1), (tw, ka cJ 5 b1), (bs, rB ro le me bn), (ro, go cO 17 ra), (le, ki cI 13 Lx), (me, go cO 13 mb), (g, rM 0 od fc hd md lo lv tb rw bm mn nu tu), (fc, k2 cJ 20 5 G), (hd, ka cJ 13 a2), (md, ka cJ 17 P2), (lo, k2 cJ 20 5 E2), (tb, k2 cJ 221 13 M2), (rw, ki cI 13 L2), (bm, k2 cJ 169 13 B2), (nu, ka cJ 31 T2), (tu, k2 cJ 20 5 U2)] ++ gs 4 er cJ 5 E) ++ gs 4 fr cJ 5 F) ++ gs 13 mb cJ 13 Bm) ++ gs 17 ra cJ 13 M) H := hP
    have hD : va_D A (((([(ou, kl cJ 1 (vp_updL V 0 ((iz ((F ((sx xs (k + 1)).toNat) ((sx xs (k + 2)).toNat)).val : Int)).toInt64))), (h, rO od fa ot ah te id rt bs kn), (fa, go cO 4 fr), (ot, go cO 4 er), (ah, ka cJ 13 a), (te, ka cJ 31 T), (id, ka cJ 5 J), (rt, rR fo cn wh pt rs sq on tw), (fo, ka cJ 4 Fo), (wh, ka cJ 5 Y), (pt, ka cJ 5 P), (rs, ka cJ 5 r), (sq, ka cJ 8 S), (on, ka cJ 5 a1), (tw, ka cJ 5 b1), (bs, rB ro le me bn), (ro, go cO 17 ra), (le, ki cI 13 Lx), (me, go cO 13 mb), (g, rM 0 od fc hd md lo lv tb rw bm mn nu tu), (fc, k2 cJ 20 5 G), (hd, ka cJ 13 a2), (md, ka cJ 17 P2), (lo, k2 cJ 20 5 E2), (tb, k2 cJ 221 13 M2), (rw, ki cI 13 L2), (bm, k2 cJ 169 13 B2), (nu, ka cJ 31 T2), (tu, k2 cJ 20 5 U2)] ++ gs 4 er cJ 5 E) ++ gs 4 fr cJ 5 F) ++ gs 13 mb cJ 13 Bm) ++ gs 17 ra cJ 13 M) := hD
    refine lv_istore (lv' := [(6, .int (iz ((G ((sx xs (k + 1)).toNat) ((sx xs (k + 2)).toNat)).val : Int))), (5, .int (iz 0)), (0, .ref b), (1, .ref h), (2, .ref g), (3, .ref ou), (4, .int (iz z4))]) hx hb d_L_law_286 hl (by decide) rfl (fun ls hl => ?_)
    refine lv_aload_n hx hb d_L_law_288 rfl (lv_at hl 4 rfl) ?_
    refine rc_calli (va_runV (As := []) (rest := []) ⟨hx, hb, hml, hown, hts⟩ (m_M_thrown l D g 0 od fc hd md lo lv tb rw bm mn nu tu) (cwV 0 hts (kb_gi (kb_c kw_570 (kb_c kw_571 (kb_c kw_572 (kb_c kw_5 (kb_c kw_573 kb_all)))))) rfl rfl rfl (by decide +kernel) ⟨Nat.le_of_ble_eq_true rfl, Nat.le_of_ble_eq_true rfl⟩) ⟨rc_blind, va_recv hK hP (ci := 3) (q0 := 19) rfl rfl, rc_pre hP hD hK hN [19] rfl rfl [] rfl⟩ rfl rfl hl.1 rfl (lv_room (Nat.le_of_ble_eq_true rfl)) d_L_law_289 ⟨hfc, hfs⟩) hP hD hS [19] rfl (fun _ => rfl) (fun r5 u6 H locs hw6 hP hD hS => ?_)
    subst hw6
    have hP : va_P D vC (((([(ou, kl cJ 1 (vp_updL V 0 ((iz ((F ((sx xs (k + 1)).toNat) ((sx xs (k + 2)).toNat)).val : Int)).toInt64))), (h, rO od fa ot ah te id rt bs kn), (fa, go cO 4 fr), (ot, go cO 4 er), (ah, ka cJ 13 a), (te, ka cJ 31 T), (id, ka cJ 5 J), (rt, rR fo cn wh pt rs sq on tw), (fo, ka cJ 4 Fo), (wh, ka cJ 5 Y), (pt, ka cJ 5 P), (rs, ka cJ 5 r), (sq, ka cJ 8 S), (on, ka cJ 5 a1), (tw, ka cJ 5 b1), (bs, rB ro le me bn), (ro, go cO 17 ra), (le, ki cI 13 Lx), (me, go cO 13 mb), (g, rM 0 od fc hd md lo lv tb rw bm mn nu tu), (fc, k2 cJ 20 5 G), (hd, ka cJ 13 a2), (md, ka cJ 17 P2), (lo, k2 cJ 20 5 E2), (tb, k2 cJ 221 13 M2), (rw, ki cI 13 L2), (bm, k2 cJ 169 13 B2), (nu, ka cJ 31 T2), (tu, k2 cJ 20 5 U2)] ++ gs 4 er cJ 5 E) ++ gs 4 fr cJ 5 F) ++ gs 13 mb cJ 13 Bm) ++ gs 17 ra cJ 13 M) H := hP
    have hD : va_D A (((([(ou, kl cJ 1 (vp_updL V 0 ((iz ((F ((sx xs (k + 1)).toNat) ((sx xs (k + 2)).toNat)).val : Int)).toInt64))), (h, rO od fa ot ah te id rt bs kn), (fa, go cO 4 fr), (ot, go cO 4 er), (ah, ka cJ 13 a), (te, ka cJ 31 T), (id, ka cJ 5 J), (rt, rR fo cn wh pt rs sq on tw), (fo, ka cJ 4 Fo), (wh, ka cJ 5 Y), (pt, ka cJ 5 P), (rs, ka cJ 5 r), (sq, ka cJ 8 S), (on, ka cJ 5 a1), (tw, ka cJ 5 b1), (bs, rB ro le me bn), (ro, go cO 17 ra), (le, ki cI 13 Lx), (me, go cO 13 mb), (g, rM 0 od fc hd md lo lv tb rw bm mn nu tu), (fc, k2 cJ 20 5 G), (hd, ka cJ 13 a2), (md, ka cJ 17 P2), (lo, k2 cJ 20 5 E2), (tb, k2 cJ 221 13 M2), (rw, ki cI 13 L2), (bm, k2 cJ 169 13 B2), (nu, ka cJ 31 T2), (tu, k2 cJ 20 5 U2)] ++ gs 4 er cJ 5 E) ++ gs 4 fr cJ 5 F) ++ gs 13 mb cJ 13 Bm) ++ gs 17 ra cJ 13 M) := hD
    refine lv_iload hx hb d_L_law_292 (lv_at hl 1 rfl) ?_
    refine rl_icmp_eq (tgt := 299) hx hb d_L_law_294 (by decide) rfl ?_
    refine lv_iload hx hb d_L_law_299 (lv_at hl 1 rfl) ?_
    refine rz_if_ne (tgt := 316) hx hb d_L_law_301 (by decide) (fun hc => absurd rfl hc) (fun _ => ?_)
    refine lv_aload_n hx hb d_L_law_304 rfl (lv_at hl 5 rfl) ?_
    refine rz_iconst hx hb d_L_law_305 ?_
    refine rl_ld hx hb hK hP 0 0 rfl rfl 0 d_L_law_306 ?_
    rw [vp_self]
    refine lv_iload hx hb d_L_law_307 (lv_at hl 0 rfl) ?_
    refine lv_i2l hx hb d_L_law_309 rfl ?_
    refine rl_lcmp_eq (tgt := 316) hx hb d_L_law_310 d_L_law_311 (by decide) (by rw [hI.1 ((sx xs (k + 1)).toNat) (by omega) ((sx xs (k + 2)).toNat) (by omega)]) ?_
    refine lv_goto (tgt := 1338) hx hb d_L_law_316 (by decide) ?_
    refine W.widen (k := kc + 1) (n := ks + 6) (by omega) (by omega) ?_
    exact hend (vp_updL V 0 ((iz ((F ((sx xs (k + 1)).toNat) ((sx xs (k + 2)).toNat)).val : Int)).toInt64)) kn a T J cn Fo Y P r S a1 b1 bn Lx E F Bm M 0 lv mn G a2 P2 E2 M2 L2 B2 T2 U2 H locs ls ⟨hI, hJ⟩ hP hD hS (lv_sub hl [2, 3, 4, 5, 6] rfl)
  · refine lv_aload_n hx hb d_L_law_251 rfl (lv_at hl 1 rfl) ?_
    refine lv_aload_n hx hb d_L_law_252 rfl (lv_at hl 0 rfl) ?_
    refine lv_iload hx hb d_L_law_253 (lv_at hl 4 rfl) ?_
    refine rz_iconst hx hb d_L_law_255 ?_
    refine rz_iadd hx hb d_L_law_256 ?_
    refine rl_sld hx hb hX hbl hbA hS (k + 1) d_L_law_257 ?_
    refine lv_aload_n hx hb d_L_law_258 rfl (lv_at hl 0 rfl) ?_
    refine lv_iload hx hb d_L_law_259 (lv_at hl 4 rfl) ?_
    refine rz_iconst hx hb d_L_law_261 ?_
    refine rz_iadd hx hb d_L_law_262 ?_
    refine rl_sld hx hb hX hbl hbA hS (k + 2) d_L_law_263 ?_
    refine lv_aload_n hx hb d_L_law_264 rfl (lv_at hl 3 rfl) ?_
    refine rsM_calli (vx_runSW (hh := [((0 : Nat), (10 : Nat), (13 : Nat), (13 : Nat))]) (As := [.ref h, .int (iz (sx xs (k + 1))), .int (iz (sx xs (k + 2))), .ref ou]) (rest := []) ⟨hx, hb, hml, hown, hts⟩ (h_L_at_t l D hst sa cJ cO h fa ot ah te id rt bs od kn ou V fr F (sx xs (k + 1)) (sx xs (k + 2)) o hod ho3 (by omega) (by omega) (by omega) (by omega) (by omega)) (vx_cwSW 4 hts (kb_gi (kb_c kw_294 (kb_c kw_295 (kb_c kw_0 (kb_c kw_296 kb_all))))) rfl rfl rfl (by decide +kernel) ⟨Nat.le_of_ble_eq_true rfl, Nat.le_of_ble_eq_true rfl⟩) ⟨rx_blind, fun U h8 h9 => ⟨(rs_pre (rs_a2 hP) (rs_aD2 hD) hK hN [1, 2, 0] rfl rfl [0, 1] rfl) U h8 h9, hE.go hS (rs_in (rs_aD2 hD) (is := [1, 2, 0]) rfl) h8 h9⟩⟩ rfl rfl hl.1 rfl (lv_room (Nat.le_of_ble_eq_true rfl)) d_L_law_265 ⟨hfc1, hfs1⟩) (rs_a2 hP) (rs_aD2 hD) hS [1, 2, 0] rfl (fun _ => rfl) (fun _ => gs_adr _ _ _ _ _ _) (fun r7 u8 H locs hw8 hP hD hS => ?_)
    have hP := rs_b2 hP
    have hD := rs_bD2 hD
    subst hw8
    have hP : va_P D vC (((([(ou, kl cJ 1 V), (h, rO od fa ot ah te id rt bs kn), (fa, go cO 4 fr), (ot, go cO 4 er), (ah, ka cJ 13 a), (te, ka cJ 31 T), (id, ka cJ 5 J), (rt, rR fo cn wh pt rs sq on tw), (fo, ka cJ 4 Fo), (wh, ka cJ 5 Y), (pt, ka cJ 5 P), (rs, ka cJ 5 r), (sq, ka cJ 8 S), (on, ka cJ 5 a1), (tw, ka cJ 5 b1), (bs, rB ro le me bn), (ro, go cO 17 ra), (le, ki cI 13 Lx), (me, go cO 13 mb), (g, rM cd od fc hd md lo lv tb rw bm mn nu tu), (fc, k2 cJ 20 5 G), (hd, ka cJ 13 a2), (md, ka cJ 17 P2), (lo, k2 cJ 20 5 E2), (tb, k2 cJ 221 13 M2), (rw, ki cI 13 L2), (bm, k2 cJ 169 13 B2), (nu, ka cJ 31 T2), (tu, k2 cJ 20 5 U2)] ++ gs 4 er cJ 5 E) ++ gs 4 fr cJ 5 F) ++ gs 13 mb cJ 13 Bm) ++ gs 17 ra cJ 13 M) H := hP
    have hD : va_D A (((([(ou, kl cJ 1 V), (h, rO od fa ot ah te id rt bs kn), (fa, go cO 4 fr), (ot, go cO 4 er), (ah, ka cJ 13 a), (te, ka cJ 31 T), (id, ka cJ 5 J), (rt, rR fo cn wh pt rs sq on tw), (fo, ka cJ 4 Fo), (wh, ka cJ 5 Y), (pt, ka cJ 5 P), (rs, ka cJ 5 r), (sq, ka cJ 8 S), (on, ka cJ 5 a1), (tw, ka cJ 5 b1), (bs, rB ro le me bn), (ro, go cO 17 ra), (le, ki cI 13 Lx), (me, go cO 13 mb), (g, rM cd od fc hd md lo lv tb rw bm mn nu tu), (fc, k2 cJ 20 5 G), (hd, ka cJ 13 a2), (md, ka cJ 17 P2), (lo, k2 cJ 20 5 E2), (tb, k2 cJ 221 13 M2), (rw, ki cI 13 L2), (bm, k2 cJ 169 13 B2), (nu, ka cJ 31 T2), (tu, k2 cJ 20 5 U2)] ++ gs 4 er cJ 5 E) ++ gs 4 fr cJ 5 F) ++ gs 13 mb cJ 13 Bm) ++ gs 17 ra cJ 13 M) := hD
    refine lv_istore (lv' := [(5, .int (iz 1)), (0, .ref b), (1, .ref h), (2, .ref g), (3, .ref ou), (4, .int (iz z4))]) hx hb d_L_law_268 hl (by decide) rfl (fun ls hl => ?_)
    refine lv_aload_n hx hb d_L_law_270 rfl (lv_at hl 3 rfl) ?_
    refine lv_aload_n hx hb d_L_law_271 rfl (lv_at hl 1 rfl) ?_
    refine lv_iload hx hb d_L_law_272 (lv_at hl 5 rfl) ?_
    refine rz_iconst hx hb d_L_law_274 ?_
    refine rz_iadd hx hb d_L_law_275 ?_
    refine rl_sld hx hb hX hbl hbA hS (k + 1) d_L_law_276 ?_
    refine lv_aload_n hx hb d_L_law_277 rfl (lv_at hl 1 rfl) ?_
    refine lv_iload hx hb d_L_law_278 (lv_at hl 5 rfl) ?_
    refine rz_iconst hx hb d_L_law_280 ?_
    refine rz_iadd hx hb d_L_law_281 ?_
    refine rl_sld hx hb hX hbl hbA hS (k + 2) d_L_law_282 ?_
    refine rc_calli (va_runV (As := [.int (iz (sx xs (k + 1))), .int (iz (sx xs (k + 2)))]) (rest := []) ⟨hx, hb, hml, hown, hts⟩ (m_M_at l D cJ cI g cd od fc hd md lo lv tb rw bm mn nu tu G (sx xs (k + 1)) (sx xs (k + 2)) o hod ho3 (by omega) (by omega) (by omega) (by omega)) (cwV 2 hts (kb_gi (kb_c kw_590 (kb_c kw_591 (kb_c kw_592 (kb_c kw_5 (kb_c kw_593 kb_all)))))) rfl rfl rfl (by decide +kernel) ⟨Nat.le_of_ble_eq_true rfl, Nat.le_of_ble_eq_true rfl⟩) ⟨rc_blind, va_recv hK hP (ci := 3) (q0 := 19) rfl rfl, rc_pre hP hD hK hN [19, 20] rfl rfl [0, 2] rfl⟩ rfl rfl hl.1 rfl (lv_room (Nat.le_of_ble_eq_true rfl)) d_L_law_283 ⟨hfc1, hfs1⟩) hP hD hS [19, 20] rfl (fun _ => rfl) (fun r9 u10 H locs hw10 hP hD hS => ?_)
    have h9 : u10 = 1 ∧ r9 = iz 0 := by
      rcases hw10 with ⟨h6, h7, h8⟩ | ⟨h6, h7, h8⟩
      · exfalso; omega
      · exact ⟨h7, h8⟩
    obtain ⟨rfl, rfl⟩ := h9
    have hP : va_P D vC (((([(ou, kl cJ 1 V), (h, rO od fa ot ah te id rt bs kn), (fa, go cO 4 fr), (ot, go cO 4 er), (ah, ka cJ 13 a), (te, ka cJ 31 T), (id, ka cJ 5 J), (rt, rR fo cn wh pt rs sq on tw), (fo, ka cJ 4 Fo), (wh, ka cJ 5 Y), (pt, ka cJ 5 P), (rs, ka cJ 5 r), (sq, ka cJ 8 S), (on, ka cJ 5 a1), (tw, ka cJ 5 b1), (bs, rB ro le me bn), (ro, go cO 17 ra), (le, ki cI 13 Lx), (me, go cO 13 mb), (g, rM 1 od fc hd md lo lv tb rw bm mn nu tu), (fc, k2 cJ 20 5 G), (hd, ka cJ 13 a2), (md, ka cJ 17 P2), (lo, k2 cJ 20 5 E2), (tb, k2 cJ 221 13 M2), (rw, ki cI 13 L2), (bm, k2 cJ 169 13 B2), (nu, ka cJ 31 T2), (tu, k2 cJ 20 5 U2)] ++ gs 4 er cJ 5 E) ++ gs 4 fr cJ 5 F) ++ gs 13 mb cJ 13 Bm) ++ gs 17 ra cJ 13 M) H := hP
    have hD : va_D A (((([(ou, kl cJ 1 V), (h, rO od fa ot ah te id rt bs kn), (fa, go cO 4 fr), (ot, go cO 4 er), (ah, ka cJ 13 a), (te, ka cJ 31 T), (id, ka cJ 5 J), (rt, rR fo cn wh pt rs sq on tw), (fo, ka cJ 4 Fo), (wh, ka cJ 5 Y), (pt, ka cJ 5 P), (rs, ka cJ 5 r), (sq, ka cJ 8 S), (on, ka cJ 5 a1), (tw, ka cJ 5 b1), (bs, rB ro le me bn), (ro, go cO 17 ra), (le, ki cI 13 Lx), (me, go cO 13 mb), (g, rM 1 od fc hd md lo lv tb rw bm mn nu tu), (fc, k2 cJ 20 5 G), (hd, ka cJ 13 a2), (md, ka cJ 17 P2), (lo, k2 cJ 20 5 E2), (tb, k2 cJ 221 13 M2), (rw, ki cI 13 L2), (bm, k2 cJ 169 13 B2), (nu, ka cJ 31 T2), (tu, k2 cJ 20 5 U2)] ++ gs 4 er cJ 5 E) ++ gs 4 fr cJ 5 F) ++ gs 13 mb cJ 13 Bm) ++ gs 17 ra cJ 13 M) := hD
    refine lv_istore (lv' := [(6, .int (iz 0)), (5, .int (iz 1)), (0, .ref b), (1, .ref h), (2, .ref g), (3, .ref ou), (4, .int (iz z4))]) hx hb d_L_law_286 hl (by decide) rfl (fun ls hl => ?_)
    refine lv_aload_n hx hb d_L_law_288 rfl (lv_at hl 4 rfl) ?_
    refine rc_calli (va_runV (As := []) (rest := []) ⟨hx, hb, hml, hown, hts⟩ (m_M_thrown l D g 1 od fc hd md lo lv tb rw bm mn nu tu) (cwV 0 hts (kb_gi (kb_c kw_570 (kb_c kw_571 (kb_c kw_572 (kb_c kw_5 (kb_c kw_573 kb_all)))))) rfl rfl rfl (by decide +kernel) ⟨Nat.le_of_ble_eq_true rfl, Nat.le_of_ble_eq_true rfl⟩) ⟨rc_blind, va_recv hK hP (ci := 3) (q0 := 19) rfl rfl, rc_pre hP hD hK hN [19] rfl rfl [] rfl⟩ rfl rfl hl.1 rfl (lv_room (Nat.le_of_ble_eq_true rfl)) d_L_law_289 ⟨hfc1, hfs1⟩) hP hD hS [19] rfl (fun _ => rfl) (fun r11 u12 H locs hw12 hP hD hS => ?_)
    subst hw12
    have hP : va_P D vC (((([(ou, kl cJ 1 V), (h, rO od fa ot ah te id rt bs kn), (fa, go cO 4 fr), (ot, go cO 4 er), (ah, ka cJ 13 a), (te, ka cJ 31 T), (id, ka cJ 5 J), (rt, rR fo cn wh pt rs sq on tw), (fo, ka cJ 4 Fo), (wh, ka cJ 5 Y), (pt, ka cJ 5 P), (rs, ka cJ 5 r), (sq, ka cJ 8 S), (on, ka cJ 5 a1), (tw, ka cJ 5 b1), (bs, rB ro le me bn), (ro, go cO 17 ra), (le, ki cI 13 Lx), (me, go cO 13 mb), (g, rM 1 od fc hd md lo lv tb rw bm mn nu tu), (fc, k2 cJ 20 5 G), (hd, ka cJ 13 a2), (md, ka cJ 17 P2), (lo, k2 cJ 20 5 E2), (tb, k2 cJ 221 13 M2), (rw, ki cI 13 L2), (bm, k2 cJ 169 13 B2), (nu, ka cJ 31 T2), (tu, k2 cJ 20 5 U2)] ++ gs 4 er cJ 5 E) ++ gs 4 fr cJ 5 F) ++ gs 13 mb cJ 13 Bm) ++ gs 17 ra cJ 13 M) H := hP
    have hD : va_D A (((([(ou, kl cJ 1 V), (h, rO od fa ot ah te id rt bs kn), (fa, go cO 4 fr), (ot, go cO 4 er), (ah, ka cJ 13 a), (te, ka cJ 31 T), (id, ka cJ 5 J), (rt, rR fo cn wh pt rs sq on tw), (fo, ka cJ 4 Fo), (wh, ka cJ 5 Y), (pt, ka cJ 5 P), (rs, ka cJ 5 r), (sq, ka cJ 8 S), (on, ka cJ 5 a1), (tw, ka cJ 5 b1), (bs, rB ro le me bn), (ro, go cO 17 ra), (le, ki cI 13 Lx), (me, go cO 13 mb), (g, rM 1 od fc hd md lo lv tb rw bm mn nu tu), (fc, k2 cJ 20 5 G), (hd, ka cJ 13 a2), (md, ka cJ 17 P2), (lo, k2 cJ 20 5 E2), (tb, k2 cJ 221 13 M2), (rw, ki cI 13 L2), (bm, k2 cJ 169 13 B2), (nu, ka cJ 31 T2), (tu, k2 cJ 20 5 U2)] ++ gs 4 er cJ 5 E) ++ gs 4 fr cJ 5 F) ++ gs 13 mb cJ 13 Bm) ++ gs 17 ra cJ 13 M) := hD
    refine lv_iload hx hb d_L_law_292 (lv_at hl 1 rfl) ?_
    refine rl_icmp_eq (tgt := 299) hx hb d_L_law_294 (by decide) rfl ?_
    refine lv_iload hx hb d_L_law_299 (lv_at hl 1 rfl) ?_
    refine rz_if_ne (tgt := 316) hx hb d_L_law_301 (by decide) (fun _ => ?_) (fun hc => absurd hc (by decide))
    refine lv_goto (tgt := 1338) hx hb d_L_law_316 (by decide) ?_
    refine W.widen (k := kc + 1) (n := ks + 6) (by omega) (by omega) ?_
    exact hend V kn a T J cn Fo Y P r S a1 b1 bn Lx E F Bm M 1 lv mn G a2 P2 E2 M2 L2 B2 T2 U2 H locs ls ⟨hI, hJ⟩ hP hD hS (lv_sub hl [2, 3, 4, 5, 6] rfl)
set_option maxHeartbeats 4000000 in
set_option maxRecDepth 100000 in
theorem lc_2 {cJ cO cI : ClassId} {ou h fa ot ah te id rt bs : Nat} {od : Int} {fo wh pt rs sq on tw : Nat} {ro le me : Nat} {fr er mb ra : Nat → Nat} {g : Nat} {fc hd md lo tb rw bm nu tu : Nat} {o : Nat} {sa : Nat → Nat} {ct b L : Nat} {xs : Nat → Int32} {V : Nat → Int64} {kn : Int} {a : Nat → ro_K} {T : Nat → ro_K} {J : Nat → ro_K} {cn : Int} {Fo : Nat → ro_K} {Y : Nat → ro_K} {P : Nat → ro_K} {r : Nat → ro_K} {S : Nat → ro_K} {a1 : Nat → ro_K} {b1 : Nat → ro_K} {bn : Int} {Lx : Nat → Int} {E : Nat → Nat → ro_K} {F : Nat → Nat → ro_K} {Bm : Nat → Nat → ro_K} {M : Nat → Nat → ro_K} {cd : Int} {lv : Int} {mn : Int} {G : Nat → Nat → ro_K} {a2 : Nat → ro_K} {P2 : Nat → ro_K} {E2 : Nat → Nat → ro_K} {M2 : Nat → Nat → ro_K} {L2 : Nat → Int} {B2 : Nat → Nat → ro_K} {T2 : Nat → ro_K} {U2 : Nat → Nat → ro_K} {z4 : Int} {k kc ks : Nat} {H : Heap} {locs : List Loc} {ls : Array Slot} (hx : p.tables.exec = Jvm.exec) (hb : c.code = c_L_law) (hml : c.maxLocals = 7) (hown : s.vm.findClass R_L = some m.cls) (hts : ∀ w ∈ kb, w.before args s = true) (hK : va_K D vC [(cJ, .long), (cO, .array .long), (cI, .int)] s) (hN : rc_N s) (hst : l.stackTraces = false) (hE : rx_E sa A s s.heap) (hC : rz_C ct A s s.heap) (hX : va_X b L xs s s.heap) (hbl : b < s.heap.size) (hbA : ¬ A b) (hL : L ≤ 5121) (hod : od = (o : Int)) (ho1 : 1 ≤ o) (ho3 : o ≤ 3) (hz4 : z4 = (k : Int)) (hk9 : k + 9 < L) (hkc : kc + 1 ≤ 601024) (hks : ks + 6 ≤ 7293000) (hI : (lw_I o F E a kn M Lx Bm bn G a2 ∧ J 4 = 0)) (hend : ∀ (V : Nat → Int64) (kn : Int) (a : Nat → ro_K) (T : Nat → ro_K) (J : Nat → ro_K) (cn : Int) (Fo : Nat → ro_K) (Y : Nat → ro_K) (P : Nat → ro_K) (r : Nat → ro_K) (S : Nat → ro_K) (a1 : Nat → ro_K) (b1 : Nat → ro_K) (bn : Int) (Lx : Nat → Int) (E : Nat → Nat → ro_K) (F : Nat → Nat → ro_K) (Bm : Nat → Nat → ro_K) (M : Nat → Nat → ro_K) (cd : Int) (lv : Int) (mn : Int) (G : Nat → Nat → ro_K) (a2 : Nat → ro_K) (P2 : Nat → ro_K) (E2 : Nat → Nat → ro_K) (M2 : Nat → Nat → ro_K) (L2 : Nat → Int) (B2 : Nat → Nat → ro_K) (T2 : Nat → ro_K) (U2 : Nat → Nat → ro_K) (H : Heap) (locs : List Loc) (ls : Array Slot), (lw_I o F E a kn M Lx Bm bn G a2 ∧ J 4 = 0) → va_P D vC (((([(ou, kl cJ 1 V), (h, rO od fa ot ah te id rt bs kn), (fa, go cO 4 fr), (ot, go cO 4 er), (ah, ka cJ 13 a), (te, ka cJ 31 T), (id, ka cJ 5 J), (rt, rR fo cn wh pt rs sq on tw), (fo, ka cJ 4 Fo), (wh, ka cJ 5 Y), (pt, ka cJ 5 P), (rs, ka cJ 5 r), (sq, ka cJ 8 S), (on, ka cJ 5 a1), (tw, ka cJ 5 b1), (bs, rB ro le me bn), (ro, go cO 17 ra), (le, ki cI 13 Lx), (me, go cO 13 mb), (g, rM cd od fc hd md lo lv tb rw bm mn nu tu), (fc, k2 cJ 20 5 G), (hd, ka cJ 13 a2), (md, ka cJ 17 P2), (lo, k2 cJ 20 5 E2), (tb, k2 cJ 221 13 M2), (rw, ki cI 13 L2), (bm, k2 cJ 169 13 B2), (nu, ka cJ 31 T2), (tu, k2 cJ 20 5 U2)] ++ gs 4 er cJ 5 E) ++ gs 4 fr cJ 5 F) ++ gs 13 mb cJ 13 Bm) ++ gs 17 ra cJ 13 M) H → va_D A (((([(ou, kl cJ 1 V), (h, rO od fa ot ah te id rt bs kn), (fa, go cO 4 fr), (ot, go cO 4 er), (ah, ka cJ 13 a), (te, ka cJ 31 T), (id, ka cJ 5 J), (rt, rR fo cn wh pt rs sq on tw), (fo, ka cJ 4 Fo), (wh, ka cJ 5 Y), (pt, ka cJ 5 P), (rs, ka cJ 5 r), (sq, ka cJ 8 S), (on, ka cJ 5 a1), (tw, ka cJ 5 b1), (bs, rB ro le me bn), (ro, go cO 17 ra), (le, ki cI 13 Lx), (me, go cO 13 mb), (g, rM cd od fc hd md lo lv tb rw bm mn nu tu), (fc, k2 cJ 20 5 G), (hd, ka cJ 13 a2), (md, ka cJ 17 P2), (lo, k2 cJ 20 5 E2), (tb, k2 cJ 221 13 M2), (rw, ki cI 13 L2), (bm, k2 cJ 169 13 B2), (nu, ka cJ 31 T2), (tu, k2 cJ 20 5 U2)] ++ gs 4 er cJ 5 E) ++ gs 4 fr cJ 5 F) ++ gs 13 mb cJ 13 Bm) ++ gs 17 ra cJ 13 M) → va_S A s.heap H locs → lv_has ls 7 [(0, .ref b), (1, .ref h), (2, .ref g), (3, .ref ou), (4, .int (iz z4))] → W p l e room_1 s m args below meth c H locs (kc + 1) (ks + 6) Q (F0 m 1338 ls [])) (hP : va_P D vC (((([(ou, kl cJ 1 V), (h, rO od fa ot ah te id rt bs kn), (fa, go cO 4 fr), (ot, go cO 4 er), (ah, ka cJ 13 a), (te, ka cJ 31 T), (id, ka cJ 5 J), (rt, rR fo cn wh pt rs sq on tw), (fo, ka cJ 4 Fo), (wh, ka cJ 5 Y), (pt, ka cJ 5 P), (rs, ka cJ 5 r), (sq, ka cJ 8 S), (on, ka cJ 5 a1), (tw, ka cJ 5 b1), (bs, rB ro le me bn), (ro, go cO 17 ra), (le, ki cI 13 Lx), (me, go cO 13 mb), (g, rM cd od fc hd md lo lv tb rw bm mn nu tu), (fc, k2 cJ 20 5 G), (hd, ka cJ 13 a2), (md, ka cJ 17 P2), (lo, k2 cJ 20 5 E2), (tb, k2 cJ 221 13 M2), (rw, ki cI 13 L2), (bm, k2 cJ 169 13 B2), (nu, ka cJ 31 T2), (tu, k2 cJ 20 5 U2)] ++ gs 4 er cJ 5 E) ++ gs 4 fr cJ 5 F) ++ gs 13 mb cJ 13 Bm) ++ gs 17 ra cJ 13 M) H) (hD : va_D A (((([(ou, kl cJ 1 V), (h, rO od fa ot ah te id rt bs kn), (fa, go cO 4 fr), (ot, go cO 4 er), (ah, ka cJ 13 a), (te, ka cJ 31 T), (id, ka cJ 5 J), (rt, rR fo cn wh pt rs sq on tw), (fo, ka cJ 4 Fo), (wh, ka cJ 5 Y), (pt, ka cJ 5 P), (rs, ka cJ 5 r), (sq, ka cJ 8 S), (on, ka cJ 5 a1), (tw, ka cJ 5 b1), (bs, rB ro le me bn), (ro, go cO 17 ra), (le, ki cI 13 Lx), (me, go cO 13 mb), (g, rM cd od fc hd md lo lv tb rw bm mn nu tu), (fc, k2 cJ 20 5 G), (hd, ka cJ 13 a2), (md, ka cJ 17 P2), (lo, k2 cJ 20 5 E2), (tb, k2 cJ 221 13 M2), (rw, ki cI 13 L2), (bm, k2 cJ 169 13 B2), (nu, ka cJ 31 T2), (tu, k2 cJ 20 5 U2)] ++ gs 4 er cJ 5 E) ++ gs 4 fr cJ 5 F) ++ gs 13 mb cJ 13 Bm) ++ gs 17 ra cJ 13 M)) (hS : va_S A s.heap H locs) (hl : lv_has ls 7 [(0, .ref b), (1, .ref h), (2, .ref g), (3, .ref ou), (4, .int (iz z4))]) : W p l e room_1 s m args below meth c H locs kc ks Q (F0 m 319 ls []) := by
  obtain ⟨hI, hJ⟩ := hI
  have hs1 := sx_in xs (k + 1)
  have hs2 := sx_in xs (k + 2)
  have hs3 := sx_in xs (k + 3)
  have hfc : kc + 0 ≤ room_1.cells := by show kc + 0 ≤ 601024; omega
  have hfs : ks + 0 ≤ room_1.slots := by show ks + 0 ≤ 7293000; omega
  have hfc1 : kc + 1 ≤ room_1.cells := hkc
  have hfs1 : ks + 6 ≤ room_1.slots := hks
  by_cases hok : 0 ≤ (sx xs (k + 1)) ∧ (sx xs (k + 1)) < 13
  · refine lv_aload_n hx hb d_L_law_319 rfl (lv_at hl 1 rfl) ?_
    refine lv_aload_n hx hb d_L_law_320 rfl (lv_at hl 0 rfl) ?_
    refine lv_iload hx hb d_L_law_321 (lv_at hl 4 rfl) ?_
    refine rz_iconst hx hb d_L_law_323 ?_
    refine rz_iadd hx hb d_L_law_324 ?_
    refine rl_sld hx hb hX hbl hbA hS (k + 1) d_L_law_325 ?_
    refine lv_aload_n hx hb d_L_law_326 rfl (lv_at hl 0 rfl) ?_
    refine lv_iload hx hb d_L_law_327 (lv_at hl 4 rfl) ?_
    refine rz_iconst hx hb d_L_law_329 ?_
    refine rz_iadd hx hb d_L_law_330 ?_
    refine rl_sld hx hb hX hbl hbA hS (k + 2) d_L_law_331 ?_
    refine lv_i2l hx hb d_L_law_332 rfl ?_
    refine rz_bipush hx hb d_L_law_333 (by decide) ?_
    refine lv_lshl hx hb d_L_law_335 rfl ?_
    refine lv_aload_n hx hb d_L_law_336 rfl (lv_at hl 0 rfl) ?_
    refine lv_iload hx hb d_L_law_337 (lv_at hl 4 rfl) ?_
    refine rz_iconst hx hb d_L_law_339 ?_
    refine rz_iadd hx hb d_L_law_340 ?_
    refine rl_sld hx hb hX hbl hbA hS (k + 3) d_L_law_341 ?_
    refine lv_i2l hx hb d_L_law_342 rfl ?_
    refine lv_ldc2 (v := 4294967295) hx hb hown (hts _ kw_712) d_L_law_343 ?_
    refine lv_land hx hb d_L_law_346 ?_
    refine lv_lor hx hb d_L_law_347 ?_
    refine rcM_calli (vx_runSW (hh := [((0 : Nat), (6 : Nat), (9 : Nat), (13 : Nat))]) (As := [.ref h, .int (iz (sx xs (k + 1))), .long (lwd (sx xs (k + 2)) (sx xs (k + 3)))]) (rest := []) ⟨hx, hb, hml, hown, hts⟩ (h_L_hand l D cJ cO h fa ot ah te id rt bs od kn a (sx xs (k + 1)) (lwd (sx xs (k + 2)) (sx xs (k + 3))) ((sx xs (k + 1)).toNat) (by omega) (by omega)) (vx_cwSW 3 hts (kb_gi (kb_c kw_301 (kb_c kw_302 (kb_c kw_0 (kb_c kw_303 kb_all))))) rfl rfl rfl (by decide +kernel) ⟨Nat.le_of_ble_eq_true rfl, Nat.le_of_ble_eq_true rfl⟩) ⟨rc_blind, rc_pre hP hD hK hN [1, 4] rfl rfl [0] rfl⟩ rfl rfl hl.1 rfl (lv_room (Nat.le_of_ble_eq_true rfl)) d_L_law_348 ⟨hfc, hfs⟩) hP hD hS [1, 4] rfl (fun _ => rfl) (fun r1 u2 H locs hw2 hP hD hS => ?_)
    subst hw2
    have hP : va_P D vC (((([(ou, kl cJ 1 V), (h, rO od fa ot ah te id rt bs kn), (fa, go cO 4 fr), (ot, go cO 4 er), (ah, ka cJ 13 (va_up a ((sx xs (k + 1)).toNat) (ro_k (lwd (sx xs (k + 2)) (sx xs (k + 3))).toInt))), (te, ka cJ 31 T), (id, ka cJ 5 J), (rt, rR fo cn wh pt rs sq on tw), (fo, ka cJ 4 Fo), (wh, ka cJ 5 Y), (pt, ka cJ 5 P), (rs, ka cJ 5 r), (sq, ka cJ 8 S), (on, ka cJ 5 a1), (tw, ka cJ 5 b1), (bs, rB ro le me bn), (ro, go cO 17 ra), (le, ki cI 13 Lx), (me, go cO 13 mb), (g, rM cd od fc hd md lo lv tb rw bm mn nu tu), (fc, k2 cJ 20 5 G), (hd, ka cJ 13 a2), (md, ka cJ 17 P2), (lo, k2 cJ 20 5 E2), (tb, k2 cJ 221 13 M2), (rw, ki cI 13 L2), (bm, k2 cJ 169 13 B2), (nu, ka cJ 31 T2), (tu, k2 cJ 20 5 U2)] ++ gs 4 er cJ 5 E) ++ gs 4 fr cJ 5 F) ++ gs 13 mb cJ 13 Bm) ++ gs 17 ra cJ 13 M) H := hP
    have hD : va_D A (((([(ou, kl cJ 1 V), (h, rO od fa ot ah te id rt bs kn), (fa, go cO 4 fr), (ot, go cO 4 er), (ah, ka cJ 13 (va_up a ((sx xs (k + 1)).toNat) (ro_k (lwd (sx xs (k + 2)) (sx xs (k + 3))).toInt))), (te, ka cJ 31 T), (id, ka cJ 5 J), (rt, rR fo cn wh pt rs sq on tw), (fo, ka cJ 4 Fo), (wh, ka cJ 5 Y), (pt, ka cJ 5 P), (rs, ka cJ 5 r), (sq, ka cJ 8 S), (on, ka cJ 5 a1), (tw, ka cJ 5 b1), (bs, rB ro le me bn), (ro, go cO 17 ra), (le, ki cI 13 Lx), (me, go cO 13 mb), (g, rM cd od fc hd md lo lv tb rw bm mn nu tu), (fc, k2 cJ 20 5 G), (hd, ka cJ 13 a2), (md, ka cJ 17 P2), (lo, k2 cJ 20 5 E2), (tb, k2 cJ 221 13 M2), (rw, ki cI 13 L2), (bm, k2 cJ 169 13 B2), (nu, ka cJ 31 T2), (tu, k2 cJ 20 5 U2)] ++ gs 4 er cJ 5 E) ++ gs 4 fr cJ 5 F) ++ gs 13 mb cJ 13 Bm) ++ gs 17 ra cJ 13 M) := hD
    refine lv_istore (lv' := [(5, .int (iz 0)), (0, .ref b), (1, .ref h), (2, .ref g), (3, .ref ou), (4, .int (iz z4))]) hx hb d_L_law_351 hl (by decide) rfl (fun ls hl => ?_)
    refine lv_aload_n hx hb d_L_law_353 rfl (lv_at hl 3 rfl) ?_
    refine lv_aload_n hx hb d_L_law_354 rfl (lv_at hl 1 rfl) ?_
    refine lv_iload hx hb d_L_law_355 (lv_at hl 5 rfl) ?_
    refine rz_iconst hx hb d_L_law_357 ?_
    refine rz_iadd hx hb d_L_law_358 ?_
    refine rl_sld hx hb hX hbl hbA hS (k + 1) d_L_law_359 ?_
    refine lv_aload_n hx hb d_L_law_360 rfl (lv_at hl 1 rfl) ?_
    refine lv_iload hx hb d_L_law_361 (lv_at hl 5 rfl) ?_
    refine rz_iconst hx hb d_L_law_363 ?_
    refine rz_iadd hx hb d_L_law_364 ?_
    refine rl_sld hx hb hX hbl hbA hS (k + 2) d_L_law_365 ?_
    refine lv_i2l hx hb d_L_law_366 rfl ?_
    refine rz_bipush hx hb d_L_law_367 (by decide) ?_
    refine lv_lshl hx hb d_L_law_369 rfl ?_
    refine lv_aload_n hx hb d_L_law_370 rfl (lv_at hl 1 rfl) ?_
    refine lv_iload hx hb d_L_law_371 (lv_at hl 5 rfl) ?_
    refine rz_iconst hx hb d_L_law_373 ?_
    refine rz_iadd hx hb d_L_law_374 ?_
    refine rl_sld hx hb hX hbl hbA hS (k + 3) d_L_law_375 ?_
    refine lv_i2l hx hb d_L_law_376 rfl ?_
    refine lv_ldc2 (v := 4294967295) hx hb hown (hts _ kw_712) d_L_law_377 ?_
    refine lv_land hx hb d_L_law_380 ?_
    refine lv_lor hx hb d_L_law_381 ?_
    refine rc_callv (va_runV (As := [.int (iz (sx xs (k + 1))), .long (lwd (sx xs (k + 2)) (sx xs (k + 3)))]) (rest := []) ⟨hx, hb, hml, hown, hts⟩ (m_M_hand l D cJ cI g cd od fc hd md lo lv tb rw bm mn nu tu a2 (sx xs (k + 1)) (lwd (sx xs (k + 2)) (sx xs (k + 3))) o hod ho3 (by omega) (by omega)) (cwV 2 hts (kb_gi (kb_c kw_614 (kb_c kw_615 (kb_c kw_616 (kb_c kw_5 (kb_c kw_617 kb_all)))))) rfl rfl rfl (by decide +kernel) ⟨Nat.le_of_ble_eq_true rfl, Nat.le_of_ble_eq_true rfl⟩) ⟨rc_blind, va_recv hK hP (ci := 3) (q0 := 19) rfl rfl, rc_pre hP hD hK hN [19, 21] rfl rfl [0, 2] rfl⟩ rfl rfl hl.1 rfl (lv_room (Nat.le_of_ble_eq_true rfl)) d_L_law_382 ⟨hfc, hfs⟩) hP hD hS [19, 21] rfl (fun _ => rfl) (fun u3 H locs hw3 hP hD hS => ?_)
    have h9 : u3 = (0, va_up a2 ((sx xs (k + 1)).toNat) (ro_k (lwd (sx xs (k + 2)) (sx xs (k + 3))).toInt)) := by
      rcases hw3 with ⟨h6, h7⟩ | ⟨h6, h7⟩
      · exact h7
      · exact absurd ⟨by omega, by omega⟩ h6
    subst h9
    have hP : va_P D vC (((([(ou, kl cJ 1 V), (h, rO od fa ot ah te id rt bs kn), (fa, go cO 4 fr), (ot, go cO 4 er), (ah, ka cJ 13 (va_up a ((sx xs (k + 1)).toNat) (ro_k (lwd (sx xs (k + 2)) (sx xs (k + 3))).toInt))), (te, ka cJ 31 T), (id, ka cJ 5 J), (rt, rR fo cn wh pt rs sq on tw), (fo, ka cJ 4 Fo), (wh, ka cJ 5 Y), (pt, ka cJ 5 P), (rs, ka cJ 5 r), (sq, ka cJ 8 S), (on, ka cJ 5 a1), (tw, ka cJ 5 b1), (bs, rB ro le me bn), (ro, go cO 17 ra), (le, ki cI 13 Lx), (me, go cO 13 mb), (g, rM 0 od fc hd md lo lv tb rw bm mn nu tu), (fc, k2 cJ 20 5 G), (hd, ka cJ 13 (va_up a2 ((sx xs (k + 1)).toNat) (ro_k (lwd (sx xs (k + 2)) (sx xs (k + 3))).toInt))), (md, ka cJ 17 P2), (lo, k2 cJ 20 5 E2), (tb, k2 cJ 221 13 M2), (rw, ki cI 13 L2), (bm, k2 cJ 169 13 B2), (nu, ka cJ 31 T2), (tu, k2 cJ 20 5 U2)] ++ gs 4 er cJ 5 E) ++ gs 4 fr cJ 5 F) ++ gs 13 mb cJ 13 Bm) ++ gs 17 ra cJ 13 M) H := hP
    have hD : va_D A (((([(ou, kl cJ 1 V), (h, rO od fa ot ah te id rt bs kn), (fa, go cO 4 fr), (ot, go cO 4 er), (ah, ka cJ 13 (va_up a ((sx xs (k + 1)).toNat) (ro_k (lwd (sx xs (k + 2)) (sx xs (k + 3))).toInt))), (te, ka cJ 31 T), (id, ka cJ 5 J), (rt, rR fo cn wh pt rs sq on tw), (fo, ka cJ 4 Fo), (wh, ka cJ 5 Y), (pt, ka cJ 5 P), (rs, ka cJ 5 r), (sq, ka cJ 8 S), (on, ka cJ 5 a1), (tw, ka cJ 5 b1), (bs, rB ro le me bn), (ro, go cO 17 ra), (le, ki cI 13 Lx), (me, go cO 13 mb), (g, rM 0 od fc hd md lo lv tb rw bm mn nu tu), (fc, k2 cJ 20 5 G), (hd, ka cJ 13 (va_up a2 ((sx xs (k + 1)).toNat) (ro_k (lwd (sx xs (k + 2)) (sx xs (k + 3))).toInt))), (md, ka cJ 17 P2), (lo, k2 cJ 20 5 E2), (tb, k2 cJ 221 13 M2), (rw, ki cI 13 L2), (bm, k2 cJ 169 13 B2), (nu, ka cJ 31 T2), (tu, k2 cJ 20 5 U2)] ++ gs 4 er cJ 5 E) ++ gs 4 fr cJ 5 F) ++ gs 13 mb cJ 13 Bm) ++ gs 17 ra cJ 13 M) := hD
    refine lv_aload_n hx hb d_L_law_385 rfl (lv_at hl 3 rfl) ?_
    refine rc_calli (va_runV (As := []) (rest := []) ⟨hx, hb, hml, hown, hts⟩ (m_M_thrown l D g 0 od fc hd md lo lv tb rw bm mn nu tu) (cwV 0 hts (kb_gi (kb_c kw_570 (kb_c kw_571 (kb_c kw_572 (kb_c kw_5 (kb_c kw_573 kb_all)))))) rfl rfl rfl (by decide +kernel) ⟨Nat.le_of_ble_eq_true rfl, Nat.le_of_ble_eq_true rfl⟩) ⟨rc_blind, va_recv hK hP (ci := 3) (q0 := 19) rfl rfl, rc_pre hP hD hK hN [19] rfl rfl [] rfl⟩ rfl rfl hl.1 rfl (lv_room (Nat.le_of_ble_eq_true rfl)) d_L_law_386 ⟨hfc, hfs⟩) hP hD hS [19] rfl (fun _ => rfl) (fun r4 u5 H locs hw5 hP hD hS => ?_)
    subst hw5
    have hP : va_P D vC (((([(ou, kl cJ 1 V), (h, rO od fa ot ah te id rt bs kn), (fa, go cO 4 fr), (ot, go cO 4 er), (ah, ka cJ 13 (va_up a ((sx xs (k + 1)).toNat) (ro_k (lwd (sx xs (k + 2)) (sx xs (k + 3))).toInt))), (te, ka cJ 31 T), (id, ka cJ 5 J), (rt, rR fo cn wh pt rs sq on tw), (fo, ka cJ 4 Fo), (wh, ka cJ 5 Y), (pt, ka cJ 5 P), (rs, ka cJ 5 r), (sq, ka cJ 8 S), (on, ka cJ 5 a1), (tw, ka cJ 5 b1), (bs, rB ro le me bn), (ro, go cO 17 ra), (le, ki cI 13 Lx), (me, go cO 13 mb), (g, rM 0 od fc hd md lo lv tb rw bm mn nu tu), (fc, k2 cJ 20 5 G), (hd, ka cJ 13 (va_up a2 ((sx xs (k + 1)).toNat) (ro_k (lwd (sx xs (k + 2)) (sx xs (k + 3))).toInt))), (md, ka cJ 17 P2), (lo, k2 cJ 20 5 E2), (tb, k2 cJ 221 13 M2), (rw, ki cI 13 L2), (bm, k2 cJ 169 13 B2), (nu, ka cJ 31 T2), (tu, k2 cJ 20 5 U2)] ++ gs 4 er cJ 5 E) ++ gs 4 fr cJ 5 F) ++ gs 13 mb cJ 13 Bm) ++ gs 17 ra cJ 13 M) H := hP
    have hD : va_D A (((([(ou, kl cJ 1 V), (h, rO od fa ot ah te id rt bs kn), (fa, go cO 4 fr), (ot, go cO 4 er), (ah, ka cJ 13 (va_up a ((sx xs (k + 1)).toNat) (ro_k (lwd (sx xs (k + 2)) (sx xs (k + 3))).toInt))), (te, ka cJ 31 T), (id, ka cJ 5 J), (rt, rR fo cn wh pt rs sq on tw), (fo, ka cJ 4 Fo), (wh, ka cJ 5 Y), (pt, ka cJ 5 P), (rs, ka cJ 5 r), (sq, ka cJ 8 S), (on, ka cJ 5 a1), (tw, ka cJ 5 b1), (bs, rB ro le me bn), (ro, go cO 17 ra), (le, ki cI 13 Lx), (me, go cO 13 mb), (g, rM 0 od fc hd md lo lv tb rw bm mn nu tu), (fc, k2 cJ 20 5 G), (hd, ka cJ 13 (va_up a2 ((sx xs (k + 1)).toNat) (ro_k (lwd (sx xs (k + 2)) (sx xs (k + 3))).toInt))), (md, ka cJ 17 P2), (lo, k2 cJ 20 5 E2), (tb, k2 cJ 221 13 M2), (rw, ki cI 13 L2), (bm, k2 cJ 169 13 B2), (nu, ka cJ 31 T2), (tu, k2 cJ 20 5 U2)] ++ gs 4 er cJ 5 E) ++ gs 4 fr cJ 5 F) ++ gs 13 mb cJ 13 Bm) ++ gs 17 ra cJ 13 M) := hD
    refine lv_iload hx hb d_L_law_389 (lv_at hl 0 rfl) ?_
    refine rl_icmp_eq (tgt := 396) hx hb d_L_law_391 (by decide) rfl ?_
    refine lv_goto (tgt := 1338) hx hb d_L_law_396 (by decide) ?_
    refine W.widen (k := kc + 1) (n := ks + 6) (by omega) (by omega) ?_
    exact hend V kn (va_up a ((sx xs (k + 1)).toNat) (ro_k (lwd (sx xs (k + 2)) (sx xs (k + 3))).toInt)) T J cn Fo Y P r S a1 b1 bn Lx E F Bm M 0 lv mn G (va_up a2 ((sx xs (k + 1)).toNat) (ro_k (lwd (sx xs (k + 2)) (sx xs (k + 3))).toInt)) P2 E2 M2 L2 B2 T2 U2 H locs ls ⟨lw_hand hI, hJ⟩ hP hD hS (lv_sub hl [1, 2, 3, 4, 5] rfl)
  · refine lv_aload_n hx hb d_L_law_319 rfl (lv_at hl 1 rfl) ?_
    refine lv_aload_n hx hb d_L_law_320 rfl (lv_at hl 0 rfl) ?_
    refine lv_iload hx hb d_L_law_321 (lv_at hl 4 rfl) ?_
    refine rz_iconst hx hb d_L_law_323 ?_
    refine rz_iadd hx hb d_L_law_324 ?_
    refine rl_sld hx hb hX hbl hbA hS (k + 1) d_L_law_325 ?_
    refine lv_aload_n hx hb d_L_law_326 rfl (lv_at hl 0 rfl) ?_
    refine lv_iload hx hb d_L_law_327 (lv_at hl 4 rfl) ?_
    refine rz_iconst hx hb d_L_law_329 ?_
    refine rz_iadd hx hb d_L_law_330 ?_
    refine rl_sld hx hb hX hbl hbA hS (k + 2) d_L_law_331 ?_
    refine lv_i2l hx hb d_L_law_332 rfl ?_
    refine rz_bipush hx hb d_L_law_333 (by decide) ?_
    refine lv_lshl hx hb d_L_law_335 rfl ?_
    refine lv_aload_n hx hb d_L_law_336 rfl (lv_at hl 0 rfl) ?_
    refine lv_iload hx hb d_L_law_337 (lv_at hl 4 rfl) ?_
    refine rz_iconst hx hb d_L_law_339 ?_
    refine rz_iadd hx hb d_L_law_340 ?_
    refine rl_sld hx hb hX hbl hbA hS (k + 3) d_L_law_341 ?_
    refine lv_i2l hx hb d_L_law_342 rfl ?_
    refine lv_ldc2 (v := 4294967295) hx hb hown (hts _ kw_712) d_L_law_343 ?_
    refine lv_land hx hb d_L_law_346 ?_
    refine lv_lor hx hb d_L_law_347 ?_
    refine rcM_calli (vx_runSW (hh := [((0 : Nat), (6 : Nat), (9 : Nat), (13 : Nat))]) (As := [.ref h, .int (iz (sx xs (k + 1))), .long (lwd (sx xs (k + 2)) (sx xs (k + 3)))]) (rest := []) ⟨hx, hb, hml, hown, hts⟩ (h_L_hand_t l D hst sa cJ cO h fa ot ah te id rt bs od kn a (sx xs (k + 1)) (lwd (sx xs (k + 2)) (sx xs (k + 3))) (by omega) (by omega) (by omega)) (vx_cwSW 3 hts (kb_gi (kb_c kw_301 (kb_c kw_302 (kb_c kw_0 (kb_c kw_303 kb_all))))) rfl rfl rfl (by decide +kernel) ⟨Nat.le_of_ble_eq_true rfl, Nat.le_of_ble_eq_true rfl⟩) ⟨rx_blind, fun U h8 h9 => ⟨(rc_pre hP hD hK hN [1, 4] rfl rfl [0] rfl) U h8 h9, hE.go hS (rc_in hD (is := [1, 4]) rfl) h8 h9⟩⟩ rfl rfl hl.1 rfl (lv_room (Nat.le_of_ble_eq_true rfl)) d_L_law_348 ⟨hfc1, hfs1⟩) hP hD hS [1, 4] rfl (fun _ => rfl) (fun r6 u7 H locs hw7 hP hD hS => ?_)
    subst hw7
    have hP : va_P D vC (((([(ou, kl cJ 1 V), (h, rO od fa ot ah te id rt bs kn), (fa, go cO 4 fr), (ot, go cO 4 er), (ah, ka cJ 13 a), (te, ka cJ 31 T), (id, ka cJ 5 J), (rt, rR fo cn wh pt rs sq on tw), (fo, ka cJ 4 Fo), (wh, ka cJ 5 Y), (pt, ka cJ 5 P), (rs, ka cJ 5 r), (sq, ka cJ 8 S), (on, ka cJ 5 a1), (tw, ka cJ 5 b1), (bs, rB ro le me bn), (ro, go cO 17 ra), (le, ki cI 13 Lx), (me, go cO 13 mb), (g, rM cd od fc hd md lo lv tb rw bm mn nu tu), (fc, k2 cJ 20 5 G), (hd, ka cJ 13 a2), (md, ka cJ 17 P2), (lo, k2 cJ 20 5 E2), (tb, k2 cJ 221 13 M2), (rw, ki cI 13 L2), (bm, k2 cJ 169 13 B2), (nu, ka cJ 31 T2), (tu, k2 cJ 20 5 U2)] ++ gs 4 er cJ 5 E) ++ gs 4 fr cJ 5 F) ++ gs 13 mb cJ 13 Bm) ++ gs 17 ra cJ 13 M) H := hP
    have hD : va_D A (((([(ou, kl cJ 1 V), (h, rO od fa ot ah te id rt bs kn), (fa, go cO 4 fr), (ot, go cO 4 er), (ah, ka cJ 13 a), (te, ka cJ 31 T), (id, ka cJ 5 J), (rt, rR fo cn wh pt rs sq on tw), (fo, ka cJ 4 Fo), (wh, ka cJ 5 Y), (pt, ka cJ 5 P), (rs, ka cJ 5 r), (sq, ka cJ 8 S), (on, ka cJ 5 a1), (tw, ka cJ 5 b1), (bs, rB ro le me bn), (ro, go cO 17 ra), (le, ki cI 13 Lx), (me, go cO 13 mb), (g, rM cd od fc hd md lo lv tb rw bm mn nu tu), (fc, k2 cJ 20 5 G), (hd, ka cJ 13 a2), (md, ka cJ 17 P2), (lo, k2 cJ 20 5 E2), (tb, k2 cJ 221 13 M2), (rw, ki cI 13 L2), (bm, k2 cJ 169 13 B2), (nu, ka cJ 31 T2), (tu, k2 cJ 20 5 U2)] ++ gs 4 er cJ 5 E) ++ gs 4 fr cJ 5 F) ++ gs 13 mb cJ 13 Bm) ++ gs 17 ra cJ 13 M) := hD
    refine lv_istore (lv' := [(5, .int (iz 1)), (0, .ref b), (1, .ref h), (2, .ref g), (3, .ref ou), (4, .int (iz z4))]) hx hb d_L_law_351 hl (by decide) rfl (fun ls hl => ?_)
    refine lv_aload_n hx hb d_L_law_353 rfl (lv_at hl 3 rfl) ?_
    refine lv_aload_n hx hb d_L_law_354 rfl (lv_at hl 1 rfl) ?_
    refine lv_iload hx hb d_L_law_355 (lv_at hl 5 rfl) ?_
    refine rz_iconst hx hb d_L_law_357 ?_
    refine rz_iadd hx hb d_L_law_358 ?_
    refine rl_sld hx hb hX hbl hbA hS (k + 1) d_L_law_359 ?_
    refine lv_aload_n hx hb d_L_law_360 rfl (lv_at hl 1 rfl) ?_
    refine lv_iload hx hb d_L_law_361 (lv_at hl 5 rfl) ?_
    refine rz_iconst hx hb d_L_law_363 ?_
    refine rz_iadd hx hb d_L_law_364 ?_
    refine rl_sld hx hb hX hbl hbA hS (k + 2) d_L_law_365 ?_
    refine lv_i2l hx hb d_L_law_366 rfl ?_
    refine rz_bipush hx hb d_L_law_367 (by decide) ?_
    refine lv_lshl hx hb d_L_law_369 rfl ?_
    refine lv_aload_n hx hb d_L_law_370 rfl (lv_at hl 1 rfl) ?_
    refine lv_iload hx hb d_L_law_371 (lv_at hl 5 rfl) ?_
    refine rz_iconst hx hb d_L_law_373 ?_
    refine rz_iadd hx hb d_L_law_374 ?_
    refine rl_sld hx hb hX hbl hbA hS (k + 3) d_L_law_375 ?_
    refine lv_i2l hx hb d_L_law_376 rfl ?_
    refine lv_ldc2 (v := 4294967295) hx hb hown (hts _ kw_712) d_L_law_377 ?_
    refine lv_land hx hb d_L_law_380 ?_
    refine lv_lor hx hb d_L_law_381 ?_
    refine rc_callv (va_runV (As := [.int (iz (sx xs (k + 1))), .long (lwd (sx xs (k + 2)) (sx xs (k + 3)))]) (rest := []) ⟨hx, hb, hml, hown, hts⟩ (m_M_hand l D cJ cI g cd od fc hd md lo lv tb rw bm mn nu tu a2 (sx xs (k + 1)) (lwd (sx xs (k + 2)) (sx xs (k + 3))) o hod ho3 (by omega) (by omega)) (cwV 2 hts (kb_gi (kb_c kw_614 (kb_c kw_615 (kb_c kw_616 (kb_c kw_5 (kb_c kw_617 kb_all)))))) rfl rfl rfl (by decide +kernel) ⟨Nat.le_of_ble_eq_true rfl, Nat.le_of_ble_eq_true rfl⟩) ⟨rc_blind, va_recv hK hP (ci := 3) (q0 := 19) rfl rfl, rc_pre hP hD hK hN [19, 21] rfl rfl [0, 2] rfl⟩ rfl rfl hl.1 rfl (lv_room (Nat.le_of_ble_eq_true rfl)) d_L_law_382 ⟨hfc1, hfs1⟩) hP hD hS [19, 21] rfl (fun _ => rfl) (fun u8 H locs hw8 hP hD hS => ?_)
    have h9 : u8 = (1, a2) := by
      rcases hw8 with ⟨h6, h7⟩ | ⟨h6, h7⟩
      · exfalso; omega
      · exact h7
    subst h9
    have hP : va_P D vC (((([(ou, kl cJ 1 V), (h, rO od fa ot ah te id rt bs kn), (fa, go cO 4 fr), (ot, go cO 4 er), (ah, ka cJ 13 a), (te, ka cJ 31 T), (id, ka cJ 5 J), (rt, rR fo cn wh pt rs sq on tw), (fo, ka cJ 4 Fo), (wh, ka cJ 5 Y), (pt, ka cJ 5 P), (rs, ka cJ 5 r), (sq, ka cJ 8 S), (on, ka cJ 5 a1), (tw, ka cJ 5 b1), (bs, rB ro le me bn), (ro, go cO 17 ra), (le, ki cI 13 Lx), (me, go cO 13 mb), (g, rM 1 od fc hd md lo lv tb rw bm mn nu tu), (fc, k2 cJ 20 5 G), (hd, ka cJ 13 a2), (md, ka cJ 17 P2), (lo, k2 cJ 20 5 E2), (tb, k2 cJ 221 13 M2), (rw, ki cI 13 L2), (bm, k2 cJ 169 13 B2), (nu, ka cJ 31 T2), (tu, k2 cJ 20 5 U2)] ++ gs 4 er cJ 5 E) ++ gs 4 fr cJ 5 F) ++ gs 13 mb cJ 13 Bm) ++ gs 17 ra cJ 13 M) H := hP
    have hD : va_D A (((([(ou, kl cJ 1 V), (h, rO od fa ot ah te id rt bs kn), (fa, go cO 4 fr), (ot, go cO 4 er), (ah, ka cJ 13 a), (te, ka cJ 31 T), (id, ka cJ 5 J), (rt, rR fo cn wh pt rs sq on tw), (fo, ka cJ 4 Fo), (wh, ka cJ 5 Y), (pt, ka cJ 5 P), (rs, ka cJ 5 r), (sq, ka cJ 8 S), (on, ka cJ 5 a1), (tw, ka cJ 5 b1), (bs, rB ro le me bn), (ro, go cO 17 ra), (le, ki cI 13 Lx), (me, go cO 13 mb), (g, rM 1 od fc hd md lo lv tb rw bm mn nu tu), (fc, k2 cJ 20 5 G), (hd, ka cJ 13 a2), (md, ka cJ 17 P2), (lo, k2 cJ 20 5 E2), (tb, k2 cJ 221 13 M2), (rw, ki cI 13 L2), (bm, k2 cJ 169 13 B2), (nu, ka cJ 31 T2), (tu, k2 cJ 20 5 U2)] ++ gs 4 er cJ 5 E) ++ gs 4 fr cJ 5 F) ++ gs 13 mb cJ 13 Bm) ++ gs 17 ra cJ 13 M) := hD
    refine lv_aload_n hx hb d_L_law_385 rfl (lv_at hl 3 rfl) ?_
    refine rc_calli (va_runV (As := []) (rest := []) ⟨hx, hb, hml, hown, hts⟩ (m_M_thrown l D g 1 od fc hd md lo lv tb rw bm mn nu tu) (cwV 0 hts (kb_gi (kb_c kw_570 (kb_c kw_571 (kb_c kw_572 (kb_c kw_5 (kb_c kw_573 kb_all)))))) rfl rfl rfl (by decide +kernel) ⟨Nat.le_of_ble_eq_true rfl, Nat.le_of_ble_eq_true rfl⟩) ⟨rc_blind, va_recv hK hP (ci := 3) (q0 := 19) rfl rfl, rc_pre hP hD hK hN [19] rfl rfl [] rfl⟩ rfl rfl hl.1 rfl (lv_room (Nat.le_of_ble_eq_true rfl)) d_L_law_386 ⟨hfc1, hfs1⟩) hP hD hS [19] rfl (fun _ => rfl) (fun r9 u10 H locs hw10 hP hD hS => ?_)
    subst hw10
    have hP : va_P D vC (((([(ou, kl cJ 1 V), (h, rO od fa ot ah te id rt bs kn), (fa, go cO 4 fr), (ot, go cO 4 er), (ah, ka cJ 13 a), (te, ka cJ 31 T), (id, ka cJ 5 J), (rt, rR fo cn wh pt rs sq on tw), (fo, ka cJ 4 Fo), (wh, ka cJ 5 Y), (pt, ka cJ 5 P), (rs, ka cJ 5 r), (sq, ka cJ 8 S), (on, ka cJ 5 a1), (tw, ka cJ 5 b1), (bs, rB ro le me bn), (ro, go cO 17 ra), (le, ki cI 13 Lx), (me, go cO 13 mb), (g, rM 1 od fc hd md lo lv tb rw bm mn nu tu), (fc, k2 cJ 20 5 G), (hd, ka cJ 13 a2), (md, ka cJ 17 P2), (lo, k2 cJ 20 5 E2), (tb, k2 cJ 221 13 M2), (rw, ki cI 13 L2), (bm, k2 cJ 169 13 B2), (nu, ka cJ 31 T2), (tu, k2 cJ 20 5 U2)] ++ gs 4 er cJ 5 E) ++ gs 4 fr cJ 5 F) ++ gs 13 mb cJ 13 Bm) ++ gs 17 ra cJ 13 M) H := hP
    have hD : va_D A (((([(ou, kl cJ 1 V), (h, rO od fa ot ah te id rt bs kn), (fa, go cO 4 fr), (ot, go cO 4 er), (ah, ka cJ 13 a), (te, ka cJ 31 T), (id, ka cJ 5 J), (rt, rR fo cn wh pt rs sq on tw), (fo, ka cJ 4 Fo), (wh, ka cJ 5 Y), (pt, ka cJ 5 P), (rs, ka cJ 5 r), (sq, ka cJ 8 S), (on, ka cJ 5 a1), (tw, ka cJ 5 b1), (bs, rB ro le me bn), (ro, go cO 17 ra), (le, ki cI 13 Lx), (me, go cO 13 mb), (g, rM 1 od fc hd md lo lv tb rw bm mn nu tu), (fc, k2 cJ 20 5 G), (hd, ka cJ 13 a2), (md, ka cJ 17 P2), (lo, k2 cJ 20 5 E2), (tb, k2 cJ 221 13 M2), (rw, ki cI 13 L2), (bm, k2 cJ 169 13 B2), (nu, ka cJ 31 T2), (tu, k2 cJ 20 5 U2)] ++ gs 4 er cJ 5 E) ++ gs 4 fr cJ 5 F) ++ gs 13 mb cJ 13 Bm) ++ gs 17 ra cJ 13 M) := hD
    refine lv_iload hx hb d_L_law_389 (lv_at hl 0 rfl) ?_
    refine rl_icmp_eq (tgt := 396) hx hb d_L_law_391 (by decide) rfl ?_
    refine lv_goto (tgt := 1338) hx hb d_L_law_396 (by decide) ?_
    refine W.widen (k := kc + 1) (n := ks + 6) (by omega) (by omega) ?_
    exact hend V kn a T J cn Fo Y P r S a1 b1 bn Lx E F Bm M 1 lv mn G a2 P2 E2 M2 L2 B2 T2 U2 H locs ls ⟨hI, hJ⟩ hP hD hS (lv_sub hl [1, 2, 3, 4, 5] rfl)
set_option maxHeartbeats 4000000 in
set_option maxRecDepth 100000 in
theorem lc_3 {cJ cO cI : ClassId} {ou h fa ot ah te id rt bs : Nat} {od : Int} {fo wh pt rs sq on tw : Nat} {ro le me : Nat} {fr er mb ra : Nat → Nat} {g : Nat} {fc hd md lo tb rw bm nu tu : Nat} {o : Nat} {sa : Nat → Nat} {ct b L : Nat} {xs : Nat → Int32} {V : Nat → Int64} {kn : Int} {a : Nat → ro_K} {T : Nat → ro_K} {J : Nat → ro_K} {cn : Int} {Fo : Nat → ro_K} {Y : Nat → ro_K} {P : Nat → ro_K} {r : Nat → ro_K} {S : Nat → ro_K} {a1 : Nat → ro_K} {b1 : Nat → ro_K} {bn : Int} {Lx : Nat → Int} {E : Nat → Nat → ro_K} {F : Nat → Nat → ro_K} {Bm : Nat → Nat → ro_K} {M : Nat → Nat → ro_K} {cd : Int} {lv : Int} {mn : Int} {G : Nat → Nat → ro_K} {a2 : Nat → ro_K} {P2 : Nat → ro_K} {E2 : Nat → Nat → ro_K} {M2 : Nat → Nat → ro_K} {L2 : Nat → Int} {B2 : Nat → Nat → ro_K} {T2 : Nat → ro_K} {U2 : Nat → Nat → ro_K} {z4 : Int} {k kc ks : Nat} {H : Heap} {locs : List Loc} {ls : Array Slot} (hx : p.tables.exec = Jvm.exec) (hb : c.code = c_L_law) (hml : c.maxLocals = 7) (hown : s.vm.findClass R_L = some m.cls) (hts : ∀ w ∈ kb, w.before args s = true) (hK : va_K D vC [(cJ, .long), (cO, .array .long), (cI, .int)] s) (hN : rc_N s) (hst : l.stackTraces = false) (hE : rx_E sa A s s.heap) (hC : rz_C ct A s s.heap) (hX : va_X b L xs s s.heap) (hbl : b < s.heap.size) (hbA : ¬ A b) (hL : L ≤ 5121) (hod : od = (o : Int)) (ho1 : 1 ≤ o) (ho3 : o ≤ 3) (hz4 : z4 = (k : Int)) (hk9 : k + 9 < L) (hkc : kc + 1 ≤ 601024) (hks : ks + 6 ≤ 7293000) (hI : (lw_I o F E a kn M Lx Bm bn G a2 ∧ J 4 = 0)) (hend : ∀ (V : Nat → Int64) (kn : Int) (a : Nat → ro_K) (T : Nat → ro_K) (J : Nat → ro_K) (cn : Int) (Fo : Nat → ro_K) (Y : Nat → ro_K) (P : Nat → ro_K) (r : Nat → ro_K) (S : Nat → ro_K) (a1 : Nat → ro_K) (b1 : Nat → ro_K) (bn : Int) (Lx : Nat → Int) (E : Nat → Nat → ro_K) (F : Nat → Nat → ro_K) (Bm : Nat → Nat → ro_K) (M : Nat → Nat → ro_K) (cd : Int) (lv : Int) (mn : Int) (G : Nat → Nat → ro_K) (a2 : Nat → ro_K) (P2 : Nat → ro_K) (E2 : Nat → Nat → ro_K) (M2 : Nat → Nat → ro_K) (L2 : Nat → Int) (B2 : Nat → Nat → ro_K) (T2 : Nat → ro_K) (U2 : Nat → Nat → ro_K) (H : Heap) (locs : List Loc) (ls : Array Slot), (lw_I o F E a kn M Lx Bm bn G a2 ∧ J 4 = 0) → va_P D vC (((([(ou, kl cJ 1 V), (h, rO od fa ot ah te id rt bs kn), (fa, go cO 4 fr), (ot, go cO 4 er), (ah, ka cJ 13 a), (te, ka cJ 31 T), (id, ka cJ 5 J), (rt, rR fo cn wh pt rs sq on tw), (fo, ka cJ 4 Fo), (wh, ka cJ 5 Y), (pt, ka cJ 5 P), (rs, ka cJ 5 r), (sq, ka cJ 8 S), (on, ka cJ 5 a1), (tw, ka cJ 5 b1), (bs, rB ro le me bn), (ro, go cO 17 ra), (le, ki cI 13 Lx), (me, go cO 13 mb), (g, rM cd od fc hd md lo lv tb rw bm mn nu tu), (fc, k2 cJ 20 5 G), (hd, ka cJ 13 a2), (md, ka cJ 17 P2), (lo, k2 cJ 20 5 E2), (tb, k2 cJ 221 13 M2), (rw, ki cI 13 L2), (bm, k2 cJ 169 13 B2), (nu, ka cJ 31 T2), (tu, k2 cJ 20 5 U2)] ++ gs 4 er cJ 5 E) ++ gs 4 fr cJ 5 F) ++ gs 13 mb cJ 13 Bm) ++ gs 17 ra cJ 13 M) H → va_D A (((([(ou, kl cJ 1 V), (h, rO od fa ot ah te id rt bs kn), (fa, go cO 4 fr), (ot, go cO 4 er), (ah, ka cJ 13 a), (te, ka cJ 31 T), (id, ka cJ 5 J), (rt, rR fo cn wh pt rs sq on tw), (fo, ka cJ 4 Fo), (wh, ka cJ 5 Y), (pt, ka cJ 5 P), (rs, ka cJ 5 r), (sq, ka cJ 8 S), (on, ka cJ 5 a1), (tw, ka cJ 5 b1), (bs, rB ro le me bn), (ro, go cO 17 ra), (le, ki cI 13 Lx), (me, go cO 13 mb), (g, rM cd od fc hd md lo lv tb rw bm mn nu tu), (fc, k2 cJ 20 5 G), (hd, ka cJ 13 a2), (md, ka cJ 17 P2), (lo, k2 cJ 20 5 E2), (tb, k2 cJ 221 13 M2), (rw, ki cI 13 L2), (bm, k2 cJ 169 13 B2), (nu, ka cJ 31 T2), (tu, k2 cJ 20 5 U2)] ++ gs 4 er cJ 5 E) ++ gs 4 fr cJ 5 F) ++ gs 13 mb cJ 13 Bm) ++ gs 17 ra cJ 13 M) → va_S A s.heap H locs → lv_has ls 7 [(0, .ref b), (1, .ref h), (2, .ref g), (3, .ref ou), (4, .int (iz z4))] → W p l e room_1 s m args below meth c H locs (kc + 1) (ks + 6) Q (F0 m 1338 ls [])) (hP : va_P D vC (((([(ou, kl cJ 1 V), (h, rO od fa ot ah te id rt bs kn), (fa, go cO 4 fr), (ot, go cO 4 er), (ah, ka cJ 13 a), (te, ka cJ 31 T), (id, ka cJ 5 J), (rt, rR fo cn wh pt rs sq on tw), (fo, ka cJ 4 Fo), (wh, ka cJ 5 Y), (pt, ka cJ 5 P), (rs, ka cJ 5 r), (sq, ka cJ 8 S), (on, ka cJ 5 a1), (tw, ka cJ 5 b1), (bs, rB ro le me bn), (ro, go cO 17 ra), (le, ki cI 13 Lx), (me, go cO 13 mb), (g, rM cd od fc hd md lo lv tb rw bm mn nu tu), (fc, k2 cJ 20 5 G), (hd, ka cJ 13 a2), (md, ka cJ 17 P2), (lo, k2 cJ 20 5 E2), (tb, k2 cJ 221 13 M2), (rw, ki cI 13 L2), (bm, k2 cJ 169 13 B2), (nu, ka cJ 31 T2), (tu, k2 cJ 20 5 U2)] ++ gs 4 er cJ 5 E) ++ gs 4 fr cJ 5 F) ++ gs 13 mb cJ 13 Bm) ++ gs 17 ra cJ 13 M) H) (hD : va_D A (((([(ou, kl cJ 1 V), (h, rO od fa ot ah te id rt bs kn), (fa, go cO 4 fr), (ot, go cO 4 er), (ah, ka cJ 13 a), (te, ka cJ 31 T), (id, ka cJ 5 J), (rt, rR fo cn wh pt rs sq on tw), (fo, ka cJ 4 Fo), (wh, ka cJ 5 Y), (pt, ka cJ 5 P), (rs, ka cJ 5 r), (sq, ka cJ 8 S), (on, ka cJ 5 a1), (tw, ka cJ 5 b1), (bs, rB ro le me bn), (ro, go cO 17 ra), (le, ki cI 13 Lx), (me, go cO 13 mb), (g, rM cd od fc hd md lo lv tb rw bm mn nu tu), (fc, k2 cJ 20 5 G), (hd, ka cJ 13 a2), (md, ka cJ 17 P2), (lo, k2 cJ 20 5 E2), (tb, k2 cJ 221 13 M2), (rw, ki cI 13 L2), (bm, k2 cJ 169 13 B2), (nu, ka cJ 31 T2), (tu, k2 cJ 20 5 U2)] ++ gs 4 er cJ 5 E) ++ gs 4 fr cJ 5 F) ++ gs 13 mb cJ 13 Bm) ++ gs 17 ra cJ 13 M)) (hS : va_S A s.heap H locs) (hl : lv_has ls 7 [(0, .ref b), (1, .ref h), (2, .ref g), (3, .ref ou), (4, .int (iz z4))]) : W p l e room_1 s m args below meth c H locs kc ks Q (F0 m 399 ls []) := by
  obtain ⟨hI, hJ⟩ := hI
  have hs1 := sx_in xs (k + 1)
  have hfc : kc + 0 ≤ room_1.cells := by show kc + 0 ≤ 601024; omega
  have hfs : ks + 0 ≤ room_1.slots := by show ks + 0 ≤ 7293000; omega
  have hfc1 : kc + 1 ≤ room_1.cells := hkc
  have hfs1 : ks + 6 ≤ room_1.slots := hks
  by_cases hp : 0 ≤ (sx xs (k + 1)) ∧ (sx xs (k + 1)) < 17
  · refine lv_aload_n hx hb d_L_law_399 rfl (lv_at hl 1 rfl) ?_
    refine lv_aload_n hx hb d_L_law_400 rfl (lv_at hl 0 rfl) ?_
    refine lv_iload hx hb d_L_law_401 (lv_at hl 4 rfl) ?_
    refine rz_iconst hx hb d_L_law_403 ?_
    refine rz_iadd hx hb d_L_law_404 ?_
    refine rl_sld hx hb hX hbl hbA hS (k + 1) d_L_law_405 ?_
    refine rsT_calli (va_runV (As := [.int (iz (sx xs (k + 1)))]) (rest := []) ⟨hx, hb, hml, hown, hts⟩ (m_O_made l D cJ cO h fa ot ah te id rt bs od kn fr F a (sx xs (k + 1)) o hod ho3 (by omega) (by omega)) (cwV 1 hts (kb_gi (kb_c kw_111 (kb_c kw_112 (kb_c kw_113 (kb_c kw_1 (kb_c kw_114 kb_all)))))) rfl rfl rfl (by decide +kernel) ⟨Nat.le_of_ble_eq_true rfl, Nat.le_of_ble_eq_true rfl⟩) ⟨rc_blind, va_recv hK hP (ci := 2) (q0 := 1) rfl rfl, rs_pre (rs_a2 hP) (rs_aD2 hD) hK hN [1, 4, 2] rfl rfl [0, 1] rfl⟩ rfl rfl hl.1 rfl (lv_room (Nat.le_of_ble_eq_true rfl)) d_L_law_406 ⟨hfc, hfs⟩) (rs_a2 hP) (rs_aD2 hD) hS [1, 4, 2] rfl (fun _ => rfl) (fun _ => gs_adr _ _ _ _ _ _) (fun r1 u2 H locs hw2 hP hD hS => ?_)
    have hP := rs_b2 hP
    have hD := rs_bD2 hD
    rw [if_pos hp] at hw2
    subst hw2
    have hP : va_P D vC (((([(ou, kl cJ 1 V), (h, rO od fa ot ah te id rt bs kn), (fa, go cO 4 fr), (ot, go cO 4 er), (ah, ka cJ 13 a), (te, ka cJ 31 T), (id, ka cJ 5 J), (rt, rR fo cn wh pt rs sq on tw), (fo, ka cJ 4 Fo), (wh, ka cJ 5 Y), (pt, ka cJ 5 P), (rs, ka cJ 5 r), (sq, ka cJ 8 S), (on, ka cJ 5 a1), (tw, ka cJ 5 b1), (bs, rB ro le me bn), (ro, go cO 17 ra), (le, ki cI 13 Lx), (me, go cO 13 mb), (g, rM cd od fc hd md lo lv tb rw bm mn nu tu), (fc, k2 cJ 20 5 G), (hd, ka cJ 13 a2), (md, ka cJ 17 P2), (lo, k2 cJ 20 5 E2), (tb, k2 cJ 221 13 M2), (rw, ki cI 13 L2), (bm, k2 cJ 169 13 B2), (nu, ka cJ 31 T2), (tu, k2 cJ 20 5 U2)] ++ gs 4 er cJ 5 E) ++ gs 4 fr cJ 5 F) ++ gs 13 mb cJ 13 Bm) ++ gs 17 ra cJ 13 M) H := hP
    have hD : va_D A (((([(ou, kl cJ 1 V), (h, rO od fa ot ah te id rt bs kn), (fa, go cO 4 fr), (ot, go cO 4 er), (ah, ka cJ 13 a), (te, ka cJ 31 T), (id, ka cJ 5 J), (rt, rR fo cn wh pt rs sq on tw), (fo, ka cJ 4 Fo), (wh, ka cJ 5 Y), (pt, ka cJ 5 P), (rs, ka cJ 5 r), (sq, ka cJ 8 S), (on, ka cJ 5 a1), (tw, ka cJ 5 b1), (bs, rB ro le me bn), (ro, go cO 17 ra), (le, ki cI 13 Lx), (me, go cO 13 mb), (g, rM cd od fc hd md lo lv tb rw bm mn nu tu), (fc, k2 cJ 20 5 G), (hd, ka cJ 13 a2), (md, ka cJ 17 P2), (lo, k2 cJ 20 5 E2), (tb, k2 cJ 221 13 M2), (rw, ki cI 13 L2), (bm, k2 cJ 169 13 B2), (nu, ka cJ 31 T2), (tu, k2 cJ 20 5 U2)] ++ gs 4 er cJ 5 E) ++ gs 4 fr cJ 5 F) ++ gs 13 mb cJ 13 Bm) ++ gs 17 ra cJ 13 M) := hD
    refine lv_aload_n hx hb d_L_law_409 rfl (lv_at hl 2 rfl) ?_
    refine lv_aload_n hx hb d_L_law_410 rfl (lv_at hl 0 rfl) ?_
    refine lv_iload hx hb d_L_law_411 (lv_at hl 4 rfl) ?_
    refine rz_iconst hx hb d_L_law_413 ?_
    refine rz_iadd hx hb d_L_law_414 ?_
    refine rl_sld hx hb hX hbl hbA hS (k + 1) d_L_law_415 ?_
    refine rc_calli (va_runV (As := [.int (iz (sx xs (k + 1)))]) (rest := [.int (iz ((maS F o a (sx xs (k + 1)) 13).val : Int))]) ⟨hx, hb, hml, hown, hts⟩ (m_M_made l D cJ cI g cd od fc hd md lo lv tb rw bm mn nu tu G a2 P2 (sx xs (k + 1)) o hod ho3 (by omega) (by omega)) (cwV 1 hts (kb_gi (kb_c kw_619 (kb_c kw_620 (kb_c kw_621 (kb_c kw_5 (kb_c kw_622 kb_all)))))) rfl rfl rfl (by decide +kernel) ⟨Nat.le_of_ble_eq_true rfl, Nat.le_of_ble_eq_true rfl⟩) ⟨rc_blind, va_recv hK hP (ci := 3) (q0 := 19) rfl rfl, rc_pre hP hD hK hN [19, 20, 21, 22] rfl rfl [0, 2] rfl⟩ rfl rfl hl.1 rfl (lv_room (Nat.le_of_ble_eq_true rfl)) d_L_law_416 ⟨hfc, hfs⟩) hP hD hS [19, 20, 21, 22] rfl (fun _ => rfl) (fun r3 u4 H locs hw4 hP hD hS => ?_)
    rw [if_pos (by omega)] at hw4
    subst hw4
    have hP : va_P D vC (((([(ou, kl cJ 1 V), (h, rO od fa ot ah te id rt bs kn), (fa, go cO 4 fr), (ot, go cO 4 er), (ah, ka cJ 13 a), (te, ka cJ 31 T), (id, ka cJ 5 J), (rt, rR fo cn wh pt rs sq on tw), (fo, ka cJ 4 Fo), (wh, ka cJ 5 Y), (pt, ka cJ 5 P), (rs, ka cJ 5 r), (sq, ka cJ 8 S), (on, ka cJ 5 a1), (tw, ka cJ 5 b1), (bs, rB ro le me bn), (ro, go cO 17 ra), (le, ki cI 13 Lx), (me, go cO 13 mb), (g, rM 0 od fc hd md lo lv tb rw bm mn nu tu), (fc, k2 cJ 20 5 G), (hd, ka cJ 13 a2), (md, ka cJ 17 (mkA G o a2 (kfl P2 0 17) 13)), (lo, k2 cJ 20 5 E2), (tb, k2 cJ 221 13 M2), (rw, ki cI 13 L2), (bm, k2 cJ 169 13 B2), (nu, ka cJ 31 T2), (tu, k2 cJ 20 5 U2)] ++ gs 4 er cJ 5 E) ++ gs 4 fr cJ 5 F) ++ gs 13 mb cJ 13 Bm) ++ gs 17 ra cJ 13 M) H := hP
    have hD : va_D A (((([(ou, kl cJ 1 V), (h, rO od fa ot ah te id rt bs kn), (fa, go cO 4 fr), (ot, go cO 4 er), (ah, ka cJ 13 a), (te, ka cJ 31 T), (id, ka cJ 5 J), (rt, rR fo cn wh pt rs sq on tw), (fo, ka cJ 4 Fo), (wh, ka cJ 5 Y), (pt, ka cJ 5 P), (rs, ka cJ 5 r), (sq, ka cJ 8 S), (on, ka cJ 5 a1), (tw, ka cJ 5 b1), (bs, rB ro le me bn), (ro, go cO 17 ra), (le, ki cI 13 Lx), (me, go cO 13 mb), (g, rM 0 od fc hd md lo lv tb rw bm mn nu tu), (fc, k2 cJ 20 5 G), (hd, ka cJ 13 a2), (md, ka cJ 17 (mkA G o a2 (kfl P2 0 17) 13)), (lo, k2 cJ 20 5 E2), (tb, k2 cJ 221 13 M2), (rw, ki cI 13 L2), (bm, k2 cJ 169 13 B2), (nu, ka cJ 31 T2), (tu, k2 cJ 20 5 U2)] ++ gs 4 er cJ 5 E) ++ gs 4 fr cJ 5 F) ++ gs 13 mb cJ 13 Bm) ++ gs 17 ra cJ 13 M) := hD
    refine rl_icmp_eq (tgt := 1338) hx hb d_L_law_419 (by decide) (congrArg iz (lw_made hI ho3 P2 (by omega) (by omega))) ?_
    refine W.widen (k := kc + 1) (n := ks + 6) (by omega) (by omega) ?_
    exact hend V kn a T J cn Fo Y P r S a1 b1 bn Lx E F Bm M 0 lv mn G a2 (mkA G o a2 (kfl P2 0 17) 13) E2 M2 L2 B2 T2 U2 H locs ls ⟨hI, hJ⟩ hP hD hS (lv_sub hl [0, 1, 2, 3, 4] rfl)
  · refine lv_aload_n hx hb d_L_law_399 rfl (lv_at hl 1 rfl) ?_
    refine lv_aload_n hx hb d_L_law_400 rfl (lv_at hl 0 rfl) ?_
    refine lv_iload hx hb d_L_law_401 (lv_at hl 4 rfl) ?_
    refine rz_iconst hx hb d_L_law_403 ?_
    refine rz_iadd hx hb d_L_law_404 ?_
    refine rl_sld hx hb hX hbl hbA hS (k + 1) d_L_law_405 ?_
    refine rsT_calli (va_runV (As := [.int (iz (sx xs (k + 1)))]) (rest := []) ⟨hx, hb, hml, hown, hts⟩ (m_O_made l D cJ cO h fa ot ah te id rt bs od kn fr F a (sx xs (k + 1)) o hod ho3 (by omega) (by omega)) (cwV 1 hts (kb_gi (kb_c kw_111 (kb_c kw_112 (kb_c kw_113 (kb_c kw_1 (kb_c kw_114 kb_all)))))) rfl rfl rfl (by decide +kernel) ⟨Nat.le_of_ble_eq_true rfl, Nat.le_of_ble_eq_true rfl⟩) ⟨rc_blind, va_recv hK hP (ci := 2) (q0 := 1) rfl rfl, rs_pre (rs_a2 hP) (rs_aD2 hD) hK hN [1, 4, 2] rfl rfl [0, 1] rfl⟩ rfl rfl hl.1 rfl (lv_room (Nat.le_of_ble_eq_true rfl)) d_L_law_406 ⟨hfc, hfs⟩) (rs_a2 hP) (rs_aD2 hD) hS [1, 4, 2] rfl (fun _ => rfl) (fun _ => gs_adr _ _ _ _ _ _) (fun r5 u6 H locs hw6 hP hD hS => ?_)
    have hP := rs_b2 hP
    have hD := rs_bD2 hD
    rw [if_neg hp] at hw6
    subst hw6
    have hP : va_P D vC (((([(ou, kl cJ 1 V), (h, rO od fa ot ah te id rt bs kn), (fa, go cO 4 fr), (ot, go cO 4 er), (ah, ka cJ 13 a), (te, ka cJ 31 T), (id, ka cJ 5 J), (rt, rR fo cn wh pt rs sq on tw), (fo, ka cJ 4 Fo), (wh, ka cJ 5 Y), (pt, ka cJ 5 P), (rs, ka cJ 5 r), (sq, ka cJ 8 S), (on, ka cJ 5 a1), (tw, ka cJ 5 b1), (bs, rB ro le me bn), (ro, go cO 17 ra), (le, ki cI 13 Lx), (me, go cO 13 mb), (g, rM cd od fc hd md lo lv tb rw bm mn nu tu), (fc, k2 cJ 20 5 G), (hd, ka cJ 13 a2), (md, ka cJ 17 P2), (lo, k2 cJ 20 5 E2), (tb, k2 cJ 221 13 M2), (rw, ki cI 13 L2), (bm, k2 cJ 169 13 B2), (nu, ka cJ 31 T2), (tu, k2 cJ 20 5 U2)] ++ gs 4 er cJ 5 E) ++ gs 4 fr cJ 5 F) ++ gs 13 mb cJ 13 Bm) ++ gs 17 ra cJ 13 M) H := hP
    have hD : va_D A (((([(ou, kl cJ 1 V), (h, rO od fa ot ah te id rt bs kn), (fa, go cO 4 fr), (ot, go cO 4 er), (ah, ka cJ 13 a), (te, ka cJ 31 T), (id, ka cJ 5 J), (rt, rR fo cn wh pt rs sq on tw), (fo, ka cJ 4 Fo), (wh, ka cJ 5 Y), (pt, ka cJ 5 P), (rs, ka cJ 5 r), (sq, ka cJ 8 S), (on, ka cJ 5 a1), (tw, ka cJ 5 b1), (bs, rB ro le me bn), (ro, go cO 17 ra), (le, ki cI 13 Lx), (me, go cO 13 mb), (g, rM cd od fc hd md lo lv tb rw bm mn nu tu), (fc, k2 cJ 20 5 G), (hd, ka cJ 13 a2), (md, ka cJ 17 P2), (lo, k2 cJ 20 5 E2), (tb, k2 cJ 221 13 M2), (rw, ki cI 13 L2), (bm, k2 cJ 169 13 B2), (nu, ka cJ 31 T2), (tu, k2 cJ 20 5 U2)] ++ gs 4 er cJ 5 E) ++ gs 4 fr cJ 5 F) ++ gs 13 mb cJ 13 Bm) ++ gs 17 ra cJ 13 M) := hD
    refine lv_aload_n hx hb d_L_law_409 rfl (lv_at hl 2 rfl) ?_
    refine lv_aload_n hx hb d_L_law_410 rfl (lv_at hl 0 rfl) ?_
    refine lv_iload hx hb d_L_law_411 (lv_at hl 4 rfl) ?_
    refine rz_iconst hx hb d_L_law_413 ?_
    refine rz_iadd hx hb d_L_law_414 ?_
    refine rl_sld hx hb hX hbl hbA hS (k + 1) d_L_law_415 ?_
    refine rc_calli (va_runV (As := [.int (iz (sx xs (k + 1)))]) (rest := [.int (iz 0)]) ⟨hx, hb, hml, hown, hts⟩ (m_M_made l D cJ cI g cd od fc hd md lo lv tb rw bm mn nu tu G a2 P2 (sx xs (k + 1)) o hod ho3 (by omega) (by omega)) (cwV 1 hts (kb_gi (kb_c kw_619 (kb_c kw_620 (kb_c kw_621 (kb_c kw_5 (kb_c kw_622 kb_all)))))) rfl rfl rfl (by decide +kernel) ⟨Nat.le_of_ble_eq_true rfl, Nat.le_of_ble_eq_true rfl⟩) ⟨rc_blind, va_recv hK hP (ci := 3) (q0 := 19) rfl rfl, rc_pre hP hD hK hN [19, 20, 21, 22] rfl rfl [0, 2] rfl⟩ rfl rfl hl.1 rfl (lv_room (Nat.le_of_ble_eq_true rfl)) d_L_law_416 ⟨hfc, hfs⟩) hP hD hS [19, 20, 21, 22] rfl (fun _ => rfl) (fun r7 u8 H locs hw8 hP hD hS => ?_)
    rw [if_neg (by omega)] at hw8
    subst hw8
    have hP : va_P D vC (((([(ou, kl cJ 1 V), (h, rO od fa ot ah te id rt bs kn), (fa, go cO 4 fr), (ot, go cO 4 er), (ah, ka cJ 13 a), (te, ka cJ 31 T), (id, ka cJ 5 J), (rt, rR fo cn wh pt rs sq on tw), (fo, ka cJ 4 Fo), (wh, ka cJ 5 Y), (pt, ka cJ 5 P), (rs, ka cJ 5 r), (sq, ka cJ 8 S), (on, ka cJ 5 a1), (tw, ka cJ 5 b1), (bs, rB ro le me bn), (ro, go cO 17 ra), (le, ki cI 13 Lx), (me, go cO 13 mb), (g, rM 0 od fc hd md lo lv tb rw bm mn nu tu), (fc, k2 cJ 20 5 G), (hd, ka cJ 13 a2), (md, ka cJ 17 (mkA G o a2 (kfl P2 0 17) 13)), (lo, k2 cJ 20 5 E2), (tb, k2 cJ 221 13 M2), (rw, ki cI 13 L2), (bm, k2 cJ 169 13 B2), (nu, ka cJ 31 T2), (tu, k2 cJ 20 5 U2)] ++ gs 4 er cJ 5 E) ++ gs 4 fr cJ 5 F) ++ gs 13 mb cJ 13 Bm) ++ gs 17 ra cJ 13 M) H := hP
    have hD : va_D A (((([(ou, kl cJ 1 V), (h, rO od fa ot ah te id rt bs kn), (fa, go cO 4 fr), (ot, go cO 4 er), (ah, ka cJ 13 a), (te, ka cJ 31 T), (id, ka cJ 5 J), (rt, rR fo cn wh pt rs sq on tw), (fo, ka cJ 4 Fo), (wh, ka cJ 5 Y), (pt, ka cJ 5 P), (rs, ka cJ 5 r), (sq, ka cJ 8 S), (on, ka cJ 5 a1), (tw, ka cJ 5 b1), (bs, rB ro le me bn), (ro, go cO 17 ra), (le, ki cI 13 Lx), (me, go cO 13 mb), (g, rM 0 od fc hd md lo lv tb rw bm mn nu tu), (fc, k2 cJ 20 5 G), (hd, ka cJ 13 a2), (md, ka cJ 17 (mkA G o a2 (kfl P2 0 17) 13)), (lo, k2 cJ 20 5 E2), (tb, k2 cJ 221 13 M2), (rw, ki cI 13 L2), (bm, k2 cJ 169 13 B2), (nu, ka cJ 31 T2), (tu, k2 cJ 20 5 U2)] ++ gs 4 er cJ 5 E) ++ gs 4 fr cJ 5 F) ++ gs 13 mb cJ 13 Bm) ++ gs 17 ra cJ 13 M) := hD
    refine rl_icmp_eq (tgt := 1338) hx hb d_L_law_419 (by decide) rfl ?_
    refine W.widen (k := kc + 1) (n := ks + 6) (by omega) (by omega) ?_
    exact hend V kn a T J cn Fo Y P r S a1 b1 bn Lx E F Bm M 0 lv mn G a2 (mkA G o a2 (kfl P2 0 17) 13) E2 M2 L2 B2 T2 U2 H locs ls ⟨hI, hJ⟩ hP hD hS (lv_sub hl [0, 1, 2, 3, 4] rfl)
set_option maxHeartbeats 4000000 in
set_option maxRecDepth 100000 in
theorem lc_4 {cJ cO cI : ClassId} {ou h fa ot ah te id rt bs : Nat} {od : Int} {fo wh pt rs sq on tw : Nat} {ro le me : Nat} {fr er mb ra : Nat → Nat} {g : Nat} {fc hd md lo tb rw bm nu tu : Nat} {o : Nat} {sa : Nat → Nat} {ct b L : Nat} {xs : Nat → Int32} {V : Nat → Int64} {kn : Int} {a : Nat → ro_K} {T : Nat → ro_K} {J : Nat → ro_K} {cn : Int} {Fo : Nat → ro_K} {Y : Nat → ro_K} {P : Nat → ro_K} {r : Nat → ro_K} {S : Nat → ro_K} {a1 : Nat → ro_K} {b1 : Nat → ro_K} {bn : Int} {Lx : Nat → Int} {E : Nat → Nat → ro_K} {F : Nat → Nat → ro_K} {Bm : Nat → Nat → ro_K} {M : Nat → Nat → ro_K} {cd : Int} {lv : Int} {mn : Int} {G : Nat → Nat → ro_K} {a2 : Nat → ro_K} {P2 : Nat → ro_K} {E2 : Nat → Nat → ro_K} {M2 : Nat → Nat → ro_K} {L2 : Nat → Int} {B2 : Nat → Nat → ro_K} {T2 : Nat → ro_K} {U2 : Nat → Nat → ro_K} {z4 : Int} {k kc ks : Nat} {H : Heap} {locs : List Loc} {ls : Array Slot} (hx : p.tables.exec = Jvm.exec) (hb : c.code = c_L_law) (hml : c.maxLocals = 7) (hown : s.vm.findClass R_L = some m.cls) (hts : ∀ w ∈ kb, w.before args s = true) (hK : va_K D vC [(cJ, .long), (cO, .array .long), (cI, .int)] s) (hN : rc_N s) (hst : l.stackTraces = false) (hE : rx_E sa A s s.heap) (hC : rz_C ct A s s.heap) (hX : va_X b L xs s s.heap) (hbl : b < s.heap.size) (hbA : ¬ A b) (hL : L ≤ 5121) (hod : od = (o : Int)) (ho1 : 1 ≤ o) (ho3 : o ≤ 3) (hz4 : z4 = (k : Int)) (hk9 : k + 9 < L) (hkc : kc + 1 ≤ 601024) (hks : ks + 6 ≤ 7293000) (hI : (lw_I o F E a kn M Lx Bm bn G a2 ∧ J 4 = 0)) (hend : ∀ (V : Nat → Int64) (kn : Int) (a : Nat → ro_K) (T : Nat → ro_K) (J : Nat → ro_K) (cn : Int) (Fo : Nat → ro_K) (Y : Nat → ro_K) (P : Nat → ro_K) (r : Nat → ro_K) (S : Nat → ro_K) (a1 : Nat → ro_K) (b1 : Nat → ro_K) (bn : Int) (Lx : Nat → Int) (E : Nat → Nat → ro_K) (F : Nat → Nat → ro_K) (Bm : Nat → Nat → ro_K) (M : Nat → Nat → ro_K) (cd : Int) (lv : Int) (mn : Int) (G : Nat → Nat → ro_K) (a2 : Nat → ro_K) (P2 : Nat → ro_K) (E2 : Nat → Nat → ro_K) (M2 : Nat → Nat → ro_K) (L2 : Nat → Int) (B2 : Nat → Nat → ro_K) (T2 : Nat → ro_K) (U2 : Nat → Nat → ro_K) (H : Heap) (locs : List Loc) (ls : Array Slot), (lw_I o F E a kn M Lx Bm bn G a2 ∧ J 4 = 0) → va_P D vC (((([(ou, kl cJ 1 V), (h, rO od fa ot ah te id rt bs kn), (fa, go cO 4 fr), (ot, go cO 4 er), (ah, ka cJ 13 a), (te, ka cJ 31 T), (id, ka cJ 5 J), (rt, rR fo cn wh pt rs sq on tw), (fo, ka cJ 4 Fo), (wh, ka cJ 5 Y), (pt, ka cJ 5 P), (rs, ka cJ 5 r), (sq, ka cJ 8 S), (on, ka cJ 5 a1), (tw, ka cJ 5 b1), (bs, rB ro le me bn), (ro, go cO 17 ra), (le, ki cI 13 Lx), (me, go cO 13 mb), (g, rM cd od fc hd md lo lv tb rw bm mn nu tu), (fc, k2 cJ 20 5 G), (hd, ka cJ 13 a2), (md, ka cJ 17 P2), (lo, k2 cJ 20 5 E2), (tb, k2 cJ 221 13 M2), (rw, ki cI 13 L2), (bm, k2 cJ 169 13 B2), (nu, ka cJ 31 T2), (tu, k2 cJ 20 5 U2)] ++ gs 4 er cJ 5 E) ++ gs 4 fr cJ 5 F) ++ gs 13 mb cJ 13 Bm) ++ gs 17 ra cJ 13 M) H → va_D A (((([(ou, kl cJ 1 V), (h, rO od fa ot ah te id rt bs kn), (fa, go cO 4 fr), (ot, go cO 4 er), (ah, ka cJ 13 a), (te, ka cJ 31 T), (id, ka cJ 5 J), (rt, rR fo cn wh pt rs sq on tw), (fo, ka cJ 4 Fo), (wh, ka cJ 5 Y), (pt, ka cJ 5 P), (rs, ka cJ 5 r), (sq, ka cJ 8 S), (on, ka cJ 5 a1), (tw, ka cJ 5 b1), (bs, rB ro le me bn), (ro, go cO 17 ra), (le, ki cI 13 Lx), (me, go cO 13 mb), (g, rM cd od fc hd md lo lv tb rw bm mn nu tu), (fc, k2 cJ 20 5 G), (hd, ka cJ 13 a2), (md, ka cJ 17 P2), (lo, k2 cJ 20 5 E2), (tb, k2 cJ 221 13 M2), (rw, ki cI 13 L2), (bm, k2 cJ 169 13 B2), (nu, ka cJ 31 T2), (tu, k2 cJ 20 5 U2)] ++ gs 4 er cJ 5 E) ++ gs 4 fr cJ 5 F) ++ gs 13 mb cJ 13 Bm) ++ gs 17 ra cJ 13 M) → va_S A s.heap H locs → lv_has ls 7 [(0, .ref b), (1, .ref h), (2, .ref g), (3, .ref ou), (4, .int (iz z4))] → W p l e room_1 s m args below meth c H locs (kc + 1) (ks + 6) Q (F0 m 1338 ls [])) (hP : va_P D vC (((([(ou, kl cJ 1 V), (h, rO od fa ot ah te id rt bs kn), (fa, go cO 4 fr), (ot, go cO 4 er), (ah, ka cJ 13 a), (te, ka cJ 31 T), (id, ka cJ 5 J), (rt, rR fo cn wh pt rs sq on tw), (fo, ka cJ 4 Fo), (wh, ka cJ 5 Y), (pt, ka cJ 5 P), (rs, ka cJ 5 r), (sq, ka cJ 8 S), (on, ka cJ 5 a1), (tw, ka cJ 5 b1), (bs, rB ro le me bn), (ro, go cO 17 ra), (le, ki cI 13 Lx), (me, go cO 13 mb), (g, rM cd od fc hd md lo lv tb rw bm mn nu tu), (fc, k2 cJ 20 5 G), (hd, ka cJ 13 a2), (md, ka cJ 17 P2), (lo, k2 cJ 20 5 E2), (tb, k2 cJ 221 13 M2), (rw, ki cI 13 L2), (bm, k2 cJ 169 13 B2), (nu, ka cJ 31 T2), (tu, k2 cJ 20 5 U2)] ++ gs 4 er cJ 5 E) ++ gs 4 fr cJ 5 F) ++ gs 13 mb cJ 13 Bm) ++ gs 17 ra cJ 13 M) H) (hD : va_D A (((([(ou, kl cJ 1 V), (h, rO od fa ot ah te id rt bs kn), (fa, go cO 4 fr), (ot, go cO 4 er), (ah, ka cJ 13 a), (te, ka cJ 31 T), (id, ka cJ 5 J), (rt, rR fo cn wh pt rs sq on tw), (fo, ka cJ 4 Fo), (wh, ka cJ 5 Y), (pt, ka cJ 5 P), (rs, ka cJ 5 r), (sq, ka cJ 8 S), (on, ka cJ 5 a1), (tw, ka cJ 5 b1), (bs, rB ro le me bn), (ro, go cO 17 ra), (le, ki cI 13 Lx), (me, go cO 13 mb), (g, rM cd od fc hd md lo lv tb rw bm mn nu tu), (fc, k2 cJ 20 5 G), (hd, ka cJ 13 a2), (md, ka cJ 17 P2), (lo, k2 cJ 20 5 E2), (tb, k2 cJ 221 13 M2), (rw, ki cI 13 L2), (bm, k2 cJ 169 13 B2), (nu, ka cJ 31 T2), (tu, k2 cJ 20 5 U2)] ++ gs 4 er cJ 5 E) ++ gs 4 fr cJ 5 F) ++ gs 13 mb cJ 13 Bm) ++ gs 17 ra cJ 13 M)) (hS : va_S A s.heap H locs) (hl : lv_has ls 7 [(0, .ref b), (1, .ref h), (2, .ref g), (3, .ref ou), (4, .int (iz z4))]) : W p l e room_1 s m args below meth c H locs kc ks Q (F0 m 424 ls []) := by
  obtain ⟨hI, hJ⟩ := hI
  have hfc : kc + 0 ≤ room_1.cells := by show kc + 0 ≤ 601024; omega
  have hfs : ks + 0 ≤ room_1.slots := by show ks + 0 ≤ 7293000; omega
  have hfc1 : kc + 1 ≤ room_1.cells := hkc
  have hfs1 : ks + 6 ≤ room_1.slots := hks
  by_cases hF : 0 ≤ kd (F o) 5
  · refine lv_aload_n hx hb d_L_law_424 rfl (lv_at hl 1 rfl) ?_
    refine lv_aload_n hx hb d_L_law_425 rfl (lv_at hl 3 rfl) ?_
    refine rsM_calli (vx_runSW (hh := [((0 : Nat), (8 : Nat), (11 : Nat), (27 : Nat))]) (As := [.ref h, .ref ou]) (rest := []) ⟨hx, hb, hml, hown, hts⟩ (h_L_places l D cJ cO h fa ot ah te id rt bs od kn ou V fo wh pt rs sq on tw cn Fo Y P r S a1 b1 fr F o hod ho3 hF) (vx_cwSW 2 hts (kb_gi (kb_c kw_313 (kb_c kw_314 (kb_c kw_0 (kb_c kw_315 kb_all))))) rfl rfl rfl (by decide +kernel) ⟨Nat.le_of_ble_eq_true rfl, Nat.le_of_ble_eq_true rfl⟩) ⟨rc_blind, rs_pre (rs_a2 hP) (rs_aD2 hD) hK hN [1, 2, 7, 8, 9, 10, 11, 12, 13, 14, 0] rfl rfl [0, 1] rfl⟩ rfl rfl hl.1 rfl (lv_room (Nat.le_of_ble_eq_true rfl)) d_L_law_426 ⟨hfc, hfs⟩) (rs_a2 hP) (rs_aD2 hD) hS [1, 2, 7, 8, 9, 10, 11, 12, 13, 14, 0] rfl (fun _ => rfl) (fun _ => gs_adr _ _ _ _ _ _) (fun r1 u2 H locs hw2 hP hD hS => ?_)
    have hP := rs_b2 hP
    have hD := rs_bD2 hD
    obtain ⟨rfl, hw9⟩ := hw2
    obtain ⟨u8, rfl⟩ : ∃ z, z = u2 := ⟨_, rfl⟩
    have hP : va_P D vC (((([(ou, kl cJ 1 (vp_updL V 0 ((iz (u8.1 : Int)).toInt64))), (h, rO od fa ot ah te id rt bs kn), (fa, go cO 4 fr), (ot, go cO 4 er), (ah, ka cJ 13 a), (te, ka cJ 31 T), (id, ka cJ 5 J), (rt, rR fo (u8.1 : Int) wh pt rs sq on tw), (fo, ka cJ 4 u8.2.1), (wh, ka cJ 5 u8.2.2.1), (pt, ka cJ 5 u8.2.2.2.1), (rs, ka cJ 5 u8.2.2.2.2.1), (sq, ka cJ 8 u8.2.2.2.2.2.1), (on, ka cJ 5 u8.2.2.2.2.2.2.1), (tw, ka cJ 5 u8.2.2.2.2.2.2.2), (bs, rB ro le me bn), (ro, go cO 17 ra), (le, ki cI 13 Lx), (me, go cO 13 mb), (g, rM cd od fc hd md lo lv tb rw bm mn nu tu), (fc, k2 cJ 20 5 G), (hd, ka cJ 13 a2), (md, ka cJ 17 P2), (lo, k2 cJ 20 5 E2), (tb, k2 cJ 221 13 M2), (rw, ki cI 13 L2), (bm, k2 cJ 169 13 B2), (nu, ka cJ 31 T2), (tu, k2 cJ 20 5 U2)] ++ gs 4 er cJ 5 E) ++ gs 4 fr cJ 5 F) ++ gs 13 mb cJ 13 Bm) ++ gs 17 ra cJ 13 M) H := hP
    have hD : va_D A (((([(ou, kl cJ 1 (vp_updL V 0 ((iz (u8.1 : Int)).toInt64))), (h, rO od fa ot ah te id rt bs kn), (fa, go cO 4 fr), (ot, go cO 4 er), (ah, ka cJ 13 a), (te, ka cJ 31 T), (id, ka cJ 5 J), (rt, rR fo (u8.1 : Int) wh pt rs sq on tw), (fo, ka cJ 4 u8.2.1), (wh, ka cJ 5 u8.2.2.1), (pt, ka cJ 5 u8.2.2.2.1), (rs, ka cJ 5 u8.2.2.2.2.1), (sq, ka cJ 8 u8.2.2.2.2.2.1), (on, ka cJ 5 u8.2.2.2.2.2.2.1), (tw, ka cJ 5 u8.2.2.2.2.2.2.2), (bs, rB ro le me bn), (ro, go cO 17 ra), (le, ki cI 13 Lx), (me, go cO 13 mb), (g, rM cd od fc hd md lo lv tb rw bm mn nu tu), (fc, k2 cJ 20 5 G), (hd, ka cJ 13 a2), (md, ka cJ 17 P2), (lo, k2 cJ 20 5 E2), (tb, k2 cJ 221 13 M2), (rw, ki cI 13 L2), (bm, k2 cJ 169 13 B2), (nu, ka cJ 31 T2), (tu, k2 cJ 20 5 U2)] ++ gs 4 er cJ 5 E) ++ gs 4 fr cJ 5 F) ++ gs 13 mb cJ 13 Bm) ++ gs 17 ra cJ 13 M) := hD
    refine lv_istore (lv' := [(5, .int (iz 0)), (0, .ref b), (1, .ref h), (2, .ref g), (3, .ref ou), (4, .int (iz z4))]) hx hb d_L_law_429 hl (by decide) rfl (fun ls hl => ?_)
    refine lv_aload_n hx hb d_L_law_431 rfl (lv_at hl 3 rfl) ?_
    refine rc_calli (va_runV (As := []) (rest := []) ⟨hx, hb, hml, hown, hts⟩ (m_M_places l D cJ cI g cd od fc hd md lo lv tb rw bm mn nu tu G o hod ho3) (cwV 0 hts (kb_gi (kb_c kw_636 (kb_c kw_637 (kb_c kw_638 (kb_c kw_5 (kb_c kw_639 kb_all)))))) rfl rfl rfl (by decide +kernel) ⟨Nat.le_of_ble_eq_true rfl, Nat.le_of_ble_eq_true rfl⟩) ⟨rc_blind, va_recv hK hP (ci := 3) (q0 := 19) rfl rfl, rc_pre hP hD hK hN [19, 20] rfl rfl [0, 2] rfl⟩ rfl rfl hl.1 rfl (lv_room (Nat.le_of_ble_eq_true rfl)) d_L_law_432 ⟨hfc, hfs⟩) hP hD hS [19, 20] rfl (fun _ => rfl) (fun r3 u4 H locs hw4 hP hD hS => ?_)
    have h9 : u4 = 0 ∧ r3 = iz (cntN (G o) 32003 : Int) := by
      rcases hw4 with ⟨h6, h7, h8⟩ | ⟨h6, h7, h8⟩
      · exact ⟨h7, h8⟩
      · exact absurd (by rw [← lw_kd hI ho3]; exact hF) h6
    obtain ⟨rfl, rfl⟩ := h9
    have hP : va_P D vC (((([(ou, kl cJ 1 (vp_updL V 0 ((iz (u8.1 : Int)).toInt64))), (h, rO od fa ot ah te id rt bs kn), (fa, go cO 4 fr), (ot, go cO 4 er), (ah, ka cJ 13 a), (te, ka cJ 31 T), (id, ka cJ 5 J), (rt, rR fo (u8.1 : Int) wh pt rs sq on tw), (fo, ka cJ 4 u8.2.1), (wh, ka cJ 5 u8.2.2.1), (pt, ka cJ 5 u8.2.2.2.1), (rs, ka cJ 5 u8.2.2.2.2.1), (sq, ka cJ 8 u8.2.2.2.2.2.1), (on, ka cJ 5 u8.2.2.2.2.2.2.1), (tw, ka cJ 5 u8.2.2.2.2.2.2.2), (bs, rB ro le me bn), (ro, go cO 17 ra), (le, ki cI 13 Lx), (me, go cO 13 mb), (g, rM 0 od fc hd md lo lv tb rw bm mn nu tu), (fc, k2 cJ 20 5 G), (hd, ka cJ 13 a2), (md, ka cJ 17 P2), (lo, k2 cJ 20 5 E2), (tb, k2 cJ 221 13 M2), (rw, ki cI 13 L2), (bm, k2 cJ 169 13 B2), (nu, ka cJ 31 T2), (tu, k2 cJ 20 5 U2)] ++ gs 4 er cJ 5 E) ++ gs 4 fr cJ 5 F) ++ gs 13 mb cJ 13 Bm) ++ gs 17 ra cJ 13 M) H := hP
    have hD : va_D A (((([(ou, kl cJ 1 (vp_updL V 0 ((iz (u8.1 : Int)).toInt64))), (h, rO od fa ot ah te id rt bs kn), (fa, go cO 4 fr), (ot, go cO 4 er), (ah, ka cJ 13 a), (te, ka cJ 31 T), (id, ka cJ 5 J), (rt, rR fo (u8.1 : Int) wh pt rs sq on tw), (fo, ka cJ 4 u8.2.1), (wh, ka cJ 5 u8.2.2.1), (pt, ka cJ 5 u8.2.2.2.1), (rs, ka cJ 5 u8.2.2.2.2.1), (sq, ka cJ 8 u8.2.2.2.2.2.1), (on, ka cJ 5 u8.2.2.2.2.2.2.1), (tw, ka cJ 5 u8.2.2.2.2.2.2.2), (bs, rB ro le me bn), (ro, go cO 17 ra), (le, ki cI 13 Lx), (me, go cO 13 mb), (g, rM 0 od fc hd md lo lv tb rw bm mn nu tu), (fc, k2 cJ 20 5 G), (hd, ka cJ 13 a2), (md, ka cJ 17 P2), (lo, k2 cJ 20 5 E2), (tb, k2 cJ 221 13 M2), (rw, ki cI 13 L2), (bm, k2 cJ 169 13 B2), (nu, ka cJ 31 T2), (tu, k2 cJ 20 5 U2)] ++ gs 4 er cJ 5 E) ++ gs 4 fr cJ 5 F) ++ gs 13 mb cJ 13 Bm) ++ gs 17 ra cJ 13 M) := hD
    refine lv_istore (lv' := [(6, .int (iz (cntN (G o) 32003 : Int))), (5, .int (iz 0)), (0, .ref b), (1, .ref h), (2, .ref g), (3, .ref ou), (4, .int (iz z4))]) hx hb d_L_law_435 hl (by decide) rfl (fun ls hl => ?_)
    refine lv_aload_n hx hb d_L_law_437 rfl (lv_at hl 4 rfl) ?_
    refine rc_calli (va_runV (As := []) (rest := []) ⟨hx, hb, hml, hown, hts⟩ (m_M_thrown l D g 0 od fc hd md lo lv tb rw bm mn nu tu) (cwV 0 hts (kb_gi (kb_c kw_570 (kb_c kw_571 (kb_c kw_572 (kb_c kw_5 (kb_c kw_573 kb_all)))))) rfl rfl rfl (by decide +kernel) ⟨Nat.le_of_ble_eq_true rfl, Nat.le_of_ble_eq_true rfl⟩) ⟨rc_blind, va_recv hK hP (ci := 3) (q0 := 19) rfl rfl, rc_pre hP hD hK hN [19] rfl rfl [] rfl⟩ rfl rfl hl.1 rfl (lv_room (Nat.le_of_ble_eq_true rfl)) d_L_law_438 ⟨hfc, hfs⟩) hP hD hS [19] rfl (fun _ => rfl) (fun r5 u6 H locs hw6 hP hD hS => ?_)
    subst hw6
    have hP : va_P D vC (((([(ou, kl cJ 1 (vp_updL V 0 ((iz (u8.1 : Int)).toInt64))), (h, rO od fa ot ah te id rt bs kn), (fa, go cO 4 fr), (ot, go cO 4 er), (ah, ka cJ 13 a), (te, ka cJ 31 T), (id, ka cJ 5 J), (rt, rR fo (u8.1 : Int) wh pt rs sq on tw), (fo, ka cJ 4 u8.2.1), (wh, ka cJ 5 u8.2.2.1), (pt, ka cJ 5 u8.2.2.2.1), (rs, ka cJ 5 u8.2.2.2.2.1), (sq, ka cJ 8 u8.2.2.2.2.2.1), (on, ka cJ 5 u8.2.2.2.2.2.2.1), (tw, ka cJ 5 u8.2.2.2.2.2.2.2), (bs, rB ro le me bn), (ro, go cO 17 ra), (le, ki cI 13 Lx), (me, go cO 13 mb), (g, rM 0 od fc hd md lo lv tb rw bm mn nu tu), (fc, k2 cJ 20 5 G), (hd, ka cJ 13 a2), (md, ka cJ 17 P2), (lo, k2 cJ 20 5 E2), (tb, k2 cJ 221 13 M2), (rw, ki cI 13 L2), (bm, k2 cJ 169 13 B2), (nu, ka cJ 31 T2), (tu, k2 cJ 20 5 U2)] ++ gs 4 er cJ 5 E) ++ gs 4 fr cJ 5 F) ++ gs 13 mb cJ 13 Bm) ++ gs 17 ra cJ 13 M) H := hP
    have hD : va_D A (((([(ou, kl cJ 1 (vp_updL V 0 ((iz (u8.1 : Int)).toInt64))), (h, rO od fa ot ah te id rt bs kn), (fa, go cO 4 fr), (ot, go cO 4 er), (ah, ka cJ 13 a), (te, ka cJ 31 T), (id, ka cJ 5 J), (rt, rR fo (u8.1 : Int) wh pt rs sq on tw), (fo, ka cJ 4 u8.2.1), (wh, ka cJ 5 u8.2.2.1), (pt, ka cJ 5 u8.2.2.2.1), (rs, ka cJ 5 u8.2.2.2.2.1), (sq, ka cJ 8 u8.2.2.2.2.2.1), (on, ka cJ 5 u8.2.2.2.2.2.2.1), (tw, ka cJ 5 u8.2.2.2.2.2.2.2), (bs, rB ro le me bn), (ro, go cO 17 ra), (le, ki cI 13 Lx), (me, go cO 13 mb), (g, rM 0 od fc hd md lo lv tb rw bm mn nu tu), (fc, k2 cJ 20 5 G), (hd, ka cJ 13 a2), (md, ka cJ 17 P2), (lo, k2 cJ 20 5 E2), (tb, k2 cJ 221 13 M2), (rw, ki cI 13 L2), (bm, k2 cJ 169 13 B2), (nu, ka cJ 31 T2), (tu, k2 cJ 20 5 U2)] ++ gs 4 er cJ 5 E) ++ gs 4 fr cJ 5 F) ++ gs 13 mb cJ 13 Bm) ++ gs 17 ra cJ 13 M) := hD
    refine lv_iload hx hb d_L_law_441 (lv_at hl 1 rfl) ?_
    refine rl_icmp_eq (tgt := 448) hx hb d_L_law_443 (by decide) rfl ?_
    refine lv_iload hx hb d_L_law_448 (lv_at hl 1 rfl) ?_
    refine rz_if_ne (tgt := 465) hx hb d_L_law_450 (by decide) (fun hc => absurd rfl hc) (fun _ => ?_)
    refine lv_aload_n hx hb d_L_law_453 rfl (lv_at hl 5 rfl) ?_
    refine rz_iconst hx hb d_L_law_454 ?_
    refine rl_ld hx hb hK hP 0 0 rfl rfl 0 d_L_law_455 ?_
    rw [vp_self]
    refine lv_iload hx hb d_L_law_456 (lv_at hl 0 rfl) ?_
    refine lv_i2l hx hb d_L_law_458 rfl ?_
    refine rl_lcmp_eq (tgt := 465) hx hb d_L_law_459 d_L_law_460 (by decide) (by rw [lw_cnt (lw_rts hI ho3 hw9)]) ?_
    refine lv_goto (tgt := 1338) hx hb d_L_law_465 (by decide) ?_
    refine W.widen (k := kc + 1) (n := ks + 6) (by omega) (by omega) ?_
    exact hend (vp_updL V 0 ((iz (u8.1 : Int)).toInt64)) kn a T J (u8.1 : Int) u8.2.1 u8.2.2.1 u8.2.2.2.1 u8.2.2.2.2.1 u8.2.2.2.2.2.1 u8.2.2.2.2.2.2.1 u8.2.2.2.2.2.2.2 bn Lx E F Bm M 0 lv mn G a2 P2 E2 M2 L2 B2 T2 U2 H locs ls ⟨hI, hJ⟩ hP hD hS (lv_sub hl [2, 3, 4, 5, 6] rfl)
  · refine lv_aload_n hx hb d_L_law_424 rfl (lv_at hl 1 rfl) ?_
    refine lv_aload_n hx hb d_L_law_425 rfl (lv_at hl 3 rfl) ?_
    refine rsM_calli (vx_runSW (hh := [((0 : Nat), (8 : Nat), (11 : Nat), (27 : Nat))]) (As := [.ref h, .ref ou]) (rest := []) ⟨hx, hb, hml, hown, hts⟩ (h_L_places_t l D hst sa cJ cO h fa ot ah te id rt bs od kn ou V fo wh pt rs sq on tw cn Fo Y P r S a1 b1 fr F o hod ho3 (by omega)) (vx_cwSW 2 hts (kb_gi (kb_c kw_313 (kb_c kw_314 (kb_c kw_0 (kb_c kw_315 kb_all))))) rfl rfl rfl (by decide +kernel) ⟨Nat.le_of_ble_eq_true rfl, Nat.le_of_ble_eq_true rfl⟩) ⟨rx_blind, fun U h8 h9 => ⟨(rs_pre (rs_a2 hP) (rs_aD2 hD) hK hN [1, 2, 7, 8, 9, 10, 11, 12, 13, 14, 0] rfl rfl [0, 1] rfl) U h8 h9, hE.go hS (rs_in (rs_aD2 hD) (is := [1, 2, 7, 8, 9, 10, 11, 12, 13, 14, 0]) rfl) h8 h9⟩⟩ rfl rfl hl.1 rfl (lv_room (Nat.le_of_ble_eq_true rfl)) d_L_law_426 ⟨hfc1, hfs1⟩) (rs_a2 hP) (rs_aD2 hD) hS [1, 2, 7, 8, 9, 10, 11, 12, 13, 14, 0] rfl (fun _ => rfl) (fun _ => gs_adr _ _ _ _ _ _) (fun r7 u8 H locs hw8 hP hD hS => ?_)
    have hP := rs_b2 hP
    have hD := rs_bD2 hD
    subst hw8
    have hP : va_P D vC (((([(ou, kl cJ 1 V), (h, rO od fa ot ah te id rt bs kn), (fa, go cO 4 fr), (ot, go cO 4 er), (ah, ka cJ 13 a), (te, ka cJ 31 T), (id, ka cJ 5 J), (rt, rR fo cn wh pt rs sq on tw), (fo, ka cJ 4 Fo), (wh, ka cJ 5 Y), (pt, ka cJ 5 P), (rs, ka cJ 5 r), (sq, ka cJ 8 S), (on, ka cJ 5 a1), (tw, ka cJ 5 b1), (bs, rB ro le me bn), (ro, go cO 17 ra), (le, ki cI 13 Lx), (me, go cO 13 mb), (g, rM cd od fc hd md lo lv tb rw bm mn nu tu), (fc, k2 cJ 20 5 G), (hd, ka cJ 13 a2), (md, ka cJ 17 P2), (lo, k2 cJ 20 5 E2), (tb, k2 cJ 221 13 M2), (rw, ki cI 13 L2), (bm, k2 cJ 169 13 B2), (nu, ka cJ 31 T2), (tu, k2 cJ 20 5 U2)] ++ gs 4 er cJ 5 E) ++ gs 4 fr cJ 5 F) ++ gs 13 mb cJ 13 Bm) ++ gs 17 ra cJ 13 M) H := hP
    have hD : va_D A (((([(ou, kl cJ 1 V), (h, rO od fa ot ah te id rt bs kn), (fa, go cO 4 fr), (ot, go cO 4 er), (ah, ka cJ 13 a), (te, ka cJ 31 T), (id, ka cJ 5 J), (rt, rR fo cn wh pt rs sq on tw), (fo, ka cJ 4 Fo), (wh, ka cJ 5 Y), (pt, ka cJ 5 P), (rs, ka cJ 5 r), (sq, ka cJ 8 S), (on, ka cJ 5 a1), (tw, ka cJ 5 b1), (bs, rB ro le me bn), (ro, go cO 17 ra), (le, ki cI 13 Lx), (me, go cO 13 mb), (g, rM cd od fc hd md lo lv tb rw bm mn nu tu), (fc, k2 cJ 20 5 G), (hd, ka cJ 13 a2), (md, ka cJ 17 P2), (lo, k2 cJ 20 5 E2), (tb, k2 cJ 221 13 M2), (rw, ki cI 13 L2), (bm, k2 cJ 169 13 B2), (nu, ka cJ 31 T2), (tu, k2 cJ 20 5 U2)] ++ gs 4 er cJ 5 E) ++ gs 4 fr cJ 5 F) ++ gs 13 mb cJ 13 Bm) ++ gs 17 ra cJ 13 M) := hD
    refine lv_istore (lv' := [(5, .int (iz 1)), (0, .ref b), (1, .ref h), (2, .ref g), (3, .ref ou), (4, .int (iz z4))]) hx hb d_L_law_429 hl (by decide) rfl (fun ls hl => ?_)
    refine lv_aload_n hx hb d_L_law_431 rfl (lv_at hl 3 rfl) ?_
    refine rc_calli (va_runV (As := []) (rest := []) ⟨hx, hb, hml, hown, hts⟩ (m_M_places l D cJ cI g cd od fc hd md lo lv tb rw bm mn nu tu G o hod ho3) (cwV 0 hts (kb_gi (kb_c kw_636 (kb_c kw_637 (kb_c kw_638 (kb_c kw_5 (kb_c kw_639 kb_all)))))) rfl rfl rfl (by decide +kernel) ⟨Nat.le_of_ble_eq_true rfl, Nat.le_of_ble_eq_true rfl⟩) ⟨rc_blind, va_recv hK hP (ci := 3) (q0 := 19) rfl rfl, rc_pre hP hD hK hN [19, 20] rfl rfl [0, 2] rfl⟩ rfl rfl hl.1 rfl (lv_room (Nat.le_of_ble_eq_true rfl)) d_L_law_432 ⟨hfc1, hfs1⟩) hP hD hS [19, 20] rfl (fun _ => rfl) (fun r9 u10 H locs hw10 hP hD hS => ?_)
    have h9 : u10 = 1 ∧ r9 = iz 0 := by
      rcases hw10 with ⟨h6, h7, h8⟩ | ⟨h6, h7, h8⟩
      · exact absurd h6 (by rw [← lw_kd hI ho3]; exact hF)
      · exact ⟨h7, h8⟩
    obtain ⟨rfl, rfl⟩ := h9
    have hP : va_P D vC (((([(ou, kl cJ 1 V), (h, rO od fa ot ah te id rt bs kn), (fa, go cO 4 fr), (ot, go cO 4 er), (ah, ka cJ 13 a), (te, ka cJ 31 T), (id, ka cJ 5 J), (rt, rR fo cn wh pt rs sq on tw), (fo, ka cJ 4 Fo), (wh, ka cJ 5 Y), (pt, ka cJ 5 P), (rs, ka cJ 5 r), (sq, ka cJ 8 S), (on, ka cJ 5 a1), (tw, ka cJ 5 b1), (bs, rB ro le me bn), (ro, go cO 17 ra), (le, ki cI 13 Lx), (me, go cO 13 mb), (g, rM 1 od fc hd md lo lv tb rw bm mn nu tu), (fc, k2 cJ 20 5 G), (hd, ka cJ 13 a2), (md, ka cJ 17 P2), (lo, k2 cJ 20 5 E2), (tb, k2 cJ 221 13 M2), (rw, ki cI 13 L2), (bm, k2 cJ 169 13 B2), (nu, ka cJ 31 T2), (tu, k2 cJ 20 5 U2)] ++ gs 4 er cJ 5 E) ++ gs 4 fr cJ 5 F) ++ gs 13 mb cJ 13 Bm) ++ gs 17 ra cJ 13 M) H := hP
    have hD : va_D A (((([(ou, kl cJ 1 V), (h, rO od fa ot ah te id rt bs kn), (fa, go cO 4 fr), (ot, go cO 4 er), (ah, ka cJ 13 a), (te, ka cJ 31 T), (id, ka cJ 5 J), (rt, rR fo cn wh pt rs sq on tw), (fo, ka cJ 4 Fo), (wh, ka cJ 5 Y), (pt, ka cJ 5 P), (rs, ka cJ 5 r), (sq, ka cJ 8 S), (on, ka cJ 5 a1), (tw, ka cJ 5 b1), (bs, rB ro le me bn), (ro, go cO 17 ra), (le, ki cI 13 Lx), (me, go cO 13 mb), (g, rM 1 od fc hd md lo lv tb rw bm mn nu tu), (fc, k2 cJ 20 5 G), (hd, ka cJ 13 a2), (md, ka cJ 17 P2), (lo, k2 cJ 20 5 E2), (tb, k2 cJ 221 13 M2), (rw, ki cI 13 L2), (bm, k2 cJ 169 13 B2), (nu, ka cJ 31 T2), (tu, k2 cJ 20 5 U2)] ++ gs 4 er cJ 5 E) ++ gs 4 fr cJ 5 F) ++ gs 13 mb cJ 13 Bm) ++ gs 17 ra cJ 13 M) := hD
    refine lv_istore (lv' := [(6, .int (iz 0)), (5, .int (iz 1)), (0, .ref b), (1, .ref h), (2, .ref g), (3, .ref ou), (4, .int (iz z4))]) hx hb d_L_law_435 hl (by decide) rfl (fun ls hl => ?_)
    refine lv_aload_n hx hb d_L_law_437 rfl (lv_at hl 4 rfl) ?_
    refine rc_calli (va_runV (As := []) (rest := []) ⟨hx, hb, hml, hown, hts⟩ (m_M_thrown l D g 1 od fc hd md lo lv tb rw bm mn nu tu) (cwV 0 hts (kb_gi (kb_c kw_570 (kb_c kw_571 (kb_c kw_572 (kb_c kw_5 (kb_c kw_573 kb_all)))))) rfl rfl rfl (by decide +kernel) ⟨Nat.le_of_ble_eq_true rfl, Nat.le_of_ble_eq_true rfl⟩) ⟨rc_blind, va_recv hK hP (ci := 3) (q0 := 19) rfl rfl, rc_pre hP hD hK hN [19] rfl rfl [] rfl⟩ rfl rfl hl.1 rfl (lv_room (Nat.le_of_ble_eq_true rfl)) d_L_law_438 ⟨hfc1, hfs1⟩) hP hD hS [19] rfl (fun _ => rfl) (fun r11 u12 H locs hw12 hP hD hS => ?_)
    subst hw12
    have hP : va_P D vC (((([(ou, kl cJ 1 V), (h, rO od fa ot ah te id rt bs kn), (fa, go cO 4 fr), (ot, go cO 4 er), (ah, ka cJ 13 a), (te, ka cJ 31 T), (id, ka cJ 5 J), (rt, rR fo cn wh pt rs sq on tw), (fo, ka cJ 4 Fo), (wh, ka cJ 5 Y), (pt, ka cJ 5 P), (rs, ka cJ 5 r), (sq, ka cJ 8 S), (on, ka cJ 5 a1), (tw, ka cJ 5 b1), (bs, rB ro le me bn), (ro, go cO 17 ra), (le, ki cI 13 Lx), (me, go cO 13 mb), (g, rM 1 od fc hd md lo lv tb rw bm mn nu tu), (fc, k2 cJ 20 5 G), (hd, ka cJ 13 a2), (md, ka cJ 17 P2), (lo, k2 cJ 20 5 E2), (tb, k2 cJ 221 13 M2), (rw, ki cI 13 L2), (bm, k2 cJ 169 13 B2), (nu, ka cJ 31 T2), (tu, k2 cJ 20 5 U2)] ++ gs 4 er cJ 5 E) ++ gs 4 fr cJ 5 F) ++ gs 13 mb cJ 13 Bm) ++ gs 17 ra cJ 13 M) H := hP
    have hD : va_D A (((([(ou, kl cJ 1 V), (h, rO od fa ot ah te id rt bs kn), (fa, go cO 4 fr), (ot, go cO 4 er), (ah, ka cJ 13 a), (te, ka cJ 31 T), (id, ka cJ 5 J), (rt, rR fo cn wh pt rs sq on tw), (fo, ka cJ 4 Fo), (wh, ka cJ 5 Y), (pt, ka cJ 5 P), (rs, ka cJ 5 r), (sq, ka cJ 8 S), (on, ka cJ 5 a1), (tw, ka cJ 5 b1), (bs, rB ro le me bn), (ro, go cO 17 ra), (le, ki cI 13 Lx), (me, go cO 13 mb), (g, rM 1 od fc hd md lo lv tb rw bm mn nu tu), (fc, k2 cJ 20 5 G), (hd, ka cJ 13 a2), (md, ka cJ 17 P2), (lo, k2 cJ 20 5 E2), (tb, k2 cJ 221 13 M2), (rw, ki cI 13 L2), (bm, k2 cJ 169 13 B2), (nu, ka cJ 31 T2), (tu, k2 cJ 20 5 U2)] ++ gs 4 er cJ 5 E) ++ gs 4 fr cJ 5 F) ++ gs 13 mb cJ 13 Bm) ++ gs 17 ra cJ 13 M) := hD
    refine lv_iload hx hb d_L_law_441 (lv_at hl 1 rfl) ?_
    refine rl_icmp_eq (tgt := 448) hx hb d_L_law_443 (by decide) rfl ?_
    refine lv_iload hx hb d_L_law_448 (lv_at hl 1 rfl) ?_
    refine rz_if_ne (tgt := 465) hx hb d_L_law_450 (by decide) (fun _ => ?_) (fun hc => absurd hc (by decide))
    refine lv_goto (tgt := 1338) hx hb d_L_law_465 (by decide) ?_
    refine W.widen (k := kc + 1) (n := ks + 6) (by omega) (by omega) ?_
    exact hend V kn a T J cn Fo Y P r S a1 b1 bn Lx E F Bm M 1 lv mn G a2 P2 E2 M2 L2 B2 T2 U2 H locs ls ⟨hI, hJ⟩ hP hD hS (lv_sub hl [2, 3, 4, 5, 6] rfl)
set_option maxHeartbeats 4000000 in
set_option maxRecDepth 100000 in
theorem lc_5 {cJ cO cI : ClassId} {ou h fa ot ah te id rt bs : Nat} {od : Int} {fo wh pt rs sq on tw : Nat} {ro le me : Nat} {fr er mb ra : Nat → Nat} {g : Nat} {fc hd md lo tb rw bm nu tu : Nat} {o : Nat} {sa : Nat → Nat} {ct b L : Nat} {xs : Nat → Int32} {V : Nat → Int64} {kn : Int} {a : Nat → ro_K} {T : Nat → ro_K} {J : Nat → ro_K} {cn : Int} {Fo : Nat → ro_K} {Y : Nat → ro_K} {P : Nat → ro_K} {r : Nat → ro_K} {S : Nat → ro_K} {a1 : Nat → ro_K} {b1 : Nat → ro_K} {bn : Int} {Lx : Nat → Int} {E : Nat → Nat → ro_K} {F : Nat → Nat → ro_K} {Bm : Nat → Nat → ro_K} {M : Nat → Nat → ro_K} {cd : Int} {lv : Int} {mn : Int} {G : Nat → Nat → ro_K} {a2 : Nat → ro_K} {P2 : Nat → ro_K} {E2 : Nat → Nat → ro_K} {M2 : Nat → Nat → ro_K} {L2 : Nat → Int} {B2 : Nat → Nat → ro_K} {T2 : Nat → ro_K} {U2 : Nat → Nat → ro_K} {z4 : Int} {k kc ks : Nat} {H : Heap} {locs : List Loc} {ls : Array Slot} (hx : p.tables.exec = Jvm.exec) (hb : c.code = c_L_law) (hml : c.maxLocals = 7) (hown : s.vm.findClass R_L = some m.cls) (hts : ∀ w ∈ kb, w.before args s = true) (hK : va_K D vC [(cJ, .long), (cO, .array .long), (cI, .int)] s) (hN : rc_N s) (hst : l.stackTraces = false) (hE : rx_E sa A s s.heap) (hC : rz_C ct A s s.heap) (hX : va_X b L xs s s.heap) (hbl : b < s.heap.size) (hbA : ¬ A b) (hL : L ≤ 5121) (hod : od = (o : Int)) (ho1 : 1 ≤ o) (ho3 : o ≤ 3) (hz4 : z4 = (k : Int)) (hk9 : k + 9 < L) (hkc : kc + 1 ≤ 601024) (hks : ks + 6 ≤ 7293000) (hI : (lw_I o F E a kn M Lx Bm bn G a2 ∧ J 4 = 0)) (hend : ∀ (V : Nat → Int64) (kn : Int) (a : Nat → ro_K) (T : Nat → ro_K) (J : Nat → ro_K) (cn : Int) (Fo : Nat → ro_K) (Y : Nat → ro_K) (P : Nat → ro_K) (r : Nat → ro_K) (S : Nat → ro_K) (a1 : Nat → ro_K) (b1 : Nat → ro_K) (bn : Int) (Lx : Nat → Int) (E : Nat → Nat → ro_K) (F : Nat → Nat → ro_K) (Bm : Nat → Nat → ro_K) (M : Nat → Nat → ro_K) (cd : Int) (lv : Int) (mn : Int) (G : Nat → Nat → ro_K) (a2 : Nat → ro_K) (P2 : Nat → ro_K) (E2 : Nat → Nat → ro_K) (M2 : Nat → Nat → ro_K) (L2 : Nat → Int) (B2 : Nat → Nat → ro_K) (T2 : Nat → ro_K) (U2 : Nat → Nat → ro_K) (H : Heap) (locs : List Loc) (ls : Array Slot), (lw_I o F E a kn M Lx Bm bn G a2 ∧ J 4 = 0) → va_P D vC (((([(ou, kl cJ 1 V), (h, rO od fa ot ah te id rt bs kn), (fa, go cO 4 fr), (ot, go cO 4 er), (ah, ka cJ 13 a), (te, ka cJ 31 T), (id, ka cJ 5 J), (rt, rR fo cn wh pt rs sq on tw), (fo, ka cJ 4 Fo), (wh, ka cJ 5 Y), (pt, ka cJ 5 P), (rs, ka cJ 5 r), (sq, ka cJ 8 S), (on, ka cJ 5 a1), (tw, ka cJ 5 b1), (bs, rB ro le me bn), (ro, go cO 17 ra), (le, ki cI 13 Lx), (me, go cO 13 mb), (g, rM cd od fc hd md lo lv tb rw bm mn nu tu), (fc, k2 cJ 20 5 G), (hd, ka cJ 13 a2), (md, ka cJ 17 P2), (lo, k2 cJ 20 5 E2), (tb, k2 cJ 221 13 M2), (rw, ki cI 13 L2), (bm, k2 cJ 169 13 B2), (nu, ka cJ 31 T2), (tu, k2 cJ 20 5 U2)] ++ gs 4 er cJ 5 E) ++ gs 4 fr cJ 5 F) ++ gs 13 mb cJ 13 Bm) ++ gs 17 ra cJ 13 M) H → va_D A (((([(ou, kl cJ 1 V), (h, rO od fa ot ah te id rt bs kn), (fa, go cO 4 fr), (ot, go cO 4 er), (ah, ka cJ 13 a), (te, ka cJ 31 T), (id, ka cJ 5 J), (rt, rR fo cn wh pt rs sq on tw), (fo, ka cJ 4 Fo), (wh, ka cJ 5 Y), (pt, ka cJ 5 P), (rs, ka cJ 5 r), (sq, ka cJ 8 S), (on, ka cJ 5 a1), (tw, ka cJ 5 b1), (bs, rB ro le me bn), (ro, go cO 17 ra), (le, ki cI 13 Lx), (me, go cO 13 mb), (g, rM cd od fc hd md lo lv tb rw bm mn nu tu), (fc, k2 cJ 20 5 G), (hd, ka cJ 13 a2), (md, ka cJ 17 P2), (lo, k2 cJ 20 5 E2), (tb, k2 cJ 221 13 M2), (rw, ki cI 13 L2), (bm, k2 cJ 169 13 B2), (nu, ka cJ 31 T2), (tu, k2 cJ 20 5 U2)] ++ gs 4 er cJ 5 E) ++ gs 4 fr cJ 5 F) ++ gs 13 mb cJ 13 Bm) ++ gs 17 ra cJ 13 M) → va_S A s.heap H locs → lv_has ls 7 [(0, .ref b), (1, .ref h), (2, .ref g), (3, .ref ou), (4, .int (iz z4))] → W p l e room_1 s m args below meth c H locs (kc + 1) (ks + 6) Q (F0 m 1338 ls [])) (hP : va_P D vC (((([(ou, kl cJ 1 V), (h, rO od fa ot ah te id rt bs kn), (fa, go cO 4 fr), (ot, go cO 4 er), (ah, ka cJ 13 a), (te, ka cJ 31 T), (id, ka cJ 5 J), (rt, rR fo cn wh pt rs sq on tw), (fo, ka cJ 4 Fo), (wh, ka cJ 5 Y), (pt, ka cJ 5 P), (rs, ka cJ 5 r), (sq, ka cJ 8 S), (on, ka cJ 5 a1), (tw, ka cJ 5 b1), (bs, rB ro le me bn), (ro, go cO 17 ra), (le, ki cI 13 Lx), (me, go cO 13 mb), (g, rM cd od fc hd md lo lv tb rw bm mn nu tu), (fc, k2 cJ 20 5 G), (hd, ka cJ 13 a2), (md, ka cJ 17 P2), (lo, k2 cJ 20 5 E2), (tb, k2 cJ 221 13 M2), (rw, ki cI 13 L2), (bm, k2 cJ 169 13 B2), (nu, ka cJ 31 T2), (tu, k2 cJ 20 5 U2)] ++ gs 4 er cJ 5 E) ++ gs 4 fr cJ 5 F) ++ gs 13 mb cJ 13 Bm) ++ gs 17 ra cJ 13 M) H) (hD : va_D A (((([(ou, kl cJ 1 V), (h, rO od fa ot ah te id rt bs kn), (fa, go cO 4 fr), (ot, go cO 4 er), (ah, ka cJ 13 a), (te, ka cJ 31 T), (id, ka cJ 5 J), (rt, rR fo cn wh pt rs sq on tw), (fo, ka cJ 4 Fo), (wh, ka cJ 5 Y), (pt, ka cJ 5 P), (rs, ka cJ 5 r), (sq, ka cJ 8 S), (on, ka cJ 5 a1), (tw, ka cJ 5 b1), (bs, rB ro le me bn), (ro, go cO 17 ra), (le, ki cI 13 Lx), (me, go cO 13 mb), (g, rM cd od fc hd md lo lv tb rw bm mn nu tu), (fc, k2 cJ 20 5 G), (hd, ka cJ 13 a2), (md, ka cJ 17 P2), (lo, k2 cJ 20 5 E2), (tb, k2 cJ 221 13 M2), (rw, ki cI 13 L2), (bm, k2 cJ 169 13 B2), (nu, ka cJ 31 T2), (tu, k2 cJ 20 5 U2)] ++ gs 4 er cJ 5 E) ++ gs 4 fr cJ 5 F) ++ gs 13 mb cJ 13 Bm) ++ gs 17 ra cJ 13 M)) (hS : va_S A s.heap H locs) (hl : lv_has ls 7 [(0, .ref b), (1, .ref h), (2, .ref g), (3, .ref ou), (4, .int (iz z4))]) : W p l e room_1 s m args below meth c H locs kc ks Q (F0 m 468 ls []) := by
  obtain ⟨hI, hJ⟩ := hI
  have hs1 := sx_in xs (k + 1)
  have hfc : kc + 0 ≤ room_1.cells := by show kc + 0 ≤ 601024; omega
  have hfs : ks + 0 ≤ room_1.slots := by show ks + 0 ≤ 7293000; omega
  have hfc1 : kc + 1 ≤ room_1.cells := hkc
  have hfs1 : ks + 6 ≤ room_1.slots := hks
  by_cases hF : 0 ≤ kd (F o) 5
  · by_cases hk : 0 ≤ (sx xs (k + 1)) ∧ (sx xs (k + 1)) < (cntN (F o) 32003 : Int)
    · have hck : ∀ n Fo, rts (F o) n Fo → (sx xs (k + 1)) < (n : Int) := fun n Fo hr9 => by rw [lw_cnt hr9]; omega
      refine lv_aload_n hx hb d_L_law_468 rfl (lv_at hl 1 rfl) ?_
      refine lv_aload_n hx hb d_L_law_469 rfl (lv_at hl 0 rfl) ?_
      refine lv_iload hx hb d_L_law_470 (lv_at hl 4 rfl) ?_
      refine rz_iconst hx hb d_L_law_472 ?_
      refine rz_iadd hx hb d_L_law_473 ?_
      refine rl_sld hx hb hX hbl hbA hS (k + 1) d_L_law_474 ?_
      refine lv_aload_n hx hb d_L_law_475 rfl (lv_at hl 3 rfl) ?_
      refine rsM_calli (vx_runSW (hh := [((0 : Nat), (9 : Nat), (12 : Nat), (27 : Nat)), ((0 : Nat), (9 : Nat), (15 : Nat), (13 : Nat))]) (As := [.ref h, .int (iz (sx xs (k + 1))), .ref ou]) (rest := []) ⟨hx, hb, hml, hown, hts⟩ (h_L_place l D cJ cO h fa ot ah te id rt bs od kn ou V fo wh pt rs sq on tw cn Fo Y P r S a1 b1 fr F (sx xs (k + 1)) o hod ho3 (by omega) (by omega) hF (by omega) hck) (vx_cwSW 3 hts (kb_gi (kb_c kw_403 (kb_c kw_404 (kb_c kw_0 (kb_c kw_405 kb_all))))) rfl rfl rfl (by decide +kernel) ⟨Nat.le_of_ble_eq_true rfl, Nat.le_of_ble_eq_true rfl⟩) ⟨rc_blind, rs_pre (rs_a2 hP) (rs_aD2 hD) hK hN [1, 2, 7, 8, 9, 10, 11, 12, 13, 14, 0] rfl rfl [0, 1] rfl⟩ rfl rfl hl.1 rfl (lv_room (Nat.le_of_ble_eq_true rfl)) d_L_law_476 ⟨hfc, hfs⟩) (rs_a2 hP) (rs_aD2 hD) hS [1, 2, 7, 8, 9, 10, 11, 12, 13, 14, 0] rfl (fun _ => rfl) (fun _ => gs_adr _ _ _ _ _ _) (fun r1 u2 H locs hw2 hP hD hS => ?_)
      have hP := rs_b2 hP
      have hD := rs_bD2 hD
      obtain ⟨rfl, hw9⟩ := hw2
      obtain ⟨u8, rfl⟩ : ∃ z, z = u2 := ⟨_, rfl⟩
      have hP : va_P D vC (((([(ou, kl cJ 1 (vp_updL V 0 ((iz ((u8.2.1 ((sx xs (k + 1)).toNat)).val : Int)).toInt64))), (h, rO od fa ot ah te id rt bs kn), (fa, go cO 4 fr), (ot, go cO 4 er), (ah, ka cJ 13 a), (te, ka cJ 31 T), (id, ka cJ 5 J), (rt, rR fo (u8.1 : Int) wh pt rs sq on tw), (fo, ka cJ 4 u8.2.1), (wh, ka cJ 5 u8.2.2.1), (pt, ka cJ 5 u8.2.2.2.1), (rs, ka cJ 5 u8.2.2.2.2.1), (sq, ka cJ 8 u8.2.2.2.2.2.1), (on, ka cJ 5 u8.2.2.2.2.2.2.1), (tw, ka cJ 5 u8.2.2.2.2.2.2.2), (bs, rB ro le me bn), (ro, go cO 17 ra), (le, ki cI 13 Lx), (me, go cO 13 mb), (g, rM cd od fc hd md lo lv tb rw bm mn nu tu), (fc, k2 cJ 20 5 G), (hd, ka cJ 13 a2), (md, ka cJ 17 P2), (lo, k2 cJ 20 5 E2), (tb, k2 cJ 221 13 M2), (rw, ki cI 13 L2), (bm, k2 cJ 169 13 B2), (nu, ka cJ 31 T2), (tu, k2 cJ 20 5 U2)] ++ gs 4 er cJ 5 E) ++ gs 4 fr cJ 5 F) ++ gs 13 mb cJ 13 Bm) ++ gs 17 ra cJ 13 M) H := hP
      have hD : va_D A (((([(ou, kl cJ 1 (vp_updL V 0 ((iz ((u8.2.1 ((sx xs (k + 1)).toNat)).val : Int)).toInt64))), (h, rO od fa ot ah te id rt bs kn), (fa, go cO 4 fr), (ot, go cO 4 er), (ah, ka cJ 13 a), (te, ka cJ 31 T), (id, ka cJ 5 J), (rt, rR fo (u8.1 : Int) wh pt rs sq on tw), (fo, ka cJ 4 u8.2.1), (wh, ka cJ 5 u8.2.2.1), (pt, ka cJ 5 u8.2.2.2.1), (rs, ka cJ 5 u8.2.2.2.2.1), (sq, ka cJ 8 u8.2.2.2.2.2.1), (on, ka cJ 5 u8.2.2.2.2.2.2.1), (tw, ka cJ 5 u8.2.2.2.2.2.2.2), (bs, rB ro le me bn), (ro, go cO 17 ra), (le, ki cI 13 Lx), (me, go cO 13 mb), (g, rM cd od fc hd md lo lv tb rw bm mn nu tu), (fc, k2 cJ 20 5 G), (hd, ka cJ 13 a2), (md, ka cJ 17 P2), (lo, k2 cJ 20 5 E2), (tb, k2 cJ 221 13 M2), (rw, ki cI 13 L2), (bm, k2 cJ 169 13 B2), (nu, ka cJ 31 T2), (tu, k2 cJ 20 5 U2)] ++ gs 4 er cJ 5 E) ++ gs 4 fr cJ 5 F) ++ gs 13 mb cJ 13 Bm) ++ gs 17 ra cJ 13 M) := hD
      refine lv_istore (lv' := [(5, .int (iz 0)), (0, .ref b), (1, .ref h), (2, .ref g), (3, .ref ou), (4, .int (iz z4))]) hx hb d_L_law_479 hl (by decide) rfl (fun ls hl => ?_)
      refine lv_aload_n hx hb d_L_law_481 rfl (lv_at hl 3 rfl) ?_
      refine lv_aload_n hx hb d_L_law_482 rfl (lv_at hl 1 rfl) ?_
      refine lv_iload hx hb d_L_law_483 (lv_at hl 5 rfl) ?_
      refine rz_iconst hx hb d_L_law_485 ?_
      refine rz_iadd hx hb d_L_law_486 ?_
      refine rl_sld hx hb hX hbl hbA hS (k + 1) d_L_law_487 ?_
      refine rc_calli (va_runV (As := [.int (iz (sx xs (k + 1)))]) (rest := []) ⟨hx, hb, hml, hown, hts⟩ (m_M_place l D cJ cI g cd od fc hd md lo lv tb rw bm mn nu tu G (sx xs (k + 1)) o hod ho3 (by omega) (by omega)) (cwV 1 hts (kb_gi (kb_c kw_652 (kb_c kw_653 (kb_c kw_654 (kb_c kw_5 (kb_c kw_655 kb_all)))))) rfl rfl rfl (by decide +kernel) ⟨Nat.le_of_ble_eq_true rfl, Nat.le_of_ble_eq_true rfl⟩) ⟨rc_blind, va_recv hK hP (ci := 3) (q0 := 19) rfl rfl, rc_pre hP hD hK hN [19, 20] rfl rfl [0, 2] rfl⟩ rfl rfl hl.1 rfl (lv_room (Nat.le_of_ble_eq_true rfl)) d_L_law_488 ⟨hfc, hfs⟩) hP hD hS [19, 20] rfl (fun _ => rfl) (fun r3 u4 H locs hw4 hP hD hS => ?_)
      have h9 : u4 = 0 ∧ r3 = iz ((u8.2.1 ((sx xs (k + 1)).toNat)).val : Int) := by
        rcases hw4 with ⟨h6, -, -⟩ | ⟨h6, x, h1, h2, h3, h4, h5⟩ | ⟨h6, h7, -, -⟩
        · exact absurd (by rw [← lw_kd hI ho3]; exact hF) h6
        · refine ⟨h4, ?_⟩
          rw [h5, (lw_plc hI ho3 hw9 h1 h2 h3).2.2]
        · exact absurd h7 (lw_plj hI ho3 hw9 (by omega) (hck _ _ hw9))
      obtain ⟨rfl, rfl⟩ := h9
      have hP : va_P D vC (((([(ou, kl cJ 1 (vp_updL V 0 ((iz ((u8.2.1 ((sx xs (k + 1)).toNat)).val : Int)).toInt64))), (h, rO od fa ot ah te id rt bs kn), (fa, go cO 4 fr), (ot, go cO 4 er), (ah, ka cJ 13 a), (te, ka cJ 31 T), (id, ka cJ 5 J), (rt, rR fo (u8.1 : Int) wh pt rs sq on tw), (fo, ka cJ 4 u8.2.1), (wh, ka cJ 5 u8.2.2.1), (pt, ka cJ 5 u8.2.2.2.1), (rs, ka cJ 5 u8.2.2.2.2.1), (sq, ka cJ 8 u8.2.2.2.2.2.1), (on, ka cJ 5 u8.2.2.2.2.2.2.1), (tw, ka cJ 5 u8.2.2.2.2.2.2.2), (bs, rB ro le me bn), (ro, go cO 17 ra), (le, ki cI 13 Lx), (me, go cO 13 mb), (g, rM 0 od fc hd md lo lv tb rw bm mn nu tu), (fc, k2 cJ 20 5 G), (hd, ka cJ 13 a2), (md, ka cJ 17 P2), (lo, k2 cJ 20 5 E2), (tb, k2 cJ 221 13 M2), (rw, ki cI 13 L2), (bm, k2 cJ 169 13 B2), (nu, ka cJ 31 T2), (tu, k2 cJ 20 5 U2)] ++ gs 4 er cJ 5 E) ++ gs 4 fr cJ 5 F) ++ gs 13 mb cJ 13 Bm) ++ gs 17 ra cJ 13 M) H := hP
      have hD : va_D A (((([(ou, kl cJ 1 (vp_updL V 0 ((iz ((u8.2.1 ((sx xs (k + 1)).toNat)).val : Int)).toInt64))), (h, rO od fa ot ah te id rt bs kn), (fa, go cO 4 fr), (ot, go cO 4 er), (ah, ka cJ 13 a), (te, ka cJ 31 T), (id, ka cJ 5 J), (rt, rR fo (u8.1 : Int) wh pt rs sq on tw), (fo, ka cJ 4 u8.2.1), (wh, ka cJ 5 u8.2.2.1), (pt, ka cJ 5 u8.2.2.2.1), (rs, ka cJ 5 u8.2.2.2.2.1), (sq, ka cJ 8 u8.2.2.2.2.2.1), (on, ka cJ 5 u8.2.2.2.2.2.2.1), (tw, ka cJ 5 u8.2.2.2.2.2.2.2), (bs, rB ro le me bn), (ro, go cO 17 ra), (le, ki cI 13 Lx), (me, go cO 13 mb), (g, rM 0 od fc hd md lo lv tb rw bm mn nu tu), (fc, k2 cJ 20 5 G), (hd, ka cJ 13 a2), (md, ka cJ 17 P2), (lo, k2 cJ 20 5 E2), (tb, k2 cJ 221 13 M2), (rw, ki cI 13 L2), (bm, k2 cJ 169 13 B2), (nu, ka cJ 31 T2), (tu, k2 cJ 20 5 U2)] ++ gs 4 er cJ 5 E) ++ gs 4 fr cJ 5 F) ++ gs 13 mb cJ 13 Bm) ++ gs 17 ra cJ 13 M) := hD
      refine lv_istore (lv' := [(6, .int (iz ((u8.2.1 ((sx xs (k + 1)).toNat)).val : Int))), (5, .int (iz 0)), (0, .ref b), (1, .ref h), (2, .ref g), (3, .ref ou), (4, .int (iz z4))]) hx hb d_L_law_491 hl (by decide) rfl (fun ls hl => ?_)
      refine lv_aload_n hx hb d_L_law_493 rfl (lv_at hl 4 rfl) ?_
      refine rc_calli (va_runV (As := []) (rest := []) ⟨hx, hb, hml, hown, hts⟩ (m_M_thrown l D g 0 od fc hd md lo lv tb rw bm mn nu tu) (cwV 0 hts (kb_gi (kb_c kw_570 (kb_c kw_571 (kb_c kw_572 (kb_c kw_5 (kb_c kw_573 kb_all)))))) rfl rfl rfl (by decide +kernel) ⟨Nat.le_of_ble_eq_true rfl, Nat.le_of_ble_eq_true rfl⟩) ⟨rc_blind, va_recv hK hP (ci := 3) (q0 := 19) rfl rfl, rc_pre hP hD hK hN [19] rfl rfl [] rfl⟩ rfl rfl hl.1 rfl (lv_room (Nat.le_of_ble_eq_true rfl)) d_L_law_494 ⟨hfc, hfs⟩) hP hD hS [19] rfl (fun _ => rfl) (fun r5 u6 H locs hw6 hP hD hS => ?_)
      subst hw6
      have hP : va_P D vC (((([(ou, kl cJ 1 (vp_updL V 0 ((iz ((u8.2.1 ((sx xs (k + 1)).toNat)).val : Int)).toInt64))), (h, rO od fa ot ah te id rt bs kn), (fa, go cO 4 fr), (ot, go cO 4 er), (ah, ka cJ 13 a), (te, ka cJ 31 T), (id, ka cJ 5 J), (rt, rR fo (u8.1 : Int) wh pt rs sq on tw), (fo, ka cJ 4 u8.2.1), (wh, ka cJ 5 u8.2.2.1), (pt, ka cJ 5 u8.2.2.2.1), (rs, ka cJ 5 u8.2.2.2.2.1), (sq, ka cJ 8 u8.2.2.2.2.2.1), (on, ka cJ 5 u8.2.2.2.2.2.2.1), (tw, ka cJ 5 u8.2.2.2.2.2.2.2), (bs, rB ro le me bn), (ro, go cO 17 ra), (le, ki cI 13 Lx), (me, go cO 13 mb), (g, rM 0 od fc hd md lo lv tb rw bm mn nu tu), (fc, k2 cJ 20 5 G), (hd, ka cJ 13 a2), (md, ka cJ 17 P2), (lo, k2 cJ 20 5 E2), (tb, k2 cJ 221 13 M2), (rw, ki cI 13 L2), (bm, k2 cJ 169 13 B2), (nu, ka cJ 31 T2), (tu, k2 cJ 20 5 U2)] ++ gs 4 er cJ 5 E) ++ gs 4 fr cJ 5 F) ++ gs 13 mb cJ 13 Bm) ++ gs 17 ra cJ 13 M) H := hP
      have hD : va_D A (((([(ou, kl cJ 1 (vp_updL V 0 ((iz ((u8.2.1 ((sx xs (k + 1)).toNat)).val : Int)).toInt64))), (h, rO od fa ot ah te id rt bs kn), (fa, go cO 4 fr), (ot, go cO 4 er), (ah, ka cJ 13 a), (te, ka cJ 31 T), (id, ka cJ 5 J), (rt, rR fo (u8.1 : Int) wh pt rs sq on tw), (fo, ka cJ 4 u8.2.1), (wh, ka cJ 5 u8.2.2.1), (pt, ka cJ 5 u8.2.2.2.1), (rs, ka cJ 5 u8.2.2.2.2.1), (sq, ka cJ 8 u8.2.2.2.2.2.1), (on, ka cJ 5 u8.2.2.2.2.2.2.1), (tw, ka cJ 5 u8.2.2.2.2.2.2.2), (bs, rB ro le me bn), (ro, go cO 17 ra), (le, ki cI 13 Lx), (me, go cO 13 mb), (g, rM 0 od fc hd md lo lv tb rw bm mn nu tu), (fc, k2 cJ 20 5 G), (hd, ka cJ 13 a2), (md, ka cJ 17 P2), (lo, k2 cJ 20 5 E2), (tb, k2 cJ 221 13 M2), (rw, ki cI 13 L2), (bm, k2 cJ 169 13 B2), (nu, ka cJ 31 T2), (tu, k2 cJ 20 5 U2)] ++ gs 4 er cJ 5 E) ++ gs 4 fr cJ 5 F) ++ gs 13 mb cJ 13 Bm) ++ gs 17 ra cJ 13 M) := hD
      refine lv_iload hx hb d_L_law_497 (lv_at hl 1 rfl) ?_
      refine rl_icmp_eq (tgt := 504) hx hb d_L_law_499 (by decide) rfl ?_
      refine lv_iload hx hb d_L_law_504 (lv_at hl 1 rfl) ?_
      refine rz_if_ne (tgt := 521) hx hb d_L_law_506 (by decide) (fun hc => absurd rfl hc) (fun _ => ?_)
      refine lv_aload_n hx hb d_L_law_509 rfl (lv_at hl 5 rfl) ?_
      refine rz_iconst hx hb d_L_law_510 ?_
      refine rl_ld hx hb hK hP 0 0 rfl rfl 0 d_L_law_511 ?_
      rw [vp_self]
      refine lv_iload hx hb d_L_law_512 (lv_at hl 0 rfl) ?_
      refine lv_i2l hx hb d_L_law_514 rfl ?_
      refine rl_lcmp_eq (tgt := 521) hx hb d_L_law_515 d_L_law_516 (by decide) rfl ?_
      refine lv_goto (tgt := 1338) hx hb d_L_law_521 (by decide) ?_
      refine W.widen (k := kc + 1) (n := ks + 6) (by omega) (by omega) ?_
      exact hend (vp_updL V 0 ((iz ((u8.2.1 ((sx xs (k + 1)).toNat)).val : Int)).toInt64)) kn a T J (u8.1 : Int) u8.2.1 u8.2.2.1 u8.2.2.2.1 u8.2.2.2.2.1 u8.2.2.2.2.2.1 u8.2.2.2.2.2.2.1 u8.2.2.2.2.2.2.2 bn Lx E F Bm M 0 lv mn G a2 P2 E2 M2 L2 B2 T2 U2 H locs ls ⟨hI, hJ⟩ hP hD hS (lv_sub hl [2, 3, 4, 5, 6] rfl)
    · have hck : (sx xs (k + 1)) < 0 ∨ ∀ n Fo, rts (F o) n Fo → (n : Int) ≤ (sx xs (k + 1)) := by
        by_cases h0 : (sx xs (k + 1)) < 0
        · exact Or.inl h0
        · exact Or.inr (fun n Fo hr9 => by rw [lw_cnt hr9]; omega)
      refine lv_aload_n hx hb d_L_law_468 rfl (lv_at hl 1 rfl) ?_
      refine lv_aload_n hx hb d_L_law_469 rfl (lv_at hl 0 rfl) ?_
      refine lv_iload hx hb d_L_law_470 (lv_at hl 4 rfl) ?_
      refine rz_iconst hx hb d_L_law_472 ?_
      refine rz_iadd hx hb d_L_law_473 ?_
      refine rl_sld hx hb hX hbl hbA hS (k + 1) d_L_law_474 ?_
      refine lv_aload_n hx hb d_L_law_475 rfl (lv_at hl 3 rfl) ?_
      refine rsM_calli (vx_runSW (hh := [((0 : Nat), (9 : Nat), (12 : Nat), (27 : Nat)), ((0 : Nat), (9 : Nat), (15 : Nat), (13 : Nat))]) (As := [.ref h, .int (iz (sx xs (k + 1))), .ref ou]) (rest := []) ⟨hx, hb, hml, hown, hts⟩ (h_L_place_k_t l D hst sa cJ cO h fa ot ah te id rt bs od kn ou V fo wh pt rs sq on tw cn Fo Y P r S a1 b1 fr F (sx xs (k + 1)) o hod ho3 (by omega) (by omega) hF hck) (vx_cwSW 3 hts (kb_gi (kb_c kw_403 (kb_c kw_404 (kb_c kw_0 (kb_c kw_405 kb_all))))) rfl rfl rfl (by decide +kernel) ⟨Nat.le_of_ble_eq_true rfl, Nat.le_of_ble_eq_true rfl⟩) ⟨rx_blind, fun U h8 h9 => ⟨(rs_pre (rs_a2 hP) (rs_aD2 hD) hK hN [1, 2, 7, 8, 9, 10, 11, 12, 13, 14, 0] rfl rfl [0, 1] rfl) U h8 h9, hE.go hS (rs_in (rs_aD2 hD) (is := [1, 2, 7, 8, 9, 10, 11, 12, 13, 14, 0]) rfl) h8 h9⟩⟩ rfl rfl hl.1 rfl (lv_room (Nat.le_of_ble_eq_true rfl)) d_L_law_476 ⟨hfc1, hfs1⟩) (rs_a2 hP) (rs_aD2 hD) hS [1, 2, 7, 8, 9, 10, 11, 12, 13, 14, 0] rfl (fun _ => rfl) (fun _ => gs_adr _ _ _ _ _ _) (fun r7 u8 H locs hw8 hP hD hS => ?_)
      have hP := rs_b2 hP
      have hD := rs_bD2 hD
      obtain ⟨rfl, hw9⟩ := hw8
      obtain ⟨u8, rfl⟩ : ∃ z, z = u8 := ⟨_, rfl⟩
      have hP : va_P D vC (((([(ou, kl cJ 1 V), (h, rO od fa ot ah te id rt bs kn), (fa, go cO 4 fr), (ot, go cO 4 er), (ah, ka cJ 13 a), (te, ka cJ 31 T), (id, ka cJ 5 J), (rt, rR fo (u8.1 : Int) wh pt rs sq on tw), (fo, ka cJ 4 u8.2.1), (wh, ka cJ 5 u8.2.2.1), (pt, ka cJ 5 u8.2.2.2.1), (rs, ka cJ 5 u8.2.2.2.2.1), (sq, ka cJ 8 u8.2.2.2.2.2.1), (on, ka cJ 5 u8.2.2.2.2.2.2.1), (tw, ka cJ 5 u8.2.2.2.2.2.2.2), (bs, rB ro le me bn), (ro, go cO 17 ra), (le, ki cI 13 Lx), (me, go cO 13 mb), (g, rM cd od fc hd md lo lv tb rw bm mn nu tu), (fc, k2 cJ 20 5 G), (hd, ka cJ 13 a2), (md, ka cJ 17 P2), (lo, k2 cJ 20 5 E2), (tb, k2 cJ 221 13 M2), (rw, ki cI 13 L2), (bm, k2 cJ 169 13 B2), (nu, ka cJ 31 T2), (tu, k2 cJ 20 5 U2)] ++ gs 4 er cJ 5 E) ++ gs 4 fr cJ 5 F) ++ gs 13 mb cJ 13 Bm) ++ gs 17 ra cJ 13 M) H := hP
      have hD : va_D A (((([(ou, kl cJ 1 V), (h, rO od fa ot ah te id rt bs kn), (fa, go cO 4 fr), (ot, go cO 4 er), (ah, ka cJ 13 a), (te, ka cJ 31 T), (id, ka cJ 5 J), (rt, rR fo (u8.1 : Int) wh pt rs sq on tw), (fo, ka cJ 4 u8.2.1), (wh, ka cJ 5 u8.2.2.1), (pt, ka cJ 5 u8.2.2.2.1), (rs, ka cJ 5 u8.2.2.2.2.1), (sq, ka cJ 8 u8.2.2.2.2.2.1), (on, ka cJ 5 u8.2.2.2.2.2.2.1), (tw, ka cJ 5 u8.2.2.2.2.2.2.2), (bs, rB ro le me bn), (ro, go cO 17 ra), (le, ki cI 13 Lx), (me, go cO 13 mb), (g, rM cd od fc hd md lo lv tb rw bm mn nu tu), (fc, k2 cJ 20 5 G), (hd, ka cJ 13 a2), (md, ka cJ 17 P2), (lo, k2 cJ 20 5 E2), (tb, k2 cJ 221 13 M2), (rw, ki cI 13 L2), (bm, k2 cJ 169 13 B2), (nu, ka cJ 31 T2), (tu, k2 cJ 20 5 U2)] ++ gs 4 er cJ 5 E) ++ gs 4 fr cJ 5 F) ++ gs 13 mb cJ 13 Bm) ++ gs 17 ra cJ 13 M) := hD
      refine lv_istore (lv' := [(5, .int (iz 2)), (0, .ref b), (1, .ref h), (2, .ref g), (3, .ref ou), (4, .int (iz z4))]) hx hb d_L_law_479 hl (by decide) rfl (fun ls hl => ?_)
      refine lv_aload_n hx hb d_L_law_481 rfl (lv_at hl 3 rfl) ?_
      refine lv_aload_n hx hb d_L_law_482 rfl (lv_at hl 1 rfl) ?_
      refine lv_iload hx hb d_L_law_483 (lv_at hl 5 rfl) ?_
      refine rz_iconst hx hb d_L_law_485 ?_
      refine rz_iadd hx hb d_L_law_486 ?_
      refine rl_sld hx hb hX hbl hbA hS (k + 1) d_L_law_487 ?_
      refine rc_calli (va_runV (As := [.int (iz (sx xs (k + 1)))]) (rest := []) ⟨hx, hb, hml, hown, hts⟩ (m_M_place l D cJ cI g cd od fc hd md lo lv tb rw bm mn nu tu G (sx xs (k + 1)) o hod ho3 (by omega) (by omega)) (cwV 1 hts (kb_gi (kb_c kw_652 (kb_c kw_653 (kb_c kw_654 (kb_c kw_5 (kb_c kw_655 kb_all)))))) rfl rfl rfl (by decide +kernel) ⟨Nat.le_of_ble_eq_true rfl, Nat.le_of_ble_eq_true rfl⟩) ⟨rc_blind, va_recv hK hP (ci := 3) (q0 := 19) rfl rfl, rc_pre hP hD hK hN [19, 20] rfl rfl [0, 2] rfl⟩ rfl rfl hl.1 rfl (lv_room (Nat.le_of_ble_eq_true rfl)) d_L_law_488 ⟨hfc1, hfs1⟩) hP hD hS [19, 20] rfl (fun _ => rfl) (fun r9 u10 H locs hw10 hP hD hS => ?_)
      have h9 : u10 = 2 ∧ r9 = iz 0 := by
        rcases hw10 with ⟨h6, -, -⟩ | ⟨h6, x, h1, h2, h3, h4, h5⟩ | ⟨h6, -, h7, h8⟩
        · exact absurd (by rw [← lw_kd hI ho3]; exact hF) h6
        · have h7 := lw_plc hI ho3 hw9 h1 h2 h3
          have h8 := lw_cnt hw9
          exfalso; omega
        · exact ⟨h7, h8⟩
      obtain ⟨rfl, rfl⟩ := h9
      have hP : va_P D vC (((([(ou, kl cJ 1 V), (h, rO od fa ot ah te id rt bs kn), (fa, go cO 4 fr), (ot, go cO 4 er), (ah, ka cJ 13 a), (te, ka cJ 31 T), (id, ka cJ 5 J), (rt, rR fo (u8.1 : Int) wh pt rs sq on tw), (fo, ka cJ 4 u8.2.1), (wh, ka cJ 5 u8.2.2.1), (pt, ka cJ 5 u8.2.2.2.1), (rs, ka cJ 5 u8.2.2.2.2.1), (sq, ka cJ 8 u8.2.2.2.2.2.1), (on, ka cJ 5 u8.2.2.2.2.2.2.1), (tw, ka cJ 5 u8.2.2.2.2.2.2.2), (bs, rB ro le me bn), (ro, go cO 17 ra), (le, ki cI 13 Lx), (me, go cO 13 mb), (g, rM 2 od fc hd md lo lv tb rw bm mn nu tu), (fc, k2 cJ 20 5 G), (hd, ka cJ 13 a2), (md, ka cJ 17 P2), (lo, k2 cJ 20 5 E2), (tb, k2 cJ 221 13 M2), (rw, ki cI 13 L2), (bm, k2 cJ 169 13 B2), (nu, ka cJ 31 T2), (tu, k2 cJ 20 5 U2)] ++ gs 4 er cJ 5 E) ++ gs 4 fr cJ 5 F) ++ gs 13 mb cJ 13 Bm) ++ gs 17 ra cJ 13 M) H := hP
      have hD : va_D A (((([(ou, kl cJ 1 V), (h, rO od fa ot ah te id rt bs kn), (fa, go cO 4 fr), (ot, go cO 4 er), (ah, ka cJ 13 a), (te, ka cJ 31 T), (id, ka cJ 5 J), (rt, rR fo (u8.1 : Int) wh pt rs sq on tw), (fo, ka cJ 4 u8.2.1), (wh, ka cJ 5 u8.2.2.1), (pt, ka cJ 5 u8.2.2.2.1), (rs, ka cJ 5 u8.2.2.2.2.1), (sq, ka cJ 8 u8.2.2.2.2.2.1), (on, ka cJ 5 u8.2.2.2.2.2.2.1), (tw, ka cJ 5 u8.2.2.2.2.2.2.2), (bs, rB ro le me bn), (ro, go cO 17 ra), (le, ki cI 13 Lx), (me, go cO 13 mb), (g, rM 2 od fc hd md lo lv tb rw bm mn nu tu), (fc, k2 cJ 20 5 G), (hd, ka cJ 13 a2), (md, ka cJ 17 P2), (lo, k2 cJ 20 5 E2), (tb, k2 cJ 221 13 M2), (rw, ki cI 13 L2), (bm, k2 cJ 169 13 B2), (nu, ka cJ 31 T2), (tu, k2 cJ 20 5 U2)] ++ gs 4 er cJ 5 E) ++ gs 4 fr cJ 5 F) ++ gs 13 mb cJ 13 Bm) ++ gs 17 ra cJ 13 M) := hD
      refine lv_istore (lv' := [(6, .int (iz 0)), (5, .int (iz 2)), (0, .ref b), (1, .ref h), (2, .ref g), (3, .ref ou), (4, .int (iz z4))]) hx hb d_L_law_491 hl (by decide) rfl (fun ls hl => ?_)
      refine lv_aload_n hx hb d_L_law_493 rfl (lv_at hl 4 rfl) ?_
      refine rc_calli (va_runV (As := []) (rest := []) ⟨hx, hb, hml, hown, hts⟩ (m_M_thrown l D g 2 od fc hd md lo lv tb rw bm mn nu tu) (cwV 0 hts (kb_gi (kb_c kw_570 (kb_c kw_571 (kb_c kw_572 (kb_c kw_5 (kb_c kw_573 kb_all)))))) rfl rfl rfl (by decide +kernel) ⟨Nat.le_of_ble_eq_true rfl, Nat.le_of_ble_eq_true rfl⟩) ⟨rc_blind, va_recv hK hP (ci := 3) (q0 := 19) rfl rfl, rc_pre hP hD hK hN [19] rfl rfl [] rfl⟩ rfl rfl hl.1 rfl (lv_room (Nat.le_of_ble_eq_true rfl)) d_L_law_494 ⟨hfc1, hfs1⟩) hP hD hS [19] rfl (fun _ => rfl) (fun r11 u12 H locs hw12 hP hD hS => ?_)
      subst hw12
      have hP : va_P D vC (((([(ou, kl cJ 1 V), (h, rO od fa ot ah te id rt bs kn), (fa, go cO 4 fr), (ot, go cO 4 er), (ah, ka cJ 13 a), (te, ka cJ 31 T), (id, ka cJ 5 J), (rt, rR fo (u8.1 : Int) wh pt rs sq on tw), (fo, ka cJ 4 u8.2.1), (wh, ka cJ 5 u8.2.2.1), (pt, ka cJ 5 u8.2.2.2.1), (rs, ka cJ 5 u8.2.2.2.2.1), (sq, ka cJ 8 u8.2.2.2.2.2.1), (on, ka cJ 5 u8.2.2.2.2.2.2.1), (tw, ka cJ 5 u8.2.2.2.2.2.2.2), (bs, rB ro le me bn), (ro, go cO 17 ra), (le, ki cI 13 Lx), (me, go cO 13 mb), (g, rM 2 od fc hd md lo lv tb rw bm mn nu tu), (fc, k2 cJ 20 5 G), (hd, ka cJ 13 a2), (md, ka cJ 17 P2), (lo, k2 cJ 20 5 E2), (tb, k2 cJ 221 13 M2), (rw, ki cI 13 L2), (bm, k2 cJ 169 13 B2), (nu, ka cJ 31 T2), (tu, k2 cJ 20 5 U2)] ++ gs 4 er cJ 5 E) ++ gs 4 fr cJ 5 F) ++ gs 13 mb cJ 13 Bm) ++ gs 17 ra cJ 13 M) H := hP
      have hD : va_D A (((([(ou, kl cJ 1 V), (h, rO od fa ot ah te id rt bs kn), (fa, go cO 4 fr), (ot, go cO 4 er), (ah, ka cJ 13 a), (te, ka cJ 31 T), (id, ka cJ 5 J), (rt, rR fo (u8.1 : Int) wh pt rs sq on tw), (fo, ka cJ 4 u8.2.1), (wh, ka cJ 5 u8.2.2.1), (pt, ka cJ 5 u8.2.2.2.1), (rs, ka cJ 5 u8.2.2.2.2.1), (sq, ka cJ 8 u8.2.2.2.2.2.1), (on, ka cJ 5 u8.2.2.2.2.2.2.1), (tw, ka cJ 5 u8.2.2.2.2.2.2.2), (bs, rB ro le me bn), (ro, go cO 17 ra), (le, ki cI 13 Lx), (me, go cO 13 mb), (g, rM 2 od fc hd md lo lv tb rw bm mn nu tu), (fc, k2 cJ 20 5 G), (hd, ka cJ 13 a2), (md, ka cJ 17 P2), (lo, k2 cJ 20 5 E2), (tb, k2 cJ 221 13 M2), (rw, ki cI 13 L2), (bm, k2 cJ 169 13 B2), (nu, ka cJ 31 T2), (tu, k2 cJ 20 5 U2)] ++ gs 4 er cJ 5 E) ++ gs 4 fr cJ 5 F) ++ gs 13 mb cJ 13 Bm) ++ gs 17 ra cJ 13 M) := hD
      refine lv_iload hx hb d_L_law_497 (lv_at hl 1 rfl) ?_
      refine rl_icmp_eq (tgt := 504) hx hb d_L_law_499 (by decide) rfl ?_
      refine lv_iload hx hb d_L_law_504 (lv_at hl 1 rfl) ?_
      refine rz_if_ne (tgt := 521) hx hb d_L_law_506 (by decide) (fun _ => ?_) (fun hc => absurd hc (by decide))
      refine lv_goto (tgt := 1338) hx hb d_L_law_521 (by decide) ?_
      refine W.widen (k := kc + 1) (n := ks + 6) (by omega) (by omega) ?_
      exact hend V kn a T J (u8.1 : Int) u8.2.1 u8.2.2.1 u8.2.2.2.1 u8.2.2.2.2.1 u8.2.2.2.2.2.1 u8.2.2.2.2.2.2.1 u8.2.2.2.2.2.2.2 bn Lx E F Bm M 2 lv mn G a2 P2 E2 M2 L2 B2 T2 U2 H locs ls ⟨hI, hJ⟩ hP hD hS (lv_sub hl [2, 3, 4, 5, 6] rfl)
  · refine lv_aload_n hx hb d_L_law_468 rfl (lv_at hl 1 rfl) ?_
    refine lv_aload_n hx hb d_L_law_469 rfl (lv_at hl 0 rfl) ?_
    refine lv_iload hx hb d_L_law_470 (lv_at hl 4 rfl) ?_
    refine rz_iconst hx hb d_L_law_472 ?_
    refine rz_iadd hx hb d_L_law_473 ?_
    refine rl_sld hx hb hX hbl hbA hS (k + 1) d_L_law_474 ?_
    refine lv_aload_n hx hb d_L_law_475 rfl (lv_at hl 3 rfl) ?_
    refine rsM_calli (vx_runSW (hh := [((0 : Nat), (9 : Nat), (12 : Nat), (27 : Nat)), ((0 : Nat), (9 : Nat), (15 : Nat), (13 : Nat))]) (As := [.ref h, .int (iz (sx xs (k + 1))), .ref ou]) (rest := []) ⟨hx, hb, hml, hown, hts⟩ (h_L_place_t l D hst sa cJ cO h fa ot ah te id rt bs od kn ou V fo wh pt rs sq on tw cn Fo Y P r S a1 b1 fr F (sx xs (k + 1)) o hod ho3 (by omega) (by omega) (by omega)) (vx_cwSW 3 hts (kb_gi (kb_c kw_403 (kb_c kw_404 (kb_c kw_0 (kb_c kw_405 kb_all))))) rfl rfl rfl (by decide +kernel) ⟨Nat.le_of_ble_eq_true rfl, Nat.le_of_ble_eq_true rfl⟩) ⟨rx_blind, fun U h8 h9 => ⟨(rs_pre (rs_a2 hP) (rs_aD2 hD) hK hN [1, 2, 7, 8, 9, 10, 11, 12, 13, 14, 0] rfl rfl [0, 1] rfl) U h8 h9, hE.go hS (rs_in (rs_aD2 hD) (is := [1, 2, 7, 8, 9, 10, 11, 12, 13, 14, 0]) rfl) h8 h9⟩⟩ rfl rfl hl.1 rfl (lv_room (Nat.le_of_ble_eq_true rfl)) d_L_law_476 ⟨hfc1, hfs1⟩) (rs_a2 hP) (rs_aD2 hD) hS [1, 2, 7, 8, 9, 10, 11, 12, 13, 14, 0] rfl (fun _ => rfl) (fun _ => gs_adr _ _ _ _ _ _) (fun r13 u14 H locs hw14 hP hD hS => ?_)
    have hP := rs_b2 hP
    have hD := rs_bD2 hD
    subst hw14
    have hP : va_P D vC (((([(ou, kl cJ 1 V), (h, rO od fa ot ah te id rt bs kn), (fa, go cO 4 fr), (ot, go cO 4 er), (ah, ka cJ 13 a), (te, ka cJ 31 T), (id, ka cJ 5 J), (rt, rR fo cn wh pt rs sq on tw), (fo, ka cJ 4 Fo), (wh, ka cJ 5 Y), (pt, ka cJ 5 P), (rs, ka cJ 5 r), (sq, ka cJ 8 S), (on, ka cJ 5 a1), (tw, ka cJ 5 b1), (bs, rB ro le me bn), (ro, go cO 17 ra), (le, ki cI 13 Lx), (me, go cO 13 mb), (g, rM cd od fc hd md lo lv tb rw bm mn nu tu), (fc, k2 cJ 20 5 G), (hd, ka cJ 13 a2), (md, ka cJ 17 P2), (lo, k2 cJ 20 5 E2), (tb, k2 cJ 221 13 M2), (rw, ki cI 13 L2), (bm, k2 cJ 169 13 B2), (nu, ka cJ 31 T2), (tu, k2 cJ 20 5 U2)] ++ gs 4 er cJ 5 E) ++ gs 4 fr cJ 5 F) ++ gs 13 mb cJ 13 Bm) ++ gs 17 ra cJ 13 M) H := hP
    have hD : va_D A (((([(ou, kl cJ 1 V), (h, rO od fa ot ah te id rt bs kn), (fa, go cO 4 fr), (ot, go cO 4 er), (ah, ka cJ 13 a), (te, ka cJ 31 T), (id, ka cJ 5 J), (rt, rR fo cn wh pt rs sq on tw), (fo, ka cJ 4 Fo), (wh, ka cJ 5 Y), (pt, ka cJ 5 P), (rs, ka cJ 5 r), (sq, ka cJ 8 S), (on, ka cJ 5 a1), (tw, ka cJ 5 b1), (bs, rB ro le me bn), (ro, go cO 17 ra), (le, ki cI 13 Lx), (me, go cO 13 mb), (g, rM cd od fc hd md lo lv tb rw bm mn nu tu), (fc, k2 cJ 20 5 G), (hd, ka cJ 13 a2), (md, ka cJ 17 P2), (lo, k2 cJ 20 5 E2), (tb, k2 cJ 221 13 M2), (rw, ki cI 13 L2), (bm, k2 cJ 169 13 B2), (nu, ka cJ 31 T2), (tu, k2 cJ 20 5 U2)] ++ gs 4 er cJ 5 E) ++ gs 4 fr cJ 5 F) ++ gs 13 mb cJ 13 Bm) ++ gs 17 ra cJ 13 M) := hD
    refine lv_istore (lv' := [(5, .int (iz 1)), (0, .ref b), (1, .ref h), (2, .ref g), (3, .ref ou), (4, .int (iz z4))]) hx hb d_L_law_479 hl (by decide) rfl (fun ls hl => ?_)
    refine lv_aload_n hx hb d_L_law_481 rfl (lv_at hl 3 rfl) ?_
    refine lv_aload_n hx hb d_L_law_482 rfl (lv_at hl 1 rfl) ?_
    refine lv_iload hx hb d_L_law_483 (lv_at hl 5 rfl) ?_
    refine rz_iconst hx hb d_L_law_485 ?_
    refine rz_iadd hx hb d_L_law_486 ?_
    refine rl_sld hx hb hX hbl hbA hS (k + 1) d_L_law_487 ?_
    refine rc_calli (va_runV (As := [.int (iz (sx xs (k + 1)))]) (rest := []) ⟨hx, hb, hml, hown, hts⟩ (m_M_place l D cJ cI g cd od fc hd md lo lv tb rw bm mn nu tu G (sx xs (k + 1)) o hod ho3 (by omega) (by omega)) (cwV 1 hts (kb_gi (kb_c kw_652 (kb_c kw_653 (kb_c kw_654 (kb_c kw_5 (kb_c kw_655 kb_all)))))) rfl rfl rfl (by decide +kernel) ⟨Nat.le_of_ble_eq_true rfl, Nat.le_of_ble_eq_true rfl⟩) ⟨rc_blind, va_recv hK hP (ci := 3) (q0 := 19) rfl rfl, rc_pre hP hD hK hN [19, 20] rfl rfl [0, 2] rfl⟩ rfl rfl hl.1 rfl (lv_room (Nat.le_of_ble_eq_true rfl)) d_L_law_488 ⟨hfc1, hfs1⟩) hP hD hS [19, 20] rfl (fun _ => rfl) (fun r15 u16 H locs hw16 hP hD hS => ?_)
    have h9 : u16 = 1 ∧ r15 = iz 0 := by
      rcases hw16 with ⟨-, h7, h8⟩ | ⟨h6, -⟩ | ⟨h6, -⟩
      · exact ⟨h7, h8⟩
      · exact absurd h6 (by rw [← lw_kd hI ho3]; exact hF)
      · exact absurd h6 (by rw [← lw_kd hI ho3]; exact hF)
    obtain ⟨rfl, rfl⟩ := h9
    have hP : va_P D vC (((([(ou, kl cJ 1 V), (h, rO od fa ot ah te id rt bs kn), (fa, go cO 4 fr), (ot, go cO 4 er), (ah, ka cJ 13 a), (te, ka cJ 31 T), (id, ka cJ 5 J), (rt, rR fo cn wh pt rs sq on tw), (fo, ka cJ 4 Fo), (wh, ka cJ 5 Y), (pt, ka cJ 5 P), (rs, ka cJ 5 r), (sq, ka cJ 8 S), (on, ka cJ 5 a1), (tw, ka cJ 5 b1), (bs, rB ro le me bn), (ro, go cO 17 ra), (le, ki cI 13 Lx), (me, go cO 13 mb), (g, rM 1 od fc hd md lo lv tb rw bm mn nu tu), (fc, k2 cJ 20 5 G), (hd, ka cJ 13 a2), (md, ka cJ 17 P2), (lo, k2 cJ 20 5 E2), (tb, k2 cJ 221 13 M2), (rw, ki cI 13 L2), (bm, k2 cJ 169 13 B2), (nu, ka cJ 31 T2), (tu, k2 cJ 20 5 U2)] ++ gs 4 er cJ 5 E) ++ gs 4 fr cJ 5 F) ++ gs 13 mb cJ 13 Bm) ++ gs 17 ra cJ 13 M) H := hP
    have hD : va_D A (((([(ou, kl cJ 1 V), (h, rO od fa ot ah te id rt bs kn), (fa, go cO 4 fr), (ot, go cO 4 er), (ah, ka cJ 13 a), (te, ka cJ 31 T), (id, ka cJ 5 J), (rt, rR fo cn wh pt rs sq on tw), (fo, ka cJ 4 Fo), (wh, ka cJ 5 Y), (pt, ka cJ 5 P), (rs, ka cJ 5 r), (sq, ka cJ 8 S), (on, ka cJ 5 a1), (tw, ka cJ 5 b1), (bs, rB ro le me bn), (ro, go cO 17 ra), (le, ki cI 13 Lx), (me, go cO 13 mb), (g, rM 1 od fc hd md lo lv tb rw bm mn nu tu), (fc, k2 cJ 20 5 G), (hd, ka cJ 13 a2), (md, ka cJ 17 P2), (lo, k2 cJ 20 5 E2), (tb, k2 cJ 221 13 M2), (rw, ki cI 13 L2), (bm, k2 cJ 169 13 B2), (nu, ka cJ 31 T2), (tu, k2 cJ 20 5 U2)] ++ gs 4 er cJ 5 E) ++ gs 4 fr cJ 5 F) ++ gs 13 mb cJ 13 Bm) ++ gs 17 ra cJ 13 M) := hD
    refine lv_istore (lv' := [(6, .int (iz 0)), (5, .int (iz 1)), (0, .ref b), (1, .ref h), (2, .ref g), (3, .ref ou), (4, .int (iz z4))]) hx hb d_L_law_491 hl (by decide) rfl (fun ls hl => ?_)
    refine lv_aload_n hx hb d_L_law_493 rfl (lv_at hl 4 rfl) ?_
    refine rc_calli (va_runV (As := []) (rest := []) ⟨hx, hb, hml, hown, hts⟩ (m_M_thrown l D g 1 od fc hd md lo lv tb rw bm mn nu tu) (cwV 0 hts (kb_gi (kb_c kw_570 (kb_c kw_571 (kb_c kw_572 (kb_c kw_5 (kb_c kw_573 kb_all)))))) rfl rfl rfl (by decide +kernel) ⟨Nat.le_of_ble_eq_true rfl, Nat.le_of_ble_eq_true rfl⟩) ⟨rc_blind, va_recv hK hP (ci := 3) (q0 := 19) rfl rfl, rc_pre hP hD hK hN [19] rfl rfl [] rfl⟩ rfl rfl hl.1 rfl (lv_room (Nat.le_of_ble_eq_true rfl)) d_L_law_494 ⟨hfc1, hfs1⟩) hP hD hS [19] rfl (fun _ => rfl) (fun r17 u18 H locs hw18 hP hD hS => ?_)
    subst hw18
    have hP : va_P D vC (((([(ou, kl cJ 1 V), (h, rO od fa ot ah te id rt bs kn), (fa, go cO 4 fr), (ot, go cO 4 er), (ah, ka cJ 13 a), (te, ka cJ 31 T), (id, ka cJ 5 J), (rt, rR fo cn wh pt rs sq on tw), (fo, ka cJ 4 Fo), (wh, ka cJ 5 Y), (pt, ka cJ 5 P), (rs, ka cJ 5 r), (sq, ka cJ 8 S), (on, ka cJ 5 a1), (tw, ka cJ 5 b1), (bs, rB ro le me bn), (ro, go cO 17 ra), (le, ki cI 13 Lx), (me, go cO 13 mb), (g, rM 1 od fc hd md lo lv tb rw bm mn nu tu), (fc, k2 cJ 20 5 G), (hd, ka cJ 13 a2), (md, ka cJ 17 P2), (lo, k2 cJ 20 5 E2), (tb, k2 cJ 221 13 M2), (rw, ki cI 13 L2), (bm, k2 cJ 169 13 B2), (nu, ka cJ 31 T2), (tu, k2 cJ 20 5 U2)] ++ gs 4 er cJ 5 E) ++ gs 4 fr cJ 5 F) ++ gs 13 mb cJ 13 Bm) ++ gs 17 ra cJ 13 M) H := hP
    have hD : va_D A (((([(ou, kl cJ 1 V), (h, rO od fa ot ah te id rt bs kn), (fa, go cO 4 fr), (ot, go cO 4 er), (ah, ka cJ 13 a), (te, ka cJ 31 T), (id, ka cJ 5 J), (rt, rR fo cn wh pt rs sq on tw), (fo, ka cJ 4 Fo), (wh, ka cJ 5 Y), (pt, ka cJ 5 P), (rs, ka cJ 5 r), (sq, ka cJ 8 S), (on, ka cJ 5 a1), (tw, ka cJ 5 b1), (bs, rB ro le me bn), (ro, go cO 17 ra), (le, ki cI 13 Lx), (me, go cO 13 mb), (g, rM 1 od fc hd md lo lv tb rw bm mn nu tu), (fc, k2 cJ 20 5 G), (hd, ka cJ 13 a2), (md, ka cJ 17 P2), (lo, k2 cJ 20 5 E2), (tb, k2 cJ 221 13 M2), (rw, ki cI 13 L2), (bm, k2 cJ 169 13 B2), (nu, ka cJ 31 T2), (tu, k2 cJ 20 5 U2)] ++ gs 4 er cJ 5 E) ++ gs 4 fr cJ 5 F) ++ gs 13 mb cJ 13 Bm) ++ gs 17 ra cJ 13 M) := hD
    refine lv_iload hx hb d_L_law_497 (lv_at hl 1 rfl) ?_
    refine rl_icmp_eq (tgt := 504) hx hb d_L_law_499 (by decide) rfl ?_
    refine lv_iload hx hb d_L_law_504 (lv_at hl 1 rfl) ?_
    refine rz_if_ne (tgt := 521) hx hb d_L_law_506 (by decide) (fun _ => ?_) (fun hc => absurd hc (by decide))
    refine lv_goto (tgt := 1338) hx hb d_L_law_521 (by decide) ?_
    refine W.widen (k := kc + 1) (n := ks + 6) (by omega) (by omega) ?_
    exact hend V kn a T J cn Fo Y P r S a1 b1 bn Lx E F Bm M 1 lv mn G a2 P2 E2 M2 L2 B2 T2 U2 H locs ls ⟨hI, hJ⟩ hP hD hS (lv_sub hl [2, 3, 4, 5, 6] rfl)
set_option maxHeartbeats 4000000 in
set_option maxRecDepth 100000 in
theorem lc_6 {cJ cO cI : ClassId} {ou h fa ot ah te id rt bs : Nat} {od : Int} {fo wh pt rs sq on tw : Nat} {ro le me : Nat} {fr er mb ra : Nat → Nat} {g : Nat} {fc hd md lo tb rw bm nu tu : Nat} {o : Nat} {sa : Nat → Nat} {ct b L : Nat} {xs : Nat → Int32} {V : Nat → Int64} {kn : Int} {a : Nat → ro_K} {T : Nat → ro_K} {J : Nat → ro_K} {cn : Int} {Fo : Nat → ro_K} {Y : Nat → ro_K} {P : Nat → ro_K} {r : Nat → ro_K} {S : Nat → ro_K} {a1 : Nat → ro_K} {b1 : Nat → ro_K} {bn : Int} {Lx : Nat → Int} {E : Nat → Nat → ro_K} {F : Nat → Nat → ro_K} {Bm : Nat → Nat → ro_K} {M : Nat → Nat → ro_K} {cd : Int} {lv : Int} {mn : Int} {G : Nat → Nat → ro_K} {a2 : Nat → ro_K} {P2 : Nat → ro_K} {E2 : Nat → Nat → ro_K} {M2 : Nat → Nat → ro_K} {L2 : Nat → Int} {B2 : Nat → Nat → ro_K} {T2 : Nat → ro_K} {U2 : Nat → Nat → ro_K} {z4 : Int} {k kc ks : Nat} {H : Heap} {locs : List Loc} {ls : Array Slot} (hx : p.tables.exec = Jvm.exec) (hb : c.code = c_L_law) (hml : c.maxLocals = 7) (hown : s.vm.findClass R_L = some m.cls) (hts : ∀ w ∈ kb, w.before args s = true) (hK : va_K D vC [(cJ, .long), (cO, .array .long), (cI, .int)] s) (hN : rc_N s) (hst : l.stackTraces = false) (hE : rx_E sa A s s.heap) (hC : rz_C ct A s s.heap) (hX : va_X b L xs s s.heap) (hbl : b < s.heap.size) (hbA : ¬ A b) (hL : L ≤ 5121) (hod : od = (o : Int)) (ho1 : 1 ≤ o) (ho3 : o ≤ 3) (hz4 : z4 = (k : Int)) (hk9 : k + 9 < L) (hkc : kc + 1 ≤ 601024) (hks : ks + 6 ≤ 7293000) (hI : (lw_I o F E a kn M Lx Bm bn G a2 ∧ J 4 = 0)) (hend : ∀ (V : Nat → Int64) (kn : Int) (a : Nat → ro_K) (T : Nat → ro_K) (J : Nat → ro_K) (cn : Int) (Fo : Nat → ro_K) (Y : Nat → ro_K) (P : Nat → ro_K) (r : Nat → ro_K) (S : Nat → ro_K) (a1 : Nat → ro_K) (b1 : Nat → ro_K) (bn : Int) (Lx : Nat → Int) (E : Nat → Nat → ro_K) (F : Nat → Nat → ro_K) (Bm : Nat → Nat → ro_K) (M : Nat → Nat → ro_K) (cd : Int) (lv : Int) (mn : Int) (G : Nat → Nat → ro_K) (a2 : Nat → ro_K) (P2 : Nat → ro_K) (E2 : Nat → Nat → ro_K) (M2 : Nat → Nat → ro_K) (L2 : Nat → Int) (B2 : Nat → Nat → ro_K) (T2 : Nat → ro_K) (U2 : Nat → Nat → ro_K) (H : Heap) (locs : List Loc) (ls : Array Slot), (lw_I o F E a kn M Lx Bm bn G a2 ∧ J 4 = 0) → va_P D vC (((([(ou, kl cJ 1 V), (h, rO od fa ot ah te id rt bs kn), (fa, go cO 4 fr), (ot, go cO 4 er), (ah, ka cJ 13 a), (te, ka cJ 31 T), (id, ka cJ 5 J), (rt, rR fo cn wh pt rs sq on tw), (fo, ka cJ 4 Fo), (wh, ka cJ 5 Y), (pt, ka cJ 5 P), (rs, ka cJ 5 r), (sq, ka cJ 8 S), (on, ka cJ 5 a1), (tw, ka cJ 5 b1), (bs, rB ro le me bn), (ro, go cO 17 ra), (le, ki cI 13 Lx), (me, go cO 13 mb), (g, rM cd od fc hd md lo lv tb rw bm mn nu tu), (fc, k2 cJ 20 5 G), (hd, ka cJ 13 a2), (md, ka cJ 17 P2), (lo, k2 cJ 20 5 E2), (tb, k2 cJ 221 13 M2), (rw, ki cI 13 L2), (bm, k2 cJ 169 13 B2), (nu, ka cJ 31 T2), (tu, k2 cJ 20 5 U2)] ++ gs 4 er cJ 5 E) ++ gs 4 fr cJ 5 F) ++ gs 13 mb cJ 13 Bm) ++ gs 17 ra cJ 13 M) H → va_D A (((([(ou, kl cJ 1 V), (h, rO od fa ot ah te id rt bs kn), (fa, go cO 4 fr), (ot, go cO 4 er), (ah, ka cJ 13 a), (te, ka cJ 31 T), (id, ka cJ 5 J), (rt, rR fo cn wh pt rs sq on tw), (fo, ka cJ 4 Fo), (wh, ka cJ 5 Y), (pt, ka cJ 5 P), (rs, ka cJ 5 r), (sq, ka cJ 8 S), (on, ka cJ 5 a1), (tw, ka cJ 5 b1), (bs, rB ro le me bn), (ro, go cO 17 ra), (le, ki cI 13 Lx), (me, go cO 13 mb), (g, rM cd od fc hd md lo lv tb rw bm mn nu tu), (fc, k2 cJ 20 5 G), (hd, ka cJ 13 a2), (md, ka cJ 17 P2), (lo, k2 cJ 20 5 E2), (tb, k2 cJ 221 13 M2), (rw, ki cI 13 L2), (bm, k2 cJ 169 13 B2), (nu, ka cJ 31 T2), (tu, k2 cJ 20 5 U2)] ++ gs 4 er cJ 5 E) ++ gs 4 fr cJ 5 F) ++ gs 13 mb cJ 13 Bm) ++ gs 17 ra cJ 13 M) → va_S A s.heap H locs → lv_has ls 7 [(0, .ref b), (1, .ref h), (2, .ref g), (3, .ref ou), (4, .int (iz z4))] → W p l e room_1 s m args below meth c H locs (kc + 1) (ks + 6) Q (F0 m 1338 ls [])) (hP : va_P D vC (((([(ou, kl cJ 1 V), (h, rO od fa ot ah te id rt bs kn), (fa, go cO 4 fr), (ot, go cO 4 er), (ah, ka cJ 13 a), (te, ka cJ 31 T), (id, ka cJ 5 J), (rt, rR fo cn wh pt rs sq on tw), (fo, ka cJ 4 Fo), (wh, ka cJ 5 Y), (pt, ka cJ 5 P), (rs, ka cJ 5 r), (sq, ka cJ 8 S), (on, ka cJ 5 a1), (tw, ka cJ 5 b1), (bs, rB ro le me bn), (ro, go cO 17 ra), (le, ki cI 13 Lx), (me, go cO 13 mb), (g, rM cd od fc hd md lo lv tb rw bm mn nu tu), (fc, k2 cJ 20 5 G), (hd, ka cJ 13 a2), (md, ka cJ 17 P2), (lo, k2 cJ 20 5 E2), (tb, k2 cJ 221 13 M2), (rw, ki cI 13 L2), (bm, k2 cJ 169 13 B2), (nu, ka cJ 31 T2), (tu, k2 cJ 20 5 U2)] ++ gs 4 er cJ 5 E) ++ gs 4 fr cJ 5 F) ++ gs 13 mb cJ 13 Bm) ++ gs 17 ra cJ 13 M) H) (hD : va_D A (((([(ou, kl cJ 1 V), (h, rO od fa ot ah te id rt bs kn), (fa, go cO 4 fr), (ot, go cO 4 er), (ah, ka cJ 13 a), (te, ka cJ 31 T), (id, ka cJ 5 J), (rt, rR fo cn wh pt rs sq on tw), (fo, ka cJ 4 Fo), (wh, ka cJ 5 Y), (pt, ka cJ 5 P), (rs, ka cJ 5 r), (sq, ka cJ 8 S), (on, ka cJ 5 a1), (tw, ka cJ 5 b1), (bs, rB ro le me bn), (ro, go cO 17 ra), (le, ki cI 13 Lx), (me, go cO 13 mb), (g, rM cd od fc hd md lo lv tb rw bm mn nu tu), (fc, k2 cJ 20 5 G), (hd, ka cJ 13 a2), (md, ka cJ 17 P2), (lo, k2 cJ 20 5 E2), (tb, k2 cJ 221 13 M2), (rw, ki cI 13 L2), (bm, k2 cJ 169 13 B2), (nu, ka cJ 31 T2), (tu, k2 cJ 20 5 U2)] ++ gs 4 er cJ 5 E) ++ gs 4 fr cJ 5 F) ++ gs 13 mb cJ 13 Bm) ++ gs 17 ra cJ 13 M)) (hS : va_S A s.heap H locs) (hl : lv_has ls 7 [(0, .ref b), (1, .ref h), (2, .ref g), (3, .ref ou), (4, .int (iz z4))]) : W p l e room_1 s m args below meth c H locs kc ks Q (F0 m 524 ls []) := by
  obtain ⟨hI, hJ⟩ := hI
  have hs1 := sx_in xs (k + 1)
  have hs2 := sx_in xs (k + 2)
  have hs3 := sx_in xs (k + 3)
  have hfc : kc + 0 ≤ room_1.cells := by show kc + 0 ≤ 601024; omega
  have hfs : ks + 0 ≤ room_1.slots := by show ks + 0 ≤ 7293000; omega
  have hfc1 : kc + 1 ≤ room_1.cells := hkc
  have hfs1 : ks + 6 ≤ room_1.slots := hks
  have hze := b01 (sx xs (k + 1))
  by_cases hz : ¬ azB F (o + 1) = true
  · have haz : azB F (o + 1) = false := by
      cases h9 : azB F (o + 1)
      · rfl
      · exact absurd h9 hz
    refine lv_aload_n hx hb d_L_law_524 rfl (lv_at hl 1 rfl) ?_
    refine lv_aload_n hx hb d_L_law_525 rfl (lv_at hl 0 rfl) ?_
    refine lv_iload hx hb d_L_law_526 (lv_at hl 4 rfl) ?_
    refine rz_iconst hx hb d_L_law_528 ?_
    refine rz_iadd hx hb d_L_law_529 ?_
    refine rl_sld hx hb hX hbl hbA hS (k + 1) d_L_law_530 ?_
    refine rb_bool (t1 := 538) (t2 := 539) hx hb d_L_law_531 (by decide) d_L_law_534 d_L_law_535 (by decide) d_L_law_538 rfl (by omega) ?_
    refine lv_aload_n hx hb d_L_law_539 rfl (lv_at hl 0 rfl) ?_
    refine lv_iload hx hb d_L_law_540 (lv_at hl 4 rfl) ?_
    refine rz_iconst hx hb d_L_law_542 ?_
    refine rz_iadd hx hb d_L_law_543 ?_
    refine rl_sld hx hb hX hbl hbA hS (k + 2) d_L_law_544 ?_
    refine lv_i2l hx hb d_L_law_545 rfl ?_
    refine rz_bipush hx hb d_L_law_546 (by decide) ?_
    refine lv_lshl hx hb d_L_law_548 rfl ?_
    refine lv_aload_n hx hb d_L_law_549 rfl (lv_at hl 0 rfl) ?_
    refine lv_iload hx hb d_L_law_550 (lv_at hl 4 rfl) ?_
    refine rz_iconst hx hb d_L_law_552 ?_
    refine rz_iadd hx hb d_L_law_553 ?_
    refine rl_sld hx hb hX hbl hbA hS (k + 3) d_L_law_554 ?_
    refine lv_i2l hx hb d_L_law_555 rfl ?_
    refine lv_ldc2 (v := 4294967295) hx hb hown (hts _ kw_712) d_L_law_556 ?_
    refine lv_land hx hb d_L_law_559 ?_
    refine lv_lor hx hb d_L_law_560 ?_
    refine lv_aload_n hx hb d_L_law_561 rfl (lv_at hl 3 rfl) ?_
    refine rsM_calli (vx_runSW (hh := [((0 : Nat), (11 : Nat), (14 : Nat), (27 : Nat))]) (As := [.ref h, .int (iz (if (sx xs (k + 1)) = 0 then 0 else 1)), .long (lwd (sx xs (k + 2)) (sx xs (k + 3))), .ref ou]) (rest := []) ⟨hx, hb, hml, hown, hts⟩ (h_L_level_S l D cJ cO h fa ot ah te id rt bs od kn ou V fr er E F (if (sx xs (k + 1)) = 0 then 0 else 1) (lwd (sx xs (k + 2)) (sx xs (k + 3))) o hod ho3 hze.1 hze.2 haz) (vx_cwSW 4 hts (kb_gi (kb_c kw_415 (kb_c kw_416 (kb_c kw_0 (kb_c kw_417 kb_all))))) rfl rfl rfl (by decide +kernel) ⟨Nat.le_of_ble_eq_true rfl, Nat.le_of_ble_eq_true rfl⟩) ⟨rc_blind, rs_pre (rs_a_2_2 hP) (rs_aD_2_2 hD) hK hN [1, 2, 3, 0] rfl rfl [0, 1] rfl⟩ rfl rfl hl.1 rfl (lv_room (Nat.le_of_ble_eq_true rfl)) d_L_law_562 ⟨hfc, hfs⟩) (rs_a_2_2 hP) (rs_aD_2_2 hD) hS [1, 2, 3, 0] rfl (fun _ => rfl) (fun _ => gs_adr2 (gs_adr _ _ _ _ _ _) (gs_adr _ _ _ _ _ _)) (fun r1 u2 H locs hw2 hP hD hS => ?_)
    have hP := rs_b_2_2 hP
    have hD := rs_bD_2_2 hD
    subst hw2
    have hP : va_P D vC (((([(ou, kl cJ 1 (vp_updL V 0 ((iz (gtL (gtE F o (if (sx xs (k + 1)) = 0 then 0 else 1) (lwd (sx xs (k + 2)) (sx xs (k + 3))) E) o (if (sx xs (k + 1)) = 0 then 0 else 1))).toInt64))), (h, rO od fa ot ah te id rt bs kn), (fa, go cO 4 fr), (ot, go cO 4 er), (ah, ka cJ 13 a), (te, ka cJ 31 T), (id, ka cJ 5 J), (rt, rR fo cn wh pt rs sq on tw), (fo, ka cJ 4 Fo), (wh, ka cJ 5 Y), (pt, ka cJ 5 P), (rs, ka cJ 5 r), (sq, ka cJ 8 S), (on, ka cJ 5 a1), (tw, ka cJ 5 b1), (bs, rB ro le me bn), (ro, go cO 17 ra), (le, ki cI 13 Lx), (me, go cO 13 mb), (g, rM cd od fc hd md lo lv tb rw bm mn nu tu), (fc, k2 cJ 20 5 G), (hd, ka cJ 13 a2), (md, ka cJ 17 P2), (lo, k2 cJ 20 5 E2), (tb, k2 cJ 221 13 M2), (rw, ki cI 13 L2), (bm, k2 cJ 169 13 B2), (nu, ka cJ 31 T2), (tu, k2 cJ 20 5 U2)] ++ gs 4 er cJ 5 (gtE F o (if (sx xs (k + 1)) = 0 then 0 else 1) (lwd (sx xs (k + 2)) (sx xs (k + 3))) E)) ++ gs 4 fr cJ 5 F) ++ gs 13 mb cJ 13 Bm) ++ gs 17 ra cJ 13 M) H := hP
    have hD : va_D A (((([(ou, kl cJ 1 (vp_updL V 0 ((iz (gtL (gtE F o (if (sx xs (k + 1)) = 0 then 0 else 1) (lwd (sx xs (k + 2)) (sx xs (k + 3))) E) o (if (sx xs (k + 1)) = 0 then 0 else 1))).toInt64))), (h, rO od fa ot ah te id rt bs kn), (fa, go cO 4 fr), (ot, go cO 4 er), (ah, ka cJ 13 a), (te, ka cJ 31 T), (id, ka cJ 5 J), (rt, rR fo cn wh pt rs sq on tw), (fo, ka cJ 4 Fo), (wh, ka cJ 5 Y), (pt, ka cJ 5 P), (rs, ka cJ 5 r), (sq, ka cJ 8 S), (on, ka cJ 5 a1), (tw, ka cJ 5 b1), (bs, rB ro le me bn), (ro, go cO 17 ra), (le, ki cI 13 Lx), (me, go cO 13 mb), (g, rM cd od fc hd md lo lv tb rw bm mn nu tu), (fc, k2 cJ 20 5 G), (hd, ka cJ 13 a2), (md, ka cJ 17 P2), (lo, k2 cJ 20 5 E2), (tb, k2 cJ 221 13 M2), (rw, ki cI 13 L2), (bm, k2 cJ 169 13 B2), (nu, ka cJ 31 T2), (tu, k2 cJ 20 5 U2)] ++ gs 4 er cJ 5 (gtE F o (if (sx xs (k + 1)) = 0 then 0 else 1) (lwd (sx xs (k + 2)) (sx xs (k + 3))) E)) ++ gs 4 fr cJ 5 F) ++ gs 13 mb cJ 13 Bm) ++ gs 17 ra cJ 13 M) := hD
    refine lv_istore (lv' := [(5, .int (iz 0)), (0, .ref b), (1, .ref h), (2, .ref g), (3, .ref ou), (4, .int (iz z4))]) hx hb d_L_law_565 hl (by decide) rfl (fun ls hl => ?_)
    refine lv_aload_n hx hb d_L_law_567 rfl (lv_at hl 3 rfl) ?_
    refine lv_aload_n hx hb d_L_law_568 rfl (lv_at hl 1 rfl) ?_
    refine lv_iload hx hb d_L_law_569 (lv_at hl 5 rfl) ?_
    refine rz_iconst hx hb d_L_law_571 ?_
    refine rz_iadd hx hb d_L_law_572 ?_
    refine rl_sld hx hb hX hbl hbA hS (k + 1) d_L_law_573 ?_
    refine rb_bool (t1 := 581) (t2 := 582) hx hb d_L_law_574 (by decide) d_L_law_577 d_L_law_578 (by decide) d_L_law_581 rfl (by omega) ?_
    refine lv_aload_n hx hb d_L_law_582 rfl (lv_at hl 1 rfl) ?_
    refine lv_iload hx hb d_L_law_583 (lv_at hl 5 rfl) ?_
    refine rz_iconst hx hb d_L_law_585 ?_
    refine rz_iadd hx hb d_L_law_586 ?_
    refine rl_sld hx hb hX hbl hbA hS (k + 2) d_L_law_587 ?_
    refine lv_i2l hx hb d_L_law_588 rfl ?_
    refine rz_bipush hx hb d_L_law_589 (by decide) ?_
    refine lv_lshl hx hb d_L_law_591 rfl ?_
    refine lv_aload_n hx hb d_L_law_592 rfl (lv_at hl 1 rfl) ?_
    refine lv_iload hx hb d_L_law_593 (lv_at hl 5 rfl) ?_
    refine rz_iconst hx hb d_L_law_595 ?_
    refine rz_iadd hx hb d_L_law_596 ?_
    refine rl_sld hx hb hX hbl hbA hS (k + 3) d_L_law_597 ?_
    refine lv_i2l hx hb d_L_law_598 rfl ?_
    refine lv_ldc2 (v := 4294967295) hx hb hown (hts _ kw_712) d_L_law_599 ?_
    refine lv_land hx hb d_L_law_602 ?_
    refine lv_lor hx hb d_L_law_603 ?_
    refine rc_calli (va_runV (As := [.int (iz (if (sx xs (k + 1)) = 0 then 0 else 1)), .long (lwd (sx xs (k + 2)) (sx xs (k + 3)))]) (rest := []) ⟨hx, hb, hml, hown, hts⟩ (m_M_level l D cJ cI g cd od fc hd md lo lv tb rw bm mn nu tu G E2 (if (sx xs (k + 1)) = 0 then 0 else 1) (lwd (sx xs (k + 2)) (sx xs (k + 3))) hze.1 hze.2) (cwV 2 hts (kb_gi (kb_c kw_660 (kb_c kw_661 (kb_c kw_662 (kb_c kw_5 (kb_c kw_663 kb_all)))))) rfl rfl rfl (by decide +kernel) ⟨Nat.le_of_ble_eq_true rfl, Nat.le_of_ble_eq_true rfl⟩) ⟨rc_blind, va_recv hK hP (ci := 3) (q0 := 19) rfl rfl, rc_pre hP hD hK hN [19, 20, 23] rfl rfl [0, 2] rfl⟩ rfl rfl hl.1 rfl (lv_room (Nat.le_of_ble_eq_true rfl)) d_L_law_604 ⟨hfc, hfs⟩) hP hD hS [19, 20, 23] rfl (fun _ => rfl) (fun r3 u4 H locs hw4 hP hD hS => ?_)
    have h9 : u4 = (0, (mtL (mtE G E2 (if (sx xs (k + 1)) = 0 then 0 else 1) (lwd (sx xs (k + 2)) (sx xs (k + 3)))) (if (sx xs (k + 1)) = 0 then 0 else 1)), (mtE G E2 (if (sx xs (k + 1)) = 0 then 0 else 1) (lwd (sx xs (k + 2)) (sx xs (k + 3))))) ∧ r3 = iz (mtL (mtE G E2 (if (sx xs (k + 1)) = 0 then 0 else 1) (lwd (sx xs (k + 2)) (sx xs (k + 3)))) (if (sx xs (k + 1)) = 0 then 0 else 1)) := by
      rcases hw4 with ⟨h6, h7, h8⟩ | ⟨h6, h7, h8⟩
      · exact ⟨h7, h8⟩
      · exact absurd h6 (fun z => hz ((lw_az hI ho3).mpr z))
    obtain ⟨rfl, rfl⟩ := h9
    have hP : va_P D vC (((([(ou, kl cJ 1 (vp_updL V 0 ((iz (gtL (gtE F o (if (sx xs (k + 1)) = 0 then 0 else 1) (lwd (sx xs (k + 2)) (sx xs (k + 3))) E) o (if (sx xs (k + 1)) = 0 then 0 else 1))).toInt64))), (h, rO od fa ot ah te id rt bs kn), (fa, go cO 4 fr), (ot, go cO 4 er), (ah, ka cJ 13 a), (te, ka cJ 31 T), (id, ka cJ 5 J), (rt, rR fo cn wh pt rs sq on tw), (fo, ka cJ 4 Fo), (wh, ka cJ 5 Y), (pt, ka cJ 5 P), (rs, ka cJ 5 r), (sq, ka cJ 8 S), (on, ka cJ 5 a1), (tw, ka cJ 5 b1), (bs, rB ro le me bn), (ro, go cO 17 ra), (le, ki cI 13 Lx), (me, go cO 13 mb), (g, rM 0 od fc hd md lo (mtL (mtE G E2 (if (sx xs (k + 1)) = 0 then 0 else 1) (lwd (sx xs (k + 2)) (sx xs (k + 3)))) (if (sx xs (k + 1)) = 0 then 0 else 1)) tb rw bm mn nu tu), (fc, k2 cJ 20 5 G), (hd, ka cJ 13 a2), (md, ka cJ 17 P2), (lo, k2 cJ 20 5 (mtE G E2 (if (sx xs (k + 1)) = 0 then 0 else 1) (lwd (sx xs (k + 2)) (sx xs (k + 3))))), (tb, k2 cJ 221 13 M2), (rw, ki cI 13 L2), (bm, k2 cJ 169 13 B2), (nu, ka cJ 31 T2), (tu, k2 cJ 20 5 U2)] ++ gs 4 er cJ 5 (gtE F o (if (sx xs (k + 1)) = 0 then 0 else 1) (lwd (sx xs (k + 2)) (sx xs (k + 3))) E)) ++ gs 4 fr cJ 5 F) ++ gs 13 mb cJ 13 Bm) ++ gs 17 ra cJ 13 M) H := hP
    have hD : va_D A (((([(ou, kl cJ 1 (vp_updL V 0 ((iz (gtL (gtE F o (if (sx xs (k + 1)) = 0 then 0 else 1) (lwd (sx xs (k + 2)) (sx xs (k + 3))) E) o (if (sx xs (k + 1)) = 0 then 0 else 1))).toInt64))), (h, rO od fa ot ah te id rt bs kn), (fa, go cO 4 fr), (ot, go cO 4 er), (ah, ka cJ 13 a), (te, ka cJ 31 T), (id, ka cJ 5 J), (rt, rR fo cn wh pt rs sq on tw), (fo, ka cJ 4 Fo), (wh, ka cJ 5 Y), (pt, ka cJ 5 P), (rs, ka cJ 5 r), (sq, ka cJ 8 S), (on, ka cJ 5 a1), (tw, ka cJ 5 b1), (bs, rB ro le me bn), (ro, go cO 17 ra), (le, ki cI 13 Lx), (me, go cO 13 mb), (g, rM 0 od fc hd md lo (mtL (mtE G E2 (if (sx xs (k + 1)) = 0 then 0 else 1) (lwd (sx xs (k + 2)) (sx xs (k + 3)))) (if (sx xs (k + 1)) = 0 then 0 else 1)) tb rw bm mn nu tu), (fc, k2 cJ 20 5 G), (hd, ka cJ 13 a2), (md, ka cJ 17 P2), (lo, k2 cJ 20 5 (mtE G E2 (if (sx xs (k + 1)) = 0 then 0 else 1) (lwd (sx xs (k + 2)) (sx xs (k + 3))))), (tb, k2 cJ 221 13 M2), (rw, ki cI 13 L2), (bm, k2 cJ 169 13 B2), (nu, ka cJ 31 T2), (tu, k2 cJ 20 5 U2)] ++ gs 4 er cJ 5 (gtE F o (if (sx xs (k + 1)) = 0 then 0 else 1) (lwd (sx xs (k + 2)) (sx xs (k + 3))) E)) ++ gs 4 fr cJ 5 F) ++ gs 13 mb cJ 13 Bm) ++ gs 17 ra cJ 13 M) := hD
    refine lv_istore (lv' := [(6, .int (iz (mtL (mtE G E2 (if (sx xs (k + 1)) = 0 then 0 else 1) (lwd (sx xs (k + 2)) (sx xs (k + 3)))) (if (sx xs (k + 1)) = 0 then 0 else 1)))), (5, .int (iz 0)), (0, .ref b), (1, .ref h), (2, .ref g), (3, .ref ou), (4, .int (iz z4))]) hx hb d_L_law_607 hl (by decide) rfl (fun ls hl => ?_)
    refine lv_aload_n hx hb d_L_law_609 rfl (lv_at hl 4 rfl) ?_
    refine rc_calli (va_runV (As := []) (rest := []) ⟨hx, hb, hml, hown, hts⟩ (m_M_thrown l D g 0 od fc hd md lo (mtL (mtE G E2 (if (sx xs (k + 1)) = 0 then 0 else 1) (lwd (sx xs (k + 2)) (sx xs (k + 3)))) (if (sx xs (k + 1)) = 0 then 0 else 1)) tb rw bm mn nu tu) (cwV 0 hts (kb_gi (kb_c kw_570 (kb_c kw_571 (kb_c kw_572 (kb_c kw_5 (kb_c kw_573 kb_all)))))) rfl rfl rfl (by decide +kernel) ⟨Nat.le_of_ble_eq_true rfl, Nat.le_of_ble_eq_true rfl⟩) ⟨rc_blind, va_recv hK hP (ci := 3) (q0 := 19) rfl rfl, rc_pre hP hD hK hN [19] rfl rfl [] rfl⟩ rfl rfl hl.1 rfl (lv_room (Nat.le_of_ble_eq_true rfl)) d_L_law_610 ⟨hfc, hfs⟩) hP hD hS [19] rfl (fun _ => rfl) (fun r5 u6 H locs hw6 hP hD hS => ?_)
    subst hw6
    have hP : va_P D vC (((([(ou, kl cJ 1 (vp_updL V 0 ((iz (gtL (gtE F o (if (sx xs (k + 1)) = 0 then 0 else 1) (lwd (sx xs (k + 2)) (sx xs (k + 3))) E) o (if (sx xs (k + 1)) = 0 then 0 else 1))).toInt64))), (h, rO od fa ot ah te id rt bs kn), (fa, go cO 4 fr), (ot, go cO 4 er), (ah, ka cJ 13 a), (te, ka cJ 31 T), (id, ka cJ 5 J), (rt, rR fo cn wh pt rs sq on tw), (fo, ka cJ 4 Fo), (wh, ka cJ 5 Y), (pt, ka cJ 5 P), (rs, ka cJ 5 r), (sq, ka cJ 8 S), (on, ka cJ 5 a1), (tw, ka cJ 5 b1), (bs, rB ro le me bn), (ro, go cO 17 ra), (le, ki cI 13 Lx), (me, go cO 13 mb), (g, rM 0 od fc hd md lo (mtL (mtE G E2 (if (sx xs (k + 1)) = 0 then 0 else 1) (lwd (sx xs (k + 2)) (sx xs (k + 3)))) (if (sx xs (k + 1)) = 0 then 0 else 1)) tb rw bm mn nu tu), (fc, k2 cJ 20 5 G), (hd, ka cJ 13 a2), (md, ka cJ 17 P2), (lo, k2 cJ 20 5 (mtE G E2 (if (sx xs (k + 1)) = 0 then 0 else 1) (lwd (sx xs (k + 2)) (sx xs (k + 3))))), (tb, k2 cJ 221 13 M2), (rw, ki cI 13 L2), (bm, k2 cJ 169 13 B2), (nu, ka cJ 31 T2), (tu, k2 cJ 20 5 U2)] ++ gs 4 er cJ 5 (gtE F o (if (sx xs (k + 1)) = 0 then 0 else 1) (lwd (sx xs (k + 2)) (sx xs (k + 3))) E)) ++ gs 4 fr cJ 5 F) ++ gs 13 mb cJ 13 Bm) ++ gs 17 ra cJ 13 M) H := hP
    have hD : va_D A (((([(ou, kl cJ 1 (vp_updL V 0 ((iz (gtL (gtE F o (if (sx xs (k + 1)) = 0 then 0 else 1) (lwd (sx xs (k + 2)) (sx xs (k + 3))) E) o (if (sx xs (k + 1)) = 0 then 0 else 1))).toInt64))), (h, rO od fa ot ah te id rt bs kn), (fa, go cO 4 fr), (ot, go cO 4 er), (ah, ka cJ 13 a), (te, ka cJ 31 T), (id, ka cJ 5 J), (rt, rR fo cn wh pt rs sq on tw), (fo, ka cJ 4 Fo), (wh, ka cJ 5 Y), (pt, ka cJ 5 P), (rs, ka cJ 5 r), (sq, ka cJ 8 S), (on, ka cJ 5 a1), (tw, ka cJ 5 b1), (bs, rB ro le me bn), (ro, go cO 17 ra), (le, ki cI 13 Lx), (me, go cO 13 mb), (g, rM 0 od fc hd md lo (mtL (mtE G E2 (if (sx xs (k + 1)) = 0 then 0 else 1) (lwd (sx xs (k + 2)) (sx xs (k + 3)))) (if (sx xs (k + 1)) = 0 then 0 else 1)) tb rw bm mn nu tu), (fc, k2 cJ 20 5 G), (hd, ka cJ 13 a2), (md, ka cJ 17 P2), (lo, k2 cJ 20 5 (mtE G E2 (if (sx xs (k + 1)) = 0 then 0 else 1) (lwd (sx xs (k + 2)) (sx xs (k + 3))))), (tb, k2 cJ 221 13 M2), (rw, ki cI 13 L2), (bm, k2 cJ 169 13 B2), (nu, ka cJ 31 T2), (tu, k2 cJ 20 5 U2)] ++ gs 4 er cJ 5 (gtE F o (if (sx xs (k + 1)) = 0 then 0 else 1) (lwd (sx xs (k + 2)) (sx xs (k + 3))) E)) ++ gs 4 fr cJ 5 F) ++ gs 13 mb cJ 13 Bm) ++ gs 17 ra cJ 13 M) := hD
    refine lv_iload hx hb d_L_law_613 (lv_at hl 1 rfl) ?_
    refine rl_icmp_eq (tgt := 620) hx hb d_L_law_615 (by decide) rfl ?_
    refine lv_iload hx hb d_L_law_620 (lv_at hl 1 rfl) ?_
    refine rz_if_ne (tgt := 637) hx hb d_L_law_622 (by decide) (fun hc => absurd rfl hc) (fun _ => ?_)
    refine lv_aload_n hx hb d_L_law_625 rfl (lv_at hl 5 rfl) ?_
    refine rz_iconst hx hb d_L_law_626 ?_
    refine rl_ld hx hb hK hP 0 0 rfl rfl 0 d_L_law_627 ?_
    rw [vp_self]
    refine lv_iload hx hb d_L_law_628 (lv_at hl 0 rfl) ?_
    refine lv_i2l hx hb d_L_law_630 rfl ?_
    refine rl_lcmp_eq (tgt := 637) hx hb d_L_law_631 d_L_law_632 (by decide) (by rw [(lw_lv hI ho3 haz (if (sx xs (k + 1)) = 0 then 0 else 1) (lwd (sx xs (k + 2)) (sx xs (k + 3))) E2).2.2.1]) ?_
    refine lv_goto (tgt := 1338) hx hb d_L_law_637 (by decide) ?_
    refine W.widen (k := kc + 1) (n := ks + 6) (by omega) (by omega) ?_
    exact hend (vp_updL V 0 ((iz (gtL (gtE F o (if (sx xs (k + 1)) = 0 then 0 else 1) (lwd (sx xs (k + 2)) (sx xs (k + 3))) E) o (if (sx xs (k + 1)) = 0 then 0 else 1))).toInt64)) kn a T J cn Fo Y P r S a1 b1 bn Lx (gtE F o (if (sx xs (k + 1)) = 0 then 0 else 1) (lwd (sx xs (k + 2)) (sx xs (k + 3))) E) F Bm M 0 (mtL (mtE G E2 (if (sx xs (k + 1)) = 0 then 0 else 1) (lwd (sx xs (k + 2)) (sx xs (k + 3)))) (if (sx xs (k + 1)) = 0 then 0 else 1)) mn G a2 P2 (mtE G E2 (if (sx xs (k + 1)) = 0 then 0 else 1) (lwd (sx xs (k + 2)) (sx xs (k + 3)))) M2 L2 B2 T2 U2 H locs ls ⟨lw_E hI (lw_lv hI ho3 haz (if (sx xs (k + 1)) = 0 then 0 else 1) (lwd (sx xs (k + 2)) (sx xs (k + 3))) E2).2.1, hJ⟩ hP hD hS (lv_sub hl [2, 3, 4, 5, 6] rfl)
  · have hz := Decidable.not_not.mp hz
    refine lv_aload_n hx hb d_L_law_524 rfl (lv_at hl 1 rfl) ?_
    refine lv_aload_n hx hb d_L_law_525 rfl (lv_at hl 0 rfl) ?_
    refine lv_iload hx hb d_L_law_526 (lv_at hl 4 rfl) ?_
    refine rz_iconst hx hb d_L_law_528 ?_
    refine rz_iadd hx hb d_L_law_529 ?_
    refine rl_sld hx hb hX hbl hbA hS (k + 1) d_L_law_530 ?_
    refine rb_bool (t1 := 538) (t2 := 539) hx hb d_L_law_531 (by decide) d_L_law_534 d_L_law_535 (by decide) d_L_law_538 rfl (by omega) ?_
    refine lv_aload_n hx hb d_L_law_539 rfl (lv_at hl 0 rfl) ?_
    refine lv_iload hx hb d_L_law_540 (lv_at hl 4 rfl) ?_
    refine rz_iconst hx hb d_L_law_542 ?_
    refine rz_iadd hx hb d_L_law_543 ?_
    refine rl_sld hx hb hX hbl hbA hS (k + 2) d_L_law_544 ?_
    refine lv_i2l hx hb d_L_law_545 rfl ?_
    refine rz_bipush hx hb d_L_law_546 (by decide) ?_
    refine lv_lshl hx hb d_L_law_548 rfl ?_
    refine lv_aload_n hx hb d_L_law_549 rfl (lv_at hl 0 rfl) ?_
    refine lv_iload hx hb d_L_law_550 (lv_at hl 4 rfl) ?_
    refine rz_iconst hx hb d_L_law_552 ?_
    refine rz_iadd hx hb d_L_law_553 ?_
    refine rl_sld hx hb hX hbl hbA hS (k + 3) d_L_law_554 ?_
    refine lv_i2l hx hb d_L_law_555 rfl ?_
    refine lv_ldc2 (v := 4294967295) hx hb hown (hts _ kw_712) d_L_law_556 ?_
    refine lv_land hx hb d_L_law_559 ?_
    refine lv_lor hx hb d_L_law_560 ?_
    refine lv_aload_n hx hb d_L_law_561 rfl (lv_at hl 3 rfl) ?_
    refine rsM_calli (vx_runSW (hh := [((0 : Nat), (11 : Nat), (14 : Nat), (27 : Nat))]) (As := [.ref h, .int (iz (if (sx xs (k + 1)) = 0 then 0 else 1)), .long (lwd (sx xs (k + 2)) (sx xs (k + 3))), .ref ou]) (rest := []) ⟨hx, hb, hml, hown, hts⟩ (h_L_level_t_S l D hst sa cJ cO h fa ot ah te id rt bs od kn ou V fr er E F (if (sx xs (k + 1)) = 0 then 0 else 1) (lwd (sx xs (k + 2)) (sx xs (k + 3))) o hod ho3 hz) (vx_cwSW 4 hts (kb_gi (kb_c kw_415 (kb_c kw_416 (kb_c kw_0 (kb_c kw_417 kb_all))))) rfl rfl rfl (by decide +kernel) ⟨Nat.le_of_ble_eq_true rfl, Nat.le_of_ble_eq_true rfl⟩) ⟨rx_blind, fun U h8 h9 => ⟨(rs_pre (rs_a_2_2 hP) (rs_aD_2_2 hD) hK hN [1, 2, 3, 0] rfl rfl [0, 1] rfl) U h8 h9, hE.go hS (rs_in (rs_aD_2_2 hD) (is := [1, 2, 3, 0]) rfl) h8 h9⟩⟩ rfl rfl hl.1 rfl (lv_room (Nat.le_of_ble_eq_true rfl)) d_L_law_562 ⟨hfc1, hfs1⟩) (rs_a_2_2 hP) (rs_aD_2_2 hD) hS [1, 2, 3, 0] rfl (fun _ => rfl) (fun _ => gs_adr2 (gs_adr _ _ _ _ _ _) (gs_adr _ _ _ _ _ _)) (fun r7 u8 H locs hw8 hP hD hS => ?_)
    have hP := rs_b_2_2 hP
    have hD := rs_bD_2_2 hD
    subst hw8
    have hP : va_P D vC (((([(ou, kl cJ 1 V), (h, rO od fa ot ah te id rt bs kn), (fa, go cO 4 fr), (ot, go cO 4 er), (ah, ka cJ 13 a), (te, ka cJ 31 T), (id, ka cJ 5 J), (rt, rR fo cn wh pt rs sq on tw), (fo, ka cJ 4 Fo), (wh, ka cJ 5 Y), (pt, ka cJ 5 P), (rs, ka cJ 5 r), (sq, ka cJ 8 S), (on, ka cJ 5 a1), (tw, ka cJ 5 b1), (bs, rB ro le me bn), (ro, go cO 17 ra), (le, ki cI 13 Lx), (me, go cO 13 mb), (g, rM cd od fc hd md lo lv tb rw bm mn nu tu), (fc, k2 cJ 20 5 G), (hd, ka cJ 13 a2), (md, ka cJ 17 P2), (lo, k2 cJ 20 5 E2), (tb, k2 cJ 221 13 M2), (rw, ki cI 13 L2), (bm, k2 cJ 169 13 B2), (nu, ka cJ 31 T2), (tu, k2 cJ 20 5 U2)] ++ gs 4 er cJ 5 E) ++ gs 4 fr cJ 5 F) ++ gs 13 mb cJ 13 Bm) ++ gs 17 ra cJ 13 M) H := hP
    have hD : va_D A (((([(ou, kl cJ 1 V), (h, rO od fa ot ah te id rt bs kn), (fa, go cO 4 fr), (ot, go cO 4 er), (ah, ka cJ 13 a), (te, ka cJ 31 T), (id, ka cJ 5 J), (rt, rR fo cn wh pt rs sq on tw), (fo, ka cJ 4 Fo), (wh, ka cJ 5 Y), (pt, ka cJ 5 P), (rs, ka cJ 5 r), (sq, ka cJ 8 S), (on, ka cJ 5 a1), (tw, ka cJ 5 b1), (bs, rB ro le me bn), (ro, go cO 17 ra), (le, ki cI 13 Lx), (me, go cO 13 mb), (g, rM cd od fc hd md lo lv tb rw bm mn nu tu), (fc, k2 cJ 20 5 G), (hd, ka cJ 13 a2), (md, ka cJ 17 P2), (lo, k2 cJ 20 5 E2), (tb, k2 cJ 221 13 M2), (rw, ki cI 13 L2), (bm, k2 cJ 169 13 B2), (nu, ka cJ 31 T2), (tu, k2 cJ 20 5 U2)] ++ gs 4 er cJ 5 E) ++ gs 4 fr cJ 5 F) ++ gs 13 mb cJ 13 Bm) ++ gs 17 ra cJ 13 M) := hD
    refine lv_istore (lv' := [(5, .int (iz 1)), (0, .ref b), (1, .ref h), (2, .ref g), (3, .ref ou), (4, .int (iz z4))]) hx hb d_L_law_565 hl (by decide) rfl (fun ls hl => ?_)
    refine lv_aload_n hx hb d_L_law_567 rfl (lv_at hl 3 rfl) ?_
    refine lv_aload_n hx hb d_L_law_568 rfl (lv_at hl 1 rfl) ?_
    refine lv_iload hx hb d_L_law_569 (lv_at hl 5 rfl) ?_
    refine rz_iconst hx hb d_L_law_571 ?_
    refine rz_iadd hx hb d_L_law_572 ?_
    refine rl_sld hx hb hX hbl hbA hS (k + 1) d_L_law_573 ?_
    refine rb_bool (t1 := 581) (t2 := 582) hx hb d_L_law_574 (by decide) d_L_law_577 d_L_law_578 (by decide) d_L_law_581 rfl (by omega) ?_
    refine lv_aload_n hx hb d_L_law_582 rfl (lv_at hl 1 rfl) ?_
    refine lv_iload hx hb d_L_law_583 (lv_at hl 5 rfl) ?_
    refine rz_iconst hx hb d_L_law_585 ?_
    refine rz_iadd hx hb d_L_law_586 ?_
    refine rl_sld hx hb hX hbl hbA hS (k + 2) d_L_law_587 ?_
    refine lv_i2l hx hb d_L_law_588 rfl ?_
    refine rz_bipush hx hb d_L_law_589 (by decide) ?_
    refine lv_lshl hx hb d_L_law_591 rfl ?_
    refine lv_aload_n hx hb d_L_law_592 rfl (lv_at hl 1 rfl) ?_
    refine lv_iload hx hb d_L_law_593 (lv_at hl 5 rfl) ?_
    refine rz_iconst hx hb d_L_law_595 ?_
    refine rz_iadd hx hb d_L_law_596 ?_
    refine rl_sld hx hb hX hbl hbA hS (k + 3) d_L_law_597 ?_
    refine lv_i2l hx hb d_L_law_598 rfl ?_
    refine lv_ldc2 (v := 4294967295) hx hb hown (hts _ kw_712) d_L_law_599 ?_
    refine lv_land hx hb d_L_law_602 ?_
    refine lv_lor hx hb d_L_law_603 ?_
    refine rc_calli (va_runV (As := [.int (iz (if (sx xs (k + 1)) = 0 then 0 else 1)), .long (lwd (sx xs (k + 2)) (sx xs (k + 3)))]) (rest := []) ⟨hx, hb, hml, hown, hts⟩ (m_M_level l D cJ cI g cd od fc hd md lo lv tb rw bm mn nu tu G E2 (if (sx xs (k + 1)) = 0 then 0 else 1) (lwd (sx xs (k + 2)) (sx xs (k + 3))) hze.1 hze.2) (cwV 2 hts (kb_gi (kb_c kw_660 (kb_c kw_661 (kb_c kw_662 (kb_c kw_5 (kb_c kw_663 kb_all)))))) rfl rfl rfl (by decide +kernel) ⟨Nat.le_of_ble_eq_true rfl, Nat.le_of_ble_eq_true rfl⟩) ⟨rc_blind, va_recv hK hP (ci := 3) (q0 := 19) rfl rfl, rc_pre hP hD hK hN [19, 20, 23] rfl rfl [0, 2] rfl⟩ rfl rfl hl.1 rfl (lv_room (Nat.le_of_ble_eq_true rfl)) d_L_law_604 ⟨hfc1, hfs1⟩) hP hD hS [19, 20, 23] rfl (fun _ => rfl) (fun r9 u10 H locs hw10 hP hD hS => ?_)
    have h9 : u10 = (1, lv, E2) ∧ r9 = iz 0 := by
      rcases hw10 with ⟨h6, h7, h8⟩ | ⟨h6, h7, h8⟩
      · exact absurd ((lw_az hI ho3).mp hz) h6
      · exact ⟨h7, h8⟩
    obtain ⟨rfl, rfl⟩ := h9
    have hP : va_P D vC (((([(ou, kl cJ 1 V), (h, rO od fa ot ah te id rt bs kn), (fa, go cO 4 fr), (ot, go cO 4 er), (ah, ka cJ 13 a), (te, ka cJ 31 T), (id, ka cJ 5 J), (rt, rR fo cn wh pt rs sq on tw), (fo, ka cJ 4 Fo), (wh, ka cJ 5 Y), (pt, ka cJ 5 P), (rs, ka cJ 5 r), (sq, ka cJ 8 S), (on, ka cJ 5 a1), (tw, ka cJ 5 b1), (bs, rB ro le me bn), (ro, go cO 17 ra), (le, ki cI 13 Lx), (me, go cO 13 mb), (g, rM 1 od fc hd md lo lv tb rw bm mn nu tu), (fc, k2 cJ 20 5 G), (hd, ka cJ 13 a2), (md, ka cJ 17 P2), (lo, k2 cJ 20 5 E2), (tb, k2 cJ 221 13 M2), (rw, ki cI 13 L2), (bm, k2 cJ 169 13 B2), (nu, ka cJ 31 T2), (tu, k2 cJ 20 5 U2)] ++ gs 4 er cJ 5 E) ++ gs 4 fr cJ 5 F) ++ gs 13 mb cJ 13 Bm) ++ gs 17 ra cJ 13 M) H := hP
    have hD : va_D A (((([(ou, kl cJ 1 V), (h, rO od fa ot ah te id rt bs kn), (fa, go cO 4 fr), (ot, go cO 4 er), (ah, ka cJ 13 a), (te, ka cJ 31 T), (id, ka cJ 5 J), (rt, rR fo cn wh pt rs sq on tw), (fo, ka cJ 4 Fo), (wh, ka cJ 5 Y), (pt, ka cJ 5 P), (rs, ka cJ 5 r), (sq, ka cJ 8 S), (on, ka cJ 5 a1), (tw, ka cJ 5 b1), (bs, rB ro le me bn), (ro, go cO 17 ra), (le, ki cI 13 Lx), (me, go cO 13 mb), (g, rM 1 od fc hd md lo lv tb rw bm mn nu tu), (fc, k2 cJ 20 5 G), (hd, ka cJ 13 a2), (md, ka cJ 17 P2), (lo, k2 cJ 20 5 E2), (tb, k2 cJ 221 13 M2), (rw, ki cI 13 L2), (bm, k2 cJ 169 13 B2), (nu, ka cJ 31 T2), (tu, k2 cJ 20 5 U2)] ++ gs 4 er cJ 5 E) ++ gs 4 fr cJ 5 F) ++ gs 13 mb cJ 13 Bm) ++ gs 17 ra cJ 13 M) := hD
    refine lv_istore (lv' := [(6, .int (iz 0)), (5, .int (iz 1)), (0, .ref b), (1, .ref h), (2, .ref g), (3, .ref ou), (4, .int (iz z4))]) hx hb d_L_law_607 hl (by decide) rfl (fun ls hl => ?_)
    refine lv_aload_n hx hb d_L_law_609 rfl (lv_at hl 4 rfl) ?_
    refine rc_calli (va_runV (As := []) (rest := []) ⟨hx, hb, hml, hown, hts⟩ (m_M_thrown l D g 1 od fc hd md lo lv tb rw bm mn nu tu) (cwV 0 hts (kb_gi (kb_c kw_570 (kb_c kw_571 (kb_c kw_572 (kb_c kw_5 (kb_c kw_573 kb_all)))))) rfl rfl rfl (by decide +kernel) ⟨Nat.le_of_ble_eq_true rfl, Nat.le_of_ble_eq_true rfl⟩) ⟨rc_blind, va_recv hK hP (ci := 3) (q0 := 19) rfl rfl, rc_pre hP hD hK hN [19] rfl rfl [] rfl⟩ rfl rfl hl.1 rfl (lv_room (Nat.le_of_ble_eq_true rfl)) d_L_law_610 ⟨hfc1, hfs1⟩) hP hD hS [19] rfl (fun _ => rfl) (fun r11 u12 H locs hw12 hP hD hS => ?_)
    subst hw12
    have hP : va_P D vC (((([(ou, kl cJ 1 V), (h, rO od fa ot ah te id rt bs kn), (fa, go cO 4 fr), (ot, go cO 4 er), (ah, ka cJ 13 a), (te, ka cJ 31 T), (id, ka cJ 5 J), (rt, rR fo cn wh pt rs sq on tw), (fo, ka cJ 4 Fo), (wh, ka cJ 5 Y), (pt, ka cJ 5 P), (rs, ka cJ 5 r), (sq, ka cJ 8 S), (on, ka cJ 5 a1), (tw, ka cJ 5 b1), (bs, rB ro le me bn), (ro, go cO 17 ra), (le, ki cI 13 Lx), (me, go cO 13 mb), (g, rM 1 od fc hd md lo lv tb rw bm mn nu tu), (fc, k2 cJ 20 5 G), (hd, ka cJ 13 a2), (md, ka cJ 17 P2), (lo, k2 cJ 20 5 E2), (tb, k2 cJ 221 13 M2), (rw, ki cI 13 L2), (bm, k2 cJ 169 13 B2), (nu, ka cJ 31 T2), (tu, k2 cJ 20 5 U2)] ++ gs 4 er cJ 5 E) ++ gs 4 fr cJ 5 F) ++ gs 13 mb cJ 13 Bm) ++ gs 17 ra cJ 13 M) H := hP
    have hD : va_D A (((([(ou, kl cJ 1 V), (h, rO od fa ot ah te id rt bs kn), (fa, go cO 4 fr), (ot, go cO 4 er), (ah, ka cJ 13 a), (te, ka cJ 31 T), (id, ka cJ 5 J), (rt, rR fo cn wh pt rs sq on tw), (fo, ka cJ 4 Fo), (wh, ka cJ 5 Y), (pt, ka cJ 5 P), (rs, ka cJ 5 r), (sq, ka cJ 8 S), (on, ka cJ 5 a1), (tw, ka cJ 5 b1), (bs, rB ro le me bn), (ro, go cO 17 ra), (le, ki cI 13 Lx), (me, go cO 13 mb), (g, rM 1 od fc hd md lo lv tb rw bm mn nu tu), (fc, k2 cJ 20 5 G), (hd, ka cJ 13 a2), (md, ka cJ 17 P2), (lo, k2 cJ 20 5 E2), (tb, k2 cJ 221 13 M2), (rw, ki cI 13 L2), (bm, k2 cJ 169 13 B2), (nu, ka cJ 31 T2), (tu, k2 cJ 20 5 U2)] ++ gs 4 er cJ 5 E) ++ gs 4 fr cJ 5 F) ++ gs 13 mb cJ 13 Bm) ++ gs 17 ra cJ 13 M) := hD
    refine lv_iload hx hb d_L_law_613 (lv_at hl 1 rfl) ?_
    refine rl_icmp_eq (tgt := 620) hx hb d_L_law_615 (by decide) rfl ?_
    refine lv_iload hx hb d_L_law_620 (lv_at hl 1 rfl) ?_
    refine rz_if_ne (tgt := 637) hx hb d_L_law_622 (by decide) (fun _ => ?_) (fun hc => absurd hc (by decide))
    refine lv_goto (tgt := 1338) hx hb d_L_law_637 (by decide) ?_
    refine W.widen (k := kc + 1) (n := ks + 6) (by omega) (by omega) ?_
    exact hend V kn a T J cn Fo Y P r S a1 b1 bn Lx E F Bm M 1 lv mn G a2 P2 E2 M2 L2 B2 T2 U2 H locs ls ⟨hI, hJ⟩ hP hD hS (lv_sub hl [2, 3, 4, 5, 6] rfl)
set_option maxHeartbeats 4000000 in
set_option maxRecDepth 100000 in
theorem lc_7 {cJ cO cI : ClassId} {ou h fa ot ah te id rt bs : Nat} {od : Int} {fo wh pt rs sq on tw : Nat} {ro le me : Nat} {fr er mb ra : Nat → Nat} {g : Nat} {fc hd md lo tb rw bm nu tu : Nat} {o : Nat} {sa : Nat → Nat} {ct b L : Nat} {xs : Nat → Int32} {V : Nat → Int64} {kn : Int} {a : Nat → ro_K} {T : Nat → ro_K} {J : Nat → ro_K} {cn : Int} {Fo : Nat → ro_K} {Y : Nat → ro_K} {P : Nat → ro_K} {r : Nat → ro_K} {S : Nat → ro_K} {a1 : Nat → ro_K} {b1 : Nat → ro_K} {bn : Int} {Lx : Nat → Int} {E : Nat → Nat → ro_K} {F : Nat → Nat → ro_K} {Bm : Nat → Nat → ro_K} {M : Nat → Nat → ro_K} {cd : Int} {lv : Int} {mn : Int} {G : Nat → Nat → ro_K} {a2 : Nat → ro_K} {P2 : Nat → ro_K} {E2 : Nat → Nat → ro_K} {M2 : Nat → Nat → ro_K} {L2 : Nat → Int} {B2 : Nat → Nat → ro_K} {T2 : Nat → ro_K} {U2 : Nat → Nat → ro_K} {z4 : Int} {k kc ks : Nat} {H : Heap} {locs : List Loc} {ls : Array Slot} (hx : p.tables.exec = Jvm.exec) (hb : c.code = c_L_law) (hml : c.maxLocals = 7) (hown : s.vm.findClass R_L = some m.cls) (hts : ∀ w ∈ kb, w.before args s = true) (hK : va_K D vC [(cJ, .long), (cO, .array .long), (cI, .int)] s) (hN : rc_N s) (hst : l.stackTraces = false) (hE : rx_E sa A s s.heap) (hC : rz_C ct A s s.heap) (hX : va_X b L xs s s.heap) (hbl : b < s.heap.size) (hbA : ¬ A b) (hL : L ≤ 5121) (hod : od = (o : Int)) (ho1 : 1 ≤ o) (ho3 : o ≤ 3) (hz4 : z4 = (k : Int)) (hk9 : k + 9 < L) (hkc : kc + 1 ≤ 601024) (hks : ks + 6 ≤ 7293000) (hI : (lw_I o F E a kn M Lx Bm bn G a2 ∧ J 4 = 0)) (hend : ∀ (V : Nat → Int64) (kn : Int) (a : Nat → ro_K) (T : Nat → ro_K) (J : Nat → ro_K) (cn : Int) (Fo : Nat → ro_K) (Y : Nat → ro_K) (P : Nat → ro_K) (r : Nat → ro_K) (S : Nat → ro_K) (a1 : Nat → ro_K) (b1 : Nat → ro_K) (bn : Int) (Lx : Nat → Int) (E : Nat → Nat → ro_K) (F : Nat → Nat → ro_K) (Bm : Nat → Nat → ro_K) (M : Nat → Nat → ro_K) (cd : Int) (lv : Int) (mn : Int) (G : Nat → Nat → ro_K) (a2 : Nat → ro_K) (P2 : Nat → ro_K) (E2 : Nat → Nat → ro_K) (M2 : Nat → Nat → ro_K) (L2 : Nat → Int) (B2 : Nat → Nat → ro_K) (T2 : Nat → ro_K) (U2 : Nat → Nat → ro_K) (H : Heap) (locs : List Loc) (ls : Array Slot), (lw_I o F E a kn M Lx Bm bn G a2 ∧ J 4 = 0) → va_P D vC (((([(ou, kl cJ 1 V), (h, rO od fa ot ah te id rt bs kn), (fa, go cO 4 fr), (ot, go cO 4 er), (ah, ka cJ 13 a), (te, ka cJ 31 T), (id, ka cJ 5 J), (rt, rR fo cn wh pt rs sq on tw), (fo, ka cJ 4 Fo), (wh, ka cJ 5 Y), (pt, ka cJ 5 P), (rs, ka cJ 5 r), (sq, ka cJ 8 S), (on, ka cJ 5 a1), (tw, ka cJ 5 b1), (bs, rB ro le me bn), (ro, go cO 17 ra), (le, ki cI 13 Lx), (me, go cO 13 mb), (g, rM cd od fc hd md lo lv tb rw bm mn nu tu), (fc, k2 cJ 20 5 G), (hd, ka cJ 13 a2), (md, ka cJ 17 P2), (lo, k2 cJ 20 5 E2), (tb, k2 cJ 221 13 M2), (rw, ki cI 13 L2), (bm, k2 cJ 169 13 B2), (nu, ka cJ 31 T2), (tu, k2 cJ 20 5 U2)] ++ gs 4 er cJ 5 E) ++ gs 4 fr cJ 5 F) ++ gs 13 mb cJ 13 Bm) ++ gs 17 ra cJ 13 M) H → va_D A (((([(ou, kl cJ 1 V), (h, rO od fa ot ah te id rt bs kn), (fa, go cO 4 fr), (ot, go cO 4 er), (ah, ka cJ 13 a), (te, ka cJ 31 T), (id, ka cJ 5 J), (rt, rR fo cn wh pt rs sq on tw), (fo, ka cJ 4 Fo), (wh, ka cJ 5 Y), (pt, ka cJ 5 P), (rs, ka cJ 5 r), (sq, ka cJ 8 S), (on, ka cJ 5 a1), (tw, ka cJ 5 b1), (bs, rB ro le me bn), (ro, go cO 17 ra), (le, ki cI 13 Lx), (me, go cO 13 mb), (g, rM cd od fc hd md lo lv tb rw bm mn nu tu), (fc, k2 cJ 20 5 G), (hd, ka cJ 13 a2), (md, ka cJ 17 P2), (lo, k2 cJ 20 5 E2), (tb, k2 cJ 221 13 M2), (rw, ki cI 13 L2), (bm, k2 cJ 169 13 B2), (nu, ka cJ 31 T2), (tu, k2 cJ 20 5 U2)] ++ gs 4 er cJ 5 E) ++ gs 4 fr cJ 5 F) ++ gs 13 mb cJ 13 Bm) ++ gs 17 ra cJ 13 M) → va_S A s.heap H locs → lv_has ls 7 [(0, .ref b), (1, .ref h), (2, .ref g), (3, .ref ou), (4, .int (iz z4))] → W p l e room_1 s m args below meth c H locs (kc + 1) (ks + 6) Q (F0 m 1338 ls [])) (hP : va_P D vC (((([(ou, kl cJ 1 V), (h, rO od fa ot ah te id rt bs kn), (fa, go cO 4 fr), (ot, go cO 4 er), (ah, ka cJ 13 a), (te, ka cJ 31 T), (id, ka cJ 5 J), (rt, rR fo cn wh pt rs sq on tw), (fo, ka cJ 4 Fo), (wh, ka cJ 5 Y), (pt, ka cJ 5 P), (rs, ka cJ 5 r), (sq, ka cJ 8 S), (on, ka cJ 5 a1), (tw, ka cJ 5 b1), (bs, rB ro le me bn), (ro, go cO 17 ra), (le, ki cI 13 Lx), (me, go cO 13 mb), (g, rM cd od fc hd md lo lv tb rw bm mn nu tu), (fc, k2 cJ 20 5 G), (hd, ka cJ 13 a2), (md, ka cJ 17 P2), (lo, k2 cJ 20 5 E2), (tb, k2 cJ 221 13 M2), (rw, ki cI 13 L2), (bm, k2 cJ 169 13 B2), (nu, ka cJ 31 T2), (tu, k2 cJ 20 5 U2)] ++ gs 4 er cJ 5 E) ++ gs 4 fr cJ 5 F) ++ gs 13 mb cJ 13 Bm) ++ gs 17 ra cJ 13 M) H) (hD : va_D A (((([(ou, kl cJ 1 V), (h, rO od fa ot ah te id rt bs kn), (fa, go cO 4 fr), (ot, go cO 4 er), (ah, ka cJ 13 a), (te, ka cJ 31 T), (id, ka cJ 5 J), (rt, rR fo cn wh pt rs sq on tw), (fo, ka cJ 4 Fo), (wh, ka cJ 5 Y), (pt, ka cJ 5 P), (rs, ka cJ 5 r), (sq, ka cJ 8 S), (on, ka cJ 5 a1), (tw, ka cJ 5 b1), (bs, rB ro le me bn), (ro, go cO 17 ra), (le, ki cI 13 Lx), (me, go cO 13 mb), (g, rM cd od fc hd md lo lv tb rw bm mn nu tu), (fc, k2 cJ 20 5 G), (hd, ka cJ 13 a2), (md, ka cJ 17 P2), (lo, k2 cJ 20 5 E2), (tb, k2 cJ 221 13 M2), (rw, ki cI 13 L2), (bm, k2 cJ 169 13 B2), (nu, ka cJ 31 T2), (tu, k2 cJ 20 5 U2)] ++ gs 4 er cJ 5 E) ++ gs 4 fr cJ 5 F) ++ gs 13 mb cJ 13 Bm) ++ gs 17 ra cJ 13 M)) (hS : va_S A s.heap H locs) (hl : lv_has ls 7 [(0, .ref b), (1, .ref h), (2, .ref g), (3, .ref ou), (4, .int (iz z4))]) : W p l e room_1 s m args below meth c H locs kc ks Q (F0 m 640 ls []) := by
  obtain ⟨hI, hJ⟩ := hI
  have hs1 := sx_in xs (k + 1)
  have hs2 := sx_in xs (k + 2)
  have hs3 := sx_in xs (k + 3)
  have hfc : kc + 0 ≤ room_1.cells := by show kc + 0 ≤ 601024; omega
  have hfs : ks + 0 ≤ room_1.slots := by show ks + 0 ≤ 7293000; omega
  have hfc1 : kc + 1 ≤ room_1.cells := hkc
  have hfs1 : ks + 6 ≤ room_1.slots := hks
  have hze := b01 (sx xs (k + 1))
  by_cases hz : ¬ azB F (o + 1) = true
  · by_cases hf : oat (gtE F o (if (sx xs (k + 1)) = 0 then 0 else 1) (lwd (sx xs (k + 2)) (sx xs (k + 3))) E) o ((gtL (gtE F o (if (sx xs (k + 1)) = 0 then 0 else 1) (lwd (sx xs (k + 2)) (sx xs (k + 3))) E) o (if (sx xs (k + 1)) = 0 then 0 else 1)) + (o : Int)) = 0
    · have haz : azB F (o + 1) = false := by
        cases h9 : azB F (o + 1)
        · rfl
        · exact absurd h9 hz
      refine lv_aload_n hx hb d_L_law_640 rfl (lv_at hl 1 rfl) ?_
      refine lv_aload_n hx hb d_L_law_641 rfl (lv_at hl 0 rfl) ?_
      refine lv_iload hx hb d_L_law_642 (lv_at hl 4 rfl) ?_
      refine rz_iconst hx hb d_L_law_644 ?_
      refine rz_iadd hx hb d_L_law_645 ?_
      refine rl_sld hx hb hX hbl hbA hS (k + 1) d_L_law_646 ?_
      refine rb_bool (t1 := 654) (t2 := 655) hx hb d_L_law_647 (by decide) d_L_law_650 d_L_law_651 (by decide) d_L_law_654 rfl (by omega) ?_
      refine lv_aload_n hx hb d_L_law_655 rfl (lv_at hl 0 rfl) ?_
      refine lv_iload hx hb d_L_law_656 (lv_at hl 4 rfl) ?_
      refine rz_iconst hx hb d_L_law_658 ?_
      refine rz_iadd hx hb d_L_law_659 ?_
      refine rl_sld hx hb hX hbl hbA hS (k + 2) d_L_law_660 ?_
      refine lv_i2l hx hb d_L_law_661 rfl ?_
      refine rz_bipush hx hb d_L_law_662 (by decide) ?_
      refine lv_lshl hx hb d_L_law_664 rfl ?_
      refine lv_aload_n hx hb d_L_law_665 rfl (lv_at hl 0 rfl) ?_
      refine lv_iload hx hb d_L_law_666 (lv_at hl 4 rfl) ?_
      refine rz_iconst hx hb d_L_law_668 ?_
      refine rz_iadd hx hb d_L_law_669 ?_
      refine rl_sld hx hb hX hbl hbA hS (k + 3) d_L_law_670 ?_
      refine lv_i2l hx hb d_L_law_671 rfl ?_
      refine lv_ldc2 (v := 4294967295) hx hb hown (hts _ kw_712) d_L_law_672 ?_
      refine lv_land hx hb d_L_law_675 ?_
      refine lv_lor hx hb d_L_law_676 ?_
      refine lv_aload_n hx hb d_L_law_677 rfl (lv_at hl 3 rfl) ?_
      refine rsM_calli (vx_runSW (hh := [((0 : Nat), (18 : Nat), (21 : Nat), (27 : Nat))]) (As := [.ref h, .int (iz (if (sx xs (k + 1)) = 0 then 0 else 1)), .long (lwd (sx xs (k + 2)) (sx xs (k + 3))), .ref ou]) (rest := []) ⟨hx, hb, hml, hown, hts⟩ (h_L_regular_S l D cJ cO h fa ot ah te id rt bs od kn ou V fr er E F (if (sx xs (k + 1)) = 0 then 0 else 1) (lwd (sx xs (k + 2)) (sx xs (k + 3))) o hod ho3 hze.1 hze.2 haz) (vx_cwSW 4 hts (kb_gi (kb_c kw_451 (kb_c kw_452 (kb_c kw_0 (kb_c kw_453 kb_all))))) rfl rfl rfl (by decide +kernel) ⟨Nat.le_of_ble_eq_true rfl, Nat.le_of_ble_eq_true rfl⟩) ⟨rc_blind, rs_pre (rs_a_2_2 hP) (rs_aD_2_2 hD) hK hN [1, 2, 3, 0] rfl rfl [0, 1] rfl⟩ rfl rfl hl.1 rfl (lv_room (Nat.le_of_ble_eq_true rfl)) d_L_law_678 ⟨hfc, hfs⟩) (rs_a_2_2 hP) (rs_aD_2_2 hD) hS [1, 2, 3, 0] rfl (fun _ => rfl) (fun _ => gs_adr2 (gs_adr _ _ _ _ _ _) (gs_adr _ _ _ _ _ _)) (fun r1 u2 H locs hw2 hP hD hS => ?_)
      have hP := rs_b_2_2 hP
      have hD := rs_bD_2_2 hD
      obtain ⟨rfl, hw9⟩ := hw2
      have h9 : u2 = 0 := hw9.elim (fun z => z.2) (fun z => absurd hf z.1)
      subst h9
      have hP : va_P D vC (((([(ou, kl cJ 1 (vp_updL V 0 (lk 0))), (h, rO od fa ot ah te id rt bs kn), (fa, go cO 4 fr), (ot, go cO 4 er), (ah, ka cJ 13 a), (te, ka cJ 31 T), (id, ka cJ 5 J), (rt, rR fo cn wh pt rs sq on tw), (fo, ka cJ 4 Fo), (wh, ka cJ 5 Y), (pt, ka cJ 5 P), (rs, ka cJ 5 r), (sq, ka cJ 8 S), (on, ka cJ 5 a1), (tw, ka cJ 5 b1), (bs, rB ro le me bn), (ro, go cO 17 ra), (le, ki cI 13 Lx), (me, go cO 13 mb), (g, rM cd od fc hd md lo lv tb rw bm mn nu tu), (fc, k2 cJ 20 5 G), (hd, ka cJ 13 a2), (md, ka cJ 17 P2), (lo, k2 cJ 20 5 E2), (tb, k2 cJ 221 13 M2), (rw, ki cI 13 L2), (bm, k2 cJ 169 13 B2), (nu, ka cJ 31 T2), (tu, k2 cJ 20 5 U2)] ++ gs 4 er cJ 5 (gtE F o (if (sx xs (k + 1)) = 0 then 0 else 1) (lwd (sx xs (k + 2)) (sx xs (k + 3))) E)) ++ gs 4 fr cJ 5 F) ++ gs 13 mb cJ 13 Bm) ++ gs 17 ra cJ 13 M) H := hP
      have hD : va_D A (((([(ou, kl cJ 1 (vp_updL V 0 (lk 0))), (h, rO od fa ot ah te id rt bs kn), (fa, go cO 4 fr), (ot, go cO 4 er), (ah, ka cJ 13 a), (te, ka cJ 31 T), (id, ka cJ 5 J), (rt, rR fo cn wh pt rs sq on tw), (fo, ka cJ 4 Fo), (wh, ka cJ 5 Y), (pt, ka cJ 5 P), (rs, ka cJ 5 r), (sq, ka cJ 8 S), (on, ka cJ 5 a1), (tw, ka cJ 5 b1), (bs, rB ro le me bn), (ro, go cO 17 ra), (le, ki cI 13 Lx), (me, go cO 13 mb), (g, rM cd od fc hd md lo lv tb rw bm mn nu tu), (fc, k2 cJ 20 5 G), (hd, ka cJ 13 a2), (md, ka cJ 17 P2), (lo, k2 cJ 20 5 E2), (tb, k2 cJ 221 13 M2), (rw, ki cI 13 L2), (bm, k2 cJ 169 13 B2), (nu, ka cJ 31 T2), (tu, k2 cJ 20 5 U2)] ++ gs 4 er cJ 5 (gtE F o (if (sx xs (k + 1)) = 0 then 0 else 1) (lwd (sx xs (k + 2)) (sx xs (k + 3))) E)) ++ gs 4 fr cJ 5 F) ++ gs 13 mb cJ 13 Bm) ++ gs 17 ra cJ 13 M) := hD
      refine lv_istore (lv' := [(5, .int (iz 0)), (0, .ref b), (1, .ref h), (2, .ref g), (3, .ref ou), (4, .int (iz z4))]) hx hb d_L_law_681 hl (by decide) rfl (fun ls hl => ?_)
      refine lv_aload_n hx hb d_L_law_683 rfl (lv_at hl 3 rfl) ?_
      refine lv_aload_n hx hb d_L_law_684 rfl (lv_at hl 1 rfl) ?_
      refine lv_iload hx hb d_L_law_685 (lv_at hl 5 rfl) ?_
      refine rz_iconst hx hb d_L_law_687 ?_
      refine rz_iadd hx hb d_L_law_688 ?_
      refine rl_sld hx hb hX hbl hbA hS (k + 1) d_L_law_689 ?_
      refine rb_bool (t1 := 697) (t2 := 698) hx hb d_L_law_690 (by decide) d_L_law_693 d_L_law_694 (by decide) d_L_law_697 rfl (by omega) ?_
      refine lv_aload_n hx hb d_L_law_698 rfl (lv_at hl 1 rfl) ?_
      refine lv_iload hx hb d_L_law_699 (lv_at hl 5 rfl) ?_
      refine rz_iconst hx hb d_L_law_701 ?_
      refine rz_iadd hx hb d_L_law_702 ?_
      refine rl_sld hx hb hX hbl hbA hS (k + 2) d_L_law_703 ?_
      refine lv_i2l hx hb d_L_law_704 rfl ?_
      refine rz_bipush hx hb d_L_law_705 (by decide) ?_
      refine lv_lshl hx hb d_L_law_707 rfl ?_
      refine lv_aload_n hx hb d_L_law_708 rfl (lv_at hl 1 rfl) ?_
      refine lv_iload hx hb d_L_law_709 (lv_at hl 5 rfl) ?_
      refine rz_iconst hx hb d_L_law_711 ?_
      refine rz_iadd hx hb d_L_law_712 ?_
      refine rl_sld hx hb hX hbl hbA hS (k + 3) d_L_law_713 ?_
      refine lv_i2l hx hb d_L_law_714 rfl ?_
      refine lv_ldc2 (v := 4294967295) hx hb hown (hts _ kw_712) d_L_law_715 ?_
      refine lv_land hx hb d_L_law_718 ?_
      refine lv_lor hx hb d_L_law_719 ?_
      refine rc_calli (va_runV (As := [.int (iz (if (sx xs (k + 1)) = 0 then 0 else 1)), .long (lwd (sx xs (k + 2)) (sx xs (k + 3)))]) (rest := []) ⟨hx, hb, hml, hown, hts⟩ (m_M_regular l D cJ cI g cd od fc hd md lo lv tb rw bm mn nu tu G E2 (if (sx xs (k + 1)) = 0 then 0 else 1) (lwd (sx xs (k + 2)) (sx xs (k + 3))) o hod ho3 hze.1 hze.2) (cwV 2 hts (kb_gi (kb_c kw_668 (kb_c kw_669 (kb_c kw_670 (kb_c kw_5 (kb_c kw_671 kb_all)))))) rfl rfl rfl (by decide +kernel) ⟨Nat.le_of_ble_eq_true rfl, Nat.le_of_ble_eq_true rfl⟩) ⟨rc_blind, va_recv hK hP (ci := 3) (q0 := 19) rfl rfl, rc_pre hP hD hK hN [19, 20, 23] rfl rfl [0, 2] rfl⟩ rfl rfl hl.1 rfl (lv_room (Nat.le_of_ble_eq_true rfl)) d_L_law_720 ⟨hfc, hfs⟩) hP hD hS [19, 20, 23] rfl (fun _ => rfl) (fun r3 u4 H locs hw4 hP hD hS => ?_)
      have h9 : u4 = (0, (mtL (mtE G E2 (if (sx xs (k + 1)) = 0 then 0 else 1) (lwd (sx xs (k + 2)) (sx xs (k + 3)))) (if (sx xs (k + 1)) = 0 then 0 else 1)), (mtE G E2 (if (sx xs (k + 1)) = 0 then 0 else 1) (lwd (sx xs (k + 2)) (sx xs (k + 3))))) ∧ r3 = iz 0 := by
        rcases hw4 with ⟨h6, h7, h8⟩ | ⟨h6, h7, h8⟩
        · exact ⟨h7, by rw [h8, if_pos (by rw [← lw_reg hI ho3 haz]; exact hf)]⟩
        · exact absurd h6 (fun z => hz ((lw_az hI ho3).mpr z))
      obtain ⟨rfl, rfl⟩ := h9
      have hP : va_P D vC (((([(ou, kl cJ 1 (vp_updL V 0 (lk 0))), (h, rO od fa ot ah te id rt bs kn), (fa, go cO 4 fr), (ot, go cO 4 er), (ah, ka cJ 13 a), (te, ka cJ 31 T), (id, ka cJ 5 J), (rt, rR fo cn wh pt rs sq on tw), (fo, ka cJ 4 Fo), (wh, ka cJ 5 Y), (pt, ka cJ 5 P), (rs, ka cJ 5 r), (sq, ka cJ 8 S), (on, ka cJ 5 a1), (tw, ka cJ 5 b1), (bs, rB ro le me bn), (ro, go cO 17 ra), (le, ki cI 13 Lx), (me, go cO 13 mb), (g, rM 0 od fc hd md lo (mtL (mtE G E2 (if (sx xs (k + 1)) = 0 then 0 else 1) (lwd (sx xs (k + 2)) (sx xs (k + 3)))) (if (sx xs (k + 1)) = 0 then 0 else 1)) tb rw bm mn nu tu), (fc, k2 cJ 20 5 G), (hd, ka cJ 13 a2), (md, ka cJ 17 P2), (lo, k2 cJ 20 5 (mtE G E2 (if (sx xs (k + 1)) = 0 then 0 else 1) (lwd (sx xs (k + 2)) (sx xs (k + 3))))), (tb, k2 cJ 221 13 M2), (rw, ki cI 13 L2), (bm, k2 cJ 169 13 B2), (nu, ka cJ 31 T2), (tu, k2 cJ 20 5 U2)] ++ gs 4 er cJ 5 (gtE F o (if (sx xs (k + 1)) = 0 then 0 else 1) (lwd (sx xs (k + 2)) (sx xs (k + 3))) E)) ++ gs 4 fr cJ 5 F) ++ gs 13 mb cJ 13 Bm) ++ gs 17 ra cJ 13 M) H := hP
      have hD : va_D A (((([(ou, kl cJ 1 (vp_updL V 0 (lk 0))), (h, rO od fa ot ah te id rt bs kn), (fa, go cO 4 fr), (ot, go cO 4 er), (ah, ka cJ 13 a), (te, ka cJ 31 T), (id, ka cJ 5 J), (rt, rR fo cn wh pt rs sq on tw), (fo, ka cJ 4 Fo), (wh, ka cJ 5 Y), (pt, ka cJ 5 P), (rs, ka cJ 5 r), (sq, ka cJ 8 S), (on, ka cJ 5 a1), (tw, ka cJ 5 b1), (bs, rB ro le me bn), (ro, go cO 17 ra), (le, ki cI 13 Lx), (me, go cO 13 mb), (g, rM 0 od fc hd md lo (mtL (mtE G E2 (if (sx xs (k + 1)) = 0 then 0 else 1) (lwd (sx xs (k + 2)) (sx xs (k + 3)))) (if (sx xs (k + 1)) = 0 then 0 else 1)) tb rw bm mn nu tu), (fc, k2 cJ 20 5 G), (hd, ka cJ 13 a2), (md, ka cJ 17 P2), (lo, k2 cJ 20 5 (mtE G E2 (if (sx xs (k + 1)) = 0 then 0 else 1) (lwd (sx xs (k + 2)) (sx xs (k + 3))))), (tb, k2 cJ 221 13 M2), (rw, ki cI 13 L2), (bm, k2 cJ 169 13 B2), (nu, ka cJ 31 T2), (tu, k2 cJ 20 5 U2)] ++ gs 4 er cJ 5 (gtE F o (if (sx xs (k + 1)) = 0 then 0 else 1) (lwd (sx xs (k + 2)) (sx xs (k + 3))) E)) ++ gs 4 fr cJ 5 F) ++ gs 13 mb cJ 13 Bm) ++ gs 17 ra cJ 13 M) := hD
      refine lv_istore (lv' := [(6, .int (iz 0)), (5, .int (iz 0)), (0, .ref b), (1, .ref h), (2, .ref g), (3, .ref ou), (4, .int (iz z4))]) hx hb d_L_law_723 hl (by decide) rfl (fun ls hl => ?_)
      refine lv_aload_n hx hb d_L_law_725 rfl (lv_at hl 4 rfl) ?_
      refine rc_calli (va_runV (As := []) (rest := []) ⟨hx, hb, hml, hown, hts⟩ (m_M_thrown l D g 0 od fc hd md lo (mtL (mtE G E2 (if (sx xs (k + 1)) = 0 then 0 else 1) (lwd (sx xs (k + 2)) (sx xs (k + 3)))) (if (sx xs (k + 1)) = 0 then 0 else 1)) tb rw bm mn nu tu) (cwV 0 hts (kb_gi (kb_c kw_570 (kb_c kw_571 (kb_c kw_572 (kb_c kw_5 (kb_c kw_573 kb_all)))))) rfl rfl rfl (by decide +kernel) ⟨Nat.le_of_ble_eq_true rfl, Nat.le_of_ble_eq_true rfl⟩) ⟨rc_blind, va_recv hK hP (ci := 3) (q0 := 19) rfl rfl, rc_pre hP hD hK hN [19] rfl rfl [] rfl⟩ rfl rfl hl.1 rfl (lv_room (Nat.le_of_ble_eq_true rfl)) d_L_law_726 ⟨hfc, hfs⟩) hP hD hS [19] rfl (fun _ => rfl) (fun r5 u6 H locs hw6 hP hD hS => ?_)
      subst hw6
      have hP : va_P D vC (((([(ou, kl cJ 1 (vp_updL V 0 (lk 0))), (h, rO od fa ot ah te id rt bs kn), (fa, go cO 4 fr), (ot, go cO 4 er), (ah, ka cJ 13 a), (te, ka cJ 31 T), (id, ka cJ 5 J), (rt, rR fo cn wh pt rs sq on tw), (fo, ka cJ 4 Fo), (wh, ka cJ 5 Y), (pt, ka cJ 5 P), (rs, ka cJ 5 r), (sq, ka cJ 8 S), (on, ka cJ 5 a1), (tw, ka cJ 5 b1), (bs, rB ro le me bn), (ro, go cO 17 ra), (le, ki cI 13 Lx), (me, go cO 13 mb), (g, rM 0 od fc hd md lo (mtL (mtE G E2 (if (sx xs (k + 1)) = 0 then 0 else 1) (lwd (sx xs (k + 2)) (sx xs (k + 3)))) (if (sx xs (k + 1)) = 0 then 0 else 1)) tb rw bm mn nu tu), (fc, k2 cJ 20 5 G), (hd, ka cJ 13 a2), (md, ka cJ 17 P2), (lo, k2 cJ 20 5 (mtE G E2 (if (sx xs (k + 1)) = 0 then 0 else 1) (lwd (sx xs (k + 2)) (sx xs (k + 3))))), (tb, k2 cJ 221 13 M2), (rw, ki cI 13 L2), (bm, k2 cJ 169 13 B2), (nu, ka cJ 31 T2), (tu, k2 cJ 20 5 U2)] ++ gs 4 er cJ 5 (gtE F o (if (sx xs (k + 1)) = 0 then 0 else 1) (lwd (sx xs (k + 2)) (sx xs (k + 3))) E)) ++ gs 4 fr cJ 5 F) ++ gs 13 mb cJ 13 Bm) ++ gs 17 ra cJ 13 M) H := hP
      have hD : va_D A (((([(ou, kl cJ 1 (vp_updL V 0 (lk 0))), (h, rO od fa ot ah te id rt bs kn), (fa, go cO 4 fr), (ot, go cO 4 er), (ah, ka cJ 13 a), (te, ka cJ 31 T), (id, ka cJ 5 J), (rt, rR fo cn wh pt rs sq on tw), (fo, ka cJ 4 Fo), (wh, ka cJ 5 Y), (pt, ka cJ 5 P), (rs, ka cJ 5 r), (sq, ka cJ 8 S), (on, ka cJ 5 a1), (tw, ka cJ 5 b1), (bs, rB ro le me bn), (ro, go cO 17 ra), (le, ki cI 13 Lx), (me, go cO 13 mb), (g, rM 0 od fc hd md lo (mtL (mtE G E2 (if (sx xs (k + 1)) = 0 then 0 else 1) (lwd (sx xs (k + 2)) (sx xs (k + 3)))) (if (sx xs (k + 1)) = 0 then 0 else 1)) tb rw bm mn nu tu), (fc, k2 cJ 20 5 G), (hd, ka cJ 13 a2), (md, ka cJ 17 P2), (lo, k2 cJ 20 5 (mtE G E2 (if (sx xs (k + 1)) = 0 then 0 else 1) (lwd (sx xs (k + 2)) (sx xs (k + 3))))), (tb, k2 cJ 221 13 M2), (rw, ki cI 13 L2), (bm, k2 cJ 169 13 B2), (nu, ka cJ 31 T2), (tu, k2 cJ 20 5 U2)] ++ gs 4 er cJ 5 (gtE F o (if (sx xs (k + 1)) = 0 then 0 else 1) (lwd (sx xs (k + 2)) (sx xs (k + 3))) E)) ++ gs 4 fr cJ 5 F) ++ gs 13 mb cJ 13 Bm) ++ gs 17 ra cJ 13 M) := hD
      refine lv_iload hx hb d_L_law_729 (lv_at hl 1 rfl) ?_
      refine rl_icmp_eq (tgt := 736) hx hb d_L_law_731 (by decide) rfl ?_
      refine lv_iload hx hb d_L_law_736 (lv_at hl 1 rfl) ?_
      refine rz_if_ne (tgt := 760) hx hb d_L_law_738 (by decide) (fun hc => absurd rfl hc) (fun _ => ?_)
      refine lv_aload_n hx hb d_L_law_741 rfl (lv_at hl 5 rfl) ?_
      refine rz_iconst hx hb d_L_law_742 ?_
      refine rl_ld hx hb hK hP 0 0 rfl rfl 0 d_L_law_743 ?_
      rw [vp_self]
      refine lv_iload hx hb d_L_law_744 (lv_at hl 0 rfl) ?_
      refine rz_if_eq (tgt := 753) hx hb d_L_law_746 (by decide) (fun _ => ?_) (fun hc => absurd rfl hc)
      refine lv_lconst (v := lk 0) hx hb d_L_law_753 rfl ?_
      refine rl_lcmp_eq (tgt := 760) hx hb d_L_law_754 d_L_law_755 (by decide) rfl ?_
      refine lv_goto (tgt := 1338) hx hb d_L_law_760 (by decide) ?_
      refine W.widen (k := kc + 1) (n := ks + 6) (by omega) (by omega) ?_
      exact hend (vp_updL V 0 (lk 0)) kn a T J cn Fo Y P r S a1 b1 bn Lx (gtE F o (if (sx xs (k + 1)) = 0 then 0 else 1) (lwd (sx xs (k + 2)) (sx xs (k + 3))) E) F Bm M 0 (mtL (mtE G E2 (if (sx xs (k + 1)) = 0 then 0 else 1) (lwd (sx xs (k + 2)) (sx xs (k + 3)))) (if (sx xs (k + 1)) = 0 then 0 else 1)) mn G a2 P2 (mtE G E2 (if (sx xs (k + 1)) = 0 then 0 else 1) (lwd (sx xs (k + 2)) (sx xs (k + 3)))) M2 L2 B2 T2 U2 H locs ls ⟨lw_E hI (lw_lv hI ho3 haz (if (sx xs (k + 1)) = 0 then 0 else 1) (lwd (sx xs (k + 2)) (sx xs (k + 3))) E2).2.1, hJ⟩ hP hD hS (lv_sub hl [2, 3, 4, 5, 6] rfl)
    · have haz : azB F (o + 1) = false := by
        cases h9 : azB F (o + 1)
        · rfl
        · exact absurd h9 hz
      refine lv_aload_n hx hb d_L_law_640 rfl (lv_at hl 1 rfl) ?_
      refine lv_aload_n hx hb d_L_law_641 rfl (lv_at hl 0 rfl) ?_
      refine lv_iload hx hb d_L_law_642 (lv_at hl 4 rfl) ?_
      refine rz_iconst hx hb d_L_law_644 ?_
      refine rz_iadd hx hb d_L_law_645 ?_
      refine rl_sld hx hb hX hbl hbA hS (k + 1) d_L_law_646 ?_
      refine rb_bool (t1 := 654) (t2 := 655) hx hb d_L_law_647 (by decide) d_L_law_650 d_L_law_651 (by decide) d_L_law_654 rfl (by omega) ?_
      refine lv_aload_n hx hb d_L_law_655 rfl (lv_at hl 0 rfl) ?_
      refine lv_iload hx hb d_L_law_656 (lv_at hl 4 rfl) ?_
      refine rz_iconst hx hb d_L_law_658 ?_
      refine rz_iadd hx hb d_L_law_659 ?_
      refine rl_sld hx hb hX hbl hbA hS (k + 2) d_L_law_660 ?_
      refine lv_i2l hx hb d_L_law_661 rfl ?_
      refine rz_bipush hx hb d_L_law_662 (by decide) ?_
      refine lv_lshl hx hb d_L_law_664 rfl ?_
      refine lv_aload_n hx hb d_L_law_665 rfl (lv_at hl 0 rfl) ?_
      refine lv_iload hx hb d_L_law_666 (lv_at hl 4 rfl) ?_
      refine rz_iconst hx hb d_L_law_668 ?_
      refine rz_iadd hx hb d_L_law_669 ?_
      refine rl_sld hx hb hX hbl hbA hS (k + 3) d_L_law_670 ?_
      refine lv_i2l hx hb d_L_law_671 rfl ?_
      refine lv_ldc2 (v := 4294967295) hx hb hown (hts _ kw_712) d_L_law_672 ?_
      refine lv_land hx hb d_L_law_675 ?_
      refine lv_lor hx hb d_L_law_676 ?_
      refine lv_aload_n hx hb d_L_law_677 rfl (lv_at hl 3 rfl) ?_
      refine rsM_calli (vx_runSW (hh := [((0 : Nat), (18 : Nat), (21 : Nat), (27 : Nat))]) (As := [.ref h, .int (iz (if (sx xs (k + 1)) = 0 then 0 else 1)), .long (lwd (sx xs (k + 2)) (sx xs (k + 3))), .ref ou]) (rest := []) ⟨hx, hb, hml, hown, hts⟩ (h_L_regular_S l D cJ cO h fa ot ah te id rt bs od kn ou V fr er E F (if (sx xs (k + 1)) = 0 then 0 else 1) (lwd (sx xs (k + 2)) (sx xs (k + 3))) o hod ho3 hze.1 hze.2 haz) (vx_cwSW 4 hts (kb_gi (kb_c kw_451 (kb_c kw_452 (kb_c kw_0 (kb_c kw_453 kb_all))))) rfl rfl rfl (by decide +kernel) ⟨Nat.le_of_ble_eq_true rfl, Nat.le_of_ble_eq_true rfl⟩) ⟨rc_blind, rs_pre (rs_a_2_2 hP) (rs_aD_2_2 hD) hK hN [1, 2, 3, 0] rfl rfl [0, 1] rfl⟩ rfl rfl hl.1 rfl (lv_room (Nat.le_of_ble_eq_true rfl)) d_L_law_678 ⟨hfc, hfs⟩) (rs_a_2_2 hP) (rs_aD_2_2 hD) hS [1, 2, 3, 0] rfl (fun _ => rfl) (fun _ => gs_adr2 (gs_adr _ _ _ _ _ _) (gs_adr _ _ _ _ _ _)) (fun r7 u8 H locs hw8 hP hD hS => ?_)
      have hP := rs_b_2_2 hP
      have hD := rs_bD_2_2 hD
      obtain ⟨rfl, hw9⟩ := hw8
      have h9 : u8 = 1 := hw9.elim (fun z => absurd z.1 hf) (fun z => z.2)
      subst h9
      have hP : va_P D vC (((([(ou, kl cJ 1 (vp_updL V 0 (lk 1))), (h, rO od fa ot ah te id rt bs kn), (fa, go cO 4 fr), (ot, go cO 4 er), (ah, ka cJ 13 a), (te, ka cJ 31 T), (id, ka cJ 5 J), (rt, rR fo cn wh pt rs sq on tw), (fo, ka cJ 4 Fo), (wh, ka cJ 5 Y), (pt, ka cJ 5 P), (rs, ka cJ 5 r), (sq, ka cJ 8 S), (on, ka cJ 5 a1), (tw, ka cJ 5 b1), (bs, rB ro le me bn), (ro, go cO 17 ra), (le, ki cI 13 Lx), (me, go cO 13 mb), (g, rM cd od fc hd md lo lv tb rw bm mn nu tu), (fc, k2 cJ 20 5 G), (hd, ka cJ 13 a2), (md, ka cJ 17 P2), (lo, k2 cJ 20 5 E2), (tb, k2 cJ 221 13 M2), (rw, ki cI 13 L2), (bm, k2 cJ 169 13 B2), (nu, ka cJ 31 T2), (tu, k2 cJ 20 5 U2)] ++ gs 4 er cJ 5 (gtE F o (if (sx xs (k + 1)) = 0 then 0 else 1) (lwd (sx xs (k + 2)) (sx xs (k + 3))) E)) ++ gs 4 fr cJ 5 F) ++ gs 13 mb cJ 13 Bm) ++ gs 17 ra cJ 13 M) H := hP
      have hD : va_D A (((([(ou, kl cJ 1 (vp_updL V 0 (lk 1))), (h, rO od fa ot ah te id rt bs kn), (fa, go cO 4 fr), (ot, go cO 4 er), (ah, ka cJ 13 a), (te, ka cJ 31 T), (id, ka cJ 5 J), (rt, rR fo cn wh pt rs sq on tw), (fo, ka cJ 4 Fo), (wh, ka cJ 5 Y), (pt, ka cJ 5 P), (rs, ka cJ 5 r), (sq, ka cJ 8 S), (on, ka cJ 5 a1), (tw, ka cJ 5 b1), (bs, rB ro le me bn), (ro, go cO 17 ra), (le, ki cI 13 Lx), (me, go cO 13 mb), (g, rM cd od fc hd md lo lv tb rw bm mn nu tu), (fc, k2 cJ 20 5 G), (hd, ka cJ 13 a2), (md, ka cJ 17 P2), (lo, k2 cJ 20 5 E2), (tb, k2 cJ 221 13 M2), (rw, ki cI 13 L2), (bm, k2 cJ 169 13 B2), (nu, ka cJ 31 T2), (tu, k2 cJ 20 5 U2)] ++ gs 4 er cJ 5 (gtE F o (if (sx xs (k + 1)) = 0 then 0 else 1) (lwd (sx xs (k + 2)) (sx xs (k + 3))) E)) ++ gs 4 fr cJ 5 F) ++ gs 13 mb cJ 13 Bm) ++ gs 17 ra cJ 13 M) := hD
      refine lv_istore (lv' := [(5, .int (iz 0)), (0, .ref b), (1, .ref h), (2, .ref g), (3, .ref ou), (4, .int (iz z4))]) hx hb d_L_law_681 hl (by decide) rfl (fun ls hl => ?_)
      refine lv_aload_n hx hb d_L_law_683 rfl (lv_at hl 3 rfl) ?_
      refine lv_aload_n hx hb d_L_law_684 rfl (lv_at hl 1 rfl) ?_
      refine lv_iload hx hb d_L_law_685 (lv_at hl 5 rfl) ?_
      refine rz_iconst hx hb d_L_law_687 ?_
      refine rz_iadd hx hb d_L_law_688 ?_
      refine rl_sld hx hb hX hbl hbA hS (k + 1) d_L_law_689 ?_
      refine rb_bool (t1 := 697) (t2 := 698) hx hb d_L_law_690 (by decide) d_L_law_693 d_L_law_694 (by decide) d_L_law_697 rfl (by omega) ?_
      refine lv_aload_n hx hb d_L_law_698 rfl (lv_at hl 1 rfl) ?_
      refine lv_iload hx hb d_L_law_699 (lv_at hl 5 rfl) ?_
      refine rz_iconst hx hb d_L_law_701 ?_
      refine rz_iadd hx hb d_L_law_702 ?_
      refine rl_sld hx hb hX hbl hbA hS (k + 2) d_L_law_703 ?_
      refine lv_i2l hx hb d_L_law_704 rfl ?_
      refine rz_bipush hx hb d_L_law_705 (by decide) ?_
      refine lv_lshl hx hb d_L_law_707 rfl ?_
      refine lv_aload_n hx hb d_L_law_708 rfl (lv_at hl 1 rfl) ?_
      refine lv_iload hx hb d_L_law_709 (lv_at hl 5 rfl) ?_
      refine rz_iconst hx hb d_L_law_711 ?_
      refine rz_iadd hx hb d_L_law_712 ?_
      refine rl_sld hx hb hX hbl hbA hS (k + 3) d_L_law_713 ?_
      refine lv_i2l hx hb d_L_law_714 rfl ?_
      refine lv_ldc2 (v := 4294967295) hx hb hown (hts _ kw_712) d_L_law_715 ?_
      refine lv_land hx hb d_L_law_718 ?_
      refine lv_lor hx hb d_L_law_719 ?_
      refine rc_calli (va_runV (As := [.int (iz (if (sx xs (k + 1)) = 0 then 0 else 1)), .long (lwd (sx xs (k + 2)) (sx xs (k + 3)))]) (rest := []) ⟨hx, hb, hml, hown, hts⟩ (m_M_regular l D cJ cI g cd od fc hd md lo lv tb rw bm mn nu tu G E2 (if (sx xs (k + 1)) = 0 then 0 else 1) (lwd (sx xs (k + 2)) (sx xs (k + 3))) o hod ho3 hze.1 hze.2) (cwV 2 hts (kb_gi (kb_c kw_668 (kb_c kw_669 (kb_c kw_670 (kb_c kw_5 (kb_c kw_671 kb_all)))))) rfl rfl rfl (by decide +kernel) ⟨Nat.le_of_ble_eq_true rfl, Nat.le_of_ble_eq_true rfl⟩) ⟨rc_blind, va_recv hK hP (ci := 3) (q0 := 19) rfl rfl, rc_pre hP hD hK hN [19, 20, 23] rfl rfl [0, 2] rfl⟩ rfl rfl hl.1 rfl (lv_room (Nat.le_of_ble_eq_true rfl)) d_L_law_720 ⟨hfc, hfs⟩) hP hD hS [19, 20, 23] rfl (fun _ => rfl) (fun r9 u10 H locs hw10 hP hD hS => ?_)
      have h9 : u10 = (0, (mtL (mtE G E2 (if (sx xs (k + 1)) = 0 then 0 else 1) (lwd (sx xs (k + 2)) (sx xs (k + 3)))) (if (sx xs (k + 1)) = 0 then 0 else 1)), (mtE G E2 (if (sx xs (k + 1)) = 0 then 0 else 1) (lwd (sx xs (k + 2)) (sx xs (k + 3))))) ∧ r9 = iz 1 := by
        rcases hw10 with ⟨h6, h7, h8⟩ | ⟨h6, h7, h8⟩
        · exact ⟨h7, by rw [h8, if_neg (by rw [← lw_reg hI ho3 haz]; exact hf)]⟩
        · exact absurd h6 (fun z => hz ((lw_az hI ho3).mpr z))
      obtain ⟨rfl, rfl⟩ := h9
      have hP : va_P D vC (((([(ou, kl cJ 1 (vp_updL V 0 (lk 1))), (h, rO od fa ot ah te id rt bs kn), (fa, go cO 4 fr), (ot, go cO 4 er), (ah, ka cJ 13 a), (te, ka cJ 31 T), (id, ka cJ 5 J), (rt, rR fo cn wh pt rs sq on tw), (fo, ka cJ 4 Fo), (wh, ka cJ 5 Y), (pt, ka cJ 5 P), (rs, ka cJ 5 r), (sq, ka cJ 8 S), (on, ka cJ 5 a1), (tw, ka cJ 5 b1), (bs, rB ro le me bn), (ro, go cO 17 ra), (le, ki cI 13 Lx), (me, go cO 13 mb), (g, rM 0 od fc hd md lo (mtL (mtE G E2 (if (sx xs (k + 1)) = 0 then 0 else 1) (lwd (sx xs (k + 2)) (sx xs (k + 3)))) (if (sx xs (k + 1)) = 0 then 0 else 1)) tb rw bm mn nu tu), (fc, k2 cJ 20 5 G), (hd, ka cJ 13 a2), (md, ka cJ 17 P2), (lo, k2 cJ 20 5 (mtE G E2 (if (sx xs (k + 1)) = 0 then 0 else 1) (lwd (sx xs (k + 2)) (sx xs (k + 3))))), (tb, k2 cJ 221 13 M2), (rw, ki cI 13 L2), (bm, k2 cJ 169 13 B2), (nu, ka cJ 31 T2), (tu, k2 cJ 20 5 U2)] ++ gs 4 er cJ 5 (gtE F o (if (sx xs (k + 1)) = 0 then 0 else 1) (lwd (sx xs (k + 2)) (sx xs (k + 3))) E)) ++ gs 4 fr cJ 5 F) ++ gs 13 mb cJ 13 Bm) ++ gs 17 ra cJ 13 M) H := hP
      have hD : va_D A (((([(ou, kl cJ 1 (vp_updL V 0 (lk 1))), (h, rO od fa ot ah te id rt bs kn), (fa, go cO 4 fr), (ot, go cO 4 er), (ah, ka cJ 13 a), (te, ka cJ 31 T), (id, ka cJ 5 J), (rt, rR fo cn wh pt rs sq on tw), (fo, ka cJ 4 Fo), (wh, ka cJ 5 Y), (pt, ka cJ 5 P), (rs, ka cJ 5 r), (sq, ka cJ 8 S), (on, ka cJ 5 a1), (tw, ka cJ 5 b1), (bs, rB ro le me bn), (ro, go cO 17 ra), (le, ki cI 13 Lx), (me, go cO 13 mb), (g, rM 0 od fc hd md lo (mtL (mtE G E2 (if (sx xs (k + 1)) = 0 then 0 else 1) (lwd (sx xs (k + 2)) (sx xs (k + 3)))) (if (sx xs (k + 1)) = 0 then 0 else 1)) tb rw bm mn nu tu), (fc, k2 cJ 20 5 G), (hd, ka cJ 13 a2), (md, ka cJ 17 P2), (lo, k2 cJ 20 5 (mtE G E2 (if (sx xs (k + 1)) = 0 then 0 else 1) (lwd (sx xs (k + 2)) (sx xs (k + 3))))), (tb, k2 cJ 221 13 M2), (rw, ki cI 13 L2), (bm, k2 cJ 169 13 B2), (nu, ka cJ 31 T2), (tu, k2 cJ 20 5 U2)] ++ gs 4 er cJ 5 (gtE F o (if (sx xs (k + 1)) = 0 then 0 else 1) (lwd (sx xs (k + 2)) (sx xs (k + 3))) E)) ++ gs 4 fr cJ 5 F) ++ gs 13 mb cJ 13 Bm) ++ gs 17 ra cJ 13 M) := hD
      refine lv_istore (lv' := [(6, .int (iz 1)), (5, .int (iz 0)), (0, .ref b), (1, .ref h), (2, .ref g), (3, .ref ou), (4, .int (iz z4))]) hx hb d_L_law_723 hl (by decide) rfl (fun ls hl => ?_)
      refine lv_aload_n hx hb d_L_law_725 rfl (lv_at hl 4 rfl) ?_
      refine rc_calli (va_runV (As := []) (rest := []) ⟨hx, hb, hml, hown, hts⟩ (m_M_thrown l D g 0 od fc hd md lo (mtL (mtE G E2 (if (sx xs (k + 1)) = 0 then 0 else 1) (lwd (sx xs (k + 2)) (sx xs (k + 3)))) (if (sx xs (k + 1)) = 0 then 0 else 1)) tb rw bm mn nu tu) (cwV 0 hts (kb_gi (kb_c kw_570 (kb_c kw_571 (kb_c kw_572 (kb_c kw_5 (kb_c kw_573 kb_all)))))) rfl rfl rfl (by decide +kernel) ⟨Nat.le_of_ble_eq_true rfl, Nat.le_of_ble_eq_true rfl⟩) ⟨rc_blind, va_recv hK hP (ci := 3) (q0 := 19) rfl rfl, rc_pre hP hD hK hN [19] rfl rfl [] rfl⟩ rfl rfl hl.1 rfl (lv_room (Nat.le_of_ble_eq_true rfl)) d_L_law_726 ⟨hfc, hfs⟩) hP hD hS [19] rfl (fun _ => rfl) (fun r11 u12 H locs hw12 hP hD hS => ?_)
      subst hw12
      have hP : va_P D vC (((([(ou, kl cJ 1 (vp_updL V 0 (lk 1))), (h, rO od fa ot ah te id rt bs kn), (fa, go cO 4 fr), (ot, go cO 4 er), (ah, ka cJ 13 a), (te, ka cJ 31 T), (id, ka cJ 5 J), (rt, rR fo cn wh pt rs sq on tw), (fo, ka cJ 4 Fo), (wh, ka cJ 5 Y), (pt, ka cJ 5 P), (rs, ka cJ 5 r), (sq, ka cJ 8 S), (on, ka cJ 5 a1), (tw, ka cJ 5 b1), (bs, rB ro le me bn), (ro, go cO 17 ra), (le, ki cI 13 Lx), (me, go cO 13 mb), (g, rM 0 od fc hd md lo (mtL (mtE G E2 (if (sx xs (k + 1)) = 0 then 0 else 1) (lwd (sx xs (k + 2)) (sx xs (k + 3)))) (if (sx xs (k + 1)) = 0 then 0 else 1)) tb rw bm mn nu tu), (fc, k2 cJ 20 5 G), (hd, ka cJ 13 a2), (md, ka cJ 17 P2), (lo, k2 cJ 20 5 (mtE G E2 (if (sx xs (k + 1)) = 0 then 0 else 1) (lwd (sx xs (k + 2)) (sx xs (k + 3))))), (tb, k2 cJ 221 13 M2), (rw, ki cI 13 L2), (bm, k2 cJ 169 13 B2), (nu, ka cJ 31 T2), (tu, k2 cJ 20 5 U2)] ++ gs 4 er cJ 5 (gtE F o (if (sx xs (k + 1)) = 0 then 0 else 1) (lwd (sx xs (k + 2)) (sx xs (k + 3))) E)) ++ gs 4 fr cJ 5 F) ++ gs 13 mb cJ 13 Bm) ++ gs 17 ra cJ 13 M) H := hP
      have hD : va_D A (((([(ou, kl cJ 1 (vp_updL V 0 (lk 1))), (h, rO od fa ot ah te id rt bs kn), (fa, go cO 4 fr), (ot, go cO 4 er), (ah, ka cJ 13 a), (te, ka cJ 31 T), (id, ka cJ 5 J), (rt, rR fo cn wh pt rs sq on tw), (fo, ka cJ 4 Fo), (wh, ka cJ 5 Y), (pt, ka cJ 5 P), (rs, ka cJ 5 r), (sq, ka cJ 8 S), (on, ka cJ 5 a1), (tw, ka cJ 5 b1), (bs, rB ro le me bn), (ro, go cO 17 ra), (le, ki cI 13 Lx), (me, go cO 13 mb), (g, rM 0 od fc hd md lo (mtL (mtE G E2 (if (sx xs (k + 1)) = 0 then 0 else 1) (lwd (sx xs (k + 2)) (sx xs (k + 3)))) (if (sx xs (k + 1)) = 0 then 0 else 1)) tb rw bm mn nu tu), (fc, k2 cJ 20 5 G), (hd, ka cJ 13 a2), (md, ka cJ 17 P2), (lo, k2 cJ 20 5 (mtE G E2 (if (sx xs (k + 1)) = 0 then 0 else 1) (lwd (sx xs (k + 2)) (sx xs (k + 3))))), (tb, k2 cJ 221 13 M2), (rw, ki cI 13 L2), (bm, k2 cJ 169 13 B2), (nu, ka cJ 31 T2), (tu, k2 cJ 20 5 U2)] ++ gs 4 er cJ 5 (gtE F o (if (sx xs (k + 1)) = 0 then 0 else 1) (lwd (sx xs (k + 2)) (sx xs (k + 3))) E)) ++ gs 4 fr cJ 5 F) ++ gs 13 mb cJ 13 Bm) ++ gs 17 ra cJ 13 M) := hD
      refine lv_iload hx hb d_L_law_729 (lv_at hl 1 rfl) ?_
      refine rl_icmp_eq (tgt := 736) hx hb d_L_law_731 (by decide) rfl ?_
      refine lv_iload hx hb d_L_law_736 (lv_at hl 1 rfl) ?_
      refine rz_if_ne (tgt := 760) hx hb d_L_law_738 (by decide) (fun hc => absurd rfl hc) (fun _ => ?_)
      refine lv_aload_n hx hb d_L_law_741 rfl (lv_at hl 5 rfl) ?_
      refine rz_iconst hx hb d_L_law_742 ?_
      refine rl_ld hx hb hK hP 0 0 rfl rfl 0 d_L_law_743 ?_
      rw [vp_self]
      refine lv_iload hx hb d_L_law_744 (lv_at hl 0 rfl) ?_
      refine rz_if_eq (tgt := 753) hx hb d_L_law_746 (by decide) (fun hc => absurd hc (by decide)) (fun _ => ?_)
      refine lv_lconst (v := lk 1) hx hb d_L_law_749 rfl ?_
      refine lv_goto (tgt := 754) hx hb d_L_law_750 (by decide) ?_
      refine rl_lcmp_eq (tgt := 760) hx hb d_L_law_754 d_L_law_755 (by decide) rfl ?_
      refine lv_goto (tgt := 1338) hx hb d_L_law_760 (by decide) ?_
      refine W.widen (k := kc + 1) (n := ks + 6) (by omega) (by omega) ?_
      exact hend (vp_updL V 0 (lk 1)) kn a T J cn Fo Y P r S a1 b1 bn Lx (gtE F o (if (sx xs (k + 1)) = 0 then 0 else 1) (lwd (sx xs (k + 2)) (sx xs (k + 3))) E) F Bm M 0 (mtL (mtE G E2 (if (sx xs (k + 1)) = 0 then 0 else 1) (lwd (sx xs (k + 2)) (sx xs (k + 3)))) (if (sx xs (k + 1)) = 0 then 0 else 1)) mn G a2 P2 (mtE G E2 (if (sx xs (k + 1)) = 0 then 0 else 1) (lwd (sx xs (k + 2)) (sx xs (k + 3)))) M2 L2 B2 T2 U2 H locs ls ⟨lw_E hI (lw_lv hI ho3 haz (if (sx xs (k + 1)) = 0 then 0 else 1) (lwd (sx xs (k + 2)) (sx xs (k + 3))) E2).2.1, hJ⟩ hP hD hS (lv_sub hl [2, 3, 4, 5, 6] rfl)
  · have hz := Decidable.not_not.mp hz
    refine lv_aload_n hx hb d_L_law_640 rfl (lv_at hl 1 rfl) ?_
    refine lv_aload_n hx hb d_L_law_641 rfl (lv_at hl 0 rfl) ?_
    refine lv_iload hx hb d_L_law_642 (lv_at hl 4 rfl) ?_
    refine rz_iconst hx hb d_L_law_644 ?_
    refine rz_iadd hx hb d_L_law_645 ?_
    refine rl_sld hx hb hX hbl hbA hS (k + 1) d_L_law_646 ?_
    refine rb_bool (t1 := 654) (t2 := 655) hx hb d_L_law_647 (by decide) d_L_law_650 d_L_law_651 (by decide) d_L_law_654 rfl (by omega) ?_
    refine lv_aload_n hx hb d_L_law_655 rfl (lv_at hl 0 rfl) ?_
    refine lv_iload hx hb d_L_law_656 (lv_at hl 4 rfl) ?_
    refine rz_iconst hx hb d_L_law_658 ?_
    refine rz_iadd hx hb d_L_law_659 ?_
    refine rl_sld hx hb hX hbl hbA hS (k + 2) d_L_law_660 ?_
    refine lv_i2l hx hb d_L_law_661 rfl ?_
    refine rz_bipush hx hb d_L_law_662 (by decide) ?_
    refine lv_lshl hx hb d_L_law_664 rfl ?_
    refine lv_aload_n hx hb d_L_law_665 rfl (lv_at hl 0 rfl) ?_
    refine lv_iload hx hb d_L_law_666 (lv_at hl 4 rfl) ?_
    refine rz_iconst hx hb d_L_law_668 ?_
    refine rz_iadd hx hb d_L_law_669 ?_
    refine rl_sld hx hb hX hbl hbA hS (k + 3) d_L_law_670 ?_
    refine lv_i2l hx hb d_L_law_671 rfl ?_
    refine lv_ldc2 (v := 4294967295) hx hb hown (hts _ kw_712) d_L_law_672 ?_
    refine lv_land hx hb d_L_law_675 ?_
    refine lv_lor hx hb d_L_law_676 ?_
    refine lv_aload_n hx hb d_L_law_677 rfl (lv_at hl 3 rfl) ?_
    refine rsM_calli (vx_runSW (hh := [((0 : Nat), (18 : Nat), (21 : Nat), (27 : Nat))]) (As := [.ref h, .int (iz (if (sx xs (k + 1)) = 0 then 0 else 1)), .long (lwd (sx xs (k + 2)) (sx xs (k + 3))), .ref ou]) (rest := []) ⟨hx, hb, hml, hown, hts⟩ (h_L_regular_t_S l D hst sa cJ cO h fa ot ah te id rt bs od kn ou V fr er E F (if (sx xs (k + 1)) = 0 then 0 else 1) (lwd (sx xs (k + 2)) (sx xs (k + 3))) o hod ho3 hz) (vx_cwSW 4 hts (kb_gi (kb_c kw_451 (kb_c kw_452 (kb_c kw_0 (kb_c kw_453 kb_all))))) rfl rfl rfl (by decide +kernel) ⟨Nat.le_of_ble_eq_true rfl, Nat.le_of_ble_eq_true rfl⟩) ⟨rx_blind, fun U h8 h9 => ⟨(rs_pre (rs_a_2_2 hP) (rs_aD_2_2 hD) hK hN [1, 2, 3, 0] rfl rfl [0, 1] rfl) U h8 h9, hE.go hS (rs_in (rs_aD_2_2 hD) (is := [1, 2, 3, 0]) rfl) h8 h9⟩⟩ rfl rfl hl.1 rfl (lv_room (Nat.le_of_ble_eq_true rfl)) d_L_law_678 ⟨hfc1, hfs1⟩) (rs_a_2_2 hP) (rs_aD_2_2 hD) hS [1, 2, 3, 0] rfl (fun _ => rfl) (fun _ => gs_adr2 (gs_adr _ _ _ _ _ _) (gs_adr _ _ _ _ _ _)) (fun r13 u14 H locs hw14 hP hD hS => ?_)
    have hP := rs_b_2_2 hP
    have hD := rs_bD_2_2 hD
    subst hw14
    have hP : va_P D vC (((([(ou, kl cJ 1 V), (h, rO od fa ot ah te id rt bs kn), (fa, go cO 4 fr), (ot, go cO 4 er), (ah, ka cJ 13 a), (te, ka cJ 31 T), (id, ka cJ 5 J), (rt, rR fo cn wh pt rs sq on tw), (fo, ka cJ 4 Fo), (wh, ka cJ 5 Y), (pt, ka cJ 5 P), (rs, ka cJ 5 r), (sq, ka cJ 8 S), (on, ka cJ 5 a1), (tw, ka cJ 5 b1), (bs, rB ro le me bn), (ro, go cO 17 ra), (le, ki cI 13 Lx), (me, go cO 13 mb), (g, rM cd od fc hd md lo lv tb rw bm mn nu tu), (fc, k2 cJ 20 5 G), (hd, ka cJ 13 a2), (md, ka cJ 17 P2), (lo, k2 cJ 20 5 E2), (tb, k2 cJ 221 13 M2), (rw, ki cI 13 L2), (bm, k2 cJ 169 13 B2), (nu, ka cJ 31 T2), (tu, k2 cJ 20 5 U2)] ++ gs 4 er cJ 5 E) ++ gs 4 fr cJ 5 F) ++ gs 13 mb cJ 13 Bm) ++ gs 17 ra cJ 13 M) H := hP
    have hD : va_D A (((([(ou, kl cJ 1 V), (h, rO od fa ot ah te id rt bs kn), (fa, go cO 4 fr), (ot, go cO 4 er), (ah, ka cJ 13 a), (te, ka cJ 31 T), (id, ka cJ 5 J), (rt, rR fo cn wh pt rs sq on tw), (fo, ka cJ 4 Fo), (wh, ka cJ 5 Y), (pt, ka cJ 5 P), (rs, ka cJ 5 r), (sq, ka cJ 8 S), (on, ka cJ 5 a1), (tw, ka cJ 5 b1), (bs, rB ro le me bn), (ro, go cO 17 ra), (le, ki cI 13 Lx), (me, go cO 13 mb), (g, rM cd od fc hd md lo lv tb rw bm mn nu tu), (fc, k2 cJ 20 5 G), (hd, ka cJ 13 a2), (md, ka cJ 17 P2), (lo, k2 cJ 20 5 E2), (tb, k2 cJ 221 13 M2), (rw, ki cI 13 L2), (bm, k2 cJ 169 13 B2), (nu, ka cJ 31 T2), (tu, k2 cJ 20 5 U2)] ++ gs 4 er cJ 5 E) ++ gs 4 fr cJ 5 F) ++ gs 13 mb cJ 13 Bm) ++ gs 17 ra cJ 13 M) := hD
    refine lv_istore (lv' := [(5, .int (iz 1)), (0, .ref b), (1, .ref h), (2, .ref g), (3, .ref ou), (4, .int (iz z4))]) hx hb d_L_law_681 hl (by decide) rfl (fun ls hl => ?_)
    refine lv_aload_n hx hb d_L_law_683 rfl (lv_at hl 3 rfl) ?_
    refine lv_aload_n hx hb d_L_law_684 rfl (lv_at hl 1 rfl) ?_
    refine lv_iload hx hb d_L_law_685 (lv_at hl 5 rfl) ?_
    refine rz_iconst hx hb d_L_law_687 ?_
    refine rz_iadd hx hb d_L_law_688 ?_
    refine rl_sld hx hb hX hbl hbA hS (k + 1) d_L_law_689 ?_
    refine rb_bool (t1 := 697) (t2 := 698) hx hb d_L_law_690 (by decide) d_L_law_693 d_L_law_694 (by decide) d_L_law_697 rfl (by omega) ?_
    refine lv_aload_n hx hb d_L_law_698 rfl (lv_at hl 1 rfl) ?_
    refine lv_iload hx hb d_L_law_699 (lv_at hl 5 rfl) ?_
    refine rz_iconst hx hb d_L_law_701 ?_
    refine rz_iadd hx hb d_L_law_702 ?_
    refine rl_sld hx hb hX hbl hbA hS (k + 2) d_L_law_703 ?_
    refine lv_i2l hx hb d_L_law_704 rfl ?_
    refine rz_bipush hx hb d_L_law_705 (by decide) ?_
    refine lv_lshl hx hb d_L_law_707 rfl ?_
    refine lv_aload_n hx hb d_L_law_708 rfl (lv_at hl 1 rfl) ?_
    refine lv_iload hx hb d_L_law_709 (lv_at hl 5 rfl) ?_
    refine rz_iconst hx hb d_L_law_711 ?_
    refine rz_iadd hx hb d_L_law_712 ?_
    refine rl_sld hx hb hX hbl hbA hS (k + 3) d_L_law_713 ?_
    refine lv_i2l hx hb d_L_law_714 rfl ?_
    refine lv_ldc2 (v := 4294967295) hx hb hown (hts _ kw_712) d_L_law_715 ?_
    refine lv_land hx hb d_L_law_718 ?_
    refine lv_lor hx hb d_L_law_719 ?_
    refine rc_calli (va_runV (As := [.int (iz (if (sx xs (k + 1)) = 0 then 0 else 1)), .long (lwd (sx xs (k + 2)) (sx xs (k + 3)))]) (rest := []) ⟨hx, hb, hml, hown, hts⟩ (m_M_regular l D cJ cI g cd od fc hd md lo lv tb rw bm mn nu tu G E2 (if (sx xs (k + 1)) = 0 then 0 else 1) (lwd (sx xs (k + 2)) (sx xs (k + 3))) o hod ho3 hze.1 hze.2) (cwV 2 hts (kb_gi (kb_c kw_668 (kb_c kw_669 (kb_c kw_670 (kb_c kw_5 (kb_c kw_671 kb_all)))))) rfl rfl rfl (by decide +kernel) ⟨Nat.le_of_ble_eq_true rfl, Nat.le_of_ble_eq_true rfl⟩) ⟨rc_blind, va_recv hK hP (ci := 3) (q0 := 19) rfl rfl, rc_pre hP hD hK hN [19, 20, 23] rfl rfl [0, 2] rfl⟩ rfl rfl hl.1 rfl (lv_room (Nat.le_of_ble_eq_true rfl)) d_L_law_720 ⟨hfc1, hfs1⟩) hP hD hS [19, 20, 23] rfl (fun _ => rfl) (fun r15 u16 H locs hw16 hP hD hS => ?_)
    have h9 : u16 = (1, lv, E2) ∧ r15 = iz 0 := by
      rcases hw16 with ⟨h6, h7, h8⟩ | ⟨h6, h7, h8⟩
      · exact absurd ((lw_az hI ho3).mp hz) h6
      · exact ⟨h7, h8⟩
    obtain ⟨rfl, rfl⟩ := h9
    have hP : va_P D vC (((([(ou, kl cJ 1 V), (h, rO od fa ot ah te id rt bs kn), (fa, go cO 4 fr), (ot, go cO 4 er), (ah, ka cJ 13 a), (te, ka cJ 31 T), (id, ka cJ 5 J), (rt, rR fo cn wh pt rs sq on tw), (fo, ka cJ 4 Fo), (wh, ka cJ 5 Y), (pt, ka cJ 5 P), (rs, ka cJ 5 r), (sq, ka cJ 8 S), (on, ka cJ 5 a1), (tw, ka cJ 5 b1), (bs, rB ro le me bn), (ro, go cO 17 ra), (le, ki cI 13 Lx), (me, go cO 13 mb), (g, rM 1 od fc hd md lo lv tb rw bm mn nu tu), (fc, k2 cJ 20 5 G), (hd, ka cJ 13 a2), (md, ka cJ 17 P2), (lo, k2 cJ 20 5 E2), (tb, k2 cJ 221 13 M2), (rw, ki cI 13 L2), (bm, k2 cJ 169 13 B2), (nu, ka cJ 31 T2), (tu, k2 cJ 20 5 U2)] ++ gs 4 er cJ 5 E) ++ gs 4 fr cJ 5 F) ++ gs 13 mb cJ 13 Bm) ++ gs 17 ra cJ 13 M) H := hP
    have hD : va_D A (((([(ou, kl cJ 1 V), (h, rO od fa ot ah te id rt bs kn), (fa, go cO 4 fr), (ot, go cO 4 er), (ah, ka cJ 13 a), (te, ka cJ 31 T), (id, ka cJ 5 J), (rt, rR fo cn wh pt rs sq on tw), (fo, ka cJ 4 Fo), (wh, ka cJ 5 Y), (pt, ka cJ 5 P), (rs, ka cJ 5 r), (sq, ka cJ 8 S), (on, ka cJ 5 a1), (tw, ka cJ 5 b1), (bs, rB ro le me bn), (ro, go cO 17 ra), (le, ki cI 13 Lx), (me, go cO 13 mb), (g, rM 1 od fc hd md lo lv tb rw bm mn nu tu), (fc, k2 cJ 20 5 G), (hd, ka cJ 13 a2), (md, ka cJ 17 P2), (lo, k2 cJ 20 5 E2), (tb, k2 cJ 221 13 M2), (rw, ki cI 13 L2), (bm, k2 cJ 169 13 B2), (nu, ka cJ 31 T2), (tu, k2 cJ 20 5 U2)] ++ gs 4 er cJ 5 E) ++ gs 4 fr cJ 5 F) ++ gs 13 mb cJ 13 Bm) ++ gs 17 ra cJ 13 M) := hD
    refine lv_istore (lv' := [(6, .int (iz 0)), (5, .int (iz 1)), (0, .ref b), (1, .ref h), (2, .ref g), (3, .ref ou), (4, .int (iz z4))]) hx hb d_L_law_723 hl (by decide) rfl (fun ls hl => ?_)
    refine lv_aload_n hx hb d_L_law_725 rfl (lv_at hl 4 rfl) ?_
    refine rc_calli (va_runV (As := []) (rest := []) ⟨hx, hb, hml, hown, hts⟩ (m_M_thrown l D g 1 od fc hd md lo lv tb rw bm mn nu tu) (cwV 0 hts (kb_gi (kb_c kw_570 (kb_c kw_571 (kb_c kw_572 (kb_c kw_5 (kb_c kw_573 kb_all)))))) rfl rfl rfl (by decide +kernel) ⟨Nat.le_of_ble_eq_true rfl, Nat.le_of_ble_eq_true rfl⟩) ⟨rc_blind, va_recv hK hP (ci := 3) (q0 := 19) rfl rfl, rc_pre hP hD hK hN [19] rfl rfl [] rfl⟩ rfl rfl hl.1 rfl (lv_room (Nat.le_of_ble_eq_true rfl)) d_L_law_726 ⟨hfc1, hfs1⟩) hP hD hS [19] rfl (fun _ => rfl) (fun r17 u18 H locs hw18 hP hD hS => ?_)
    subst hw18
    have hP : va_P D vC (((([(ou, kl cJ 1 V), (h, rO od fa ot ah te id rt bs kn), (fa, go cO 4 fr), (ot, go cO 4 er), (ah, ka cJ 13 a), (te, ka cJ 31 T), (id, ka cJ 5 J), (rt, rR fo cn wh pt rs sq on tw), (fo, ka cJ 4 Fo), (wh, ka cJ 5 Y), (pt, ka cJ 5 P), (rs, ka cJ 5 r), (sq, ka cJ 8 S), (on, ka cJ 5 a1), (tw, ka cJ 5 b1), (bs, rB ro le me bn), (ro, go cO 17 ra), (le, ki cI 13 Lx), (me, go cO 13 mb), (g, rM 1 od fc hd md lo lv tb rw bm mn nu tu), (fc, k2 cJ 20 5 G), (hd, ka cJ 13 a2), (md, ka cJ 17 P2), (lo, k2 cJ 20 5 E2), (tb, k2 cJ 221 13 M2), (rw, ki cI 13 L2), (bm, k2 cJ 169 13 B2), (nu, ka cJ 31 T2), (tu, k2 cJ 20 5 U2)] ++ gs 4 er cJ 5 E) ++ gs 4 fr cJ 5 F) ++ gs 13 mb cJ 13 Bm) ++ gs 17 ra cJ 13 M) H := hP
    have hD : va_D A (((([(ou, kl cJ 1 V), (h, rO od fa ot ah te id rt bs kn), (fa, go cO 4 fr), (ot, go cO 4 er), (ah, ka cJ 13 a), (te, ka cJ 31 T), (id, ka cJ 5 J), (rt, rR fo cn wh pt rs sq on tw), (fo, ka cJ 4 Fo), (wh, ka cJ 5 Y), (pt, ka cJ 5 P), (rs, ka cJ 5 r), (sq, ka cJ 8 S), (on, ka cJ 5 a1), (tw, ka cJ 5 b1), (bs, rB ro le me bn), (ro, go cO 17 ra), (le, ki cI 13 Lx), (me, go cO 13 mb), (g, rM 1 od fc hd md lo lv tb rw bm mn nu tu), (fc, k2 cJ 20 5 G), (hd, ka cJ 13 a2), (md, ka cJ 17 P2), (lo, k2 cJ 20 5 E2), (tb, k2 cJ 221 13 M2), (rw, ki cI 13 L2), (bm, k2 cJ 169 13 B2), (nu, ka cJ 31 T2), (tu, k2 cJ 20 5 U2)] ++ gs 4 er cJ 5 E) ++ gs 4 fr cJ 5 F) ++ gs 13 mb cJ 13 Bm) ++ gs 17 ra cJ 13 M) := hD
    refine lv_iload hx hb d_L_law_729 (lv_at hl 1 rfl) ?_
    refine rl_icmp_eq (tgt := 736) hx hb d_L_law_731 (by decide) rfl ?_
    refine lv_iload hx hb d_L_law_736 (lv_at hl 1 rfl) ?_
    refine rz_if_ne (tgt := 760) hx hb d_L_law_738 (by decide) (fun _ => ?_) (fun hc => absurd hc (by decide))
    refine lv_goto (tgt := 1338) hx hb d_L_law_760 (by decide) ?_
    refine W.widen (k := kc + 1) (n := ks + 6) (by omega) (by omega) ?_
    exact hend V kn a T J cn Fo Y P r S a1 b1 bn Lx E F Bm M 1 lv mn G a2 P2 E2 M2 L2 B2 T2 U2 H locs ls ⟨hI, hJ⟩ hP hD hS (lv_sub hl [2, 3, 4, 5, 6] rfl)
set_option maxHeartbeats 4000000 in
set_option maxRecDepth 100000 in
theorem lc_8 {cJ cO cI : ClassId} {ou h fa ot ah te id rt bs : Nat} {od : Int} {fo wh pt rs sq on tw : Nat} {ro le me : Nat} {fr er mb ra : Nat → Nat} {g : Nat} {fc hd md lo tb rw bm nu tu : Nat} {o : Nat} {sa : Nat → Nat} {ct b L : Nat} {xs : Nat → Int32} {V : Nat → Int64} {kn : Int} {a : Nat → ro_K} {T : Nat → ro_K} {J : Nat → ro_K} {cn : Int} {Fo : Nat → ro_K} {Y : Nat → ro_K} {P : Nat → ro_K} {r : Nat → ro_K} {S : Nat → ro_K} {a1 : Nat → ro_K} {b1 : Nat → ro_K} {bn : Int} {Lx : Nat → Int} {E : Nat → Nat → ro_K} {F : Nat → Nat → ro_K} {Bm : Nat → Nat → ro_K} {M : Nat → Nat → ro_K} {cd : Int} {lv : Int} {mn : Int} {G : Nat → Nat → ro_K} {a2 : Nat → ro_K} {P2 : Nat → ro_K} {E2 : Nat → Nat → ro_K} {M2 : Nat → Nat → ro_K} {L2 : Nat → Int} {B2 : Nat → Nat → ro_K} {T2 : Nat → ro_K} {U2 : Nat → Nat → ro_K} {z4 : Int} {k kc ks : Nat} {H : Heap} {locs : List Loc} {ls : Array Slot} (hx : p.tables.exec = Jvm.exec) (hb : c.code = c_L_law) (hml : c.maxLocals = 7) (hown : s.vm.findClass R_L = some m.cls) (hts : ∀ w ∈ kb, w.before args s = true) (hK : va_K D vC [(cJ, .long), (cO, .array .long), (cI, .int)] s) (hN : rc_N s) (hst : l.stackTraces = false) (hE : rx_E sa A s s.heap) (hC : rz_C ct A s s.heap) (hX : va_X b L xs s s.heap) (hbl : b < s.heap.size) (hbA : ¬ A b) (hL : L ≤ 5121) (hod : od = (o : Int)) (ho1 : 1 ≤ o) (ho3 : o ≤ 3) (hz4 : z4 = (k : Int)) (hk9 : k + 9 < L) (hkc : kc + 1 ≤ 601024) (hks : ks + 6 ≤ 7293000) (hI : (lw_I o F E a kn M Lx Bm bn G a2 ∧ J 4 = 0)) (hend : ∀ (V : Nat → Int64) (kn : Int) (a : Nat → ro_K) (T : Nat → ro_K) (J : Nat → ro_K) (cn : Int) (Fo : Nat → ro_K) (Y : Nat → ro_K) (P : Nat → ro_K) (r : Nat → ro_K) (S : Nat → ro_K) (a1 : Nat → ro_K) (b1 : Nat → ro_K) (bn : Int) (Lx : Nat → Int) (E : Nat → Nat → ro_K) (F : Nat → Nat → ro_K) (Bm : Nat → Nat → ro_K) (M : Nat → Nat → ro_K) (cd : Int) (lv : Int) (mn : Int) (G : Nat → Nat → ro_K) (a2 : Nat → ro_K) (P2 : Nat → ro_K) (E2 : Nat → Nat → ro_K) (M2 : Nat → Nat → ro_K) (L2 : Nat → Int) (B2 : Nat → Nat → ro_K) (T2 : Nat → ro_K) (U2 : Nat → Nat → ro_K) (H : Heap) (locs : List Loc) (ls : Array Slot), (lw_I o F E a kn M Lx Bm bn G a2 ∧ J 4 = 0) → va_P D vC (((([(ou, kl cJ 1 V), (h, rO od fa ot ah te id rt bs kn), (fa, go cO 4 fr), (ot, go cO 4 er), (ah, ka cJ 13 a), (te, ka cJ 31 T), (id, ka cJ 5 J), (rt, rR fo cn wh pt rs sq on tw), (fo, ka cJ 4 Fo), (wh, ka cJ 5 Y), (pt, ka cJ 5 P), (rs, ka cJ 5 r), (sq, ka cJ 8 S), (on, ka cJ 5 a1), (tw, ka cJ 5 b1), (bs, rB ro le me bn), (ro, go cO 17 ra), (le, ki cI 13 Lx), (me, go cO 13 mb), (g, rM cd od fc hd md lo lv tb rw bm mn nu tu), (fc, k2 cJ 20 5 G), (hd, ka cJ 13 a2), (md, ka cJ 17 P2), (lo, k2 cJ 20 5 E2), (tb, k2 cJ 221 13 M2), (rw, ki cI 13 L2), (bm, k2 cJ 169 13 B2), (nu, ka cJ 31 T2), (tu, k2 cJ 20 5 U2)] ++ gs 4 er cJ 5 E) ++ gs 4 fr cJ 5 F) ++ gs 13 mb cJ 13 Bm) ++ gs 17 ra cJ 13 M) H → va_D A (((([(ou, kl cJ 1 V), (h, rO od fa ot ah te id rt bs kn), (fa, go cO 4 fr), (ot, go cO 4 er), (ah, ka cJ 13 a), (te, ka cJ 31 T), (id, ka cJ 5 J), (rt, rR fo cn wh pt rs sq on tw), (fo, ka cJ 4 Fo), (wh, ka cJ 5 Y), (pt, ka cJ 5 P), (rs, ka cJ 5 r), (sq, ka cJ 8 S), (on, ka cJ 5 a1), (tw, ka cJ 5 b1), (bs, rB ro le me bn), (ro, go cO 17 ra), (le, ki cI 13 Lx), (me, go cO 13 mb), (g, rM cd od fc hd md lo lv tb rw bm mn nu tu), (fc, k2 cJ 20 5 G), (hd, ka cJ 13 a2), (md, ka cJ 17 P2), (lo, k2 cJ 20 5 E2), (tb, k2 cJ 221 13 M2), (rw, ki cI 13 L2), (bm, k2 cJ 169 13 B2), (nu, ka cJ 31 T2), (tu, k2 cJ 20 5 U2)] ++ gs 4 er cJ 5 E) ++ gs 4 fr cJ 5 F) ++ gs 13 mb cJ 13 Bm) ++ gs 17 ra cJ 13 M) → va_S A s.heap H locs → lv_has ls 7 [(0, .ref b), (1, .ref h), (2, .ref g), (3, .ref ou), (4, .int (iz z4))] → W p l e room_1 s m args below meth c H locs (kc + 1) (ks + 6) Q (F0 m 1338 ls [])) (hP : va_P D vC (((([(ou, kl cJ 1 V), (h, rO od fa ot ah te id rt bs kn), (fa, go cO 4 fr), (ot, go cO 4 er), (ah, ka cJ 13 a), (te, ka cJ 31 T), (id, ka cJ 5 J), (rt, rR fo cn wh pt rs sq on tw), (fo, ka cJ 4 Fo), (wh, ka cJ 5 Y), (pt, ka cJ 5 P), (rs, ka cJ 5 r), (sq, ka cJ 8 S), (on, ka cJ 5 a1), (tw, ka cJ 5 b1), (bs, rB ro le me bn), (ro, go cO 17 ra), (le, ki cI 13 Lx), (me, go cO 13 mb), (g, rM cd od fc hd md lo lv tb rw bm mn nu tu), (fc, k2 cJ 20 5 G), (hd, ka cJ 13 a2), (md, ka cJ 17 P2), (lo, k2 cJ 20 5 E2), (tb, k2 cJ 221 13 M2), (rw, ki cI 13 L2), (bm, k2 cJ 169 13 B2), (nu, ka cJ 31 T2), (tu, k2 cJ 20 5 U2)] ++ gs 4 er cJ 5 E) ++ gs 4 fr cJ 5 F) ++ gs 13 mb cJ 13 Bm) ++ gs 17 ra cJ 13 M) H) (hD : va_D A (((([(ou, kl cJ 1 V), (h, rO od fa ot ah te id rt bs kn), (fa, go cO 4 fr), (ot, go cO 4 er), (ah, ka cJ 13 a), (te, ka cJ 31 T), (id, ka cJ 5 J), (rt, rR fo cn wh pt rs sq on tw), (fo, ka cJ 4 Fo), (wh, ka cJ 5 Y), (pt, ka cJ 5 P), (rs, ka cJ 5 r), (sq, ka cJ 8 S), (on, ka cJ 5 a1), (tw, ka cJ 5 b1), (bs, rB ro le me bn), (ro, go cO 17 ra), (le, ki cI 13 Lx), (me, go cO 13 mb), (g, rM cd od fc hd md lo lv tb rw bm mn nu tu), (fc, k2 cJ 20 5 G), (hd, ka cJ 13 a2), (md, ka cJ 17 P2), (lo, k2 cJ 20 5 E2), (tb, k2 cJ 221 13 M2), (rw, ki cI 13 L2), (bm, k2 cJ 169 13 B2), (nu, ka cJ 31 T2), (tu, k2 cJ 20 5 U2)] ++ gs 4 er cJ 5 E) ++ gs 4 fr cJ 5 F) ++ gs 13 mb cJ 13 Bm) ++ gs 17 ra cJ 13 M)) (hS : va_S A s.heap H locs) (hl : lv_has ls 7 [(0, .ref b), (1, .ref h), (2, .ref g), (3, .ref ou), (4, .int (iz z4))]) : W p l e room_1 s m args below meth c H locs kc ks Q (F0 m 763 ls []) := by
  obtain ⟨hI, hJ⟩ := hI
  have hs1 := sx_in xs (k + 1)
  have hs2 := sx_in xs (k + 2)
  have hs3 := sx_in xs (k + 3)
  have hs4 := sx_in xs (k + 4)
  have hfc : kc + 0 ≤ room_1.cells := by show kc + 0 ≤ 601024; omega
  have hfs : ks + 0 ≤ room_1.slots := by show ks + 0 ≤ 7293000; omega
  have hfc1 : kc + 1 ≤ room_1.cells := hkc
  have hfs1 : ks + 6 ≤ room_1.slots := hks
  have hze := b01 (sx xs (k + 1))
  by_cases hz : ¬ azB F (o + 1) = true
  · have haz : azB F (o + 1) = false := by
      cases h9 : azB F (o + 1)
      · rfl
      · exact absurd h9 hz
    refine lv_aload_n hx hb d_L_law_763 rfl (lv_at hl 1 rfl) ?_
    refine lv_aload_n hx hb d_L_law_764 rfl (lv_at hl 0 rfl) ?_
    refine lv_iload hx hb d_L_law_765 (lv_at hl 4 rfl) ?_
    refine rz_iconst hx hb d_L_law_767 ?_
    refine rz_iadd hx hb d_L_law_768 ?_
    refine rl_sld hx hb hX hbl hbA hS (k + 1) d_L_law_769 ?_
    refine rb_bool (t1 := 777) (t2 := 778) hx hb d_L_law_770 (by decide) d_L_law_773 d_L_law_774 (by decide) d_L_law_777 rfl (by omega) ?_
    refine lv_aload_n hx hb d_L_law_778 rfl (lv_at hl 0 rfl) ?_
    refine lv_iload hx hb d_L_law_779 (lv_at hl 4 rfl) ?_
    refine rz_iconst hx hb d_L_law_781 ?_
    refine rz_iadd hx hb d_L_law_782 ?_
    refine rl_sld hx hb hX hbl hbA hS (k + 2) d_L_law_783 ?_
    refine lv_i2l hx hb d_L_law_784 rfl ?_
    refine rz_bipush hx hb d_L_law_785 (by decide) ?_
    refine lv_lshl hx hb d_L_law_787 rfl ?_
    refine lv_aload_n hx hb d_L_law_788 rfl (lv_at hl 0 rfl) ?_
    refine lv_iload hx hb d_L_law_789 (lv_at hl 4 rfl) ?_
    refine rz_iconst hx hb d_L_law_791 ?_
    refine rz_iadd hx hb d_L_law_792 ?_
    refine rl_sld hx hb hX hbl hbA hS (k + 3) d_L_law_793 ?_
    refine lv_i2l hx hb d_L_law_794 rfl ?_
    refine lv_ldc2 (v := 4294967295) hx hb hown (hts _ kw_712) d_L_law_795 ?_
    refine lv_land hx hb d_L_law_798 ?_
    refine lv_lor hx hb d_L_law_799 ?_
    refine lv_aload_n hx hb d_L_law_800 rfl (lv_at hl 0 rfl) ?_
    refine lv_iload hx hb d_L_law_801 (lv_at hl 4 rfl) ?_
    refine rz_iconst hx hb d_L_law_803 ?_
    refine rz_iadd hx hb d_L_law_804 ?_
    refine rl_sld hx hb hX hbl hbA hS (k + 4) d_L_law_805 ?_
    refine lv_aload_n hx hb d_L_law_806 rfl (lv_at hl 3 rfl) ?_
    refine rsM_calli (vx_runSW (hh := [((0 : Nat), (13 : Nat), (16 : Nat), (27 : Nat))]) (As := [.ref h, .int (iz (if (sx xs (k + 1)) = 0 then 0 else 1)), .long (lwd (sx xs (k + 2)) (sx xs (k + 3))), .int (iz (sx xs (k + 4))), .ref ou]) (rest := []) ⟨hx, hb, hml, hown, hts⟩ (h_L_exponent_S l D cJ cO h fa ot ah te id rt bs od kn ou V fo wh pt rs sq on tw cn Fo Y P r S a1 b1 fr er E F J (if (sx xs (k + 1)) = 0 then 0 else 1) (lwd (sx xs (k + 2)) (sx xs (k + 3))) (sx xs (k + 4)) o hod ho3 hze.1 hze.2 haz (by omega) (by omega) (lw_inF hI ho3 haz _ _ J) hJ) (vx_cwSW 5 hts (kb_gi (kb_c kw_458 (kb_c kw_459 (kb_c kw_0 (kb_c kw_460 kb_all))))) rfl rfl rfl (by decide +kernel) ⟨Nat.le_of_ble_eq_true rfl, Nat.le_of_ble_eq_true rfl⟩) ⟨rc_blind, rs_pre (rs_a_2_2 hP) (rs_aD_2_2 hD) hK hN [1, 2, 3, 6, 7, 8, 9, 10, 11, 12, 13, 14, 0] rfl rfl [0, 1] rfl⟩ rfl rfl hl.1 rfl (lv_room (Nat.le_of_ble_eq_true rfl)) d_L_law_807 ⟨hfc, hfs⟩) (rs_a_2_2 hP) (rs_aD_2_2 hD) hS [1, 2, 3, 6, 7, 8, 9, 10, 11, 12, 13, 14, 0] rfl (fun _ => rfl) (fun _ => gs_adr2 (gs_adr _ _ _ _ _ _) (gs_adr _ _ _ _ _ _)) (fun r1 u2 H locs hw2 hP hD hS => ?_)
    have hP := rs_b_2_2 hP
    have hD := rs_bD_2_2 hD
    obtain ⟨rfl, hw9⟩ := hw2
    obtain ⟨u8, rfl⟩ : ∃ z, z = u2 := ⟨_, rfl⟩
    have hP : va_P D vC (((([(ou, kl cJ 1 (vp_updL V 0 ((if 0 ≤ (sx xs (k + 4)) ∧ (sx xs (k + 4)) < (u8.1 : Int) then iz ((u8.2.1 ((sx xs (k + 4)).toNat)).val : Int) else iz (-1)).toInt64))), (h, rO od fa ot ah te id rt bs kn), (fa, go cO 4 fr), (ot, go cO 4 er), (ah, ka cJ 13 a), (te, ka cJ 31 T), (id, ka cJ 5 (inF (gtE F o (if (sx xs (k + 1)) = 0 then 0 else 1) (lwd (sx xs (k + 2)) (sx xs (k + 3))) E) (gtL (gtE F o (if (sx xs (k + 1)) = 0 then 0 else 1) (lwd (sx xs (k + 2)) (sx xs (k + 3))) E) o (if (sx xs (k + 1)) = 0 then 0 else 1)) J)), (rt, rR fo (u8.1 : Int) wh pt rs sq on tw), (fo, ka cJ 4 u8.2.1), (wh, ka cJ 5 u8.2.2.1), (pt, ka cJ 5 u8.2.2.2.1), (rs, ka cJ 5 u8.2.2.2.2.1), (sq, ka cJ 8 u8.2.2.2.2.2.1), (on, ka cJ 5 u8.2.2.2.2.2.2.1), (tw, ka cJ 5 u8.2.2.2.2.2.2.2), (bs, rB ro le me bn), (ro, go cO 17 ra), (le, ki cI 13 Lx), (me, go cO 13 mb), (g, rM cd od fc hd md lo lv tb rw bm mn nu tu), (fc, k2 cJ 20 5 G), (hd, ka cJ 13 a2), (md, ka cJ 17 P2), (lo, k2 cJ 20 5 E2), (tb, k2 cJ 221 13 M2), (rw, ki cI 13 L2), (bm, k2 cJ 169 13 B2), (nu, ka cJ 31 T2), (tu, k2 cJ 20 5 U2)] ++ gs 4 er cJ 5 (gtE F o (if (sx xs (k + 1)) = 0 then 0 else 1) (lwd (sx xs (k + 2)) (sx xs (k + 3))) E)) ++ gs 4 fr cJ 5 F) ++ gs 13 mb cJ 13 Bm) ++ gs 17 ra cJ 13 M) H := hP
    have hD : va_D A (((([(ou, kl cJ 1 (vp_updL V 0 ((if 0 ≤ (sx xs (k + 4)) ∧ (sx xs (k + 4)) < (u8.1 : Int) then iz ((u8.2.1 ((sx xs (k + 4)).toNat)).val : Int) else iz (-1)).toInt64))), (h, rO od fa ot ah te id rt bs kn), (fa, go cO 4 fr), (ot, go cO 4 er), (ah, ka cJ 13 a), (te, ka cJ 31 T), (id, ka cJ 5 (inF (gtE F o (if (sx xs (k + 1)) = 0 then 0 else 1) (lwd (sx xs (k + 2)) (sx xs (k + 3))) E) (gtL (gtE F o (if (sx xs (k + 1)) = 0 then 0 else 1) (lwd (sx xs (k + 2)) (sx xs (k + 3))) E) o (if (sx xs (k + 1)) = 0 then 0 else 1)) J)), (rt, rR fo (u8.1 : Int) wh pt rs sq on tw), (fo, ka cJ 4 u8.2.1), (wh, ka cJ 5 u8.2.2.1), (pt, ka cJ 5 u8.2.2.2.1), (rs, ka cJ 5 u8.2.2.2.2.1), (sq, ka cJ 8 u8.2.2.2.2.2.1), (on, ka cJ 5 u8.2.2.2.2.2.2.1), (tw, ka cJ 5 u8.2.2.2.2.2.2.2), (bs, rB ro le me bn), (ro, go cO 17 ra), (le, ki cI 13 Lx), (me, go cO 13 mb), (g, rM cd od fc hd md lo lv tb rw bm mn nu tu), (fc, k2 cJ 20 5 G), (hd, ka cJ 13 a2), (md, ka cJ 17 P2), (lo, k2 cJ 20 5 E2), (tb, k2 cJ 221 13 M2), (rw, ki cI 13 L2), (bm, k2 cJ 169 13 B2), (nu, ka cJ 31 T2), (tu, k2 cJ 20 5 U2)] ++ gs 4 er cJ 5 (gtE F o (if (sx xs (k + 1)) = 0 then 0 else 1) (lwd (sx xs (k + 2)) (sx xs (k + 3))) E)) ++ gs 4 fr cJ 5 F) ++ gs 13 mb cJ 13 Bm) ++ gs 17 ra cJ 13 M) := hD
    refine lv_istore (lv' := [(5, .int (iz 0)), (0, .ref b), (1, .ref h), (2, .ref g), (3, .ref ou), (4, .int (iz z4))]) hx hb d_L_law_810 hl (by decide) rfl (fun ls hl => ?_)
    refine lv_aload_n hx hb d_L_law_812 rfl (lv_at hl 3 rfl) ?_
    refine lv_aload_n hx hb d_L_law_813 rfl (lv_at hl 1 rfl) ?_
    refine lv_iload hx hb d_L_law_814 (lv_at hl 5 rfl) ?_
    refine rz_iconst hx hb d_L_law_816 ?_
    refine rz_iadd hx hb d_L_law_817 ?_
    refine rl_sld hx hb hX hbl hbA hS (k + 1) d_L_law_818 ?_
    refine rb_bool (t1 := 826) (t2 := 827) hx hb d_L_law_819 (by decide) d_L_law_822 d_L_law_823 (by decide) d_L_law_826 rfl (by omega) ?_
    refine lv_aload_n hx hb d_L_law_827 rfl (lv_at hl 1 rfl) ?_
    refine lv_iload hx hb d_L_law_828 (lv_at hl 5 rfl) ?_
    refine rz_iconst hx hb d_L_law_830 ?_
    refine rz_iadd hx hb d_L_law_831 ?_
    refine rl_sld hx hb hX hbl hbA hS (k + 2) d_L_law_832 ?_
    refine lv_i2l hx hb d_L_law_833 rfl ?_
    refine rz_bipush hx hb d_L_law_834 (by decide) ?_
    refine lv_lshl hx hb d_L_law_836 rfl ?_
    refine lv_aload_n hx hb d_L_law_837 rfl (lv_at hl 1 rfl) ?_
    refine lv_iload hx hb d_L_law_838 (lv_at hl 5 rfl) ?_
    refine rz_iconst hx hb d_L_law_840 ?_
    refine rz_iadd hx hb d_L_law_841 ?_
    refine rl_sld hx hb hX hbl hbA hS (k + 3) d_L_law_842 ?_
    refine lv_i2l hx hb d_L_law_843 rfl ?_
    refine lv_ldc2 (v := 4294967295) hx hb hown (hts _ kw_712) d_L_law_844 ?_
    refine lv_land hx hb d_L_law_847 ?_
    refine lv_lor hx hb d_L_law_848 ?_
    refine lv_aload_n hx hb d_L_law_849 rfl (lv_at hl 1 rfl) ?_
    refine lv_iload hx hb d_L_law_850 (lv_at hl 5 rfl) ?_
    refine rz_iconst hx hb d_L_law_852 ?_
    refine rz_iadd hx hb d_L_law_853 ?_
    refine rl_sld hx hb hX hbl hbA hS (k + 4) d_L_law_854 ?_
    refine rc_calli (va_runV (As := [.int (iz (if (sx xs (k + 1)) = 0 then 0 else 1)), .long (lwd (sx xs (k + 2)) (sx xs (k + 3))), .int (iz (sx xs (k + 4)))]) (rest := []) ⟨hx, hb, hml, hown, hts⟩ (m_M_exponent l D cJ cI g cd od fc hd md lo lv tb rw bm mn nu tu G E2 (if (sx xs (k + 1)) = 0 then 0 else 1) (lwd (sx xs (k + 2)) (sx xs (k + 3))) (sx xs (k + 4)) o hod ho3 (by omega) (by omega) hze.1 hze.2) (cwV 3 hts (kb_gi (kb_c kw_676 (kb_c kw_677 (kb_c kw_678 (kb_c kw_5 (kb_c kw_679 kb_all)))))) rfl rfl rfl (by decide +kernel) ⟨Nat.le_of_ble_eq_true rfl, Nat.le_of_ble_eq_true rfl⟩) ⟨rc_blind, va_recv hK hP (ci := 3) (q0 := 19) rfl rfl, rc_pre hP hD hK hN [19, 20, 23] rfl rfl [0, 2] rfl⟩ rfl rfl hl.1 rfl (lv_room (Nat.le_of_ble_eq_true rfl)) d_L_law_855 ⟨hfc, hfs⟩) hP hD hS [19, 20, 23] rfl (fun _ => rfl) (fun r3 u4 H locs hw4 hP hD hS => ?_)
    have h9 : u4 = (0, (mtL (mtE G E2 (if (sx xs (k + 1)) = 0 then 0 else 1) (lwd (sx xs (k + 2)) (sx xs (k + 3)))) (if (sx xs (k + 1)) = 0 then 0 else 1)), (mtE G E2 (if (sx xs (k + 1)) = 0 then 0 else 1) (lwd (sx xs (k + 2)) (sx xs (k + 3))))) ∧ r3 = (if 0 ≤ (sx xs (k + 4)) ∧ (sx xs (k + 4)) < (u8.1 : Int) then iz ((u8.2.1 ((sx xs (k + 4)).toNat)).val : Int) else iz (-1)) := by
      rcases hw4 with ⟨h6, h7, h8⟩ | ⟨h6, h7, h8⟩
      · exact ⟨h7, lw_exp hI ho3 haz _ _ E2 J hw9 h8⟩
      · exact absurd h6 (fun z => hz ((lw_az hI ho3).mpr z))
    obtain ⟨rfl, rfl⟩ := h9
    have hP : va_P D vC (((([(ou, kl cJ 1 (vp_updL V 0 ((if 0 ≤ (sx xs (k + 4)) ∧ (sx xs (k + 4)) < (u8.1 : Int) then iz ((u8.2.1 ((sx xs (k + 4)).toNat)).val : Int) else iz (-1)).toInt64))), (h, rO od fa ot ah te id rt bs kn), (fa, go cO 4 fr), (ot, go cO 4 er), (ah, ka cJ 13 a), (te, ka cJ 31 T), (id, ka cJ 5 (inF (gtE F o (if (sx xs (k + 1)) = 0 then 0 else 1) (lwd (sx xs (k + 2)) (sx xs (k + 3))) E) (gtL (gtE F o (if (sx xs (k + 1)) = 0 then 0 else 1) (lwd (sx xs (k + 2)) (sx xs (k + 3))) E) o (if (sx xs (k + 1)) = 0 then 0 else 1)) J)), (rt, rR fo (u8.1 : Int) wh pt rs sq on tw), (fo, ka cJ 4 u8.2.1), (wh, ka cJ 5 u8.2.2.1), (pt, ka cJ 5 u8.2.2.2.1), (rs, ka cJ 5 u8.2.2.2.2.1), (sq, ka cJ 8 u8.2.2.2.2.2.1), (on, ka cJ 5 u8.2.2.2.2.2.2.1), (tw, ka cJ 5 u8.2.2.2.2.2.2.2), (bs, rB ro le me bn), (ro, go cO 17 ra), (le, ki cI 13 Lx), (me, go cO 13 mb), (g, rM 0 od fc hd md lo (mtL (mtE G E2 (if (sx xs (k + 1)) = 0 then 0 else 1) (lwd (sx xs (k + 2)) (sx xs (k + 3)))) (if (sx xs (k + 1)) = 0 then 0 else 1)) tb rw bm mn nu tu), (fc, k2 cJ 20 5 G), (hd, ka cJ 13 a2), (md, ka cJ 17 P2), (lo, k2 cJ 20 5 (mtE G E2 (if (sx xs (k + 1)) = 0 then 0 else 1) (lwd (sx xs (k + 2)) (sx xs (k + 3))))), (tb, k2 cJ 221 13 M2), (rw, ki cI 13 L2), (bm, k2 cJ 169 13 B2), (nu, ka cJ 31 T2), (tu, k2 cJ 20 5 U2)] ++ gs 4 er cJ 5 (gtE F o (if (sx xs (k + 1)) = 0 then 0 else 1) (lwd (sx xs (k + 2)) (sx xs (k + 3))) E)) ++ gs 4 fr cJ 5 F) ++ gs 13 mb cJ 13 Bm) ++ gs 17 ra cJ 13 M) H := hP
    have hD : va_D A (((([(ou, kl cJ 1 (vp_updL V 0 ((if 0 ≤ (sx xs (k + 4)) ∧ (sx xs (k + 4)) < (u8.1 : Int) then iz ((u8.2.1 ((sx xs (k + 4)).toNat)).val : Int) else iz (-1)).toInt64))), (h, rO od fa ot ah te id rt bs kn), (fa, go cO 4 fr), (ot, go cO 4 er), (ah, ka cJ 13 a), (te, ka cJ 31 T), (id, ka cJ 5 (inF (gtE F o (if (sx xs (k + 1)) = 0 then 0 else 1) (lwd (sx xs (k + 2)) (sx xs (k + 3))) E) (gtL (gtE F o (if (sx xs (k + 1)) = 0 then 0 else 1) (lwd (sx xs (k + 2)) (sx xs (k + 3))) E) o (if (sx xs (k + 1)) = 0 then 0 else 1)) J)), (rt, rR fo (u8.1 : Int) wh pt rs sq on tw), (fo, ka cJ 4 u8.2.1), (wh, ka cJ 5 u8.2.2.1), (pt, ka cJ 5 u8.2.2.2.1), (rs, ka cJ 5 u8.2.2.2.2.1), (sq, ka cJ 8 u8.2.2.2.2.2.1), (on, ka cJ 5 u8.2.2.2.2.2.2.1), (tw, ka cJ 5 u8.2.2.2.2.2.2.2), (bs, rB ro le me bn), (ro, go cO 17 ra), (le, ki cI 13 Lx), (me, go cO 13 mb), (g, rM 0 od fc hd md lo (mtL (mtE G E2 (if (sx xs (k + 1)) = 0 then 0 else 1) (lwd (sx xs (k + 2)) (sx xs (k + 3)))) (if (sx xs (k + 1)) = 0 then 0 else 1)) tb rw bm mn nu tu), (fc, k2 cJ 20 5 G), (hd, ka cJ 13 a2), (md, ka cJ 17 P2), (lo, k2 cJ 20 5 (mtE G E2 (if (sx xs (k + 1)) = 0 then 0 else 1) (lwd (sx xs (k + 2)) (sx xs (k + 3))))), (tb, k2 cJ 221 13 M2), (rw, ki cI 13 L2), (bm, k2 cJ 169 13 B2), (nu, ka cJ 31 T2), (tu, k2 cJ 20 5 U2)] ++ gs 4 er cJ 5 (gtE F o (if (sx xs (k + 1)) = 0 then 0 else 1) (lwd (sx xs (k + 2)) (sx xs (k + 3))) E)) ++ gs 4 fr cJ 5 F) ++ gs 13 mb cJ 13 Bm) ++ gs 17 ra cJ 13 M) := hD
    refine lv_istore (lv' := [(6, .int (if 0 ≤ (sx xs (k + 4)) ∧ (sx xs (k + 4)) < (u8.1 : Int) then iz ((u8.2.1 ((sx xs (k + 4)).toNat)).val : Int) else iz (-1))), (5, .int (iz 0)), (0, .ref b), (1, .ref h), (2, .ref g), (3, .ref ou), (4, .int (iz z4))]) hx hb d_L_law_858 hl (by decide) rfl (fun ls hl => ?_)
    refine lv_aload_n hx hb d_L_law_860 rfl (lv_at hl 4 rfl) ?_
    refine rc_calli (va_runV (As := []) (rest := []) ⟨hx, hb, hml, hown, hts⟩ (m_M_thrown l D g 0 od fc hd md lo (mtL (mtE G E2 (if (sx xs (k + 1)) = 0 then 0 else 1) (lwd (sx xs (k + 2)) (sx xs (k + 3)))) (if (sx xs (k + 1)) = 0 then 0 else 1)) tb rw bm mn nu tu) (cwV 0 hts (kb_gi (kb_c kw_570 (kb_c kw_571 (kb_c kw_572 (kb_c kw_5 (kb_c kw_573 kb_all)))))) rfl rfl rfl (by decide +kernel) ⟨Nat.le_of_ble_eq_true rfl, Nat.le_of_ble_eq_true rfl⟩) ⟨rc_blind, va_recv hK hP (ci := 3) (q0 := 19) rfl rfl, rc_pre hP hD hK hN [19] rfl rfl [] rfl⟩ rfl rfl hl.1 rfl (lv_room (Nat.le_of_ble_eq_true rfl)) d_L_law_861 ⟨hfc, hfs⟩) hP hD hS [19] rfl (fun _ => rfl) (fun r5 u6 H locs hw6 hP hD hS => ?_)
    subst hw6
    have hP : va_P D vC (((([(ou, kl cJ 1 (vp_updL V 0 ((if 0 ≤ (sx xs (k + 4)) ∧ (sx xs (k + 4)) < (u8.1 : Int) then iz ((u8.2.1 ((sx xs (k + 4)).toNat)).val : Int) else iz (-1)).toInt64))), (h, rO od fa ot ah te id rt bs kn), (fa, go cO 4 fr), (ot, go cO 4 er), (ah, ka cJ 13 a), (te, ka cJ 31 T), (id, ka cJ 5 (inF (gtE F o (if (sx xs (k + 1)) = 0 then 0 else 1) (lwd (sx xs (k + 2)) (sx xs (k + 3))) E) (gtL (gtE F o (if (sx xs (k + 1)) = 0 then 0 else 1) (lwd (sx xs (k + 2)) (sx xs (k + 3))) E) o (if (sx xs (k + 1)) = 0 then 0 else 1)) J)), (rt, rR fo (u8.1 : Int) wh pt rs sq on tw), (fo, ka cJ 4 u8.2.1), (wh, ka cJ 5 u8.2.2.1), (pt, ka cJ 5 u8.2.2.2.1), (rs, ka cJ 5 u8.2.2.2.2.1), (sq, ka cJ 8 u8.2.2.2.2.2.1), (on, ka cJ 5 u8.2.2.2.2.2.2.1), (tw, ka cJ 5 u8.2.2.2.2.2.2.2), (bs, rB ro le me bn), (ro, go cO 17 ra), (le, ki cI 13 Lx), (me, go cO 13 mb), (g, rM 0 od fc hd md lo (mtL (mtE G E2 (if (sx xs (k + 1)) = 0 then 0 else 1) (lwd (sx xs (k + 2)) (sx xs (k + 3)))) (if (sx xs (k + 1)) = 0 then 0 else 1)) tb rw bm mn nu tu), (fc, k2 cJ 20 5 G), (hd, ka cJ 13 a2), (md, ka cJ 17 P2), (lo, k2 cJ 20 5 (mtE G E2 (if (sx xs (k + 1)) = 0 then 0 else 1) (lwd (sx xs (k + 2)) (sx xs (k + 3))))), (tb, k2 cJ 221 13 M2), (rw, ki cI 13 L2), (bm, k2 cJ 169 13 B2), (nu, ka cJ 31 T2), (tu, k2 cJ 20 5 U2)] ++ gs 4 er cJ 5 (gtE F o (if (sx xs (k + 1)) = 0 then 0 else 1) (lwd (sx xs (k + 2)) (sx xs (k + 3))) E)) ++ gs 4 fr cJ 5 F) ++ gs 13 mb cJ 13 Bm) ++ gs 17 ra cJ 13 M) H := hP
    have hD : va_D A (((([(ou, kl cJ 1 (vp_updL V 0 ((if 0 ≤ (sx xs (k + 4)) ∧ (sx xs (k + 4)) < (u8.1 : Int) then iz ((u8.2.1 ((sx xs (k + 4)).toNat)).val : Int) else iz (-1)).toInt64))), (h, rO od fa ot ah te id rt bs kn), (fa, go cO 4 fr), (ot, go cO 4 er), (ah, ka cJ 13 a), (te, ka cJ 31 T), (id, ka cJ 5 (inF (gtE F o (if (sx xs (k + 1)) = 0 then 0 else 1) (lwd (sx xs (k + 2)) (sx xs (k + 3))) E) (gtL (gtE F o (if (sx xs (k + 1)) = 0 then 0 else 1) (lwd (sx xs (k + 2)) (sx xs (k + 3))) E) o (if (sx xs (k + 1)) = 0 then 0 else 1)) J)), (rt, rR fo (u8.1 : Int) wh pt rs sq on tw), (fo, ka cJ 4 u8.2.1), (wh, ka cJ 5 u8.2.2.1), (pt, ka cJ 5 u8.2.2.2.1), (rs, ka cJ 5 u8.2.2.2.2.1), (sq, ka cJ 8 u8.2.2.2.2.2.1), (on, ka cJ 5 u8.2.2.2.2.2.2.1), (tw, ka cJ 5 u8.2.2.2.2.2.2.2), (bs, rB ro le me bn), (ro, go cO 17 ra), (le, ki cI 13 Lx), (me, go cO 13 mb), (g, rM 0 od fc hd md lo (mtL (mtE G E2 (if (sx xs (k + 1)) = 0 then 0 else 1) (lwd (sx xs (k + 2)) (sx xs (k + 3)))) (if (sx xs (k + 1)) = 0 then 0 else 1)) tb rw bm mn nu tu), (fc, k2 cJ 20 5 G), (hd, ka cJ 13 a2), (md, ka cJ 17 P2), (lo, k2 cJ 20 5 (mtE G E2 (if (sx xs (k + 1)) = 0 then 0 else 1) (lwd (sx xs (k + 2)) (sx xs (k + 3))))), (tb, k2 cJ 221 13 M2), (rw, ki cI 13 L2), (bm, k2 cJ 169 13 B2), (nu, ka cJ 31 T2), (tu, k2 cJ 20 5 U2)] ++ gs 4 er cJ 5 (gtE F o (if (sx xs (k + 1)) = 0 then 0 else 1) (lwd (sx xs (k + 2)) (sx xs (k + 3))) E)) ++ gs 4 fr cJ 5 F) ++ gs 13 mb cJ 13 Bm) ++ gs 17 ra cJ 13 M) := hD
    refine lv_iload hx hb d_L_law_864 (lv_at hl 1 rfl) ?_
    refine rl_icmp_eq (tgt := 871) hx hb d_L_law_866 (by decide) rfl ?_
    refine lv_iload hx hb d_L_law_871 (lv_at hl 1 rfl) ?_
    refine rz_if_ne (tgt := 888) hx hb d_L_law_873 (by decide) (fun hc => absurd rfl hc) (fun _ => ?_)
    refine lv_aload_n hx hb d_L_law_876 rfl (lv_at hl 5 rfl) ?_
    refine rz_iconst hx hb d_L_law_877 ?_
    refine rl_ld hx hb hK hP 0 0 rfl rfl 0 d_L_law_878 ?_
    rw [vp_self]
    refine lv_iload hx hb d_L_law_879 (lv_at hl 0 rfl) ?_
    refine lv_i2l hx hb d_L_law_881 rfl ?_
    refine rl_lcmp_eq (tgt := 888) hx hb d_L_law_882 d_L_law_883 (by decide) rfl ?_
    refine lv_goto (tgt := 1338) hx hb d_L_law_888 (by decide) ?_
    refine W.widen (k := kc + 1) (n := ks + 6) (by omega) (by omega) ?_
    exact hend (vp_updL V 0 ((if 0 ≤ (sx xs (k + 4)) ∧ (sx xs (k + 4)) < (u8.1 : Int) then iz ((u8.2.1 ((sx xs (k + 4)).toNat)).val : Int) else iz (-1)).toInt64)) kn a T (inF (gtE F o (if (sx xs (k + 1)) = 0 then 0 else 1) (lwd (sx xs (k + 2)) (sx xs (k + 3))) E) (gtL (gtE F o (if (sx xs (k + 1)) = 0 then 0 else 1) (lwd (sx xs (k + 2)) (sx xs (k + 3))) E) o (if (sx xs (k + 1)) = 0 then 0 else 1)) J) (u8.1 : Int) u8.2.1 u8.2.2.1 u8.2.2.2.1 u8.2.2.2.2.1 u8.2.2.2.2.2.1 u8.2.2.2.2.2.2.1 u8.2.2.2.2.2.2.2 bn Lx (gtE F o (if (sx xs (k + 1)) = 0 then 0 else 1) (lwd (sx xs (k + 2)) (sx xs (k + 3))) E) F Bm M 0 (mtL (mtE G E2 (if (sx xs (k + 1)) = 0 then 0 else 1) (lwd (sx xs (k + 2)) (sx xs (k + 3)))) (if (sx xs (k + 1)) = 0 then 0 else 1)) mn G a2 P2 (mtE G E2 (if (sx xs (k + 1)) = 0 then 0 else 1) (lwd (sx xs (k + 2)) (sx xs (k + 3)))) M2 L2 B2 T2 U2 H locs ls ⟨lw_E hI (lw_lv hI ho3 haz (if (sx xs (k + 1)) = 0 then 0 else 1) (lwd (sx xs (k + 2)) (sx xs (k + 3))) E2).2.1, (inF_at _ _ _).2.2.2.2⟩ hP hD hS (lv_sub hl [2, 3, 4, 5, 6] rfl)
  · have hz := Decidable.not_not.mp hz
    refine lv_aload_n hx hb d_L_law_763 rfl (lv_at hl 1 rfl) ?_
    refine lv_aload_n hx hb d_L_law_764 rfl (lv_at hl 0 rfl) ?_
    refine lv_iload hx hb d_L_law_765 (lv_at hl 4 rfl) ?_
    refine rz_iconst hx hb d_L_law_767 ?_
    refine rz_iadd hx hb d_L_law_768 ?_
    refine rl_sld hx hb hX hbl hbA hS (k + 1) d_L_law_769 ?_
    refine rb_bool (t1 := 777) (t2 := 778) hx hb d_L_law_770 (by decide) d_L_law_773 d_L_law_774 (by decide) d_L_law_777 rfl (by omega) ?_
    refine lv_aload_n hx hb d_L_law_778 rfl (lv_at hl 0 rfl) ?_
    refine lv_iload hx hb d_L_law_779 (lv_at hl 4 rfl) ?_
    refine rz_iconst hx hb d_L_law_781 ?_
    refine rz_iadd hx hb d_L_law_782 ?_
    refine rl_sld hx hb hX hbl hbA hS (k + 2) d_L_law_783 ?_
    refine lv_i2l hx hb d_L_law_784 rfl ?_
    refine rz_bipush hx hb d_L_law_785 (by decide) ?_
    refine lv_lshl hx hb d_L_law_787 rfl ?_
    refine lv_aload_n hx hb d_L_law_788 rfl (lv_at hl 0 rfl) ?_
    refine lv_iload hx hb d_L_law_789 (lv_at hl 4 rfl) ?_
    refine rz_iconst hx hb d_L_law_791 ?_
    refine rz_iadd hx hb d_L_law_792 ?_
    refine rl_sld hx hb hX hbl hbA hS (k + 3) d_L_law_793 ?_
    refine lv_i2l hx hb d_L_law_794 rfl ?_
    refine lv_ldc2 (v := 4294967295) hx hb hown (hts _ kw_712) d_L_law_795 ?_
    refine lv_land hx hb d_L_law_798 ?_
    refine lv_lor hx hb d_L_law_799 ?_
    refine lv_aload_n hx hb d_L_law_800 rfl (lv_at hl 0 rfl) ?_
    refine lv_iload hx hb d_L_law_801 (lv_at hl 4 rfl) ?_
    refine rz_iconst hx hb d_L_law_803 ?_
    refine rz_iadd hx hb d_L_law_804 ?_
    refine rl_sld hx hb hX hbl hbA hS (k + 4) d_L_law_805 ?_
    refine lv_aload_n hx hb d_L_law_806 rfl (lv_at hl 3 rfl) ?_
    refine rsM_calli (vx_runSW (hh := [((0 : Nat), (13 : Nat), (16 : Nat), (27 : Nat))]) (As := [.ref h, .int (iz (if (sx xs (k + 1)) = 0 then 0 else 1)), .long (lwd (sx xs (k + 2)) (sx xs (k + 3))), .int (iz (sx xs (k + 4))), .ref ou]) (rest := []) ⟨hx, hb, hml, hown, hts⟩ (h_L_exponent_t_S l D hst sa cJ cO h fa ot ah te id rt bs od kn ou V fo wh pt rs sq on tw cn Fo Y P r S a1 b1 fr er E F J (if (sx xs (k + 1)) = 0 then 0 else 1) (lwd (sx xs (k + 2)) (sx xs (k + 3))) (sx xs (k + 4)) o hod ho3 hz) (vx_cwSW 5 hts (kb_gi (kb_c kw_458 (kb_c kw_459 (kb_c kw_0 (kb_c kw_460 kb_all))))) rfl rfl rfl (by decide +kernel) ⟨Nat.le_of_ble_eq_true rfl, Nat.le_of_ble_eq_true rfl⟩) ⟨rx_blind, fun U h8 h9 => ⟨(rs_pre (rs_a_2_2 hP) (rs_aD_2_2 hD) hK hN [1, 2, 3, 6, 7, 8, 9, 10, 11, 12, 13, 14, 0] rfl rfl [0, 1] rfl) U h8 h9, hE.go hS (rs_in (rs_aD_2_2 hD) (is := [1, 2, 3, 6, 7, 8, 9, 10, 11, 12, 13, 14, 0]) rfl) h8 h9⟩⟩ rfl rfl hl.1 rfl (lv_room (Nat.le_of_ble_eq_true rfl)) d_L_law_807 ⟨hfc1, hfs1⟩) (rs_a_2_2 hP) (rs_aD_2_2 hD) hS [1, 2, 3, 6, 7, 8, 9, 10, 11, 12, 13, 14, 0] rfl (fun _ => rfl) (fun _ => gs_adr2 (gs_adr _ _ _ _ _ _) (gs_adr _ _ _ _ _ _)) (fun r7 u8 H locs hw8 hP hD hS => ?_)
    have hP := rs_b_2_2 hP
    have hD := rs_bD_2_2 hD
    subst hw8
    have hP : va_P D vC (((([(ou, kl cJ 1 V), (h, rO od fa ot ah te id rt bs kn), (fa, go cO 4 fr), (ot, go cO 4 er), (ah, ka cJ 13 a), (te, ka cJ 31 T), (id, ka cJ 5 J), (rt, rR fo cn wh pt rs sq on tw), (fo, ka cJ 4 Fo), (wh, ka cJ 5 Y), (pt, ka cJ 5 P), (rs, ka cJ 5 r), (sq, ka cJ 8 S), (on, ka cJ 5 a1), (tw, ka cJ 5 b1), (bs, rB ro le me bn), (ro, go cO 17 ra), (le, ki cI 13 Lx), (me, go cO 13 mb), (g, rM cd od fc hd md lo lv tb rw bm mn nu tu), (fc, k2 cJ 20 5 G), (hd, ka cJ 13 a2), (md, ka cJ 17 P2), (lo, k2 cJ 20 5 E2), (tb, k2 cJ 221 13 M2), (rw, ki cI 13 L2), (bm, k2 cJ 169 13 B2), (nu, ka cJ 31 T2), (tu, k2 cJ 20 5 U2)] ++ gs 4 er cJ 5 E) ++ gs 4 fr cJ 5 F) ++ gs 13 mb cJ 13 Bm) ++ gs 17 ra cJ 13 M) H := hP
    have hD : va_D A (((([(ou, kl cJ 1 V), (h, rO od fa ot ah te id rt bs kn), (fa, go cO 4 fr), (ot, go cO 4 er), (ah, ka cJ 13 a), (te, ka cJ 31 T), (id, ka cJ 5 J), (rt, rR fo cn wh pt rs sq on tw), (fo, ka cJ 4 Fo), (wh, ka cJ 5 Y), (pt, ka cJ 5 P), (rs, ka cJ 5 r), (sq, ka cJ 8 S), (on, ka cJ 5 a1), (tw, ka cJ 5 b1), (bs, rB ro le me bn), (ro, go cO 17 ra), (le, ki cI 13 Lx), (me, go cO 13 mb), (g, rM cd od fc hd md lo lv tb rw bm mn nu tu), (fc, k2 cJ 20 5 G), (hd, ka cJ 13 a2), (md, ka cJ 17 P2), (lo, k2 cJ 20 5 E2), (tb, k2 cJ 221 13 M2), (rw, ki cI 13 L2), (bm, k2 cJ 169 13 B2), (nu, ka cJ 31 T2), (tu, k2 cJ 20 5 U2)] ++ gs 4 er cJ 5 E) ++ gs 4 fr cJ 5 F) ++ gs 13 mb cJ 13 Bm) ++ gs 17 ra cJ 13 M) := hD
    refine lv_istore (lv' := [(5, .int (iz 1)), (0, .ref b), (1, .ref h), (2, .ref g), (3, .ref ou), (4, .int (iz z4))]) hx hb d_L_law_810 hl (by decide) rfl (fun ls hl => ?_)
    refine lv_aload_n hx hb d_L_law_812 rfl (lv_at hl 3 rfl) ?_
    refine lv_aload_n hx hb d_L_law_813 rfl (lv_at hl 1 rfl) ?_
    refine lv_iload hx hb d_L_law_814 (lv_at hl 5 rfl) ?_
    refine rz_iconst hx hb d_L_law_816 ?_
    refine rz_iadd hx hb d_L_law_817 ?_
    refine rl_sld hx hb hX hbl hbA hS (k + 1) d_L_law_818 ?_
    refine rb_bool (t1 := 826) (t2 := 827) hx hb d_L_law_819 (by decide) d_L_law_822 d_L_law_823 (by decide) d_L_law_826 rfl (by omega) ?_
    refine lv_aload_n hx hb d_L_law_827 rfl (lv_at hl 1 rfl) ?_
    refine lv_iload hx hb d_L_law_828 (lv_at hl 5 rfl) ?_
    refine rz_iconst hx hb d_L_law_830 ?_
    refine rz_iadd hx hb d_L_law_831 ?_
    refine rl_sld hx hb hX hbl hbA hS (k + 2) d_L_law_832 ?_
    refine lv_i2l hx hb d_L_law_833 rfl ?_
    refine rz_bipush hx hb d_L_law_834 (by decide) ?_
    refine lv_lshl hx hb d_L_law_836 rfl ?_
    refine lv_aload_n hx hb d_L_law_837 rfl (lv_at hl 1 rfl) ?_
    refine lv_iload hx hb d_L_law_838 (lv_at hl 5 rfl) ?_
    refine rz_iconst hx hb d_L_law_840 ?_
    refine rz_iadd hx hb d_L_law_841 ?_
    refine rl_sld hx hb hX hbl hbA hS (k + 3) d_L_law_842 ?_
    refine lv_i2l hx hb d_L_law_843 rfl ?_
    refine lv_ldc2 (v := 4294967295) hx hb hown (hts _ kw_712) d_L_law_844 ?_
    refine lv_land hx hb d_L_law_847 ?_
    refine lv_lor hx hb d_L_law_848 ?_
    refine lv_aload_n hx hb d_L_law_849 rfl (lv_at hl 1 rfl) ?_
    refine lv_iload hx hb d_L_law_850 (lv_at hl 5 rfl) ?_
    refine rz_iconst hx hb d_L_law_852 ?_
    refine rz_iadd hx hb d_L_law_853 ?_
    refine rl_sld hx hb hX hbl hbA hS (k + 4) d_L_law_854 ?_
    refine rc_calli (va_runV (As := [.int (iz (if (sx xs (k + 1)) = 0 then 0 else 1)), .long (lwd (sx xs (k + 2)) (sx xs (k + 3))), .int (iz (sx xs (k + 4)))]) (rest := []) ⟨hx, hb, hml, hown, hts⟩ (m_M_exponent l D cJ cI g cd od fc hd md lo lv tb rw bm mn nu tu G E2 (if (sx xs (k + 1)) = 0 then 0 else 1) (lwd (sx xs (k + 2)) (sx xs (k + 3))) (sx xs (k + 4)) o hod ho3 (by omega) (by omega) hze.1 hze.2) (cwV 3 hts (kb_gi (kb_c kw_676 (kb_c kw_677 (kb_c kw_678 (kb_c kw_5 (kb_c kw_679 kb_all)))))) rfl rfl rfl (by decide +kernel) ⟨Nat.le_of_ble_eq_true rfl, Nat.le_of_ble_eq_true rfl⟩) ⟨rc_blind, va_recv hK hP (ci := 3) (q0 := 19) rfl rfl, rc_pre hP hD hK hN [19, 20, 23] rfl rfl [0, 2] rfl⟩ rfl rfl hl.1 rfl (lv_room (Nat.le_of_ble_eq_true rfl)) d_L_law_855 ⟨hfc1, hfs1⟩) hP hD hS [19, 20, 23] rfl (fun _ => rfl) (fun r9 u10 H locs hw10 hP hD hS => ?_)
    have h9 : u10 = (1, lv, E2) ∧ r9 = iz 0 := by
      rcases hw10 with ⟨h6, h7, h8⟩ | ⟨h6, h7, h8⟩
      · exact absurd ((lw_az hI ho3).mp hz) h6
      · exact ⟨h7, h8⟩
    obtain ⟨rfl, rfl⟩ := h9
    have hP : va_P D vC (((([(ou, kl cJ 1 V), (h, rO od fa ot ah te id rt bs kn), (fa, go cO 4 fr), (ot, go cO 4 er), (ah, ka cJ 13 a), (te, ka cJ 31 T), (id, ka cJ 5 J), (rt, rR fo cn wh pt rs sq on tw), (fo, ka cJ 4 Fo), (wh, ka cJ 5 Y), (pt, ka cJ 5 P), (rs, ka cJ 5 r), (sq, ka cJ 8 S), (on, ka cJ 5 a1), (tw, ka cJ 5 b1), (bs, rB ro le me bn), (ro, go cO 17 ra), (le, ki cI 13 Lx), (me, go cO 13 mb), (g, rM 1 od fc hd md lo lv tb rw bm mn nu tu), (fc, k2 cJ 20 5 G), (hd, ka cJ 13 a2), (md, ka cJ 17 P2), (lo, k2 cJ 20 5 E2), (tb, k2 cJ 221 13 M2), (rw, ki cI 13 L2), (bm, k2 cJ 169 13 B2), (nu, ka cJ 31 T2), (tu, k2 cJ 20 5 U2)] ++ gs 4 er cJ 5 E) ++ gs 4 fr cJ 5 F) ++ gs 13 mb cJ 13 Bm) ++ gs 17 ra cJ 13 M) H := hP
    have hD : va_D A (((([(ou, kl cJ 1 V), (h, rO od fa ot ah te id rt bs kn), (fa, go cO 4 fr), (ot, go cO 4 er), (ah, ka cJ 13 a), (te, ka cJ 31 T), (id, ka cJ 5 J), (rt, rR fo cn wh pt rs sq on tw), (fo, ka cJ 4 Fo), (wh, ka cJ 5 Y), (pt, ka cJ 5 P), (rs, ka cJ 5 r), (sq, ka cJ 8 S), (on, ka cJ 5 a1), (tw, ka cJ 5 b1), (bs, rB ro le me bn), (ro, go cO 17 ra), (le, ki cI 13 Lx), (me, go cO 13 mb), (g, rM 1 od fc hd md lo lv tb rw bm mn nu tu), (fc, k2 cJ 20 5 G), (hd, ka cJ 13 a2), (md, ka cJ 17 P2), (lo, k2 cJ 20 5 E2), (tb, k2 cJ 221 13 M2), (rw, ki cI 13 L2), (bm, k2 cJ 169 13 B2), (nu, ka cJ 31 T2), (tu, k2 cJ 20 5 U2)] ++ gs 4 er cJ 5 E) ++ gs 4 fr cJ 5 F) ++ gs 13 mb cJ 13 Bm) ++ gs 17 ra cJ 13 M) := hD
    refine lv_istore (lv' := [(6, .int (iz 0)), (5, .int (iz 1)), (0, .ref b), (1, .ref h), (2, .ref g), (3, .ref ou), (4, .int (iz z4))]) hx hb d_L_law_858 hl (by decide) rfl (fun ls hl => ?_)
    refine lv_aload_n hx hb d_L_law_860 rfl (lv_at hl 4 rfl) ?_
    refine rc_calli (va_runV (As := []) (rest := []) ⟨hx, hb, hml, hown, hts⟩ (m_M_thrown l D g 1 od fc hd md lo lv tb rw bm mn nu tu) (cwV 0 hts (kb_gi (kb_c kw_570 (kb_c kw_571 (kb_c kw_572 (kb_c kw_5 (kb_c kw_573 kb_all)))))) rfl rfl rfl (by decide +kernel) ⟨Nat.le_of_ble_eq_true rfl, Nat.le_of_ble_eq_true rfl⟩) ⟨rc_blind, va_recv hK hP (ci := 3) (q0 := 19) rfl rfl, rc_pre hP hD hK hN [19] rfl rfl [] rfl⟩ rfl rfl hl.1 rfl (lv_room (Nat.le_of_ble_eq_true rfl)) d_L_law_861 ⟨hfc1, hfs1⟩) hP hD hS [19] rfl (fun _ => rfl) (fun r11 u12 H locs hw12 hP hD hS => ?_)
    subst hw12
    have hP : va_P D vC (((([(ou, kl cJ 1 V), (h, rO od fa ot ah te id rt bs kn), (fa, go cO 4 fr), (ot, go cO 4 er), (ah, ka cJ 13 a), (te, ka cJ 31 T), (id, ka cJ 5 J), (rt, rR fo cn wh pt rs sq on tw), (fo, ka cJ 4 Fo), (wh, ka cJ 5 Y), (pt, ka cJ 5 P), (rs, ka cJ 5 r), (sq, ka cJ 8 S), (on, ka cJ 5 a1), (tw, ka cJ 5 b1), (bs, rB ro le me bn), (ro, go cO 17 ra), (le, ki cI 13 Lx), (me, go cO 13 mb), (g, rM 1 od fc hd md lo lv tb rw bm mn nu tu), (fc, k2 cJ 20 5 G), (hd, ka cJ 13 a2), (md, ka cJ 17 P2), (lo, k2 cJ 20 5 E2), (tb, k2 cJ 221 13 M2), (rw, ki cI 13 L2), (bm, k2 cJ 169 13 B2), (nu, ka cJ 31 T2), (tu, k2 cJ 20 5 U2)] ++ gs 4 er cJ 5 E) ++ gs 4 fr cJ 5 F) ++ gs 13 mb cJ 13 Bm) ++ gs 17 ra cJ 13 M) H := hP
    have hD : va_D A (((([(ou, kl cJ 1 V), (h, rO od fa ot ah te id rt bs kn), (fa, go cO 4 fr), (ot, go cO 4 er), (ah, ka cJ 13 a), (te, ka cJ 31 T), (id, ka cJ 5 J), (rt, rR fo cn wh pt rs sq on tw), (fo, ka cJ 4 Fo), (wh, ka cJ 5 Y), (pt, ka cJ 5 P), (rs, ka cJ 5 r), (sq, ka cJ 8 S), (on, ka cJ 5 a1), (tw, ka cJ 5 b1), (bs, rB ro le me bn), (ro, go cO 17 ra), (le, ki cI 13 Lx), (me, go cO 13 mb), (g, rM 1 od fc hd md lo lv tb rw bm mn nu tu), (fc, k2 cJ 20 5 G), (hd, ka cJ 13 a2), (md, ka cJ 17 P2), (lo, k2 cJ 20 5 E2), (tb, k2 cJ 221 13 M2), (rw, ki cI 13 L2), (bm, k2 cJ 169 13 B2), (nu, ka cJ 31 T2), (tu, k2 cJ 20 5 U2)] ++ gs 4 er cJ 5 E) ++ gs 4 fr cJ 5 F) ++ gs 13 mb cJ 13 Bm) ++ gs 17 ra cJ 13 M) := hD
    refine lv_iload hx hb d_L_law_864 (lv_at hl 1 rfl) ?_
    refine rl_icmp_eq (tgt := 871) hx hb d_L_law_866 (by decide) rfl ?_
    refine lv_iload hx hb d_L_law_871 (lv_at hl 1 rfl) ?_
    refine rz_if_ne (tgt := 888) hx hb d_L_law_873 (by decide) (fun _ => ?_) (fun hc => absurd hc (by decide))
    refine lv_goto (tgt := 1338) hx hb d_L_law_888 (by decide) ?_
    refine W.widen (k := kc + 1) (n := ks + 6) (by omega) (by omega) ?_
    exact hend V kn a T J cn Fo Y P r S a1 b1 bn Lx E F Bm M 1 lv mn G a2 P2 E2 M2 L2 B2 T2 U2 H locs ls ⟨hI, hJ⟩ hP hD hS (lv_sub hl [2, 3, 4, 5, 6] rfl)
set_option maxHeartbeats 4000000 in
set_option maxRecDepth 100000 in
theorem m_O_answers_S (l : Launch) (D : va_G) (cI : ClassId) (cJ cO : ClassId) (h fa ot ah te id rt bs : Nat) (od kn : Int) (ro le me : Nat) (bn : Int) (fr mb ra : Nat → Nat) (F Bm M : Nat → Nat → ro_K) (Lx : Nat → Int) (o : Nat) (hod : od = (o : Int)) (ho3 : o ≤ 3) (hkn : kn = 0 ∨ kn = 1) : Met l y_O_answers ws_O_answers ({ frames := 5, cells := 0, slots := 0, locals := 115 }) (rc_Pc D vC [(cJ, .long), (cO, .array .long), (cI, .int)] [.ref h] ([(h, rO od fa ot ah te id rt bs kn), (fa, go cO 4 fr), (bs, rB ro le me bn), (ro, go cO 17 ra), (le, ki cI 13 Lx), (me, go cO 13 mb)] ++ (gs 4 fr cJ 5 F ++ (gs 13 mb cJ 13 Bm ++ (gs 17 ra cJ 13 M))))) (va_Qi (fun (q : Int32) (_ : Unit) => q = iz (knD kn F o M Lx Bm bn).2.2.2) (fun _ t => va_P D vC ([(h, rO od fa ot ah te id rt bs 1), (fa, go cO 4 fr), (bs, rB ro le me (knD kn F o M Lx Bm bn).2.2.2), (ro, go cO 17 ra), (le, ki cI 13 (knD kn F o M Lx Bm bn).2.1), (me, go cO 13 mb)] ++ (gs 4 fr cJ 5 F ++ (gs 13 mb cJ 13 (knD kn F o M Lx Bm bn).2.2.1 ++ (gs 17 ra cJ 13 (knD kn F o M Lx Bm bn).1)))) t.heap) (rc_A ([(h, rO od fa ot ah te id rt bs kn), (fa, go cO 4 fr), (bs, rB ro le me bn), (ro, go cO 17 ra), (le, ki cI 13 Lx), (me, go cO 13 mb)] ++ (gs 4 fr cJ 5 F ++ (gs 13 mb cJ 13 Bm ++ (gs 17 ra cJ 13 M)))))) 0 0 (rc_A ([(h, rO od fa ot ah te id rt bs kn), (fa, go cO 4 fr), (bs, rB ro le me bn), (ro, go cO 17 ra), (le, ki cI 13 Lx), (me, go cO 13 mb)] ++ (gs 4 fr cJ 5 F ++ (gs 13 mb cJ 13 Bm ++ (gs 17 ra cJ 13 M))))) := m_O_answers l D cI cJ cO h fa ot ah te id rt bs od kn ro le me bn fr mb ra F Bm M Lx o hod ho3 hkn

set_option maxHeartbeats 4000000 in
set_option maxRecDepth 100000 in
theorem lc_9 {cJ cO cI : ClassId} {ou h fa ot ah te id rt bs : Nat} {od : Int} {fo wh pt rs sq on tw : Nat} {ro le me : Nat} {fr er mb ra : Nat → Nat} {g : Nat} {fc hd md lo tb rw bm nu tu : Nat} {o : Nat} {sa : Nat → Nat} {ct b L : Nat} {xs : Nat → Int32} {V : Nat → Int64} {kn : Int} {a : Nat → ro_K} {T : Nat → ro_K} {J : Nat → ro_K} {cn : Int} {Fo : Nat → ro_K} {Y : Nat → ro_K} {P : Nat → ro_K} {r : Nat → ro_K} {S : Nat → ro_K} {a1 : Nat → ro_K} {b1 : Nat → ro_K} {bn : Int} {Lx : Nat → Int} {E : Nat → Nat → ro_K} {F : Nat → Nat → ro_K} {Bm : Nat → Nat → ro_K} {M : Nat → Nat → ro_K} {cd : Int} {lv : Int} {mn : Int} {G : Nat → Nat → ro_K} {a2 : Nat → ro_K} {P2 : Nat → ro_K} {E2 : Nat → Nat → ro_K} {M2 : Nat → Nat → ro_K} {L2 : Nat → Int} {B2 : Nat → Nat → ro_K} {T2 : Nat → ro_K} {U2 : Nat → Nat → ro_K} {z4 : Int} {k kc ks : Nat} {H : Heap} {locs : List Loc} {ls : Array Slot} (hx : p.tables.exec = Jvm.exec) (hb : c.code = c_L_law) (hml : c.maxLocals = 7) (hown : s.vm.findClass R_L = some m.cls) (hts : ∀ w ∈ kb, w.before args s = true) (hK : va_K D vC [(cJ, .long), (cO, .array .long), (cI, .int)] s) (hN : rc_N s) (hst : l.stackTraces = false) (hE : rx_E sa A s s.heap) (hC : rz_C ct A s s.heap) (hX : va_X b L xs s s.heap) (hbl : b < s.heap.size) (hbA : ¬ A b) (hL : L ≤ 5121) (hod : od = (o : Int)) (ho1 : 1 ≤ o) (ho3 : o ≤ 3) (hz4 : z4 = (k : Int)) (hk9 : k + 9 < L) (hkc : kc + 1 ≤ 601024) (hks : ks + 6 ≤ 7293000) (hI : (lw_I o F E a kn M Lx Bm bn G a2 ∧ J 4 = 0)) (hend : ∀ (V : Nat → Int64) (kn : Int) (a : Nat → ro_K) (T : Nat → ro_K) (J : Nat → ro_K) (cn : Int) (Fo : Nat → ro_K) (Y : Nat → ro_K) (P : Nat → ro_K) (r : Nat → ro_K) (S : Nat → ro_K) (a1 : Nat → ro_K) (b1 : Nat → ro_K) (bn : Int) (Lx : Nat → Int) (E : Nat → Nat → ro_K) (F : Nat → Nat → ro_K) (Bm : Nat → Nat → ro_K) (M : Nat → Nat → ro_K) (cd : Int) (lv : Int) (mn : Int) (G : Nat → Nat → ro_K) (a2 : Nat → ro_K) (P2 : Nat → ro_K) (E2 : Nat → Nat → ro_K) (M2 : Nat → Nat → ro_K) (L2 : Nat → Int) (B2 : Nat → Nat → ro_K) (T2 : Nat → ro_K) (U2 : Nat → Nat → ro_K) (H : Heap) (locs : List Loc) (ls : Array Slot), (lw_I o F E a kn M Lx Bm bn G a2 ∧ J 4 = 0) → va_P D vC (((([(ou, kl cJ 1 V), (h, rO od fa ot ah te id rt bs kn), (fa, go cO 4 fr), (ot, go cO 4 er), (ah, ka cJ 13 a), (te, ka cJ 31 T), (id, ka cJ 5 J), (rt, rR fo cn wh pt rs sq on tw), (fo, ka cJ 4 Fo), (wh, ka cJ 5 Y), (pt, ka cJ 5 P), (rs, ka cJ 5 r), (sq, ka cJ 8 S), (on, ka cJ 5 a1), (tw, ka cJ 5 b1), (bs, rB ro le me bn), (ro, go cO 17 ra), (le, ki cI 13 Lx), (me, go cO 13 mb), (g, rM cd od fc hd md lo lv tb rw bm mn nu tu), (fc, k2 cJ 20 5 G), (hd, ka cJ 13 a2), (md, ka cJ 17 P2), (lo, k2 cJ 20 5 E2), (tb, k2 cJ 221 13 M2), (rw, ki cI 13 L2), (bm, k2 cJ 169 13 B2), (nu, ka cJ 31 T2), (tu, k2 cJ 20 5 U2)] ++ gs 4 er cJ 5 E) ++ gs 4 fr cJ 5 F) ++ gs 13 mb cJ 13 Bm) ++ gs 17 ra cJ 13 M) H → va_D A (((([(ou, kl cJ 1 V), (h, rO od fa ot ah te id rt bs kn), (fa, go cO 4 fr), (ot, go cO 4 er), (ah, ka cJ 13 a), (te, ka cJ 31 T), (id, ka cJ 5 J), (rt, rR fo cn wh pt rs sq on tw), (fo, ka cJ 4 Fo), (wh, ka cJ 5 Y), (pt, ka cJ 5 P), (rs, ka cJ 5 r), (sq, ka cJ 8 S), (on, ka cJ 5 a1), (tw, ka cJ 5 b1), (bs, rB ro le me bn), (ro, go cO 17 ra), (le, ki cI 13 Lx), (me, go cO 13 mb), (g, rM cd od fc hd md lo lv tb rw bm mn nu tu), (fc, k2 cJ 20 5 G), (hd, ka cJ 13 a2), (md, ka cJ 17 P2), (lo, k2 cJ 20 5 E2), (tb, k2 cJ 221 13 M2), (rw, ki cI 13 L2), (bm, k2 cJ 169 13 B2), (nu, ka cJ 31 T2), (tu, k2 cJ 20 5 U2)] ++ gs 4 er cJ 5 E) ++ gs 4 fr cJ 5 F) ++ gs 13 mb cJ 13 Bm) ++ gs 17 ra cJ 13 M) → va_S A s.heap H locs → lv_has ls 7 [(0, .ref b), (1, .ref h), (2, .ref g), (3, .ref ou), (4, .int (iz z4))] → W p l e room_1 s m args below meth c H locs (kc + 1) (ks + 6) Q (F0 m 1338 ls [])) (hP : va_P D vC (((([(ou, kl cJ 1 V), (h, rO od fa ot ah te id rt bs kn), (fa, go cO 4 fr), (ot, go cO 4 er), (ah, ka cJ 13 a), (te, ka cJ 31 T), (id, ka cJ 5 J), (rt, rR fo cn wh pt rs sq on tw), (fo, ka cJ 4 Fo), (wh, ka cJ 5 Y), (pt, ka cJ 5 P), (rs, ka cJ 5 r), (sq, ka cJ 8 S), (on, ka cJ 5 a1), (tw, ka cJ 5 b1), (bs, rB ro le me bn), (ro, go cO 17 ra), (le, ki cI 13 Lx), (me, go cO 13 mb), (g, rM cd od fc hd md lo lv tb rw bm mn nu tu), (fc, k2 cJ 20 5 G), (hd, ka cJ 13 a2), (md, ka cJ 17 P2), (lo, k2 cJ 20 5 E2), (tb, k2 cJ 221 13 M2), (rw, ki cI 13 L2), (bm, k2 cJ 169 13 B2), (nu, ka cJ 31 T2), (tu, k2 cJ 20 5 U2)] ++ gs 4 er cJ 5 E) ++ gs 4 fr cJ 5 F) ++ gs 13 mb cJ 13 Bm) ++ gs 17 ra cJ 13 M) H) (hD : va_D A (((([(ou, kl cJ 1 V), (h, rO od fa ot ah te id rt bs kn), (fa, go cO 4 fr), (ot, go cO 4 er), (ah, ka cJ 13 a), (te, ka cJ 31 T), (id, ka cJ 5 J), (rt, rR fo cn wh pt rs sq on tw), (fo, ka cJ 4 Fo), (wh, ka cJ 5 Y), (pt, ka cJ 5 P), (rs, ka cJ 5 r), (sq, ka cJ 8 S), (on, ka cJ 5 a1), (tw, ka cJ 5 b1), (bs, rB ro le me bn), (ro, go cO 17 ra), (le, ki cI 13 Lx), (me, go cO 13 mb), (g, rM cd od fc hd md lo lv tb rw bm mn nu tu), (fc, k2 cJ 20 5 G), (hd, ka cJ 13 a2), (md, ka cJ 17 P2), (lo, k2 cJ 20 5 E2), (tb, k2 cJ 221 13 M2), (rw, ki cI 13 L2), (bm, k2 cJ 169 13 B2), (nu, ka cJ 31 T2), (tu, k2 cJ 20 5 U2)] ++ gs 4 er cJ 5 E) ++ gs 4 fr cJ 5 F) ++ gs 13 mb cJ 13 Bm) ++ gs 17 ra cJ 13 M)) (hS : va_S A s.heap H locs) (hl : lv_has ls 7 [(0, .ref b), (1, .ref h), (2, .ref g), (3, .ref ou), (4, .int (iz z4))]) : W p l e room_1 s m args below meth c H locs kc ks Q (F0 m 891 ls []) := by
  obtain ⟨hI, hJ⟩ := hI
  have hfc : kc + 0 ≤ room_1.cells := by show kc + 0 ≤ 601024; omega
  have hfs : ks + 0 ≤ room_1.slots := by show ks + 0 ≤ 7293000; omega
  have hfc1 : kc + 1 ≤ room_1.cells := hkc
  have hfs1 : ks + 6 ≤ room_1.slots := hks
  refine lv_aload_n hx hb d_L_law_891 rfl (lv_at hl 1 rfl) ?_
  refine rs_calli (va_runV (As := []) (rest := []) ⟨hx, hb, hml, hown, hts⟩ (m_O_answers_S l D cI cJ cO h fa ot ah te id rt bs od kn ro le me bn fr mb ra F Bm M Lx o hod ho3 (lw_kn hI)) (cwV 0 hts (kb_gi (kb_c kw_127 (kb_c kw_128 (kb_c kw_129 (kb_c kw_1 (kb_c kw_130 kb_all)))))) rfl rfl rfl (by decide +kernel) ⟨Nat.le_of_ble_eq_true rfl, Nat.le_of_ble_eq_true rfl⟩) ⟨rc_blind, va_recv hK hP (ci := 2) (q0 := 1) rfl rfl, rs_pre (Y := []) (rs_nil (rs_a_3_0 hP)) (rs_nilD (rs_aD_3_0 hD)) hK hN [1, 2, 15, 16, 17, 18] rfl rfl [0, 1, 2] rfl⟩ rfl rfl hl.1 rfl (lv_room (Nat.le_of_ble_eq_true rfl)) d_L_law_892 ⟨hfc, hfs⟩) (rs_a_3_0 hP) (rs_aD_3_0 hD) hS [1, 2, 15, 16, 17, 18] rfl (fun _ => rfl) (fun _ => gs_adr2 (gs_adr _ _ _ _ _ _) (gs_adr2 (gs_adr _ _ _ _ _ _) (gs_adr _ _ _ _ _ _))) (fun r1 u2 H locs hw2 hP hD hS => ?_)
  have hP := rs_b_3_0 hP
  have hD := rs_bD_3_0 hD
  subst hw2
  have hP : va_P D vC (((([(ou, kl cJ 1 V), (h, rO od fa ot ah te id rt bs 1), (fa, go cO 4 fr), (ot, go cO 4 er), (ah, ka cJ 13 a), (te, ka cJ 31 T), (id, ka cJ 5 J), (rt, rR fo cn wh pt rs sq on tw), (fo, ka cJ 4 Fo), (wh, ka cJ 5 Y), (pt, ka cJ 5 P), (rs, ka cJ 5 r), (sq, ka cJ 8 S), (on, ka cJ 5 a1), (tw, ka cJ 5 b1), (bs, rB ro le me (knD kn F o M Lx Bm bn).2.2.2), (ro, go cO 17 ra), (le, ki cI 13 (knD kn F o M Lx Bm bn).2.1), (me, go cO 13 mb), (g, rM cd od fc hd md lo lv tb rw bm mn nu tu), (fc, k2 cJ 20 5 G), (hd, ka cJ 13 a2), (md, ka cJ 17 P2), (lo, k2 cJ 20 5 E2), (tb, k2 cJ 221 13 M2), (rw, ki cI 13 L2), (bm, k2 cJ 169 13 B2), (nu, ka cJ 31 T2), (tu, k2 cJ 20 5 U2)] ++ gs 4 er cJ 5 E) ++ gs 4 fr cJ 5 F) ++ gs 13 mb cJ 13 (knD kn F o M Lx Bm bn).2.2.1) ++ gs 17 ra cJ 13 (knD kn F o M Lx Bm bn).1) H := hP
  have hD : va_D A (((([(ou, kl cJ 1 V), (h, rO od fa ot ah te id rt bs 1), (fa, go cO 4 fr), (ot, go cO 4 er), (ah, ka cJ 13 a), (te, ka cJ 31 T), (id, ka cJ 5 J), (rt, rR fo cn wh pt rs sq on tw), (fo, ka cJ 4 Fo), (wh, ka cJ 5 Y), (pt, ka cJ 5 P), (rs, ka cJ 5 r), (sq, ka cJ 8 S), (on, ka cJ 5 a1), (tw, ka cJ 5 b1), (bs, rB ro le me (knD kn F o M Lx Bm bn).2.2.2), (ro, go cO 17 ra), (le, ki cI 13 (knD kn F o M Lx Bm bn).2.1), (me, go cO 13 mb), (g, rM cd od fc hd md lo lv tb rw bm mn nu tu), (fc, k2 cJ 20 5 G), (hd, ka cJ 13 a2), (md, ka cJ 17 P2), (lo, k2 cJ 20 5 E2), (tb, k2 cJ 221 13 M2), (rw, ki cI 13 L2), (bm, k2 cJ 169 13 B2), (nu, ka cJ 31 T2), (tu, k2 cJ 20 5 U2)] ++ gs 4 er cJ 5 E) ++ gs 4 fr cJ 5 F) ++ gs 13 mb cJ 13 (knD kn F o M Lx Bm bn).2.2.1) ++ gs 17 ra cJ 13 (knD kn F o M Lx Bm bn).1) := hD
  refine lv_aload_n hx hb d_L_law_895 rfl (lv_at hl 2 rfl) ?_
  refine rc_calli (va_runV (As := []) (rest := [.int (iz (knD kn F o M Lx Bm bn).2.2.2)]) ⟨hx, hb, hml, hown, hts⟩ (m_M_answers l D cJ cI g cd od fc hd md lo lv tb rw bm mn nu tu G M2 B2 P2 L2 o hod ho3) (cwV 0 hts (kb_gi (kb_c kw_680 (kb_c kw_681 (kb_c kw_682 (kb_c kw_5 (kb_c kw_683 kb_all)))))) rfl rfl rfl (by decide +kernel) ⟨Nat.le_of_ble_eq_true rfl, Nat.le_of_ble_eq_true rfl⟩) ⟨rc_blind, va_recv hK hP (ci := 3) (q0 := 19) rfl rfl, rc_pre hP hD hK hN [19, 20, 22, 24, 25, 26] rfl rfl [0, 2] rfl⟩ rfl rfl hl.1 rfl (lv_room (Nat.le_of_ble_eq_true rfl)) d_L_law_896 ⟨hfc, hfs⟩) hP hD hS [19, 20, 22, 24, 25, 26] rfl (fun _ => rfl) (fun r3 u4 H locs hw4 hP hD hS => ?_)
  subst hw4
  have hP : va_P D vC (((([(ou, kl cJ 1 V), (h, rO od fa ot ah te id rt bs 1), (fa, go cO 4 fr), (ot, go cO 4 er), (ah, ka cJ 13 a), (te, ka cJ 31 T), (id, ka cJ 5 J), (rt, rR fo cn wh pt rs sq on tw), (fo, ka cJ 4 Fo), (wh, ka cJ 5 Y), (pt, ka cJ 5 P), (rs, ka cJ 5 r), (sq, ka cJ 8 S), (on, ka cJ 5 a1), (tw, ka cJ 5 b1), (bs, rB ro le me ((knD kn F o M Lx Bm bn).2.2.2)), (ro, go cO 17 ra), (le, ki cI 13 ((knD kn F o M Lx Bm bn).2.1)), (me, go cO 13 mb), (g, rM 0 od fc hd md lo lv tb rw bm ((faS G o P2 M2 L2 B2).1 : Int) nu tu), (fc, k2 cJ 20 5 G), (hd, ka cJ 13 a2), (md, ka cJ 17 (tbP G o P2 13)), (lo, k2 cJ 20 5 E2), (tb, k2 cJ 221 13 (faT G o P2 M2 L2).1), (rw, ki cI 13 (faT G o P2 M2 L2).2), (bm, k2 cJ 169 13 (faS G o P2 M2 L2 B2).2), (nu, ka cJ 31 T2), (tu, k2 cJ 20 5 U2)] ++ gs 4 er cJ 5 E) ++ gs 4 fr cJ 5 F) ++ gs 13 mb cJ 13 ((knD kn F o M Lx Bm bn).2.2.1)) ++ gs 17 ra cJ 13 ((knD kn F o M Lx Bm bn).1)) H := hP
  have hD : va_D A (((([(ou, kl cJ 1 V), (h, rO od fa ot ah te id rt bs 1), (fa, go cO 4 fr), (ot, go cO 4 er), (ah, ka cJ 13 a), (te, ka cJ 31 T), (id, ka cJ 5 J), (rt, rR fo cn wh pt rs sq on tw), (fo, ka cJ 4 Fo), (wh, ka cJ 5 Y), (pt, ka cJ 5 P), (rs, ka cJ 5 r), (sq, ka cJ 8 S), (on, ka cJ 5 a1), (tw, ka cJ 5 b1), (bs, rB ro le me ((knD kn F o M Lx Bm bn).2.2.2)), (ro, go cO 17 ra), (le, ki cI 13 ((knD kn F o M Lx Bm bn).2.1)), (me, go cO 13 mb), (g, rM 0 od fc hd md lo lv tb rw bm ((faS G o P2 M2 L2 B2).1 : Int) nu tu), (fc, k2 cJ 20 5 G), (hd, ka cJ 13 a2), (md, ka cJ 17 (tbP G o P2 13)), (lo, k2 cJ 20 5 E2), (tb, k2 cJ 221 13 (faT G o P2 M2 L2).1), (rw, ki cI 13 (faT G o P2 M2 L2).2), (bm, k2 cJ 169 13 (faS G o P2 M2 L2 B2).2), (nu, ka cJ 31 T2), (tu, k2 cJ 20 5 U2)] ++ gs 4 er cJ 5 E) ++ gs 4 fr cJ 5 F) ++ gs 13 mb cJ 13 ((knD kn F o M Lx Bm bn).2.2.1)) ++ gs 17 ra cJ 13 ((knD kn F o M Lx Bm bn).1)) := hD
  refine rl_icmp_eq (tgt := 1338) hx hb d_L_law_899 (by decide) (congrArg iz (lw_base hI ho3 P2 M2 L2 B2).1) ?_
  refine W.widen (k := kc + 1) (n := ks + 6) (by omega) (by omega) ?_
  exact hend V 1 a T J cn Fo Y P r S a1 b1 ((knD kn F o M Lx Bm bn).2.2.2) ((knD kn F o M Lx Bm bn).2.1) E F ((knD kn F o M Lx Bm bn).2.2.1) ((knD kn F o M Lx Bm bn).1) 0 lv ((faS G o P2 M2 L2 B2).1 : Int) G a2 (tbP G o P2 13) E2 ((faT G o P2 M2 L2).1) ((faT G o P2 M2 L2).2) ((faS G o P2 M2 L2 B2).2) T2 U2 H locs ls ⟨lw_know hI ho3, hJ⟩ hP hD hS (lv_sub hl [0, 1, 2, 3, 4] rfl)
set_option maxHeartbeats 4000000 in
set_option maxRecDepth 100000 in
theorem lc_10 {cJ cO cI : ClassId} {ou h fa ot ah te id rt bs : Nat} {od : Int} {fo wh pt rs sq on tw : Nat} {ro le me : Nat} {fr er mb ra : Nat → Nat} {g : Nat} {fc hd md lo tb rw bm nu tu : Nat} {o : Nat} {sa : Nat → Nat} {ct b L : Nat} {xs : Nat → Int32} {V : Nat → Int64} {kn : Int} {a : Nat → ro_K} {T : Nat → ro_K} {J : Nat → ro_K} {cn : Int} {Fo : Nat → ro_K} {Y : Nat → ro_K} {P : Nat → ro_K} {r : Nat → ro_K} {S : Nat → ro_K} {a1 : Nat → ro_K} {b1 : Nat → ro_K} {bn : Int} {Lx : Nat → Int} {E : Nat → Nat → ro_K} {F : Nat → Nat → ro_K} {Bm : Nat → Nat → ro_K} {M : Nat → Nat → ro_K} {cd : Int} {lv : Int} {mn : Int} {G : Nat → Nat → ro_K} {a2 : Nat → ro_K} {P2 : Nat → ro_K} {E2 : Nat → Nat → ro_K} {M2 : Nat → Nat → ro_K} {L2 : Nat → Int} {B2 : Nat → Nat → ro_K} {T2 : Nat → ro_K} {U2 : Nat → Nat → ro_K} {z4 : Int} {k kc ks : Nat} {H : Heap} {locs : List Loc} {ls : Array Slot} (hx : p.tables.exec = Jvm.exec) (hb : c.code = c_L_law) (hml : c.maxLocals = 7) (hown : s.vm.findClass R_L = some m.cls) (hts : ∀ w ∈ kb, w.before args s = true) (hK : va_K D vC [(cJ, .long), (cO, .array .long), (cI, .int)] s) (hN : rc_N s) (hst : l.stackTraces = false) (hE : rx_E sa A s s.heap) (hC : rz_C ct A s s.heap) (hX : va_X b L xs s s.heap) (hbl : b < s.heap.size) (hbA : ¬ A b) (hL : L ≤ 5121) (hod : od = (o : Int)) (ho1 : 1 ≤ o) (ho3 : o ≤ 3) (hz4 : z4 = (k : Int)) (hk9 : k + 9 < L) (hkc : kc + 1 ≤ 601024) (hks : ks + 6 ≤ 7293000) (hI : (lw_I o F E a kn M Lx Bm bn G a2 ∧ J 4 = 0)) (hend : ∀ (V : Nat → Int64) (kn : Int) (a : Nat → ro_K) (T : Nat → ro_K) (J : Nat → ro_K) (cn : Int) (Fo : Nat → ro_K) (Y : Nat → ro_K) (P : Nat → ro_K) (r : Nat → ro_K) (S : Nat → ro_K) (a1 : Nat → ro_K) (b1 : Nat → ro_K) (bn : Int) (Lx : Nat → Int) (E : Nat → Nat → ro_K) (F : Nat → Nat → ro_K) (Bm : Nat → Nat → ro_K) (M : Nat → Nat → ro_K) (cd : Int) (lv : Int) (mn : Int) (G : Nat → Nat → ro_K) (a2 : Nat → ro_K) (P2 : Nat → ro_K) (E2 : Nat → Nat → ro_K) (M2 : Nat → Nat → ro_K) (L2 : Nat → Int) (B2 : Nat → Nat → ro_K) (T2 : Nat → ro_K) (U2 : Nat → Nat → ro_K) (H : Heap) (locs : List Loc) (ls : Array Slot), (lw_I o F E a kn M Lx Bm bn G a2 ∧ J 4 = 0) → va_P D vC (((([(ou, kl cJ 1 V), (h, rO od fa ot ah te id rt bs kn), (fa, go cO 4 fr), (ot, go cO 4 er), (ah, ka cJ 13 a), (te, ka cJ 31 T), (id, ka cJ 5 J), (rt, rR fo cn wh pt rs sq on tw), (fo, ka cJ 4 Fo), (wh, ka cJ 5 Y), (pt, ka cJ 5 P), (rs, ka cJ 5 r), (sq, ka cJ 8 S), (on, ka cJ 5 a1), (tw, ka cJ 5 b1), (bs, rB ro le me bn), (ro, go cO 17 ra), (le, ki cI 13 Lx), (me, go cO 13 mb), (g, rM cd od fc hd md lo lv tb rw bm mn nu tu), (fc, k2 cJ 20 5 G), (hd, ka cJ 13 a2), (md, ka cJ 17 P2), (lo, k2 cJ 20 5 E2), (tb, k2 cJ 221 13 M2), (rw, ki cI 13 L2), (bm, k2 cJ 169 13 B2), (nu, ka cJ 31 T2), (tu, k2 cJ 20 5 U2)] ++ gs 4 er cJ 5 E) ++ gs 4 fr cJ 5 F) ++ gs 13 mb cJ 13 Bm) ++ gs 17 ra cJ 13 M) H → va_D A (((([(ou, kl cJ 1 V), (h, rO od fa ot ah te id rt bs kn), (fa, go cO 4 fr), (ot, go cO 4 er), (ah, ka cJ 13 a), (te, ka cJ 31 T), (id, ka cJ 5 J), (rt, rR fo cn wh pt rs sq on tw), (fo, ka cJ 4 Fo), (wh, ka cJ 5 Y), (pt, ka cJ 5 P), (rs, ka cJ 5 r), (sq, ka cJ 8 S), (on, ka cJ 5 a1), (tw, ka cJ 5 b1), (bs, rB ro le me bn), (ro, go cO 17 ra), (le, ki cI 13 Lx), (me, go cO 13 mb), (g, rM cd od fc hd md lo lv tb rw bm mn nu tu), (fc, k2 cJ 20 5 G), (hd, ka cJ 13 a2), (md, ka cJ 17 P2), (lo, k2 cJ 20 5 E2), (tb, k2 cJ 221 13 M2), (rw, ki cI 13 L2), (bm, k2 cJ 169 13 B2), (nu, ka cJ 31 T2), (tu, k2 cJ 20 5 U2)] ++ gs 4 er cJ 5 E) ++ gs 4 fr cJ 5 F) ++ gs 13 mb cJ 13 Bm) ++ gs 17 ra cJ 13 M) → va_S A s.heap H locs → lv_has ls 7 [(0, .ref b), (1, .ref h), (2, .ref g), (3, .ref ou), (4, .int (iz z4))] → W p l e room_1 s m args below meth c H locs (kc + 1) (ks + 6) Q (F0 m 1338 ls [])) (hP : va_P D vC (((([(ou, kl cJ 1 V), (h, rO od fa ot ah te id rt bs kn), (fa, go cO 4 fr), (ot, go cO 4 er), (ah, ka cJ 13 a), (te, ka cJ 31 T), (id, ka cJ 5 J), (rt, rR fo cn wh pt rs sq on tw), (fo, ka cJ 4 Fo), (wh, ka cJ 5 Y), (pt, ka cJ 5 P), (rs, ka cJ 5 r), (sq, ka cJ 8 S), (on, ka cJ 5 a1), (tw, ka cJ 5 b1), (bs, rB ro le me bn), (ro, go cO 17 ra), (le, ki cI 13 Lx), (me, go cO 13 mb), (g, rM cd od fc hd md lo lv tb rw bm mn nu tu), (fc, k2 cJ 20 5 G), (hd, ka cJ 13 a2), (md, ka cJ 17 P2), (lo, k2 cJ 20 5 E2), (tb, k2 cJ 221 13 M2), (rw, ki cI 13 L2), (bm, k2 cJ 169 13 B2), (nu, ka cJ 31 T2), (tu, k2 cJ 20 5 U2)] ++ gs 4 er cJ 5 E) ++ gs 4 fr cJ 5 F) ++ gs 13 mb cJ 13 Bm) ++ gs 17 ra cJ 13 M) H) (hD : va_D A (((([(ou, kl cJ 1 V), (h, rO od fa ot ah te id rt bs kn), (fa, go cO 4 fr), (ot, go cO 4 er), (ah, ka cJ 13 a), (te, ka cJ 31 T), (id, ka cJ 5 J), (rt, rR fo cn wh pt rs sq on tw), (fo, ka cJ 4 Fo), (wh, ka cJ 5 Y), (pt, ka cJ 5 P), (rs, ka cJ 5 r), (sq, ka cJ 8 S), (on, ka cJ 5 a1), (tw, ka cJ 5 b1), (bs, rB ro le me bn), (ro, go cO 17 ra), (le, ki cI 13 Lx), (me, go cO 13 mb), (g, rM cd od fc hd md lo lv tb rw bm mn nu tu), (fc, k2 cJ 20 5 G), (hd, ka cJ 13 a2), (md, ka cJ 17 P2), (lo, k2 cJ 20 5 E2), (tb, k2 cJ 221 13 M2), (rw, ki cI 13 L2), (bm, k2 cJ 169 13 B2), (nu, ka cJ 31 T2), (tu, k2 cJ 20 5 U2)] ++ gs 4 er cJ 5 E) ++ gs 4 fr cJ 5 F) ++ gs 13 mb cJ 13 Bm) ++ gs 17 ra cJ 13 M)) (hS : va_S A s.heap H locs) (hl : lv_has ls 7 [(0, .ref b), (1, .ref h), (2, .ref g), (3, .ref ou), (4, .int (iz z4))]) : W p l e room_1 s m args below meth c H locs kc ks Q (F0 m 904 ls []) := by
  obtain ⟨hI, hJ⟩ := hI
  have hs1 := sx_in xs (k + 1)
  have hs2 := sx_in xs (k + 2)
  have hfc : kc + 0 ≤ room_1.cells := by show kc + 0 ≤ 601024; omega
  have hfs : ks + 0 ≤ room_1.slots := by show ks + 0 ≤ 7293000; omega
  have hfc1 : kc + 1 ≤ room_1.cells := hkc
  have hfs1 : ks + 6 ≤ room_1.slots := hks
  have hbs := lw_base hI ho3 P2 M2 L2 B2
  have hb1 := hbs.1
  have hb2 := hbs.2.1
  by_cases hok : 0 ≤ (sx xs (k + 2)) ∧ (sx xs (k + 2)) < 13
  · by_cases hm : 0 ≤ (sx xs (k + 1)) ∧ (sx xs (k + 1)) < (knD kn F o M Lx Bm bn).2.2.2
    · refine lv_aload_n hx hb d_L_law_904 rfl (lv_at hl 1 rfl) ?_
      refine lv_aload_n hx hb d_L_law_905 rfl (lv_at hl 0 rfl) ?_
      refine lv_iload hx hb d_L_law_906 (lv_at hl 4 rfl) ?_
      refine rz_iconst hx hb d_L_law_908 ?_
      refine rz_iadd hx hb d_L_law_909 ?_
      refine rl_sld hx hb hX hbl hbA hS (k + 1) d_L_law_910 ?_
      refine lv_aload_n hx hb d_L_law_911 rfl (lv_at hl 0 rfl) ?_
      refine lv_iload hx hb d_L_law_912 (lv_at hl 4 rfl) ?_
      refine rz_iconst hx hb d_L_law_914 ?_
      refine rz_iadd hx hb d_L_law_915 ?_
      refine rl_sld hx hb hX hbl hbA hS (k + 2) d_L_law_916 ?_
      refine lv_aload_n hx hb d_L_law_917 rfl (lv_at hl 3 rfl) ?_
      refine rsM_calli (vx_runSW (hh := [((0 : Nat), (10 : Nat), (13 : Nat), (13 : Nat))]) (As := [.ref h, .int (iz (sx xs (k + 1))), .int (iz (sx xs (k + 2))), .ref ou]) (rest := []) ⟨hx, hb, hml, hown, hts⟩ (h_L_answer_S l D cI cJ cO h fa ot ah te id rt bs od kn ou V ro le me bn fr mb ra F Bm M Lx (sx xs (k + 1)) (sx xs (k + 2)) o hod ho3 (lw_kn hI) ((sx xs (k + 1)).toNat) ((sx xs (k + 2)).toNat) (by omega) (by omega) (by omega) (by omega) (by omega) (by omega)) (vx_cwSW 4 hts (kb_gi (kb_c kw_471 (kb_c kw_472 (kb_c kw_0 (kb_c kw_473 kb_all))))) rfl rfl rfl (by decide +kernel) ⟨Nat.le_of_ble_eq_true rfl, Nat.le_of_ble_eq_true rfl⟩) ⟨rc_blind, rs_pre (Y := []) (rs_nil (rs_a_3_0 hP)) (rs_nilD (rs_aD_3_0 hD)) hK hN [1, 2, 15, 16, 17, 18, 0] rfl rfl [0, 1, 2] rfl⟩ rfl rfl hl.1 rfl (lv_room (Nat.le_of_ble_eq_true rfl)) d_L_law_918 ⟨hfc, hfs⟩) (rs_nil (rs_a_3_0 hP)) (rs_nilD (rs_aD_3_0 hD)) hS [1, 2, 15, 16, 17, 18, 0] rfl (fun _ => rfl) (fun _ => gs_adr2 (gs_adr _ _ _ _ _ _) (gs_adr2 (gs_adr _ _ _ _ _ _) (gs_adr _ _ _ _ _ _))) (fun r1 u2 H locs hw2 hP hD hS => ?_)
      have hP := rs_b_3_0 (rs_nilR hP)
      have hD := rs_bD_3_0 (rs_nilRD hD)
      subst hw2
      have hP : va_P D vC (((([(ou, kl cJ 1 (vp_updL V 0 ((iz (((knD kn F o M Lx Bm bn).2.2.1 ((sx xs (k + 1)).toNat) ((sx xs (k + 2)).toNat)).val : Int)).toInt64))), (h, rO od fa ot ah te id rt bs 1), (fa, go cO 4 fr), (ot, go cO 4 er), (ah, ka cJ 13 a), (te, ka cJ 31 T), (id, ka cJ 5 J), (rt, rR fo cn wh pt rs sq on tw), (fo, ka cJ 4 Fo), (wh, ka cJ 5 Y), (pt, ka cJ 5 P), (rs, ka cJ 5 r), (sq, ka cJ 8 S), (on, ka cJ 5 a1), (tw, ka cJ 5 b1), (bs, rB ro le me (knD kn F o M Lx Bm bn).2.2.2), (ro, go cO 17 ra), (le, ki cI 13 (knD kn F o M Lx Bm bn).2.1), (me, go cO 13 mb), (g, rM cd od fc hd md lo lv tb rw bm mn nu tu), (fc, k2 cJ 20 5 G), (hd, ka cJ 13 a2), (md, ka cJ 17 P2), (lo, k2 cJ 20 5 E2), (tb, k2 cJ 221 13 M2), (rw, ki cI 13 L2), (bm, k2 cJ 169 13 B2), (nu, ka cJ 31 T2), (tu, k2 cJ 20 5 U2)] ++ gs 4 er cJ 5 E) ++ gs 4 fr cJ 5 F) ++ gs 13 mb cJ 13 (knD kn F o M Lx Bm bn).2.2.1) ++ gs 17 ra cJ 13 (knD kn F o M Lx Bm bn).1) H := hP
      have hD : va_D A (((([(ou, kl cJ 1 (vp_updL V 0 ((iz (((knD kn F o M Lx Bm bn).2.2.1 ((sx xs (k + 1)).toNat) ((sx xs (k + 2)).toNat)).val : Int)).toInt64))), (h, rO od fa ot ah te id rt bs 1), (fa, go cO 4 fr), (ot, go cO 4 er), (ah, ka cJ 13 a), (te, ka cJ 31 T), (id, ka cJ 5 J), (rt, rR fo cn wh pt rs sq on tw), (fo, ka cJ 4 Fo), (wh, ka cJ 5 Y), (pt, ka cJ 5 P), (rs, ka cJ 5 r), (sq, ka cJ 8 S), (on, ka cJ 5 a1), (tw, ka cJ 5 b1), (bs, rB ro le me (knD kn F o M Lx Bm bn).2.2.2), (ro, go cO 17 ra), (le, ki cI 13 (knD kn F o M Lx Bm bn).2.1), (me, go cO 13 mb), (g, rM cd od fc hd md lo lv tb rw bm mn nu tu), (fc, k2 cJ 20 5 G), (hd, ka cJ 13 a2), (md, ka cJ 17 P2), (lo, k2 cJ 20 5 E2), (tb, k2 cJ 221 13 M2), (rw, ki cI 13 L2), (bm, k2 cJ 169 13 B2), (nu, ka cJ 31 T2), (tu, k2 cJ 20 5 U2)] ++ gs 4 er cJ 5 E) ++ gs 4 fr cJ 5 F) ++ gs 13 mb cJ 13 (knD kn F o M Lx Bm bn).2.2.1) ++ gs 17 ra cJ 13 (knD kn F o M Lx Bm bn).1) := hD
      refine lv_istore (lv' := [(5, .int (iz 0)), (0, .ref b), (1, .ref h), (2, .ref g), (3, .ref ou), (4, .int (iz z4))]) hx hb d_L_law_921 hl (by decide) rfl (fun ls hl => ?_)
      refine lv_aload_n hx hb d_L_law_923 rfl (lv_at hl 3 rfl) ?_
      refine lv_aload_n hx hb d_L_law_924 rfl (lv_at hl 1 rfl) ?_
      refine lv_iload hx hb d_L_law_925 (lv_at hl 5 rfl) ?_
      refine rz_iconst hx hb d_L_law_927 ?_
      refine rz_iadd hx hb d_L_law_928 ?_
      refine rl_sld hx hb hX hbl hbA hS (k + 1) d_L_law_929 ?_
      refine lv_aload_n hx hb d_L_law_930 rfl (lv_at hl 1 rfl) ?_
      refine lv_iload hx hb d_L_law_931 (lv_at hl 5 rfl) ?_
      refine rz_iconst hx hb d_L_law_933 ?_
      refine rz_iadd hx hb d_L_law_934 ?_
      refine rl_sld hx hb hX hbl hbA hS (k + 2) d_L_law_935 ?_
      refine rc_calli (va_runV (As := [.int (iz (sx xs (k + 1))), .int (iz (sx xs (k + 2)))]) (rest := []) ⟨hx, hb, hml, hown, hts⟩ (m_M_answer l D cJ cI g cd od fc hd md lo lv tb rw bm mn nu tu G M2 B2 P2 L2 (sx xs (k + 1)) (sx xs (k + 2)) o hod ho3 (by omega) (by omega) (by omega) (by omega)) (cwV 2 hts (kb_gi (kb_c kw_695 (kb_c kw_696 (kb_c kw_697 (kb_c kw_5 (kb_c kw_698 kb_all)))))) rfl rfl rfl (by decide +kernel) ⟨Nat.le_of_ble_eq_true rfl, Nat.le_of_ble_eq_true rfl⟩) ⟨rc_blind, va_recv hK hP (ci := 3) (q0 := 19) rfl rfl, rc_pre hP hD hK hN [19, 20, 22, 24, 25, 26] rfl rfl [0, 2] rfl⟩ rfl rfl hl.1 rfl (lv_room (Nat.le_of_ble_eq_true rfl)) d_L_law_936 ⟨hfc, hfs⟩) hP hD hS [19, 20, 22, 24, 25, 26] rfl (fun _ => rfl) (fun r3 u4 H locs hw4 hP hD hS => ?_)
      have h9 : u4 = 0 ∧ r3 = iz (((faS G o P2 M2 L2 B2).2 ((sx xs (k + 1)).toNat) ((sx xs (k + 2)).toNat)).val : Int) := by
        rcases hw4 with ⟨h6, h7, h8⟩ | ⟨h6, h7, h8⟩
        · exact ⟨h7, h8⟩
        · exact absurd ⟨⟨by omega, by omega⟩, by omega, by omega⟩ h6
      obtain ⟨rfl, rfl⟩ := h9
      have hP : va_P D vC (((([(ou, kl cJ 1 (vp_updL V 0 ((iz (((knD kn F o M Lx Bm bn).2.2.1 ((sx xs (k + 1)).toNat) ((sx xs (k + 2)).toNat)).val : Int)).toInt64))), (h, rO od fa ot ah te id rt bs 1), (fa, go cO 4 fr), (ot, go cO 4 er), (ah, ka cJ 13 a), (te, ka cJ 31 T), (id, ka cJ 5 J), (rt, rR fo cn wh pt rs sq on tw), (fo, ka cJ 4 Fo), (wh, ka cJ 5 Y), (pt, ka cJ 5 P), (rs, ka cJ 5 r), (sq, ka cJ 8 S), (on, ka cJ 5 a1), (tw, ka cJ 5 b1), (bs, rB ro le me ((knD kn F o M Lx Bm bn).2.2.2)), (ro, go cO 17 ra), (le, ki cI 13 ((knD kn F o M Lx Bm bn).2.1)), (me, go cO 13 mb), (g, rM 0 od fc hd md lo lv tb rw bm ((faS G o P2 M2 L2 B2).1 : Int) nu tu), (fc, k2 cJ 20 5 G), (hd, ka cJ 13 a2), (md, ka cJ 17 (tbP G o P2 13)), (lo, k2 cJ 20 5 E2), (tb, k2 cJ 221 13 (faT G o P2 M2 L2).1), (rw, ki cI 13 (faT G o P2 M2 L2).2), (bm, k2 cJ 169 13 (faS G o P2 M2 L2 B2).2), (nu, ka cJ 31 T2), (tu, k2 cJ 20 5 U2)] ++ gs 4 er cJ 5 E) ++ gs 4 fr cJ 5 F) ++ gs 13 mb cJ 13 ((knD kn F o M Lx Bm bn).2.2.1)) ++ gs 17 ra cJ 13 ((knD kn F o M Lx Bm bn).1)) H := hP
      have hD : va_D A (((([(ou, kl cJ 1 (vp_updL V 0 ((iz (((knD kn F o M Lx Bm bn).2.2.1 ((sx xs (k + 1)).toNat) ((sx xs (k + 2)).toNat)).val : Int)).toInt64))), (h, rO od fa ot ah te id rt bs 1), (fa, go cO 4 fr), (ot, go cO 4 er), (ah, ka cJ 13 a), (te, ka cJ 31 T), (id, ka cJ 5 J), (rt, rR fo cn wh pt rs sq on tw), (fo, ka cJ 4 Fo), (wh, ka cJ 5 Y), (pt, ka cJ 5 P), (rs, ka cJ 5 r), (sq, ka cJ 8 S), (on, ka cJ 5 a1), (tw, ka cJ 5 b1), (bs, rB ro le me ((knD kn F o M Lx Bm bn).2.2.2)), (ro, go cO 17 ra), (le, ki cI 13 ((knD kn F o M Lx Bm bn).2.1)), (me, go cO 13 mb), (g, rM 0 od fc hd md lo lv tb rw bm ((faS G o P2 M2 L2 B2).1 : Int) nu tu), (fc, k2 cJ 20 5 G), (hd, ka cJ 13 a2), (md, ka cJ 17 (tbP G o P2 13)), (lo, k2 cJ 20 5 E2), (tb, k2 cJ 221 13 (faT G o P2 M2 L2).1), (rw, ki cI 13 (faT G o P2 M2 L2).2), (bm, k2 cJ 169 13 (faS G o P2 M2 L2 B2).2), (nu, ka cJ 31 T2), (tu, k2 cJ 20 5 U2)] ++ gs 4 er cJ 5 E) ++ gs 4 fr cJ 5 F) ++ gs 13 mb cJ 13 ((knD kn F o M Lx Bm bn).2.2.1)) ++ gs 17 ra cJ 13 ((knD kn F o M Lx Bm bn).1)) := hD
      refine lv_istore (lv' := [(6, .int (iz (((faS G o P2 M2 L2 B2).2 ((sx xs (k + 1)).toNat) ((sx xs (k + 2)).toNat)).val : Int))), (5, .int (iz 0)), (0, .ref b), (1, .ref h), (2, .ref g), (3, .ref ou), (4, .int (iz z4))]) hx hb d_L_law_939 hl (by decide) rfl (fun ls hl => ?_)
      refine lv_aload_n hx hb d_L_law_941 rfl (lv_at hl 4 rfl) ?_
      refine rc_calli (va_runV (As := []) (rest := []) ⟨hx, hb, hml, hown, hts⟩ (m_M_thrown l D g 0 od fc hd md lo lv tb rw bm ((faS G o P2 M2 L2 B2).1 : Int) nu tu) (cwV 0 hts (kb_gi (kb_c kw_570 (kb_c kw_571 (kb_c kw_572 (kb_c kw_5 (kb_c kw_573 kb_all)))))) rfl rfl rfl (by decide +kernel) ⟨Nat.le_of_ble_eq_true rfl, Nat.le_of_ble_eq_true rfl⟩) ⟨rc_blind, va_recv hK hP (ci := 3) (q0 := 19) rfl rfl, rc_pre hP hD hK hN [19] rfl rfl [] rfl⟩ rfl rfl hl.1 rfl (lv_room (Nat.le_of_ble_eq_true rfl)) d_L_law_942 ⟨hfc, hfs⟩) hP hD hS [19] rfl (fun _ => rfl) (fun r5 u6 H locs hw6 hP hD hS => ?_)
      subst hw6
      have hP : va_P D vC (((([(ou, kl cJ 1 (vp_updL V 0 ((iz (((knD kn F o M Lx Bm bn).2.2.1 ((sx xs (k + 1)).toNat) ((sx xs (k + 2)).toNat)).val : Int)).toInt64))), (h, rO od fa ot ah te id rt bs 1), (fa, go cO 4 fr), (ot, go cO 4 er), (ah, ka cJ 13 a), (te, ka cJ 31 T), (id, ka cJ 5 J), (rt, rR fo cn wh pt rs sq on tw), (fo, ka cJ 4 Fo), (wh, ka cJ 5 Y), (pt, ka cJ 5 P), (rs, ka cJ 5 r), (sq, ka cJ 8 S), (on, ka cJ 5 a1), (tw, ka cJ 5 b1), (bs, rB ro le me ((knD kn F o M Lx Bm bn).2.2.2)), (ro, go cO 17 ra), (le, ki cI 13 ((knD kn F o M Lx Bm bn).2.1)), (me, go cO 13 mb), (g, rM 0 od fc hd md lo lv tb rw bm ((faS G o P2 M2 L2 B2).1 : Int) nu tu), (fc, k2 cJ 20 5 G), (hd, ka cJ 13 a2), (md, ka cJ 17 (tbP G o P2 13)), (lo, k2 cJ 20 5 E2), (tb, k2 cJ 221 13 (faT G o P2 M2 L2).1), (rw, ki cI 13 (faT G o P2 M2 L2).2), (bm, k2 cJ 169 13 (faS G o P2 M2 L2 B2).2), (nu, ka cJ 31 T2), (tu, k2 cJ 20 5 U2)] ++ gs 4 er cJ 5 E) ++ gs 4 fr cJ 5 F) ++ gs 13 mb cJ 13 ((knD kn F o M Lx Bm bn).2.2.1)) ++ gs 17 ra cJ 13 ((knD kn F o M Lx Bm bn).1)) H := hP
      have hD : va_D A (((([(ou, kl cJ 1 (vp_updL V 0 ((iz (((knD kn F o M Lx Bm bn).2.2.1 ((sx xs (k + 1)).toNat) ((sx xs (k + 2)).toNat)).val : Int)).toInt64))), (h, rO od fa ot ah te id rt bs 1), (fa, go cO 4 fr), (ot, go cO 4 er), (ah, ka cJ 13 a), (te, ka cJ 31 T), (id, ka cJ 5 J), (rt, rR fo cn wh pt rs sq on tw), (fo, ka cJ 4 Fo), (wh, ka cJ 5 Y), (pt, ka cJ 5 P), (rs, ka cJ 5 r), (sq, ka cJ 8 S), (on, ka cJ 5 a1), (tw, ka cJ 5 b1), (bs, rB ro le me ((knD kn F o M Lx Bm bn).2.2.2)), (ro, go cO 17 ra), (le, ki cI 13 ((knD kn F o M Lx Bm bn).2.1)), (me, go cO 13 mb), (g, rM 0 od fc hd md lo lv tb rw bm ((faS G o P2 M2 L2 B2).1 : Int) nu tu), (fc, k2 cJ 20 5 G), (hd, ka cJ 13 a2), (md, ka cJ 17 (tbP G o P2 13)), (lo, k2 cJ 20 5 E2), (tb, k2 cJ 221 13 (faT G o P2 M2 L2).1), (rw, ki cI 13 (faT G o P2 M2 L2).2), (bm, k2 cJ 169 13 (faS G o P2 M2 L2 B2).2), (nu, ka cJ 31 T2), (tu, k2 cJ 20 5 U2)] ++ gs 4 er cJ 5 E) ++ gs 4 fr cJ 5 F) ++ gs 13 mb cJ 13 ((knD kn F o M Lx Bm bn).2.2.1)) ++ gs 17 ra cJ 13 ((knD kn F o M Lx Bm bn).1)) := hD
      refine lv_iload hx hb d_L_law_945 (lv_at hl 1 rfl) ?_
      refine rl_icmp_eq (tgt := 952) hx hb d_L_law_947 (by decide) rfl ?_
      refine lv_iload hx hb d_L_law_952 (lv_at hl 1 rfl) ?_
      refine rz_if_ne (tgt := 969) hx hb d_L_law_954 (by decide) (fun hc => absurd rfl hc) (fun _ => ?_)
      refine lv_aload_n hx hb d_L_law_957 rfl (lv_at hl 5 rfl) ?_
      refine rz_iconst hx hb d_L_law_958 ?_
      refine rl_ld hx hb hK hP 0 0 rfl rfl 0 d_L_law_959 ?_
      rw [vp_self]
      refine lv_iload hx hb d_L_law_960 (lv_at hl 0 rfl) ?_
      refine lv_i2l hx hb d_L_law_962 rfl ?_
      refine rl_lcmp_eq (tgt := 969) hx hb d_L_law_963 d_L_law_964 (by decide) (by rw [hbs.2.2.1 ((sx xs (k + 1)).toNat) (by omega) ((sx xs (k + 2)).toNat) (by omega)]) ?_
      refine lv_goto (tgt := 1338) hx hb d_L_law_969 (by decide) ?_
      refine W.widen (k := kc + 1) (n := ks + 6) (by omega) (by omega) ?_
      exact hend (vp_updL V 0 ((iz (((knD kn F o M Lx Bm bn).2.2.1 ((sx xs (k + 1)).toNat) ((sx xs (k + 2)).toNat)).val : Int)).toInt64)) 1 a T J cn Fo Y P r S a1 b1 ((knD kn F o M Lx Bm bn).2.2.2) ((knD kn F o M Lx Bm bn).2.1) E F ((knD kn F o M Lx Bm bn).2.2.1) ((knD kn F o M Lx Bm bn).1) 0 lv ((faS G o P2 M2 L2 B2).1 : Int) G a2 (tbP G o P2 13) E2 ((faT G o P2 M2 L2).1) ((faT G o P2 M2 L2).2) ((faS G o P2 M2 L2 B2).2) T2 U2 H locs ls ⟨lw_know hI ho3, hJ⟩ hP hD hS (lv_sub hl [2, 3, 4, 5, 6] rfl)
    · refine lv_aload_n hx hb d_L_law_904 rfl (lv_at hl 1 rfl) ?_
      refine lv_aload_n hx hb d_L_law_905 rfl (lv_at hl 0 rfl) ?_
      refine lv_iload hx hb d_L_law_906 (lv_at hl 4 rfl) ?_
      refine rz_iconst hx hb d_L_law_908 ?_
      refine rz_iadd hx hb d_L_law_909 ?_
      refine rl_sld hx hb hX hbl hbA hS (k + 1) d_L_law_910 ?_
      refine lv_aload_n hx hb d_L_law_911 rfl (lv_at hl 0 rfl) ?_
      refine lv_iload hx hb d_L_law_912 (lv_at hl 4 rfl) ?_
      refine rz_iconst hx hb d_L_law_914 ?_
      refine rz_iadd hx hb d_L_law_915 ?_
      refine rl_sld hx hb hX hbl hbA hS (k + 2) d_L_law_916 ?_
      refine lv_aload_n hx hb d_L_law_917 rfl (lv_at hl 3 rfl) ?_
      refine rsM_calli (vx_runSW (hh := [((0 : Nat), (10 : Nat), (13 : Nat), (13 : Nat))]) (As := [.ref h, .int (iz (sx xs (k + 1))), .int (iz (sx xs (k + 2))), .ref ou]) (rest := []) ⟨hx, hb, hml, hown, hts⟩ (h_L_answer_k_t_S l D hst sa cI cJ cO h fa ot ah te id rt bs od kn ou V ro le me bn fr mb ra F Bm M Lx (sx xs (k + 1)) (sx xs (k + 2)) o hod ho3 (lw_kn hI) (by omega) (by omega) (by omega) (by omega) (by omega) (by omega) (by omega)) (vx_cwSW 4 hts (kb_gi (kb_c kw_471 (kb_c kw_472 (kb_c kw_0 (kb_c kw_473 kb_all))))) rfl rfl rfl (by decide +kernel) ⟨Nat.le_of_ble_eq_true rfl, Nat.le_of_ble_eq_true rfl⟩) ⟨rx_blind, fun U h8 h9 => ⟨(rs_pre (Y := []) (rs_nil (rs_a_3_0 hP)) (rs_nilD (rs_aD_3_0 hD)) hK hN [1, 2, 15, 16, 17, 18, 0] rfl rfl [0, 1, 2] rfl) U h8 h9, hE.go hS (rs_in (rs_nilD (rs_aD_3_0 hD)) (is := [1, 2, 15, 16, 17, 18, 0]) rfl) h8 h9⟩⟩ rfl rfl hl.1 rfl (lv_room (Nat.le_of_ble_eq_true rfl)) d_L_law_918 ⟨hfc1, hfs1⟩) (rs_nil (rs_a_3_0 hP)) (rs_nilD (rs_aD_3_0 hD)) hS [1, 2, 15, 16, 17, 18, 0] rfl (fun _ => rfl) (fun _ => gs_adr2 (gs_adr _ _ _ _ _ _) (gs_adr2 (gs_adr _ _ _ _ _ _) (gs_adr _ _ _ _ _ _))) (fun r7 u8 H locs hw8 hP hD hS => ?_)
      have hP := rs_b_3_0 (rs_nilR hP)
      have hD := rs_bD_3_0 (rs_nilRD hD)
      subst hw8
      have hP : va_P D vC (((([(ou, kl cJ 1 V), (h, rO od fa ot ah te id rt bs 1), (fa, go cO 4 fr), (ot, go cO 4 er), (ah, ka cJ 13 a), (te, ka cJ 31 T), (id, ka cJ 5 J), (rt, rR fo cn wh pt rs sq on tw), (fo, ka cJ 4 Fo), (wh, ka cJ 5 Y), (pt, ka cJ 5 P), (rs, ka cJ 5 r), (sq, ka cJ 8 S), (on, ka cJ 5 a1), (tw, ka cJ 5 b1), (bs, rB ro le me (knD kn F o M Lx Bm bn).2.2.2), (ro, go cO 17 ra), (le, ki cI 13 (knD kn F o M Lx Bm bn).2.1), (me, go cO 13 mb), (g, rM cd od fc hd md lo lv tb rw bm mn nu tu), (fc, k2 cJ 20 5 G), (hd, ka cJ 13 a2), (md, ka cJ 17 P2), (lo, k2 cJ 20 5 E2), (tb, k2 cJ 221 13 M2), (rw, ki cI 13 L2), (bm, k2 cJ 169 13 B2), (nu, ka cJ 31 T2), (tu, k2 cJ 20 5 U2)] ++ gs 4 er cJ 5 E) ++ gs 4 fr cJ 5 F) ++ gs 13 mb cJ 13 (knD kn F o M Lx Bm bn).2.2.1) ++ gs 17 ra cJ 13 (knD kn F o M Lx Bm bn).1) H := hP
      have hD : va_D A (((([(ou, kl cJ 1 V), (h, rO od fa ot ah te id rt bs 1), (fa, go cO 4 fr), (ot, go cO 4 er), (ah, ka cJ 13 a), (te, ka cJ 31 T), (id, ka cJ 5 J), (rt, rR fo cn wh pt rs sq on tw), (fo, ka cJ 4 Fo), (wh, ka cJ 5 Y), (pt, ka cJ 5 P), (rs, ka cJ 5 r), (sq, ka cJ 8 S), (on, ka cJ 5 a1), (tw, ka cJ 5 b1), (bs, rB ro le me (knD kn F o M Lx Bm bn).2.2.2), (ro, go cO 17 ra), (le, ki cI 13 (knD kn F o M Lx Bm bn).2.1), (me, go cO 13 mb), (g, rM cd od fc hd md lo lv tb rw bm mn nu tu), (fc, k2 cJ 20 5 G), (hd, ka cJ 13 a2), (md, ka cJ 17 P2), (lo, k2 cJ 20 5 E2), (tb, k2 cJ 221 13 M2), (rw, ki cI 13 L2), (bm, k2 cJ 169 13 B2), (nu, ka cJ 31 T2), (tu, k2 cJ 20 5 U2)] ++ gs 4 er cJ 5 E) ++ gs 4 fr cJ 5 F) ++ gs 13 mb cJ 13 (knD kn F o M Lx Bm bn).2.2.1) ++ gs 17 ra cJ 13 (knD kn F o M Lx Bm bn).1) := hD
      refine lv_istore (lv' := [(5, .int (iz 1)), (0, .ref b), (1, .ref h), (2, .ref g), (3, .ref ou), (4, .int (iz z4))]) hx hb d_L_law_921 hl (by decide) rfl (fun ls hl => ?_)
      refine lv_aload_n hx hb d_L_law_923 rfl (lv_at hl 3 rfl) ?_
      refine lv_aload_n hx hb d_L_law_924 rfl (lv_at hl 1 rfl) ?_
      refine lv_iload hx hb d_L_law_925 (lv_at hl 5 rfl) ?_
      refine rz_iconst hx hb d_L_law_927 ?_
      refine rz_iadd hx hb d_L_law_928 ?_
      refine rl_sld hx hb hX hbl hbA hS (k + 1) d_L_law_929 ?_
      refine lv_aload_n hx hb d_L_law_930 rfl (lv_at hl 1 rfl) ?_
      refine lv_iload hx hb d_L_law_931 (lv_at hl 5 rfl) ?_
      refine rz_iconst hx hb d_L_law_933 ?_
      refine rz_iadd hx hb d_L_law_934 ?_
      refine rl_sld hx hb hX hbl hbA hS (k + 2) d_L_law_935 ?_
      refine rc_calli (va_runV (As := [.int (iz (sx xs (k + 1))), .int (iz (sx xs (k + 2)))]) (rest := []) ⟨hx, hb, hml, hown, hts⟩ (m_M_answer l D cJ cI g cd od fc hd md lo lv tb rw bm mn nu tu G M2 B2 P2 L2 (sx xs (k + 1)) (sx xs (k + 2)) o hod ho3 (by omega) (by omega) (by omega) (by omega)) (cwV 2 hts (kb_gi (kb_c kw_695 (kb_c kw_696 (kb_c kw_697 (kb_c kw_5 (kb_c kw_698 kb_all)))))) rfl rfl rfl (by decide +kernel) ⟨Nat.le_of_ble_eq_true rfl, Nat.le_of_ble_eq_true rfl⟩) ⟨rc_blind, va_recv hK hP (ci := 3) (q0 := 19) rfl rfl, rc_pre hP hD hK hN [19, 20, 22, 24, 25, 26] rfl rfl [0, 2] rfl⟩ rfl rfl hl.1 rfl (lv_room (Nat.le_of_ble_eq_true rfl)) d_L_law_936 ⟨hfc1, hfs1⟩) hP hD hS [19, 20, 22, 24, 25, 26] rfl (fun _ => rfl) (fun r9 u10 H locs hw10 hP hD hS => ?_)
      have h9 : u10 = 1 ∧ r9 = iz 0 := by
        rcases hw10 with ⟨h6, h7, h8⟩ | ⟨h6, h7, h8⟩
        · exfalso; omega
        · exact ⟨h7, h8⟩
      obtain ⟨rfl, rfl⟩ := h9
      have hP : va_P D vC (((([(ou, kl cJ 1 V), (h, rO od fa ot ah te id rt bs 1), (fa, go cO 4 fr), (ot, go cO 4 er), (ah, ka cJ 13 a), (te, ka cJ 31 T), (id, ka cJ 5 J), (rt, rR fo cn wh pt rs sq on tw), (fo, ka cJ 4 Fo), (wh, ka cJ 5 Y), (pt, ka cJ 5 P), (rs, ka cJ 5 r), (sq, ka cJ 8 S), (on, ka cJ 5 a1), (tw, ka cJ 5 b1), (bs, rB ro le me ((knD kn F o M Lx Bm bn).2.2.2)), (ro, go cO 17 ra), (le, ki cI 13 ((knD kn F o M Lx Bm bn).2.1)), (me, go cO 13 mb), (g, rM 1 od fc hd md lo lv tb rw bm ((faS G o P2 M2 L2 B2).1 : Int) nu tu), (fc, k2 cJ 20 5 G), (hd, ka cJ 13 a2), (md, ka cJ 17 (tbP G o P2 13)), (lo, k2 cJ 20 5 E2), (tb, k2 cJ 221 13 (faT G o P2 M2 L2).1), (rw, ki cI 13 (faT G o P2 M2 L2).2), (bm, k2 cJ 169 13 (faS G o P2 M2 L2 B2).2), (nu, ka cJ 31 T2), (tu, k2 cJ 20 5 U2)] ++ gs 4 er cJ 5 E) ++ gs 4 fr cJ 5 F) ++ gs 13 mb cJ 13 ((knD kn F o M Lx Bm bn).2.2.1)) ++ gs 17 ra cJ 13 ((knD kn F o M Lx Bm bn).1)) H := hP
      have hD : va_D A (((([(ou, kl cJ 1 V), (h, rO od fa ot ah te id rt bs 1), (fa, go cO 4 fr), (ot, go cO 4 er), (ah, ka cJ 13 a), (te, ka cJ 31 T), (id, ka cJ 5 J), (rt, rR fo cn wh pt rs sq on tw), (fo, ka cJ 4 Fo), (wh, ka cJ 5 Y), (pt, ka cJ 5 P), (rs, ka cJ 5 r), (sq, ka cJ 8 S), (on, ka cJ 5 a1), (tw, ka cJ 5 b1), (bs, rB ro le me ((knD kn F o M Lx Bm bn).2.2.2)), (ro, go cO 17 ra), (le, ki cI 13 ((knD kn F o M Lx Bm bn).2.1)), (me, go cO 13 mb), (g, rM 1 od fc hd md lo lv tb rw bm ((faS G o P2 M2 L2 B2).1 : Int) nu tu), (fc, k2 cJ 20 5 G), (hd, ka cJ 13 a2), (md, ka cJ 17 (tbP G o P2 13)), (lo, k2 cJ 20 5 E2), (tb, k2 cJ 221 13 (faT G o P2 M2 L2).1), (rw, ki cI 13 (faT G o P2 M2 L2).2), (bm, k2 cJ 169 13 (faS G o P2 M2 L2 B2).2), (nu, ka cJ 31 T2), (tu, k2 cJ 20 5 U2)] ++ gs 4 er cJ 5 E) ++ gs 4 fr cJ 5 F) ++ gs 13 mb cJ 13 ((knD kn F o M Lx Bm bn).2.2.1)) ++ gs 17 ra cJ 13 ((knD kn F o M Lx Bm bn).1)) := hD
      refine lv_istore (lv' := [(6, .int (iz 0)), (5, .int (iz 1)), (0, .ref b), (1, .ref h), (2, .ref g), (3, .ref ou), (4, .int (iz z4))]) hx hb d_L_law_939 hl (by decide) rfl (fun ls hl => ?_)
      refine lv_aload_n hx hb d_L_law_941 rfl (lv_at hl 4 rfl) ?_
      refine rc_calli (va_runV (As := []) (rest := []) ⟨hx, hb, hml, hown, hts⟩ (m_M_thrown l D g 1 od fc hd md lo lv tb rw bm ((faS G o P2 M2 L2 B2).1 : Int) nu tu) (cwV 0 hts (kb_gi (kb_c kw_570 (kb_c kw_571 (kb_c kw_572 (kb_c kw_5 (kb_c kw_573 kb_all)))))) rfl rfl rfl (by decide +kernel) ⟨Nat.le_of_ble_eq_true rfl, Nat.le_of_ble_eq_true rfl⟩) ⟨rc_blind, va_recv hK hP (ci := 3) (q0 := 19) rfl rfl, rc_pre hP hD hK hN [19] rfl rfl [] rfl⟩ rfl rfl hl.1 rfl (lv_room (Nat.le_of_ble_eq_true rfl)) d_L_law_942 ⟨hfc1, hfs1⟩) hP hD hS [19] rfl (fun _ => rfl) (fun r11 u12 H locs hw12 hP hD hS => ?_)
      subst hw12
      have hP : va_P D vC (((([(ou, kl cJ 1 V), (h, rO od fa ot ah te id rt bs 1), (fa, go cO 4 fr), (ot, go cO 4 er), (ah, ka cJ 13 a), (te, ka cJ 31 T), (id, ka cJ 5 J), (rt, rR fo cn wh pt rs sq on tw), (fo, ka cJ 4 Fo), (wh, ka cJ 5 Y), (pt, ka cJ 5 P), (rs, ka cJ 5 r), (sq, ka cJ 8 S), (on, ka cJ 5 a1), (tw, ka cJ 5 b1), (bs, rB ro le me ((knD kn F o M Lx Bm bn).2.2.2)), (ro, go cO 17 ra), (le, ki cI 13 ((knD kn F o M Lx Bm bn).2.1)), (me, go cO 13 mb), (g, rM 1 od fc hd md lo lv tb rw bm ((faS G o P2 M2 L2 B2).1 : Int) nu tu), (fc, k2 cJ 20 5 G), (hd, ka cJ 13 a2), (md, ka cJ 17 (tbP G o P2 13)), (lo, k2 cJ 20 5 E2), (tb, k2 cJ 221 13 (faT G o P2 M2 L2).1), (rw, ki cI 13 (faT G o P2 M2 L2).2), (bm, k2 cJ 169 13 (faS G o P2 M2 L2 B2).2), (nu, ka cJ 31 T2), (tu, k2 cJ 20 5 U2)] ++ gs 4 er cJ 5 E) ++ gs 4 fr cJ 5 F) ++ gs 13 mb cJ 13 ((knD kn F o M Lx Bm bn).2.2.1)) ++ gs 17 ra cJ 13 ((knD kn F o M Lx Bm bn).1)) H := hP
      have hD : va_D A (((([(ou, kl cJ 1 V), (h, rO od fa ot ah te id rt bs 1), (fa, go cO 4 fr), (ot, go cO 4 er), (ah, ka cJ 13 a), (te, ka cJ 31 T), (id, ka cJ 5 J), (rt, rR fo cn wh pt rs sq on tw), (fo, ka cJ 4 Fo), (wh, ka cJ 5 Y), (pt, ka cJ 5 P), (rs, ka cJ 5 r), (sq, ka cJ 8 S), (on, ka cJ 5 a1), (tw, ka cJ 5 b1), (bs, rB ro le me ((knD kn F o M Lx Bm bn).2.2.2)), (ro, go cO 17 ra), (le, ki cI 13 ((knD kn F o M Lx Bm bn).2.1)), (me, go cO 13 mb), (g, rM 1 od fc hd md lo lv tb rw bm ((faS G o P2 M2 L2 B2).1 : Int) nu tu), (fc, k2 cJ 20 5 G), (hd, ka cJ 13 a2), (md, ka cJ 17 (tbP G o P2 13)), (lo, k2 cJ 20 5 E2), (tb, k2 cJ 221 13 (faT G o P2 M2 L2).1), (rw, ki cI 13 (faT G o P2 M2 L2).2), (bm, k2 cJ 169 13 (faS G o P2 M2 L2 B2).2), (nu, ka cJ 31 T2), (tu, k2 cJ 20 5 U2)] ++ gs 4 er cJ 5 E) ++ gs 4 fr cJ 5 F) ++ gs 13 mb cJ 13 ((knD kn F o M Lx Bm bn).2.2.1)) ++ gs 17 ra cJ 13 ((knD kn F o M Lx Bm bn).1)) := hD
      refine lv_iload hx hb d_L_law_945 (lv_at hl 1 rfl) ?_
      refine rl_icmp_eq (tgt := 952) hx hb d_L_law_947 (by decide) rfl ?_
      refine lv_iload hx hb d_L_law_952 (lv_at hl 1 rfl) ?_
      refine rz_if_ne (tgt := 969) hx hb d_L_law_954 (by decide) (fun _ => ?_) (fun hc => absurd hc (by decide))
      refine lv_goto (tgt := 1338) hx hb d_L_law_969 (by decide) ?_
      refine W.widen (k := kc + 1) (n := ks + 6) (by omega) (by omega) ?_
      exact hend V 1 a T J cn Fo Y P r S a1 b1 ((knD kn F o M Lx Bm bn).2.2.2) ((knD kn F o M Lx Bm bn).2.1) E F ((knD kn F o M Lx Bm bn).2.2.1) ((knD kn F o M Lx Bm bn).1) 1 lv ((faS G o P2 M2 L2 B2).1 : Int) G a2 (tbP G o P2 13) E2 ((faT G o P2 M2 L2).1) ((faT G o P2 M2 L2).2) ((faS G o P2 M2 L2 B2).2) T2 U2 H locs ls ⟨lw_know hI ho3, hJ⟩ hP hD hS (lv_sub hl [2, 3, 4, 5, 6] rfl)
  · refine lv_aload_n hx hb d_L_law_904 rfl (lv_at hl 1 rfl) ?_
    refine lv_aload_n hx hb d_L_law_905 rfl (lv_at hl 0 rfl) ?_
    refine lv_iload hx hb d_L_law_906 (lv_at hl 4 rfl) ?_
    refine rz_iconst hx hb d_L_law_908 ?_
    refine rz_iadd hx hb d_L_law_909 ?_
    refine rl_sld hx hb hX hbl hbA hS (k + 1) d_L_law_910 ?_
    refine lv_aload_n hx hb d_L_law_911 rfl (lv_at hl 0 rfl) ?_
    refine lv_iload hx hb d_L_law_912 (lv_at hl 4 rfl) ?_
    refine rz_iconst hx hb d_L_law_914 ?_
    refine rz_iadd hx hb d_L_law_915 ?_
    refine rl_sld hx hb hX hbl hbA hS (k + 2) d_L_law_916 ?_
    refine lv_aload_n hx hb d_L_law_917 rfl (lv_at hl 3 rfl) ?_
    refine rsM_calli (vx_runSW (hh := [((0 : Nat), (10 : Nat), (13 : Nat), (13 : Nat))]) (As := [.ref h, .int (iz (sx xs (k + 1))), .int (iz (sx xs (k + 2))), .ref ou]) (rest := []) ⟨hx, hb, hml, hown, hts⟩ (h_L_answer_t_S l D hst sa cI cJ cO h fa ot ah te id rt bs od kn ou V ro le me bn fr mb ra F Bm M Lx (sx xs (k + 1)) (sx xs (k + 2)) o hod ho3 (lw_kn hI) (by omega) (by omega) (by omega)) (vx_cwSW 4 hts (kb_gi (kb_c kw_471 (kb_c kw_472 (kb_c kw_0 (kb_c kw_473 kb_all))))) rfl rfl rfl (by decide +kernel) ⟨Nat.le_of_ble_eq_true rfl, Nat.le_of_ble_eq_true rfl⟩) ⟨rx_blind, fun U h8 h9 => ⟨(rs_pre (Y := []) (rs_nil (rs_a_3_0 hP)) (rs_nilD (rs_aD_3_0 hD)) hK hN [1, 2, 15, 16, 17, 18, 0] rfl rfl [0, 1, 2] rfl) U h8 h9, hE.go hS (rs_in (rs_nilD (rs_aD_3_0 hD)) (is := [1, 2, 15, 16, 17, 18, 0]) rfl) h8 h9⟩⟩ rfl rfl hl.1 rfl (lv_room (Nat.le_of_ble_eq_true rfl)) d_L_law_918 ⟨hfc1, hfs1⟩) (rs_nil (rs_a_3_0 hP)) (rs_nilD (rs_aD_3_0 hD)) hS [1, 2, 15, 16, 17, 18, 0] rfl (fun _ => rfl) (fun _ => gs_adr2 (gs_adr _ _ _ _ _ _) (gs_adr2 (gs_adr _ _ _ _ _ _) (gs_adr _ _ _ _ _ _))) (fun r13 u14 H locs hw14 hP hD hS => ?_)
    have hP := rs_b_3_0 (rs_nilR hP)
    have hD := rs_bD_3_0 (rs_nilRD hD)
    subst hw14
    have hP : va_P D vC (((([(ou, kl cJ 1 V), (h, rO od fa ot ah te id rt bs kn), (fa, go cO 4 fr), (ot, go cO 4 er), (ah, ka cJ 13 a), (te, ka cJ 31 T), (id, ka cJ 5 J), (rt, rR fo cn wh pt rs sq on tw), (fo, ka cJ 4 Fo), (wh, ka cJ 5 Y), (pt, ka cJ 5 P), (rs, ka cJ 5 r), (sq, ka cJ 8 S), (on, ka cJ 5 a1), (tw, ka cJ 5 b1), (bs, rB ro le me bn), (ro, go cO 17 ra), (le, ki cI 13 Lx), (me, go cO 13 mb), (g, rM cd od fc hd md lo lv tb rw bm mn nu tu), (fc, k2 cJ 20 5 G), (hd, ka cJ 13 a2), (md, ka cJ 17 P2), (lo, k2 cJ 20 5 E2), (tb, k2 cJ 221 13 M2), (rw, ki cI 13 L2), (bm, k2 cJ 169 13 B2), (nu, ka cJ 31 T2), (tu, k2 cJ 20 5 U2)] ++ gs 4 er cJ 5 E) ++ gs 4 fr cJ 5 F) ++ gs 13 mb cJ 13 Bm) ++ gs 17 ra cJ 13 M) H := hP
    have hD : va_D A (((([(ou, kl cJ 1 V), (h, rO od fa ot ah te id rt bs kn), (fa, go cO 4 fr), (ot, go cO 4 er), (ah, ka cJ 13 a), (te, ka cJ 31 T), (id, ka cJ 5 J), (rt, rR fo cn wh pt rs sq on tw), (fo, ka cJ 4 Fo), (wh, ka cJ 5 Y), (pt, ka cJ 5 P), (rs, ka cJ 5 r), (sq, ka cJ 8 S), (on, ka cJ 5 a1), (tw, ka cJ 5 b1), (bs, rB ro le me bn), (ro, go cO 17 ra), (le, ki cI 13 Lx), (me, go cO 13 mb), (g, rM cd od fc hd md lo lv tb rw bm mn nu tu), (fc, k2 cJ 20 5 G), (hd, ka cJ 13 a2), (md, ka cJ 17 P2), (lo, k2 cJ 20 5 E2), (tb, k2 cJ 221 13 M2), (rw, ki cI 13 L2), (bm, k2 cJ 169 13 B2), (nu, ka cJ 31 T2), (tu, k2 cJ 20 5 U2)] ++ gs 4 er cJ 5 E) ++ gs 4 fr cJ 5 F) ++ gs 13 mb cJ 13 Bm) ++ gs 17 ra cJ 13 M) := hD
    refine lv_istore (lv' := [(5, .int (iz 1)), (0, .ref b), (1, .ref h), (2, .ref g), (3, .ref ou), (4, .int (iz z4))]) hx hb d_L_law_921 hl (by decide) rfl (fun ls hl => ?_)
    refine lv_aload_n hx hb d_L_law_923 rfl (lv_at hl 3 rfl) ?_
    refine lv_aload_n hx hb d_L_law_924 rfl (lv_at hl 1 rfl) ?_
    refine lv_iload hx hb d_L_law_925 (lv_at hl 5 rfl) ?_
    refine rz_iconst hx hb d_L_law_927 ?_
    refine rz_iadd hx hb d_L_law_928 ?_
    refine rl_sld hx hb hX hbl hbA hS (k + 1) d_L_law_929 ?_
    refine lv_aload_n hx hb d_L_law_930 rfl (lv_at hl 1 rfl) ?_
    refine lv_iload hx hb d_L_law_931 (lv_at hl 5 rfl) ?_
    refine rz_iconst hx hb d_L_law_933 ?_
    refine rz_iadd hx hb d_L_law_934 ?_
    refine rl_sld hx hb hX hbl hbA hS (k + 2) d_L_law_935 ?_
    refine rc_calli (va_runV (As := [.int (iz (sx xs (k + 1))), .int (iz (sx xs (k + 2)))]) (rest := []) ⟨hx, hb, hml, hown, hts⟩ (m_M_answer l D cJ cI g cd od fc hd md lo lv tb rw bm mn nu tu G M2 B2 P2 L2 (sx xs (k + 1)) (sx xs (k + 2)) o hod ho3 (by omega) (by omega) (by omega) (by omega)) (cwV 2 hts (kb_gi (kb_c kw_695 (kb_c kw_696 (kb_c kw_697 (kb_c kw_5 (kb_c kw_698 kb_all)))))) rfl rfl rfl (by decide +kernel) ⟨Nat.le_of_ble_eq_true rfl, Nat.le_of_ble_eq_true rfl⟩) ⟨rc_blind, va_recv hK hP (ci := 3) (q0 := 19) rfl rfl, rc_pre hP hD hK hN [19, 20, 22, 24, 25, 26] rfl rfl [0, 2] rfl⟩ rfl rfl hl.1 rfl (lv_room (Nat.le_of_ble_eq_true rfl)) d_L_law_936 ⟨hfc1, hfs1⟩) hP hD hS [19, 20, 22, 24, 25, 26] rfl (fun _ => rfl) (fun r15 u16 H locs hw16 hP hD hS => ?_)
    have h9 : u16 = 1 ∧ r15 = iz 0 := by
      rcases hw16 with ⟨h6, h7, h8⟩ | ⟨h6, h7, h8⟩
      · exfalso; omega
      · exact ⟨h7, h8⟩
    obtain ⟨rfl, rfl⟩ := h9
    have hP : va_P D vC (((([(ou, kl cJ 1 V), (h, rO od fa ot ah te id rt bs kn), (fa, go cO 4 fr), (ot, go cO 4 er), (ah, ka cJ 13 a), (te, ka cJ 31 T), (id, ka cJ 5 J), (rt, rR fo cn wh pt rs sq on tw), (fo, ka cJ 4 Fo), (wh, ka cJ 5 Y), (pt, ka cJ 5 P), (rs, ka cJ 5 r), (sq, ka cJ 8 S), (on, ka cJ 5 a1), (tw, ka cJ 5 b1), (bs, rB ro le me bn), (ro, go cO 17 ra), (le, ki cI 13 Lx), (me, go cO 13 mb), (g, rM 1 od fc hd md lo lv tb rw bm ((faS G o P2 M2 L2 B2).1 : Int) nu tu), (fc, k2 cJ 20 5 G), (hd, ka cJ 13 a2), (md, ka cJ 17 (tbP G o P2 13)), (lo, k2 cJ 20 5 E2), (tb, k2 cJ 221 13 (faT G o P2 M2 L2).1), (rw, ki cI 13 (faT G o P2 M2 L2).2), (bm, k2 cJ 169 13 (faS G o P2 M2 L2 B2).2), (nu, ka cJ 31 T2), (tu, k2 cJ 20 5 U2)] ++ gs 4 er cJ 5 E) ++ gs 4 fr cJ 5 F) ++ gs 13 mb cJ 13 Bm) ++ gs 17 ra cJ 13 M) H := hP
    have hD : va_D A (((([(ou, kl cJ 1 V), (h, rO od fa ot ah te id rt bs kn), (fa, go cO 4 fr), (ot, go cO 4 er), (ah, ka cJ 13 a), (te, ka cJ 31 T), (id, ka cJ 5 J), (rt, rR fo cn wh pt rs sq on tw), (fo, ka cJ 4 Fo), (wh, ka cJ 5 Y), (pt, ka cJ 5 P), (rs, ka cJ 5 r), (sq, ka cJ 8 S), (on, ka cJ 5 a1), (tw, ka cJ 5 b1), (bs, rB ro le me bn), (ro, go cO 17 ra), (le, ki cI 13 Lx), (me, go cO 13 mb), (g, rM 1 od fc hd md lo lv tb rw bm ((faS G o P2 M2 L2 B2).1 : Int) nu tu), (fc, k2 cJ 20 5 G), (hd, ka cJ 13 a2), (md, ka cJ 17 (tbP G o P2 13)), (lo, k2 cJ 20 5 E2), (tb, k2 cJ 221 13 (faT G o P2 M2 L2).1), (rw, ki cI 13 (faT G o P2 M2 L2).2), (bm, k2 cJ 169 13 (faS G o P2 M2 L2 B2).2), (nu, ka cJ 31 T2), (tu, k2 cJ 20 5 U2)] ++ gs 4 er cJ 5 E) ++ gs 4 fr cJ 5 F) ++ gs 13 mb cJ 13 Bm) ++ gs 17 ra cJ 13 M) := hD
    refine lv_istore (lv' := [(6, .int (iz 0)), (5, .int (iz 1)), (0, .ref b), (1, .ref h), (2, .ref g), (3, .ref ou), (4, .int (iz z4))]) hx hb d_L_law_939 hl (by decide) rfl (fun ls hl => ?_)
    refine lv_aload_n hx hb d_L_law_941 rfl (lv_at hl 4 rfl) ?_
    refine rc_calli (va_runV (As := []) (rest := []) ⟨hx, hb, hml, hown, hts⟩ (m_M_thrown l D g 1 od fc hd md lo lv tb rw bm ((faS G o P2 M2 L2 B2).1 : Int) nu tu) (cwV 0 hts (kb_gi (kb_c kw_570 (kb_c kw_571 (kb_c kw_572 (kb_c kw_5 (kb_c kw_573 kb_all)))))) rfl rfl rfl (by decide +kernel) ⟨Nat.le_of_ble_eq_true rfl, Nat.le_of_ble_eq_true rfl⟩) ⟨rc_blind, va_recv hK hP (ci := 3) (q0 := 19) rfl rfl, rc_pre hP hD hK hN [19] rfl rfl [] rfl⟩ rfl rfl hl.1 rfl (lv_room (Nat.le_of_ble_eq_true rfl)) d_L_law_942 ⟨hfc1, hfs1⟩) hP hD hS [19] rfl (fun _ => rfl) (fun r17 u18 H locs hw18 hP hD hS => ?_)
    subst hw18
    have hP : va_P D vC (((([(ou, kl cJ 1 V), (h, rO od fa ot ah te id rt bs kn), (fa, go cO 4 fr), (ot, go cO 4 er), (ah, ka cJ 13 a), (te, ka cJ 31 T), (id, ka cJ 5 J), (rt, rR fo cn wh pt rs sq on tw), (fo, ka cJ 4 Fo), (wh, ka cJ 5 Y), (pt, ka cJ 5 P), (rs, ka cJ 5 r), (sq, ka cJ 8 S), (on, ka cJ 5 a1), (tw, ka cJ 5 b1), (bs, rB ro le me bn), (ro, go cO 17 ra), (le, ki cI 13 Lx), (me, go cO 13 mb), (g, rM 1 od fc hd md lo lv tb rw bm ((faS G o P2 M2 L2 B2).1 : Int) nu tu), (fc, k2 cJ 20 5 G), (hd, ka cJ 13 a2), (md, ka cJ 17 (tbP G o P2 13)), (lo, k2 cJ 20 5 E2), (tb, k2 cJ 221 13 (faT G o P2 M2 L2).1), (rw, ki cI 13 (faT G o P2 M2 L2).2), (bm, k2 cJ 169 13 (faS G o P2 M2 L2 B2).2), (nu, ka cJ 31 T2), (tu, k2 cJ 20 5 U2)] ++ gs 4 er cJ 5 E) ++ gs 4 fr cJ 5 F) ++ gs 13 mb cJ 13 Bm) ++ gs 17 ra cJ 13 M) H := hP
    have hD : va_D A (((([(ou, kl cJ 1 V), (h, rO od fa ot ah te id rt bs kn), (fa, go cO 4 fr), (ot, go cO 4 er), (ah, ka cJ 13 a), (te, ka cJ 31 T), (id, ka cJ 5 J), (rt, rR fo cn wh pt rs sq on tw), (fo, ka cJ 4 Fo), (wh, ka cJ 5 Y), (pt, ka cJ 5 P), (rs, ka cJ 5 r), (sq, ka cJ 8 S), (on, ka cJ 5 a1), (tw, ka cJ 5 b1), (bs, rB ro le me bn), (ro, go cO 17 ra), (le, ki cI 13 Lx), (me, go cO 13 mb), (g, rM 1 od fc hd md lo lv tb rw bm ((faS G o P2 M2 L2 B2).1 : Int) nu tu), (fc, k2 cJ 20 5 G), (hd, ka cJ 13 a2), (md, ka cJ 17 (tbP G o P2 13)), (lo, k2 cJ 20 5 E2), (tb, k2 cJ 221 13 (faT G o P2 M2 L2).1), (rw, ki cI 13 (faT G o P2 M2 L2).2), (bm, k2 cJ 169 13 (faS G o P2 M2 L2 B2).2), (nu, ka cJ 31 T2), (tu, k2 cJ 20 5 U2)] ++ gs 4 er cJ 5 E) ++ gs 4 fr cJ 5 F) ++ gs 13 mb cJ 13 Bm) ++ gs 17 ra cJ 13 M) := hD
    refine lv_iload hx hb d_L_law_945 (lv_at hl 1 rfl) ?_
    refine rl_icmp_eq (tgt := 952) hx hb d_L_law_947 (by decide) rfl ?_
    refine lv_iload hx hb d_L_law_952 (lv_at hl 1 rfl) ?_
    refine rz_if_ne (tgt := 969) hx hb d_L_law_954 (by decide) (fun _ => ?_) (fun hc => absurd hc (by decide))
    refine lv_goto (tgt := 1338) hx hb d_L_law_969 (by decide) ?_
    refine W.widen (k := kc + 1) (n := ks + 6) (by omega) (by omega) ?_
    exact hend V kn a T J cn Fo Y P r S a1 b1 bn Lx E F Bm M 1 lv ((faS G o P2 M2 L2 B2).1 : Int) G a2 (tbP G o P2 13) E2 ((faT G o P2 M2 L2).1) ((faT G o P2 M2 L2).2) ((faS G o P2 M2 L2 B2).2) T2 U2 H locs ls ⟨hI, hJ⟩ hP hD hS (lv_sub hl [2, 3, 4, 5, 6] rfl)
set_option maxHeartbeats 4000000 in
set_option maxRecDepth 100000 in
theorem lc_11 {cJ cO cI : ClassId} {ou h fa ot ah te id rt bs : Nat} {od : Int} {fo wh pt rs sq on tw : Nat} {ro le me : Nat} {fr er mb ra : Nat → Nat} {g : Nat} {fc hd md lo tb rw bm nu tu : Nat} {o : Nat} {sa : Nat → Nat} {ct b L : Nat} {xs : Nat → Int32} {V : Nat → Int64} {kn : Int} {a : Nat → ro_K} {T : Nat → ro_K} {J : Nat → ro_K} {cn : Int} {Fo : Nat → ro_K} {Y : Nat → ro_K} {P : Nat → ro_K} {r : Nat → ro_K} {S : Nat → ro_K} {a1 : Nat → ro_K} {b1 : Nat → ro_K} {bn : Int} {Lx : Nat → Int} {E : Nat → Nat → ro_K} {F : Nat → Nat → ro_K} {Bm : Nat → Nat → ro_K} {M : Nat → Nat → ro_K} {cd : Int} {lv : Int} {mn : Int} {G : Nat → Nat → ro_K} {a2 : Nat → ro_K} {P2 : Nat → ro_K} {E2 : Nat → Nat → ro_K} {M2 : Nat → Nat → ro_K} {L2 : Nat → Int} {B2 : Nat → Nat → ro_K} {T2 : Nat → ro_K} {U2 : Nat → Nat → ro_K} {z4 : Int} {k kc ks : Nat} {H : Heap} {locs : List Loc} {ls : Array Slot} (hx : p.tables.exec = Jvm.exec) (hb : c.code = c_L_law) (hml : c.maxLocals = 7) (hown : s.vm.findClass R_L = some m.cls) (hts : ∀ w ∈ kb, w.before args s = true) (hK : va_K D vC [(cJ, .long), (cO, .array .long), (cI, .int)] s) (hN : rc_N s) (hst : l.stackTraces = false) (hE : rx_E sa A s s.heap) (hC : rz_C ct A s s.heap) (hX : va_X b L xs s s.heap) (hbl : b < s.heap.size) (hbA : ¬ A b) (hL : L ≤ 5121) (hod : od = (o : Int)) (ho1 : 1 ≤ o) (ho3 : o ≤ 3) (hz4 : z4 = (k : Int)) (hk9 : k + 9 < L) (hkc : kc + 1 ≤ 601024) (hks : ks + 6 ≤ 7293000) (hI : (lw_I o F E a kn M Lx Bm bn G a2 ∧ J 4 = 0)) (hend : ∀ (V : Nat → Int64) (kn : Int) (a : Nat → ro_K) (T : Nat → ro_K) (J : Nat → ro_K) (cn : Int) (Fo : Nat → ro_K) (Y : Nat → ro_K) (P : Nat → ro_K) (r : Nat → ro_K) (S : Nat → ro_K) (a1 : Nat → ro_K) (b1 : Nat → ro_K) (bn : Int) (Lx : Nat → Int) (E : Nat → Nat → ro_K) (F : Nat → Nat → ro_K) (Bm : Nat → Nat → ro_K) (M : Nat → Nat → ro_K) (cd : Int) (lv : Int) (mn : Int) (G : Nat → Nat → ro_K) (a2 : Nat → ro_K) (P2 : Nat → ro_K) (E2 : Nat → Nat → ro_K) (M2 : Nat → Nat → ro_K) (L2 : Nat → Int) (B2 : Nat → Nat → ro_K) (T2 : Nat → ro_K) (U2 : Nat → Nat → ro_K) (H : Heap) (locs : List Loc) (ls : Array Slot), (lw_I o F E a kn M Lx Bm bn G a2 ∧ J 4 = 0) → va_P D vC (((([(ou, kl cJ 1 V), (h, rO od fa ot ah te id rt bs kn), (fa, go cO 4 fr), (ot, go cO 4 er), (ah, ka cJ 13 a), (te, ka cJ 31 T), (id, ka cJ 5 J), (rt, rR fo cn wh pt rs sq on tw), (fo, ka cJ 4 Fo), (wh, ka cJ 5 Y), (pt, ka cJ 5 P), (rs, ka cJ 5 r), (sq, ka cJ 8 S), (on, ka cJ 5 a1), (tw, ka cJ 5 b1), (bs, rB ro le me bn), (ro, go cO 17 ra), (le, ki cI 13 Lx), (me, go cO 13 mb), (g, rM cd od fc hd md lo lv tb rw bm mn nu tu), (fc, k2 cJ 20 5 G), (hd, ka cJ 13 a2), (md, ka cJ 17 P2), (lo, k2 cJ 20 5 E2), (tb, k2 cJ 221 13 M2), (rw, ki cI 13 L2), (bm, k2 cJ 169 13 B2), (nu, ka cJ 31 T2), (tu, k2 cJ 20 5 U2)] ++ gs 4 er cJ 5 E) ++ gs 4 fr cJ 5 F) ++ gs 13 mb cJ 13 Bm) ++ gs 17 ra cJ 13 M) H → va_D A (((([(ou, kl cJ 1 V), (h, rO od fa ot ah te id rt bs kn), (fa, go cO 4 fr), (ot, go cO 4 er), (ah, ka cJ 13 a), (te, ka cJ 31 T), (id, ka cJ 5 J), (rt, rR fo cn wh pt rs sq on tw), (fo, ka cJ 4 Fo), (wh, ka cJ 5 Y), (pt, ka cJ 5 P), (rs, ka cJ 5 r), (sq, ka cJ 8 S), (on, ka cJ 5 a1), (tw, ka cJ 5 b1), (bs, rB ro le me bn), (ro, go cO 17 ra), (le, ki cI 13 Lx), (me, go cO 13 mb), (g, rM cd od fc hd md lo lv tb rw bm mn nu tu), (fc, k2 cJ 20 5 G), (hd, ka cJ 13 a2), (md, ka cJ 17 P2), (lo, k2 cJ 20 5 E2), (tb, k2 cJ 221 13 M2), (rw, ki cI 13 L2), (bm, k2 cJ 169 13 B2), (nu, ka cJ 31 T2), (tu, k2 cJ 20 5 U2)] ++ gs 4 er cJ 5 E) ++ gs 4 fr cJ 5 F) ++ gs 13 mb cJ 13 Bm) ++ gs 17 ra cJ 13 M) → va_S A s.heap H locs → lv_has ls 7 [(0, .ref b), (1, .ref h), (2, .ref g), (3, .ref ou), (4, .int (iz z4))] → W p l e room_1 s m args below meth c H locs (kc + 1) (ks + 6) Q (F0 m 1338 ls [])) (hP : va_P D vC (((([(ou, kl cJ 1 V), (h, rO od fa ot ah te id rt bs kn), (fa, go cO 4 fr), (ot, go cO 4 er), (ah, ka cJ 13 a), (te, ka cJ 31 T), (id, ka cJ 5 J), (rt, rR fo cn wh pt rs sq on tw), (fo, ka cJ 4 Fo), (wh, ka cJ 5 Y), (pt, ka cJ 5 P), (rs, ka cJ 5 r), (sq, ka cJ 8 S), (on, ka cJ 5 a1), (tw, ka cJ 5 b1), (bs, rB ro le me bn), (ro, go cO 17 ra), (le, ki cI 13 Lx), (me, go cO 13 mb), (g, rM cd od fc hd md lo lv tb rw bm mn nu tu), (fc, k2 cJ 20 5 G), (hd, ka cJ 13 a2), (md, ka cJ 17 P2), (lo, k2 cJ 20 5 E2), (tb, k2 cJ 221 13 M2), (rw, ki cI 13 L2), (bm, k2 cJ 169 13 B2), (nu, ka cJ 31 T2), (tu, k2 cJ 20 5 U2)] ++ gs 4 er cJ 5 E) ++ gs 4 fr cJ 5 F) ++ gs 13 mb cJ 13 Bm) ++ gs 17 ra cJ 13 M) H) (hD : va_D A (((([(ou, kl cJ 1 V), (h, rO od fa ot ah te id rt bs kn), (fa, go cO 4 fr), (ot, go cO 4 er), (ah, ka cJ 13 a), (te, ka cJ 31 T), (id, ka cJ 5 J), (rt, rR fo cn wh pt rs sq on tw), (fo, ka cJ 4 Fo), (wh, ka cJ 5 Y), (pt, ka cJ 5 P), (rs, ka cJ 5 r), (sq, ka cJ 8 S), (on, ka cJ 5 a1), (tw, ka cJ 5 b1), (bs, rB ro le me bn), (ro, go cO 17 ra), (le, ki cI 13 Lx), (me, go cO 13 mb), (g, rM cd od fc hd md lo lv tb rw bm mn nu tu), (fc, k2 cJ 20 5 G), (hd, ka cJ 13 a2), (md, ka cJ 17 P2), (lo, k2 cJ 20 5 E2), (tb, k2 cJ 221 13 M2), (rw, ki cI 13 L2), (bm, k2 cJ 169 13 B2), (nu, ka cJ 31 T2), (tu, k2 cJ 20 5 U2)] ++ gs 4 er cJ 5 E) ++ gs 4 fr cJ 5 F) ++ gs 13 mb cJ 13 Bm) ++ gs 17 ra cJ 13 M)) (hS : va_S A s.heap H locs) (hl : lv_has ls 7 [(0, .ref b), (1, .ref h), (2, .ref g), (3, .ref ou), (4, .int (iz z4))]) : W p l e room_1 s m args below meth c H locs kc ks Q (F0 m 972 ls []) := by
  obtain ⟨hI, hJ⟩ := hI
  have hfc : kc + 0 ≤ room_1.cells := by show kc + 0 ≤ 601024; omega
  have hfs : ks + 0 ≤ room_1.slots := by show ks + 0 ≤ 7293000; omega
  have hfc1 : kc + 1 ≤ room_1.cells := hkc
  have hfs1 : ks + 6 ≤ room_1.slots := hks
  by_cases hf : slB F o a 17 = true
  · refine lv_aload_n hx hb d_L_law_972 rfl (lv_at hl 1 rfl) ?_
    refine rsT_calli (va_runV (As := []) (rest := []) ⟨hx, hb, hml, hown, hts⟩ (m_O_solves l D cJ cO h fa ot ah te id rt bs od kn fr F a o hod ho3) (cwV 0 hts (kb_gi (kb_c kw_179 (kb_c kw_180 (kb_c kw_181 (kb_c kw_1 (kb_c kw_182 kb_all)))))) rfl rfl rfl (by decide +kernel) ⟨Nat.le_of_ble_eq_true rfl, Nat.le_of_ble_eq_true rfl⟩) ⟨rc_blind, va_recv hK hP (ci := 2) (q0 := 1) rfl rfl, rs_pre (rs_a2 hP) (rs_aD2 hD) hK hN [1, 4, 2] rfl rfl [0, 1] rfl⟩ rfl rfl hl.1 rfl (lv_room (Nat.le_of_ble_eq_true rfl)) d_L_law_973 ⟨hfc, hfs⟩) (rs_a2 hP) (rs_aD2 hD) hS [1, 4, 2] rfl (fun _ => rfl) (fun _ => gs_adr _ _ _ _ _ _) (fun r1 u2 H locs hw2 hP hD hS => ?_)
    have hP := rs_b2 hP
    have hD := rs_bD2 hD
    rw [if_pos hf] at hw2
    subst hw2
    have hP : va_P D vC (((([(ou, kl cJ 1 V), (h, rO od fa ot ah te id rt bs kn), (fa, go cO 4 fr), (ot, go cO 4 er), (ah, ka cJ 13 a), (te, ka cJ 31 T), (id, ka cJ 5 J), (rt, rR fo cn wh pt rs sq on tw), (fo, ka cJ 4 Fo), (wh, ka cJ 5 Y), (pt, ka cJ 5 P), (rs, ka cJ 5 r), (sq, ka cJ 8 S), (on, ka cJ 5 a1), (tw, ka cJ 5 b1), (bs, rB ro le me bn), (ro, go cO 17 ra), (le, ki cI 13 Lx), (me, go cO 13 mb), (g, rM cd od fc hd md lo lv tb rw bm mn nu tu), (fc, k2 cJ 20 5 G), (hd, ka cJ 13 a2), (md, ka cJ 17 P2), (lo, k2 cJ 20 5 E2), (tb, k2 cJ 221 13 M2), (rw, ki cI 13 L2), (bm, k2 cJ 169 13 B2), (nu, ka cJ 31 T2), (tu, k2 cJ 20 5 U2)] ++ gs 4 er cJ 5 E) ++ gs 4 fr cJ 5 F) ++ gs 13 mb cJ 13 Bm) ++ gs 17 ra cJ 13 M) H := hP
    have hD : va_D A (((([(ou, kl cJ 1 V), (h, rO od fa ot ah te id rt bs kn), (fa, go cO 4 fr), (ot, go cO 4 er), (ah, ka cJ 13 a), (te, ka cJ 31 T), (id, ka cJ 5 J), (rt, rR fo cn wh pt rs sq on tw), (fo, ka cJ 4 Fo), (wh, ka cJ 5 Y), (pt, ka cJ 5 P), (rs, ka cJ 5 r), (sq, ka cJ 8 S), (on, ka cJ 5 a1), (tw, ka cJ 5 b1), (bs, rB ro le me bn), (ro, go cO 17 ra), (le, ki cI 13 Lx), (me, go cO 13 mb), (g, rM cd od fc hd md lo lv tb rw bm mn nu tu), (fc, k2 cJ 20 5 G), (hd, ka cJ 13 a2), (md, ka cJ 17 P2), (lo, k2 cJ 20 5 E2), (tb, k2 cJ 221 13 M2), (rw, ki cI 13 L2), (bm, k2 cJ 169 13 B2), (nu, ka cJ 31 T2), (tu, k2 cJ 20 5 U2)] ++ gs 4 er cJ 5 E) ++ gs 4 fr cJ 5 F) ++ gs 13 mb cJ 13 Bm) ++ gs 17 ra cJ 13 M) := hD
    refine lv_aload_n hx hb d_L_law_976 rfl (lv_at hl 2 rfl) ?_
    refine rc_calli (va_runV (As := []) (rest := [.int (iz 1)]) ⟨hx, hb, hml, hown, hts⟩ (m_M_solves l D cJ cI g cd od fc hd md lo lv tb rw bm mn nu tu G a2 P2 o hod ho3) (cwV 0 hts (kb_gi (kb_c kw_632 (kb_c kw_633 (kb_c kw_634 (kb_c kw_5 (kb_c kw_635 kb_all)))))) rfl rfl rfl (by decide +kernel) ⟨Nat.le_of_ble_eq_true rfl, Nat.le_of_ble_eq_true rfl⟩) ⟨rc_blind, va_recv hK hP (ci := 3) (q0 := 19) rfl rfl, rc_pre hP hD hK hN [19, 20, 21, 22] rfl rfl [0, 2] rfl⟩ rfl rfl hl.1 rfl (lv_room (Nat.le_of_ble_eq_true rfl)) d_L_law_977 ⟨hfc, hfs⟩) hP hD hS [19, 20, 21, 22] rfl (fun _ => rfl) (fun r3 u4 H locs hw4 hP hD hS => ?_)
    have h9 : r3 = iz 1 := by
      rcases hw4 with ⟨h6, h7⟩ | ⟨h6, h7⟩
      · exact h7
      · exact absurd ((lw_solves hI ho3 P2).mp hf) h6
    subst h9
    have hP : va_P D vC (((([(ou, kl cJ 1 V), (h, rO od fa ot ah te id rt bs kn), (fa, go cO 4 fr), (ot, go cO 4 er), (ah, ka cJ 13 a), (te, ka cJ 31 T), (id, ka cJ 5 J), (rt, rR fo cn wh pt rs sq on tw), (fo, ka cJ 4 Fo), (wh, ka cJ 5 Y), (pt, ka cJ 5 P), (rs, ka cJ 5 r), (sq, ka cJ 8 S), (on, ka cJ 5 a1), (tw, ka cJ 5 b1), (bs, rB ro le me bn), (ro, go cO 17 ra), (le, ki cI 13 Lx), (me, go cO 13 mb), (g, rM 0 od fc hd md lo lv tb rw bm mn nu tu), (fc, k2 cJ 20 5 G), (hd, ka cJ 13 a2), (md, ka cJ 17 (mkA G o a2 (kfl P2 0 17) 13)), (lo, k2 cJ 20 5 E2), (tb, k2 cJ 221 13 M2), (rw, ki cI 13 L2), (bm, k2 cJ 169 13 B2), (nu, ka cJ 31 T2), (tu, k2 cJ 20 5 U2)] ++ gs 4 er cJ 5 E) ++ gs 4 fr cJ 5 F) ++ gs 13 mb cJ 13 Bm) ++ gs 17 ra cJ 13 M) H := hP
    have hD : va_D A (((([(ou, kl cJ 1 V), (h, rO od fa ot ah te id rt bs kn), (fa, go cO 4 fr), (ot, go cO 4 er), (ah, ka cJ 13 a), (te, ka cJ 31 T), (id, ka cJ 5 J), (rt, rR fo cn wh pt rs sq on tw), (fo, ka cJ 4 Fo), (wh, ka cJ 5 Y), (pt, ka cJ 5 P), (rs, ka cJ 5 r), (sq, ka cJ 8 S), (on, ka cJ 5 a1), (tw, ka cJ 5 b1), (bs, rB ro le me bn), (ro, go cO 17 ra), (le, ki cI 13 Lx), (me, go cO 13 mb), (g, rM 0 od fc hd md lo lv tb rw bm mn nu tu), (fc, k2 cJ 20 5 G), (hd, ka cJ 13 a2), (md, ka cJ 17 (mkA G o a2 (kfl P2 0 17) 13)), (lo, k2 cJ 20 5 E2), (tb, k2 cJ 221 13 M2), (rw, ki cI 13 L2), (bm, k2 cJ 169 13 B2), (nu, ka cJ 31 T2), (tu, k2 cJ 20 5 U2)] ++ gs 4 er cJ 5 E) ++ gs 4 fr cJ 5 F) ++ gs 13 mb cJ 13 Bm) ++ gs 17 ra cJ 13 M) := hD
    refine rl_icmp_eq (tgt := 1338) hx hb d_L_law_980 (by decide) rfl ?_
    refine W.widen (k := kc + 1) (n := ks + 6) (by omega) (by omega) ?_
    exact hend V kn a T J cn Fo Y P r S a1 b1 bn Lx E F Bm M 0 lv mn G a2 (mkA G o a2 (kfl P2 0 17) 13) E2 M2 L2 B2 T2 U2 H locs ls ⟨hI, hJ⟩ hP hD hS (lv_sub hl [0, 1, 2, 3, 4] rfl)
  · refine lv_aload_n hx hb d_L_law_972 rfl (lv_at hl 1 rfl) ?_
    refine rsT_calli (va_runV (As := []) (rest := []) ⟨hx, hb, hml, hown, hts⟩ (m_O_solves l D cJ cO h fa ot ah te id rt bs od kn fr F a o hod ho3) (cwV 0 hts (kb_gi (kb_c kw_179 (kb_c kw_180 (kb_c kw_181 (kb_c kw_1 (kb_c kw_182 kb_all)))))) rfl rfl rfl (by decide +kernel) ⟨Nat.le_of_ble_eq_true rfl, Nat.le_of_ble_eq_true rfl⟩) ⟨rc_blind, va_recv hK hP (ci := 2) (q0 := 1) rfl rfl, rs_pre (rs_a2 hP) (rs_aD2 hD) hK hN [1, 4, 2] rfl rfl [0, 1] rfl⟩ rfl rfl hl.1 rfl (lv_room (Nat.le_of_ble_eq_true rfl)) d_L_law_973 ⟨hfc, hfs⟩) (rs_a2 hP) (rs_aD2 hD) hS [1, 4, 2] rfl (fun _ => rfl) (fun _ => gs_adr _ _ _ _ _ _) (fun r5 u6 H locs hw6 hP hD hS => ?_)
    have hP := rs_b2 hP
    have hD := rs_bD2 hD
    rw [if_neg hf] at hw6
    subst hw6
    have hP : va_P D vC (((([(ou, kl cJ 1 V), (h, rO od fa ot ah te id rt bs kn), (fa, go cO 4 fr), (ot, go cO 4 er), (ah, ka cJ 13 a), (te, ka cJ 31 T), (id, ka cJ 5 J), (rt, rR fo cn wh pt rs sq on tw), (fo, ka cJ 4 Fo), (wh, ka cJ 5 Y), (pt, ka cJ 5 P), (rs, ka cJ 5 r), (sq, ka cJ 8 S), (on, ka cJ 5 a1), (tw, ka cJ 5 b1), (bs, rB ro le me bn), (ro, go cO 17 ra), (le, ki cI 13 Lx), (me, go cO 13 mb), (g, rM cd od fc hd md lo lv tb rw bm mn nu tu), (fc, k2 cJ 20 5 G), (hd, ka cJ 13 a2), (md, ka cJ 17 P2), (lo, k2 cJ 20 5 E2), (tb, k2 cJ 221 13 M2), (rw, ki cI 13 L2), (bm, k2 cJ 169 13 B2), (nu, ka cJ 31 T2), (tu, k2 cJ 20 5 U2)] ++ gs 4 er cJ 5 E) ++ gs 4 fr cJ 5 F) ++ gs 13 mb cJ 13 Bm) ++ gs 17 ra cJ 13 M) H := hP
    have hD : va_D A (((([(ou, kl cJ 1 V), (h, rO od fa ot ah te id rt bs kn), (fa, go cO 4 fr), (ot, go cO 4 er), (ah, ka cJ 13 a), (te, ka cJ 31 T), (id, ka cJ 5 J), (rt, rR fo cn wh pt rs sq on tw), (fo, ka cJ 4 Fo), (wh, ka cJ 5 Y), (pt, ka cJ 5 P), (rs, ka cJ 5 r), (sq, ka cJ 8 S), (on, ka cJ 5 a1), (tw, ka cJ 5 b1), (bs, rB ro le me bn), (ro, go cO 17 ra), (le, ki cI 13 Lx), (me, go cO 13 mb), (g, rM cd od fc hd md lo lv tb rw bm mn nu tu), (fc, k2 cJ 20 5 G), (hd, ka cJ 13 a2), (md, ka cJ 17 P2), (lo, k2 cJ 20 5 E2), (tb, k2 cJ 221 13 M2), (rw, ki cI 13 L2), (bm, k2 cJ 169 13 B2), (nu, ka cJ 31 T2), (tu, k2 cJ 20 5 U2)] ++ gs 4 er cJ 5 E) ++ gs 4 fr cJ 5 F) ++ gs 13 mb cJ 13 Bm) ++ gs 17 ra cJ 13 M) := hD
    refine lv_aload_n hx hb d_L_law_976 rfl (lv_at hl 2 rfl) ?_
    refine rc_calli (va_runV (As := []) (rest := [.int (iz 0)]) ⟨hx, hb, hml, hown, hts⟩ (m_M_solves l D cJ cI g cd od fc hd md lo lv tb rw bm mn nu tu G a2 P2 o hod ho3) (cwV 0 hts (kb_gi (kb_c kw_632 (kb_c kw_633 (kb_c kw_634 (kb_c kw_5 (kb_c kw_635 kb_all)))))) rfl rfl rfl (by decide +kernel) ⟨Nat.le_of_ble_eq_true rfl, Nat.le_of_ble_eq_true rfl⟩) ⟨rc_blind, va_recv hK hP (ci := 3) (q0 := 19) rfl rfl, rc_pre hP hD hK hN [19, 20, 21, 22] rfl rfl [0, 2] rfl⟩ rfl rfl hl.1 rfl (lv_room (Nat.le_of_ble_eq_true rfl)) d_L_law_977 ⟨hfc, hfs⟩) hP hD hS [19, 20, 21, 22] rfl (fun _ => rfl) (fun r7 u8 H locs hw8 hP hD hS => ?_)
    have h9 : r7 = iz 0 := by
      rcases hw8 with ⟨h6, h7⟩ | ⟨h6, h7⟩
      · exact absurd ((lw_solves hI ho3 P2).mpr h6) hf
      · exact h7
    subst h9
    have hP : va_P D vC (((([(ou, kl cJ 1 V), (h, rO od fa ot ah te id rt bs kn), (fa, go cO 4 fr), (ot, go cO 4 er), (ah, ka cJ 13 a), (te, ka cJ 31 T), (id, ka cJ 5 J), (rt, rR fo cn wh pt rs sq on tw), (fo, ka cJ 4 Fo), (wh, ka cJ 5 Y), (pt, ka cJ 5 P), (rs, ka cJ 5 r), (sq, ka cJ 8 S), (on, ka cJ 5 a1), (tw, ka cJ 5 b1), (bs, rB ro le me bn), (ro, go cO 17 ra), (le, ki cI 13 Lx), (me, go cO 13 mb), (g, rM 0 od fc hd md lo lv tb rw bm mn nu tu), (fc, k2 cJ 20 5 G), (hd, ka cJ 13 a2), (md, ka cJ 17 (mkA G o a2 (kfl P2 0 17) 13)), (lo, k2 cJ 20 5 E2), (tb, k2 cJ 221 13 M2), (rw, ki cI 13 L2), (bm, k2 cJ 169 13 B2), (nu, ka cJ 31 T2), (tu, k2 cJ 20 5 U2)] ++ gs 4 er cJ 5 E) ++ gs 4 fr cJ 5 F) ++ gs 13 mb cJ 13 Bm) ++ gs 17 ra cJ 13 M) H := hP
    have hD : va_D A (((([(ou, kl cJ 1 V), (h, rO od fa ot ah te id rt bs kn), (fa, go cO 4 fr), (ot, go cO 4 er), (ah, ka cJ 13 a), (te, ka cJ 31 T), (id, ka cJ 5 J), (rt, rR fo cn wh pt rs sq on tw), (fo, ka cJ 4 Fo), (wh, ka cJ 5 Y), (pt, ka cJ 5 P), (rs, ka cJ 5 r), (sq, ka cJ 8 S), (on, ka cJ 5 a1), (tw, ka cJ 5 b1), (bs, rB ro le me bn), (ro, go cO 17 ra), (le, ki cI 13 Lx), (me, go cO 13 mb), (g, rM 0 od fc hd md lo lv tb rw bm mn nu tu), (fc, k2 cJ 20 5 G), (hd, ka cJ 13 a2), (md, ka cJ 17 (mkA G o a2 (kfl P2 0 17) 13)), (lo, k2 cJ 20 5 E2), (tb, k2 cJ 221 13 M2), (rw, ki cI 13 L2), (bm, k2 cJ 169 13 B2), (nu, ka cJ 31 T2), (tu, k2 cJ 20 5 U2)] ++ gs 4 er cJ 5 E) ++ gs 4 fr cJ 5 F) ++ gs 13 mb cJ 13 Bm) ++ gs 17 ra cJ 13 M) := hD
    refine rl_icmp_eq (tgt := 1338) hx hb d_L_law_980 (by decide) rfl ?_
    refine W.widen (k := kc + 1) (n := ks + 6) (by omega) (by omega) ?_
    exact hend V kn a T J cn Fo Y P r S a1 b1 bn Lx E F Bm M 0 lv mn G a2 (mkA G o a2 (kfl P2 0 17) 13) E2 M2 L2 B2 T2 U2 H locs ls ⟨hI, hJ⟩ hP hD hS (lv_sub hl [0, 1, 2, 3, 4] rfl)
set_option maxHeartbeats 4000000 in
set_option maxRecDepth 100000 in
theorem lc_12 {cJ cO cI : ClassId} {ou h fa ot ah te id rt bs : Nat} {od : Int} {fo wh pt rs sq on tw : Nat} {ro le me : Nat} {fr er mb ra : Nat → Nat} {g : Nat} {fc hd md lo tb rw bm nu tu : Nat} {o : Nat} {sa : Nat → Nat} {ct b L : Nat} {xs : Nat → Int32} {V : Nat → Int64} {kn : Int} {a : Nat → ro_K} {T : Nat → ro_K} {J : Nat → ro_K} {cn : Int} {Fo : Nat → ro_K} {Y : Nat → ro_K} {P : Nat → ro_K} {r : Nat → ro_K} {S : Nat → ro_K} {a1 : Nat → ro_K} {b1 : Nat → ro_K} {bn : Int} {Lx : Nat → Int} {E : Nat → Nat → ro_K} {F : Nat → Nat → ro_K} {Bm : Nat → Nat → ro_K} {M : Nat → Nat → ro_K} {cd : Int} {lv : Int} {mn : Int} {G : Nat → Nat → ro_K} {a2 : Nat → ro_K} {P2 : Nat → ro_K} {E2 : Nat → Nat → ro_K} {M2 : Nat → Nat → ro_K} {L2 : Nat → Int} {B2 : Nat → Nat → ro_K} {T2 : Nat → ro_K} {U2 : Nat → Nat → ro_K} {z4 : Int} {k kc ks : Nat} {H : Heap} {locs : List Loc} {ls : Array Slot} (hx : p.tables.exec = Jvm.exec) (hb : c.code = c_L_law) (hml : c.maxLocals = 7) (hown : s.vm.findClass R_L = some m.cls) (hts : ∀ w ∈ kb, w.before args s = true) (hK : va_K D vC [(cJ, .long), (cO, .array .long), (cI, .int)] s) (hN : rc_N s) (hst : l.stackTraces = false) (hE : rx_E sa A s s.heap) (hC : rz_C ct A s s.heap) (hX : va_X b L xs s s.heap) (hbl : b < s.heap.size) (hbA : ¬ A b) (hL : L ≤ 5121) (hod : od = (o : Int)) (ho1 : 1 ≤ o) (ho3 : o ≤ 3) (hz4 : z4 = (k : Int)) (hk9 : k + 9 < L) (hkc : kc + 1 ≤ 601024) (hks : ks + 6 ≤ 7293000) (hI : (lw_I o F E a kn M Lx Bm bn G a2 ∧ J 4 = 0)) (hend : ∀ (V : Nat → Int64) (kn : Int) (a : Nat → ro_K) (T : Nat → ro_K) (J : Nat → ro_K) (cn : Int) (Fo : Nat → ro_K) (Y : Nat → ro_K) (P : Nat → ro_K) (r : Nat → ro_K) (S : Nat → ro_K) (a1 : Nat → ro_K) (b1 : Nat → ro_K) (bn : Int) (Lx : Nat → Int) (E : Nat → Nat → ro_K) (F : Nat → Nat → ro_K) (Bm : Nat → Nat → ro_K) (M : Nat → Nat → ro_K) (cd : Int) (lv : Int) (mn : Int) (G : Nat → Nat → ro_K) (a2 : Nat → ro_K) (P2 : Nat → ro_K) (E2 : Nat → Nat → ro_K) (M2 : Nat → Nat → ro_K) (L2 : Nat → Int) (B2 : Nat → Nat → ro_K) (T2 : Nat → ro_K) (U2 : Nat → Nat → ro_K) (H : Heap) (locs : List Loc) (ls : Array Slot), (lw_I o F E a kn M Lx Bm bn G a2 ∧ J 4 = 0) → va_P D vC (((([(ou, kl cJ 1 V), (h, rO od fa ot ah te id rt bs kn), (fa, go cO 4 fr), (ot, go cO 4 er), (ah, ka cJ 13 a), (te, ka cJ 31 T), (id, ka cJ 5 J), (rt, rR fo cn wh pt rs sq on tw), (fo, ka cJ 4 Fo), (wh, ka cJ 5 Y), (pt, ka cJ 5 P), (rs, ka cJ 5 r), (sq, ka cJ 8 S), (on, ka cJ 5 a1), (tw, ka cJ 5 b1), (bs, rB ro le me bn), (ro, go cO 17 ra), (le, ki cI 13 Lx), (me, go cO 13 mb), (g, rM cd od fc hd md lo lv tb rw bm mn nu tu), (fc, k2 cJ 20 5 G), (hd, ka cJ 13 a2), (md, ka cJ 17 P2), (lo, k2 cJ 20 5 E2), (tb, k2 cJ 221 13 M2), (rw, ki cI 13 L2), (bm, k2 cJ 169 13 B2), (nu, ka cJ 31 T2), (tu, k2 cJ 20 5 U2)] ++ gs 4 er cJ 5 E) ++ gs 4 fr cJ 5 F) ++ gs 13 mb cJ 13 Bm) ++ gs 17 ra cJ 13 M) H → va_D A (((([(ou, kl cJ 1 V), (h, rO od fa ot ah te id rt bs kn), (fa, go cO 4 fr), (ot, go cO 4 er), (ah, ka cJ 13 a), (te, ka cJ 31 T), (id, ka cJ 5 J), (rt, rR fo cn wh pt rs sq on tw), (fo, ka cJ 4 Fo), (wh, ka cJ 5 Y), (pt, ka cJ 5 P), (rs, ka cJ 5 r), (sq, ka cJ 8 S), (on, ka cJ 5 a1), (tw, ka cJ 5 b1), (bs, rB ro le me bn), (ro, go cO 17 ra), (le, ki cI 13 Lx), (me, go cO 13 mb), (g, rM cd od fc hd md lo lv tb rw bm mn nu tu), (fc, k2 cJ 20 5 G), (hd, ka cJ 13 a2), (md, ka cJ 17 P2), (lo, k2 cJ 20 5 E2), (tb, k2 cJ 221 13 M2), (rw, ki cI 13 L2), (bm, k2 cJ 169 13 B2), (nu, ka cJ 31 T2), (tu, k2 cJ 20 5 U2)] ++ gs 4 er cJ 5 E) ++ gs 4 fr cJ 5 F) ++ gs 13 mb cJ 13 Bm) ++ gs 17 ra cJ 13 M) → va_S A s.heap H locs → lv_has ls 7 [(0, .ref b), (1, .ref h), (2, .ref g), (3, .ref ou), (4, .int (iz z4))] → W p l e room_1 s m args below meth c H locs (kc + 1) (ks + 6) Q (F0 m 1338 ls [])) (hP : va_P D vC (((([(ou, kl cJ 1 V), (h, rO od fa ot ah te id rt bs kn), (fa, go cO 4 fr), (ot, go cO 4 er), (ah, ka cJ 13 a), (te, ka cJ 31 T), (id, ka cJ 5 J), (rt, rR fo cn wh pt rs sq on tw), (fo, ka cJ 4 Fo), (wh, ka cJ 5 Y), (pt, ka cJ 5 P), (rs, ka cJ 5 r), (sq, ka cJ 8 S), (on, ka cJ 5 a1), (tw, ka cJ 5 b1), (bs, rB ro le me bn), (ro, go cO 17 ra), (le, ki cI 13 Lx), (me, go cO 13 mb), (g, rM cd od fc hd md lo lv tb rw bm mn nu tu), (fc, k2 cJ 20 5 G), (hd, ka cJ 13 a2), (md, ka cJ 17 P2), (lo, k2 cJ 20 5 E2), (tb, k2 cJ 221 13 M2), (rw, ki cI 13 L2), (bm, k2 cJ 169 13 B2), (nu, ka cJ 31 T2), (tu, k2 cJ 20 5 U2)] ++ gs 4 er cJ 5 E) ++ gs 4 fr cJ 5 F) ++ gs 13 mb cJ 13 Bm) ++ gs 17 ra cJ 13 M) H) (hD : va_D A (((([(ou, kl cJ 1 V), (h, rO od fa ot ah te id rt bs kn), (fa, go cO 4 fr), (ot, go cO 4 er), (ah, ka cJ 13 a), (te, ka cJ 31 T), (id, ka cJ 5 J), (rt, rR fo cn wh pt rs sq on tw), (fo, ka cJ 4 Fo), (wh, ka cJ 5 Y), (pt, ka cJ 5 P), (rs, ka cJ 5 r), (sq, ka cJ 8 S), (on, ka cJ 5 a1), (tw, ka cJ 5 b1), (bs, rB ro le me bn), (ro, go cO 17 ra), (le, ki cI 13 Lx), (me, go cO 13 mb), (g, rM cd od fc hd md lo lv tb rw bm mn nu tu), (fc, k2 cJ 20 5 G), (hd, ka cJ 13 a2), (md, ka cJ 17 P2), (lo, k2 cJ 20 5 E2), (tb, k2 cJ 221 13 M2), (rw, ki cI 13 L2), (bm, k2 cJ 169 13 B2), (nu, ka cJ 31 T2), (tu, k2 cJ 20 5 U2)] ++ gs 4 er cJ 5 E) ++ gs 4 fr cJ 5 F) ++ gs 13 mb cJ 13 Bm) ++ gs 17 ra cJ 13 M)) (hS : va_S A s.heap H locs) (hl : lv_has ls 7 [(0, .ref b), (1, .ref h), (2, .ref g), (3, .ref ou), (4, .int (iz z4))]) : W p l e room_1 s m args below meth c H locs kc ks Q (F0 m 985 ls []) := by
  obtain ⟨hI, hJ⟩ := hI
  have hs1 := sx_in xs (k + 1)
  have hfc : kc + 0 ≤ room_1.cells := by show kc + 0 ≤ 601024; omega
  have hfs : ks + 0 ≤ room_1.slots := by show ks + 0 ≤ 7293000; omega
  have hfc1 : kc + 1 ≤ room_1.cells := hkc
  have hfs1 : ks + 6 ≤ room_1.slots := hks
  have hbs := lw_base hI ho3 P2 M2 L2 B2
  have hb1 := hbs.1
  have hb2 := hbs.2.1
  by_cases hm : 0 ≤ (sx xs (k + 1)) ∧ (sx xs (k + 1)) < (knD kn F o M Lx Bm bn).2.2.2
  · refine lv_aload_n hx hb d_L_law_985 rfl (lv_at hl 1 rfl) ?_
    refine lv_aload_n hx hb d_L_law_986 rfl (lv_at hl 0 rfl) ?_
    refine lv_iload hx hb d_L_law_987 (lv_at hl 4 rfl) ?_
    refine rz_iconst hx hb d_L_law_989 ?_
    refine rz_iadd hx hb d_L_law_990 ?_
    refine rl_sld hx hb hX hbl hbA hS (k + 1) d_L_law_991 ?_
    refine rsM_calli (vx_runSW (hh := [((0 : Nat), (5 : Nat), (8 : Nat), (13 : Nat))]) (As := [.ref h, .int (iz (sx xs (k + 1)))]) (rest := []) ⟨hx, hb, hml, hown, hts⟩ (h_L_take_S l D cI cJ cO h fa ot ah te id rt bs od kn ro le me bn fr mb ra F Bm M Lx a (sx xs (k + 1)) o hod ho3 (lw_kn hI) ((sx xs (k + 1)).toNat) (by omega) (by omega) (by omega) (by omega)) (vx_cwSW 2 hts (kb_gi (kb_c kw_487 (kb_c kw_488 (kb_c kw_0 (kb_c kw_489 kb_all))))) rfl rfl rfl (by decide +kernel) ⟨Nat.le_of_ble_eq_true rfl, Nat.le_of_ble_eq_true rfl⟩) ⟨rc_blind, rs_pre (Y := []) (rs_nil (rs_a_3_0 hP)) (rs_nilD (rs_aD_3_0 hD)) hK hN [1, 2, 15, 16, 17, 18, 4] rfl rfl [0, 1, 2] rfl⟩ rfl rfl hl.1 rfl (lv_room (Nat.le_of_ble_eq_true rfl)) d_L_law_992 ⟨hfc, hfs⟩) (rs_nil (rs_a_3_0 hP)) (rs_nilD (rs_aD_3_0 hD)) hS [1, 2, 15, 16, 17, 18, 4] rfl (fun _ => rfl) (fun _ => gs_adr2 (gs_adr _ _ _ _ _ _) (gs_adr2 (gs_adr _ _ _ _ _ _) (gs_adr _ _ _ _ _ _))) (fun r1 u2 H locs hw2 hP hD hS => ?_)
    have hP := rs_b_3_0 (rs_nilR hP)
    have hD := rs_bD_3_0 (rs_nilRD hD)
    subst hw2
    have hP : va_P D vC (((([(ou, kl cJ 1 V), (h, rO od fa ot ah te id rt bs 1), (fa, go cO 4 fr), (ot, go cO 4 er), (ah, ka cJ 13 (va_cpy ((knD kn F o M Lx Bm bn).2.2.1 ((sx xs (k + 1)).toNat)) a 0 0 13)), (te, ka cJ 31 T), (id, ka cJ 5 J), (rt, rR fo cn wh pt rs sq on tw), (fo, ka cJ 4 Fo), (wh, ka cJ 5 Y), (pt, ka cJ 5 P), (rs, ka cJ 5 r), (sq, ka cJ 8 S), (on, ka cJ 5 a1), (tw, ka cJ 5 b1), (bs, rB ro le me (knD kn F o M Lx Bm bn).2.2.2), (ro, go cO 17 ra), (le, ki cI 13 (knD kn F o M Lx Bm bn).2.1), (me, go cO 13 mb), (g, rM cd od fc hd md lo lv tb rw bm mn nu tu), (fc, k2 cJ 20 5 G), (hd, ka cJ 13 a2), (md, ka cJ 17 P2), (lo, k2 cJ 20 5 E2), (tb, k2 cJ 221 13 M2), (rw, ki cI 13 L2), (bm, k2 cJ 169 13 B2), (nu, ka cJ 31 T2), (tu, k2 cJ 20 5 U2)] ++ gs 4 er cJ 5 E) ++ gs 4 fr cJ 5 F) ++ gs 13 mb cJ 13 (knD kn F o M Lx Bm bn).2.2.1) ++ gs 17 ra cJ 13 (knD kn F o M Lx Bm bn).1) H := hP
    have hD : va_D A (((([(ou, kl cJ 1 V), (h, rO od fa ot ah te id rt bs 1), (fa, go cO 4 fr), (ot, go cO 4 er), (ah, ka cJ 13 (va_cpy ((knD kn F o M Lx Bm bn).2.2.1 ((sx xs (k + 1)).toNat)) a 0 0 13)), (te, ka cJ 31 T), (id, ka cJ 5 J), (rt, rR fo cn wh pt rs sq on tw), (fo, ka cJ 4 Fo), (wh, ka cJ 5 Y), (pt, ka cJ 5 P), (rs, ka cJ 5 r), (sq, ka cJ 8 S), (on, ka cJ 5 a1), (tw, ka cJ 5 b1), (bs, rB ro le me (knD kn F o M Lx Bm bn).2.2.2), (ro, go cO 17 ra), (le, ki cI 13 (knD kn F o M Lx Bm bn).2.1), (me, go cO 13 mb), (g, rM cd od fc hd md lo lv tb rw bm mn nu tu), (fc, k2 cJ 20 5 G), (hd, ka cJ 13 a2), (md, ka cJ 17 P2), (lo, k2 cJ 20 5 E2), (tb, k2 cJ 221 13 M2), (rw, ki cI 13 L2), (bm, k2 cJ 169 13 B2), (nu, ka cJ 31 T2), (tu, k2 cJ 20 5 U2)] ++ gs 4 er cJ 5 E) ++ gs 4 fr cJ 5 F) ++ gs 13 mb cJ 13 (knD kn F o M Lx Bm bn).2.2.1) ++ gs 17 ra cJ 13 (knD kn F o M Lx Bm bn).1) := hD
    refine lv_istore (lv' := [(5, .int (iz 0)), (0, .ref b), (1, .ref h), (2, .ref g), (3, .ref ou), (4, .int (iz z4))]) hx hb d_L_law_995 hl (by decide) rfl (fun ls hl => ?_)
    refine lv_aload_n hx hb d_L_law_997 rfl (lv_at hl 3 rfl) ?_
    refine lv_aload_n hx hb d_L_law_998 rfl (lv_at hl 1 rfl) ?_
    refine lv_iload hx hb d_L_law_999 (lv_at hl 5 rfl) ?_
    refine rz_iconst hx hb d_L_law_1001 ?_
    refine rz_iadd hx hb d_L_law_1002 ?_
    refine rl_sld hx hb hX hbl hbA hS (k + 1) d_L_law_1003 ?_
    refine rc_callv (va_runV (As := [.int (iz (sx xs (k + 1)))]) (rest := []) ⟨hx, hb, hml, hown, hts⟩ (m_M_take l D cJ cI g cd od fc hd md lo lv tb rw bm mn nu tu G M2 B2 P2 L2 a2 (sx xs (k + 1)) o hod ho3 (by omega) (by omega)) (cwV 1 hts (kb_gi (kb_c kw_703 (kb_c kw_704 (kb_c kw_705 (kb_c kw_5 (kb_c kw_706 kb_all)))))) rfl rfl rfl (by decide +kernel) ⟨Nat.le_of_ble_eq_true rfl, Nat.le_of_ble_eq_true rfl⟩) ⟨rc_blind, va_recv hK hP (ci := 3) (q0 := 19) rfl rfl, rc_pre hP hD hK hN [19, 20, 22, 24, 25, 26, 21] rfl rfl [0, 2] rfl⟩ rfl rfl hl.1 rfl (lv_room (Nat.le_of_ble_eq_true rfl)) d_L_law_1004 ⟨hfc, hfs⟩) hP hD hS [19, 20, 22, 24, 25, 26, 21] rfl (fun _ => rfl) (fun u3 H locs hw3 hP hD hS => ?_)
    have h9 : u3 = (0, cpk ((faS G o P2 M2 L2 B2).2 ((sx xs (k + 1)).toNat)) a2 13) := by
      rcases hw3 with ⟨h6, h7⟩ | ⟨h6, h7⟩
      · exact h7
      · exact absurd ⟨by omega, by omega⟩ h6
    subst h9
    have hP : va_P D vC (((([(ou, kl cJ 1 V), (h, rO od fa ot ah te id rt bs 1), (fa, go cO 4 fr), (ot, go cO 4 er), (ah, ka cJ 13 (va_cpy ((knD kn F o M Lx Bm bn).2.2.1 ((sx xs (k + 1)).toNat)) a 0 0 13)), (te, ka cJ 31 T), (id, ka cJ 5 J), (rt, rR fo cn wh pt rs sq on tw), (fo, ka cJ 4 Fo), (wh, ka cJ 5 Y), (pt, ka cJ 5 P), (rs, ka cJ 5 r), (sq, ka cJ 8 S), (on, ka cJ 5 a1), (tw, ka cJ 5 b1), (bs, rB ro le me ((knD kn F o M Lx Bm bn).2.2.2)), (ro, go cO 17 ra), (le, ki cI 13 ((knD kn F o M Lx Bm bn).2.1)), (me, go cO 13 mb), (g, rM 0 od fc hd md lo lv tb rw bm ((faS G o P2 M2 L2 B2).1 : Int) nu tu), (fc, k2 cJ 20 5 G), (hd, ka cJ 13 (cpk ((faS G o P2 M2 L2 B2).2 ((sx xs (k + 1)).toNat)) a2 13)), (md, ka cJ 17 (tbP G o P2 13)), (lo, k2 cJ 20 5 E2), (tb, k2 cJ 221 13 (faT G o P2 M2 L2).1), (rw, ki cI 13 (faT G o P2 M2 L2).2), (bm, k2 cJ 169 13 (faS G o P2 M2 L2 B2).2), (nu, ka cJ 31 T2), (tu, k2 cJ 20 5 U2)] ++ gs 4 er cJ 5 E) ++ gs 4 fr cJ 5 F) ++ gs 13 mb cJ 13 ((knD kn F o M Lx Bm bn).2.2.1)) ++ gs 17 ra cJ 13 ((knD kn F o M Lx Bm bn).1)) H := hP
    have hD : va_D A (((([(ou, kl cJ 1 V), (h, rO od fa ot ah te id rt bs 1), (fa, go cO 4 fr), (ot, go cO 4 er), (ah, ka cJ 13 (va_cpy ((knD kn F o M Lx Bm bn).2.2.1 ((sx xs (k + 1)).toNat)) a 0 0 13)), (te, ka cJ 31 T), (id, ka cJ 5 J), (rt, rR fo cn wh pt rs sq on tw), (fo, ka cJ 4 Fo), (wh, ka cJ 5 Y), (pt, ka cJ 5 P), (rs, ka cJ 5 r), (sq, ka cJ 8 S), (on, ka cJ 5 a1), (tw, ka cJ 5 b1), (bs, rB ro le me ((knD kn F o M Lx Bm bn).2.2.2)), (ro, go cO 17 ra), (le, ki cI 13 ((knD kn F o M Lx Bm bn).2.1)), (me, go cO 13 mb), (g, rM 0 od fc hd md lo lv tb rw bm ((faS G o P2 M2 L2 B2).1 : Int) nu tu), (fc, k2 cJ 20 5 G), (hd, ka cJ 13 (cpk ((faS G o P2 M2 L2 B2).2 ((sx xs (k + 1)).toNat)) a2 13)), (md, ka cJ 17 (tbP G o P2 13)), (lo, k2 cJ 20 5 E2), (tb, k2 cJ 221 13 (faT G o P2 M2 L2).1), (rw, ki cI 13 (faT G o P2 M2 L2).2), (bm, k2 cJ 169 13 (faS G o P2 M2 L2 B2).2), (nu, ka cJ 31 T2), (tu, k2 cJ 20 5 U2)] ++ gs 4 er cJ 5 E) ++ gs 4 fr cJ 5 F) ++ gs 13 mb cJ 13 ((knD kn F o M Lx Bm bn).2.2.1)) ++ gs 17 ra cJ 13 ((knD kn F o M Lx Bm bn).1)) := hD
    refine lv_aload_n hx hb d_L_law_1007 rfl (lv_at hl 3 rfl) ?_
    refine rc_calli (va_runV (As := []) (rest := []) ⟨hx, hb, hml, hown, hts⟩ (m_M_thrown l D g 0 od fc hd md lo lv tb rw bm ((faS G o P2 M2 L2 B2).1 : Int) nu tu) (cwV 0 hts (kb_gi (kb_c kw_570 (kb_c kw_571 (kb_c kw_572 (kb_c kw_5 (kb_c kw_573 kb_all)))))) rfl rfl rfl (by decide +kernel) ⟨Nat.le_of_ble_eq_true rfl, Nat.le_of_ble_eq_true rfl⟩) ⟨rc_blind, va_recv hK hP (ci := 3) (q0 := 19) rfl rfl, rc_pre hP hD hK hN [19] rfl rfl [] rfl⟩ rfl rfl hl.1 rfl (lv_room (Nat.le_of_ble_eq_true rfl)) d_L_law_1008 ⟨hfc, hfs⟩) hP hD hS [19] rfl (fun _ => rfl) (fun r4 u5 H locs hw5 hP hD hS => ?_)
    subst hw5
    have hP : va_P D vC (((([(ou, kl cJ 1 V), (h, rO od fa ot ah te id rt bs 1), (fa, go cO 4 fr), (ot, go cO 4 er), (ah, ka cJ 13 (va_cpy ((knD kn F o M Lx Bm bn).2.2.1 ((sx xs (k + 1)).toNat)) a 0 0 13)), (te, ka cJ 31 T), (id, ka cJ 5 J), (rt, rR fo cn wh pt rs sq on tw), (fo, ka cJ 4 Fo), (wh, ka cJ 5 Y), (pt, ka cJ 5 P), (rs, ka cJ 5 r), (sq, ka cJ 8 S), (on, ka cJ 5 a1), (tw, ka cJ 5 b1), (bs, rB ro le me ((knD kn F o M Lx Bm bn).2.2.2)), (ro, go cO 17 ra), (le, ki cI 13 ((knD kn F o M Lx Bm bn).2.1)), (me, go cO 13 mb), (g, rM 0 od fc hd md lo lv tb rw bm ((faS G o P2 M2 L2 B2).1 : Int) nu tu), (fc, k2 cJ 20 5 G), (hd, ka cJ 13 (cpk ((faS G o P2 M2 L2 B2).2 ((sx xs (k + 1)).toNat)) a2 13)), (md, ka cJ 17 (tbP G o P2 13)), (lo, k2 cJ 20 5 E2), (tb, k2 cJ 221 13 (faT G o P2 M2 L2).1), (rw, ki cI 13 (faT G o P2 M2 L2).2), (bm, k2 cJ 169 13 (faS G o P2 M2 L2 B2).2), (nu, ka cJ 31 T2), (tu, k2 cJ 20 5 U2)] ++ gs 4 er cJ 5 E) ++ gs 4 fr cJ 5 F) ++ gs 13 mb cJ 13 ((knD kn F o M Lx Bm bn).2.2.1)) ++ gs 17 ra cJ 13 ((knD kn F o M Lx Bm bn).1)) H := hP
    have hD : va_D A (((([(ou, kl cJ 1 V), (h, rO od fa ot ah te id rt bs 1), (fa, go cO 4 fr), (ot, go cO 4 er), (ah, ka cJ 13 (va_cpy ((knD kn F o M Lx Bm bn).2.2.1 ((sx xs (k + 1)).toNat)) a 0 0 13)), (te, ka cJ 31 T), (id, ka cJ 5 J), (rt, rR fo cn wh pt rs sq on tw), (fo, ka cJ 4 Fo), (wh, ka cJ 5 Y), (pt, ka cJ 5 P), (rs, ka cJ 5 r), (sq, ka cJ 8 S), (on, ka cJ 5 a1), (tw, ka cJ 5 b1), (bs, rB ro le me ((knD kn F o M Lx Bm bn).2.2.2)), (ro, go cO 17 ra), (le, ki cI 13 ((knD kn F o M Lx Bm bn).2.1)), (me, go cO 13 mb), (g, rM 0 od fc hd md lo lv tb rw bm ((faS G o P2 M2 L2 B2).1 : Int) nu tu), (fc, k2 cJ 20 5 G), (hd, ka cJ 13 (cpk ((faS G o P2 M2 L2 B2).2 ((sx xs (k + 1)).toNat)) a2 13)), (md, ka cJ 17 (tbP G o P2 13)), (lo, k2 cJ 20 5 E2), (tb, k2 cJ 221 13 (faT G o P2 M2 L2).1), (rw, ki cI 13 (faT G o P2 M2 L2).2), (bm, k2 cJ 169 13 (faS G o P2 M2 L2 B2).2), (nu, ka cJ 31 T2), (tu, k2 cJ 20 5 U2)] ++ gs 4 er cJ 5 E) ++ gs 4 fr cJ 5 F) ++ gs 13 mb cJ 13 ((knD kn F o M Lx Bm bn).2.2.1)) ++ gs 17 ra cJ 13 ((knD kn F o M Lx Bm bn).1)) := hD
    refine lv_iload hx hb d_L_law_1011 (lv_at hl 0 rfl) ?_
    refine rl_icmp_eq (tgt := 1018) hx hb d_L_law_1013 (by decide) rfl ?_
    refine lv_goto (tgt := 1338) hx hb d_L_law_1018 (by decide) ?_
    refine W.widen (k := kc + 1) (n := ks + 6) (by omega) (by omega) ?_
    exact hend V 1 (va_cpy ((knD kn F o M Lx Bm bn).2.2.1 ((sx xs (k + 1)).toNat)) a 0 0 13) T J cn Fo Y P r S a1 b1 ((knD kn F o M Lx Bm bn).2.2.2) ((knD kn F o M Lx Bm bn).2.1) E F ((knD kn F o M Lx Bm bn).2.2.1) ((knD kn F o M Lx Bm bn).1) 0 lv ((faS G o P2 M2 L2 B2).1 : Int) G (cpk ((faS G o P2 M2 L2 B2).2 ((sx xs (k + 1)).toNat)) a2 13) (tbP G o P2 13) E2 ((faT G o P2 M2 L2).1) ((faT G o P2 M2 L2).2) ((faS G o P2 M2 L2 B2).2) T2 U2 H locs ls ⟨lw_take hI ho3 P2 M2 L2 B2 (by omega), hJ⟩ hP hD hS (lv_sub hl [1, 2, 3, 4, 5] rfl)
  · refine lv_aload_n hx hb d_L_law_985 rfl (lv_at hl 1 rfl) ?_
    refine lv_aload_n hx hb d_L_law_986 rfl (lv_at hl 0 rfl) ?_
    refine lv_iload hx hb d_L_law_987 (lv_at hl 4 rfl) ?_
    refine rz_iconst hx hb d_L_law_989 ?_
    refine rz_iadd hx hb d_L_law_990 ?_
    refine rl_sld hx hb hX hbl hbA hS (k + 1) d_L_law_991 ?_
    refine rsM_calli (vx_runSW (hh := [((0 : Nat), (5 : Nat), (8 : Nat), (13 : Nat))]) (As := [.ref h, .int (iz (sx xs (k + 1)))]) (rest := []) ⟨hx, hb, hml, hown, hts⟩ (h_L_take_t_S l D hst sa cI cJ cO h fa ot ah te id rt bs od kn ro le me bn fr mb ra F Bm M Lx a (sx xs (k + 1)) o hod ho3 (lw_kn hI) (by omega) (by omega) (by omega) (by omega) (by omega)) (vx_cwSW 2 hts (kb_gi (kb_c kw_487 (kb_c kw_488 (kb_c kw_0 (kb_c kw_489 kb_all))))) rfl rfl rfl (by decide +kernel) ⟨Nat.le_of_ble_eq_true rfl, Nat.le_of_ble_eq_true rfl⟩) ⟨rx_blind, fun U h8 h9 => ⟨(rs_pre (Y := []) (rs_nil (rs_a_3_0 hP)) (rs_nilD (rs_aD_3_0 hD)) hK hN [1, 2, 15, 16, 17, 18, 4] rfl rfl [0, 1, 2] rfl) U h8 h9, hE.go hS (rs_in (rs_nilD (rs_aD_3_0 hD)) (is := [1, 2, 15, 16, 17, 18, 4]) rfl) h8 h9⟩⟩ rfl rfl hl.1 rfl (lv_room (Nat.le_of_ble_eq_true rfl)) d_L_law_992 ⟨hfc1, hfs1⟩) (rs_nil (rs_a_3_0 hP)) (rs_nilD (rs_aD_3_0 hD)) hS [1, 2, 15, 16, 17, 18, 4] rfl (fun _ => rfl) (fun _ => gs_adr2 (gs_adr _ _ _ _ _ _) (gs_adr2 (gs_adr _ _ _ _ _ _) (gs_adr _ _ _ _ _ _))) (fun r6 u7 H locs hw7 hP hD hS => ?_)
    have hP := rs_b_3_0 (rs_nilR hP)
    have hD := rs_bD_3_0 (rs_nilRD hD)
    subst hw7
    have hP : va_P D vC (((([(ou, kl cJ 1 V), (h, rO od fa ot ah te id rt bs 1), (fa, go cO 4 fr), (ot, go cO 4 er), (ah, ka cJ 13 a), (te, ka cJ 31 T), (id, ka cJ 5 J), (rt, rR fo cn wh pt rs sq on tw), (fo, ka cJ 4 Fo), (wh, ka cJ 5 Y), (pt, ka cJ 5 P), (rs, ka cJ 5 r), (sq, ka cJ 8 S), (on, ka cJ 5 a1), (tw, ka cJ 5 b1), (bs, rB ro le me (knD kn F o M Lx Bm bn).2.2.2), (ro, go cO 17 ra), (le, ki cI 13 (knD kn F o M Lx Bm bn).2.1), (me, go cO 13 mb), (g, rM cd od fc hd md lo lv tb rw bm mn nu tu), (fc, k2 cJ 20 5 G), (hd, ka cJ 13 a2), (md, ka cJ 17 P2), (lo, k2 cJ 20 5 E2), (tb, k2 cJ 221 13 M2), (rw, ki cI 13 L2), (bm, k2 cJ 169 13 B2), (nu, ka cJ 31 T2), (tu, k2 cJ 20 5 U2)] ++ gs 4 er cJ 5 E) ++ gs 4 fr cJ 5 F) ++ gs 13 mb cJ 13 (knD kn F o M Lx Bm bn).2.2.1) ++ gs 17 ra cJ 13 (knD kn F o M Lx Bm bn).1) H := hP
    have hD : va_D A (((([(ou, kl cJ 1 V), (h, rO od fa ot ah te id rt bs 1), (fa, go cO 4 fr), (ot, go cO 4 er), (ah, ka cJ 13 a), (te, ka cJ 31 T), (id, ka cJ 5 J), (rt, rR fo cn wh pt rs sq on tw), (fo, ka cJ 4 Fo), (wh, ka cJ 5 Y), (pt, ka cJ 5 P), (rs, ka cJ 5 r), (sq, ka cJ 8 S), (on, ka cJ 5 a1), (tw, ka cJ 5 b1), (bs, rB ro le me (knD kn F o M Lx Bm bn).2.2.2), (ro, go cO 17 ra), (le, ki cI 13 (knD kn F o M Lx Bm bn).2.1), (me, go cO 13 mb), (g, rM cd od fc hd md lo lv tb rw bm mn nu tu), (fc, k2 cJ 20 5 G), (hd, ka cJ 13 a2), (md, ka cJ 17 P2), (lo, k2 cJ 20 5 E2), (tb, k2 cJ 221 13 M2), (rw, ki cI 13 L2), (bm, k2 cJ 169 13 B2), (nu, ka cJ 31 T2), (tu, k2 cJ 20 5 U2)] ++ gs 4 er cJ 5 E) ++ gs 4 fr cJ 5 F) ++ gs 13 mb cJ 13 (knD kn F o M Lx Bm bn).2.2.1) ++ gs 17 ra cJ 13 (knD kn F o M Lx Bm bn).1) := hD
    refine lv_istore (lv' := [(5, .int (iz 1)), (0, .ref b), (1, .ref h), (2, .ref g), (3, .ref ou), (4, .int (iz z4))]) hx hb d_L_law_995 hl (by decide) rfl (fun ls hl => ?_)
    refine lv_aload_n hx hb d_L_law_997 rfl (lv_at hl 3 rfl) ?_
    refine lv_aload_n hx hb d_L_law_998 rfl (lv_at hl 1 rfl) ?_
    refine lv_iload hx hb d_L_law_999 (lv_at hl 5 rfl) ?_
    refine rz_iconst hx hb d_L_law_1001 ?_
    refine rz_iadd hx hb d_L_law_1002 ?_
    refine rl_sld hx hb hX hbl hbA hS (k + 1) d_L_law_1003 ?_
    refine rc_callv (va_runV (As := [.int (iz (sx xs (k + 1)))]) (rest := []) ⟨hx, hb, hml, hown, hts⟩ (m_M_take l D cJ cI g cd od fc hd md lo lv tb rw bm mn nu tu G M2 B2 P2 L2 a2 (sx xs (k + 1)) o hod ho3 (by omega) (by omega)) (cwV 1 hts (kb_gi (kb_c kw_703 (kb_c kw_704 (kb_c kw_705 (kb_c kw_5 (kb_c kw_706 kb_all)))))) rfl rfl rfl (by decide +kernel) ⟨Nat.le_of_ble_eq_true rfl, Nat.le_of_ble_eq_true rfl⟩) ⟨rc_blind, va_recv hK hP (ci := 3) (q0 := 19) rfl rfl, rc_pre hP hD hK hN [19, 20, 22, 24, 25, 26, 21] rfl rfl [0, 2] rfl⟩ rfl rfl hl.1 rfl (lv_room (Nat.le_of_ble_eq_true rfl)) d_L_law_1004 ⟨hfc1, hfs1⟩) hP hD hS [19, 20, 22, 24, 25, 26, 21] rfl (fun _ => rfl) (fun u8 H locs hw8 hP hD hS => ?_)
    have h9 : u8 = (1, a2) := by
      rcases hw8 with ⟨h6, h7⟩ | ⟨h6, h7⟩
      · exfalso; omega
      · exact h7
    subst h9
    have hP : va_P D vC (((([(ou, kl cJ 1 V), (h, rO od fa ot ah te id rt bs 1), (fa, go cO 4 fr), (ot, go cO 4 er), (ah, ka cJ 13 a), (te, ka cJ 31 T), (id, ka cJ 5 J), (rt, rR fo cn wh pt rs sq on tw), (fo, ka cJ 4 Fo), (wh, ka cJ 5 Y), (pt, ka cJ 5 P), (rs, ka cJ 5 r), (sq, ka cJ 8 S), (on, ka cJ 5 a1), (tw, ka cJ 5 b1), (bs, rB ro le me ((knD kn F o M Lx Bm bn).2.2.2)), (ro, go cO 17 ra), (le, ki cI 13 ((knD kn F o M Lx Bm bn).2.1)), (me, go cO 13 mb), (g, rM 1 od fc hd md lo lv tb rw bm ((faS G o P2 M2 L2 B2).1 : Int) nu tu), (fc, k2 cJ 20 5 G), (hd, ka cJ 13 a2), (md, ka cJ 17 (tbP G o P2 13)), (lo, k2 cJ 20 5 E2), (tb, k2 cJ 221 13 (faT G o P2 M2 L2).1), (rw, ki cI 13 (faT G o P2 M2 L2).2), (bm, k2 cJ 169 13 (faS G o P2 M2 L2 B2).2), (nu, ka cJ 31 T2), (tu, k2 cJ 20 5 U2)] ++ gs 4 er cJ 5 E) ++ gs 4 fr cJ 5 F) ++ gs 13 mb cJ 13 ((knD kn F o M Lx Bm bn).2.2.1)) ++ gs 17 ra cJ 13 ((knD kn F o M Lx Bm bn).1)) H := hP
    have hD : va_D A (((([(ou, kl cJ 1 V), (h, rO od fa ot ah te id rt bs 1), (fa, go cO 4 fr), (ot, go cO 4 er), (ah, ka cJ 13 a), (te, ka cJ 31 T), (id, ka cJ 5 J), (rt, rR fo cn wh pt rs sq on tw), (fo, ka cJ 4 Fo), (wh, ka cJ 5 Y), (pt, ka cJ 5 P), (rs, ka cJ 5 r), (sq, ka cJ 8 S), (on, ka cJ 5 a1), (tw, ka cJ 5 b1), (bs, rB ro le me ((knD kn F o M Lx Bm bn).2.2.2)), (ro, go cO 17 ra), (le, ki cI 13 ((knD kn F o M Lx Bm bn).2.1)), (me, go cO 13 mb), (g, rM 1 od fc hd md lo lv tb rw bm ((faS G o P2 M2 L2 B2).1 : Int) nu tu), (fc, k2 cJ 20 5 G), (hd, ka cJ 13 a2), (md, ka cJ 17 (tbP G o P2 13)), (lo, k2 cJ 20 5 E2), (tb, k2 cJ 221 13 (faT G o P2 M2 L2).1), (rw, ki cI 13 (faT G o P2 M2 L2).2), (bm, k2 cJ 169 13 (faS G o P2 M2 L2 B2).2), (nu, ka cJ 31 T2), (tu, k2 cJ 20 5 U2)] ++ gs 4 er cJ 5 E) ++ gs 4 fr cJ 5 F) ++ gs 13 mb cJ 13 ((knD kn F o M Lx Bm bn).2.2.1)) ++ gs 17 ra cJ 13 ((knD kn F o M Lx Bm bn).1)) := hD
    refine lv_aload_n hx hb d_L_law_1007 rfl (lv_at hl 3 rfl) ?_
    refine rc_calli (va_runV (As := []) (rest := []) ⟨hx, hb, hml, hown, hts⟩ (m_M_thrown l D g 1 od fc hd md lo lv tb rw bm ((faS G o P2 M2 L2 B2).1 : Int) nu tu) (cwV 0 hts (kb_gi (kb_c kw_570 (kb_c kw_571 (kb_c kw_572 (kb_c kw_5 (kb_c kw_573 kb_all)))))) rfl rfl rfl (by decide +kernel) ⟨Nat.le_of_ble_eq_true rfl, Nat.le_of_ble_eq_true rfl⟩) ⟨rc_blind, va_recv hK hP (ci := 3) (q0 := 19) rfl rfl, rc_pre hP hD hK hN [19] rfl rfl [] rfl⟩ rfl rfl hl.1 rfl (lv_room (Nat.le_of_ble_eq_true rfl)) d_L_law_1008 ⟨hfc1, hfs1⟩) hP hD hS [19] rfl (fun _ => rfl) (fun r9 u10 H locs hw10 hP hD hS => ?_)
    subst hw10
    have hP : va_P D vC (((([(ou, kl cJ 1 V), (h, rO od fa ot ah te id rt bs 1), (fa, go cO 4 fr), (ot, go cO 4 er), (ah, ka cJ 13 a), (te, ka cJ 31 T), (id, ka cJ 5 J), (rt, rR fo cn wh pt rs sq on tw), (fo, ka cJ 4 Fo), (wh, ka cJ 5 Y), (pt, ka cJ 5 P), (rs, ka cJ 5 r), (sq, ka cJ 8 S), (on, ka cJ 5 a1), (tw, ka cJ 5 b1), (bs, rB ro le me ((knD kn F o M Lx Bm bn).2.2.2)), (ro, go cO 17 ra), (le, ki cI 13 ((knD kn F o M Lx Bm bn).2.1)), (me, go cO 13 mb), (g, rM 1 od fc hd md lo lv tb rw bm ((faS G o P2 M2 L2 B2).1 : Int) nu tu), (fc, k2 cJ 20 5 G), (hd, ka cJ 13 a2), (md, ka cJ 17 (tbP G o P2 13)), (lo, k2 cJ 20 5 E2), (tb, k2 cJ 221 13 (faT G o P2 M2 L2).1), (rw, ki cI 13 (faT G o P2 M2 L2).2), (bm, k2 cJ 169 13 (faS G o P2 M2 L2 B2).2), (nu, ka cJ 31 T2), (tu, k2 cJ 20 5 U2)] ++ gs 4 er cJ 5 E) ++ gs 4 fr cJ 5 F) ++ gs 13 mb cJ 13 ((knD kn F o M Lx Bm bn).2.2.1)) ++ gs 17 ra cJ 13 ((knD kn F o M Lx Bm bn).1)) H := hP
    have hD : va_D A (((([(ou, kl cJ 1 V), (h, rO od fa ot ah te id rt bs 1), (fa, go cO 4 fr), (ot, go cO 4 er), (ah, ka cJ 13 a), (te, ka cJ 31 T), (id, ka cJ 5 J), (rt, rR fo cn wh pt rs sq on tw), (fo, ka cJ 4 Fo), (wh, ka cJ 5 Y), (pt, ka cJ 5 P), (rs, ka cJ 5 r), (sq, ka cJ 8 S), (on, ka cJ 5 a1), (tw, ka cJ 5 b1), (bs, rB ro le me ((knD kn F o M Lx Bm bn).2.2.2)), (ro, go cO 17 ra), (le, ki cI 13 ((knD kn F o M Lx Bm bn).2.1)), (me, go cO 13 mb), (g, rM 1 od fc hd md lo lv tb rw bm ((faS G o P2 M2 L2 B2).1 : Int) nu tu), (fc, k2 cJ 20 5 G), (hd, ka cJ 13 a2), (md, ka cJ 17 (tbP G o P2 13)), (lo, k2 cJ 20 5 E2), (tb, k2 cJ 221 13 (faT G o P2 M2 L2).1), (rw, ki cI 13 (faT G o P2 M2 L2).2), (bm, k2 cJ 169 13 (faS G o P2 M2 L2 B2).2), (nu, ka cJ 31 T2), (tu, k2 cJ 20 5 U2)] ++ gs 4 er cJ 5 E) ++ gs 4 fr cJ 5 F) ++ gs 13 mb cJ 13 ((knD kn F o M Lx Bm bn).2.2.1)) ++ gs 17 ra cJ 13 ((knD kn F o M Lx Bm bn).1)) := hD
    refine lv_iload hx hb d_L_law_1011 (lv_at hl 0 rfl) ?_
    refine rl_icmp_eq (tgt := 1018) hx hb d_L_law_1013 (by decide) rfl ?_
    refine lv_goto (tgt := 1338) hx hb d_L_law_1018 (by decide) ?_
    refine W.widen (k := kc + 1) (n := ks + 6) (by omega) (by omega) ?_
    exact hend V 1 a T J cn Fo Y P r S a1 b1 ((knD kn F o M Lx Bm bn).2.2.2) ((knD kn F o M Lx Bm bn).2.1) E F ((knD kn F o M Lx Bm bn).2.2.1) ((knD kn F o M Lx Bm bn).1) 1 lv ((faS G o P2 M2 L2 B2).1 : Int) G a2 (tbP G o P2 13) E2 ((faT G o P2 M2 L2).1) ((faT G o P2 M2 L2).2) ((faS G o P2 M2 L2 B2).2) T2 U2 H locs ls ⟨lw_know hI ho3, hJ⟩ hP hD hS (lv_sub hl [1, 2, 3, 4, 5] rfl)
set_option maxHeartbeats 4000000 in
set_option maxRecDepth 100000 in
theorem lc_13 {cJ cO cI : ClassId} {ou h fa ot ah te id rt bs : Nat} {od : Int} {fo wh pt rs sq on tw : Nat} {ro le me : Nat} {fr er mb ra : Nat → Nat} {g : Nat} {fc hd md lo tb rw bm nu tu : Nat} {o : Nat} {sa : Nat → Nat} {ct b L : Nat} {xs : Nat → Int32} {V : Nat → Int64} {kn : Int} {a : Nat → ro_K} {T : Nat → ro_K} {J : Nat → ro_K} {cn : Int} {Fo : Nat → ro_K} {Y : Nat → ro_K} {P : Nat → ro_K} {r : Nat → ro_K} {S : Nat → ro_K} {a1 : Nat → ro_K} {b1 : Nat → ro_K} {bn : Int} {Lx : Nat → Int} {E : Nat → Nat → ro_K} {F : Nat → Nat → ro_K} {Bm : Nat → Nat → ro_K} {M : Nat → Nat → ro_K} {cd : Int} {lv : Int} {mn : Int} {G : Nat → Nat → ro_K} {a2 : Nat → ro_K} {P2 : Nat → ro_K} {E2 : Nat → Nat → ro_K} {M2 : Nat → Nat → ro_K} {L2 : Nat → Int} {B2 : Nat → Nat → ro_K} {T2 : Nat → ro_K} {U2 : Nat → Nat → ro_K} {z4 : Int} {k kc ks : Nat} {H : Heap} {locs : List Loc} {ls : Array Slot} (hx : p.tables.exec = Jvm.exec) (hb : c.code = c_L_law) (hml : c.maxLocals = 7) (hown : s.vm.findClass R_L = some m.cls) (hts : ∀ w ∈ kb, w.before args s = true) (hK : va_K D vC [(cJ, .long), (cO, .array .long), (cI, .int)] s) (hN : rc_N s) (hst : l.stackTraces = false) (hE : rx_E sa A s s.heap) (hC : rz_C ct A s s.heap) (hX : va_X b L xs s s.heap) (hbl : b < s.heap.size) (hbA : ¬ A b) (hL : L ≤ 5121) (hod : od = (o : Int)) (ho1 : 1 ≤ o) (ho3 : o ≤ 3) (hz4 : z4 = (k : Int)) (hk9 : k + 9 < L) (hkc : kc + 1 ≤ 601024) (hks : ks + 6 ≤ 7293000) (hI : (lw_I o F E a kn M Lx Bm bn G a2 ∧ J 4 = 0)) (hend : ∀ (V : Nat → Int64) (kn : Int) (a : Nat → ro_K) (T : Nat → ro_K) (J : Nat → ro_K) (cn : Int) (Fo : Nat → ro_K) (Y : Nat → ro_K) (P : Nat → ro_K) (r : Nat → ro_K) (S : Nat → ro_K) (a1 : Nat → ro_K) (b1 : Nat → ro_K) (bn : Int) (Lx : Nat → Int) (E : Nat → Nat → ro_K) (F : Nat → Nat → ro_K) (Bm : Nat → Nat → ro_K) (M : Nat → Nat → ro_K) (cd : Int) (lv : Int) (mn : Int) (G : Nat → Nat → ro_K) (a2 : Nat → ro_K) (P2 : Nat → ro_K) (E2 : Nat → Nat → ro_K) (M2 : Nat → Nat → ro_K) (L2 : Nat → Int) (B2 : Nat → Nat → ro_K) (T2 : Nat → ro_K) (U2 : Nat → Nat → ro_K) (H : Heap) (locs : List Loc) (ls : Array Slot), (lw_I o F E a kn M Lx Bm bn G a2 ∧ J 4 = 0) → va_P D vC (((([(ou, kl cJ 1 V), (h, rO od fa ot ah te id rt bs kn), (fa, go cO 4 fr), (ot, go cO 4 er), (ah, ka cJ 13 a), (te, ka cJ 31 T), (id, ka cJ 5 J), (rt, rR fo cn wh pt rs sq on tw), (fo, ka cJ 4 Fo), (wh, ka cJ 5 Y), (pt, ka cJ 5 P), (rs, ka cJ 5 r), (sq, ka cJ 8 S), (on, ka cJ 5 a1), (tw, ka cJ 5 b1), (bs, rB ro le me bn), (ro, go cO 17 ra), (le, ki cI 13 Lx), (me, go cO 13 mb), (g, rM cd od fc hd md lo lv tb rw bm mn nu tu), (fc, k2 cJ 20 5 G), (hd, ka cJ 13 a2), (md, ka cJ 17 P2), (lo, k2 cJ 20 5 E2), (tb, k2 cJ 221 13 M2), (rw, ki cI 13 L2), (bm, k2 cJ 169 13 B2), (nu, ka cJ 31 T2), (tu, k2 cJ 20 5 U2)] ++ gs 4 er cJ 5 E) ++ gs 4 fr cJ 5 F) ++ gs 13 mb cJ 13 Bm) ++ gs 17 ra cJ 13 M) H → va_D A (((([(ou, kl cJ 1 V), (h, rO od fa ot ah te id rt bs kn), (fa, go cO 4 fr), (ot, go cO 4 er), (ah, ka cJ 13 a), (te, ka cJ 31 T), (id, ka cJ 5 J), (rt, rR fo cn wh pt rs sq on tw), (fo, ka cJ 4 Fo), (wh, ka cJ 5 Y), (pt, ka cJ 5 P), (rs, ka cJ 5 r), (sq, ka cJ 8 S), (on, ka cJ 5 a1), (tw, ka cJ 5 b1), (bs, rB ro le me bn), (ro, go cO 17 ra), (le, ki cI 13 Lx), (me, go cO 13 mb), (g, rM cd od fc hd md lo lv tb rw bm mn nu tu), (fc, k2 cJ 20 5 G), (hd, ka cJ 13 a2), (md, ka cJ 17 P2), (lo, k2 cJ 20 5 E2), (tb, k2 cJ 221 13 M2), (rw, ki cI 13 L2), (bm, k2 cJ 169 13 B2), (nu, ka cJ 31 T2), (tu, k2 cJ 20 5 U2)] ++ gs 4 er cJ 5 E) ++ gs 4 fr cJ 5 F) ++ gs 13 mb cJ 13 Bm) ++ gs 17 ra cJ 13 M) → va_S A s.heap H locs → lv_has ls 7 [(0, .ref b), (1, .ref h), (2, .ref g), (3, .ref ou), (4, .int (iz z4))] → W p l e room_1 s m args below meth c H locs (kc + 1) (ks + 6) Q (F0 m 1338 ls [])) (hP : va_P D vC (((([(ou, kl cJ 1 V), (h, rO od fa ot ah te id rt bs kn), (fa, go cO 4 fr), (ot, go cO 4 er), (ah, ka cJ 13 a), (te, ka cJ 31 T), (id, ka cJ 5 J), (rt, rR fo cn wh pt rs sq on tw), (fo, ka cJ 4 Fo), (wh, ka cJ 5 Y), (pt, ka cJ 5 P), (rs, ka cJ 5 r), (sq, ka cJ 8 S), (on, ka cJ 5 a1), (tw, ka cJ 5 b1), (bs, rB ro le me bn), (ro, go cO 17 ra), (le, ki cI 13 Lx), (me, go cO 13 mb), (g, rM cd od fc hd md lo lv tb rw bm mn nu tu), (fc, k2 cJ 20 5 G), (hd, ka cJ 13 a2), (md, ka cJ 17 P2), (lo, k2 cJ 20 5 E2), (tb, k2 cJ 221 13 M2), (rw, ki cI 13 L2), (bm, k2 cJ 169 13 B2), (nu, ka cJ 31 T2), (tu, k2 cJ 20 5 U2)] ++ gs 4 er cJ 5 E) ++ gs 4 fr cJ 5 F) ++ gs 13 mb cJ 13 Bm) ++ gs 17 ra cJ 13 M) H) (hD : va_D A (((([(ou, kl cJ 1 V), (h, rO od fa ot ah te id rt bs kn), (fa, go cO 4 fr), (ot, go cO 4 er), (ah, ka cJ 13 a), (te, ka cJ 31 T), (id, ka cJ 5 J), (rt, rR fo cn wh pt rs sq on tw), (fo, ka cJ 4 Fo), (wh, ka cJ 5 Y), (pt, ka cJ 5 P), (rs, ka cJ 5 r), (sq, ka cJ 8 S), (on, ka cJ 5 a1), (tw, ka cJ 5 b1), (bs, rB ro le me bn), (ro, go cO 17 ra), (le, ki cI 13 Lx), (me, go cO 13 mb), (g, rM cd od fc hd md lo lv tb rw bm mn nu tu), (fc, k2 cJ 20 5 G), (hd, ka cJ 13 a2), (md, ka cJ 17 P2), (lo, k2 cJ 20 5 E2), (tb, k2 cJ 221 13 M2), (rw, ki cI 13 L2), (bm, k2 cJ 169 13 B2), (nu, ka cJ 31 T2), (tu, k2 cJ 20 5 U2)] ++ gs 4 er cJ 5 E) ++ gs 4 fr cJ 5 F) ++ gs 13 mb cJ 13 Bm) ++ gs 17 ra cJ 13 M)) (hS : va_S A s.heap H locs) (hl : lv_has ls 7 [(0, .ref b), (1, .ref h), (2, .ref g), (3, .ref ou), (4, .int (iz z4))]) : W p l e room_1 s m args below meth c H locs kc ks Q (F0 m 1021 ls []) := by
  obtain ⟨hI, hJ⟩ := hI
  have hs1 := sx_in xs (k + 1)
  have hs2 := sx_in xs (k + 2)
  have hs3 := sx_in xs (k + 3)
  have hs4 := sx_in xs (k + 4)
  have hs5 := sx_in xs (k + 5)
  have hs6 := sx_in xs (k + 6)
  have hs7 := sx_in xs (k + 7)
  have hs8 := sx_in xs (k + 8)
  have hs9 := sx_in xs (k + 9)
  have hfc : kc + 0 ≤ room_1.cells := by show kc + 0 ≤ 601024; omega
  have hfs : ks + 0 ≤ room_1.slots := by show ks + 0 ≤ 7293000; omega
  have hfc1 : kc + 1 ≤ room_1.cells := hkc
  have hfs1 : ks + 6 ≤ room_1.slots := hks
  by_cases hok : 0 ≤ (sx xs (k + 9)) ∧ (sx xs (k + 9)) ≤ 30
  · by_cases hn : ¬ (stE F (ro_k (lwd (sx xs (k + 1)) (sx xs (k + 2))).toInt) E (o + 1)) o 0 = 0
    · refine lv_aload_n hx hb d_L_law_1021 rfl (lv_at hl 1 rfl) ?_
      refine lv_aload_n hx hb d_L_law_1022 rfl (lv_at hl 0 rfl) ?_
      refine lv_iload hx hb d_L_law_1023 (lv_at hl 4 rfl) ?_
      refine rz_iconst hx hb d_L_law_1025 ?_
      refine rz_iadd hx hb d_L_law_1026 ?_
      refine rl_sld hx hb hX hbl hbA hS (k + 1) d_L_law_1027 ?_
      refine lv_i2l hx hb d_L_law_1028 rfl ?_
      refine rz_bipush hx hb d_L_law_1029 (by decide) ?_
      refine lv_lshl hx hb d_L_law_1031 rfl ?_
      refine lv_aload_n hx hb d_L_law_1032 rfl (lv_at hl 0 rfl) ?_
      refine lv_iload hx hb d_L_law_1033 (lv_at hl 4 rfl) ?_
      refine rz_iconst hx hb d_L_law_1035 ?_
      refine rz_iadd hx hb d_L_law_1036 ?_
      refine rl_sld hx hb hX hbl hbA hS (k + 2) d_L_law_1037 ?_
      refine lv_i2l hx hb d_L_law_1038 rfl ?_
      refine lv_ldc2 (v := 4294967295) hx hb hown (hts _ kw_712) d_L_law_1039 ?_
      refine lv_land hx hb d_L_law_1042 ?_
      refine lv_lor hx hb d_L_law_1043 ?_
      refine lv_aload_n hx hb d_L_law_1044 rfl (lv_at hl 0 rfl) ?_
      refine lv_iload hx hb d_L_law_1045 (lv_at hl 4 rfl) ?_
      refine rz_iconst hx hb d_L_law_1047 ?_
      refine rz_iadd hx hb d_L_law_1048 ?_
      refine rl_sld hx hb hX hbl hbA hS (k + 3) d_L_law_1049 ?_
      refine lv_i2l hx hb d_L_law_1050 rfl ?_
      refine rz_bipush hx hb d_L_law_1051 (by decide) ?_
      refine lv_lshl hx hb d_L_law_1053 rfl ?_
      refine lv_aload_n hx hb d_L_law_1054 rfl (lv_at hl 0 rfl) ?_
      refine lv_iload hx hb d_L_law_1055 (lv_at hl 4 rfl) ?_
      refine rz_iconst hx hb d_L_law_1057 ?_
      refine rz_iadd hx hb d_L_law_1058 ?_
      refine rl_sld hx hb hX hbl hbA hS (k + 4) d_L_law_1059 ?_
      refine lv_i2l hx hb d_L_law_1060 rfl ?_
      refine lv_ldc2 (v := 4294967295) hx hb hown (hts _ kw_712) d_L_law_1061 ?_
      refine lv_land hx hb d_L_law_1064 ?_
      refine lv_lor hx hb d_L_law_1065 ?_
      refine lv_aload_n hx hb d_L_law_1066 rfl (lv_at hl 0 rfl) ?_
      refine lv_iload hx hb d_L_law_1067 (lv_at hl 4 rfl) ?_
      refine rz_iconst hx hb d_L_law_1069 ?_
      refine rz_iadd hx hb d_L_law_1070 ?_
      refine rl_sld hx hb hX hbl hbA hS (k + 5) d_L_law_1071 ?_
      refine lv_i2l hx hb d_L_law_1072 rfl ?_
      refine rz_bipush hx hb d_L_law_1073 (by decide) ?_
      refine lv_lshl hx hb d_L_law_1075 rfl ?_
      refine lv_aload_n hx hb d_L_law_1076 rfl (lv_at hl 0 rfl) ?_
      refine lv_iload hx hb d_L_law_1077 (lv_at hl 4 rfl) ?_
      refine rz_bipush hx hb d_L_law_1079 (by decide) ?_
      refine rz_iadd hx hb d_L_law_1081 ?_
      refine rl_sld hx hb hX hbl hbA hS (k + 6) d_L_law_1082 ?_
      refine lv_i2l hx hb d_L_law_1083 rfl ?_
      refine lv_ldc2 (v := 4294967295) hx hb hown (hts _ kw_712) d_L_law_1084 ?_
      refine lv_land hx hb d_L_law_1087 ?_
      refine lv_lor hx hb d_L_law_1088 ?_
      refine lv_aload_n hx hb d_L_law_1089 rfl (lv_at hl 0 rfl) ?_
      refine lv_iload hx hb d_L_law_1090 (lv_at hl 4 rfl) ?_
      refine rz_bipush hx hb d_L_law_1092 (by decide) ?_
      refine rz_iadd hx hb d_L_law_1094 ?_
      refine rl_sld hx hb hX hbl hbA hS (k + 7) d_L_law_1095 ?_
      refine lv_i2l hx hb d_L_law_1096 rfl ?_
      refine rz_bipush hx hb d_L_law_1097 (by decide) ?_
      refine lv_lshl hx hb d_L_law_1099 rfl ?_
      refine lv_aload_n hx hb d_L_law_1100 rfl (lv_at hl 0 rfl) ?_
      refine lv_iload hx hb d_L_law_1101 (lv_at hl 4 rfl) ?_
      refine rz_bipush hx hb d_L_law_1103 (by decide) ?_
      refine rz_iadd hx hb d_L_law_1105 ?_
      refine rl_sld hx hb hX hbl hbA hS (k + 8) d_L_law_1106 ?_
      refine lv_i2l hx hb d_L_law_1107 rfl ?_
      refine lv_ldc2 (v := 4294967295) hx hb hown (hts _ kw_712) d_L_law_1108 ?_
      refine lv_land hx hb d_L_law_1111 ?_
      refine lv_lor hx hb d_L_law_1112 ?_
      refine lv_aload_n hx hb d_L_law_1113 rfl (lv_at hl 0 rfl) ?_
      refine lv_iload hx hb d_L_law_1114 (lv_at hl 4 rfl) ?_
      refine rz_bipush hx hb d_L_law_1116 (by decide) ?_
      refine rz_iadd hx hb d_L_law_1118 ?_
      refine rl_sld hx hb hX hbl hbA hS (k + 9) d_L_law_1119 ?_
      refine lv_aload_n hx hb d_L_law_1120 rfl (lv_at hl 3 rfl) ?_
      refine rsM_calli (vx_runSW (hh := [((0 : Nat), (17 : Nat), (20 : Nat), (13 : Nat)), ((0 : Nat), (17 : Nat), (24 : Nat), (56 : Nat))]) (As := [.ref h, .long (lwd (sx xs (k + 1)) (sx xs (k + 2))), .long (lwd (sx xs (k + 3)) (sx xs (k + 4))), .long (lwd (sx xs (k + 5)) (sx xs (k + 6))), .long (lwd (sx xs (k + 7)) (sx xs (k + 8))), .int (iz (sx xs (k + 9))), .ref ou]) (rest := []) ⟨hx, hb, hml, hown, hts⟩ (h_L_series_S l D cJ cO h fa ot ah te id rt bs od kn ou V fr er E F T (lwd (sx xs (k + 1)) (sx xs (k + 2))) (lwd (sx xs (k + 3)) (sx xs (k + 4))) (lwd (sx xs (k + 5)) (sx xs (k + 6))) (lwd (sx xs (k + 7)) (sx xs (k + 8))) (sx xs (k + 9)) o hod ho3 ho1 ((sx xs (k + 9)).toNat) (by omega) (by omega) hn) (vx_cwSW 7 hts (kb_gi (kb_c kw_494 (kb_c kw_495 (kb_c kw_0 (kb_c kw_496 kb_all))))) rfl rfl rfl (by decide +kernel) ⟨Nat.le_of_ble_eq_true rfl, Nat.le_of_ble_eq_true rfl⟩) ⟨rc_blind, rs_pre (rs_a_2_2 hP) (rs_aD_2_2 hD) hK hN [1, 2, 3, 5, 0] rfl rfl [0, 1] rfl⟩ rfl rfl hl.1 rfl (lv_room (Nat.le_of_ble_eq_true rfl)) d_L_law_1121 ⟨hfc, hfs⟩) (rs_a_2_2 hP) (rs_aD_2_2 hD) hS [1, 2, 3, 5, 0] rfl (fun _ => rfl) (fun _ => gs_adr2 (gs_adr _ _ _ _ _ _) (gs_adr _ _ _ _ _ _)) (fun r1 u2 H locs hw2 hP hD hS => ?_)
      have hP := rs_b_2_2 hP
      have hD := rs_bD_2_2 hD
      subst hw2
      have hP : va_P D vC (((([(ou, kl cJ 1 (vp_updL V 0 ((iz (((srT (stE F (ro_k (lwd (sx xs (k + 1)) (sx xs (k + 2))).toInt) E (o + 1)) o (srI T (lwd (sx xs (k + 3)) (sx xs (k + 4))) (lwd (sx xs (k + 5)) (sx xs (k + 6))) (lwd (sx xs (k + 7)) (sx xs (k + 8)))) (((sx xs (k + 9)).toNat) + 1 - o)) ((sx xs (k + 9)).toNat)).val : Int)).toInt64))), (h, rO od fa ot ah te id rt bs kn), (fa, go cO 4 fr), (ot, go cO 4 er), (ah, ka cJ 13 a), (te, ka cJ 31 (srT (stE F (ro_k (lwd (sx xs (k + 1)) (sx xs (k + 2))).toInt) E (o + 1)) o (srI T (lwd (sx xs (k + 3)) (sx xs (k + 4))) (lwd (sx xs (k + 5)) (sx xs (k + 6))) (lwd (sx xs (k + 7)) (sx xs (k + 8)))) (((sx xs (k + 9)).toNat) + 1 - o))), (id, ka cJ 5 J), (rt, rR fo cn wh pt rs sq on tw), (fo, ka cJ 4 Fo), (wh, ka cJ 5 Y), (pt, ka cJ 5 P), (rs, ka cJ 5 r), (sq, ka cJ 8 S), (on, ka cJ 5 a1), (tw, ka cJ 5 b1), (bs, rB ro le me bn), (ro, go cO 17 ra), (le, ki cI 13 Lx), (me, go cO 13 mb), (g, rM cd od fc hd md lo lv tb rw bm mn nu tu), (fc, k2 cJ 20 5 G), (hd, ka cJ 13 a2), (md, ka cJ 17 P2), (lo, k2 cJ 20 5 E2), (tb, k2 cJ 221 13 M2), (rw, ki cI 13 L2), (bm, k2 cJ 169 13 B2), (nu, ka cJ 31 T2), (tu, k2 cJ 20 5 U2)] ++ gs 4 er cJ 5 (stE F (ro_k (lwd (sx xs (k + 1)) (sx xs (k + 2))).toInt) E (o + 1))) ++ gs 4 fr cJ 5 F) ++ gs 13 mb cJ 13 Bm) ++ gs 17 ra cJ 13 M) H := hP
      have hD : va_D A (((([(ou, kl cJ 1 (vp_updL V 0 ((iz (((srT (stE F (ro_k (lwd (sx xs (k + 1)) (sx xs (k + 2))).toInt) E (o + 1)) o (srI T (lwd (sx xs (k + 3)) (sx xs (k + 4))) (lwd (sx xs (k + 5)) (sx xs (k + 6))) (lwd (sx xs (k + 7)) (sx xs (k + 8)))) (((sx xs (k + 9)).toNat) + 1 - o)) ((sx xs (k + 9)).toNat)).val : Int)).toInt64))), (h, rO od fa ot ah te id rt bs kn), (fa, go cO 4 fr), (ot, go cO 4 er), (ah, ka cJ 13 a), (te, ka cJ 31 (srT (stE F (ro_k (lwd (sx xs (k + 1)) (sx xs (k + 2))).toInt) E (o + 1)) o (srI T (lwd (sx xs (k + 3)) (sx xs (k + 4))) (lwd (sx xs (k + 5)) (sx xs (k + 6))) (lwd (sx xs (k + 7)) (sx xs (k + 8)))) (((sx xs (k + 9)).toNat) + 1 - o))), (id, ka cJ 5 J), (rt, rR fo cn wh pt rs sq on tw), (fo, ka cJ 4 Fo), (wh, ka cJ 5 Y), (pt, ka cJ 5 P), (rs, ka cJ 5 r), (sq, ka cJ 8 S), (on, ka cJ 5 a1), (tw, ka cJ 5 b1), (bs, rB ro le me bn), (ro, go cO 17 ra), (le, ki cI 13 Lx), (me, go cO 13 mb), (g, rM cd od fc hd md lo lv tb rw bm mn nu tu), (fc, k2 cJ 20 5 G), (hd, ka cJ 13 a2), (md, ka cJ 17 P2), (lo, k2 cJ 20 5 E2), (tb, k2 cJ 221 13 M2), (rw, ki cI 13 L2), (bm, k2 cJ 169 13 B2), (nu, ka cJ 31 T2), (tu, k2 cJ 20 5 U2)] ++ gs 4 er cJ 5 (stE F (ro_k (lwd (sx xs (k + 1)) (sx xs (k + 2))).toInt) E (o + 1))) ++ gs 4 fr cJ 5 F) ++ gs 13 mb cJ 13 Bm) ++ gs 17 ra cJ 13 M) := hD
      refine lv_istore (lv' := [(5, .int (iz 0)), (0, .ref b), (1, .ref h), (2, .ref g), (3, .ref ou), (4, .int (iz z4))]) hx hb d_L_law_1124 hl (by decide) rfl (fun ls hl => ?_)
      refine lv_aload_n hx hb d_L_law_1126 rfl (lv_at hl 3 rfl) ?_
      refine lv_aload_n hx hb d_L_law_1127 rfl (lv_at hl 1 rfl) ?_
      refine lv_iload hx hb d_L_law_1128 (lv_at hl 5 rfl) ?_
      refine rz_iconst hx hb d_L_law_1130 ?_
      refine rz_iadd hx hb d_L_law_1131 ?_
      refine rl_sld hx hb hX hbl hbA hS (k + 1) d_L_law_1132 ?_
      refine lv_i2l hx hb d_L_law_1133 rfl ?_
      refine rz_bipush hx hb d_L_law_1134 (by decide) ?_
      refine lv_lshl hx hb d_L_law_1136 rfl ?_
      refine lv_aload_n hx hb d_L_law_1137 rfl (lv_at hl 1 rfl) ?_
      refine lv_iload hx hb d_L_law_1138 (lv_at hl 5 rfl) ?_
      refine rz_iconst hx hb d_L_law_1140 ?_
      refine rz_iadd hx hb d_L_law_1141 ?_
      refine rl_sld hx hb hX hbl hbA hS (k + 2) d_L_law_1142 ?_
      refine lv_i2l hx hb d_L_law_1143 rfl ?_
      refine lv_ldc2 (v := 4294967295) hx hb hown (hts _ kw_712) d_L_law_1144 ?_
      refine lv_land hx hb d_L_law_1147 ?_
      refine lv_lor hx hb d_L_law_1148 ?_
      refine lv_aload_n hx hb d_L_law_1149 rfl (lv_at hl 1 rfl) ?_
      refine lv_iload hx hb d_L_law_1150 (lv_at hl 5 rfl) ?_
      refine rz_iconst hx hb d_L_law_1152 ?_
      refine rz_iadd hx hb d_L_law_1153 ?_
      refine rl_sld hx hb hX hbl hbA hS (k + 3) d_L_law_1154 ?_
      refine lv_i2l hx hb d_L_law_1155 rfl ?_
      refine rz_bipush hx hb d_L_law_1156 (by decide) ?_
      refine lv_lshl hx hb d_L_law_1158 rfl ?_
      refine lv_aload_n hx hb d_L_law_1159 rfl (lv_at hl 1 rfl) ?_
      refine lv_iload hx hb d_L_law_1160 (lv_at hl 5 rfl) ?_
      refine rz_iconst hx hb d_L_law_1162 ?_
      refine rz_iadd hx hb d_L_law_1163 ?_
      refine rl_sld hx hb hX hbl hbA hS (k + 4) d_L_law_1164 ?_
      refine lv_i2l hx hb d_L_law_1165 rfl ?_
      refine lv_ldc2 (v := 4294967295) hx hb hown (hts _ kw_712) d_L_law_1166 ?_
      refine lv_land hx hb d_L_law_1169 ?_
      refine lv_lor hx hb d_L_law_1170 ?_
      refine lv_aload_n hx hb d_L_law_1171 rfl (lv_at hl 1 rfl) ?_
      refine lv_iload hx hb d_L_law_1172 (lv_at hl 5 rfl) ?_
      refine rz_iconst hx hb d_L_law_1174 ?_
      refine rz_iadd hx hb d_L_law_1175 ?_
      refine rl_sld hx hb hX hbl hbA hS (k + 5) d_L_law_1176 ?_
      refine lv_i2l hx hb d_L_law_1177 rfl ?_
      refine rz_bipush hx hb d_L_law_1178 (by decide) ?_
      refine lv_lshl hx hb d_L_law_1180 rfl ?_
      refine lv_aload_n hx hb d_L_law_1181 rfl (lv_at hl 1 rfl) ?_
      refine lv_iload hx hb d_L_law_1182 (lv_at hl 5 rfl) ?_
      refine rz_bipush hx hb d_L_law_1184 (by decide) ?_
      refine rz_iadd hx hb d_L_law_1186 ?_
      refine rl_sld hx hb hX hbl hbA hS (k + 6) d_L_law_1187 ?_
      refine lv_i2l hx hb d_L_law_1188 rfl ?_
      refine lv_ldc2 (v := 4294967295) hx hb hown (hts _ kw_712) d_L_law_1189 ?_
      refine lv_land hx hb d_L_law_1192 ?_
      refine lv_lor hx hb d_L_law_1193 ?_
      refine lv_aload_n hx hb d_L_law_1194 rfl (lv_at hl 1 rfl) ?_
      refine lv_iload hx hb d_L_law_1195 (lv_at hl 5 rfl) ?_
      refine rz_bipush hx hb d_L_law_1197 (by decide) ?_
      refine rz_iadd hx hb d_L_law_1199 ?_
      refine rl_sld hx hb hX hbl hbA hS (k + 7) d_L_law_1200 ?_
      refine lv_i2l hx hb d_L_law_1201 rfl ?_
      refine rz_bipush hx hb d_L_law_1202 (by decide) ?_
      refine lv_lshl hx hb d_L_law_1204 rfl ?_
      refine lv_aload_n hx hb d_L_law_1205 rfl (lv_at hl 1 rfl) ?_
      refine lv_iload hx hb d_L_law_1206 (lv_at hl 5 rfl) ?_
      refine rz_bipush hx hb d_L_law_1208 (by decide) ?_
      refine rz_iadd hx hb d_L_law_1210 ?_
      refine rl_sld hx hb hX hbl hbA hS (k + 8) d_L_law_1211 ?_
      refine lv_i2l hx hb d_L_law_1212 rfl ?_
      refine lv_ldc2 (v := 4294967295) hx hb hown (hts _ kw_712) d_L_law_1213 ?_
      refine lv_land hx hb d_L_law_1216 ?_
      refine lv_lor hx hb d_L_law_1217 ?_
      refine lv_aload_n hx hb d_L_law_1218 rfl (lv_at hl 1 rfl) ?_
      refine lv_iload hx hb d_L_law_1219 (lv_at hl 5 rfl) ?_
      refine rz_bipush hx hb d_L_law_1221 (by decide) ?_
      refine rz_iadd hx hb d_L_law_1223 ?_
      refine rl_sld hx hb hX hbl hbA hS (k + 9) d_L_law_1224 ?_
      refine rc_calli (va_runV (As := [.long (lwd (sx xs (k + 1)) (sx xs (k + 2))), .long (lwd (sx xs (k + 3)) (sx xs (k + 4))), .long (lwd (sx xs (k + 5)) (sx xs (k + 6))), .long (lwd (sx xs (k + 7)) (sx xs (k + 8))), .int (iz (sx xs (k + 9)))]) (rest := []) ⟨hx, hb, hml, hown, hts⟩ (m_M_series l D cJ cI g cd od fc hd md lo lv tb rw bm mn nu tu G E2 T2 (lwd (sx xs (k + 1)) (sx xs (k + 2))) (lwd (sx xs (k + 3)) (sx xs (k + 4))) (lwd (sx xs (k + 5)) (sx xs (k + 6))) (lwd (sx xs (k + 7)) (sx xs (k + 8))) (sx xs (k + 9)) o hod ho3 (by omega) (by omega)) (cwV 5 hts (kb_gi (kb_c kw_707 (kb_c kw_708 (kb_c kw_709 (kb_c kw_5 (kb_c kw_710 kb_all)))))) rfl rfl rfl (by decide +kernel) ⟨Nat.le_of_ble_eq_true rfl, Nat.le_of_ble_eq_true rfl⟩) ⟨rc_blind, va_recv hK hP (ci := 3) (q0 := 19) rfl rfl, rc_pre hP hD hK hN [19, 20, 23, 27] rfl rfl [0, 2] rfl⟩ rfl rfl hl.1 rfl (lv_room (Nat.le_of_ble_eq_true rfl)) d_L_law_1225 ⟨hfc, hfs⟩) hP hD hS [19, 20, 23, 27] rfl (fun _ => rfl) (fun r3 u4 H locs hw4 hP hD hS => ?_)
      have h9 : u4 = (0, (mvF (ro_k (lwd (sx xs (k + 1)) (sx xs (k + 2))).toInt) (c2 G E2 20) 4), (msT (mvF (ro_k (lwd (sx xs (k + 1)) (sx xs (k + 2))).toInt) (c2 G E2 20) 4) o (srI T2 (lwd (sx xs (k + 3)) (sx xs (k + 4))) (lwd (sx xs (k + 5)) (sx xs (k + 6))) (lwd (sx xs (k + 7)) (sx xs (k + 8)))) (31 - o))) ∧ r3 = iz (((msT (mvF (ro_k (lwd (sx xs (k + 1)) (sx xs (k + 2))).toInt) (c2 G E2 20) 4) o (srI T2 (lwd (sx xs (k + 3)) (sx xs (k + 4))) (lwd (sx xs (k + 5)) (sx xs (k + 6))) (lwd (sx xs (k + 7)) (sx xs (k + 8)))) (31 - o)) ((sx xs (k + 9)).toNat)).val : Int) := by
        rcases hw4 with ⟨h6, h7, h8⟩ | ⟨h5, h6, h7, h8⟩ | ⟨h5, h6, h7, h8⟩
        · exact absurd ⟨by omega, by omega⟩ h6
        · exact absurd ((lw_ser0 hI ho3 (lwd (sx xs (k + 1)) (sx xs (k + 2))) E2).trans h6) hn
        · exact ⟨h7, h8⟩
      obtain ⟨rfl, rfl⟩ := h9
      have hP : va_P D vC (((([(ou, kl cJ 1 (vp_updL V 0 ((iz (((srT (stE F (ro_k (lwd (sx xs (k + 1)) (sx xs (k + 2))).toInt) E (o + 1)) o (srI T (lwd (sx xs (k + 3)) (sx xs (k + 4))) (lwd (sx xs (k + 5)) (sx xs (k + 6))) (lwd (sx xs (k + 7)) (sx xs (k + 8)))) (((sx xs (k + 9)).toNat) + 1 - o)) ((sx xs (k + 9)).toNat)).val : Int)).toInt64))), (h, rO od fa ot ah te id rt bs kn), (fa, go cO 4 fr), (ot, go cO 4 er), (ah, ka cJ 13 a), (te, ka cJ 31 (srT (stE F (ro_k (lwd (sx xs (k + 1)) (sx xs (k + 2))).toInt) E (o + 1)) o (srI T (lwd (sx xs (k + 3)) (sx xs (k + 4))) (lwd (sx xs (k + 5)) (sx xs (k + 6))) (lwd (sx xs (k + 7)) (sx xs (k + 8)))) (((sx xs (k + 9)).toNat) + 1 - o))), (id, ka cJ 5 J), (rt, rR fo cn wh pt rs sq on tw), (fo, ka cJ 4 Fo), (wh, ka cJ 5 Y), (pt, ka cJ 5 P), (rs, ka cJ 5 r), (sq, ka cJ 8 S), (on, ka cJ 5 a1), (tw, ka cJ 5 b1), (bs, rB ro le me bn), (ro, go cO 17 ra), (le, ki cI 13 Lx), (me, go cO 13 mb), (g, rM 0 od fc hd md lo lv tb rw bm mn nu tu), (fc, k2 cJ 20 5 G), (hd, ka cJ 13 a2), (md, ka cJ 17 P2), (lo, k2 cJ 20 5 (mvF (ro_k (lwd (sx xs (k + 1)) (sx xs (k + 2))).toInt) (c2 G E2 20) 4)), (tb, k2 cJ 221 13 M2), (rw, ki cI 13 L2), (bm, k2 cJ 169 13 B2), (nu, ka cJ 31 (msT (mvF (ro_k (lwd (sx xs (k + 1)) (sx xs (k + 2))).toInt) (c2 G E2 20) 4) o (srI T2 (lwd (sx xs (k + 3)) (sx xs (k + 4))) (lwd (sx xs (k + 5)) (sx xs (k + 6))) (lwd (sx xs (k + 7)) (sx xs (k + 8)))) (31 - o))), (tu, k2 cJ 20 5 U2)] ++ gs 4 er cJ 5 (stE F (ro_k (lwd (sx xs (k + 1)) (sx xs (k + 2))).toInt) E (o + 1))) ++ gs 4 fr cJ 5 F) ++ gs 13 mb cJ 13 Bm) ++ gs 17 ra cJ 13 M) H := hP
      have hD : va_D A (((([(ou, kl cJ 1 (vp_updL V 0 ((iz (((srT (stE F (ro_k (lwd (sx xs (k + 1)) (sx xs (k + 2))).toInt) E (o + 1)) o (srI T (lwd (sx xs (k + 3)) (sx xs (k + 4))) (lwd (sx xs (k + 5)) (sx xs (k + 6))) (lwd (sx xs (k + 7)) (sx xs (k + 8)))) (((sx xs (k + 9)).toNat) + 1 - o)) ((sx xs (k + 9)).toNat)).val : Int)).toInt64))), (h, rO od fa ot ah te id rt bs kn), (fa, go cO 4 fr), (ot, go cO 4 er), (ah, ka cJ 13 a), (te, ka cJ 31 (srT (stE F (ro_k (lwd (sx xs (k + 1)) (sx xs (k + 2))).toInt) E (o + 1)) o (srI T (lwd (sx xs (k + 3)) (sx xs (k + 4))) (lwd (sx xs (k + 5)) (sx xs (k + 6))) (lwd (sx xs (k + 7)) (sx xs (k + 8)))) (((sx xs (k + 9)).toNat) + 1 - o))), (id, ka cJ 5 J), (rt, rR fo cn wh pt rs sq on tw), (fo, ka cJ 4 Fo), (wh, ka cJ 5 Y), (pt, ka cJ 5 P), (rs, ka cJ 5 r), (sq, ka cJ 8 S), (on, ka cJ 5 a1), (tw, ka cJ 5 b1), (bs, rB ro le me bn), (ro, go cO 17 ra), (le, ki cI 13 Lx), (me, go cO 13 mb), (g, rM 0 od fc hd md lo lv tb rw bm mn nu tu), (fc, k2 cJ 20 5 G), (hd, ka cJ 13 a2), (md, ka cJ 17 P2), (lo, k2 cJ 20 5 (mvF (ro_k (lwd (sx xs (k + 1)) (sx xs (k + 2))).toInt) (c2 G E2 20) 4)), (tb, k2 cJ 221 13 M2), (rw, ki cI 13 L2), (bm, k2 cJ 169 13 B2), (nu, ka cJ 31 (msT (mvF (ro_k (lwd (sx xs (k + 1)) (sx xs (k + 2))).toInt) (c2 G E2 20) 4) o (srI T2 (lwd (sx xs (k + 3)) (sx xs (k + 4))) (lwd (sx xs (k + 5)) (sx xs (k + 6))) (lwd (sx xs (k + 7)) (sx xs (k + 8)))) (31 - o))), (tu, k2 cJ 20 5 U2)] ++ gs 4 er cJ 5 (stE F (ro_k (lwd (sx xs (k + 1)) (sx xs (k + 2))).toInt) E (o + 1))) ++ gs 4 fr cJ 5 F) ++ gs 13 mb cJ 13 Bm) ++ gs 17 ra cJ 13 M) := hD
      refine lv_istore (lv' := [(6, .int (iz (((msT (mvF (ro_k (lwd (sx xs (k + 1)) (sx xs (k + 2))).toInt) (c2 G E2 20) 4) o (srI T2 (lwd (sx xs (k + 3)) (sx xs (k + 4))) (lwd (sx xs (k + 5)) (sx xs (k + 6))) (lwd (sx xs (k + 7)) (sx xs (k + 8)))) (31 - o)) ((sx xs (k + 9)).toNat)).val : Int))), (5, .int (iz 0)), (0, .ref b), (1, .ref h), (2, .ref g), (3, .ref ou), (4, .int (iz z4))]) hx hb d_L_law_1228 hl (by decide) rfl (fun ls hl => ?_)
      refine lv_aload_n hx hb d_L_law_1230 rfl (lv_at hl 4 rfl) ?_
      refine rc_calli (va_runV (As := []) (rest := []) ⟨hx, hb, hml, hown, hts⟩ (m_M_thrown l D g 0 od fc hd md lo lv tb rw bm mn nu tu) (cwV 0 hts (kb_gi (kb_c kw_570 (kb_c kw_571 (kb_c kw_572 (kb_c kw_5 (kb_c kw_573 kb_all)))))) rfl rfl rfl (by decide +kernel) ⟨Nat.le_of_ble_eq_true rfl, Nat.le_of_ble_eq_true rfl⟩) ⟨rc_blind, va_recv hK hP (ci := 3) (q0 := 19) rfl rfl, rc_pre hP hD hK hN [19] rfl rfl [] rfl⟩ rfl rfl hl.1 rfl (lv_room (Nat.le_of_ble_eq_true rfl)) d_L_law_1231 ⟨hfc, hfs⟩) hP hD hS [19] rfl (fun _ => rfl) (fun r5 u6 H locs hw6 hP hD hS => ?_)
      subst hw6
      have hP : va_P D vC (((([(ou, kl cJ 1 (vp_updL V 0 ((iz (((srT (stE F (ro_k (lwd (sx xs (k + 1)) (sx xs (k + 2))).toInt) E (o + 1)) o (srI T (lwd (sx xs (k + 3)) (sx xs (k + 4))) (lwd (sx xs (k + 5)) (sx xs (k + 6))) (lwd (sx xs (k + 7)) (sx xs (k + 8)))) (((sx xs (k + 9)).toNat) + 1 - o)) ((sx xs (k + 9)).toNat)).val : Int)).toInt64))), (h, rO od fa ot ah te id rt bs kn), (fa, go cO 4 fr), (ot, go cO 4 er), (ah, ka cJ 13 a), (te, ka cJ 31 (srT (stE F (ro_k (lwd (sx xs (k + 1)) (sx xs (k + 2))).toInt) E (o + 1)) o (srI T (lwd (sx xs (k + 3)) (sx xs (k + 4))) (lwd (sx xs (k + 5)) (sx xs (k + 6))) (lwd (sx xs (k + 7)) (sx xs (k + 8)))) (((sx xs (k + 9)).toNat) + 1 - o))), (id, ka cJ 5 J), (rt, rR fo cn wh pt rs sq on tw), (fo, ka cJ 4 Fo), (wh, ka cJ 5 Y), (pt, ka cJ 5 P), (rs, ka cJ 5 r), (sq, ka cJ 8 S), (on, ka cJ 5 a1), (tw, ka cJ 5 b1), (bs, rB ro le me bn), (ro, go cO 17 ra), (le, ki cI 13 Lx), (me, go cO 13 mb), (g, rM 0 od fc hd md lo lv tb rw bm mn nu tu), (fc, k2 cJ 20 5 G), (hd, ka cJ 13 a2), (md, ka cJ 17 P2), (lo, k2 cJ 20 5 (mvF (ro_k (lwd (sx xs (k + 1)) (sx xs (k + 2))).toInt) (c2 G E2 20) 4)), (tb, k2 cJ 221 13 M2), (rw, ki cI 13 L2), (bm, k2 cJ 169 13 B2), (nu, ka cJ 31 (msT (mvF (ro_k (lwd (sx xs (k + 1)) (sx xs (k + 2))).toInt) (c2 G E2 20) 4) o (srI T2 (lwd (sx xs (k + 3)) (sx xs (k + 4))) (lwd (sx xs (k + 5)) (sx xs (k + 6))) (lwd (sx xs (k + 7)) (sx xs (k + 8)))) (31 - o))), (tu, k2 cJ 20 5 U2)] ++ gs 4 er cJ 5 (stE F (ro_k (lwd (sx xs (k + 1)) (sx xs (k + 2))).toInt) E (o + 1))) ++ gs 4 fr cJ 5 F) ++ gs 13 mb cJ 13 Bm) ++ gs 17 ra cJ 13 M) H := hP
      have hD : va_D A (((([(ou, kl cJ 1 (vp_updL V 0 ((iz (((srT (stE F (ro_k (lwd (sx xs (k + 1)) (sx xs (k + 2))).toInt) E (o + 1)) o (srI T (lwd (sx xs (k + 3)) (sx xs (k + 4))) (lwd (sx xs (k + 5)) (sx xs (k + 6))) (lwd (sx xs (k + 7)) (sx xs (k + 8)))) (((sx xs (k + 9)).toNat) + 1 - o)) ((sx xs (k + 9)).toNat)).val : Int)).toInt64))), (h, rO od fa ot ah te id rt bs kn), (fa, go cO 4 fr), (ot, go cO 4 er), (ah, ka cJ 13 a), (te, ka cJ 31 (srT (stE F (ro_k (lwd (sx xs (k + 1)) (sx xs (k + 2))).toInt) E (o + 1)) o (srI T (lwd (sx xs (k + 3)) (sx xs (k + 4))) (lwd (sx xs (k + 5)) (sx xs (k + 6))) (lwd (sx xs (k + 7)) (sx xs (k + 8)))) (((sx xs (k + 9)).toNat) + 1 - o))), (id, ka cJ 5 J), (rt, rR fo cn wh pt rs sq on tw), (fo, ka cJ 4 Fo), (wh, ka cJ 5 Y), (pt, ka cJ 5 P), (rs, ka cJ 5 r), (sq, ka cJ 8 S), (on, ka cJ 5 a1), (tw, ka cJ 5 b1), (bs, rB ro le me bn), (ro, go cO 17 ra), (le, ki cI 13 Lx), (me, go cO 13 mb), (g, rM 0 od fc hd md lo lv tb rw bm mn nu tu), (fc, k2 cJ 20 5 G), (hd, ka cJ 13 a2), (md, ka cJ 17 P2), (lo, k2 cJ 20 5 (mvF (ro_k (lwd (sx xs (k + 1)) (sx xs (k + 2))).toInt) (c2 G E2 20) 4)), (tb, k2 cJ 221 13 M2), (rw, ki cI 13 L2), (bm, k2 cJ 169 13 B2), (nu, ka cJ 31 (msT (mvF (ro_k (lwd (sx xs (k + 1)) (sx xs (k + 2))).toInt) (c2 G E2 20) 4) o (srI T2 (lwd (sx xs (k + 3)) (sx xs (k + 4))) (lwd (sx xs (k + 5)) (sx xs (k + 6))) (lwd (sx xs (k + 7)) (sx xs (k + 8)))) (31 - o))), (tu, k2 cJ 20 5 U2)] ++ gs 4 er cJ 5 (stE F (ro_k (lwd (sx xs (k + 1)) (sx xs (k + 2))).toInt) E (o + 1))) ++ gs 4 fr cJ 5 F) ++ gs 13 mb cJ 13 Bm) ++ gs 17 ra cJ 13 M) := hD
      refine lv_iload hx hb d_L_law_1234 (lv_at hl 1 rfl) ?_
      refine rl_icmp_eq (tgt := 1241) hx hb d_L_law_1236 (by decide) rfl ?_
      refine lv_iload hx hb d_L_law_1241 (lv_at hl 1 rfl) ?_
      refine rz_if_ne (tgt := 1258) hx hb d_L_law_1243 (by decide) (fun hc => absurd rfl hc) (fun _ => ?_)
      refine lv_aload_n hx hb d_L_law_1246 rfl (lv_at hl 5 rfl) ?_
      refine rz_iconst hx hb d_L_law_1247 ?_
      refine rl_ld hx hb hK hP 0 0 rfl rfl 0 d_L_law_1248 ?_
      rw [vp_self]
      refine lv_iload hx hb d_L_law_1249 (lv_at hl 0 rfl) ?_
      refine lv_i2l hx hb d_L_law_1251 rfl ?_
      refine rl_lcmp_eq (tgt := 1258) hx hb d_L_law_1252 d_L_law_1253 (by decide) (by rw [lw_serv hI ho3 (lwd (sx xs (k + 1)) (sx xs (k + 2))) (lwd (sx xs (k + 3)) (sx xs (k + 4))) (lwd (sx xs (k + 5)) (sx xs (k + 6))) (lwd (sx xs (k + 7)) (sx xs (k + 8))) E2 T T2 (by omega)]) ?_
      refine lv_goto (tgt := 1338) hx hb d_L_law_1258 (by decide) ?_
      refine W.widen (k := kc + 1) (n := ks + 6) (by omega) (by omega) ?_
      exact hend (vp_updL V 0 ((iz (((srT (stE F (ro_k (lwd (sx xs (k + 1)) (sx xs (k + 2))).toInt) E (o + 1)) o (srI T (lwd (sx xs (k + 3)) (sx xs (k + 4))) (lwd (sx xs (k + 5)) (sx xs (k + 6))) (lwd (sx xs (k + 7)) (sx xs (k + 8)))) (((sx xs (k + 9)).toNat) + 1 - o)) ((sx xs (k + 9)).toNat)).val : Int)).toInt64)) kn a (srT (stE F (ro_k (lwd (sx xs (k + 1)) (sx xs (k + 2))).toInt) E (o + 1)) o (srI T (lwd (sx xs (k + 3)) (sx xs (k + 4))) (lwd (sx xs (k + 5)) (sx xs (k + 6))) (lwd (sx xs (k + 7)) (sx xs (k + 8)))) (((sx xs (k + 9)).toNat) + 1 - o)) J cn Fo Y P r S a1 b1 bn Lx (stE F (ro_k (lwd (sx xs (k + 1)) (sx xs (k + 2))).toInt) E (o + 1)) F Bm M 0 lv mn G a2 P2 (mvF (ro_k (lwd (sx xs (k + 1)) (sx xs (k + 2))).toInt) (c2 G E2 20) 4) M2 L2 B2 (msT (mvF (ro_k (lwd (sx xs (k + 1)) (sx xs (k + 2))).toInt) (c2 G E2 20) 4) o (srI T2 (lwd (sx xs (k + 3)) (sx xs (k + 4))) (lwd (sx xs (k + 5)) (sx xs (k + 6))) (lwd (sx xs (k + 7)) (sx xs (k + 8)))) (31 - o)) U2 H locs ls ⟨lw_E hI (lw_ser hI ho3 (lwd (sx xs (k + 1)) (sx xs (k + 2))) E2).2, hJ⟩ hP hD hS (lv_sub hl [2, 3, 4, 5, 6] rfl)
    · have hn := Decidable.not_not.mp hn
      refine lv_aload_n hx hb d_L_law_1021 rfl (lv_at hl 1 rfl) ?_
      refine lv_aload_n hx hb d_L_law_1022 rfl (lv_at hl 0 rfl) ?_
      refine lv_iload hx hb d_L_law_1023 (lv_at hl 4 rfl) ?_
      refine rz_iconst hx hb d_L_law_1025 ?_
      refine rz_iadd hx hb d_L_law_1026 ?_
      refine rl_sld hx hb hX hbl hbA hS (k + 1) d_L_law_1027 ?_
      refine lv_i2l hx hb d_L_law_1028 rfl ?_
      refine rz_bipush hx hb d_L_law_1029 (by decide) ?_
      refine lv_lshl hx hb d_L_law_1031 rfl ?_
      refine lv_aload_n hx hb d_L_law_1032 rfl (lv_at hl 0 rfl) ?_
      refine lv_iload hx hb d_L_law_1033 (lv_at hl 4 rfl) ?_
      refine rz_iconst hx hb d_L_law_1035 ?_
      refine rz_iadd hx hb d_L_law_1036 ?_
      refine rl_sld hx hb hX hbl hbA hS (k + 2) d_L_law_1037 ?_
      refine lv_i2l hx hb d_L_law_1038 rfl ?_
      refine lv_ldc2 (v := 4294967295) hx hb hown (hts _ kw_712) d_L_law_1039 ?_
      refine lv_land hx hb d_L_law_1042 ?_
      refine lv_lor hx hb d_L_law_1043 ?_
      refine lv_aload_n hx hb d_L_law_1044 rfl (lv_at hl 0 rfl) ?_
      refine lv_iload hx hb d_L_law_1045 (lv_at hl 4 rfl) ?_
      refine rz_iconst hx hb d_L_law_1047 ?_
      refine rz_iadd hx hb d_L_law_1048 ?_
      refine rl_sld hx hb hX hbl hbA hS (k + 3) d_L_law_1049 ?_
      refine lv_i2l hx hb d_L_law_1050 rfl ?_
      refine rz_bipush hx hb d_L_law_1051 (by decide) ?_
      refine lv_lshl hx hb d_L_law_1053 rfl ?_
      refine lv_aload_n hx hb d_L_law_1054 rfl (lv_at hl 0 rfl) ?_
      refine lv_iload hx hb d_L_law_1055 (lv_at hl 4 rfl) ?_
      refine rz_iconst hx hb d_L_law_1057 ?_
      refine rz_iadd hx hb d_L_law_1058 ?_
      refine rl_sld hx hb hX hbl hbA hS (k + 4) d_L_law_1059 ?_
      refine lv_i2l hx hb d_L_law_1060 rfl ?_
      refine lv_ldc2 (v := 4294967295) hx hb hown (hts _ kw_712) d_L_law_1061 ?_
      refine lv_land hx hb d_L_law_1064 ?_
      refine lv_lor hx hb d_L_law_1065 ?_
      refine lv_aload_n hx hb d_L_law_1066 rfl (lv_at hl 0 rfl) ?_
      refine lv_iload hx hb d_L_law_1067 (lv_at hl 4 rfl) ?_
      refine rz_iconst hx hb d_L_law_1069 ?_
      refine rz_iadd hx hb d_L_law_1070 ?_
      refine rl_sld hx hb hX hbl hbA hS (k + 5) d_L_law_1071 ?_
      refine lv_i2l hx hb d_L_law_1072 rfl ?_
      refine rz_bipush hx hb d_L_law_1073 (by decide) ?_
      refine lv_lshl hx hb d_L_law_1075 rfl ?_
      refine lv_aload_n hx hb d_L_law_1076 rfl (lv_at hl 0 rfl) ?_
      refine lv_iload hx hb d_L_law_1077 (lv_at hl 4 rfl) ?_
      refine rz_bipush hx hb d_L_law_1079 (by decide) ?_
      refine rz_iadd hx hb d_L_law_1081 ?_
      refine rl_sld hx hb hX hbl hbA hS (k + 6) d_L_law_1082 ?_
      refine lv_i2l hx hb d_L_law_1083 rfl ?_
      refine lv_ldc2 (v := 4294967295) hx hb hown (hts _ kw_712) d_L_law_1084 ?_
      refine lv_land hx hb d_L_law_1087 ?_
      refine lv_lor hx hb d_L_law_1088 ?_
      refine lv_aload_n hx hb d_L_law_1089 rfl (lv_at hl 0 rfl) ?_
      refine lv_iload hx hb d_L_law_1090 (lv_at hl 4 rfl) ?_
      refine rz_bipush hx hb d_L_law_1092 (by decide) ?_
      refine rz_iadd hx hb d_L_law_1094 ?_
      refine rl_sld hx hb hX hbl hbA hS (k + 7) d_L_law_1095 ?_
      refine lv_i2l hx hb d_L_law_1096 rfl ?_
      refine rz_bipush hx hb d_L_law_1097 (by decide) ?_
      refine lv_lshl hx hb d_L_law_1099 rfl ?_
      refine lv_aload_n hx hb d_L_law_1100 rfl (lv_at hl 0 rfl) ?_
      refine lv_iload hx hb d_L_law_1101 (lv_at hl 4 rfl) ?_
      refine rz_bipush hx hb d_L_law_1103 (by decide) ?_
      refine rz_iadd hx hb d_L_law_1105 ?_
      refine rl_sld hx hb hX hbl hbA hS (k + 8) d_L_law_1106 ?_
      refine lv_i2l hx hb d_L_law_1107 rfl ?_
      refine lv_ldc2 (v := 4294967295) hx hb hown (hts _ kw_712) d_L_law_1108 ?_
      refine lv_land hx hb d_L_law_1111 ?_
      refine lv_lor hx hb d_L_law_1112 ?_
      refine lv_aload_n hx hb d_L_law_1113 rfl (lv_at hl 0 rfl) ?_
      refine lv_iload hx hb d_L_law_1114 (lv_at hl 4 rfl) ?_
      refine rz_bipush hx hb d_L_law_1116 (by decide) ?_
      refine rz_iadd hx hb d_L_law_1118 ?_
      refine rl_sld hx hb hX hbl hbA hS (k + 9) d_L_law_1119 ?_
      refine lv_aload_n hx hb d_L_law_1120 rfl (lv_at hl 3 rfl) ?_
      refine rsM_calli (vx_runSW (hh := [((0 : Nat), (17 : Nat), (20 : Nat), (13 : Nat)), ((0 : Nat), (17 : Nat), (24 : Nat), (56 : Nat))]) (As := [.ref h, .long (lwd (sx xs (k + 1)) (sx xs (k + 2))), .long (lwd (sx xs (k + 3)) (sx xs (k + 4))), .long (lwd (sx xs (k + 5)) (sx xs (k + 6))), .long (lwd (sx xs (k + 7)) (sx xs (k + 8))), .int (iz (sx xs (k + 9))), .ref ou]) (rest := []) ⟨hx, hb, hml, hown, hts⟩ (h_L_series_p_t_S l D hst sa cJ cO h fa ot ah te id rt bs od kn ou V fr er E F T (lwd (sx xs (k + 1)) (sx xs (k + 2))) (lwd (sx xs (k + 3)) (sx xs (k + 4))) (lwd (sx xs (k + 5)) (sx xs (k + 6))) (lwd (sx xs (k + 7)) (sx xs (k + 8))) (sx xs (k + 9)) o hod ho3 (by omega) (by omega) hn) (vx_cwSW 7 hts (kb_gi (kb_c kw_494 (kb_c kw_495 (kb_c kw_0 (kb_c kw_496 kb_all))))) rfl rfl rfl (by decide +kernel) ⟨Nat.le_of_ble_eq_true rfl, Nat.le_of_ble_eq_true rfl⟩) ⟨rx_blind, fun U h8 h9 => ⟨(rs_pre (rs_a_2_2 hP) (rs_aD_2_2 hD) hK hN [1, 2, 3, 5, 0] rfl rfl [0, 1] rfl) U h8 h9, hE.go hS (rs_in (rs_aD_2_2 hD) (is := [1, 2, 3, 5, 0]) rfl) h8 h9⟩⟩ rfl rfl hl.1 rfl (lv_room (Nat.le_of_ble_eq_true rfl)) d_L_law_1121 ⟨hfc1, hfs1⟩) (rs_a_2_2 hP) (rs_aD_2_2 hD) hS [1, 2, 3, 5, 0] rfl (fun _ => rfl) (fun _ => gs_adr2 (gs_adr _ _ _ _ _ _) (gs_adr _ _ _ _ _ _)) (fun r7 u8 H locs hw8 hP hD hS => ?_)
      have hP := rs_b_2_2 hP
      have hD := rs_bD_2_2 hD
      subst hw8
      have hP : va_P D vC (((([(ou, kl cJ 1 V), (h, rO od fa ot ah te id rt bs kn), (fa, go cO 4 fr), (ot, go cO 4 er), (ah, ka cJ 13 a), (te, ka cJ 31 T), (id, ka cJ 5 J), (rt, rR fo cn wh pt rs sq on tw), (fo, ka cJ 4 Fo), (wh, ka cJ 5 Y), (pt, ka cJ 5 P), (rs, ka cJ 5 r), (sq, ka cJ 8 S), (on, ka cJ 5 a1), (tw, ka cJ 5 b1), (bs, rB ro le me bn), (ro, go cO 17 ra), (le, ki cI 13 Lx), (me, go cO 13 mb), (g, rM cd od fc hd md lo lv tb rw bm mn nu tu), (fc, k2 cJ 20 5 G), (hd, ka cJ 13 a2), (md, ka cJ 17 P2), (lo, k2 cJ 20 5 E2), (tb, k2 cJ 221 13 M2), (rw, ki cI 13 L2), (bm, k2 cJ 169 13 B2), (nu, ka cJ 31 T2), (tu, k2 cJ 20 5 U2)] ++ gs 4 er cJ 5 (stE F (ro_k (lwd (sx xs (k + 1)) (sx xs (k + 2))).toInt) E (o + 1))) ++ gs 4 fr cJ 5 F) ++ gs 13 mb cJ 13 Bm) ++ gs 17 ra cJ 13 M) H := hP
      have hD : va_D A (((([(ou, kl cJ 1 V), (h, rO od fa ot ah te id rt bs kn), (fa, go cO 4 fr), (ot, go cO 4 er), (ah, ka cJ 13 a), (te, ka cJ 31 T), (id, ka cJ 5 J), (rt, rR fo cn wh pt rs sq on tw), (fo, ka cJ 4 Fo), (wh, ka cJ 5 Y), (pt, ka cJ 5 P), (rs, ka cJ 5 r), (sq, ka cJ 8 S), (on, ka cJ 5 a1), (tw, ka cJ 5 b1), (bs, rB ro le me bn), (ro, go cO 17 ra), (le, ki cI 13 Lx), (me, go cO 13 mb), (g, rM cd od fc hd md lo lv tb rw bm mn nu tu), (fc, k2 cJ 20 5 G), (hd, ka cJ 13 a2), (md, ka cJ 17 P2), (lo, k2 cJ 20 5 E2), (tb, k2 cJ 221 13 M2), (rw, ki cI 13 L2), (bm, k2 cJ 169 13 B2), (nu, ka cJ 31 T2), (tu, k2 cJ 20 5 U2)] ++ gs 4 er cJ 5 (stE F (ro_k (lwd (sx xs (k + 1)) (sx xs (k + 2))).toInt) E (o + 1))) ++ gs 4 fr cJ 5 F) ++ gs 13 mb cJ 13 Bm) ++ gs 17 ra cJ 13 M) := hD
      refine lv_istore (lv' := [(5, .int (iz 2)), (0, .ref b), (1, .ref h), (2, .ref g), (3, .ref ou), (4, .int (iz z4))]) hx hb d_L_law_1124 hl (by decide) rfl (fun ls hl => ?_)
      refine lv_aload_n hx hb d_L_law_1126 rfl (lv_at hl 3 rfl) ?_
      refine lv_aload_n hx hb d_L_law_1127 rfl (lv_at hl 1 rfl) ?_
      refine lv_iload hx hb d_L_law_1128 (lv_at hl 5 rfl) ?_
      refine rz_iconst hx hb d_L_law_1130 ?_
      refine rz_iadd hx hb d_L_law_1131 ?_
      refine rl_sld hx hb hX hbl hbA hS (k + 1) d_L_law_1132 ?_
      refine lv_i2l hx hb d_L_law_1133 rfl ?_
      refine rz_bipush hx hb d_L_law_1134 (by decide) ?_
      refine lv_lshl hx hb d_L_law_1136 rfl ?_
      refine lv_aload_n hx hb d_L_law_1137 rfl (lv_at hl 1 rfl) ?_
      refine lv_iload hx hb d_L_law_1138 (lv_at hl 5 rfl) ?_
      refine rz_iconst hx hb d_L_law_1140 ?_
      refine rz_iadd hx hb d_L_law_1141 ?_
      refine rl_sld hx hb hX hbl hbA hS (k + 2) d_L_law_1142 ?_
      refine lv_i2l hx hb d_L_law_1143 rfl ?_
      refine lv_ldc2 (v := 4294967295) hx hb hown (hts _ kw_712) d_L_law_1144 ?_
      refine lv_land hx hb d_L_law_1147 ?_
      refine lv_lor hx hb d_L_law_1148 ?_
      refine lv_aload_n hx hb d_L_law_1149 rfl (lv_at hl 1 rfl) ?_
      refine lv_iload hx hb d_L_law_1150 (lv_at hl 5 rfl) ?_
      refine rz_iconst hx hb d_L_law_1152 ?_
      refine rz_iadd hx hb d_L_law_1153 ?_
      refine rl_sld hx hb hX hbl hbA hS (k + 3) d_L_law_1154 ?_
      refine lv_i2l hx hb d_L_law_1155 rfl ?_
      refine rz_bipush hx hb d_L_law_1156 (by decide) ?_
      refine lv_lshl hx hb d_L_law_1158 rfl ?_
      refine lv_aload_n hx hb d_L_law_1159 rfl (lv_at hl 1 rfl) ?_
      refine lv_iload hx hb d_L_law_1160 (lv_at hl 5 rfl) ?_
      refine rz_iconst hx hb d_L_law_1162 ?_
      refine rz_iadd hx hb d_L_law_1163 ?_
      refine rl_sld hx hb hX hbl hbA hS (k + 4) d_L_law_1164 ?_
      refine lv_i2l hx hb d_L_law_1165 rfl ?_
      refine lv_ldc2 (v := 4294967295) hx hb hown (hts _ kw_712) d_L_law_1166 ?_
      refine lv_land hx hb d_L_law_1169 ?_
      refine lv_lor hx hb d_L_law_1170 ?_
      refine lv_aload_n hx hb d_L_law_1171 rfl (lv_at hl 1 rfl) ?_
      refine lv_iload hx hb d_L_law_1172 (lv_at hl 5 rfl) ?_
      refine rz_iconst hx hb d_L_law_1174 ?_
      refine rz_iadd hx hb d_L_law_1175 ?_
      refine rl_sld hx hb hX hbl hbA hS (k + 5) d_L_law_1176 ?_
      refine lv_i2l hx hb d_L_law_1177 rfl ?_
      refine rz_bipush hx hb d_L_law_1178 (by decide) ?_
      refine lv_lshl hx hb d_L_law_1180 rfl ?_
      refine lv_aload_n hx hb d_L_law_1181 rfl (lv_at hl 1 rfl) ?_
      refine lv_iload hx hb d_L_law_1182 (lv_at hl 5 rfl) ?_
      refine rz_bipush hx hb d_L_law_1184 (by decide) ?_
      refine rz_iadd hx hb d_L_law_1186 ?_
      refine rl_sld hx hb hX hbl hbA hS (k + 6) d_L_law_1187 ?_
      refine lv_i2l hx hb d_L_law_1188 rfl ?_
      refine lv_ldc2 (v := 4294967295) hx hb hown (hts _ kw_712) d_L_law_1189 ?_
      refine lv_land hx hb d_L_law_1192 ?_
      refine lv_lor hx hb d_L_law_1193 ?_
      refine lv_aload_n hx hb d_L_law_1194 rfl (lv_at hl 1 rfl) ?_
      refine lv_iload hx hb d_L_law_1195 (lv_at hl 5 rfl) ?_
      refine rz_bipush hx hb d_L_law_1197 (by decide) ?_
      refine rz_iadd hx hb d_L_law_1199 ?_
      refine rl_sld hx hb hX hbl hbA hS (k + 7) d_L_law_1200 ?_
      refine lv_i2l hx hb d_L_law_1201 rfl ?_
      refine rz_bipush hx hb d_L_law_1202 (by decide) ?_
      refine lv_lshl hx hb d_L_law_1204 rfl ?_
      refine lv_aload_n hx hb d_L_law_1205 rfl (lv_at hl 1 rfl) ?_
      refine lv_iload hx hb d_L_law_1206 (lv_at hl 5 rfl) ?_
      refine rz_bipush hx hb d_L_law_1208 (by decide) ?_
      refine rz_iadd hx hb d_L_law_1210 ?_
      refine rl_sld hx hb hX hbl hbA hS (k + 8) d_L_law_1211 ?_
      refine lv_i2l hx hb d_L_law_1212 rfl ?_
      refine lv_ldc2 (v := 4294967295) hx hb hown (hts _ kw_712) d_L_law_1213 ?_
      refine lv_land hx hb d_L_law_1216 ?_
      refine lv_lor hx hb d_L_law_1217 ?_
      refine lv_aload_n hx hb d_L_law_1218 rfl (lv_at hl 1 rfl) ?_
      refine lv_iload hx hb d_L_law_1219 (lv_at hl 5 rfl) ?_
      refine rz_bipush hx hb d_L_law_1221 (by decide) ?_
      refine rz_iadd hx hb d_L_law_1223 ?_
      refine rl_sld hx hb hX hbl hbA hS (k + 9) d_L_law_1224 ?_
      refine rc_calli (va_runV (As := [.long (lwd (sx xs (k + 1)) (sx xs (k + 2))), .long (lwd (sx xs (k + 3)) (sx xs (k + 4))), .long (lwd (sx xs (k + 5)) (sx xs (k + 6))), .long (lwd (sx xs (k + 7)) (sx xs (k + 8))), .int (iz (sx xs (k + 9)))]) (rest := []) ⟨hx, hb, hml, hown, hts⟩ (m_M_series l D cJ cI g cd od fc hd md lo lv tb rw bm mn nu tu G E2 T2 (lwd (sx xs (k + 1)) (sx xs (k + 2))) (lwd (sx xs (k + 3)) (sx xs (k + 4))) (lwd (sx xs (k + 5)) (sx xs (k + 6))) (lwd (sx xs (k + 7)) (sx xs (k + 8))) (sx xs (k + 9)) o hod ho3 (by omega) (by omega)) (cwV 5 hts (kb_gi (kb_c kw_707 (kb_c kw_708 (kb_c kw_709 (kb_c kw_5 (kb_c kw_710 kb_all)))))) rfl rfl rfl (by decide +kernel) ⟨Nat.le_of_ble_eq_true rfl, Nat.le_of_ble_eq_true rfl⟩) ⟨rc_blind, va_recv hK hP (ci := 3) (q0 := 19) rfl rfl, rc_pre hP hD hK hN [19, 20, 23, 27] rfl rfl [0, 2] rfl⟩ rfl rfl hl.1 rfl (lv_room (Nat.le_of_ble_eq_true rfl)) d_L_law_1225 ⟨hfc1, hfs1⟩) hP hD hS [19, 20, 23, 27] rfl (fun _ => rfl) (fun r9 u10 H locs hw10 hP hD hS => ?_)
      have h9 : u10 = (2, (mvF (ro_k (lwd (sx xs (k + 1)) (sx xs (k + 2))).toInt) (c2 G E2 20) 4), T2) ∧ r9 = iz 0 := by
        rcases hw10 with ⟨h6, h7, h8⟩ | ⟨h5, h6, h7, h8⟩ | ⟨h5, h6, h7, h8⟩
        · exact absurd ⟨by omega, by omega⟩ h6
        · exact ⟨h7, h8⟩
        · exact absurd ((lw_ser0 hI ho3 (lwd (sx xs (k + 1)) (sx xs (k + 2))) E2).symm.trans hn) h6
      obtain ⟨rfl, rfl⟩ := h9
      have hP : va_P D vC (((([(ou, kl cJ 1 V), (h, rO od fa ot ah te id rt bs kn), (fa, go cO 4 fr), (ot, go cO 4 er), (ah, ka cJ 13 a), (te, ka cJ 31 T), (id, ka cJ 5 J), (rt, rR fo cn wh pt rs sq on tw), (fo, ka cJ 4 Fo), (wh, ka cJ 5 Y), (pt, ka cJ 5 P), (rs, ka cJ 5 r), (sq, ka cJ 8 S), (on, ka cJ 5 a1), (tw, ka cJ 5 b1), (bs, rB ro le me bn), (ro, go cO 17 ra), (le, ki cI 13 Lx), (me, go cO 13 mb), (g, rM 2 od fc hd md lo lv tb rw bm mn nu tu), (fc, k2 cJ 20 5 G), (hd, ka cJ 13 a2), (md, ka cJ 17 P2), (lo, k2 cJ 20 5 (mvF (ro_k (lwd (sx xs (k + 1)) (sx xs (k + 2))).toInt) (c2 G E2 20) 4)), (tb, k2 cJ 221 13 M2), (rw, ki cI 13 L2), (bm, k2 cJ 169 13 B2), (nu, ka cJ 31 T2), (tu, k2 cJ 20 5 U2)] ++ gs 4 er cJ 5 (stE F (ro_k (lwd (sx xs (k + 1)) (sx xs (k + 2))).toInt) E (o + 1))) ++ gs 4 fr cJ 5 F) ++ gs 13 mb cJ 13 Bm) ++ gs 17 ra cJ 13 M) H := hP
      have hD : va_D A (((([(ou, kl cJ 1 V), (h, rO od fa ot ah te id rt bs kn), (fa, go cO 4 fr), (ot, go cO 4 er), (ah, ka cJ 13 a), (te, ka cJ 31 T), (id, ka cJ 5 J), (rt, rR fo cn wh pt rs sq on tw), (fo, ka cJ 4 Fo), (wh, ka cJ 5 Y), (pt, ka cJ 5 P), (rs, ka cJ 5 r), (sq, ka cJ 8 S), (on, ka cJ 5 a1), (tw, ka cJ 5 b1), (bs, rB ro le me bn), (ro, go cO 17 ra), (le, ki cI 13 Lx), (me, go cO 13 mb), (g, rM 2 od fc hd md lo lv tb rw bm mn nu tu), (fc, k2 cJ 20 5 G), (hd, ka cJ 13 a2), (md, ka cJ 17 P2), (lo, k2 cJ 20 5 (mvF (ro_k (lwd (sx xs (k + 1)) (sx xs (k + 2))).toInt) (c2 G E2 20) 4)), (tb, k2 cJ 221 13 M2), (rw, ki cI 13 L2), (bm, k2 cJ 169 13 B2), (nu, ka cJ 31 T2), (tu, k2 cJ 20 5 U2)] ++ gs 4 er cJ 5 (stE F (ro_k (lwd (sx xs (k + 1)) (sx xs (k + 2))).toInt) E (o + 1))) ++ gs 4 fr cJ 5 F) ++ gs 13 mb cJ 13 Bm) ++ gs 17 ra cJ 13 M) := hD
      refine lv_istore (lv' := [(6, .int (iz 0)), (5, .int (iz 2)), (0, .ref b), (1, .ref h), (2, .ref g), (3, .ref ou), (4, .int (iz z4))]) hx hb d_L_law_1228 hl (by decide) rfl (fun ls hl => ?_)
      refine lv_aload_n hx hb d_L_law_1230 rfl (lv_at hl 4 rfl) ?_
      refine rc_calli (va_runV (As := []) (rest := []) ⟨hx, hb, hml, hown, hts⟩ (m_M_thrown l D g 2 od fc hd md lo lv tb rw bm mn nu tu) (cwV 0 hts (kb_gi (kb_c kw_570 (kb_c kw_571 (kb_c kw_572 (kb_c kw_5 (kb_c kw_573 kb_all)))))) rfl rfl rfl (by decide +kernel) ⟨Nat.le_of_ble_eq_true rfl, Nat.le_of_ble_eq_true rfl⟩) ⟨rc_blind, va_recv hK hP (ci := 3) (q0 := 19) rfl rfl, rc_pre hP hD hK hN [19] rfl rfl [] rfl⟩ rfl rfl hl.1 rfl (lv_room (Nat.le_of_ble_eq_true rfl)) d_L_law_1231 ⟨hfc1, hfs1⟩) hP hD hS [19] rfl (fun _ => rfl) (fun r11 u12 H locs hw12 hP hD hS => ?_)
      subst hw12
      have hP : va_P D vC (((([(ou, kl cJ 1 V), (h, rO od fa ot ah te id rt bs kn), (fa, go cO 4 fr), (ot, go cO 4 er), (ah, ka cJ 13 a), (te, ka cJ 31 T), (id, ka cJ 5 J), (rt, rR fo cn wh pt rs sq on tw), (fo, ka cJ 4 Fo), (wh, ka cJ 5 Y), (pt, ka cJ 5 P), (rs, ka cJ 5 r), (sq, ka cJ 8 S), (on, ka cJ 5 a1), (tw, ka cJ 5 b1), (bs, rB ro le me bn), (ro, go cO 17 ra), (le, ki cI 13 Lx), (me, go cO 13 mb), (g, rM 2 od fc hd md lo lv tb rw bm mn nu tu), (fc, k2 cJ 20 5 G), (hd, ka cJ 13 a2), (md, ka cJ 17 P2), (lo, k2 cJ 20 5 (mvF (ro_k (lwd (sx xs (k + 1)) (sx xs (k + 2))).toInt) (c2 G E2 20) 4)), (tb, k2 cJ 221 13 M2), (rw, ki cI 13 L2), (bm, k2 cJ 169 13 B2), (nu, ka cJ 31 T2), (tu, k2 cJ 20 5 U2)] ++ gs 4 er cJ 5 (stE F (ro_k (lwd (sx xs (k + 1)) (sx xs (k + 2))).toInt) E (o + 1))) ++ gs 4 fr cJ 5 F) ++ gs 13 mb cJ 13 Bm) ++ gs 17 ra cJ 13 M) H := hP
      have hD : va_D A (((([(ou, kl cJ 1 V), (h, rO od fa ot ah te id rt bs kn), (fa, go cO 4 fr), (ot, go cO 4 er), (ah, ka cJ 13 a), (te, ka cJ 31 T), (id, ka cJ 5 J), (rt, rR fo cn wh pt rs sq on tw), (fo, ka cJ 4 Fo), (wh, ka cJ 5 Y), (pt, ka cJ 5 P), (rs, ka cJ 5 r), (sq, ka cJ 8 S), (on, ka cJ 5 a1), (tw, ka cJ 5 b1), (bs, rB ro le me bn), (ro, go cO 17 ra), (le, ki cI 13 Lx), (me, go cO 13 mb), (g, rM 2 od fc hd md lo lv tb rw bm mn nu tu), (fc, k2 cJ 20 5 G), (hd, ka cJ 13 a2), (md, ka cJ 17 P2), (lo, k2 cJ 20 5 (mvF (ro_k (lwd (sx xs (k + 1)) (sx xs (k + 2))).toInt) (c2 G E2 20) 4)), (tb, k2 cJ 221 13 M2), (rw, ki cI 13 L2), (bm, k2 cJ 169 13 B2), (nu, ka cJ 31 T2), (tu, k2 cJ 20 5 U2)] ++ gs 4 er cJ 5 (stE F (ro_k (lwd (sx xs (k + 1)) (sx xs (k + 2))).toInt) E (o + 1))) ++ gs 4 fr cJ 5 F) ++ gs 13 mb cJ 13 Bm) ++ gs 17 ra cJ 13 M) := hD
      refine lv_iload hx hb d_L_law_1234 (lv_at hl 1 rfl) ?_
      refine rl_icmp_eq (tgt := 1241) hx hb d_L_law_1236 (by decide) rfl ?_
      refine lv_iload hx hb d_L_law_1241 (lv_at hl 1 rfl) ?_
      refine rz_if_ne (tgt := 1258) hx hb d_L_law_1243 (by decide) (fun _ => ?_) (fun hc => absurd hc (by decide))
      refine lv_goto (tgt := 1338) hx hb d_L_law_1258 (by decide) ?_
      refine W.widen (k := kc + 1) (n := ks + 6) (by omega) (by omega) ?_
      exact hend V kn a T J cn Fo Y P r S a1 b1 bn Lx (stE F (ro_k (lwd (sx xs (k + 1)) (sx xs (k + 2))).toInt) E (o + 1)) F Bm M 2 lv mn G a2 P2 (mvF (ro_k (lwd (sx xs (k + 1)) (sx xs (k + 2))).toInt) (c2 G E2 20) 4) M2 L2 B2 T2 U2 H locs ls ⟨lw_E hI (lw_ser hI ho3 (lwd (sx xs (k + 1)) (sx xs (k + 2))) E2).2, hJ⟩ hP hD hS (lv_sub hl [2, 3, 4, 5, 6] rfl)
  · refine lv_aload_n hx hb d_L_law_1021 rfl (lv_at hl 1 rfl) ?_
    refine lv_aload_n hx hb d_L_law_1022 rfl (lv_at hl 0 rfl) ?_
    refine lv_iload hx hb d_L_law_1023 (lv_at hl 4 rfl) ?_
    refine rz_iconst hx hb d_L_law_1025 ?_
    refine rz_iadd hx hb d_L_law_1026 ?_
    refine rl_sld hx hb hX hbl hbA hS (k + 1) d_L_law_1027 ?_
    refine lv_i2l hx hb d_L_law_1028 rfl ?_
    refine rz_bipush hx hb d_L_law_1029 (by decide) ?_
    refine lv_lshl hx hb d_L_law_1031 rfl ?_
    refine lv_aload_n hx hb d_L_law_1032 rfl (lv_at hl 0 rfl) ?_
    refine lv_iload hx hb d_L_law_1033 (lv_at hl 4 rfl) ?_
    refine rz_iconst hx hb d_L_law_1035 ?_
    refine rz_iadd hx hb d_L_law_1036 ?_
    refine rl_sld hx hb hX hbl hbA hS (k + 2) d_L_law_1037 ?_
    refine lv_i2l hx hb d_L_law_1038 rfl ?_
    refine lv_ldc2 (v := 4294967295) hx hb hown (hts _ kw_712) d_L_law_1039 ?_
    refine lv_land hx hb d_L_law_1042 ?_
    refine lv_lor hx hb d_L_law_1043 ?_
    refine lv_aload_n hx hb d_L_law_1044 rfl (lv_at hl 0 rfl) ?_
    refine lv_iload hx hb d_L_law_1045 (lv_at hl 4 rfl) ?_
    refine rz_iconst hx hb d_L_law_1047 ?_
    refine rz_iadd hx hb d_L_law_1048 ?_
    refine rl_sld hx hb hX hbl hbA hS (k + 3) d_L_law_1049 ?_
    refine lv_i2l hx hb d_L_law_1050 rfl ?_
    refine rz_bipush hx hb d_L_law_1051 (by decide) ?_
    refine lv_lshl hx hb d_L_law_1053 rfl ?_
    refine lv_aload_n hx hb d_L_law_1054 rfl (lv_at hl 0 rfl) ?_
    refine lv_iload hx hb d_L_law_1055 (lv_at hl 4 rfl) ?_
    refine rz_iconst hx hb d_L_law_1057 ?_
    refine rz_iadd hx hb d_L_law_1058 ?_
    refine rl_sld hx hb hX hbl hbA hS (k + 4) d_L_law_1059 ?_
    refine lv_i2l hx hb d_L_law_1060 rfl ?_
    refine lv_ldc2 (v := 4294967295) hx hb hown (hts _ kw_712) d_L_law_1061 ?_
    refine lv_land hx hb d_L_law_1064 ?_
    refine lv_lor hx hb d_L_law_1065 ?_
    refine lv_aload_n hx hb d_L_law_1066 rfl (lv_at hl 0 rfl) ?_
    refine lv_iload hx hb d_L_law_1067 (lv_at hl 4 rfl) ?_
    refine rz_iconst hx hb d_L_law_1069 ?_
    refine rz_iadd hx hb d_L_law_1070 ?_
    refine rl_sld hx hb hX hbl hbA hS (k + 5) d_L_law_1071 ?_
    refine lv_i2l hx hb d_L_law_1072 rfl ?_
    refine rz_bipush hx hb d_L_law_1073 (by decide) ?_
    refine lv_lshl hx hb d_L_law_1075 rfl ?_
    refine lv_aload_n hx hb d_L_law_1076 rfl (lv_at hl 0 rfl) ?_
    refine lv_iload hx hb d_L_law_1077 (lv_at hl 4 rfl) ?_
    refine rz_bipush hx hb d_L_law_1079 (by decide) ?_
    refine rz_iadd hx hb d_L_law_1081 ?_
    refine rl_sld hx hb hX hbl hbA hS (k + 6) d_L_law_1082 ?_
    refine lv_i2l hx hb d_L_law_1083 rfl ?_
    refine lv_ldc2 (v := 4294967295) hx hb hown (hts _ kw_712) d_L_law_1084 ?_
    refine lv_land hx hb d_L_law_1087 ?_
    refine lv_lor hx hb d_L_law_1088 ?_
    refine lv_aload_n hx hb d_L_law_1089 rfl (lv_at hl 0 rfl) ?_
    refine lv_iload hx hb d_L_law_1090 (lv_at hl 4 rfl) ?_
    refine rz_bipush hx hb d_L_law_1092 (by decide) ?_
    refine rz_iadd hx hb d_L_law_1094 ?_
    refine rl_sld hx hb hX hbl hbA hS (k + 7) d_L_law_1095 ?_
    refine lv_i2l hx hb d_L_law_1096 rfl ?_
    refine rz_bipush hx hb d_L_law_1097 (by decide) ?_
    refine lv_lshl hx hb d_L_law_1099 rfl ?_
    refine lv_aload_n hx hb d_L_law_1100 rfl (lv_at hl 0 rfl) ?_
    refine lv_iload hx hb d_L_law_1101 (lv_at hl 4 rfl) ?_
    refine rz_bipush hx hb d_L_law_1103 (by decide) ?_
    refine rz_iadd hx hb d_L_law_1105 ?_
    refine rl_sld hx hb hX hbl hbA hS (k + 8) d_L_law_1106 ?_
    refine lv_i2l hx hb d_L_law_1107 rfl ?_
    refine lv_ldc2 (v := 4294967295) hx hb hown (hts _ kw_712) d_L_law_1108 ?_
    refine lv_land hx hb d_L_law_1111 ?_
    refine lv_lor hx hb d_L_law_1112 ?_
    refine lv_aload_n hx hb d_L_law_1113 rfl (lv_at hl 0 rfl) ?_
    refine lv_iload hx hb d_L_law_1114 (lv_at hl 4 rfl) ?_
    refine rz_bipush hx hb d_L_law_1116 (by decide) ?_
    refine rz_iadd hx hb d_L_law_1118 ?_
    refine rl_sld hx hb hX hbl hbA hS (k + 9) d_L_law_1119 ?_
    refine lv_aload_n hx hb d_L_law_1120 rfl (lv_at hl 3 rfl) ?_
    refine rsM_calli (vx_runSW (hh := [((0 : Nat), (17 : Nat), (20 : Nat), (13 : Nat)), ((0 : Nat), (17 : Nat), (24 : Nat), (56 : Nat))]) (As := [.ref h, .long (lwd (sx xs (k + 1)) (sx xs (k + 2))), .long (lwd (sx xs (k + 3)) (sx xs (k + 4))), .long (lwd (sx xs (k + 5)) (sx xs (k + 6))), .long (lwd (sx xs (k + 7)) (sx xs (k + 8))), .int (iz (sx xs (k + 9))), .ref ou]) (rest := []) ⟨hx, hb, hml, hown, hts⟩ (h_L_series_t_S l D hst sa cJ cO h fa ot ah te id rt bs od kn ou V fr er E F T (lwd (sx xs (k + 1)) (sx xs (k + 2))) (lwd (sx xs (k + 3)) (sx xs (k + 4))) (lwd (sx xs (k + 5)) (sx xs (k + 6))) (lwd (sx xs (k + 7)) (sx xs (k + 8))) (sx xs (k + 9)) o hod ho3 (by omega) (by omega) (by omega)) (vx_cwSW 7 hts (kb_gi (kb_c kw_494 (kb_c kw_495 (kb_c kw_0 (kb_c kw_496 kb_all))))) rfl rfl rfl (by decide +kernel) ⟨Nat.le_of_ble_eq_true rfl, Nat.le_of_ble_eq_true rfl⟩) ⟨rx_blind, fun U h8 h9 => ⟨(rs_pre (rs_a_2_2 hP) (rs_aD_2_2 hD) hK hN [1, 2, 3, 5, 0] rfl rfl [0, 1] rfl) U h8 h9, hE.go hS (rs_in (rs_aD_2_2 hD) (is := [1, 2, 3, 5, 0]) rfl) h8 h9⟩⟩ rfl rfl hl.1 rfl (lv_room (Nat.le_of_ble_eq_true rfl)) d_L_law_1121 ⟨hfc1, hfs1⟩) (rs_a_2_2 hP) (rs_aD_2_2 hD) hS [1, 2, 3, 5, 0] rfl (fun _ => rfl) (fun _ => gs_adr2 (gs_adr _ _ _ _ _ _) (gs_adr _ _ _ _ _ _)) (fun r13 u14 H locs hw14 hP hD hS => ?_)
    have hP := rs_b_2_2 hP
    have hD := rs_bD_2_2 hD
    subst hw14
    have hP : va_P D vC (((([(ou, kl cJ 1 V), (h, rO od fa ot ah te id rt bs kn), (fa, go cO 4 fr), (ot, go cO 4 er), (ah, ka cJ 13 a), (te, ka cJ 31 T), (id, ka cJ 5 J), (rt, rR fo cn wh pt rs sq on tw), (fo, ka cJ 4 Fo), (wh, ka cJ 5 Y), (pt, ka cJ 5 P), (rs, ka cJ 5 r), (sq, ka cJ 8 S), (on, ka cJ 5 a1), (tw, ka cJ 5 b1), (bs, rB ro le me bn), (ro, go cO 17 ra), (le, ki cI 13 Lx), (me, go cO 13 mb), (g, rM cd od fc hd md lo lv tb rw bm mn nu tu), (fc, k2 cJ 20 5 G), (hd, ka cJ 13 a2), (md, ka cJ 17 P2), (lo, k2 cJ 20 5 E2), (tb, k2 cJ 221 13 M2), (rw, ki cI 13 L2), (bm, k2 cJ 169 13 B2), (nu, ka cJ 31 T2), (tu, k2 cJ 20 5 U2)] ++ gs 4 er cJ 5 E) ++ gs 4 fr cJ 5 F) ++ gs 13 mb cJ 13 Bm) ++ gs 17 ra cJ 13 M) H := hP
    have hD : va_D A (((([(ou, kl cJ 1 V), (h, rO od fa ot ah te id rt bs kn), (fa, go cO 4 fr), (ot, go cO 4 er), (ah, ka cJ 13 a), (te, ka cJ 31 T), (id, ka cJ 5 J), (rt, rR fo cn wh pt rs sq on tw), (fo, ka cJ 4 Fo), (wh, ka cJ 5 Y), (pt, ka cJ 5 P), (rs, ka cJ 5 r), (sq, ka cJ 8 S), (on, ka cJ 5 a1), (tw, ka cJ 5 b1), (bs, rB ro le me bn), (ro, go cO 17 ra), (le, ki cI 13 Lx), (me, go cO 13 mb), (g, rM cd od fc hd md lo lv tb rw bm mn nu tu), (fc, k2 cJ 20 5 G), (hd, ka cJ 13 a2), (md, ka cJ 17 P2), (lo, k2 cJ 20 5 E2), (tb, k2 cJ 221 13 M2), (rw, ki cI 13 L2), (bm, k2 cJ 169 13 B2), (nu, ka cJ 31 T2), (tu, k2 cJ 20 5 U2)] ++ gs 4 er cJ 5 E) ++ gs 4 fr cJ 5 F) ++ gs 13 mb cJ 13 Bm) ++ gs 17 ra cJ 13 M) := hD
    refine lv_istore (lv' := [(5, .int (iz 1)), (0, .ref b), (1, .ref h), (2, .ref g), (3, .ref ou), (4, .int (iz z4))]) hx hb d_L_law_1124 hl (by decide) rfl (fun ls hl => ?_)
    refine lv_aload_n hx hb d_L_law_1126 rfl (lv_at hl 3 rfl) ?_
    refine lv_aload_n hx hb d_L_law_1127 rfl (lv_at hl 1 rfl) ?_
    refine lv_iload hx hb d_L_law_1128 (lv_at hl 5 rfl) ?_
    refine rz_iconst hx hb d_L_law_1130 ?_
    refine rz_iadd hx hb d_L_law_1131 ?_
    refine rl_sld hx hb hX hbl hbA hS (k + 1) d_L_law_1132 ?_
    refine lv_i2l hx hb d_L_law_1133 rfl ?_
    refine rz_bipush hx hb d_L_law_1134 (by decide) ?_
    refine lv_lshl hx hb d_L_law_1136 rfl ?_
    refine lv_aload_n hx hb d_L_law_1137 rfl (lv_at hl 1 rfl) ?_
    refine lv_iload hx hb d_L_law_1138 (lv_at hl 5 rfl) ?_
    refine rz_iconst hx hb d_L_law_1140 ?_
    refine rz_iadd hx hb d_L_law_1141 ?_
    refine rl_sld hx hb hX hbl hbA hS (k + 2) d_L_law_1142 ?_
    refine lv_i2l hx hb d_L_law_1143 rfl ?_
    refine lv_ldc2 (v := 4294967295) hx hb hown (hts _ kw_712) d_L_law_1144 ?_
    refine lv_land hx hb d_L_law_1147 ?_
    refine lv_lor hx hb d_L_law_1148 ?_
    refine lv_aload_n hx hb d_L_law_1149 rfl (lv_at hl 1 rfl) ?_
    refine lv_iload hx hb d_L_law_1150 (lv_at hl 5 rfl) ?_
    refine rz_iconst hx hb d_L_law_1152 ?_
    refine rz_iadd hx hb d_L_law_1153 ?_
    refine rl_sld hx hb hX hbl hbA hS (k + 3) d_L_law_1154 ?_
    refine lv_i2l hx hb d_L_law_1155 rfl ?_
    refine rz_bipush hx hb d_L_law_1156 (by decide) ?_
    refine lv_lshl hx hb d_L_law_1158 rfl ?_
    refine lv_aload_n hx hb d_L_law_1159 rfl (lv_at hl 1 rfl) ?_
    refine lv_iload hx hb d_L_law_1160 (lv_at hl 5 rfl) ?_
    refine rz_iconst hx hb d_L_law_1162 ?_
    refine rz_iadd hx hb d_L_law_1163 ?_
    refine rl_sld hx hb hX hbl hbA hS (k + 4) d_L_law_1164 ?_
    refine lv_i2l hx hb d_L_law_1165 rfl ?_
    refine lv_ldc2 (v := 4294967295) hx hb hown (hts _ kw_712) d_L_law_1166 ?_
    refine lv_land hx hb d_L_law_1169 ?_
    refine lv_lor hx hb d_L_law_1170 ?_
    refine lv_aload_n hx hb d_L_law_1171 rfl (lv_at hl 1 rfl) ?_
    refine lv_iload hx hb d_L_law_1172 (lv_at hl 5 rfl) ?_
    refine rz_iconst hx hb d_L_law_1174 ?_
    refine rz_iadd hx hb d_L_law_1175 ?_
    refine rl_sld hx hb hX hbl hbA hS (k + 5) d_L_law_1176 ?_
    refine lv_i2l hx hb d_L_law_1177 rfl ?_
    refine rz_bipush hx hb d_L_law_1178 (by decide) ?_
    refine lv_lshl hx hb d_L_law_1180 rfl ?_
    refine lv_aload_n hx hb d_L_law_1181 rfl (lv_at hl 1 rfl) ?_
    refine lv_iload hx hb d_L_law_1182 (lv_at hl 5 rfl) ?_
    refine rz_bipush hx hb d_L_law_1184 (by decide) ?_
    refine rz_iadd hx hb d_L_law_1186 ?_
    refine rl_sld hx hb hX hbl hbA hS (k + 6) d_L_law_1187 ?_
    refine lv_i2l hx hb d_L_law_1188 rfl ?_
    refine lv_ldc2 (v := 4294967295) hx hb hown (hts _ kw_712) d_L_law_1189 ?_
    refine lv_land hx hb d_L_law_1192 ?_
    refine lv_lor hx hb d_L_law_1193 ?_
    refine lv_aload_n hx hb d_L_law_1194 rfl (lv_at hl 1 rfl) ?_
    refine lv_iload hx hb d_L_law_1195 (lv_at hl 5 rfl) ?_
    refine rz_bipush hx hb d_L_law_1197 (by decide) ?_
    refine rz_iadd hx hb d_L_law_1199 ?_
    refine rl_sld hx hb hX hbl hbA hS (k + 7) d_L_law_1200 ?_
    refine lv_i2l hx hb d_L_law_1201 rfl ?_
    refine rz_bipush hx hb d_L_law_1202 (by decide) ?_
    refine lv_lshl hx hb d_L_law_1204 rfl ?_
    refine lv_aload_n hx hb d_L_law_1205 rfl (lv_at hl 1 rfl) ?_
    refine lv_iload hx hb d_L_law_1206 (lv_at hl 5 rfl) ?_
    refine rz_bipush hx hb d_L_law_1208 (by decide) ?_
    refine rz_iadd hx hb d_L_law_1210 ?_
    refine rl_sld hx hb hX hbl hbA hS (k + 8) d_L_law_1211 ?_
    refine lv_i2l hx hb d_L_law_1212 rfl ?_
    refine lv_ldc2 (v := 4294967295) hx hb hown (hts _ kw_712) d_L_law_1213 ?_
    refine lv_land hx hb d_L_law_1216 ?_
    refine lv_lor hx hb d_L_law_1217 ?_
    refine lv_aload_n hx hb d_L_law_1218 rfl (lv_at hl 1 rfl) ?_
    refine lv_iload hx hb d_L_law_1219 (lv_at hl 5 rfl) ?_
    refine rz_bipush hx hb d_L_law_1221 (by decide) ?_
    refine rz_iadd hx hb d_L_law_1223 ?_
    refine rl_sld hx hb hX hbl hbA hS (k + 9) d_L_law_1224 ?_
    refine rc_calli (va_runV (As := [.long (lwd (sx xs (k + 1)) (sx xs (k + 2))), .long (lwd (sx xs (k + 3)) (sx xs (k + 4))), .long (lwd (sx xs (k + 5)) (sx xs (k + 6))), .long (lwd (sx xs (k + 7)) (sx xs (k + 8))), .int (iz (sx xs (k + 9)))]) (rest := []) ⟨hx, hb, hml, hown, hts⟩ (m_M_series l D cJ cI g cd od fc hd md lo lv tb rw bm mn nu tu G E2 T2 (lwd (sx xs (k + 1)) (sx xs (k + 2))) (lwd (sx xs (k + 3)) (sx xs (k + 4))) (lwd (sx xs (k + 5)) (sx xs (k + 6))) (lwd (sx xs (k + 7)) (sx xs (k + 8))) (sx xs (k + 9)) o hod ho3 (by omega) (by omega)) (cwV 5 hts (kb_gi (kb_c kw_707 (kb_c kw_708 (kb_c kw_709 (kb_c kw_5 (kb_c kw_710 kb_all)))))) rfl rfl rfl (by decide +kernel) ⟨Nat.le_of_ble_eq_true rfl, Nat.le_of_ble_eq_true rfl⟩) ⟨rc_blind, va_recv hK hP (ci := 3) (q0 := 19) rfl rfl, rc_pre hP hD hK hN [19, 20, 23, 27] rfl rfl [0, 2] rfl⟩ rfl rfl hl.1 rfl (lv_room (Nat.le_of_ble_eq_true rfl)) d_L_law_1225 ⟨hfc1, hfs1⟩) hP hD hS [19, 20, 23, 27] rfl (fun _ => rfl) (fun r15 u16 H locs hw16 hP hD hS => ?_)
    have h9 : u16 = (1, E2, T2) ∧ r15 = iz 0 := by
      rcases hw16 with ⟨h6, h7, h8⟩ | ⟨h5, h6, h7, h8⟩ | ⟨h5, h6, h7, h8⟩
      · exact ⟨h7, h8⟩
      · exfalso; omega
      · exfalso; omega
    obtain ⟨rfl, rfl⟩ := h9
    have hP : va_P D vC (((([(ou, kl cJ 1 V), (h, rO od fa ot ah te id rt bs kn), (fa, go cO 4 fr), (ot, go cO 4 er), (ah, ka cJ 13 a), (te, ka cJ 31 T), (id, ka cJ 5 J), (rt, rR fo cn wh pt rs sq on tw), (fo, ka cJ 4 Fo), (wh, ka cJ 5 Y), (pt, ka cJ 5 P), (rs, ka cJ 5 r), (sq, ka cJ 8 S), (on, ka cJ 5 a1), (tw, ka cJ 5 b1), (bs, rB ro le me bn), (ro, go cO 17 ra), (le, ki cI 13 Lx), (me, go cO 13 mb), (g, rM 1 od fc hd md lo lv tb rw bm mn nu tu), (fc, k2 cJ 20 5 G), (hd, ka cJ 13 a2), (md, ka cJ 17 P2), (lo, k2 cJ 20 5 E2), (tb, k2 cJ 221 13 M2), (rw, ki cI 13 L2), (bm, k2 cJ 169 13 B2), (nu, ka cJ 31 T2), (tu, k2 cJ 20 5 U2)] ++ gs 4 er cJ 5 E) ++ gs 4 fr cJ 5 F) ++ gs 13 mb cJ 13 Bm) ++ gs 17 ra cJ 13 M) H := hP
    have hD : va_D A (((([(ou, kl cJ 1 V), (h, rO od fa ot ah te id rt bs kn), (fa, go cO 4 fr), (ot, go cO 4 er), (ah, ka cJ 13 a), (te, ka cJ 31 T), (id, ka cJ 5 J), (rt, rR fo cn wh pt rs sq on tw), (fo, ka cJ 4 Fo), (wh, ka cJ 5 Y), (pt, ka cJ 5 P), (rs, ka cJ 5 r), (sq, ka cJ 8 S), (on, ka cJ 5 a1), (tw, ka cJ 5 b1), (bs, rB ro le me bn), (ro, go cO 17 ra), (le, ki cI 13 Lx), (me, go cO 13 mb), (g, rM 1 od fc hd md lo lv tb rw bm mn nu tu), (fc, k2 cJ 20 5 G), (hd, ka cJ 13 a2), (md, ka cJ 17 P2), (lo, k2 cJ 20 5 E2), (tb, k2 cJ 221 13 M2), (rw, ki cI 13 L2), (bm, k2 cJ 169 13 B2), (nu, ka cJ 31 T2), (tu, k2 cJ 20 5 U2)] ++ gs 4 er cJ 5 E) ++ gs 4 fr cJ 5 F) ++ gs 13 mb cJ 13 Bm) ++ gs 17 ra cJ 13 M) := hD
    refine lv_istore (lv' := [(6, .int (iz 0)), (5, .int (iz 1)), (0, .ref b), (1, .ref h), (2, .ref g), (3, .ref ou), (4, .int (iz z4))]) hx hb d_L_law_1228 hl (by decide) rfl (fun ls hl => ?_)
    refine lv_aload_n hx hb d_L_law_1230 rfl (lv_at hl 4 rfl) ?_
    refine rc_calli (va_runV (As := []) (rest := []) ⟨hx, hb, hml, hown, hts⟩ (m_M_thrown l D g 1 od fc hd md lo lv tb rw bm mn nu tu) (cwV 0 hts (kb_gi (kb_c kw_570 (kb_c kw_571 (kb_c kw_572 (kb_c kw_5 (kb_c kw_573 kb_all)))))) rfl rfl rfl (by decide +kernel) ⟨Nat.le_of_ble_eq_true rfl, Nat.le_of_ble_eq_true rfl⟩) ⟨rc_blind, va_recv hK hP (ci := 3) (q0 := 19) rfl rfl, rc_pre hP hD hK hN [19] rfl rfl [] rfl⟩ rfl rfl hl.1 rfl (lv_room (Nat.le_of_ble_eq_true rfl)) d_L_law_1231 ⟨hfc1, hfs1⟩) hP hD hS [19] rfl (fun _ => rfl) (fun r17 u18 H locs hw18 hP hD hS => ?_)
    subst hw18
    have hP : va_P D vC (((([(ou, kl cJ 1 V), (h, rO od fa ot ah te id rt bs kn), (fa, go cO 4 fr), (ot, go cO 4 er), (ah, ka cJ 13 a), (te, ka cJ 31 T), (id, ka cJ 5 J), (rt, rR fo cn wh pt rs sq on tw), (fo, ka cJ 4 Fo), (wh, ka cJ 5 Y), (pt, ka cJ 5 P), (rs, ka cJ 5 r), (sq, ka cJ 8 S), (on, ka cJ 5 a1), (tw, ka cJ 5 b1), (bs, rB ro le me bn), (ro, go cO 17 ra), (le, ki cI 13 Lx), (me, go cO 13 mb), (g, rM 1 od fc hd md lo lv tb rw bm mn nu tu), (fc, k2 cJ 20 5 G), (hd, ka cJ 13 a2), (md, ka cJ 17 P2), (lo, k2 cJ 20 5 E2), (tb, k2 cJ 221 13 M2), (rw, ki cI 13 L2), (bm, k2 cJ 169 13 B2), (nu, ka cJ 31 T2), (tu, k2 cJ 20 5 U2)] ++ gs 4 er cJ 5 E) ++ gs 4 fr cJ 5 F) ++ gs 13 mb cJ 13 Bm) ++ gs 17 ra cJ 13 M) H := hP
    have hD : va_D A (((([(ou, kl cJ 1 V), (h, rO od fa ot ah te id rt bs kn), (fa, go cO 4 fr), (ot, go cO 4 er), (ah, ka cJ 13 a), (te, ka cJ 31 T), (id, ka cJ 5 J), (rt, rR fo cn wh pt rs sq on tw), (fo, ka cJ 4 Fo), (wh, ka cJ 5 Y), (pt, ka cJ 5 P), (rs, ka cJ 5 r), (sq, ka cJ 8 S), (on, ka cJ 5 a1), (tw, ka cJ 5 b1), (bs, rB ro le me bn), (ro, go cO 17 ra), (le, ki cI 13 Lx), (me, go cO 13 mb), (g, rM 1 od fc hd md lo lv tb rw bm mn nu tu), (fc, k2 cJ 20 5 G), (hd, ka cJ 13 a2), (md, ka cJ 17 P2), (lo, k2 cJ 20 5 E2), (tb, k2 cJ 221 13 M2), (rw, ki cI 13 L2), (bm, k2 cJ 169 13 B2), (nu, ka cJ 31 T2), (tu, k2 cJ 20 5 U2)] ++ gs 4 er cJ 5 E) ++ gs 4 fr cJ 5 F) ++ gs 13 mb cJ 13 Bm) ++ gs 17 ra cJ 13 M) := hD
    refine lv_iload hx hb d_L_law_1234 (lv_at hl 1 rfl) ?_
    refine rl_icmp_eq (tgt := 1241) hx hb d_L_law_1236 (by decide) rfl ?_
    refine lv_iload hx hb d_L_law_1241 (lv_at hl 1 rfl) ?_
    refine rz_if_ne (tgt := 1258) hx hb d_L_law_1243 (by decide) (fun _ => ?_) (fun hc => absurd hc (by decide))
    refine lv_goto (tgt := 1338) hx hb d_L_law_1258 (by decide) ?_
    refine W.widen (k := kc + 1) (n := ks + 6) (by omega) (by omega) ?_
    exact hend V kn a T J cn Fo Y P r S a1 b1 bn Lx E F Bm M 1 lv mn G a2 P2 E2 M2 L2 B2 T2 U2 H locs ls ⟨hI, hJ⟩ hP hD hS (lv_sub hl [2, 3, 4, 5, 6] rfl)
set_option maxHeartbeats 4000000 in
set_option maxRecDepth 100000 in
theorem lc_14 {cJ cO cI : ClassId} {ou h fa ot ah te id rt bs : Nat} {od : Int} {fo wh pt rs sq on tw : Nat} {ro le me : Nat} {fr er mb ra : Nat → Nat} {g : Nat} {fc hd md lo tb rw bm nu tu : Nat} {o : Nat} {sa : Nat → Nat} {ct b L : Nat} {xs : Nat → Int32} {V : Nat → Int64} {kn : Int} {a : Nat → ro_K} {T : Nat → ro_K} {J : Nat → ro_K} {cn : Int} {Fo : Nat → ro_K} {Y : Nat → ro_K} {P : Nat → ro_K} {r : Nat → ro_K} {S : Nat → ro_K} {a1 : Nat → ro_K} {b1 : Nat → ro_K} {bn : Int} {Lx : Nat → Int} {E : Nat → Nat → ro_K} {F : Nat → Nat → ro_K} {Bm : Nat → Nat → ro_K} {M : Nat → Nat → ro_K} {cd : Int} {lv : Int} {mn : Int} {G : Nat → Nat → ro_K} {a2 : Nat → ro_K} {P2 : Nat → ro_K} {E2 : Nat → Nat → ro_K} {M2 : Nat → Nat → ro_K} {L2 : Nat → Int} {B2 : Nat → Nat → ro_K} {T2 : Nat → ro_K} {U2 : Nat → Nat → ro_K} {z4 : Int} {k kc ks : Nat} {H : Heap} {locs : List Loc} {ls : Array Slot} (hx : p.tables.exec = Jvm.exec) (hb : c.code = c_L_law) (hml : c.maxLocals = 7) (hown : s.vm.findClass R_L = some m.cls) (hts : ∀ w ∈ kb, w.before args s = true) (hK : va_K D vC [(cJ, .long), (cO, .array .long), (cI, .int)] s) (hN : rc_N s) (hst : l.stackTraces = false) (hE : rx_E sa A s s.heap) (hC : rz_C ct A s s.heap) (hX : va_X b L xs s s.heap) (hbl : b < s.heap.size) (hbA : ¬ A b) (hL : L ≤ 5121) (hod : od = (o : Int)) (ho1 : 1 ≤ o) (ho3 : o ≤ 3) (hz4 : z4 = (k : Int)) (hk9 : k + 9 < L) (hkc : kc + 1 ≤ 601024) (hks : ks + 6 ≤ 7293000) (hI : (lw_I o F E a kn M Lx Bm bn G a2 ∧ J 4 = 0)) (hend : ∀ (V : Nat → Int64) (kn : Int) (a : Nat → ro_K) (T : Nat → ro_K) (J : Nat → ro_K) (cn : Int) (Fo : Nat → ro_K) (Y : Nat → ro_K) (P : Nat → ro_K) (r : Nat → ro_K) (S : Nat → ro_K) (a1 : Nat → ro_K) (b1 : Nat → ro_K) (bn : Int) (Lx : Nat → Int) (E : Nat → Nat → ro_K) (F : Nat → Nat → ro_K) (Bm : Nat → Nat → ro_K) (M : Nat → Nat → ro_K) (cd : Int) (lv : Int) (mn : Int) (G : Nat → Nat → ro_K) (a2 : Nat → ro_K) (P2 : Nat → ro_K) (E2 : Nat → Nat → ro_K) (M2 : Nat → Nat → ro_K) (L2 : Nat → Int) (B2 : Nat → Nat → ro_K) (T2 : Nat → ro_K) (U2 : Nat → Nat → ro_K) (H : Heap) (locs : List Loc) (ls : Array Slot), (lw_I o F E a kn M Lx Bm bn G a2 ∧ J 4 = 0) → va_P D vC (((([(ou, kl cJ 1 V), (h, rO od fa ot ah te id rt bs kn), (fa, go cO 4 fr), (ot, go cO 4 er), (ah, ka cJ 13 a), (te, ka cJ 31 T), (id, ka cJ 5 J), (rt, rR fo cn wh pt rs sq on tw), (fo, ka cJ 4 Fo), (wh, ka cJ 5 Y), (pt, ka cJ 5 P), (rs, ka cJ 5 r), (sq, ka cJ 8 S), (on, ka cJ 5 a1), (tw, ka cJ 5 b1), (bs, rB ro le me bn), (ro, go cO 17 ra), (le, ki cI 13 Lx), (me, go cO 13 mb), (g, rM cd od fc hd md lo lv tb rw bm mn nu tu), (fc, k2 cJ 20 5 G), (hd, ka cJ 13 a2), (md, ka cJ 17 P2), (lo, k2 cJ 20 5 E2), (tb, k2 cJ 221 13 M2), (rw, ki cI 13 L2), (bm, k2 cJ 169 13 B2), (nu, ka cJ 31 T2), (tu, k2 cJ 20 5 U2)] ++ gs 4 er cJ 5 E) ++ gs 4 fr cJ 5 F) ++ gs 13 mb cJ 13 Bm) ++ gs 17 ra cJ 13 M) H → va_D A (((([(ou, kl cJ 1 V), (h, rO od fa ot ah te id rt bs kn), (fa, go cO 4 fr), (ot, go cO 4 er), (ah, ka cJ 13 a), (te, ka cJ 31 T), (id, ka cJ 5 J), (rt, rR fo cn wh pt rs sq on tw), (fo, ka cJ 4 Fo), (wh, ka cJ 5 Y), (pt, ka cJ 5 P), (rs, ka cJ 5 r), (sq, ka cJ 8 S), (on, ka cJ 5 a1), (tw, ka cJ 5 b1), (bs, rB ro le me bn), (ro, go cO 17 ra), (le, ki cI 13 Lx), (me, go cO 13 mb), (g, rM cd od fc hd md lo lv tb rw bm mn nu tu), (fc, k2 cJ 20 5 G), (hd, ka cJ 13 a2), (md, ka cJ 17 P2), (lo, k2 cJ 20 5 E2), (tb, k2 cJ 221 13 M2), (rw, ki cI 13 L2), (bm, k2 cJ 169 13 B2), (nu, ka cJ 31 T2), (tu, k2 cJ 20 5 U2)] ++ gs 4 er cJ 5 E) ++ gs 4 fr cJ 5 F) ++ gs 13 mb cJ 13 Bm) ++ gs 17 ra cJ 13 M) → va_S A s.heap H locs → lv_has ls 7 [(0, .ref b), (1, .ref h), (2, .ref g), (3, .ref ou), (4, .int (iz z4))] → W p l e room_1 s m args below meth c H locs (kc + 1) (ks + 6) Q (F0 m 1338 ls [])) (hP : va_P D vC (((([(ou, kl cJ 1 V), (h, rO od fa ot ah te id rt bs kn), (fa, go cO 4 fr), (ot, go cO 4 er), (ah, ka cJ 13 a), (te, ka cJ 31 T), (id, ka cJ 5 J), (rt, rR fo cn wh pt rs sq on tw), (fo, ka cJ 4 Fo), (wh, ka cJ 5 Y), (pt, ka cJ 5 P), (rs, ka cJ 5 r), (sq, ka cJ 8 S), (on, ka cJ 5 a1), (tw, ka cJ 5 b1), (bs, rB ro le me bn), (ro, go cO 17 ra), (le, ki cI 13 Lx), (me, go cO 13 mb), (g, rM cd od fc hd md lo lv tb rw bm mn nu tu), (fc, k2 cJ 20 5 G), (hd, ka cJ 13 a2), (md, ka cJ 17 P2), (lo, k2 cJ 20 5 E2), (tb, k2 cJ 221 13 M2), (rw, ki cI 13 L2), (bm, k2 cJ 169 13 B2), (nu, ka cJ 31 T2), (tu, k2 cJ 20 5 U2)] ++ gs 4 er cJ 5 E) ++ gs 4 fr cJ 5 F) ++ gs 13 mb cJ 13 Bm) ++ gs 17 ra cJ 13 M) H) (hD : va_D A (((([(ou, kl cJ 1 V), (h, rO od fa ot ah te id rt bs kn), (fa, go cO 4 fr), (ot, go cO 4 er), (ah, ka cJ 13 a), (te, ka cJ 31 T), (id, ka cJ 5 J), (rt, rR fo cn wh pt rs sq on tw), (fo, ka cJ 4 Fo), (wh, ka cJ 5 Y), (pt, ka cJ 5 P), (rs, ka cJ 5 r), (sq, ka cJ 8 S), (on, ka cJ 5 a1), (tw, ka cJ 5 b1), (bs, rB ro le me bn), (ro, go cO 17 ra), (le, ki cI 13 Lx), (me, go cO 13 mb), (g, rM cd od fc hd md lo lv tb rw bm mn nu tu), (fc, k2 cJ 20 5 G), (hd, ka cJ 13 a2), (md, ka cJ 17 P2), (lo, k2 cJ 20 5 E2), (tb, k2 cJ 221 13 M2), (rw, ki cI 13 L2), (bm, k2 cJ 169 13 B2), (nu, ka cJ 31 T2), (tu, k2 cJ 20 5 U2)] ++ gs 4 er cJ 5 E) ++ gs 4 fr cJ 5 F) ++ gs 13 mb cJ 13 Bm) ++ gs 17 ra cJ 13 M)) (hS : va_S A s.heap H locs) (hl : lv_has ls 7 [(0, .ref b), (1, .ref h), (2, .ref g), (3, .ref ou), (4, .int (iz z4))]) : W p l e room_1 s m args below meth c H locs kc ks Q (F0 m 1261 ls []) := by
  obtain ⟨hI, hJ⟩ := hI
  have hfc : kc + 0 ≤ room_1.cells := by show kc + 0 ≤ 601024; omega
  have hfs : ks + 0 ≤ room_1.slots := by show ks + 0 ≤ 7293000; omega
  have hfc1 : kc + 1 ≤ room_1.cells := hkc
  have hfs1 : ks + 6 ≤ room_1.slots := hks
  refine lv_aload_n hx hb d_L_law_1261 rfl (lv_at hl 1 rfl) ?_
  refine rsT_callv (va_runV (As := []) (rest := []) ⟨hx, hb, hml, hown, hts⟩ (m_O_turn_S l D cJ cO h fa ot ah te id rt bs od kn ct fr er E F o hod ho3) (cwV 0 hts (kb_gi (kb_c kw_183 (kb_c kw_184 (kb_c kw_185 (kb_c kw_1 (kb_c kw_186 kb_all)))))) rfl rfl rfl (by decide +kernel) ⟨Nat.le_of_ble_eq_true rfl, Nat.le_of_ble_eq_true rfl⟩) ⟨rz_blind, va_recv hK hP (ci := 2) (q0 := 1) rfl rfl, fun U h8 h9 => ⟨(rs_pre (rs_a_2_2 hP) (rs_aD_2_2 hD) hK hN [1, 2, 3] rfl rfl [0, 1] rfl) U h8 h9, rz_go hC hS (rs_in (rs_aD_2_2 hD) (is := [1, 2, 3]) rfl) h8 h9⟩⟩ rfl rfl hl.1 rfl (lv_room (Nat.le_of_ble_eq_true rfl)) d_L_law_1262 ⟨hfc, hfs⟩) (rs_a_2_2 hP) (rs_aD_2_2 hD) hS [1, 2, 3] rfl (fun _ => rfl) (fun _ => gs_adr2 (gs_adr _ _ _ _ _ _) (gs_adr _ _ _ _ _ _)) (fun u1 H locs hw1 hP hD hS => ?_)
  have hP := rs_b_2_2 hP
  have hD := rs_bD_2_2 hD
  have hP : va_P D vC (((([(ou, kl cJ 1 V), (h, rO od fa ot ah te id rt bs 0), (fa, go cO 4 fr), (ot, go cO 4 er), (ah, ka cJ 13 a), (te, ka cJ 31 T), (id, ka cJ 5 J), (rt, rR fo cn wh pt rs sq on tw), (fo, ka cJ 4 Fo), (wh, ka cJ 5 Y), (pt, ka cJ 5 P), (rs, ka cJ 5 r), (sq, ka cJ 8 S), (on, ka cJ 5 a1), (tw, ka cJ 5 b1), (bs, rB ro le me bn), (ro, go cO 17 ra), (le, ki cI 13 Lx), (me, go cO 13 mb), (g, rM cd od fc hd md lo lv tb rw bm mn nu tu), (fc, k2 cJ 20 5 G), (hd, ka cJ 13 a2), (md, ka cJ 17 P2), (lo, k2 cJ 20 5 E2), (tb, k2 cJ 221 13 M2), (rw, ki cI 13 L2), (bm, k2 cJ 169 13 B2), (nu, ka cJ 31 T2), (tu, k2 cJ 20 5 U2)] ++ gs 4 er cJ 5 (tuE F o E (o + 1))) ++ gs 4 fr cJ 5 (cpF (tuE F o E (o + 1)) F (o + 1))) ++ gs 13 mb cJ 13 Bm) ++ gs 17 ra cJ 13 M) H := hP
  have hD : va_D A (((([(ou, kl cJ 1 V), (h, rO od fa ot ah te id rt bs 0), (fa, go cO 4 fr), (ot, go cO 4 er), (ah, ka cJ 13 a), (te, ka cJ 31 T), (id, ka cJ 5 J), (rt, rR fo cn wh pt rs sq on tw), (fo, ka cJ 4 Fo), (wh, ka cJ 5 Y), (pt, ka cJ 5 P), (rs, ka cJ 5 r), (sq, ka cJ 8 S), (on, ka cJ 5 a1), (tw, ka cJ 5 b1), (bs, rB ro le me bn), (ro, go cO 17 ra), (le, ki cI 13 Lx), (me, go cO 13 mb), (g, rM cd od fc hd md lo lv tb rw bm mn nu tu), (fc, k2 cJ 20 5 G), (hd, ka cJ 13 a2), (md, ka cJ 17 P2), (lo, k2 cJ 20 5 E2), (tb, k2 cJ 221 13 M2), (rw, ki cI 13 L2), (bm, k2 cJ 169 13 B2), (nu, ka cJ 31 T2), (tu, k2 cJ 20 5 U2)] ++ gs 4 er cJ 5 (tuE F o E (o + 1))) ++ gs 4 fr cJ 5 (cpF (tuE F o E (o + 1)) F (o + 1))) ++ gs 13 mb cJ 13 Bm) ++ gs 17 ra cJ 13 M) := hD
  refine lv_aload_n hx hb d_L_law_1265 rfl (lv_at hl 2 rfl) ?_
  refine rc_callv (va_runV (As := []) (rest := []) ⟨hx, hb, hml, hown, hts⟩ (m_M_turn l D cJ cI g cd od fc hd md lo lv tb rw bm mn nu tu G U2 o hod ho3) (cwV 0 hts (kb_gi (kb_c kw_606 (kb_c kw_607 (kb_c kw_608 (kb_c kw_5 (kb_c kw_609 kb_all)))))) rfl rfl rfl (by decide +kernel) ⟨Nat.le_of_ble_eq_true rfl, Nat.le_of_ble_eq_true rfl⟩) ⟨rc_blind, va_recv hK hP (ci := 3) (q0 := 19) rfl rfl, rc_pre hP hD hK hN [19, 20, 28] rfl rfl [0, 2] rfl⟩ rfl rfl hl.1 rfl (lv_room (Nat.le_of_ble_eq_true rfl)) d_L_law_1266 ⟨hfc, hfs⟩) hP hD hS [19, 20, 28] rfl (fun _ => rfl) (fun u2 H locs hw2 hP hD hS => ?_)
  have hP : va_P D vC (((([(ou, kl cJ 1 V), (h, rO od fa ot ah te id rt bs 0), (fa, go cO 4 fr), (ot, go cO 4 er), (ah, ka cJ 13 a), (te, ka cJ 31 T), (id, ka cJ 5 J), (rt, rR fo cn wh pt rs sq on tw), (fo, ka cJ 4 Fo), (wh, ka cJ 5 Y), (pt, ka cJ 5 P), (rs, ka cJ 5 r), (sq, ka cJ 8 S), (on, ka cJ 5 a1), (tw, ka cJ 5 b1), (bs, rB ro le me bn), (ro, go cO 17 ra), (le, ki cI 13 Lx), (me, go cO 13 mb), (g, rM 0 od fc hd md lo lv tb rw bm mn nu tu), (fc, k2 cJ 20 5 (c2 (tnI G (c2 (fun _ _ => 0) U2 20) (o + 1)) G 20)), (hd, ka cJ 13 a2), (md, ka cJ 17 P2), (lo, k2 cJ 20 5 E2), (tb, k2 cJ 221 13 M2), (rw, ki cI 13 L2), (bm, k2 cJ 169 13 B2), (nu, ka cJ 31 T2), (tu, k2 cJ 20 5 (tnI G (c2 (fun _ _ => 0) U2 20) (o + 1)))] ++ gs 4 er cJ 5 (tuE F o E (o + 1))) ++ gs 4 fr cJ 5 (cpF (tuE F o E (o + 1)) F (o + 1))) ++ gs 13 mb cJ 13 Bm) ++ gs 17 ra cJ 13 M) H := hP
  have hD : va_D A (((([(ou, kl cJ 1 V), (h, rO od fa ot ah te id rt bs 0), (fa, go cO 4 fr), (ot, go cO 4 er), (ah, ka cJ 13 a), (te, ka cJ 31 T), (id, ka cJ 5 J), (rt, rR fo cn wh pt rs sq on tw), (fo, ka cJ 4 Fo), (wh, ka cJ 5 Y), (pt, ka cJ 5 P), (rs, ka cJ 5 r), (sq, ka cJ 8 S), (on, ka cJ 5 a1), (tw, ka cJ 5 b1), (bs, rB ro le me bn), (ro, go cO 17 ra), (le, ki cI 13 Lx), (me, go cO 13 mb), (g, rM 0 od fc hd md lo lv tb rw bm mn nu tu), (fc, k2 cJ 20 5 (c2 (tnI G (c2 (fun _ _ => 0) U2 20) (o + 1)) G 20)), (hd, ka cJ 13 a2), (md, ka cJ 17 P2), (lo, k2 cJ 20 5 E2), (tb, k2 cJ 221 13 M2), (rw, ki cI 13 L2), (bm, k2 cJ 169 13 B2), (nu, ka cJ 31 T2), (tu, k2 cJ 20 5 (tnI G (c2 (fun _ _ => 0) U2 20) (o + 1)))] ++ gs 4 er cJ 5 (tuE F o E (o + 1))) ++ gs 4 fr cJ 5 (cpF (tuE F o E (o + 1)) F (o + 1))) ++ gs 13 mb cJ 13 Bm) ++ gs 17 ra cJ 13 M) := hD
  refine lv_goto (tgt := 1338) hx hb d_L_law_1269 (by decide) ?_
  refine W.widen (k := kc + 1) (n := ks + 6) (by omega) (by omega) ?_
  exact hend V 0 a T J cn Fo Y P r S a1 b1 bn Lx (tuE F o E (o + 1)) (cpF (tuE F o E (o + 1)) F (o + 1)) Bm M 0 lv mn (c2 (tnI G (c2 (fun _ _ => 0) U2 20) (o + 1)) G 20) a2 P2 E2 M2 L2 B2 T2 (tnI G (c2 (fun _ _ => 0) U2 20) (o + 1)) H locs ls ⟨lw_turn hI ho3 U2, hJ⟩ hP hD hS (lv_sub hl [0, 1, 2, 3, 4] rfl)
set_option maxHeartbeats 4000000 in
set_option maxRecDepth 100000 in
theorem lc_15 {cJ cO cI : ClassId} {ou h fa ot ah te id rt bs : Nat} {od : Int} {fo wh pt rs sq on tw : Nat} {ro le me : Nat} {fr er mb ra : Nat → Nat} {g : Nat} {fc hd md lo tb rw bm nu tu : Nat} {o : Nat} {sa : Nat → Nat} {ct b L : Nat} {xs : Nat → Int32} {V : Nat → Int64} {kn : Int} {a : Nat → ro_K} {T : Nat → ro_K} {J : Nat → ro_K} {cn : Int} {Fo : Nat → ro_K} {Y : Nat → ro_K} {P : Nat → ro_K} {r : Nat → ro_K} {S : Nat → ro_K} {a1 : Nat → ro_K} {b1 : Nat → ro_K} {bn : Int} {Lx : Nat → Int} {E : Nat → Nat → ro_K} {F : Nat → Nat → ro_K} {Bm : Nat → Nat → ro_K} {M : Nat → Nat → ro_K} {cd : Int} {lv : Int} {mn : Int} {G : Nat → Nat → ro_K} {a2 : Nat → ro_K} {P2 : Nat → ro_K} {E2 : Nat → Nat → ro_K} {M2 : Nat → Nat → ro_K} {L2 : Nat → Int} {B2 : Nat → Nat → ro_K} {T2 : Nat → ro_K} {U2 : Nat → Nat → ro_K} {z4 : Int} {k kc ks : Nat} {H : Heap} {locs : List Loc} {ls : Array Slot} (hx : p.tables.exec = Jvm.exec) (hb : c.code = c_L_law) (hml : c.maxLocals = 7) (hown : s.vm.findClass R_L = some m.cls) (hts : ∀ w ∈ kb, w.before args s = true) (hK : va_K D vC [(cJ, .long), (cO, .array .long), (cI, .int)] s) (hN : rc_N s) (hst : l.stackTraces = false) (hE : rx_E sa A s s.heap) (hC : rz_C ct A s s.heap) (hX : va_X b L xs s s.heap) (hbl : b < s.heap.size) (hbA : ¬ A b) (hL : L ≤ 5121) (hod : od = (o : Int)) (ho1 : 1 ≤ o) (ho3 : o ≤ 3) (hz4 : z4 = (k : Int)) (hk9 : k + 9 < L) (hkc : kc + 1 ≤ 601024) (hks : ks + 6 ≤ 7293000) (hI : (lw_I o F E a kn M Lx Bm bn G a2 ∧ J 4 = 0)) (hend : ∀ (V : Nat → Int64) (kn : Int) (a : Nat → ro_K) (T : Nat → ro_K) (J : Nat → ro_K) (cn : Int) (Fo : Nat → ro_K) (Y : Nat → ro_K) (P : Nat → ro_K) (r : Nat → ro_K) (S : Nat → ro_K) (a1 : Nat → ro_K) (b1 : Nat → ro_K) (bn : Int) (Lx : Nat → Int) (E : Nat → Nat → ro_K) (F : Nat → Nat → ro_K) (Bm : Nat → Nat → ro_K) (M : Nat → Nat → ro_K) (cd : Int) (lv : Int) (mn : Int) (G : Nat → Nat → ro_K) (a2 : Nat → ro_K) (P2 : Nat → ro_K) (E2 : Nat → Nat → ro_K) (M2 : Nat → Nat → ro_K) (L2 : Nat → Int) (B2 : Nat → Nat → ro_K) (T2 : Nat → ro_K) (U2 : Nat → Nat → ro_K) (H : Heap) (locs : List Loc) (ls : Array Slot), (lw_I o F E a kn M Lx Bm bn G a2 ∧ J 4 = 0) → va_P D vC (((([(ou, kl cJ 1 V), (h, rO od fa ot ah te id rt bs kn), (fa, go cO 4 fr), (ot, go cO 4 er), (ah, ka cJ 13 a), (te, ka cJ 31 T), (id, ka cJ 5 J), (rt, rR fo cn wh pt rs sq on tw), (fo, ka cJ 4 Fo), (wh, ka cJ 5 Y), (pt, ka cJ 5 P), (rs, ka cJ 5 r), (sq, ka cJ 8 S), (on, ka cJ 5 a1), (tw, ka cJ 5 b1), (bs, rB ro le me bn), (ro, go cO 17 ra), (le, ki cI 13 Lx), (me, go cO 13 mb), (g, rM cd od fc hd md lo lv tb rw bm mn nu tu), (fc, k2 cJ 20 5 G), (hd, ka cJ 13 a2), (md, ka cJ 17 P2), (lo, k2 cJ 20 5 E2), (tb, k2 cJ 221 13 M2), (rw, ki cI 13 L2), (bm, k2 cJ 169 13 B2), (nu, ka cJ 31 T2), (tu, k2 cJ 20 5 U2)] ++ gs 4 er cJ 5 E) ++ gs 4 fr cJ 5 F) ++ gs 13 mb cJ 13 Bm) ++ gs 17 ra cJ 13 M) H → va_D A (((([(ou, kl cJ 1 V), (h, rO od fa ot ah te id rt bs kn), (fa, go cO 4 fr), (ot, go cO 4 er), (ah, ka cJ 13 a), (te, ka cJ 31 T), (id, ka cJ 5 J), (rt, rR fo cn wh pt rs sq on tw), (fo, ka cJ 4 Fo), (wh, ka cJ 5 Y), (pt, ka cJ 5 P), (rs, ka cJ 5 r), (sq, ka cJ 8 S), (on, ka cJ 5 a1), (tw, ka cJ 5 b1), (bs, rB ro le me bn), (ro, go cO 17 ra), (le, ki cI 13 Lx), (me, go cO 13 mb), (g, rM cd od fc hd md lo lv tb rw bm mn nu tu), (fc, k2 cJ 20 5 G), (hd, ka cJ 13 a2), (md, ka cJ 17 P2), (lo, k2 cJ 20 5 E2), (tb, k2 cJ 221 13 M2), (rw, ki cI 13 L2), (bm, k2 cJ 169 13 B2), (nu, ka cJ 31 T2), (tu, k2 cJ 20 5 U2)] ++ gs 4 er cJ 5 E) ++ gs 4 fr cJ 5 F) ++ gs 13 mb cJ 13 Bm) ++ gs 17 ra cJ 13 M) → va_S A s.heap H locs → lv_has ls 7 [(0, .ref b), (1, .ref h), (2, .ref g), (3, .ref ou), (4, .int (iz z4))] → W p l e room_1 s m args below meth c H locs (kc + 1) (ks + 6) Q (F0 m 1338 ls [])) (hP : va_P D vC (((([(ou, kl cJ 1 V), (h, rO od fa ot ah te id rt bs kn), (fa, go cO 4 fr), (ot, go cO 4 er), (ah, ka cJ 13 a), (te, ka cJ 31 T), (id, ka cJ 5 J), (rt, rR fo cn wh pt rs sq on tw), (fo, ka cJ 4 Fo), (wh, ka cJ 5 Y), (pt, ka cJ 5 P), (rs, ka cJ 5 r), (sq, ka cJ 8 S), (on, ka cJ 5 a1), (tw, ka cJ 5 b1), (bs, rB ro le me bn), (ro, go cO 17 ra), (le, ki cI 13 Lx), (me, go cO 13 mb), (g, rM cd od fc hd md lo lv tb rw bm mn nu tu), (fc, k2 cJ 20 5 G), (hd, ka cJ 13 a2), (md, ka cJ 17 P2), (lo, k2 cJ 20 5 E2), (tb, k2 cJ 221 13 M2), (rw, ki cI 13 L2), (bm, k2 cJ 169 13 B2), (nu, ka cJ 31 T2), (tu, k2 cJ 20 5 U2)] ++ gs 4 er cJ 5 E) ++ gs 4 fr cJ 5 F) ++ gs 13 mb cJ 13 Bm) ++ gs 17 ra cJ 13 M) H) (hD : va_D A (((([(ou, kl cJ 1 V), (h, rO od fa ot ah te id rt bs kn), (fa, go cO 4 fr), (ot, go cO 4 er), (ah, ka cJ 13 a), (te, ka cJ 31 T), (id, ka cJ 5 J), (rt, rR fo cn wh pt rs sq on tw), (fo, ka cJ 4 Fo), (wh, ka cJ 5 Y), (pt, ka cJ 5 P), (rs, ka cJ 5 r), (sq, ka cJ 8 S), (on, ka cJ 5 a1), (tw, ka cJ 5 b1), (bs, rB ro le me bn), (ro, go cO 17 ra), (le, ki cI 13 Lx), (me, go cO 13 mb), (g, rM cd od fc hd md lo lv tb rw bm mn nu tu), (fc, k2 cJ 20 5 G), (hd, ka cJ 13 a2), (md, ka cJ 17 P2), (lo, k2 cJ 20 5 E2), (tb, k2 cJ 221 13 M2), (rw, ki cI 13 L2), (bm, k2 cJ 169 13 B2), (nu, ka cJ 31 T2), (tu, k2 cJ 20 5 U2)] ++ gs 4 er cJ 5 E) ++ gs 4 fr cJ 5 F) ++ gs 13 mb cJ 13 Bm) ++ gs 17 ra cJ 13 M)) (hS : va_S A s.heap H locs) (hl : lv_has ls 7 [(0, .ref b), (1, .ref h), (2, .ref g), (3, .ref ou), (4, .int (iz z4))]) : W p l e room_1 s m args below meth c H locs kc ks Q (F0 m 1272 ls []) := by
  obtain ⟨hI, hJ⟩ := hI
  have hs1 := sx_in xs (k + 1)
  have hs2 := sx_in xs (k + 2)
  have hfc : kc + 0 ≤ room_1.cells := by show kc + 0 ≤ 601024; omega
  have hfs : ks + 0 ≤ room_1.slots := by show ks + 0 ≤ 7293000; omega
  have hfc1 : kc + 1 ≤ room_1.cells := hkc
  have hfs1 : ks + 6 ≤ room_1.slots := hks
  refine lv_aload_n hx hb d_L_law_1272 rfl (lv_at hl 1 rfl) ?_
  refine lv_aload_n hx hb d_L_law_1273 rfl (lv_at hl 0 rfl) ?_
  refine lv_iload hx hb d_L_law_1274 (lv_at hl 4 rfl) ?_
  refine rz_iconst hx hb d_L_law_1276 ?_
  refine rz_iadd hx hb d_L_law_1277 ?_
  refine rl_sld hx hb hX hbl hbA hS (k + 1) d_L_law_1278 ?_
  refine lv_i2l hx hb d_L_law_1279 rfl ?_
  refine rz_bipush hx hb d_L_law_1280 (by decide) ?_
  refine lv_lshl hx hb d_L_law_1282 rfl ?_
  refine lv_aload_n hx hb d_L_law_1283 rfl (lv_at hl 0 rfl) ?_
  refine lv_iload hx hb d_L_law_1284 (lv_at hl 4 rfl) ?_
  refine rz_iconst hx hb d_L_law_1286 ?_
  refine rz_iadd hx hb d_L_law_1287 ?_
  refine rl_sld hx hb hX hbl hbA hS (k + 2) d_L_law_1288 ?_
  refine lv_i2l hx hb d_L_law_1289 rfl ?_
  refine lv_ldc2 (v := 4294967295) hx hb hown (hts _ kw_712) d_L_law_1290 ?_
  refine lv_land hx hb d_L_law_1293 ?_
  refine lv_lor hx hb d_L_law_1294 ?_
  refine rsT_callv (va_runV (As := [.long (lwd (sx xs (k + 1)) (sx xs (k + 2)))]) (rest := []) ⟨hx, hb, hml, hown, hts⟩ (m_O_move l D cJ cO h fa ot ah te id rt bs od kn fr F (lwd (sx xs (k + 1)) (sx xs (k + 2))) o hod ho3) (cwV 1 hts (kb_gi (kb_c kw_199 (kb_c kw_200 (kb_c kw_201 (kb_c kw_1 (kb_c kw_202 kb_all)))))) rfl rfl rfl (by decide +kernel) ⟨Nat.le_of_ble_eq_true rfl, Nat.le_of_ble_eq_true rfl⟩) ⟨rc_blind, va_recv hK hP (ci := 2) (q0 := 1) rfl rfl, rs_pre (rs_a2 hP) (rs_aD2 hD) hK hN [1, 2] rfl rfl [0, 1] rfl⟩ rfl rfl hl.1 rfl (lv_room (Nat.le_of_ble_eq_true rfl)) d_L_law_1295 ⟨hfc, hfs⟩) (rs_a2 hP) (rs_aD2 hD) hS [1, 2] rfl (fun _ => rfl) (fun _ => gs_adr _ _ _ _ _ _) (fun u1 H locs hw1 hP hD hS => ?_)
  have hP := rs_b2 hP
  have hD := rs_bD2 hD
  have hP : va_P D vC (((([(ou, kl cJ 1 V), (h, rO od fa ot ah te id rt bs 0), (fa, go cO 4 fr), (ot, go cO 4 er), (ah, ka cJ 13 a), (te, ka cJ 31 T), (id, ka cJ 5 J), (rt, rR fo cn wh pt rs sq on tw), (fo, ka cJ 4 Fo), (wh, ka cJ 5 Y), (pt, ka cJ 5 P), (rs, ka cJ 5 r), (sq, ka cJ 8 S), (on, ka cJ 5 a1), (tw, ka cJ 5 b1), (bs, rB ro le me bn), (ro, go cO 17 ra), (le, ki cI 13 Lx), (me, go cO 13 mb), (g, rM cd od fc hd md lo lv tb rw bm mn nu tu), (fc, k2 cJ 20 5 G), (hd, ka cJ 13 a2), (md, ka cJ 17 P2), (lo, k2 cJ 20 5 E2), (tb, k2 cJ 221 13 M2), (rw, ki cI 13 L2), (bm, k2 cJ 169 13 B2), (nu, ka cJ 31 T2), (tu, k2 cJ 20 5 U2)] ++ gs 4 er cJ 5 E) ++ gs 4 fr cJ 5 (mvF (ro_k (lwd (sx xs (k + 1)) (sx xs (k + 2))).toInt) F (o + 1))) ++ gs 13 mb cJ 13 Bm) ++ gs 17 ra cJ 13 M) H := hP
  have hD : va_D A (((([(ou, kl cJ 1 V), (h, rO od fa ot ah te id rt bs 0), (fa, go cO 4 fr), (ot, go cO 4 er), (ah, ka cJ 13 a), (te, ka cJ 31 T), (id, ka cJ 5 J), (rt, rR fo cn wh pt rs sq on tw), (fo, ka cJ 4 Fo), (wh, ka cJ 5 Y), (pt, ka cJ 5 P), (rs, ka cJ 5 r), (sq, ka cJ 8 S), (on, ka cJ 5 a1), (tw, ka cJ 5 b1), (bs, rB ro le me bn), (ro, go cO 17 ra), (le, ki cI 13 Lx), (me, go cO 13 mb), (g, rM cd od fc hd md lo lv tb rw bm mn nu tu), (fc, k2 cJ 20 5 G), (hd, ka cJ 13 a2), (md, ka cJ 17 P2), (lo, k2 cJ 20 5 E2), (tb, k2 cJ 221 13 M2), (rw, ki cI 13 L2), (bm, k2 cJ 169 13 B2), (nu, ka cJ 31 T2), (tu, k2 cJ 20 5 U2)] ++ gs 4 er cJ 5 E) ++ gs 4 fr cJ 5 (mvF (ro_k (lwd (sx xs (k + 1)) (sx xs (k + 2))).toInt) F (o + 1))) ++ gs 13 mb cJ 13 Bm) ++ gs 17 ra cJ 13 M) := hD
  refine lv_aload_n hx hb d_L_law_1298 rfl (lv_at hl 2 rfl) ?_
  refine lv_aload_n hx hb d_L_law_1299 rfl (lv_at hl 0 rfl) ?_
  refine lv_iload hx hb d_L_law_1300 (lv_at hl 4 rfl) ?_
  refine rz_iconst hx hb d_L_law_1302 ?_
  refine rz_iadd hx hb d_L_law_1303 ?_
  refine rl_sld hx hb hX hbl hbA hS (k + 1) d_L_law_1304 ?_
  refine lv_i2l hx hb d_L_law_1305 rfl ?_
  refine rz_bipush hx hb d_L_law_1306 (by decide) ?_
  refine lv_lshl hx hb d_L_law_1308 rfl ?_
  refine lv_aload_n hx hb d_L_law_1309 rfl (lv_at hl 0 rfl) ?_
  refine lv_iload hx hb d_L_law_1310 (lv_at hl 4 rfl) ?_
  refine rz_iconst hx hb d_L_law_1312 ?_
  refine rz_iadd hx hb d_L_law_1313 ?_
  refine rl_sld hx hb hX hbl hbA hS (k + 2) d_L_law_1314 ?_
  refine lv_i2l hx hb d_L_law_1315 rfl ?_
  refine lv_ldc2 (v := 4294967295) hx hb hown (hts _ kw_712) d_L_law_1316 ?_
  refine lv_land hx hb d_L_law_1319 ?_
  refine lv_lor hx hb d_L_law_1320 ?_
  refine rc_callv (va_runV (As := [.long (lwd (sx xs (k + 1)) (sx xs (k + 2)))]) (rest := []) ⟨hx, hb, hml, hown, hts⟩ (m_M_move l D cJ cI g cd od fc hd md lo lv tb rw bm mn nu tu G E2 (lwd (sx xs (k + 1)) (sx xs (k + 2)))) (cwV 1 hts (kb_gi (kb_c kw_598 (kb_c kw_599 (kb_c kw_600 (kb_c kw_5 (kb_c kw_601 kb_all)))))) rfl rfl rfl (by decide +kernel) ⟨Nat.le_of_ble_eq_true rfl, Nat.le_of_ble_eq_true rfl⟩) ⟨rc_blind, va_recv hK hP (ci := 3) (q0 := 19) rfl rfl, rc_pre hP hD hK hN [19, 20, 23] rfl rfl [0, 2] rfl⟩ rfl rfl hl.1 rfl (lv_room (Nat.le_of_ble_eq_true rfl)) d_L_law_1321 ⟨hfc, hfs⟩) hP hD hS [19, 20, 23] rfl (fun _ => rfl) (fun u2 H locs hw2 hP hD hS => ?_)
  have hP : va_P D vC (((([(ou, kl cJ 1 V), (h, rO od fa ot ah te id rt bs 0), (fa, go cO 4 fr), (ot, go cO 4 er), (ah, ka cJ 13 a), (te, ka cJ 31 T), (id, ka cJ 5 J), (rt, rR fo cn wh pt rs sq on tw), (fo, ka cJ 4 Fo), (wh, ka cJ 5 Y), (pt, ka cJ 5 P), (rs, ka cJ 5 r), (sq, ka cJ 8 S), (on, ka cJ 5 a1), (tw, ka cJ 5 b1), (bs, rB ro le me bn), (ro, go cO 17 ra), (le, ki cI 13 Lx), (me, go cO 13 mb), (g, rM 0 od fc hd md lo lv tb rw bm mn nu tu), (fc, k2 cJ 20 5 (c2 (mvF (ro_k (lwd (sx xs (k + 1)) (sx xs (k + 2))).toInt) (c2 G E2 20) 4) G 20)), (hd, ka cJ 13 a2), (md, ka cJ 17 P2), (lo, k2 cJ 20 5 (mvF (ro_k (lwd (sx xs (k + 1)) (sx xs (k + 2))).toInt) (c2 G E2 20) 4)), (tb, k2 cJ 221 13 M2), (rw, ki cI 13 L2), (bm, k2 cJ 169 13 B2), (nu, ka cJ 31 T2), (tu, k2 cJ 20 5 U2)] ++ gs 4 er cJ 5 E) ++ gs 4 fr cJ 5 (mvF (ro_k (lwd (sx xs (k + 1)) (sx xs (k + 2))).toInt) F (o + 1))) ++ gs 13 mb cJ 13 Bm) ++ gs 17 ra cJ 13 M) H := hP
  have hD : va_D A (((([(ou, kl cJ 1 V), (h, rO od fa ot ah te id rt bs 0), (fa, go cO 4 fr), (ot, go cO 4 er), (ah, ka cJ 13 a), (te, ka cJ 31 T), (id, ka cJ 5 J), (rt, rR fo cn wh pt rs sq on tw), (fo, ka cJ 4 Fo), (wh, ka cJ 5 Y), (pt, ka cJ 5 P), (rs, ka cJ 5 r), (sq, ka cJ 8 S), (on, ka cJ 5 a1), (tw, ka cJ 5 b1), (bs, rB ro le me bn), (ro, go cO 17 ra), (le, ki cI 13 Lx), (me, go cO 13 mb), (g, rM 0 od fc hd md lo lv tb rw bm mn nu tu), (fc, k2 cJ 20 5 (c2 (mvF (ro_k (lwd (sx xs (k + 1)) (sx xs (k + 2))).toInt) (c2 G E2 20) 4) G 20)), (hd, ka cJ 13 a2), (md, ka cJ 17 P2), (lo, k2 cJ 20 5 (mvF (ro_k (lwd (sx xs (k + 1)) (sx xs (k + 2))).toInt) (c2 G E2 20) 4)), (tb, k2 cJ 221 13 M2), (rw, ki cI 13 L2), (bm, k2 cJ 169 13 B2), (nu, ka cJ 31 T2), (tu, k2 cJ 20 5 U2)] ++ gs 4 er cJ 5 E) ++ gs 4 fr cJ 5 (mvF (ro_k (lwd (sx xs (k + 1)) (sx xs (k + 2))).toInt) F (o + 1))) ++ gs 13 mb cJ 13 Bm) ++ gs 17 ra cJ 13 M) := hD
  refine lv_goto (tgt := 1338) hx hb d_L_law_1324 (by decide) ?_
  refine W.widen (k := kc + 1) (n := ks + 6) (by omega) (by omega) ?_
  exact hend V 0 a T J cn Fo Y P r S a1 b1 bn Lx E (mvF (ro_k (lwd (sx xs (k + 1)) (sx xs (k + 2))).toInt) F (o + 1)) Bm M 0 lv mn (c2 (mvF (ro_k (lwd (sx xs (k + 1)) (sx xs (k + 2))).toInt) (c2 G E2 20) 4) G 20) a2 P2 (mvF (ro_k (lwd (sx xs (k + 1)) (sx xs (k + 2))).toInt) (c2 G E2 20) 4) M2 L2 B2 T2 U2 H locs ls ⟨lw_move hI ho3 (lwd (sx xs (k + 1)) (sx xs (k + 2))) E2, hJ⟩ hP hD hS (lv_sub hl [0, 1, 2, 3, 4] rfl)
set_option maxHeartbeats 4000000 in
set_option maxRecDepth 100000 in
theorem lc_16 {cJ cO cI : ClassId} {ou h fa ot ah te id rt bs : Nat} {od : Int} {fo wh pt rs sq on tw : Nat} {ro le me : Nat} {fr er mb ra : Nat → Nat} {g : Nat} {fc hd md lo tb rw bm nu tu : Nat} {o : Nat} {sa : Nat → Nat} {ct b L : Nat} {xs : Nat → Int32} {V : Nat → Int64} {kn : Int} {a : Nat → ro_K} {T : Nat → ro_K} {J : Nat → ro_K} {cn : Int} {Fo : Nat → ro_K} {Y : Nat → ro_K} {P : Nat → ro_K} {r : Nat → ro_K} {S : Nat → ro_K} {a1 : Nat → ro_K} {b1 : Nat → ro_K} {bn : Int} {Lx : Nat → Int} {E : Nat → Nat → ro_K} {F : Nat → Nat → ro_K} {Bm : Nat → Nat → ro_K} {M : Nat → Nat → ro_K} {cd : Int} {lv : Int} {mn : Int} {G : Nat → Nat → ro_K} {a2 : Nat → ro_K} {P2 : Nat → ro_K} {E2 : Nat → Nat → ro_K} {M2 : Nat → Nat → ro_K} {L2 : Nat → Int} {B2 : Nat → Nat → ro_K} {T2 : Nat → ro_K} {U2 : Nat → Nat → ro_K} {z4 : Int} {k kc ks : Nat} {H : Heap} {locs : List Loc} {ls : Array Slot} (hx : p.tables.exec = Jvm.exec) (hb : c.code = c_L_law) (hml : c.maxLocals = 7) (hown : s.vm.findClass R_L = some m.cls) (hts : ∀ w ∈ kb, w.before args s = true) (hK : va_K D vC [(cJ, .long), (cO, .array .long), (cI, .int)] s) (hN : rc_N s) (hst : l.stackTraces = false) (hE : rx_E sa A s s.heap) (hC : rz_C ct A s s.heap) (hX : va_X b L xs s s.heap) (hbl : b < s.heap.size) (hbA : ¬ A b) (hL : L ≤ 5121) (hod : od = (o : Int)) (ho1 : 1 ≤ o) (ho3 : o ≤ 3) (hz4 : z4 = (k : Int)) (hk9 : k + 9 < L) (hkc : kc + 1 ≤ 601024) (hks : ks + 6 ≤ 7293000) (hI : (lw_I o F E a kn M Lx Bm bn G a2 ∧ J 4 = 0)) (hend : ∀ (V : Nat → Int64) (kn : Int) (a : Nat → ro_K) (T : Nat → ro_K) (J : Nat → ro_K) (cn : Int) (Fo : Nat → ro_K) (Y : Nat → ro_K) (P : Nat → ro_K) (r : Nat → ro_K) (S : Nat → ro_K) (a1 : Nat → ro_K) (b1 : Nat → ro_K) (bn : Int) (Lx : Nat → Int) (E : Nat → Nat → ro_K) (F : Nat → Nat → ro_K) (Bm : Nat → Nat → ro_K) (M : Nat → Nat → ro_K) (cd : Int) (lv : Int) (mn : Int) (G : Nat → Nat → ro_K) (a2 : Nat → ro_K) (P2 : Nat → ro_K) (E2 : Nat → Nat → ro_K) (M2 : Nat → Nat → ro_K) (L2 : Nat → Int) (B2 : Nat → Nat → ro_K) (T2 : Nat → ro_K) (U2 : Nat → Nat → ro_K) (H : Heap) (locs : List Loc) (ls : Array Slot), (lw_I o F E a kn M Lx Bm bn G a2 ∧ J 4 = 0) → va_P D vC (((([(ou, kl cJ 1 V), (h, rO od fa ot ah te id rt bs kn), (fa, go cO 4 fr), (ot, go cO 4 er), (ah, ka cJ 13 a), (te, ka cJ 31 T), (id, ka cJ 5 J), (rt, rR fo cn wh pt rs sq on tw), (fo, ka cJ 4 Fo), (wh, ka cJ 5 Y), (pt, ka cJ 5 P), (rs, ka cJ 5 r), (sq, ka cJ 8 S), (on, ka cJ 5 a1), (tw, ka cJ 5 b1), (bs, rB ro le me bn), (ro, go cO 17 ra), (le, ki cI 13 Lx), (me, go cO 13 mb), (g, rM cd od fc hd md lo lv tb rw bm mn nu tu), (fc, k2 cJ 20 5 G), (hd, ka cJ 13 a2), (md, ka cJ 17 P2), (lo, k2 cJ 20 5 E2), (tb, k2 cJ 221 13 M2), (rw, ki cI 13 L2), (bm, k2 cJ 169 13 B2), (nu, ka cJ 31 T2), (tu, k2 cJ 20 5 U2)] ++ gs 4 er cJ 5 E) ++ gs 4 fr cJ 5 F) ++ gs 13 mb cJ 13 Bm) ++ gs 17 ra cJ 13 M) H → va_D A (((([(ou, kl cJ 1 V), (h, rO od fa ot ah te id rt bs kn), (fa, go cO 4 fr), (ot, go cO 4 er), (ah, ka cJ 13 a), (te, ka cJ 31 T), (id, ka cJ 5 J), (rt, rR fo cn wh pt rs sq on tw), (fo, ka cJ 4 Fo), (wh, ka cJ 5 Y), (pt, ka cJ 5 P), (rs, ka cJ 5 r), (sq, ka cJ 8 S), (on, ka cJ 5 a1), (tw, ka cJ 5 b1), (bs, rB ro le me bn), (ro, go cO 17 ra), (le, ki cI 13 Lx), (me, go cO 13 mb), (g, rM cd od fc hd md lo lv tb rw bm mn nu tu), (fc, k2 cJ 20 5 G), (hd, ka cJ 13 a2), (md, ka cJ 17 P2), (lo, k2 cJ 20 5 E2), (tb, k2 cJ 221 13 M2), (rw, ki cI 13 L2), (bm, k2 cJ 169 13 B2), (nu, ka cJ 31 T2), (tu, k2 cJ 20 5 U2)] ++ gs 4 er cJ 5 E) ++ gs 4 fr cJ 5 F) ++ gs 13 mb cJ 13 Bm) ++ gs 17 ra cJ 13 M) → va_S A s.heap H locs → lv_has ls 7 [(0, .ref b), (1, .ref h), (2, .ref g), (3, .ref ou), (4, .int (iz z4))] → W p l e room_1 s m args below meth c H locs (kc + 1) (ks + 6) Q (F0 m 1338 ls [])) (hP : va_P D vC (((([(ou, kl cJ 1 V), (h, rO od fa ot ah te id rt bs kn), (fa, go cO 4 fr), (ot, go cO 4 er), (ah, ka cJ 13 a), (te, ka cJ 31 T), (id, ka cJ 5 J), (rt, rR fo cn wh pt rs sq on tw), (fo, ka cJ 4 Fo), (wh, ka cJ 5 Y), (pt, ka cJ 5 P), (rs, ka cJ 5 r), (sq, ka cJ 8 S), (on, ka cJ 5 a1), (tw, ka cJ 5 b1), (bs, rB ro le me bn), (ro, go cO 17 ra), (le, ki cI 13 Lx), (me, go cO 13 mb), (g, rM cd od fc hd md lo lv tb rw bm mn nu tu), (fc, k2 cJ 20 5 G), (hd, ka cJ 13 a2), (md, ka cJ 17 P2), (lo, k2 cJ 20 5 E2), (tb, k2 cJ 221 13 M2), (rw, ki cI 13 L2), (bm, k2 cJ 169 13 B2), (nu, ka cJ 31 T2), (tu, k2 cJ 20 5 U2)] ++ gs 4 er cJ 5 E) ++ gs 4 fr cJ 5 F) ++ gs 13 mb cJ 13 Bm) ++ gs 17 ra cJ 13 M) H) (hD : va_D A (((([(ou, kl cJ 1 V), (h, rO od fa ot ah te id rt bs kn), (fa, go cO 4 fr), (ot, go cO 4 er), (ah, ka cJ 13 a), (te, ka cJ 31 T), (id, ka cJ 5 J), (rt, rR fo cn wh pt rs sq on tw), (fo, ka cJ 4 Fo), (wh, ka cJ 5 Y), (pt, ka cJ 5 P), (rs, ka cJ 5 r), (sq, ka cJ 8 S), (on, ka cJ 5 a1), (tw, ka cJ 5 b1), (bs, rB ro le me bn), (ro, go cO 17 ra), (le, ki cI 13 Lx), (me, go cO 13 mb), (g, rM cd od fc hd md lo lv tb rw bm mn nu tu), (fc, k2 cJ 20 5 G), (hd, ka cJ 13 a2), (md, ka cJ 17 P2), (lo, k2 cJ 20 5 E2), (tb, k2 cJ 221 13 M2), (rw, ki cI 13 L2), (bm, k2 cJ 169 13 B2), (nu, ka cJ 31 T2), (tu, k2 cJ 20 5 U2)] ++ gs 4 er cJ 5 E) ++ gs 4 fr cJ 5 F) ++ gs 13 mb cJ 13 Bm) ++ gs 17 ra cJ 13 M)) (hS : va_S A s.heap H locs) (hl : lv_has ls 7 [(0, .ref b), (1, .ref h), (2, .ref g), (3, .ref ou), (4, .int (iz z4))]) : W p l e room_1 s m args below meth c H locs kc ks Q (F0 m 1327 ls []) := by
  obtain ⟨hI, hJ⟩ := hI
  have hfc : kc + 0 ≤ room_1.cells := by show kc + 0 ≤ 601024; omega
  have hfs : ks + 0 ≤ room_1.slots := by show ks + 0 ≤ 7293000; omega
  have hfc1 : kc + 1 ≤ room_1.cells := hkc
  have hfs1 : ks + 6 ≤ room_1.slots := hks
  refine lv_aload_n hx hb d_L_law_1327 rfl (lv_at hl 1 rfl) ?_
  refine rsT_callv (va_runV (As := []) (rest := []) ⟨hx, hb, hml, hown, hts⟩ (m_O_clear l D cJ cO h fa ot ah te id rt bs od kn fr F a o hod ho3) (cwV 0 hts (kb_gi (kb_c kw_206 (kb_c kw_207 (kb_c kw_208 (kb_c kw_1 (kb_c kw_209 kb_all)))))) rfl rfl rfl (by decide +kernel) ⟨Nat.le_of_ble_eq_true rfl, Nat.le_of_ble_eq_true rfl⟩) ⟨rc_blind, va_recv hK hP (ci := 2) (q0 := 1) rfl rfl, rs_pre (rs_a2 hP) (rs_aD2 hD) hK hN [1, 2, 4] rfl rfl [0, 1] rfl⟩ rfl rfl hl.1 rfl (lv_room (Nat.le_of_ble_eq_true rfl)) d_L_law_1328 ⟨hfc, hfs⟩) (rs_a2 hP) (rs_aD2 hD) hS [1, 2, 4] rfl (fun _ => rfl) (fun _ => gs_adr _ _ _ _ _ _) (fun u1 H locs hw1 hP hD hS => ?_)
  have hP := rs_b2 hP
  have hD := rs_bD2 hD
  have hP : va_P D vC (((([(ou, kl cJ 1 V), (h, rO od fa ot ah te id rt bs 0), (fa, go cO 4 fr), (ot, go cO 4 er), (ah, ka cJ 13 (kfl a 0 13)), (te, ka cJ 31 T), (id, ka cJ 5 J), (rt, rR fo cn wh pt rs sq on tw), (fo, ka cJ 4 Fo), (wh, ka cJ 5 Y), (pt, ka cJ 5 P), (rs, ka cJ 5 r), (sq, ka cJ 8 S), (on, ka cJ 5 a1), (tw, ka cJ 5 b1), (bs, rB ro le me bn), (ro, go cO 17 ra), (le, ki cI 13 Lx), (me, go cO 13 mb), (g, rM cd od fc hd md lo lv tb rw bm mn nu tu), (fc, k2 cJ 20 5 G), (hd, ka cJ 13 a2), (md, ka cJ 17 P2), (lo, k2 cJ 20 5 E2), (tb, k2 cJ 221 13 M2), (rw, ki cI 13 L2), (bm, k2 cJ 169 13 B2), (nu, ka cJ 31 T2), (tu, k2 cJ 20 5 U2)] ++ gs 4 er cJ 5 E) ++ gs 4 fr cJ 5 (clF F (o + 1))) ++ gs 13 mb cJ 13 Bm) ++ gs 17 ra cJ 13 M) H := hP
  have hD : va_D A (((([(ou, kl cJ 1 V), (h, rO od fa ot ah te id rt bs 0), (fa, go cO 4 fr), (ot, go cO 4 er), (ah, ka cJ 13 (kfl a 0 13)), (te, ka cJ 31 T), (id, ka cJ 5 J), (rt, rR fo cn wh pt rs sq on tw), (fo, ka cJ 4 Fo), (wh, ka cJ 5 Y), (pt, ka cJ 5 P), (rs, ka cJ 5 r), (sq, ka cJ 8 S), (on, ka cJ 5 a1), (tw, ka cJ 5 b1), (bs, rB ro le me bn), (ro, go cO 17 ra), (le, ki cI 13 Lx), (me, go cO 13 mb), (g, rM cd od fc hd md lo lv tb rw bm mn nu tu), (fc, k2 cJ 20 5 G), (hd, ka cJ 13 a2), (md, ka cJ 17 P2), (lo, k2 cJ 20 5 E2), (tb, k2 cJ 221 13 M2), (rw, ki cI 13 L2), (bm, k2 cJ 169 13 B2), (nu, ka cJ 31 T2), (tu, k2 cJ 20 5 U2)] ++ gs 4 er cJ 5 E) ++ gs 4 fr cJ 5 (clF F (o + 1))) ++ gs 13 mb cJ 13 Bm) ++ gs 17 ra cJ 13 M) := hD
  refine lv_aload_n hx hb d_L_law_1331 rfl (lv_at hl 2 rfl) ?_
  refine rc_callv (va_runV (As := []) (rest := []) ⟨hx, hb, hml, hown, hts⟩ (m_M_clear l D cJ cI g cd od fc hd md lo lv tb rw bm mn nu tu G a2) (cwV 0 hts (kb_gi (kb_c kw_594 (kb_c kw_595 (kb_c kw_596 (kb_c kw_5 (kb_c kw_597 kb_all)))))) rfl rfl rfl (by decide +kernel) ⟨Nat.le_of_ble_eq_true rfl, Nat.le_of_ble_eq_true rfl⟩) ⟨rc_blind, va_recv hK hP (ci := 3) (q0 := 19) rfl rfl, rc_pre hP hD hK hN [19, 20, 21] rfl rfl [0, 2] rfl⟩ rfl rfl hl.1 rfl (lv_room (Nat.le_of_ble_eq_true rfl)) d_L_law_1332 ⟨hfc, hfs⟩) hP hD hS [19, 20, 21] rfl (fun _ => rfl) (fun u2 H locs hw2 hP hD hS => ?_)
  have hP : va_P D vC (((([(ou, kl cJ 1 V), (h, rO od fa ot ah te id rt bs 0), (fa, go cO 4 fr), (ot, go cO 4 er), (ah, ka cJ 13 (kfl a 0 13)), (te, ka cJ 31 T), (id, ka cJ 5 J), (rt, rR fo cn wh pt rs sq on tw), (fo, ka cJ 4 Fo), (wh, ka cJ 5 Y), (pt, ka cJ 5 P), (rs, ka cJ 5 r), (sq, ka cJ 8 S), (on, ka cJ 5 a1), (tw, ka cJ 5 b1), (bs, rB ro le me bn), (ro, go cO 17 ra), (le, ki cI 13 Lx), (me, go cO 13 mb), (g, rM 0 od fc hd md lo lv tb rw bm mn nu tu), (fc, k2 cJ 20 5 (c2 (fun _ _ => 0) G 20)), (hd, ka cJ 13 (kfl a2 0 13)), (md, ka cJ 17 P2), (lo, k2 cJ 20 5 E2), (tb, k2 cJ 221 13 M2), (rw, ki cI 13 L2), (bm, k2 cJ 169 13 B2), (nu, ka cJ 31 T2), (tu, k2 cJ 20 5 U2)] ++ gs 4 er cJ 5 E) ++ gs 4 fr cJ 5 (clF F (o + 1))) ++ gs 13 mb cJ 13 Bm) ++ gs 17 ra cJ 13 M) H := hP
  have hD : va_D A (((([(ou, kl cJ 1 V), (h, rO od fa ot ah te id rt bs 0), (fa, go cO 4 fr), (ot, go cO 4 er), (ah, ka cJ 13 (kfl a 0 13)), (te, ka cJ 31 T), (id, ka cJ 5 J), (rt, rR fo cn wh pt rs sq on tw), (fo, ka cJ 4 Fo), (wh, ka cJ 5 Y), (pt, ka cJ 5 P), (rs, ka cJ 5 r), (sq, ka cJ 8 S), (on, ka cJ 5 a1), (tw, ka cJ 5 b1), (bs, rB ro le me bn), (ro, go cO 17 ra), (le, ki cI 13 Lx), (me, go cO 13 mb), (g, rM 0 od fc hd md lo lv tb rw bm mn nu tu), (fc, k2 cJ 20 5 (c2 (fun _ _ => 0) G 20)), (hd, ka cJ 13 (kfl a2 0 13)), (md, ka cJ 17 P2), (lo, k2 cJ 20 5 E2), (tb, k2 cJ 221 13 M2), (rw, ki cI 13 L2), (bm, k2 cJ 169 13 B2), (nu, ka cJ 31 T2), (tu, k2 cJ 20 5 U2)] ++ gs 4 er cJ 5 E) ++ gs 4 fr cJ 5 (clF F (o + 1))) ++ gs 13 mb cJ 13 Bm) ++ gs 17 ra cJ 13 M) := hD
  refine lv_goto (tgt := 1338) hx hb d_L_law_1335 (by decide) ?_
  refine W.widen (k := kc + 1) (n := ks + 6) (by omega) (by omega) ?_
  exact hend V 0 (kfl a 0 13) T J cn Fo Y P r S a1 b1 bn Lx E (clF F (o + 1)) Bm M 0 lv mn (c2 (fun _ _ => 0) G 20) (kfl a2 0 13) P2 E2 M2 L2 B2 T2 U2 H locs ls ⟨lw_clear hI ho3, hJ⟩ hP hD hS (lv_sub hl [0, 1, 2, 3, 4] rfl)
end WL
