section WL
variable {p : Program} {l : Launch} {e : Env} {s : State} {m : MethodId} {args : Array Value} {below : List Frame} {meth : Method} {c : Code} {Q : State → Prop} {D : va_G} {A : Nat → Prop}
set_option maxHeartbeats 4000000 in
set_option maxRecDepth 100000 in
theorem law_loop {cJ cO cI : ClassId} {ou h fa ot ah te id rt bs : Nat} {od : Int} {fo wh pt rs sq on tw : Nat} {ro le me : Nat} {fr er mb ra : Nat → Nat} {g : Nat} {fc hd md lo tb rw bm nu tu : Nat} {o : Nat} {sa : Nat → Nat} {ct b L : Nat} {xs : Nat → Int32} (hx : p.tables.exec = Jvm.exec) (hb : c.code = c_L_law) (hml : c.maxLocals = 7) (hown : s.vm.findClass R_L = some m.cls) (hts : ∀ w ∈ kb, w.before args s = true) (hK : va_K D vC [(cJ, .long), (cO, .array .long), (cI, .int)] s) (hN : rc_N s) (hst : l.stackTraces = false) (hE : rx_E sa A s s.heap) (hC : rz_C ct A s s.heap) (hX : va_X b L xs s s.heap) (hbl : b < s.heap.size) (hbA : ¬ A b) (hL : L ≤ 5121) (hod : od = (o : Int)) (ho1 : 1 ≤ o) (ho3 : o ≤ 3) (hdone : ∀ (kc ks : Nat) (H : Heap) (locs : List Loc) (ls : Array Slot), kc ≤ 601024 → ks ≤ 7293000 → va_S A s.heap H locs → W p l e room_1 s m args below meth c H locs kc ks Q (F0 m 1344 ls [])) : ∀ (n k : Nat) (z4 : Int) (kc ks : Nat) (V : Nat → Int64) (kn : Int) (a : Nat → ro_K) (T : Nat → ro_K) (J : Nat → ro_K) (cn : Int) (Fo : Nat → ro_K) (Y : Nat → ro_K) (P : Nat → ro_K) (r : Nat → ro_K) (S : Nat → ro_K) (a1 : Nat → ro_K) (b1 : Nat → ro_K) (bn : Int) (Lx : Nat → Int) (E : Nat → Nat → ro_K) (F : Nat → Nat → ro_K) (Bm : Nat → Nat → ro_K) (M : Nat → Nat → ro_K) (cd : Int) (lv : Int) (mn : Int) (G : Nat → Nat → ro_K) (a2 : Nat → ro_K) (P2 : Nat → ro_K) (E2 : Nat → Nat → ro_K) (M2 : Nat → Nat → ro_K) (L2 : Nat → Int) (B2 : Nat → Nat → ro_K) (T2 : Nat → ro_K) (U2 : Nat → Nat → ro_K) (H : Heap) (locs : List Loc) (ls : Array Slot), z4 = (k : Int) → L < k + 10 * n + 10 → k + 10 * n ≤ 6000 → kc + n ≤ 601000 → ks + 6 * n ≤ 7290000 → (lw_I o F E a kn M Lx Bm bn G a2 ∧ J 4 = 0) → va_P D vC (((([(ou, kl cJ 1 V), (h, rO od fa ot ah te id rt bs kn), (fa, go cO 4 fr), (ot, go cO 4 er), (ah, ka cJ 13 a), (te, ka cJ 31 T), (id, ka cJ 5 J), (rt, rR fo cn wh pt rs sq on tw), (fo, ka cJ 4 Fo), (wh, ka cJ 5 Y), (pt, ka cJ 5 P), (rs, ka cJ 5 r), (sq, ka cJ 8 S), (on, ka cJ 5 a1), (tw, ka cJ 5 b1), (bs, rB ro le me bn), (ro, go cO 17 ra), (le, ki cI 13 Lx), (me, go cO 13 mb), (g, rM cd od fc hd md lo lv tb rw bm mn nu tu), (fc, k2 cJ 20 5 G), (hd, ka cJ 13 a2), (md, ka cJ 17 P2), (lo, k2 cJ 20 5 E2), (tb, k2 cJ 221 13 M2), (rw, ki cI 13 L2), (bm, k2 cJ 169 13 B2), (nu, ka cJ 31 T2), (tu, k2 cJ 20 5 U2)] ++ gs 4 er cJ 5 E) ++ gs 4 fr cJ 5 F) ++ gs 13 mb cJ 13 Bm) ++ gs 17 ra cJ 13 M) H → va_D A (((([(ou, kl cJ 1 V), (h, rO od fa ot ah te id rt bs kn), (fa, go cO 4 fr), (ot, go cO 4 er), (ah, ka cJ 13 a), (te, ka cJ 31 T), (id, ka cJ 5 J), (rt, rR fo cn wh pt rs sq on tw), (fo, ka cJ 4 Fo), (wh, ka cJ 5 Y), (pt, ka cJ 5 P), (rs, ka cJ 5 r), (sq, ka cJ 8 S), (on, ka cJ 5 a1), (tw, ka cJ 5 b1), (bs, rB ro le me bn), (ro, go cO 17 ra), (le, ki cI 13 Lx), (me, go cO 13 mb), (g, rM cd od fc hd md lo lv tb rw bm mn nu tu), (fc, k2 cJ 20 5 G), (hd, ka cJ 13 a2), (md, ka cJ 17 P2), (lo, k2 cJ 20 5 E2), (tb, k2 cJ 221 13 M2), (rw, ki cI 13 L2), (bm, k2 cJ 169 13 B2), (nu, ka cJ 31 T2), (tu, k2 cJ 20 5 U2)] ++ gs 4 er cJ 5 E) ++ gs 4 fr cJ 5 F) ++ gs 13 mb cJ 13 Bm) ++ gs 17 ra cJ 13 M) → va_S A s.heap H locs → lv_has ls 7 [(0, .ref b), (1, .ref h), (2, .ref g), (3, .ref ou), (4, .int (iz z4))] → W p l e room_1 s m args below meth c H locs kc ks Q (F0 m 33 ls []) := by
  intro n
  induction n with
  | zero =>
    intro k z4 kc ks V kn a T J cn Fo Y P r S a1 b1 bn Lx E F Bm M cd lv mn G a2 P2 E2 M2 L2 B2 T2 U2 H locs ls hz4 hn hk6 hkc hks hI hP hD hS hl
    refine lv_iload hx hb d_L_law_33 (lv_at hl 4 rfl) ?_
    refine lv_aload_n hx hb d_L_law_35 rfl (lv_at hl 0 rfl) ?_
    refine rl_slen hx hb hX hbl hbA hS d_L_law_36 ?_
    refine rz_bipush hx hb d_L_law_37 (by decide) ?_
    refine rz_isub hx hb d_L_law_39 ?_
    refine rz_icmp_gt (tgt := 1344) hx hb d_L_law_40 (by decide) (fun hc => ?_) (fun hc => ?_)
    · exact hdone kc ks H locs ls (by omega) (by omega) hS
    · exfalso; omega
  | succ n ih =>
    intro k z4 kc ks V kn a T J cn Fo Y P r S a1 b1 bn Lx E F Bm M cd lv mn G a2 P2 E2 M2 L2 B2 T2 U2 H locs ls hz4 hn hk6 hkc hks hI hP hD hS hl
    refine lv_iload hx hb d_L_law_33 (lv_at hl 4 rfl) ?_
    refine lv_aload_n hx hb d_L_law_35 rfl (lv_at hl 0 rfl) ?_
    refine rl_slen hx hb hX hbl hbA hS d_L_law_36 ?_
    refine rz_bipush hx hb d_L_law_37 (by decide) ?_
    refine rz_isub hx hb d_L_law_39 ?_
    refine rz_icmp_gt (tgt := 1344) hx hb d_L_law_40 (by decide) (fun hc => ?_) (fun hc => ?_)
    · exact hdone kc ks H locs ls (by omega) (by omega) hS
    · have hnext : ∀ (V : Nat → Int64) (kn : Int) (a : Nat → ro_K) (T : Nat → ro_K) (J : Nat → ro_K) (cn : Int) (Fo : Nat → ro_K) (Y : Nat → ro_K) (P : Nat → ro_K) (r : Nat → ro_K) (S : Nat → ro_K) (a1 : Nat → ro_K) (b1 : Nat → ro_K) (bn : Int) (Lx : Nat → Int) (E : Nat → Nat → ro_K) (F : Nat → Nat → ro_K) (Bm : Nat → Nat → ro_K) (M : Nat → Nat → ro_K) (cd : Int) (lv : Int) (mn : Int) (G : Nat → Nat → ro_K) (a2 : Nat → ro_K) (P2 : Nat → ro_K) (E2 : Nat → Nat → ro_K) (M2 : Nat → Nat → ro_K) (L2 : Nat → Int) (B2 : Nat → Nat → ro_K) (T2 : Nat → ro_K) (U2 : Nat → Nat → ro_K) (H : Heap) (locs : List Loc) (ls : Array Slot), (lw_I o F E a kn M Lx Bm bn G a2 ∧ J 4 = 0) → va_P D vC (((([(ou, kl cJ 1 V), (h, rO od fa ot ah te id rt bs kn), (fa, go cO 4 fr), (ot, go cO 4 er), (ah, ka cJ 13 a), (te, ka cJ 31 T), (id, ka cJ 5 J), (rt, rR fo cn wh pt rs sq on tw), (fo, ka cJ 4 Fo), (wh, ka cJ 5 Y), (pt, ka cJ 5 P), (rs, ka cJ 5 r), (sq, ka cJ 8 S), (on, ka cJ 5 a1), (tw, ka cJ 5 b1), (bs, rB ro le me bn), (ro, go cO 17 ra), (le, ki cI 13 Lx), (me, go cO 13 mb), (g, rM cd od fc hd md lo lv tb rw bm mn nu tu), (fc, k2 cJ 20 5 G), (hd, ka cJ 13 a2), (md, ka cJ 17 P2), (lo, k2 cJ 20 5 E2), (tb, k2 cJ 221 13 M2), (rw, ki cI 13 L2), (bm, k2 cJ 169 13 B2), (nu, ka cJ 31 T2), (tu, k2 cJ 20 5 U2)] ++ gs 4 er cJ 5 E) ++ gs 4 fr cJ 5 F) ++ gs 13 mb cJ 13 Bm) ++ gs 17 ra cJ 13 M) H → va_D A (((([(ou, kl cJ 1 V), (h, rO od fa ot ah te id rt bs kn), (fa, go cO 4 fr), (ot, go cO 4 er), (ah, ka cJ 13 a), (te, ka cJ 31 T), (id, ka cJ 5 J), (rt, rR fo cn wh pt rs sq on tw), (fo, ka cJ 4 Fo), (wh, ka cJ 5 Y), (pt, ka cJ 5 P), (rs, ka cJ 5 r), (sq, ka cJ 8 S), (on, ka cJ 5 a1), (tw, ka cJ 5 b1), (bs, rB ro le me bn), (ro, go cO 17 ra), (le, ki cI 13 Lx), (me, go cO 13 mb), (g, rM cd od fc hd md lo lv tb rw bm mn nu tu), (fc, k2 cJ 20 5 G), (hd, ka cJ 13 a2), (md, ka cJ 17 P2), (lo, k2 cJ 20 5 E2), (tb, k2 cJ 221 13 M2), (rw, ki cI 13 L2), (bm, k2 cJ 169 13 B2), (nu, ka cJ 31 T2), (tu, k2 cJ 20 5 U2)] ++ gs 4 er cJ 5 E) ++ gs 4 fr cJ 5 F) ++ gs 13 mb cJ 13 Bm) ++ gs 17 ra cJ 13 M) → va_S A s.heap H locs → lv_has ls 7 [(0, .ref b), (1, .ref h), (2, .ref g), (3, .ref ou), (4, .int (iz z4))] → W p l e room_1 s m args below meth c H locs (kc + 1) (ks + 6) Q (F0 m 1338 ls []) := by
        intro V kn a T J cn Fo Y P r S a1 b1 bn Lx E F Bm M cd lv mn G a2 P2 E2 M2 L2 B2 T2 U2 H locs ls hI hP hD hS hl
        refine lv_iinc (v := iz (z4 + 10)) (lv' := [(4, .int (iz (z4 + 10))), (0, .ref b), (1, .ref h), (2, .ref g), (3, .ref ou)]) hx hb d_L_law_1338 hl (k := 4) rfl (iz_add _ _) (by decide) rfl (fun ls hl => ?_)
        refine lv_goto (tgt := 33) hx hb d_L_law_1341 (by decide) ?_
        exact ih (k + 10) (z4 + 10) (kc + 1) (ks + 6) V kn a T J cn Fo Y P r S a1 b1 bn Lx E F Bm M cd lv mn G a2 P2 E2 M2 L2 B2 T2 U2 H locs ls (by omega) (by omega) (by omega) (by omega) (by omega) hI hP hD hS (lv_sub hl [1, 2, 3, 4, 0] rfl)
      refine lv_aload_n hx hb d_L_law_43 rfl (lv_at hl 0 rfl) ?_
      refine lv_iload hx hb d_L_law_44 (lv_at hl 4 rfl) ?_
      refine rl_sld hx hb hX hbl hbA hS k d_L_law_46 ?_
      refine rz_bipush hx hb d_L_law_47 (by decide) ?_
      refine lv_iand hx hb d_L_law_49 ?_
      generalize iz (sx xs k) &&& iz 31 = x
      by_cases hout : x.toInt < 0 ∨ 16 < x.toInt
      · refine lv_tableOut (tgt := 1338) hx hb d_L_law_50 hout (by decide) ?_
        refine W.widen (k := kc + 1) (n := ks + 6) (by omega) (by omega) ?_
        exact hnext V kn a T J cn Fo Y P r S a1 b1 bn Lx E F Bm M cd lv mn G a2 P2 E2 M2 L2 B2 T2 U2 H locs ls hI hP hD hS hl
      · have hv : x.toInt = 0 ∨ x.toInt = 1 ∨ x.toInt = 2 ∨ x.toInt = 3 ∨ x.toInt = 4 ∨ x.toInt = 5 ∨ x.toInt = 6 ∨ x.toInt = 7 ∨ x.toInt = 8 ∨ x.toInt = 9 ∨ x.toInt = 10 ∨ x.toInt = 11 ∨ x.toInt = 12 ∨ x.toInt = 13 ∨ x.toInt = 14 ∨ x.toInt = 15 ∨ x.toInt = 16 := by omega
        rcases hv with hv | hv | hv | hv | hv | hv | hv | hv | hv | hv | hv | hv | hv | hv | hv | hv | hv
        · refine lv_tableIn (off := 82) (tgt := 132) hx hb d_L_law_50 (by omega) (by omega) (by rw [hv]; rfl) (by decide) ?_
          exact lc_0 hx hb hml hown hts hK hN hst hE hC hX hbl hbA hL hod ho1 ho3 hz4 (by omega) (by omega) (by omega) hI hnext hP hD hS hl
        · refine lv_tableIn (off := 201) (tgt := 251) hx hb d_L_law_50 (by omega) (by omega) (by rw [hv]; rfl) (by decide) ?_
          exact lc_1 hx hb hml hown hts hK hN hst hE hC hX hbl hbA hL hod ho1 ho3 hz4 (by omega) (by omega) (by omega) hI hnext hP hD hS hl
        · refine lv_tableIn (off := 269) (tgt := 319) hx hb d_L_law_50 (by omega) (by omega) (by rw [hv]; rfl) (by decide) ?_
          exact lc_2 hx hb hml hown hts hK hN hst hE hC hX hbl hbA hL hod ho1 ho3 hz4 (by omega) (by omega) (by omega) hI hnext hP hD hS hl
        · refine lv_tableIn (off := 349) (tgt := 399) hx hb d_L_law_50 (by omega) (by omega) (by rw [hv]; rfl) (by decide) ?_
          exact lc_3 hx hb hml hown hts hK hN hst hE hC hX hbl hbA hL hod ho1 ho3 hz4 (by omega) (by omega) (by omega) hI hnext hP hD hS hl
        · refine lv_tableIn (off := 374) (tgt := 424) hx hb d_L_law_50 (by omega) (by omega) (by rw [hv]; rfl) (by decide) ?_
          exact lc_4 hx hb hml hown hts hK hN hst hE hC hX hbl hbA hL hod ho1 ho3 hz4 (by omega) (by omega) (by omega) hI hnext hP hD hS hl
        · refine lv_tableIn (off := 418) (tgt := 468) hx hb d_L_law_50 (by omega) (by omega) (by rw [hv]; rfl) (by decide) ?_
          exact lc_5 hx hb hml hown hts hK hN hst hE hC hX hbl hbA hL hod ho1 ho3 hz4 (by omega) (by omega) (by omega) hI hnext hP hD hS hl
        · refine lv_tableIn (off := 474) (tgt := 524) hx hb d_L_law_50 (by omega) (by omega) (by rw [hv]; rfl) (by decide) ?_
          exact lc_6 hx hb hml hown hts hK hN hst hE hC hX hbl hbA hL hod ho1 ho3 hz4 (by omega) (by omega) (by omega) hI hnext hP hD hS hl
        · refine lv_tableIn (off := 590) (tgt := 640) hx hb d_L_law_50 (by omega) (by omega) (by rw [hv]; rfl) (by decide) ?_
          exact lc_7 hx hb hml hown hts hK hN hst hE hC hX hbl hbA hL hod ho1 ho3 hz4 (by omega) (by omega) (by omega) hI hnext hP hD hS hl
        · refine lv_tableIn (off := 713) (tgt := 763) hx hb d_L_law_50 (by omega) (by omega) (by rw [hv]; rfl) (by decide) ?_
          exact lc_8 hx hb hml hown hts hK hN hst hE hC hX hbl hbA hL hod ho1 ho3 hz4 (by omega) (by omega) (by omega) hI hnext hP hD hS hl
        · refine lv_tableIn (off := 841) (tgt := 891) hx hb d_L_law_50 (by omega) (by omega) (by rw [hv]; rfl) (by decide) ?_
          exact lc_9 hx hb hml hown hts hK hN hst hE hC hX hbl hbA hL hod ho1 ho3 hz4 (by omega) (by omega) (by omega) hI hnext hP hD hS hl
        · refine lv_tableIn (off := 854) (tgt := 904) hx hb d_L_law_50 (by omega) (by omega) (by rw [hv]; rfl) (by decide) ?_
          exact lc_10 hx hb hml hown hts hK hN hst hE hC hX hbl hbA hL hod ho1 ho3 hz4 (by omega) (by omega) (by omega) hI hnext hP hD hS hl
        · refine lv_tableIn (off := 922) (tgt := 972) hx hb d_L_law_50 (by omega) (by omega) (by rw [hv]; rfl) (by decide) ?_
          exact lc_11 hx hb hml hown hts hK hN hst hE hC hX hbl hbA hL hod ho1 ho3 hz4 (by omega) (by omega) (by omega) hI hnext hP hD hS hl
        · refine lv_tableIn (off := 935) (tgt := 985) hx hb d_L_law_50 (by omega) (by omega) (by rw [hv]; rfl) (by decide) ?_
          exact lc_12 hx hb hml hown hts hK hN hst hE hC hX hbl hbA hL hod ho1 ho3 hz4 (by omega) (by omega) (by omega) hI hnext hP hD hS hl
        · refine lv_tableIn (off := 971) (tgt := 1021) hx hb d_L_law_50 (by omega) (by omega) (by rw [hv]; rfl) (by decide) ?_
          exact lc_13 hx hb hml hown hts hK hN hst hE hC hX hbl hbA hL hod ho1 ho3 hz4 (by omega) (by omega) (by omega) hI hnext hP hD hS hl
        · refine lv_tableIn (off := 1211) (tgt := 1261) hx hb d_L_law_50 (by omega) (by omega) (by rw [hv]; rfl) (by decide) ?_
          exact lc_14 hx hb hml hown hts hK hN hst hE hC hX hbl hbA hL hod ho1 ho3 hz4 (by omega) (by omega) (by omega) hI hnext hP hD hS hl
        · refine lv_tableIn (off := 1222) (tgt := 1272) hx hb d_L_law_50 (by omega) (by omega) (by rw [hv]; rfl) (by decide) ?_
          exact lc_15 hx hb hml hown hts hK hN hst hE hC hX hbl hbA hL hod ho1 ho3 hz4 (by omega) (by omega) (by omega) hI hnext hP hD hS hl
        · refine lv_tableIn (off := 1277) (tgt := 1327) hx hb d_L_law_50 (by omega) (by omega) (by rw [hv]; rfl) (by decide) ?_
          exact lc_16 hx hb hml hown hts hK hN hst hE hC hX hbl hbA hL hod ho1 ho3 hz4 (by omega) (by omega) (by omega) hI hnext hP hD hS hl

end WL
