set_option maxRecDepth 100000 in
set_option maxHeartbeats 4000000 in
/-- the law's loop: at its head, with i ints read, the worlds are related -/
theorem law_loop {p : Program} {l : Launch} {e : Env} {s : State} {m : MethodId} {below : List Frame} {meth : Method} {c : Code} {g0 g1 : xG} {b L : Nat} {xs : Nat → Int32} (hL : L ≤ 3072) (hr : meth.sig.returnType = ret) (hlocks : meth.locks = false) (Z : zz_Z p s m b L xs c g0 g1) :
    ∀ (n i : Nat) (x3 : Int32), i ≤ 3078 → L + 1 ≤ i + n → x3 = nI i → ∀ (C M : xM), Rel C M → ∀ (H : Heap) (locs : List Loc), zz_w g0 g1 s H locs C M → ∀ (ls : Array Slot), lv_has ls 4 [(3, .int x3), (2, .ref (g1.2.2.1 0)), (1, .ref (g0.2.2.1 0)), (0, .ref b)] → W p l e room_1 s m #[Value.ref b] below meth c H locs 600000 7302250 (lw_Z below #[Value.ref b] s) (F0 m 18 ls []) := by
  obtain ⟨hx, hb, -⟩ := id Z.1
  have hX := Z.2.2.2.2.2.1
  have hbl := Z.2.2.2.2.2.2
  have hbA : ¬ (fun q : Nat => s.heap.size ≤ q) b := Nat.not_le.mpr hbl
  intro n
  induction n with
  | zero =>
    intro i x3 h1 h2
    intro h3 C M hR H locs hw ls hl
    have hS := hw.2.2
    refine lv_iload_n hx hb dL_law_18 rfl (lv_at hl 0 rfl) ?_
    refine lv_aload_n hx hb dL_law_19 rfl (lv_at hl 3 rfl) ?_
    refine va_slen hx hb hX hbl hbA hS dL_law_20 ?_
    refine lv_bipush (v := 6) hx hb dL_law_21 (by decide) ?_
    refine lv_isub hx hb dL_law_23 ?_
    refine lv_icmp_gt (tgt := 1491) hx hb dL_law_24 (by decide) (fun _ => ?_) (fun q => ?_)
    · refine lv_iconst (v := 1) hx hb dL_law_1491 (by decide) ?_
      refine va_forget (fun q hq => hS.2.2 q hq) ?_
      exact lw_ret hx hb hr hlocks dL_law_1492
    · have := zz_room hL h1 (by rw [← h3]; exact q)
      omega
  | succ n ih =>
    intro i x3 h1 h2 h3 C M hR H locs hw ls hl
    have hS := hw.2.2
    refine lv_iload_n hx hb dL_law_18 rfl (lv_at hl 0 rfl) ?_
    refine lv_aload_n hx hb dL_law_19 rfl (lv_at hl 3 rfl) ?_
    refine va_slen hx hb hX hbl hbA hS dL_law_20 ?_
    refine lv_bipush (v := 6) hx hb dL_law_21 (by decide) ?_
    refine lv_isub hx hb dL_law_23 ?_
    refine lv_icmp_gt (tgt := 1491) hx hb dL_law_24 (by decide) (fun _ => ?_) (fun q => ?_)
    · refine lv_iconst (v := 1) hx hb dL_law_1491 (by decide) ?_
      refine va_forget (fun q hq => hS.2.2 q hq) ?_
      exact lw_ret hx hb hr hlocks dL_law_1492
    · have h6 := zz_room hL h1 (by rw [← h3]; exact q)
      have hin : zz_in x3 L := by rw [h3]; exact zz_ins hL h6
      have h0 : vp_in x3 L := by rw [h3]; exact vp_in_nI (by omega) (by omega)
      have kk : ∀ (H1 : Heap) (locs1 : List Loc) (C1 M1 : xM), zz_w g0 g1 s H1 locs1 C1 M1 → Rel C1 M1 → W p l e room_1 s m #[Value.ref b] below meth c H1 locs1 600000 7302250 (lw_Z below #[Value.ref b] s) (F0 m 1485 ls []) := by
        intro H1 locs1 C1 M1 hw1 hR1
        refine lv_iinc (v := x3 + 6) (lv' := [(3, .int (x3 + 6)), (2, .ref (g1.2.2.1 0)), (1, .ref (g0.2.2.1 0)), (0, .ref b)]) hx hb dL_law_1485 hl (k := 0) rfl rfl (by decide) rfl (fun ls hl => ?_)
        refine lv_goto (tgt := 18) hx hb dL_law_1488 (by decide) ?_
        exact ih (i + 6) (x3 + 6) (by omega) (by omega) (by rw [h3]; exact nI_add i 6) C1 M1 hR1 H1 locs1 hw1 ls hl
      refine lv_aload_n hx hb dL_law_27 rfl (lv_at hl 3 rfl) ?_
      refine lv_iload_n hx hb dL_law_28 rfl (lv_at hl 0 rfl) ?_
      refine va_sld hx hb hX hbl hbA hS h0 dL_law_29 ?_
      refine lv_bipush (v := 63) hx hb dL_law_30 (by decide) ?_
      refine lv_iand hx hb dL_law_32 ?_
      generalize (xs x3.toNatClampNeg &&& 63) = w
      by_cases e0 : w.toInt = 0
      · exact lv_tableIn (off := 179) (tgt := 212) hx hb dL_law_33 (by rw [e0]; decide) (by rw [e0]; decide) (by rw [e0]; rfl) (by decide) (lw_c0 Z hw hR hin hl kk)
      by_cases e1 : w.toInt = 1
      · exact lv_tableIn (off := 202) (tgt := 235) hx hb dL_law_33 (by rw [e1]; decide) (by rw [e1]; decide) (by rw [e1]; rfl) (by decide) (lw_c1 Z hw hR hin hl kk)
      by_cases e2 : w.toInt = 2
      · exact lv_tableIn (off := 235) (tgt := 268) hx hb dL_law_33 (by rw [e2]; decide) (by rw [e2]; decide) (by rw [e2]; rfl) (by decide) (lw_c2 Z hw hR hin hl kk)
      by_cases e3 : w.toInt = 3
      · exact lv_tableIn (off := 268) (tgt := 301) hx hb dL_law_33 (by rw [e3]; decide) (by rw [e3]; decide) (by rw [e3]; rfl) (by decide) (lw_c3 Z hw hR hin hl kk)
      by_cases e4 : w.toInt = 4
      · exact lv_tableIn (off := 291) (tgt := 324) hx hb dL_law_33 (by rw [e4]; decide) (by rw [e4]; decide) (by rw [e4]; rfl) (by decide) (lw_c4 Z hw hR hin hl kk)
      by_cases e5 : w.toInt = 5
      · exact lv_tableIn (off := 354) (tgt := 387) hx hb dL_law_33 (by rw [e5]; decide) (by rw [e5]; decide) (by rw [e5]; rfl) (by decide) (lw_c5 Z hw hR hin hl kk)
      by_cases e6 : w.toInt = 6
      · exact lv_tableIn (off := 407) (tgt := 440) hx hb dL_law_33 (by rw [e6]; decide) (by rw [e6]; decide) (by rw [e6]; rfl) (by decide) (lw_c6 Z hw hR hin hl kk)
      by_cases e7 : w.toInt = 7
      · exact lv_tableIn (off := 440) (tgt := 473) hx hb dL_law_33 (by rw [e7]; decide) (by rw [e7]; decide) (by rw [e7]; rfl) (by decide) (lw_c7 Z hw hR hin hl kk)
      by_cases e8 : w.toInt = 8
      · exact lv_tableIn (off := 463) (tgt := 496) hx hb dL_law_33 (by rw [e8]; decide) (by rw [e8]; decide) (by rw [e8]; rfl) (by decide) (lw_c8 Z hw hR hin hl kk)
      by_cases e9 : w.toInt = 9
      · exact lv_tableIn (off := 496) (tgt := 529) hx hb dL_law_33 (by rw [e9]; decide) (by rw [e9]; decide) (by rw [e9]; rfl) (by decide) (lw_c9 Z hw hR hin hl kk)
      by_cases e10 : w.toInt = 10
      · exact lv_tableIn (off := 549) (tgt := 582) hx hb dL_law_33 (by rw [e10]; decide) (by rw [e10]; decide) (by rw [e10]; rfl) (by decide) (lw_c10 Z hw hR hin hl kk)
      by_cases e11 : w.toInt = 11
      · exact lv_tableIn (off := 582) (tgt := 615) hx hb dL_law_33 (by rw [e11]; decide) (by rw [e11]; decide) (by rw [e11]; rfl) (by decide) (lw_c11 Z hw hR hin hl kk)
      by_cases e12 : w.toInt = 12
      · exact lv_tableIn (off := 615) (tgt := 648) hx hb dL_law_33 (by rw [e12]; decide) (by rw [e12]; decide) (by rw [e12]; rfl) (by decide) (lw_c12 Z hw hR hin hl kk)
      by_cases e13 : w.toInt = 13
      · exact lv_tableIn (off := 648) (tgt := 681) hx hb dL_law_33 (by rw [e13]; decide) (by rw [e13]; decide) (by rw [e13]; rfl) (by decide) (lw_c13 Z hw hR hin hl kk)
      by_cases e14 : w.toInt = 14
      · exact lv_tableIn (off := 691) (tgt := 724) hx hb dL_law_33 (by rw [e14]; decide) (by rw [e14]; decide) (by rw [e14]; rfl) (by decide) (lw_c14 Z hw hR hin hl kk)
      by_cases e15 : w.toInt = 15
      · exact lv_tableIn (off := 714) (tgt := 747) hx hb dL_law_33 (by rw [e15]; decide) (by rw [e15]; decide) (by rw [e15]; rfl) (by decide) (lw_c15 Z hw hR hin hl kk)
      by_cases e16 : w.toInt = 16
      · exact lv_tableIn (off := 727) (tgt := 760) hx hb dL_law_33 (by rw [e16]; decide) (by rw [e16]; decide) (by rw [e16]; rfl) (by decide) (lw_c16 Z hw hR hin hl kk)
      by_cases e17 : w.toInt = 17
      · exact lv_tableIn (off := 750) (tgt := 783) hx hb dL_law_33 (by rw [e17]; decide) (by rw [e17]; decide) (by rw [e17]; rfl) (by decide) (lw_c17 Z hw hR hin hl kk)
      by_cases e18 : w.toInt = 18
      · exact lv_tableIn (off := 793) (tgt := 826) hx hb dL_law_33 (by rw [e18]; decide) (by rw [e18]; decide) (by rw [e18]; rfl) (by decide) (lw_c18 Z hw hR hin hl kk)
      by_cases e19 : w.toInt = 19
      · exact lv_tableIn (off := 816) (tgt := 849) hx hb dL_law_33 (by rw [e19]; decide) (by rw [e19]; decide) (by rw [e19]; rfl) (by decide) (lw_c19 Z hw hR hin hl kk)
      by_cases e20 : w.toInt = 20
      · exact lv_tableIn (off := 849) (tgt := 882) hx hb dL_law_33 (by rw [e20]; decide) (by rw [e20]; decide) (by rw [e20]; rfl) (by decide) (lw_c20 Z hw hR hin hl kk)
      by_cases e21 : w.toInt = 21
      · exact lv_tableIn (off := 892) (tgt := 925) hx hb dL_law_33 (by rw [e21]; decide) (by rw [e21]; decide) (by rw [e21]; rfl) (by decide) (lw_c21 Z hw hR hin hl kk)
      by_cases e22 : w.toInt = 22
      · exact lv_tableIn (off := 915) (tgt := 948) hx hb dL_law_33 (by rw [e22]; decide) (by rw [e22]; decide) (by rw [e22]; rfl) (by decide) (lw_c22 Z hw hR hin hl kk)
      by_cases e23 : w.toInt = 23
      · exact lv_tableIn (off := 948) (tgt := 981) hx hb dL_law_33 (by rw [e23]; decide) (by rw [e23]; decide) (by rw [e23]; rfl) (by decide) (lw_c23 Z hw hR hin hl kk)
      by_cases e24 : w.toInt = 24
      · exact lv_tableIn (off := 971) (tgt := 1004) hx hb dL_law_33 (by rw [e24]; decide) (by rw [e24]; decide) (by rw [e24]; rfl) (by decide) (lw_c24 Z hw hR hin hl kk)
      by_cases e25 : w.toInt = 25
      · exact lv_tableIn (off := 994) (tgt := 1027) hx hb dL_law_33 (by rw [e25]; decide) (by rw [e25]; decide) (by rw [e25]; rfl) (by decide) (lw_c25 Z hw hR hin hl kk)
      by_cases e26 : w.toInt = 26
      · exact lv_tableIn (off := 1027) (tgt := 1060) hx hb dL_law_33 (by rw [e26]; decide) (by rw [e26]; decide) (by rw [e26]; rfl) (by decide) (lw_c26 Z hw hR hin hl kk)
      by_cases e27 : w.toInt = 27
      · exact lv_tableIn (off := 1050) (tgt := 1083) hx hb dL_law_33 (by rw [e27]; decide) (by rw [e27]; decide) (by rw [e27]; rfl) (by decide) (lw_c27 Z hw hR hin hl kk)
      by_cases e28 : w.toInt = 28
      · exact lv_tableIn (off := 1083) (tgt := 1116) hx hb dL_law_33 (by rw [e28]; decide) (by rw [e28]; decide) (by rw [e28]; rfl) (by decide) (lw_c28 Z hw hR hin hl kk)
      by_cases e29 : w.toInt = 29
      · exact lv_tableIn (off := 1116) (tgt := 1149) hx hb dL_law_33 (by rw [e29]; decide) (by rw [e29]; decide) (by rw [e29]; rfl) (by decide) (lw_c29 Z hw hR hin hl kk)
      by_cases e30 : w.toInt = 30
      · exact lv_tableIn (off := 1139) (tgt := 1172) hx hb dL_law_33 (by rw [e30]; decide) (by rw [e30]; decide) (by rw [e30]; rfl) (by decide) (lw_c30 Z hw hR hin hl kk)
      by_cases e31 : w.toInt = 31
      · exact lv_tableIn (off := 1162) (tgt := 1195) hx hb dL_law_33 (by rw [e31]; decide) (by rw [e31]; decide) (by rw [e31]; rfl) (by decide) (lw_c31 Z hw hR hin hl kk)
      by_cases e32 : w.toInt = 32
      · exact lv_tableIn (off := 1195) (tgt := 1228) hx hb dL_law_33 (by rw [e32]; decide) (by rw [e32]; decide) (by rw [e32]; rfl) (by decide) (lw_c32 Z hw hR hin hl kk)
      by_cases e33 : w.toInt = 33
      · exact lv_tableIn (off := 1208) (tgt := 1241) hx hb dL_law_33 (by rw [e33]; decide) (by rw [e33]; decide) (by rw [e33]; rfl) (by decide) (lw_c33 Z hw hR hin hl kk)
      by_cases e34 : w.toInt = 34
      · exact lv_tableIn (off := 1231) (tgt := 1264) hx hb dL_law_33 (by rw [e34]; decide) (by rw [e34]; decide) (by rw [e34]; rfl) (by decide) (lw_c34 Z hw hR hin hl kk)
      by_cases e35 : w.toInt = 35
      · exact lv_tableIn (off := 1264) (tgt := 1297) hx hb dL_law_33 (by rw [e35]; decide) (by rw [e35]; decide) (by rw [e35]; rfl) (by decide) (lw_c35 Z hw hR hin hl kk)
      by_cases e36 : w.toInt = 36
      · exact lv_tableIn (off := 1277) (tgt := 1310) hx hb dL_law_33 (by rw [e36]; decide) (by rw [e36]; decide) (by rw [e36]; rfl) (by decide) (lw_c36 Z hw hR hin hl kk)
      by_cases e37 : w.toInt = 37
      · exact lv_tableIn (off := 1290) (tgt := 1323) hx hb dL_law_33 (by rw [e37]; decide) (by rw [e37]; decide) (by rw [e37]; rfl) (by decide) (lw_c37 Z hw hR hin hl kk)
      by_cases e38 : w.toInt = 38
      · exact lv_tableIn (off := 1323) (tgt := 1356) hx hb dL_law_33 (by rw [e38]; decide) (by rw [e38]; decide) (by rw [e38]; rfl) (by decide) (lw_c38 Z hw hR hin hl kk)
      by_cases e39 : w.toInt = 39
      · exact lv_tableIn (off := 1366) (tgt := 1399) hx hb dL_law_33 (by rw [e39]; decide) (by rw [e39]; decide) (by rw [e39]; rfl) (by decide) (lw_c39 Z hw hR hin hl kk)
      by_cases e40 : w.toInt = 40
      · exact lv_tableIn (off := 1429) (tgt := 1462) hx hb dL_law_33 (by rw [e40]; decide) (by rw [e40]; decide) (by rw [e40]; rfl) (by decide) (lw_c40 Z hw hR hin hl kk)
      refine lv_tableOut (tgt := 1485) hx hb dL_law_33 ?_ (by decide) (kk H locs C M hw hR)
      omega
