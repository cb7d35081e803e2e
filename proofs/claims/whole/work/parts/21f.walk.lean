def fX10_unlike_L23 (k0 : Nat) (x3_3 : Int32) (k102_12 : xM → Int32 → Int32 → Option (Int32 × xM)) : Nat → xM → Int32 → Int32 → Int32 → Option (Int32 × xM)
  | 0, _, _, _, _ => none
  | n_19 + 1, M_18, x1_15, x2_16, x4_17 => if (M_18 (xr 0 k0 0) 4) ≤ x4_17 then (k102_12 M_18 x1_15 x2_16) else (x_g x3_3 (xn 0 (xr 0 (xr 0 k0 0) 8)) (x_g x4_17 (xn 0 (xr 0 (xr 0 k0 0) 8)) (x_l (if 0 ≤ ((M_18 (xr 0 (xr 0 (xr 0 k0 0) 8) x3_3.toNatClampNeg) 2) - (M_18 (xr 0 (xr 0 (xr 0 k0 0) 8) x4_17.toNatClampNeg) 2)) then ((M_18 (xr 0 (xr 0 (xr 0 k0 0) 8) x3_3.toNatClampNeg) 2) - (M_18 (xr 0 (xr 0 (xr 0 k0 0) 8) x4_17.toNatClampNeg) 2)) else 0 - ((M_18 (xr 0 (xr 0 (xr 0 k0 0) 8) x3_3.toNatClampNeg) 2) - (M_18 (xr 0 (xr 0 (xr 0 k0 0) 8) x4_17.toNatClampNeg) 2))) fun x5_27 => x_l (fun (M_31 : xM) (x1_28 : Int32) (x2_29 : Int32) => x_l (x4_17 + (1 : Int32)) fun x4_32 => fX10_unlike_L23 k0 x3_3 k102_12 n_19 M_31 x1_28 x2_29 x4_32) fun k96_30 => if x5_27 ≤ x1_15 then (k96_30 M_18 x1_15 x2_16) else (x_b (fX8_areAlike M_18 (xr 0 k0 0) x3_3 x4_17) fun v_36 M_34 => if v_36 = 0 then (k96_30 M_34 x1_15 x2_16) else (x_l (((100 : Int32) * x3_3) + x4_17) fun x2_38 => k96_30 M_34 x5_27 x2_38)))))
def fX10_unlike_L7 (k0 : Nat) : Nat → xM → Int32 → Int32 → Int32 → Option (Int32 × xM)
  | 0, _, _, _, _ => none
  | n_5 + 1, M_4, x1_1, x2_2, x3_3 => if (M_4 (xr 0 k0 0) 4) ≤ x3_3 then (some (x2_2, M_4)) else (x_l (x3_3 + (1 : Int32)) fun x4_9 => x_l (fun (M_13 : xM) (x1_10 : Int32) (x2_11 : Int32) => x_l (x3_3 + (1 : Int32)) fun x3_14 => fX10_unlike_L7 k0 n_5 M_13 x1_10 x2_11 x3_14) fun k102_12 => fX10_unlike_L23 k0 x3_3 k102_12 x_FU M_4 x1_1 x2_2 x4_9)
def fX10_unlike (M : xM) (k0 : Nat) : Option (Int32 × xM) := fX10_unlike_L7 k0 x_FU M (0 : Int32) (-1000000005 : Int32) (0 : Int32)
set_option maxRecDepth 100000 in
set_option maxHeartbeats 4000000 in
theorem mX10_unlike (l : Launch) (g : xG) {k0 : Nat} {r : Int32} {M' : xM} (h0 : x_is 0 k0 10) {M : xM} (hf : fX10_unlike M k0 = some (r, M')) : x_cI l g 0 yX10_unlike cX10_unlike 6 .int 3 69 [.ref (g.2.2.1 k0)] M (fun v N => v = r ∧ N = M') := by
  refine x_stI RX10 (by decide) rfl (Nat.le_of_ble_eq_true rfl) ?_
  intro p e s m args below meth c Q ls C hw ret hl
  obtain ⟨hx, hb, hml, hown, hB, -⟩ := id C
  have hl : lv_has ls 6 [(0, .ref (g.2.2.1 k0))] := hl
  unfold fX10_unlike at hf
  refine lv_iconst (v := (0 : Int32)) hx hb dX10_unlike_0 (by decide) ?_
  refine lv_istore_n (lv' := [(1, .int (0 : Int32)), (0, .ref (g.2.2.1 k0))]) hx hb dX10_unlike_1 rfl hl (by decide) rfl (fun ls hl => ?_)
  refine lv_ldc hx hb hown (hB _ mk_X10_169) dX10_unlike_2 ?_
  refine lv_istore_n (lv' := [(2, .int (-1000000005 : Int32)), (1, .int (0 : Int32)), (0, .ref (g.2.2.1 k0))]) hx hb dX10_unlike_4 rfl hl (by decide) rfl (fun ls hl => ?_)
  refine lv_iconst (v := (0 : Int32)) hx hb dX10_unlike_5 (by decide) ?_
  refine lv_istore_n (lv' := [(3, .int (0 : Int32)), (2, .int (-1000000005 : Int32)), (1, .int (0 : Int32)), (0, .ref (g.2.2.1 k0))]) hx hb dX10_unlike_6 rfl hl (by decide) rfl (fun ls hl => ?_)
  have hL_40 : ∀ (n_5 : Nat) (H : Heap) (locs : List Loc) (M_4 : xM) (x1_1 : Int32) (x2_2 : Int32) (x3_3 : Int32) (ls : Array Slot) , lv_has ls 6 [(0, .ref (g.2.2.1 k0)), (1, .int x1_1), (2, .int x2_2), (3, .int x3_3)] → x_w g 0 s H locs M_4 → fX10_unlike_L7 k0 n_5 M_4 x1_1 x2_2 x3_3 = some (r, M') → W p l e (x_rm 3 69) s m args below meth c H locs 0 0 Q (F0 m 7 ls []) := by
    intro n_5
    induction n_5 with
    | zero =>
      intro H locs M_4 x1_1 x2_2 x3_3 ls  hl hw hf
      rw [fX10_unlike_L7] at hf
      cases hf
    | succ n_5 ih_6 =>
      intro H locs M_4 x1_1 x2_2 x3_3 ls  hl hw hf
      rw [fX10_unlike_L7] at hf
      refine lv_iload_n hx hb dX10_unlike_7 rfl (lv_at hl 3 rfl) ?_
      refine lv_aload_n hx hb dX10_unlike_8 rfl (lv_at hl 0 rfl) ?_
      refine fg_X10_10 C hw h0 dX10_unlike_9 ?_
      have h_7 : x_is 0 (xr 0 k0 0) 8 := x_tr h0 (by decide) (by decide) rfl (by decide)
      refine fg_X10_217 C hw h_7 dX10_unlike_12 ?_
      refine lv_icmp_ge (tgt := 108) hx hb dX10_unlike_15 (by decide) (fun q_8 => ?_) (fun q_8 => ?_)
      · have hf := x_iP hf q_8
        refine lv_iload_n hx hb dX10_unlike_108 rfl (lv_at hl 2 rfl) ?_
        exact ret hf dX10_unlike_109 hw
      · have hf := x_iN hf q_8
        refine lv_iload_n hx hb dX10_unlike_18 rfl (lv_at hl 3 rfl) ?_
        refine lv_iconst (v := (1 : Int32)) hx hb dX10_unlike_19 (by decide) ?_
        refine lv_iadd hx hb dX10_unlike_20 ?_
        refine lv_topi (fun x4_9 ex4_9 => ?_)
        have hf := x_lE ex4_9 hf
        refine lv_istore (lv' := [(4, .int x4_9), (0, .ref (g.2.2.1 k0)), (1, .int x1_1), (2, .int x2_2), (3, .int x3_3)]) hx hb dX10_unlike_21 hl (by decide) rfl (fun ls hl => ?_)
        obtain ⟨k102_12, ek102_12, hf⟩ := x_jE hf
        have hk102_12 : ∀ (H : Heap) (locs : List Loc) (M_13 : xM) (x1_10 : Int32) (x2_11 : Int32) (ls : Array Slot) , lv_has ls 6 [(0, .ref (g.2.2.1 k0)), (3, .int x3_3), (1, .int x1_10), (2, .int x2_11)] → x_w g 0 s H locs M_13 → k102_12 M_13 x1_10 x2_11 = some (r, M') → W p l e (x_rm 3 69) s m args below meth c H locs 0 0 Q (F0 m 102 ls []) := by
          intro H locs M_13 x1_10 x2_11 ls  hl hw hf
          rw [ek102_12] at hf
          obtain ⟨x3_14, ex3_14⟩ : ∃ z : Int32, z = (x3_3 + (1 : Int32)) := ⟨_, rfl⟩
          have hf := x_lE ex3_14 hf
          refine lv_iinc (v := x3_14) (lv' := [(3, .int x3_14), (0, .ref (g.2.2.1 k0)), (1, .int x1_10), (2, .int x2_11)]) hx hb dX10_unlike_102 hl (k := 1) rfl (by rw [ex3_14]; rfl) (by decide) rfl (fun ls hl => ?_)
          refine lv_goto (tgt := 7) hx hb dX10_unlike_105 (by decide) ?_
          exact ih_6 _ _ _ _ _ _ _ (lv_sub hl [1, 2, 3, 0] rfl) hw hf
        have hL_39 : ∀ (n_19 : Nat) (H : Heap) (locs : List Loc) (M_18 : xM) (x1_15 : Int32) (x2_16 : Int32) (x4_17 : Int32) (ls : Array Slot) , lv_has ls 6 [(0, .ref (g.2.2.1 k0)), (3, .int x3_3), (1, .int x1_15), (2, .int x2_16), (4, .int x4_17)] → x_w g 0 s H locs M_18 → fX10_unlike_L23 k0 x3_3 k102_12 n_19 M_18 x1_15 x2_16 x4_17 = some (r, M') → W p l e (x_rm 3 69) s m args below meth c H locs 0 0 Q (F0 m 23 ls []) := by
          intro n_19
          induction n_19 with
          | zero =>
            intro H locs M_18 x1_15 x2_16 x4_17 ls  hl hw hf
            rw [fX10_unlike_L23] at hf
            cases hf
          | succ n_19 ih_20 =>
            intro H locs M_18 x1_15 x2_16 x4_17 ls  hl hw hf
            rw [fX10_unlike_L23] at hf
            refine lv_iload hx hb dX10_unlike_23 (lv_at hl 4 rfl) ?_
            refine lv_aload_n hx hb dX10_unlike_25 rfl (lv_at hl 0 rfl) ?_
            refine fg_X10_10 C hw h0 dX10_unlike_26 ?_
            refine fg_X10_217 C hw h_7 dX10_unlike_29 ?_
            refine lv_icmp_ge (tgt := 102) hx hb dX10_unlike_32 (by decide) (fun q_21 => ?_) (fun q_21 => ?_)
            · have hf := x_iP hf q_21
              exact hk102_12 _ _ _ _ _ _ (lv_sub hl [0, 1, 2, 3] rfl) hw hf
            · have hf := x_iN hf q_21
              refine lv_aload_n hx hb dX10_unlike_35 rfl (lv_at hl 0 rfl) ?_
              refine fg_X10_10 C hw h0 dX10_unlike_36 ?_
              refine fg_X10_230 C hw h_7 dX10_unlike_39 ?_
              have h_22 : x_is 0 (xr 0 (xr 0 k0 0) 8) 16 := x_tr h_7 (by decide) (by decide) rfl (by decide)
              refine lv_iload_n hx hb dX10_unlike_42 rfl (lv_at hl 1 rfl) ?_
              obtain ⟨q_23, hf⟩ := x_gE hf
              refine x_rld (t := 4) C hw h_22 (by decide) rfl q_23 dX10_unlike_43 ?_
              have h_24 : x_is 0 (xr 0 (xr 0 (xr 0 k0 0) 8) x3_3.toNatClampNeg) 2 := x_ta h_22 (by decide) (x_ilt q_23)
              refine fg_X10_239 C hw h_24 dX10_unlike_44 ?_
              refine lv_aload_n hx hb dX10_unlike_47 rfl (lv_at hl 0 rfl) ?_
              refine fg_X10_10 C hw h0 dX10_unlike_48 ?_
              refine fg_X10_230 C hw h_7 dX10_unlike_51 ?_
              refine lv_iload hx hb dX10_unlike_54 (lv_at hl 4 rfl) ?_
              obtain ⟨q_25, hf⟩ := x_gE hf
              refine x_rld (t := 4) C hw h_22 (by decide) rfl q_25 dX10_unlike_56 ?_
              have h_26 : x_is 0 (xr 0 (xr 0 (xr 0 k0 0) 8) x4_17.toNatClampNeg) 2 := x_ta h_22 (by decide) (x_ilt q_25)
              refine fg_X10_239 C hw h_26 dX10_unlike_57 ?_
              refine lv_isub hx hb dX10_unlike_60 ?_
              refine mm_X10_323 C hl.1 (Nat.le_of_ble_eq_true rfl) (Nat.le_of_ble_eq_true rfl) ⟨Nat.zero_le _, Nat.zero_le _⟩ dX10_unlike_61 ?_
              refine lv_topi (fun x5_27 ex5_27 => ?_)
              have hf := x_lE ex5_27 hf
              refine lv_istore (lv' := [(5, .int x5_27), (0, .ref (g.2.2.1 k0)), (3, .int x3_3), (1, .int x1_15), (2, .int x2_16), (4, .int x4_17)]) hx hb dX10_unlike_64 hl (by decide) rfl (fun ls hl => ?_)
              refine lv_iload hx hb dX10_unlike_66 (lv_at hl 0 rfl) ?_
              refine lv_iload_n hx hb dX10_unlike_68 rfl (lv_at hl 3 rfl) ?_
              obtain ⟨k96_30, ek96_30, hf⟩ := x_jE hf
              have hk96_30 : ∀ (H : Heap) (locs : List Loc) (M_31 : xM) (x1_28 : Int32) (x2_29 : Int32) (ls : Array Slot) , lv_has ls 6 [(0, .ref (g.2.2.1 k0)), (3, .int x3_3), (4, .int x4_17), (1, .int x1_28), (2, .int x2_29)] → x_w g 0 s H locs M_31 → k96_30 M_31 x1_28 x2_29 = some (r, M') → W p l e (x_rm 3 69) s m args below meth c H locs 0 0 Q (F0 m 96 ls []) := by
                intro H locs M_31 x1_28 x2_29 ls  hl hw hf
                rw [ek96_30] at hf
                obtain ⟨x4_32, ex4_32⟩ : ∃ z : Int32, z = (x4_17 + (1 : Int32)) := ⟨_, rfl⟩
                have hf := x_lE ex4_32 hf
                refine lv_iinc (v := x4_32) (lv' := [(4, .int x4_32), (0, .ref (g.2.2.1 k0)), (3, .int x3_3), (1, .int x1_28), (2, .int x2_29)]) hx hb dX10_unlike_96 hl (k := 2) rfl (by rw [ex4_32]; rfl) (by decide) rfl (fun ls hl => ?_)
                refine lv_goto (tgt := 23) hx hb dX10_unlike_99 (by decide) ?_
                exact ih_20 _ _ _ _ _ _ _ (lv_sub hl [1, 2, 3, 4, 0] rfl) hw hf
              refine lv_icmp_le (tgt := 96) hx hb dX10_unlike_69 (by decide) (fun q_33 => ?_) (fun q_33 => ?_)
              · have hf := x_iP hf q_33
                exact hk96_30 _ _ _ _ _ _ (lv_sub hl [1, 2, 5, 3, 4] rfl) hw hf
              · have hf := x_iN hf q_33
                refine lv_aload_n hx hb dX10_unlike_72 rfl (lv_at hl 1 rfl) ?_
                refine fg_X10_10 C hw h0 dX10_unlike_73 ?_
                refine lv_iload_n hx hb dX10_unlike_76 rfl (lv_at hl 2 rfl) ?_
                refine lv_iload hx hb dX10_unlike_77 (lv_at hl 5 rfl) ?_
                obtain ⟨tv_36, tM_34, c_35, hf⟩ := x_bE hf
                refine x_vI C hw hl.1 [.int x3_3, .int x4_17] [] (mX8_areAlike l g h_7 c_35) lk_X10_319 h_7 (by decide) rfl (by decide) rfl (Nat.le_of_ble_eq_true rfl) ⟨Nat.zero_le _, Nat.zero_le _⟩ dX10_unlike_79 (fun v_36 M_34 H locs hN hw => ?_)
                obtain ⟨rfl, rfl⟩ := hN
                refine lv_if_eq (tgt := 96) hx hb dX10_unlike_82 (by decide) (fun q_37 => ?_) (fun q_37 => ?_)
                · have hf := x_iP hf q_37
                  exact hk96_30 _ _ _ _ _ _ (lv_sub hl [1, 2, 5, 3, 4] rfl) hw hf
                · have hf := x_iN hf q_37
                  refine lv_iload hx hb dX10_unlike_85 (lv_at hl 0 rfl) ?_
                  refine lv_istore_n (lv' := [(1, .int x5_27), (5, .int x5_27), (0, .ref (g.2.2.1 k0)), (3, .int x3_3), (2, .int x2_16), (4, .int x4_17)]) hx hb dX10_unlike_87 rfl hl (by decide) rfl (fun ls hl => ?_)
                  refine lv_bipush (v := (100 : Int32)) hx hb dX10_unlike_88 (by decide) ?_
                  refine lv_iload_n hx hb dX10_unlike_90 rfl (lv_at hl 3 rfl) ?_
                  refine lv_imul hx hb dX10_unlike_91 ?_
                  refine lv_iload hx hb dX10_unlike_92 (lv_at hl 5 rfl) ?_
                  refine lv_iadd hx hb dX10_unlike_94 ?_
                  refine lv_topi (fun x2_38 ex2_38 => ?_)
                  have hf := x_lE ex2_38 hf
                  refine lv_istore_n (lv' := [(2, .int x2_38), (1, .int x5_27), (5, .int x5_27), (0, .ref (g.2.2.1 k0)), (3, .int x3_3), (4, .int x4_17)]) hx hb dX10_unlike_95 rfl hl (by decide) rfl (fun ls hl => ?_)
                  exact hk96_30 _ _ _ _ _ _ (lv_sub hl [3, 4, 5, 1, 0] rfl) hw hf
        exact hL_39 _ _ _ _ _ _ _ _ (lv_sub hl [1, 4, 2, 3, 0] rfl) hw hf
  exact hL_40 _ _ _ _ _ _ _ _ (lv_sub hl [3, 2, 1, 0] rfl) hw hf
def fX10_spread_L21 (k0 : Nat) (a1 : Int32) (k93_7 : xM → Int32 → Int32 → Option (Int32 × xM)) : Nat → xM → Int32 → Int32 → Int32 → Option (Int32 × xM)
  | 0, _, _, _, _ => none
  | n_13 + 1, M_12, x2_9, x3_10, x4_11 => if (M_12 (xr 0 k0 0) 4) ≤ x4_11 then (k93_7 M_12 x2_9 x3_10) else (x_l (fun (M_19 : xM) (z_17 : Int32) => x_b (fX8_shareOf M_19 (xr 0 k0 0) x4_11 z_17) fun v_22 M_20 => x_l (if x2_9 < v_22 then v_22 else x2_9) fun x2_23 => x_l (if v_22 < x3_10 then v_22 else x3_10) fun x3_24 => x_l (x4_11 + (1 : Int32)) fun x4_25 => fX10_spread_L21 k0 a1 k93_7 n_13 M_20 x2_23 x3_24 x4_25) fun k68_18 => if a1 = 0 then (x_g x4_11 (xn 0 (xr 0 (xr 0 k0 0) 8)) (x_b (fX2_fine M_12 (xr 0 (xr 0 (xr 0 k0 0) 8) x4_11.toNatClampNeg)) fun v_35 M_33 => k68_18 M_33 v_35)) else (x_b (fX8_flatOf M_12 (xr 0 k0 0) x4_11) fun v_29 M_27 => k68_18 M_27 v_29))
def fX10_spread (M : xM) (k0 : Nat) (a1 : Int32) : Option (Int32 × xM) := x_b (fX10_isWithin M a1 (0 : Int32) (1 : Int32)) fun v_3 M_1 => if v_3 = 0 then (some ((-1000000001 : Int32), M_1)) else (x_l (fun (M_8 : xM) (x2_5 : Int32) (x3_6 : Int32) => some ((if (0 : Int32) < (x2_5 - x3_6) then (x2_5 - x3_6) else (0 : Int32)), M_8)) fun k93_7 => fX10_spread_L21 k0 a1 k93_7 x_FU M_1 (0 : Int32) (9999999 : Int32) (0 : Int32))
set_option maxRecDepth 100000 in
set_option maxHeartbeats 4000000 in
theorem mX10_spread (l : Launch) (g : xG) {k0 : Nat} {a1 : Int32} {r : Int32} {M' : xM} (h0 : x_is 0 k0 10) {M : xM} (hf : fX10_spread M k0 a1 = some (r, M')) : x_cI l g 0 yX10_spread cX10_spread 6 .int 5 123 [.ref (g.2.2.1 k0), .int a1] M (fun v N => v = r ∧ N = M') := by
  refine x_stI RX10 (by decide) rfl (Nat.le_of_ble_eq_true rfl) ?_
  intro p e s m args below meth c Q ls C hw ret hl
  obtain ⟨hx, hb, hml, hown, hB, -⟩ := id C
  have hl : lv_has ls 6 [(0, .ref (g.2.2.1 k0)), (1, .int a1)] := hl
  unfold fX10_spread at hf
  refine lv_iload_n hx hb dX10_spread_0 rfl (lv_at hl 1 rfl) ?_
  refine lv_iconst (v := (0 : Int32)) hx hb dX10_spread_1 (by decide) ?_
  refine lv_iconst (v := (1 : Int32)) hx hb dX10_spread_2 (by decide) ?_
  obtain ⟨tv_3, tM_1, c_2, hf⟩ := x_bE hf
  refine x_sI C hw hl.1 [.int a1, .int (0 : Int32), .int (1 : Int32)] [] (mX10_isWithin l g c_2) lk_X10_57 (by decide) rfl (Nat.le_of_ble_eq_true rfl) ⟨Nat.zero_le _, Nat.zero_le _⟩ dX10_spread_3 (fun v_3 M_1 H locs hN hw => ?_)
  obtain ⟨rfl, rfl⟩ := hN
  refine lv_if_ne (tgt := 12) hx hb dX10_spread_6 (by decide) (fun q_4 => ?_) (fun q_4 => ?_)
  · have hf := x_iN hf q_4
    refine lv_iconst (v := (0 : Int32)) hx hb dX10_spread_12 (by decide) ?_
    refine lv_istore_n (lv' := [(2, .int (0 : Int32)), (0, .ref (g.2.2.1 k0)), (1, .int a1)]) hx hb dX10_spread_13 rfl hl (by decide) rfl (fun ls hl => ?_)
    refine lv_ldcw hx hb hown (hB _ mk_X10_292) dX10_spread_14 ?_
    refine lv_istore_n (lv' := [(3, .int (9999999 : Int32)), (2, .int (0 : Int32)), (0, .ref (g.2.2.1 k0)), (1, .int a1)]) hx hb dX10_spread_17 rfl hl (by decide) rfl (fun ls hl => ?_)
    refine lv_iconst (v := (0 : Int32)) hx hb dX10_spread_18 (by decide) ?_
    refine lv_istore (lv' := [(4, .int (0 : Int32)), (3, .int (9999999 : Int32)), (2, .int (0 : Int32)), (0, .ref (g.2.2.1 k0)), (1, .int a1)]) hx hb dX10_spread_19 hl (by decide) rfl (fun ls hl => ?_)
    obtain ⟨k93_7, ek93_7, hf⟩ := x_jE hf
    have hk93_7 : ∀ (H : Heap) (locs : List Loc) (M_8 : xM) (x2_5 : Int32) (x3_6 : Int32) (ls : Array Slot) , lv_has ls 6 [(2, .int x2_5), (3, .int x3_6)] → x_w g 0 s H locs M_8 → k93_7 M_8 x2_5 x3_6 = some (r, M') → W p l e (x_rm 5 123) s m args below meth c H locs 0 0 Q (F0 m 93 ls []) := by
      intro H locs M_8 x2_5 x3_6 ls  hl hw hf
      rw [ek93_7] at hf
      refine lv_iconst (v := (0 : Int32)) hx hb dX10_spread_93 (by decide) ?_
      refine lv_iload_n hx hb dX10_spread_94 rfl (lv_at hl 0 rfl) ?_
      refine lv_iload_n hx hb dX10_spread_95 rfl (lv_at hl 1 rfl) ?_
      refine lv_isub hx hb dX10_spread_96 ?_
      refine mm_X10_326 C hl.1 (Nat.le_of_ble_eq_true rfl) (Nat.le_of_ble_eq_true rfl) ⟨Nat.zero_le _, Nat.zero_le _⟩ dX10_spread_97 ?_
      exact ret hf dX10_spread_100 hw
    have hL_36 : ∀ (n_13 : Nat) (H : Heap) (locs : List Loc) (M_12 : xM) (x2_9 : Int32) (x3_10 : Int32) (x4_11 : Int32) (ls : Array Slot) , lv_has ls 6 [(0, .ref (g.2.2.1 k0)), (1, .int a1), (2, .int x2_9), (3, .int x3_10), (4, .int x4_11)] → x_w g 0 s H locs M_12 → fX10_spread_L21 k0 a1 k93_7 n_13 M_12 x2_9 x3_10 x4_11 = some (r, M') → W p l e (x_rm 5 123) s m args below meth c H locs 0 0 Q (F0 m 21 ls []) := by
      intro n_13
      induction n_13 with
      | zero =>
        intro H locs M_12 x2_9 x3_10 x4_11 ls  hl hw hf
        rw [fX10_spread_L21] at hf
        cases hf
      | succ n_13 ih_14 =>
        intro H locs M_12 x2_9 x3_10 x4_11 ls  hl hw hf
        rw [fX10_spread_L21] at hf
        refine lv_iload hx hb dX10_spread_21 (lv_at hl 4 rfl) ?_
        refine lv_aload_n hx hb dX10_spread_23 rfl (lv_at hl 0 rfl) ?_
        refine fg_X10_10 C hw h0 dX10_spread_24 ?_
        have h_15 : x_is 0 (xr 0 k0 0) 8 := x_tr h0 (by decide) (by decide) rfl (by decide)
        refine fg_X10_217 C hw h_15 dX10_spread_27 ?_
        refine lv_icmp_ge (tgt := 93) hx hb dX10_spread_30 (by decide) (fun q_16 => ?_) (fun q_16 => ?_)
        · have hf := x_iP hf q_16
          exact hk93_7 _ _ _ _ _ _ (lv_sub hl [2, 3] rfl) hw hf
        · have hf := x_iN hf q_16
          refine lv_aload_n hx hb dX10_spread_33 rfl (lv_at hl 0 rfl) ?_
          refine fg_X10_10 C hw h0 dX10_spread_34 ?_
          refine lv_iload hx hb dX10_spread_37 (lv_at hl 4 rfl) ?_
          refine lv_iload_n hx hb dX10_spread_39 rfl (lv_at hl 1 rfl) ?_
          obtain ⟨k68_18, ek68_18, hf⟩ := x_jE hf
          have hk68_18 : ∀ (H : Heap) (locs : List Loc) (M_19 : xM) (z_17 : Int32) (ls : Array Slot) , lv_has ls 6 [(0, .ref (g.2.2.1 k0)), (1, .int a1), (2, .int x2_9), (3, .int x3_10), (4, .int x4_11)] → x_w g 0 s H locs M_19 → k68_18 M_19 z_17 = some (r, M') → W p l e (x_rm 5 123) s m args below meth c H locs 0 0 Q (F0 m 68 ls [.int z_17, .int x4_11, .ref (g.2.2.1 (xr 0 k0 0))]) := by
            intro H locs M_19 z_17 ls  hl hw hf
            rw [ek68_18] at hf
            obtain ⟨tv_22, tM_20, c_21, hf⟩ := x_bE hf
            refine x_vI C hw hl.1 [.int x4_11, .int z_17] [] (mX8_shareOf l g h_15 c_21) lk_X10_274 h_15 (by decide) rfl (by decide) rfl (Nat.le_of_ble_eq_true rfl) ⟨Nat.zero_le _, Nat.zero_le _⟩ dX10_spread_68 (fun v_22 M_20 H locs hN hw => ?_)
            obtain ⟨rfl, rfl⟩ := hN
            refine lv_istore (lv' := [(5, .int v_22), (0, .ref (g.2.2.1 k0)), (1, .int a1), (2, .int x2_9), (3, .int x3_10), (4, .int x4_11)]) hx hb dX10_spread_71 hl (by decide) rfl (fun ls hl => ?_)
            refine lv_iload_n hx hb dX10_spread_73 rfl (lv_at hl 3 rfl) ?_
            refine lv_iload hx hb dX10_spread_74 (lv_at hl 0 rfl) ?_
            refine mm_X10_326 C hl.1 (Nat.le_of_ble_eq_true rfl) (Nat.le_of_ble_eq_true rfl) ⟨Nat.zero_le _, Nat.zero_le _⟩ dX10_spread_76 ?_
            refine lv_topi (fun x2_23 ex2_23 => ?_)
            have hf := x_lE ex2_23 hf
            refine lv_istore_n (lv' := [(2, .int x2_23), (5, .int v_22), (0, .ref (g.2.2.1 k0)), (1, .int a1), (3, .int x3_10), (4, .int x4_11)]) hx hb dX10_spread_79 rfl hl (by decide) rfl (fun ls hl => ?_)
            refine lv_iload_n hx hb dX10_spread_80 rfl (lv_at hl 4 rfl) ?_
            refine lv_iload hx hb dX10_spread_81 (lv_at hl 1 rfl) ?_
            refine mm_X10_224 C hl.1 (Nat.le_of_ble_eq_true rfl) (Nat.le_of_ble_eq_true rfl) ⟨Nat.zero_le _, Nat.zero_le _⟩ dX10_spread_83 ?_
            refine lv_topi (fun x3_24 ex3_24 => ?_)
            have hf := x_lE ex3_24 hf
            refine lv_istore_n (lv' := [(3, .int x3_24), (2, .int x2_23), (5, .int v_22), (0, .ref (g.2.2.1 k0)), (1, .int a1), (4, .int x4_11)]) hx hb dX10_spread_86 rfl hl (by decide) rfl (fun ls hl => ?_)
            obtain ⟨x4_25, ex4_25⟩ : ∃ z : Int32, z = (x4_11 + (1 : Int32)) := ⟨_, rfl⟩
            have hf := x_lE ex4_25 hf
            refine lv_iinc (v := x4_25) (lv' := [(4, .int x4_25), (3, .int x3_24), (2, .int x2_23), (5, .int v_22), (0, .ref (g.2.2.1 k0)), (1, .int a1)]) hx hb dX10_spread_87 hl (k := 5) rfl (by rw [ex4_25]; rfl) (by decide) rfl (fun ls hl => ?_)
            refine lv_goto (tgt := 21) hx hb dX10_spread_90 (by decide) ?_
            exact ih_14 _ _ _ _ _ _ _ (lv_sub hl [4, 5, 2, 1, 0] rfl) hw hf
          refine lv_if_ne (tgt := 59) hx hb dX10_spread_40 (by decide) (fun q_26 => ?_) (fun q_26 => ?_)
          · have hf := x_iN hf q_26
            refine lv_aload_n hx hb dX10_spread_59 rfl (lv_at hl 0 rfl) ?_
            refine fg_X10_10 C hw h0 dX10_spread_60 ?_
            refine lv_iload hx hb dX10_spread_63 (lv_at hl 4 rfl) ?_
            obtain ⟨tv_29, tM_27, c_28, hf⟩ := x_bE hf
            refine x_vI C hw hl.1 [.int x4_11] [.int x4_11, .ref (g.2.2.1 (xr 0 k0 0))] (mX8_flatOf l g h_15 c_28) lk_X10_277 h_15 (by decide) rfl (by decide) rfl (Nat.le_of_ble_eq_true rfl) ⟨Nat.zero_le _, Nat.zero_le _⟩ dX10_spread_65 (fun v_29 M_27 H locs hN hw => ?_)
            obtain ⟨rfl, rfl⟩ := hN
            exact hk68_18 _ _ _ _ _ (lv_sub hl [0, 1, 2, 3, 4] rfl) hw hf
          · have hf := x_iP hf q_26
            refine lv_aload_n hx hb dX10_spread_43 rfl (lv_at hl 0 rfl) ?_
            refine fg_X10_10 C hw h0 dX10_spread_44 ?_
            refine fg_X10_230 C hw h_15 dX10_spread_47 ?_
            have h_30 : x_is 0 (xr 0 (xr 0 k0 0) 8) 16 := x_tr h_15 (by decide) (by decide) rfl (by decide)
            refine lv_iload hx hb dX10_spread_50 (lv_at hl 4 rfl) ?_
            obtain ⟨q_31, hf⟩ := x_gE hf
            refine x_rld (t := 4) C hw h_30 (by decide) rfl q_31 dX10_spread_52 ?_
            have h_32 : x_is 0 (xr 0 (xr 0 (xr 0 k0 0) 8) x4_11.toNatClampNeg) 2 := x_ta h_30 (by decide) (x_ilt q_31)
            obtain ⟨tv_35, tM_33, c_34, hf⟩ := x_bE hf
            refine x_vI C hw hl.1 [] [.int x4_11, .ref (g.2.2.1 (xr 0 k0 0))] (mX2_fine l g h_32 c_34) lk_X10_253 h_32 (by decide) rfl (by decide) rfl (Nat.le_of_ble_eq_true rfl) ⟨Nat.zero_le _, Nat.zero_le _⟩ dX10_spread_53 (fun v_35 M_33 H locs hN hw => ?_)
            obtain ⟨rfl, rfl⟩ := hN
            refine lv_goto (tgt := 68) hx hb dX10_spread_56 (by decide) ?_
            exact hk68_18 _ _ _ _ _ (lv_sub hl [0, 1, 2, 3, 4] rfl) hw hf
    exact hL_36 _ _ _ _ _ _ _ _ (lv_sub hl [3, 4, 2, 1, 0] rfl) hw hf
  · have hf := x_iP hf q_4
    refine lv_ldc hx hb hown (hB _ mk_X10_61) dX10_spread_9 ?_
    exact ret hf dX10_spread_11 hw
def fX10_slip_L41 (k0 : Nat) (a2 : Int32) (k118_14 : xM → Int64 → Option (Int32 × xM)) (k87_27 : xM → Int32 → Option (Int32 × xM)) : Nat → xM → Int64 → Int32 → Option (Int32 × xM)
  | 0, _, _, _ => none
  | n_32 + 1, M_31, x3_29, x5_30 => x_g a2 (xn 0 (xr 0 k0 9)) (if (M_31 (xr 0 k0 9) a2.toNatClampNeg) ≤ x5_30 then (k118_14 M_31 x3_29) else (x_g a2 (xn 0 (xr 0 k0 7)) (x_g x5_30 (xn 0 (xr 0 (xr 0 k0 7) a2.toNatClampNeg)) (x_l (M_31 (xr 0 (xr 0 k0 7) a2.toNatClampNeg) x5_30.toNatClampNeg) fun x6_41 => x_d (2 : Int32) (x_l (fun (M_45 : xM) (z_43 : Int32) => x_l (fun (M_47 : xM) => x_l (fun (M_50 : xM) (x3_48 : Int64) => x_l (x5_30 + (1 : Int32)) fun x5_51 => fX10_slip_L41 k0 a2 k118_14 k87_27 n_32 M_50 x3_48 x5_51) fun k112_49 => if z_43 = 0 then (k112_49 M_47 x3_29) else (x_l (x3_29 + (x6_41.toInt64)) fun x3_53 => k112_49 M_47 x3_53)) fun k101_46 => if z_43 = 0 then (if (lg_cmp (x6_41.toInt64) x3_29) = 0 then (k101_46 M_45) else (some (x5_30, M_45))) else (if 0 ≤ x6_41 then (k101_46 M_45) else (k87_27 M_45 x5_30))) fun k75_44 => if (x5_30 - x5_30 / (2 : Int32) * (2 : Int32)) = 0 then (k75_44 M_31 (1 : Int32)) else (k75_44 M_31 (0 : Int32)))))))
def fX10_slip (M : xM) (k0 : Nat) (a1 : Int32) (a2 : Int32) : Option (Int32 × xM) := x_b (fX8_hasPerson M (xr 0 k0 0) a1) fun v_4 M_2 => if v_4 = 0 then (some ((-1000000001 : Int32), M_2)) else (x_b (fX10_isWithin M_2 a2 (0 : Int32) (1 : Int32)) fun v_8 M_6 => if v_8 = 0 then (some ((-1000000001 : Int32), M_6)) else (x_g a2 (xn 0 (xr 0 k0 8)) (if (M_6 (xr 0 k0 8) a2.toNatClampNeg) = 0 then (x_l (fun (M_15 : xM) (x3_13 : Int64) => x_g a2 (xn 0 (xr 0 k0 9)) (if (24 : Int32) ≤ (M_15 (xr 0 k0 9) a2.toNatClampNeg) then (x_b (fX8_valueOf M_15 (xr 0 k0 0) a1 (0 : Int32) (M_15 (xr 0 k0 0) 0) (M_15 (xr 0 k0 0) 0)) fun v_21 M_19 => x_l (if 0 < (x3_13 - ((12 : Int64) * (v_21.toInt64))) then (x3_13 - ((12 : Int64) * (v_21.toInt64))) else -(x3_13 - ((12 : Int64) * (v_21.toInt64)))) fun x5_22 => x_g (15 : Int32) (xn 0 (xr 0 (xr 0 k0 0) 9)) (if (lg_cmp x5_22 ((M_19 (xr 0 (xr 0 k0 0) 9) (15 : Int32).toNatClampNeg).toInt64)) ≤ 0 then (some ((-1000000005 : Int32), M_19)) else (some ((23 : Int32), M_19)))) else (some ((-1000000005 : Int32), M_15)))) fun k118_14 => x_l (fun (M_28 : xM) (x5_26 : Int32) => some (x5_26, M_28)) fun k87_27 => fX10_slip_L41 k0 a2 k118_14 k87_27 x_FU M_6 (0 : Int64) (0 : Int32)) else (some ((-1000000011 : Int32), M_6)))))
set_option maxRecDepth 100000 in
set_option maxHeartbeats 4000000 in
theorem mX10_slip (l : Launch) (g : xG) {k0 : Nat} {a1 : Int32} {a2 : Int32} {r : Int32} {M' : xM} (h0 : x_is 0 k0 10) {M : xM} (hf : fX10_slip M k0 a1 a2 = some (r, M')) : x_cI l g 0 yX10_slip cX10_slip 8 .int 2 50 [.ref (g.2.2.1 k0), .int a1, .int a2] M (fun v N => v = r ∧ N = M') := by
  refine x_stI RX10 (by decide) rfl (Nat.le_of_ble_eq_true rfl) ?_
  intro p e s m args below meth c Q ls C hw ret hl
  obtain ⟨hx, hb, hml, hown, hB, -⟩ := id C
  have hl : lv_has ls 8 [(0, .ref (g.2.2.1 k0)), (1, .int a1), (2, .int a2)] := hl
  unfold fX10_slip at hf
  refine lv_aload_n hx hb dX10_slip_0 rfl (lv_at hl 0 rfl) ?_
  refine fg_X10_10 C hw h0 dX10_slip_1 ?_
  have h_1 : x_is 0 (xr 0 k0 0) 8 := x_tr h0 (by decide) (by decide) rfl (by decide)
  refine lv_iload_n hx hb dX10_slip_4 rfl (lv_at hl 1 rfl) ?_
  obtain ⟨tv_4, tM_2, c_3, hf⟩ := x_bE hf
  refine x_vI C hw hl.1 [.int a1] [] (mX8_hasPerson l g h_1 c_3) lk_X10_76 h_1 (by decide) rfl (by decide) rfl (Nat.le_of_ble_eq_true rfl) ⟨Nat.zero_le _, Nat.zero_le _⟩ dX10_slip_5 (fun v_4 M_2 H locs hN hw => ?_)
  obtain ⟨rfl, rfl⟩ := hN
  refine lv_if_eq (tgt := 20) hx hb dX10_slip_8 (by decide) (fun q_5 => ?_) (fun q_5 => ?_)
  · have hf := x_iP hf q_5
    refine lv_ldc hx hb hown (hB _ mk_X10_61) dX10_slip_20 ?_
    exact ret hf dX10_slip_22 hw
  · have hf := x_iN hf q_5
    refine lv_iload_n hx hb dX10_slip_11 rfl (lv_at hl 2 rfl) ?_
    refine lv_iconst (v := (0 : Int32)) hx hb dX10_slip_12 (by decide) ?_
    refine lv_iconst (v := (1 : Int32)) hx hb dX10_slip_13 (by decide) ?_
    obtain ⟨tv_8, tM_6, c_7, hf⟩ := x_bE hf
    refine x_sI C hw hl.1 [.int a2, .int (0 : Int32), .int (1 : Int32)] [] (mX10_isWithin l g c_7) lk_X10_57 (by decide) rfl (Nat.le_of_ble_eq_true rfl) ⟨Nat.zero_le _, Nat.zero_le _⟩ dX10_slip_14 (fun v_8 M_6 H locs hN hw => ?_)
    obtain ⟨rfl, rfl⟩ := hN
    refine lv_if_ne (tgt := 23) hx hb dX10_slip_17 (by decide) (fun q_9 => ?_) (fun q_9 => ?_)
    · have hf := x_iN hf q_9
      refine lv_aload_n hx hb dX10_slip_23 rfl (lv_at hl 0 rfl) ?_
      refine fg_X10_50 C hw h0 dX10_slip_24 ?_
      have h_10 : x_is 0 (xr 0 k0 8) 13 := x_tr h0 (by decide) (by decide) rfl (by decide)
      refine lv_iload_n hx hb dX10_slip_27 rfl (lv_at hl 2 rfl) ?_
      obtain ⟨q_11, hf⟩ := x_gE hf
      refine x_zld C hw h_10 q_11 dX10_slip_28 ?_
      refine lv_if_eq (tgt := 36) hx hb dX10_slip_29 (by decide) (fun q_12 => ?_) (fun q_12 => ?_)
      · have hf := x_iP hf q_12
        refine lv_lconst (v := 0) hx hb dX10_slip_36 (by decide) ?_
        refine lv_lstore_n (lv' := [(3, .long (0 : Int64)), (0, .ref (g.2.2.1 k0)), (1, .int a1), (2, .int a2)]) hx hb dX10_slip_37 rfl hl (by decide) rfl (fun ls hl => ?_)
        refine lv_iconst (v := (0 : Int32)) hx hb dX10_slip_38 (by decide) ?_
        refine lv_istore (lv' := [(5, .int (0 : Int32)), (3, .long (0 : Int64)), (0, .ref (g.2.2.1 k0)), (1, .int a1), (2, .int a2)]) hx hb dX10_slip_39 hl (by decide) rfl (fun ls hl => ?_)
        obtain ⟨k118_14, ek118_14, hf⟩ := x_jE hf
        have hk118_14 : ∀ (H : Heap) (locs : List Loc) (M_15 : xM) (x3_13 : Int64) (ls : Array Slot) , lv_has ls 8 [(0, .ref (g.2.2.1 k0)), (1, .int a1), (2, .int a2), (3, .long x3_13)] → x_w g 0 s H locs M_15 → k118_14 M_15 x3_13 = some (r, M') → W p l e (x_rm 2 50) s m args below meth c H locs 0 0 Q (F0 m 118 ls []) := by
          intro H locs M_15 x3_13 ls  hl hw hf
          rw [ek118_14] at hf
          refine lv_aload_n hx hb dX10_slip_118 rfl (lv_at hl 0 rfl) ?_
          refine fg_X10_54 C hw h0 dX10_slip_119 ?_
          have h_16 : x_is 0 (xr 0 k0 9) 12 := x_tr h0 (by decide) (by decide) rfl (by decide)
          refine lv_iload_n hx hb dX10_slip_122 rfl (lv_at hl 2 rfl) ?_
          obtain ⟨q_17, hf⟩ := x_gE hf
          refine x_ald C hw h_16 q_17 dX10_slip_123 ?_
          refine lv_bipush (v := (24 : Int32)) hx hb dX10_slip_124 (by decide) ?_
          refine lv_icmp_ge (tgt := 132) hx hb dX10_slip_126 (by decide) (fun q_18 => ?_) (fun q_18 => ?_)
          · have hf := x_iP hf q_18
            refine lv_lload_n hx hb dX10_slip_132 rfl (lv_at hl 3 rfl) ?_
            refine lv_ldc2 hx hb hown (hB _ mkl_X10_330) dX10_slip_133 ?_
            refine lv_aload_n hx hb dX10_slip_136 rfl (lv_at hl 0 rfl) ?_
            refine fg_X10_10 C hw h0 dX10_slip_137 ?_
            refine lv_iload_n hx hb dX10_slip_140 rfl (lv_at hl 1 rfl) ?_
            refine lv_iconst (v := (0 : Int32)) hx hb dX10_slip_141 (by decide) ?_
            refine lv_aload_n hx hb dX10_slip_142 rfl (lv_at hl 0 rfl) ?_
            refine fg_X10_10 C hw h0 dX10_slip_143 ?_
            refine fg_X10_108 C hw h_1 dX10_slip_146 ?_
            refine lv_aload_n hx hb dX10_slip_149 rfl (lv_at hl 0 rfl) ?_
            refine fg_X10_10 C hw h0 dX10_slip_150 ?_
            refine fg_X10_108 C hw h_1 dX10_slip_153 ?_
            obtain ⟨tv_21, tM_19, c_20, hf⟩ := x_bE hf
            refine x_vI C hw hl.1 [.int a1, .int (0 : Int32), .int (M_15 (xr 0 k0 0) 0), .int (M_15 (xr 0 k0 0) 0)] [.long (12 : Int64), .long x3_13] (mX8_valueOf l g h_1 c_20) lk_X10_118 h_1 (by decide) rfl (by decide) rfl (Nat.le_of_ble_eq_true rfl) ⟨Nat.zero_le _, Nat.zero_le _⟩ dX10_slip_156 (fun v_21 M_19 H locs hN hw => ?_)
            obtain ⟨rfl, rfl⟩ := hN
            refine lv_i2l hx hb dX10_slip_159 rfl ?_
            refine lv_lmul hx hb dX10_slip_160 ?_
            refine lv_lsub hx hb dX10_slip_161 ?_
            refine mm_X10_332 C hl.1 (Nat.le_of_ble_eq_true rfl) (Nat.le_of_ble_eq_true rfl) ⟨Nat.zero_le _, Nat.zero_le _⟩ dX10_slip_162 ?_
            refine lv_topl (fun x5_22 ex5_22 => ?_)
            have hf := x_lE ex5_22 hf
            refine lv_lstore (lv' := [(5, .long x5_22), (0, .ref (g.2.2.1 k0)), (1, .int a1), (2, .int a2), (3, .long x3_13)]) hx hb dX10_slip_165 hl (by decide) rfl (fun ls hl => ?_)
            refine lv_lload hx hb dX10_slip_167 (lv_at hl 0 rfl) ?_
            refine lv_aload_n hx hb dX10_slip_169 rfl (lv_at hl 1 rfl) ?_
            refine fg_X10_10 C hw h0 dX10_slip_170 ?_
            refine fg_X10_128 C hw h_1 dX10_slip_173 ?_
            have h_23 : x_is 0 (xr 0 (xr 0 k0 0) 9) 12 := x_tr h_1 (by decide) (by decide) rfl (by decide)
            refine lv_bipush (v := (15 : Int32)) hx hb dX10_slip_176 (by decide) ?_
            obtain ⟨q_24, hf⟩ := x_gE hf
            refine x_ald C hw h_23 q_24 dX10_slip_178 ?_
            refine lv_i2l hx hb dX10_slip_179 rfl ?_
            refine W.lcmp hx hb dX10_slip_180 ?_
            refine lv_if_le (tgt := 189) hx hb dX10_slip_181 (by decide) (fun q_25 => ?_) (fun q_25 => ?_)
            · have hf := x_iP hf q_25
              refine lv_ldc hx hb hown (hB _ mk_X10_169) dX10_slip_189 ?_
              exact ret hf dX10_slip_191 hw
            · have hf := x_iN hf q_25
              refine lv_bipush (v := (23 : Int32)) hx hb dX10_slip_184 (by decide) ?_
              refine lv_goto (tgt := 191) hx hb dX10_slip_186 (by decide) ?_
              exact ret hf dX10_slip_191 hw
          · have hf := x_iN hf q_18
            refine lv_ldc hx hb hown (hB _ mk_X10_169) dX10_slip_129 ?_
            exact ret hf dX10_slip_131 hw
        obtain ⟨k87_27, ek87_27, hf⟩ := x_jE hf
        have hk87_27 : ∀ (H : Heap) (locs : List Loc) (M_28 : xM) (x5_26 : Int32) (ls : Array Slot) , lv_has ls 8 [(5, .int x5_26)] → x_w g 0 s H locs M_28 → k87_27 M_28 x5_26 = some (r, M') → W p l e (x_rm 2 50) s m args below meth c H locs 0 0 Q (F0 m 87 ls []) := by
          intro H locs M_28 x5_26 ls  hl hw hf
          rw [ek87_27] at hf
          refine lv_goto (tgt := 98) hx hb dX10_slip_87 (by decide) ?_
          refine lv_iload hx hb dX10_slip_98 (lv_at hl 0 rfl) ?_
          exact ret hf dX10_slip_100 hw
        have hL_58 : ∀ (n_32 : Nat) (H : Heap) (locs : List Loc) (M_31 : xM) (x3_29 : Int64) (x5_30 : Int32) (ls : Array Slot) , lv_has ls 8 [(0, .ref (g.2.2.1 k0)), (1, .int a1), (2, .int a2), (3, .long x3_29), (5, .int x5_30)] → x_w g 0 s H locs M_31 → fX10_slip_L41 k0 a2 k118_14 k87_27 n_32 M_31 x3_29 x5_30 = some (r, M') → W p l e (x_rm 2 50) s m args below meth c H locs 0 0 Q (F0 m 41 ls []) := by
          intro n_32
          induction n_32 with
          | zero =>
            intro H locs M_31 x3_29 x5_30 ls  hl hw hf
            rw [fX10_slip_L41] at hf
            cases hf
          | succ n_32 ih_33 =>
            intro H locs M_31 x3_29 x5_30 ls  hl hw hf
            rw [fX10_slip_L41] at hf
            refine lv_iload hx hb dX10_slip_41 (lv_at hl 4 rfl) ?_
            refine lv_aload_n hx hb dX10_slip_43 rfl (lv_at hl 0 rfl) ?_
            refine fg_X10_54 C hw h0 dX10_slip_44 ?_
            have h_34 : x_is 0 (xr 0 k0 9) 12 := x_tr h0 (by decide) (by decide) rfl (by decide)
            refine lv_iload_n hx hb dX10_slip_47 rfl (lv_at hl 2 rfl) ?_
            obtain ⟨q_35, hf⟩ := x_gE hf
            refine x_ald C hw h_34 q_35 dX10_slip_48 ?_
            refine lv_icmp_ge (tgt := 118) hx hb dX10_slip_49 (by decide) (fun q_36 => ?_) (fun q_36 => ?_)
            · have hf := x_iP hf q_36
              exact hk118_14 _ _ _ _ _ (lv_sub hl [0, 1, 2, 3] rfl) hw hf
            · have hf := x_iN hf q_36
              refine lv_aload_n hx hb dX10_slip_52 rfl (lv_at hl 0 rfl) ?_
              refine fg_X10_47 C hw h0 dX10_slip_53 ?_
              have h_37 : x_is 0 (xr 0 k0 7) 18 := x_tr h0 (by decide) (by decide) rfl (by decide)
              refine lv_iload_n hx hb dX10_slip_56 rfl (lv_at hl 2 rfl) ?_
              obtain ⟨q_38, hf⟩ := x_gE hf
              refine x_rrld C hw h_37 q_38 dX10_slip_57 ?_
              have h_39 : x_is 0 (xr 0 (xr 0 k0 7) a2.toNatClampNeg) 12 := x_ta h_37 (by decide) (x_ilt q_38)
              refine lv_iload hx hb dX10_slip_58 (lv_at hl 4 rfl) ?_
              obtain ⟨q_40, hf⟩ := x_gE hf
              refine x_ald C hw h_39 q_40 dX10_slip_60 ?_
              refine lv_topi (fun x6_41 ex6_41 => ?_)
              have hf := x_lE ex6_41 hf
              refine lv_istore (lv' := [(6, .int x6_41), (0, .ref (g.2.2.1 k0)), (1, .int a1), (2, .int a2), (3, .long x3_29), (5, .int x5_30)]) hx hb dX10_slip_61 hl (by decide) rfl (fun ls hl => ?_)
              refine lv_iload hx hb dX10_slip_63 (lv_at hl 5 rfl) ?_
              refine lv_iconst (v := (2 : Int32)) hx hb dX10_slip_65 (by decide) ?_
              obtain ⟨q_42, hf⟩ := x_dE hf
              refine lv_irem hx hb dX10_slip_66 q_42 ?_
              obtain ⟨k75_44, ek75_44, hf⟩ := x_jE hf
              have hk75_44 : ∀ (H : Heap) (locs : List Loc) (M_45 : xM) (z_43 : Int32) (ls : Array Slot) , lv_has ls 8 [(6, .int x6_41), (0, .ref (g.2.2.1 k0)), (1, .int a1), (2, .int a2), (3, .long x3_29), (5, .int x5_30)] → x_w g 0 s H locs M_45 → k75_44 M_45 z_43 = some (r, M') → W p l e (x_rm 2 50) s m args below meth c H locs 0 0 Q (F0 m 75 ls [.int z_43]) := by
                intro H locs M_45 z_43 ls  hl hw hf
                rw [ek75_44] at hf
                refine lv_istore (lv' := [(7, .int z_43), (6, .int x6_41), (0, .ref (g.2.2.1 k0)), (1, .int a1), (2, .int a2), (3, .long x3_29), (5, .int x5_30)]) hx hb dX10_slip_75 hl (by decide) rfl (fun ls hl => ?_)
                refine lv_iload hx hb dX10_slip_77 (lv_at hl 0 rfl) ?_
                obtain ⟨k101_46, ek101_46, hf⟩ := x_jE hf
                have hk101_46 : ∀ (H : Heap) (locs : List Loc) (M_47 : xM)  (ls : Array Slot) , lv_has ls 8 [(7, .int z_43), (6, .int x6_41), (0, .ref (g.2.2.1 k0)), (1, .int a1), (2, .int a2), (3, .long x3_29), (5, .int x5_30)] → x_w g 0 s H locs M_47 → k101_46 M_47 = some (r, M') → W p l e (x_rm 2 50) s m args below meth c H locs 0 0 Q (F0 m 101 ls []) := by
                  intro H locs M_47  ls  hl hw hf
                  rw [ek101_46] at hf
                  refine lv_iload hx hb dX10_slip_101 (lv_at hl 0 rfl) ?_
                  obtain ⟨k112_49, ek112_49, hf⟩ := x_jE hf
                  have hk112_49 : ∀ (H : Heap) (locs : List Loc) (M_50 : xM) (x3_48 : Int64) (ls : Array Slot) , lv_has ls 8 [(0, .ref (g.2.2.1 k0)), (1, .int a1), (2, .int a2), (5, .int x5_30), (3, .long x3_48)] → x_w g 0 s H locs M_50 → k112_49 M_50 x3_48 = some (r, M') → W p l e (x_rm 2 50) s m args below meth c H locs 0 0 Q (F0 m 112 ls []) := by
                    intro H locs M_50 x3_48 ls  hl hw hf
                    rw [ek112_49] at hf
                    obtain ⟨x5_51, ex5_51⟩ : ∃ z : Int32, z = (x5_30 + (1 : Int32)) := ⟨_, rfl⟩
                    have hf := x_lE ex5_51 hf
                    refine lv_iinc (v := x5_51) (lv' := [(5, .int x5_51), (0, .ref (g.2.2.1 k0)), (1, .int a1), (2, .int a2), (3, .long x3_48)]) hx hb dX10_slip_112 hl (k := 3) rfl (by rw [ex5_51]; rfl) (by decide) rfl (fun ls hl => ?_)
                    refine lv_goto (tgt := 41) hx hb dX10_slip_115 (by decide) ?_
                    exact ih_33 _ _ _ _ _ _ (lv_sub hl [1, 2, 3, 4, 0] rfl) hw hf
                  refine lv_if_eq (tgt := 112) hx hb dX10_slip_103 (by decide) (fun q_52 => ?_) (fun q_52 => ?_)
                  · have hf := x_iP hf q_52
                    exact hk112_49 _ _ _ _ _ (lv_sub hl [2, 3, 4, 6, 5] rfl) hw hf
                  · have hf := x_iN hf q_52
                    refine lv_lload_n hx hb dX10_slip_106 rfl (lv_at hl 5 rfl) ?_
                    refine lv_iload hx hb dX10_slip_107 (lv_at hl 1 rfl) ?_
                    refine lv_i2l hx hb dX10_slip_109 rfl ?_
                    refine lv_ladd hx hb dX10_slip_110 ?_
                    refine lv_topl (fun x3_53 ex3_53 => ?_)
                    have hf := x_lE ex3_53 hf
                    refine lv_lstore_n (lv' := [(3, .long x3_53), (7, .int z_43), (6, .int x6_41), (0, .ref (g.2.2.1 k0)), (1, .int a1), (2, .int a2), (5, .int x5_30)]) hx hb dX10_slip_111 rfl hl (by decide) rfl (fun ls hl => ?_)
                    exact hk112_49 _ _ _ _ _ (lv_sub hl [3, 4, 5, 6, 0] rfl) hw hf
                refine lv_if_eq (tgt := 90) hx hb dX10_slip_79 (by decide) (fun q_54 => ?_) (fun q_54 => ?_)
                · have hf := x_iP hf q_54
                  refine lv_iload hx hb dX10_slip_90 (lv_at hl 1 rfl) ?_
                  refine lv_i2l hx hb dX10_slip_92 rfl ?_
                  refine lv_lload_n hx hb dX10_slip_93 rfl (lv_at hl 5 rfl) ?_
                  refine W.lcmp hx hb dX10_slip_94 ?_
                  refine lv_if_eq (tgt := 101) hx hb dX10_slip_95 (by decide) (fun q_55 => ?_) (fun q_55 => ?_)
                  · have hf := x_iP hf q_55
                    exact hk101_46 _ _ _ _ (lv_sub hl [0, 1, 2, 3, 4, 5, 6] rfl) hw hf
                  · have hf := x_iN hf q_55
                    refine lv_iload hx hb dX10_slip_98 (lv_at hl 6 rfl) ?_
                    exact ret hf dX10_slip_100 hw
                · have hf := x_iN hf q_54
                  refine lv_iload hx hb dX10_slip_82 (lv_at hl 1 rfl) ?_
                  refine lv_if_ge (tgt := 101) hx hb dX10_slip_84 (by decide) (fun q_56 => ?_) (fun q_56 => ?_)
                  · have hf := x_iP hf q_56
                    exact hk101_46 _ _ _ _ (lv_sub hl [0, 1, 2, 3, 4, 5, 6] rfl) hw hf
                  · have hf := x_iN hf q_56
                    exact hk87_27 _ _ _ _ _ (lv_sub hl [6] rfl) hw hf
              refine lv_if_ne (tgt := 74) hx hb dX10_slip_67 (by decide) (fun q_57 => ?_) (fun q_57 => ?_)
              · have hf := x_iN hf q_57
                refine lv_iconst (v := (0 : Int32)) hx hb dX10_slip_74 (by decide) ?_
                exact hk75_44 _ _ _ _ _ (lv_sub hl [0, 1, 2, 3, 4, 5] rfl) hw hf
              · have hf := x_iP hf q_57
                refine lv_iconst (v := (1 : Int32)) hx hb dX10_slip_70 (by decide) ?_
                refine lv_goto (tgt := 75) hx hb dX10_slip_71 (by decide) ?_
                exact hk75_44 _ _ _ _ _ (lv_sub hl [0, 1, 2, 3, 4, 5] rfl) hw hf
        exact hL_58 _ _ _ _ _ _ _ (lv_sub hl [2, 3, 4, 1, 0] rfl) hw hf
      · have hf := x_iN hf q_12
        refine lv_ldcw hx hb hown (hB _ mk_X10_329) dX10_slip_32 ?_
        exact ret hf dX10_slip_35 hw
    · have hf := x_iP hf q_9
      refine lv_ldc hx hb hown (hB _ mk_X10_61) dX10_slip_20 ?_
      exact ret hf dX10_slip_22 hw
def fX10_keep (M : xM) (k0 : Nat) : Option (Int32 × xM) := x_v (fX8_become M (xr 0 k0 1) (xr 0 k0 0)) fun M_3 => x_z (1 : Int32) (x_l (x_up M_3 k0 2 (1 : Int32)) fun M_5 => some ((M_5 (xr 0 k0 0) 0), M_5))
set_option maxRecDepth 100000 in
set_option maxHeartbeats 4000000 in
theorem mX10_keep (l : Launch) (g : xG) {k0 : Nat} {r : Int32} {M' : xM} (h0 : x_is 0 k0 10) {M : xM} (hf : fX10_keep M k0 = some (r, M')) : x_cI l g 0 yX10_keep cX10_keep 1 .int 3 103 [.ref (g.2.2.1 k0)] M (fun v N => v = r ∧ N = M') := by
  refine x_stI RX10 (by decide) rfl (Nat.le_of_ble_eq_true rfl) ?_
  intro p e s m args below meth c Q ls C hw ret hl
  obtain ⟨hx, hb, hml, hown, hB, -⟩ := id C
  have hl : lv_has ls 1 [(0, .ref (g.2.2.1 k0))] := hl
  unfold fX10_keep at hf
  refine lv_aload_n hx hb dX10_keep_0 rfl (lv_at hl 0 rfl) ?_
  refine fg_X10_16 C hw h0 dX10_keep_1 ?_
  have h_1 : x_is 0 (xr 0 k0 1) 8 := x_tr h0 (by decide) (by decide) rfl (by decide)
  refine lv_aload_n hx hb dX10_keep_4 rfl (lv_at hl 0 rfl) ?_
  refine fg_X10_10 C hw h0 dX10_keep_5 ?_
  have h_2 : x_is 0 (xr 0 k0 0) 8 := x_tr h0 (by decide) (by decide) rfl (by decide)
  obtain ⟨tM_3, c_4, hf⟩ := x_vE hf
  refine x_vV C hw hl.1 [.ref (g.2.2.1 (xr 0 k0 0))] [] (mX8_become l g h_1 h_2 c_4) lk_X10_335 h_1 (by decide) rfl (by decide) rfl (Nat.le_of_ble_eq_true rfl) ⟨Nat.zero_le _, Nat.zero_le _⟩ dX10_keep_8 (fun M_3 H locs hN hw => ?_)
  obtain rfl := hN
  refine lv_aload_n hx hb dX10_keep_11 rfl (lv_at hl 0 rfl) ?_
  refine lv_iconst (v := (1 : Int32)) hx hb dX10_keep_12 (by decide) ?_
  obtain ⟨q_6, hf⟩ := x_zE hf
  refine fp_X10_19 C hw q_6 h0 dX10_keep_13 (fun H locs hw => ?_)
  obtain ⟨M_5, eM_5⟩ : ∃ z, z = (x_up M_3 k0 2 (1 : Int32)) := ⟨_, rfl⟩
  rw [← eM_5] at hw
  have hf := x_lE eM_5 hf
  refine lv_aload_n hx hb dX10_keep_16 rfl (lv_at hl 0 rfl) ?_
  refine fg_X10_10 C hw h0 dX10_keep_17 ?_
  refine fg_X10_108 C hw h_2 dX10_keep_20 ?_
  exact ret hf dX10_keep_23 hw
def fX10_again (M : xM) (k0 : Nat) : Option (Int32 × xM) := if (M k0 2) = 0 then (some ((-1000000002 : Int32), M)) else (x_v (fX8_become M (xr 0 k0 0) (xr 0 k0 1)) fun M_4 => some ((M_4 (xr 0 k0 0) 0), M_4))
set_option maxRecDepth 100000 in
set_option maxHeartbeats 4000000 in
theorem mX10_again (l : Launch) (g : xG) {k0 : Nat} {r : Int32} {M' : xM} (h0 : x_is 0 k0 10) {M : xM} (hf : fX10_again M k0 = some (r, M')) : x_cI l g 0 yX10_again cX10_again 1 .int 3 103 [.ref (g.2.2.1 k0)] M (fun v N => v = r ∧ N = M') := by
  refine x_stI RX10 (by decide) rfl (Nat.le_of_ble_eq_true rfl) ?_
  intro p e s m args below meth c Q ls C hw ret hl
  obtain ⟨hx, hb, hml, hown, hB, -⟩ := id C
  have hl : lv_has ls 1 [(0, .ref (g.2.2.1 k0))] := hl
  unfold fX10_again at hf
  refine lv_aload_n hx hb dX10_again_0 rfl (lv_at hl 0 rfl) ?_
  refine fg_X10_19 C hw h0 dX10_again_1 ?_
  refine lv_if_ne (tgt := 10) hx hb dX10_again_4 (by decide) (fun q_1 => ?_) (fun q_1 => ?_)
  · have hf := x_iN hf q_1
    refine lv_aload_n hx hb dX10_again_10 rfl (lv_at hl 0 rfl) ?_
    refine fg_X10_10 C hw h0 dX10_again_11 ?_
    have h_2 : x_is 0 (xr 0 k0 0) 8 := x_tr h0 (by decide) (by decide) rfl (by decide)
    refine lv_aload_n hx hb dX10_again_14 rfl (lv_at hl 0 rfl) ?_
    refine fg_X10_16 C hw h0 dX10_again_15 ?_
    have h_3 : x_is 0 (xr 0 k0 1) 8 := x_tr h0 (by decide) (by decide) rfl (by decide)
    obtain ⟨tM_4, c_5, hf⟩ := x_vE hf
    refine x_vV C hw hl.1 [.ref (g.2.2.1 (xr 0 k0 1))] [] (mX8_become l g h_2 h_3 c_5) lk_X10_335 h_2 (by decide) rfl (by decide) rfl (Nat.le_of_ble_eq_true rfl) ⟨Nat.zero_le _, Nat.zero_le _⟩ dX10_again_18 (fun M_4 H locs hN hw => ?_)
    obtain rfl := hN
    refine lv_aload_n hx hb dX10_again_21 rfl (lv_at hl 0 rfl) ?_
    refine fg_X10_10 C hw h0 dX10_again_22 ?_
    refine fg_X10_108 C hw h_2 dX10_again_25 ?_
    exact ret hf dX10_again_28 hw
  · have hf := x_iP hf q_1
    refine lv_ldc hx hb hown (hB _ mk_X10_91) dX10_again_7 ?_
    exact ret hf dX10_again_9 hw
def fX10_sheet_L28 (k0 : Nat) (a1 : Int32) (a2 : Int32) (k48_7 : xM → Option (Int32 × xM)) : Nat → xM → Int32 → Option (Int32 × xM)
  | 0, _, _ => none
  | n_18 + 1, M_17, x3_16 => if a2 ≤ x3_16 then (k48_7 M_17) else (x_g a1 (xn 0 (xr 0 k0 7)) (x_g x3_16 (xn 0 (xr 0 (xr 0 k0 7) a1.toNatClampNeg)) (x_l (x_up M_17 (xr 0 (xr 0 k0 7) a1.toNatClampNeg) x3_16.toNatClampNeg (0 : Int32)) fun M_25 => x_l (x3_16 + (1 : Int32)) fun x3_26 => fX10_sheet_L28 k0 a1 a2 k48_7 n_18 M_25 x3_26)))
def fX10_sheet (M : xM) (k0 : Nat) (a1 : Int32) (a2 : Int32) : Option (Int32 × xM) := x_b (fX10_isWithin M a1 (0 : Int32) (1 : Int32)) fun v_3 M_1 => if v_3 = 0 then (some ((-1000000001 : Int32), M_1)) else (if a2 ≤ (24 : Int32) then (if 0 ≤ a2 then (x_l (fun (M_8 : xM) => x_g a1 (xn 0 (xr 0 k0 9)) (x_l (x_up M_8 (xr 0 k0 9) a1.toNatClampNeg a2) fun M_11 => x_g a1 (xn 0 (xr 0 k0 8)) (x_z (0 : Int32) (x_l (x_up M_11 (xr 0 k0 8) a1.toNatClampNeg (0 : Int32)) fun M_14 => some (a2, M_14))))) fun k48_7 => fX10_sheet_L28 k0 a1 a2 k48_7 x_FU M_1 (0 : Int32)) else (some ((-1000000014 : Int32), M_1))) else (some ((-1000000001 : Int32), M_1)))
set_option maxRecDepth 100000 in
set_option maxHeartbeats 4000000 in
theorem mX10_sheet (l : Launch) (g : xG) {k0 : Nat} {a1 : Int32} {a2 : Int32} {r : Int32} {M' : xM} (h0 : x_is 0 k0 10) {M : xM} (hf : fX10_sheet M k0 a1 a2 = some (r, M')) : x_cI l g 0 yX10_sheet cX10_sheet 4 .int 1 22 [.ref (g.2.2.1 k0), .int a1, .int a2] M (fun v N => v = r ∧ N = M') := by
  refine x_stI RX10 (by decide) rfl (Nat.le_of_ble_eq_true rfl) ?_
  intro p e s m args below meth c Q ls C hw ret hl
  obtain ⟨hx, hb, hml, hown, hB, -⟩ := id C
  have hl : lv_has ls 4 [(0, .ref (g.2.2.1 k0)), (1, .int a1), (2, .int a2)] := hl
  unfold fX10_sheet at hf
  refine lv_iload_n hx hb dX10_sheet_0 rfl (lv_at hl 1 rfl) ?_
  refine lv_iconst (v := (0 : Int32)) hx hb dX10_sheet_1 (by decide) ?_
  refine lv_iconst (v := (1 : Int32)) hx hb dX10_sheet_2 (by decide) ?_
  obtain ⟨tv_3, tM_1, c_2, hf⟩ := x_bE hf
  refine x_sI C hw hl.1 [.int a1, .int (0 : Int32), .int (1 : Int32)] [] (mX10_isWithin l g c_2) lk_X10_57 (by decide) rfl (Nat.le_of_ble_eq_true rfl) ⟨Nat.zero_le _, Nat.zero_le _⟩ dX10_sheet_3 (fun v_3 M_1 H locs hN hw => ?_)
  obtain ⟨rfl, rfl⟩ := hN
  refine lv_if_eq (tgt := 15) hx hb dX10_sheet_6 (by decide) (fun q_4 => ?_) (fun q_4 => ?_)
  · have hf := x_iP hf q_4
    refine lv_ldc hx hb hown (hB _ mk_X10_61) dX10_sheet_15 ?_
    exact ret hf dX10_sheet_17 hw
  · have hf := x_iN hf q_4
    refine lv_iload_n hx hb dX10_sheet_9 rfl (lv_at hl 2 rfl) ?_
    refine lv_bipush (v := (24 : Int32)) hx hb dX10_sheet_10 (by decide) ?_
    refine lv_icmp_le (tgt := 18) hx hb dX10_sheet_12 (by decide) (fun q_5 => ?_) (fun q_5 => ?_)
    · have hf := x_iP hf q_5
      refine lv_iload_n hx hb dX10_sheet_18 rfl (lv_at hl 2 rfl) ?_
      refine lv_if_ge (tgt := 26) hx hb dX10_sheet_19 (by decide) (fun q_6 => ?_) (fun q_6 => ?_)
      · have hf := x_iP hf q_6
        refine lv_iconst (v := (0 : Int32)) hx hb dX10_sheet_26 (by decide) ?_
        refine lv_istore_n (lv' := [(3, .int (0 : Int32)), (0, .ref (g.2.2.1 k0)), (1, .int a1), (2, .int a2)]) hx hb dX10_sheet_27 rfl hl (by decide) rfl (fun ls hl => ?_)
        obtain ⟨k48_7, ek48_7, hf⟩ := x_jE hf
        have hk48_7 : ∀ (H : Heap) (locs : List Loc) (M_8 : xM)  (ls : Array Slot) , lv_has ls 4 [(0, .ref (g.2.2.1 k0)), (1, .int a1), (2, .int a2)] → x_w g 0 s H locs M_8 → k48_7 M_8 = some (r, M') → W p l e (x_rm 1 22) s m args below meth c H locs 0 0 Q (F0 m 48 ls []) := by
          intro H locs M_8  ls  hl hw hf
          rw [ek48_7] at hf
          refine lv_aload_n hx hb dX10_sheet_48 rfl (lv_at hl 0 rfl) ?_
          refine fg_X10_54 C hw h0 dX10_sheet_49 ?_
          have h_9 : x_is 0 (xr 0 k0 9) 12 := x_tr h0 (by decide) (by decide) rfl (by decide)
          refine lv_iload_n hx hb dX10_sheet_52 rfl (lv_at hl 1 rfl) ?_
          refine lv_iload_n hx hb dX10_sheet_53 rfl (lv_at hl 2 rfl) ?_
          obtain ⟨q_10, hf⟩ := x_gE hf
          refine x_ast C hw h_9 q_10 dX10_sheet_54 (fun H locs hw => ?_)
          obtain ⟨M_11, eM_11⟩ : ∃ z, z = (x_up M_8 (xr 0 k0 9) a1.toNatClampNeg a2) := ⟨_, rfl⟩
          rw [← eM_11] at hw
          have hf := x_lE eM_11 hf
          refine lv_aload_n hx hb dX10_sheet_55 rfl (lv_at hl 0 rfl) ?_
          refine fg_X10_50 C hw h0 dX10_sheet_56 ?_
          have h_12 : x_is 0 (xr 0 k0 8) 13 := x_tr h0 (by decide) (by decide) rfl (by decide)
          refine lv_iload_n hx hb dX10_sheet_59 rfl (lv_at hl 1 rfl) ?_
          refine lv_iconst (v := (0 : Int32)) hx hb dX10_sheet_60 (by decide) ?_
          obtain ⟨q_13, hf⟩ := x_gE hf
          obtain ⟨q_15, hf⟩ := x_zE hf
          refine x_zst C hw h_12 q_13 q_15.1 dX10_sheet_61 (fun H locs hw => ?_)
          obtain ⟨M_14, eM_14⟩ : ∃ z, z = (x_up M_11 (xr 0 k0 8) a1.toNatClampNeg (0 : Int32)) := ⟨_, rfl⟩
          rw [← eM_14] at hw
          have hf := x_lE eM_14 hf
          refine lv_iload_n hx hb dX10_sheet_62 rfl (lv_at hl 2 rfl) ?_
          exact ret hf dX10_sheet_63 hw
        have hL_27 : ∀ (n_18 : Nat) (H : Heap) (locs : List Loc) (M_17 : xM) (x3_16 : Int32) (ls : Array Slot) , lv_has ls 4 [(0, .ref (g.2.2.1 k0)), (1, .int a1), (2, .int a2), (3, .int x3_16)] → x_w g 0 s H locs M_17 → fX10_sheet_L28 k0 a1 a2 k48_7 n_18 M_17 x3_16 = some (r, M') → W p l e (x_rm 1 22) s m args below meth c H locs 0 0 Q (F0 m 28 ls []) := by
          intro n_18
          induction n_18 with
          | zero =>
            intro H locs M_17 x3_16 ls  hl hw hf
            rw [fX10_sheet_L28] at hf
            cases hf
          | succ n_18 ih_19 =>
            intro H locs M_17 x3_16 ls  hl hw hf
            rw [fX10_sheet_L28] at hf
            refine lv_iload_n hx hb dX10_sheet_28 rfl (lv_at hl 3 rfl) ?_
            refine lv_iload_n hx hb dX10_sheet_29 rfl (lv_at hl 2 rfl) ?_
            refine lv_icmp_ge (tgt := 48) hx hb dX10_sheet_30 (by decide) (fun q_20 => ?_) (fun q_20 => ?_)
            · have hf := x_iP hf q_20
              exact hk48_7 _ _ _ _ (lv_sub hl [0, 1, 2] rfl) hw hf
            · have hf := x_iN hf q_20
              refine lv_aload_n hx hb dX10_sheet_33 rfl (lv_at hl 0 rfl) ?_
              refine fg_X10_47 C hw h0 dX10_sheet_34 ?_
              have h_21 : x_is 0 (xr 0 k0 7) 18 := x_tr h0 (by decide) (by decide) rfl (by decide)
              refine lv_iload_n hx hb dX10_sheet_37 rfl (lv_at hl 1 rfl) ?_
              obtain ⟨q_22, hf⟩ := x_gE hf
              refine x_rrld C hw h_21 q_22 dX10_sheet_38 ?_
              have h_23 : x_is 0 (xr 0 (xr 0 k0 7) a1.toNatClampNeg) 12 := x_ta h_21 (by decide) (x_ilt q_22)
              refine lv_iload_n hx hb dX10_sheet_39 rfl (lv_at hl 3 rfl) ?_
              refine lv_iconst (v := (0 : Int32)) hx hb dX10_sheet_40 (by decide) ?_
              obtain ⟨q_24, hf⟩ := x_gE hf
              refine x_ast C hw h_23 q_24 dX10_sheet_41 (fun H locs hw => ?_)
              obtain ⟨M_25, eM_25⟩ : ∃ z, z = (x_up M_17 (xr 0 (xr 0 k0 7) a1.toNatClampNeg) x3_16.toNatClampNeg (0 : Int32)) := ⟨_, rfl⟩
              rw [← eM_25] at hw
              have hf := x_lE eM_25 hf
              obtain ⟨x3_26, ex3_26⟩ : ∃ z : Int32, z = (x3_16 + (1 : Int32)) := ⟨_, rfl⟩
              have hf := x_lE ex3_26 hf
              refine lv_iinc (v := x3_26) (lv' := [(3, .int x3_26), (0, .ref (g.2.2.1 k0)), (1, .int a1), (2, .int a2)]) hx hb dX10_sheet_42 hl (k := 3) rfl (by rw [ex3_26]; rfl) (by decide) rfl (fun ls hl => ?_)
              refine lv_goto (tgt := 28) hx hb dX10_sheet_45 (by decide) ?_
              exact ih_19 _ _ _ _ _ (lv_sub hl [1, 2, 3, 0] rfl) hw hf
        exact hL_27 _ _ _ _ _ _ (lv_sub hl [1, 2, 3, 0] rfl) hw hf
      · have hf := x_iN hf q_6
        refine lv_ldcw hx hb hown (hB _ mk_X10_338) dX10_sheet_22 ?_
        exact ret hf dX10_sheet_25 hw
    · have hf := x_iN hf q_5
      refine lv_ldc hx hb hown (hB _ mk_X10_61) dX10_sheet_15 ?_
      exact ret hf dX10_sheet_17 hw
def fX10_mark (M : xM) (k0 : Nat) (a1 : Int32) (a2 : Int32) (a3 : Int32) : Option (Int32 × xM) := x_b (fX10_isWithin M a1 (0 : Int32) (1 : Int32)) fun v_3 M_1 => if v_3 = 0 then (some ((-1000000001 : Int32), M_1)) else (x_g a1 (xn 0 (xr 0 k0 8)) (if (M_1 (xr 0 k0 8) a1.toNatClampNeg) = 0 then (x_g a1 (xn 0 (xr 0 k0 9)) (x_b (fX10_isWithin M_1 a2 (0 : Int32) ((M_1 (xr 0 k0 9) a1.toNatClampNeg) - (1 : Int32))) fun v_12 M_10 => if v_12 = 0 then (some ((-1000000013 : Int32), M_10)) else (x_g a1 (xn 0 (xr 0 k0 7)) (x_g a2 (xn 0 (xr 0 (xr 0 k0 7) a1.toNatClampNeg)) (x_l (M_10 (xr 0 (xr 0 k0 7) a1.toNatClampNeg) a2.toNatClampNeg) fun x4_18 => x_g a1 (xn 0 (xr 0 k0 7)) (x_g a2 (xn 0 (xr 0 (xr 0 k0 7) a1.toNatClampNeg)) (x_l (x_up M_10 (xr 0 (xr 0 k0 7) a1.toNatClampNeg) a2.toNatClampNeg a3) fun M_21 => some (x4_18, M_21)))))))) else (some ((-1000000011 : Int32), M_1))))
set_option maxRecDepth 100000 in
set_option maxHeartbeats 4000000 in
theorem mX10_mark (l : Launch) (g : xG) {k0 : Nat} {a1 : Int32} {a2 : Int32} {a3 : Int32} {r : Int32} {M' : xM} (h0 : x_is 0 k0 10) {M : xM} (hf : fX10_mark M k0 a1 a2 a3 = some (r, M')) : x_cI l g 0 yX10_mark cX10_mark 5 .int 1 22 [.ref (g.2.2.1 k0), .int a1, .int a2, .int a3] M (fun v N => v = r ∧ N = M') := by
  refine x_stI RX10 (by decide) rfl (Nat.le_of_ble_eq_true rfl) ?_
  intro p e s m args below meth c Q ls C hw ret hl
  obtain ⟨hx, hb, hml, hown, hB, -⟩ := id C
  have hl : lv_has ls 5 [(0, .ref (g.2.2.1 k0)), (1, .int a1), (2, .int a2), (3, .int a3)] := hl
  unfold fX10_mark at hf
  refine lv_iload_n hx hb dX10_mark_0 rfl (lv_at hl 1 rfl) ?_
  refine lv_iconst (v := (0 : Int32)) hx hb dX10_mark_1 (by decide) ?_
  refine lv_iconst (v := (1 : Int32)) hx hb dX10_mark_2 (by decide) ?_
  obtain ⟨tv_3, tM_1, c_2, hf⟩ := x_bE hf
  refine x_sI C hw hl.1 [.int a1, .int (0 : Int32), .int (1 : Int32)] [] (mX10_isWithin l g c_2) lk_X10_57 (by decide) rfl (Nat.le_of_ble_eq_true rfl) ⟨Nat.zero_le _, Nat.zero_le _⟩ dX10_mark_3 (fun v_3 M_1 H locs hN hw => ?_)
  obtain ⟨rfl, rfl⟩ := hN
  refine lv_if_ne (tgt := 12) hx hb dX10_mark_6 (by decide) (fun q_4 => ?_) (fun q_4 => ?_)
  · have hf := x_iN hf q_4
    refine lv_aload_n hx hb dX10_mark_12 rfl (lv_at hl 0 rfl) ?_
    refine fg_X10_50 C hw h0 dX10_mark_13 ?_
    have h_5 : x_is 0 (xr 0 k0 8) 13 := x_tr h0 (by decide) (by decide) rfl (by decide)
    refine lv_iload_n hx hb dX10_mark_16 rfl (lv_at hl 1 rfl) ?_
    obtain ⟨q_6, hf⟩ := x_gE hf
    refine x_zld C hw h_5 q_6 dX10_mark_17 ?_
    refine lv_if_eq (tgt := 25) hx hb dX10_mark_18 (by decide) (fun q_7 => ?_) (fun q_7 => ?_)
    · have hf := x_iP hf q_7
      refine lv_iload_n hx hb dX10_mark_25 rfl (lv_at hl 2 rfl) ?_
      refine lv_iconst (v := (0 : Int32)) hx hb dX10_mark_26 (by decide) ?_
      refine lv_aload_n hx hb dX10_mark_27 rfl (lv_at hl 0 rfl) ?_
      refine fg_X10_54 C hw h0 dX10_mark_28 ?_
      have h_8 : x_is 0 (xr 0 k0 9) 12 := x_tr h0 (by decide) (by decide) rfl (by decide)
      refine lv_iload_n hx hb dX10_mark_31 rfl (lv_at hl 1 rfl) ?_
      obtain ⟨q_9, hf⟩ := x_gE hf
      refine x_ald C hw h_8 q_9 dX10_mark_32 ?_
      refine lv_iconst (v := (1 : Int32)) hx hb dX10_mark_33 (by decide) ?_
      refine lv_isub hx hb dX10_mark_34 ?_
      obtain ⟨tv_12, tM_10, c_11, hf⟩ := x_bE hf
      refine x_sI C hw hl.1 [.int a2, .int (0 : Int32), .int ((M_1 (xr 0 k0 9) a1.toNatClampNeg) - (1 : Int32))] [] (mX10_isWithin l g c_11) lk_X10_57 (by decide) rfl (Nat.le_of_ble_eq_true rfl) ⟨Nat.zero_le _, Nat.zero_le _⟩ dX10_mark_35 (fun v_12 M_10 H locs hN hw => ?_)
      obtain ⟨rfl, rfl⟩ := hN
      refine lv_if_ne (tgt := 45) hx hb dX10_mark_38 (by decide) (fun q_13 => ?_) (fun q_13 => ?_)
      · have hf := x_iN hf q_13
        refine lv_aload_n hx hb dX10_mark_45 rfl (lv_at hl 0 rfl) ?_
        refine fg_X10_47 C hw h0 dX10_mark_46 ?_
        have h_14 : x_is 0 (xr 0 k0 7) 18 := x_tr h0 (by decide) (by decide) rfl (by decide)
        refine lv_iload_n hx hb dX10_mark_49 rfl (lv_at hl 1 rfl) ?_
        obtain ⟨q_15, hf⟩ := x_gE hf
        refine x_rrld C hw h_14 q_15 dX10_mark_50 ?_
        have h_16 : x_is 0 (xr 0 (xr 0 k0 7) a1.toNatClampNeg) 12 := x_ta h_14 (by decide) (x_ilt q_15)
        refine lv_iload_n hx hb dX10_mark_51 rfl (lv_at hl 2 rfl) ?_
        obtain ⟨q_17, hf⟩ := x_gE hf
        refine x_ald C hw h_16 q_17 dX10_mark_52 ?_
        refine lv_topi (fun x4_18 ex4_18 => ?_)
        have hf := x_lE ex4_18 hf
        refine lv_istore (lv' := [(4, .int x4_18), (0, .ref (g.2.2.1 k0)), (1, .int a1), (2, .int a2), (3, .int a3)]) hx hb dX10_mark_53 hl (by decide) rfl (fun ls hl => ?_)
        refine lv_aload_n hx hb dX10_mark_55 rfl (lv_at hl 1 rfl) ?_
        refine fg_X10_47 C hw h0 dX10_mark_56 ?_
        refine lv_iload_n hx hb dX10_mark_59 rfl (lv_at hl 2 rfl) ?_
        obtain ⟨q_19, hf⟩ := x_gE hf
        refine x_rrld C hw h_14 q_19 dX10_mark_60 ?_
        refine lv_iload_n hx hb dX10_mark_61 rfl (lv_at hl 3 rfl) ?_
        refine lv_iload_n hx hb dX10_mark_62 rfl (lv_at hl 4 rfl) ?_
        obtain ⟨q_20, hf⟩ := x_gE hf
        refine x_ast C hw h_16 q_20 dX10_mark_63 (fun H locs hw => ?_)
        obtain ⟨M_21, eM_21⟩ : ∃ z, z = (x_up M_10 (xr 0 (xr 0 k0 7) a1.toNatClampNeg) a2.toNatClampNeg a3) := ⟨_, rfl⟩
        rw [← eM_21] at hw
        have hf := x_lE eM_21 hf
        refine lv_iload hx hb dX10_mark_64 (lv_at hl 0 rfl) ?_
        exact ret hf dX10_mark_66 hw
      · have hf := x_iP hf q_13
        refine lv_ldcw hx hb hown (hB _ mk_X10_339) dX10_mark_41 ?_
        exact ret hf dX10_mark_44 hw
    · have hf := x_iN hf q_7
      refine lv_ldcw hx hb hown (hB _ mk_X10_329) dX10_mark_21 ?_
      exact ret hf dX10_mark_24 hw
  · have hf := x_iP hf q_4
    refine lv_ldc hx hb hown (hB _ mk_X10_61) dX10_mark_9 ?_
    exact ret hf dX10_mark_11 hw
def fX10_copy (M : xM) (k0 : Nat) (a1 : Int32) (a2 : Int32) (a3 : Int32) (a4 : Int32) (a5 : Int32) : Option (Int32 × xM) := x_b (fX10_isWithin M a1 (0 : Int32) (1 : Int32)) fun v_3 M_1 => if v_3 = 0 then (some ((-1000000001 : Int32), M_1)) else (x_b (fX10_isWithin M_1 a3 (0 : Int32) (1 : Int32)) fun v_7 M_5 => if v_7 = 0 then (some ((-1000000001 : Int32), M_5)) else (x_g a1 (xn 0 (xr 0 k0 8)) (if (M_5 (xr 0 k0 8) a1.toNatClampNeg) = 0 then (x_g a3 (xn 0 (xr 0 k0 8)) (if (M_5 (xr 0 k0 8) a3.toNatClampNeg) = 0 then (x_g a1 (xn 0 (xr 0 k0 9)) (x_b (fX10_isWithin M_5 a2 (0 : Int32) (M_5 (xr 0 k0 9) a1.toNatClampNeg)) fun v_18 M_16 => if v_18 = 0 then (some ((-1000000013 : Int32), M_16)) else (x_g a3 (xn 0 (xr 0 k0 9)) (x_b (fX10_isWithin M_16 a4 (0 : Int32) (M_16 (xr 0 k0 9) a3.toNatClampNeg)) fun v_23 M_21 => if v_23 = 0 then (some ((-1000000013 : Int32), M_21)) else (x_g a1 (xn 0 (xr 0 k0 9)) (x_g a3 (xn 0 (xr 0 k0 9)) (x_b (fX10_isWithin M_21 a5 (0 : Int32) (if ((M_21 (xr 0 k0 9) a3.toNatClampNeg) - a4) < ((M_21 (xr 0 k0 9) a1.toNatClampNeg) - a2) then ((M_21 (xr 0 k0 9) a3.toNatClampNeg) - a4) else ((M_21 (xr 0 k0 9) a1.toNatClampNeg) - a2))) fun v_29 M_27 => if v_29 = 0 then (some ((-1000000013 : Int32), M_27)) else (x_g a1 (xn 0 (xr 0 k0 7)) (x_g a3 (xn 0 (xr 0 k0 7)) (x_cp a2 a4 a5 (xn 0 (xr 0 (xr 0 k0 7) a1.toNatClampNeg)) (xn 0 (xr 0 (xr 0 k0 7) a3.toNatClampNeg)) (x_l (x_mv M_27 (xr 0 (xr 0 k0 7) a1.toNatClampNeg) (xr 0 (xr 0 k0 7) a3.toNatClampNeg) a2.toNatClampNeg a4.toNatClampNeg a5.toNatClampNeg) fun M_37 => some (a5, M_37)))))))))))) else (some ((-1000000011 : Int32), M_5)))) else (some ((-1000000011 : Int32), M_5)))))
set_option maxRecDepth 100000 in
set_option maxHeartbeats 4000000 in
theorem mX10_copy (l : Launch) (g : xG) {k0 : Nat} {a1 : Int32} {a2 : Int32} {a3 : Int32} {a4 : Int32} {a5 : Int32} {r : Int32} {M' : xM} (h0 : x_is 0 k0 10) {M : xM} (hf : fX10_copy M k0 a1 a2 a3 a4 a5 = some (r, M')) : x_cI l g 0 yX10_copy cX10_copy 6 .int 1 60 [.ref (g.2.2.1 k0), .int a1, .int a2, .int a3, .int a4, .int a5] M (fun v N => v = r ∧ N = M') := by
  refine x_stI RX10 (by decide) rfl (Nat.le_of_ble_eq_true rfl) ?_
  intro p e s m args below meth c Q ls C hw ret hl
  obtain ⟨hx, hb, hml, hown, hB, -⟩ := id C
  have hl : lv_has ls 6 [(0, .ref (g.2.2.1 k0)), (1, .int a1), (2, .int a2), (3, .int a3), (4, .int a4), (5, .int a5)] := hl
  unfold fX10_copy at hf
  refine lv_iload_n hx hb dX10_copy_0 rfl (lv_at hl 1 rfl) ?_
  refine lv_iconst (v := (0 : Int32)) hx hb dX10_copy_1 (by decide) ?_
  refine lv_iconst (v := (1 : Int32)) hx hb dX10_copy_2 (by decide) ?_
  obtain ⟨tv_3, tM_1, c_2, hf⟩ := x_bE hf
  refine x_sI C hw hl.1 [.int a1, .int (0 : Int32), .int (1 : Int32)] [] (mX10_isWithin l g c_2) lk_X10_57 (by decide) rfl (Nat.le_of_ble_eq_true rfl) ⟨Nat.zero_le _, Nat.zero_le _⟩ dX10_copy_3 (fun v_3 M_1 H locs hN hw => ?_)
  obtain ⟨rfl, rfl⟩ := hN
  refine lv_if_eq (tgt := 18) hx hb dX10_copy_6 (by decide) (fun q_4 => ?_) (fun q_4 => ?_)
  · have hf := x_iP hf q_4
    refine lv_ldc hx hb hown (hB _ mk_X10_61) dX10_copy_18 ?_
    exact ret hf dX10_copy_20 hw
  · have hf := x_iN hf q_4
    refine lv_iload_n hx hb dX10_copy_9 rfl (lv_at hl 3 rfl) ?_
    refine lv_iconst (v := (0 : Int32)) hx hb dX10_copy_10 (by decide) ?_
    refine lv_iconst (v := (1 : Int32)) hx hb dX10_copy_11 (by decide) ?_
    obtain ⟨tv_7, tM_5, c_6, hf⟩ := x_bE hf
    refine x_sI C hw hl.1 [.int a3, .int (0 : Int32), .int (1 : Int32)] [] (mX10_isWithin l g c_6) lk_X10_57 (by decide) rfl (Nat.le_of_ble_eq_true rfl) ⟨Nat.zero_le _, Nat.zero_le _⟩ dX10_copy_12 (fun v_7 M_5 H locs hN hw => ?_)
    obtain ⟨rfl, rfl⟩ := hN
    refine lv_if_ne (tgt := 21) hx hb dX10_copy_15 (by decide) (fun q_8 => ?_) (fun q_8 => ?_)
    · have hf := x_iN hf q_8
      refine lv_aload_n hx hb dX10_copy_21 rfl (lv_at hl 0 rfl) ?_
      refine fg_X10_50 C hw h0 dX10_copy_22 ?_
      have h_9 : x_is 0 (xr 0 k0 8) 13 := x_tr h0 (by decide) (by decide) rfl (by decide)
      refine lv_iload_n hx hb dX10_copy_25 rfl (lv_at hl 1 rfl) ?_
      obtain ⟨q_10, hf⟩ := x_gE hf
      refine x_zld C hw h_9 q_10 dX10_copy_26 ?_
      refine lv_if_ne (tgt := 39) hx hb dX10_copy_27 (by decide) (fun q_11 => ?_) (fun q_11 => ?_)
      · have hf := x_iN hf q_11
        refine lv_ldcw hx hb hown (hB _ mk_X10_329) dX10_copy_39 ?_
        exact ret hf dX10_copy_42 hw
      · have hf := x_iP hf q_11
        refine lv_aload_n hx hb dX10_copy_30 rfl (lv_at hl 0 rfl) ?_
        refine fg_X10_50 C hw h0 dX10_copy_31 ?_
        refine lv_iload_n hx hb dX10_copy_34 rfl (lv_at hl 3 rfl) ?_
        obtain ⟨q_12, hf⟩ := x_gE hf
        refine x_zld C hw h_9 q_12 dX10_copy_35 ?_
        refine lv_if_eq (tgt := 43) hx hb dX10_copy_36 (by decide) (fun q_13 => ?_) (fun q_13 => ?_)
        · have hf := x_iP hf q_13
          refine lv_iload_n hx hb dX10_copy_43 rfl (lv_at hl 2 rfl) ?_
          refine lv_iconst (v := (0 : Int32)) hx hb dX10_copy_44 (by decide) ?_
          refine lv_aload_n hx hb dX10_copy_45 rfl (lv_at hl 0 rfl) ?_
          refine fg_X10_54 C hw h0 dX10_copy_46 ?_
          have h_14 : x_is 0 (xr 0 k0 9) 12 := x_tr h0 (by decide) (by decide) rfl (by decide)
          refine lv_iload_n hx hb dX10_copy_49 rfl (lv_at hl 1 rfl) ?_
          obtain ⟨q_15, hf⟩ := x_gE hf
          refine x_ald C hw h_14 q_15 dX10_copy_50 ?_
          obtain ⟨tv_18, tM_16, c_17, hf⟩ := x_bE hf
          refine x_sI C hw hl.1 [.int a2, .int (0 : Int32), .int (M_5 (xr 0 k0 9) a1.toNatClampNeg)] [] (mX10_isWithin l g c_17) lk_X10_57 (by decide) rfl (Nat.le_of_ble_eq_true rfl) ⟨Nat.zero_le _, Nat.zero_le _⟩ dX10_copy_51 (fun v_18 M_16 H locs hN hw => ?_)
          obtain ⟨rfl, rfl⟩ := hN
          refine lv_if_eq (tgt := 72) hx hb dX10_copy_54 (by decide) (fun q_19 => ?_) (fun q_19 => ?_)
          · have hf := x_iP hf q_19
            refine lv_ldcw hx hb hown (hB _ mk_X10_339) dX10_copy_72 ?_
            exact ret hf dX10_copy_75 hw
          · have hf := x_iN hf q_19
            refine lv_iload hx hb dX10_copy_57 (lv_at hl 4 rfl) ?_
            refine lv_iconst (v := (0 : Int32)) hx hb dX10_copy_59 (by decide) ?_
            refine lv_aload_n hx hb dX10_copy_60 rfl (lv_at hl 0 rfl) ?_
            refine fg_X10_54 C hw h0 dX10_copy_61 ?_
            refine lv_iload_n hx hb dX10_copy_64 rfl (lv_at hl 3 rfl) ?_
            obtain ⟨q_20, hf⟩ := x_gE hf
            refine x_ald C hw h_14 q_20 dX10_copy_65 ?_
            obtain ⟨tv_23, tM_21, c_22, hf⟩ := x_bE hf
            refine x_sI C hw hl.1 [.int a4, .int (0 : Int32), .int (M_16 (xr 0 k0 9) a3.toNatClampNeg)] [] (mX10_isWithin l g c_22) lk_X10_57 (by decide) rfl (Nat.le_of_ble_eq_true rfl) ⟨Nat.zero_le _, Nat.zero_le _⟩ dX10_copy_66 (fun v_23 M_21 H locs hN hw => ?_)
            obtain ⟨rfl, rfl⟩ := hN
            refine lv_if_ne (tgt := 76) hx hb dX10_copy_69 (by decide) (fun q_24 => ?_) (fun q_24 => ?_)
            · have hf := x_iN hf q_24
              refine lv_iload hx hb dX10_copy_76 (lv_at hl 5 rfl) ?_
              refine lv_iconst (v := (0 : Int32)) hx hb dX10_copy_78 (by decide) ?_
              refine lv_aload_n hx hb dX10_copy_79 rfl (lv_at hl 0 rfl) ?_
              refine fg_X10_54 C hw h0 dX10_copy_80 ?_
              refine lv_iload_n hx hb dX10_copy_83 rfl (lv_at hl 1 rfl) ?_
              obtain ⟨q_25, hf⟩ := x_gE hf
              refine x_ald C hw h_14 q_25 dX10_copy_84 ?_
              refine lv_iload_n hx hb dX10_copy_85 rfl (lv_at hl 2 rfl) ?_
              refine lv_isub hx hb dX10_copy_86 ?_
              refine lv_aload_n hx hb dX10_copy_87 rfl (lv_at hl 0 rfl) ?_
              refine fg_X10_54 C hw h0 dX10_copy_88 ?_
              refine lv_iload_n hx hb dX10_copy_91 rfl (lv_at hl 3 rfl) ?_
              obtain ⟨q_26, hf⟩ := x_gE hf
              refine x_ald C hw h_14 q_26 dX10_copy_92 ?_
              refine lv_iload hx hb dX10_copy_93 (lv_at hl 4 rfl) ?_
              refine lv_isub hx hb dX10_copy_95 ?_
              refine mm_X10_224 C hl.1 (Nat.le_of_ble_eq_true rfl) (Nat.le_of_ble_eq_true rfl) ⟨Nat.zero_le _, Nat.zero_le _⟩ dX10_copy_96 ?_
              obtain ⟨tv_29, tM_27, c_28, hf⟩ := x_bE hf
              refine x_sI C hw hl.1 [.int a5, .int (0 : Int32), .int (if ((M_21 (xr 0 k0 9) a3.toNatClampNeg) - a4) < ((M_21 (xr 0 k0 9) a1.toNatClampNeg) - a2) then ((M_21 (xr 0 k0 9) a3.toNatClampNeg) - a4) else ((M_21 (xr 0 k0 9) a1.toNatClampNeg) - a2))] [] (mX10_isWithin l g c_28) lk_X10_57 (by decide) rfl (Nat.le_of_ble_eq_true rfl) ⟨Nat.zero_le _, Nat.zero_le _⟩ dX10_copy_99 (fun v_29 M_27 H locs hN hw => ?_)
              obtain ⟨rfl, rfl⟩ := hN
              refine lv_if_ne (tgt := 109) hx hb dX10_copy_102 (by decide) (fun q_30 => ?_) (fun q_30 => ?_)
              · have hf := x_iN hf q_30
                refine lv_aload_n hx hb dX10_copy_109 rfl (lv_at hl 0 rfl) ?_
                refine fg_X10_47 C hw h0 dX10_copy_110 ?_
                have h_31 : x_is 0 (xr 0 k0 7) 18 := x_tr h0 (by decide) (by decide) rfl (by decide)
                refine lv_iload_n hx hb dX10_copy_113 rfl (lv_at hl 1 rfl) ?_
                obtain ⟨q_32, hf⟩ := x_gE hf
                refine x_rrld C hw h_31 q_32 dX10_copy_114 ?_
                have h_33 : x_is 0 (xr 0 (xr 0 k0 7) a1.toNatClampNeg) 12 := x_ta h_31 (by decide) (x_ilt q_32)
                refine lv_iload_n hx hb dX10_copy_115 rfl (lv_at hl 2 rfl) ?_
                refine lv_aload_n hx hb dX10_copy_116 rfl (lv_at hl 0 rfl) ?_
                refine fg_X10_47 C hw h0 dX10_copy_117 ?_
                refine lv_iload_n hx hb dX10_copy_120 rfl (lv_at hl 3 rfl) ?_
                obtain ⟨q_34, hf⟩ := x_gE hf
                refine x_rrld C hw h_31 q_34 dX10_copy_121 ?_
                have h_35 : x_is 0 (xr 0 (xr 0 k0 7) a3.toNatClampNeg) 12 := x_ta h_31 (by decide) (x_ilt q_34)
                refine lv_iload hx hb dX10_copy_122 (lv_at hl 4 rfl) ?_
                refine lv_iload hx hb dX10_copy_124 (lv_at hl 5 rfl) ?_
                obtain ⟨q_36, hf⟩ := x_cpE hf
                refine cpy_X10_340 C hw hl.1 h_33 h_35 q_36 (Nat.le_of_ble_eq_true rfl) (Nat.le_of_ble_eq_true rfl) dX10_copy_126 (fun H locs hw => ?_)
                obtain ⟨M_37, eM_37⟩ : ∃ z, z = (x_mv M_27 (xr 0 (xr 0 k0 7) a1.toNatClampNeg) (xr 0 (xr 0 k0 7) a3.toNatClampNeg) a2.toNatClampNeg a4.toNatClampNeg a5.toNatClampNeg) := ⟨_, rfl⟩
                rw [← eM_37] at hw
                have hf := x_lE eM_37 hf
                refine lv_iload hx hb dX10_copy_129 (lv_at hl 5 rfl) ?_
                exact ret hf dX10_copy_131 hw
              · have hf := x_iP hf q_30
                refine lv_ldcw hx hb hown (hB _ mk_X10_339) dX10_copy_105 ?_
                exact ret hf dX10_copy_108 hw
            · have hf := x_iP hf q_24
              refine lv_ldcw hx hb hown (hB _ mk_X10_339) dX10_copy_72 ?_
              exact ret hf dX10_copy_75 hw
        · have hf := x_iN hf q_13
          refine lv_ldcw hx hb hown (hB _ mk_X10_329) dX10_copy_39 ?_
          exact ret hf dX10_copy_42 hw
    · have hf := x_iP hf q_8
      refine lv_ldc hx hb hown (hB _ mk_X10_61) dX10_copy_18 ?_
      exact ret hf dX10_copy_20 hw
def fX10_count (M : xM) (k0 : Nat) (a1 : Int32) : Option (Int32 × xM) := if a1 = (0 : Int32) then (some ((M (xr 0 k0 0) 1), M)) else (if a1 = (1 : Int32) then (some ((M (xr 0 k0 0) 2), M)) else (if a1 = (2 : Int32) then (some ((M (xr 0 k0 0) 3), M)) else (if a1 = (3 : Int32) then (some ((M (xr 0 k0 0) 4), M)) else (if a1 = (4 : Int32) then (x_b (fX8_couples M (xr 0 k0 0)) fun v_13 M_11 => some (v_13, M_11)) else (if a1 = (5 : Int32) then (x_b (fX8_openDeeds M (xr 0 k0 0)) fun v_18 M_16 => some (v_18, M_16)) else (if a1 = (6 : Int32) then (some ((M k0 6), M)) else (if a1 = (7 : Int32) then (some ((M (xr 0 (xr 0 k0 3) 0) 1), M)) else (if a1 = (8 : Int32) then (some ((M (xr 0 k0 0) 0), M)) else (if a1 = (9 : Int32) then (x_b (fX8_allCustody M (xr 0 k0 0)) fun v_29 M_27 => some (v_29, M_27)) else (some ((-1000000001 : Int32), M)))))))))))
set_option maxRecDepth 100000 in
set_option maxHeartbeats 4000000 in
theorem mX10_count (l : Launch) (g : xG) {k0 : Nat} {a1 : Int32} {r : Int32} {M' : xM} (h0 : x_is 0 k0 10) {M : xM} (hf : fX10_count M k0 a1 = some (r, M')) : x_cI l g 0 yX10_count cX10_count 2 .int 2 42 [.ref (g.2.2.1 k0), .int a1] M (fun v N => v = r ∧ N = M') := by
  refine x_stI RX10 (by decide) rfl (Nat.le_of_ble_eq_true rfl) ?_
  intro p e s m args below meth c Q ls C hw ret hl
  obtain ⟨hx, hb, hml, hown, hB, -⟩ := id C
  have hl : lv_has ls 2 [(0, .ref (g.2.2.1 k0)), (1, .int a1)] := hl
  unfold fX10_count at hf
  refine lv_iload_n hx hb dX10_count_0 rfl (lv_at hl 1 rfl) ?_
  by_cases q_1 : a1 = (0 : Int32)
  · have hf := x_iP hf q_1
    refine lv_tableIn (off := 55) (tgt := 56) hx hb dX10_count_1 (by rw [q_1]; decide) (by rw [q_1]; decide) (by rw [q_1]; rfl) (by decide) ?_
    refine lv_aload_n hx hb dX10_count_56 rfl (lv_at hl 0 rfl) ?_
    refine fg_X10_10 C hw h0 dX10_count_57 ?_
    have h_2 : x_is 0 (xr 0 k0 0) 8 := x_tr h0 (by decide) (by decide) rfl (by decide)
    refine fg_X10_62 C hw h_2 dX10_count_60 ?_
    exact ret hf dX10_count_63 hw
  have hf := x_iN hf q_1
  by_cases q_3 : a1 = (1 : Int32)
  · have hf := x_iP hf q_3
    refine lv_tableIn (off := 63) (tgt := 64) hx hb dX10_count_1 (by rw [q_3]; decide) (by rw [q_3]; decide) (by rw [q_3]; rfl) (by decide) ?_
    refine lv_aload_n hx hb dX10_count_64 rfl (lv_at hl 0 rfl) ?_
    refine fg_X10_10 C hw h0 dX10_count_65 ?_
    have h_4 : x_is 0 (xr 0 k0 0) 8 := x_tr h0 (by decide) (by decide) rfl (by decide)
    refine fg_X10_96 C hw h_4 dX10_count_68 ?_
    exact ret hf dX10_count_71 hw
  have hf := x_iN hf q_3
  by_cases q_5 : a1 = (2 : Int32)
  · have hf := x_iP hf q_5
    refine lv_tableIn (off := 71) (tgt := 72) hx hb dX10_count_1 (by rw [q_5]; decide) (by rw [q_5]; decide) (by rw [q_5]; rfl) (by decide) ?_
    refine lv_aload_n hx hb dX10_count_72 rfl (lv_at hl 0 rfl) ?_
    refine fg_X10_10 C hw h0 dX10_count_73 ?_
    have h_6 : x_is 0 (xr 0 k0 0) 8 := x_tr h0 (by decide) (by decide) rfl (by decide)
    refine fg_X10_131 C hw h_6 dX10_count_76 ?_
    exact ret hf dX10_count_79 hw
  have hf := x_iN hf q_5
  by_cases q_7 : a1 = (3 : Int32)
  · have hf := x_iP hf q_7
    refine lv_tableIn (off := 79) (tgt := 80) hx hb dX10_count_1 (by rw [q_7]; decide) (by rw [q_7]; decide) (by rw [q_7]; rfl) (by decide) ?_
    refine lv_aload_n hx hb dX10_count_80 rfl (lv_at hl 0 rfl) ?_
    refine fg_X10_10 C hw h0 dX10_count_81 ?_
    have h_8 : x_is 0 (xr 0 k0 0) 8 := x_tr h0 (by decide) (by decide) rfl (by decide)
    refine fg_X10_217 C hw h_8 dX10_count_84 ?_
    exact ret hf dX10_count_87 hw
  have hf := x_iN hf q_7
  by_cases q_9 : a1 = (4 : Int32)
  · have hf := x_iP hf q_9
    refine lv_tableIn (off := 87) (tgt := 88) hx hb dX10_count_1 (by rw [q_9]; decide) (by rw [q_9]; decide) (by rw [q_9]; rfl) (by decide) ?_
    refine lv_aload_n hx hb dX10_count_88 rfl (lv_at hl 0 rfl) ?_
    refine fg_X10_10 C hw h0 dX10_count_89 ?_
    have h_10 : x_is 0 (xr 0 k0 0) 8 := x_tr h0 (by decide) (by decide) rfl (by decide)
    obtain ⟨tv_13, tM_11, c_12, hf⟩ := x_bE hf
    refine x_vI C hw hl.1 [] [] (mX8_couples l g h_10 c_12) lk_X10_346 h_10 (by decide) rfl (by decide) rfl (Nat.le_of_ble_eq_true rfl) ⟨Nat.zero_le _, Nat.zero_le _⟩ dX10_count_92 (fun v_13 M_11 H locs hN hw => ?_)
    obtain ⟨rfl, rfl⟩ := hN
    exact ret hf dX10_count_95 hw
  have hf := x_iN hf q_9
  by_cases q_14 : a1 = (5 : Int32)
  · have hf := x_iP hf q_14
    refine lv_tableIn (off := 95) (tgt := 96) hx hb dX10_count_1 (by rw [q_14]; decide) (by rw [q_14]; decide) (by rw [q_14]; rfl) (by decide) ?_
    refine lv_aload_n hx hb dX10_count_96 rfl (lv_at hl 0 rfl) ?_
    refine fg_X10_10 C hw h0 dX10_count_97 ?_
    have h_15 : x_is 0 (xr 0 k0 0) 8 := x_tr h0 (by decide) (by decide) rfl (by decide)
    obtain ⟨tv_18, tM_16, c_17, hf⟩ := x_bE hf
    refine x_vI C hw hl.1 [] [] (mX8_openDeeds l g h_15 c_17) lk_X10_349 h_15 (by decide) rfl (by decide) rfl (Nat.le_of_ble_eq_true rfl) ⟨Nat.zero_le _, Nat.zero_le _⟩ dX10_count_100 (fun v_18 M_16 H locs hN hw => ?_)
    obtain ⟨rfl, rfl⟩ := hN
    exact ret hf dX10_count_103 hw
  have hf := x_iN hf q_14
  by_cases q_19 : a1 = (6 : Int32)
  · have hf := x_iP hf q_19
    refine lv_tableIn (off := 103) (tgt := 104) hx hb dX10_count_1 (by rw [q_19]; decide) (by rw [q_19]; decide) (by rw [q_19]; rfl) (by decide) ?_
    refine lv_aload_n hx hb dX10_count_104 rfl (lv_at hl 0 rfl) ?_
    refine fg_X10_41 C hw h0 dX10_count_105 ?_
    exact ret hf dX10_count_108 hw
  have hf := x_iN hf q_19
  by_cases q_20 : a1 = (7 : Int32)
  · have hf := x_iP hf q_20
    refine lv_tableIn (off := 108) (tgt := 109) hx hb dX10_count_1 (by rw [q_20]; decide) (by rw [q_20]; decide) (by rw [q_20]; rfl) (by decide) ?_
    refine lv_aload_n hx hb dX10_count_109 rfl (lv_at hl 0 rfl) ?_
    refine fg_X10_26 C hw h0 dX10_count_110 ?_
    have h_21 : x_is 0 (xr 0 k0 3) 6 := x_tr h0 (by decide) (by decide) rfl (by decide)
    refine fg_X10_173 C hw h_21 dX10_count_113 ?_
    have h_22 : x_is 0 (xr 0 (xr 0 k0 3) 0) 9 := x_tr h_21 (by decide) (by decide) rfl (by decide)
    refine fg_X10_177 C hw h_22 dX10_count_116 ?_
    exact ret hf dX10_count_119 hw
  have hf := x_iN hf q_20
  by_cases q_23 : a1 = (8 : Int32)
  · have hf := x_iP hf q_23
    refine lv_tableIn (off := 119) (tgt := 120) hx hb dX10_count_1 (by rw [q_23]; decide) (by rw [q_23]; decide) (by rw [q_23]; rfl) (by decide) ?_
    refine lv_aload_n hx hb dX10_count_120 rfl (lv_at hl 0 rfl) ?_
    refine fg_X10_10 C hw h0 dX10_count_121 ?_
    have h_24 : x_is 0 (xr 0 k0 0) 8 := x_tr h0 (by decide) (by decide) rfl (by decide)
    refine fg_X10_108 C hw h_24 dX10_count_124 ?_
    exact ret hf dX10_count_127 hw
  have hf := x_iN hf q_23
  by_cases q_25 : a1 = (9 : Int32)
  · have hf := x_iP hf q_25
    refine lv_tableIn (off := 127) (tgt := 128) hx hb dX10_count_1 (by rw [q_25]; decide) (by rw [q_25]; decide) (by rw [q_25]; rfl) (by decide) ?_
    refine lv_aload_n hx hb dX10_count_128 rfl (lv_at hl 0 rfl) ?_
    refine fg_X10_10 C hw h0 dX10_count_129 ?_
    have h_26 : x_is 0 (xr 0 k0 0) 8 := x_tr h0 (by decide) (by decide) rfl (by decide)
    obtain ⟨tv_29, tM_27, c_28, hf⟩ := x_bE hf
    refine x_vI C hw hl.1 [] [] (mX8_allCustody l g h_26 c_28) lk_X10_352 h_26 (by decide) rfl (by decide) rfl (Nat.le_of_ble_eq_true rfl) ⟨Nat.zero_le _, Nat.zero_le _⟩ dX10_count_132 (fun v_29 M_27 H locs hN hw => ?_)
    obtain ⟨rfl, rfl⟩ := hN
    exact ret hf dX10_count_135 hw
  have hf := x_iN hf q_25
  have tq_1 := lv_neT (a := 0) q_1 rfl
  have tq_3 := lv_neT (a := 1) q_3 rfl
  have tq_5 := lv_neT (a := 2) q_5 rfl
  have tq_7 := lv_neT (a := 3) q_7 rfl
  have tq_9 := lv_neT (a := 4) q_9 rfl
  have tq_14 := lv_neT (a := 5) q_14 rfl
  have tq_19 := lv_neT (a := 6) q_19 rfl
  have tq_20 := lv_neT (a := 7) q_20 rfl
  have tq_23 := lv_neT (a := 8) q_23 rfl
  have tq_25 := lv_neT (a := 9) q_25 rfl
  refine lv_tableOut (tgt := 136) hx hb dX10_count_1 (by omega) (by decide) ?_
  refine lv_ldc hx hb hown (hB _ mk_X10_61) dX10_count_136 ?_
  exact ret hf dX10_count_138 hw
