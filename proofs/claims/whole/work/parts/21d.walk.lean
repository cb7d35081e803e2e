noncomputable def fX8_shareOf (M : xM) (a1 : Int32) (a2 : Int32) : Option (Int32 × xM) := x_g a1 16 (x_b (fX8_earnings M (M (169 + a1.toNatClampNeg) 0) (M (169 + a1.toNatClampNeg) 1) (M (169 + a1.toNatClampNeg) 1)) fun v_5 M_3 => x_l (if (1 : Int32) < v_5 then v_5 else (1 : Int32)) fun x4_6 => x_dL (x4_6.toInt64) (some (((if (9999999 : Int64) < (((a2.toInt64) * (1000 : Int64)) / (x4_6.toInt64)) then (9999999 : Int64) else (((a2.toInt64) * (1000 : Int64)) / (x4_6.toInt64))).toInt32), M_3)))
set_option maxRecDepth 100000 in
set_option maxHeartbeats 4000000 in
theorem mX8_shareOf (l : Launch) (g : xG) {a1 : Int32} {a2 : Int32} {r : Int32} {M' : xM}  {M : xM} (hf : fX8_shareOf M a1 a2 = some (r, M')) : x_cI l g 0 yX8_shareOf cX8_shareOf 5 .int 4 99 [.ref (g.2.2.1 1), .int a1, .int a2] M (fun v N => v = r ∧ N = M') := by
  refine x_stI RX8 (by decide) rfl (Nat.le_of_ble_eq_true rfl) ?_
  intro p e s m args below meth c Q ls C hw ret hl
  obtain ⟨hx, hb, hml, hown, hB, -⟩ := id C
  have hl : lv_has ls 5 [(0, .ref (g.2.2.1 1)), (1, .int a1), (2, .int a2)] := hl
  unfold fX8_shareOf at hf
  refine lv_aload_n hx hb dX8_shareOf_0 rfl (lv_at hl 0 rfl) ?_
  refine fg_X8_47 (k2 := 22) C hw ic0_1 rfl dX8_shareOf_1 ?_
  refine lv_iload_n hx hb dX8_shareOf_4 rfl (lv_at hl 1 rfl) ?_
  obtain ⟨q_1, hf⟩ := x_gE hf
  refine x_rld (t := 4) (k2 := (169 + a1.toNatClampNeg)) C hw ic0_22 (by decide) rfl q_1 (rr0_22 _) dX8_shareOf_5 ?_
  have h_2 : x_is 0 (169 + a1.toNatClampNeg) 2 := (rr0_22 a1.toNatClampNeg) ▸ x_ta ic0_22 (by decide) (x_ilt q_1)
  refine lv_astore_n (lv' := [(3, .ref (g.2.2.1 (169 + a1.toNatClampNeg))), (0, .ref (g.2.2.1 1)), (1, .int a1), (2, .int a2)]) hx hb dX8_shareOf_6 rfl hl (by decide) rfl (fun ls hl => ?_)
  refine lv_iconst (v := (1 : Int32)) hx hb dX8_shareOf_7 (by decide) ?_
  refine lv_aload_n hx hb dX8_shareOf_8 rfl (lv_at hl 1 rfl) ?_
  refine lv_aload_n hx hb dX8_shareOf_9 rfl (lv_at hl 0 rfl) ?_
  refine fg_X8_172 C hw h_2 dX8_shareOf_10 ?_
  refine lv_aload_n hx hb dX8_shareOf_13 rfl (lv_at hl 0 rfl) ?_
  refine fg_X8_171 C hw h_2 dX8_shareOf_14 ?_
  refine lv_aload_n hx hb dX8_shareOf_17 rfl (lv_at hl 0 rfl) ?_
  refine fg_X8_171 C hw h_2 dX8_shareOf_18 ?_
  obtain ⟨tv_5, tM_3, c_4, hf⟩ := x_bE hf
  refine x_vI C hw hl.1 [.int (M (169 + a1.toNatClampNeg) 0), .int (M (169 + a1.toNatClampNeg) 1), .int (M (169 + a1.toNatClampNeg) 1)] [.int (1 : Int32)] (mX8_earnings l g c_4) lk_X8_202 ic0_1 (by decide) rfl (by decide) rfl (Nat.le_of_ble_eq_true rfl) ⟨Nat.zero_le _, Nat.zero_le _⟩ dX8_shareOf_21 (fun v_5 M_3 H locs hN hw => ?_)
  obtain ⟨rfl, rfl⟩ := hN
  refine mm_X8_142 C hl.1 (Nat.le_of_ble_eq_true rfl) (Nat.le_of_ble_eq_true rfl) ⟨Nat.zero_le _, Nat.zero_le _⟩ dX8_shareOf_24 ?_
  refine lv_topi (fun x4_6 ex4_6 => ?_)
  have hf := x_lE ex4_6 hf
  refine lv_istore (lv' := [(4, .int x4_6), (3, .ref (g.2.2.1 (169 + a1.toNatClampNeg))), (0, .ref (g.2.2.1 1)), (1, .int a1), (2, .int a2)]) hx hb dX8_shareOf_27 hl (by decide) rfl (fun ls hl => ?_)
  refine lv_iload_n hx hb dX8_shareOf_29 rfl (lv_at hl 4 rfl) ?_
  refine lv_i2l hx hb dX8_shareOf_30 rfl ?_
  refine lv_ldc2 hx hb hown (hB _ mkl_X8_218) dX8_shareOf_31 ?_
  refine lv_lmul hx hb dX8_shareOf_34 ?_
  refine lv_iload hx hb dX8_shareOf_35 (lv_at hl 0 rfl) ?_
  refine lv_i2l hx hb dX8_shareOf_37 rfl ?_
  obtain ⟨q_7, hf⟩ := x_dLE hf
  refine lv_ldiv hx hb dX8_shareOf_38 q_7 ?_
  refine lv_ldc2 hx hb hown (hB _ mkl_X8_220) dX8_shareOf_39 ?_
  refine mm_X8_222 C hl.1 (Nat.le_of_ble_eq_true rfl) (Nat.le_of_ble_eq_true rfl) ⟨Nat.zero_le _, Nat.zero_le _⟩ dX8_shareOf_42 ?_
  refine lv_l2i hx hb dX8_shareOf_45 rfl ?_
  exact ret hf dX8_shareOf_46 hw
noncomputable def fX8_areAlike_L48 (a1 : Int32) (a2 : Int32) (x4_17 : Int32) (k151_24 : xM → Int32 → Int32 → Option (Int32 × xM)) : Nat → xM → Int32 → Int32 → Int32 → Option (Int32 × xM)
  | 0, _, _, _, _ => none
  | n_32 + 1, M_31, x3_28, x5_29, x6_30 => if (M_31 1 3) ≤ x6_30 then (k151_24 M_31 x3_28 x5_29) else (x_g x6_30 30 (x_l (fun (M_40 : xM) (x3_37 : Int32) (x5_38 : Int32) => x_l (x6_30 + (1 : Int32)) fun x6_41 => fX8_areAlike_L48 a1 a2 x4_17 k151_24 n_32 M_40 x3_37 x5_38 x6_41) fun k145_39 => if (M_31 (139 + x6_30.toNatClampNeg) 0) = x4_17 then (x_g x6_30 30 (x_l (fun (M_46 : xM) (z_44 : Int32) => x_b (fX10_oneIf M_46 z_44) fun v_49 M_47 => x_g x6_30 30 (x_l (fun (M_53 : xM) (z_51 : Int32) => x_b (fX10_oneIf M_53 z_51) fun v_56 M_54 => x_l (v_49 - v_56) fun x7_57 => x_l (x5_29 + x7_57) fun x5_58 => x_g x6_30 30 (x_l (x3_28 + (x7_57 * (M_54 (139 + x6_30.toNatClampNeg) 3))) fun x3_60 => k145_39 M_54 x3_60 x5_58)) fun k116_52 => if (M_47 (139 + x6_30.toNatClampNeg) 4) = a2 then (k116_52 M_47 (1 : Int32)) else (k116_52 M_47 (0 : Int32)))) fun k94_45 => if (M_31 (139 + x6_30.toNatClampNeg) 4) = a1 then (k94_45 M_31 (1 : Int32)) else (k94_45 M_31 (0 : Int32)))) else (k145_39 M_31 x3_28 x5_29)))
noncomputable def fX8_areAlike_L36 (a1 : Int32) (a2 : Int32) (k164_13 : xM → Int32 → Option (Int32 × xM)) : Nat → xM → Int32 → Int32 → Option (Int32 × xM)
  | 0, _, _, _ => none
  | n_19 + 1, M_18, x3_16, x4_17 => if (4 : Int32) ≤ x4_17 then (k164_13 M_18 x3_16) else (x_l (fun (M_25 : xM) (x3_22 : Int32) (x5_23 : Int32) => if x5_23 = 0 then (x_l (x4_17 + (1 : Int32)) fun x4_27 => fX8_areAlike_L36 a1 a2 k164_13 n_19 M_25 x3_22 x4_27) else (some ((0 : Int32), M_25))) fun k151_24 => fX8_areAlike_L48 a1 a2 x4_17 k151_24 x_FU M_18 x3_16 (0 : Int32) (0 : Int32))
noncomputable def fX8_areAlike (M : xM) (a1 : Int32) (a2 : Int32) : Option (Int32 × xM) := x_g a1 16 (x_b (fX8_youth M (M (169 + a1.toNatClampNeg) 0)) fun v_5 M_3 => x_g a2 16 (x_b (fX8_youth M_3 (M_3 (169 + a2.toNatClampNeg) 0)) fun v_10 M_8 => if v_5 = v_10 then (x_l (fun (M_14 : xM) (x3_12 : Int32) => if (5 : Int32) < (if 0 ≤ x3_12 then x3_12 else 0 - x3_12) then (some ((0 : Int32), M_14)) else (some ((1 : Int32), M_14))) fun k164_13 => fX8_areAlike_L36 a1 a2 k164_13 x_FU M_8 (0 : Int32) (0 : Int32)) else (some ((0 : Int32), M_8))))
set_option maxRecDepth 100000 in
set_option maxHeartbeats 4000000 in
theorem mX8_areAlike (l : Launch) (g : xG) {a1 : Int32} {a2 : Int32} {r : Int32} {M' : xM}  {M : xM} (hf : fX8_areAlike M a1 a2 = some (r, M')) : x_cI l g 0 yX8_areAlike cX8_areAlike 8 .boolean 2 42 [.ref (g.2.2.1 1), .int a1, .int a2] M (fun v N => v = r ∧ N = M') := by
  refine x_stZ RX8 (by decide) rfl (Nat.le_of_ble_eq_true rfl) ?_
  intro p e s m args below meth c Q ls C hw ret hl
  obtain ⟨hx, hb, hml, hown, hB, -⟩ := id C
  have hl : lv_has ls 8 [(0, .ref (g.2.2.1 1)), (1, .int a1), (2, .int a2)] := hl
  unfold fX8_areAlike at hf
  refine lv_aload_n hx hb dX8_areAlike_0 rfl (lv_at hl 0 rfl) ?_
  refine lv_aload_n hx hb dX8_areAlike_1 rfl (lv_at hl 0 rfl) ?_
  refine fg_X8_47 (k2 := 22) C hw ic0_1 rfl dX8_areAlike_2 ?_
  refine lv_iload_n hx hb dX8_areAlike_5 rfl (lv_at hl 1 rfl) ?_
  obtain ⟨q_1, hf⟩ := x_gE hf
  refine x_rld (t := 4) (k2 := (169 + a1.toNatClampNeg)) C hw ic0_22 (by decide) rfl q_1 (rr0_22 _) dX8_areAlike_6 ?_
  have h_2 : x_is 0 (169 + a1.toNatClampNeg) 2 := (rr0_22 a1.toNatClampNeg) ▸ x_ta ic0_22 (by decide) (x_ilt q_1)
  refine fg_X8_172 C hw h_2 dX8_areAlike_7 ?_
  obtain ⟨tv_5, tM_3, c_4, hf⟩ := x_bE hf
  refine x_vI C hw hl.1 [.int (M (169 + a1.toNatClampNeg) 0)] [] (mX8_youth l g c_4) lk_X8_191 ic0_1 (by decide) rfl (by decide) rfl (Nat.le_of_ble_eq_true rfl) ⟨Nat.zero_le _, Nat.zero_le _⟩ dX8_areAlike_10 (fun v_5 M_3 H locs hN hw => ?_)
  obtain ⟨rfl, rfl⟩ := hN
  refine lv_aload_n hx hb dX8_areAlike_13 rfl (lv_at hl 0 rfl) ?_
  refine lv_aload_n hx hb dX8_areAlike_14 rfl (lv_at hl 0 rfl) ?_
  refine fg_X8_47 (k2 := 22) C hw ic0_1 rfl dX8_areAlike_15 ?_
  refine lv_iload_n hx hb dX8_areAlike_18 rfl (lv_at hl 2 rfl) ?_
  obtain ⟨q_6, hf⟩ := x_gE hf
  refine x_rld (t := 4) (k2 := (169 + a2.toNatClampNeg)) C hw ic0_22 (by decide) rfl q_6 (rr0_22 _) dX8_areAlike_19 ?_
  have h_7 : x_is 0 (169 + a2.toNatClampNeg) 2 := (rr0_22 a2.toNatClampNeg) ▸ x_ta ic0_22 (by decide) (x_ilt q_6)
  refine fg_X8_172 C hw h_7 dX8_areAlike_20 ?_
  obtain ⟨tv_10, tM_8, c_9, hf⟩ := x_bE hf
  refine x_vI C hw hl.1 [.int (M_3 (169 + a2.toNatClampNeg) 0)] [.int v_5] (mX8_youth l g c_9) lk_X8_191 ic0_1 (by decide) rfl (by decide) rfl (Nat.le_of_ble_eq_true rfl) ⟨Nat.zero_le _, Nat.zero_le _⟩ dX8_areAlike_23 (fun v_10 M_8 H locs hN hw => ?_)
  obtain ⟨rfl, rfl⟩ := hN
  refine lv_icmp_eq (tgt := 31) hx hb dX8_areAlike_26 (by decide) (fun q_11 => ?_) (fun q_11 => ?_)
  · have hf := x_iP hf q_11
    refine lv_iconst (v := (0 : Int32)) hx hb dX8_areAlike_31 (by decide) ?_
    refine lv_istore_n (lv' := [(3, .int (0 : Int32)), (0, .ref (g.2.2.1 1)), (1, .int a1), (2, .int a2)]) hx hb dX8_areAlike_32 rfl hl (by decide) rfl (fun ls hl => ?_)
    refine lv_iconst (v := (0 : Int32)) hx hb dX8_areAlike_33 (by decide) ?_
    refine lv_istore (lv' := [(4, .int (0 : Int32)), (3, .int (0 : Int32)), (0, .ref (g.2.2.1 1)), (1, .int a1), (2, .int a2)]) hx hb dX8_areAlike_34 hl (by decide) rfl (fun ls hl => ?_)
    obtain ⟨k164_13, ek164_13, hf⟩ := x_jE hf
    have hk164_13 : ∀ (H : Heap) (locs : List Loc) (M_14 : xM) (x3_12 : Int32) (ls : Array Slot) , lv_has ls 8 [(3, .int x3_12)] → x_w g 0 s H locs M_14 → k164_13 M_14 x3_12 = some (r, M') → W p l e (x_rm 2 42) s m args below meth c H locs 0 0 Q (F0 m 164 ls []) := by
      intro H locs M_14 x3_12 ls  hl hw hf
      rw [ek164_13] at hf
      refine lv_iload_n hx hb dX8_areAlike_164 rfl (lv_at hl 0 rfl) ?_
      refine mm_X8_225 C hl.1 (Nat.le_of_ble_eq_true rfl) (Nat.le_of_ble_eq_true rfl) ⟨Nat.zero_le _, Nat.zero_le _⟩ dX8_areAlike_165 ?_
      refine lv_iconst (v := (5 : Int32)) hx hb dX8_areAlike_168 (by decide) ?_
      refine lv_icmp_gt (tgt := 176) hx hb dX8_areAlike_169 (by decide) (fun q_15 => ?_) (fun q_15 => ?_)
      · have hf := x_iP hf q_15
        refine lv_iconst (v := (0 : Int32)) hx hb dX8_areAlike_176 (by decide) ?_
        exact ret ((x_zl0 _).trans hf) dX8_areAlike_177 hw
      · have hf := x_iN hf q_15
        refine lv_iconst (v := (1 : Int32)) hx hb dX8_areAlike_172 (by decide) ?_
        refine lv_goto (tgt := 177) hx hb dX8_areAlike_173 (by decide) ?_
        exact ret ((x_zl1 _).trans hf) dX8_areAlike_177 hw
    have hL_64 : ∀ (n_19 : Nat) (H : Heap) (locs : List Loc) (M_18 : xM) (x3_16 : Int32) (x4_17 : Int32) (ls : Array Slot) , lv_has ls 8 [(0, .ref (g.2.2.1 1)), (1, .int a1), (2, .int a2), (3, .int x3_16), (4, .int x4_17)] → x_w g 0 s H locs M_18 → fX8_areAlike_L36 a1 a2 k164_13 n_19 M_18 x3_16 x4_17 = some (r, M') → W p l e (x_rm 2 42) s m args below meth c H locs 0 0 Q (F0 m 36 ls []) := by
      intro n_19
      induction n_19 with
      | zero =>
        intro H locs M_18 x3_16 x4_17 ls  hl hw hf
        rw [fX8_areAlike_L36] at hf
        cases hf
      | succ n_19 ih_20 =>
        intro H locs M_18 x3_16 x4_17 ls  hl hw hf
        rw [fX8_areAlike_L36] at hf
        refine lv_iload hx hb dX8_areAlike_36 (lv_at hl 4 rfl) ?_
        refine lv_iconst (v := (4 : Int32)) hx hb dX8_areAlike_38 (by decide) ?_
        refine lv_icmp_ge (tgt := 164) hx hb dX8_areAlike_39 (by decide) (fun q_21 => ?_) (fun q_21 => ?_)
        · have hf := x_iP hf q_21
          exact hk164_13 _ _ _ _ _ (lv_sub hl [3] rfl) hw hf
        · have hf := x_iN hf q_21
          refine lv_iconst (v := (0 : Int32)) hx hb dX8_areAlike_42 (by decide) ?_
          refine lv_istore (lv' := [(5, .int (0 : Int32)), (0, .ref (g.2.2.1 1)), (1, .int a1), (2, .int a2), (3, .int x3_16), (4, .int x4_17)]) hx hb dX8_areAlike_43 hl (by decide) rfl (fun ls hl => ?_)
          refine lv_iconst (v := (0 : Int32)) hx hb dX8_areAlike_45 (by decide) ?_
          refine lv_istore (lv' := [(6, .int (0 : Int32)), (5, .int (0 : Int32)), (0, .ref (g.2.2.1 1)), (1, .int a1), (2, .int a2), (3, .int x3_16), (4, .int x4_17)]) hx hb dX8_areAlike_46 hl (by decide) rfl (fun ls hl => ?_)
          obtain ⟨k151_24, ek151_24, hf⟩ := x_jE hf
          have hk151_24 : ∀ (H : Heap) (locs : List Loc) (M_25 : xM) (x3_22 : Int32) (x5_23 : Int32) (ls : Array Slot) , lv_has ls 8 [(0, .ref (g.2.2.1 1)), (1, .int a1), (2, .int a2), (4, .int x4_17), (3, .int x3_22), (5, .int x5_23)] → x_w g 0 s H locs M_25 → k151_24 M_25 x3_22 x5_23 = some (r, M') → W p l e (x_rm 2 42) s m args below meth c H locs 0 0 Q (F0 m 151 ls []) := by
            intro H locs M_25 x3_22 x5_23 ls  hl hw hf
            rw [ek151_24] at hf
            refine lv_iload hx hb dX8_areAlike_151 (lv_at hl 5 rfl) ?_
            refine lv_if_eq (tgt := 158) hx hb dX8_areAlike_153 (by decide) (fun q_26 => ?_) (fun q_26 => ?_)
            · have hf := x_iP hf q_26
              obtain ⟨x4_27, ex4_27⟩ : ∃ z : Int32, z = (x4_17 + (1 : Int32)) := ⟨_, rfl⟩
              have hf := x_lE ex4_27 hf
              refine lv_iinc (v := x4_27) (lv' := [(4, .int x4_27), (0, .ref (g.2.2.1 1)), (1, .int a1), (2, .int a2), (3, .int x3_22), (5, .int x5_23)]) hx hb dX8_areAlike_158 hl (k := 3) rfl (by rw [ex4_27]; rfl) (by decide) rfl (fun ls hl => ?_)
              refine lv_goto (tgt := 36) hx hb dX8_areAlike_161 (by decide) ?_
              exact ih_20 _ _ _ _ _ _ (lv_sub hl [1, 2, 3, 4, 0] rfl) hw hf
            · have hf := x_iN hf q_26
              refine lv_iconst (v := (0 : Int32)) hx hb dX8_areAlike_156 (by decide) ?_
              exact ret ((x_zl0 _).trans hf) dX8_areAlike_157 hw
          have hL_63 : ∀ (n_32 : Nat) (H : Heap) (locs : List Loc) (M_31 : xM) (x3_28 : Int32) (x5_29 : Int32) (x6_30 : Int32) (ls : Array Slot) , lv_has ls 8 [(0, .ref (g.2.2.1 1)), (1, .int a1), (2, .int a2), (4, .int x4_17), (3, .int x3_28), (5, .int x5_29), (6, .int x6_30)] → x_w g 0 s H locs M_31 → fX8_areAlike_L48 a1 a2 x4_17 k151_24 n_32 M_31 x3_28 x5_29 x6_30 = some (r, M') → W p l e (x_rm 2 42) s m args below meth c H locs 0 0 Q (F0 m 48 ls []) := by
            intro n_32
            induction n_32 with
            | zero =>
              intro H locs M_31 x3_28 x5_29 x6_30 ls  hl hw hf
              rw [fX8_areAlike_L48] at hf
              cases hf
            | succ n_32 ih_33 =>
              intro H locs M_31 x3_28 x5_29 x6_30 ls  hl hw hf
              rw [fX8_areAlike_L48] at hf
              refine lv_iload hx hb dX8_areAlike_48 (lv_at hl 6 rfl) ?_
              refine lv_aload_n hx hb dX8_areAlike_50 rfl (lv_at hl 0 rfl) ?_
              refine fg_X8_21 C hw ic0_1 dX8_areAlike_51 ?_
              refine lv_icmp_ge (tgt := 151) hx hb dX8_areAlike_54 (by decide) (fun q_34 => ?_) (fun q_34 => ?_)
              · have hf := x_iP hf q_34
                exact hk151_24 _ _ _ _ _ _ (lv_sub hl [0, 1, 2, 3, 4, 5] rfl) hw hf
              · have hf := x_iN hf q_34
                refine lv_aload_n hx hb dX8_areAlike_57 rfl (lv_at hl 0 rfl) ?_
                refine fg_X8_41 (k2 := 21) C hw ic0_1 rfl dX8_areAlike_58 ?_
                refine lv_iload hx hb dX8_areAlike_61 (lv_at hl 6 rfl) ?_
                obtain ⟨q_35, hf⟩ := x_gE hf
                refine x_rld (t := 2) (k2 := (139 + x6_30.toNatClampNeg)) C hw ic0_21 (by decide) rfl q_35 (rr0_21 _) dX8_areAlike_63 ?_
                have h_36 : x_is 0 (139 + x6_30.toNatClampNeg) 0 := (rr0_21 x6_30.toNatClampNeg) ▸ x_ta ic0_21 (by decide) (x_ilt q_35)
                refine fg_X8_188 C hw h_36 dX8_areAlike_64 ?_
                refine lv_iload hx hb dX8_areAlike_67 (lv_at hl 3 rfl) ?_
                obtain ⟨k145_39, ek145_39, hf⟩ := x_jE hf
                have hk145_39 : ∀ (H : Heap) (locs : List Loc) (M_40 : xM) (x3_37 : Int32) (x5_38 : Int32) (ls : Array Slot) , lv_has ls 8 [(0, .ref (g.2.2.1 1)), (1, .int a1), (2, .int a2), (4, .int x4_17), (6, .int x6_30), (3, .int x3_37), (5, .int x5_38)] → x_w g 0 s H locs M_40 → k145_39 M_40 x3_37 x5_38 = some (r, M') → W p l e (x_rm 2 42) s m args below meth c H locs 0 0 Q (F0 m 145 ls []) := by
                  intro H locs M_40 x3_37 x5_38 ls  hl hw hf
                  rw [ek145_39] at hf
                  obtain ⟨x6_41, ex6_41⟩ : ∃ z : Int32, z = (x6_30 + (1 : Int32)) := ⟨_, rfl⟩
                  have hf := x_lE ex6_41 hf
                  refine lv_iinc (v := x6_41) (lv' := [(6, .int x6_41), (0, .ref (g.2.2.1 1)), (1, .int a1), (2, .int a2), (4, .int x4_17), (3, .int x3_37), (5, .int x5_38)]) hx hb dX8_areAlike_145 hl (k := 4) rfl (by rw [ex6_41]; rfl) (by decide) rfl (fun ls hl => ?_)
                  refine lv_goto (tgt := 48) hx hb dX8_areAlike_148 (by decide) ?_
                  exact ih_33 _ _ _ _ _ _ _ (lv_sub hl [1, 2, 3, 4, 5, 6, 0] rfl) hw hf
                refine lv_icmp_eq (tgt := 75) hx hb dX8_areAlike_69 (by decide) (fun q_42 => ?_) (fun q_42 => ?_)
                · have hf := x_iP hf q_42
                  refine lv_aload_n hx hb dX8_areAlike_75 rfl (lv_at hl 0 rfl) ?_
                  refine fg_X8_41 (k2 := 21) C hw ic0_1 rfl dX8_areAlike_76 ?_
                  refine lv_iload hx hb dX8_areAlike_79 (lv_at hl 6 rfl) ?_
                  obtain ⟨q_43, hf⟩ := x_gE hf
                  refine x_rld (t := 2) (k2 := (139 + x6_30.toNatClampNeg)) C hw ic0_21 (by decide) rfl q_43 (rr0_21 _) dX8_areAlike_81 ?_
                  refine fg_X8_165 C hw h_36 dX8_areAlike_82 ?_
                  refine lv_iload_n hx hb dX8_areAlike_85 rfl (lv_at hl 1 rfl) ?_
                  obtain ⟨k94_45, ek94_45, hf⟩ := x_jE hf
                  have hk94_45 : ∀ (H : Heap) (locs : List Loc) (M_46 : xM) (z_44 : Int32) (ls : Array Slot) , lv_has ls 8 [(0, .ref (g.2.2.1 1)), (1, .int a1), (2, .int a2), (4, .int x4_17), (3, .int x3_28), (5, .int x5_29), (6, .int x6_30)] → x_w g 0 s H locs M_46 → k94_45 M_46 z_44 = some (r, M') → W p l e (x_rm 2 42) s m args below meth c H locs 0 0 Q (F0 m 94 ls [.int z_44]) := by
                    intro H locs M_46 z_44 ls  hl hw hf
                    rw [ek94_45] at hf
                    obtain ⟨tv_49, tM_47, c_48, hf⟩ := x_bE hf
                    refine x_nI C hw hl.1 [.int z_44] [] (mX10_oneIf l g c_48) lk_X8_152 (by decide) rfl (Nat.le_of_ble_eq_true rfl) ⟨Nat.zero_le _, Nat.zero_le _⟩ dX8_areAlike_94 (fun v_49 M_47 H locs hN hw => ?_)
                    obtain ⟨rfl, rfl⟩ := hN
                    refine lv_aload_n hx hb dX8_areAlike_97 rfl (lv_at hl 0 rfl) ?_
                    refine fg_X8_41 (k2 := 21) C hw ic0_1 rfl dX8_areAlike_98 ?_
                    refine lv_iload hx hb dX8_areAlike_101 (lv_at hl 6 rfl) ?_
                    obtain ⟨q_50, hf⟩ := x_gE hf
                    refine x_rld (t := 2) (k2 := (139 + x6_30.toNatClampNeg)) C hw ic0_21 (by decide) rfl q_50 (rr0_21 _) dX8_areAlike_103 ?_
                    refine fg_X8_165 C hw h_36 dX8_areAlike_104 ?_
                    refine lv_iload_n hx hb dX8_areAlike_107 rfl (lv_at hl 2 rfl) ?_
                    obtain ⟨k116_52, ek116_52, hf⟩ := x_jE hf
                    have hk116_52 : ∀ (H : Heap) (locs : List Loc) (M_53 : xM) (z_51 : Int32) (ls : Array Slot) , lv_has ls 8 [(0, .ref (g.2.2.1 1)), (1, .int a1), (2, .int a2), (4, .int x4_17), (3, .int x3_28), (5, .int x5_29), (6, .int x6_30)] → x_w g 0 s H locs M_53 → k116_52 M_53 z_51 = some (r, M') → W p l e (x_rm 2 42) s m args below meth c H locs 0 0 Q (F0 m 116 ls [.int z_51, .int v_49]) := by
                      intro H locs M_53 z_51 ls  hl hw hf
                      rw [ek116_52] at hf
                      obtain ⟨tv_56, tM_54, c_55, hf⟩ := x_bE hf
                      refine x_nI C hw hl.1 [.int z_51] [.int v_49] (mX10_oneIf l g c_55) lk_X8_152 (by decide) rfl (Nat.le_of_ble_eq_true rfl) ⟨Nat.zero_le _, Nat.zero_le _⟩ dX8_areAlike_116 (fun v_56 M_54 H locs hN hw => ?_)
                      obtain ⟨rfl, rfl⟩ := hN
                      refine lv_isub hx hb dX8_areAlike_119 ?_
                      refine lv_topi (fun x7_57 ex7_57 => ?_)
                      have hf := x_lE ex7_57 hf
                      refine lv_istore (lv' := [(7, .int x7_57), (0, .ref (g.2.2.1 1)), (1, .int a1), (2, .int a2), (4, .int x4_17), (3, .int x3_28), (5, .int x5_29), (6, .int x6_30)]) hx hb dX8_areAlike_120 hl (by decide) rfl (fun ls hl => ?_)
                      refine lv_iload hx hb dX8_areAlike_122 (lv_at hl 6 rfl) ?_
                      refine lv_iload hx hb dX8_areAlike_124 (lv_at hl 0 rfl) ?_
                      refine lv_iadd hx hb dX8_areAlike_126 ?_
                      refine lv_topi (fun x5_58 ex5_58 => ?_)
                      have hf := x_lE ex5_58 hf
                      refine lv_istore (lv' := [(5, .int x5_58), (7, .int x7_57), (0, .ref (g.2.2.1 1)), (1, .int a1), (2, .int a2), (4, .int x4_17), (3, .int x3_28), (6, .int x6_30)]) hx hb dX8_areAlike_127 hl (by decide) rfl (fun ls hl => ?_)
                      refine lv_iload_n hx hb dX8_areAlike_129 rfl (lv_at hl 6 rfl) ?_
                      refine lv_iload hx hb dX8_areAlike_130 (lv_at hl 1 rfl) ?_
                      refine lv_aload_n hx hb dX8_areAlike_132 rfl (lv_at hl 2 rfl) ?_
                      refine fg_X8_41 (k2 := 21) C hw ic0_1 rfl dX8_areAlike_133 ?_
                      refine lv_iload hx hb dX8_areAlike_136 (lv_at hl 7 rfl) ?_
                      obtain ⟨q_59, hf⟩ := x_gE hf
                      refine x_rld (t := 2) (k2 := (139 + x6_30.toNatClampNeg)) C hw ic0_21 (by decide) rfl q_59 (rr0_21 _) dX8_areAlike_138 ?_
                      refine fg_X8_176 C hw h_36 dX8_areAlike_139 ?_
                      refine lv_imul hx hb dX8_areAlike_142 ?_
                      refine lv_iadd hx hb dX8_areAlike_143 ?_
                      refine lv_topi (fun x3_60 ex3_60 => ?_)
                      have hf := x_lE ex3_60 hf
                      refine lv_istore_n (lv' := [(3, .int x3_60), (5, .int x5_58), (7, .int x7_57), (0, .ref (g.2.2.1 1)), (1, .int a1), (2, .int a2), (4, .int x4_17), (6, .int x6_30)]) hx hb dX8_areAlike_144 rfl hl (by decide) rfl (fun ls hl => ?_)
                      exact hk145_39 _ _ _ _ _ _ (lv_sub hl [3, 4, 5, 6, 7, 0, 1] rfl) hw hf
                    refine lv_icmp_ne (tgt := 115) hx hb dX8_areAlike_108 (by decide) (fun q_61 => ?_) (fun q_61 => ?_)
                    · have hf := x_iN hf q_61
                      refine lv_iconst (v := (0 : Int32)) hx hb dX8_areAlike_115 (by decide) ?_
                      exact hk116_52 _ _ _ _ _ (lv_sub hl [0, 1, 2, 3, 4, 5, 6] rfl) hw hf
                    · have hf := x_iP hf q_61
                      refine lv_iconst (v := (1 : Int32)) hx hb dX8_areAlike_111 (by decide) ?_
                      refine lv_goto (tgt := 116) hx hb dX8_areAlike_112 (by decide) ?_
                      exact hk116_52 _ _ _ _ _ (lv_sub hl [0, 1, 2, 3, 4, 5, 6] rfl) hw hf
                  refine lv_icmp_ne (tgt := 93) hx hb dX8_areAlike_86 (by decide) (fun q_62 => ?_) (fun q_62 => ?_)
                  · have hf := x_iN hf q_62
                    refine lv_iconst (v := (0 : Int32)) hx hb dX8_areAlike_93 (by decide) ?_
                    exact hk94_45 _ _ _ _ _ (lv_sub hl [0, 1, 2, 3, 4, 5, 6] rfl) hw hf
                  · have hf := x_iP hf q_62
                    refine lv_iconst (v := (1 : Int32)) hx hb dX8_areAlike_89 (by decide) ?_
                    refine lv_goto (tgt := 94) hx hb dX8_areAlike_90 (by decide) ?_
                    exact hk94_45 _ _ _ _ _ (lv_sub hl [0, 1, 2, 3, 4, 5, 6] rfl) hw hf
                · have hf := x_iN hf q_42
                  refine lv_goto (tgt := 145) hx hb dX8_areAlike_72 (by decide) ?_
                  exact hk145_39 _ _ _ _ _ _ (lv_sub hl [0, 1, 2, 3, 6, 4, 5] rfl) hw hf
          exact hL_63 _ _ _ _ _ _ _ _ (lv_sub hl [2, 3, 4, 6, 5, 1, 0] rfl) hw hf
    exact hL_64 _ _ _ _ _ _ _ (lv_sub hl [2, 3, 4, 1, 0] rfl) hw hf
  · have hf := x_iN hf q_11
    refine lv_iconst (v := (0 : Int32)) hx hb dX8_areAlike_29 (by decide) ?_
    exact ret ((x_zl0 _).trans hf) dX8_areAlike_30 hw
noncomputable def fX9_addFour_L14 (a1 : Int32) (k49_2 : xM → Option (xM)) : Nat → xM → Int32 → Option (xM)
  | 0, _, _ => none
  | n_7 + 1, M_6, x2_5 => if (4 : Int32) ≤ x2_5 then (k49_2 M_6) else (x_g ((M_6 11 1) + x2_5) 120 (x_l (x_up M_6 14 ((M_6 11 1) + x2_5).toNatClampNeg (((a1.toUInt32 >>> (((24 : Int32) - ((8 : Int32) * x2_5)).toUInt32 &&& Int32.toUInt32 31)).toInt32) &&& (255 : Int32))) fun M_11 => x_l (x2_5 + (1 : Int32)) fun x2_12 => fX9_addFour_L14 a1 k49_2 n_7 M_11 x2_12))
noncomputable def fX9_addFour (M : xM) (a1 : Int32) : Option (xM) := if ((M 11 1) + (4 : Int32)) ≤ (120 : Int32) then (x_l (fun (M_3 : xM) => x_l (x_up M_3 11 1 ((M_3 11 1) + (4 : Int32))) fun M_4 => some M_4) fun k49_2 => fX9_addFour_L14 a1 k49_2 x_FU M (0 : Int32)) else (some M)
set_option maxRecDepth 100000 in
set_option maxHeartbeats 4000000 in
theorem mX9_addFour (l : Launch) (g : xG) {a1 : Int32} {M' : xM}  {M : xM} (hf : fX9_addFour M a1 = some M') : x_cV l g 0 yX9_addFour cX9_addFour 3 0 0 [.ref (g.2.2.1 11), .int a1] M (fun N => N = M') := by
  refine x_stV RX9 (by decide) rfl (Nat.le_of_ble_eq_true rfl) ?_
  intro p e s m args below meth c Q ls C hw ret hl
  obtain ⟨hx, hb, hml, hown, hB, -⟩ := id C
  have hl : lv_has ls 3 [(0, .ref (g.2.2.1 11)), (1, .int a1)] := hl
  unfold fX9_addFour at hf
  refine lv_aload_n hx hb dX9_addFour_0 rfl (lv_at hl 0 rfl) ?_
  refine fg_X9_15 C hw ic0_11 dX9_addFour_1 ?_
  refine lv_iconst (v := (4 : Int32)) hx hb dX9_addFour_4 (by decide) ?_
  refine lv_iadd hx hb dX9_addFour_5 ?_
  refine lv_bipush (v := (120 : Int32)) hx hb dX9_addFour_6 (by decide) ?_
  refine lv_icmp_le (tgt := 12) hx hb dX9_addFour_8 (by decide) (fun q_1 => ?_) (fun q_1 => ?_)
  · have hf := x_iP hf q_1
    refine lv_iconst (v := (0 : Int32)) hx hb dX9_addFour_12 (by decide) ?_
    refine lv_istore_n (lv' := [(2, .int (0 : Int32)), (0, .ref (g.2.2.1 11)), (1, .int a1)]) hx hb dX9_addFour_13 rfl hl (by decide) rfl (fun ls hl => ?_)
    obtain ⟨k49_2, ek49_2, hf⟩ := x_jE hf
    have hk49_2 : ∀ (H : Heap) (locs : List Loc) (M_3 : xM)  (ls : Array Slot) , lv_has ls 3 [(0, .ref (g.2.2.1 11))] → x_w g 0 s H locs M_3 → k49_2 M_3 = some M' → W p l e (x_rm 0 0) s m args below meth c H locs 0 0 Q (F0 m 49 ls []) := by
      intro H locs M_3  ls  hl hw hf
      rw [ek49_2] at hf
      refine lv_aload_n hx hb dX9_addFour_49 rfl (lv_at hl 0 rfl) ?_
      refine lv_dup hx hb dX9_addFour_50 rfl ?_
      refine fg_X9_15 C hw ic0_11 dX9_addFour_51 ?_
      refine lv_iconst (v := (4 : Int32)) hx hb dX9_addFour_54 (by decide) ?_
      refine lv_iadd hx hb dX9_addFour_55 ?_
      refine fp_X9_15 C hw ic0_11 dX9_addFour_56 (fun H locs hw => ?_)
      obtain ⟨M_4, eM_4⟩ : ∃ z, z = (x_up M_3 11 1 ((M_3 11 1) + (4 : Int32))) := ⟨_, rfl⟩
      rw [← eM_4] at hw
      have hf := x_lE eM_4 hf
      exact ret hf dX9_addFour_59 hw
    have hL_13 : ∀ (n_7 : Nat) (H : Heap) (locs : List Loc) (M_6 : xM) (x2_5 : Int32) (ls : Array Slot) , lv_has ls 3 [(0, .ref (g.2.2.1 11)), (1, .int a1), (2, .int x2_5)] → x_w g 0 s H locs M_6 → fX9_addFour_L14 a1 k49_2 n_7 M_6 x2_5 = some M' → W p l e (x_rm 0 0) s m args below meth c H locs 0 0 Q (F0 m 14 ls []) := by
      intro n_7
      induction n_7 with
      | zero =>
        intro H locs M_6 x2_5 ls  hl hw hf
        rw [fX9_addFour_L14] at hf
        cases hf
      | succ n_7 ih_8 =>
        intro H locs M_6 x2_5 ls  hl hw hf
        rw [fX9_addFour_L14] at hf
        refine lv_iload_n hx hb dX9_addFour_14 rfl (lv_at hl 2 rfl) ?_
        refine lv_iconst (v := (4 : Int32)) hx hb dX9_addFour_15 (by decide) ?_
        refine lv_icmp_ge (tgt := 49) hx hb dX9_addFour_16 (by decide) (fun q_9 => ?_) (fun q_9 => ?_)
        · have hf := x_iP hf q_9
          exact hk49_2 _ _ _ _ (lv_sub hl [0] rfl) hw hf
        · have hf := x_iN hf q_9
          refine lv_aload_n hx hb dX9_addFour_19 rfl (lv_at hl 0 rfl) ?_
          refine fg_X9_9 (k2 := 14) C hw ic0_11 rfl dX9_addFour_20 ?_
          refine lv_aload_n hx hb dX9_addFour_23 rfl (lv_at hl 0 rfl) ?_
          refine fg_X9_15 C hw ic0_11 dX9_addFour_24 ?_
          refine lv_iload_n hx hb dX9_addFour_27 rfl (lv_at hl 2 rfl) ?_
          refine lv_iadd hx hb dX9_addFour_28 ?_
          refine lv_iload_n hx hb dX9_addFour_29 rfl (lv_at hl 1 rfl) ?_
          refine lv_bipush (v := (24 : Int32)) hx hb dX9_addFour_30 (by decide) ?_
          refine lv_bipush (v := (8 : Int32)) hx hb dX9_addFour_32 (by decide) ?_
          refine lv_iload_n hx hb dX9_addFour_34 rfl (lv_at hl 2 rfl) ?_
          refine lv_imul hx hb dX9_addFour_35 ?_
          refine lv_isub hx hb dX9_addFour_36 ?_
          refine lv_iushr hx hb dX9_addFour_37 rfl ?_
          refine lv_sipush (v := (255 : Int32)) hx hb dX9_addFour_38 (by decide) ?_
          refine lv_iand hx hb dX9_addFour_41 ?_
          obtain ⟨q_10, hf⟩ := x_gE hf
          refine x_ast C hw ic0_14 q_10 rfl dX9_addFour_42 (fun H locs hw => ?_)
          obtain ⟨M_11, eM_11⟩ : ∃ z, z = (x_up M_6 14 ((M_6 11 1) + x2_5).toNatClampNeg (((a1.toUInt32 >>> (((24 : Int32) - ((8 : Int32) * x2_5)).toUInt32 &&& Int32.toUInt32 31)).toInt32) &&& (255 : Int32))) := ⟨_, rfl⟩
          rw [← eM_11] at hw
          have hf := x_lE eM_11 hf
          obtain ⟨x2_12, ex2_12⟩ : ∃ z : Int32, z = (x2_5 + (1 : Int32)) := ⟨_, rfl⟩
          have hf := x_lE ex2_12 hf
          refine lv_iinc (v := x2_12) (lv' := [(2, .int x2_12), (0, .ref (g.2.2.1 11)), (1, .int a1)]) hx hb dX9_addFour_43 hl (k := 2) rfl (by rw [ex2_12]; rfl) (by decide) rfl (fun ls hl => ?_)
          refine lv_goto (tgt := 14) hx hb dX9_addFour_46 (by decide) ?_
          exact ih_8 _ _ _ _ _ (lv_sub hl [1, 2, 0] rfl) hw hf
    exact hL_13 _ _ _ _ _ _ (lv_sub hl [1, 2, 0] rfl) hw hf
  · have hf := x_iN hf q_1
    exact ret hf dX9_addFour_11 hw
noncomputable def fX10_person (M : xM) (a1 : Int32) : Option (Int32 × xM) := x_b (fX10_isWithin M a1 (0 : Int32) (3 : Int32)) fun v_3 M_1 => if v_3 = 0 then (some ((-1000000001 : Int32), M_1)) else (if (M_1 1 1) < (12 : Int32) then (x_g (M_1 1 1) 12 (x_v (fX4_begin M_1 (31 + (M_1 1 1).toNatClampNeg) a1) fun M_8 => x_l (x_up M_8 1 1 ((M_8 1 1) + (1 : Int32))) fun M_10 => some (((M_10 1 1) - (1 : Int32)), M_10))) else (some ((-1000000003 : Int32), M_1)))
set_option maxRecDepth 100000 in
set_option maxHeartbeats 4000000 in
theorem mX10_person (l : Launch) (g : xG) {a1 : Int32} {r : Int32} {M' : xM}  {M : xM} (hf : fX10_person M a1 = some (r, M')) : x_cI l g 0 yX10_person cX10_person 2 .int 1 22 [.ref (g.2.2.1 0), .int a1] M (fun v N => v = r ∧ N = M') := by
  refine x_stI RX10 (by decide) rfl (Nat.le_of_ble_eq_true rfl) ?_
  intro p e s m args below meth c Q ls C hw ret hl
  obtain ⟨hx, hb, hml, hown, hB, -⟩ := id C
  have hl : lv_has ls 2 [(0, .ref (g.2.2.1 0)), (1, .int a1)] := hl
  unfold fX10_person at hf
  refine lv_iload_n hx hb dX10_person_0 rfl (lv_at hl 1 rfl) ?_
  refine lv_iconst (v := (0 : Int32)) hx hb dX10_person_1 (by decide) ?_
  refine lv_iconst (v := (3 : Int32)) hx hb dX10_person_2 (by decide) ?_
  obtain ⟨tv_3, tM_1, c_2, hf⟩ := x_bE hf
  refine x_sI C hw hl.1 [.int a1, .int (0 : Int32), .int (3 : Int32)] [] (mX10_isWithin l g c_2) lk_X10_57 (by decide) rfl (Nat.le_of_ble_eq_true rfl) ⟨Nat.zero_le _, Nat.zero_le _⟩ dX10_person_3 (fun v_3 M_1 H locs hN hw => ?_)
  obtain ⟨rfl, rfl⟩ := hN
  refine lv_if_ne (tgt := 12) hx hb dX10_person_6 (by decide) (fun q_4 => ?_) (fun q_4 => ?_)
  · have hf := x_iN hf q_4
    refine lv_aload_n hx hb dX10_person_12 rfl (lv_at hl 0 rfl) ?_
    refine fg_X10_10 (k2 := 1) C hw ic0_0 rfl dX10_person_13 ?_
    refine fg_X10_62 C hw ic0_1 dX10_person_16 ?_
    refine lv_bipush (v := (12 : Int32)) hx hb dX10_person_19 (by decide) ?_
    refine lv_icmp_lt (tgt := 27) hx hb dX10_person_21 (by decide) (fun q_5 => ?_) (fun q_5 => ?_)
    · have hf := x_iP hf q_5
      refine lv_aload_n hx hb dX10_person_27 rfl (lv_at hl 0 rfl) ?_
      refine fg_X10_10 (k2 := 1) C hw ic0_0 rfl dX10_person_28 ?_
      refine fg_X10_66 (k2 := 19) C hw ic0_1 rfl dX10_person_31 ?_
      refine lv_aload_n hx hb dX10_person_34 rfl (lv_at hl 0 rfl) ?_
      refine fg_X10_10 (k2 := 1) C hw ic0_0 rfl dX10_person_35 ?_
      refine fg_X10_62 C hw ic0_1 dX10_person_38 ?_
      obtain ⟨q_6, hf⟩ := x_gE hf
      refine x_rld (t := 5) (k2 := (31 + (M_1 1 1).toNatClampNeg)) C hw ic0_19 (by decide) rfl q_6 (rr0_19 _) dX10_person_41 ?_
      have h_7 : x_is 0 (31 + (M_1 1 1).toNatClampNeg) 4 := (rr0_19 (M_1 1 1).toNatClampNeg) ▸ x_ta ic0_19 (by decide) (x_ilt q_6)
      refine lv_iload_n hx hb dX10_person_42 rfl (lv_at hl 1 rfl) ?_
      obtain ⟨tM_8, c_9, hf⟩ := x_vE hf
      refine x_vV C hw hl.1 [.int a1] [] (mX4_begin l g h_7 c_9) lk_X10_70 h_7 (by decide) rfl (by decide) rfl (Nat.le_of_ble_eq_true rfl) ⟨Nat.zero_le _, Nat.zero_le _⟩ dX10_person_43 (fun M_8 H locs hN hw => ?_)
      obtain rfl := hN
      refine lv_aload_n hx hb dX10_person_46 rfl (lv_at hl 0 rfl) ?_
      refine fg_X10_10 (k2 := 1) C hw ic0_0 rfl dX10_person_47 ?_
      refine lv_dup hx hb dX10_person_50 rfl ?_
      refine fg_X10_62 C hw ic0_1 dX10_person_51 ?_
      refine lv_iconst (v := (1 : Int32)) hx hb dX10_person_54 (by decide) ?_
      refine lv_iadd hx hb dX10_person_55 ?_
      refine fp_X10_62 C hw ic0_1 dX10_person_56 (fun H locs hw => ?_)
      obtain ⟨M_10, eM_10⟩ : ∃ z, z = (x_up M_8 1 1 ((M_8 1 1) + (1 : Int32))) := ⟨_, rfl⟩
      rw [← eM_10] at hw
      have hf := x_lE eM_10 hf
      refine lv_aload_n hx hb dX10_person_59 rfl (lv_at hl 0 rfl) ?_
      refine fg_X10_10 (k2 := 1) C hw ic0_0 rfl dX10_person_60 ?_
      refine fg_X10_62 C hw ic0_1 dX10_person_63 ?_
      refine lv_iconst (v := (1 : Int32)) hx hb dX10_person_66 (by decide) ?_
      refine lv_isub hx hb dX10_person_67 ?_
      exact ret hf dX10_person_68 hw
    · have hf := x_iN hf q_5
      refine lv_ldc hx hb hown (hB _ mk_X10_65) dX10_person_24 ?_
      exact ret hf dX10_person_26 hw
  · have hf := x_iP hf q_4
    refine lv_ldc hx hb hown (hB _ mk_X10_61) dX10_person_9 ?_
    exact ret hf dX10_person_11 hw
noncomputable def fX10_is (M : xM) (a1 : Int32) (a2 : Int32) : Option (Int32 × xM) := x_b (fX8_hasPerson M a1) fun v_3 M_1 => if v_3 = 0 then (some ((-1000000001 : Int32), M_1)) else (x_b (fX10_isWithin M_1 a2 (0 : Int32) (3 : Int32)) fun v_7 M_5 => if v_7 = 0 then (some ((-1000000001 : Int32), M_5)) else (x_g a1 12 (x_b (fX4_isOfKind M_5 (31 + a1.toNatClampNeg) a2) fun v_13 M_11 => x_b (fX10_oneIf M_11 v_13) fun v_16 M_14 => some (v_16, M_14))))
set_option maxRecDepth 100000 in
set_option maxHeartbeats 4000000 in
theorem mX10_is (l : Launch) (g : xG) {a1 : Int32} {a2 : Int32} {r : Int32} {M' : xM}  {M : xM} (hf : fX10_is M a1 a2 = some (r, M')) : x_cI l g 0 yX10_is cX10_is 3 .int 2 43 [.ref (g.2.2.1 0), .int a1, .int a2] M (fun v N => v = r ∧ N = M') := by
  refine x_stI RX10 (by decide) rfl (Nat.le_of_ble_eq_true rfl) ?_
  intro p e s m args below meth c Q ls C hw ret hl
  obtain ⟨hx, hb, hml, hown, hB, -⟩ := id C
  have hl : lv_has ls 3 [(0, .ref (g.2.2.1 0)), (1, .int a1), (2, .int a2)] := hl
  unfold fX10_is at hf
  refine lv_aload_n hx hb dX10_is_0 rfl (lv_at hl 0 rfl) ?_
  refine fg_X10_10 (k2 := 1) C hw ic0_0 rfl dX10_is_1 ?_
  refine lv_iload_n hx hb dX10_is_4 rfl (lv_at hl 1 rfl) ?_
  obtain ⟨tv_3, tM_1, c_2, hf⟩ := x_bE hf
  refine x_vI C hw hl.1 [.int a1] [] (mX8_hasPerson l g c_2) lk_X10_76 ic0_1 (by decide) rfl (by decide) rfl (Nat.le_of_ble_eq_true rfl) ⟨Nat.zero_le _, Nat.zero_le _⟩ dX10_is_5 (fun v_3 M_1 H locs hN hw => ?_)
  obtain ⟨rfl, rfl⟩ := hN
  refine lv_if_eq (tgt := 20) hx hb dX10_is_8 (by decide) (fun q_4 => ?_) (fun q_4 => ?_)
  · have hf := x_iP hf q_4
    refine lv_ldc hx hb hown (hB _ mk_X10_61) dX10_is_20 ?_
    exact ret hf dX10_is_22 hw
  · have hf := x_iN hf q_4
    refine lv_iload_n hx hb dX10_is_11 rfl (lv_at hl 2 rfl) ?_
    refine lv_iconst (v := (0 : Int32)) hx hb dX10_is_12 (by decide) ?_
    refine lv_iconst (v := (3 : Int32)) hx hb dX10_is_13 (by decide) ?_
    obtain ⟨tv_7, tM_5, c_6, hf⟩ := x_bE hf
    refine x_sI C hw hl.1 [.int a2, .int (0 : Int32), .int (3 : Int32)] [] (mX10_isWithin l g c_6) lk_X10_57 (by decide) rfl (Nat.le_of_ble_eq_true rfl) ⟨Nat.zero_le _, Nat.zero_le _⟩ dX10_is_14 (fun v_7 M_5 H locs hN hw => ?_)
    obtain ⟨rfl, rfl⟩ := hN
    refine lv_if_ne (tgt := 23) hx hb dX10_is_17 (by decide) (fun q_8 => ?_) (fun q_8 => ?_)
    · have hf := x_iN hf q_8
      refine lv_aload_n hx hb dX10_is_23 rfl (lv_at hl 0 rfl) ?_
      refine fg_X10_10 (k2 := 1) C hw ic0_0 rfl dX10_is_24 ?_
      refine fg_X10_66 (k2 := 19) C hw ic0_1 rfl dX10_is_27 ?_
      refine lv_iload_n hx hb dX10_is_30 rfl (lv_at hl 1 rfl) ?_
      obtain ⟨q_9, hf⟩ := x_gE hf
      refine x_rld (t := 5) (k2 := (31 + a1.toNatClampNeg)) C hw ic0_19 (by decide) rfl q_9 (rr0_19 _) dX10_is_31 ?_
      have h_10 : x_is 0 (31 + a1.toNatClampNeg) 4 := (rr0_19 a1.toNatClampNeg) ▸ x_ta ic0_19 (by decide) (x_ilt q_9)
      refine lv_iload_n hx hb dX10_is_32 rfl (lv_at hl 2 rfl) ?_
      obtain ⟨tv_13, tM_11, c_12, hf⟩ := x_bE hf
      refine x_vI C hw hl.1 [.int a2] [] (mX4_isOfKind l g h_10 c_12) lk_X10_80 h_10 (by decide) rfl (by decide) rfl (Nat.le_of_ble_eq_true rfl) ⟨Nat.zero_le _, Nat.zero_le _⟩ dX10_is_33 (fun v_13 M_11 H locs hN hw => ?_)
      obtain ⟨rfl, rfl⟩ := hN
      obtain ⟨tv_16, tM_14, c_15, hf⟩ := x_bE hf
      refine x_sI C hw hl.1 [.int v_13] [] (mX10_oneIf l g c_15) lk_X10_83 (by decide) rfl (Nat.le_of_ble_eq_true rfl) ⟨Nat.zero_le _, Nat.zero_le _⟩ dX10_is_36 (fun v_16 M_14 H locs hN hw => ?_)
      obtain ⟨rfl, rfl⟩ := hN
      exact ret hf dX10_is_39 hw
    · have hf := x_iP hf q_8
      refine lv_ldc hx hb hown (hB _ mk_X10_61) dX10_is_20 ?_
      exact ret hf dX10_is_22 hw
noncomputable def fX10_couple (M : xM) (a1 : Int32) (a2 : Int32) : Option (Int32 × xM) := x_b (fX8_hasPerson M a1) fun v_3 M_1 => if v_3 = 0 then (some ((-1000000001 : Int32), M_1)) else (x_b (fX8_hasPerson M_1 a2) fun v_7 M_5 => if v_7 = 0 then (some ((-1000000001 : Int32), M_5)) else (if a1 = a2 then (some ((-1000000001 : Int32), M_5)) else (x_g a1 12 (x_b (fX4_isCoupled M_5 (31 + a1.toNatClampNeg)) fun v_14 M_12 => if v_14 = 0 then (x_g a2 12 (x_b (fX4_isCoupled M_12 (31 + a2.toNatClampNeg)) fun v_20 M_18 => if v_20 = 0 then (x_g a1 12 (x_l (x_up M_18 (31 + a1.toNatClampNeg) 1 a2) fun M_23 => x_g a2 12 (x_l (x_up M_23 (31 + a2.toNatClampNeg) 1 a1) fun M_25 => some ((1 : Int32), M_25)))) else (some ((-1000000002 : Int32), M_18)))) else (some ((-1000000002 : Int32), M_12))))))
set_option maxRecDepth 100000 in
set_option maxHeartbeats 4000000 in
theorem mX10_couple (l : Launch) (g : xG) {a1 : Int32} {a2 : Int32} {r : Int32} {M' : xM}  {M : xM} (hf : fX10_couple M a1 a2 = some (r, M')) : x_cI l g 0 yX10_couple cX10_couple 3 .int 2 43 [.ref (g.2.2.1 0), .int a1, .int a2] M (fun v N => v = r ∧ N = M') := by
  refine x_stI RX10 (by decide) rfl (Nat.le_of_ble_eq_true rfl) ?_
  intro p e s m args below meth c Q ls C hw ret hl
  obtain ⟨hx, hb, hml, hown, hB, -⟩ := id C
  have hl : lv_has ls 3 [(0, .ref (g.2.2.1 0)), (1, .int a1), (2, .int a2)] := hl
  unfold fX10_couple at hf
  refine lv_aload_n hx hb dX10_couple_0 rfl (lv_at hl 0 rfl) ?_
  refine fg_X10_10 (k2 := 1) C hw ic0_0 rfl dX10_couple_1 ?_
  refine lv_iload_n hx hb dX10_couple_4 rfl (lv_at hl 1 rfl) ?_
  obtain ⟨tv_3, tM_1, c_2, hf⟩ := x_bE hf
  refine x_vI C hw hl.1 [.int a1] [] (mX8_hasPerson l g c_2) lk_X10_76 ic0_1 (by decide) rfl (by decide) rfl (Nat.le_of_ble_eq_true rfl) ⟨Nat.zero_le _, Nat.zero_le _⟩ dX10_couple_5 (fun v_3 M_1 H locs hN hw => ?_)
  obtain ⟨rfl, rfl⟩ := hN
  refine lv_if_eq (tgt := 27) hx hb dX10_couple_8 (by decide) (fun q_4 => ?_) (fun q_4 => ?_)
  · have hf := x_iP hf q_4
    refine lv_ldc hx hb hown (hB _ mk_X10_61) dX10_couple_27 ?_
    exact ret hf dX10_couple_29 hw
  · have hf := x_iN hf q_4
    refine lv_aload_n hx hb dX10_couple_11 rfl (lv_at hl 0 rfl) ?_
    refine fg_X10_10 (k2 := 1) C hw ic0_0 rfl dX10_couple_12 ?_
    refine lv_iload_n hx hb dX10_couple_15 rfl (lv_at hl 2 rfl) ?_
    obtain ⟨tv_7, tM_5, c_6, hf⟩ := x_bE hf
    refine x_vI C hw hl.1 [.int a2] [] (mX8_hasPerson l g c_6) lk_X10_76 ic0_1 (by decide) rfl (by decide) rfl (Nat.le_of_ble_eq_true rfl) ⟨Nat.zero_le _, Nat.zero_le _⟩ dX10_couple_16 (fun v_7 M_5 H locs hN hw => ?_)
    obtain ⟨rfl, rfl⟩ := hN
    refine lv_if_eq (tgt := 27) hx hb dX10_couple_19 (by decide) (fun q_8 => ?_) (fun q_8 => ?_)
    · have hf := x_iP hf q_8
      refine lv_ldc hx hb hown (hB _ mk_X10_61) dX10_couple_27 ?_
      exact ret hf dX10_couple_29 hw
    · have hf := x_iN hf q_8
      refine lv_iload_n hx hb dX10_couple_22 rfl (lv_at hl 1 rfl) ?_
      refine lv_iload_n hx hb dX10_couple_23 rfl (lv_at hl 2 rfl) ?_
      refine lv_icmp_ne (tgt := 30) hx hb dX10_couple_24 (by decide) (fun q_9 => ?_) (fun q_9 => ?_)
      · have hf := x_iN hf q_9
        refine lv_aload_n hx hb dX10_couple_30 rfl (lv_at hl 0 rfl) ?_
        refine fg_X10_10 (k2 := 1) C hw ic0_0 rfl dX10_couple_31 ?_
        refine fg_X10_66 (k2 := 19) C hw ic0_1 rfl dX10_couple_34 ?_
        refine lv_iload_n hx hb dX10_couple_37 rfl (lv_at hl 1 rfl) ?_
        obtain ⟨q_10, hf⟩ := x_gE hf
        refine x_rld (t := 5) (k2 := (31 + a1.toNatClampNeg)) C hw ic0_19 (by decide) rfl q_10 (rr0_19 _) dX10_couple_38 ?_
        have h_11 : x_is 0 (31 + a1.toNatClampNeg) 4 := (rr0_19 a1.toNatClampNeg) ▸ x_ta ic0_19 (by decide) (x_ilt q_10)
        obtain ⟨tv_14, tM_12, c_13, hf⟩ := x_bE hf
        refine x_vI C hw hl.1 [] [] (mX4_isCoupled l g h_11 c_13) lk_X10_87 h_11 (by decide) rfl (by decide) rfl (Nat.le_of_ble_eq_true rfl) ⟨Nat.zero_le _, Nat.zero_le _⟩ dX10_couple_39 (fun v_14 M_12 H locs hN hw => ?_)
        obtain ⟨rfl, rfl⟩ := hN
        refine lv_if_ne (tgt := 60) hx hb dX10_couple_42 (by decide) (fun q_15 => ?_) (fun q_15 => ?_)
        · have hf := x_iN hf q_15
          refine lv_ldc hx hb hown (hB _ mk_X10_91) dX10_couple_60 ?_
          exact ret hf dX10_couple_62 hw
        · have hf := x_iP hf q_15
          refine lv_aload_n hx hb dX10_couple_45 rfl (lv_at hl 0 rfl) ?_
          refine fg_X10_10 (k2 := 1) C hw ic0_0 rfl dX10_couple_46 ?_
          refine fg_X10_66 (k2 := 19) C hw ic0_1 rfl dX10_couple_49 ?_
          refine lv_iload_n hx hb dX10_couple_52 rfl (lv_at hl 2 rfl) ?_
          obtain ⟨q_16, hf⟩ := x_gE hf
          refine x_rld (t := 5) (k2 := (31 + a2.toNatClampNeg)) C hw ic0_19 (by decide) rfl q_16 (rr0_19 _) dX10_couple_53 ?_
          have h_17 : x_is 0 (31 + a2.toNatClampNeg) 4 := (rr0_19 a2.toNatClampNeg) ▸ x_ta ic0_19 (by decide) (x_ilt q_16)
          obtain ⟨tv_20, tM_18, c_19, hf⟩ := x_bE hf
          refine x_vI C hw hl.1 [] [] (mX4_isCoupled l g h_17 c_19) lk_X10_87 h_17 (by decide) rfl (by decide) rfl (Nat.le_of_ble_eq_true rfl) ⟨Nat.zero_le _, Nat.zero_le _⟩ dX10_couple_54 (fun v_20 M_18 H locs hN hw => ?_)
          obtain ⟨rfl, rfl⟩ := hN
          refine lv_if_eq (tgt := 63) hx hb dX10_couple_57 (by decide) (fun q_21 => ?_) (fun q_21 => ?_)
          · have hf := x_iP hf q_21
            refine lv_aload_n hx hb dX10_couple_63 rfl (lv_at hl 0 rfl) ?_
            refine fg_X10_10 (k2 := 1) C hw ic0_0 rfl dX10_couple_64 ?_
            refine fg_X10_66 (k2 := 19) C hw ic0_1 rfl dX10_couple_67 ?_
            refine lv_iload_n hx hb dX10_couple_70 rfl (lv_at hl 1 rfl) ?_
            obtain ⟨q_22, hf⟩ := x_gE hf
            refine x_rld (t := 5) (k2 := (31 + a1.toNatClampNeg)) C hw ic0_19 (by decide) rfl q_22 (rr0_19 _) dX10_couple_71 ?_
            refine lv_iload_n hx hb dX10_couple_72 rfl (lv_at hl 2 rfl) ?_
            refine fp_X10_92 C hw h_11 dX10_couple_73 (fun H locs hw => ?_)
            obtain ⟨M_23, eM_23⟩ : ∃ z, z = (x_up M_18 (31 + a1.toNatClampNeg) 1 a2) := ⟨_, rfl⟩
            rw [← eM_23] at hw
            have hf := x_lE eM_23 hf
            refine lv_aload_n hx hb dX10_couple_76 rfl (lv_at hl 0 rfl) ?_
            refine fg_X10_10 (k2 := 1) C hw ic0_0 rfl dX10_couple_77 ?_
            refine fg_X10_66 (k2 := 19) C hw ic0_1 rfl dX10_couple_80 ?_
            refine lv_iload_n hx hb dX10_couple_83 rfl (lv_at hl 2 rfl) ?_
            obtain ⟨q_24, hf⟩ := x_gE hf
            refine x_rld (t := 5) (k2 := (31 + a2.toNatClampNeg)) C hw ic0_19 (by decide) rfl q_24 (rr0_19 _) dX10_couple_84 ?_
            refine lv_iload_n hx hb dX10_couple_85 rfl (lv_at hl 1 rfl) ?_
            refine fp_X10_92 C hw h_17 dX10_couple_86 (fun H locs hw => ?_)
            obtain ⟨M_25, eM_25⟩ : ∃ z, z = (x_up M_23 (31 + a2.toNatClampNeg) 1 a1) := ⟨_, rfl⟩
            rw [← eM_25] at hw
            have hf := x_lE eM_25 hf
            refine lv_iconst (v := (1 : Int32)) hx hb dX10_couple_89 (by decide) ?_
            exact ret hf dX10_couple_90 hw
          · have hf := x_iN hf q_21
            refine lv_ldc hx hb hown (hB _ mk_X10_91) dX10_couple_60 ?_
            exact ret hf dX10_couple_62 hw
      · have hf := x_iP hf q_9
        refine lv_ldc hx hb hown (hB _ mk_X10_61) dX10_couple_27 ?_
        exact ret hf dX10_couple_29 hw
noncomputable def fX10_part (M : xM) (a1 : Int32) : Option (Int32 × xM) := x_b (fX8_hasPerson M a1) fun v_3 M_1 => if v_3 = 0 then (some ((-1000000001 : Int32), M_1)) else (x_g a1 12 (x_l (M_1 (31 + a1.toNatClampNeg) 1) fun x2_7 => x_b (fX8_hasPerson M_1 x2_7) fun v_10 M_8 => if v_10 = 0 then (some ((-1000000002 : Int32), M_8)) else (x_g a1 12 (x_l (x_up M_8 (31 + a1.toNatClampNeg) 1 (-1 : Int32)) fun M_13 => x_g x2_7 12 (x_l (x_up M_13 (31 + x2_7.toNatClampNeg) 1 (-1 : Int32)) fun M_16 => some (x2_7, M_16))))))
set_option maxRecDepth 100000 in
set_option maxHeartbeats 4000000 in
theorem mX10_part (l : Launch) (g : xG) {a1 : Int32} {r : Int32} {M' : xM}  {M : xM} (hf : fX10_part M a1 = some (r, M')) : x_cI l g 0 yX10_part cX10_part 3 .int 2 43 [.ref (g.2.2.1 0), .int a1] M (fun v N => v = r ∧ N = M') := by
  refine x_stI RX10 (by decide) rfl (Nat.le_of_ble_eq_true rfl) ?_
  intro p e s m args below meth c Q ls C hw ret hl
  obtain ⟨hx, hb, hml, hown, hB, -⟩ := id C
  have hl : lv_has ls 3 [(0, .ref (g.2.2.1 0)), (1, .int a1)] := hl
  unfold fX10_part at hf
  refine lv_aload_n hx hb dX10_part_0 rfl (lv_at hl 0 rfl) ?_
  refine fg_X10_10 (k2 := 1) C hw ic0_0 rfl dX10_part_1 ?_
  refine lv_iload_n hx hb dX10_part_4 rfl (lv_at hl 1 rfl) ?_
  obtain ⟨tv_3, tM_1, c_2, hf⟩ := x_bE hf
  refine x_vI C hw hl.1 [.int a1] [] (mX8_hasPerson l g c_2) lk_X10_76 ic0_1 (by decide) rfl (by decide) rfl (Nat.le_of_ble_eq_true rfl) ⟨Nat.zero_le _, Nat.zero_le _⟩ dX10_part_5 (fun v_3 M_1 H locs hN hw => ?_)
  obtain ⟨rfl, rfl⟩ := hN
  refine lv_if_ne (tgt := 14) hx hb dX10_part_8 (by decide) (fun q_4 => ?_) (fun q_4 => ?_)
  · have hf := x_iN hf q_4
    refine lv_aload_n hx hb dX10_part_14 rfl (lv_at hl 0 rfl) ?_
    refine fg_X10_10 (k2 := 1) C hw ic0_0 rfl dX10_part_15 ?_
    refine fg_X10_66 (k2 := 19) C hw ic0_1 rfl dX10_part_18 ?_
    refine lv_iload_n hx hb dX10_part_21 rfl (lv_at hl 1 rfl) ?_
    obtain ⟨q_5, hf⟩ := x_gE hf
    refine x_rld (t := 5) (k2 := (31 + a1.toNatClampNeg)) C hw ic0_19 (by decide) rfl q_5 (rr0_19 _) dX10_part_22 ?_
    have h_6 : x_is 0 (31 + a1.toNatClampNeg) 4 := (rr0_19 a1.toNatClampNeg) ▸ x_ta ic0_19 (by decide) (x_ilt q_5)
    refine fg_X10_92 C hw h_6 dX10_part_23 ?_
    refine lv_topi (fun x2_7 ex2_7 => ?_)
    have hf := x_lE ex2_7 hf
    refine lv_istore_n (lv' := [(2, .int x2_7), (0, .ref (g.2.2.1 0)), (1, .int a1)]) hx hb dX10_part_26 rfl hl (by decide) rfl (fun ls hl => ?_)
    refine lv_aload_n hx hb dX10_part_27 rfl (lv_at hl 1 rfl) ?_
    refine fg_X10_10 (k2 := 1) C hw ic0_0 rfl dX10_part_28 ?_
    refine lv_iload_n hx hb dX10_part_31 rfl (lv_at hl 0 rfl) ?_
    obtain ⟨tv_10, tM_8, c_9, hf⟩ := x_bE hf
    refine x_vI C hw hl.1 [.int x2_7] [] (mX8_hasPerson l g c_9) lk_X10_76 ic0_1 (by decide) rfl (by decide) rfl (Nat.le_of_ble_eq_true rfl) ⟨Nat.zero_le _, Nat.zero_le _⟩ dX10_part_32 (fun v_10 M_8 H locs hN hw => ?_)
    obtain ⟨rfl, rfl⟩ := hN
    refine lv_if_ne (tgt := 41) hx hb dX10_part_35 (by decide) (fun q_11 => ?_) (fun q_11 => ?_)
    · have hf := x_iN hf q_11
      refine lv_aload_n hx hb dX10_part_41 rfl (lv_at hl 1 rfl) ?_
      refine fg_X10_10 (k2 := 1) C hw ic0_0 rfl dX10_part_42 ?_
      refine fg_X10_66 (k2 := 19) C hw ic0_1 rfl dX10_part_45 ?_
      refine lv_iload_n hx hb dX10_part_48 rfl (lv_at hl 2 rfl) ?_
      obtain ⟨q_12, hf⟩ := x_gE hf
      refine x_rld (t := 5) (k2 := (31 + a1.toNatClampNeg)) C hw ic0_19 (by decide) rfl q_12 (rr0_19 _) dX10_part_49 ?_
      refine lv_iconst (v := (-1 : Int32)) hx hb dX10_part_50 (by decide) ?_
      refine fp_X10_92 C hw h_6 dX10_part_51 (fun H locs hw => ?_)
      obtain ⟨M_13, eM_13⟩ : ∃ z, z = (x_up M_8 (31 + a1.toNatClampNeg) 1 (-1 : Int32)) := ⟨_, rfl⟩
      rw [← eM_13] at hw
      have hf := x_lE eM_13 hf
      refine lv_aload_n hx hb dX10_part_54 rfl (lv_at hl 1 rfl) ?_
      refine fg_X10_10 (k2 := 1) C hw ic0_0 rfl dX10_part_55 ?_
      refine fg_X10_66 (k2 := 19) C hw ic0_1 rfl dX10_part_58 ?_
      refine lv_iload_n hx hb dX10_part_61 rfl (lv_at hl 0 rfl) ?_
      obtain ⟨q_14, hf⟩ := x_gE hf
      refine x_rld (t := 5) (k2 := (31 + x2_7.toNatClampNeg)) C hw ic0_19 (by decide) rfl q_14 (rr0_19 _) dX10_part_62 ?_
      have h_15 : x_is 0 (31 + x2_7.toNatClampNeg) 4 := (rr0_19 x2_7.toNatClampNeg) ▸ x_ta ic0_19 (by decide) (x_ilt q_14)
      refine lv_iconst (v := (-1 : Int32)) hx hb dX10_part_63 (by decide) ?_
      refine fp_X10_92 C hw h_15 dX10_part_64 (fun H locs hw => ?_)
      obtain ⟨M_16, eM_16⟩ : ∃ z, z = (x_up M_13 (31 + x2_7.toNatClampNeg) 1 (-1 : Int32)) := ⟨_, rfl⟩
      rw [← eM_16] at hw
      have hf := x_lE eM_16 hf
      refine lv_iload_n hx hb dX10_part_67 rfl (lv_at hl 0 rfl) ?_
      exact ret hf dX10_part_68 hw
    · have hf := x_iP hf q_11
      refine lv_ldc hx hb hown (hB _ mk_X10_91) dX10_part_38 ?_
      exact ret hf dX10_part_40 hw
  · have hf := x_iP hf q_4
    refine lv_ldc hx hb hown (hB _ mk_X10_61) dX10_part_11 ?_
    exact ret hf dX10_part_13 hw
noncomputable def fX10_fact (M : xM) (a1 : Int32) (a2 : Int32) (a3 : Int32) (a4 : Int32) (a5 : Int32) : Option (Int32 × xM) := x_b (fX8_hasPerson M a1) fun v_3 M_1 => if v_3 = 0 then (some ((-1000000001 : Int32), M_1)) else (x_b (fX10_isWithin M_1 a2 (0 : Int32) (3 : Int32)) fun v_7 M_5 => if v_7 = 0 then (some ((-1000000001 : Int32), M_5)) else (x_b (fX10_isWithin M_5 a3 (0 : Int32) (1 : Int32)) fun v_11 M_9 => if v_11 = 0 then (some ((-1000000001 : Int32), M_9)) else (x_l (fun (M_14 : xM) => x_l (fun (M_17 : xM) (z_15 : Int32) => x_b (fX10_isWithin M_17 a4 (0 : Int32) z_15) fun v_20 M_18 => if v_20 = 0 then (some ((-1000000001 : Int32), M_18)) else (x_b (fX10_isWithin M_18 a5 (0 : Int32) (3000 : Int32)) fun v_24 M_22 => if v_24 = 0 then (some ((-1000000001 : Int32), M_22)) else (if (M_22 1 2) < (96 : Int32) then (x_g (M_22 1 2) 96 (x_v (fX1_begin M_22 (43 + (M_22 1 2).toNatClampNeg) a1 a2 a3 a4 a5) fun M_29 => x_l (x_up M_29 (43 + (M_22 1 2).toNatClampNeg) 5 (M_29 1 0)) fun M_31 => x_l (x_up M_31 1 2 ((M_31 1 2) + (1 : Int32))) fun M_32 => some ((M_32 1 2), M_32))) else (some ((-1000000003 : Int32), M_22))))) fun k65_16 => if a2 = (1 : Int32) then (k65_16 M_14 (9 : Int32)) else (k65_16 M_14 (99999 : Int32))) fun k50_13 => if a3 = (1 : Int32) then (if a2 = (1 : Int32) then (some ((-1000000001 : Int32), M_9)) else (if a2 = (3 : Int32) then (some ((-1000000001 : Int32), M_9)) else (k50_13 M_9))) else (k50_13 M_9))))
set_option maxRecDepth 100000 in
set_option maxHeartbeats 4000000 in
theorem mX10_fact (l : Launch) (g : xG) {a1 : Int32} {a2 : Int32} {a3 : Int32} {a4 : Int32} {a5 : Int32} {r : Int32} {M' : xM}  {M : xM} (hf : fX10_fact M a1 a2 a3 a4 a5 = some (r, M')) : x_cI l g 0 yX10_fact cX10_fact 7 .int 2 43 [.ref (g.2.2.1 0), .int a1, .int a2, .int a3, .int a4, .int a5] M (fun v N => v = r ∧ N = M') := by
  refine x_stI RX10 (by decide) rfl (Nat.le_of_ble_eq_true rfl) ?_
  intro p e s m args below meth c Q ls C hw ret hl
  obtain ⟨hx, hb, hml, hown, hB, -⟩ := id C
  have hl : lv_has ls 7 [(0, .ref (g.2.2.1 0)), (1, .int a1), (2, .int a2), (3, .int a3), (4, .int a4), (5, .int a5)] := hl
  unfold fX10_fact at hf
  refine lv_aload_n hx hb dX10_fact_0 rfl (lv_at hl 0 rfl) ?_
  refine fg_X10_10 (k2 := 1) C hw ic0_0 rfl dX10_fact_1 ?_
  refine lv_iload_n hx hb dX10_fact_4 rfl (lv_at hl 1 rfl) ?_
  obtain ⟨tv_3, tM_1, c_2, hf⟩ := x_bE hf
  refine x_vI C hw hl.1 [.int a1] [] (mX8_hasPerson l g c_2) lk_X10_76 ic0_1 (by decide) rfl (by decide) rfl (Nat.le_of_ble_eq_true rfl) ⟨Nat.zero_le _, Nat.zero_le _⟩ dX10_fact_5 (fun v_3 M_1 H locs hN hw => ?_)
  obtain ⟨rfl, rfl⟩ := hN
  refine lv_if_eq (tgt := 29) hx hb dX10_fact_8 (by decide) (fun q_4 => ?_) (fun q_4 => ?_)
  · have hf := x_iP hf q_4
    refine lv_ldc hx hb hown (hB _ mk_X10_61) dX10_fact_29 ?_
    exact ret hf dX10_fact_31 hw
  · have hf := x_iN hf q_4
    refine lv_iload_n hx hb dX10_fact_11 rfl (lv_at hl 2 rfl) ?_
    refine lv_iconst (v := (0 : Int32)) hx hb dX10_fact_12 (by decide) ?_
    refine lv_iconst (v := (3 : Int32)) hx hb dX10_fact_13 (by decide) ?_
    obtain ⟨tv_7, tM_5, c_6, hf⟩ := x_bE hf
    refine x_sI C hw hl.1 [.int a2, .int (0 : Int32), .int (3 : Int32)] [] (mX10_isWithin l g c_6) lk_X10_57 (by decide) rfl (Nat.le_of_ble_eq_true rfl) ⟨Nat.zero_le _, Nat.zero_le _⟩ dX10_fact_14 (fun v_7 M_5 H locs hN hw => ?_)
    obtain ⟨rfl, rfl⟩ := hN
    refine lv_if_eq (tgt := 29) hx hb dX10_fact_17 (by decide) (fun q_8 => ?_) (fun q_8 => ?_)
    · have hf := x_iP hf q_8
      refine lv_ldc hx hb hown (hB _ mk_X10_61) dX10_fact_29 ?_
      exact ret hf dX10_fact_31 hw
    · have hf := x_iN hf q_8
      refine lv_iload_n hx hb dX10_fact_20 rfl (lv_at hl 3 rfl) ?_
      refine lv_iconst (v := (0 : Int32)) hx hb dX10_fact_21 (by decide) ?_
      refine lv_iconst (v := (1 : Int32)) hx hb dX10_fact_22 (by decide) ?_
      obtain ⟨tv_11, tM_9, c_10, hf⟩ := x_bE hf
      refine x_sI C hw hl.1 [.int a3, .int (0 : Int32), .int (1 : Int32)] [] (mX10_isWithin l g c_10) lk_X10_57 (by decide) rfl (Nat.le_of_ble_eq_true rfl) ⟨Nat.zero_le _, Nat.zero_le _⟩ dX10_fact_23 (fun v_11 M_9 H locs hN hw => ?_)
      obtain ⟨rfl, rfl⟩ := hN
      refine lv_if_ne (tgt := 32) hx hb dX10_fact_26 (by decide) (fun q_12 => ?_) (fun q_12 => ?_)
      · have hf := x_iN hf q_12
        refine lv_iload_n hx hb dX10_fact_32 rfl (lv_at hl 3 rfl) ?_
        refine lv_iconst (v := (1 : Int32)) hx hb dX10_fact_33 (by decide) ?_
        obtain ⟨k50_13, ek50_13, hf⟩ := x_jE hf
        have hk50_13 : ∀ (H : Heap) (locs : List Loc) (M_14 : xM)  (ls : Array Slot) , lv_has ls 7 [(0, .ref (g.2.2.1 0)), (1, .int a1), (2, .int a2), (3, .int a3), (4, .int a4), (5, .int a5)] → x_w g 0 s H locs M_14 → k50_13 M_14 = some (r, M') → W p l e (x_rm 2 43) s m args below meth c H locs 0 0 Q (F0 m 50 ls []) := by
          intro H locs M_14  ls  hl hw hf
          rw [ek50_13] at hf
          refine lv_iload hx hb dX10_fact_50 (lv_at hl 4 rfl) ?_
          refine lv_iconst (v := (0 : Int32)) hx hb dX10_fact_52 (by decide) ?_
          refine lv_iload_n hx hb dX10_fact_53 rfl (lv_at hl 2 rfl) ?_
          refine lv_iconst (v := (1 : Int32)) hx hb dX10_fact_54 (by decide) ?_
          obtain ⟨k65_16, ek65_16, hf⟩ := x_jE hf
          have hk65_16 : ∀ (H : Heap) (locs : List Loc) (M_17 : xM) (z_15 : Int32) (ls : Array Slot) , lv_has ls 7 [(0, .ref (g.2.2.1 0)), (1, .int a1), (2, .int a2), (3, .int a3), (4, .int a4), (5, .int a5)] → x_w g 0 s H locs M_17 → k65_16 M_17 z_15 = some (r, M') → W p l e (x_rm 2 43) s m args below meth c H locs 0 0 Q (F0 m 65 ls [.int z_15, .int (0 : Int32), .int a4]) := by
            intro H locs M_17 z_15 ls  hl hw hf
            rw [ek65_16] at hf
            obtain ⟨tv_20, tM_18, c_19, hf⟩ := x_bE hf
            refine x_sI C hw hl.1 [.int a4, .int (0 : Int32), .int z_15] [] (mX10_isWithin l g c_19) lk_X10_57 (by decide) rfl (Nat.le_of_ble_eq_true rfl) ⟨Nat.zero_le _, Nat.zero_le _⟩ dX10_fact_65 (fun v_20 M_18 H locs hN hw => ?_)
            obtain ⟨rfl, rfl⟩ := hN
            refine lv_if_eq (tgt := 83) hx hb dX10_fact_68 (by decide) (fun q_21 => ?_) (fun q_21 => ?_)
            · have hf := x_iP hf q_21
              refine lv_ldc hx hb hown (hB _ mk_X10_61) dX10_fact_83 ?_
              exact ret hf dX10_fact_85 hw
            · have hf := x_iN hf q_21
              refine lv_iload hx hb dX10_fact_71 (lv_at hl 5 rfl) ?_
              refine lv_iconst (v := (0 : Int32)) hx hb dX10_fact_73 (by decide) ?_
              refine lv_sipush (v := (3000 : Int32)) hx hb dX10_fact_74 (by decide) ?_
              obtain ⟨tv_24, tM_22, c_23, hf⟩ := x_bE hf
              refine x_sI C hw hl.1 [.int a5, .int (0 : Int32), .int (3000 : Int32)] [] (mX10_isWithin l g c_23) lk_X10_57 (by decide) rfl (Nat.le_of_ble_eq_true rfl) ⟨Nat.zero_le _, Nat.zero_le _⟩ dX10_fact_77 (fun v_24 M_22 H locs hN hw => ?_)
              obtain ⟨rfl, rfl⟩ := hN
              refine lv_if_ne (tgt := 86) hx hb dX10_fact_80 (by decide) (fun q_25 => ?_) (fun q_25 => ?_)
              · have hf := x_iN hf q_25
                refine lv_aload_n hx hb dX10_fact_86 rfl (lv_at hl 0 rfl) ?_
                refine fg_X10_10 (k2 := 1) C hw ic0_0 rfl dX10_fact_87 ?_
                refine fg_X10_96 C hw ic0_1 dX10_fact_90 ?_
                refine lv_bipush (v := (96 : Int32)) hx hb dX10_fact_93 (by decide) ?_
                refine lv_icmp_lt (tgt := 101) hx hb dX10_fact_95 (by decide) (fun q_26 => ?_) (fun q_26 => ?_)
                · have hf := x_iP hf q_26
                  refine lv_aload_n hx hb dX10_fact_101 rfl (lv_at hl 0 rfl) ?_
                  refine fg_X10_10 (k2 := 1) C hw ic0_0 rfl dX10_fact_102 ?_
                  refine fg_X10_99 (k2 := 20) C hw ic0_1 rfl dX10_fact_105 ?_
                  refine lv_aload_n hx hb dX10_fact_108 rfl (lv_at hl 0 rfl) ?_
                  refine fg_X10_10 (k2 := 1) C hw ic0_0 rfl dX10_fact_109 ?_
                  refine fg_X10_96 C hw ic0_1 dX10_fact_112 ?_
                  obtain ⟨q_27, hf⟩ := x_gE hf
                  refine x_rld (t := 3) (k2 := (43 + (M_22 1 2).toNatClampNeg)) C hw ic0_20 (by decide) rfl q_27 (rr0_20 _) dX10_fact_115 ?_
                  have h_28 : x_is 0 (43 + (M_22 1 2).toNatClampNeg) 1 := (rr0_20 (M_22 1 2).toNatClampNeg) ▸ x_ta ic0_20 (by decide) (x_ilt q_27)
                  refine lv_astore (lv' := [(6, .ref (g.2.2.1 (43 + (M_22 1 2).toNatClampNeg))), (0, .ref (g.2.2.1 0)), (1, .int a1), (2, .int a2), (3, .int a3), (4, .int a4), (5, .int a5)]) hx hb dX10_fact_116 hl (by decide) rfl (fun ls hl => ?_)
                  refine lv_aload hx hb dX10_fact_118 (lv_at hl 0 rfl) ?_
                  refine lv_iload_n hx hb dX10_fact_120 rfl (lv_at hl 2 rfl) ?_
                  refine lv_iload_n hx hb dX10_fact_121 rfl (lv_at hl 3 rfl) ?_
                  refine lv_iload_n hx hb dX10_fact_122 rfl (lv_at hl 4 rfl) ?_
                  refine lv_iload hx hb dX10_fact_123 (lv_at hl 5 rfl) ?_
                  refine lv_iload hx hb dX10_fact_125 (lv_at hl 6 rfl) ?_
                  obtain ⟨tM_29, c_30, hf⟩ := x_vE hf
                  refine x_vV C hw hl.1 [.int a1, .int a2, .int a3, .int a4, .int a5] [] (mX1_begin l g h_28 c_30) lk_X10_103 h_28 (by decide) rfl (by decide) rfl (Nat.le_of_ble_eq_true rfl) ⟨Nat.zero_le _, Nat.zero_le _⟩ dX10_fact_127 (fun M_29 H locs hN hw => ?_)
                  obtain rfl := hN
                  refine lv_aload hx hb dX10_fact_130 (lv_at hl 0 rfl) ?_
                  refine lv_aload_n hx hb dX10_fact_132 rfl (lv_at hl 1 rfl) ?_
                  refine fg_X10_10 (k2 := 1) C hw ic0_0 rfl dX10_fact_133 ?_
                  refine fg_X10_108 C hw ic0_1 dX10_fact_136 ?_
                  refine fp_X10_111 C hw h_28 dX10_fact_139 (fun H locs hw => ?_)
                  obtain ⟨M_31, eM_31⟩ : ∃ z, z = (x_up M_29 (43 + (M_22 1 2).toNatClampNeg) 5 (M_29 1 0)) := ⟨_, rfl⟩
                  rw [← eM_31] at hw
                  have hf := x_lE eM_31 hf
                  refine lv_aload_n hx hb dX10_fact_142 rfl (lv_at hl 1 rfl) ?_
                  refine fg_X10_10 (k2 := 1) C hw ic0_0 rfl dX10_fact_143 ?_
                  refine lv_dup hx hb dX10_fact_146 rfl ?_
                  refine fg_X10_96 C hw ic0_1 dX10_fact_147 ?_
                  refine lv_iconst (v := (1 : Int32)) hx hb dX10_fact_150 (by decide) ?_
                  refine lv_iadd hx hb dX10_fact_151 ?_
                  refine fp_X10_96 C hw ic0_1 dX10_fact_152 (fun H locs hw => ?_)
                  obtain ⟨M_32, eM_32⟩ : ∃ z, z = (x_up M_31 1 2 ((M_31 1 2) + (1 : Int32))) := ⟨_, rfl⟩
                  rw [← eM_32] at hw
                  have hf := x_lE eM_32 hf
                  refine lv_aload_n hx hb dX10_fact_155 rfl (lv_at hl 1 rfl) ?_
                  refine fg_X10_10 (k2 := 1) C hw ic0_0 rfl dX10_fact_156 ?_
                  refine fg_X10_96 C hw ic0_1 dX10_fact_159 ?_
                  exact ret hf dX10_fact_162 hw
                · have hf := x_iN hf q_26
                  refine lv_ldc hx hb hown (hB _ mk_X10_65) dX10_fact_98 ?_
                  exact ret hf dX10_fact_100 hw
              · have hf := x_iP hf q_25
                refine lv_ldc hx hb hown (hB _ mk_X10_61) dX10_fact_83 ?_
                exact ret hf dX10_fact_85 hw
          refine lv_icmp_ne (tgt := 63) hx hb dX10_fact_55 (by decide) (fun q_33 => ?_) (fun q_33 => ?_)
          · have hf := x_iN hf q_33
            refine lv_ldc hx hb hown (hB _ mk_X10_95) dX10_fact_63 ?_
            exact hk65_16 _ _ _ _ _ (lv_sub hl [0, 1, 2, 3, 4, 5] rfl) hw hf
          · have hf := x_iP hf q_33
            refine lv_bipush (v := (9 : Int32)) hx hb dX10_fact_58 (by decide) ?_
            refine lv_goto (tgt := 65) hx hb dX10_fact_60 (by decide) ?_
            exact hk65_16 _ _ _ _ _ (lv_sub hl [0, 1, 2, 3, 4, 5] rfl) hw hf
        refine lv_icmp_ne (tgt := 50) hx hb dX10_fact_34 (by decide) (fun q_34 => ?_) (fun q_34 => ?_)
        · have hf := x_iN hf q_34
          exact hk50_13 _ _ _ _ (lv_sub hl [0, 1, 2, 3, 4, 5] rfl) hw hf
        · have hf := x_iP hf q_34
          refine lv_iload_n hx hb dX10_fact_37 rfl (lv_at hl 2 rfl) ?_
          refine lv_iconst (v := (1 : Int32)) hx hb dX10_fact_38 (by decide) ?_
          refine lv_icmp_eq (tgt := 47) hx hb dX10_fact_39 (by decide) (fun q_35 => ?_) (fun q_35 => ?_)
          · have hf := x_iP hf q_35
            refine lv_ldc hx hb hown (hB _ mk_X10_61) dX10_fact_47 ?_
            exact ret hf dX10_fact_49 hw
          · have hf := x_iN hf q_35
            refine lv_iload_n hx hb dX10_fact_42 rfl (lv_at hl 2 rfl) ?_
            refine lv_iconst (v := (3 : Int32)) hx hb dX10_fact_43 (by decide) ?_
            refine lv_icmp_ne (tgt := 50) hx hb dX10_fact_44 (by decide) (fun q_36 => ?_) (fun q_36 => ?_)
            · have hf := x_iN hf q_36
              exact hk50_13 _ _ _ _ (lv_sub hl [0, 1, 2, 3, 4, 5] rfl) hw hf
            · have hf := x_iP hf q_36
              refine lv_ldc hx hb hown (hB _ mk_X10_61) dX10_fact_47 ?_
              exact ret hf dX10_fact_49 hw
      · have hf := x_iP hf q_12
        refine lv_ldc hx hb hown (hB _ mk_X10_61) dX10_fact_29 ?_
        exact ret hf dX10_fact_31 hw
noncomputable def fX10_known (M : xM) (a1 : Int32) (a2 : Int32) (a3 : Int32) (a4 : Int32) : Option (Int32 × xM) := x_b (fX8_hasPerson M a1) fun v_3 M_1 => if v_3 = 0 then (some ((-1000000001 : Int32), M_1)) else (x_b (fX10_isWithin M_1 a2 (0 : Int32) (4 : Int32)) fun v_7 M_5 => if v_7 = 0 then (some ((-1000000001 : Int32), M_5)) else (x_b (fX10_isWithin M_5 a3 (0 : Int32) (3000 : Int32)) fun v_11 M_9 => if v_11 = 0 then (some ((-1000000001 : Int32), M_9)) else (x_b (fX10_isWithin M_9 a4 (0 : Int32) (M_9 1 0)) fun v_15 M_13 => if v_15 = 0 then (some ((-1000000001 : Int32), M_13)) else (if a2 = (4 : Int32) then (x_b (fX8_earnings M_13 a1 a3 a4) fun v_23 M_21 => some (v_23, M_21)) else (x_b (fX8_valueOf M_13 a1 a2 a3 a4) fun v_20 M_18 => some (v_20, M_18))))))
set_option maxRecDepth 100000 in
set_option maxHeartbeats 4000000 in
theorem mX10_known (l : Launch) (g : xG) {a1 : Int32} {a2 : Int32} {a3 : Int32} {a4 : Int32} {r : Int32} {M' : xM}  {M : xM} (hf : fX10_known M a1 a2 a3 a4 = some (r, M')) : x_cI l g 0 yX10_known cX10_known 5 .int 4 99 [.ref (g.2.2.1 0), .int a1, .int a2, .int a3, .int a4] M (fun v N => v = r ∧ N = M') := by
  refine x_stI RX10 (by decide) rfl (Nat.le_of_ble_eq_true rfl) ?_
  intro p e s m args below meth c Q ls C hw ret hl
  obtain ⟨hx, hb, hml, hown, hB, -⟩ := id C
  have hl : lv_has ls 5 [(0, .ref (g.2.2.1 0)), (1, .int a1), (2, .int a2), (3, .int a3), (4, .int a4)] := hl
  unfold fX10_known at hf
  refine lv_aload_n hx hb dX10_known_0 rfl (lv_at hl 0 rfl) ?_
  refine fg_X10_10 (k2 := 1) C hw ic0_0 rfl dX10_known_1 ?_
  refine lv_iload_n hx hb dX10_known_4 rfl (lv_at hl 1 rfl) ?_
  obtain ⟨tv_3, tM_1, c_2, hf⟩ := x_bE hf
  refine x_vI C hw hl.1 [.int a1] [] (mX8_hasPerson l g c_2) lk_X10_76 ic0_1 (by decide) rfl (by decide) rfl (Nat.le_of_ble_eq_true rfl) ⟨Nat.zero_le _, Nat.zero_le _⟩ dX10_known_5 (fun v_3 M_1 H locs hN hw => ?_)
  obtain ⟨rfl, rfl⟩ := hN
  refine lv_if_eq (tgt := 20) hx hb dX10_known_8 (by decide) (fun q_4 => ?_) (fun q_4 => ?_)
  · have hf := x_iP hf q_4
    refine lv_ldc hx hb hown (hB _ mk_X10_61) dX10_known_20 ?_
    exact ret hf dX10_known_22 hw
  · have hf := x_iN hf q_4
    refine lv_iload_n hx hb dX10_known_11 rfl (lv_at hl 2 rfl) ?_
    refine lv_iconst (v := (0 : Int32)) hx hb dX10_known_12 (by decide) ?_
    refine lv_iconst (v := (4 : Int32)) hx hb dX10_known_13 (by decide) ?_
    obtain ⟨tv_7, tM_5, c_6, hf⟩ := x_bE hf
    refine x_sI C hw hl.1 [.int a2, .int (0 : Int32), .int (4 : Int32)] [] (mX10_isWithin l g c_6) lk_X10_57 (by decide) rfl (Nat.le_of_ble_eq_true rfl) ⟨Nat.zero_le _, Nat.zero_le _⟩ dX10_known_14 (fun v_7 M_5 H locs hN hw => ?_)
    obtain ⟨rfl, rfl⟩ := hN
    refine lv_if_ne (tgt := 23) hx hb dX10_known_17 (by decide) (fun q_8 => ?_) (fun q_8 => ?_)
    · have hf := x_iN hf q_8
      refine lv_iload_n hx hb dX10_known_23 rfl (lv_at hl 3 rfl) ?_
      refine lv_iconst (v := (0 : Int32)) hx hb dX10_known_24 (by decide) ?_
      refine lv_sipush (v := (3000 : Int32)) hx hb dX10_known_25 (by decide) ?_
      obtain ⟨tv_11, tM_9, c_10, hf⟩ := x_bE hf
      refine x_sI C hw hl.1 [.int a3, .int (0 : Int32), .int (3000 : Int32)] [] (mX10_isWithin l g c_10) lk_X10_57 (by decide) rfl (Nat.le_of_ble_eq_true rfl) ⟨Nat.zero_le _, Nat.zero_le _⟩ dX10_known_28 (fun v_11 M_9 H locs hN hw => ?_)
      obtain ⟨rfl, rfl⟩ := hN
      refine lv_if_eq (tgt := 50) hx hb dX10_known_31 (by decide) (fun q_12 => ?_) (fun q_12 => ?_)
      · have hf := x_iP hf q_12
        refine lv_ldc hx hb hown (hB _ mk_X10_61) dX10_known_50 ?_
        exact ret hf dX10_known_52 hw
      · have hf := x_iN hf q_12
        refine lv_iload hx hb dX10_known_34 (lv_at hl 4 rfl) ?_
        refine lv_iconst (v := (0 : Int32)) hx hb dX10_known_36 (by decide) ?_
        refine lv_aload_n hx hb dX10_known_37 rfl (lv_at hl 0 rfl) ?_
        refine fg_X10_10 (k2 := 1) C hw ic0_0 rfl dX10_known_38 ?_
        refine fg_X10_108 C hw ic0_1 dX10_known_41 ?_
        obtain ⟨tv_15, tM_13, c_14, hf⟩ := x_bE hf
        refine x_sI C hw hl.1 [.int a4, .int (0 : Int32), .int (M_9 1 0)] [] (mX10_isWithin l g c_14) lk_X10_57 (by decide) rfl (Nat.le_of_ble_eq_true rfl) ⟨Nat.zero_le _, Nat.zero_le _⟩ dX10_known_44 (fun v_15 M_13 H locs hN hw => ?_)
        obtain ⟨rfl, rfl⟩ := hN
        refine lv_if_ne (tgt := 53) hx hb dX10_known_47 (by decide) (fun q_16 => ?_) (fun q_16 => ?_)
        · have hf := x_iN hf q_16
          refine lv_iload_n hx hb dX10_known_53 rfl (lv_at hl 2 rfl) ?_
          refine lv_iconst (v := (4 : Int32)) hx hb dX10_known_54 (by decide) ?_
          refine lv_icmp_ne (tgt := 72) hx hb dX10_known_55 (by decide) (fun q_17 => ?_) (fun q_17 => ?_)
          · have hf := x_iN hf q_17
            refine lv_aload_n hx hb dX10_known_72 rfl (lv_at hl 0 rfl) ?_
            refine fg_X10_10 (k2 := 1) C hw ic0_0 rfl dX10_known_73 ?_
            refine lv_iload_n hx hb dX10_known_76 rfl (lv_at hl 1 rfl) ?_
            refine lv_iload_n hx hb dX10_known_77 rfl (lv_at hl 2 rfl) ?_
            refine lv_iload_n hx hb dX10_known_78 rfl (lv_at hl 3 rfl) ?_
            refine lv_iload hx hb dX10_known_79 (lv_at hl 4 rfl) ?_
            obtain ⟨tv_20, tM_18, c_19, hf⟩ := x_bE hf
            refine x_vI C hw hl.1 [.int a1, .int a2, .int a3, .int a4] [] (mX8_valueOf l g c_19) lk_X10_118 ic0_1 (by decide) rfl (by decide) rfl (Nat.le_of_ble_eq_true rfl) ⟨Nat.zero_le _, Nat.zero_le _⟩ dX10_known_81 (fun v_20 M_18 H locs hN hw => ?_)
            obtain ⟨rfl, rfl⟩ := hN
            exact ret hf dX10_known_84 hw
          · have hf := x_iP hf q_17
            refine lv_aload_n hx hb dX10_known_58 rfl (lv_at hl 0 rfl) ?_
            refine fg_X10_10 (k2 := 1) C hw ic0_0 rfl dX10_known_59 ?_
            refine lv_iload_n hx hb dX10_known_62 rfl (lv_at hl 1 rfl) ?_
            refine lv_iload_n hx hb dX10_known_63 rfl (lv_at hl 3 rfl) ?_
            refine lv_iload hx hb dX10_known_64 (lv_at hl 4 rfl) ?_
            obtain ⟨tv_23, tM_21, c_22, hf⟩ := x_bE hf
            refine x_vI C hw hl.1 [.int a1, .int a3, .int a4] [] (mX8_earnings l g c_22) lk_X10_114 ic0_1 (by decide) rfl (by decide) rfl (Nat.le_of_ble_eq_true rfl) ⟨Nat.zero_le _, Nat.zero_le _⟩ dX10_known_66 (fun v_23 M_21 H locs hN hw => ?_)
            obtain ⟨rfl, rfl⟩ := hN
            refine lv_goto (tgt := 84) hx hb dX10_known_69 (by decide) ?_
            exact ret hf dX10_known_84 hw
        · have hf := x_iP hf q_16
          refine lv_ldc hx hb hown (hB _ mk_X10_61) dX10_known_50 ?_
          exact ret hf dX10_known_52 hw
    · have hf := x_iP hf q_8
      refine lv_ldc hx hb hown (hB _ mk_X10_61) dX10_known_20 ?_
      exact ret hf dX10_known_22 hw
noncomputable def fX10_custody (M : xM) (a1 : Int32) (a2 : Int32) : Option (Int32 × xM) := x_b (fX8_hasPerson M a1) fun v_3 M_1 => if v_3 = 0 then (some ((-1000000001 : Int32), M_1)) else (x_b (fX10_isWithin M_1 a2 (1 : Int32) (999 : Int32)) fun v_7 M_5 => if v_7 = 0 then (some ((-1000000001 : Int32), M_5)) else (x_g a1 12 (if ((M_5 (31 + a1.toNatClampNeg) 2) + a2) ≤ (9999 : Int32) then (x_l (x_up M_5 (31 + a1.toNatClampNeg) 2 ((M_5 (31 + a1.toNatClampNeg) 2) + a2)) fun M_12 => some ((M_12 (31 + a1.toNatClampNeg) 2), M_12)) else (some ((-1000000003 : Int32), M_5)))))
set_option maxRecDepth 100000 in
set_option maxHeartbeats 4000000 in
theorem mX10_custody (l : Launch) (g : xG) {a1 : Int32} {a2 : Int32} {r : Int32} {M' : xM}  {M : xM} (hf : fX10_custody M a1 a2 = some (r, M')) : x_cI l g 0 yX10_custody cX10_custody 4 .int 2 43 [.ref (g.2.2.1 0), .int a1, .int a2] M (fun v N => v = r ∧ N = M') := by
  refine x_stI RX10 (by decide) rfl (Nat.le_of_ble_eq_true rfl) ?_
  intro p e s m args below meth c Q ls C hw ret hl
  obtain ⟨hx, hb, hml, hown, hB, -⟩ := id C
  have hl : lv_has ls 4 [(0, .ref (g.2.2.1 0)), (1, .int a1), (2, .int a2)] := hl
  unfold fX10_custody at hf
  refine lv_aload_n hx hb dX10_custody_0 rfl (lv_at hl 0 rfl) ?_
  refine fg_X10_10 (k2 := 1) C hw ic0_0 rfl dX10_custody_1 ?_
  refine lv_iload_n hx hb dX10_custody_4 rfl (lv_at hl 1 rfl) ?_
  obtain ⟨tv_3, tM_1, c_2, hf⟩ := x_bE hf
  refine x_vI C hw hl.1 [.int a1] [] (mX8_hasPerson l g c_2) lk_X10_76 ic0_1 (by decide) rfl (by decide) rfl (Nat.le_of_ble_eq_true rfl) ⟨Nat.zero_le _, Nat.zero_le _⟩ dX10_custody_5 (fun v_3 M_1 H locs hN hw => ?_)
  obtain ⟨rfl, rfl⟩ := hN
  refine lv_if_eq (tgt := 22) hx hb dX10_custody_8 (by decide) (fun q_4 => ?_) (fun q_4 => ?_)
  · have hf := x_iP hf q_4
    refine lv_ldc hx hb hown (hB _ mk_X10_61) dX10_custody_22 ?_
    exact ret hf dX10_custody_24 hw
  · have hf := x_iN hf q_4
    refine lv_iload_n hx hb dX10_custody_11 rfl (lv_at hl 2 rfl) ?_
    refine lv_iconst (v := (1 : Int32)) hx hb dX10_custody_12 (by decide) ?_
    refine lv_sipush (v := (999 : Int32)) hx hb dX10_custody_13 (by decide) ?_
    obtain ⟨tv_7, tM_5, c_6, hf⟩ := x_bE hf
    refine x_sI C hw hl.1 [.int a2, .int (1 : Int32), .int (999 : Int32)] [] (mX10_isWithin l g c_6) lk_X10_57 (by decide) rfl (Nat.le_of_ble_eq_true rfl) ⟨Nat.zero_le _, Nat.zero_le _⟩ dX10_custody_16 (fun v_7 M_5 H locs hN hw => ?_)
    obtain ⟨rfl, rfl⟩ := hN
    refine lv_if_ne (tgt := 25) hx hb dX10_custody_19 (by decide) (fun q_8 => ?_) (fun q_8 => ?_)
    · have hf := x_iN hf q_8
      refine lv_aload_n hx hb dX10_custody_25 rfl (lv_at hl 0 rfl) ?_
      refine fg_X10_10 (k2 := 1) C hw ic0_0 rfl dX10_custody_26 ?_
      refine fg_X10_66 (k2 := 19) C hw ic0_1 rfl dX10_custody_29 ?_
      refine lv_iload_n hx hb dX10_custody_32 rfl (lv_at hl 1 rfl) ?_
      obtain ⟨q_9, hf⟩ := x_gE hf
      refine x_rld (t := 5) (k2 := (31 + a1.toNatClampNeg)) C hw ic0_19 (by decide) rfl q_9 (rr0_19 _) dX10_custody_33 ?_
      have h_10 : x_is 0 (31 + a1.toNatClampNeg) 4 := (rr0_19 a1.toNatClampNeg) ▸ x_ta ic0_19 (by decide) (x_ilt q_9)
      refine lv_astore_n (lv' := [(3, .ref (g.2.2.1 (31 + a1.toNatClampNeg))), (0, .ref (g.2.2.1 0)), (1, .int a1), (2, .int a2)]) hx hb dX10_custody_34 rfl hl (by decide) rfl (fun ls hl => ?_)
      refine lv_aload_n hx hb dX10_custody_35 rfl (lv_at hl 0 rfl) ?_
      refine fg_X10_122 C hw h_10 dX10_custody_36 ?_
      refine lv_iload_n hx hb dX10_custody_39 rfl (lv_at hl 3 rfl) ?_
      refine lv_iadd hx hb dX10_custody_40 ?_
      refine lv_sipush (v := (9999 : Int32)) hx hb dX10_custody_41 (by decide) ?_
      refine lv_icmp_le (tgt := 50) hx hb dX10_custody_44 (by decide) (fun q_11 => ?_) (fun q_11 => ?_)
      · have hf := x_iP hf q_11
        refine lv_aload_n hx hb dX10_custody_50 rfl (lv_at hl 0 rfl) ?_
        refine lv_dup hx hb dX10_custody_51 rfl ?_
        refine fg_X10_122 C hw h_10 dX10_custody_52 ?_
        refine lv_iload_n hx hb dX10_custody_55 rfl (lv_at hl 3 rfl) ?_
        refine lv_iadd hx hb dX10_custody_56 ?_
        refine fp_X10_122 C hw h_10 dX10_custody_57 (fun H locs hw => ?_)
        obtain ⟨M_12, eM_12⟩ : ∃ z, z = (x_up M_5 (31 + a1.toNatClampNeg) 2 ((M_5 (31 + a1.toNatClampNeg) 2) + a2)) := ⟨_, rfl⟩
        rw [← eM_12] at hw
        have hf := x_lE eM_12 hf
        refine lv_aload_n hx hb dX10_custody_60 rfl (lv_at hl 0 rfl) ?_
        refine fg_X10_122 C hw h_10 dX10_custody_61 ?_
        exact ret hf dX10_custody_64 hw
      · have hf := x_iN hf q_11
        refine lv_ldc hx hb hown (hB _ mk_X10_65) dX10_custody_47 ?_
        exact ret hf dX10_custody_49 hw
    · have hf := x_iP hf q_8
      refine lv_ldc hx hb hown (hB _ mk_X10_61) dX10_custody_22 ?_
      exact ret hf dX10_custody_24 hw
noncomputable def fX10_days (M : xM) (a1 : Int32) : Option (Int32 × xM) := x_b (fX10_isWithin M a1 (1 : Int32) (100 : Int32)) fun v_3 M_1 => if v_3 = 0 then (some ((-1000000001 : Int32), M_1)) else (if ((M_1 1 0) + a1) ≤ (3000 : Int32) then (x_l (x_up M_1 1 0 ((M_1 1 0) + a1)) fun M_6 => some ((M_6 1 0), M_6)) else (some ((-1000000001 : Int32), M_1)))
set_option maxRecDepth 100000 in
set_option maxHeartbeats 4000000 in
theorem mX10_days (l : Launch) (g : xG) {a1 : Int32} {r : Int32} {M' : xM}  {M : xM} (hf : fX10_days M a1 = some (r, M')) : x_cI l g 0 yX10_days cX10_days 2 .int 1 22 [.ref (g.2.2.1 0), .int a1] M (fun v N => v = r ∧ N = M') := by
  refine x_stI RX10 (by decide) rfl (Nat.le_of_ble_eq_true rfl) ?_
  intro p e s m args below meth c Q ls C hw ret hl
  obtain ⟨hx, hb, hml, hown, hB, -⟩ := id C
  have hl : lv_has ls 2 [(0, .ref (g.2.2.1 0)), (1, .int a1)] := hl
  unfold fX10_days at hf
  refine lv_iload_n hx hb dX10_days_0 rfl (lv_at hl 1 rfl) ?_
  refine lv_iconst (v := (1 : Int32)) hx hb dX10_days_1 (by decide) ?_
  refine lv_bipush (v := (100 : Int32)) hx hb dX10_days_2 (by decide) ?_
  obtain ⟨tv_3, tM_1, c_2, hf⟩ := x_bE hf
  refine x_sI C hw hl.1 [.int a1, .int (1 : Int32), .int (100 : Int32)] [] (mX10_isWithin l g c_2) lk_X10_57 (by decide) rfl (Nat.le_of_ble_eq_true rfl) ⟨Nat.zero_le _, Nat.zero_le _⟩ dX10_days_4 (fun v_3 M_1 H locs hN hw => ?_)
  obtain ⟨rfl, rfl⟩ := hN
  refine lv_if_eq (tgt := 25) hx hb dX10_days_7 (by decide) (fun q_4 => ?_) (fun q_4 => ?_)
  · have hf := x_iP hf q_4
    refine lv_ldc hx hb hown (hB _ mk_X10_61) dX10_days_25 ?_
    exact ret hf dX10_days_27 hw
  · have hf := x_iN hf q_4
    refine lv_aload_n hx hb dX10_days_10 rfl (lv_at hl 0 rfl) ?_
    refine fg_X10_10 (k2 := 1) C hw ic0_0 rfl dX10_days_11 ?_
    refine fg_X10_108 C hw ic0_1 dX10_days_14 ?_
    refine lv_iload_n hx hb dX10_days_17 rfl (lv_at hl 1 rfl) ?_
    refine lv_iadd hx hb dX10_days_18 ?_
    refine lv_sipush (v := (3000 : Int32)) hx hb dX10_days_19 (by decide) ?_
    refine lv_icmp_le (tgt := 28) hx hb dX10_days_22 (by decide) (fun q_5 => ?_) (fun q_5 => ?_)
    · have hf := x_iP hf q_5
      refine lv_aload_n hx hb dX10_days_28 rfl (lv_at hl 0 rfl) ?_
      refine fg_X10_10 (k2 := 1) C hw ic0_0 rfl dX10_days_29 ?_
      refine lv_dup hx hb dX10_days_32 rfl ?_
      refine fg_X10_108 C hw ic0_1 dX10_days_33 ?_
      refine lv_iload_n hx hb dX10_days_36 rfl (lv_at hl 1 rfl) ?_
      refine lv_iadd hx hb dX10_days_37 ?_
      refine fp_X10_108 C hw ic0_1 dX10_days_38 (fun H locs hw => ?_)
      obtain ⟨M_6, eM_6⟩ : ∃ z, z = (x_up M_1 1 0 ((M_1 1 0) + a1)) := ⟨_, rfl⟩
      rw [← eM_6] at hw
      have hf := x_lE eM_6 hf
      refine lv_aload_n hx hb dX10_days_41 rfl (lv_at hl 0 rfl) ?_
      refine fg_X10_10 (k2 := 1) C hw ic0_0 rfl dX10_days_42 ?_
      refine fg_X10_108 C hw ic0_1 dX10_days_45 ?_
      exact ret hf dX10_days_48 hw
    · have hf := x_iN hf q_5
      refine lv_ldc hx hb hown (hB _ mk_X10_61) dX10_days_25 ?_
      exact ret hf dX10_days_27 hw
noncomputable def fX10_rule (M : xM) (a1 : Int32) (a2 : Int32) : Option (Int32 × xM) := x_b (fX10_isWithin M a1 (0 : Int32) (15 : Int32)) fun v_3 M_1 => if v_3 = 0 then (some ((-1000000001 : Int32), M_1)) else (x_g a1 16 (x_b (fX10_isWithin M_1 a2 (0 : Int32) (x_most a1.toNatClampNeg)) fun v_8 M_6 => if v_8 = 0 then (some ((-1000000001 : Int32), M_6)) else (x_g a1 16 (x_l (M_6 23 a1.toNatClampNeg) fun x3_11 => x_g a1 16 (x_l (x_up M_6 23 a1.toNatClampNeg a2) fun M_13 => some (x3_11, M_13))))))
set_option maxRecDepth 100000 in
set_option maxHeartbeats 4000000 in
theorem mX10_rule (l : Launch) (g : xG) {a1 : Int32} {a2 : Int32} {r : Int32} {M' : xM}  {M : xM} (hf : fX10_rule M a1 a2 = some (r, M')) : x_cI l g 0 yX10_rule cX10_rule 4 .int 1 22 [.ref (g.2.2.1 0), .int a1, .int a2] M (fun v N => v = r ∧ N = M') := by
  refine x_stI RX10 (by decide) rfl (Nat.le_of_ble_eq_true rfl) ?_
  intro p e s m args below meth c Q ls C hw ret hl
  obtain ⟨hx, hb, hml, hown, hB, -⟩ := id C
  have hl : lv_has ls 4 [(0, .ref (g.2.2.1 0)), (1, .int a1), (2, .int a2)] := hl
  unfold fX10_rule at hf
  refine lv_iload_n hx hb dX10_rule_0 rfl (lv_at hl 1 rfl) ?_
  refine lv_iconst (v := (0 : Int32)) hx hb dX10_rule_1 (by decide) ?_
  refine lv_bipush (v := (15 : Int32)) hx hb dX10_rule_2 (by decide) ?_
  obtain ⟨tv_3, tM_1, c_2, hf⟩ := x_bE hf
  refine x_sI C hw hl.1 [.int a1, .int (0 : Int32), .int (15 : Int32)] [] (mX10_isWithin l g c_2) lk_X10_57 (by decide) rfl (Nat.le_of_ble_eq_true rfl) ⟨Nat.zero_le _, Nat.zero_le _⟩ dX10_rule_4 (fun v_3 M_1 H locs hN hw => ?_)
  obtain ⟨rfl, rfl⟩ := hN
  refine lv_if_eq (tgt := 23) hx hb dX10_rule_7 (by decide) (fun q_4 => ?_) (fun q_4 => ?_)
  · have hf := x_iP hf q_4
    refine lv_ldc hx hb hown (hB _ mk_X10_61) dX10_rule_23 ?_
    exact ret hf dX10_rule_25 hw
  · have hf := x_iN hf q_4
    refine lv_iload_n hx hb dX10_rule_10 rfl (lv_at hl 2 rfl) ?_
    refine lv_iconst (v := (0 : Int32)) hx hb dX10_rule_11 (by decide) ?_
    refine x_most_get C hw dX10_rule_12 ?_
    refine lv_iload_n hx hb dX10_rule_15 rfl (lv_at hl 1 rfl) ?_
    obtain ⟨q_5, hf⟩ := x_gE hf
    refine x_most_ld C hw q_5 dX10_rule_16 ?_
    obtain ⟨tv_8, tM_6, c_7, hf⟩ := x_bE hf
    refine x_sI C hw hl.1 [.int a2, .int (0 : Int32), .int (x_most a1.toNatClampNeg)] [] (mX10_isWithin l g c_7) lk_X10_57 (by decide) rfl (Nat.le_of_ble_eq_true rfl) ⟨Nat.zero_le _, Nat.zero_le _⟩ dX10_rule_17 (fun v_8 M_6 H locs hN hw => ?_)
    obtain ⟨rfl, rfl⟩ := hN
    refine lv_if_ne (tgt := 26) hx hb dX10_rule_20 (by decide) (fun q_9 => ?_) (fun q_9 => ?_)
    · have hf := x_iN hf q_9
      refine lv_aload_n hx hb dX10_rule_26 rfl (lv_at hl 0 rfl) ?_
      refine fg_X10_10 (k2 := 1) C hw ic0_0 rfl dX10_rule_27 ?_
      refine fg_X10_128 (k2 := 23) C hw ic0_1 rfl dX10_rule_30 ?_
      refine lv_iload_n hx hb dX10_rule_33 rfl (lv_at hl 1 rfl) ?_
      obtain ⟨q_10, hf⟩ := x_gE hf
      refine x_ald C hw ic0_23 q_10 rfl dX10_rule_34 ?_
      refine lv_topi (fun x3_11 ex3_11 => ?_)
      have hf := x_lE ex3_11 hf
      refine lv_istore_n (lv' := [(3, .int x3_11), (0, .ref (g.2.2.1 0)), (1, .int a1), (2, .int a2)]) hx hb dX10_rule_35 rfl hl (by decide) rfl (fun ls hl => ?_)
      refine lv_aload_n hx hb dX10_rule_36 rfl (lv_at hl 1 rfl) ?_
      refine fg_X10_10 (k2 := 1) C hw ic0_0 rfl dX10_rule_37 ?_
      refine fg_X10_128 (k2 := 23) C hw ic0_1 rfl dX10_rule_40 ?_
      refine lv_iload_n hx hb dX10_rule_43 rfl (lv_at hl 2 rfl) ?_
      refine lv_iload_n hx hb dX10_rule_44 rfl (lv_at hl 3 rfl) ?_
      obtain ⟨q_12, hf⟩ := x_gE hf
      refine x_ast C hw ic0_23 q_12 rfl dX10_rule_45 (fun H locs hw => ?_)
      obtain ⟨M_13, eM_13⟩ : ∃ z, z = (x_up M_6 23 a1.toNatClampNeg a2) := ⟨_, rfl⟩
      rw [← eM_13] at hw
      have hf := x_lE eM_13 hf
      refine lv_iload_n hx hb dX10_rule_46 rfl (lv_at hl 0 rfl) ?_
      exact ret hf dX10_rule_47 hw
    · have hf := x_iP hf q_9
      refine lv_ldc hx hb hown (hB _ mk_X10_61) dX10_rule_23 ?_
      exact ret hf dX10_rule_25 hw
noncomputable def fX10_deed (M : xM) (a1 : Int32) (a2 : Int32) (a3 : Int32) (a4 : Int32) : Option (Int32 × xM) := x_b (fX10_isWithin M a1 (0 : Int32) (3 : Int32)) fun v_3 M_1 => if v_3 = 0 then (some ((-1000000001 : Int32), M_1)) else (x_b (fX8_hasPerson M_1 a2) fun v_7 M_5 => if v_7 = 0 then (some ((-1000000001 : Int32), M_5)) else (x_b (fX10_isWithin M_5 a3 (0 : Int32) (M_5 1 0)) fun v_11 M_9 => if v_11 = 0 then (some ((-1000000001 : Int32), M_9)) else (x_b (fX10_isWithin M_9 a4 (1 : Int32) (100 : Int32)) fun v_15 M_13 => if v_15 = 0 then (some ((-1000000001 : Int32), M_13)) else (if (M_13 1 3) < (30 : Int32) then (x_g (M_13 1 3) 30 (x_v (fX0_begin M_13 (139 + (M_13 1 3).toNatClampNeg) a1 a2 a3 a4) fun M_20 => x_l (x_up M_20 1 3 ((M_20 1 3) + (1 : Int32))) fun M_22 => some (((M_22 1 3) - (1 : Int32)), M_22))) else (some ((-1000000003 : Int32), M_13))))))
set_option maxRecDepth 100000 in
set_option maxHeartbeats 4000000 in
theorem mX10_deed (l : Launch) (g : xG) {a1 : Int32} {a2 : Int32} {a3 : Int32} {a4 : Int32} {r : Int32} {M' : xM}  {M : xM} (hf : fX10_deed M a1 a2 a3 a4 = some (r, M')) : x_cI l g 0 yX10_deed cX10_deed 5 .int 2 43 [.ref (g.2.2.1 0), .int a1, .int a2, .int a3, .int a4] M (fun v N => v = r ∧ N = M') := by
  refine x_stI RX10 (by decide) rfl (Nat.le_of_ble_eq_true rfl) ?_
  intro p e s m args below meth c Q ls C hw ret hl
  obtain ⟨hx, hb, hml, hown, hB, -⟩ := id C
  have hl : lv_has ls 5 [(0, .ref (g.2.2.1 0)), (1, .int a1), (2, .int a2), (3, .int a3), (4, .int a4)] := hl
  unfold fX10_deed at hf
  refine lv_iload_n hx hb dX10_deed_0 rfl (lv_at hl 1 rfl) ?_
  refine lv_iconst (v := (0 : Int32)) hx hb dX10_deed_1 (by decide) ?_
  refine lv_iconst (v := (3 : Int32)) hx hb dX10_deed_2 (by decide) ?_
  obtain ⟨tv_3, tM_1, c_2, hf⟩ := x_bE hf
  refine x_sI C hw hl.1 [.int a1, .int (0 : Int32), .int (3 : Int32)] [] (mX10_isWithin l g c_2) lk_X10_57 (by decide) rfl (Nat.le_of_ble_eq_true rfl) ⟨Nat.zero_le _, Nat.zero_le _⟩ dX10_deed_3 (fun v_3 M_1 H locs hN hw => ?_)
  obtain ⟨rfl, rfl⟩ := hN
  refine lv_if_eq (tgt := 20) hx hb dX10_deed_6 (by decide) (fun q_4 => ?_) (fun q_4 => ?_)
  · have hf := x_iP hf q_4
    refine lv_ldc hx hb hown (hB _ mk_X10_61) dX10_deed_20 ?_
    exact ret hf dX10_deed_22 hw
  · have hf := x_iN hf q_4
    refine lv_aload_n hx hb dX10_deed_9 rfl (lv_at hl 0 rfl) ?_
    refine fg_X10_10 (k2 := 1) C hw ic0_0 rfl dX10_deed_10 ?_
    refine lv_iload_n hx hb dX10_deed_13 rfl (lv_at hl 2 rfl) ?_
    obtain ⟨tv_7, tM_5, c_6, hf⟩ := x_bE hf
    refine x_vI C hw hl.1 [.int a2] [] (mX8_hasPerson l g c_6) lk_X10_76 ic0_1 (by decide) rfl (by decide) rfl (Nat.le_of_ble_eq_true rfl) ⟨Nat.zero_le _, Nat.zero_le _⟩ dX10_deed_14 (fun v_7 M_5 H locs hN hw => ?_)
    obtain ⟨rfl, rfl⟩ := hN
    refine lv_if_ne (tgt := 23) hx hb dX10_deed_17 (by decide) (fun q_8 => ?_) (fun q_8 => ?_)
    · have hf := x_iN hf q_8
      refine lv_iload_n hx hb dX10_deed_23 rfl (lv_at hl 3 rfl) ?_
      refine lv_iconst (v := (0 : Int32)) hx hb dX10_deed_24 (by decide) ?_
      refine lv_aload_n hx hb dX10_deed_25 rfl (lv_at hl 0 rfl) ?_
      refine fg_X10_10 (k2 := 1) C hw ic0_0 rfl dX10_deed_26 ?_
      refine fg_X10_108 C hw ic0_1 dX10_deed_29 ?_
      obtain ⟨tv_11, tM_9, c_10, hf⟩ := x_bE hf
      refine x_sI C hw hl.1 [.int a3, .int (0 : Int32), .int (M_5 1 0)] [] (mX10_isWithin l g c_10) lk_X10_57 (by decide) rfl (Nat.le_of_ble_eq_true rfl) ⟨Nat.zero_le _, Nat.zero_le _⟩ dX10_deed_32 (fun v_11 M_9 H locs hN hw => ?_)
      obtain ⟨rfl, rfl⟩ := hN
      refine lv_if_eq (tgt := 49) hx hb dX10_deed_35 (by decide) (fun q_12 => ?_) (fun q_12 => ?_)
      · have hf := x_iP hf q_12
        refine lv_ldc hx hb hown (hB _ mk_X10_61) dX10_deed_49 ?_
        exact ret hf dX10_deed_51 hw
      · have hf := x_iN hf q_12
        refine lv_iload hx hb dX10_deed_38 (lv_at hl 4 rfl) ?_
        refine lv_iconst (v := (1 : Int32)) hx hb dX10_deed_40 (by decide) ?_
        refine lv_bipush (v := (100 : Int32)) hx hb dX10_deed_41 (by decide) ?_
        obtain ⟨tv_15, tM_13, c_14, hf⟩ := x_bE hf
        refine x_sI C hw hl.1 [.int a4, .int (1 : Int32), .int (100 : Int32)] [] (mX10_isWithin l g c_14) lk_X10_57 (by decide) rfl (Nat.le_of_ble_eq_true rfl) ⟨Nat.zero_le _, Nat.zero_le _⟩ dX10_deed_43 (fun v_15 M_13 H locs hN hw => ?_)
        obtain ⟨rfl, rfl⟩ := hN
        refine lv_if_ne (tgt := 52) hx hb dX10_deed_46 (by decide) (fun q_16 => ?_) (fun q_16 => ?_)
        · have hf := x_iN hf q_16
          refine lv_aload_n hx hb dX10_deed_52 rfl (lv_at hl 0 rfl) ?_
          refine fg_X10_10 (k2 := 1) C hw ic0_0 rfl dX10_deed_53 ?_
          refine fg_X10_131 C hw ic0_1 dX10_deed_56 ?_
          refine lv_bipush (v := (30 : Int32)) hx hb dX10_deed_59 (by decide) ?_
          refine lv_icmp_lt (tgt := 67) hx hb dX10_deed_61 (by decide) (fun q_17 => ?_) (fun q_17 => ?_)
          · have hf := x_iP hf q_17
            refine lv_aload_n hx hb dX10_deed_67 rfl (lv_at hl 0 rfl) ?_
            refine fg_X10_10 (k2 := 1) C hw ic0_0 rfl dX10_deed_68 ?_
            refine fg_X10_134 (k2 := 21) C hw ic0_1 rfl dX10_deed_71 ?_
            refine lv_aload_n hx hb dX10_deed_74 rfl (lv_at hl 0 rfl) ?_
            refine fg_X10_10 (k2 := 1) C hw ic0_0 rfl dX10_deed_75 ?_
            refine fg_X10_131 C hw ic0_1 dX10_deed_78 ?_
            obtain ⟨q_18, hf⟩ := x_gE hf
            refine x_rld (t := 2) (k2 := (139 + (M_13 1 3).toNatClampNeg)) C hw ic0_21 (by decide) rfl q_18 (rr0_21 _) dX10_deed_81 ?_
            have h_19 : x_is 0 (139 + (M_13 1 3).toNatClampNeg) 0 := (rr0_21 (M_13 1 3).toNatClampNeg) ▸ x_ta ic0_21 (by decide) (x_ilt q_18)
            refine lv_iload_n hx hb dX10_deed_82 rfl (lv_at hl 1 rfl) ?_
            refine lv_iload_n hx hb dX10_deed_83 rfl (lv_at hl 2 rfl) ?_
            refine lv_iload_n hx hb dX10_deed_84 rfl (lv_at hl 3 rfl) ?_
            refine lv_iload hx hb dX10_deed_85 (lv_at hl 4 rfl) ?_
            obtain ⟨tM_20, c_21, hf⟩ := x_vE hf
            refine x_vV C hw hl.1 [.int a1, .int a2, .int a3, .int a4] [] (mX0_begin l g h_19 c_21) lk_X10_138 h_19 (by decide) rfl (by decide) rfl (Nat.le_of_ble_eq_true rfl) ⟨Nat.zero_le _, Nat.zero_le _⟩ dX10_deed_87 (fun M_20 H locs hN hw => ?_)
            obtain rfl := hN
            refine lv_aload_n hx hb dX10_deed_90 rfl (lv_at hl 0 rfl) ?_
            refine fg_X10_10 (k2 := 1) C hw ic0_0 rfl dX10_deed_91 ?_
            refine lv_dup hx hb dX10_deed_94 rfl ?_
            refine fg_X10_131 C hw ic0_1 dX10_deed_95 ?_
            refine lv_iconst (v := (1 : Int32)) hx hb dX10_deed_98 (by decide) ?_
            refine lv_iadd hx hb dX10_deed_99 ?_
            refine fp_X10_131 C hw ic0_1 dX10_deed_100 (fun H locs hw => ?_)
            obtain ⟨M_22, eM_22⟩ : ∃ z, z = (x_up M_20 1 3 ((M_20 1 3) + (1 : Int32))) := ⟨_, rfl⟩
            rw [← eM_22] at hw
            have hf := x_lE eM_22 hf
            refine lv_aload_n hx hb dX10_deed_103 rfl (lv_at hl 0 rfl) ?_
            refine fg_X10_10 (k2 := 1) C hw ic0_0 rfl dX10_deed_104 ?_
            refine fg_X10_131 C hw ic0_1 dX10_deed_107 ?_
            refine lv_iconst (v := (1 : Int32)) hx hb dX10_deed_110 (by decide) ?_
            refine lv_isub hx hb dX10_deed_111 ?_
            exact ret hf dX10_deed_112 hw
          · have hf := x_iN hf q_17
            refine lv_ldc hx hb hown (hB _ mk_X10_65) dX10_deed_64 ?_
            exact ret hf dX10_deed_66 hw
        · have hf := x_iP hf q_16
          refine lv_ldc hx hb hown (hB _ mk_X10_61) dX10_deed_49 ?_
          exact ret hf dX10_deed_51 hw
    · have hf := x_iP hf q_8
      refine lv_ldc hx hb hown (hB _ mk_X10_61) dX10_deed_20 ?_
      exact ret hf dX10_deed_22 hw
noncomputable def fX10_isOf (M : xM) (a1 : Int32) (a2 : Int32) : Option (Int32 × xM) := x_b (fX8_hasDeed M a1) fun v_3 M_1 => if v_3 = 0 then (some ((-1000000001 : Int32), M_1)) else (x_b (fX10_isWithin M_1 a2 (0 : Int32) (3 : Int32)) fun v_7 M_5 => if v_7 = 0 then (some ((-1000000001 : Int32), M_5)) else (x_g a1 30 (x_b (fX0_isOfKind M_5 (139 + a1.toNatClampNeg) a2) fun v_13 M_11 => x_b (fX10_oneIf M_11 v_13) fun v_16 M_14 => some (v_16, M_14))))
set_option maxRecDepth 100000 in
set_option maxHeartbeats 4000000 in
theorem mX10_isOf (l : Launch) (g : xG) {a1 : Int32} {a2 : Int32} {r : Int32} {M' : xM}  {M : xM} (hf : fX10_isOf M a1 a2 = some (r, M')) : x_cI l g 0 yX10_isOf cX10_isOf 3 .int 2 43 [.ref (g.2.2.1 0), .int a1, .int a2] M (fun v N => v = r ∧ N = M') := by
  refine x_stI RX10 (by decide) rfl (Nat.le_of_ble_eq_true rfl) ?_
  intro p e s m args below meth c Q ls C hw ret hl
  obtain ⟨hx, hb, hml, hown, hB, -⟩ := id C
  have hl : lv_has ls 3 [(0, .ref (g.2.2.1 0)), (1, .int a1), (2, .int a2)] := hl
  unfold fX10_isOf at hf
  refine lv_aload_n hx hb dX10_isOf_0 rfl (lv_at hl 0 rfl) ?_
  refine fg_X10_10 (k2 := 1) C hw ic0_0 rfl dX10_isOf_1 ?_
  refine lv_iload_n hx hb dX10_isOf_4 rfl (lv_at hl 1 rfl) ?_
  obtain ⟨tv_3, tM_1, c_2, hf⟩ := x_bE hf
  refine x_vI C hw hl.1 [.int a1] [] (mX8_hasDeed l g c_2) lk_X10_143 ic0_1 (by decide) rfl (by decide) rfl (Nat.le_of_ble_eq_true rfl) ⟨Nat.zero_le _, Nat.zero_le _⟩ dX10_isOf_5 (fun v_3 M_1 H locs hN hw => ?_)
  obtain ⟨rfl, rfl⟩ := hN
  refine lv_if_eq (tgt := 20) hx hb dX10_isOf_8 (by decide) (fun q_4 => ?_) (fun q_4 => ?_)
  · have hf := x_iP hf q_4
    refine lv_ldc hx hb hown (hB _ mk_X10_61) dX10_isOf_20 ?_
    exact ret hf dX10_isOf_22 hw
  · have hf := x_iN hf q_4
    refine lv_iload_n hx hb dX10_isOf_11 rfl (lv_at hl 2 rfl) ?_
    refine lv_iconst (v := (0 : Int32)) hx hb dX10_isOf_12 (by decide) ?_
    refine lv_iconst (v := (3 : Int32)) hx hb dX10_isOf_13 (by decide) ?_
    obtain ⟨tv_7, tM_5, c_6, hf⟩ := x_bE hf
    refine x_sI C hw hl.1 [.int a2, .int (0 : Int32), .int (3 : Int32)] [] (mX10_isWithin l g c_6) lk_X10_57 (by decide) rfl (Nat.le_of_ble_eq_true rfl) ⟨Nat.zero_le _, Nat.zero_le _⟩ dX10_isOf_14 (fun v_7 M_5 H locs hN hw => ?_)
    obtain ⟨rfl, rfl⟩ := hN
    refine lv_if_ne (tgt := 23) hx hb dX10_isOf_17 (by decide) (fun q_8 => ?_) (fun q_8 => ?_)
    · have hf := x_iN hf q_8
      refine lv_aload_n hx hb dX10_isOf_23 rfl (lv_at hl 0 rfl) ?_
      refine fg_X10_10 (k2 := 1) C hw ic0_0 rfl dX10_isOf_24 ?_
      refine fg_X10_134 (k2 := 21) C hw ic0_1 rfl dX10_isOf_27 ?_
      refine lv_iload_n hx hb dX10_isOf_30 rfl (lv_at hl 1 rfl) ?_
      obtain ⟨q_9, hf⟩ := x_gE hf
      refine x_rld (t := 2) (k2 := (139 + a1.toNatClampNeg)) C hw ic0_21 (by decide) rfl q_9 (rr0_21 _) dX10_isOf_31 ?_
      have h_10 : x_is 0 (139 + a1.toNatClampNeg) 0 := (rr0_21 a1.toNatClampNeg) ▸ x_ta ic0_21 (by decide) (x_ilt q_9)
      refine lv_iload_n hx hb dX10_isOf_32 rfl (lv_at hl 2 rfl) ?_
      obtain ⟨tv_13, tM_11, c_12, hf⟩ := x_bE hf
      refine x_vI C hw hl.1 [.int a2] [] (mX0_isOfKind l g h_10 c_12) lk_X10_146 h_10 (by decide) rfl (by decide) rfl (Nat.le_of_ble_eq_true rfl) ⟨Nat.zero_le _, Nat.zero_le _⟩ dX10_isOf_33 (fun v_13 M_11 H locs hN hw => ?_)
      obtain ⟨rfl, rfl⟩ := hN
      obtain ⟨tv_16, tM_14, c_15, hf⟩ := x_bE hf
      refine x_sI C hw hl.1 [.int v_13] [] (mX10_oneIf l g c_15) lk_X10_83 (by decide) rfl (Nat.le_of_ble_eq_true rfl) ⟨Nat.zero_le _, Nat.zero_le _⟩ dX10_isOf_36 (fun v_16 M_14 H locs hN hw => ?_)
      obtain ⟨rfl, rfl⟩ := hN
      exact ret hf dX10_isOf_39 hw
    · have hf := x_iP hf q_8
      refine lv_ldc hx hb hown (hB _ mk_X10_61) dX10_isOf_20 ?_
      exact ret hf dX10_isOf_22 hw
noncomputable def fX10_told (M : xM) (a1 : Int32) (a2 : Int32) : Option (Int32 × xM) := x_b (fX8_hasDeed M a1) fun v_3 M_1 => if v_3 = 0 then (some ((-1000000001 : Int32), M_1)) else (x_g a1 30 (if a2 = (0 : Int32) then (some ((M_1 (139 + a1.toNatClampNeg) 0), M_1)) else (if a2 = (1 : Int32) then (some ((M_1 (139 + a1.toNatClampNeg) 1), M_1)) else (if a2 = (2 : Int32) then (some ((M_1 (139 + a1.toNatClampNeg) 2), M_1)) else (if a2 = (3 : Int32) then (some ((M_1 (139 + a1.toNatClampNeg) 3), M_1)) else (if a2 = (4 : Int32) then (x_b (fX8_pastOf M_1 (139 + a1.toNatClampNeg)) fun v_14 M_12 => some (v_14, M_12)) else (if a2 = (5 : Int32) then (x_b (fX0_isJudged M_1 (139 + a1.toNatClampNeg)) fun v_18 M_16 => if v_18 = 0 then (some ((-1000000005 : Int32), M_16)) else (some ((M_16 (139 + a1.toNatClampNeg) 4), M_16))) else (some ((-1000000001 : Int32), M_1)))))))))
set_option maxRecDepth 100000 in
set_option maxHeartbeats 4000000 in
theorem mX10_told (l : Launch) (g : xG) {a1 : Int32} {a2 : Int32} {r : Int32} {M' : xM}  {M : xM} (hf : fX10_told M a1 a2 = some (r, M')) : x_cI l g 0 yX10_told cX10_told 4 .int 2 46 [.ref (g.2.2.1 0), .int a1, .int a2] M (fun v N => v = r ∧ N = M') := by
  refine x_stI RX10 (by decide) rfl (Nat.le_of_ble_eq_true rfl) ?_
  intro p e s m args below meth c Q ls C hw ret hl
  obtain ⟨hx, hb, hml, hown, hB, -⟩ := id C
  have hl : lv_has ls 4 [(0, .ref (g.2.2.1 0)), (1, .int a1), (2, .int a2)] := hl
  unfold fX10_told at hf
  refine lv_aload_n hx hb dX10_told_0 rfl (lv_at hl 0 rfl) ?_
  refine fg_X10_10 (k2 := 1) C hw ic0_0 rfl dX10_told_1 ?_
  refine lv_iload_n hx hb dX10_told_4 rfl (lv_at hl 1 rfl) ?_
  obtain ⟨tv_3, tM_1, c_2, hf⟩ := x_bE hf
  refine x_vI C hw hl.1 [.int a1] [] (mX8_hasDeed l g c_2) lk_X10_143 ic0_1 (by decide) rfl (by decide) rfl (Nat.le_of_ble_eq_true rfl) ⟨Nat.zero_le _, Nat.zero_le _⟩ dX10_told_5 (fun v_3 M_1 H locs hN hw => ?_)
  obtain ⟨rfl, rfl⟩ := hN
  refine lv_if_ne (tgt := 14) hx hb dX10_told_8 (by decide) (fun q_4 => ?_) (fun q_4 => ?_)
  · have hf := x_iN hf q_4
    refine lv_aload_n hx hb dX10_told_14 rfl (lv_at hl 0 rfl) ?_
    refine fg_X10_10 (k2 := 1) C hw ic0_0 rfl dX10_told_15 ?_
    refine fg_X10_134 (k2 := 21) C hw ic0_1 rfl dX10_told_18 ?_
    refine lv_iload_n hx hb dX10_told_21 rfl (lv_at hl 1 rfl) ?_
    obtain ⟨q_5, hf⟩ := x_gE hf
    refine x_rld (t := 2) (k2 := (139 + a1.toNatClampNeg)) C hw ic0_21 (by decide) rfl q_5 (rr0_21 _) dX10_told_22 ?_
    have h_6 : x_is 0 (139 + a1.toNatClampNeg) 0 := (rr0_21 a1.toNatClampNeg) ▸ x_ta ic0_21 (by decide) (x_ilt q_5)
    refine lv_astore_n (lv' := [(3, .ref (g.2.2.1 (139 + a1.toNatClampNeg))), (0, .ref (g.2.2.1 0)), (1, .int a1), (2, .int a2)]) hx hb dX10_told_23 rfl hl (by decide) rfl (fun ls hl => ?_)
    refine lv_iload_n hx hb dX10_told_24 rfl (lv_at hl 3 rfl) ?_
    by_cases q_7 : a2 = (0 : Int32)
    · have hf := x_iP hf q_7
      refine lv_tableIn (off := 39) (tgt := 64) hx hb dX10_told_25 (by rw [q_7]; decide) (by rw [q_7]; decide) (by rw [q_7]; rfl) (by decide) ?_
      refine lv_aload_n hx hb dX10_told_64 rfl (lv_at hl 0 rfl) ?_
      refine fg_X10_147 C hw h_6 dX10_told_65 ?_
      exact ret hf dX10_told_68 hw
    have hf := x_iN hf q_7
    by_cases q_8 : a2 = (1 : Int32)
    · have hf := x_iP hf q_8
      refine lv_tableIn (off := 44) (tgt := 69) hx hb dX10_told_25 (by rw [q_8]; decide) (by rw [q_8]; decide) (by rw [q_8]; rfl) (by decide) ?_
      refine lv_aload_n hx hb dX10_told_69 rfl (lv_at hl 0 rfl) ?_
      refine fg_X10_150 C hw h_6 dX10_told_70 ?_
      exact ret hf dX10_told_73 hw
    have hf := x_iN hf q_8
    by_cases q_9 : a2 = (2 : Int32)
    · have hf := x_iP hf q_9
      refine lv_tableIn (off := 49) (tgt := 74) hx hb dX10_told_25 (by rw [q_9]; decide) (by rw [q_9]; decide) (by rw [q_9]; rfl) (by decide) ?_
      refine lv_aload_n hx hb dX10_told_74 rfl (lv_at hl 0 rfl) ?_
      refine fg_X10_153 C hw h_6 dX10_told_75 ?_
      exact ret hf dX10_told_78 hw
    have hf := x_iN hf q_9
    by_cases q_10 : a2 = (3 : Int32)
    · have hf := x_iP hf q_10
      refine lv_tableIn (off := 54) (tgt := 79) hx hb dX10_told_25 (by rw [q_10]; decide) (by rw [q_10]; decide) (by rw [q_10]; rfl) (by decide) ?_
      refine lv_aload_n hx hb dX10_told_79 rfl (lv_at hl 0 rfl) ?_
      refine fg_X10_156 C hw h_6 dX10_told_80 ?_
      exact ret hf dX10_told_83 hw
    have hf := x_iN hf q_10
    by_cases q_11 : a2 = (4 : Int32)
    · have hf := x_iP hf q_11
      refine lv_tableIn (off := 59) (tgt := 84) hx hb dX10_told_25 (by rw [q_11]; decide) (by rw [q_11]; decide) (by rw [q_11]; rfl) (by decide) ?_
      refine lv_aload_n hx hb dX10_told_84 rfl (lv_at hl 1 rfl) ?_
      refine fg_X10_10 (k2 := 1) C hw ic0_0 rfl dX10_told_85 ?_
      refine lv_aload_n hx hb dX10_told_88 rfl (lv_at hl 0 rfl) ?_
      obtain ⟨tv_14, tM_12, c_13, hf⟩ := x_bE hf
      refine x_vI C hw hl.1 [.ref (g.2.2.1 (139 + a1.toNatClampNeg))] [] (mX8_pastOf l g h_6 c_13) lk_X10_159 ic0_1 (by decide) rfl (by decide) rfl (Nat.le_of_ble_eq_true rfl) ⟨Nat.zero_le _, Nat.zero_le _⟩ dX10_told_89 (fun v_14 M_12 H locs hN hw => ?_)
      obtain ⟨rfl, rfl⟩ := hN
      exact ret hf dX10_told_92 hw
    have hf := x_iN hf q_11
    by_cases q_15 : a2 = (5 : Int32)
    · have hf := x_iP hf q_15
      refine lv_tableIn (off := 68) (tgt := 93) hx hb dX10_told_25 (by rw [q_15]; decide) (by rw [q_15]; decide) (by rw [q_15]; rfl) (by decide) ?_
      refine lv_aload_n hx hb dX10_told_93 rfl (lv_at hl 0 rfl) ?_
      obtain ⟨tv_18, tM_16, c_17, hf⟩ := x_bE hf
      refine x_vI C hw hl.1 [] [] (mX0_isJudged l g h_6 c_17) lk_X10_163 h_6 (by decide) rfl (by decide) rfl (Nat.le_of_ble_eq_true rfl) ⟨Nat.zero_le _, Nat.zero_le _⟩ dX10_told_94 (fun v_18 M_16 H locs hN hw => ?_)
      obtain ⟨rfl, rfl⟩ := hN
      refine lv_if_eq (tgt := 107) hx hb dX10_told_97 (by decide) (fun q_19 => ?_) (fun q_19 => ?_)
      · have hf := x_iP hf q_19
        refine lv_ldc hx hb hown (hB _ mk_X10_169) dX10_told_107 ?_
        exact ret hf dX10_told_109 hw
      · have hf := x_iN hf q_19
        refine lv_aload_n hx hb dX10_told_100 rfl (lv_at hl 0 rfl) ?_
        refine fg_X10_166 C hw h_6 dX10_told_101 ?_
        refine lv_goto (tgt := 109) hx hb dX10_told_104 (by decide) ?_
        exact ret hf dX10_told_109 hw
    have hf := x_iN hf q_15
    have tq_7 := lv_neT (a := 0) q_7 rfl
    have tq_8 := lv_neT (a := 1) q_8 rfl
    have tq_9 := lv_neT (a := 2) q_9 rfl
    have tq_10 := lv_neT (a := 3) q_10 rfl
    have tq_11 := lv_neT (a := 4) q_11 rfl
    have tq_15 := lv_neT (a := 5) q_15 rfl
    refine lv_tableOut (tgt := 110) hx hb dX10_told_25 (by omega) (by decide) ?_
    refine lv_ldc hx hb hown (hB _ mk_X10_61) dX10_told_110 ?_
    exact ret hf dX10_told_112 hw
  · have hf := x_iP hf q_4
    refine lv_ldc hx hb hown (hB _ mk_X10_61) dX10_told_11 ?_
    exact ret hf dX10_told_13 hw
noncomputable def fX10_flat (M : xM) (a1 : Int32) (a2 : Int32) : Option (Int32 × xM) := x_b (fX10_isWithin M a1 (0 : Int32) (3 : Int32)) fun v_3 M_1 => if v_3 = 0 then (some ((-1000000001 : Int32), M_1)) else (x_b (fX10_isWithin M_1 a2 (0 : Int32) (9999 : Int32)) fun v_7 M_5 => if v_7 = 0 then (some ((-1000000001 : Int32), M_5)) else (x_g a1 4 (x_l (M_5 24 a1.toNatClampNeg) fun x3_10 => x_g a1 4 (x_l (x_up M_5 24 a1.toNatClampNeg a2) fun M_12 => some (x3_10, M_12)))))
set_option maxRecDepth 100000 in
set_option maxHeartbeats 4000000 in
theorem mX10_flat (l : Launch) (g : xG) {a1 : Int32} {a2 : Int32} {r : Int32} {M' : xM}  {M : xM} (hf : fX10_flat M a1 a2 = some (r, M')) : x_cI l g 0 yX10_flat cX10_flat 4 .int 1 22 [.ref (g.2.2.1 0), .int a1, .int a2] M (fun v N => v = r ∧ N = M') := by
  refine x_stI RX10 (by decide) rfl (Nat.le_of_ble_eq_true rfl) ?_
  intro p e s m args below meth c Q ls C hw ret hl
  obtain ⟨hx, hb, hml, hown, hB, -⟩ := id C
  have hl : lv_has ls 4 [(0, .ref (g.2.2.1 0)), (1, .int a1), (2, .int a2)] := hl
  unfold fX10_flat at hf
  refine lv_iload_n hx hb dX10_flat_0 rfl (lv_at hl 1 rfl) ?_
  refine lv_iconst (v := (0 : Int32)) hx hb dX10_flat_1 (by decide) ?_
  refine lv_iconst (v := (3 : Int32)) hx hb dX10_flat_2 (by decide) ?_
  obtain ⟨tv_3, tM_1, c_2, hf⟩ := x_bE hf
  refine x_sI C hw hl.1 [.int a1, .int (0 : Int32), .int (3 : Int32)] [] (mX10_isWithin l g c_2) lk_X10_57 (by decide) rfl (Nat.le_of_ble_eq_true rfl) ⟨Nat.zero_le _, Nat.zero_le _⟩ dX10_flat_3 (fun v_3 M_1 H locs hN hw => ?_)
  obtain ⟨rfl, rfl⟩ := hN
  refine lv_if_eq (tgt := 20) hx hb dX10_flat_6 (by decide) (fun q_4 => ?_) (fun q_4 => ?_)
  · have hf := x_iP hf q_4
    refine lv_ldc hx hb hown (hB _ mk_X10_61) dX10_flat_20 ?_
    exact ret hf dX10_flat_22 hw
  · have hf := x_iN hf q_4
    refine lv_iload_n hx hb dX10_flat_9 rfl (lv_at hl 2 rfl) ?_
    refine lv_iconst (v := (0 : Int32)) hx hb dX10_flat_10 (by decide) ?_
    refine lv_sipush (v := (9999 : Int32)) hx hb dX10_flat_11 (by decide) ?_
    obtain ⟨tv_7, tM_5, c_6, hf⟩ := x_bE hf
    refine x_sI C hw hl.1 [.int a2, .int (0 : Int32), .int (9999 : Int32)] [] (mX10_isWithin l g c_6) lk_X10_57 (by decide) rfl (Nat.le_of_ble_eq_true rfl) ⟨Nat.zero_le _, Nat.zero_le _⟩ dX10_flat_14 (fun v_7 M_5 H locs hN hw => ?_)
    obtain ⟨rfl, rfl⟩ := hN
    refine lv_if_ne (tgt := 23) hx hb dX10_flat_17 (by decide) (fun q_8 => ?_) (fun q_8 => ?_)
    · have hf := x_iN hf q_8
      refine lv_aload_n hx hb dX10_flat_23 rfl (lv_at hl 0 rfl) ?_
      refine fg_X10_10 (k2 := 1) C hw ic0_0 rfl dX10_flat_24 ?_
      refine fg_X10_170 (k2 := 24) C hw ic0_1 rfl dX10_flat_27 ?_
      refine lv_iload_n hx hb dX10_flat_30 rfl (lv_at hl 1 rfl) ?_
      obtain ⟨q_9, hf⟩ := x_gE hf
      refine x_ald C hw ic0_24 q_9 rfl dX10_flat_31 ?_
      refine lv_topi (fun x3_10 ex3_10 => ?_)
      have hf := x_lE ex3_10 hf
      refine lv_istore_n (lv' := [(3, .int x3_10), (0, .ref (g.2.2.1 0)), (1, .int a1), (2, .int a2)]) hx hb dX10_flat_32 rfl hl (by decide) rfl (fun ls hl => ?_)
      refine lv_aload_n hx hb dX10_flat_33 rfl (lv_at hl 1 rfl) ?_
      refine fg_X10_10 (k2 := 1) C hw ic0_0 rfl dX10_flat_34 ?_
      refine fg_X10_170 (k2 := 24) C hw ic0_1 rfl dX10_flat_37 ?_
      refine lv_iload_n hx hb dX10_flat_40 rfl (lv_at hl 2 rfl) ?_
      refine lv_iload_n hx hb dX10_flat_41 rfl (lv_at hl 3 rfl) ?_
      obtain ⟨q_11, hf⟩ := x_gE hf
      refine x_ast C hw ic0_24 q_11 rfl dX10_flat_42 (fun H locs hw => ?_)
      obtain ⟨M_12, eM_12⟩ : ∃ z, z = (x_up M_5 24 a1.toNatClampNeg a2) := ⟨_, rfl⟩
      rw [← eM_12] at hw
      have hf := x_lE eM_12 hf
      refine lv_iload_n hx hb dX10_flat_43 rfl (lv_at hl 0 rfl) ?_
      exact ret hf dX10_flat_44 hw
    · have hf := x_iP hf q_8
      refine lv_ldc hx hb hown (hB _ mk_X10_61) dX10_flat_20 ?_
      exact ret hf dX10_flat_22 hw
noncomputable def fX10_feed (M : xM) (a1 : Int32) (a2 : Int32) (a3 : Int32) : Option (Int32 × xM) := if ((M 11 1) + (12 : Int32)) ≤ (120 : Int32) then (x_v (fX9_addFour M a1) fun M_2 => x_v (fX9_addFour M_2 a2) fun M_4 => x_v (fX9_addFour M_4 a3) fun M_6 => some ((M_6 11 1), M_6)) else (some ((-1000000003 : Int32), M))
set_option maxRecDepth 100000 in
set_option maxHeartbeats 4000000 in
theorem mX10_feed (l : Launch) (g : xG) {a1 : Int32} {a2 : Int32} {a3 : Int32} {r : Int32} {M' : xM}  {M : xM} (hf : fX10_feed M a1 a2 a3 = some (r, M')) : x_cI l g 0 yX10_feed cX10_feed 5 .int 1 22 [.ref (g.2.2.1 0), .int a1, .int a2, .int a3] M (fun v N => v = r ∧ N = M') := by
  refine x_stI RX10 (by decide) rfl (Nat.le_of_ble_eq_true rfl) ?_
  intro p e s m args below meth c Q ls C hw ret hl
  obtain ⟨hx, hb, hml, hown, hB, -⟩ := id C
  have hl : lv_has ls 5 [(0, .ref (g.2.2.1 0)), (1, .int a1), (2, .int a2), (3, .int a3)] := hl
  unfold fX10_feed at hf
  refine lv_aload_n hx hb dX10_feed_0 rfl (lv_at hl 0 rfl) ?_
  refine fg_X10_26 (k2 := 3) C hw ic0_0 rfl dX10_feed_1 ?_
  refine fg_X10_173 (k2 := 11) C hw ic0_3 rfl dX10_feed_4 ?_
  refine lv_astore (lv' := [(4, .ref (g.2.2.1 11)), (0, .ref (g.2.2.1 0)), (1, .int a1), (2, .int a2), (3, .int a3)]) hx hb dX10_feed_7 hl (by decide) rfl (fun ls hl => ?_)
  refine lv_aload hx hb dX10_feed_9 (lv_at hl 0 rfl) ?_
  refine fg_X10_177 C hw ic0_11 dX10_feed_11 ?_
  refine lv_bipush (v := (12 : Int32)) hx hb dX10_feed_14 (by decide) ?_
  refine lv_iadd hx hb dX10_feed_16 ?_
  refine lv_bipush (v := (120 : Int32)) hx hb dX10_feed_17 (by decide) ?_
  refine lv_icmp_le (tgt := 25) hx hb dX10_feed_19 (by decide) (fun q_1 => ?_) (fun q_1 => ?_)
  · have hf := x_iP hf q_1
    refine lv_aload hx hb dX10_feed_25 (lv_at hl 0 rfl) ?_
    refine lv_iload_n hx hb dX10_feed_27 rfl (lv_at hl 2 rfl) ?_
    obtain ⟨tM_2, c_3, hf⟩ := x_vE hf
    refine x_vV C hw hl.1 [.int a1] [] (mX9_addFour l g c_3) lk_X10_182 ic0_11 (by decide) rfl (by decide) rfl (Nat.le_of_ble_eq_true rfl) ⟨Nat.zero_le _, Nat.zero_le _⟩ dX10_feed_28 (fun M_2 H locs hN hw => ?_)
    obtain rfl := hN
    refine lv_aload hx hb dX10_feed_31 (lv_at hl 0 rfl) ?_
    refine lv_iload_n hx hb dX10_feed_33 rfl (lv_at hl 3 rfl) ?_
    obtain ⟨tM_4, c_5, hf⟩ := x_vE hf
    refine x_vV C hw hl.1 [.int a2] [] (mX9_addFour l g c_5) lk_X10_182 ic0_11 (by decide) rfl (by decide) rfl (Nat.le_of_ble_eq_true rfl) ⟨Nat.zero_le _, Nat.zero_le _⟩ dX10_feed_34 (fun M_4 H locs hN hw => ?_)
    obtain rfl := hN
    refine lv_aload hx hb dX10_feed_37 (lv_at hl 0 rfl) ?_
    refine lv_iload_n hx hb dX10_feed_39 rfl (lv_at hl 4 rfl) ?_
    obtain ⟨tM_6, c_7, hf⟩ := x_vE hf
    refine x_vV C hw hl.1 [.int a3] [] (mX9_addFour l g c_7) lk_X10_182 ic0_11 (by decide) rfl (by decide) rfl (Nat.le_of_ble_eq_true rfl) ⟨Nat.zero_le _, Nat.zero_le _⟩ dX10_feed_40 (fun M_6 H locs hN hw => ?_)
    obtain rfl := hN
    refine lv_aload hx hb dX10_feed_43 (lv_at hl 0 rfl) ?_
    refine fg_X10_177 C hw ic0_11 dX10_feed_45 ?_
    exact ret hf dX10_feed_48 hw
  · have hf := x_iN hf q_1
    refine lv_ldc hx hb hown (hB _ mk_X10_65) dX10_feed_22 ?_
    exact ret hf dX10_feed_24 hw
noncomputable def fX10_trim (M : xM) (a1 : Int32) : Option (Int32 × xM) := x_b (fX10_isWithin M a1 (0 : Int32) (M 11 1)) fun v_3 M_1 => if v_3 = 0 then (some ((-1000000001 : Int32), M_1)) else (x_l (x_up M_1 11 1 a1) fun M_5 => some (a1, M_5))
set_option maxRecDepth 100000 in
set_option maxHeartbeats 4000000 in
theorem mX10_trim (l : Launch) (g : xG) {a1 : Int32} {r : Int32} {M' : xM}  {M : xM} (hf : fX10_trim M a1 = some (r, M')) : x_cI l g 0 yX10_trim cX10_trim 2 .int 1 22 [.ref (g.2.2.1 0), .int a1] M (fun v N => v = r ∧ N = M') := by
  refine x_stI RX10 (by decide) rfl (Nat.le_of_ble_eq_true rfl) ?_
  intro p e s m args below meth c Q ls C hw ret hl
  obtain ⟨hx, hb, hml, hown, hB, -⟩ := id C
  have hl : lv_has ls 2 [(0, .ref (g.2.2.1 0)), (1, .int a1)] := hl
  unfold fX10_trim at hf
  refine lv_iload_n hx hb dX10_trim_0 rfl (lv_at hl 1 rfl) ?_
  refine lv_iconst (v := (0 : Int32)) hx hb dX10_trim_1 (by decide) ?_
  refine lv_aload_n hx hb dX10_trim_2 rfl (lv_at hl 0 rfl) ?_
  refine fg_X10_26 (k2 := 3) C hw ic0_0 rfl dX10_trim_3 ?_
  refine fg_X10_173 (k2 := 11) C hw ic0_3 rfl dX10_trim_6 ?_
  refine fg_X10_177 C hw ic0_11 dX10_trim_9 ?_
  obtain ⟨tv_3, tM_1, c_2, hf⟩ := x_bE hf
  refine x_sI C hw hl.1 [.int a1, .int (0 : Int32), .int (M 11 1)] [] (mX10_isWithin l g c_2) lk_X10_57 (by decide) rfl (Nat.le_of_ble_eq_true rfl) ⟨Nat.zero_le _, Nat.zero_le _⟩ dX10_trim_12 (fun v_3 M_1 H locs hN hw => ?_)
  obtain ⟨rfl, rfl⟩ := hN
  refine lv_if_ne (tgt := 21) hx hb dX10_trim_15 (by decide) (fun q_4 => ?_) (fun q_4 => ?_)
  · have hf := x_iN hf q_4
    refine lv_aload_n hx hb dX10_trim_21 rfl (lv_at hl 0 rfl) ?_
    refine fg_X10_26 (k2 := 3) C hw ic0_0 rfl dX10_trim_22 ?_
    refine fg_X10_173 (k2 := 11) C hw ic0_3 rfl dX10_trim_25 ?_
    refine lv_iload_n hx hb dX10_trim_28 rfl (lv_at hl 1 rfl) ?_
    refine fp_X10_177 C hw ic0_11 dX10_trim_29 (fun H locs hw => ?_)
    obtain ⟨M_5, eM_5⟩ : ∃ z, z = (x_up M_1 11 1 a1) := ⟨_, rfl⟩
    rw [← eM_5] at hw
    have hf := x_lE eM_5 hf
    refine lv_iload_n hx hb dX10_trim_32 rfl (lv_at hl 1 rfl) ?_
    exact ret hf dX10_trim_33 hw
  · have hf := x_iP hf q_4
    refine lv_ldc hx hb hown (hB _ mk_X10_61) dX10_trim_18 ?_
    exact ret hf dX10_trim_20 hw
noncomputable def fX10_worth (M : xM) (a1 : Int32) : Option (Int32 × xM) := x_b (fX8_hasDeed M a1) fun v_3 M_1 => if v_3 = 0 then (some ((-1000000001 : Int32), M_1)) else (x_b (fX8_hasLaw M_1) fun v_7 M_5 => if v_7 = 0 then (some ((-1000000002 : Int32), M_5)) else (x_g a1 30 (x_b (fX8_daysFor M_5 (139 + a1.toNatClampNeg)) fun v_13 M_11 => some (v_13, M_11))))
set_option maxRecDepth 100000 in
set_option maxHeartbeats 4000000 in
theorem mX10_worth (l : Launch) (g : xG) {a1 : Int32} {r : Int32} {M' : xM}  {M : xM} (hf : fX10_worth M a1 = some (r, M')) : x_cI l g 0 yX10_worth cX10_worth 2 .int 4 89 [.ref (g.2.2.1 0), .int a1] M (fun v N => v = r ∧ N = M') := by
  refine x_stI RX10 (by decide) rfl (Nat.le_of_ble_eq_true rfl) ?_
  intro p e s m args below meth c Q ls C hw ret hl
  obtain ⟨hx, hb, hml, hown, hB, -⟩ := id C
  have hl : lv_has ls 2 [(0, .ref (g.2.2.1 0)), (1, .int a1)] := hl
  unfold fX10_worth at hf
  refine lv_aload_n hx hb dX10_worth_0 rfl (lv_at hl 0 rfl) ?_
  refine fg_X10_10 (k2 := 1) C hw ic0_0 rfl dX10_worth_1 ?_
  refine lv_iload_n hx hb dX10_worth_4 rfl (lv_at hl 1 rfl) ?_
  obtain ⟨tv_3, tM_1, c_2, hf⟩ := x_bE hf
  refine x_vI C hw hl.1 [.int a1] [] (mX8_hasDeed l g c_2) lk_X10_143 ic0_1 (by decide) rfl (by decide) rfl (Nat.le_of_ble_eq_true rfl) ⟨Nat.zero_le _, Nat.zero_le _⟩ dX10_worth_5 (fun v_3 M_1 H locs hN hw => ?_)
  obtain ⟨rfl, rfl⟩ := hN
  refine lv_if_ne (tgt := 14) hx hb dX10_worth_8 (by decide) (fun q_4 => ?_) (fun q_4 => ?_)
  · have hf := x_iN hf q_4
    refine lv_aload_n hx hb dX10_worth_14 rfl (lv_at hl 0 rfl) ?_
    refine fg_X10_10 (k2 := 1) C hw ic0_0 rfl dX10_worth_15 ?_
    obtain ⟨tv_7, tM_5, c_6, hf⟩ := x_bE hf
    refine x_vI C hw hl.1 [] [] (mX8_hasLaw l g c_6) lk_X10_205 ic0_1 (by decide) rfl (by decide) rfl (Nat.le_of_ble_eq_true rfl) ⟨Nat.zero_le _, Nat.zero_le _⟩ dX10_worth_18 (fun v_7 M_5 H locs hN hw => ?_)
    obtain ⟨rfl, rfl⟩ := hN
    refine lv_if_ne (tgt := 27) hx hb dX10_worth_21 (by decide) (fun q_8 => ?_) (fun q_8 => ?_)
    · have hf := x_iN hf q_8
      refine lv_aload_n hx hb dX10_worth_27 rfl (lv_at hl 0 rfl) ?_
      refine fg_X10_10 (k2 := 1) C hw ic0_0 rfl dX10_worth_28 ?_
      refine lv_aload_n hx hb dX10_worth_31 rfl (lv_at hl 0 rfl) ?_
      refine fg_X10_10 (k2 := 1) C hw ic0_0 rfl dX10_worth_32 ?_
      refine fg_X10_134 (k2 := 21) C hw ic0_1 rfl dX10_worth_35 ?_
      refine lv_iload_n hx hb dX10_worth_38 rfl (lv_at hl 1 rfl) ?_
      obtain ⟨q_9, hf⟩ := x_gE hf
      refine x_rld (t := 2) (k2 := (139 + a1.toNatClampNeg)) C hw ic0_21 (by decide) rfl q_9 (rr0_21 _) dX10_worth_39 ?_
      have h_10 : x_is 0 (139 + a1.toNatClampNeg) 0 := (rr0_21 a1.toNatClampNeg) ▸ x_ta ic0_21 (by decide) (x_ilt q_9)
      obtain ⟨tv_13, tM_11, c_12, hf⟩ := x_bE hf
      refine x_vI C hw hl.1 [.ref (g.2.2.1 (139 + a1.toNatClampNeg))] [] (mX8_daysFor l g h_10 c_12) lk_X10_208 ic0_1 (by decide) rfl (by decide) rfl (Nat.le_of_ble_eq_true rfl) ⟨Nat.zero_le _, Nat.zero_le _⟩ dX10_worth_40 (fun v_13 M_11 H locs hN hw => ?_)
      obtain ⟨rfl, rfl⟩ := hN
      exact ret hf dX10_worth_43 hw
    · have hf := x_iP hf q_8
      refine lv_ldc hx hb hown (hB _ mk_X10_91) dX10_worth_24 ?_
      exact ret hf dX10_worth_26 hw
  · have hf := x_iP hf q_4
    refine lv_ldc hx hb hown (hB _ mk_X10_61) dX10_worth_11 ?_
    exact ret hf dX10_worth_13 hw
noncomputable def fX10_sum (M : xM) (a1 : Int32) (a2 : Int32) (a3 : Int32) : Option (Int32 × xM) := x_b (fX8_hasPerson M a1) fun v_3 M_1 => if v_3 = 0 then (some ((-1000000001 : Int32), M_1)) else (x_b (fX10_isWithin M_1 a2 (0 : Int32) (3000 : Int32)) fun v_7 M_5 => if v_7 = 0 then (some ((-1000000001 : Int32), M_5)) else (x_b (fX10_isWithin M_5 a3 (0 : Int32) (M_5 1 0)) fun v_11 M_9 => if v_11 = 0 then (some ((-1000000001 : Int32), M_9)) else (x_b (fX8_hasLaw M_9) fun v_15 M_13 => if v_15 = 0 then (some ((-1000000002 : Int32), M_13)) else (x_b (fX8_sumFor M_13 a1 a2 a3) fun v_19 M_17 => some (v_19, M_17)))))
set_option maxRecDepth 100000 in
set_option maxHeartbeats 4000000 in
theorem mX10_sum (l : Launch) (g : xG) {a1 : Int32} {a2 : Int32} {a3 : Int32} {r : Int32} {M' : xM}  {M : xM} (hf : fX10_sum M a1 a2 a3 = some (r, M')) : x_cI l g 0 yX10_sum cX10_sum 4 .int 5 122 [.ref (g.2.2.1 0), .int a1, .int a2, .int a3] M (fun v N => v = r ∧ N = M') := by
  refine x_stI RX10 (by decide) rfl (Nat.le_of_ble_eq_true rfl) ?_
  intro p e s m args below meth c Q ls C hw ret hl
  obtain ⟨hx, hb, hml, hown, hB, -⟩ := id C
  have hl : lv_has ls 4 [(0, .ref (g.2.2.1 0)), (1, .int a1), (2, .int a2), (3, .int a3)] := hl
  unfold fX10_sum at hf
  refine lv_aload_n hx hb dX10_sum_0 rfl (lv_at hl 0 rfl) ?_
  refine fg_X10_10 (k2 := 1) C hw ic0_0 rfl dX10_sum_1 ?_
  refine lv_iload_n hx hb dX10_sum_4 rfl (lv_at hl 1 rfl) ?_
  obtain ⟨tv_3, tM_1, c_2, hf⟩ := x_bE hf
  refine x_vI C hw hl.1 [.int a1] [] (mX8_hasPerson l g c_2) lk_X10_76 ic0_1 (by decide) rfl (by decide) rfl (Nat.le_of_ble_eq_true rfl) ⟨Nat.zero_le _, Nat.zero_le _⟩ dX10_sum_5 (fun v_3 M_1 H locs hN hw => ?_)
  obtain ⟨rfl, rfl⟩ := hN
  refine lv_if_eq (tgt := 37) hx hb dX10_sum_8 (by decide) (fun q_4 => ?_) (fun q_4 => ?_)
  · have hf := x_iP hf q_4
    refine lv_ldc hx hb hown (hB _ mk_X10_61) dX10_sum_37 ?_
    exact ret hf dX10_sum_39 hw
  · have hf := x_iN hf q_4
    refine lv_iload_n hx hb dX10_sum_11 rfl (lv_at hl 2 rfl) ?_
    refine lv_iconst (v := (0 : Int32)) hx hb dX10_sum_12 (by decide) ?_
    refine lv_sipush (v := (3000 : Int32)) hx hb dX10_sum_13 (by decide) ?_
    obtain ⟨tv_7, tM_5, c_6, hf⟩ := x_bE hf
    refine x_sI C hw hl.1 [.int a2, .int (0 : Int32), .int (3000 : Int32)] [] (mX10_isWithin l g c_6) lk_X10_57 (by decide) rfl (Nat.le_of_ble_eq_true rfl) ⟨Nat.zero_le _, Nat.zero_le _⟩ dX10_sum_16 (fun v_7 M_5 H locs hN hw => ?_)
    obtain ⟨rfl, rfl⟩ := hN
    refine lv_if_eq (tgt := 37) hx hb dX10_sum_19 (by decide) (fun q_8 => ?_) (fun q_8 => ?_)
    · have hf := x_iP hf q_8
      refine lv_ldc hx hb hown (hB _ mk_X10_61) dX10_sum_37 ?_
      exact ret hf dX10_sum_39 hw
    · have hf := x_iN hf q_8
      refine lv_iload_n hx hb dX10_sum_22 rfl (lv_at hl 3 rfl) ?_
      refine lv_iconst (v := (0 : Int32)) hx hb dX10_sum_23 (by decide) ?_
      refine lv_aload_n hx hb dX10_sum_24 rfl (lv_at hl 0 rfl) ?_
      refine fg_X10_10 (k2 := 1) C hw ic0_0 rfl dX10_sum_25 ?_
      refine fg_X10_108 C hw ic0_1 dX10_sum_28 ?_
      obtain ⟨tv_11, tM_9, c_10, hf⟩ := x_bE hf
      refine x_sI C hw hl.1 [.int a3, .int (0 : Int32), .int (M_5 1 0)] [] (mX10_isWithin l g c_10) lk_X10_57 (by decide) rfl (Nat.le_of_ble_eq_true rfl) ⟨Nat.zero_le _, Nat.zero_le _⟩ dX10_sum_31 (fun v_11 M_9 H locs hN hw => ?_)
      obtain ⟨rfl, rfl⟩ := hN
      refine lv_if_ne (tgt := 40) hx hb dX10_sum_34 (by decide) (fun q_12 => ?_) (fun q_12 => ?_)
      · have hf := x_iN hf q_12
        refine lv_aload_n hx hb dX10_sum_40 rfl (lv_at hl 0 rfl) ?_
        refine fg_X10_10 (k2 := 1) C hw ic0_0 rfl dX10_sum_41 ?_
        obtain ⟨tv_15, tM_13, c_14, hf⟩ := x_bE hf
        refine x_vI C hw hl.1 [] [] (mX8_hasLaw l g c_14) lk_X10_205 ic0_1 (by decide) rfl (by decide) rfl (Nat.le_of_ble_eq_true rfl) ⟨Nat.zero_le _, Nat.zero_le _⟩ dX10_sum_44 (fun v_15 M_13 H locs hN hw => ?_)
        obtain ⟨rfl, rfl⟩ := hN
        refine lv_if_ne (tgt := 53) hx hb dX10_sum_47 (by decide) (fun q_16 => ?_) (fun q_16 => ?_)
        · have hf := x_iN hf q_16
          refine lv_aload_n hx hb dX10_sum_53 rfl (lv_at hl 0 rfl) ?_
          refine fg_X10_10 (k2 := 1) C hw ic0_0 rfl dX10_sum_54 ?_
          refine lv_iload_n hx hb dX10_sum_57 rfl (lv_at hl 1 rfl) ?_
          refine lv_iload_n hx hb dX10_sum_58 rfl (lv_at hl 2 rfl) ?_
          refine lv_iload_n hx hb dX10_sum_59 rfl (lv_at hl 3 rfl) ?_
          obtain ⟨tv_19, tM_17, c_18, hf⟩ := x_bE hf
          refine x_vI C hw hl.1 [.int a1, .int a2, .int a3] [] (mX8_sumFor l g c_18) lk_X10_211 ic0_1 (by decide) rfl (by decide) rfl (Nat.le_of_ble_eq_true rfl) ⟨Nat.zero_le _, Nat.zero_le _⟩ dX10_sum_60 (fun v_19 M_17 H locs hN hw => ?_)
          obtain ⟨rfl, rfl⟩ := hN
          exact ret hf dX10_sum_63 hw
        · have hf := x_iP hf q_16
          refine lv_ldc hx hb hown (hB _ mk_X10_91) dX10_sum_50 ?_
          exact ret hf dX10_sum_52 hw
      · have hf := x_iP hf q_12
        refine lv_ldc hx hb hown (hB _ mk_X10_61) dX10_sum_37 ?_
        exact ret hf dX10_sum_39 hw
