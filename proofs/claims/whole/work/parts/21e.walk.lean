def fX10_flat (M : xM) (k0 : Nat) (a1 : Int32) (a2 : Int32) : Option (Int32 × xM) := x_b (fX10_isWithin M a1 (0 : Int32) (3 : Int32)) fun v_3 M_1 => if v_3 = 0 then (some ((-1000000001 : Int32), M_1)) else (x_b (fX10_isWithin M_1 a2 (0 : Int32) (9999 : Int32)) fun v_7 M_5 => if v_7 = 0 then (some ((-1000000001 : Int32), M_5)) else (x_g a1 (xn 0 (xr 0 (xr 0 k0 0) 10)) (x_l (M_5 (xr 0 (xr 0 k0 0) 10) a1.toNatClampNeg) fun x3_12 => x_g a1 (xn 0 (xr 0 (xr 0 k0 0) 10)) (x_l (x_up M_5 (xr 0 (xr 0 k0 0) 10) a1.toNatClampNeg a2) fun M_14 => some (x3_12, M_14)))))
set_option maxRecDepth 100000 in
set_option maxHeartbeats 4000000 in
theorem mX10_flat (l : Launch) (g : xG) {k0 : Nat} {a1 : Int32} {a2 : Int32} {r : Int32} {M' : xM} (h0 : x_is 0 k0 10) {M : xM} (hf : fX10_flat M k0 a1 a2 = some (r, M')) : x_cI l g 0 yX10_flat cX10_flat 4 .int 1 22 [.ref (g.2.2.1 k0), .int a1, .int a2] M (fun v N => v = r ∧ N = M') := by
  refine x_stI RX10 (by decide) rfl (Nat.le_of_ble_eq_true rfl) ?_
  intro p e s m args below meth c Q ls C hw ret hl
  obtain ⟨hx, hb, hml, hown, hB, -⟩ := id C
  have hl : lv_has ls 4 [(0, .ref (g.2.2.1 k0)), (1, .int a1), (2, .int a2)] := hl
  unfold fX10_flat at hf
  refine lv_iload_n hx hb dX10_flat_0 rfl (lv_at hl 1 rfl) ?_
  refine lv_iconst (v := (0 : Int32)) hx hb dX10_flat_1 (by decide) ?_
  refine lv_iconst (v := (3 : Int32)) hx hb dX10_flat_2 (by decide) ?_
  obtain ⟨tv_3, tM_1, c_2, hf⟩ := x_bE hf
  refine x_sI C hw hl.1 [.int a1, .int (0 : Int32), .int (3 : Int32)] [] (mX10_isWithin l g c_2) lk_X10_57 (by decide) rfl (Nat.le_of_ble_eq_true rfl) ⟨Nat.zero_le _, Nat.zero_le _⟩ dX10_flat_3 (fun v_3 M_1 H locs hN hw => ?_)
  obtain ⟨rfl, rfl⟩ := hN
  refine lv_if_eq (tgt := 20) hx hb dX10_flat_6 (by decide) (fun q_4 => ?_) (fun q_4 => ?_)
  · have hf := x_iP hf q_4
    refine lv_ldc hx hb hown (hB _ mk_X10_61) dX10_flat_20 ?_
    exact ret hf dX10_flat_22 hw
  · have hf := x_iN hf q_4
    refine lv_iload_n hx hb dX10_flat_9 rfl (lv_at hl 2 rfl) ?_
    refine lv_iconst (v := (0 : Int32)) hx hb dX10_flat_10 (by decide) ?_
    refine lv_sipush (v := (9999 : Int32)) hx hb dX10_flat_11 (by decide) ?_
    obtain ⟨tv_7, tM_5, c_6, hf⟩ := x_bE hf
    refine x_sI C hw hl.1 [.int a2, .int (0 : Int32), .int (9999 : Int32)] [] (mX10_isWithin l g c_6) lk_X10_57 (by decide) rfl (Nat.le_of_ble_eq_true rfl) ⟨Nat.zero_le _, Nat.zero_le _⟩ dX10_flat_14 (fun v_7 M_5 H locs hN hw => ?_)
    obtain ⟨rfl, rfl⟩ := hN
    refine lv_if_ne (tgt := 23) hx hb dX10_flat_17 (by decide) (fun q_8 => ?_) (fun q_8 => ?_)
    · have hf := x_iN hf q_8
      refine lv_aload_n hx hb dX10_flat_23 rfl (lv_at hl 0 rfl) ?_
      refine fg_X10_10 C hw h0 dX10_flat_24 ?_
      have h_9 : x_is 0 (xr 0 k0 0) 8 := x_tr h0 (by decide) (by decide) rfl (by decide)
      refine fg_X10_170 C hw h_9 dX10_flat_27 ?_
      have h_10 : x_is 0 (xr 0 (xr 0 k0 0) 10) 12 := x_tr h_9 (by decide) (by decide) rfl (by decide)
      refine lv_iload_n hx hb dX10_flat_30 rfl (lv_at hl 1 rfl) ?_
      obtain ⟨q_11, hf⟩ := x_gE hf
      refine x_ald C hw h_10 q_11 dX10_flat_31 ?_
      refine lv_topi (fun x3_12 ex3_12 => ?_)
      have hf := x_lE ex3_12 hf
      refine lv_istore_n (lv' := [(3, .int x3_12), (0, .ref (g.2.2.1 k0)), (1, .int a1), (2, .int a2)]) hx hb dX10_flat_32 rfl hl (by decide) rfl (fun ls hl => ?_)
      refine lv_aload_n hx hb dX10_flat_33 rfl (lv_at hl 1 rfl) ?_
      refine fg_X10_10 C hw h0 dX10_flat_34 ?_
      refine fg_X10_170 C hw h_9 dX10_flat_37 ?_
      refine lv_iload_n hx hb dX10_flat_40 rfl (lv_at hl 2 rfl) ?_
      refine lv_iload_n hx hb dX10_flat_41 rfl (lv_at hl 3 rfl) ?_
      obtain ⟨q_13, hf⟩ := x_gE hf
      refine x_ast C hw h_10 q_13 dX10_flat_42 (fun H locs hw => ?_)
      obtain ⟨M_14, eM_14⟩ : ∃ z, z = (x_up M_5 (xr 0 (xr 0 k0 0) 10) a1.toNatClampNeg a2) := ⟨_, rfl⟩
      rw [← eM_14] at hw
      have hf := x_lE eM_14 hf
      refine lv_iload_n hx hb dX10_flat_43 rfl (lv_at hl 0 rfl) ?_
      exact ret hf dX10_flat_44 hw
    · have hf := x_iP hf q_8
      refine lv_ldc hx hb hown (hB _ mk_X10_61) dX10_flat_20 ?_
      exact ret hf dX10_flat_22 hw
def fX10_feed (M : xM) (k0 : Nat) (a1 : Int32) (a2 : Int32) (a3 : Int32) : Option (Int32 × xM) := if ((M (xr 0 (xr 0 k0 3) 0) 1) + (12 : Int32)) ≤ (120 : Int32) then (x_v (fX9_addFour M (xr 0 (xr 0 k0 3) 0) a1) fun M_4 => x_v (fX9_addFour M_4 (xr 0 (xr 0 k0 3) 0) a2) fun M_6 => x_v (fX9_addFour M_6 (xr 0 (xr 0 k0 3) 0) a3) fun M_8 => some ((M_8 (xr 0 (xr 0 k0 3) 0) 1), M_8)) else (some ((-1000000003 : Int32), M))
set_option maxRecDepth 100000 in
set_option maxHeartbeats 4000000 in
theorem mX10_feed (l : Launch) (g : xG) {k0 : Nat} {a1 : Int32} {a2 : Int32} {a3 : Int32} {r : Int32} {M' : xM} (h0 : x_is 0 k0 10) {M : xM} (hf : fX10_feed M k0 a1 a2 a3 = some (r, M')) : x_cI l g 0 yX10_feed cX10_feed 5 .int 1 22 [.ref (g.2.2.1 k0), .int a1, .int a2, .int a3] M (fun v N => v = r ∧ N = M') := by
  refine x_stI RX10 (by decide) rfl (Nat.le_of_ble_eq_true rfl) ?_
  intro p e s m args below meth c Q ls C hw ret hl
  obtain ⟨hx, hb, hml, hown, hB, -⟩ := id C
  have hl : lv_has ls 5 [(0, .ref (g.2.2.1 k0)), (1, .int a1), (2, .int a2), (3, .int a3)] := hl
  unfold fX10_feed at hf
  refine lv_aload_n hx hb dX10_feed_0 rfl (lv_at hl 0 rfl) ?_
  refine fg_X10_26 C hw h0 dX10_feed_1 ?_
  have h_1 : x_is 0 (xr 0 k0 3) 6 := x_tr h0 (by decide) (by decide) rfl (by decide)
  refine fg_X10_173 C hw h_1 dX10_feed_4 ?_
  have h_2 : x_is 0 (xr 0 (xr 0 k0 3) 0) 9 := x_tr h_1 (by decide) (by decide) rfl (by decide)
  refine lv_astore (lv' := [(4, .ref (g.2.2.1 (xr 0 (xr 0 k0 3) 0))), (0, .ref (g.2.2.1 k0)), (1, .int a1), (2, .int a2), (3, .int a3)]) hx hb dX10_feed_7 hl (by decide) rfl (fun ls hl => ?_)
  refine lv_aload hx hb dX10_feed_9 (lv_at hl 0 rfl) ?_
  refine fg_X10_177 C hw h_2 dX10_feed_11 ?_
  refine lv_bipush (v := (12 : Int32)) hx hb dX10_feed_14 (by decide) ?_
  refine lv_iadd hx hb dX10_feed_16 ?_
  refine lv_bipush (v := (120 : Int32)) hx hb dX10_feed_17 (by decide) ?_
  refine lv_icmp_le (tgt := 25) hx hb dX10_feed_19 (by decide) (fun q_3 => ?_) (fun q_3 => ?_)
  · have hf := x_iP hf q_3
    refine lv_aload hx hb dX10_feed_25 (lv_at hl 0 rfl) ?_
    refine lv_iload_n hx hb dX10_feed_27 rfl (lv_at hl 2 rfl) ?_
    obtain ⟨tM_4, c_5, hf⟩ := x_vE hf
    refine x_vV C hw hl.1 [.int a1] [] (mX9_addFour l g h_2 c_5) lk_X10_182 h_2 (by decide) rfl (by decide) rfl (Nat.le_of_ble_eq_true rfl) ⟨Nat.zero_le _, Nat.zero_le _⟩ dX10_feed_28 (fun M_4 H locs hN hw => ?_)
    obtain rfl := hN
    refine lv_aload hx hb dX10_feed_31 (lv_at hl 0 rfl) ?_
    refine lv_iload_n hx hb dX10_feed_33 rfl (lv_at hl 3 rfl) ?_
    obtain ⟨tM_6, c_7, hf⟩ := x_vE hf
    refine x_vV C hw hl.1 [.int a2] [] (mX9_addFour l g h_2 c_7) lk_X10_182 h_2 (by decide) rfl (by decide) rfl (Nat.le_of_ble_eq_true rfl) ⟨Nat.zero_le _, Nat.zero_le _⟩ dX10_feed_34 (fun M_6 H locs hN hw => ?_)
    obtain rfl := hN
    refine lv_aload hx hb dX10_feed_37 (lv_at hl 0 rfl) ?_
    refine lv_iload_n hx hb dX10_feed_39 rfl (lv_at hl 4 rfl) ?_
    obtain ⟨tM_8, c_9, hf⟩ := x_vE hf
    refine x_vV C hw hl.1 [.int a3] [] (mX9_addFour l g h_2 c_9) lk_X10_182 h_2 (by decide) rfl (by decide) rfl (Nat.le_of_ble_eq_true rfl) ⟨Nat.zero_le _, Nat.zero_le _⟩ dX10_feed_40 (fun M_8 H locs hN hw => ?_)
    obtain rfl := hN
    refine lv_aload hx hb dX10_feed_43 (lv_at hl 0 rfl) ?_
    refine fg_X10_177 C hw h_2 dX10_feed_45 ?_
    exact ret hf dX10_feed_48 hw
  · have hf := x_iN hf q_3
    refine lv_ldc hx hb hown (hB _ mk_X10_65) dX10_feed_22 ?_
    exact ret hf dX10_feed_24 hw
def fX10_trim (M : xM) (k0 : Nat) (a1 : Int32) : Option (Int32 × xM) := x_b (fX10_isWithin M a1 (0 : Int32) (M (xr 0 (xr 0 k0 3) 0) 1)) fun v_5 M_3 => if v_5 = 0 then (some ((-1000000001 : Int32), M_3)) else (x_l (x_up M_3 (xr 0 (xr 0 k0 3) 0) 1 a1) fun M_7 => some (a1, M_7))
set_option maxRecDepth 100000 in
set_option maxHeartbeats 4000000 in
theorem mX10_trim (l : Launch) (g : xG) {k0 : Nat} {a1 : Int32} {r : Int32} {M' : xM} (h0 : x_is 0 k0 10) {M : xM} (hf : fX10_trim M k0 a1 = some (r, M')) : x_cI l g 0 yX10_trim cX10_trim 2 .int 1 22 [.ref (g.2.2.1 k0), .int a1] M (fun v N => v = r ∧ N = M') := by
  refine x_stI RX10 (by decide) rfl (Nat.le_of_ble_eq_true rfl) ?_
  intro p e s m args below meth c Q ls C hw ret hl
  obtain ⟨hx, hb, hml, hown, hB, -⟩ := id C
  have hl : lv_has ls 2 [(0, .ref (g.2.2.1 k0)), (1, .int a1)] := hl
  unfold fX10_trim at hf
  refine lv_iload_n hx hb dX10_trim_0 rfl (lv_at hl 1 rfl) ?_
  refine lv_iconst (v := (0 : Int32)) hx hb dX10_trim_1 (by decide) ?_
  refine lv_aload_n hx hb dX10_trim_2 rfl (lv_at hl 0 rfl) ?_
  refine fg_X10_26 C hw h0 dX10_trim_3 ?_
  have h_1 : x_is 0 (xr 0 k0 3) 6 := x_tr h0 (by decide) (by decide) rfl (by decide)
  refine fg_X10_173 C hw h_1 dX10_trim_6 ?_
  have h_2 : x_is 0 (xr 0 (xr 0 k0 3) 0) 9 := x_tr h_1 (by decide) (by decide) rfl (by decide)
  refine fg_X10_177 C hw h_2 dX10_trim_9 ?_
  obtain ⟨tv_5, tM_3, c_4, hf⟩ := x_bE hf
  refine x_sI C hw hl.1 [.int a1, .int (0 : Int32), .int (M (xr 0 (xr 0 k0 3) 0) 1)] [] (mX10_isWithin l g c_4) lk_X10_57 (by decide) rfl (Nat.le_of_ble_eq_true rfl) ⟨Nat.zero_le _, Nat.zero_le _⟩ dX10_trim_12 (fun v_5 M_3 H locs hN hw => ?_)
  obtain ⟨rfl, rfl⟩ := hN
  refine lv_if_ne (tgt := 21) hx hb dX10_trim_15 (by decide) (fun q_6 => ?_) (fun q_6 => ?_)
  · have hf := x_iN hf q_6
    refine lv_aload_n hx hb dX10_trim_21 rfl (lv_at hl 0 rfl) ?_
    refine fg_X10_26 C hw h0 dX10_trim_22 ?_
    refine fg_X10_173 C hw h_1 dX10_trim_25 ?_
    refine lv_iload_n hx hb dX10_trim_28 rfl (lv_at hl 1 rfl) ?_
    refine fp_X10_177 C hw h_2 dX10_trim_29 (fun H locs hw => ?_)
    obtain ⟨M_7, eM_7⟩ : ∃ z, z = (x_up M_3 (xr 0 (xr 0 k0 3) 0) 1 a1) := ⟨_, rfl⟩
    rw [← eM_7] at hw
    have hf := x_lE eM_7 hf
    refine lv_iload_n hx hb dX10_trim_32 rfl (lv_at hl 1 rfl) ?_
    exact ret hf dX10_trim_33 hw
  · have hf := x_iP hf q_6
    refine lv_ldc hx hb hown (hB _ mk_X10_61) dX10_trim_18 ?_
    exact ret hf dX10_trim_20 hw
def fX10_worth (M : xM) (k0 : Nat) (a1 : Int32) : Option (Int32 × xM) := x_b (fX8_hasDeed M (xr 0 k0 0) a1) fun v_4 M_2 => if v_4 = 0 then (some ((-1000000001 : Int32), M_2)) else (x_b (fX8_hasLaw M_2 (xr 0 k0 0)) fun v_8 M_6 => if v_8 = 0 then (some ((-1000000002 : Int32), M_6)) else (x_g a1 (xn 0 (xr 0 (xr 0 k0 0) 7)) (x_b (fX8_daysFor M_6 (xr 0 k0 0) (xr 0 (xr 0 (xr 0 k0 0) 7) a1.toNatClampNeg)) fun v_15 M_13 => some (v_15, M_13))))
set_option maxRecDepth 100000 in
set_option maxHeartbeats 4000000 in
theorem mX10_worth (l : Launch) (g : xG) {k0 : Nat} {a1 : Int32} {r : Int32} {M' : xM} (h0 : x_is 0 k0 10) {M : xM} (hf : fX10_worth M k0 a1 = some (r, M')) : x_cI l g 0 yX10_worth cX10_worth 2 .int 4 89 [.ref (g.2.2.1 k0), .int a1] M (fun v N => v = r ∧ N = M') := by
  refine x_stI RX10 (by decide) rfl (Nat.le_of_ble_eq_true rfl) ?_
  intro p e s m args below meth c Q ls C hw ret hl
  obtain ⟨hx, hb, hml, hown, hB, -⟩ := id C
  have hl : lv_has ls 2 [(0, .ref (g.2.2.1 k0)), (1, .int a1)] := hl
  unfold fX10_worth at hf
  refine lv_aload_n hx hb dX10_worth_0 rfl (lv_at hl 0 rfl) ?_
  refine fg_X10_10 C hw h0 dX10_worth_1 ?_
  have h_1 : x_is 0 (xr 0 k0 0) 8 := x_tr h0 (by decide) (by decide) rfl (by decide)
  refine lv_iload_n hx hb dX10_worth_4 rfl (lv_at hl 1 rfl) ?_
  obtain ⟨tv_4, tM_2, c_3, hf⟩ := x_bE hf
  refine x_vI C hw hl.1 [.int a1] [] (mX8_hasDeed l g h_1 c_3) lk_X10_143 h_1 (by decide) rfl (by decide) rfl (Nat.le_of_ble_eq_true rfl) ⟨Nat.zero_le _, Nat.zero_le _⟩ dX10_worth_5 (fun v_4 M_2 H locs hN hw => ?_)
  obtain ⟨rfl, rfl⟩ := hN
  refine lv_if_ne (tgt := 14) hx hb dX10_worth_8 (by decide) (fun q_5 => ?_) (fun q_5 => ?_)
  · have hf := x_iN hf q_5
    refine lv_aload_n hx hb dX10_worth_14 rfl (lv_at hl 0 rfl) ?_
    refine fg_X10_10 C hw h0 dX10_worth_15 ?_
    obtain ⟨tv_8, tM_6, c_7, hf⟩ := x_bE hf
    refine x_vI C hw hl.1 [] [] (mX8_hasLaw l g h_1 c_7) lk_X10_205 h_1 (by decide) rfl (by decide) rfl (Nat.le_of_ble_eq_true rfl) ⟨Nat.zero_le _, Nat.zero_le _⟩ dX10_worth_18 (fun v_8 M_6 H locs hN hw => ?_)
    obtain ⟨rfl, rfl⟩ := hN
    refine lv_if_ne (tgt := 27) hx hb dX10_worth_21 (by decide) (fun q_9 => ?_) (fun q_9 => ?_)
    · have hf := x_iN hf q_9
      refine lv_aload_n hx hb dX10_worth_27 rfl (lv_at hl 0 rfl) ?_
      refine fg_X10_10 C hw h0 dX10_worth_28 ?_
      refine lv_aload_n hx hb dX10_worth_31 rfl (lv_at hl 0 rfl) ?_
      refine fg_X10_10 C hw h0 dX10_worth_32 ?_
      refine fg_X10_134 C hw h_1 dX10_worth_35 ?_
      have h_10 : x_is 0 (xr 0 (xr 0 k0 0) 7) 14 := x_tr h_1 (by decide) (by decide) rfl (by decide)
      refine lv_iload_n hx hb dX10_worth_38 rfl (lv_at hl 1 rfl) ?_
      obtain ⟨q_11, hf⟩ := x_gE hf
      refine x_rld (t := 2) C hw h_10 (by decide) rfl q_11 dX10_worth_39 ?_
      have h_12 : x_is 0 (xr 0 (xr 0 (xr 0 k0 0) 7) a1.toNatClampNeg) 0 := x_ta h_10 (by decide) (x_ilt q_11)
      obtain ⟨tv_15, tM_13, c_14, hf⟩ := x_bE hf
      refine x_vI C hw hl.1 [.ref (g.2.2.1 (xr 0 (xr 0 (xr 0 k0 0) 7) a1.toNatClampNeg))] [] (mX8_daysFor l g h_1 h_12 c_14) lk_X10_208 h_1 (by decide) rfl (by decide) rfl (Nat.le_of_ble_eq_true rfl) ⟨Nat.zero_le _, Nat.zero_le _⟩ dX10_worth_40 (fun v_15 M_13 H locs hN hw => ?_)
      obtain ⟨rfl, rfl⟩ := hN
      exact ret hf dX10_worth_43 hw
    · have hf := x_iP hf q_9
      refine lv_ldc hx hb hown (hB _ mk_X10_91) dX10_worth_24 ?_
      exact ret hf dX10_worth_26 hw
  · have hf := x_iP hf q_5
    refine lv_ldc hx hb hown (hB _ mk_X10_61) dX10_worth_11 ?_
    exact ret hf dX10_worth_13 hw
def fX10_sum (M : xM) (k0 : Nat) (a1 : Int32) (a2 : Int32) (a3 : Int32) : Option (Int32 × xM) := x_b (fX8_hasPerson M (xr 0 k0 0) a1) fun v_4 M_2 => if v_4 = 0 then (some ((-1000000001 : Int32), M_2)) else (x_b (fX10_isWithin M_2 a2 (0 : Int32) (3000 : Int32)) fun v_8 M_6 => if v_8 = 0 then (some ((-1000000001 : Int32), M_6)) else (x_b (fX10_isWithin M_6 a3 (0 : Int32) (M_6 (xr 0 k0 0) 0)) fun v_12 M_10 => if v_12 = 0 then (some ((-1000000001 : Int32), M_10)) else (x_b (fX8_hasLaw M_10 (xr 0 k0 0)) fun v_16 M_14 => if v_16 = 0 then (some ((-1000000002 : Int32), M_14)) else (x_b (fX8_sumFor M_14 (xr 0 k0 0) a1 a2 a3) fun v_20 M_18 => some (v_20, M_18)))))
set_option maxRecDepth 100000 in
set_option maxHeartbeats 4000000 in
theorem mX10_sum (l : Launch) (g : xG) {k0 : Nat} {a1 : Int32} {a2 : Int32} {a3 : Int32} {r : Int32} {M' : xM} (h0 : x_is 0 k0 10) {M : xM} (hf : fX10_sum M k0 a1 a2 a3 = some (r, M')) : x_cI l g 0 yX10_sum cX10_sum 4 .int 5 122 [.ref (g.2.2.1 k0), .int a1, .int a2, .int a3] M (fun v N => v = r ∧ N = M') := by
  refine x_stI RX10 (by decide) rfl (Nat.le_of_ble_eq_true rfl) ?_
  intro p e s m args below meth c Q ls C hw ret hl
  obtain ⟨hx, hb, hml, hown, hB, -⟩ := id C
  have hl : lv_has ls 4 [(0, .ref (g.2.2.1 k0)), (1, .int a1), (2, .int a2), (3, .int a3)] := hl
  unfold fX10_sum at hf
  refine lv_aload_n hx hb dX10_sum_0 rfl (lv_at hl 0 rfl) ?_
  refine fg_X10_10 C hw h0 dX10_sum_1 ?_
  have h_1 : x_is 0 (xr 0 k0 0) 8 := x_tr h0 (by decide) (by decide) rfl (by decide)
  refine lv_iload_n hx hb dX10_sum_4 rfl (lv_at hl 1 rfl) ?_
  obtain ⟨tv_4, tM_2, c_3, hf⟩ := x_bE hf
  refine x_vI C hw hl.1 [.int a1] [] (mX8_hasPerson l g h_1 c_3) lk_X10_76 h_1 (by decide) rfl (by decide) rfl (Nat.le_of_ble_eq_true rfl) ⟨Nat.zero_le _, Nat.zero_le _⟩ dX10_sum_5 (fun v_4 M_2 H locs hN hw => ?_)
  obtain ⟨rfl, rfl⟩ := hN
  refine lv_if_eq (tgt := 37) hx hb dX10_sum_8 (by decide) (fun q_5 => ?_) (fun q_5 => ?_)
  · have hf := x_iP hf q_5
    refine lv_ldc hx hb hown (hB _ mk_X10_61) dX10_sum_37 ?_
    exact ret hf dX10_sum_39 hw
  · have hf := x_iN hf q_5
    refine lv_iload_n hx hb dX10_sum_11 rfl (lv_at hl 2 rfl) ?_
    refine lv_iconst (v := (0 : Int32)) hx hb dX10_sum_12 (by decide) ?_
    refine lv_sipush (v := (3000 : Int32)) hx hb dX10_sum_13 (by decide) ?_
    obtain ⟨tv_8, tM_6, c_7, hf⟩ := x_bE hf
    refine x_sI C hw hl.1 [.int a2, .int (0 : Int32), .int (3000 : Int32)] [] (mX10_isWithin l g c_7) lk_X10_57 (by decide) rfl (Nat.le_of_ble_eq_true rfl) ⟨Nat.zero_le _, Nat.zero_le _⟩ dX10_sum_16 (fun v_8 M_6 H locs hN hw => ?_)
    obtain ⟨rfl, rfl⟩ := hN
    refine lv_if_eq (tgt := 37) hx hb dX10_sum_19 (by decide) (fun q_9 => ?_) (fun q_9 => ?_)
    · have hf := x_iP hf q_9
      refine lv_ldc hx hb hown (hB _ mk_X10_61) dX10_sum_37 ?_
      exact ret hf dX10_sum_39 hw
    · have hf := x_iN hf q_9
      refine lv_iload_n hx hb dX10_sum_22 rfl (lv_at hl 3 rfl) ?_
      refine lv_iconst (v := (0 : Int32)) hx hb dX10_sum_23 (by decide) ?_
      refine lv_aload_n hx hb dX10_sum_24 rfl (lv_at hl 0 rfl) ?_
      refine fg_X10_10 C hw h0 dX10_sum_25 ?_
      refine fg_X10_108 C hw h_1 dX10_sum_28 ?_
      obtain ⟨tv_12, tM_10, c_11, hf⟩ := x_bE hf
      refine x_sI C hw hl.1 [.int a3, .int (0 : Int32), .int (M_6 (xr 0 k0 0) 0)] [] (mX10_isWithin l g c_11) lk_X10_57 (by decide) rfl (Nat.le_of_ble_eq_true rfl) ⟨Nat.zero_le _, Nat.zero_le _⟩ dX10_sum_31 (fun v_12 M_10 H locs hN hw => ?_)
      obtain ⟨rfl, rfl⟩ := hN
      refine lv_if_ne (tgt := 40) hx hb dX10_sum_34 (by decide) (fun q_13 => ?_) (fun q_13 => ?_)
      · have hf := x_iN hf q_13
        refine lv_aload_n hx hb dX10_sum_40 rfl (lv_at hl 0 rfl) ?_
        refine fg_X10_10 C hw h0 dX10_sum_41 ?_
        obtain ⟨tv_16, tM_14, c_15, hf⟩ := x_bE hf
        refine x_vI C hw hl.1 [] [] (mX8_hasLaw l g h_1 c_15) lk_X10_205 h_1 (by decide) rfl (by decide) rfl (Nat.le_of_ble_eq_true rfl) ⟨Nat.zero_le _, Nat.zero_le _⟩ dX10_sum_44 (fun v_16 M_14 H locs hN hw => ?_)
        obtain ⟨rfl, rfl⟩ := hN
        refine lv_if_ne (tgt := 53) hx hb dX10_sum_47 (by decide) (fun q_17 => ?_) (fun q_17 => ?_)
        · have hf := x_iN hf q_17
          refine lv_aload_n hx hb dX10_sum_53 rfl (lv_at hl 0 rfl) ?_
          refine fg_X10_10 C hw h0 dX10_sum_54 ?_
          refine lv_iload_n hx hb dX10_sum_57 rfl (lv_at hl 1 rfl) ?_
          refine lv_iload_n hx hb dX10_sum_58 rfl (lv_at hl 2 rfl) ?_
          refine lv_iload_n hx hb dX10_sum_59 rfl (lv_at hl 3 rfl) ?_
          obtain ⟨tv_20, tM_18, c_19, hf⟩ := x_bE hf
          refine x_vI C hw hl.1 [.int a1, .int a2, .int a3] [] (mX8_sumFor l g h_1 c_19) lk_X10_211 h_1 (by decide) rfl (by decide) rfl (Nat.le_of_ble_eq_true rfl) ⟨Nat.zero_le _, Nat.zero_le _⟩ dX10_sum_60 (fun v_20 M_18 H locs hN hw => ?_)
          obtain ⟨rfl, rfl⟩ := hN
          exact ret hf dX10_sum_63 hw
        · have hf := x_iP hf q_17
          refine lv_ldc hx hb hown (hB _ mk_X10_91) dX10_sum_50 ?_
          exact ret hf dX10_sum_52 hw
      · have hf := x_iP hf q_13
        refine lv_ldc hx hb hown (hB _ mk_X10_61) dX10_sum_37 ?_
        exact ret hf dX10_sum_39 hw
def fX10_judge (M : xM) (k0 : Nat) (a1 : Int32) : Option (Int32 × xM) := x_b (fX8_hasPerson M (xr 0 k0 0) a1) fun v_4 M_2 => if v_4 = 0 then (some ((-1000000001 : Int32), M_2)) else (x_b (fX8_hasLaw M_2 (xr 0 k0 0)) fun v_8 M_6 => if v_8 = 0 then (some ((-1000000002 : Int32), M_6)) else (x_b (fX8_hasOpenDeed M_6 (xr 0 k0 0) a1) fun v_12 M_10 => if v_12 = 0 then (some ((-1000000002 : Int32), M_10)) else (if (M_10 (xr 0 k0 0) 4) < (16 : Int32) then (x_b (fX8_joinedDays M_10 (xr 0 k0 0) a1) fun v_17 M_15 => x_g a1 (xn 0 (xr 0 (xr 0 k0 0) 5)) (x_l (if (M_15 (xr 0 (xr 0 (xr 0 k0 0) 5) a1.toNatClampNeg) 2) < v_17 then (M_15 (xr 0 (xr 0 (xr 0 k0 0) 5) a1.toNatClampNeg) 2) else v_17) fun x3_21 => x_g a1 (xn 0 (xr 0 (xr 0 k0 0) 5)) (x_l (x_up M_15 (xr 0 (xr 0 (xr 0 k0 0) 5) a1.toNatClampNeg) 2 ((M_15 (xr 0 (xr 0 (xr 0 k0 0) 5) a1.toNatClampNeg) 2) - x3_21)) fun M_23 => x_g (M_23 (xr 0 k0 0) 4) (xn 0 (xr 0 (xr 0 k0 0) 8)) (x_v (fX2_begin M_23 (xr 0 (xr 0 (xr 0 k0 0) 8) (M_23 (xr 0 k0 0) 4).toNatClampNeg) a1 (M_23 (xr 0 k0 0) 0)) fun M_27 => x_l (x_up M_27 (xr 0 (xr 0 (xr 0 k0 0) 8) (M_23 (xr 0 k0 0) 4).toNatClampNeg) 2 (v_17 - x3_21)) fun M_29 => x_b (fX8_sumFor M_29 (xr 0 k0 0) a1 (M_29 (xr 0 k0 0) 0) (M_29 (xr 0 k0 0) 0)) fun v_32 M_30 => x_l (x_up M_30 (xr 0 (xr 0 (xr 0 k0 0) 8) (M_23 (xr 0 k0 0) 4).toNatClampNeg) 3 v_32) fun M_33 => x_v (fX8_takeOpenDeeds M_33 (xr 0 k0 0) a1 (M_33 (xr 0 k0 0) 4)) fun M_34 => x_l (x_up M_34 (xr 0 k0 0) 4 ((M_34 (xr 0 k0 0) 4) + (1 : Int32))) fun M_36 => some (((M_36 (xr 0 k0 0) 4) - (1 : Int32)), M_36))))) else (some ((-1000000003 : Int32), M_10)))))
set_option maxRecDepth 100000 in
set_option maxHeartbeats 4000000 in
theorem mX10_judge (l : Launch) (g : xG) {k0 : Nat} {a1 : Int32} {r : Int32} {M' : xM} (h0 : x_is 0 k0 10) {M : xM} (hf : fX10_judge M k0 a1 = some (r, M')) : x_cI l g 0 yX10_judge cX10_judge 5 .int 5 122 [.ref (g.2.2.1 k0), .int a1] M (fun v N => v = r ∧ N = M') := by
  refine x_stI RX10 (by decide) rfl (Nat.le_of_ble_eq_true rfl) ?_
  intro p e s m args below meth c Q ls C hw ret hl
  obtain ⟨hx, hb, hml, hown, hB, -⟩ := id C
  have hl : lv_has ls 5 [(0, .ref (g.2.2.1 k0)), (1, .int a1)] := hl
  unfold fX10_judge at hf
  refine lv_aload_n hx hb dX10_judge_0 rfl (lv_at hl 0 rfl) ?_
  refine fg_X10_10 C hw h0 dX10_judge_1 ?_
  have h_1 : x_is 0 (xr 0 k0 0) 8 := x_tr h0 (by decide) (by decide) rfl (by decide)
  refine lv_iload_n hx hb dX10_judge_4 rfl (lv_at hl 1 rfl) ?_
  obtain ⟨tv_4, tM_2, c_3, hf⟩ := x_bE hf
  refine x_vI C hw hl.1 [.int a1] [] (mX8_hasPerson l g h_1 c_3) lk_X10_76 h_1 (by decide) rfl (by decide) rfl (Nat.le_of_ble_eq_true rfl) ⟨Nat.zero_le _, Nat.zero_le _⟩ dX10_judge_5 (fun v_4 M_2 H locs hN hw => ?_)
  obtain ⟨rfl, rfl⟩ := hN
  refine lv_if_ne (tgt := 14) hx hb dX10_judge_8 (by decide) (fun q_5 => ?_) (fun q_5 => ?_)
  · have hf := x_iN hf q_5
    refine lv_aload_n hx hb dX10_judge_14 rfl (lv_at hl 0 rfl) ?_
    refine fg_X10_10 C hw h0 dX10_judge_15 ?_
    obtain ⟨tv_8, tM_6, c_7, hf⟩ := x_bE hf
    refine x_vI C hw hl.1 [] [] (mX8_hasLaw l g h_1 c_7) lk_X10_205 h_1 (by decide) rfl (by decide) rfl (Nat.le_of_ble_eq_true rfl) ⟨Nat.zero_le _, Nat.zero_le _⟩ dX10_judge_18 (fun v_8 M_6 H locs hN hw => ?_)
    obtain ⟨rfl, rfl⟩ := hN
    refine lv_if_eq (tgt := 35) hx hb dX10_judge_21 (by decide) (fun q_9 => ?_) (fun q_9 => ?_)
    · have hf := x_iP hf q_9
      refine lv_ldc hx hb hown (hB _ mk_X10_91) dX10_judge_35 ?_
      exact ret hf dX10_judge_37 hw
    · have hf := x_iN hf q_9
      refine lv_aload_n hx hb dX10_judge_24 rfl (lv_at hl 0 rfl) ?_
      refine fg_X10_10 C hw h0 dX10_judge_25 ?_
      refine lv_iload_n hx hb dX10_judge_28 rfl (lv_at hl 1 rfl) ?_
      obtain ⟨tv_12, tM_10, c_11, hf⟩ := x_bE hf
      refine x_vI C hw hl.1 [.int a1] [] (mX8_hasOpenDeed l g h_1 c_11) lk_X10_214 h_1 (by decide) rfl (by decide) rfl (Nat.le_of_ble_eq_true rfl) ⟨Nat.zero_le _, Nat.zero_le _⟩ dX10_judge_29 (fun v_12 M_10 H locs hN hw => ?_)
      obtain ⟨rfl, rfl⟩ := hN
      refine lv_if_ne (tgt := 38) hx hb dX10_judge_32 (by decide) (fun q_13 => ?_) (fun q_13 => ?_)
      · have hf := x_iN hf q_13
        refine lv_aload_n hx hb dX10_judge_38 rfl (lv_at hl 0 rfl) ?_
        refine fg_X10_10 C hw h0 dX10_judge_39 ?_
        refine fg_X10_217 C hw h_1 dX10_judge_42 ?_
        refine lv_bipush (v := (16 : Int32)) hx hb dX10_judge_45 (by decide) ?_
        refine lv_icmp_lt (tgt := 53) hx hb dX10_judge_47 (by decide) (fun q_14 => ?_) (fun q_14 => ?_)
        · have hf := x_iP hf q_14
          refine lv_aload_n hx hb dX10_judge_53 rfl (lv_at hl 0 rfl) ?_
          refine fg_X10_10 C hw h0 dX10_judge_54 ?_
          refine lv_iload_n hx hb dX10_judge_57 rfl (lv_at hl 1 rfl) ?_
          obtain ⟨tv_17, tM_15, c_16, hf⟩ := x_bE hf
          refine x_vI C hw hl.1 [.int a1] [] (mX8_joinedDays l g h_1 c_16) lk_X10_220 h_1 (by decide) rfl (by decide) rfl (Nat.le_of_ble_eq_true rfl) ⟨Nat.zero_le _, Nat.zero_le _⟩ dX10_judge_58 (fun v_17 M_15 H locs hN hw => ?_)
          obtain ⟨rfl, rfl⟩ := hN
          refine lv_istore_n (lv' := [(2, .int v_17), (0, .ref (g.2.2.1 k0)), (1, .int a1)]) hx hb dX10_judge_61 rfl hl (by decide) rfl (fun ls hl => ?_)
          refine lv_iload_n hx hb dX10_judge_62 rfl (lv_at hl 0 rfl) ?_
          refine lv_aload_n hx hb dX10_judge_63 rfl (lv_at hl 1 rfl) ?_
          refine fg_X10_10 C hw h0 dX10_judge_64 ?_
          refine fg_X10_66 C hw h_1 dX10_judge_67 ?_
          have h_18 : x_is 0 (xr 0 (xr 0 k0 0) 5) 17 := x_tr h_1 (by decide) (by decide) rfl (by decide)
          refine lv_iload_n hx hb dX10_judge_70 rfl (lv_at hl 2 rfl) ?_
          obtain ⟨q_19, hf⟩ := x_gE hf
          refine x_rld (t := 5) C hw h_18 (by decide) rfl q_19 dX10_judge_71 ?_
          have h_20 : x_is 0 (xr 0 (xr 0 (xr 0 k0 0) 5) a1.toNatClampNeg) 4 := x_ta h_18 (by decide) (x_ilt q_19)
          refine fg_X10_122 C hw h_20 dX10_judge_72 ?_
          refine mm_X10_224 C hl.1 (Nat.le_of_ble_eq_true rfl) (Nat.le_of_ble_eq_true rfl) ⟨Nat.zero_le _, Nat.zero_le _⟩ dX10_judge_75 ?_
          refine lv_topi (fun x3_21 ex3_21 => ?_)
          have hf := x_lE ex3_21 hf
          refine lv_istore_n (lv' := [(3, .int x3_21), (2, .int v_17), (0, .ref (g.2.2.1 k0)), (1, .int a1)]) hx hb dX10_judge_78 rfl hl (by decide) rfl (fun ls hl => ?_)
          refine lv_aload_n hx hb dX10_judge_79 rfl (lv_at hl 2 rfl) ?_
          refine fg_X10_10 C hw h0 dX10_judge_80 ?_
          refine fg_X10_66 C hw h_1 dX10_judge_83 ?_
          refine lv_iload_n hx hb dX10_judge_86 rfl (lv_at hl 3 rfl) ?_
          obtain ⟨q_22, hf⟩ := x_gE hf
          refine x_rld (t := 5) C hw h_18 (by decide) rfl q_22 dX10_judge_87 ?_
          refine lv_dup hx hb dX10_judge_88 rfl ?_
          refine fg_X10_122 C hw h_20 dX10_judge_89 ?_
          refine lv_iload_n hx hb dX10_judge_92 rfl (lv_at hl 0 rfl) ?_
          refine lv_isub hx hb dX10_judge_93 ?_
          refine fp_X10_122 C hw h_20 dX10_judge_94 (fun H locs hw => ?_)
          obtain ⟨M_23, eM_23⟩ : ∃ z, z = (x_up M_15 (xr 0 (xr 0 (xr 0 k0 0) 5) a1.toNatClampNeg) 2 ((M_15 (xr 0 (xr 0 (xr 0 k0 0) 5) a1.toNatClampNeg) 2) - x3_21)) := ⟨_, rfl⟩
          rw [← eM_23] at hw
          have hf := x_lE eM_23 hf
          refine lv_aload_n hx hb dX10_judge_97 rfl (lv_at hl 2 rfl) ?_
          refine fg_X10_10 C hw h0 dX10_judge_98 ?_
          refine fg_X10_230 C hw h_1 dX10_judge_101 ?_
          have h_24 : x_is 0 (xr 0 (xr 0 k0 0) 8) 16 := x_tr h_1 (by decide) (by decide) rfl (by decide)
          refine lv_aload_n hx hb dX10_judge_104 rfl (lv_at hl 2 rfl) ?_
          refine fg_X10_10 C hw h0 dX10_judge_105 ?_
          refine fg_X10_217 C hw h_1 dX10_judge_108 ?_
          obtain ⟨q_25, hf⟩ := x_gE hf
          refine x_rld (t := 4) C hw h_24 (by decide) rfl q_25 dX10_judge_111 ?_
          have h_26 : x_is 0 (xr 0 (xr 0 (xr 0 k0 0) 8) (M_23 (xr 0 k0 0) 4).toNatClampNeg) 2 := x_ta h_24 (by decide) (x_ilt q_25)
          refine lv_astore (lv' := [(4, .ref (g.2.2.1 (xr 0 (xr 0 (xr 0 k0 0) 8) (M_23 (xr 0 k0 0) 4).toNatClampNeg))), (3, .int x3_21), (2, .int v_17), (0, .ref (g.2.2.1 k0)), (1, .int a1)]) hx hb dX10_judge_112 hl (by decide) rfl (fun ls hl => ?_)
          refine lv_aload hx hb dX10_judge_114 (lv_at hl 0 rfl) ?_
          refine lv_iload_n hx hb dX10_judge_116 rfl (lv_at hl 4 rfl) ?_
          refine lv_aload_n hx hb dX10_judge_117 rfl (lv_at hl 3 rfl) ?_
          refine fg_X10_10 C hw h0 dX10_judge_118 ?_
          refine fg_X10_108 C hw h_1 dX10_judge_121 ?_
          obtain ⟨tM_27, c_28, hf⟩ := x_vE hf
          refine x_vV C hw hl.1 [.int a1, .int (M_23 (xr 0 k0 0) 0)] [] (mX2_begin l g h_26 c_28) lk_X10_234 h_26 (by decide) rfl (by decide) rfl (Nat.le_of_ble_eq_true rfl) ⟨Nat.zero_le _, Nat.zero_le _⟩ dX10_judge_124 (fun M_27 H locs hN hw => ?_)
          obtain rfl := hN
          refine lv_aload hx hb dX10_judge_127 (lv_at hl 0 rfl) ?_
          refine lv_iload_n hx hb dX10_judge_129 rfl (lv_at hl 2 rfl) ?_
          refine lv_iload_n hx hb dX10_judge_130 rfl (lv_at hl 1 rfl) ?_
          refine lv_isub hx hb dX10_judge_131 ?_
          refine fp_X10_239 C hw h_26 dX10_judge_132 (fun H locs hw => ?_)
          obtain ⟨M_29, eM_29⟩ : ∃ z, z = (x_up M_27 (xr 0 (xr 0 (xr 0 k0 0) 8) (M_23 (xr 0 k0 0) 4).toNatClampNeg) 2 (v_17 - x3_21)) := ⟨_, rfl⟩
          rw [← eM_29] at hw
          have hf := x_lE eM_29 hf
          refine lv_aload hx hb dX10_judge_135 (lv_at hl 0 rfl) ?_
          refine lv_aload_n hx hb dX10_judge_137 rfl (lv_at hl 3 rfl) ?_
          refine fg_X10_10 C hw h0 dX10_judge_138 ?_
          refine lv_iload_n hx hb dX10_judge_141 rfl (lv_at hl 4 rfl) ?_
          refine lv_aload_n hx hb dX10_judge_142 rfl (lv_at hl 3 rfl) ?_
          refine fg_X10_10 C hw h0 dX10_judge_143 ?_
          refine fg_X10_108 C hw h_1 dX10_judge_146 ?_
          refine lv_aload_n hx hb dX10_judge_149 rfl (lv_at hl 3 rfl) ?_
          refine fg_X10_10 C hw h0 dX10_judge_150 ?_
          refine fg_X10_108 C hw h_1 dX10_judge_153 ?_
          obtain ⟨tv_32, tM_30, c_31, hf⟩ := x_bE hf
          refine x_vI C hw hl.1 [.int a1, .int (M_29 (xr 0 k0 0) 0), .int (M_29 (xr 0 k0 0) 0)] [.ref (g.2.2.1 (xr 0 (xr 0 (xr 0 k0 0) 8) (M_23 (xr 0 k0 0) 4).toNatClampNeg))] (mX8_sumFor l g h_1 c_31) lk_X10_211 h_1 (by decide) rfl (by decide) rfl (Nat.le_of_ble_eq_true rfl) ⟨Nat.zero_le _, Nat.zero_le _⟩ dX10_judge_156 (fun v_32 M_30 H locs hN hw => ?_)
          obtain ⟨rfl, rfl⟩ := hN
          refine fp_X10_242 C hw h_26 dX10_judge_159 (fun H locs hw => ?_)
          obtain ⟨M_33, eM_33⟩ : ∃ z, z = (x_up M_30 (xr 0 (xr 0 (xr 0 k0 0) 8) (M_23 (xr 0 k0 0) 4).toNatClampNeg) 3 v_32) := ⟨_, rfl⟩
          rw [← eM_33] at hw
          have hf := x_lE eM_33 hf
          refine lv_aload_n hx hb dX10_judge_162 rfl (lv_at hl 3 rfl) ?_
          refine fg_X10_10 C hw h0 dX10_judge_163 ?_
          refine lv_iload_n hx hb dX10_judge_166 rfl (lv_at hl 4 rfl) ?_
          refine lv_aload_n hx hb dX10_judge_167 rfl (lv_at hl 3 rfl) ?_
          refine fg_X10_10 C hw h0 dX10_judge_168 ?_
          refine fg_X10_217 C hw h_1 dX10_judge_171 ?_
          obtain ⟨tM_34, c_35, hf⟩ := x_vE hf
          refine x_vV C hw hl.1 [.int a1, .int (M_33 (xr 0 k0 0) 4)] [] (mX8_takeOpenDeeds l g h_1 c_35) lk_X10_245 h_1 (by decide) rfl (by decide) rfl (Nat.le_of_ble_eq_true rfl) ⟨Nat.zero_le _, Nat.zero_le _⟩ dX10_judge_174 (fun M_34 H locs hN hw => ?_)
          obtain rfl := hN
          refine lv_aload_n hx hb dX10_judge_177 rfl (lv_at hl 3 rfl) ?_
          refine fg_X10_10 C hw h0 dX10_judge_178 ?_
          refine lv_dup hx hb dX10_judge_181 rfl ?_
          refine fg_X10_217 C hw h_1 dX10_judge_182 ?_
          refine lv_iconst (v := (1 : Int32)) hx hb dX10_judge_185 (by decide) ?_
          refine lv_iadd hx hb dX10_judge_186 ?_
          refine fp_X10_217 C hw h_1 dX10_judge_187 (fun H locs hw => ?_)
          obtain ⟨M_36, eM_36⟩ : ∃ z, z = (x_up M_34 (xr 0 k0 0) 4 ((M_34 (xr 0 k0 0) 4) + (1 : Int32))) := ⟨_, rfl⟩
          rw [← eM_36] at hw
          have hf := x_lE eM_36 hf
          refine lv_aload_n hx hb dX10_judge_190 rfl (lv_at hl 3 rfl) ?_
          refine fg_X10_10 C hw h0 dX10_judge_191 ?_
          refine fg_X10_217 C hw h_1 dX10_judge_194 ?_
          refine lv_iconst (v := (1 : Int32)) hx hb dX10_judge_197 (by decide) ?_
          refine lv_isub hx hb dX10_judge_198 ?_
          exact ret hf dX10_judge_199 hw
        · have hf := x_iN hf q_14
          refine lv_ldc hx hb hown (hB _ mk_X10_65) dX10_judge_50 ?_
          exact ret hf dX10_judge_52 hw
      · have hf := x_iP hf q_13
        refine lv_ldc hx hb hown (hB _ mk_X10_91) dX10_judge_35 ?_
        exact ret hf dX10_judge_37 hw
  · have hf := x_iP hf q_5
    refine lv_ldc hx hb hown (hB _ mk_X10_61) dX10_judge_11 ?_
    exact ret hf dX10_judge_13 hw
def fX10_about (M : xM) (k0 : Nat) (a1 : Int32) (a2 : Int32) : Option (Int32 × xM) := x_b (fX8_hasJudgment M (xr 0 k0 0) a1) fun v_4 M_2 => if v_4 = 0 then (some ((-1000000001 : Int32), M_2)) else (x_g a1 (xn 0 (xr 0 (xr 0 k0 0) 8)) (if a2 = (0 : Int32) then (some ((M_2 (xr 0 (xr 0 (xr 0 k0 0) 8) a1.toNatClampNeg) 0), M_2)) else (if a2 = (1 : Int32) then (some ((M_2 (xr 0 (xr 0 (xr 0 k0 0) 8) a1.toNatClampNeg) 1), M_2)) else (if a2 = (2 : Int32) then (some ((M_2 (xr 0 (xr 0 (xr 0 k0 0) 8) a1.toNatClampNeg) 2), M_2)) else (if a2 = (3 : Int32) then (some ((M_2 (xr 0 (xr 0 (xr 0 k0 0) 8) a1.toNatClampNeg) 3), M_2)) else (if a2 = (4 : Int32) then (x_b (fX2_fine M_2 (xr 0 (xr 0 (xr 0 k0 0) 8) a1.toNatClampNeg)) fun v_16 M_14 => some (v_16, M_14)) else (if a2 = (5 : Int32) then (some ((M_2 (xr 0 (xr 0 (xr 0 k0 0) 8) a1.toNatClampNeg) 4), M_2)) else (if a2 = (6 : Int32) then (x_b (fX2_unpaidCoins M_2 (xr 0 (xr 0 (xr 0 k0 0) 8) a1.toNatClampNeg)) fun v_21 M_19 => some (v_21, M_19)) else (if a2 = (7 : Int32) then (x_b (fX2_unpaidDays M_2 (xr 0 (xr 0 (xr 0 k0 0) 8) a1.toNatClampNeg)) fun v_25 M_23 => some (v_25, M_23)) else (if a2 = (8 : Int32) then (some ((M_2 (xr 0 (xr 0 (xr 0 k0 0) 8) a1.toNatClampNeg) 5), M_2)) else (if a2 = (9 : Int32) then (some ((M_2 (xr 0 (xr 0 (xr 0 k0 0) 8) a1.toNatClampNeg) 7), M_2)) else (if a2 = (10 : Int32) then (x_b (fX8_deedsIn M_2 (xr 0 k0 0) a1) fun v_31 M_29 => some (v_31, M_29)) else (if a2 = (11 : Int32) then (x_b (fX2_fine M_2 (xr 0 (xr 0 (xr 0 k0 0) 8) a1.toNatClampNeg)) fun v_35 M_33 => x_b (fX8_shareOf M_33 (xr 0 k0 0) a1 v_35) fun v_38 M_36 => some (v_38, M_36)) else (if a2 = (12 : Int32) then (x_b (fX8_flatOf M_2 (xr 0 k0 0) a1) fun v_42 M_40 => x_b (fX8_shareOf M_40 (xr 0 k0 0) a1 v_42) fun v_45 M_43 => some (v_45, M_43)) else (if a2 = (13 : Int32) then (x_g (12 : Int32) (xn 0 (xr 0 (xr 0 k0 0) 9)) (some (((M_2 (xr 0 (xr 0 (xr 0 k0 0) 8) a1.toNatClampNeg) 1) + (M_2 (xr 0 (xr 0 k0 0) 9) (12 : Int32).toNatClampNeg)), M_2))) else (some ((-1000000001 : Int32), M_2)))))))))))))))))
set_option maxRecDepth 100000 in
set_option maxHeartbeats 4000000 in
theorem mX10_about (l : Launch) (g : xG) {k0 : Nat} {a1 : Int32} {a2 : Int32} {r : Int32} {M' : xM} (h0 : x_is 0 k0 10) {M : xM} (hf : fX10_about M k0 a1 a2 = some (r, M')) : x_cI l g 0 yX10_about cX10_about 4 .int 5 123 [.ref (g.2.2.1 k0), .int a1, .int a2] M (fun v N => v = r ∧ N = M') := by
  refine x_stI RX10 (by decide) rfl (Nat.le_of_ble_eq_true rfl) ?_
  intro p e s m args below meth c Q ls C hw ret hl
  obtain ⟨hx, hb, hml, hown, hB, -⟩ := id C
  have hl : lv_has ls 4 [(0, .ref (g.2.2.1 k0)), (1, .int a1), (2, .int a2)] := hl
  unfold fX10_about at hf
  refine lv_aload_n hx hb dX10_about_0 rfl (lv_at hl 0 rfl) ?_
  refine fg_X10_10 C hw h0 dX10_about_1 ?_
  have h_1 : x_is 0 (xr 0 k0 0) 8 := x_tr h0 (by decide) (by decide) rfl (by decide)
  refine lv_iload_n hx hb dX10_about_4 rfl (lv_at hl 1 rfl) ?_
  obtain ⟨tv_4, tM_2, c_3, hf⟩ := x_bE hf
  refine x_vI C hw hl.1 [.int a1] [] (mX8_hasJudgment l g h_1 c_3) lk_X10_248 h_1 (by decide) rfl (by decide) rfl (Nat.le_of_ble_eq_true rfl) ⟨Nat.zero_le _, Nat.zero_le _⟩ dX10_about_5 (fun v_4 M_2 H locs hN hw => ?_)
  obtain ⟨rfl, rfl⟩ := hN
  refine lv_if_ne (tgt := 14) hx hb dX10_about_8 (by decide) (fun q_5 => ?_) (fun q_5 => ?_)
  · have hf := x_iN hf q_5
    refine lv_aload_n hx hb dX10_about_14 rfl (lv_at hl 0 rfl) ?_
    refine fg_X10_10 C hw h0 dX10_about_15 ?_
    refine fg_X10_230 C hw h_1 dX10_about_18 ?_
    have h_6 : x_is 0 (xr 0 (xr 0 k0 0) 8) 16 := x_tr h_1 (by decide) (by decide) rfl (by decide)
    refine lv_iload_n hx hb dX10_about_21 rfl (lv_at hl 1 rfl) ?_
    obtain ⟨q_7, hf⟩ := x_gE hf
    refine x_rld (t := 4) C hw h_6 (by decide) rfl q_7 dX10_about_22 ?_
    have h_8 : x_is 0 (xr 0 (xr 0 (xr 0 k0 0) 8) a1.toNatClampNeg) 2 := x_ta h_6 (by decide) (x_ilt q_7)
    refine lv_astore_n (lv' := [(3, .ref (g.2.2.1 (xr 0 (xr 0 (xr 0 k0 0) 8) a1.toNatClampNeg))), (0, .ref (g.2.2.1 k0)), (1, .int a1), (2, .int a2)]) hx hb dX10_about_23 rfl hl (by decide) rfl (fun ls hl => ?_)
    refine lv_iload_n hx hb dX10_about_24 rfl (lv_at hl 3 rfl) ?_
    by_cases q_9 : a2 = (0 : Int32)
    · have hf := x_iP hf q_9
      refine lv_tableIn (off := 71) (tgt := 96) hx hb dX10_about_25 (by rw [q_9]; decide) (by rw [q_9]; decide) (by rw [q_9]; rfl) (by decide) ?_
      refine lv_aload_n hx hb dX10_about_96 rfl (lv_at hl 0 rfl) ?_
      refine fg_X10_251 C hw h_8 dX10_about_97 ?_
      exact ret hf dX10_about_100 hw
    have hf := x_iN hf q_9
    by_cases q_10 : a2 = (1 : Int32)
    · have hf := x_iP hf q_10
      refine lv_tableIn (off := 76) (tgt := 101) hx hb dX10_about_25 (by rw [q_10]; decide) (by rw [q_10]; decide) (by rw [q_10]; rfl) (by decide) ?_
      refine lv_aload_n hx hb dX10_about_101 rfl (lv_at hl 0 rfl) ?_
      refine fg_X10_252 C hw h_8 dX10_about_102 ?_
      exact ret hf dX10_about_105 hw
    have hf := x_iN hf q_10
    by_cases q_11 : a2 = (2 : Int32)
    · have hf := x_iP hf q_11
      refine lv_tableIn (off := 81) (tgt := 106) hx hb dX10_about_25 (by rw [q_11]; decide) (by rw [q_11]; decide) (by rw [q_11]; rfl) (by decide) ?_
      refine lv_aload_n hx hb dX10_about_106 rfl (lv_at hl 0 rfl) ?_
      refine fg_X10_239 C hw h_8 dX10_about_107 ?_
      exact ret hf dX10_about_110 hw
    have hf := x_iN hf q_11
    by_cases q_12 : a2 = (3 : Int32)
    · have hf := x_iP hf q_12
      refine lv_tableIn (off := 86) (tgt := 111) hx hb dX10_about_25 (by rw [q_12]; decide) (by rw [q_12]; decide) (by rw [q_12]; rfl) (by decide) ?_
      refine lv_aload_n hx hb dX10_about_111 rfl (lv_at hl 0 rfl) ?_
      refine fg_X10_242 C hw h_8 dX10_about_112 ?_
      exact ret hf dX10_about_115 hw
    have hf := x_iN hf q_12
    by_cases q_13 : a2 = (4 : Int32)
    · have hf := x_iP hf q_13
      refine lv_tableIn (off := 91) (tgt := 116) hx hb dX10_about_25 (by rw [q_13]; decide) (by rw [q_13]; decide) (by rw [q_13]; rfl) (by decide) ?_
      refine lv_aload_n hx hb dX10_about_116 rfl (lv_at hl 0 rfl) ?_
      obtain ⟨tv_16, tM_14, c_15, hf⟩ := x_bE hf
      refine x_vI C hw hl.1 [] [] (mX2_fine l g h_8 c_15) lk_X10_253 h_8 (by decide) rfl (by decide) rfl (Nat.le_of_ble_eq_true rfl) ⟨Nat.zero_le _, Nat.zero_le _⟩ dX10_about_117 (fun v_16 M_14 H locs hN hw => ?_)
      obtain ⟨rfl, rfl⟩ := hN
      exact ret hf dX10_about_120 hw
    have hf := x_iN hf q_13
    by_cases q_17 : a2 = (5 : Int32)
    · have hf := x_iP hf q_17
      refine lv_tableIn (off := 96) (tgt := 121) hx hb dX10_about_25 (by rw [q_17]; decide) (by rw [q_17]; decide) (by rw [q_17]; rfl) (by decide) ?_
      refine lv_aload_n hx hb dX10_about_121 rfl (lv_at hl 0 rfl) ?_
      refine fg_X10_256 C hw h_8 dX10_about_122 ?_
      exact ret hf dX10_about_125 hw
    have hf := x_iN hf q_17
    by_cases q_18 : a2 = (6 : Int32)
    · have hf := x_iP hf q_18
      refine lv_tableIn (off := 101) (tgt := 126) hx hb dX10_about_25 (by rw [q_18]; decide) (by rw [q_18]; decide) (by rw [q_18]; rfl) (by decide) ?_
      refine lv_aload_n hx hb dX10_about_126 rfl (lv_at hl 0 rfl) ?_
      obtain ⟨tv_21, tM_19, c_20, hf⟩ := x_bE hf
      refine x_vI C hw hl.1 [] [] (mX2_unpaidCoins l g h_8 c_20) lk_X10_259 h_8 (by decide) rfl (by decide) rfl (Nat.le_of_ble_eq_true rfl) ⟨Nat.zero_le _, Nat.zero_le _⟩ dX10_about_127 (fun v_21 M_19 H locs hN hw => ?_)
      obtain ⟨rfl, rfl⟩ := hN
      exact ret hf dX10_about_130 hw
    have hf := x_iN hf q_18
    by_cases q_22 : a2 = (7 : Int32)
    · have hf := x_iP hf q_22
      refine lv_tableIn (off := 106) (tgt := 131) hx hb dX10_about_25 (by rw [q_22]; decide) (by rw [q_22]; decide) (by rw [q_22]; rfl) (by decide) ?_
      refine lv_aload_n hx hb dX10_about_131 rfl (lv_at hl 0 rfl) ?_
      obtain ⟨tv_25, tM_23, c_24, hf⟩ := x_bE hf
      refine x_vI C hw hl.1 [] [] (mX2_unpaidDays l g h_8 c_24) lk_X10_262 h_8 (by decide) rfl (by decide) rfl (Nat.le_of_ble_eq_true rfl) ⟨Nat.zero_le _, Nat.zero_le _⟩ dX10_about_132 (fun v_25 M_23 H locs hN hw => ?_)
      obtain ⟨rfl, rfl⟩ := hN
      exact ret hf dX10_about_135 hw
    have hf := x_iN hf q_22
    by_cases q_26 : a2 = (8 : Int32)
    · have hf := x_iP hf q_26
      refine lv_tableIn (off := 111) (tgt := 136) hx hb dX10_about_25 (by rw [q_26]; decide) (by rw [q_26]; decide) (by rw [q_26]; rfl) (by decide) ?_
      refine lv_aload_n hx hb dX10_about_136 rfl (lv_at hl 0 rfl) ?_
      refine fg_X10_265 C hw h_8 dX10_about_137 ?_
      exact ret hf dX10_about_140 hw
    have hf := x_iN hf q_26
    by_cases q_27 : a2 = (9 : Int32)
    · have hf := x_iP hf q_27
      refine lv_tableIn (off := 116) (tgt := 141) hx hb dX10_about_25 (by rw [q_27]; decide) (by rw [q_27]; decide) (by rw [q_27]; rfl) (by decide) ?_
      refine lv_aload_n hx hb dX10_about_141 rfl (lv_at hl 0 rfl) ?_
      refine fg_X10_268 C hw h_8 dX10_about_142 ?_
      exact ret hf dX10_about_145 hw
    have hf := x_iN hf q_27
    by_cases q_28 : a2 = (10 : Int32)
    · have hf := x_iP hf q_28
      refine lv_tableIn (off := 121) (tgt := 146) hx hb dX10_about_25 (by rw [q_28]; decide) (by rw [q_28]; decide) (by rw [q_28]; rfl) (by decide) ?_
      refine lv_aload_n hx hb dX10_about_146 rfl (lv_at hl 1 rfl) ?_
      refine fg_X10_10 C hw h0 dX10_about_147 ?_
      refine lv_iload_n hx hb dX10_about_150 rfl (lv_at hl 2 rfl) ?_
      obtain ⟨tv_31, tM_29, c_30, hf⟩ := x_bE hf
      refine x_vI C hw hl.1 [.int a1] [] (mX8_deedsIn l g h_1 c_30) lk_X10_271 h_1 (by decide) rfl (by decide) rfl (Nat.le_of_ble_eq_true rfl) ⟨Nat.zero_le _, Nat.zero_le _⟩ dX10_about_151 (fun v_31 M_29 H locs hN hw => ?_)
      obtain ⟨rfl, rfl⟩ := hN
      exact ret hf dX10_about_154 hw
    have hf := x_iN hf q_28
    by_cases q_32 : a2 = (11 : Int32)
    · have hf := x_iP hf q_32
      refine lv_tableIn (off := 130) (tgt := 155) hx hb dX10_about_25 (by rw [q_32]; decide) (by rw [q_32]; decide) (by rw [q_32]; rfl) (by decide) ?_
      refine lv_aload_n hx hb dX10_about_155 rfl (lv_at hl 1 rfl) ?_
      refine fg_X10_10 C hw h0 dX10_about_156 ?_
      refine lv_iload_n hx hb dX10_about_159 rfl (lv_at hl 2 rfl) ?_
      refine lv_aload_n hx hb dX10_about_160 rfl (lv_at hl 0 rfl) ?_
      obtain ⟨tv_35, tM_33, c_34, hf⟩ := x_bE hf
      refine x_vI C hw hl.1 [] [.int a1, .ref (g.2.2.1 (xr 0 k0 0))] (mX2_fine l g h_8 c_34) lk_X10_253 h_8 (by decide) rfl (by decide) rfl (Nat.le_of_ble_eq_true rfl) ⟨Nat.zero_le _, Nat.zero_le _⟩ dX10_about_161 (fun v_35 M_33 H locs hN hw => ?_)
      obtain ⟨rfl, rfl⟩ := hN
      obtain ⟨tv_38, tM_36, c_37, hf⟩ := x_bE hf
      refine x_vI C hw hl.1 [.int a1, .int v_35] [] (mX8_shareOf l g h_1 c_37) lk_X10_274 h_1 (by decide) rfl (by decide) rfl (Nat.le_of_ble_eq_true rfl) ⟨Nat.zero_le _, Nat.zero_le _⟩ dX10_about_164 (fun v_38 M_36 H locs hN hw => ?_)
      obtain ⟨rfl, rfl⟩ := hN
      exact ret hf dX10_about_167 hw
    have hf := x_iN hf q_32
    by_cases q_39 : a2 = (12 : Int32)
    · have hf := x_iP hf q_39
      refine lv_tableIn (off := 143) (tgt := 168) hx hb dX10_about_25 (by rw [q_39]; decide) (by rw [q_39]; decide) (by rw [q_39]; rfl) (by decide) ?_
      refine lv_aload_n hx hb dX10_about_168 rfl (lv_at hl 1 rfl) ?_
      refine fg_X10_10 C hw h0 dX10_about_169 ?_
      refine lv_iload_n hx hb dX10_about_172 rfl (lv_at hl 2 rfl) ?_
      refine lv_aload_n hx hb dX10_about_173 rfl (lv_at hl 1 rfl) ?_
      refine fg_X10_10 C hw h0 dX10_about_174 ?_
      refine lv_iload_n hx hb dX10_about_177 rfl (lv_at hl 2 rfl) ?_
      obtain ⟨tv_42, tM_40, c_41, hf⟩ := x_bE hf
      refine x_vI C hw hl.1 [.int a1] [.int a1, .ref (g.2.2.1 (xr 0 k0 0))] (mX8_flatOf l g h_1 c_41) lk_X10_277 h_1 (by decide) rfl (by decide) rfl (Nat.le_of_ble_eq_true rfl) ⟨Nat.zero_le _, Nat.zero_le _⟩ dX10_about_178 (fun v_42 M_40 H locs hN hw => ?_)
      obtain ⟨rfl, rfl⟩ := hN
      obtain ⟨tv_45, tM_43, c_44, hf⟩ := x_bE hf
      refine x_vI C hw hl.1 [.int a1, .int v_42] [] (mX8_shareOf l g h_1 c_44) lk_X10_274 h_1 (by decide) rfl (by decide) rfl (Nat.le_of_ble_eq_true rfl) ⟨Nat.zero_le _, Nat.zero_le _⟩ dX10_about_181 (fun v_45 M_43 H locs hN hw => ?_)
      obtain ⟨rfl, rfl⟩ := hN
      exact ret hf dX10_about_184 hw
    have hf := x_iN hf q_39
    by_cases q_46 : a2 = (13 : Int32)
    · have hf := x_iP hf q_46
      refine lv_tableIn (off := 160) (tgt := 185) hx hb dX10_about_25 (by rw [q_46]; decide) (by rw [q_46]; decide) (by rw [q_46]; rfl) (by decide) ?_
      refine lv_aload_n hx hb dX10_about_185 rfl (lv_at hl 0 rfl) ?_
      refine fg_X10_252 C hw h_8 dX10_about_186 ?_
      refine lv_aload_n hx hb dX10_about_189 rfl (lv_at hl 1 rfl) ?_
      refine fg_X10_10 C hw h0 dX10_about_190 ?_
      refine fg_X10_128 C hw h_1 dX10_about_193 ?_
      have h_47 : x_is 0 (xr 0 (xr 0 k0 0) 9) 12 := x_tr h_1 (by decide) (by decide) rfl (by decide)
      refine lv_bipush (v := (12 : Int32)) hx hb dX10_about_196 (by decide) ?_
      obtain ⟨q_48, hf⟩ := x_gE hf
      refine x_ald C hw h_47 q_48 dX10_about_198 ?_
      refine lv_iadd hx hb dX10_about_199 ?_
      exact ret hf dX10_about_200 hw
    have hf := x_iN hf q_46
    have tq_9 := lv_neT (a := 0) q_9 rfl
    have tq_10 := lv_neT (a := 1) q_10 rfl
    have tq_11 := lv_neT (a := 2) q_11 rfl
    have tq_12 := lv_neT (a := 3) q_12 rfl
    have tq_13 := lv_neT (a := 4) q_13 rfl
    have tq_17 := lv_neT (a := 5) q_17 rfl
    have tq_18 := lv_neT (a := 6) q_18 rfl
    have tq_22 := lv_neT (a := 7) q_22 rfl
    have tq_26 := lv_neT (a := 8) q_26 rfl
    have tq_27 := lv_neT (a := 9) q_27 rfl
    have tq_28 := lv_neT (a := 10) q_28 rfl
    have tq_32 := lv_neT (a := 11) q_32 rfl
    have tq_39 := lv_neT (a := 12) q_39 rfl
    have tq_46 := lv_neT (a := 13) q_46 rfl
    refine lv_tableOut (tgt := 201) hx hb dX10_about_25 (by omega) (by decide) ?_
    refine lv_ldc hx hb hown (hB _ mk_X10_61) dX10_about_201 ?_
    exact ret hf dX10_about_203 hw
  · have hf := x_iP hf q_5
    refine lv_ldc hx hb hown (hB _ mk_X10_61) dX10_about_11 ?_
    exact ret hf dX10_about_13 hw
def fX10_appeal (M : xM) (k0 : Nat) (a1 : Int32) (a2 : Int32) (a3 : Int32) : Option (Int32 × xM) := x_b (fX8_hasJudgment M (xr 0 k0 0) a1) fun v_4 M_2 => if v_4 = 0 then (some ((-1000000001 : Int32), M_2)) else (x_b (fX10_isWithin M_2 a2 (0 : Int32) (1 : Int32)) fun v_8 M_6 => if v_8 = 0 then (some ((-1000000001 : Int32), M_6)) else (x_l (fun (M_12 : xM) (z_10 : Int32) => x_b (fX10_isWithin M_12 a3 (0 : Int32) z_10) fun v_15 M_13 => if v_15 = 0 then (some ((-1000000001 : Int32), M_13)) else (x_g a1 (xn 0 (xr 0 (xr 0 k0 0) 8)) (x_l (fun (M_22 : xM) (z_20 : Int32) => if z_20 = 0 then (if (M_22 (xr 0 (xr 0 (xr 0 k0 0) 8) a1.toNatClampNeg) 5) = (3 : Int32) then (some ((-1000000002 : Int32), M_22)) else (x_g (8 : Int32) (xn 0 (xr 0 (xr 0 k0 0) 9)) (if ((M_22 (xr 0 k0 0) 0) - (M_22 (xr 0 (xr 0 (xr 0 k0 0) 8) a1.toNatClampNeg) 1)) ≤ (M_22 (xr 0 (xr 0 k0 0) 9) (8 : Int32).toNatClampNeg) then (if a2 = 0 then (x_b (fX2_appealDays M_22 (xr 0 (xr 0 (xr 0 k0 0) 8) a1.toNatClampNeg) a3) fun v_34 M_32 => some (v_34, M_32)) else (x_b (fX2_appealSum M_22 (xr 0 (xr 0 (xr 0 k0 0) 8) a1.toNatClampNeg) a3) fun v_31 M_29 => some (v_31, M_29))) else (some ((-1000000002 : Int32), M_22))))) else (some ((-1000000002 : Int32), M_22))) fun k88_21 => if a2 = 0 then (k88_21 M_13 (M_13 (xr 0 (xr 0 (xr 0 k0 0) 8) a1.toNatClampNeg) 8)) else (k88_21 M_13 (M_13 (xr 0 (xr 0 (xr 0 k0 0) 8) a1.toNatClampNeg) 9))))) fun k51_11 => if a2 = 0 then (x_g (3 : Int32) (xn 0 (xr 0 (xr 0 k0 0) 9)) (k51_11 M_6 (M_6 (xr 0 (xr 0 k0 0) 9) (3 : Int32).toNatClampNeg))) else (x_g (7 : Int32) (xn 0 (xr 0 (xr 0 k0 0) 9)) (k51_11 M_6 (M_6 (xr 0 (xr 0 k0 0) 9) (7 : Int32).toNatClampNeg)))))
set_option maxRecDepth 100000 in
set_option maxHeartbeats 4000000 in
theorem mX10_appeal (l : Launch) (g : xG) {k0 : Nat} {a1 : Int32} {a2 : Int32} {a3 : Int32} {r : Int32} {M' : xM} (h0 : x_is 0 k0 10) {M : xM} (hf : fX10_appeal M k0 a1 a2 a3 = some (r, M')) : x_cI l g 0 yX10_appeal cX10_appeal 6 .int 2 43 [.ref (g.2.2.1 k0), .int a1, .int a2, .int a3] M (fun v N => v = r ∧ N = M') := by
  refine x_stI RX10 (by decide) rfl (Nat.le_of_ble_eq_true rfl) ?_
  intro p e s m args below meth c Q ls C hw ret hl
  obtain ⟨hx, hb, hml, hown, hB, -⟩ := id C
  have hl : lv_has ls 6 [(0, .ref (g.2.2.1 k0)), (1, .int a1), (2, .int a2), (3, .int a3)] := hl
  unfold fX10_appeal at hf
  refine lv_aload_n hx hb dX10_appeal_0 rfl (lv_at hl 0 rfl) ?_
  refine fg_X10_10 C hw h0 dX10_appeal_1 ?_
  have h_1 : x_is 0 (xr 0 k0 0) 8 := x_tr h0 (by decide) (by decide) rfl (by decide)
  refine lv_iload_n hx hb dX10_appeal_4 rfl (lv_at hl 1 rfl) ?_
  obtain ⟨tv_4, tM_2, c_3, hf⟩ := x_bE hf
  refine x_vI C hw hl.1 [.int a1] [] (mX8_hasJudgment l g h_1 c_3) lk_X10_248 h_1 (by decide) rfl (by decide) rfl (Nat.le_of_ble_eq_true rfl) ⟨Nat.zero_le _, Nat.zero_le _⟩ dX10_appeal_5 (fun v_4 M_2 H locs hN hw => ?_)
  obtain ⟨rfl, rfl⟩ := hN
  refine lv_if_eq (tgt := 20) hx hb dX10_appeal_8 (by decide) (fun q_5 => ?_) (fun q_5 => ?_)
  · have hf := x_iP hf q_5
    refine lv_ldc hx hb hown (hB _ mk_X10_61) dX10_appeal_20 ?_
    exact ret hf dX10_appeal_22 hw
  · have hf := x_iN hf q_5
    refine lv_iload_n hx hb dX10_appeal_11 rfl (lv_at hl 2 rfl) ?_
    refine lv_iconst (v := (0 : Int32)) hx hb dX10_appeal_12 (by decide) ?_
    refine lv_iconst (v := (1 : Int32)) hx hb dX10_appeal_13 (by decide) ?_
    obtain ⟨tv_8, tM_6, c_7, hf⟩ := x_bE hf
    refine x_sI C hw hl.1 [.int a2, .int (0 : Int32), .int (1 : Int32)] [] (mX10_isWithin l g c_7) lk_X10_57 (by decide) rfl (Nat.le_of_ble_eq_true rfl) ⟨Nat.zero_le _, Nat.zero_le _⟩ dX10_appeal_14 (fun v_8 M_6 H locs hN hw => ?_)
    obtain ⟨rfl, rfl⟩ := hN
    refine lv_if_ne (tgt := 23) hx hb dX10_appeal_17 (by decide) (fun q_9 => ?_) (fun q_9 => ?_)
    · have hf := x_iN hf q_9
      refine lv_iload_n hx hb dX10_appeal_23 rfl (lv_at hl 3 rfl) ?_
      refine lv_iconst (v := (0 : Int32)) hx hb dX10_appeal_24 (by decide) ?_
      refine lv_iload_n hx hb dX10_appeal_25 rfl (lv_at hl 2 rfl) ?_
      obtain ⟨k51_11, ek51_11, hf⟩ := x_jE hf
      have hk51_11 : ∀ (H : Heap) (locs : List Loc) (M_12 : xM) (z_10 : Int32) (ls : Array Slot) , lv_has ls 6 [(0, .ref (g.2.2.1 k0)), (1, .int a1), (2, .int a2), (3, .int a3)] → x_w g 0 s H locs M_12 → k51_11 M_12 z_10 = some (r, M') → W p l e (x_rm 2 43) s m args below meth c H locs 0 0 Q (F0 m 51 ls [.int z_10, .int (0 : Int32), .int a3]) := by
        intro H locs M_12 z_10 ls  hl hw hf
        rw [ek51_11] at hf
        obtain ⟨tv_15, tM_13, c_14, hf⟩ := x_bE hf
        refine x_sI C hw hl.1 [.int a3, .int (0 : Int32), .int z_10] [] (mX10_isWithin l g c_14) lk_X10_57 (by decide) rfl (Nat.le_of_ble_eq_true rfl) ⟨Nat.zero_le _, Nat.zero_le _⟩ dX10_appeal_51 (fun v_15 M_13 H locs hN hw => ?_)
        obtain ⟨rfl, rfl⟩ := hN
        refine lv_if_ne (tgt := 60) hx hb dX10_appeal_54 (by decide) (fun q_16 => ?_) (fun q_16 => ?_)
        · have hf := x_iN hf q_16
          refine lv_aload_n hx hb dX10_appeal_60 rfl (lv_at hl 0 rfl) ?_
          refine fg_X10_10 C hw h0 dX10_appeal_61 ?_
          refine fg_X10_230 C hw h_1 dX10_appeal_64 ?_
          have h_17 : x_is 0 (xr 0 (xr 0 k0 0) 8) 16 := x_tr h_1 (by decide) (by decide) rfl (by decide)
          refine lv_iload_n hx hb dX10_appeal_67 rfl (lv_at hl 1 rfl) ?_
          obtain ⟨q_18, hf⟩ := x_gE hf
          refine x_rld (t := 4) C hw h_17 (by decide) rfl q_18 dX10_appeal_68 ?_
          have h_19 : x_is 0 (xr 0 (xr 0 (xr 0 k0 0) 8) a1.toNatClampNeg) 2 := x_ta h_17 (by decide) (x_ilt q_18)
          refine lv_astore (lv' := [(4, .ref (g.2.2.1 (xr 0 (xr 0 (xr 0 k0 0) 8) a1.toNatClampNeg))), (0, .ref (g.2.2.1 k0)), (1, .int a1), (2, .int a2), (3, .int a3)]) hx hb dX10_appeal_69 hl (by decide) rfl (fun ls hl => ?_)
          refine lv_iload_n hx hb dX10_appeal_71 rfl (lv_at hl 3 rfl) ?_
          obtain ⟨k88_21, ek88_21, hf⟩ := x_jE hf
          have hk88_21 : ∀ (H : Heap) (locs : List Loc) (M_22 : xM) (z_20 : Int32) (ls : Array Slot) , lv_has ls 6 [(4, .ref (g.2.2.1 (xr 0 (xr 0 (xr 0 k0 0) 8) a1.toNatClampNeg))), (0, .ref (g.2.2.1 k0)), (2, .int a2), (3, .int a3)] → x_w g 0 s H locs M_22 → k88_21 M_22 z_20 = some (r, M') → W p l e (x_rm 2 43) s m args below meth c H locs 0 0 Q (F0 m 88 ls [.int z_20]) := by
            intro H locs M_22 z_20 ls  hl hw hf
            rw [ek88_21] at hf
            refine lv_istore (lv' := [(5, .int z_20), (4, .ref (g.2.2.1 (xr 0 (xr 0 (xr 0 k0 0) 8) a1.toNatClampNeg))), (0, .ref (g.2.2.1 k0)), (2, .int a2), (3, .int a3)]) hx hb dX10_appeal_88 hl (by decide) rfl (fun ls hl => ?_)
            refine lv_iload hx hb dX10_appeal_90 (lv_at hl 0 rfl) ?_
            refine lv_if_ne (tgt := 130) hx hb dX10_appeal_92 (by decide) (fun q_23 => ?_) (fun q_23 => ?_)
            · have hf := x_iN hf q_23
              refine lv_ldc hx hb hown (hB _ mk_X10_91) dX10_appeal_130 ?_
              exact ret hf dX10_appeal_132 hw
            · have hf := x_iP hf q_23
              refine lv_aload hx hb dX10_appeal_95 (lv_at hl 1 rfl) ?_
              refine fg_X10_265 C hw h_19 dX10_appeal_97 ?_
              refine lv_iconst (v := (3 : Int32)) hx hb dX10_appeal_100 (by decide) ?_
              refine lv_icmp_eq (tgt := 130) hx hb dX10_appeal_101 (by decide) (fun q_24 => ?_) (fun q_24 => ?_)
              · have hf := x_iP hf q_24
                refine lv_ldc hx hb hown (hB _ mk_X10_91) dX10_appeal_130 ?_
                exact ret hf dX10_appeal_132 hw
              · have hf := x_iN hf q_24
                refine lv_aload_n hx hb dX10_appeal_104 rfl (lv_at hl 2 rfl) ?_
                refine fg_X10_10 C hw h0 dX10_appeal_105 ?_
                refine fg_X10_108 C hw h_1 dX10_appeal_108 ?_
                refine lv_aload hx hb dX10_appeal_111 (lv_at hl 1 rfl) ?_
                refine fg_X10_252 C hw h_19 dX10_appeal_113 ?_
                refine lv_isub hx hb dX10_appeal_116 ?_
                refine lv_aload_n hx hb dX10_appeal_117 rfl (lv_at hl 2 rfl) ?_
                refine fg_X10_10 C hw h0 dX10_appeal_118 ?_
                refine fg_X10_128 C hw h_1 dX10_appeal_121 ?_
                have h_25 : x_is 0 (xr 0 (xr 0 k0 0) 9) 12 := x_tr h_1 (by decide) (by decide) rfl (by decide)
                refine lv_bipush (v := (8 : Int32)) hx hb dX10_appeal_124 (by decide) ?_
                obtain ⟨q_26, hf⟩ := x_gE hf
                refine x_ald C hw h_25 q_26 dX10_appeal_126 ?_
                refine lv_icmp_le (tgt := 133) hx hb dX10_appeal_127 (by decide) (fun q_27 => ?_) (fun q_27 => ?_)
                · have hf := x_iP hf q_27
                  refine lv_iload_n hx hb dX10_appeal_133 rfl (lv_at hl 3 rfl) ?_
                  refine lv_if_ne (tgt := 146) hx hb dX10_appeal_134 (by decide) (fun q_28 => ?_) (fun q_28 => ?_)
                  · have hf := x_iN hf q_28
                    refine lv_aload hx hb dX10_appeal_146 (lv_at hl 1 rfl) ?_
                    refine lv_iload_n hx hb dX10_appeal_148 rfl (lv_at hl 4 rfl) ?_
                    obtain ⟨tv_31, tM_29, c_30, hf⟩ := x_bE hf
                    refine x_vI C hw hl.1 [.int a3] [] (mX2_appealSum l g h_19 c_30) lk_X10_289 h_19 (by decide) rfl (by decide) rfl (Nat.le_of_ble_eq_true rfl) ⟨Nat.zero_le _, Nat.zero_le _⟩ dX10_appeal_149 (fun v_31 M_29 H locs hN hw => ?_)
                    obtain ⟨rfl, rfl⟩ := hN
                    exact ret hf dX10_appeal_152 hw
                  · have hf := x_iP hf q_28
                    refine lv_aload hx hb dX10_appeal_137 (lv_at hl 1 rfl) ?_
                    refine lv_iload_n hx hb dX10_appeal_139 rfl (lv_at hl 4 rfl) ?_
                    obtain ⟨tv_34, tM_32, c_33, hf⟩ := x_bE hf
                    refine x_vI C hw hl.1 [.int a3] [] (mX2_appealDays l g h_19 c_33) lk_X10_286 h_19 (by decide) rfl (by decide) rfl (Nat.le_of_ble_eq_true rfl) ⟨Nat.zero_le _, Nat.zero_le _⟩ dX10_appeal_140 (fun v_34 M_32 H locs hN hw => ?_)
                    obtain ⟨rfl, rfl⟩ := hN
                    refine lv_goto (tgt := 152) hx hb dX10_appeal_143 (by decide) ?_
                    exact ret hf dX10_appeal_152 hw
                · have hf := x_iN hf q_27
                  refine lv_ldc hx hb hown (hB _ mk_X10_91) dX10_appeal_130 ?_
                  exact ret hf dX10_appeal_132 hw
          refine lv_if_ne (tgt := 83) hx hb dX10_appeal_72 (by decide) (fun q_35 => ?_) (fun q_35 => ?_)
          · have hf := x_iN hf q_35
            refine lv_aload hx hb dX10_appeal_83 (lv_at hl 0 rfl) ?_
            refine fg_X10_283 C hw h_19 dX10_appeal_85 ?_
            exact hk88_21 _ _ _ _ _ (lv_sub hl [0, 1, 3, 4] rfl) hw hf
          · have hf := x_iP hf q_35
            refine lv_aload hx hb dX10_appeal_75 (lv_at hl 0 rfl) ?_
            refine fg_X10_280 C hw h_19 dX10_appeal_77 ?_
            refine lv_goto (tgt := 88) hx hb dX10_appeal_80 (by decide) ?_
            exact hk88_21 _ _ _ _ _ (lv_sub hl [0, 1, 3, 4] rfl) hw hf
        · have hf := x_iP hf q_16
          refine lv_ldc hx hb hown (hB _ mk_X10_61) dX10_appeal_57 ?_
          exact ret hf dX10_appeal_59 hw
      refine lv_if_ne (tgt := 41) hx hb dX10_appeal_26 (by decide) (fun q_36 => ?_) (fun q_36 => ?_)
      · have hf := x_iN hf q_36
        refine lv_aload_n hx hb dX10_appeal_41 rfl (lv_at hl 0 rfl) ?_
        refine fg_X10_10 C hw h0 dX10_appeal_42 ?_
        refine fg_X10_128 C hw h_1 dX10_appeal_45 ?_
        have h_37 : x_is 0 (xr 0 (xr 0 k0 0) 9) 12 := x_tr h_1 (by decide) (by decide) rfl (by decide)
        refine lv_bipush (v := (7 : Int32)) hx hb dX10_appeal_48 (by decide) ?_
        obtain ⟨q_38, hf⟩ := x_gE hf
        refine x_ald C hw h_37 q_38 dX10_appeal_50 ?_
        exact hk51_11 _ _ _ _ _ (lv_sub hl [0, 1, 2, 3] rfl) hw hf
      · have hf := x_iP hf q_36
        refine lv_aload_n hx hb dX10_appeal_29 rfl (lv_at hl 0 rfl) ?_
        refine fg_X10_10 C hw h0 dX10_appeal_30 ?_
        refine fg_X10_128 C hw h_1 dX10_appeal_33 ?_
        have h_39 : x_is 0 (xr 0 (xr 0 k0 0) 9) 12 := x_tr h_1 (by decide) (by decide) rfl (by decide)
        refine lv_iconst (v := (3 : Int32)) hx hb dX10_appeal_36 (by decide) ?_
        obtain ⟨q_40, hf⟩ := x_gE hf
        refine x_ald C hw h_39 q_40 dX10_appeal_37 ?_
        refine lv_goto (tgt := 51) hx hb dX10_appeal_38 (by decide) ?_
        exact hk51_11 _ _ _ _ _ (lv_sub hl [0, 1, 2, 3] rfl) hw hf
    · have hf := x_iP hf q_9
      refine lv_ldc hx hb hown (hB _ mk_X10_61) dX10_appeal_20 ?_
      exact ret hf dX10_appeal_22 hw
def fX10_reopen (M : xM) (k0 : Nat) (a1 : Int32) : Option (Int32 × xM) := x_b (fX8_hasJudgment M (xr 0 k0 0) a1) fun v_4 M_2 => if v_4 = 0 then (some ((-1000000001 : Int32), M_2)) else (x_g a1 (xn 0 (xr 0 (xr 0 k0 0) 8)) (x_b (fX8_hasLaw M_2 (xr 0 k0 0)) fun v_11 M_9 => if v_11 = 0 then (some ((-1000000002 : Int32), M_9)) else (if (M_9 (xr 0 (xr 0 (xr 0 k0 0) 8) a1.toNatClampNeg) 5) = (3 : Int32) then (some ((-1000000002 : Int32), M_9)) else (x_g (9 : Int32) (xn 0 (xr 0 (xr 0 k0 0) 9)) (if ((M_9 (xr 0 k0 0) 0) - (M_9 (xr 0 (xr 0 (xr 0 k0 0) 8) a1.toNatClampNeg) 1)) ≤ (M_9 (xr 0 (xr 0 k0 0) 9) (9 : Int32).toNatClampNeg) then (x_b (fX8_sumFor M_9 (xr 0 k0 0) (M_9 (xr 0 (xr 0 (xr 0 k0 0) 8) a1.toNatClampNeg) 0) (M_9 (xr 0 (xr 0 (xr 0 k0 0) 8) a1.toNatClampNeg) 1) (M_9 (xr 0 k0 0) 0)) fun v_19 M_17 => x_l (x_up M_17 (xr 0 (xr 0 (xr 0 k0 0) 8) a1.toNatClampNeg) 3 v_19) fun M_20 => some ((M_20 (xr 0 (xr 0 (xr 0 k0 0) 8) a1.toNatClampNeg) 3), M_20)) else (some ((-1000000002 : Int32), M_9)))))))
set_option maxRecDepth 100000 in
set_option maxHeartbeats 4000000 in
theorem mX10_reopen (l : Launch) (g : xG) {k0 : Nat} {a1 : Int32} {r : Int32} {M' : xM} (h0 : x_is 0 k0 10) {M : xM} (hf : fX10_reopen M k0 a1 = some (r, M')) : x_cI l g 0 yX10_reopen cX10_reopen 3 .int 5 122 [.ref (g.2.2.1 k0), .int a1] M (fun v N => v = r ∧ N = M') := by
  refine x_stI RX10 (by decide) rfl (Nat.le_of_ble_eq_true rfl) ?_
  intro p e s m args below meth c Q ls C hw ret hl
  obtain ⟨hx, hb, hml, hown, hB, -⟩ := id C
  have hl : lv_has ls 3 [(0, .ref (g.2.2.1 k0)), (1, .int a1)] := hl
  unfold fX10_reopen at hf
  refine lv_aload_n hx hb dX10_reopen_0 rfl (lv_at hl 0 rfl) ?_
  refine fg_X10_10 C hw h0 dX10_reopen_1 ?_
  have h_1 : x_is 0 (xr 0 k0 0) 8 := x_tr h0 (by decide) (by decide) rfl (by decide)
  refine lv_iload_n hx hb dX10_reopen_4 rfl (lv_at hl 1 rfl) ?_
  obtain ⟨tv_4, tM_2, c_3, hf⟩ := x_bE hf
  refine x_vI C hw hl.1 [.int a1] [] (mX8_hasJudgment l g h_1 c_3) lk_X10_248 h_1 (by decide) rfl (by decide) rfl (Nat.le_of_ble_eq_true rfl) ⟨Nat.zero_le _, Nat.zero_le _⟩ dX10_reopen_5 (fun v_4 M_2 H locs hN hw => ?_)
  obtain ⟨rfl, rfl⟩ := hN
  refine lv_if_ne (tgt := 14) hx hb dX10_reopen_8 (by decide) (fun q_5 => ?_) (fun q_5 => ?_)
  · have hf := x_iN hf q_5
    refine lv_aload_n hx hb dX10_reopen_14 rfl (lv_at hl 0 rfl) ?_
    refine fg_X10_10 C hw h0 dX10_reopen_15 ?_
    refine fg_X10_230 C hw h_1 dX10_reopen_18 ?_
    have h_6 : x_is 0 (xr 0 (xr 0 k0 0) 8) 16 := x_tr h_1 (by decide) (by decide) rfl (by decide)
    refine lv_iload_n hx hb dX10_reopen_21 rfl (lv_at hl 1 rfl) ?_
    obtain ⟨q_7, hf⟩ := x_gE hf
    refine x_rld (t := 4) C hw h_6 (by decide) rfl q_7 dX10_reopen_22 ?_
    have h_8 : x_is 0 (xr 0 (xr 0 (xr 0 k0 0) 8) a1.toNatClampNeg) 2 := x_ta h_6 (by decide) (x_ilt q_7)
    refine lv_astore_n (lv' := [(2, .ref (g.2.2.1 (xr 0 (xr 0 (xr 0 k0 0) 8) a1.toNatClampNeg))), (0, .ref (g.2.2.1 k0)), (1, .int a1)]) hx hb dX10_reopen_23 rfl hl (by decide) rfl (fun ls hl => ?_)
    refine lv_aload_n hx hb dX10_reopen_24 rfl (lv_at hl 1 rfl) ?_
    refine fg_X10_10 C hw h0 dX10_reopen_25 ?_
    obtain ⟨tv_11, tM_9, c_10, hf⟩ := x_bE hf
    refine x_vI C hw hl.1 [] [] (mX8_hasLaw l g h_1 c_10) lk_X10_205 h_1 (by decide) rfl (by decide) rfl (Nat.le_of_ble_eq_true rfl) ⟨Nat.zero_le _, Nat.zero_le _⟩ dX10_reopen_28 (fun v_11 M_9 H locs hN hw => ?_)
    obtain ⟨rfl, rfl⟩ := hN
    refine lv_if_eq (tgt := 67) hx hb dX10_reopen_31 (by decide) (fun q_12 => ?_) (fun q_12 => ?_)
    · have hf := x_iP hf q_12
      refine lv_ldc hx hb hown (hB _ mk_X10_91) dX10_reopen_67 ?_
      exact ret hf dX10_reopen_69 hw
    · have hf := x_iN hf q_12
      refine lv_aload_n hx hb dX10_reopen_34 rfl (lv_at hl 0 rfl) ?_
      refine fg_X10_265 C hw h_8 dX10_reopen_35 ?_
      refine lv_iconst (v := (3 : Int32)) hx hb dX10_reopen_38 (by decide) ?_
      refine lv_icmp_eq (tgt := 67) hx hb dX10_reopen_39 (by decide) (fun q_13 => ?_) (fun q_13 => ?_)
      · have hf := x_iP hf q_13
        refine lv_ldc hx hb hown (hB _ mk_X10_91) dX10_reopen_67 ?_
        exact ret hf dX10_reopen_69 hw
      · have hf := x_iN hf q_13
        refine lv_aload_n hx hb dX10_reopen_42 rfl (lv_at hl 1 rfl) ?_
        refine fg_X10_10 C hw h0 dX10_reopen_43 ?_
        refine fg_X10_108 C hw h_1 dX10_reopen_46 ?_
        refine lv_aload_n hx hb dX10_reopen_49 rfl (lv_at hl 0 rfl) ?_
        refine fg_X10_252 C hw h_8 dX10_reopen_50 ?_
        refine lv_isub hx hb dX10_reopen_53 ?_
        refine lv_aload_n hx hb dX10_reopen_54 rfl (lv_at hl 1 rfl) ?_
        refine fg_X10_10 C hw h0 dX10_reopen_55 ?_
        refine fg_X10_128 C hw h_1 dX10_reopen_58 ?_
        have h_14 : x_is 0 (xr 0 (xr 0 k0 0) 9) 12 := x_tr h_1 (by decide) (by decide) rfl (by decide)
        refine lv_bipush (v := (9 : Int32)) hx hb dX10_reopen_61 (by decide) ?_
        obtain ⟨q_15, hf⟩ := x_gE hf
        refine x_ald C hw h_14 q_15 dX10_reopen_63 ?_
        refine lv_icmp_le (tgt := 70) hx hb dX10_reopen_64 (by decide) (fun q_16 => ?_) (fun q_16 => ?_)
        · have hf := x_iP hf q_16
          refine lv_aload_n hx hb dX10_reopen_70 rfl (lv_at hl 0 rfl) ?_
          refine lv_aload_n hx hb dX10_reopen_71 rfl (lv_at hl 1 rfl) ?_
          refine fg_X10_10 C hw h0 dX10_reopen_72 ?_
          refine lv_aload_n hx hb dX10_reopen_75 rfl (lv_at hl 0 rfl) ?_
          refine fg_X10_251 C hw h_8 dX10_reopen_76 ?_
          refine lv_aload_n hx hb dX10_reopen_79 rfl (lv_at hl 0 rfl) ?_
          refine fg_X10_252 C hw h_8 dX10_reopen_80 ?_
          refine lv_aload_n hx hb dX10_reopen_83 rfl (lv_at hl 1 rfl) ?_
          refine fg_X10_10 C hw h0 dX10_reopen_84 ?_
          refine fg_X10_108 C hw h_1 dX10_reopen_87 ?_
          obtain ⟨tv_19, tM_17, c_18, hf⟩ := x_bE hf
          refine x_vI C hw hl.1 [.int (M_9 (xr 0 (xr 0 (xr 0 k0 0) 8) a1.toNatClampNeg) 0), .int (M_9 (xr 0 (xr 0 (xr 0 k0 0) 8) a1.toNatClampNeg) 1), .int (M_9 (xr 0 k0 0) 0)] [.ref (g.2.2.1 (xr 0 (xr 0 (xr 0 k0 0) 8) a1.toNatClampNeg))] (mX8_sumFor l g h_1 c_18) lk_X10_211 h_1 (by decide) rfl (by decide) rfl (Nat.le_of_ble_eq_true rfl) ⟨Nat.zero_le _, Nat.zero_le _⟩ dX10_reopen_90 (fun v_19 M_17 H locs hN hw => ?_)
          obtain ⟨rfl, rfl⟩ := hN
          refine fp_X10_242 C hw h_8 dX10_reopen_93 (fun H locs hw => ?_)
          obtain ⟨M_20, eM_20⟩ : ∃ z, z = (x_up M_17 (xr 0 (xr 0 (xr 0 k0 0) 8) a1.toNatClampNeg) 3 v_19) := ⟨_, rfl⟩
          rw [← eM_20] at hw
          have hf := x_lE eM_20 hf
          refine lv_aload_n hx hb dX10_reopen_96 rfl (lv_at hl 0 rfl) ?_
          refine fg_X10_242 C hw h_8 dX10_reopen_97 ?_
          exact ret hf dX10_reopen_100 hw
        · have hf := x_iN hf q_16
          refine lv_ldc hx hb hown (hB _ mk_X10_91) dX10_reopen_67 ?_
          exact ret hf dX10_reopen_69 hw
  · have hf := x_iP hf q_5
    refine lv_ldc hx hb hown (hB _ mk_X10_61) dX10_reopen_11 ?_
    exact ret hf dX10_reopen_13 hw
def fX10_pay (M : xM) (k0 : Nat) (a1 : Int32) (a2 : Int32) : Option (Int32 × xM) := x_b (fX8_hasJudgment M (xr 0 k0 0) a1) fun v_4 M_2 => if v_4 = 0 then (some ((-1000000001 : Int32), M_2)) else (x_b (fX10_isWithin M_2 a2 (1 : Int32) (9999999 : Int32)) fun v_8 M_6 => if v_8 = 0 then (some ((-1000000001 : Int32), M_6)) else (x_g a1 (xn 0 (xr 0 (xr 0 k0 0) 8)) (if (M_6 (xr 0 (xr 0 (xr 0 k0 0) 8) a1.toNatClampNeg) 5) = (3 : Int32) then (some ((-1000000002 : Int32), M_6)) else (x_b (fX2_unpaidCoins M_6 (xr 0 (xr 0 (xr 0 k0 0) 8) a1.toNatClampNeg)) fun v_16 M_14 => x_l (if v_16 < a2 then v_16 else a2) fun x4_17 => x_l (x_up M_14 (xr 0 (xr 0 (xr 0 k0 0) 8) a1.toNatClampNeg) 4 ((M_14 (xr 0 (xr 0 (xr 0 k0 0) 8) a1.toNatClampNeg) 4) + x4_17)) fun M_18 => some ((a2 - x4_17), M_18)))))
set_option maxRecDepth 100000 in
set_option maxHeartbeats 4000000 in
theorem mX10_pay (l : Launch) (g : xG) {k0 : Nat} {a1 : Int32} {a2 : Int32} {r : Int32} {M' : xM} (h0 : x_is 0 k0 10) {M : xM} (hf : fX10_pay M k0 a1 a2 = some (r, M')) : x_cI l g 0 yX10_pay cX10_pay 5 .int 2 43 [.ref (g.2.2.1 k0), .int a1, .int a2] M (fun v N => v = r ∧ N = M') := by
  refine x_stI RX10 (by decide) rfl (Nat.le_of_ble_eq_true rfl) ?_
  intro p e s m args below meth c Q ls C hw ret hl
  obtain ⟨hx, hb, hml, hown, hB, -⟩ := id C
  have hl : lv_has ls 5 [(0, .ref (g.2.2.1 k0)), (1, .int a1), (2, .int a2)] := hl
  unfold fX10_pay at hf
  refine lv_aload_n hx hb dX10_pay_0 rfl (lv_at hl 0 rfl) ?_
  refine fg_X10_10 C hw h0 dX10_pay_1 ?_
  have h_1 : x_is 0 (xr 0 k0 0) 8 := x_tr h0 (by decide) (by decide) rfl (by decide)
  refine lv_iload_n hx hb dX10_pay_4 rfl (lv_at hl 1 rfl) ?_
  obtain ⟨tv_4, tM_2, c_3, hf⟩ := x_bE hf
  refine x_vI C hw hl.1 [.int a1] [] (mX8_hasJudgment l g h_1 c_3) lk_X10_248 h_1 (by decide) rfl (by decide) rfl (Nat.le_of_ble_eq_true rfl) ⟨Nat.zero_le _, Nat.zero_le _⟩ dX10_pay_5 (fun v_4 M_2 H locs hN hw => ?_)
  obtain ⟨rfl, rfl⟩ := hN
  refine lv_if_eq (tgt := 22) hx hb dX10_pay_8 (by decide) (fun q_5 => ?_) (fun q_5 => ?_)
  · have hf := x_iP hf q_5
    refine lv_ldc hx hb hown (hB _ mk_X10_61) dX10_pay_22 ?_
    exact ret hf dX10_pay_24 hw
  · have hf := x_iN hf q_5
    refine lv_iload_n hx hb dX10_pay_11 rfl (lv_at hl 2 rfl) ?_
    refine lv_iconst (v := (1 : Int32)) hx hb dX10_pay_12 (by decide) ?_
    refine lv_ldcw hx hb hown (hB _ mk_X10_292) dX10_pay_13 ?_
    obtain ⟨tv_8, tM_6, c_7, hf⟩ := x_bE hf
    refine x_sI C hw hl.1 [.int a2, .int (1 : Int32), .int (9999999 : Int32)] [] (mX10_isWithin l g c_7) lk_X10_57 (by decide) rfl (Nat.le_of_ble_eq_true rfl) ⟨Nat.zero_le _, Nat.zero_le _⟩ dX10_pay_16 (fun v_8 M_6 H locs hN hw => ?_)
    obtain ⟨rfl, rfl⟩ := hN
    refine lv_if_ne (tgt := 25) hx hb dX10_pay_19 (by decide) (fun q_9 => ?_) (fun q_9 => ?_)
    · have hf := x_iN hf q_9
      refine lv_aload_n hx hb dX10_pay_25 rfl (lv_at hl 0 rfl) ?_
      refine fg_X10_10 C hw h0 dX10_pay_26 ?_
      refine fg_X10_230 C hw h_1 dX10_pay_29 ?_
      have h_10 : x_is 0 (xr 0 (xr 0 k0 0) 8) 16 := x_tr h_1 (by decide) (by decide) rfl (by decide)
      refine lv_iload_n hx hb dX10_pay_32 rfl (lv_at hl 1 rfl) ?_
      obtain ⟨q_11, hf⟩ := x_gE hf
      refine x_rld (t := 4) C hw h_10 (by decide) rfl q_11 dX10_pay_33 ?_
      have h_12 : x_is 0 (xr 0 (xr 0 (xr 0 k0 0) 8) a1.toNatClampNeg) 2 := x_ta h_10 (by decide) (x_ilt q_11)
      refine lv_astore_n (lv' := [(3, .ref (g.2.2.1 (xr 0 (xr 0 (xr 0 k0 0) 8) a1.toNatClampNeg))), (0, .ref (g.2.2.1 k0)), (1, .int a1), (2, .int a2)]) hx hb dX10_pay_34 rfl hl (by decide) rfl (fun ls hl => ?_)
      refine lv_aload_n hx hb dX10_pay_35 rfl (lv_at hl 0 rfl) ?_
      refine fg_X10_265 C hw h_12 dX10_pay_36 ?_
      refine lv_iconst (v := (3 : Int32)) hx hb dX10_pay_39 (by decide) ?_
      refine lv_icmp_ne (tgt := 46) hx hb dX10_pay_40 (by decide) (fun q_13 => ?_) (fun q_13 => ?_)
      · have hf := x_iN hf q_13
        refine lv_iload_n hx hb dX10_pay_46 rfl (lv_at hl 3 rfl) ?_
        refine lv_aload_n hx hb dX10_pay_47 rfl (lv_at hl 0 rfl) ?_
        obtain ⟨tv_16, tM_14, c_15, hf⟩ := x_bE hf
        refine x_vI C hw hl.1 [] [.int a2] (mX2_unpaidCoins l g h_12 c_15) lk_X10_259 h_12 (by decide) rfl (by decide) rfl (Nat.le_of_ble_eq_true rfl) ⟨Nat.zero_le _, Nat.zero_le _⟩ dX10_pay_48 (fun v_16 M_14 H locs hN hw => ?_)
        obtain ⟨rfl, rfl⟩ := hN
        refine mm_X10_224 C hl.1 (Nat.le_of_ble_eq_true rfl) (Nat.le_of_ble_eq_true rfl) ⟨Nat.zero_le _, Nat.zero_le _⟩ dX10_pay_51 ?_
        refine lv_topi (fun x4_17 ex4_17 => ?_)
        have hf := x_lE ex4_17 hf
        refine lv_istore (lv' := [(4, .int x4_17), (3, .ref (g.2.2.1 (xr 0 (xr 0 (xr 0 k0 0) 8) a1.toNatClampNeg))), (0, .ref (g.2.2.1 k0)), (1, .int a1), (2, .int a2)]) hx hb dX10_pay_54 hl (by decide) rfl (fun ls hl => ?_)
        refine lv_aload_n hx hb dX10_pay_56 rfl (lv_at hl 1 rfl) ?_
        refine lv_dup hx hb dX10_pay_57 rfl ?_
        refine fg_X10_256 C hw h_12 dX10_pay_58 ?_
        refine lv_iload hx hb dX10_pay_61 (lv_at hl 0 rfl) ?_
        refine lv_iadd hx hb dX10_pay_63 ?_
        refine fp_X10_256 C hw h_12 dX10_pay_64 (fun H locs hw => ?_)
        obtain ⟨M_18, eM_18⟩ : ∃ z, z = (x_up M_14 (xr 0 (xr 0 (xr 0 k0 0) 8) a1.toNatClampNeg) 4 ((M_14 (xr 0 (xr 0 (xr 0 k0 0) 8) a1.toNatClampNeg) 4) + x4_17)) := ⟨_, rfl⟩
        rw [← eM_18] at hw
        have hf := x_lE eM_18 hf
        refine lv_iload_n hx hb dX10_pay_67 rfl (lv_at hl 4 rfl) ?_
        refine lv_iload hx hb dX10_pay_68 (lv_at hl 0 rfl) ?_
        refine lv_isub hx hb dX10_pay_70 ?_
        exact ret hf dX10_pay_71 hw
      · have hf := x_iP hf q_13
        refine lv_ldc hx hb hown (hB _ mk_X10_91) dX10_pay_43 ?_
        exact ret hf dX10_pay_45 hw
    · have hf := x_iP hf q_9
      refine lv_ldc hx hb hown (hB _ mk_X10_61) dX10_pay_22 ?_
      exact ret hf dX10_pay_24 hw
def fX10_back (M : xM) (k0 : Nat) (a1 : Int32) : Option (Int32 × xM) := x_b (fX8_hasJudgment M (xr 0 k0 0) a1) fun v_4 M_2 => if v_4 = 0 then (some ((-1000000001 : Int32), M_2)) else (x_g a1 (xn 0 (xr 0 (xr 0 k0 0) 8)) (x_b (fX2_fine M_2 (xr 0 (xr 0 (xr 0 k0 0) 8) a1.toNatClampNeg)) fun v_11 M_9 => x_l ((M_2 (xr 0 (xr 0 (xr 0 k0 0) 8) a1.toNatClampNeg) 4) - v_11) fun x3_12 => if 0 < x3_12 then (x_g (10 : Int32) (xn 0 (xr 0 (xr 0 k0 0) 9)) (x_dL (36500 : Int64) (x_l ((((x3_12.toInt64) * ((M_9 (xr 0 (xr 0 k0 0) 9) (10 : Int32).toNatClampNeg).toInt64)) * (((M_9 (xr 0 k0 0) 0) - (M_9 (xr 0 (xr 0 (xr 0 k0 0) 8) a1.toNatClampNeg) 1)).toInt64)) / (36500 : Int64)) fun x4_17 => x_b (fX2_fine M_9 (xr 0 (xr 0 (xr 0 k0 0) 8) a1.toNatClampNeg)) fun v_20 M_18 => x_l (x_up M_18 (xr 0 (xr 0 (xr 0 k0 0) 8) a1.toNatClampNeg) 4 v_20) fun M_21 => some ((x3_12 + (x4_17.toInt32)), M_21)))) else (some ((-1000000002 : Int32), M_9))))
set_option maxRecDepth 100000 in
set_option maxHeartbeats 4000000 in
theorem mX10_back (l : Launch) (g : xG) {k0 : Nat} {a1 : Int32} {r : Int32} {M' : xM} (h0 : x_is 0 k0 10) {M : xM} (hf : fX10_back M k0 a1 = some (r, M')) : x_cI l g 0 yX10_back cX10_back 6 .int 2 43 [.ref (g.2.2.1 k0), .int a1] M (fun v N => v = r ∧ N = M') := by
  refine x_stI RX10 (by decide) rfl (Nat.le_of_ble_eq_true rfl) ?_
  intro p e s m args below meth c Q ls C hw ret hl
  obtain ⟨hx, hb, hml, hown, hB, -⟩ := id C
  have hl : lv_has ls 6 [(0, .ref (g.2.2.1 k0)), (1, .int a1)] := hl
  unfold fX10_back at hf
  refine lv_aload_n hx hb dX10_back_0 rfl (lv_at hl 0 rfl) ?_
  refine fg_X10_10 C hw h0 dX10_back_1 ?_
  have h_1 : x_is 0 (xr 0 k0 0) 8 := x_tr h0 (by decide) (by decide) rfl (by decide)
  refine lv_iload_n hx hb dX10_back_4 rfl (lv_at hl 1 rfl) ?_
  obtain ⟨tv_4, tM_2, c_3, hf⟩ := x_bE hf
  refine x_vI C hw hl.1 [.int a1] [] (mX8_hasJudgment l g h_1 c_3) lk_X10_248 h_1 (by decide) rfl (by decide) rfl (Nat.le_of_ble_eq_true rfl) ⟨Nat.zero_le _, Nat.zero_le _⟩ dX10_back_5 (fun v_4 M_2 H locs hN hw => ?_)
  obtain ⟨rfl, rfl⟩ := hN
  refine lv_if_ne (tgt := 14) hx hb dX10_back_8 (by decide) (fun q_5 => ?_) (fun q_5 => ?_)
  · have hf := x_iN hf q_5
    refine lv_aload_n hx hb dX10_back_14 rfl (lv_at hl 0 rfl) ?_
    refine fg_X10_10 C hw h0 dX10_back_15 ?_
    refine fg_X10_230 C hw h_1 dX10_back_18 ?_
    have h_6 : x_is 0 (xr 0 (xr 0 k0 0) 8) 16 := x_tr h_1 (by decide) (by decide) rfl (by decide)
    refine lv_iload_n hx hb dX10_back_21 rfl (lv_at hl 1 rfl) ?_
    obtain ⟨q_7, hf⟩ := x_gE hf
    refine x_rld (t := 4) C hw h_6 (by decide) rfl q_7 dX10_back_22 ?_
    have h_8 : x_is 0 (xr 0 (xr 0 (xr 0 k0 0) 8) a1.toNatClampNeg) 2 := x_ta h_6 (by decide) (x_ilt q_7)
    refine lv_astore_n (lv' := [(2, .ref (g.2.2.1 (xr 0 (xr 0 (xr 0 k0 0) 8) a1.toNatClampNeg))), (0, .ref (g.2.2.1 k0)), (1, .int a1)]) hx hb dX10_back_23 rfl hl (by decide) rfl (fun ls hl => ?_)
    refine lv_aload_n hx hb dX10_back_24 rfl (lv_at hl 0 rfl) ?_
    refine fg_X10_256 C hw h_8 dX10_back_25 ?_
    refine lv_aload_n hx hb dX10_back_28 rfl (lv_at hl 0 rfl) ?_
    obtain ⟨tv_11, tM_9, c_10, hf⟩ := x_bE hf
    refine x_vI C hw hl.1 [] [.int (M_2 (xr 0 (xr 0 (xr 0 k0 0) 8) a1.toNatClampNeg) 4)] (mX2_fine l g h_8 c_10) lk_X10_253 h_8 (by decide) rfl (by decide) rfl (Nat.le_of_ble_eq_true rfl) ⟨Nat.zero_le _, Nat.zero_le _⟩ dX10_back_29 (fun v_11 M_9 H locs hN hw => ?_)
    obtain ⟨rfl, rfl⟩ := hN
    refine lv_isub hx hb dX10_back_32 ?_
    refine lv_topi (fun x3_12 ex3_12 => ?_)
    have hf := x_lE ex3_12 hf
    refine lv_istore_n (lv' := [(3, .int x3_12), (2, .ref (g.2.2.1 (xr 0 (xr 0 (xr 0 k0 0) 8) a1.toNatClampNeg))), (0, .ref (g.2.2.1 k0)), (1, .int a1)]) hx hb dX10_back_33 rfl hl (by decide) rfl (fun ls hl => ?_)
    refine lv_iload_n hx hb dX10_back_34 rfl (lv_at hl 0 rfl) ?_
    refine lv_if_gt (tgt := 41) hx hb dX10_back_35 (by decide) (fun q_13 => ?_) (fun q_13 => ?_)
    · have hf := x_iP hf q_13
      refine lv_iload_n hx hb dX10_back_41 rfl (lv_at hl 0 rfl) ?_
      refine lv_i2l hx hb dX10_back_42 rfl ?_
      refine lv_aload_n hx hb dX10_back_43 rfl (lv_at hl 2 rfl) ?_
      refine fg_X10_10 C hw h0 dX10_back_44 ?_
      refine fg_X10_128 C hw h_1 dX10_back_47 ?_
      have h_14 : x_is 0 (xr 0 (xr 0 k0 0) 9) 12 := x_tr h_1 (by decide) (by decide) rfl (by decide)
      refine lv_bipush (v := (10 : Int32)) hx hb dX10_back_50 (by decide) ?_
      obtain ⟨q_15, hf⟩ := x_gE hf
      refine x_ald C hw h_14 q_15 dX10_back_52 ?_
      refine lv_i2l hx hb dX10_back_53 rfl ?_
      refine lv_lmul hx hb dX10_back_54 ?_
      refine lv_aload_n hx hb dX10_back_55 rfl (lv_at hl 2 rfl) ?_
      refine fg_X10_10 C hw h0 dX10_back_56 ?_
      refine fg_X10_108 C hw h_1 dX10_back_59 ?_
      refine lv_aload_n hx hb dX10_back_62 rfl (lv_at hl 1 rfl) ?_
      refine fg_X10_252 C hw h_8 dX10_back_63 ?_
      refine lv_isub hx hb dX10_back_66 ?_
      refine lv_i2l hx hb dX10_back_67 rfl ?_
      refine lv_lmul hx hb dX10_back_68 ?_
      refine lv_ldc2 hx hb hown (hB _ mkl_X10_293) dX10_back_69 ?_
      obtain ⟨q_16, hf⟩ := x_dLE hf
      refine lv_ldiv hx hb dX10_back_72 q_16 ?_
      refine lv_topl (fun x4_17 ex4_17 => ?_)
      have hf := x_lE ex4_17 hf
      refine lv_lstore (lv' := [(4, .long x4_17), (3, .int x3_12), (2, .ref (g.2.2.1 (xr 0 (xr 0 (xr 0 k0 0) 8) a1.toNatClampNeg))), (0, .ref (g.2.2.1 k0)), (1, .int a1)]) hx hb dX10_back_73 hl (by decide) rfl (fun ls hl => ?_)
      refine lv_aload_n hx hb dX10_back_75 rfl (lv_at hl 2 rfl) ?_
      refine lv_aload_n hx hb dX10_back_76 rfl (lv_at hl 2 rfl) ?_
      obtain ⟨tv_20, tM_18, c_19, hf⟩ := x_bE hf
      refine x_vI C hw hl.1 [] [.ref (g.2.2.1 (xr 0 (xr 0 (xr 0 k0 0) 8) a1.toNatClampNeg))] (mX2_fine l g h_8 c_19) lk_X10_253 h_8 (by decide) rfl (by decide) rfl (Nat.le_of_ble_eq_true rfl) ⟨Nat.zero_le _, Nat.zero_le _⟩ dX10_back_77 (fun v_20 M_18 H locs hN hw => ?_)
      obtain ⟨rfl, rfl⟩ := hN
      refine fp_X10_256 C hw h_8 dX10_back_80 (fun H locs hw => ?_)
      obtain ⟨M_21, eM_21⟩ : ∃ z, z = (x_up M_18 (xr 0 (xr 0 (xr 0 k0 0) 8) a1.toNatClampNeg) 4 v_20) := ⟨_, rfl⟩
      rw [← eM_21] at hw
      have hf := x_lE eM_21 hf
      refine lv_iload_n hx hb dX10_back_83 rfl (lv_at hl 1 rfl) ?_
      refine lv_lload hx hb dX10_back_84 (lv_at hl 0 rfl) ?_
      refine lv_l2i hx hb dX10_back_86 rfl ?_
      refine lv_iadd hx hb dX10_back_87 ?_
      exact ret hf dX10_back_88 hw
    · have hf := x_iN hf q_13
      refine lv_ldc hx hb hown (hB _ mk_X10_91) dX10_back_38 ?_
      exact ret hf dX10_back_40 hw
  · have hf := x_iP hf q_5
    refine lv_ldc hx hb hown (hB _ mk_X10_61) dX10_back_11 ?_
    exact ret hf dX10_back_13 hw
def fX10_step (M : xM) (k0 : Nat) (a1 : Int32) : Option (Int32 × xM) := x_b (fX8_hasJudgment M (xr 0 k0 0) a1) fun v_4 M_2 => if v_4 = 0 then (some ((-1000000001 : Int32), M_2)) else (x_g a1 (xn 0 (xr 0 (xr 0 k0 0) 8)) (if (M_2 (xr 0 (xr 0 (xr 0 k0 0) 8) a1.toNatClampNeg) 5) = (3 : Int32) then (some ((-1000000002 : Int32), M_2)) else (x_b (fX2_unpaidCoins M_2 (xr 0 (xr 0 (xr 0 k0 0) 8) a1.toNatClampNeg)) fun v_12 M_10 => if v_12 = 0 then (some ((-1000000002 : Int32), M_10)) else (x_g (11 : Int32) (xn 0 (xr 0 (xr 0 k0 0) 9)) (if (M_10 (xr 0 (xr 0 k0 0) 9) (11 : Int32).toNatClampNeg) ≤ ((M_10 (xr 0 k0 0) 0) - (M_10 (xr 0 (xr 0 (xr 0 k0 0) 8) a1.toNatClampNeg) 6)) then (x_l (fun (M_18 : xM) => x_l (x_up M_18 (xr 0 (xr 0 (xr 0 k0 0) 8) a1.toNatClampNeg) 5 ((M_18 (xr 0 (xr 0 (xr 0 k0 0) 8) a1.toNatClampNeg) 5) + (1 : Int32))) fun M_19 => x_l (x_up M_19 (xr 0 (xr 0 (xr 0 k0 0) 8) a1.toNatClampNeg) 6 (M_19 (xr 0 k0 0) 0)) fun M_20 => x_l (fun (M_22 : xM) => some ((M_22 (xr 0 (xr 0 (xr 0 k0 0) 8) a1.toNatClampNeg) 5), M_22)) fun k134_21 => if (M_20 (xr 0 (xr 0 (xr 0 k0 0) 8) a1.toNatClampNeg) 5) = (3 : Int32) then (x_b (fX8_hoursFor M_20 (xr 0 k0 0) (xr 0 (xr 0 (xr 0 k0 0) 8) a1.toNatClampNeg)) fun v_26 M_24 => x_l (x_up M_24 (xr 0 (xr 0 (xr 0 k0 0) 8) a1.toNatClampNeg) 7 v_26) fun M_27 => k134_21 M_27) else (k134_21 M_20)) fun k93_17 => if ((M_10 (xr 0 (xr 0 (xr 0 k0 0) 8) a1.toNatClampNeg) 5) + (1 : Int32)) = (3 : Int32) then (x_b (fX8_hasLaw M_10 (xr 0 k0 0)) fun v_31 M_29 => if v_31 = 0 then (some ((-1000000002 : Int32), M_29)) else (k93_17 M_29)) else (k93_17 M_10)) else (some ((-1000000002 : Int32), M_10)))))))
set_option maxRecDepth 100000 in
set_option maxHeartbeats 4000000 in
theorem mX10_step (l : Launch) (g : xG) {k0 : Nat} {a1 : Int32} {r : Int32} {M' : xM} (h0 : x_is 0 k0 10) {M : xM} (hf : fX10_step M k0 a1 = some (r, M')) : x_cI l g 0 yX10_step cX10_step 3 .int 4 89 [.ref (g.2.2.1 k0), .int a1] M (fun v N => v = r ∧ N = M') := by
  refine x_stI RX10 (by decide) rfl (Nat.le_of_ble_eq_true rfl) ?_
  intro p e s m args below meth c Q ls C hw ret hl
  obtain ⟨hx, hb, hml, hown, hB, -⟩ := id C
  have hl : lv_has ls 3 [(0, .ref (g.2.2.1 k0)), (1, .int a1)] := hl
  unfold fX10_step at hf
  refine lv_aload_n hx hb dX10_step_0 rfl (lv_at hl 0 rfl) ?_
  refine fg_X10_10 C hw h0 dX10_step_1 ?_
  have h_1 : x_is 0 (xr 0 k0 0) 8 := x_tr h0 (by decide) (by decide) rfl (by decide)
  refine lv_iload_n hx hb dX10_step_4 rfl (lv_at hl 1 rfl) ?_
  obtain ⟨tv_4, tM_2, c_3, hf⟩ := x_bE hf
  refine x_vI C hw hl.1 [.int a1] [] (mX8_hasJudgment l g h_1 c_3) lk_X10_248 h_1 (by decide) rfl (by decide) rfl (Nat.le_of_ble_eq_true rfl) ⟨Nat.zero_le _, Nat.zero_le _⟩ dX10_step_5 (fun v_4 M_2 H locs hN hw => ?_)
  obtain ⟨rfl, rfl⟩ := hN
  refine lv_if_ne (tgt := 14) hx hb dX10_step_8 (by decide) (fun q_5 => ?_) (fun q_5 => ?_)
  · have hf := x_iN hf q_5
    refine lv_aload_n hx hb dX10_step_14 rfl (lv_at hl 0 rfl) ?_
    refine fg_X10_10 C hw h0 dX10_step_15 ?_
    refine fg_X10_230 C hw h_1 dX10_step_18 ?_
    have h_6 : x_is 0 (xr 0 (xr 0 k0 0) 8) 16 := x_tr h_1 (by decide) (by decide) rfl (by decide)
    refine lv_iload_n hx hb dX10_step_21 rfl (lv_at hl 1 rfl) ?_
    obtain ⟨q_7, hf⟩ := x_gE hf
    refine x_rld (t := 4) C hw h_6 (by decide) rfl q_7 dX10_step_22 ?_
    have h_8 : x_is 0 (xr 0 (xr 0 (xr 0 k0 0) 8) a1.toNatClampNeg) 2 := x_ta h_6 (by decide) (x_ilt q_7)
    refine lv_astore_n (lv' := [(2, .ref (g.2.2.1 (xr 0 (xr 0 (xr 0 k0 0) 8) a1.toNatClampNeg))), (0, .ref (g.2.2.1 k0)), (1, .int a1)]) hx hb dX10_step_23 rfl hl (by decide) rfl (fun ls hl => ?_)
    refine lv_aload_n hx hb dX10_step_24 rfl (lv_at hl 0 rfl) ?_
    refine fg_X10_265 C hw h_8 dX10_step_25 ?_
    refine lv_iconst (v := (3 : Int32)) hx hb dX10_step_28 (by decide) ?_
    refine lv_icmp_eq (tgt := 39) hx hb dX10_step_29 (by decide) (fun q_9 => ?_) (fun q_9 => ?_)
    · have hf := x_iP hf q_9
      refine lv_ldc hx hb hown (hB _ mk_X10_91) dX10_step_39 ?_
      exact ret hf dX10_step_41 hw
    · have hf := x_iN hf q_9
      refine lv_aload_n hx hb dX10_step_32 rfl (lv_at hl 0 rfl) ?_
      obtain ⟨tv_12, tM_10, c_11, hf⟩ := x_bE hf
      refine x_vI C hw hl.1 [] [] (mX2_unpaidCoins l g h_8 c_11) lk_X10_259 h_8 (by decide) rfl (by decide) rfl (Nat.le_of_ble_eq_true rfl) ⟨Nat.zero_le _, Nat.zero_le _⟩ dX10_step_33 (fun v_12 M_10 H locs hN hw => ?_)
      obtain ⟨rfl, rfl⟩ := hN
      refine lv_if_ne (tgt := 42) hx hb dX10_step_36 (by decide) (fun q_13 => ?_) (fun q_13 => ?_)
      · have hf := x_iN hf q_13
        refine lv_aload_n hx hb dX10_step_42 rfl (lv_at hl 1 rfl) ?_
        refine fg_X10_10 C hw h0 dX10_step_43 ?_
        refine fg_X10_108 C hw h_1 dX10_step_46 ?_
        refine lv_aload_n hx hb dX10_step_49 rfl (lv_at hl 0 rfl) ?_
        refine fg_X10_295 C hw h_8 dX10_step_50 ?_
        refine lv_isub hx hb dX10_step_53 ?_
        refine lv_aload_n hx hb dX10_step_54 rfl (lv_at hl 1 rfl) ?_
        refine fg_X10_10 C hw h0 dX10_step_55 ?_
        refine fg_X10_128 C hw h_1 dX10_step_58 ?_
        have h_14 : x_is 0 (xr 0 (xr 0 k0 0) 9) 12 := x_tr h_1 (by decide) (by decide) rfl (by decide)
        refine lv_bipush (v := (11 : Int32)) hx hb dX10_step_61 (by decide) ?_
        obtain ⟨q_15, hf⟩ := x_gE hf
        refine x_ald C hw h_14 q_15 dX10_step_63 ?_
        refine lv_icmp_ge (tgt := 70) hx hb dX10_step_64 (by decide) (fun q_16 => ?_) (fun q_16 => ?_)
        · have hf := x_iP hf q_16
          refine lv_aload_n hx hb dX10_step_70 rfl (lv_at hl 0 rfl) ?_
          refine fg_X10_265 C hw h_8 dX10_step_71 ?_
          refine lv_iconst (v := (1 : Int32)) hx hb dX10_step_74 (by decide) ?_
          refine lv_iadd hx hb dX10_step_75 ?_
          refine lv_iconst (v := (3 : Int32)) hx hb dX10_step_76 (by decide) ?_
          obtain ⟨k93_17, ek93_17, hf⟩ := x_jE hf
          have hk93_17 : ∀ (H : Heap) (locs : List Loc) (M_18 : xM)  (ls : Array Slot) , lv_has ls 3 [(2, .ref (g.2.2.1 (xr 0 (xr 0 (xr 0 k0 0) 8) a1.toNatClampNeg))), (0, .ref (g.2.2.1 k0))] → x_w g 0 s H locs M_18 → k93_17 M_18 = some (r, M') → W p l e (x_rm 4 89) s m args below meth c H locs 0 0 Q (F0 m 93 ls []) := by
            intro H locs M_18  ls  hl hw hf
            rw [ek93_17] at hf
            refine lv_aload_n hx hb dX10_step_93 rfl (lv_at hl 0 rfl) ?_
            refine lv_dup hx hb dX10_step_94 rfl ?_
            refine fg_X10_265 C hw h_8 dX10_step_95 ?_
            refine lv_iconst (v := (1 : Int32)) hx hb dX10_step_98 (by decide) ?_
            refine lv_iadd hx hb dX10_step_99 ?_
            refine fp_X10_265 C hw h_8 dX10_step_100 (fun H locs hw => ?_)
            obtain ⟨M_19, eM_19⟩ : ∃ z, z = (x_up M_18 (xr 0 (xr 0 (xr 0 k0 0) 8) a1.toNatClampNeg) 5 ((M_18 (xr 0 (xr 0 (xr 0 k0 0) 8) a1.toNatClampNeg) 5) + (1 : Int32))) := ⟨_, rfl⟩
            rw [← eM_19] at hw
            have hf := x_lE eM_19 hf
            refine lv_aload_n hx hb dX10_step_103 rfl (lv_at hl 0 rfl) ?_
            refine lv_aload_n hx hb dX10_step_104 rfl (lv_at hl 1 rfl) ?_
            refine fg_X10_10 C hw h0 dX10_step_105 ?_
            refine fg_X10_108 C hw h_1 dX10_step_108 ?_
            refine fp_X10_295 C hw h_8 dX10_step_111 (fun H locs hw => ?_)
            obtain ⟨M_20, eM_20⟩ : ∃ z, z = (x_up M_19 (xr 0 (xr 0 (xr 0 k0 0) 8) a1.toNatClampNeg) 6 (M_19 (xr 0 k0 0) 0)) := ⟨_, rfl⟩
            rw [← eM_20] at hw
            have hf := x_lE eM_20 hf
            refine lv_aload_n hx hb dX10_step_114 rfl (lv_at hl 0 rfl) ?_
            refine fg_X10_265 C hw h_8 dX10_step_115 ?_
            refine lv_iconst (v := (3 : Int32)) hx hb dX10_step_118 (by decide) ?_
            obtain ⟨k134_21, ek134_21, hf⟩ := x_jE hf
            have hk134_21 : ∀ (H : Heap) (locs : List Loc) (M_22 : xM)  (ls : Array Slot) , lv_has ls 3 [(2, .ref (g.2.2.1 (xr 0 (xr 0 (xr 0 k0 0) 8) a1.toNatClampNeg)))] → x_w g 0 s H locs M_22 → k134_21 M_22 = some (r, M') → W p l e (x_rm 4 89) s m args below meth c H locs 0 0 Q (F0 m 134 ls []) := by
              intro H locs M_22  ls  hl hw hf
              rw [ek134_21] at hf
              refine lv_aload_n hx hb dX10_step_134 rfl (lv_at hl 0 rfl) ?_
              refine fg_X10_265 C hw h_8 dX10_step_135 ?_
              exact ret hf dX10_step_138 hw
            refine lv_icmp_ne (tgt := 134) hx hb dX10_step_119 (by decide) (fun q_23 => ?_) (fun q_23 => ?_)
            · have hf := x_iN hf q_23
              exact hk134_21 _ _ _ _ (lv_sub hl [0] rfl) hw hf
            · have hf := x_iP hf q_23
              refine lv_aload_n hx hb dX10_step_122 rfl (lv_at hl 0 rfl) ?_
              refine lv_aload_n hx hb dX10_step_123 rfl (lv_at hl 1 rfl) ?_
              refine fg_X10_10 C hw h0 dX10_step_124 ?_
              refine lv_aload_n hx hb dX10_step_127 rfl (lv_at hl 0 rfl) ?_
              obtain ⟨tv_26, tM_24, c_25, hf⟩ := x_bE hf
              refine x_vI C hw hl.1 [.ref (g.2.2.1 (xr 0 (xr 0 (xr 0 k0 0) 8) a1.toNatClampNeg))] [.ref (g.2.2.1 (xr 0 (xr 0 (xr 0 k0 0) 8) a1.toNatClampNeg))] (mX8_hoursFor l g h_1 h_8 c_25) lk_X10_298 h_1 (by decide) rfl (by decide) rfl (Nat.le_of_ble_eq_true rfl) ⟨Nat.zero_le _, Nat.zero_le _⟩ dX10_step_128 (fun v_26 M_24 H locs hN hw => ?_)
              obtain ⟨rfl, rfl⟩ := hN
              refine fp_X10_268 C hw h_8 dX10_step_131 (fun H locs hw => ?_)
              obtain ⟨M_27, eM_27⟩ : ∃ z, z = (x_up M_24 (xr 0 (xr 0 (xr 0 k0 0) 8) a1.toNatClampNeg) 7 v_26) := ⟨_, rfl⟩
              rw [← eM_27] at hw
              have hf := x_lE eM_27 hf
              exact hk134_21 _ _ _ _ (lv_sub hl [0] rfl) hw hf
          refine lv_icmp_ne (tgt := 93) hx hb dX10_step_77 (by decide) (fun q_28 => ?_) (fun q_28 => ?_)
          · have hf := x_iN hf q_28
            exact hk93_17 _ _ _ _ (lv_sub hl [0, 1] rfl) hw hf
          · have hf := x_iP hf q_28
            refine lv_aload_n hx hb dX10_step_80 rfl (lv_at hl 1 rfl) ?_
            refine fg_X10_10 C hw h0 dX10_step_81 ?_
            obtain ⟨tv_31, tM_29, c_30, hf⟩ := x_bE hf
            refine x_vI C hw hl.1 [] [] (mX8_hasLaw l g h_1 c_30) lk_X10_205 h_1 (by decide) rfl (by decide) rfl (Nat.le_of_ble_eq_true rfl) ⟨Nat.zero_le _, Nat.zero_le _⟩ dX10_step_84 (fun v_31 M_29 H locs hN hw => ?_)
            obtain ⟨rfl, rfl⟩ := hN
            refine lv_if_ne (tgt := 93) hx hb dX10_step_87 (by decide) (fun q_32 => ?_) (fun q_32 => ?_)
            · have hf := x_iN hf q_32
              exact hk93_17 _ _ _ _ (lv_sub hl [0, 1] rfl) hw hf
            · have hf := x_iP hf q_32
              refine lv_ldc hx hb hown (hB _ mk_X10_91) dX10_step_90 ?_
              exact ret hf dX10_step_92 hw
        · have hf := x_iN hf q_16
          refine lv_ldc hx hb hown (hB _ mk_X10_91) dX10_step_67 ?_
          exact ret hf dX10_step_69 hw
      · have hf := x_iP hf q_13
        refine lv_ldc hx hb hown (hB _ mk_X10_91) dX10_step_39 ?_
        exact ret hf dX10_step_41 hw
  · have hf := x_iP hf q_5
    refine lv_ldc hx hb hown (hB _ mk_X10_61) dX10_step_11 ?_
    exact ret hf dX10_step_13 hw
def fX10_work (M : xM) (k0 : Nat) (a1 : Int32) (a2 : Int32) : Option (Int32 × xM) := x_b (fX8_hasJudgment M (xr 0 k0 0) a1) fun v_4 M_2 => if v_4 = 0 then (some ((-1000000001 : Int32), M_2)) else (x_b (fX10_isWithin M_2 a2 (1 : Int32) (9999 : Int32)) fun v_8 M_6 => if v_8 = 0 then (some ((-1000000001 : Int32), M_6)) else (x_g a1 (xn 0 (xr 0 (xr 0 k0 0) 8)) (if (M_6 (xr 0 (xr 0 (xr 0 k0 0) 8) a1.toNatClampNeg) 5) = (3 : Int32) then (if a2 ≤ (M_6 (xr 0 (xr 0 (xr 0 k0 0) 8) a1.toNatClampNeg) 7) then (x_l (x_up M_6 (xr 0 (xr 0 (xr 0 k0 0) 8) a1.toNatClampNeg) 7 ((M_6 (xr 0 (xr 0 (xr 0 k0 0) 8) a1.toNatClampNeg) 7) - a2)) fun M_15 => some ((M_15 (xr 0 (xr 0 (xr 0 k0 0) 8) a1.toNatClampNeg) 7), M_15)) else (some ((-1000000002 : Int32), M_6))) else (some ((-1000000002 : Int32), M_6)))))
set_option maxRecDepth 100000 in
set_option maxHeartbeats 4000000 in
theorem mX10_work (l : Launch) (g : xG) {k0 : Nat} {a1 : Int32} {a2 : Int32} {r : Int32} {M' : xM} (h0 : x_is 0 k0 10) {M : xM} (hf : fX10_work M k0 a1 a2 = some (r, M')) : x_cI l g 0 yX10_work cX10_work 4 .int 2 43 [.ref (g.2.2.1 k0), .int a1, .int a2] M (fun v N => v = r ∧ N = M') := by
  refine x_stI RX10 (by decide) rfl (Nat.le_of_ble_eq_true rfl) ?_
  intro p e s m args below meth c Q ls C hw ret hl
  obtain ⟨hx, hb, hml, hown, hB, -⟩ := id C
  have hl : lv_has ls 4 [(0, .ref (g.2.2.1 k0)), (1, .int a1), (2, .int a2)] := hl
  unfold fX10_work at hf
  refine lv_aload_n hx hb dX10_work_0 rfl (lv_at hl 0 rfl) ?_
  refine fg_X10_10 C hw h0 dX10_work_1 ?_
  have h_1 : x_is 0 (xr 0 k0 0) 8 := x_tr h0 (by decide) (by decide) rfl (by decide)
  refine lv_iload_n hx hb dX10_work_4 rfl (lv_at hl 1 rfl) ?_
  obtain ⟨tv_4, tM_2, c_3, hf⟩ := x_bE hf
  refine x_vI C hw hl.1 [.int a1] [] (mX8_hasJudgment l g h_1 c_3) lk_X10_248 h_1 (by decide) rfl (by decide) rfl (Nat.le_of_ble_eq_true rfl) ⟨Nat.zero_le _, Nat.zero_le _⟩ dX10_work_5 (fun v_4 M_2 H locs hN hw => ?_)
  obtain ⟨rfl, rfl⟩ := hN
  refine lv_if_eq (tgt := 22) hx hb dX10_work_8 (by decide) (fun q_5 => ?_) (fun q_5 => ?_)
  · have hf := x_iP hf q_5
    refine lv_ldc hx hb hown (hB _ mk_X10_61) dX10_work_22 ?_
    exact ret hf dX10_work_24 hw
  · have hf := x_iN hf q_5
    refine lv_iload_n hx hb dX10_work_11 rfl (lv_at hl 2 rfl) ?_
    refine lv_iconst (v := (1 : Int32)) hx hb dX10_work_12 (by decide) ?_
    refine lv_sipush (v := (9999 : Int32)) hx hb dX10_work_13 (by decide) ?_
    obtain ⟨tv_8, tM_6, c_7, hf⟩ := x_bE hf
    refine x_sI C hw hl.1 [.int a2, .int (1 : Int32), .int (9999 : Int32)] [] (mX10_isWithin l g c_7) lk_X10_57 (by decide) rfl (Nat.le_of_ble_eq_true rfl) ⟨Nat.zero_le _, Nat.zero_le _⟩ dX10_work_16 (fun v_8 M_6 H locs hN hw => ?_)
    obtain ⟨rfl, rfl⟩ := hN
    refine lv_if_ne (tgt := 25) hx hb dX10_work_19 (by decide) (fun q_9 => ?_) (fun q_9 => ?_)
    · have hf := x_iN hf q_9
      refine lv_aload_n hx hb dX10_work_25 rfl (lv_at hl 0 rfl) ?_
      refine fg_X10_10 C hw h0 dX10_work_26 ?_
      refine fg_X10_230 C hw h_1 dX10_work_29 ?_
      have h_10 : x_is 0 (xr 0 (xr 0 k0 0) 8) 16 := x_tr h_1 (by decide) (by decide) rfl (by decide)
      refine lv_iload_n hx hb dX10_work_32 rfl (lv_at hl 1 rfl) ?_
      obtain ⟨q_11, hf⟩ := x_gE hf
      refine x_rld (t := 4) C hw h_10 (by decide) rfl q_11 dX10_work_33 ?_
      have h_12 : x_is 0 (xr 0 (xr 0 (xr 0 k0 0) 8) a1.toNatClampNeg) 2 := x_ta h_10 (by decide) (x_ilt q_11)
      refine lv_astore_n (lv' := [(3, .ref (g.2.2.1 (xr 0 (xr 0 (xr 0 k0 0) 8) a1.toNatClampNeg))), (0, .ref (g.2.2.1 k0)), (1, .int a1), (2, .int a2)]) hx hb dX10_work_34 rfl hl (by decide) rfl (fun ls hl => ?_)
      refine lv_aload_n hx hb dX10_work_35 rfl (lv_at hl 0 rfl) ?_
      refine fg_X10_265 C hw h_12 dX10_work_36 ?_
      refine lv_iconst (v := (3 : Int32)) hx hb dX10_work_39 (by decide) ?_
      refine lv_icmp_ne (tgt := 51) hx hb dX10_work_40 (by decide) (fun q_13 => ?_) (fun q_13 => ?_)
      · have hf := x_iN hf q_13
        refine lv_ldc hx hb hown (hB _ mk_X10_91) dX10_work_51 ?_
        exact ret hf dX10_work_53 hw
      · have hf := x_iP hf q_13
        refine lv_iload_n hx hb dX10_work_43 rfl (lv_at hl 3 rfl) ?_
        refine lv_aload_n hx hb dX10_work_44 rfl (lv_at hl 0 rfl) ?_
        refine fg_X10_268 C hw h_12 dX10_work_45 ?_
        refine lv_icmp_le (tgt := 54) hx hb dX10_work_48 (by decide) (fun q_14 => ?_) (fun q_14 => ?_)
        · have hf := x_iP hf q_14
          refine lv_aload_n hx hb dX10_work_54 rfl (lv_at hl 0 rfl) ?_
          refine lv_dup hx hb dX10_work_55 rfl ?_
          refine fg_X10_268 C hw h_12 dX10_work_56 ?_
          refine lv_iload_n hx hb dX10_work_59 rfl (lv_at hl 3 rfl) ?_
          refine lv_isub hx hb dX10_work_60 ?_
          refine fp_X10_268 C hw h_12 dX10_work_61 (fun H locs hw => ?_)
          obtain ⟨M_15, eM_15⟩ : ∃ z, z = (x_up M_6 (xr 0 (xr 0 (xr 0 k0 0) 8) a1.toNatClampNeg) 7 ((M_6 (xr 0 (xr 0 (xr 0 k0 0) 8) a1.toNatClampNeg) 7) - a2)) := ⟨_, rfl⟩
          rw [← eM_15] at hw
          have hf := x_lE eM_15 hf
          refine lv_aload_n hx hb dX10_work_64 rfl (lv_at hl 0 rfl) ?_
          refine fg_X10_268 C hw h_12 dX10_work_65 ?_
          exact ret hf dX10_work_68 hw
        · have hf := x_iN hf q_14
          refine lv_ldc hx hb hown (hB _ mk_X10_91) dX10_work_51 ?_
          exact ret hf dX10_work_53 hw
    · have hf := x_iP hf q_9
      refine lv_ldc hx hb hown (hB _ mk_X10_61) dX10_work_22 ?_
      exact ret hf dX10_work_24 hw
def fX10_level (M : xM) (k0 : Nat) (a1 : Int32) : Option (Int32 × xM) := x_b (fX8_hasPerson M (xr 0 k0 0) a1) fun v_4 M_2 => if v_4 = 0 then (some ((-1000000001 : Int32), M_2)) else (x_b (fX5_isFound M_2 (xr 0 k0 4) (xr 0 k0 0) a1) fun v_9 M_7 => if v_9 = 0 then (some ((-1000000002 : Int32), M_7)) else (some ((M_7 (xr 0 k0 4) 2), M_7)))
set_option maxRecDepth 100000 in
set_option maxHeartbeats 4000000 in
theorem mX10_level (l : Launch) (g : xG) {k0 : Nat} {a1 : Int32} {r : Int32} {M' : xM} (h0 : x_is 0 k0 10) {M : xM} (hf : fX10_level M k0 a1 = some (r, M')) : x_cI l g 0 yX10_level cX10_level 2 .int 6 149 [.ref (g.2.2.1 k0), .int a1] M (fun v N => v = r ∧ N = M') := by
  refine x_stI RX10 (by decide) rfl (Nat.le_of_ble_eq_true rfl) ?_
  intro p e s m args below meth c Q ls C hw ret hl
  obtain ⟨hx, hb, hml, hown, hB, -⟩ := id C
  have hl : lv_has ls 2 [(0, .ref (g.2.2.1 k0)), (1, .int a1)] := hl
  unfold fX10_level at hf
  refine lv_aload_n hx hb dX10_level_0 rfl (lv_at hl 0 rfl) ?_
  refine fg_X10_10 C hw h0 dX10_level_1 ?_
  have h_1 : x_is 0 (xr 0 k0 0) 8 := x_tr h0 (by decide) (by decide) rfl (by decide)
  refine lv_iload_n hx hb dX10_level_4 rfl (lv_at hl 1 rfl) ?_
  obtain ⟨tv_4, tM_2, c_3, hf⟩ := x_bE hf
  refine x_vI C hw hl.1 [.int a1] [] (mX8_hasPerson l g h_1 c_3) lk_X10_76 h_1 (by decide) rfl (by decide) rfl (Nat.le_of_ble_eq_true rfl) ⟨Nat.zero_le _, Nat.zero_le _⟩ dX10_level_5 (fun v_4 M_2 H locs hN hw => ?_)
  obtain ⟨rfl, rfl⟩ := hN
  refine lv_if_ne (tgt := 14) hx hb dX10_level_8 (by decide) (fun q_5 => ?_) (fun q_5 => ?_)
  · have hf := x_iN hf q_5
    refine lv_aload_n hx hb dX10_level_14 rfl (lv_at hl 0 rfl) ?_
    refine fg_X10_33 C hw h0 dX10_level_15 ?_
    have h_6 : x_is 0 (xr 0 k0 4) 5 := x_tr h0 (by decide) (by decide) rfl (by decide)
    refine lv_aload_n hx hb dX10_level_18 rfl (lv_at hl 0 rfl) ?_
    refine fg_X10_10 C hw h0 dX10_level_19 ?_
    refine lv_iload_n hx hb dX10_level_22 rfl (lv_at hl 1 rfl) ?_
    obtain ⟨tv_9, tM_7, c_8, hf⟩ := x_bE hf
    refine x_vI C hw hl.1 [.ref (g.2.2.1 (xr 0 k0 0)), .int a1] [] (mX5_isFound l g h_6 h_1 c_8) lk_X10_302 h_6 (by decide) rfl (by decide) rfl (Nat.le_of_ble_eq_true rfl) ⟨Nat.zero_le _, Nat.zero_le _⟩ dX10_level_23 (fun v_9 M_7 H locs hN hw => ?_)
    obtain ⟨rfl, rfl⟩ := hN
    refine lv_if_eq (tgt := 39) hx hb dX10_level_26 (by decide) (fun q_10 => ?_) (fun q_10 => ?_)
    · have hf := x_iP hf q_10
      refine lv_ldc hx hb hown (hB _ mk_X10_91) dX10_level_39 ?_
      exact ret hf dX10_level_41 hw
    · have hf := x_iN hf q_10
      refine lv_aload_n hx hb dX10_level_29 rfl (lv_at hl 0 rfl) ?_
      refine fg_X10_33 C hw h0 dX10_level_30 ?_
      refine fg_X10_306 C hw h_6 dX10_level_33 ?_
      refine lv_goto (tgt := 41) hx hb dX10_level_36 (by decide) ?_
      exact ret hf dX10_level_41 hw
  · have hf := x_iP hf q_5
    refine lv_ldc hx hb hown (hB _ mk_X10_61) dX10_level_11 ?_
    exact ret hf dX10_level_13 hw
def fX10_month (M : xM) (k0 : Nat) (a1 : Int32) (a2 : Int32) : Option (Int32 × xM) := x_b (fX8_hasPerson M (xr 0 k0 0) a1) fun v_4 M_2 => if v_4 = 0 then (some ((-1000000001 : Int32), M_2)) else (x_b (fX10_isWithin M_2 a2 (0 : Int32) (23 : Int32)) fun v_8 M_6 => if v_8 = 0 then (some ((-1000000001 : Int32), M_6)) else (x_b (fX5_isFound M_6 (xr 0 k0 4) (xr 0 k0 0) a1) fun v_13 M_11 => if v_13 = 0 then (some ((-1000000002 : Int32), M_11)) else (x_g a2 (xn 0 (xr 0 (xr 0 k0 4) 1)) (some ((M_11 (xr 0 (xr 0 k0 4) 1) a2.toNatClampNeg), M_11)))))
set_option maxRecDepth 100000 in
set_option maxHeartbeats 4000000 in
theorem mX10_month (l : Launch) (g : xG) {k0 : Nat} {a1 : Int32} {a2 : Int32} {r : Int32} {M' : xM} (h0 : x_is 0 k0 10) {M : xM} (hf : fX10_month M k0 a1 a2 = some (r, M')) : x_cI l g 0 yX10_month cX10_month 3 .int 6 149 [.ref (g.2.2.1 k0), .int a1, .int a2] M (fun v N => v = r ∧ N = M') := by
  refine x_stI RX10 (by decide) rfl (Nat.le_of_ble_eq_true rfl) ?_
  intro p e s m args below meth c Q ls C hw ret hl
  obtain ⟨hx, hb, hml, hown, hB, -⟩ := id C
  have hl : lv_has ls 3 [(0, .ref (g.2.2.1 k0)), (1, .int a1), (2, .int a2)] := hl
  unfold fX10_month at hf
  refine lv_aload_n hx hb dX10_month_0 rfl (lv_at hl 0 rfl) ?_
  refine fg_X10_10 C hw h0 dX10_month_1 ?_
  have h_1 : x_is 0 (xr 0 k0 0) 8 := x_tr h0 (by decide) (by decide) rfl (by decide)
  refine lv_iload_n hx hb dX10_month_4 rfl (lv_at hl 1 rfl) ?_
  obtain ⟨tv_4, tM_2, c_3, hf⟩ := x_bE hf
  refine x_vI C hw hl.1 [.int a1] [] (mX8_hasPerson l g h_1 c_3) lk_X10_76 h_1 (by decide) rfl (by decide) rfl (Nat.le_of_ble_eq_true rfl) ⟨Nat.zero_le _, Nat.zero_le _⟩ dX10_month_5 (fun v_4 M_2 H locs hN hw => ?_)
  obtain ⟨rfl, rfl⟩ := hN
  refine lv_if_eq (tgt := 21) hx hb dX10_month_8 (by decide) (fun q_5 => ?_) (fun q_5 => ?_)
  · have hf := x_iP hf q_5
    refine lv_ldc hx hb hown (hB _ mk_X10_61) dX10_month_21 ?_
    exact ret hf dX10_month_23 hw
  · have hf := x_iN hf q_5
    refine lv_iload_n hx hb dX10_month_11 rfl (lv_at hl 2 rfl) ?_
    refine lv_iconst (v := (0 : Int32)) hx hb dX10_month_12 (by decide) ?_
    refine lv_bipush (v := (23 : Int32)) hx hb dX10_month_13 (by decide) ?_
    obtain ⟨tv_8, tM_6, c_7, hf⟩ := x_bE hf
    refine x_sI C hw hl.1 [.int a2, .int (0 : Int32), .int (23 : Int32)] [] (mX10_isWithin l g c_7) lk_X10_57 (by decide) rfl (Nat.le_of_ble_eq_true rfl) ⟨Nat.zero_le _, Nat.zero_le _⟩ dX10_month_15 (fun v_8 M_6 H locs hN hw => ?_)
    obtain ⟨rfl, rfl⟩ := hN
    refine lv_if_ne (tgt := 24) hx hb dX10_month_18 (by decide) (fun q_9 => ?_) (fun q_9 => ?_)
    · have hf := x_iN hf q_9
      refine lv_aload_n hx hb dX10_month_24 rfl (lv_at hl 0 rfl) ?_
      refine fg_X10_33 C hw h0 dX10_month_25 ?_
      have h_10 : x_is 0 (xr 0 k0 4) 5 := x_tr h0 (by decide) (by decide) rfl (by decide)
      refine lv_aload_n hx hb dX10_month_28 rfl (lv_at hl 0 rfl) ?_
      refine fg_X10_10 C hw h0 dX10_month_29 ?_
      refine lv_iload_n hx hb dX10_month_32 rfl (lv_at hl 1 rfl) ?_
      obtain ⟨tv_13, tM_11, c_12, hf⟩ := x_bE hf
      refine x_vI C hw hl.1 [.ref (g.2.2.1 (xr 0 k0 0)), .int a1] [] (mX5_isFound l g h_10 h_1 c_12) lk_X10_302 h_10 (by decide) rfl (by decide) rfl (Nat.le_of_ble_eq_true rfl) ⟨Nat.zero_le _, Nat.zero_le _⟩ dX10_month_33 (fun v_13 M_11 H locs hN hw => ?_)
      obtain ⟨rfl, rfl⟩ := hN
      refine lv_if_eq (tgt := 51) hx hb dX10_month_36 (by decide) (fun q_14 => ?_) (fun q_14 => ?_)
      · have hf := x_iP hf q_14
        refine lv_ldc hx hb hown (hB _ mk_X10_91) dX10_month_51 ?_
        exact ret hf dX10_month_53 hw
      · have hf := x_iN hf q_14
        refine lv_aload_n hx hb dX10_month_39 rfl (lv_at hl 0 rfl) ?_
        refine fg_X10_33 C hw h0 dX10_month_40 ?_
        refine fg_X10_309 C hw h_10 dX10_month_43 ?_
        have h_15 : x_is 0 (xr 0 (xr 0 k0 4) 1) 12 := x_tr h_10 (by decide) (by decide) rfl (by decide)
        refine lv_iload_n hx hb dX10_month_46 rfl (lv_at hl 2 rfl) ?_
        obtain ⟨q_16, hf⟩ := x_gE hf
        refine x_ald C hw h_15 q_16 dX10_month_47 ?_
        refine lv_goto (tgt := 53) hx hb dX10_month_48 (by decide) ?_
        exact ret hf dX10_month_53 hw
    · have hf := x_iP hf q_9
      refine lv_ldc hx hb hown (hB _ mk_X10_61) dX10_month_21 ?_
      exact ret hf dX10_month_23 hw
def fX10_room (M : xM) (k0 : Nat) (a1 : Int32) (a2 : Int32) : Option (Int32 × xM) := x_b (fX8_hasPerson M (xr 0 k0 0) a1) fun v_4 M_2 => if v_4 = 0 then (some ((-1000000001 : Int32), M_2)) else (x_b (fX10_isWithin M_2 a2 (0 : Int32) (23 : Int32)) fun v_8 M_6 => if v_8 = 0 then (some ((-1000000001 : Int32), M_6)) else (x_b (fX8_roomOf M_6 (xr 0 k0 0) a1 a2) fun v_12 M_10 => some (v_12, M_10)))
set_option maxRecDepth 100000 in
set_option maxHeartbeats 4000000 in
theorem mX10_room (l : Launch) (g : xG) {k0 : Nat} {a1 : Int32} {a2 : Int32} {r : Int32} {M' : xM} (h0 : x_is 0 k0 10) {M : xM} (hf : fX10_room M k0 a1 a2 = some (r, M')) : x_cI l g 0 yX10_room cX10_room 3 .int 5 124 [.ref (g.2.2.1 k0), .int a1, .int a2] M (fun v N => v = r ∧ N = M') := by
  refine x_stI RX10 (by decide) rfl (Nat.le_of_ble_eq_true rfl) ?_
  intro p e s m args below meth c Q ls C hw ret hl
  obtain ⟨hx, hb, hml, hown, hB, -⟩ := id C
  have hl : lv_has ls 3 [(0, .ref (g.2.2.1 k0)), (1, .int a1), (2, .int a2)] := hl
  unfold fX10_room at hf
  refine lv_aload_n hx hb dX10_room_0 rfl (lv_at hl 0 rfl) ?_
  refine fg_X10_10 C hw h0 dX10_room_1 ?_
  have h_1 : x_is 0 (xr 0 k0 0) 8 := x_tr h0 (by decide) (by decide) rfl (by decide)
  refine lv_iload_n hx hb dX10_room_4 rfl (lv_at hl 1 rfl) ?_
  obtain ⟨tv_4, tM_2, c_3, hf⟩ := x_bE hf
  refine x_vI C hw hl.1 [.int a1] [] (mX8_hasPerson l g h_1 c_3) lk_X10_76 h_1 (by decide) rfl (by decide) rfl (Nat.le_of_ble_eq_true rfl) ⟨Nat.zero_le _, Nat.zero_le _⟩ dX10_room_5 (fun v_4 M_2 H locs hN hw => ?_)
  obtain ⟨rfl, rfl⟩ := hN
  refine lv_if_eq (tgt := 21) hx hb dX10_room_8 (by decide) (fun q_5 => ?_) (fun q_5 => ?_)
  · have hf := x_iP hf q_5
    refine lv_ldc hx hb hown (hB _ mk_X10_61) dX10_room_21 ?_
    exact ret hf dX10_room_23 hw
  · have hf := x_iN hf q_5
    refine lv_iload_n hx hb dX10_room_11 rfl (lv_at hl 2 rfl) ?_
    refine lv_iconst (v := (0 : Int32)) hx hb dX10_room_12 (by decide) ?_
    refine lv_bipush (v := (23 : Int32)) hx hb dX10_room_13 (by decide) ?_
    obtain ⟨tv_8, tM_6, c_7, hf⟩ := x_bE hf
    refine x_sI C hw hl.1 [.int a2, .int (0 : Int32), .int (23 : Int32)] [] (mX10_isWithin l g c_7) lk_X10_57 (by decide) rfl (Nat.le_of_ble_eq_true rfl) ⟨Nat.zero_le _, Nat.zero_le _⟩ dX10_room_15 (fun v_8 M_6 H locs hN hw => ?_)
    obtain ⟨rfl, rfl⟩ := hN
    refine lv_if_ne (tgt := 24) hx hb dX10_room_18 (by decide) (fun q_9 => ?_) (fun q_9 => ?_)
    · have hf := x_iN hf q_9
      refine lv_aload_n hx hb dX10_room_24 rfl (lv_at hl 0 rfl) ?_
      refine fg_X10_10 C hw h0 dX10_room_25 ?_
      refine lv_iload_n hx hb dX10_room_28 rfl (lv_at hl 1 rfl) ?_
      refine lv_iload_n hx hb dX10_room_29 rfl (lv_at hl 2 rfl) ?_
      obtain ⟨tv_12, tM_10, c_11, hf⟩ := x_bE hf
      refine x_vI C hw hl.1 [.int a1, .int a2] [] (mX8_roomOf l g h_1 c_11) lk_X10_312 h_1 (by decide) rfl (by decide) rfl (Nat.le_of_ble_eq_true rfl) ⟨Nat.zero_le _, Nat.zero_le _⟩ dX10_room_30 (fun v_12 M_10 H locs hN hw => ?_)
      obtain ⟨rfl, rfl⟩ := hN
      exact ret hf dX10_room_33 hw
    · have hf := x_iP hf q_9
      refine lv_ldc hx hb hown (hB _ mk_X10_61) dX10_room_21 ?_
      exact ret hf dX10_room_23 hw
def fX10_tell (M : xM) (k0 : Nat) (a1 : Int32) : Option (Int32 × xM) := if (M k0 6) < (30 : Int32) then (x_g (M k0 6) (xn 0 (xr 0 k0 5)) (x_l (x_up M (xr 0 k0 5) (M k0 6).toNatClampNeg a1) fun M_4 => x_l (x_up M_4 k0 6 ((M_4 k0 6) + (1 : Int32))) fun M_5 => some ((M_5 k0 6), M_5))) else (some ((-1000000003 : Int32), M))
set_option maxRecDepth 100000 in
set_option maxHeartbeats 4000000 in
theorem mX10_tell (l : Launch) (g : xG) {k0 : Nat} {a1 : Int32} {r : Int32} {M' : xM} (h0 : x_is 0 k0 10) {M : xM} (hf : fX10_tell M k0 a1 = some (r, M')) : x_cI l g 0 yX10_tell cX10_tell 2 .int 0 0 [.ref (g.2.2.1 k0), .int a1] M (fun v N => v = r ∧ N = M') := by
  refine x_stI RX10 (by decide) rfl (Nat.le_of_ble_eq_true rfl) ?_
  intro p e s m args below meth c Q ls C hw ret hl
  obtain ⟨hx, hb, hml, hown, hB, -⟩ := id C
  have hl : lv_has ls 2 [(0, .ref (g.2.2.1 k0)), (1, .int a1)] := hl
  unfold fX10_tell at hf
  refine lv_aload_n hx hb dX10_tell_0 rfl (lv_at hl 0 rfl) ?_
  refine fg_X10_41 C hw h0 dX10_tell_1 ?_
  refine lv_bipush (v := (30 : Int32)) hx hb dX10_tell_4 (by decide) ?_
  refine lv_icmp_lt (tgt := 12) hx hb dX10_tell_6 (by decide) (fun q_1 => ?_) (fun q_1 => ?_)
  · have hf := x_iP hf q_1
    refine lv_aload_n hx hb dX10_tell_12 rfl (lv_at hl 0 rfl) ?_
    refine fg_X10_37 C hw h0 dX10_tell_13 ?_
    have h_2 : x_is 0 (xr 0 k0 5) 12 := x_tr h0 (by decide) (by decide) rfl (by decide)
    refine lv_aload_n hx hb dX10_tell_16 rfl (lv_at hl 0 rfl) ?_
    refine fg_X10_41 C hw h0 dX10_tell_17 ?_
    refine lv_iload_n hx hb dX10_tell_20 rfl (lv_at hl 1 rfl) ?_
    obtain ⟨q_3, hf⟩ := x_gE hf
    refine x_ast C hw h_2 q_3 dX10_tell_21 (fun H locs hw => ?_)
    obtain ⟨M_4, eM_4⟩ : ∃ z, z = (x_up M (xr 0 k0 5) (M k0 6).toNatClampNeg a1) := ⟨_, rfl⟩
    rw [← eM_4] at hw
    have hf := x_lE eM_4 hf
    refine lv_aload_n hx hb dX10_tell_22 rfl (lv_at hl 0 rfl) ?_
    refine lv_dup hx hb dX10_tell_23 rfl ?_
    refine fg_X10_41 C hw h0 dX10_tell_24 ?_
    refine lv_iconst (v := (1 : Int32)) hx hb dX10_tell_27 (by decide) ?_
    refine lv_iadd hx hb dX10_tell_28 ?_
    refine fp_X10_41 C hw h0 dX10_tell_29 (fun H locs hw => ?_)
    obtain ⟨M_5, eM_5⟩ : ∃ z, z = (x_up M_4 k0 6 ((M_4 k0 6) + (1 : Int32))) := ⟨_, rfl⟩
    rw [← eM_5] at hw
    have hf := x_lE eM_5 hf
    refine lv_aload_n hx hb dX10_tell_32 rfl (lv_at hl 0 rfl) ?_
    refine fg_X10_41 C hw h0 dX10_tell_33 ?_
    exact ret hf dX10_tell_36 hw
  · have hf := x_iN hf q_1
    refine lv_ldc hx hb hown (hB _ mk_X10_65) dX10_tell_9 ?_
    exact ret hf dX10_tell_11 hw
def fX10_check (M : xM) (k0 : Nat) (a1 : Int32) : Option (Int32 × xM) := x_l (M k0 6) fun x2_1 => x_l (x_up M k0 6 (0 : Int32)) fun M_2 => x_b (fX8_hasPerson M_2 (xr 0 k0 0) a1) fun v_6 M_4 => if v_6 = 0 then (some ((-1000000001 : Int32), M_4)) else (x_b (fX5_isFound M_4 (xr 0 k0 4) (xr 0 k0 0) a1) fun v_11 M_9 => if v_11 = 0 then (some ((-1000000002 : Int32), M_9)) else (x_b (fX5_firstWrong M_9 (xr 0 k0 4) (xr 0 k0 5) x2_1) fun v_16 M_14 => some (v_16, M_14)))
set_option maxRecDepth 100000 in
set_option maxHeartbeats 4000000 in
theorem mX10_check (l : Launch) (g : xG) {k0 : Nat} {a1 : Int32} {r : Int32} {M' : xM} (h0 : x_is 0 k0 10) {M : xM} (hf : fX10_check M k0 a1 = some (r, M')) : x_cI l g 0 yX10_check cX10_check 3 .int 6 149 [.ref (g.2.2.1 k0), .int a1] M (fun v N => v = r ∧ N = M') := by
  refine x_stI RX10 (by decide) rfl (Nat.le_of_ble_eq_true rfl) ?_
  intro p e s m args below meth c Q ls C hw ret hl
  obtain ⟨hx, hb, hml, hown, hB, -⟩ := id C
  have hl : lv_has ls 3 [(0, .ref (g.2.2.1 k0)), (1, .int a1)] := hl
  unfold fX10_check at hf
  refine lv_aload_n hx hb dX10_check_0 rfl (lv_at hl 0 rfl) ?_
  refine fg_X10_41 C hw h0 dX10_check_1 ?_
  refine lv_topi (fun x2_1 ex2_1 => ?_)
  have hf := x_lE ex2_1 hf
  refine lv_istore_n (lv' := [(2, .int x2_1), (0, .ref (g.2.2.1 k0)), (1, .int a1)]) hx hb dX10_check_4 rfl hl (by decide) rfl (fun ls hl => ?_)
  refine lv_aload_n hx hb dX10_check_5 rfl (lv_at hl 1 rfl) ?_
  refine lv_iconst (v := (0 : Int32)) hx hb dX10_check_6 (by decide) ?_
  refine fp_X10_41 C hw h0 dX10_check_7 (fun H locs hw => ?_)
  obtain ⟨M_2, eM_2⟩ : ∃ z, z = (x_up M k0 6 (0 : Int32)) := ⟨_, rfl⟩
  rw [← eM_2] at hw
  have hf := x_lE eM_2 hf
  refine lv_aload_n hx hb dX10_check_10 rfl (lv_at hl 1 rfl) ?_
  refine fg_X10_10 C hw h0 dX10_check_11 ?_
  have h_3 : x_is 0 (xr 0 k0 0) 8 := x_tr h0 (by decide) (by decide) rfl (by decide)
  refine lv_iload_n hx hb dX10_check_14 rfl (lv_at hl 2 rfl) ?_
  obtain ⟨tv_6, tM_4, c_5, hf⟩ := x_bE hf
  refine x_vI C hw hl.1 [.int a1] [] (mX8_hasPerson l g h_3 c_5) lk_X10_76 h_3 (by decide) rfl (by decide) rfl (Nat.le_of_ble_eq_true rfl) ⟨Nat.zero_le _, Nat.zero_le _⟩ dX10_check_15 (fun v_6 M_4 H locs hN hw => ?_)
  obtain ⟨rfl, rfl⟩ := hN
  refine lv_if_ne (tgt := 24) hx hb dX10_check_18 (by decide) (fun q_7 => ?_) (fun q_7 => ?_)
  · have hf := x_iN hf q_7
    refine lv_aload_n hx hb dX10_check_24 rfl (lv_at hl 1 rfl) ?_
    refine fg_X10_33 C hw h0 dX10_check_25 ?_
    have h_8 : x_is 0 (xr 0 k0 4) 5 := x_tr h0 (by decide) (by decide) rfl (by decide)
    refine lv_aload_n hx hb dX10_check_28 rfl (lv_at hl 1 rfl) ?_
    refine fg_X10_10 C hw h0 dX10_check_29 ?_
    refine lv_iload_n hx hb dX10_check_32 rfl (lv_at hl 2 rfl) ?_
    obtain ⟨tv_11, tM_9, c_10, hf⟩ := x_bE hf
    refine x_vI C hw hl.1 [.ref (g.2.2.1 (xr 0 k0 0)), .int a1] [] (mX5_isFound l g h_8 h_3 c_10) lk_X10_302 h_8 (by decide) rfl (by decide) rfl (Nat.le_of_ble_eq_true rfl) ⟨Nat.zero_le _, Nat.zero_le _⟩ dX10_check_33 (fun v_11 M_9 H locs hN hw => ?_)
    obtain ⟨rfl, rfl⟩ := hN
    refine lv_if_eq (tgt := 54) hx hb dX10_check_36 (by decide) (fun q_12 => ?_) (fun q_12 => ?_)
    · have hf := x_iP hf q_12
      refine lv_ldc hx hb hown (hB _ mk_X10_91) dX10_check_54 ?_
      exact ret hf dX10_check_56 hw
    · have hf := x_iN hf q_12
      refine lv_aload_n hx hb dX10_check_39 rfl (lv_at hl 1 rfl) ?_
      refine fg_X10_33 C hw h0 dX10_check_40 ?_
      refine lv_aload_n hx hb dX10_check_43 rfl (lv_at hl 1 rfl) ?_
      refine fg_X10_37 C hw h0 dX10_check_44 ?_
      have h_13 : x_is 0 (xr 0 k0 5) 12 := x_tr h0 (by decide) (by decide) rfl (by decide)
      refine lv_iload_n hx hb dX10_check_47 rfl (lv_at hl 0 rfl) ?_
      obtain ⟨tv_16, tM_14, c_15, hf⟩ := x_bE hf
      refine x_vI C hw hl.1 [.ref (g.2.2.1 (xr 0 k0 5)), .int x2_1] [] (mX5_firstWrong l g h_8 h_13 c_15) lk_X10_315 h_8 (by decide) rfl (by decide) rfl (Nat.le_of_ble_eq_true rfl) ⟨Nat.zero_le _, Nat.zero_le _⟩ dX10_check_48 (fun v_16 M_14 H locs hN hw => ?_)
      obtain ⟨rfl, rfl⟩ := hN
      refine lv_goto (tgt := 56) hx hb dX10_check_51 (by decide) ?_
      exact ret hf dX10_check_56 hw
  · have hf := x_iP hf q_7
    refine lv_ldc hx hb hown (hB _ mk_X10_61) dX10_check_21 ?_
    exact ret hf dX10_check_23 hw
def fX10_alike (M : xM) (k0 : Nat) (a1 : Int32) (a2 : Int32) : Option (Int32 × xM) := x_b (fX8_hasJudgment M (xr 0 k0 0) a1) fun v_4 M_2 => if v_4 = 0 then (some ((-1000000001 : Int32), M_2)) else (x_b (fX8_hasJudgment M_2 (xr 0 k0 0) a2) fun v_8 M_6 => if v_8 = 0 then (some ((-1000000001 : Int32), M_6)) else (if a1 = a2 then (some ((-1000000001 : Int32), M_6)) else (x_b (fX8_areAlike M_6 (xr 0 k0 0) a1 a2) fun v_13 M_11 => x_b (fX10_oneIf M_11 v_13) fun v_16 M_14 => some (v_16, M_14))))
set_option maxRecDepth 100000 in
set_option maxHeartbeats 4000000 in
theorem mX10_alike (l : Launch) (g : xG) {k0 : Nat} {a1 : Int32} {a2 : Int32} {r : Int32} {M' : xM} (h0 : x_is 0 k0 10) {M : xM} (hf : fX10_alike M k0 a1 a2 = some (r, M')) : x_cI l g 0 yX10_alike cX10_alike 3 .int 3 69 [.ref (g.2.2.1 k0), .int a1, .int a2] M (fun v N => v = r ∧ N = M') := by
  refine x_stI RX10 (by decide) rfl (Nat.le_of_ble_eq_true rfl) ?_
  intro p e s m args below meth c Q ls C hw ret hl
  obtain ⟨hx, hb, hml, hown, hB, -⟩ := id C
  have hl : lv_has ls 3 [(0, .ref (g.2.2.1 k0)), (1, .int a1), (2, .int a2)] := hl
  unfold fX10_alike at hf
  refine lv_aload_n hx hb dX10_alike_0 rfl (lv_at hl 0 rfl) ?_
  refine fg_X10_10 C hw h0 dX10_alike_1 ?_
  have h_1 : x_is 0 (xr 0 k0 0) 8 := x_tr h0 (by decide) (by decide) rfl (by decide)
  refine lv_iload_n hx hb dX10_alike_4 rfl (lv_at hl 1 rfl) ?_
  obtain ⟨tv_4, tM_2, c_3, hf⟩ := x_bE hf
  refine x_vI C hw hl.1 [.int a1] [] (mX8_hasJudgment l g h_1 c_3) lk_X10_248 h_1 (by decide) rfl (by decide) rfl (Nat.le_of_ble_eq_true rfl) ⟨Nat.zero_le _, Nat.zero_le _⟩ dX10_alike_5 (fun v_4 M_2 H locs hN hw => ?_)
  obtain ⟨rfl, rfl⟩ := hN
  refine lv_if_eq (tgt := 27) hx hb dX10_alike_8 (by decide) (fun q_5 => ?_) (fun q_5 => ?_)
  · have hf := x_iP hf q_5
    refine lv_ldc hx hb hown (hB _ mk_X10_61) dX10_alike_27 ?_
    exact ret hf dX10_alike_29 hw
  · have hf := x_iN hf q_5
    refine lv_aload_n hx hb dX10_alike_11 rfl (lv_at hl 0 rfl) ?_
    refine fg_X10_10 C hw h0 dX10_alike_12 ?_
    refine lv_iload_n hx hb dX10_alike_15 rfl (lv_at hl 2 rfl) ?_
    obtain ⟨tv_8, tM_6, c_7, hf⟩ := x_bE hf
    refine x_vI C hw hl.1 [.int a2] [] (mX8_hasJudgment l g h_1 c_7) lk_X10_248 h_1 (by decide) rfl (by decide) rfl (Nat.le_of_ble_eq_true rfl) ⟨Nat.zero_le _, Nat.zero_le _⟩ dX10_alike_16 (fun v_8 M_6 H locs hN hw => ?_)
    obtain ⟨rfl, rfl⟩ := hN
    refine lv_if_eq (tgt := 27) hx hb dX10_alike_19 (by decide) (fun q_9 => ?_) (fun q_9 => ?_)
    · have hf := x_iP hf q_9
      refine lv_ldc hx hb hown (hB _ mk_X10_61) dX10_alike_27 ?_
      exact ret hf dX10_alike_29 hw
    · have hf := x_iN hf q_9
      refine lv_iload_n hx hb dX10_alike_22 rfl (lv_at hl 1 rfl) ?_
      refine lv_iload_n hx hb dX10_alike_23 rfl (lv_at hl 2 rfl) ?_
      refine lv_icmp_ne (tgt := 30) hx hb dX10_alike_24 (by decide) (fun q_10 => ?_) (fun q_10 => ?_)
      · have hf := x_iN hf q_10
        refine lv_aload_n hx hb dX10_alike_30 rfl (lv_at hl 0 rfl) ?_
        refine fg_X10_10 C hw h0 dX10_alike_31 ?_
        refine lv_iload_n hx hb dX10_alike_34 rfl (lv_at hl 1 rfl) ?_
        refine lv_iload_n hx hb dX10_alike_35 rfl (lv_at hl 2 rfl) ?_
        obtain ⟨tv_13, tM_11, c_12, hf⟩ := x_bE hf
        refine x_vI C hw hl.1 [.int a1, .int a2] [] (mX8_areAlike l g h_1 c_12) lk_X10_319 h_1 (by decide) rfl (by decide) rfl (Nat.le_of_ble_eq_true rfl) ⟨Nat.zero_le _, Nat.zero_le _⟩ dX10_alike_36 (fun v_13 M_11 H locs hN hw => ?_)
        obtain ⟨rfl, rfl⟩ := hN
        obtain ⟨tv_16, tM_14, c_15, hf⟩ := x_bE hf
        refine x_sI C hw hl.1 [.int v_13] [] (mX10_oneIf l g c_15) lk_X10_83 (by decide) rfl (Nat.le_of_ble_eq_true rfl) ⟨Nat.zero_le _, Nat.zero_le _⟩ dX10_alike_39 (fun v_16 M_14 H locs hN hw => ?_)
        obtain ⟨rfl, rfl⟩ := hN
        exact ret hf dX10_alike_42 hw
      · have hf := x_iP hf q_10
        refine lv_ldc hx hb hown (hB _ mk_X10_61) dX10_alike_27 ?_
        exact ret hf dX10_alike_29 hw
