def fX11_worth (M : xM) (k0 : Nat) (a1 : Int32) : Option (Int32 × xM) := x_b (fX11_isDeed M k0 a1) fun v_3 M_1 => if v_3 = 0 then (some ((-1000000001 : Int32), M_1)) else (x_g (21 : Int32) (xn 1 (xr 1 k0 0)) (if (M_1 (xr 1 k0 0) (21 : Int32).toNatClampNeg) = 0 then (some ((-1000000002 : Int32), M_1)) else (x_b (fX11_worthOf M_1 k0 a1) fun v_10 M_8 => some (v_10, M_8))))
set_option maxRecDepth 100000 in
set_option maxHeartbeats 4000000 in
theorem mX11_worth (l : Launch) (g : xG) {k0 : Nat} {a1 : Int32} {r : Int32} {M' : xM} (h0 : x_is 1 k0 11) {M : xM} (hf : fX11_worth M k0 a1 = some (r, M')) : x_cI l g 1 yX11_worth cX11_worth 2 .int 3 70 [.ref (g.2.2.1 k0), .int a1] M (fun v N => v = r ∧ N = M') := by
  refine x_stI RX11 (by decide) rfl (Nat.le_of_ble_eq_true rfl) ?_
  intro p e s m args below meth c Q ls C hw ret hl
  obtain ⟨hx, hb, hml, hown, hB, -⟩ := id C
  have hl : lv_has ls 2 [(0, .ref (g.2.2.1 k0)), (1, .int a1)] := hl
  unfold fX11_worth at hf
  refine lv_aload_n hx hb dX11_worth_0 rfl (lv_at hl 0 rfl) ?_
  refine lv_iload_n hx hb dX11_worth_1 rfl (lv_at hl 1 rfl) ?_
  obtain ⟨tv_3, tM_1, c_2, hf⟩ := x_bE hf
  refine x_vI C hw hl.1 [.int a1] [] (mX11_isDeed l g h0 c_2) lk_X11_90 h0 (by decide) rfl (by decide) rfl (Nat.le_of_ble_eq_true rfl) ⟨Nat.zero_le _, Nat.zero_le _⟩ dX11_worth_2 (fun v_3 M_1 H locs hN hw => ?_)
  obtain ⟨rfl, rfl⟩ := hN
  refine lv_if_ne (tgt := 11) hx hb dX11_worth_5 (by decide) (fun q_4 => ?_) (fun q_4 => ?_)
  · have hf := x_iN hf q_4
    refine lv_aload_n hx hb dX11_worth_11 rfl (lv_at hl 0 rfl) ?_
    refine fg_X11_7 C hw h0 dX11_worth_12 ?_
    have h_5 : x_is 1 (xr 1 k0 0) 12 := x_tm h0 (by decide) rfl
    refine lv_bipush (v := (21 : Int32)) hx hb dX11_worth_15 (by decide) ?_
    obtain ⟨q_6, hf⟩ := x_gE hf
    refine x_ald C hw h_5 q_6 dX11_worth_17 ?_
    refine lv_if_ne (tgt := 26) hx hb dX11_worth_18 (by decide) (fun q_7 => ?_) (fun q_7 => ?_)
    · have hf := x_iN hf q_7
      refine lv_aload_n hx hb dX11_worth_26 rfl (lv_at hl 0 rfl) ?_
      refine lv_iload_n hx hb dX11_worth_27 rfl (lv_at hl 1 rfl) ?_
      obtain ⟨tv_10, tM_8, c_9, hf⟩ := x_bE hf
      refine x_vI C hw hl.1 [.int a1] [] (mX11_worthOf l g h0 c_9) lk_X11_198 h0 (by decide) rfl (by decide) rfl (Nat.le_of_ble_eq_true rfl) ⟨Nat.zero_le _, Nat.zero_le _⟩ dX11_worth_28 (fun v_10 M_8 H locs hN hw => ?_)
      obtain ⟨rfl, rfl⟩ := hN
      exact ret hf dX11_worth_31 hw
    · have hf := x_iP hf q_7
      refine lv_ldc hx hb hown (hB _ mk_X11_69) dX11_worth_21 ?_
      refine lv_goto (tgt := 31) hx hb dX11_worth_23 (by decide) ?_
      exact ret hf dX11_worth_31 hw
  · have hf := x_iP hf q_4
    refine lv_ldc hx hb hown (hB _ mk_X11_60) dX11_worth_8 ?_
    exact ret hf dX11_worth_10 hw
def fX11_sumOf (M : xM) (k0 : Nat) (a1 : Int32) (a2 : Int32) (a3 : Int32) : Option (Int32 × xM) := x_b (fX11_earns M k0 a1 a2 a3) fun v_4 M_2 => x_g (105 : Int32) (xn 1 (xr 1 k0 20)) (x_l (x_up M_2 (xr 1 k0 20) (105 : Int32).toNatClampNeg v_4) fun M_6 => x_b (fX11_whatOf M_6 k0 a1 (1 : Int32) a2 a3) fun v_9 M_7 => x_g (110 : Int32) (xn 1 (xr 1 k0 20)) (x_l (x_up M_7 (xr 1 k0 20) (110 : Int32).toNatClampNeg v_9) fun M_11 => x_b (fX11_whatOf M_11 k0 a1 (2 : Int32) a2 a3) fun v_14 M_12 => x_g (119 : Int32) (xn 1 (xr 1 k0 20)) (x_l (x_up M_12 (xr 1 k0 20) (119 : Int32).toNatClampNeg v_14) fun M_16 => x_b (fX11_whatOf M_16 k0 a1 (3 : Int32) a2 a3) fun v_19 M_17 => x_g (100 : Int32) (xn 1 (xr 1 k0 20)) (x_l (x_up M_17 (xr 1 k0 20) (100 : Int32).toNatClampNeg v_19) fun M_21 => x_g ((30 : Int32) + ((3 : Int32) * a1)) (xn 1 (xr 1 k0 0)) (x_l (fun (M_26 : xM) (z_24 : Int32) => x_g (115 : Int32) (xn 1 (xr 1 k0 20)) (x_l (x_up M_26 (xr 1 k0 20) (115 : Int32).toNatClampNeg z_24) fun M_28 => x_b (fX11_isYoung M_28 k0 a1) fun v_31 M_29 => x_l (fun (M_34 : xM) (z_32 : Int32) => x_g (121 : Int32) (xn 1 (xr 1 k0 20)) (x_l (x_up M_34 (xr 1 k0 20) (121 : Int32).toNatClampNeg z_32) fun M_36 => x_b (fX11_worked M_36 k0 (1 : Int32)) fun v_39 M_37 => x_g (7 : Int32) (xn 1 (xr 1 k0 0)) (x_b (fX11_more M_37 v_39 (M_37 (xr 1 k0 0) (7 : Int32).toNatClampNeg)) fun v_43 M_41 => x_g (8 : Int32) (xn 1 (xr 1 k0 0)) (x_b (fX11_less M_41 v_43 (M_41 (xr 1 k0 0) (8 : Int32).toNatClampNeg)) fun v_47 M_45 => some (v_47, M_45))))) fun k105_33 => if v_31 = 0 then (k105_33 M_29 (0 : Int32)) else (k105_33 M_29 (1 : Int32)))) fun k85_25 => if (M_21 (xr 1 k0 0) ((30 : Int32) + ((3 : Int32) * a1)).toNatClampNeg) = (2 : Int32) then (k85_25 M_21 (1 : Int32)) else (k85_25 M_21 (0 : Int32)))))))
set_option maxRecDepth 100000 in
set_option maxHeartbeats 4000000 in
theorem mX11_sumOf (l : Launch) (g : xG) {k0 : Nat} {a1 : Int32} {a2 : Int32} {a3 : Int32} {r : Int32} {M' : xM} (h0 : x_is 1 k0 11) {M : xM} (hf : fX11_sumOf M k0 a1 a2 a3 = some (r, M')) : x_cI l g 1 yX11_sumOf cX11_sumOf 4 .int 3 78 [.ref (g.2.2.1 k0), .int a1, .int a2, .int a3] M (fun v N => v = r ∧ N = M') := by
  refine x_stI RX11 (by decide) rfl (Nat.le_of_ble_eq_true rfl) ?_
  intro p e s m args below meth c Q ls C hw ret hl
  obtain ⟨hx, hb, hml, hown, hB, -⟩ := id C
  have hl : lv_has ls 4 [(0, .ref (g.2.2.1 k0)), (1, .int a1), (2, .int a2), (3, .int a3)] := hl
  unfold fX11_sumOf at hf
  refine lv_aload_n hx hb dX11_sumOf_0 rfl (lv_at hl 0 rfl) ?_
  refine fg_X11_28 C hw h0 dX11_sumOf_1 ?_
  have h_1 : x_is 1 (xr 1 k0 20) 12 := x_tm h0 (by decide) rfl
  refine lv_bipush (v := (105 : Int32)) hx hb dX11_sumOf_4 (by decide) ?_
  refine lv_aload_n hx hb dX11_sumOf_6 rfl (lv_at hl 0 rfl) ?_
  refine lv_iload_n hx hb dX11_sumOf_7 rfl (lv_at hl 1 rfl) ?_
  refine lv_iload_n hx hb dX11_sumOf_8 rfl (lv_at hl 2 rfl) ?_
  refine lv_iload_n hx hb dX11_sumOf_9 rfl (lv_at hl 3 rfl) ?_
  obtain ⟨tv_4, tM_2, c_3, hf⟩ := x_bE hf
  refine x_vI C hw hl.1 [.int a1, .int a2, .int a3] [.int (105 : Int32), .ref (g.2.2.1 (xr 1 k0 20))] (mX11_earns l g h0 c_3) lk_X11_83 h0 (by decide) rfl (by decide) rfl (Nat.le_of_ble_eq_true rfl) ⟨Nat.zero_le _, Nat.zero_le _⟩ dX11_sumOf_10 (fun v_4 M_2 H locs hN hw => ?_)
  obtain ⟨rfl, rfl⟩ := hN
  obtain ⟨q_5, hf⟩ := x_gE hf
  refine x_ast C hw h_1 q_5 dX11_sumOf_13 (fun H locs hw => ?_)
  obtain ⟨M_6, eM_6⟩ : ∃ z, z = (x_up M_2 (xr 1 k0 20) (105 : Int32).toNatClampNeg v_4) := ⟨_, rfl⟩
  rw [← eM_6] at hw
  have hf := x_lE eM_6 hf
  refine lv_aload_n hx hb dX11_sumOf_14 rfl (lv_at hl 0 rfl) ?_
  refine fg_X11_28 C hw h0 dX11_sumOf_15 ?_
  refine lv_bipush (v := (110 : Int32)) hx hb dX11_sumOf_18 (by decide) ?_
  refine lv_aload_n hx hb dX11_sumOf_20 rfl (lv_at hl 0 rfl) ?_
  refine lv_iload_n hx hb dX11_sumOf_21 rfl (lv_at hl 1 rfl) ?_
  refine lv_iconst (v := (1 : Int32)) hx hb dX11_sumOf_22 (by decide) ?_
  refine lv_iload_n hx hb dX11_sumOf_23 rfl (lv_at hl 2 rfl) ?_
  refine lv_iload_n hx hb dX11_sumOf_24 rfl (lv_at hl 3 rfl) ?_
  obtain ⟨tv_9, tM_7, c_8, hf⟩ := x_bE hf
  refine x_vI C hw hl.1 [.int a1, .int (1 : Int32), .int a2, .int a3] [.int (110 : Int32), .ref (g.2.2.1 (xr 1 k0 20))] (mX11_whatOf l g h0 c_8) lk_X11_71 h0 (by decide) rfl (by decide) rfl (Nat.le_of_ble_eq_true rfl) ⟨Nat.zero_le _, Nat.zero_le _⟩ dX11_sumOf_25 (fun v_9 M_7 H locs hN hw => ?_)
  obtain ⟨rfl, rfl⟩ := hN
  obtain ⟨q_10, hf⟩ := x_gE hf
  refine x_ast C hw h_1 q_10 dX11_sumOf_28 (fun H locs hw => ?_)
  obtain ⟨M_11, eM_11⟩ : ∃ z, z = (x_up M_7 (xr 1 k0 20) (110 : Int32).toNatClampNeg v_9) := ⟨_, rfl⟩
  rw [← eM_11] at hw
  have hf := x_lE eM_11 hf
  refine lv_aload_n hx hb dX11_sumOf_29 rfl (lv_at hl 0 rfl) ?_
  refine fg_X11_28 C hw h0 dX11_sumOf_30 ?_
  refine lv_bipush (v := (119 : Int32)) hx hb dX11_sumOf_33 (by decide) ?_
  refine lv_aload_n hx hb dX11_sumOf_35 rfl (lv_at hl 0 rfl) ?_
  refine lv_iload_n hx hb dX11_sumOf_36 rfl (lv_at hl 1 rfl) ?_
  refine lv_iconst (v := (2 : Int32)) hx hb dX11_sumOf_37 (by decide) ?_
  refine lv_iload_n hx hb dX11_sumOf_38 rfl (lv_at hl 2 rfl) ?_
  refine lv_iload_n hx hb dX11_sumOf_39 rfl (lv_at hl 3 rfl) ?_
  obtain ⟨tv_14, tM_12, c_13, hf⟩ := x_bE hf
  refine x_vI C hw hl.1 [.int a1, .int (2 : Int32), .int a2, .int a3] [.int (119 : Int32), .ref (g.2.2.1 (xr 1 k0 20))] (mX11_whatOf l g h0 c_13) lk_X11_71 h0 (by decide) rfl (by decide) rfl (Nat.le_of_ble_eq_true rfl) ⟨Nat.zero_le _, Nat.zero_le _⟩ dX11_sumOf_40 (fun v_14 M_12 H locs hN hw => ?_)
  obtain ⟨rfl, rfl⟩ := hN
  obtain ⟨q_15, hf⟩ := x_gE hf
  refine x_ast C hw h_1 q_15 dX11_sumOf_43 (fun H locs hw => ?_)
  obtain ⟨M_16, eM_16⟩ : ∃ z, z = (x_up M_12 (xr 1 k0 20) (119 : Int32).toNatClampNeg v_14) := ⟨_, rfl⟩
  rw [← eM_16] at hw
  have hf := x_lE eM_16 hf
  refine lv_aload_n hx hb dX11_sumOf_44 rfl (lv_at hl 0 rfl) ?_
  refine fg_X11_28 C hw h0 dX11_sumOf_45 ?_
  refine lv_bipush (v := (100 : Int32)) hx hb dX11_sumOf_48 (by decide) ?_
  refine lv_aload_n hx hb dX11_sumOf_50 rfl (lv_at hl 0 rfl) ?_
  refine lv_iload_n hx hb dX11_sumOf_51 rfl (lv_at hl 1 rfl) ?_
  refine lv_iconst (v := (3 : Int32)) hx hb dX11_sumOf_52 (by decide) ?_
  refine lv_iload_n hx hb dX11_sumOf_53 rfl (lv_at hl 2 rfl) ?_
  refine lv_iload_n hx hb dX11_sumOf_54 rfl (lv_at hl 3 rfl) ?_
  obtain ⟨tv_19, tM_17, c_18, hf⟩ := x_bE hf
  refine x_vI C hw hl.1 [.int a1, .int (3 : Int32), .int a2, .int a3] [.int (100 : Int32), .ref (g.2.2.1 (xr 1 k0 20))] (mX11_whatOf l g h0 c_18) lk_X11_71 h0 (by decide) rfl (by decide) rfl (Nat.le_of_ble_eq_true rfl) ⟨Nat.zero_le _, Nat.zero_le _⟩ dX11_sumOf_55 (fun v_19 M_17 H locs hN hw => ?_)
  obtain ⟨rfl, rfl⟩ := hN
  obtain ⟨q_20, hf⟩ := x_gE hf
  refine x_ast C hw h_1 q_20 dX11_sumOf_58 (fun H locs hw => ?_)
  obtain ⟨M_21, eM_21⟩ : ∃ z, z = (x_up M_17 (xr 1 k0 20) (100 : Int32).toNatClampNeg v_19) := ⟨_, rfl⟩
  rw [← eM_21] at hw
  have hf := x_lE eM_21 hf
  refine lv_aload_n hx hb dX11_sumOf_59 rfl (lv_at hl 0 rfl) ?_
  refine fg_X11_28 C hw h0 dX11_sumOf_60 ?_
  refine lv_bipush (v := (115 : Int32)) hx hb dX11_sumOf_63 (by decide) ?_
  refine lv_aload_n hx hb dX11_sumOf_65 rfl (lv_at hl 0 rfl) ?_
  refine fg_X11_7 C hw h0 dX11_sumOf_66 ?_
  have h_22 : x_is 1 (xr 1 k0 0) 12 := x_tm h0 (by decide) rfl
  refine lv_bipush (v := (30 : Int32)) hx hb dX11_sumOf_69 (by decide) ?_
  refine lv_iconst (v := (3 : Int32)) hx hb dX11_sumOf_71 (by decide) ?_
  refine lv_iload_n hx hb dX11_sumOf_72 rfl (lv_at hl 1 rfl) ?_
  refine lv_imul hx hb dX11_sumOf_73 ?_
  refine lv_iadd hx hb dX11_sumOf_74 ?_
  obtain ⟨q_23, hf⟩ := x_gE hf
  refine x_ald C hw h_22 q_23 dX11_sumOf_75 ?_
  refine lv_iconst (v := (2 : Int32)) hx hb dX11_sumOf_76 (by decide) ?_
  obtain ⟨k85_25, ek85_25, hf⟩ := x_jE hf
  have hk85_25 : ∀ (H : Heap) (locs : List Loc) (M_26 : xM) (z_24 : Int32) (ls : Array Slot) , lv_has ls 4 [(0, .ref (g.2.2.1 k0)), (1, .int a1)] → x_w g 1 s H locs M_26 → k85_25 M_26 z_24 = some (r, M') → W p l e (x_rm 3 78) s m args below meth c H locs 0 0 Q (F0 m 85 ls [.int z_24, .int (115 : Int32), .ref (g.2.2.1 (xr 1 k0 20))]) := by
    intro H locs M_26 z_24 ls  hl hw hf
    rw [ek85_25] at hf
    obtain ⟨q_27, hf⟩ := x_gE hf
    refine x_ast C hw h_1 q_27 dX11_sumOf_85 (fun H locs hw => ?_)
    obtain ⟨M_28, eM_28⟩ : ∃ z, z = (x_up M_26 (xr 1 k0 20) (115 : Int32).toNatClampNeg z_24) := ⟨_, rfl⟩
    rw [← eM_28] at hw
    have hf := x_lE eM_28 hf
    refine lv_aload_n hx hb dX11_sumOf_86 rfl (lv_at hl 0 rfl) ?_
    refine fg_X11_28 C hw h0 dX11_sumOf_87 ?_
    refine lv_bipush (v := (121 : Int32)) hx hb dX11_sumOf_90 (by decide) ?_
    refine lv_aload_n hx hb dX11_sumOf_92 rfl (lv_at hl 0 rfl) ?_
    refine lv_iload_n hx hb dX11_sumOf_93 rfl (lv_at hl 1 rfl) ?_
    obtain ⟨tv_31, tM_29, c_30, hf⟩ := x_bE hf
    refine x_vI C hw hl.1 [.int a1] [.int (121 : Int32), .ref (g.2.2.1 (xr 1 k0 20))] (mX11_isYoung l g h0 c_30) lk_X11_66 h0 (by decide) rfl (by decide) rfl (Nat.le_of_ble_eq_true rfl) ⟨Nat.zero_le _, Nat.zero_le _⟩ dX11_sumOf_94 (fun v_31 M_29 H locs hN hw => ?_)
    obtain ⟨rfl, rfl⟩ := hN
    obtain ⟨k105_33, ek105_33, hf⟩ := x_jE hf
    have hk105_33 : ∀ (H : Heap) (locs : List Loc) (M_34 : xM) (z_32 : Int32) (ls : Array Slot) , lv_has ls 4 [(0, .ref (g.2.2.1 k0))] → x_w g 1 s H locs M_34 → k105_33 M_34 z_32 = some (r, M') → W p l e (x_rm 3 78) s m args below meth c H locs 0 0 Q (F0 m 105 ls [.int z_32, .int (121 : Int32), .ref (g.2.2.1 (xr 1 k0 20))]) := by
      intro H locs M_34 z_32 ls  hl hw hf
      rw [ek105_33] at hf
      obtain ⟨q_35, hf⟩ := x_gE hf
      refine x_ast C hw h_1 q_35 dX11_sumOf_105 (fun H locs hw => ?_)
      obtain ⟨M_36, eM_36⟩ : ∃ z, z = (x_up M_34 (xr 1 k0 20) (121 : Int32).toNatClampNeg z_32) := ⟨_, rfl⟩
      rw [← eM_36] at hw
      have hf := x_lE eM_36 hf
      refine lv_aload_n hx hb dX11_sumOf_106 rfl (lv_at hl 0 rfl) ?_
      refine lv_iconst (v := (1 : Int32)) hx hb dX11_sumOf_107 (by decide) ?_
      obtain ⟨tv_39, tM_37, c_38, hf⟩ := x_bE hf
      refine x_vI C hw hl.1 [.int (1 : Int32)] [] (mX11_worked l g h0 c_38) lk_X11_192 h0 (by decide) rfl (by decide) rfl (Nat.le_of_ble_eq_true rfl) ⟨Nat.zero_le _, Nat.zero_le _⟩ dX11_sumOf_108 (fun v_39 M_37 H locs hN hw => ?_)
      obtain ⟨rfl, rfl⟩ := hN
      refine lv_aload_n hx hb dX11_sumOf_111 rfl (lv_at hl 0 rfl) ?_
      refine fg_X11_7 C hw h0 dX11_sumOf_112 ?_
      refine lv_bipush (v := (7 : Int32)) hx hb dX11_sumOf_115 (by decide) ?_
      obtain ⟨q_40, hf⟩ := x_gE hf
      refine x_ald C hw h_22 q_40 dX11_sumOf_117 ?_
      obtain ⟨tv_43, tM_41, c_42, hf⟩ := x_bE hf
      refine x_sI C hw hl.1 [.int v_39, .int (M_37 (xr 1 k0 0) (7 : Int32).toNatClampNeg)] [] (mX11_more l g c_42) lk_X11_75 (by decide) rfl (Nat.le_of_ble_eq_true rfl) ⟨Nat.zero_le _, Nat.zero_le _⟩ dX11_sumOf_118 (fun v_43 M_41 H locs hN hw => ?_)
      obtain ⟨rfl, rfl⟩ := hN
      refine lv_aload_n hx hb dX11_sumOf_121 rfl (lv_at hl 0 rfl) ?_
      refine fg_X11_7 C hw h0 dX11_sumOf_122 ?_
      refine lv_bipush (v := (8 : Int32)) hx hb dX11_sumOf_125 (by decide) ?_
      obtain ⟨q_44, hf⟩ := x_gE hf
      refine x_ald C hw h_22 q_44 dX11_sumOf_127 ?_
      obtain ⟨tv_47, tM_45, c_46, hf⟩ := x_bE hf
      refine x_sI C hw hl.1 [.int v_43, .int (M_41 (xr 1 k0 0) (8 : Int32).toNatClampNeg)] [] (mX11_less l g c_46) lk_X11_195 (by decide) rfl (Nat.le_of_ble_eq_true rfl) ⟨Nat.zero_le _, Nat.zero_le _⟩ dX11_sumOf_128 (fun v_47 M_45 H locs hN hw => ?_)
      obtain ⟨rfl, rfl⟩ := hN
      exact ret hf dX11_sumOf_131 hw
    refine lv_if_eq (tgt := 104) hx hb dX11_sumOf_97 (by decide) (fun q_48 => ?_) (fun q_48 => ?_)
    · have hf := x_iP hf q_48
      refine lv_iconst (v := (0 : Int32)) hx hb dX11_sumOf_104 (by decide) ?_
      exact hk105_33 _ _ _ _ _ (lv_sub hl [0] rfl) hw hf
    · have hf := x_iN hf q_48
      refine lv_iconst (v := (1 : Int32)) hx hb dX11_sumOf_100 (by decide) ?_
      refine lv_goto (tgt := 105) hx hb dX11_sumOf_101 (by decide) ?_
      exact hk105_33 _ _ _ _ _ (lv_sub hl [0] rfl) hw hf
  refine lv_icmp_ne (tgt := 84) hx hb dX11_sumOf_77 (by decide) (fun q_49 => ?_) (fun q_49 => ?_)
  · have hf := x_iN hf q_49
    refine lv_iconst (v := (0 : Int32)) hx hb dX11_sumOf_84 (by decide) ?_
    exact hk85_25 _ _ _ _ _ (lv_sub hl [0, 1] rfl) hw hf
  · have hf := x_iP hf q_49
    refine lv_iconst (v := (1 : Int32)) hx hb dX11_sumOf_80 (by decide) ?_
    refine lv_goto (tgt := 85) hx hb dX11_sumOf_81 (by decide) ?_
    exact hk85_25 _ _ _ _ _ (lv_sub hl [0, 1] rfl) hw hf
def fX11_sum (M : xM) (k0 : Nat) (a1 : Int32) (a2 : Int32) (a3 : Int32) : Option (Int32 × xM) := x_b (fX11_isPerson M k0 a1) fun v_3 M_1 => if v_3 = 0 then (some ((-1000000001 : Int32), M_1)) else (x_b (fX11_in M_1 a2 (0 : Int32) (3000 : Int32)) fun v_7 M_5 => if v_7 = 0 then (some ((-1000000001 : Int32), M_5)) else (x_g (0 : Int32) (xn 1 (xr 1 k0 0)) (x_b (fX11_in M_5 a3 (0 : Int32) (M_5 (xr 1 k0 0) (0 : Int32).toNatClampNeg)) fun v_13 M_11 => if v_13 = 0 then (some ((-1000000001 : Int32), M_11)) else (x_g (21 : Int32) (xn 1 (xr 1 k0 0)) (if (M_11 (xr 1 k0 0) (21 : Int32).toNatClampNeg) = 0 then (some ((-1000000002 : Int32), M_11)) else (x_b (fX11_sumOf M_11 k0 a1 a2 a3) fun v_19 M_17 => some (v_19, M_17)))))))
set_option maxRecDepth 100000 in
set_option maxHeartbeats 4000000 in
theorem mX11_sum (l : Launch) (g : xG) {k0 : Nat} {a1 : Int32} {a2 : Int32} {a3 : Int32} {r : Int32} {M' : xM} (h0 : x_is 1 k0 11) {M : xM} (hf : fX11_sum M k0 a1 a2 a3 = some (r, M')) : x_cI l g 1 yX11_sum cX11_sum 4 .int 4 101 [.ref (g.2.2.1 k0), .int a1, .int a2, .int a3] M (fun v N => v = r ∧ N = M') := by
  refine x_stI RX11 (by decide) rfl (Nat.le_of_ble_eq_true rfl) ?_
  intro p e s m args below meth c Q ls C hw ret hl
  obtain ⟨hx, hb, hml, hown, hB, -⟩ := id C
  have hl : lv_has ls 4 [(0, .ref (g.2.2.1 k0)), (1, .int a1), (2, .int a2), (3, .int a3)] := hl
  unfold fX11_sum at hf
  refine lv_aload_n hx hb dX11_sum_0 rfl (lv_at hl 0 rfl) ?_
  refine lv_iload_n hx hb dX11_sum_1 rfl (lv_at hl 1 rfl) ?_
  obtain ⟨tv_3, tM_1, c_2, hf⟩ := x_bE hf
  refine x_vI C hw hl.1 [.int a1] [] (mX11_isPerson l g h0 c_2) lk_X11_62 h0 (by decide) rfl (by decide) rfl (Nat.le_of_ble_eq_true rfl) ⟨Nat.zero_le _, Nat.zero_le _⟩ dX11_sum_2 (fun v_3 M_1 H locs hN hw => ?_)
  obtain ⟨rfl, rfl⟩ := hN
  refine lv_if_eq (tgt := 33) hx hb dX11_sum_5 (by decide) (fun q_4 => ?_) (fun q_4 => ?_)
  · have hf := x_iP hf q_4
    refine lv_ldc hx hb hown (hB _ mk_X11_60) dX11_sum_33 ?_
    exact ret hf dX11_sum_35 hw
  · have hf := x_iN hf q_4
    refine lv_iload_n hx hb dX11_sum_8 rfl (lv_at hl 2 rfl) ?_
    refine lv_iconst (v := (0 : Int32)) hx hb dX11_sum_9 (by decide) ?_
    refine lv_sipush (v := (3000 : Int32)) hx hb dX11_sum_10 (by decide) ?_
    obtain ⟨tv_7, tM_5, c_6, hf⟩ := x_bE hf
    refine x_sI C hw hl.1 [.int a2, .int (0 : Int32), .int (3000 : Int32)] [] (mX11_in l g c_6) lk_X11_56 (by decide) rfl (Nat.le_of_ble_eq_true rfl) ⟨Nat.zero_le _, Nat.zero_le _⟩ dX11_sum_13 (fun v_7 M_5 H locs hN hw => ?_)
    obtain ⟨rfl, rfl⟩ := hN
    refine lv_if_eq (tgt := 33) hx hb dX11_sum_16 (by decide) (fun q_8 => ?_) (fun q_8 => ?_)
    · have hf := x_iP hf q_8
      refine lv_ldc hx hb hown (hB _ mk_X11_60) dX11_sum_33 ?_
      exact ret hf dX11_sum_35 hw
    · have hf := x_iN hf q_8
      refine lv_iload_n hx hb dX11_sum_19 rfl (lv_at hl 3 rfl) ?_
      refine lv_iconst (v := (0 : Int32)) hx hb dX11_sum_20 (by decide) ?_
      refine lv_aload_n hx hb dX11_sum_21 rfl (lv_at hl 0 rfl) ?_
      refine fg_X11_7 C hw h0 dX11_sum_22 ?_
      have h_9 : x_is 1 (xr 1 k0 0) 12 := x_tm h0 (by decide) rfl
      refine lv_iconst (v := (0 : Int32)) hx hb dX11_sum_25 (by decide) ?_
      obtain ⟨q_10, hf⟩ := x_gE hf
      refine x_ald C hw h_9 q_10 dX11_sum_26 ?_
      obtain ⟨tv_13, tM_11, c_12, hf⟩ := x_bE hf
      refine x_sI C hw hl.1 [.int a3, .int (0 : Int32), .int (M_5 (xr 1 k0 0) (0 : Int32).toNatClampNeg)] [] (mX11_in l g c_12) lk_X11_56 (by decide) rfl (Nat.le_of_ble_eq_true rfl) ⟨Nat.zero_le _, Nat.zero_le _⟩ dX11_sum_27 (fun v_13 M_11 H locs hN hw => ?_)
      obtain ⟨rfl, rfl⟩ := hN
      refine lv_if_ne (tgt := 36) hx hb dX11_sum_30 (by decide) (fun q_14 => ?_) (fun q_14 => ?_)
      · have hf := x_iN hf q_14
        refine lv_aload_n hx hb dX11_sum_36 rfl (lv_at hl 0 rfl) ?_
        refine fg_X11_7 C hw h0 dX11_sum_37 ?_
        refine lv_bipush (v := (21 : Int32)) hx hb dX11_sum_40 (by decide) ?_
        obtain ⟨q_15, hf⟩ := x_gE hf
        refine x_ald C hw h_9 q_15 dX11_sum_42 ?_
        refine lv_if_ne (tgt := 51) hx hb dX11_sum_43 (by decide) (fun q_16 => ?_) (fun q_16 => ?_)
        · have hf := x_iN hf q_16
          refine lv_aload_n hx hb dX11_sum_51 rfl (lv_at hl 0 rfl) ?_
          refine lv_iload_n hx hb dX11_sum_52 rfl (lv_at hl 1 rfl) ?_
          refine lv_iload_n hx hb dX11_sum_53 rfl (lv_at hl 2 rfl) ?_
          refine lv_iload_n hx hb dX11_sum_54 rfl (lv_at hl 3 rfl) ?_
          obtain ⟨tv_19, tM_17, c_18, hf⟩ := x_bE hf
          refine x_vI C hw hl.1 [.int a1, .int a2, .int a3] [] (mX11_sumOf l g h0 c_18) lk_X11_201 h0 (by decide) rfl (by decide) rfl (Nat.le_of_ble_eq_true rfl) ⟨Nat.zero_le _, Nat.zero_le _⟩ dX11_sum_55 (fun v_19 M_17 H locs hN hw => ?_)
          obtain ⟨rfl, rfl⟩ := hN
          exact ret hf dX11_sum_58 hw
        · have hf := x_iP hf q_16
          refine lv_ldc hx hb hown (hB _ mk_X11_69) dX11_sum_46 ?_
          refine lv_goto (tgt := 58) hx hb dX11_sum_48 (by decide) ?_
          exact ret hf dX11_sum_58 hw
      · have hf := x_iP hf q_14
        refine lv_ldc hx hb hown (hB _ mk_X11_60) dX11_sum_33 ?_
        exact ret hf dX11_sum_35 hw
def fX11_joined_L118 (k0 : Nat) (a1 : Int32) (x3_2 : Int32) (k204_7 : xM → Int32 → Option (Int32 × xM)) : Nat → xM → Int32 → Int32 → Option (Int32 × xM)
  | 0, _, _, _ => none
  | n_17 + 1, M_16, x4_14, x5_15 => x_g (19 : Int32) (xn 1 (xr 1 k0 0)) (if (M_16 (xr 1 k0 0) (19 : Int32).toNatClampNeg) ≤ x5_15 then (k204_7 M_16 x4_14) else (x_g (((642 : Int32) + ((5 : Int32) * x5_15)) + (1 : Int32)) (xn 1 (xr 1 k0 0)) (x_l (fun (M_25 : xM) (x4_23 : Int32) => x_l (x5_15 + (1 : Int32)) fun x5_26 => fX11_joined_L118 k0 a1 x3_2 k204_7 n_17 M_25 x4_23 x5_26) fun k198_24 => if (M_16 (xr 1 k0 0) (((642 : Int32) + ((5 : Int32) * x5_15)) + (1 : Int32)).toNatClampNeg) = a1 then (x_g (((642 : Int32) + ((5 : Int32) * x5_15)) + (4 : Int32)) (xn 1 (xr 1 k0 0)) (if (M_16 (xr 1 k0 0) (((642 : Int32) + ((5 : Int32) * x5_15)) + (4 : Int32)).toNatClampNeg) = (-1 : Int32) then (if x5_15 = x3_2 then (k198_24 M_16 x4_14) else (x_b (fX11_worthOf M_16 k0 x5_15) fun v_33 M_31 => x_g (5 : Int32) (xn 1 (xr 1 k0 0)) (x_d (100 : Int32) (x_l (x4_14 + ((v_33 * (M_31 (xr 1 k0 0) (5 : Int32).toNatClampNeg)) / (100 : Int32))) fun x4_36 => k198_24 M_31 x4_36)))) else (k198_24 M_16 x4_14))) else (k198_24 M_16 x4_14))))
def fX11_joined_L7 (k0 : Nat) (a1 : Int32) (k105_3 : xM → Int32 → Int32 → Option (Int32 × xM)) : Nat → xM → Int32 → Int32 → Int32 → Option (Int32 × xM)
  | 0, _, _, _, _ => none
  | n_42 + 1, M_41, x2_38, x3_39, x4_40 => x_g (19 : Int32) (xn 1 (xr 1 k0 0)) (if (M_41 (xr 1 k0 0) (19 : Int32).toNatClampNeg) ≤ x4_40 then (k105_3 M_41 x2_38 x3_39) else (x_g (((642 : Int32) + ((5 : Int32) * x4_40)) + (1 : Int32)) (xn 1 (xr 1 k0 0)) (x_l (fun (M_51 : xM) (x2_48 : Int32) (x3_49 : Int32) => x_l (x4_40 + (1 : Int32)) fun x4_52 => fX11_joined_L7 k0 a1 k105_3 n_42 M_51 x2_48 x3_49 x4_52) fun k99_50 => if (M_41 (xr 1 k0 0) (((642 : Int32) + ((5 : Int32) * x4_40)) + (1 : Int32)).toNatClampNeg) = a1 then (x_g (((642 : Int32) + ((5 : Int32) * x4_40)) + (4 : Int32)) (xn 1 (xr 1 k0 0)) (if (M_41 (xr 1 k0 0) (((642 : Int32) + ((5 : Int32) * x4_40)) + (4 : Int32)).toNatClampNeg) = (-1 : Int32) then (x_b (fX11_worthOf M_41 k0 x4_40) fun v_58 M_56 => x_l (fun (M_61 : xM) (z_59 : Int32) => x_l (fun (M_64 : xM) (z_62 : Int32) => k99_50 M_64 z_62 z_59) fun k98_63 => if z_59 = x4_40 then (k98_63 M_61 v_58) else (k98_63 M_61 x2_38)) fun k85_60 => x_l (fun (M_67 : xM) => k85_60 M_67 x4_40) fun k79_66 => if x3_39 = (-1 : Int32) then (k79_66 M_56) else (if v_58 ≤ x2_38 then (k85_60 M_56 x3_39) else (k79_66 M_56))) else (k99_50 M_41 x2_38 x3_39))) else (k99_50 M_41 x2_38 x3_39))))
def fX11_joined (M : xM) (k0 : Nat) (a1 : Int32) : Option (Int32 × xM) := x_l (fun (M_4 : xM) (x2_1 : Int32) (x3_2 : Int32) => if x3_2 = (-1 : Int32) then (some ((-1 : Int32), M_4)) else (x_l (fun (M_8 : xM) (x4_6 : Int32) => x_g (6 : Int32) (xn 1 (xr 1 k0 0)) (x_b (fX11_less M_8 x4_6 (M_8 (xr 1 k0 0) (6 : Int32).toNatClampNeg)) fun v_13 M_11 => some (v_13, M_11))) fun k204_7 => fX11_joined_L118 k0 a1 x3_2 k204_7 x_FU M_4 x2_1 (0 : Int32))) fun k105_3 => fX11_joined_L7 k0 a1 k105_3 x_FU M (0 : Int32) (-1 : Int32) (0 : Int32)
set_option maxRecDepth 100000 in
set_option maxHeartbeats 4000000 in
theorem mX11_joined (l : Launch) (g : xG) {k0 : Nat} {a1 : Int32} {r : Int32} {M' : xM} (h0 : x_is 1 k0 11) {M : xM} (hf : fX11_joined M k0 a1 = some (r, M')) : x_cI l g 1 yX11_joined cX11_joined 6 .int 3 70 [.ref (g.2.2.1 k0), .int a1] M (fun v N => v = r ∧ N = M') := by
  refine x_stI RX11 (by decide) rfl (Nat.le_of_ble_eq_true rfl) ?_
  intro p e s m args below meth c Q ls C hw ret hl
  obtain ⟨hx, hb, hml, hown, hB, -⟩ := id C
  have hl : lv_has ls 6 [(0, .ref (g.2.2.1 k0)), (1, .int a1)] := hl
  unfold fX11_joined at hf
  refine lv_iconst (v := (0 : Int32)) hx hb dX11_joined_0 (by decide) ?_
  refine lv_istore_n (lv' := [(2, .int (0 : Int32)), (0, .ref (g.2.2.1 k0)), (1, .int a1)]) hx hb dX11_joined_1 rfl hl (by decide) rfl (fun ls hl => ?_)
  refine lv_iconst (v := (-1 : Int32)) hx hb dX11_joined_2 (by decide) ?_
  refine lv_istore_n (lv' := [(3, .int (-1 : Int32)), (2, .int (0 : Int32)), (0, .ref (g.2.2.1 k0)), (1, .int a1)]) hx hb dX11_joined_3 rfl hl (by decide) rfl (fun ls hl => ?_)
  refine lv_iconst (v := (0 : Int32)) hx hb dX11_joined_4 (by decide) ?_
  refine lv_istore (lv' := [(4, .int (0 : Int32)), (3, .int (-1 : Int32)), (2, .int (0 : Int32)), (0, .ref (g.2.2.1 k0)), (1, .int a1)]) hx hb dX11_joined_5 hl (by decide) rfl (fun ls hl => ?_)
  obtain ⟨k105_3, ek105_3, hf⟩ := x_jE hf
  have hk105_3 : ∀ (H : Heap) (locs : List Loc) (M_4 : xM) (x2_1 : Int32) (x3_2 : Int32) (ls : Array Slot) , lv_has ls 6 [(0, .ref (g.2.2.1 k0)), (1, .int a1), (2, .int x2_1), (3, .int x3_2)] → x_w g 1 s H locs M_4 → k105_3 M_4 x2_1 x3_2 = some (r, M') → W p l e (x_rm 3 70) s m args below meth c H locs 0 0 Q (F0 m 105 ls []) := by
    intro H locs M_4 x2_1 x3_2 ls  hl hw hf
    rw [ek105_3] at hf
    refine lv_iload_n hx hb dX11_joined_105 rfl (lv_at hl 3 rfl) ?_
    refine lv_iconst (v := (-1 : Int32)) hx hb dX11_joined_106 (by decide) ?_
    refine lv_icmp_ne (tgt := 112) hx hb dX11_joined_107 (by decide) (fun q_5 => ?_) (fun q_5 => ?_)
    · have hf := x_iN hf q_5
      refine lv_iload_n hx hb dX11_joined_112 rfl (lv_at hl 2 rfl) ?_
      refine lv_istore (lv' := [(4, .int x2_1), (0, .ref (g.2.2.1 k0)), (1, .int a1), (2, .int x2_1), (3, .int x3_2)]) hx hb dX11_joined_113 hl (by decide) rfl (fun ls hl => ?_)
      refine lv_iconst (v := (0 : Int32)) hx hb dX11_joined_115 (by decide) ?_
      refine lv_istore (lv' := [(5, .int (0 : Int32)), (4, .int x2_1), (0, .ref (g.2.2.1 k0)), (1, .int a1), (2, .int x2_1), (3, .int x3_2)]) hx hb dX11_joined_116 hl (by decide) rfl (fun ls hl => ?_)
      obtain ⟨k204_7, ek204_7, hf⟩ := x_jE hf
      have hk204_7 : ∀ (H : Heap) (locs : List Loc) (M_8 : xM) (x4_6 : Int32) (ls : Array Slot) , lv_has ls 6 [(0, .ref (g.2.2.1 k0)), (4, .int x4_6)] → x_w g 1 s H locs M_8 → k204_7 M_8 x4_6 = some (r, M') → W p l e (x_rm 3 70) s m args below meth c H locs 0 0 Q (F0 m 204 ls []) := by
        intro H locs M_8 x4_6 ls  hl hw hf
        rw [ek204_7] at hf
        refine lv_iload hx hb dX11_joined_204 (lv_at hl 1 rfl) ?_
        refine lv_aload_n hx hb dX11_joined_206 rfl (lv_at hl 0 rfl) ?_
        refine fg_X11_7 C hw h0 dX11_joined_207 ?_
        have h_9 : x_is 1 (xr 1 k0 0) 12 := x_tm h0 (by decide) rfl
        refine lv_bipush (v := (6 : Int32)) hx hb dX11_joined_210 (by decide) ?_
        obtain ⟨q_10, hf⟩ := x_gE hf
        refine x_ald C hw h_9 q_10 dX11_joined_212 ?_
        obtain ⟨tv_13, tM_11, c_12, hf⟩ := x_bE hf
        refine x_sI C hw hl.1 [.int x4_6, .int (M_8 (xr 1 k0 0) (6 : Int32).toNatClampNeg)] [] (mX11_less l g c_12) lk_X11_195 (by decide) rfl (Nat.le_of_ble_eq_true rfl) ⟨Nat.zero_le _, Nat.zero_le _⟩ dX11_joined_213 (fun v_13 M_11 H locs hN hw => ?_)
        obtain ⟨rfl, rfl⟩ := hN
        exact ret hf dX11_joined_216 hw
      have hL_37 : ∀ (n_17 : Nat) (H : Heap) (locs : List Loc) (M_16 : xM) (x4_14 : Int32) (x5_15 : Int32) (ls : Array Slot) , lv_has ls 6 [(0, .ref (g.2.2.1 k0)), (1, .int a1), (3, .int x3_2), (4, .int x4_14), (5, .int x5_15)] → x_w g 1 s H locs M_16 → fX11_joined_L118 k0 a1 x3_2 k204_7 n_17 M_16 x4_14 x5_15 = some (r, M') → W p l e (x_rm 3 70) s m args below meth c H locs 0 0 Q (F0 m 118 ls []) := by
        intro n_17
        induction n_17 with
        | zero =>
          intro H locs M_16 x4_14 x5_15 ls  hl hw hf
          rw [fX11_joined_L118] at hf
          cases hf
        | succ n_17 ih_18 =>
          intro H locs M_16 x4_14 x5_15 ls  hl hw hf
          rw [fX11_joined_L118] at hf
          refine lv_iload hx hb dX11_joined_118 (lv_at hl 4 rfl) ?_
          refine lv_aload_n hx hb dX11_joined_120 rfl (lv_at hl 0 rfl) ?_
          refine fg_X11_7 C hw h0 dX11_joined_121 ?_
          have h_19 : x_is 1 (xr 1 k0 0) 12 := x_tm h0 (by decide) rfl
          refine lv_bipush (v := (19 : Int32)) hx hb dX11_joined_124 (by decide) ?_
          obtain ⟨q_20, hf⟩ := x_gE hf
          refine x_ald C hw h_19 q_20 dX11_joined_126 ?_
          refine lv_icmp_ge (tgt := 204) hx hb dX11_joined_127 (by decide) (fun q_21 => ?_) (fun q_21 => ?_)
          · have hf := x_iP hf q_21
            exact hk204_7 _ _ _ _ _ (lv_sub hl [0, 3] rfl) hw hf
          · have hf := x_iN hf q_21
            refine lv_aload_n hx hb dX11_joined_130 rfl (lv_at hl 0 rfl) ?_
            refine fg_X11_7 C hw h0 dX11_joined_131 ?_
            refine lv_sipush (v := (642 : Int32)) hx hb dX11_joined_134 (by decide) ?_
            refine lv_iconst (v := (5 : Int32)) hx hb dX11_joined_137 (by decide) ?_
            refine lv_iload hx hb dX11_joined_138 (lv_at hl 4 rfl) ?_
            refine lv_imul hx hb dX11_joined_140 ?_
            refine lv_iadd hx hb dX11_joined_141 ?_
            refine lv_iconst (v := (1 : Int32)) hx hb dX11_joined_142 (by decide) ?_
            refine lv_iadd hx hb dX11_joined_143 ?_
            obtain ⟨q_22, hf⟩ := x_gE hf
            refine x_ald C hw h_19 q_22 dX11_joined_144 ?_
            refine lv_iload_n hx hb dX11_joined_145 rfl (lv_at hl 1 rfl) ?_
            obtain ⟨k198_24, ek198_24, hf⟩ := x_jE hf
            have hk198_24 : ∀ (H : Heap) (locs : List Loc) (M_25 : xM) (x4_23 : Int32) (ls : Array Slot) , lv_has ls 6 [(0, .ref (g.2.2.1 k0)), (1, .int a1), (3, .int x3_2), (5, .int x5_15), (4, .int x4_23)] → x_w g 1 s H locs M_25 → k198_24 M_25 x4_23 = some (r, M') → W p l e (x_rm 3 70) s m args below meth c H locs 0 0 Q (F0 m 198 ls []) := by
              intro H locs M_25 x4_23 ls  hl hw hf
              rw [ek198_24] at hf
              obtain ⟨x5_26, ex5_26⟩ : ∃ z : Int32, z = (x5_15 + (1 : Int32)) := ⟨_, rfl⟩
              have hf := x_lE ex5_26 hf
              refine lv_iinc (v := x5_26) (lv' := [(5, .int x5_26), (0, .ref (g.2.2.1 k0)), (1, .int a1), (3, .int x3_2), (4, .int x4_23)]) hx hb dX11_joined_198 hl (k := 3) rfl (by rw [ex5_26]; rfl) (by decide) rfl (fun ls hl => ?_)
              refine lv_goto (tgt := 118) hx hb dX11_joined_201 (by decide) ?_
              exact ih_18 _ _ _ _ _ _ (lv_sub hl [1, 2, 3, 4, 0] rfl) hw hf
            refine lv_icmp_ne (tgt := 198) hx hb dX11_joined_146 (by decide) (fun q_27 => ?_) (fun q_27 => ?_)
            · have hf := x_iN hf q_27
              exact hk198_24 _ _ _ _ _ (lv_sub hl [0, 1, 2, 4, 3] rfl) hw hf
            · have hf := x_iP hf q_27
              refine lv_aload_n hx hb dX11_joined_149 rfl (lv_at hl 0 rfl) ?_
              refine fg_X11_7 C hw h0 dX11_joined_150 ?_
              refine lv_sipush (v := (642 : Int32)) hx hb dX11_joined_153 (by decide) ?_
              refine lv_iconst (v := (5 : Int32)) hx hb dX11_joined_156 (by decide) ?_
              refine lv_iload hx hb dX11_joined_157 (lv_at hl 4 rfl) ?_
              refine lv_imul hx hb dX11_joined_159 ?_
              refine lv_iadd hx hb dX11_joined_160 ?_
              refine lv_iconst (v := (4 : Int32)) hx hb dX11_joined_161 (by decide) ?_
              refine lv_iadd hx hb dX11_joined_162 ?_
              obtain ⟨q_28, hf⟩ := x_gE hf
              refine x_ald C hw h_19 q_28 dX11_joined_163 ?_
              refine lv_iconst (v := (-1 : Int32)) hx hb dX11_joined_164 (by decide) ?_
              refine lv_icmp_ne (tgt := 198) hx hb dX11_joined_165 (by decide) (fun q_29 => ?_) (fun q_29 => ?_)
              · have hf := x_iN hf q_29
                exact hk198_24 _ _ _ _ _ (lv_sub hl [0, 1, 2, 4, 3] rfl) hw hf
              · have hf := x_iP hf q_29
                refine lv_iload hx hb dX11_joined_168 (lv_at hl 4 rfl) ?_
                refine lv_iload_n hx hb dX11_joined_170 rfl (lv_at hl 2 rfl) ?_
                refine lv_icmp_ne (tgt := 177) hx hb dX11_joined_171 (by decide) (fun q_30 => ?_) (fun q_30 => ?_)
                · have hf := x_iN hf q_30
                  refine lv_iload hx hb dX11_joined_177 (lv_at hl 3 rfl) ?_
                  refine lv_aload_n hx hb dX11_joined_179 rfl (lv_at hl 0 rfl) ?_
                  refine lv_iload hx hb dX11_joined_180 (lv_at hl 4 rfl) ?_
                  obtain ⟨tv_33, tM_31, c_32, hf⟩ := x_bE hf
                  refine x_vI C hw hl.1 [.int x5_15] [.int x4_14] (mX11_worthOf l g h0 c_32) lk_X11_198 h0 (by decide) rfl (by decide) rfl (Nat.le_of_ble_eq_true rfl) ⟨Nat.zero_le _, Nat.zero_le _⟩ dX11_joined_182 (fun v_33 M_31 H locs hN hw => ?_)
                  obtain ⟨rfl, rfl⟩ := hN
                  refine lv_aload_n hx hb dX11_joined_185 rfl (lv_at hl 0 rfl) ?_
                  refine fg_X11_7 C hw h0 dX11_joined_186 ?_
                  refine lv_iconst (v := (5 : Int32)) hx hb dX11_joined_189 (by decide) ?_
                  obtain ⟨q_34, hf⟩ := x_gE hf
                  refine x_ald C hw h_19 q_34 dX11_joined_190 ?_
                  refine lv_imul hx hb dX11_joined_191 ?_
                  refine lv_bipush (v := (100 : Int32)) hx hb dX11_joined_192 (by decide) ?_
                  obtain ⟨q_35, hf⟩ := x_dE hf
                  refine lv_idiv hx hb dX11_joined_194 q_35 ?_
                  refine lv_iadd hx hb dX11_joined_195 ?_
                  refine lv_topi (fun x4_36 ex4_36 => ?_)
                  have hf := x_lE ex4_36 hf
                  refine lv_istore (lv' := [(4, .int x4_36), (0, .ref (g.2.2.1 k0)), (1, .int a1), (3, .int x3_2), (5, .int x5_15)]) hx hb dX11_joined_196 hl (by decide) rfl (fun ls hl => ?_)
                  exact hk198_24 _ _ _ _ _ (lv_sub hl [1, 2, 3, 4, 0] rfl) hw hf
                · have hf := x_iP hf q_30
                  refine lv_goto (tgt := 198) hx hb dX11_joined_174 (by decide) ?_
                  exact hk198_24 _ _ _ _ _ (lv_sub hl [0, 1, 2, 4, 3] rfl) hw hf
      exact hL_37 _ _ _ _ _ _ _ (lv_sub hl [2, 3, 5, 1, 0] rfl) hw hf
    · have hf := x_iP hf q_5
      refine lv_iconst (v := (-1 : Int32)) hx hb dX11_joined_110 (by decide) ?_
      exact ret hf dX11_joined_111 hw
  have hL_70 : ∀ (n_42 : Nat) (H : Heap) (locs : List Loc) (M_41 : xM) (x2_38 : Int32) (x3_39 : Int32) (x4_40 : Int32) (ls : Array Slot) , lv_has ls 6 [(0, .ref (g.2.2.1 k0)), (1, .int a1), (2, .int x2_38), (3, .int x3_39), (4, .int x4_40)] → x_w g 1 s H locs M_41 → fX11_joined_L7 k0 a1 k105_3 n_42 M_41 x2_38 x3_39 x4_40 = some (r, M') → W p l e (x_rm 3 70) s m args below meth c H locs 0 0 Q (F0 m 7 ls []) := by
    intro n_42
    induction n_42 with
    | zero =>
      intro H locs M_41 x2_38 x3_39 x4_40 ls  hl hw hf
      rw [fX11_joined_L7] at hf
      cases hf
    | succ n_42 ih_43 =>
      intro H locs M_41 x2_38 x3_39 x4_40 ls  hl hw hf
      rw [fX11_joined_L7] at hf
      refine lv_iload hx hb dX11_joined_7 (lv_at hl 4 rfl) ?_
      refine lv_aload_n hx hb dX11_joined_9 rfl (lv_at hl 0 rfl) ?_
      refine fg_X11_7 C hw h0 dX11_joined_10 ?_
      have h_44 : x_is 1 (xr 1 k0 0) 12 := x_tm h0 (by decide) rfl
      refine lv_bipush (v := (19 : Int32)) hx hb dX11_joined_13 (by decide) ?_
      obtain ⟨q_45, hf⟩ := x_gE hf
      refine x_ald C hw h_44 q_45 dX11_joined_15 ?_
      refine lv_icmp_ge (tgt := 105) hx hb dX11_joined_16 (by decide) (fun q_46 => ?_) (fun q_46 => ?_)
      · have hf := x_iP hf q_46
        exact hk105_3 _ _ _ _ _ _ (lv_sub hl [0, 1, 2, 3] rfl) hw hf
      · have hf := x_iN hf q_46
        refine lv_aload_n hx hb dX11_joined_19 rfl (lv_at hl 0 rfl) ?_
        refine fg_X11_7 C hw h0 dX11_joined_20 ?_
        refine lv_sipush (v := (642 : Int32)) hx hb dX11_joined_23 (by decide) ?_
        refine lv_iconst (v := (5 : Int32)) hx hb dX11_joined_26 (by decide) ?_
        refine lv_iload hx hb dX11_joined_27 (lv_at hl 4 rfl) ?_
        refine lv_imul hx hb dX11_joined_29 ?_
        refine lv_iadd hx hb dX11_joined_30 ?_
        refine lv_iconst (v := (1 : Int32)) hx hb dX11_joined_31 (by decide) ?_
        refine lv_iadd hx hb dX11_joined_32 ?_
        obtain ⟨q_47, hf⟩ := x_gE hf
        refine x_ald C hw h_44 q_47 dX11_joined_33 ?_
        refine lv_iload_n hx hb dX11_joined_34 rfl (lv_at hl 1 rfl) ?_
        obtain ⟨k99_50, ek99_50, hf⟩ := x_jE hf
        have hk99_50 : ∀ (H : Heap) (locs : List Loc) (M_51 : xM) (x2_48 : Int32) (x3_49 : Int32) (ls : Array Slot) , lv_has ls 6 [(0, .ref (g.2.2.1 k0)), (1, .int a1), (4, .int x4_40), (2, .int x2_48), (3, .int x3_49)] → x_w g 1 s H locs M_51 → k99_50 M_51 x2_48 x3_49 = some (r, M') → W p l e (x_rm 3 70) s m args below meth c H locs 0 0 Q (F0 m 99 ls []) := by
          intro H locs M_51 x2_48 x3_49 ls  hl hw hf
          rw [ek99_50] at hf
          obtain ⟨x4_52, ex4_52⟩ : ∃ z : Int32, z = (x4_40 + (1 : Int32)) := ⟨_, rfl⟩
          have hf := x_lE ex4_52 hf
          refine lv_iinc (v := x4_52) (lv' := [(4, .int x4_52), (0, .ref (g.2.2.1 k0)), (1, .int a1), (2, .int x2_48), (3, .int x3_49)]) hx hb dX11_joined_99 hl (k := 2) rfl (by rw [ex4_52]; rfl) (by decide) rfl (fun ls hl => ?_)
          refine lv_goto (tgt := 7) hx hb dX11_joined_102 (by decide) ?_
          exact ih_43 _ _ _ _ _ _ _ (lv_sub hl [1, 2, 3, 4, 0] rfl) hw hf
        refine lv_icmp_ne (tgt := 99) hx hb dX11_joined_35 (by decide) (fun q_53 => ?_) (fun q_53 => ?_)
        · have hf := x_iN hf q_53
          exact hk99_50 _ _ _ _ _ _ (lv_sub hl [0, 1, 4, 2, 3] rfl) hw hf
        · have hf := x_iP hf q_53
          refine lv_aload_n hx hb dX11_joined_38 rfl (lv_at hl 0 rfl) ?_
          refine fg_X11_7 C hw h0 dX11_joined_39 ?_
          refine lv_sipush (v := (642 : Int32)) hx hb dX11_joined_42 (by decide) ?_
          refine lv_iconst (v := (5 : Int32)) hx hb dX11_joined_45 (by decide) ?_
          refine lv_iload hx hb dX11_joined_46 (lv_at hl 4 rfl) ?_
          refine lv_imul hx hb dX11_joined_48 ?_
          refine lv_iadd hx hb dX11_joined_49 ?_
          refine lv_iconst (v := (4 : Int32)) hx hb dX11_joined_50 (by decide) ?_
          refine lv_iadd hx hb dX11_joined_51 ?_
          obtain ⟨q_54, hf⟩ := x_gE hf
          refine x_ald C hw h_44 q_54 dX11_joined_52 ?_
          refine lv_iconst (v := (-1 : Int32)) hx hb dX11_joined_53 (by decide) ?_
          refine lv_icmp_eq (tgt := 60) hx hb dX11_joined_54 (by decide) (fun q_55 => ?_) (fun q_55 => ?_)
          · have hf := x_iP hf q_55
            refine lv_aload_n hx hb dX11_joined_60 rfl (lv_at hl 0 rfl) ?_
            refine lv_iload hx hb dX11_joined_61 (lv_at hl 4 rfl) ?_
            obtain ⟨tv_58, tM_56, c_57, hf⟩ := x_bE hf
            refine x_vI C hw hl.1 [.int x4_40] [] (mX11_worthOf l g h0 c_57) lk_X11_198 h0 (by decide) rfl (by decide) rfl (Nat.le_of_ble_eq_true rfl) ⟨Nat.zero_le _, Nat.zero_le _⟩ dX11_joined_63 (fun v_58 M_56 H locs hN hw => ?_)
            obtain ⟨rfl, rfl⟩ := hN
            refine lv_istore (lv' := [(5, .int v_58), (0, .ref (g.2.2.1 k0)), (1, .int a1), (2, .int x2_38), (3, .int x3_39), (4, .int x4_40)]) hx hb dX11_joined_66 hl (by decide) rfl (fun ls hl => ?_)
            refine lv_iload_n hx hb dX11_joined_68 rfl (lv_at hl 4 rfl) ?_
            refine lv_iconst (v := (-1 : Int32)) hx hb dX11_joined_69 (by decide) ?_
            obtain ⟨k85_60, ek85_60, hf⟩ := x_jE hf
            have hk85_60 : ∀ (H : Heap) (locs : List Loc) (M_61 : xM) (z_59 : Int32) (ls : Array Slot) , lv_has ls 6 [(5, .int v_58), (0, .ref (g.2.2.1 k0)), (1, .int a1), (2, .int x2_38), (4, .int x4_40)] → x_w g 1 s H locs M_61 → k85_60 M_61 z_59 = some (r, M') → W p l e (x_rm 3 70) s m args below meth c H locs 0 0 Q (F0 m 85 ls [.int z_59]) := by
              intro H locs M_61 z_59 ls  hl hw hf
              rw [ek85_60] at hf
              refine lv_istore_n (lv' := [(3, .int z_59), (5, .int v_58), (0, .ref (g.2.2.1 k0)), (1, .int a1), (2, .int x2_38), (4, .int x4_40)]) hx hb dX11_joined_85 rfl hl (by decide) rfl (fun ls hl => ?_)
              refine lv_iload_n hx hb dX11_joined_86 rfl (lv_at hl 0 rfl) ?_
              refine lv_iload hx hb dX11_joined_87 (lv_at hl 5 rfl) ?_
              obtain ⟨k98_63, ek98_63, hf⟩ := x_jE hf
              have hk98_63 : ∀ (H : Heap) (locs : List Loc) (M_64 : xM) (z_62 : Int32) (ls : Array Slot) , lv_has ls 6 [(3, .int z_59), (0, .ref (g.2.2.1 k0)), (1, .int a1), (4, .int x4_40)] → x_w g 1 s H locs M_64 → k98_63 M_64 z_62 = some (r, M') → W p l e (x_rm 3 70) s m args below meth c H locs 0 0 Q (F0 m 98 ls [.int z_62]) := by
                intro H locs M_64 z_62 ls  hl hw hf
                rw [ek98_63] at hf
                refine lv_istore_n (lv' := [(2, .int z_62), (3, .int z_59), (0, .ref (g.2.2.1 k0)), (1, .int a1), (4, .int x4_40)]) hx hb dX11_joined_98 rfl hl (by decide) rfl (fun ls hl => ?_)
                exact hk99_50 _ _ _ _ _ _ (lv_sub hl [2, 3, 4, 0, 1] rfl) hw hf
              refine lv_icmp_ne (tgt := 97) hx hb dX11_joined_89 (by decide) (fun q_65 => ?_) (fun q_65 => ?_)
              · have hf := x_iN hf q_65
                refine lv_iload_n hx hb dX11_joined_97 rfl (lv_at hl 4 rfl) ?_
                exact hk98_63 _ _ _ _ _ (lv_sub hl [0, 2, 3, 5] rfl) hw hf
              · have hf := x_iP hf q_65
                refine lv_iload hx hb dX11_joined_92 (lv_at hl 1 rfl) ?_
                refine lv_goto (tgt := 98) hx hb dX11_joined_94 (by decide) ?_
                exact hk98_63 _ _ _ _ _ (lv_sub hl [0, 2, 3, 5] rfl) hw hf
            obtain ⟨k79_66, ek79_66, hf⟩ := x_jE hf
            have hk79_66 : ∀ (H : Heap) (locs : List Loc) (M_67 : xM)  (ls : Array Slot) , lv_has ls 6 [(5, .int v_58), (0, .ref (g.2.2.1 k0)), (1, .int a1), (2, .int x2_38), (4, .int x4_40)] → x_w g 1 s H locs M_67 → k79_66 M_67 = some (r, M') → W p l e (x_rm 3 70) s m args below meth c H locs 0 0 Q (F0 m 79 ls []) := by
              intro H locs M_67  ls  hl hw hf
              rw [ek79_66] at hf
              refine lv_iload hx hb dX11_joined_79 (lv_at hl 4 rfl) ?_
              refine lv_goto (tgt := 85) hx hb dX11_joined_81 (by decide) ?_
              exact hk85_60 _ _ _ _ _ (lv_sub hl [0, 1, 2, 3, 4] rfl) hw hf
            refine lv_icmp_eq (tgt := 79) hx hb dX11_joined_70 (by decide) (fun q_68 => ?_) (fun q_68 => ?_)
            · have hf := x_iP hf q_68
              exact hk79_66 _ _ _ _ (lv_sub hl [0, 1, 2, 3, 5] rfl) hw hf
            · have hf := x_iN hf q_68
              refine lv_iload hx hb dX11_joined_73 (lv_at hl 0 rfl) ?_
              refine lv_iload_n hx hb dX11_joined_75 rfl (lv_at hl 3 rfl) ?_
              refine lv_icmp_le (tgt := 84) hx hb dX11_joined_76 (by decide) (fun q_69 => ?_) (fun q_69 => ?_)
              · have hf := x_iP hf q_69
                refine lv_iload_n hx hb dX11_joined_84 rfl (lv_at hl 4 rfl) ?_
                exact hk85_60 _ _ _ _ _ (lv_sub hl [0, 1, 2, 3, 5] rfl) hw hf
              · have hf := x_iN hf q_69
                exact hk79_66 _ _ _ _ (lv_sub hl [0, 1, 2, 3, 5] rfl) hw hf
          · have hf := x_iN hf q_55
            refine lv_goto (tgt := 99) hx hb dX11_joined_57 (by decide) ?_
            exact hk99_50 _ _ _ _ _ _ (lv_sub hl [0, 1, 4, 2, 3] rfl) hw hf
  exact hL_70 _ _ _ _ _ _ _ _ (lv_sub hl [3, 4, 2, 1, 0] rfl) hw hf
def fX11_judge_L218 (k0 : Nat) (a1 : Int32) (x3_15 : Int32) (k290_43 : xM → Option (Int32 × xM)) : Nat → xM → Int32 → Option (Int32 × xM)
  | 0, _, _ => none
  | n_50 + 1, M_49, x6_48 => x_g (19 : Int32) (xn 1 (xr 1 k0 0)) (if (M_49 (xr 1 k0 0) (19 : Int32).toNatClampNeg) ≤ x6_48 then (k290_43 M_49) else (x_g (((642 : Int32) + ((5 : Int32) * x6_48)) + (1 : Int32)) (xn 1 (xr 1 k0 0)) (x_l (fun (M_56 : xM) => x_l (x6_48 + (1 : Int32)) fun x6_57 => fX11_judge_L218 k0 a1 x3_15 k290_43 n_50 M_56 x6_57) fun k284_55 => if (M_49 (xr 1 k0 0) (((642 : Int32) + ((5 : Int32) * x6_48)) + (1 : Int32)).toNatClampNeg) = a1 then (x_g (((642 : Int32) + ((5 : Int32) * x6_48)) + (4 : Int32)) (xn 1 (xr 1 k0 0)) (if (M_49 (xr 1 k0 0) (((642 : Int32) + ((5 : Int32) * x6_48)) + (4 : Int32)).toNatClampNeg) = (-1 : Int32) then (x_g (((642 : Int32) + ((5 : Int32) * x6_48)) + (4 : Int32)) (xn 1 (xr 1 k0 0)) (x_l (x_up M_49 (xr 1 k0 0) (((642 : Int32) + ((5 : Int32) * x6_48)) + (4 : Int32)).toNatClampNeg x3_15) fun M_62 => k284_55 M_62)) else (k284_55 M_49))) else (k284_55 M_49))))
def fX11_judge_L74 (k0 : Nat) (x4_16 : Int32) (k98_17 : xM → Option (Int32 × xM)) : Nat → xM → Int32 → Option (Int32 × xM)
  | 0, _, _ => none
  | n_66 + 1, M_65, x5_64 => if (10 : Int32) ≤ x5_64 then (k98_17 M_65) else (x_g (x4_16 + x5_64) (xn 1 (xr 1 k0 0)) (x_l (x_up M_65 (xr 1 k0 0) (x4_16 + x5_64).toNatClampNeg (0 : Int32)) fun M_70 => x_l (x5_64 + (1 : Int32)) fun x5_71 => fX11_judge_L74 k0 x4_16 k98_17 n_66 M_70 x5_71))
def fX11_judge (M : xM) (k0 : Nat) (a1 : Int32) : Option (Int32 × xM) := x_b (fX11_isPerson M k0 a1) fun v_3 M_1 => if v_3 = 0 then (some ((-1000000001 : Int32), M_1)) else (x_g (21 : Int32) (xn 1 (xr 1 k0 0)) (if (M_1 (xr 1 k0 0) (21 : Int32).toNatClampNeg) = 0 then (some ((-1000000002 : Int32), M_1)) else (x_b (fX11_joined M_1 k0 a1) fun v_10 M_8 => if v_10 = (-1 : Int32) then (some ((-1000000002 : Int32), M_8)) else (x_g (20 : Int32) (xn 1 (xr 1 k0 0)) (if (M_8 (xr 1 k0 0) (20 : Int32).toNatClampNeg) = (16 : Int32) then (some ((-1000000003 : Int32), M_8)) else (x_g (20 : Int32) (xn 1 (xr 1 k0 0)) (x_l (M_8 (xr 1 k0 0) (20 : Int32).toNatClampNeg) fun x3_15 => x_l ((792 : Int32) + ((10 : Int32) * x3_15)) fun x4_16 => x_l (fun (M_18 : xM) => x_g (((30 : Int32) + ((3 : Int32) * a1)) + (2 : Int32)) (xn 1 (xr 1 k0 0)) (x_b (fX11_less M_18 v_10 (M_18 (xr 1 k0 0) (((30 : Int32) + ((3 : Int32) * a1)) + (2 : Int32)).toNatClampNeg)) fun v_22 M_20 => x_g (((30 : Int32) + ((3 : Int32) * a1)) + (2 : Int32)) (xn 1 (xr 1 k0 0)) (x_g (((30 : Int32) + ((3 : Int32) * a1)) + (2 : Int32)) (xn 1 (xr 1 k0 0)) (x_l (x_up M_20 (xr 1 k0 0) (((30 : Int32) + ((3 : Int32) * a1)) + (2 : Int32)).toNatClampNeg ((M_20 (xr 1 k0 0) (((30 : Int32) + ((3 : Int32) * a1)) + (2 : Int32)).toNatClampNeg) - v_22)) fun M_25 => x_g (x4_16 + (0 : Int32)) (xn 1 (xr 1 k0 0)) (x_l (x_up M_25 (xr 1 k0 0) (x4_16 + (0 : Int32)).toNatClampNeg a1) fun M_27 => x_g (0 : Int32) (xn 1 (xr 1 k0 0)) (x_g (x4_16 + (1 : Int32)) (xn 1 (xr 1 k0 0)) (x_l (x_up M_27 (xr 1 k0 0) (x4_16 + (1 : Int32)).toNatClampNeg (M_27 (xr 1 k0 0) (0 : Int32).toNatClampNeg)) fun M_30 => x_g (x4_16 + (2 : Int32)) (xn 1 (xr 1 k0 0)) (x_l (x_up M_30 (xr 1 k0 0) (x4_16 + (2 : Int32)).toNatClampNeg (v_10 - v_22)) fun M_32 => x_g (0 : Int32) (xn 1 (xr 1 k0 0)) (x_g (0 : Int32) (xn 1 (xr 1 k0 0)) (x_b (fX11_sumOf M_32 k0 a1 (M_32 (xr 1 k0 0) (0 : Int32).toNatClampNeg) (M_32 (xr 1 k0 0) (0 : Int32).toNatClampNeg)) fun v_37 M_35 => x_g (x4_16 + (3 : Int32)) (xn 1 (xr 1 k0 0)) (x_l (x_up M_35 (xr 1 k0 0) (x4_16 + (3 : Int32)).toNatClampNeg v_37) fun M_39 => x_g (0 : Int32) (xn 1 (xr 1 k0 0)) (x_g (x4_16 + (6 : Int32)) (xn 1 (xr 1 k0 0)) (x_l (x_up M_39 (xr 1 k0 0) (x4_16 + (6 : Int32)).toNatClampNeg (M_39 (xr 1 k0 0) (0 : Int32).toNatClampNeg)) fun M_42 => x_l (fun (M_44 : xM) => x_g (20 : Int32) (xn 1 (xr 1 k0 0)) (x_g (20 : Int32) (xn 1 (xr 1 k0 0)) (x_l (x_up M_44 (xr 1 k0 0) (20 : Int32).toNatClampNeg ((M_44 (xr 1 k0 0) (20 : Int32).toNatClampNeg) + (1 : Int32))) fun M_47 => some (x3_15, M_47)))) fun k290_43 => fX11_judge_L218 k0 a1 x3_15 k290_43 x_FU M_42 (0 : Int32)))))))))))))) fun k98_17 => fX11_judge_L74 k0 x4_16 k98_17 x_FU M_8 (0 : Int32))))))))
set_option maxRecDepth 100000 in
set_option maxHeartbeats 4000000 in
theorem mX11_judge (l : Launch) (g : xG) {k0 : Nat} {a1 : Int32} {r : Int32} {M' : xM} (h0 : x_is 1 k0 11) {M : xM} (hf : fX11_judge M k0 a1 = some (r, M')) : x_cI l g 1 yX11_judge cX11_judge 7 .int 4 101 [.ref (g.2.2.1 k0), .int a1] M (fun v N => v = r ∧ N = M') := by
  refine x_stI RX11 (by decide) rfl (Nat.le_of_ble_eq_true rfl) ?_
  intro p e s m args below meth c Q ls C hw ret hl
  obtain ⟨hx, hb, hml, hown, hB, -⟩ := id C
  have hl : lv_has ls 7 [(0, .ref (g.2.2.1 k0)), (1, .int a1)] := hl
  unfold fX11_judge at hf
  refine lv_aload_n hx hb dX11_judge_0 rfl (lv_at hl 0 rfl) ?_
  refine lv_iload_n hx hb dX11_judge_1 rfl (lv_at hl 1 rfl) ?_
  obtain ⟨tv_3, tM_1, c_2, hf⟩ := x_bE hf
  refine x_vI C hw hl.1 [.int a1] [] (mX11_isPerson l g h0 c_2) lk_X11_62 h0 (by decide) rfl (by decide) rfl (Nat.le_of_ble_eq_true rfl) ⟨Nat.zero_le _, Nat.zero_le _⟩ dX11_judge_2 (fun v_3 M_1 H locs hN hw => ?_)
  obtain ⟨rfl, rfl⟩ := hN
  refine lv_if_ne (tgt := 11) hx hb dX11_judge_5 (by decide) (fun q_4 => ?_) (fun q_4 => ?_)
  · have hf := x_iN hf q_4
    refine lv_aload_n hx hb dX11_judge_11 rfl (lv_at hl 0 rfl) ?_
    refine fg_X11_7 C hw h0 dX11_judge_12 ?_
    have h_5 : x_is 1 (xr 1 k0 0) 12 := x_tm h0 (by decide) rfl
    refine lv_bipush (v := (21 : Int32)) hx hb dX11_judge_15 (by decide) ?_
    obtain ⟨q_6, hf⟩ := x_gE hf
    refine x_ald C hw h_5 q_6 dX11_judge_17 ?_
    refine lv_if_ne (tgt := 24) hx hb dX11_judge_18 (by decide) (fun q_7 => ?_) (fun q_7 => ?_)
    · have hf := x_iN hf q_7
      refine lv_aload_n hx hb dX11_judge_24 rfl (lv_at hl 0 rfl) ?_
      refine lv_iload_n hx hb dX11_judge_25 rfl (lv_at hl 1 rfl) ?_
      obtain ⟨tv_10, tM_8, c_9, hf⟩ := x_bE hf
      refine x_vI C hw hl.1 [.int a1] [] (mX11_joined l g h0 c_9) lk_X11_204 h0 (by decide) rfl (by decide) rfl (Nat.le_of_ble_eq_true rfl) ⟨Nat.zero_le _, Nat.zero_le _⟩ dX11_judge_26 (fun v_10 M_8 H locs hN hw => ?_)
      obtain ⟨rfl, rfl⟩ := hN
      refine lv_istore_n (lv' := [(2, .int v_10), (0, .ref (g.2.2.1 k0)), (1, .int a1)]) hx hb dX11_judge_29 rfl hl (by decide) rfl (fun ls hl => ?_)
      refine lv_iload_n hx hb dX11_judge_30 rfl (lv_at hl 0 rfl) ?_
      refine lv_iconst (v := (-1 : Int32)) hx hb dX11_judge_31 (by decide) ?_
      refine lv_icmp_ne (tgt := 38) hx hb dX11_judge_32 (by decide) (fun q_11 => ?_) (fun q_11 => ?_)
      · have hf := x_iN hf q_11
        refine lv_aload_n hx hb dX11_judge_38 rfl (lv_at hl 1 rfl) ?_
        refine fg_X11_7 C hw h0 dX11_judge_39 ?_
        refine lv_bipush (v := (20 : Int32)) hx hb dX11_judge_42 (by decide) ?_
        obtain ⟨q_12, hf⟩ := x_gE hf
        refine x_ald C hw h_5 q_12 dX11_judge_44 ?_
        refine lv_bipush (v := (16 : Int32)) hx hb dX11_judge_45 (by decide) ?_
        refine lv_icmp_ne (tgt := 53) hx hb dX11_judge_47 (by decide) (fun q_13 => ?_) (fun q_13 => ?_)
        · have hf := x_iN hf q_13
          refine lv_aload_n hx hb dX11_judge_53 rfl (lv_at hl 1 rfl) ?_
          refine fg_X11_7 C hw h0 dX11_judge_54 ?_
          refine lv_bipush (v := (20 : Int32)) hx hb dX11_judge_57 (by decide) ?_
          obtain ⟨q_14, hf⟩ := x_gE hf
          refine x_ald C hw h_5 q_14 dX11_judge_59 ?_
          refine lv_topi (fun x3_15 ex3_15 => ?_)
          have hf := x_lE ex3_15 hf
          refine lv_istore_n (lv' := [(3, .int x3_15), (2, .int v_10), (0, .ref (g.2.2.1 k0)), (1, .int a1)]) hx hb dX11_judge_60 rfl hl (by decide) rfl (fun ls hl => ?_)
          refine lv_sipush (v := (792 : Int32)) hx hb dX11_judge_61 (by decide) ?_
          refine lv_bipush (v := (10 : Int32)) hx hb dX11_judge_64 (by decide) ?_
          refine lv_iload_n hx hb dX11_judge_66 rfl (lv_at hl 0 rfl) ?_
          refine lv_imul hx hb dX11_judge_67 ?_
          refine lv_iadd hx hb dX11_judge_68 ?_
          refine lv_topi (fun x4_16 ex4_16 => ?_)
          have hf := x_lE ex4_16 hf
          refine lv_istore (lv' := [(4, .int x4_16), (3, .int x3_15), (2, .int v_10), (0, .ref (g.2.2.1 k0)), (1, .int a1)]) hx hb dX11_judge_69 hl (by decide) rfl (fun ls hl => ?_)
          refine lv_iconst (v := (0 : Int32)) hx hb dX11_judge_71 (by decide) ?_
          refine lv_istore (lv' := [(5, .int (0 : Int32)), (4, .int x4_16), (3, .int x3_15), (2, .int v_10), (0, .ref (g.2.2.1 k0)), (1, .int a1)]) hx hb dX11_judge_72 hl (by decide) rfl (fun ls hl => ?_)
          obtain ⟨k98_17, ek98_17, hf⟩ := x_jE hf
          have hk98_17 : ∀ (H : Heap) (locs : List Loc) (M_18 : xM)  (ls : Array Slot) , lv_has ls 7 [(4, .int x4_16), (3, .int x3_15), (2, .int v_10), (0, .ref (g.2.2.1 k0)), (1, .int a1)] → x_w g 1 s H locs M_18 → k98_17 M_18 = some (r, M') → W p l e (x_rm 4 101) s m args below meth c H locs 0 0 Q (F0 m 98 ls []) := by
            intro H locs M_18  ls  hl hw hf
            rw [ek98_17] at hf
            refine lv_iload_n hx hb dX11_judge_98 rfl (lv_at hl 2 rfl) ?_
            refine lv_aload_n hx hb dX11_judge_99 rfl (lv_at hl 3 rfl) ?_
            refine fg_X11_7 C hw h0 dX11_judge_100 ?_
            refine lv_bipush (v := (30 : Int32)) hx hb dX11_judge_103 (by decide) ?_
            refine lv_iconst (v := (3 : Int32)) hx hb dX11_judge_105 (by decide) ?_
            refine lv_iload_n hx hb dX11_judge_106 rfl (lv_at hl 4 rfl) ?_
            refine lv_imul hx hb dX11_judge_107 ?_
            refine lv_iadd hx hb dX11_judge_108 ?_
            refine lv_iconst (v := (2 : Int32)) hx hb dX11_judge_109 (by decide) ?_
            refine lv_iadd hx hb dX11_judge_110 ?_
            obtain ⟨q_19, hf⟩ := x_gE hf
            refine x_ald C hw h_5 q_19 dX11_judge_111 ?_
            obtain ⟨tv_22, tM_20, c_21, hf⟩ := x_bE hf
            refine x_sI C hw hl.1 [.int v_10, .int (M_18 (xr 1 k0 0) (((30 : Int32) + ((3 : Int32) * a1)) + (2 : Int32)).toNatClampNeg)] [] (mX11_less l g c_21) lk_X11_195 (by decide) rfl (Nat.le_of_ble_eq_true rfl) ⟨Nat.zero_le _, Nat.zero_le _⟩ dX11_judge_112 (fun v_22 M_20 H locs hN hw => ?_)
            obtain ⟨rfl, rfl⟩ := hN
            refine lv_istore (lv' := [(5, .int v_22), (4, .int x4_16), (3, .int x3_15), (2, .int v_10), (0, .ref (g.2.2.1 k0)), (1, .int a1)]) hx hb dX11_judge_115 hl (by decide) rfl (fun ls hl => ?_)
            refine lv_aload_n hx hb dX11_judge_117 rfl (lv_at hl 4 rfl) ?_
            refine fg_X11_7 C hw h0 dX11_judge_118 ?_
            refine lv_bipush (v := (30 : Int32)) hx hb dX11_judge_121 (by decide) ?_
            refine lv_iconst (v := (3 : Int32)) hx hb dX11_judge_123 (by decide) ?_
            refine lv_iload_n hx hb dX11_judge_124 rfl (lv_at hl 5 rfl) ?_
            refine lv_imul hx hb dX11_judge_125 ?_
            refine lv_iadd hx hb dX11_judge_126 ?_
            refine lv_iconst (v := (2 : Int32)) hx hb dX11_judge_127 (by decide) ?_
            refine lv_iadd hx hb dX11_judge_128 ?_
            refine lv_dup2_11 hx hb dX11_judge_129 rfl rfl ?_
            obtain ⟨q_23, hf⟩ := x_gE hf
            refine x_ald C hw h_5 q_23 dX11_judge_130 ?_
            refine lv_iload hx hb dX11_judge_131 (lv_at hl 0 rfl) ?_
            refine lv_isub hx hb dX11_judge_133 ?_
            obtain ⟨q_24, hf⟩ := x_gE hf
            refine x_ast C hw h_5 q_24 dX11_judge_134 (fun H locs hw => ?_)
            obtain ⟨M_25, eM_25⟩ : ∃ z, z = (x_up M_20 (xr 1 k0 0) (((30 : Int32) + ((3 : Int32) * a1)) + (2 : Int32)).toNatClampNeg ((M_20 (xr 1 k0 0) (((30 : Int32) + ((3 : Int32) * a1)) + (2 : Int32)).toNatClampNeg) - v_22)) := ⟨_, rfl⟩
            rw [← eM_25] at hw
            have hf := x_lE eM_25 hf
            refine lv_aload_n hx hb dX11_judge_135 rfl (lv_at hl 4 rfl) ?_
            refine fg_X11_7 C hw h0 dX11_judge_136 ?_
            refine lv_iload hx hb dX11_judge_139 (lv_at hl 1 rfl) ?_
            refine lv_iconst (v := (0 : Int32)) hx hb dX11_judge_141 (by decide) ?_
            refine lv_iadd hx hb dX11_judge_142 ?_
            refine lv_iload_n hx hb dX11_judge_143 rfl (lv_at hl 5 rfl) ?_
            obtain ⟨q_26, hf⟩ := x_gE hf
            refine x_ast C hw h_5 q_26 dX11_judge_144 (fun H locs hw => ?_)
            obtain ⟨M_27, eM_27⟩ : ∃ z, z = (x_up M_25 (xr 1 k0 0) (x4_16 + (0 : Int32)).toNatClampNeg a1) := ⟨_, rfl⟩
            rw [← eM_27] at hw
            have hf := x_lE eM_27 hf
            refine lv_aload_n hx hb dX11_judge_145 rfl (lv_at hl 4 rfl) ?_
            refine fg_X11_7 C hw h0 dX11_judge_146 ?_
            refine lv_iload hx hb dX11_judge_149 (lv_at hl 1 rfl) ?_
            refine lv_iconst (v := (1 : Int32)) hx hb dX11_judge_151 (by decide) ?_
            refine lv_iadd hx hb dX11_judge_152 ?_
            refine lv_aload_n hx hb dX11_judge_153 rfl (lv_at hl 4 rfl) ?_
            refine fg_X11_7 C hw h0 dX11_judge_154 ?_
            refine lv_iconst (v := (0 : Int32)) hx hb dX11_judge_157 (by decide) ?_
            obtain ⟨q_28, hf⟩ := x_gE hf
            refine x_ald C hw h_5 q_28 dX11_judge_158 ?_
            obtain ⟨q_29, hf⟩ := x_gE hf
            refine x_ast C hw h_5 q_29 dX11_judge_159 (fun H locs hw => ?_)
            obtain ⟨M_30, eM_30⟩ : ∃ z, z = (x_up M_27 (xr 1 k0 0) (x4_16 + (1 : Int32)).toNatClampNeg (M_27 (xr 1 k0 0) (0 : Int32).toNatClampNeg)) := ⟨_, rfl⟩
            rw [← eM_30] at hw
            have hf := x_lE eM_30 hf
            refine lv_aload_n hx hb dX11_judge_160 rfl (lv_at hl 4 rfl) ?_
            refine fg_X11_7 C hw h0 dX11_judge_161 ?_
            refine lv_iload hx hb dX11_judge_164 (lv_at hl 1 rfl) ?_
            refine lv_iconst (v := (2 : Int32)) hx hb dX11_judge_166 (by decide) ?_
            refine lv_iadd hx hb dX11_judge_167 ?_
            refine lv_iload_n hx hb dX11_judge_168 rfl (lv_at hl 3 rfl) ?_
            refine lv_iload hx hb dX11_judge_169 (lv_at hl 0 rfl) ?_
            refine lv_isub hx hb dX11_judge_171 ?_
            obtain ⟨q_31, hf⟩ := x_gE hf
            refine x_ast C hw h_5 q_31 dX11_judge_172 (fun H locs hw => ?_)
            obtain ⟨M_32, eM_32⟩ : ∃ z, z = (x_up M_30 (xr 1 k0 0) (x4_16 + (2 : Int32)).toNatClampNeg (v_10 - v_22)) := ⟨_, rfl⟩
            rw [← eM_32] at hw
            have hf := x_lE eM_32 hf
            refine lv_aload_n hx hb dX11_judge_173 rfl (lv_at hl 4 rfl) ?_
            refine fg_X11_7 C hw h0 dX11_judge_174 ?_
            refine lv_iload hx hb dX11_judge_177 (lv_at hl 1 rfl) ?_
            refine lv_iconst (v := (3 : Int32)) hx hb dX11_judge_179 (by decide) ?_
            refine lv_iadd hx hb dX11_judge_180 ?_
            refine lv_aload_n hx hb dX11_judge_181 rfl (lv_at hl 4 rfl) ?_
            refine lv_iload_n hx hb dX11_judge_182 rfl (lv_at hl 5 rfl) ?_
            refine lv_aload_n hx hb dX11_judge_183 rfl (lv_at hl 4 rfl) ?_
            refine fg_X11_7 C hw h0 dX11_judge_184 ?_
            refine lv_iconst (v := (0 : Int32)) hx hb dX11_judge_187 (by decide) ?_
            obtain ⟨q_33, hf⟩ := x_gE hf
            refine x_ald C hw h_5 q_33 dX11_judge_188 ?_
            refine lv_aload_n hx hb dX11_judge_189 rfl (lv_at hl 4 rfl) ?_
            refine fg_X11_7 C hw h0 dX11_judge_190 ?_
            refine lv_iconst (v := (0 : Int32)) hx hb dX11_judge_193 (by decide) ?_
            obtain ⟨q_34, hf⟩ := x_gE hf
            refine x_ald C hw h_5 q_34 dX11_judge_194 ?_
            obtain ⟨tv_37, tM_35, c_36, hf⟩ := x_bE hf
            refine x_vI C hw hl.1 [.int a1, .int (M_32 (xr 1 k0 0) (0 : Int32).toNatClampNeg), .int (M_32 (xr 1 k0 0) (0 : Int32).toNatClampNeg)] [.int (x4_16 + (3 : Int32)), .ref (g.2.2.1 (xr 1 k0 0))] (mX11_sumOf l g h0 c_36) lk_X11_201 h0 (by decide) rfl (by decide) rfl (Nat.le_of_ble_eq_true rfl) ⟨Nat.zero_le _, Nat.zero_le _⟩ dX11_judge_195 (fun v_37 M_35 H locs hN hw => ?_)
            obtain ⟨rfl, rfl⟩ := hN
            obtain ⟨q_38, hf⟩ := x_gE hf
            refine x_ast C hw h_5 q_38 dX11_judge_198 (fun H locs hw => ?_)
            obtain ⟨M_39, eM_39⟩ : ∃ z, z = (x_up M_35 (xr 1 k0 0) (x4_16 + (3 : Int32)).toNatClampNeg v_37) := ⟨_, rfl⟩
            rw [← eM_39] at hw
            have hf := x_lE eM_39 hf
            refine lv_aload_n hx hb dX11_judge_199 rfl (lv_at hl 4 rfl) ?_
            refine fg_X11_7 C hw h0 dX11_judge_200 ?_
            refine lv_iload hx hb dX11_judge_203 (lv_at hl 1 rfl) ?_
            refine lv_bipush (v := (6 : Int32)) hx hb dX11_judge_205 (by decide) ?_
            refine lv_iadd hx hb dX11_judge_207 ?_
            refine lv_aload_n hx hb dX11_judge_208 rfl (lv_at hl 4 rfl) ?_
            refine fg_X11_7 C hw h0 dX11_judge_209 ?_
            refine lv_iconst (v := (0 : Int32)) hx hb dX11_judge_212 (by decide) ?_
            obtain ⟨q_40, hf⟩ := x_gE hf
            refine x_ald C hw h_5 q_40 dX11_judge_213 ?_
            obtain ⟨q_41, hf⟩ := x_gE hf
            refine x_ast C hw h_5 q_41 dX11_judge_214 (fun H locs hw => ?_)
            obtain ⟨M_42, eM_42⟩ : ∃ z, z = (x_up M_39 (xr 1 k0 0) (x4_16 + (6 : Int32)).toNatClampNeg (M_39 (xr 1 k0 0) (0 : Int32).toNatClampNeg)) := ⟨_, rfl⟩
            rw [← eM_42] at hw
            have hf := x_lE eM_42 hf
            refine lv_iconst (v := (0 : Int32)) hx hb dX11_judge_215 (by decide) ?_
            refine lv_istore (lv' := [(6, .int (0 : Int32)), (5, .int v_22), (4, .int x4_16), (3, .int x3_15), (2, .int v_10), (0, .ref (g.2.2.1 k0)), (1, .int a1)]) hx hb dX11_judge_216 hl (by decide) rfl (fun ls hl => ?_)
            obtain ⟨k290_43, ek290_43, hf⟩ := x_jE hf
            have hk290_43 : ∀ (H : Heap) (locs : List Loc) (M_44 : xM)  (ls : Array Slot) , lv_has ls 7 [(3, .int x3_15), (0, .ref (g.2.2.1 k0))] → x_w g 1 s H locs M_44 → k290_43 M_44 = some (r, M') → W p l e (x_rm 4 101) s m args below meth c H locs 0 0 Q (F0 m 290 ls []) := by
              intro H locs M_44  ls  hl hw hf
              rw [ek290_43] at hf
              refine lv_aload_n hx hb dX11_judge_290 rfl (lv_at hl 1 rfl) ?_
              refine fg_X11_7 C hw h0 dX11_judge_291 ?_
              refine lv_bipush (v := (20 : Int32)) hx hb dX11_judge_294 (by decide) ?_
              refine lv_dup2_11 hx hb dX11_judge_296 rfl rfl ?_
              obtain ⟨q_45, hf⟩ := x_gE hf
              refine x_ald C hw h_5 q_45 dX11_judge_297 ?_
              refine lv_iconst (v := (1 : Int32)) hx hb dX11_judge_298 (by decide) ?_
              refine lv_iadd hx hb dX11_judge_299 ?_
              obtain ⟨q_46, hf⟩ := x_gE hf
              refine x_ast C hw h_5 q_46 dX11_judge_300 (fun H locs hw => ?_)
              obtain ⟨M_47, eM_47⟩ : ∃ z, z = (x_up M_44 (xr 1 k0 0) (20 : Int32).toNatClampNeg ((M_44 (xr 1 k0 0) (20 : Int32).toNatClampNeg) + (1 : Int32))) := ⟨_, rfl⟩
              rw [← eM_47] at hw
              have hf := x_lE eM_47 hf
              refine lv_iload_n hx hb dX11_judge_301 rfl (lv_at hl 0 rfl) ?_
              exact ret hf dX11_judge_302 hw
            have hL_63 : ∀ (n_50 : Nat) (H : Heap) (locs : List Loc) (M_49 : xM) (x6_48 : Int32) (ls : Array Slot) , lv_has ls 7 [(3, .int x3_15), (0, .ref (g.2.2.1 k0)), (1, .int a1), (6, .int x6_48)] → x_w g 1 s H locs M_49 → fX11_judge_L218 k0 a1 x3_15 k290_43 n_50 M_49 x6_48 = some (r, M') → W p l e (x_rm 4 101) s m args below meth c H locs 0 0 Q (F0 m 218 ls []) := by
              intro n_50
              induction n_50 with
              | zero =>
                intro H locs M_49 x6_48 ls  hl hw hf
                rw [fX11_judge_L218] at hf
                cases hf
              | succ n_50 ih_51 =>
                intro H locs M_49 x6_48 ls  hl hw hf
                rw [fX11_judge_L218] at hf
                refine lv_iload hx hb dX11_judge_218 (lv_at hl 3 rfl) ?_
                refine lv_aload_n hx hb dX11_judge_220 rfl (lv_at hl 1 rfl) ?_
                refine fg_X11_7 C hw h0 dX11_judge_221 ?_
                refine lv_bipush (v := (19 : Int32)) hx hb dX11_judge_224 (by decide) ?_
                obtain ⟨q_52, hf⟩ := x_gE hf
                refine x_ald C hw h_5 q_52 dX11_judge_226 ?_
                refine lv_icmp_ge (tgt := 290) hx hb dX11_judge_227 (by decide) (fun q_53 => ?_) (fun q_53 => ?_)
                · have hf := x_iP hf q_53
                  exact hk290_43 _ _ _ _ (lv_sub hl [0, 1] rfl) hw hf
                · have hf := x_iN hf q_53
                  refine lv_aload_n hx hb dX11_judge_230 rfl (lv_at hl 1 rfl) ?_
                  refine fg_X11_7 C hw h0 dX11_judge_231 ?_
                  refine lv_sipush (v := (642 : Int32)) hx hb dX11_judge_234 (by decide) ?_
                  refine lv_iconst (v := (5 : Int32)) hx hb dX11_judge_237 (by decide) ?_
                  refine lv_iload hx hb dX11_judge_238 (lv_at hl 3 rfl) ?_
                  refine lv_imul hx hb dX11_judge_240 ?_
                  refine lv_iadd hx hb dX11_judge_241 ?_
                  refine lv_iconst (v := (1 : Int32)) hx hb dX11_judge_242 (by decide) ?_
                  refine lv_iadd hx hb dX11_judge_243 ?_
                  obtain ⟨q_54, hf⟩ := x_gE hf
                  refine x_ald C hw h_5 q_54 dX11_judge_244 ?_
                  refine lv_iload_n hx hb dX11_judge_245 rfl (lv_at hl 2 rfl) ?_
                  obtain ⟨k284_55, ek284_55, hf⟩ := x_jE hf
                  have hk284_55 : ∀ (H : Heap) (locs : List Loc) (M_56 : xM)  (ls : Array Slot) , lv_has ls 7 [(3, .int x3_15), (0, .ref (g.2.2.1 k0)), (1, .int a1), (6, .int x6_48)] → x_w g 1 s H locs M_56 → k284_55 M_56 = some (r, M') → W p l e (x_rm 4 101) s m args below meth c H locs 0 0 Q (F0 m 284 ls []) := by
                    intro H locs M_56  ls  hl hw hf
                    rw [ek284_55] at hf
                    obtain ⟨x6_57, ex6_57⟩ : ∃ z : Int32, z = (x6_48 + (1 : Int32)) := ⟨_, rfl⟩
                    have hf := x_lE ex6_57 hf
                    refine lv_iinc (v := x6_57) (lv' := [(6, .int x6_57), (3, .int x3_15), (0, .ref (g.2.2.1 k0)), (1, .int a1)]) hx hb dX11_judge_284 hl (k := 3) rfl (by rw [ex6_57]; rfl) (by decide) rfl (fun ls hl => ?_)
                    refine lv_goto (tgt := 218) hx hb dX11_judge_287 (by decide) ?_
                    exact ih_51 _ _ _ _ _ (lv_sub hl [1, 2, 3, 0] rfl) hw hf
                  refine lv_icmp_ne (tgt := 284) hx hb dX11_judge_246 (by decide) (fun q_58 => ?_) (fun q_58 => ?_)
                  · have hf := x_iN hf q_58
                    exact hk284_55 _ _ _ _ (lv_sub hl [0, 1, 2, 3] rfl) hw hf
                  · have hf := x_iP hf q_58
                    refine lv_aload_n hx hb dX11_judge_249 rfl (lv_at hl 1 rfl) ?_
                    refine fg_X11_7 C hw h0 dX11_judge_250 ?_
                    refine lv_sipush (v := (642 : Int32)) hx hb dX11_judge_253 (by decide) ?_
                    refine lv_iconst (v := (5 : Int32)) hx hb dX11_judge_256 (by decide) ?_
                    refine lv_iload hx hb dX11_judge_257 (lv_at hl 3 rfl) ?_
                    refine lv_imul hx hb dX11_judge_259 ?_
                    refine lv_iadd hx hb dX11_judge_260 ?_
                    refine lv_iconst (v := (4 : Int32)) hx hb dX11_judge_261 (by decide) ?_
                    refine lv_iadd hx hb dX11_judge_262 ?_
                    obtain ⟨q_59, hf⟩ := x_gE hf
                    refine x_ald C hw h_5 q_59 dX11_judge_263 ?_
                    refine lv_iconst (v := (-1 : Int32)) hx hb dX11_judge_264 (by decide) ?_
                    refine lv_icmp_ne (tgt := 284) hx hb dX11_judge_265 (by decide) (fun q_60 => ?_) (fun q_60 => ?_)
                    · have hf := x_iN hf q_60
                      exact hk284_55 _ _ _ _ (lv_sub hl [0, 1, 2, 3] rfl) hw hf
                    · have hf := x_iP hf q_60
                      refine lv_aload_n hx hb dX11_judge_268 rfl (lv_at hl 1 rfl) ?_
                      refine fg_X11_7 C hw h0 dX11_judge_269 ?_
                      refine lv_sipush (v := (642 : Int32)) hx hb dX11_judge_272 (by decide) ?_
                      refine lv_iconst (v := (5 : Int32)) hx hb dX11_judge_275 (by decide) ?_
                      refine lv_iload hx hb dX11_judge_276 (lv_at hl 3 rfl) ?_
                      refine lv_imul hx hb dX11_judge_278 ?_
                      refine lv_iadd hx hb dX11_judge_279 ?_
                      refine lv_iconst (v := (4 : Int32)) hx hb dX11_judge_280 (by decide) ?_
                      refine lv_iadd hx hb dX11_judge_281 ?_
                      refine lv_iload_n hx hb dX11_judge_282 rfl (lv_at hl 0 rfl) ?_
                      obtain ⟨q_61, hf⟩ := x_gE hf
                      refine x_ast C hw h_5 q_61 dX11_judge_283 (fun H locs hw => ?_)
                      obtain ⟨M_62, eM_62⟩ : ∃ z, z = (x_up M_49 (xr 1 k0 0) (((642 : Int32) + ((5 : Int32) * x6_48)) + (4 : Int32)).toNatClampNeg x3_15) := ⟨_, rfl⟩
                      rw [← eM_62] at hw
                      have hf := x_lE eM_62 hf
                      exact hk284_55 _ _ _ _ (lv_sub hl [0, 1, 2, 3] rfl) hw hf
            exact hL_63 _ _ _ _ _ _ (lv_sub hl [3, 5, 6, 0] rfl) hw hf
          have hL_72 : ∀ (n_66 : Nat) (H : Heap) (locs : List Loc) (M_65 : xM) (x5_64 : Int32) (ls : Array Slot) , lv_has ls 7 [(4, .int x4_16), (3, .int x3_15), (2, .int v_10), (0, .ref (g.2.2.1 k0)), (1, .int a1), (5, .int x5_64)] → x_w g 1 s H locs M_65 → fX11_judge_L74 k0 x4_16 k98_17 n_66 M_65 x5_64 = some (r, M') → W p l e (x_rm 4 101) s m args below meth c H locs 0 0 Q (F0 m 74 ls []) := by
            intro n_66
            induction n_66 with
            | zero =>
              intro H locs M_65 x5_64 ls  hl hw hf
              rw [fX11_judge_L74] at hf
              cases hf
            | succ n_66 ih_67 =>
              intro H locs M_65 x5_64 ls  hl hw hf
              rw [fX11_judge_L74] at hf
              refine lv_iload hx hb dX11_judge_74 (lv_at hl 5 rfl) ?_
              refine lv_bipush (v := (10 : Int32)) hx hb dX11_judge_76 (by decide) ?_
              refine lv_icmp_ge (tgt := 98) hx hb dX11_judge_78 (by decide) (fun q_68 => ?_) (fun q_68 => ?_)
              · have hf := x_iP hf q_68
                exact hk98_17 _ _ _ _ (lv_sub hl [0, 1, 2, 3, 4] rfl) hw hf
              · have hf := x_iN hf q_68
                refine lv_aload_n hx hb dX11_judge_81 rfl (lv_at hl 3 rfl) ?_
                refine fg_X11_7 C hw h0 dX11_judge_82 ?_
                refine lv_iload hx hb dX11_judge_85 (lv_at hl 0 rfl) ?_
                refine lv_iload hx hb dX11_judge_87 (lv_at hl 5 rfl) ?_
                refine lv_iadd hx hb dX11_judge_89 ?_
                refine lv_iconst (v := (0 : Int32)) hx hb dX11_judge_90 (by decide) ?_
                obtain ⟨q_69, hf⟩ := x_gE hf
                refine x_ast C hw h_5 q_69 dX11_judge_91 (fun H locs hw => ?_)
                obtain ⟨M_70, eM_70⟩ : ∃ z, z = (x_up M_65 (xr 1 k0 0) (x4_16 + x5_64).toNatClampNeg (0 : Int32)) := ⟨_, rfl⟩
                rw [← eM_70] at hw
                have hf := x_lE eM_70 hf
                obtain ⟨x5_71, ex5_71⟩ : ∃ z : Int32, z = (x5_64 + (1 : Int32)) := ⟨_, rfl⟩
                have hf := x_lE ex5_71 hf
                refine lv_iinc (v := x5_71) (lv' := [(5, .int x5_71), (4, .int x4_16), (3, .int x3_15), (2, .int v_10), (0, .ref (g.2.2.1 k0)), (1, .int a1)]) hx hb dX11_judge_92 hl (k := 5) rfl (by rw [ex5_71]; rfl) (by decide) rfl (fun ls hl => ?_)
                refine lv_goto (tgt := 74) hx hb dX11_judge_95 (by decide) ?_
                exact ih_67 _ _ _ _ _ (lv_sub hl [1, 2, 3, 4, 5, 0] rfl) hw hf
          exact hL_72 _ _ _ _ _ _ (lv_sub hl [1, 2, 3, 4, 5, 0] rfl) hw hf
        · have hf := x_iP hf q_13
          refine lv_ldc hx hb hown (hB _ mk_X11_61) dX11_judge_50 ?_
          exact ret hf dX11_judge_52 hw
      · have hf := x_iP hf q_11
        refine lv_ldc hx hb hown (hB _ mk_X11_69) dX11_judge_35 ?_
        exact ret hf dX11_judge_37 hw
    · have hf := x_iP hf q_7
      refine lv_ldc hx hb hown (hB _ mk_X11_69) dX11_judge_21 ?_
      exact ret hf dX11_judge_23 hw
  · have hf := x_iP hf q_4
    refine lv_ldc hx hb hown (hB _ mk_X11_60) dX11_judge_8 ?_
    exact ret hf dX11_judge_10 hw
def fX11_fine (M : xM) (k0 : Nat) (a1 : Int32) : Option (Int32 × xM) := x_g (((792 : Int32) + ((10 : Int32) * a1)) + (2 : Int32)) (xn 1 (xr 1 k0 0)) (x_g (((792 : Int32) + ((10 : Int32) * a1)) + (3 : Int32)) (xn 1 (xr 1 k0 0)) (some (((M (xr 1 k0 0) (((792 : Int32) + ((10 : Int32) * a1)) + (2 : Int32)).toNatClampNeg) * (M (xr 1 k0 0) (((792 : Int32) + ((10 : Int32) * a1)) + (3 : Int32)).toNatClampNeg)), M)))
set_option maxRecDepth 100000 in
set_option maxHeartbeats 4000000 in
theorem mX11_fine (l : Launch) (g : xG) {k0 : Nat} {a1 : Int32} {r : Int32} {M' : xM} (h0 : x_is 1 k0 11) {M : xM} (hf : fX11_fine M k0 a1 = some (r, M')) : x_cI l g 1 yX11_fine cX11_fine 2 .int 0 0 [.ref (g.2.2.1 k0), .int a1] M (fun v N => v = r ∧ N = M') := by
  refine x_stI RX11 (by decide) rfl (Nat.le_of_ble_eq_true rfl) ?_
  intro p e s m args below meth c Q ls C hw ret hl
  obtain ⟨hx, hb, hml, hown, hB, -⟩ := id C
  have hl : lv_has ls 2 [(0, .ref (g.2.2.1 k0)), (1, .int a1)] := hl
  unfold fX11_fine at hf
  refine lv_aload_n hx hb dX11_fine_0 rfl (lv_at hl 0 rfl) ?_
  refine fg_X11_7 C hw h0 dX11_fine_1 ?_
  have h_1 : x_is 1 (xr 1 k0 0) 12 := x_tm h0 (by decide) rfl
  refine lv_sipush (v := (792 : Int32)) hx hb dX11_fine_4 (by decide) ?_
  refine lv_bipush (v := (10 : Int32)) hx hb dX11_fine_7 (by decide) ?_
  refine lv_iload_n hx hb dX11_fine_9 rfl (lv_at hl 1 rfl) ?_
  refine lv_imul hx hb dX11_fine_10 ?_
  refine lv_iadd hx hb dX11_fine_11 ?_
  refine lv_iconst (v := (2 : Int32)) hx hb dX11_fine_12 (by decide) ?_
  refine lv_iadd hx hb dX11_fine_13 ?_
  obtain ⟨q_2, hf⟩ := x_gE hf
  refine x_ald C hw h_1 q_2 dX11_fine_14 ?_
  refine lv_aload_n hx hb dX11_fine_15 rfl (lv_at hl 0 rfl) ?_
  refine fg_X11_7 C hw h0 dX11_fine_16 ?_
  refine lv_sipush (v := (792 : Int32)) hx hb dX11_fine_19 (by decide) ?_
  refine lv_bipush (v := (10 : Int32)) hx hb dX11_fine_22 (by decide) ?_
  refine lv_iload_n hx hb dX11_fine_24 rfl (lv_at hl 1 rfl) ?_
  refine lv_imul hx hb dX11_fine_25 ?_
  refine lv_iadd hx hb dX11_fine_26 ?_
  refine lv_iconst (v := (3 : Int32)) hx hb dX11_fine_27 (by decide) ?_
  refine lv_iadd hx hb dX11_fine_28 ?_
  obtain ⟨q_3, hf⟩ := x_gE hf
  refine x_ald C hw h_1 q_3 dX11_fine_29 ?_
  refine lv_imul hx hb dX11_fine_30 ?_
  exact ret hf dX11_fine_31 hw
def fX11_unpaid (M : xM) (k0 : Nat) (a1 : Int32) : Option (Int32 × xM) := x_b (fX11_fine M k0 a1) fun v_3 M_1 => x_g (((792 : Int32) + ((10 : Int32) * a1)) + (4 : Int32)) (xn 1 (xr 1 k0 0)) (x_b (fX11_more M_1 (0 : Int32) (v_3 - (M_1 (xr 1 k0 0) (((792 : Int32) + ((10 : Int32) * a1)) + (4 : Int32)).toNatClampNeg))) fun v_8 M_6 => some (v_8, M_6))
set_option maxRecDepth 100000 in
set_option maxHeartbeats 4000000 in
theorem mX11_unpaid (l : Launch) (g : xG) {k0 : Nat} {a1 : Int32} {r : Int32} {M' : xM} (h0 : x_is 1 k0 11) {M : xM} (hf : fX11_unpaid M k0 a1 = some (r, M')) : x_cI l g 1 yX11_unpaid cX11_unpaid 2 .int 1 21 [.ref (g.2.2.1 k0), .int a1] M (fun v N => v = r ∧ N = M') := by
  refine x_stI RX11 (by decide) rfl (Nat.le_of_ble_eq_true rfl) ?_
  intro p e s m args below meth c Q ls C hw ret hl
  obtain ⟨hx, hb, hml, hown, hB, -⟩ := id C
  have hl : lv_has ls 2 [(0, .ref (g.2.2.1 k0)), (1, .int a1)] := hl
  unfold fX11_unpaid at hf
  refine lv_iconst (v := (0 : Int32)) hx hb dX11_unpaid_0 (by decide) ?_
  refine lv_aload_n hx hb dX11_unpaid_1 rfl (lv_at hl 0 rfl) ?_
  refine lv_iload_n hx hb dX11_unpaid_2 rfl (lv_at hl 1 rfl) ?_
  obtain ⟨tv_3, tM_1, c_2, hf⟩ := x_bE hf
  refine x_vI C hw hl.1 [.int a1] [.int (0 : Int32)] (mX11_fine l g h0 c_2) lk_X11_207 h0 (by decide) rfl (by decide) rfl (Nat.le_of_ble_eq_true rfl) ⟨Nat.zero_le _, Nat.zero_le _⟩ dX11_unpaid_3 (fun v_3 M_1 H locs hN hw => ?_)
  obtain ⟨rfl, rfl⟩ := hN
  refine lv_aload_n hx hb dX11_unpaid_6 rfl (lv_at hl 0 rfl) ?_
  refine fg_X11_7 C hw h0 dX11_unpaid_7 ?_
  have h_4 : x_is 1 (xr 1 k0 0) 12 := x_tm h0 (by decide) rfl
  refine lv_sipush (v := (792 : Int32)) hx hb dX11_unpaid_10 (by decide) ?_
  refine lv_bipush (v := (10 : Int32)) hx hb dX11_unpaid_13 (by decide) ?_
  refine lv_iload_n hx hb dX11_unpaid_15 rfl (lv_at hl 1 rfl) ?_
  refine lv_imul hx hb dX11_unpaid_16 ?_
  refine lv_iadd hx hb dX11_unpaid_17 ?_
  refine lv_iconst (v := (4 : Int32)) hx hb dX11_unpaid_18 (by decide) ?_
  refine lv_iadd hx hb dX11_unpaid_19 ?_
  obtain ⟨q_5, hf⟩ := x_gE hf
  refine x_ald C hw h_4 q_5 dX11_unpaid_20 ?_
  refine lv_isub hx hb dX11_unpaid_21 ?_
  obtain ⟨tv_8, tM_6, c_7, hf⟩ := x_bE hf
  refine x_sI C hw hl.1 [.int (0 : Int32), .int (v_3 - (M_1 (xr 1 k0 0) (((792 : Int32) + ((10 : Int32) * a1)) + (4 : Int32)).toNatClampNeg))] [] (mX11_more l g c_7) lk_X11_75 (by decide) rfl (Nat.le_of_ble_eq_true rfl) ⟨Nat.zero_le _, Nat.zero_le _⟩ dX11_unpaid_22 (fun v_8 M_6 H locs hN hw => ?_)
  obtain ⟨rfl, rfl⟩ := hN
  exact ret hf dX11_unpaid_25 hw
def fX11_unpaidDays (M : xM) (k0 : Nat) (a1 : Int32) : Option (Int32 × xM) := x_g (((792 : Int32) + ((10 : Int32) * a1)) + (3 : Int32)) (xn 1 (xr 1 k0 0)) (x_l (M (xr 1 k0 0) (((792 : Int32) + ((10 : Int32) * a1)) + (3 : Int32)).toNatClampNeg) fun x2_3 => if x2_3 = 0 then (some ((0 : Int32), M)) else (x_b (fX11_unpaid M k0 a1) fun v_7 M_5 => x_d x2_3 (some ((((v_7 + x2_3) - (1 : Int32)) / x2_3), M_5))))
set_option maxRecDepth 100000 in
set_option maxHeartbeats 4000000 in
theorem mX11_unpaidDays (l : Launch) (g : xG) {k0 : Nat} {a1 : Int32} {r : Int32} {M' : xM} (h0 : x_is 1 k0 11) {M : xM} (hf : fX11_unpaidDays M k0 a1 = some (r, M')) : x_cI l g 1 yX11_unpaidDays cX11_unpaidDays 3 .int 2 42 [.ref (g.2.2.1 k0), .int a1] M (fun v N => v = r ∧ N = M') := by
  refine x_stI RX11 (by decide) rfl (Nat.le_of_ble_eq_true rfl) ?_
  intro p e s m args below meth c Q ls C hw ret hl
  obtain ⟨hx, hb, hml, hown, hB, -⟩ := id C
  have hl : lv_has ls 3 [(0, .ref (g.2.2.1 k0)), (1, .int a1)] := hl
  unfold fX11_unpaidDays at hf
  refine lv_aload_n hx hb dX11_unpaidDays_0 rfl (lv_at hl 0 rfl) ?_
  refine fg_X11_7 C hw h0 dX11_unpaidDays_1 ?_
  have h_1 : x_is 1 (xr 1 k0 0) 12 := x_tm h0 (by decide) rfl
  refine lv_sipush (v := (792 : Int32)) hx hb dX11_unpaidDays_4 (by decide) ?_
  refine lv_bipush (v := (10 : Int32)) hx hb dX11_unpaidDays_7 (by decide) ?_
  refine lv_iload_n hx hb dX11_unpaidDays_9 rfl (lv_at hl 1 rfl) ?_
  refine lv_imul hx hb dX11_unpaidDays_10 ?_
  refine lv_iadd hx hb dX11_unpaidDays_11 ?_
  refine lv_iconst (v := (3 : Int32)) hx hb dX11_unpaidDays_12 (by decide) ?_
  refine lv_iadd hx hb dX11_unpaidDays_13 ?_
  obtain ⟨q_2, hf⟩ := x_gE hf
  refine x_ald C hw h_1 q_2 dX11_unpaidDays_14 ?_
  refine lv_topi (fun x2_3 ex2_3 => ?_)
  have hf := x_lE ex2_3 hf
  refine lv_istore_n (lv' := [(2, .int x2_3), (0, .ref (g.2.2.1 k0)), (1, .int a1)]) hx hb dX11_unpaidDays_15 rfl hl (by decide) rfl (fun ls hl => ?_)
  refine lv_iload_n hx hb dX11_unpaidDays_16 rfl (lv_at hl 0 rfl) ?_
  refine lv_if_ne (tgt := 24) hx hb dX11_unpaidDays_17 (by decide) (fun q_4 => ?_) (fun q_4 => ?_)
  · have hf := x_iN hf q_4
    refine lv_aload_n hx hb dX11_unpaidDays_24 rfl (lv_at hl 1 rfl) ?_
    refine lv_iload_n hx hb dX11_unpaidDays_25 rfl (lv_at hl 2 rfl) ?_
    obtain ⟨tv_7, tM_5, c_6, hf⟩ := x_bE hf
    refine x_vI C hw hl.1 [.int a1] [] (mX11_unpaid l g h0 c_6) lk_X11_210 h0 (by decide) rfl (by decide) rfl (Nat.le_of_ble_eq_true rfl) ⟨Nat.zero_le _, Nat.zero_le _⟩ dX11_unpaidDays_26 (fun v_7 M_5 H locs hN hw => ?_)
    obtain ⟨rfl, rfl⟩ := hN
    refine lv_iload_n hx hb dX11_unpaidDays_29 rfl (lv_at hl 0 rfl) ?_
    refine lv_iadd hx hb dX11_unpaidDays_30 ?_
    refine lv_iconst (v := (1 : Int32)) hx hb dX11_unpaidDays_31 (by decide) ?_
    refine lv_isub hx hb dX11_unpaidDays_32 ?_
    refine lv_iload_n hx hb dX11_unpaidDays_33 rfl (lv_at hl 0 rfl) ?_
    obtain ⟨q_8, hf⟩ := x_dE hf
    refine lv_idiv hx hb dX11_unpaidDays_34 q_8 ?_
    exact ret hf dX11_unpaidDays_35 hw
  · have hf := x_iP hf q_4
    refine lv_iconst (v := (0 : Int32)) hx hb dX11_unpaidDays_20 (by decide) ?_
    refine lv_goto (tgt := 35) hx hb dX11_unpaidDays_21 (by decide) ?_
    exact ret hf dX11_unpaidDays_35 hw
def fX11_deedsOf_L5 (k0 : Nat) (a1 : Int32) (a2 : Int32) : Nat → xM → Int32 → Int32 → Option (Int32 × xM)
  | 0, _, _, _ => none
  | n_4 + 1, M_3, x3_1, x4_2 => x_g (19 : Int32) (xn 1 (xr 1 k0 0)) (if (M_3 (xr 1 k0 0) (19 : Int32).toNatClampNeg) ≤ x4_2 then (some (x3_1, M_3)) else (x_g (((642 : Int32) + ((5 : Int32) * x4_2)) + (4 : Int32)) (xn 1 (xr 1 k0 0)) (x_l (fun (M_12 : xM) (z_10 : Int32) => x_l (x3_1 + z_10) fun x3_13 => x_l (x4_2 + (1 : Int32)) fun x4_14 => fX11_deedsOf_L5 k0 a1 a2 n_4 M_12 x3_13 x4_14) fun k64_11 => x_l (fun (M_16 : xM) => k64_11 M_16 (0 : Int32)) fun k63_15 => if (M_3 (xr 1 k0 0) (((642 : Int32) + ((5 : Int32) * x4_2)) + (4 : Int32)).toNatClampNeg) = a1 then (x_l (fun (M_19 : xM) => k64_11 M_19 (1 : Int32)) fun k59_18 => if a2 = (-1 : Int32) then (k59_18 M_3) else (x_g ((642 : Int32) + ((5 : Int32) * x4_2)) (xn 1 (xr 1 k0 0)) (if (M_3 (xr 1 k0 0) ((642 : Int32) + ((5 : Int32) * x4_2)).toNatClampNeg) = a2 then (k59_18 M_3) else (k63_15 M_3)))) else (k63_15 M_3))))
def fX11_deedsOf (M : xM) (k0 : Nat) (a1 : Int32) (a2 : Int32) : Option (Int32 × xM) := fX11_deedsOf_L5 k0 a1 a2 x_FU M (0 : Int32) (0 : Int32)
set_option maxRecDepth 100000 in
set_option maxHeartbeats 4000000 in
theorem mX11_deedsOf (l : Launch) (g : xG) {k0 : Nat} {a1 : Int32} {a2 : Int32} {r : Int32} {M' : xM} (h0 : x_is 1 k0 11) {M : xM} (hf : fX11_deedsOf M k0 a1 a2 = some (r, M')) : x_cI l g 1 yX11_deedsOf cX11_deedsOf 5 .int 0 0 [.ref (g.2.2.1 k0), .int a1, .int a2] M (fun v N => v = r ∧ N = M') := by
  refine x_stI RX11 (by decide) rfl (Nat.le_of_ble_eq_true rfl) ?_
  intro p e s m args below meth c Q ls C hw ret hl
  obtain ⟨hx, hb, hml, hown, hB, -⟩ := id C
  have hl : lv_has ls 5 [(0, .ref (g.2.2.1 k0)), (1, .int a1), (2, .int a2)] := hl
  unfold fX11_deedsOf at hf
  refine lv_iconst (v := (0 : Int32)) hx hb dX11_deedsOf_0 (by decide) ?_
  refine lv_istore_n (lv' := [(3, .int (0 : Int32)), (0, .ref (g.2.2.1 k0)), (1, .int a1), (2, .int a2)]) hx hb dX11_deedsOf_1 rfl hl (by decide) rfl (fun ls hl => ?_)
  refine lv_iconst (v := (0 : Int32)) hx hb dX11_deedsOf_2 (by decide) ?_
  refine lv_istore (lv' := [(4, .int (0 : Int32)), (3, .int (0 : Int32)), (0, .ref (g.2.2.1 k0)), (1, .int a1), (2, .int a2)]) hx hb dX11_deedsOf_3 hl (by decide) rfl (fun ls hl => ?_)
  have hL_23 : ∀ (n_4 : Nat) (H : Heap) (locs : List Loc) (M_3 : xM) (x3_1 : Int32) (x4_2 : Int32) (ls : Array Slot) , lv_has ls 5 [(0, .ref (g.2.2.1 k0)), (1, .int a1), (2, .int a2), (3, .int x3_1), (4, .int x4_2)] → x_w g 1 s H locs M_3 → fX11_deedsOf_L5 k0 a1 a2 n_4 M_3 x3_1 x4_2 = some (r, M') → W p l e (x_rm 0 0) s m args below meth c H locs 0 0 Q (F0 m 5 ls []) := by
    intro n_4
    induction n_4 with
    | zero =>
      intro H locs M_3 x3_1 x4_2 ls  hl hw hf
      rw [fX11_deedsOf_L5] at hf
      cases hf
    | succ n_4 ih_5 =>
      intro H locs M_3 x3_1 x4_2 ls  hl hw hf
      rw [fX11_deedsOf_L5] at hf
      refine lv_iload hx hb dX11_deedsOf_5 (lv_at hl 4 rfl) ?_
      refine lv_aload_n hx hb dX11_deedsOf_7 rfl (lv_at hl 0 rfl) ?_
      refine fg_X11_7 C hw h0 dX11_deedsOf_8 ?_
      have h_6 : x_is 1 (xr 1 k0 0) 12 := x_tm h0 (by decide) rfl
      refine lv_bipush (v := (19 : Int32)) hx hb dX11_deedsOf_11 (by decide) ?_
      obtain ⟨q_7, hf⟩ := x_gE hf
      refine x_ald C hw h_6 q_7 dX11_deedsOf_13 ?_
      refine lv_icmp_ge (tgt := 72) hx hb dX11_deedsOf_14 (by decide) (fun q_8 => ?_) (fun q_8 => ?_)
      · have hf := x_iP hf q_8
        refine lv_iload_n hx hb dX11_deedsOf_72 rfl (lv_at hl 3 rfl) ?_
        exact ret hf dX11_deedsOf_73 hw
      · have hf := x_iN hf q_8
        refine lv_iload_n hx hb dX11_deedsOf_17 rfl (lv_at hl 3 rfl) ?_
        refine lv_aload_n hx hb dX11_deedsOf_18 rfl (lv_at hl 0 rfl) ?_
        refine fg_X11_7 C hw h0 dX11_deedsOf_19 ?_
        refine lv_sipush (v := (642 : Int32)) hx hb dX11_deedsOf_22 (by decide) ?_
        refine lv_iconst (v := (5 : Int32)) hx hb dX11_deedsOf_25 (by decide) ?_
        refine lv_iload hx hb dX11_deedsOf_26 (lv_at hl 4 rfl) ?_
        refine lv_imul hx hb dX11_deedsOf_28 ?_
        refine lv_iadd hx hb dX11_deedsOf_29 ?_
        refine lv_iconst (v := (4 : Int32)) hx hb dX11_deedsOf_30 (by decide) ?_
        refine lv_iadd hx hb dX11_deedsOf_31 ?_
        obtain ⟨q_9, hf⟩ := x_gE hf
        refine x_ald C hw h_6 q_9 dX11_deedsOf_32 ?_
        refine lv_iload_n hx hb dX11_deedsOf_33 rfl (lv_at hl 1 rfl) ?_
        obtain ⟨k64_11, ek64_11, hf⟩ := x_jE hf
        have hk64_11 : ∀ (H : Heap) (locs : List Loc) (M_12 : xM) (z_10 : Int32) (ls : Array Slot) , lv_has ls 5 [(0, .ref (g.2.2.1 k0)), (1, .int a1), (2, .int a2), (4, .int x4_2)] → x_w g 1 s H locs M_12 → k64_11 M_12 z_10 = some (r, M') → W p l e (x_rm 0 0) s m args below meth c H locs 0 0 Q (F0 m 64 ls [.int z_10, .int x3_1]) := by
          intro H locs M_12 z_10 ls  hl hw hf
          rw [ek64_11] at hf
          refine lv_iadd hx hb dX11_deedsOf_64 ?_
          refine lv_topi (fun x3_13 ex3_13 => ?_)
          have hf := x_lE ex3_13 hf
          refine lv_istore_n (lv' := [(3, .int x3_13), (0, .ref (g.2.2.1 k0)), (1, .int a1), (2, .int a2), (4, .int x4_2)]) hx hb dX11_deedsOf_65 rfl hl (by decide) rfl (fun ls hl => ?_)
          obtain ⟨x4_14, ex4_14⟩ : ∃ z : Int32, z = (x4_2 + (1 : Int32)) := ⟨_, rfl⟩
          have hf := x_lE ex4_14 hf
          refine lv_iinc (v := x4_14) (lv' := [(4, .int x4_14), (3, .int x3_13), (0, .ref (g.2.2.1 k0)), (1, .int a1), (2, .int a2)]) hx hb dX11_deedsOf_66 hl (k := 4) rfl (by rw [ex4_14]; rfl) (by decide) rfl (fun ls hl => ?_)
          refine lv_goto (tgt := 5) hx hb dX11_deedsOf_69 (by decide) ?_
          exact ih_5 _ _ _ _ _ _ (lv_sub hl [2, 3, 4, 1, 0] rfl) hw hf
        obtain ⟨k63_15, ek63_15, hf⟩ := x_jE hf
        have hk63_15 : ∀ (H : Heap) (locs : List Loc) (M_16 : xM)  (ls : Array Slot) , lv_has ls 5 [(0, .ref (g.2.2.1 k0)), (1, .int a1), (2, .int a2), (4, .int x4_2)] → x_w g 1 s H locs M_16 → k63_15 M_16 = some (r, M') → W p l e (x_rm 0 0) s m args below meth c H locs 0 0 Q (F0 m 63 ls [.int x3_1]) := by
          intro H locs M_16  ls  hl hw hf
          rw [ek63_15] at hf
          refine lv_iconst (v := (0 : Int32)) hx hb dX11_deedsOf_63 (by decide) ?_
          exact hk64_11 _ _ _ _ _ (lv_sub hl [0, 1, 2, 3] rfl) hw hf
        refine lv_icmp_ne (tgt := 63) hx hb dX11_deedsOf_34 (by decide) (fun q_17 => ?_) (fun q_17 => ?_)
        · have hf := x_iN hf q_17
          exact hk63_15 _ _ _ _ (lv_sub hl [0, 1, 2, 4] rfl) hw hf
        · have hf := x_iP hf q_17
          refine lv_iload_n hx hb dX11_deedsOf_37 rfl (lv_at hl 2 rfl) ?_
          refine lv_iconst (v := (-1 : Int32)) hx hb dX11_deedsOf_38 (by decide) ?_
          obtain ⟨k59_18, ek59_18, hf⟩ := x_jE hf
          have hk59_18 : ∀ (H : Heap) (locs : List Loc) (M_19 : xM)  (ls : Array Slot) , lv_has ls 5 [(0, .ref (g.2.2.1 k0)), (1, .int a1), (2, .int a2), (4, .int x4_2)] → x_w g 1 s H locs M_19 → k59_18 M_19 = some (r, M') → W p l e (x_rm 0 0) s m args below meth c H locs 0 0 Q (F0 m 59 ls [.int x3_1]) := by
            intro H locs M_19  ls  hl hw hf
            rw [ek59_18] at hf
            refine lv_iconst (v := (1 : Int32)) hx hb dX11_deedsOf_59 (by decide) ?_
            refine lv_goto (tgt := 64) hx hb dX11_deedsOf_60 (by decide) ?_
            exact hk64_11 _ _ _ _ _ (lv_sub hl [0, 1, 2, 3] rfl) hw hf
          refine lv_icmp_eq (tgt := 59) hx hb dX11_deedsOf_39 (by decide) (fun q_20 => ?_) (fun q_20 => ?_)
          · have hf := x_iP hf q_20
            exact hk59_18 _ _ _ _ (lv_sub hl [0, 1, 2, 4] rfl) hw hf
          · have hf := x_iN hf q_20
            refine lv_aload_n hx hb dX11_deedsOf_42 rfl (lv_at hl 0 rfl) ?_
            refine fg_X11_7 C hw h0 dX11_deedsOf_43 ?_
            refine lv_sipush (v := (642 : Int32)) hx hb dX11_deedsOf_46 (by decide) ?_
            refine lv_iconst (v := (5 : Int32)) hx hb dX11_deedsOf_49 (by decide) ?_
            refine lv_iload hx hb dX11_deedsOf_50 (lv_at hl 4 rfl) ?_
            refine lv_imul hx hb dX11_deedsOf_52 ?_
            refine lv_iadd hx hb dX11_deedsOf_53 ?_
            obtain ⟨q_21, hf⟩ := x_gE hf
            refine x_ald C hw h_6 q_21 dX11_deedsOf_54 ?_
            refine lv_iload_n hx hb dX11_deedsOf_55 rfl (lv_at hl 2 rfl) ?_
            refine lv_icmp_ne (tgt := 63) hx hb dX11_deedsOf_56 (by decide) (fun q_22 => ?_) (fun q_22 => ?_)
            · have hf := x_iN hf q_22
              exact hk63_15 _ _ _ _ (lv_sub hl [0, 1, 2, 4] rfl) hw hf
            · have hf := x_iP hf q_22
              exact hk59_18 _ _ _ _ (lv_sub hl [0, 1, 2, 4] rfl) hw hf
  exact hL_23 _ _ _ _ _ _ _ (lv_sub hl [2, 3, 4, 1, 0] rfl) hw hf
def fX11_flatOf_L4 (k0 : Nat) (a1 : Int32) : Nat → xM → Int32 → Int32 → Option (Int32 × xM)
  | 0, _, _, _ => none
  | n_4 + 1, M_3, x2_1, x3_2 => if (4 : Int32) ≤ x3_2 then (some (x2_1, M_3)) else (x_b (fX11_deedsOf M_3 k0 a1 x3_2) fun v_9 M_7 => x_g ((24 : Int32) + x3_2) (xn 1 (xr 1 k0 0)) (x_l (x2_1 + (v_9 * (M_7 (xr 1 k0 0) ((24 : Int32) + x3_2).toNatClampNeg))) fun x2_12 => x_l (x3_2 + (1 : Int32)) fun x3_13 => fX11_flatOf_L4 k0 a1 n_4 M_7 x2_12 x3_13))
def fX11_flatOf (M : xM) (k0 : Nat) (a1 : Int32) : Option (Int32 × xM) := fX11_flatOf_L4 k0 a1 x_FU M (0 : Int32) (0 : Int32)
set_option maxRecDepth 100000 in
set_option maxHeartbeats 4000000 in
theorem mX11_flatOf (l : Launch) (g : xG) {k0 : Nat} {a1 : Int32} {r : Int32} {M' : xM} (h0 : x_is 1 k0 11) {M : xM} (hf : fX11_flatOf M k0 a1 = some (r, M')) : x_cI l g 1 yX11_flatOf cX11_flatOf 4 .int 1 24 [.ref (g.2.2.1 k0), .int a1] M (fun v N => v = r ∧ N = M') := by
  refine x_stI RX11 (by decide) rfl (Nat.le_of_ble_eq_true rfl) ?_
  intro p e s m args below meth c Q ls C hw ret hl
  obtain ⟨hx, hb, hml, hown, hB, -⟩ := id C
  have hl : lv_has ls 4 [(0, .ref (g.2.2.1 k0)), (1, .int a1)] := hl
  unfold fX11_flatOf at hf
  refine lv_iconst (v := (0 : Int32)) hx hb dX11_flatOf_0 (by decide) ?_
  refine lv_istore_n (lv' := [(2, .int (0 : Int32)), (0, .ref (g.2.2.1 k0)), (1, .int a1)]) hx hb dX11_flatOf_1 rfl hl (by decide) rfl (fun ls hl => ?_)
  refine lv_iconst (v := (0 : Int32)) hx hb dX11_flatOf_2 (by decide) ?_
  refine lv_istore_n (lv' := [(3, .int (0 : Int32)), (2, .int (0 : Int32)), (0, .ref (g.2.2.1 k0)), (1, .int a1)]) hx hb dX11_flatOf_3 rfl hl (by decide) rfl (fun ls hl => ?_)
  have hL_14 : ∀ (n_4 : Nat) (H : Heap) (locs : List Loc) (M_3 : xM) (x2_1 : Int32) (x3_2 : Int32) (ls : Array Slot) , lv_has ls 4 [(0, .ref (g.2.2.1 k0)), (1, .int a1), (2, .int x2_1), (3, .int x3_2)] → x_w g 1 s H locs M_3 → fX11_flatOf_L4 k0 a1 n_4 M_3 x2_1 x3_2 = some (r, M') → W p l e (x_rm 1 24) s m args below meth c H locs 0 0 Q (F0 m 4 ls []) := by
    intro n_4
    induction n_4 with
    | zero =>
      intro H locs M_3 x2_1 x3_2 ls  hl hw hf
      rw [fX11_flatOf_L4] at hf
      cases hf
    | succ n_4 ih_5 =>
      intro H locs M_3 x2_1 x3_2 ls  hl hw hf
      rw [fX11_flatOf_L4] at hf
      refine lv_iload_n hx hb dX11_flatOf_4 rfl (lv_at hl 3 rfl) ?_
      refine lv_iconst (v := (4 : Int32)) hx hb dX11_flatOf_5 (by decide) ?_
      refine lv_icmp_ge (tgt := 34) hx hb dX11_flatOf_6 (by decide) (fun q_6 => ?_) (fun q_6 => ?_)
      · have hf := x_iP hf q_6
        refine lv_iload_n hx hb dX11_flatOf_34 rfl (lv_at hl 2 rfl) ?_
        exact ret hf dX11_flatOf_35 hw
      · have hf := x_iN hf q_6
        refine lv_iload_n hx hb dX11_flatOf_9 rfl (lv_at hl 2 rfl) ?_
        refine lv_aload_n hx hb dX11_flatOf_10 rfl (lv_at hl 0 rfl) ?_
        refine lv_iload_n hx hb dX11_flatOf_11 rfl (lv_at hl 1 rfl) ?_
        refine lv_iload_n hx hb dX11_flatOf_12 rfl (lv_at hl 3 rfl) ?_
        obtain ⟨tv_9, tM_7, c_8, hf⟩ := x_bE hf
        refine x_vI C hw hl.1 [.int a1, .int x3_2] [.int x2_1] (mX11_deedsOf l g h0 c_8) lk_X11_213 h0 (by decide) rfl (by decide) rfl (Nat.le_of_ble_eq_true rfl) ⟨Nat.zero_le _, Nat.zero_le _⟩ dX11_flatOf_13 (fun v_9 M_7 H locs hN hw => ?_)
        obtain ⟨rfl, rfl⟩ := hN
        refine lv_aload_n hx hb dX11_flatOf_16 rfl (lv_at hl 0 rfl) ?_
        refine fg_X11_7 C hw h0 dX11_flatOf_17 ?_
        have h_10 : x_is 1 (xr 1 k0 0) 12 := x_tm h0 (by decide) rfl
        refine lv_bipush (v := (24 : Int32)) hx hb dX11_flatOf_20 (by decide) ?_
        refine lv_iload_n hx hb dX11_flatOf_22 rfl (lv_at hl 3 rfl) ?_
        refine lv_iadd hx hb dX11_flatOf_23 ?_
        obtain ⟨q_11, hf⟩ := x_gE hf
        refine x_ald C hw h_10 q_11 dX11_flatOf_24 ?_
        refine lv_imul hx hb dX11_flatOf_25 ?_
        refine lv_iadd hx hb dX11_flatOf_26 ?_
        refine lv_topi (fun x2_12 ex2_12 => ?_)
        have hf := x_lE ex2_12 hf
        refine lv_istore_n (lv' := [(2, .int x2_12), (0, .ref (g.2.2.1 k0)), (1, .int a1), (3, .int x3_2)]) hx hb dX11_flatOf_27 rfl hl (by decide) rfl (fun ls hl => ?_)
        obtain ⟨x3_13, ex3_13⟩ : ∃ z : Int32, z = (x3_2 + (1 : Int32)) := ⟨_, rfl⟩
        have hf := x_lE ex3_13 hf
        refine lv_iinc (v := x3_13) (lv' := [(3, .int x3_13), (2, .int x2_12), (0, .ref (g.2.2.1 k0)), (1, .int a1)]) hx hb dX11_flatOf_28 hl (k := 3) rfl (by rw [ex3_13]; rfl) (by decide) rfl (fun ls hl => ?_)
        refine lv_goto (tgt := 4) hx hb dX11_flatOf_31 (by decide) ?_
        exact ih_5 _ _ _ _ _ _ (lv_sub hl [2, 3, 1, 0] rfl) hw hf
  exact hL_14 _ _ _ _ _ _ _ (lv_sub hl [2, 3, 1, 0] rfl) hw hf
def fX11_share (M : xM) (k0 : Nat) (a1 : Int32) (a2 : Int32) : Option (Int32 × xM) := x_g ((792 : Int32) + ((10 : Int32) * a1)) (xn 1 (xr 1 k0 0)) (x_l (M (xr 1 k0 0) ((792 : Int32) + ((10 : Int32) * a1)).toNatClampNeg) fun x3_3 => x_g (((792 : Int32) + ((10 : Int32) * a1)) + (1 : Int32)) (xn 1 (xr 1 k0 0)) (x_l (M (xr 1 k0 0) (((792 : Int32) + ((10 : Int32) * a1)) + (1 : Int32)).toNatClampNeg) fun x4_5 => x_b (fX11_earns M k0 x3_3 x4_5 x4_5) fun v_8 M_6 => x_b (fX11_more M_6 (1 : Int32) v_8) fun v_11 M_9 => x_dL (v_11.toInt64) (x_l (((1000 : Int64) * (a2.toInt64)) / (v_11.toInt64)) fun x5_13 => if (lg_cmp x5_13 (9999999 : Int64)) ≤ 0 then (some ((x5_13.toInt32), M_9)) else (some ((9999999 : Int32), M_9)))))
set_option maxRecDepth 100000 in
set_option maxHeartbeats 4000000 in
theorem mX11_share (l : Launch) (g : xG) {k0 : Nat} {a1 : Int32} {a2 : Int32} {r : Int32} {M' : xM} (h0 : x_is 1 k0 11) {M : xM} (hf : fX11_share M k0 a1 a2 = some (r, M')) : x_cI l g 1 yX11_share cX11_share 7 .int 3 78 [.ref (g.2.2.1 k0), .int a1, .int a2] M (fun v N => v = r ∧ N = M') := by
  refine x_stI RX11 (by decide) rfl (Nat.le_of_ble_eq_true rfl) ?_
  intro p e s m args below meth c Q ls C hw ret hl
  obtain ⟨hx, hb, hml, hown, hB, -⟩ := id C
  have hl : lv_has ls 7 [(0, .ref (g.2.2.1 k0)), (1, .int a1), (2, .int a2)] := hl
  unfold fX11_share at hf
  refine lv_aload_n hx hb dX11_share_0 rfl (lv_at hl 0 rfl) ?_
  refine fg_X11_7 C hw h0 dX11_share_1 ?_
  have h_1 : x_is 1 (xr 1 k0 0) 12 := x_tm h0 (by decide) rfl
  refine lv_sipush (v := (792 : Int32)) hx hb dX11_share_4 (by decide) ?_
  refine lv_bipush (v := (10 : Int32)) hx hb dX11_share_7 (by decide) ?_
  refine lv_iload_n hx hb dX11_share_9 rfl (lv_at hl 1 rfl) ?_
  refine lv_imul hx hb dX11_share_10 ?_
  refine lv_iadd hx hb dX11_share_11 ?_
  obtain ⟨q_2, hf⟩ := x_gE hf
  refine x_ald C hw h_1 q_2 dX11_share_12 ?_
  refine lv_topi (fun x3_3 ex3_3 => ?_)
  have hf := x_lE ex3_3 hf
  refine lv_istore_n (lv' := [(3, .int x3_3), (0, .ref (g.2.2.1 k0)), (1, .int a1), (2, .int a2)]) hx hb dX11_share_13 rfl hl (by decide) rfl (fun ls hl => ?_)
  refine lv_aload_n hx hb dX11_share_14 rfl (lv_at hl 1 rfl) ?_
  refine fg_X11_7 C hw h0 dX11_share_15 ?_
  refine lv_sipush (v := (792 : Int32)) hx hb dX11_share_18 (by decide) ?_
  refine lv_bipush (v := (10 : Int32)) hx hb dX11_share_21 (by decide) ?_
  refine lv_iload_n hx hb dX11_share_23 rfl (lv_at hl 2 rfl) ?_
  refine lv_imul hx hb dX11_share_24 ?_
  refine lv_iadd hx hb dX11_share_25 ?_
  refine lv_iconst (v := (1 : Int32)) hx hb dX11_share_26 (by decide) ?_
  refine lv_iadd hx hb dX11_share_27 ?_
  obtain ⟨q_4, hf⟩ := x_gE hf
  refine x_ald C hw h_1 q_4 dX11_share_28 ?_
  refine lv_topi (fun x4_5 ex4_5 => ?_)
  have hf := x_lE ex4_5 hf
  refine lv_istore (lv' := [(4, .int x4_5), (3, .int x3_3), (0, .ref (g.2.2.1 k0)), (1, .int a1), (2, .int a2)]) hx hb dX11_share_29 hl (by decide) rfl (fun ls hl => ?_)
  refine lv_ldc2 hx hb hown (hB _ mkl_X11_216) dX11_share_31 ?_
  refine lv_iload_n hx hb dX11_share_34 rfl (lv_at hl 4 rfl) ?_
  refine lv_i2l hx hb dX11_share_35 rfl ?_
  refine lv_lmul hx hb dX11_share_36 ?_
  refine lv_iconst (v := (1 : Int32)) hx hb dX11_share_37 (by decide) ?_
  refine lv_aload_n hx hb dX11_share_38 rfl (lv_at hl 2 rfl) ?_
  refine lv_iload_n hx hb dX11_share_39 rfl (lv_at hl 1 rfl) ?_
  refine lv_iload hx hb dX11_share_40 (lv_at hl 0 rfl) ?_
  refine lv_iload hx hb dX11_share_42 (lv_at hl 0 rfl) ?_
  obtain ⟨tv_8, tM_6, c_7, hf⟩ := x_bE hf
  refine x_vI C hw hl.1 [.int x3_3, .int x4_5, .int x4_5] [.int (1 : Int32), .long ((1000 : Int64) * (a2.toInt64))] (mX11_earns l g h0 c_7) lk_X11_83 h0 (by decide) rfl (by decide) rfl (Nat.le_of_ble_eq_true rfl) ⟨Nat.zero_le _, Nat.zero_le _⟩ dX11_share_44 (fun v_8 M_6 H locs hN hw => ?_)
  obtain ⟨rfl, rfl⟩ := hN
  obtain ⟨tv_11, tM_9, c_10, hf⟩ := x_bE hf
  refine x_sI C hw hl.1 [.int (1 : Int32), .int v_8] [.long ((1000 : Int64) * (a2.toInt64))] (mX11_more l g c_10) lk_X11_75 (by decide) rfl (Nat.le_of_ble_eq_true rfl) ⟨Nat.zero_le _, Nat.zero_le _⟩ dX11_share_47 (fun v_11 M_9 H locs hN hw => ?_)
  obtain ⟨rfl, rfl⟩ := hN
  refine lv_i2l hx hb dX11_share_50 rfl ?_
  obtain ⟨q_12, hf⟩ := x_dLE hf
  refine lv_ldiv hx hb dX11_share_51 q_12 ?_
  refine lv_topl (fun x5_13 ex5_13 => ?_)
  have hf := x_lE ex5_13 hf
  refine lv_lstore (lv' := [(5, .long x5_13), (4, .int x4_5), (3, .int x3_3), (0, .ref (g.2.2.1 k0)), (1, .int a1), (2, .int a2)]) hx hb dX11_share_52 hl (by decide) rfl (fun ls hl => ?_)
  refine lv_lload hx hb dX11_share_54 (lv_at hl 0 rfl) ?_
  refine lv_ldc2 hx hb hown (hB _ mkl_X11_218) dX11_share_56 ?_
  refine W.lcmp hx hb dX11_share_59 ?_
  refine lv_if_le (tgt := 68) hx hb dX11_share_60 (by decide) (fun q_14 => ?_) (fun q_14 => ?_)
  · have hf := x_iP hf q_14
    refine lv_lload hx hb dX11_share_68 (lv_at hl 0 rfl) ?_
    refine lv_l2i hx hb dX11_share_70 rfl ?_
    exact ret hf dX11_share_71 hw
  · have hf := x_iN hf q_14
    refine lv_ldc hx hb hown (hB _ mk_X11_220) dX11_share_63 ?_
    refine lv_goto (tgt := 71) hx hb dX11_share_65 (by decide) ?_
    exact ret hf dX11_share_71 hw
def fX11_about (M : xM) (k0 : Nat) (a1 : Int32) (a2 : Int32) : Option (Int32 × xM) := x_b (fX11_isJudgment M k0 a1) fun v_3 M_1 => if v_3 = 0 then (some ((-1000000001 : Int32), M_1)) else (x_b (fX11_in M_1 a2 (0 : Int32) (13 : Int32)) fun v_7 M_5 => if v_7 = 0 then (some ((-1000000001 : Int32), M_5)) else (x_l ((792 : Int32) + ((10 : Int32) * a1)) fun x3_9 => if a2 = (0 : Int32) then (x_g x3_9 (xn 1 (xr 1 k0 0)) (some ((M_5 (xr 1 k0 0) x3_9.toNatClampNeg), M_5))) else (if a2 = (1 : Int32) then (x_g (x3_9 + (1 : Int32)) (xn 1 (xr 1 k0 0)) (some ((M_5 (xr 1 k0 0) (x3_9 + (1 : Int32)).toNatClampNeg), M_5))) else (if a2 = (2 : Int32) then (x_g (x3_9 + (2 : Int32)) (xn 1 (xr 1 k0 0)) (some ((M_5 (xr 1 k0 0) (x3_9 + (2 : Int32)).toNatClampNeg), M_5))) else (if a2 = (3 : Int32) then (x_g (x3_9 + (3 : Int32)) (xn 1 (xr 1 k0 0)) (some ((M_5 (xr 1 k0 0) (x3_9 + (3 : Int32)).toNatClampNeg), M_5))) else (if a2 = (4 : Int32) then (x_b (fX11_fine M_5 k0 a1) fun v_25 M_23 => some (v_25, M_23)) else (if a2 = (5 : Int32) then (x_g (x3_9 + (4 : Int32)) (xn 1 (xr 1 k0 0)) (some ((M_5 (xr 1 k0 0) (x3_9 + (4 : Int32)).toNatClampNeg), M_5))) else (if a2 = (6 : Int32) then (x_b (fX11_unpaid M_5 k0 a1) fun v_32 M_30 => some (v_32, M_30)) else (if a2 = (7 : Int32) then (x_b (fX11_unpaidDays M_5 k0 a1) fun v_36 M_34 => some (v_36, M_34)) else (if a2 = (8 : Int32) then (x_g (x3_9 + (5 : Int32)) (xn 1 (xr 1 k0 0)) (some ((M_5 (xr 1 k0 0) (x3_9 + (5 : Int32)).toNatClampNeg), M_5))) else (if a2 = (9 : Int32) then (x_g (x3_9 + (7 : Int32)) (xn 1 (xr 1 k0 0)) (some ((M_5 (xr 1 k0 0) (x3_9 + (7 : Int32)).toNatClampNeg), M_5))) else (if a2 = (10 : Int32) then (x_b (fX11_deedsOf M_5 k0 a1 (-1 : Int32)) fun v_46 M_44 => some (v_46, M_44)) else (if a2 = (11 : Int32) then (x_b (fX11_fine M_5 k0 a1) fun v_50 M_48 => x_b (fX11_share M_48 k0 a1 v_50) fun v_53 M_51 => some (v_53, M_51)) else (if a2 = (12 : Int32) then (x_b (fX11_flatOf M_5 k0 a1) fun v_57 M_55 => x_b (fX11_share M_55 k0 a1 v_57) fun v_60 M_58 => some (v_60, M_58)) else (x_g (x3_9 + (1 : Int32)) (xn 1 (xr 1 k0 0)) (x_g (13 : Int32) (xn 1 (xr 1 k0 0)) (some (((M_5 (xr 1 k0 0) (x3_9 + (1 : Int32)).toNatClampNeg) + (M_5 (xr 1 k0 0) (13 : Int32).toNatClampNeg)), M_5))))))))))))))))))
set_option maxRecDepth 100000 in
set_option maxHeartbeats 4000000 in
theorem mX11_about (l : Launch) (g : xG) {k0 : Nat} {a1 : Int32} {a2 : Int32} {r : Int32} {M' : xM} (h0 : x_is 1 k0 11) {M : xM} (hf : fX11_about M k0 a1 a2 = some (r, M')) : x_cI l g 1 yX11_about cX11_about 4 .int 4 104 [.ref (g.2.2.1 k0), .int a1, .int a2] M (fun v N => v = r ∧ N = M') := by
  refine x_stI RX11 (by decide) rfl (Nat.le_of_ble_eq_true rfl) ?_
  intro p e s m args below meth c Q ls C hw ret hl
  obtain ⟨hx, hb, hml, hown, hB, -⟩ := id C
  have hl : lv_has ls 4 [(0, .ref (g.2.2.1 k0)), (1, .int a1), (2, .int a2)] := hl
  unfold fX11_about at hf
  refine lv_aload_n hx hb dX11_about_0 rfl (lv_at hl 0 rfl) ?_
  refine lv_iload_n hx hb dX11_about_1 rfl (lv_at hl 1 rfl) ?_
  obtain ⟨tv_3, tM_1, c_2, hf⟩ := x_bE hf
  refine x_vI C hw hl.1 [.int a1] [] (mX11_isJudgment l g h0 c_2) lk_X11_221 h0 (by decide) rfl (by decide) rfl (Nat.le_of_ble_eq_true rfl) ⟨Nat.zero_le _, Nat.zero_le _⟩ dX11_about_2 (fun v_3 M_1 H locs hN hw => ?_)
  obtain ⟨rfl, rfl⟩ := hN
  refine lv_if_eq (tgt := 18) hx hb dX11_about_5 (by decide) (fun q_4 => ?_) (fun q_4 => ?_)
  · have hf := x_iP hf q_4
    refine lv_ldc hx hb hown (hB _ mk_X11_60) dX11_about_18 ?_
    exact ret hf dX11_about_20 hw
  · have hf := x_iN hf q_4
    refine lv_iload_n hx hb dX11_about_8 rfl (lv_at hl 2 rfl) ?_
    refine lv_iconst (v := (0 : Int32)) hx hb dX11_about_9 (by decide) ?_
    refine lv_bipush (v := (13 : Int32)) hx hb dX11_about_10 (by decide) ?_
    obtain ⟨tv_7, tM_5, c_6, hf⟩ := x_bE hf
    refine x_sI C hw hl.1 [.int a2, .int (0 : Int32), .int (13 : Int32)] [] (mX11_in l g c_6) lk_X11_56 (by decide) rfl (Nat.le_of_ble_eq_true rfl) ⟨Nat.zero_le _, Nat.zero_le _⟩ dX11_about_12 (fun v_7 M_5 H locs hN hw => ?_)
    obtain ⟨rfl, rfl⟩ := hN
    refine lv_if_ne (tgt := 21) hx hb dX11_about_15 (by decide) (fun q_8 => ?_) (fun q_8 => ?_)
    · have hf := x_iN hf q_8
      refine lv_sipush (v := (792 : Int32)) hx hb dX11_about_21 (by decide) ?_
      refine lv_bipush (v := (10 : Int32)) hx hb dX11_about_24 (by decide) ?_
      refine lv_iload_n hx hb dX11_about_26 rfl (lv_at hl 1 rfl) ?_
      refine lv_imul hx hb dX11_about_27 ?_
      refine lv_iadd hx hb dX11_about_28 ?_
      refine lv_topi (fun x3_9 ex3_9 => ?_)
      have hf := x_lE ex3_9 hf
      refine lv_istore_n (lv' := [(3, .int x3_9), (0, .ref (g.2.2.1 k0)), (1, .int a1), (2, .int a2)]) hx hb dX11_about_29 rfl hl (by decide) rfl (fun ls hl => ?_)
      refine lv_iload_n hx hb dX11_about_30 rfl (lv_at hl 3 rfl) ?_
      by_cases q_10 : a2 = (0 : Int32)
      · have hf := x_iP hf q_10
        refine lv_tableIn (off := 65) (tgt := 96) hx hb dX11_about_31 (by rw [q_10]; decide) (by rw [q_10]; decide) (by rw [q_10]; rfl) (by decide) ?_
        refine lv_aload_n hx hb dX11_about_96 rfl (lv_at hl 1 rfl) ?_
        refine fg_X11_7 C hw h0 dX11_about_97 ?_
        have h_11 : x_is 1 (xr 1 k0 0) 12 := x_tm h0 (by decide) rfl
        refine lv_iload_n hx hb dX11_about_100 rfl (lv_at hl 0 rfl) ?_
        obtain ⟨q_12, hf⟩ := x_gE hf
        refine x_ald C hw h_11 q_12 dX11_about_101 ?_
        exact ret hf dX11_about_102 hw
      have hf := x_iN hf q_10
      by_cases q_13 : a2 = (1 : Int32)
      · have hf := x_iP hf q_13
        refine lv_tableIn (off := 72) (tgt := 103) hx hb dX11_about_31 (by rw [q_13]; decide) (by rw [q_13]; decide) (by rw [q_13]; rfl) (by decide) ?_
        refine lv_aload_n hx hb dX11_about_103 rfl (lv_at hl 1 rfl) ?_
        refine fg_X11_7 C hw h0 dX11_about_104 ?_
        have h_14 : x_is 1 (xr 1 k0 0) 12 := x_tm h0 (by decide) rfl
        refine lv_iload_n hx hb dX11_about_107 rfl (lv_at hl 0 rfl) ?_
        refine lv_iconst (v := (1 : Int32)) hx hb dX11_about_108 (by decide) ?_
        refine lv_iadd hx hb dX11_about_109 ?_
        obtain ⟨q_15, hf⟩ := x_gE hf
        refine x_ald C hw h_14 q_15 dX11_about_110 ?_
        exact ret hf dX11_about_111 hw
      have hf := x_iN hf q_13
      by_cases q_16 : a2 = (2 : Int32)
      · have hf := x_iP hf q_16
        refine lv_tableIn (off := 81) (tgt := 112) hx hb dX11_about_31 (by rw [q_16]; decide) (by rw [q_16]; decide) (by rw [q_16]; rfl) (by decide) ?_
        refine lv_aload_n hx hb dX11_about_112 rfl (lv_at hl 1 rfl) ?_
        refine fg_X11_7 C hw h0 dX11_about_113 ?_
        have h_17 : x_is 1 (xr 1 k0 0) 12 := x_tm h0 (by decide) rfl
        refine lv_iload_n hx hb dX11_about_116 rfl (lv_at hl 0 rfl) ?_
        refine lv_iconst (v := (2 : Int32)) hx hb dX11_about_117 (by decide) ?_
        refine lv_iadd hx hb dX11_about_118 ?_
        obtain ⟨q_18, hf⟩ := x_gE hf
        refine x_ald C hw h_17 q_18 dX11_about_119 ?_
        exact ret hf dX11_about_120 hw
      have hf := x_iN hf q_16
      by_cases q_19 : a2 = (3 : Int32)
      · have hf := x_iP hf q_19
        refine lv_tableIn (off := 90) (tgt := 121) hx hb dX11_about_31 (by rw [q_19]; decide) (by rw [q_19]; decide) (by rw [q_19]; rfl) (by decide) ?_
        refine lv_aload_n hx hb dX11_about_121 rfl (lv_at hl 1 rfl) ?_
        refine fg_X11_7 C hw h0 dX11_about_122 ?_
        have h_20 : x_is 1 (xr 1 k0 0) 12 := x_tm h0 (by decide) rfl
        refine lv_iload_n hx hb dX11_about_125 rfl (lv_at hl 0 rfl) ?_
        refine lv_iconst (v := (3 : Int32)) hx hb dX11_about_126 (by decide) ?_
        refine lv_iadd hx hb dX11_about_127 ?_
        obtain ⟨q_21, hf⟩ := x_gE hf
        refine x_ald C hw h_20 q_21 dX11_about_128 ?_
        exact ret hf dX11_about_129 hw
      have hf := x_iN hf q_19
      by_cases q_22 : a2 = (4 : Int32)
      · have hf := x_iP hf q_22
        refine lv_tableIn (off := 99) (tgt := 130) hx hb dX11_about_31 (by rw [q_22]; decide) (by rw [q_22]; decide) (by rw [q_22]; rfl) (by decide) ?_
        refine lv_aload_n hx hb dX11_about_130 rfl (lv_at hl 1 rfl) ?_
        refine lv_iload_n hx hb dX11_about_131 rfl (lv_at hl 2 rfl) ?_
        obtain ⟨tv_25, tM_23, c_24, hf⟩ := x_bE hf
        refine x_vI C hw hl.1 [.int a1] [] (mX11_fine l g h0 c_24) lk_X11_207 h0 (by decide) rfl (by decide) rfl (Nat.le_of_ble_eq_true rfl) ⟨Nat.zero_le _, Nat.zero_le _⟩ dX11_about_132 (fun v_25 M_23 H locs hN hw => ?_)
        obtain ⟨rfl, rfl⟩ := hN
        exact ret hf dX11_about_135 hw
      have hf := x_iN hf q_22
      by_cases q_26 : a2 = (5 : Int32)
      · have hf := x_iP hf q_26
        refine lv_tableIn (off := 105) (tgt := 136) hx hb dX11_about_31 (by rw [q_26]; decide) (by rw [q_26]; decide) (by rw [q_26]; rfl) (by decide) ?_
        refine lv_aload_n hx hb dX11_about_136 rfl (lv_at hl 1 rfl) ?_
        refine fg_X11_7 C hw h0 dX11_about_137 ?_
        have h_27 : x_is 1 (xr 1 k0 0) 12 := x_tm h0 (by decide) rfl
        refine lv_iload_n hx hb dX11_about_140 rfl (lv_at hl 0 rfl) ?_
        refine lv_iconst (v := (4 : Int32)) hx hb dX11_about_141 (by decide) ?_
        refine lv_iadd hx hb dX11_about_142 ?_
        obtain ⟨q_28, hf⟩ := x_gE hf
        refine x_ald C hw h_27 q_28 dX11_about_143 ?_
        exact ret hf dX11_about_144 hw
      have hf := x_iN hf q_26
      by_cases q_29 : a2 = (6 : Int32)
      · have hf := x_iP hf q_29
        refine lv_tableIn (off := 114) (tgt := 145) hx hb dX11_about_31 (by rw [q_29]; decide) (by rw [q_29]; decide) (by rw [q_29]; rfl) (by decide) ?_
        refine lv_aload_n hx hb dX11_about_145 rfl (lv_at hl 1 rfl) ?_
        refine lv_iload_n hx hb dX11_about_146 rfl (lv_at hl 2 rfl) ?_
        obtain ⟨tv_32, tM_30, c_31, hf⟩ := x_bE hf
        refine x_vI C hw hl.1 [.int a1] [] (mX11_unpaid l g h0 c_31) lk_X11_210 h0 (by decide) rfl (by decide) rfl (Nat.le_of_ble_eq_true rfl) ⟨Nat.zero_le _, Nat.zero_le _⟩ dX11_about_147 (fun v_32 M_30 H locs hN hw => ?_)
        obtain ⟨rfl, rfl⟩ := hN
        exact ret hf dX11_about_150 hw
      have hf := x_iN hf q_29
      by_cases q_33 : a2 = (7 : Int32)
      · have hf := x_iP hf q_33
        refine lv_tableIn (off := 120) (tgt := 151) hx hb dX11_about_31 (by rw [q_33]; decide) (by rw [q_33]; decide) (by rw [q_33]; rfl) (by decide) ?_
        refine lv_aload_n hx hb dX11_about_151 rfl (lv_at hl 1 rfl) ?_
        refine lv_iload_n hx hb dX11_about_152 rfl (lv_at hl 2 rfl) ?_
        obtain ⟨tv_36, tM_34, c_35, hf⟩ := x_bE hf
        refine x_vI C hw hl.1 [.int a1] [] (mX11_unpaidDays l g h0 c_35) lk_X11_224 h0 (by decide) rfl (by decide) rfl (Nat.le_of_ble_eq_true rfl) ⟨Nat.zero_le _, Nat.zero_le _⟩ dX11_about_153 (fun v_36 M_34 H locs hN hw => ?_)
        obtain ⟨rfl, rfl⟩ := hN
        exact ret hf dX11_about_156 hw
      have hf := x_iN hf q_33
      by_cases q_37 : a2 = (8 : Int32)
      · have hf := x_iP hf q_37
        refine lv_tableIn (off := 126) (tgt := 157) hx hb dX11_about_31 (by rw [q_37]; decide) (by rw [q_37]; decide) (by rw [q_37]; rfl) (by decide) ?_
        refine lv_aload_n hx hb dX11_about_157 rfl (lv_at hl 1 rfl) ?_
        refine fg_X11_7 C hw h0 dX11_about_158 ?_
        have h_38 : x_is 1 (xr 1 k0 0) 12 := x_tm h0 (by decide) rfl
        refine lv_iload_n hx hb dX11_about_161 rfl (lv_at hl 0 rfl) ?_
        refine lv_iconst (v := (5 : Int32)) hx hb dX11_about_162 (by decide) ?_
        refine lv_iadd hx hb dX11_about_163 ?_
        obtain ⟨q_39, hf⟩ := x_gE hf
        refine x_ald C hw h_38 q_39 dX11_about_164 ?_
        exact ret hf dX11_about_165 hw
      have hf := x_iN hf q_37
      by_cases q_40 : a2 = (9 : Int32)
      · have hf := x_iP hf q_40
        refine lv_tableIn (off := 135) (tgt := 166) hx hb dX11_about_31 (by rw [q_40]; decide) (by rw [q_40]; decide) (by rw [q_40]; rfl) (by decide) ?_
        refine lv_aload_n hx hb dX11_about_166 rfl (lv_at hl 1 rfl) ?_
        refine fg_X11_7 C hw h0 dX11_about_167 ?_
        have h_41 : x_is 1 (xr 1 k0 0) 12 := x_tm h0 (by decide) rfl
        refine lv_iload_n hx hb dX11_about_170 rfl (lv_at hl 0 rfl) ?_
        refine lv_bipush (v := (7 : Int32)) hx hb dX11_about_171 (by decide) ?_
        refine lv_iadd hx hb dX11_about_173 ?_
        obtain ⟨q_42, hf⟩ := x_gE hf
        refine x_ald C hw h_41 q_42 dX11_about_174 ?_
        exact ret hf dX11_about_175 hw
      have hf := x_iN hf q_40
      by_cases q_43 : a2 = (10 : Int32)
      · have hf := x_iP hf q_43
        refine lv_tableIn (off := 145) (tgt := 176) hx hb dX11_about_31 (by rw [q_43]; decide) (by rw [q_43]; decide) (by rw [q_43]; rfl) (by decide) ?_
        refine lv_aload_n hx hb dX11_about_176 rfl (lv_at hl 1 rfl) ?_
        refine lv_iload_n hx hb dX11_about_177 rfl (lv_at hl 2 rfl) ?_
        refine lv_iconst (v := (-1 : Int32)) hx hb dX11_about_178 (by decide) ?_
        obtain ⟨tv_46, tM_44, c_45, hf⟩ := x_bE hf
        refine x_vI C hw hl.1 [.int a1, .int (-1 : Int32)] [] (mX11_deedsOf l g h0 c_45) lk_X11_213 h0 (by decide) rfl (by decide) rfl (Nat.le_of_ble_eq_true rfl) ⟨Nat.zero_le _, Nat.zero_le _⟩ dX11_about_179 (fun v_46 M_44 H locs hN hw => ?_)
        obtain ⟨rfl, rfl⟩ := hN
        exact ret hf dX11_about_182 hw
      have hf := x_iN hf q_43
      by_cases q_47 : a2 = (11 : Int32)
      · have hf := x_iP hf q_47
        refine lv_tableIn (off := 152) (tgt := 183) hx hb dX11_about_31 (by rw [q_47]; decide) (by rw [q_47]; decide) (by rw [q_47]; rfl) (by decide) ?_
        refine lv_aload_n hx hb dX11_about_183 rfl (lv_at hl 1 rfl) ?_
        refine lv_iload_n hx hb dX11_about_184 rfl (lv_at hl 2 rfl) ?_
        refine lv_aload_n hx hb dX11_about_185 rfl (lv_at hl 1 rfl) ?_
        refine lv_iload_n hx hb dX11_about_186 rfl (lv_at hl 2 rfl) ?_
        obtain ⟨tv_50, tM_48, c_49, hf⟩ := x_bE hf
        refine x_vI C hw hl.1 [.int a1] [.int a1, .ref (g.2.2.1 k0)] (mX11_fine l g h0 c_49) lk_X11_207 h0 (by decide) rfl (by decide) rfl (Nat.le_of_ble_eq_true rfl) ⟨Nat.zero_le _, Nat.zero_le _⟩ dX11_about_187 (fun v_50 M_48 H locs hN hw => ?_)
        obtain ⟨rfl, rfl⟩ := hN
        obtain ⟨tv_53, tM_51, c_52, hf⟩ := x_bE hf
        refine x_vI C hw hl.1 [.int a1, .int v_50] [] (mX11_share l g h0 c_52) lk_X11_227 h0 (by decide) rfl (by decide) rfl (Nat.le_of_ble_eq_true rfl) ⟨Nat.zero_le _, Nat.zero_le _⟩ dX11_about_190 (fun v_53 M_51 H locs hN hw => ?_)
        obtain ⟨rfl, rfl⟩ := hN
        exact ret hf dX11_about_193 hw
      have hf := x_iN hf q_47
      by_cases q_54 : a2 = (12 : Int32)
      · have hf := x_iP hf q_54
        refine lv_tableIn (off := 163) (tgt := 194) hx hb dX11_about_31 (by rw [q_54]; decide) (by rw [q_54]; decide) (by rw [q_54]; rfl) (by decide) ?_
        refine lv_aload_n hx hb dX11_about_194 rfl (lv_at hl 1 rfl) ?_
        refine lv_iload_n hx hb dX11_about_195 rfl (lv_at hl 2 rfl) ?_
        refine lv_aload_n hx hb dX11_about_196 rfl (lv_at hl 1 rfl) ?_
        refine lv_iload_n hx hb dX11_about_197 rfl (lv_at hl 2 rfl) ?_
        obtain ⟨tv_57, tM_55, c_56, hf⟩ := x_bE hf
        refine x_vI C hw hl.1 [.int a1] [.int a1, .ref (g.2.2.1 k0)] (mX11_flatOf l g h0 c_56) lk_X11_230 h0 (by decide) rfl (by decide) rfl (Nat.le_of_ble_eq_true rfl) ⟨Nat.zero_le _, Nat.zero_le _⟩ dX11_about_198 (fun v_57 M_55 H locs hN hw => ?_)
        obtain ⟨rfl, rfl⟩ := hN
        obtain ⟨tv_60, tM_58, c_59, hf⟩ := x_bE hf
        refine x_vI C hw hl.1 [.int a1, .int v_57] [] (mX11_share l g h0 c_59) lk_X11_227 h0 (by decide) rfl (by decide) rfl (Nat.le_of_ble_eq_true rfl) ⟨Nat.zero_le _, Nat.zero_le _⟩ dX11_about_201 (fun v_60 M_58 H locs hN hw => ?_)
        obtain ⟨rfl, rfl⟩ := hN
        exact ret hf dX11_about_204 hw
      have hf := x_iN hf q_54
      have tq_10 := lv_neT (a := 0) q_10 rfl
      have tq_13 := lv_neT (a := 1) q_13 rfl
      have tq_16 := lv_neT (a := 2) q_16 rfl
      have tq_19 := lv_neT (a := 3) q_19 rfl
      have tq_22 := lv_neT (a := 4) q_22 rfl
      have tq_26 := lv_neT (a := 5) q_26 rfl
      have tq_29 := lv_neT (a := 6) q_29 rfl
      have tq_33 := lv_neT (a := 7) q_33 rfl
      have tq_37 := lv_neT (a := 8) q_37 rfl
      have tq_40 := lv_neT (a := 9) q_40 rfl
      have tq_43 := lv_neT (a := 10) q_43 rfl
      have tq_47 := lv_neT (a := 11) q_47 rfl
      have tq_54 := lv_neT (a := 12) q_54 rfl
      refine lv_tableOut (tgt := 205) hx hb dX11_about_31 (by omega) (by decide) ?_
      refine lv_aload_n hx hb dX11_about_205 rfl (lv_at hl 1 rfl) ?_
      refine fg_X11_7 C hw h0 dX11_about_206 ?_
      have h_61 : x_is 1 (xr 1 k0 0) 12 := x_tm h0 (by decide) rfl
      refine lv_iload_n hx hb dX11_about_209 rfl (lv_at hl 0 rfl) ?_
      refine lv_iconst (v := (1 : Int32)) hx hb dX11_about_210 (by decide) ?_
      refine lv_iadd hx hb dX11_about_211 ?_
      obtain ⟨q_62, hf⟩ := x_gE hf
      refine x_ald C hw h_61 q_62 dX11_about_212 ?_
      refine lv_aload_n hx hb dX11_about_213 rfl (lv_at hl 1 rfl) ?_
      refine fg_X11_7 C hw h0 dX11_about_214 ?_
      refine lv_bipush (v := (13 : Int32)) hx hb dX11_about_217 (by decide) ?_
      obtain ⟨q_63, hf⟩ := x_gE hf
      refine x_ald C hw h_61 q_63 dX11_about_219 ?_
      refine lv_iadd hx hb dX11_about_220 ?_
      exact ret hf dX11_about_221 hw
    · have hf := x_iP hf q_8
      refine lv_ldc hx hb hown (hB _ mk_X11_60) dX11_about_18 ?_
      exact ret hf dX11_about_20 hw
def fX11_isTurned (M : xM) (k0 : Nat) (a1 : Int32) : Option (Int32 × xM) := x_g (((792 : Int32) + ((10 : Int32) * a1)) + (5 : Int32)) (xn 1 (xr 1 k0 0)) (if (M (xr 1 k0 0) (((792 : Int32) + ((10 : Int32) * a1)) + (5 : Int32)).toNatClampNeg) = (3 : Int32) then (x_z (1 : Int32) (some ((1 : Int32), M))) else (x_z (0 : Int32) (some ((0 : Int32), M))))
set_option maxRecDepth 100000 in
set_option maxHeartbeats 4000000 in
theorem mX11_isTurned (l : Launch) (g : xG) {k0 : Nat} {a1 : Int32} {r : Int32} {M' : xM} (h0 : x_is 1 k0 11) {M : xM} (hf : fX11_isTurned M k0 a1 = some (r, M')) : x_cI l g 1 yX11_isTurned cX11_isTurned 2 .boolean 0 0 [.ref (g.2.2.1 k0), .int a1] M (fun v N => v = r ∧ N = M') := by
  refine x_stZ RX11 (by decide) rfl (Nat.le_of_ble_eq_true rfl) ?_
  intro p e s m args below meth c Q ls C hw ret hl
  obtain ⟨hx, hb, hml, hown, hB, -⟩ := id C
  have hl : lv_has ls 2 [(0, .ref (g.2.2.1 k0)), (1, .int a1)] := hl
  unfold fX11_isTurned at hf
  refine lv_aload_n hx hb dX11_isTurned_0 rfl (lv_at hl 0 rfl) ?_
  refine fg_X11_7 C hw h0 dX11_isTurned_1 ?_
  have h_1 : x_is 1 (xr 1 k0 0) 12 := x_tm h0 (by decide) rfl
  refine lv_sipush (v := (792 : Int32)) hx hb dX11_isTurned_4 (by decide) ?_
  refine lv_bipush (v := (10 : Int32)) hx hb dX11_isTurned_7 (by decide) ?_
  refine lv_iload_n hx hb dX11_isTurned_9 rfl (lv_at hl 1 rfl) ?_
  refine lv_imul hx hb dX11_isTurned_10 ?_
  refine lv_iadd hx hb dX11_isTurned_11 ?_
  refine lv_iconst (v := (5 : Int32)) hx hb dX11_isTurned_12 (by decide) ?_
  refine lv_iadd hx hb dX11_isTurned_13 ?_
  obtain ⟨q_2, hf⟩ := x_gE hf
  refine x_ald C hw h_1 q_2 dX11_isTurned_14 ?_
  refine lv_iconst (v := (3 : Int32)) hx hb dX11_isTurned_15 (by decide) ?_
  refine lv_icmp_ne (tgt := 23) hx hb dX11_isTurned_16 (by decide) (fun q_3 => ?_) (fun q_3 => ?_)
  · have hf := x_iN hf q_3
    refine lv_iconst (v := (0 : Int32)) hx hb dX11_isTurned_23 (by decide) ?_
    exact ret hf dX11_isTurned_24 hw
  · have hf := x_iP hf q_3
    refine lv_iconst (v := (1 : Int32)) hx hb dX11_isTurned_19 (by decide) ?_
    refine lv_goto (tgt := 24) hx hb dX11_isTurned_20 (by decide) ?_
    exact ret hf dX11_isTurned_24 hw
def fX11_isLate (M : xM) (k0 : Nat) (a1 : Int32) (a2 : Int32) : Option (Int32 × xM) := x_g (0 : Int32) (xn 1 (xr 1 k0 0)) (x_g (((792 : Int32) + ((10 : Int32) * a1)) + (1 : Int32)) (xn 1 (xr 1 k0 0)) (if ((M (xr 1 k0 0) (0 : Int32).toNatClampNeg) - (M (xr 1 k0 0) (((792 : Int32) + ((10 : Int32) * a1)) + (1 : Int32)).toNatClampNeg)) ≤ a2 then (x_z (0 : Int32) (some ((0 : Int32), M))) else (x_z (1 : Int32) (some ((1 : Int32), M)))))
set_option maxRecDepth 100000 in
set_option maxHeartbeats 4000000 in
theorem mX11_isLate (l : Launch) (g : xG) {k0 : Nat} {a1 : Int32} {a2 : Int32} {r : Int32} {M' : xM} (h0 : x_is 1 k0 11) {M : xM} (hf : fX11_isLate M k0 a1 a2 = some (r, M')) : x_cI l g 1 yX11_isLate cX11_isLate 3 .boolean 0 0 [.ref (g.2.2.1 k0), .int a1, .int a2] M (fun v N => v = r ∧ N = M') := by
  refine x_stZ RX11 (by decide) rfl (Nat.le_of_ble_eq_true rfl) ?_
  intro p e s m args below meth c Q ls C hw ret hl
  obtain ⟨hx, hb, hml, hown, hB, -⟩ := id C
  have hl : lv_has ls 3 [(0, .ref (g.2.2.1 k0)), (1, .int a1), (2, .int a2)] := hl
  unfold fX11_isLate at hf
  refine lv_aload_n hx hb dX11_isLate_0 rfl (lv_at hl 0 rfl) ?_
  refine fg_X11_7 C hw h0 dX11_isLate_1 ?_
  have h_1 : x_is 1 (xr 1 k0 0) 12 := x_tm h0 (by decide) rfl
  refine lv_iconst (v := (0 : Int32)) hx hb dX11_isLate_4 (by decide) ?_
  obtain ⟨q_2, hf⟩ := x_gE hf
  refine x_ald C hw h_1 q_2 dX11_isLate_5 ?_
  refine lv_aload_n hx hb dX11_isLate_6 rfl (lv_at hl 0 rfl) ?_
  refine fg_X11_7 C hw h0 dX11_isLate_7 ?_
  refine lv_sipush (v := (792 : Int32)) hx hb dX11_isLate_10 (by decide) ?_
  refine lv_bipush (v := (10 : Int32)) hx hb dX11_isLate_13 (by decide) ?_
  refine lv_iload_n hx hb dX11_isLate_15 rfl (lv_at hl 1 rfl) ?_
  refine lv_imul hx hb dX11_isLate_16 ?_
  refine lv_iadd hx hb dX11_isLate_17 ?_
  refine lv_iconst (v := (1 : Int32)) hx hb dX11_isLate_18 (by decide) ?_
  refine lv_iadd hx hb dX11_isLate_19 ?_
  obtain ⟨q_3, hf⟩ := x_gE hf
  refine x_ald C hw h_1 q_3 dX11_isLate_20 ?_
  refine lv_isub hx hb dX11_isLate_21 ?_
  refine lv_iload_n hx hb dX11_isLate_22 rfl (lv_at hl 2 rfl) ?_
  refine lv_icmp_le (tgt := 30) hx hb dX11_isLate_23 (by decide) (fun q_4 => ?_) (fun q_4 => ?_)
  · have hf := x_iP hf q_4
    refine lv_iconst (v := (0 : Int32)) hx hb dX11_isLate_30 (by decide) ?_
    exact ret hf dX11_isLate_31 hw
  · have hf := x_iN hf q_4
    refine lv_iconst (v := (1 : Int32)) hx hb dX11_isLate_26 (by decide) ?_
    refine lv_goto (tgt := 31) hx hb dX11_isLate_27 (by decide) ?_
    exact ret hf dX11_isLate_31 hw
