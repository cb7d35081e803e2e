noncomputable def fX11_sumOf (M : xM) (a1 : Int32) (a2 : Int32) (a3 : Int32) : Option (Int32 × xM) := x_b (fX11_earns M a1 a2 a3) fun v_3 M_1 => x_l (x_up M_1 7 105 v_3) fun M_5 => x_b (fX11_whatOf M_5 a1 (1 : Int32) a2 a3) fun v_8 M_6 => x_l (x_up M_6 7 110 v_8) fun M_10 => x_b (fX11_whatOf M_10 a1 (2 : Int32) a2 a3) fun v_13 M_11 => x_l (x_up M_11 7 119 v_13) fun M_15 => x_b (fX11_whatOf M_15 a1 (3 : Int32) a2 a3) fun v_18 M_16 => x_l (x_up M_16 7 100 v_18) fun M_20 => x_g ((30 : Int32) + ((3 : Int32) * a1)) 1675 (x_l (fun (M_24 : xM) (z_22 : Int32) => x_l (x_up M_24 7 115 z_22) fun M_26 => x_b (fX11_isYoung M_26 a1) fun v_29 M_27 => x_l (fun (M_32 : xM) (z_30 : Int32) => x_l (x_up M_32 7 121 z_30) fun M_34 => x_b (fX11_worked M_34 (1 : Int32)) fun v_37 M_35 => x_b (fX11_more M_35 v_37 (M_35 1 7)) fun v_41 M_39 => x_b (fX11_less M_39 v_41 (M_39 1 8)) fun v_45 M_43 => some (v_45, M_43)) fun k105_31 => if v_29 = 0 then (k105_31 M_27 (0 : Int32)) else (k105_31 M_27 (1 : Int32))) fun k85_23 => if (M_20 1 ((30 : Int32) + ((3 : Int32) * a1)).toNatClampNeg) = (2 : Int32) then (k85_23 M_20 (1 : Int32)) else (k85_23 M_20 (0 : Int32)))
set_option maxRecDepth 100000 in
set_option maxHeartbeats 4000000 in
theorem mX11_sumOf (l : Launch) (g : xG) {a1 : Int32} {a2 : Int32} {a3 : Int32} {r : Int32} {M' : xM}  {M : xM} (hf : fX11_sumOf M a1 a2 a3 = some (r, M')) : x_cI l g 1 yX11_sumOf cX11_sumOf 4 .int 3 78 [.ref (g.2.2.1 0), .int a1, .int a2, .int a3] M (fun v N => v = r ∧ N = M') := by
  refine x_stI RX11 (by decide) rfl (Nat.le_of_ble_eq_true rfl) ?_
  intro p e s m args below meth c Q ls C hw ret hl
  obtain ⟨hx, hb, hml, hown, hB, -⟩ := id C
  have hl : lv_has ls 4 [(0, .ref (g.2.2.1 0)), (1, .int a1), (2, .int a2), (3, .int a3)] := hl
  unfold fX11_sumOf at hf
  refine lv_aload_n hx hb dX11_sumOf_0 rfl (lv_at hl 0 rfl) ?_
  refine fg_X11_28 (k2 := 7) C hw ic1_0 rfl dX11_sumOf_1 ?_
  refine lv_bipush (v := (105 : Int32)) hx hb dX11_sumOf_4 (by decide) ?_
  refine lv_aload_n hx hb dX11_sumOf_6 rfl (lv_at hl 0 rfl) ?_
  refine lv_iload_n hx hb dX11_sumOf_7 rfl (lv_at hl 1 rfl) ?_
  refine lv_iload_n hx hb dX11_sumOf_8 rfl (lv_at hl 2 rfl) ?_
  refine lv_iload_n hx hb dX11_sumOf_9 rfl (lv_at hl 3 rfl) ?_
  obtain ⟨tv_3, tM_1, c_2, hf⟩ := x_bE hf
  refine x_vI C hw hl.1 [.int a1, .int a2, .int a3] [.int (105 : Int32), .ref (g.2.2.1 7)] (mX11_earns l g c_2) lk_X11_83 ic1_0 (by decide) rfl (by decide) rfl (Nat.le_of_ble_eq_true rfl) ⟨Nat.zero_le _, Nat.zero_le _⟩ dX11_sumOf_10 (fun v_3 M_1 H locs hN hw => ?_)
  obtain ⟨rfl, rfl⟩ := hN
  refine x_ast (j := 105) C hw ic1_7 (x_inl rfl) rfl dX11_sumOf_13 (fun H locs hw => ?_)
  obtain ⟨M_5, eM_5⟩ : ∃ z, z = (x_up M_1 7 105 v_3) := ⟨_, rfl⟩
  rw [← eM_5] at hw
  have hf := x_lE eM_5 hf
  refine lv_aload_n hx hb dX11_sumOf_14 rfl (lv_at hl 0 rfl) ?_
  refine fg_X11_28 (k2 := 7) C hw ic1_0 rfl dX11_sumOf_15 ?_
  refine lv_bipush (v := (110 : Int32)) hx hb dX11_sumOf_18 (by decide) ?_
  refine lv_aload_n hx hb dX11_sumOf_20 rfl (lv_at hl 0 rfl) ?_
  refine lv_iload_n hx hb dX11_sumOf_21 rfl (lv_at hl 1 rfl) ?_
  refine lv_iconst (v := (1 : Int32)) hx hb dX11_sumOf_22 (by decide) ?_
  refine lv_iload_n hx hb dX11_sumOf_23 rfl (lv_at hl 2 rfl) ?_
  refine lv_iload_n hx hb dX11_sumOf_24 rfl (lv_at hl 3 rfl) ?_
  obtain ⟨tv_8, tM_6, c_7, hf⟩ := x_bE hf
  refine x_vI C hw hl.1 [.int a1, .int (1 : Int32), .int a2, .int a3] [.int (110 : Int32), .ref (g.2.2.1 7)] (mX11_whatOf l g c_7) lk_X11_71 ic1_0 (by decide) rfl (by decide) rfl (Nat.le_of_ble_eq_true rfl) ⟨Nat.zero_le _, Nat.zero_le _⟩ dX11_sumOf_25 (fun v_8 M_6 H locs hN hw => ?_)
  obtain ⟨rfl, rfl⟩ := hN
  refine x_ast (j := 110) C hw ic1_7 (x_inl rfl) rfl dX11_sumOf_28 (fun H locs hw => ?_)
  obtain ⟨M_10, eM_10⟩ : ∃ z, z = (x_up M_6 7 110 v_8) := ⟨_, rfl⟩
  rw [← eM_10] at hw
  have hf := x_lE eM_10 hf
  refine lv_aload_n hx hb dX11_sumOf_29 rfl (lv_at hl 0 rfl) ?_
  refine fg_X11_28 (k2 := 7) C hw ic1_0 rfl dX11_sumOf_30 ?_
  refine lv_bipush (v := (119 : Int32)) hx hb dX11_sumOf_33 (by decide) ?_
  refine lv_aload_n hx hb dX11_sumOf_35 rfl (lv_at hl 0 rfl) ?_
  refine lv_iload_n hx hb dX11_sumOf_36 rfl (lv_at hl 1 rfl) ?_
  refine lv_iconst (v := (2 : Int32)) hx hb dX11_sumOf_37 (by decide) ?_
  refine lv_iload_n hx hb dX11_sumOf_38 rfl (lv_at hl 2 rfl) ?_
  refine lv_iload_n hx hb dX11_sumOf_39 rfl (lv_at hl 3 rfl) ?_
  obtain ⟨tv_13, tM_11, c_12, hf⟩ := x_bE hf
  refine x_vI C hw hl.1 [.int a1, .int (2 : Int32), .int a2, .int a3] [.int (119 : Int32), .ref (g.2.2.1 7)] (mX11_whatOf l g c_12) lk_X11_71 ic1_0 (by decide) rfl (by decide) rfl (Nat.le_of_ble_eq_true rfl) ⟨Nat.zero_le _, Nat.zero_le _⟩ dX11_sumOf_40 (fun v_13 M_11 H locs hN hw => ?_)
  obtain ⟨rfl, rfl⟩ := hN
  refine x_ast (j := 119) C hw ic1_7 (x_inl rfl) rfl dX11_sumOf_43 (fun H locs hw => ?_)
  obtain ⟨M_15, eM_15⟩ : ∃ z, z = (x_up M_11 7 119 v_13) := ⟨_, rfl⟩
  rw [← eM_15] at hw
  have hf := x_lE eM_15 hf
  refine lv_aload_n hx hb dX11_sumOf_44 rfl (lv_at hl 0 rfl) ?_
  refine fg_X11_28 (k2 := 7) C hw ic1_0 rfl dX11_sumOf_45 ?_
  refine lv_bipush (v := (100 : Int32)) hx hb dX11_sumOf_48 (by decide) ?_
  refine lv_aload_n hx hb dX11_sumOf_50 rfl (lv_at hl 0 rfl) ?_
  refine lv_iload_n hx hb dX11_sumOf_51 rfl (lv_at hl 1 rfl) ?_
  refine lv_iconst (v := (3 : Int32)) hx hb dX11_sumOf_52 (by decide) ?_
  refine lv_iload_n hx hb dX11_sumOf_53 rfl (lv_at hl 2 rfl) ?_
  refine lv_iload_n hx hb dX11_sumOf_54 rfl (lv_at hl 3 rfl) ?_
  obtain ⟨tv_18, tM_16, c_17, hf⟩ := x_bE hf
  refine x_vI C hw hl.1 [.int a1, .int (3 : Int32), .int a2, .int a3] [.int (100 : Int32), .ref (g.2.2.1 7)] (mX11_whatOf l g c_17) lk_X11_71 ic1_0 (by decide) rfl (by decide) rfl (Nat.le_of_ble_eq_true rfl) ⟨Nat.zero_le _, Nat.zero_le _⟩ dX11_sumOf_55 (fun v_18 M_16 H locs hN hw => ?_)
  obtain ⟨rfl, rfl⟩ := hN
  refine x_ast (j := 100) C hw ic1_7 (x_inl rfl) rfl dX11_sumOf_58 (fun H locs hw => ?_)
  obtain ⟨M_20, eM_20⟩ : ∃ z, z = (x_up M_16 7 100 v_18) := ⟨_, rfl⟩
  rw [← eM_20] at hw
  have hf := x_lE eM_20 hf
  refine lv_aload_n hx hb dX11_sumOf_59 rfl (lv_at hl 0 rfl) ?_
  refine fg_X11_28 (k2 := 7) C hw ic1_0 rfl dX11_sumOf_60 ?_
  refine lv_bipush (v := (115 : Int32)) hx hb dX11_sumOf_63 (by decide) ?_
  refine lv_aload_n hx hb dX11_sumOf_65 rfl (lv_at hl 0 rfl) ?_
  refine fg_X11_7 (k2 := 1) C hw ic1_0 rfl dX11_sumOf_66 ?_
  refine lv_bipush (v := (30 : Int32)) hx hb dX11_sumOf_69 (by decide) ?_
  refine lv_iconst (v := (3 : Int32)) hx hb dX11_sumOf_71 (by decide) ?_
  refine lv_iload_n hx hb dX11_sumOf_72 rfl (lv_at hl 1 rfl) ?_
  refine lv_imul hx hb dX11_sumOf_73 ?_
  refine lv_iadd hx hb dX11_sumOf_74 ?_
  obtain ⟨q_21, hf⟩ := x_gE hf
  refine x_ald C hw ic1_1 q_21 rfl dX11_sumOf_75 ?_
  refine lv_iconst (v := (2 : Int32)) hx hb dX11_sumOf_76 (by decide) ?_
  obtain ⟨k85_23, ek85_23, hf⟩ := x_jE hf
  have hk85_23 : ∀ (H : Heap) (locs : List Loc) (M_24 : xM) (z_22 : Int32) (ls : Array Slot) , lv_has ls 4 [(0, .ref (g.2.2.1 0)), (1, .int a1)] → x_w g 1 s H locs M_24 → k85_23 M_24 z_22 = some (r, M') → W p l e (x_rm 3 78) s m args below meth c H locs 0 0 Q (F0 m 85 ls [.int z_22, .int (115 : Int32), .ref (g.2.2.1 7)]) := by
    intro H locs M_24 z_22 ls  hl hw hf
    rw [ek85_23] at hf
    refine x_ast (j := 115) C hw ic1_7 (x_inl rfl) rfl dX11_sumOf_85 (fun H locs hw => ?_)
    obtain ⟨M_26, eM_26⟩ : ∃ z, z = (x_up M_24 7 115 z_22) := ⟨_, rfl⟩
    rw [← eM_26] at hw
    have hf := x_lE eM_26 hf
    refine lv_aload_n hx hb dX11_sumOf_86 rfl (lv_at hl 0 rfl) ?_
    refine fg_X11_28 (k2 := 7) C hw ic1_0 rfl dX11_sumOf_87 ?_
    refine lv_bipush (v := (121 : Int32)) hx hb dX11_sumOf_90 (by decide) ?_
    refine lv_aload_n hx hb dX11_sumOf_92 rfl (lv_at hl 0 rfl) ?_
    refine lv_iload_n hx hb dX11_sumOf_93 rfl (lv_at hl 1 rfl) ?_
    obtain ⟨tv_29, tM_27, c_28, hf⟩ := x_bE hf
    refine x_vI C hw hl.1 [.int a1] [.int (121 : Int32), .ref (g.2.2.1 7)] (mX11_isYoung l g c_28) lk_X11_66 ic1_0 (by decide) rfl (by decide) rfl (Nat.le_of_ble_eq_true rfl) ⟨Nat.zero_le _, Nat.zero_le _⟩ dX11_sumOf_94 (fun v_29 M_27 H locs hN hw => ?_)
    obtain ⟨rfl, rfl⟩ := hN
    obtain ⟨k105_31, ek105_31, hf⟩ := x_jE hf
    have hk105_31 : ∀ (H : Heap) (locs : List Loc) (M_32 : xM) (z_30 : Int32) (ls : Array Slot) , lv_has ls 4 [(0, .ref (g.2.2.1 0))] → x_w g 1 s H locs M_32 → k105_31 M_32 z_30 = some (r, M') → W p l e (x_rm 3 78) s m args below meth c H locs 0 0 Q (F0 m 105 ls [.int z_30, .int (121 : Int32), .ref (g.2.2.1 7)]) := by
      intro H locs M_32 z_30 ls  hl hw hf
      rw [ek105_31] at hf
      refine x_ast (j := 121) C hw ic1_7 (x_inl rfl) rfl dX11_sumOf_105 (fun H locs hw => ?_)
      obtain ⟨M_34, eM_34⟩ : ∃ z, z = (x_up M_32 7 121 z_30) := ⟨_, rfl⟩
      rw [← eM_34] at hw
      have hf := x_lE eM_34 hf
      refine lv_aload_n hx hb dX11_sumOf_106 rfl (lv_at hl 0 rfl) ?_
      refine lv_iconst (v := (1 : Int32)) hx hb dX11_sumOf_107 (by decide) ?_
      obtain ⟨tv_37, tM_35, c_36, hf⟩ := x_bE hf
      refine x_vI C hw hl.1 [.int (1 : Int32)] [] (mX11_worked l g c_36) lk_X11_192 ic1_0 (by decide) rfl (by decide) rfl (Nat.le_of_ble_eq_true rfl) ⟨Nat.zero_le _, Nat.zero_le _⟩ dX11_sumOf_108 (fun v_37 M_35 H locs hN hw => ?_)
      obtain ⟨rfl, rfl⟩ := hN
      refine lv_aload_n hx hb dX11_sumOf_111 rfl (lv_at hl 0 rfl) ?_
      refine fg_X11_7 (k2 := 1) C hw ic1_0 rfl dX11_sumOf_112 ?_
      refine lv_bipush (v := (7 : Int32)) hx hb dX11_sumOf_115 (by decide) ?_
      refine x_ald (j := 7) C hw ic1_1 (x_inl rfl) rfl dX11_sumOf_117 ?_
      obtain ⟨tv_41, tM_39, c_40, hf⟩ := x_bE hf
      refine x_sI C hw hl.1 [.int v_37, .int (M_35 1 7)] [] (mX11_more l g c_40) lk_X11_75 (by decide) rfl (Nat.le_of_ble_eq_true rfl) ⟨Nat.zero_le _, Nat.zero_le _⟩ dX11_sumOf_118 (fun v_41 M_39 H locs hN hw => ?_)
      obtain ⟨rfl, rfl⟩ := hN
      refine lv_aload_n hx hb dX11_sumOf_121 rfl (lv_at hl 0 rfl) ?_
      refine fg_X11_7 (k2 := 1) C hw ic1_0 rfl dX11_sumOf_122 ?_
      refine lv_bipush (v := (8 : Int32)) hx hb dX11_sumOf_125 (by decide) ?_
      refine x_ald (j := 8) C hw ic1_1 (x_inl rfl) rfl dX11_sumOf_127 ?_
      obtain ⟨tv_45, tM_43, c_44, hf⟩ := x_bE hf
      refine x_sI C hw hl.1 [.int v_41, .int (M_39 1 8)] [] (mX11_less l g c_44) lk_X11_195 (by decide) rfl (Nat.le_of_ble_eq_true rfl) ⟨Nat.zero_le _, Nat.zero_le _⟩ dX11_sumOf_128 (fun v_45 M_43 H locs hN hw => ?_)
      obtain ⟨rfl, rfl⟩ := hN
      exact ret hf dX11_sumOf_131 hw
    refine lv_if_eq (tgt := 104) hx hb dX11_sumOf_97 (by decide) (fun q_46 => ?_) (fun q_46 => ?_)
    · have hf := x_iP hf q_46
      refine lv_iconst (v := (0 : Int32)) hx hb dX11_sumOf_104 (by decide) ?_
      exact hk105_31 _ _ _ _ _ (lv_sub hl [0] rfl) hw hf
    · have hf := x_iN hf q_46
      refine lv_iconst (v := (1 : Int32)) hx hb dX11_sumOf_100 (by decide) ?_
      refine lv_goto (tgt := 105) hx hb dX11_sumOf_101 (by decide) ?_
      exact hk105_31 _ _ _ _ _ (lv_sub hl [0] rfl) hw hf
  refine lv_icmp_ne (tgt := 84) hx hb dX11_sumOf_77 (by decide) (fun q_47 => ?_) (fun q_47 => ?_)
  · have hf := x_iN hf q_47
    refine lv_iconst (v := (0 : Int32)) hx hb dX11_sumOf_84 (by decide) ?_
    exact hk85_23 _ _ _ _ _ (lv_sub hl [0, 1] rfl) hw hf
  · have hf := x_iP hf q_47
    refine lv_iconst (v := (1 : Int32)) hx hb dX11_sumOf_80 (by decide) ?_
    refine lv_goto (tgt := 85) hx hb dX11_sumOf_81 (by decide) ?_
    exact hk85_23 _ _ _ _ _ (lv_sub hl [0, 1] rfl) hw hf
noncomputable def fX11_sum (M : xM) (a1 : Int32) (a2 : Int32) (a3 : Int32) : Option (Int32 × xM) := x_b (fX11_isPerson M a1) fun v_3 M_1 => if v_3 = 0 then (some ((-1000000001 : Int32), M_1)) else (x_b (fX11_in M_1 a2 (0 : Int32) (3000 : Int32)) fun v_7 M_5 => if v_7 = 0 then (some ((-1000000001 : Int32), M_5)) else (x_b (fX11_in M_5 a3 (0 : Int32) (M_5 1 0)) fun v_12 M_10 => if v_12 = 0 then (some ((-1000000001 : Int32), M_10)) else (if (M_10 1 21) = 0 then (some ((-1000000002 : Int32), M_10)) else (x_b (fX11_sumOf M_10 a1 a2 a3) fun v_18 M_16 => some (v_18, M_16)))))
set_option maxRecDepth 100000 in
set_option maxHeartbeats 4000000 in
theorem mX11_sum (l : Launch) (g : xG) {a1 : Int32} {a2 : Int32} {a3 : Int32} {r : Int32} {M' : xM}  {M : xM} (hf : fX11_sum M a1 a2 a3 = some (r, M')) : x_cI l g 1 yX11_sum cX11_sum 4 .int 4 101 [.ref (g.2.2.1 0), .int a1, .int a2, .int a3] M (fun v N => v = r ∧ N = M') := by
  refine x_stI RX11 (by decide) rfl (Nat.le_of_ble_eq_true rfl) ?_
  intro p e s m args below meth c Q ls C hw ret hl
  obtain ⟨hx, hb, hml, hown, hB, -⟩ := id C
  have hl : lv_has ls 4 [(0, .ref (g.2.2.1 0)), (1, .int a1), (2, .int a2), (3, .int a3)] := hl
  unfold fX11_sum at hf
  refine lv_aload_n hx hb dX11_sum_0 rfl (lv_at hl 0 rfl) ?_
  refine lv_iload_n hx hb dX11_sum_1 rfl (lv_at hl 1 rfl) ?_
  obtain ⟨tv_3, tM_1, c_2, hf⟩ := x_bE hf
  refine x_vI C hw hl.1 [.int a1] [] (mX11_isPerson l g c_2) lk_X11_62 ic1_0 (by decide) rfl (by decide) rfl (Nat.le_of_ble_eq_true rfl) ⟨Nat.zero_le _, Nat.zero_le _⟩ dX11_sum_2 (fun v_3 M_1 H locs hN hw => ?_)
  obtain ⟨rfl, rfl⟩ := hN
  refine lv_if_eq (tgt := 33) hx hb dX11_sum_5 (by decide) (fun q_4 => ?_) (fun q_4 => ?_)
  · have hf := x_iP hf q_4
    refine lv_ldc hx hb hown (hB _ mk_X11_60) dX11_sum_33 ?_
    exact ret hf dX11_sum_35 hw
  · have hf := x_iN hf q_4
    refine lv_iload_n hx hb dX11_sum_8 rfl (lv_at hl 2 rfl) ?_
    refine lv_iconst (v := (0 : Int32)) hx hb dX11_sum_9 (by decide) ?_
    refine lv_sipush (v := (3000 : Int32)) hx hb dX11_sum_10 (by decide) ?_
    obtain ⟨tv_7, tM_5, c_6, hf⟩ := x_bE hf
    refine x_sI C hw hl.1 [.int a2, .int (0 : Int32), .int (3000 : Int32)] [] (mX11_in l g c_6) lk_X11_56 (by decide) rfl (Nat.le_of_ble_eq_true rfl) ⟨Nat.zero_le _, Nat.zero_le _⟩ dX11_sum_13 (fun v_7 M_5 H locs hN hw => ?_)
    obtain ⟨rfl, rfl⟩ := hN
    refine lv_if_eq (tgt := 33) hx hb dX11_sum_16 (by decide) (fun q_8 => ?_) (fun q_8 => ?_)
    · have hf := x_iP hf q_8
      refine lv_ldc hx hb hown (hB _ mk_X11_60) dX11_sum_33 ?_
      exact ret hf dX11_sum_35 hw
    · have hf := x_iN hf q_8
      refine lv_iload_n hx hb dX11_sum_19 rfl (lv_at hl 3 rfl) ?_
      refine lv_iconst (v := (0 : Int32)) hx hb dX11_sum_20 (by decide) ?_
      refine lv_aload_n hx hb dX11_sum_21 rfl (lv_at hl 0 rfl) ?_
      refine fg_X11_7 (k2 := 1) C hw ic1_0 rfl dX11_sum_22 ?_
      refine lv_iconst (v := (0 : Int32)) hx hb dX11_sum_25 (by decide) ?_
      refine x_ald (j := 0) C hw ic1_1 (x_inl rfl) rfl dX11_sum_26 ?_
      obtain ⟨tv_12, tM_10, c_11, hf⟩ := x_bE hf
      refine x_sI C hw hl.1 [.int a3, .int (0 : Int32), .int (M_5 1 0)] [] (mX11_in l g c_11) lk_X11_56 (by decide) rfl (Nat.le_of_ble_eq_true rfl) ⟨Nat.zero_le _, Nat.zero_le _⟩ dX11_sum_27 (fun v_12 M_10 H locs hN hw => ?_)
      obtain ⟨rfl, rfl⟩ := hN
      refine lv_if_ne (tgt := 36) hx hb dX11_sum_30 (by decide) (fun q_13 => ?_) (fun q_13 => ?_)
      · have hf := x_iN hf q_13
        refine lv_aload_n hx hb dX11_sum_36 rfl (lv_at hl 0 rfl) ?_
        refine fg_X11_7 (k2 := 1) C hw ic1_0 rfl dX11_sum_37 ?_
        refine lv_bipush (v := (21 : Int32)) hx hb dX11_sum_40 (by decide) ?_
        refine x_ald (j := 21) C hw ic1_1 (x_inl rfl) rfl dX11_sum_42 ?_
        refine lv_if_ne (tgt := 51) hx hb dX11_sum_43 (by decide) (fun q_15 => ?_) (fun q_15 => ?_)
        · have hf := x_iN hf q_15
          refine lv_aload_n hx hb dX11_sum_51 rfl (lv_at hl 0 rfl) ?_
          refine lv_iload_n hx hb dX11_sum_52 rfl (lv_at hl 1 rfl) ?_
          refine lv_iload_n hx hb dX11_sum_53 rfl (lv_at hl 2 rfl) ?_
          refine lv_iload_n hx hb dX11_sum_54 rfl (lv_at hl 3 rfl) ?_
          obtain ⟨tv_18, tM_16, c_17, hf⟩ := x_bE hf
          refine x_vI C hw hl.1 [.int a1, .int a2, .int a3] [] (mX11_sumOf l g c_17) lk_X11_201 ic1_0 (by decide) rfl (by decide) rfl (Nat.le_of_ble_eq_true rfl) ⟨Nat.zero_le _, Nat.zero_le _⟩ dX11_sum_55 (fun v_18 M_16 H locs hN hw => ?_)
          obtain ⟨rfl, rfl⟩ := hN
          exact ret hf dX11_sum_58 hw
        · have hf := x_iP hf q_15
          refine lv_ldc hx hb hown (hB _ mk_X11_69) dX11_sum_46 ?_
          refine lv_goto (tgt := 58) hx hb dX11_sum_48 (by decide) ?_
          exact ret hf dX11_sum_58 hw
      · have hf := x_iP hf q_13
        refine lv_ldc hx hb hown (hB _ mk_X11_60) dX11_sum_33 ?_
        exact ret hf dX11_sum_35 hw
noncomputable def fX11_joined_L118 (a1 : Int32) (x3_2 : Int32) (k204_7 : xM → Int32 → Option (Int32 × xM)) : Nat → xM → Int32 → Int32 → Option (Int32 × xM)
  | 0, _, _, _ => none
  | n_16 + 1, M_15, x4_13, x5_14 => if (M_15 1 19) ≤ x5_14 then (k204_7 M_15 x4_13) else (x_g (((642 : Int32) + ((5 : Int32) * x5_14)) + (1 : Int32)) 1675 (x_l (fun (M_23 : xM) (x4_21 : Int32) => x_l (x5_14 + (1 : Int32)) fun x5_24 => fX11_joined_L118 a1 x3_2 k204_7 n_16 M_23 x4_21 x5_24) fun k198_22 => if (M_15 1 (((642 : Int32) + ((5 : Int32) * x5_14)) + (1 : Int32)).toNatClampNeg) = a1 then (x_g (((642 : Int32) + ((5 : Int32) * x5_14)) + (4 : Int32)) 1675 (if (M_15 1 (((642 : Int32) + ((5 : Int32) * x5_14)) + (4 : Int32)).toNatClampNeg) = (-1 : Int32) then (if x5_14 = x3_2 then (k198_22 M_15 x4_13) else (x_b (fX11_worthOf M_15 x5_14) fun v_31 M_29 => x_l (x4_13 + ((v_31 * (M_29 1 5)) / (100 : Int32))) fun x4_34 => k198_22 M_29 x4_34)) else (k198_22 M_15 x4_13))) else (k198_22 M_15 x4_13)))
noncomputable def fX11_joined_L7 (a1 : Int32) (k105_3 : xM → Int32 → Int32 → Option (Int32 × xM)) : Nat → xM → Int32 → Int32 → Int32 → Option (Int32 × xM)
  | 0, _, _, _, _ => none
  | n_40 + 1, M_39, x2_36, x3_37, x4_38 => if (M_39 1 19) ≤ x4_38 then (k105_3 M_39 x2_36 x3_37) else (x_g (((642 : Int32) + ((5 : Int32) * x4_38)) + (1 : Int32)) 1675 (x_l (fun (M_48 : xM) (x2_45 : Int32) (x3_46 : Int32) => x_l (x4_38 + (1 : Int32)) fun x4_49 => fX11_joined_L7 a1 k105_3 n_40 M_48 x2_45 x3_46 x4_49) fun k99_47 => if (M_39 1 (((642 : Int32) + ((5 : Int32) * x4_38)) + (1 : Int32)).toNatClampNeg) = a1 then (x_g (((642 : Int32) + ((5 : Int32) * x4_38)) + (4 : Int32)) 1675 (if (M_39 1 (((642 : Int32) + ((5 : Int32) * x4_38)) + (4 : Int32)).toNatClampNeg) = (-1 : Int32) then (x_b (fX11_worthOf M_39 x4_38) fun v_55 M_53 => x_l (fun (M_58 : xM) (z_56 : Int32) => x_l (fun (M_61 : xM) (z_59 : Int32) => k99_47 M_61 z_59 z_56) fun k98_60 => if z_56 = x4_38 then (k98_60 M_58 v_55) else (k98_60 M_58 x2_36)) fun k85_57 => x_l (fun (M_64 : xM) => k85_57 M_64 x4_38) fun k79_63 => if x3_37 = (-1 : Int32) then (k79_63 M_53) else (if v_55 ≤ x2_36 then (k85_57 M_53 x3_37) else (k79_63 M_53))) else (k99_47 M_39 x2_36 x3_37))) else (k99_47 M_39 x2_36 x3_37)))
noncomputable def fX11_joined (M : xM) (a1 : Int32) : Option (Int32 × xM) := x_l (fun (M_4 : xM) (x2_1 : Int32) (x3_2 : Int32) => if x3_2 = (-1 : Int32) then (some ((-1 : Int32), M_4)) else (x_l (fun (M_8 : xM) (x4_6 : Int32) => x_b (fX11_less M_8 x4_6 (M_8 1 6)) fun v_12 M_10 => some (v_12, M_10)) fun k204_7 => fX11_joined_L118 a1 x3_2 k204_7 x_FU M_4 x2_1 (0 : Int32))) fun k105_3 => fX11_joined_L7 a1 k105_3 x_FU M (0 : Int32) (-1 : Int32) (0 : Int32)
set_option maxRecDepth 100000 in
set_option maxHeartbeats 4000000 in
theorem mX11_joined (l : Launch) (g : xG) {a1 : Int32} {r : Int32} {M' : xM}  {M : xM} (hf : fX11_joined M a1 = some (r, M')) : x_cI l g 1 yX11_joined cX11_joined 6 .int 3 70 [.ref (g.2.2.1 0), .int a1] M (fun v N => v = r ∧ N = M') := by
  refine x_stI RX11 (by decide) rfl (Nat.le_of_ble_eq_true rfl) ?_
  intro p e s m args below meth c Q ls C hw ret hl
  obtain ⟨hx, hb, hml, hown, hB, -⟩ := id C
  have hl : lv_has ls 6 [(0, .ref (g.2.2.1 0)), (1, .int a1)] := hl
  unfold fX11_joined at hf
  refine lv_iconst (v := (0 : Int32)) hx hb dX11_joined_0 (by decide) ?_
  refine lv_istore_n (lv' := [(2, .int (0 : Int32)), (0, .ref (g.2.2.1 0)), (1, .int a1)]) hx hb dX11_joined_1 rfl hl (by decide) rfl (fun ls hl => ?_)
  refine lv_iconst (v := (-1 : Int32)) hx hb dX11_joined_2 (by decide) ?_
  refine lv_istore_n (lv' := [(3, .int (-1 : Int32)), (2, .int (0 : Int32)), (0, .ref (g.2.2.1 0)), (1, .int a1)]) hx hb dX11_joined_3 rfl hl (by decide) rfl (fun ls hl => ?_)
  refine lv_iconst (v := (0 : Int32)) hx hb dX11_joined_4 (by decide) ?_
  refine lv_istore (lv' := [(4, .int (0 : Int32)), (3, .int (-1 : Int32)), (2, .int (0 : Int32)), (0, .ref (g.2.2.1 0)), (1, .int a1)]) hx hb dX11_joined_5 hl (by decide) rfl (fun ls hl => ?_)
  obtain ⟨k105_3, ek105_3, hf⟩ := x_jE hf
  have hk105_3 : ∀ (H : Heap) (locs : List Loc) (M_4 : xM) (x2_1 : Int32) (x3_2 : Int32) (ls : Array Slot) , lv_has ls 6 [(0, .ref (g.2.2.1 0)), (1, .int a1), (2, .int x2_1), (3, .int x3_2)] → x_w g 1 s H locs M_4 → k105_3 M_4 x2_1 x3_2 = some (r, M') → W p l e (x_rm 3 70) s m args below meth c H locs 0 0 Q (F0 m 105 ls []) := by
    intro H locs M_4 x2_1 x3_2 ls  hl hw hf
    rw [ek105_3] at hf
    refine lv_iload_n hx hb dX11_joined_105 rfl (lv_at hl 3 rfl) ?_
    refine lv_iconst (v := (-1 : Int32)) hx hb dX11_joined_106 (by decide) ?_
    refine lv_icmp_ne (tgt := 112) hx hb dX11_joined_107 (by decide) (fun q_5 => ?_) (fun q_5 => ?_)
    · have hf := x_iN hf q_5
      refine lv_iload_n hx hb dX11_joined_112 rfl (lv_at hl 2 rfl) ?_
      refine lv_istore (lv' := [(4, .int x2_1), (0, .ref (g.2.2.1 0)), (1, .int a1), (2, .int x2_1), (3, .int x3_2)]) hx hb dX11_joined_113 hl (by decide) rfl (fun ls hl => ?_)
      refine lv_iconst (v := (0 : Int32)) hx hb dX11_joined_115 (by decide) ?_
      refine lv_istore (lv' := [(5, .int (0 : Int32)), (4, .int x2_1), (0, .ref (g.2.2.1 0)), (1, .int a1), (2, .int x2_1), (3, .int x3_2)]) hx hb dX11_joined_116 hl (by decide) rfl (fun ls hl => ?_)
      obtain ⟨k204_7, ek204_7, hf⟩ := x_jE hf
      have hk204_7 : ∀ (H : Heap) (locs : List Loc) (M_8 : xM) (x4_6 : Int32) (ls : Array Slot) , lv_has ls 6 [(0, .ref (g.2.2.1 0)), (4, .int x4_6)] → x_w g 1 s H locs M_8 → k204_7 M_8 x4_6 = some (r, M') → W p l e (x_rm 3 70) s m args below meth c H locs 0 0 Q (F0 m 204 ls []) := by
        intro H locs M_8 x4_6 ls  hl hw hf
        rw [ek204_7] at hf
        refine lv_iload hx hb dX11_joined_204 (lv_at hl 1 rfl) ?_
        refine lv_aload_n hx hb dX11_joined_206 rfl (lv_at hl 0 rfl) ?_
        refine fg_X11_7 (k2 := 1) C hw ic1_0 rfl dX11_joined_207 ?_
        refine lv_bipush (v := (6 : Int32)) hx hb dX11_joined_210 (by decide) ?_
        refine x_ald (j := 6) C hw ic1_1 (x_inl rfl) rfl dX11_joined_212 ?_
        obtain ⟨tv_12, tM_10, c_11, hf⟩ := x_bE hf
        refine x_sI C hw hl.1 [.int x4_6, .int (M_8 1 6)] [] (mX11_less l g c_11) lk_X11_195 (by decide) rfl (Nat.le_of_ble_eq_true rfl) ⟨Nat.zero_le _, Nat.zero_le _⟩ dX11_joined_213 (fun v_12 M_10 H locs hN hw => ?_)
        obtain ⟨rfl, rfl⟩ := hN
        exact ret hf dX11_joined_216 hw
      have hL_35 : ∀ (n_16 : Nat) (H : Heap) (locs : List Loc) (M_15 : xM) (x4_13 : Int32) (x5_14 : Int32) (ls : Array Slot) , lv_has ls 6 [(0, .ref (g.2.2.1 0)), (1, .int a1), (3, .int x3_2), (4, .int x4_13), (5, .int x5_14)] → x_w g 1 s H locs M_15 → fX11_joined_L118 a1 x3_2 k204_7 n_16 M_15 x4_13 x5_14 = some (r, M') → W p l e (x_rm 3 70) s m args below meth c H locs 0 0 Q (F0 m 118 ls []) := by
        intro n_16
        induction n_16 with
        | zero =>
          intro H locs M_15 x4_13 x5_14 ls  hl hw hf
          rw [fX11_joined_L118] at hf
          cases hf
        | succ n_16 ih_17 =>
          intro H locs M_15 x4_13 x5_14 ls  hl hw hf
          rw [fX11_joined_L118] at hf
          refine lv_iload hx hb dX11_joined_118 (lv_at hl 4 rfl) ?_
          refine lv_aload_n hx hb dX11_joined_120 rfl (lv_at hl 0 rfl) ?_
          refine fg_X11_7 (k2 := 1) C hw ic1_0 rfl dX11_joined_121 ?_
          refine lv_bipush (v := (19 : Int32)) hx hb dX11_joined_124 (by decide) ?_
          refine x_ald (j := 19) C hw ic1_1 (x_inl rfl) rfl dX11_joined_126 ?_
          refine lv_icmp_ge (tgt := 204) hx hb dX11_joined_127 (by decide) (fun q_19 => ?_) (fun q_19 => ?_)
          · have hf := x_iP hf q_19
            exact hk204_7 _ _ _ _ _ (lv_sub hl [0, 3] rfl) hw hf
          · have hf := x_iN hf q_19
            refine lv_aload_n hx hb dX11_joined_130 rfl (lv_at hl 0 rfl) ?_
            refine fg_X11_7 (k2 := 1) C hw ic1_0 rfl dX11_joined_131 ?_
            refine lv_sipush (v := (642 : Int32)) hx hb dX11_joined_134 (by decide) ?_
            refine lv_iconst (v := (5 : Int32)) hx hb dX11_joined_137 (by decide) ?_
            refine lv_iload hx hb dX11_joined_138 (lv_at hl 4 rfl) ?_
            refine lv_imul hx hb dX11_joined_140 ?_
            refine lv_iadd hx hb dX11_joined_141 ?_
            refine lv_iconst (v := (1 : Int32)) hx hb dX11_joined_142 (by decide) ?_
            refine lv_iadd hx hb dX11_joined_143 ?_
            obtain ⟨q_20, hf⟩ := x_gE hf
            refine x_ald C hw ic1_1 q_20 rfl dX11_joined_144 ?_
            refine lv_iload_n hx hb dX11_joined_145 rfl (lv_at hl 1 rfl) ?_
            obtain ⟨k198_22, ek198_22, hf⟩ := x_jE hf
            have hk198_22 : ∀ (H : Heap) (locs : List Loc) (M_23 : xM) (x4_21 : Int32) (ls : Array Slot) , lv_has ls 6 [(0, .ref (g.2.2.1 0)), (1, .int a1), (3, .int x3_2), (5, .int x5_14), (4, .int x4_21)] → x_w g 1 s H locs M_23 → k198_22 M_23 x4_21 = some (r, M') → W p l e (x_rm 3 70) s m args below meth c H locs 0 0 Q (F0 m 198 ls []) := by
              intro H locs M_23 x4_21 ls  hl hw hf
              rw [ek198_22] at hf
              obtain ⟨x5_24, ex5_24⟩ : ∃ z : Int32, z = (x5_14 + (1 : Int32)) := ⟨_, rfl⟩
              have hf := x_lE ex5_24 hf
              refine lv_iinc (v := x5_24) (lv' := [(5, .int x5_24), (0, .ref (g.2.2.1 0)), (1, .int a1), (3, .int x3_2), (4, .int x4_21)]) hx hb dX11_joined_198 hl (k := 3) rfl (by rw [ex5_24]; rfl) (by decide) rfl (fun ls hl => ?_)
              refine lv_goto (tgt := 118) hx hb dX11_joined_201 (by decide) ?_
              exact ih_17 _ _ _ _ _ _ (lv_sub hl [1, 2, 3, 4, 0] rfl) hw hf
            refine lv_icmp_ne (tgt := 198) hx hb dX11_joined_146 (by decide) (fun q_25 => ?_) (fun q_25 => ?_)
            · have hf := x_iN hf q_25
              exact hk198_22 _ _ _ _ _ (lv_sub hl [0, 1, 2, 4, 3] rfl) hw hf
            · have hf := x_iP hf q_25
              refine lv_aload_n hx hb dX11_joined_149 rfl (lv_at hl 0 rfl) ?_
              refine fg_X11_7 (k2 := 1) C hw ic1_0 rfl dX11_joined_150 ?_
              refine lv_sipush (v := (642 : Int32)) hx hb dX11_joined_153 (by decide) ?_
              refine lv_iconst (v := (5 : Int32)) hx hb dX11_joined_156 (by decide) ?_
              refine lv_iload hx hb dX11_joined_157 (lv_at hl 4 rfl) ?_
              refine lv_imul hx hb dX11_joined_159 ?_
              refine lv_iadd hx hb dX11_joined_160 ?_
              refine lv_iconst (v := (4 : Int32)) hx hb dX11_joined_161 (by decide) ?_
              refine lv_iadd hx hb dX11_joined_162 ?_
              obtain ⟨q_26, hf⟩ := x_gE hf
              refine x_ald C hw ic1_1 q_26 rfl dX11_joined_163 ?_
              refine lv_iconst (v := (-1 : Int32)) hx hb dX11_joined_164 (by decide) ?_
              refine lv_icmp_ne (tgt := 198) hx hb dX11_joined_165 (by decide) (fun q_27 => ?_) (fun q_27 => ?_)
              · have hf := x_iN hf q_27
                exact hk198_22 _ _ _ _ _ (lv_sub hl [0, 1, 2, 4, 3] rfl) hw hf
              · have hf := x_iP hf q_27
                refine lv_iload hx hb dX11_joined_168 (lv_at hl 4 rfl) ?_
                refine lv_iload_n hx hb dX11_joined_170 rfl (lv_at hl 2 rfl) ?_
                refine lv_icmp_ne (tgt := 177) hx hb dX11_joined_171 (by decide) (fun q_28 => ?_) (fun q_28 => ?_)
                · have hf := x_iN hf q_28
                  refine lv_iload hx hb dX11_joined_177 (lv_at hl 3 rfl) ?_
                  refine lv_aload_n hx hb dX11_joined_179 rfl (lv_at hl 0 rfl) ?_
                  refine lv_iload hx hb dX11_joined_180 (lv_at hl 4 rfl) ?_
                  obtain ⟨tv_31, tM_29, c_30, hf⟩ := x_bE hf
                  refine x_vI C hw hl.1 [.int x5_14] [.int x4_13] (mX11_worthOf l g c_30) lk_X11_198 ic1_0 (by decide) rfl (by decide) rfl (Nat.le_of_ble_eq_true rfl) ⟨Nat.zero_le _, Nat.zero_le _⟩ dX11_joined_182 (fun v_31 M_29 H locs hN hw => ?_)
                  obtain ⟨rfl, rfl⟩ := hN
                  refine lv_aload_n hx hb dX11_joined_185 rfl (lv_at hl 0 rfl) ?_
                  refine fg_X11_7 (k2 := 1) C hw ic1_0 rfl dX11_joined_186 ?_
                  refine lv_iconst (v := (5 : Int32)) hx hb dX11_joined_189 (by decide) ?_
                  refine x_ald (j := 5) C hw ic1_1 (x_inl rfl) rfl dX11_joined_190 ?_
                  refine lv_imul hx hb dX11_joined_191 ?_
                  refine lv_bipush (v := (100 : Int32)) hx hb dX11_joined_192 (by decide) ?_
                  refine lv_idiv hx hb dX11_joined_194 (by decide) ?_
                  refine lv_iadd hx hb dX11_joined_195 ?_
                  refine lv_topi (fun x4_34 ex4_34 => ?_)
                  have hf := x_lE ex4_34 hf
                  refine lv_istore (lv' := [(4, .int x4_34), (0, .ref (g.2.2.1 0)), (1, .int a1), (3, .int x3_2), (5, .int x5_14)]) hx hb dX11_joined_196 hl (by decide) rfl (fun ls hl => ?_)
                  exact hk198_22 _ _ _ _ _ (lv_sub hl [1, 2, 3, 4, 0] rfl) hw hf
                · have hf := x_iP hf q_28
                  refine lv_goto (tgt := 198) hx hb dX11_joined_174 (by decide) ?_
                  exact hk198_22 _ _ _ _ _ (lv_sub hl [0, 1, 2, 4, 3] rfl) hw hf
      exact hL_35 _ _ _ _ _ _ _ (lv_sub hl [2, 3, 5, 1, 0] rfl) hw hf
    · have hf := x_iP hf q_5
      refine lv_iconst (v := (-1 : Int32)) hx hb dX11_joined_110 (by decide) ?_
      exact ret hf dX11_joined_111 hw
  have hL_67 : ∀ (n_40 : Nat) (H : Heap) (locs : List Loc) (M_39 : xM) (x2_36 : Int32) (x3_37 : Int32) (x4_38 : Int32) (ls : Array Slot) , lv_has ls 6 [(0, .ref (g.2.2.1 0)), (1, .int a1), (2, .int x2_36), (3, .int x3_37), (4, .int x4_38)] → x_w g 1 s H locs M_39 → fX11_joined_L7 a1 k105_3 n_40 M_39 x2_36 x3_37 x4_38 = some (r, M') → W p l e (x_rm 3 70) s m args below meth c H locs 0 0 Q (F0 m 7 ls []) := by
    intro n_40
    induction n_40 with
    | zero =>
      intro H locs M_39 x2_36 x3_37 x4_38 ls  hl hw hf
      rw [fX11_joined_L7] at hf
      cases hf
    | succ n_40 ih_41 =>
      intro H locs M_39 x2_36 x3_37 x4_38 ls  hl hw hf
      rw [fX11_joined_L7] at hf
      refine lv_iload hx hb dX11_joined_7 (lv_at hl 4 rfl) ?_
      refine lv_aload_n hx hb dX11_joined_9 rfl (lv_at hl 0 rfl) ?_
      refine fg_X11_7 (k2 := 1) C hw ic1_0 rfl dX11_joined_10 ?_
      refine lv_bipush (v := (19 : Int32)) hx hb dX11_joined_13 (by decide) ?_
      refine x_ald (j := 19) C hw ic1_1 (x_inl rfl) rfl dX11_joined_15 ?_
      refine lv_icmp_ge (tgt := 105) hx hb dX11_joined_16 (by decide) (fun q_43 => ?_) (fun q_43 => ?_)
      · have hf := x_iP hf q_43
        exact hk105_3 _ _ _ _ _ _ (lv_sub hl [0, 1, 2, 3] rfl) hw hf
      · have hf := x_iN hf q_43
        refine lv_aload_n hx hb dX11_joined_19 rfl (lv_at hl 0 rfl) ?_
        refine fg_X11_7 (k2 := 1) C hw ic1_0 rfl dX11_joined_20 ?_
        refine lv_sipush (v := (642 : Int32)) hx hb dX11_joined_23 (by decide) ?_
        refine lv_iconst (v := (5 : Int32)) hx hb dX11_joined_26 (by decide) ?_
        refine lv_iload hx hb dX11_joined_27 (lv_at hl 4 rfl) ?_
        refine lv_imul hx hb dX11_joined_29 ?_
        refine lv_iadd hx hb dX11_joined_30 ?_
        refine lv_iconst (v := (1 : Int32)) hx hb dX11_joined_31 (by decide) ?_
        refine lv_iadd hx hb dX11_joined_32 ?_
        obtain ⟨q_44, hf⟩ := x_gE hf
        refine x_ald C hw ic1_1 q_44 rfl dX11_joined_33 ?_
        refine lv_iload_n hx hb dX11_joined_34 rfl (lv_at hl 1 rfl) ?_
        obtain ⟨k99_47, ek99_47, hf⟩ := x_jE hf
        have hk99_47 : ∀ (H : Heap) (locs : List Loc) (M_48 : xM) (x2_45 : Int32) (x3_46 : Int32) (ls : Array Slot) , lv_has ls 6 [(0, .ref (g.2.2.1 0)), (1, .int a1), (4, .int x4_38), (2, .int x2_45), (3, .int x3_46)] → x_w g 1 s H locs M_48 → k99_47 M_48 x2_45 x3_46 = some (r, M') → W p l e (x_rm 3 70) s m args below meth c H locs 0 0 Q (F0 m 99 ls []) := by
          intro H locs M_48 x2_45 x3_46 ls  hl hw hf
          rw [ek99_47] at hf
          obtain ⟨x4_49, ex4_49⟩ : ∃ z : Int32, z = (x4_38 + (1 : Int32)) := ⟨_, rfl⟩
          have hf := x_lE ex4_49 hf
          refine lv_iinc (v := x4_49) (lv' := [(4, .int x4_49), (0, .ref (g.2.2.1 0)), (1, .int a1), (2, .int x2_45), (3, .int x3_46)]) hx hb dX11_joined_99 hl (k := 2) rfl (by rw [ex4_49]; rfl) (by decide) rfl (fun ls hl => ?_)
          refine lv_goto (tgt := 7) hx hb dX11_joined_102 (by decide) ?_
          exact ih_41 _ _ _ _ _ _ _ (lv_sub hl [1, 2, 3, 4, 0] rfl) hw hf
        refine lv_icmp_ne (tgt := 99) hx hb dX11_joined_35 (by decide) (fun q_50 => ?_) (fun q_50 => ?_)
        · have hf := x_iN hf q_50
          exact hk99_47 _ _ _ _ _ _ (lv_sub hl [0, 1, 4, 2, 3] rfl) hw hf
        · have hf := x_iP hf q_50
          refine lv_aload_n hx hb dX11_joined_38 rfl (lv_at hl 0 rfl) ?_
          refine fg_X11_7 (k2 := 1) C hw ic1_0 rfl dX11_joined_39 ?_
          refine lv_sipush (v := (642 : Int32)) hx hb dX11_joined_42 (by decide) ?_
          refine lv_iconst (v := (5 : Int32)) hx hb dX11_joined_45 (by decide) ?_
          refine lv_iload hx hb dX11_joined_46 (lv_at hl 4 rfl) ?_
          refine lv_imul hx hb dX11_joined_48 ?_
          refine lv_iadd hx hb dX11_joined_49 ?_
          refine lv_iconst (v := (4 : Int32)) hx hb dX11_joined_50 (by decide) ?_
          refine lv_iadd hx hb dX11_joined_51 ?_
          obtain ⟨q_51, hf⟩ := x_gE hf
          refine x_ald C hw ic1_1 q_51 rfl dX11_joined_52 ?_
          refine lv_iconst (v := (-1 : Int32)) hx hb dX11_joined_53 (by decide) ?_
          refine lv_icmp_eq (tgt := 60) hx hb dX11_joined_54 (by decide) (fun q_52 => ?_) (fun q_52 => ?_)
          · have hf := x_iP hf q_52
            refine lv_aload_n hx hb dX11_joined_60 rfl (lv_at hl 0 rfl) ?_
            refine lv_iload hx hb dX11_joined_61 (lv_at hl 4 rfl) ?_
            obtain ⟨tv_55, tM_53, c_54, hf⟩ := x_bE hf
            refine x_vI C hw hl.1 [.int x4_38] [] (mX11_worthOf l g c_54) lk_X11_198 ic1_0 (by decide) rfl (by decide) rfl (Nat.le_of_ble_eq_true rfl) ⟨Nat.zero_le _, Nat.zero_le _⟩ dX11_joined_63 (fun v_55 M_53 H locs hN hw => ?_)
            obtain ⟨rfl, rfl⟩ := hN
            refine lv_istore (lv' := [(5, .int v_55), (0, .ref (g.2.2.1 0)), (1, .int a1), (2, .int x2_36), (3, .int x3_37), (4, .int x4_38)]) hx hb dX11_joined_66 hl (by decide) rfl (fun ls hl => ?_)
            refine lv_iload_n hx hb dX11_joined_68 rfl (lv_at hl 4 rfl) ?_
            refine lv_iconst (v := (-1 : Int32)) hx hb dX11_joined_69 (by decide) ?_
            obtain ⟨k85_57, ek85_57, hf⟩ := x_jE hf
            have hk85_57 : ∀ (H : Heap) (locs : List Loc) (M_58 : xM) (z_56 : Int32) (ls : Array Slot) , lv_has ls 6 [(5, .int v_55), (0, .ref (g.2.2.1 0)), (1, .int a1), (2, .int x2_36), (4, .int x4_38)] → x_w g 1 s H locs M_58 → k85_57 M_58 z_56 = some (r, M') → W p l e (x_rm 3 70) s m args below meth c H locs 0 0 Q (F0 m 85 ls [.int z_56]) := by
              intro H locs M_58 z_56 ls  hl hw hf
              rw [ek85_57] at hf
              refine lv_istore_n (lv' := [(3, .int z_56), (5, .int v_55), (0, .ref (g.2.2.1 0)), (1, .int a1), (2, .int x2_36), (4, .int x4_38)]) hx hb dX11_joined_85 rfl hl (by decide) rfl (fun ls hl => ?_)
              refine lv_iload_n hx hb dX11_joined_86 rfl (lv_at hl 0 rfl) ?_
              refine lv_iload hx hb dX11_joined_87 (lv_at hl 5 rfl) ?_
              obtain ⟨k98_60, ek98_60, hf⟩ := x_jE hf
              have hk98_60 : ∀ (H : Heap) (locs : List Loc) (M_61 : xM) (z_59 : Int32) (ls : Array Slot) , lv_has ls 6 [(3, .int z_56), (0, .ref (g.2.2.1 0)), (1, .int a1), (4, .int x4_38)] → x_w g 1 s H locs M_61 → k98_60 M_61 z_59 = some (r, M') → W p l e (x_rm 3 70) s m args below meth c H locs 0 0 Q (F0 m 98 ls [.int z_59]) := by
                intro H locs M_61 z_59 ls  hl hw hf
                rw [ek98_60] at hf
                refine lv_istore_n (lv' := [(2, .int z_59), (3, .int z_56), (0, .ref (g.2.2.1 0)), (1, .int a1), (4, .int x4_38)]) hx hb dX11_joined_98 rfl hl (by decide) rfl (fun ls hl => ?_)
                exact hk99_47 _ _ _ _ _ _ (lv_sub hl [2, 3, 4, 0, 1] rfl) hw hf
              refine lv_icmp_ne (tgt := 97) hx hb dX11_joined_89 (by decide) (fun q_62 => ?_) (fun q_62 => ?_)
              · have hf := x_iN hf q_62
                refine lv_iload_n hx hb dX11_joined_97 rfl (lv_at hl 4 rfl) ?_
                exact hk98_60 _ _ _ _ _ (lv_sub hl [0, 2, 3, 5] rfl) hw hf
              · have hf := x_iP hf q_62
                refine lv_iload hx hb dX11_joined_92 (lv_at hl 1 rfl) ?_
                refine lv_goto (tgt := 98) hx hb dX11_joined_94 (by decide) ?_
                exact hk98_60 _ _ _ _ _ (lv_sub hl [0, 2, 3, 5] rfl) hw hf
            obtain ⟨k79_63, ek79_63, hf⟩ := x_jE hf
            have hk79_63 : ∀ (H : Heap) (locs : List Loc) (M_64 : xM)  (ls : Array Slot) , lv_has ls 6 [(5, .int v_55), (0, .ref (g.2.2.1 0)), (1, .int a1), (2, .int x2_36), (4, .int x4_38)] → x_w g 1 s H locs M_64 → k79_63 M_64 = some (r, M') → W p l e (x_rm 3 70) s m args below meth c H locs 0 0 Q (F0 m 79 ls []) := by
              intro H locs M_64  ls  hl hw hf
              rw [ek79_63] at hf
              refine lv_iload hx hb dX11_joined_79 (lv_at hl 4 rfl) ?_
              refine lv_goto (tgt := 85) hx hb dX11_joined_81 (by decide) ?_
              exact hk85_57 _ _ _ _ _ (lv_sub hl [0, 1, 2, 3, 4] rfl) hw hf
            refine lv_icmp_eq (tgt := 79) hx hb dX11_joined_70 (by decide) (fun q_65 => ?_) (fun q_65 => ?_)
            · have hf := x_iP hf q_65
              exact hk79_63 _ _ _ _ (lv_sub hl [0, 1, 2, 3, 5] rfl) hw hf
            · have hf := x_iN hf q_65
              refine lv_iload hx hb dX11_joined_73 (lv_at hl 0 rfl) ?_
              refine lv_iload_n hx hb dX11_joined_75 rfl (lv_at hl 3 rfl) ?_
              refine lv_icmp_le (tgt := 84) hx hb dX11_joined_76 (by decide) (fun q_66 => ?_) (fun q_66 => ?_)
              · have hf := x_iP hf q_66
                refine lv_iload_n hx hb dX11_joined_84 rfl (lv_at hl 4 rfl) ?_
                exact hk85_57 _ _ _ _ _ (lv_sub hl [0, 1, 2, 3, 5] rfl) hw hf
              · have hf := x_iN hf q_66
                exact hk79_63 _ _ _ _ (lv_sub hl [0, 1, 2, 3, 5] rfl) hw hf
          · have hf := x_iN hf q_52
            refine lv_goto (tgt := 99) hx hb dX11_joined_57 (by decide) ?_
            exact hk99_47 _ _ _ _ _ _ (lv_sub hl [0, 1, 4, 2, 3] rfl) hw hf
  exact hL_67 _ _ _ _ _ _ _ _ (lv_sub hl [3, 4, 2, 1, 0] rfl) hw hf
noncomputable def fX11_judge_L218 (a1 : Int32) (x3_14 : Int32) (k290_42 : xM → Option (Int32 × xM)) : Nat → xM → Int32 → Option (Int32 × xM)
  | 0, _, _ => none
  | n_49 + 1, M_48, x6_47 => if (M_48 1 19) ≤ x6_47 then (k290_42 M_48) else (x_g (((642 : Int32) + ((5 : Int32) * x6_47)) + (1 : Int32)) 1675 (x_l (fun (M_55 : xM) => x_l (x6_47 + (1 : Int32)) fun x6_56 => fX11_judge_L218 a1 x3_14 k290_42 n_49 M_55 x6_56) fun k284_54 => if (M_48 1 (((642 : Int32) + ((5 : Int32) * x6_47)) + (1 : Int32)).toNatClampNeg) = a1 then (x_g (((642 : Int32) + ((5 : Int32) * x6_47)) + (4 : Int32)) 1675 (if (M_48 1 (((642 : Int32) + ((5 : Int32) * x6_47)) + (4 : Int32)).toNatClampNeg) = (-1 : Int32) then (x_g (((642 : Int32) + ((5 : Int32) * x6_47)) + (4 : Int32)) 1675 (x_l (x_up M_48 1 (((642 : Int32) + ((5 : Int32) * x6_47)) + (4 : Int32)).toNatClampNeg x3_14) fun M_61 => k284_54 M_61)) else (k284_54 M_48))) else (k284_54 M_48)))
noncomputable def fX11_judge_L74 (x4_15 : Int32) (k98_16 : xM → Option (Int32 × xM)) : Nat → xM → Int32 → Option (Int32 × xM)
  | 0, _, _ => none
  | n_65 + 1, M_64, x5_63 => if (10 : Int32) ≤ x5_63 then (k98_16 M_64) else (x_g (x4_15 + x5_63) 1675 (x_l (x_up M_64 1 (x4_15 + x5_63).toNatClampNeg (0 : Int32)) fun M_69 => x_l (x5_63 + (1 : Int32)) fun x5_70 => fX11_judge_L74 x4_15 k98_16 n_65 M_69 x5_70))
noncomputable def fX11_judge (M : xM) (a1 : Int32) : Option (Int32 × xM) := x_b (fX11_isPerson M a1) fun v_3 M_1 => if v_3 = 0 then (some ((-1000000001 : Int32), M_1)) else (if (M_1 1 21) = 0 then (some ((-1000000002 : Int32), M_1)) else (x_b (fX11_joined M_1 a1) fun v_9 M_7 => if v_9 = (-1 : Int32) then (some ((-1000000002 : Int32), M_7)) else (if (M_7 1 20) = (16 : Int32) then (some ((-1000000003 : Int32), M_7)) else (x_l (M_7 1 20) fun x3_14 => x_l ((792 : Int32) + ((10 : Int32) * x3_14)) fun x4_15 => x_l (fun (M_17 : xM) => x_g (((30 : Int32) + ((3 : Int32) * a1)) + (2 : Int32)) 1675 (x_b (fX11_less M_17 v_9 (M_17 1 (((30 : Int32) + ((3 : Int32) * a1)) + (2 : Int32)).toNatClampNeg)) fun v_21 M_19 => x_g (((30 : Int32) + ((3 : Int32) * a1)) + (2 : Int32)) 1675 (x_g (((30 : Int32) + ((3 : Int32) * a1)) + (2 : Int32)) 1675 (x_l (x_up M_19 1 (((30 : Int32) + ((3 : Int32) * a1)) + (2 : Int32)).toNatClampNeg ((M_19 1 (((30 : Int32) + ((3 : Int32) * a1)) + (2 : Int32)).toNatClampNeg) - v_21)) fun M_24 => x_g (x4_15 + (0 : Int32)) 1675 (x_l (x_up M_24 1 (x4_15 + (0 : Int32)).toNatClampNeg a1) fun M_26 => x_g (x4_15 + (1 : Int32)) 1675 (x_l (x_up M_26 1 (x4_15 + (1 : Int32)).toNatClampNeg (M_26 1 0)) fun M_29 => x_g (x4_15 + (2 : Int32)) 1675 (x_l (x_up M_29 1 (x4_15 + (2 : Int32)).toNatClampNeg (v_9 - v_21)) fun M_31 => x_b (fX11_sumOf M_31 a1 (M_31 1 0) (M_31 1 0)) fun v_36 M_34 => x_g (x4_15 + (3 : Int32)) 1675 (x_l (x_up M_34 1 (x4_15 + (3 : Int32)).toNatClampNeg v_36) fun M_38 => x_g (x4_15 + (6 : Int32)) 1675 (x_l (x_up M_38 1 (x4_15 + (6 : Int32)).toNatClampNeg (M_38 1 0)) fun M_41 => x_l (fun (M_43 : xM) => x_l (x_up M_43 1 20 ((M_43 1 20) + (1 : Int32))) fun M_46 => some (x3_14, M_46)) fun k290_42 => fX11_judge_L218 a1 x3_14 k290_42 x_FU M_41 (0 : Int32)))))))))) fun k98_16 => fX11_judge_L74 x4_15 k98_16 x_FU M_7 (0 : Int32)))))
set_option maxRecDepth 100000 in
set_option maxHeartbeats 4000000 in
theorem mX11_judge (l : Launch) (g : xG) {a1 : Int32} {r : Int32} {M' : xM}  {M : xM} (hf : fX11_judge M a1 = some (r, M')) : x_cI l g 1 yX11_judge cX11_judge 7 .int 4 101 [.ref (g.2.2.1 0), .int a1] M (fun v N => v = r ∧ N = M') := by
  refine x_stI RX11 (by decide) rfl (Nat.le_of_ble_eq_true rfl) ?_
  intro p e s m args below meth c Q ls C hw ret hl
  obtain ⟨hx, hb, hml, hown, hB, -⟩ := id C
  have hl : lv_has ls 7 [(0, .ref (g.2.2.1 0)), (1, .int a1)] := hl
  unfold fX11_judge at hf
  refine lv_aload_n hx hb dX11_judge_0 rfl (lv_at hl 0 rfl) ?_
  refine lv_iload_n hx hb dX11_judge_1 rfl (lv_at hl 1 rfl) ?_
  obtain ⟨tv_3, tM_1, c_2, hf⟩ := x_bE hf
  refine x_vI C hw hl.1 [.int a1] [] (mX11_isPerson l g c_2) lk_X11_62 ic1_0 (by decide) rfl (by decide) rfl (Nat.le_of_ble_eq_true rfl) ⟨Nat.zero_le _, Nat.zero_le _⟩ dX11_judge_2 (fun v_3 M_1 H locs hN hw => ?_)
  obtain ⟨rfl, rfl⟩ := hN
  refine lv_if_ne (tgt := 11) hx hb dX11_judge_5 (by decide) (fun q_4 => ?_) (fun q_4 => ?_)
  · have hf := x_iN hf q_4
    refine lv_aload_n hx hb dX11_judge_11 rfl (lv_at hl 0 rfl) ?_
    refine fg_X11_7 (k2 := 1) C hw ic1_0 rfl dX11_judge_12 ?_
    refine lv_bipush (v := (21 : Int32)) hx hb dX11_judge_15 (by decide) ?_
    refine x_ald (j := 21) C hw ic1_1 (x_inl rfl) rfl dX11_judge_17 ?_
    refine lv_if_ne (tgt := 24) hx hb dX11_judge_18 (by decide) (fun q_6 => ?_) (fun q_6 => ?_)
    · have hf := x_iN hf q_6
      refine lv_aload_n hx hb dX11_judge_24 rfl (lv_at hl 0 rfl) ?_
      refine lv_iload_n hx hb dX11_judge_25 rfl (lv_at hl 1 rfl) ?_
      obtain ⟨tv_9, tM_7, c_8, hf⟩ := x_bE hf
      refine x_vI C hw hl.1 [.int a1] [] (mX11_joined l g c_8) lk_X11_204 ic1_0 (by decide) rfl (by decide) rfl (Nat.le_of_ble_eq_true rfl) ⟨Nat.zero_le _, Nat.zero_le _⟩ dX11_judge_26 (fun v_9 M_7 H locs hN hw => ?_)
      obtain ⟨rfl, rfl⟩ := hN
      refine lv_istore_n (lv' := [(2, .int v_9), (0, .ref (g.2.2.1 0)), (1, .int a1)]) hx hb dX11_judge_29 rfl hl (by decide) rfl (fun ls hl => ?_)
      refine lv_iload_n hx hb dX11_judge_30 rfl (lv_at hl 0 rfl) ?_
      refine lv_iconst (v := (-1 : Int32)) hx hb dX11_judge_31 (by decide) ?_
      refine lv_icmp_ne (tgt := 38) hx hb dX11_judge_32 (by decide) (fun q_10 => ?_) (fun q_10 => ?_)
      · have hf := x_iN hf q_10
        refine lv_aload_n hx hb dX11_judge_38 rfl (lv_at hl 1 rfl) ?_
        refine fg_X11_7 (k2 := 1) C hw ic1_0 rfl dX11_judge_39 ?_
        refine lv_bipush (v := (20 : Int32)) hx hb dX11_judge_42 (by decide) ?_
        refine x_ald (j := 20) C hw ic1_1 (x_inl rfl) rfl dX11_judge_44 ?_
        refine lv_bipush (v := (16 : Int32)) hx hb dX11_judge_45 (by decide) ?_
        refine lv_icmp_ne (tgt := 53) hx hb dX11_judge_47 (by decide) (fun q_12 => ?_) (fun q_12 => ?_)
        · have hf := x_iN hf q_12
          refine lv_aload_n hx hb dX11_judge_53 rfl (lv_at hl 1 rfl) ?_
          refine fg_X11_7 (k2 := 1) C hw ic1_0 rfl dX11_judge_54 ?_
          refine lv_bipush (v := (20 : Int32)) hx hb dX11_judge_57 (by decide) ?_
          refine x_ald (j := 20) C hw ic1_1 (x_inl rfl) rfl dX11_judge_59 ?_
          refine lv_topi (fun x3_14 ex3_14 => ?_)
          have hf := x_lE ex3_14 hf
          refine lv_istore_n (lv' := [(3, .int x3_14), (2, .int v_9), (0, .ref (g.2.2.1 0)), (1, .int a1)]) hx hb dX11_judge_60 rfl hl (by decide) rfl (fun ls hl => ?_)
          refine lv_sipush (v := (792 : Int32)) hx hb dX11_judge_61 (by decide) ?_
          refine lv_bipush (v := (10 : Int32)) hx hb dX11_judge_64 (by decide) ?_
          refine lv_iload_n hx hb dX11_judge_66 rfl (lv_at hl 0 rfl) ?_
          refine lv_imul hx hb dX11_judge_67 ?_
          refine lv_iadd hx hb dX11_judge_68 ?_
          refine lv_topi (fun x4_15 ex4_15 => ?_)
          have hf := x_lE ex4_15 hf
          refine lv_istore (lv' := [(4, .int x4_15), (3, .int x3_14), (2, .int v_9), (0, .ref (g.2.2.1 0)), (1, .int a1)]) hx hb dX11_judge_69 hl (by decide) rfl (fun ls hl => ?_)
          refine lv_iconst (v := (0 : Int32)) hx hb dX11_judge_71 (by decide) ?_
          refine lv_istore (lv' := [(5, .int (0 : Int32)), (4, .int x4_15), (3, .int x3_14), (2, .int v_9), (0, .ref (g.2.2.1 0)), (1, .int a1)]) hx hb dX11_judge_72 hl (by decide) rfl (fun ls hl => ?_)
          obtain ⟨k98_16, ek98_16, hf⟩ := x_jE hf
          have hk98_16 : ∀ (H : Heap) (locs : List Loc) (M_17 : xM)  (ls : Array Slot) , lv_has ls 7 [(4, .int x4_15), (3, .int x3_14), (2, .int v_9), (0, .ref (g.2.2.1 0)), (1, .int a1)] → x_w g 1 s H locs M_17 → k98_16 M_17 = some (r, M') → W p l e (x_rm 4 101) s m args below meth c H locs 0 0 Q (F0 m 98 ls []) := by
            intro H locs M_17  ls  hl hw hf
            rw [ek98_16] at hf
            refine lv_iload_n hx hb dX11_judge_98 rfl (lv_at hl 2 rfl) ?_
            refine lv_aload_n hx hb dX11_judge_99 rfl (lv_at hl 3 rfl) ?_
            refine fg_X11_7 (k2 := 1) C hw ic1_0 rfl dX11_judge_100 ?_
            refine lv_bipush (v := (30 : Int32)) hx hb dX11_judge_103 (by decide) ?_
            refine lv_iconst (v := (3 : Int32)) hx hb dX11_judge_105 (by decide) ?_
            refine lv_iload_n hx hb dX11_judge_106 rfl (lv_at hl 4 rfl) ?_
            refine lv_imul hx hb dX11_judge_107 ?_
            refine lv_iadd hx hb dX11_judge_108 ?_
            refine lv_iconst (v := (2 : Int32)) hx hb dX11_judge_109 (by decide) ?_
            refine lv_iadd hx hb dX11_judge_110 ?_
            obtain ⟨q_18, hf⟩ := x_gE hf
            refine x_ald C hw ic1_1 q_18 rfl dX11_judge_111 ?_
            obtain ⟨tv_21, tM_19, c_20, hf⟩ := x_bE hf
            refine x_sI C hw hl.1 [.int v_9, .int (M_17 1 (((30 : Int32) + ((3 : Int32) * a1)) + (2 : Int32)).toNatClampNeg)] [] (mX11_less l g c_20) lk_X11_195 (by decide) rfl (Nat.le_of_ble_eq_true rfl) ⟨Nat.zero_le _, Nat.zero_le _⟩ dX11_judge_112 (fun v_21 M_19 H locs hN hw => ?_)
            obtain ⟨rfl, rfl⟩ := hN
            refine lv_istore (lv' := [(5, .int v_21), (4, .int x4_15), (3, .int x3_14), (2, .int v_9), (0, .ref (g.2.2.1 0)), (1, .int a1)]) hx hb dX11_judge_115 hl (by decide) rfl (fun ls hl => ?_)
            refine lv_aload_n hx hb dX11_judge_117 rfl (lv_at hl 4 rfl) ?_
            refine fg_X11_7 (k2 := 1) C hw ic1_0 rfl dX11_judge_118 ?_
            refine lv_bipush (v := (30 : Int32)) hx hb dX11_judge_121 (by decide) ?_
            refine lv_iconst (v := (3 : Int32)) hx hb dX11_judge_123 (by decide) ?_
            refine lv_iload_n hx hb dX11_judge_124 rfl (lv_at hl 5 rfl) ?_
            refine lv_imul hx hb dX11_judge_125 ?_
            refine lv_iadd hx hb dX11_judge_126 ?_
            refine lv_iconst (v := (2 : Int32)) hx hb dX11_judge_127 (by decide) ?_
            refine lv_iadd hx hb dX11_judge_128 ?_
            refine lv_dup2_11 hx hb dX11_judge_129 rfl rfl ?_
            obtain ⟨q_22, hf⟩ := x_gE hf
            refine x_ald C hw ic1_1 q_22 rfl dX11_judge_130 ?_
            refine lv_iload hx hb dX11_judge_131 (lv_at hl 0 rfl) ?_
            refine lv_isub hx hb dX11_judge_133 ?_
            obtain ⟨q_23, hf⟩ := x_gE hf
            refine x_ast C hw ic1_1 q_23 rfl dX11_judge_134 (fun H locs hw => ?_)
            obtain ⟨M_24, eM_24⟩ : ∃ z, z = (x_up M_19 1 (((30 : Int32) + ((3 : Int32) * a1)) + (2 : Int32)).toNatClampNeg ((M_19 1 (((30 : Int32) + ((3 : Int32) * a1)) + (2 : Int32)).toNatClampNeg) - v_21)) := ⟨_, rfl⟩
            rw [← eM_24] at hw
            have hf := x_lE eM_24 hf
            refine lv_aload_n hx hb dX11_judge_135 rfl (lv_at hl 4 rfl) ?_
            refine fg_X11_7 (k2 := 1) C hw ic1_0 rfl dX11_judge_136 ?_
            refine lv_iload hx hb dX11_judge_139 (lv_at hl 1 rfl) ?_
            refine lv_iconst (v := (0 : Int32)) hx hb dX11_judge_141 (by decide) ?_
            refine lv_iadd hx hb dX11_judge_142 ?_
            refine lv_iload_n hx hb dX11_judge_143 rfl (lv_at hl 5 rfl) ?_
            obtain ⟨q_25, hf⟩ := x_gE hf
            refine x_ast C hw ic1_1 q_25 rfl dX11_judge_144 (fun H locs hw => ?_)
            obtain ⟨M_26, eM_26⟩ : ∃ z, z = (x_up M_24 1 (x4_15 + (0 : Int32)).toNatClampNeg a1) := ⟨_, rfl⟩
            rw [← eM_26] at hw
            have hf := x_lE eM_26 hf
            refine lv_aload_n hx hb dX11_judge_145 rfl (lv_at hl 4 rfl) ?_
            refine fg_X11_7 (k2 := 1) C hw ic1_0 rfl dX11_judge_146 ?_
            refine lv_iload hx hb dX11_judge_149 (lv_at hl 1 rfl) ?_
            refine lv_iconst (v := (1 : Int32)) hx hb dX11_judge_151 (by decide) ?_
            refine lv_iadd hx hb dX11_judge_152 ?_
            refine lv_aload_n hx hb dX11_judge_153 rfl (lv_at hl 4 rfl) ?_
            refine fg_X11_7 (k2 := 1) C hw ic1_0 rfl dX11_judge_154 ?_
            refine lv_iconst (v := (0 : Int32)) hx hb dX11_judge_157 (by decide) ?_
            refine x_ald (j := 0) C hw ic1_1 (x_inl rfl) rfl dX11_judge_158 ?_
            obtain ⟨q_28, hf⟩ := x_gE hf
            refine x_ast C hw ic1_1 q_28 rfl dX11_judge_159 (fun H locs hw => ?_)
            obtain ⟨M_29, eM_29⟩ : ∃ z, z = (x_up M_26 1 (x4_15 + (1 : Int32)).toNatClampNeg (M_26 1 0)) := ⟨_, rfl⟩
            rw [← eM_29] at hw
            have hf := x_lE eM_29 hf
            refine lv_aload_n hx hb dX11_judge_160 rfl (lv_at hl 4 rfl) ?_
            refine fg_X11_7 (k2 := 1) C hw ic1_0 rfl dX11_judge_161 ?_
            refine lv_iload hx hb dX11_judge_164 (lv_at hl 1 rfl) ?_
            refine lv_iconst (v := (2 : Int32)) hx hb dX11_judge_166 (by decide) ?_
            refine lv_iadd hx hb dX11_judge_167 ?_
            refine lv_iload_n hx hb dX11_judge_168 rfl (lv_at hl 3 rfl) ?_
            refine lv_iload hx hb dX11_judge_169 (lv_at hl 0 rfl) ?_
            refine lv_isub hx hb dX11_judge_171 ?_
            obtain ⟨q_30, hf⟩ := x_gE hf
            refine x_ast C hw ic1_1 q_30 rfl dX11_judge_172 (fun H locs hw => ?_)
            obtain ⟨M_31, eM_31⟩ : ∃ z, z = (x_up M_29 1 (x4_15 + (2 : Int32)).toNatClampNeg (v_9 - v_21)) := ⟨_, rfl⟩
            rw [← eM_31] at hw
            have hf := x_lE eM_31 hf
            refine lv_aload_n hx hb dX11_judge_173 rfl (lv_at hl 4 rfl) ?_
            refine fg_X11_7 (k2 := 1) C hw ic1_0 rfl dX11_judge_174 ?_
            refine lv_iload hx hb dX11_judge_177 (lv_at hl 1 rfl) ?_
            refine lv_iconst (v := (3 : Int32)) hx hb dX11_judge_179 (by decide) ?_
            refine lv_iadd hx hb dX11_judge_180 ?_
            refine lv_aload_n hx hb dX11_judge_181 rfl (lv_at hl 4 rfl) ?_
            refine lv_iload_n hx hb dX11_judge_182 rfl (lv_at hl 5 rfl) ?_
            refine lv_aload_n hx hb dX11_judge_183 rfl (lv_at hl 4 rfl) ?_
            refine fg_X11_7 (k2 := 1) C hw ic1_0 rfl dX11_judge_184 ?_
            refine lv_iconst (v := (0 : Int32)) hx hb dX11_judge_187 (by decide) ?_
            refine x_ald (j := 0) C hw ic1_1 (x_inl rfl) rfl dX11_judge_188 ?_
            refine lv_aload_n hx hb dX11_judge_189 rfl (lv_at hl 4 rfl) ?_
            refine fg_X11_7 (k2 := 1) C hw ic1_0 rfl dX11_judge_190 ?_
            refine lv_iconst (v := (0 : Int32)) hx hb dX11_judge_193 (by decide) ?_
            refine x_ald (j := 0) C hw ic1_1 (x_inl rfl) rfl dX11_judge_194 ?_
            obtain ⟨tv_36, tM_34, c_35, hf⟩ := x_bE hf
            refine x_vI C hw hl.1 [.int a1, .int (M_31 1 0), .int (M_31 1 0)] [.int (x4_15 + (3 : Int32)), .ref (g.2.2.1 1)] (mX11_sumOf l g c_35) lk_X11_201 ic1_0 (by decide) rfl (by decide) rfl (Nat.le_of_ble_eq_true rfl) ⟨Nat.zero_le _, Nat.zero_le _⟩ dX11_judge_195 (fun v_36 M_34 H locs hN hw => ?_)
            obtain ⟨rfl, rfl⟩ := hN
            obtain ⟨q_37, hf⟩ := x_gE hf
            refine x_ast C hw ic1_1 q_37 rfl dX11_judge_198 (fun H locs hw => ?_)
            obtain ⟨M_38, eM_38⟩ : ∃ z, z = (x_up M_34 1 (x4_15 + (3 : Int32)).toNatClampNeg v_36) := ⟨_, rfl⟩
            rw [← eM_38] at hw
            have hf := x_lE eM_38 hf
            refine lv_aload_n hx hb dX11_judge_199 rfl (lv_at hl 4 rfl) ?_
            refine fg_X11_7 (k2 := 1) C hw ic1_0 rfl dX11_judge_200 ?_
            refine lv_iload hx hb dX11_judge_203 (lv_at hl 1 rfl) ?_
            refine lv_bipush (v := (6 : Int32)) hx hb dX11_judge_205 (by decide) ?_
            refine lv_iadd hx hb dX11_judge_207 ?_
            refine lv_aload_n hx hb dX11_judge_208 rfl (lv_at hl 4 rfl) ?_
            refine fg_X11_7 (k2 := 1) C hw ic1_0 rfl dX11_judge_209 ?_
            refine lv_iconst (v := (0 : Int32)) hx hb dX11_judge_212 (by decide) ?_
            refine x_ald (j := 0) C hw ic1_1 (x_inl rfl) rfl dX11_judge_213 ?_
            obtain ⟨q_40, hf⟩ := x_gE hf
            refine x_ast C hw ic1_1 q_40 rfl dX11_judge_214 (fun H locs hw => ?_)
            obtain ⟨M_41, eM_41⟩ : ∃ z, z = (x_up M_38 1 (x4_15 + (6 : Int32)).toNatClampNeg (M_38 1 0)) := ⟨_, rfl⟩
            rw [← eM_41] at hw
            have hf := x_lE eM_41 hf
            refine lv_iconst (v := (0 : Int32)) hx hb dX11_judge_215 (by decide) ?_
            refine lv_istore (lv' := [(6, .int (0 : Int32)), (5, .int v_21), (4, .int x4_15), (3, .int x3_14), (2, .int v_9), (0, .ref (g.2.2.1 0)), (1, .int a1)]) hx hb dX11_judge_216 hl (by decide) rfl (fun ls hl => ?_)
            obtain ⟨k290_42, ek290_42, hf⟩ := x_jE hf
            have hk290_42 : ∀ (H : Heap) (locs : List Loc) (M_43 : xM)  (ls : Array Slot) , lv_has ls 7 [(3, .int x3_14), (0, .ref (g.2.2.1 0))] → x_w g 1 s H locs M_43 → k290_42 M_43 = some (r, M') → W p l e (x_rm 4 101) s m args below meth c H locs 0 0 Q (F0 m 290 ls []) := by
              intro H locs M_43  ls  hl hw hf
              rw [ek290_42] at hf
              refine lv_aload_n hx hb dX11_judge_290 rfl (lv_at hl 1 rfl) ?_
              refine fg_X11_7 (k2 := 1) C hw ic1_0 rfl dX11_judge_291 ?_
              refine lv_bipush (v := (20 : Int32)) hx hb dX11_judge_294 (by decide) ?_
              refine lv_dup2_11 hx hb dX11_judge_296 rfl rfl ?_
              refine x_ald (j := 20) C hw ic1_1 (x_inl rfl) rfl dX11_judge_297 ?_
              refine lv_iconst (v := (1 : Int32)) hx hb dX11_judge_298 (by decide) ?_
              refine lv_iadd hx hb dX11_judge_299 ?_
              refine x_ast (j := 20) C hw ic1_1 (x_inl rfl) rfl dX11_judge_300 (fun H locs hw => ?_)
              obtain ⟨M_46, eM_46⟩ : ∃ z, z = (x_up M_43 1 20 ((M_43 1 20) + (1 : Int32))) := ⟨_, rfl⟩
              rw [← eM_46] at hw
              have hf := x_lE eM_46 hf
              refine lv_iload_n hx hb dX11_judge_301 rfl (lv_at hl 0 rfl) ?_
              exact ret hf dX11_judge_302 hw
            have hL_62 : ∀ (n_49 : Nat) (H : Heap) (locs : List Loc) (M_48 : xM) (x6_47 : Int32) (ls : Array Slot) , lv_has ls 7 [(3, .int x3_14), (0, .ref (g.2.2.1 0)), (1, .int a1), (6, .int x6_47)] → x_w g 1 s H locs M_48 → fX11_judge_L218 a1 x3_14 k290_42 n_49 M_48 x6_47 = some (r, M') → W p l e (x_rm 4 101) s m args below meth c H locs 0 0 Q (F0 m 218 ls []) := by
              intro n_49
              induction n_49 with
              | zero =>
                intro H locs M_48 x6_47 ls  hl hw hf
                rw [fX11_judge_L218] at hf
                cases hf
              | succ n_49 ih_50 =>
                intro H locs M_48 x6_47 ls  hl hw hf
                rw [fX11_judge_L218] at hf
                refine lv_iload hx hb dX11_judge_218 (lv_at hl 3 rfl) ?_
                refine lv_aload_n hx hb dX11_judge_220 rfl (lv_at hl 1 rfl) ?_
                refine fg_X11_7 (k2 := 1) C hw ic1_0 rfl dX11_judge_221 ?_
                refine lv_bipush (v := (19 : Int32)) hx hb dX11_judge_224 (by decide) ?_
                refine x_ald (j := 19) C hw ic1_1 (x_inl rfl) rfl dX11_judge_226 ?_
                refine lv_icmp_ge (tgt := 290) hx hb dX11_judge_227 (by decide) (fun q_52 => ?_) (fun q_52 => ?_)
                · have hf := x_iP hf q_52
                  exact hk290_42 _ _ _ _ (lv_sub hl [0, 1] rfl) hw hf
                · have hf := x_iN hf q_52
                  refine lv_aload_n hx hb dX11_judge_230 rfl (lv_at hl 1 rfl) ?_
                  refine fg_X11_7 (k2 := 1) C hw ic1_0 rfl dX11_judge_231 ?_
                  refine lv_sipush (v := (642 : Int32)) hx hb dX11_judge_234 (by decide) ?_
                  refine lv_iconst (v := (5 : Int32)) hx hb dX11_judge_237 (by decide) ?_
                  refine lv_iload hx hb dX11_judge_238 (lv_at hl 3 rfl) ?_
                  refine lv_imul hx hb dX11_judge_240 ?_
                  refine lv_iadd hx hb dX11_judge_241 ?_
                  refine lv_iconst (v := (1 : Int32)) hx hb dX11_judge_242 (by decide) ?_
                  refine lv_iadd hx hb dX11_judge_243 ?_
                  obtain ⟨q_53, hf⟩ := x_gE hf
                  refine x_ald C hw ic1_1 q_53 rfl dX11_judge_244 ?_
                  refine lv_iload_n hx hb dX11_judge_245 rfl (lv_at hl 2 rfl) ?_
                  obtain ⟨k284_54, ek284_54, hf⟩ := x_jE hf
                  have hk284_54 : ∀ (H : Heap) (locs : List Loc) (M_55 : xM)  (ls : Array Slot) , lv_has ls 7 [(3, .int x3_14), (0, .ref (g.2.2.1 0)), (1, .int a1), (6, .int x6_47)] → x_w g 1 s H locs M_55 → k284_54 M_55 = some (r, M') → W p l e (x_rm 4 101) s m args below meth c H locs 0 0 Q (F0 m 284 ls []) := by
                    intro H locs M_55  ls  hl hw hf
                    rw [ek284_54] at hf
                    obtain ⟨x6_56, ex6_56⟩ : ∃ z : Int32, z = (x6_47 + (1 : Int32)) := ⟨_, rfl⟩
                    have hf := x_lE ex6_56 hf
                    refine lv_iinc (v := x6_56) (lv' := [(6, .int x6_56), (3, .int x3_14), (0, .ref (g.2.2.1 0)), (1, .int a1)]) hx hb dX11_judge_284 hl (k := 3) rfl (by rw [ex6_56]; rfl) (by decide) rfl (fun ls hl => ?_)
                    refine lv_goto (tgt := 218) hx hb dX11_judge_287 (by decide) ?_
                    exact ih_50 _ _ _ _ _ (lv_sub hl [1, 2, 3, 0] rfl) hw hf
                  refine lv_icmp_ne (tgt := 284) hx hb dX11_judge_246 (by decide) (fun q_57 => ?_) (fun q_57 => ?_)
                  · have hf := x_iN hf q_57
                    exact hk284_54 _ _ _ _ (lv_sub hl [0, 1, 2, 3] rfl) hw hf
                  · have hf := x_iP hf q_57
                    refine lv_aload_n hx hb dX11_judge_249 rfl (lv_at hl 1 rfl) ?_
                    refine fg_X11_7 (k2 := 1) C hw ic1_0 rfl dX11_judge_250 ?_
                    refine lv_sipush (v := (642 : Int32)) hx hb dX11_judge_253 (by decide) ?_
                    refine lv_iconst (v := (5 : Int32)) hx hb dX11_judge_256 (by decide) ?_
                    refine lv_iload hx hb dX11_judge_257 (lv_at hl 3 rfl) ?_
                    refine lv_imul hx hb dX11_judge_259 ?_
                    refine lv_iadd hx hb dX11_judge_260 ?_
                    refine lv_iconst (v := (4 : Int32)) hx hb dX11_judge_261 (by decide) ?_
                    refine lv_iadd hx hb dX11_judge_262 ?_
                    obtain ⟨q_58, hf⟩ := x_gE hf
                    refine x_ald C hw ic1_1 q_58 rfl dX11_judge_263 ?_
                    refine lv_iconst (v := (-1 : Int32)) hx hb dX11_judge_264 (by decide) ?_
                    refine lv_icmp_ne (tgt := 284) hx hb dX11_judge_265 (by decide) (fun q_59 => ?_) (fun q_59 => ?_)
                    · have hf := x_iN hf q_59
                      exact hk284_54 _ _ _ _ (lv_sub hl [0, 1, 2, 3] rfl) hw hf
                    · have hf := x_iP hf q_59
                      refine lv_aload_n hx hb dX11_judge_268 rfl (lv_at hl 1 rfl) ?_
                      refine fg_X11_7 (k2 := 1) C hw ic1_0 rfl dX11_judge_269 ?_
                      refine lv_sipush (v := (642 : Int32)) hx hb dX11_judge_272 (by decide) ?_
                      refine lv_iconst (v := (5 : Int32)) hx hb dX11_judge_275 (by decide) ?_
                      refine lv_iload hx hb dX11_judge_276 (lv_at hl 3 rfl) ?_
                      refine lv_imul hx hb dX11_judge_278 ?_
                      refine lv_iadd hx hb dX11_judge_279 ?_
                      refine lv_iconst (v := (4 : Int32)) hx hb dX11_judge_280 (by decide) ?_
                      refine lv_iadd hx hb dX11_judge_281 ?_
                      refine lv_iload_n hx hb dX11_judge_282 rfl (lv_at hl 0 rfl) ?_
                      obtain ⟨q_60, hf⟩ := x_gE hf
                      refine x_ast C hw ic1_1 q_60 rfl dX11_judge_283 (fun H locs hw => ?_)
                      obtain ⟨M_61, eM_61⟩ : ∃ z, z = (x_up M_48 1 (((642 : Int32) + ((5 : Int32) * x6_47)) + (4 : Int32)).toNatClampNeg x3_14) := ⟨_, rfl⟩
                      rw [← eM_61] at hw
                      have hf := x_lE eM_61 hf
                      exact hk284_54 _ _ _ _ (lv_sub hl [0, 1, 2, 3] rfl) hw hf
            exact hL_62 _ _ _ _ _ _ (lv_sub hl [3, 5, 6, 0] rfl) hw hf
          have hL_71 : ∀ (n_65 : Nat) (H : Heap) (locs : List Loc) (M_64 : xM) (x5_63 : Int32) (ls : Array Slot) , lv_has ls 7 [(4, .int x4_15), (3, .int x3_14), (2, .int v_9), (0, .ref (g.2.2.1 0)), (1, .int a1), (5, .int x5_63)] → x_w g 1 s H locs M_64 → fX11_judge_L74 x4_15 k98_16 n_65 M_64 x5_63 = some (r, M') → W p l e (x_rm 4 101) s m args below meth c H locs 0 0 Q (F0 m 74 ls []) := by
            intro n_65
            induction n_65 with
            | zero =>
              intro H locs M_64 x5_63 ls  hl hw hf
              rw [fX11_judge_L74] at hf
              cases hf
            | succ n_65 ih_66 =>
              intro H locs M_64 x5_63 ls  hl hw hf
              rw [fX11_judge_L74] at hf
              refine lv_iload hx hb dX11_judge_74 (lv_at hl 5 rfl) ?_
              refine lv_bipush (v := (10 : Int32)) hx hb dX11_judge_76 (by decide) ?_
              refine lv_icmp_ge (tgt := 98) hx hb dX11_judge_78 (by decide) (fun q_67 => ?_) (fun q_67 => ?_)
              · have hf := x_iP hf q_67
                exact hk98_16 _ _ _ _ (lv_sub hl [0, 1, 2, 3, 4] rfl) hw hf
              · have hf := x_iN hf q_67
                refine lv_aload_n hx hb dX11_judge_81 rfl (lv_at hl 3 rfl) ?_
                refine fg_X11_7 (k2 := 1) C hw ic1_0 rfl dX11_judge_82 ?_
                refine lv_iload hx hb dX11_judge_85 (lv_at hl 0 rfl) ?_
                refine lv_iload hx hb dX11_judge_87 (lv_at hl 5 rfl) ?_
                refine lv_iadd hx hb dX11_judge_89 ?_
                refine lv_iconst (v := (0 : Int32)) hx hb dX11_judge_90 (by decide) ?_
                obtain ⟨q_68, hf⟩ := x_gE hf
                refine x_ast C hw ic1_1 q_68 rfl dX11_judge_91 (fun H locs hw => ?_)
                obtain ⟨M_69, eM_69⟩ : ∃ z, z = (x_up M_64 1 (x4_15 + x5_63).toNatClampNeg (0 : Int32)) := ⟨_, rfl⟩
                rw [← eM_69] at hw
                have hf := x_lE eM_69 hf
                obtain ⟨x5_70, ex5_70⟩ : ∃ z : Int32, z = (x5_63 + (1 : Int32)) := ⟨_, rfl⟩
                have hf := x_lE ex5_70 hf
                refine lv_iinc (v := x5_70) (lv' := [(5, .int x5_70), (4, .int x4_15), (3, .int x3_14), (2, .int v_9), (0, .ref (g.2.2.1 0)), (1, .int a1)]) hx hb dX11_judge_92 hl (k := 5) rfl (by rw [ex5_70]; rfl) (by decide) rfl (fun ls hl => ?_)
                refine lv_goto (tgt := 74) hx hb dX11_judge_95 (by decide) ?_
                exact ih_66 _ _ _ _ _ (lv_sub hl [1, 2, 3, 4, 5, 0] rfl) hw hf
          exact hL_71 _ _ _ _ _ _ (lv_sub hl [1, 2, 3, 4, 5, 0] rfl) hw hf
        · have hf := x_iP hf q_12
          refine lv_ldc hx hb hown (hB _ mk_X11_61) dX11_judge_50 ?_
          exact ret hf dX11_judge_52 hw
      · have hf := x_iP hf q_10
        refine lv_ldc hx hb hown (hB _ mk_X11_69) dX11_judge_35 ?_
        exact ret hf dX11_judge_37 hw
    · have hf := x_iP hf q_6
      refine lv_ldc hx hb hown (hB _ mk_X11_69) dX11_judge_21 ?_
      exact ret hf dX11_judge_23 hw
  · have hf := x_iP hf q_4
    refine lv_ldc hx hb hown (hB _ mk_X11_60) dX11_judge_8 ?_
    exact ret hf dX11_judge_10 hw
noncomputable def fX11_fine (M : xM) (a1 : Int32) : Option (Int32 × xM) := x_g (((792 : Int32) + ((10 : Int32) * a1)) + (2 : Int32)) 1675 (x_g (((792 : Int32) + ((10 : Int32) * a1)) + (3 : Int32)) 1675 (some (((M 1 (((792 : Int32) + ((10 : Int32) * a1)) + (2 : Int32)).toNatClampNeg) * (M 1 (((792 : Int32) + ((10 : Int32) * a1)) + (3 : Int32)).toNatClampNeg)), M)))
set_option maxRecDepth 100000 in
set_option maxHeartbeats 4000000 in
theorem mX11_fine (l : Launch) (g : xG) {a1 : Int32} {r : Int32} {M' : xM}  {M : xM} (hf : fX11_fine M a1 = some (r, M')) : x_cI l g 1 yX11_fine cX11_fine 2 .int 0 0 [.ref (g.2.2.1 0), .int a1] M (fun v N => v = r ∧ N = M') := by
  refine x_stI RX11 (by decide) rfl (Nat.le_of_ble_eq_true rfl) ?_
  intro p e s m args below meth c Q ls C hw ret hl
  obtain ⟨hx, hb, hml, hown, hB, -⟩ := id C
  have hl : lv_has ls 2 [(0, .ref (g.2.2.1 0)), (1, .int a1)] := hl
  unfold fX11_fine at hf
  refine lv_aload_n hx hb dX11_fine_0 rfl (lv_at hl 0 rfl) ?_
  refine fg_X11_7 (k2 := 1) C hw ic1_0 rfl dX11_fine_1 ?_
  refine lv_sipush (v := (792 : Int32)) hx hb dX11_fine_4 (by decide) ?_
  refine lv_bipush (v := (10 : Int32)) hx hb dX11_fine_7 (by decide) ?_
  refine lv_iload_n hx hb dX11_fine_9 rfl (lv_at hl 1 rfl) ?_
  refine lv_imul hx hb dX11_fine_10 ?_
  refine lv_iadd hx hb dX11_fine_11 ?_
  refine lv_iconst (v := (2 : Int32)) hx hb dX11_fine_12 (by decide) ?_
  refine lv_iadd hx hb dX11_fine_13 ?_
  obtain ⟨q_1, hf⟩ := x_gE hf
  refine x_ald C hw ic1_1 q_1 rfl dX11_fine_14 ?_
  refine lv_aload_n hx hb dX11_fine_15 rfl (lv_at hl 0 rfl) ?_
  refine fg_X11_7 (k2 := 1) C hw ic1_0 rfl dX11_fine_16 ?_
  refine lv_sipush (v := (792 : Int32)) hx hb dX11_fine_19 (by decide) ?_
  refine lv_bipush (v := (10 : Int32)) hx hb dX11_fine_22 (by decide) ?_
  refine lv_iload_n hx hb dX11_fine_24 rfl (lv_at hl 1 rfl) ?_
  refine lv_imul hx hb dX11_fine_25 ?_
  refine lv_iadd hx hb dX11_fine_26 ?_
  refine lv_iconst (v := (3 : Int32)) hx hb dX11_fine_27 (by decide) ?_
  refine lv_iadd hx hb dX11_fine_28 ?_
  obtain ⟨q_2, hf⟩ := x_gE hf
  refine x_ald C hw ic1_1 q_2 rfl dX11_fine_29 ?_
  refine lv_imul hx hb dX11_fine_30 ?_
  exact ret hf dX11_fine_31 hw
noncomputable def fX11_unpaid (M : xM) (a1 : Int32) : Option (Int32 × xM) := x_b (fX11_fine M a1) fun v_3 M_1 => x_g (((792 : Int32) + ((10 : Int32) * a1)) + (4 : Int32)) 1675 (x_b (fX11_more M_1 (0 : Int32) (v_3 - (M_1 1 (((792 : Int32) + ((10 : Int32) * a1)) + (4 : Int32)).toNatClampNeg))) fun v_7 M_5 => some (v_7, M_5))
set_option maxRecDepth 100000 in
set_option maxHeartbeats 4000000 in
theorem mX11_unpaid (l : Launch) (g : xG) {a1 : Int32} {r : Int32} {M' : xM}  {M : xM} (hf : fX11_unpaid M a1 = some (r, M')) : x_cI l g 1 yX11_unpaid cX11_unpaid 2 .int 1 21 [.ref (g.2.2.1 0), .int a1] M (fun v N => v = r ∧ N = M') := by
  refine x_stI RX11 (by decide) rfl (Nat.le_of_ble_eq_true rfl) ?_
  intro p e s m args below meth c Q ls C hw ret hl
  obtain ⟨hx, hb, hml, hown, hB, -⟩ := id C
  have hl : lv_has ls 2 [(0, .ref (g.2.2.1 0)), (1, .int a1)] := hl
  unfold fX11_unpaid at hf
  refine lv_iconst (v := (0 : Int32)) hx hb dX11_unpaid_0 (by decide) ?_
  refine lv_aload_n hx hb dX11_unpaid_1 rfl (lv_at hl 0 rfl) ?_
  refine lv_iload_n hx hb dX11_unpaid_2 rfl (lv_at hl 1 rfl) ?_
  obtain ⟨tv_3, tM_1, c_2, hf⟩ := x_bE hf
  refine x_vI C hw hl.1 [.int a1] [.int (0 : Int32)] (mX11_fine l g c_2) lk_X11_207 ic1_0 (by decide) rfl (by decide) rfl (Nat.le_of_ble_eq_true rfl) ⟨Nat.zero_le _, Nat.zero_le _⟩ dX11_unpaid_3 (fun v_3 M_1 H locs hN hw => ?_)
  obtain ⟨rfl, rfl⟩ := hN
  refine lv_aload_n hx hb dX11_unpaid_6 rfl (lv_at hl 0 rfl) ?_
  refine fg_X11_7 (k2 := 1) C hw ic1_0 rfl dX11_unpaid_7 ?_
  refine lv_sipush (v := (792 : Int32)) hx hb dX11_unpaid_10 (by decide) ?_
  refine lv_bipush (v := (10 : Int32)) hx hb dX11_unpaid_13 (by decide) ?_
  refine lv_iload_n hx hb dX11_unpaid_15 rfl (lv_at hl 1 rfl) ?_
  refine lv_imul hx hb dX11_unpaid_16 ?_
  refine lv_iadd hx hb dX11_unpaid_17 ?_
  refine lv_iconst (v := (4 : Int32)) hx hb dX11_unpaid_18 (by decide) ?_
  refine lv_iadd hx hb dX11_unpaid_19 ?_
  obtain ⟨q_4, hf⟩ := x_gE hf
  refine x_ald C hw ic1_1 q_4 rfl dX11_unpaid_20 ?_
  refine lv_isub hx hb dX11_unpaid_21 ?_
  obtain ⟨tv_7, tM_5, c_6, hf⟩ := x_bE hf
  refine x_sI C hw hl.1 [.int (0 : Int32), .int (v_3 - (M_1 1 (((792 : Int32) + ((10 : Int32) * a1)) + (4 : Int32)).toNatClampNeg))] [] (mX11_more l g c_6) lk_X11_75 (by decide) rfl (Nat.le_of_ble_eq_true rfl) ⟨Nat.zero_le _, Nat.zero_le _⟩ dX11_unpaid_22 (fun v_7 M_5 H locs hN hw => ?_)
  obtain ⟨rfl, rfl⟩ := hN
  exact ret hf dX11_unpaid_25 hw
noncomputable def fX11_unpaidDays (M : xM) (a1 : Int32) : Option (Int32 × xM) := x_g (((792 : Int32) + ((10 : Int32) * a1)) + (3 : Int32)) 1675 (x_l (M 1 (((792 : Int32) + ((10 : Int32) * a1)) + (3 : Int32)).toNatClampNeg) fun x2_2 => if x2_2 = 0 then (some ((0 : Int32), M)) else (x_b (fX11_unpaid M a1) fun v_6 M_4 => x_d x2_2 (some ((((v_6 + x2_2) - (1 : Int32)) / x2_2), M_4))))
set_option maxRecDepth 100000 in
set_option maxHeartbeats 4000000 in
theorem mX11_unpaidDays (l : Launch) (g : xG) {a1 : Int32} {r : Int32} {M' : xM}  {M : xM} (hf : fX11_unpaidDays M a1 = some (r, M')) : x_cI l g 1 yX11_unpaidDays cX11_unpaidDays 3 .int 2 42 [.ref (g.2.2.1 0), .int a1] M (fun v N => v = r ∧ N = M') := by
  refine x_stI RX11 (by decide) rfl (Nat.le_of_ble_eq_true rfl) ?_
  intro p e s m args below meth c Q ls C hw ret hl
  obtain ⟨hx, hb, hml, hown, hB, -⟩ := id C
  have hl : lv_has ls 3 [(0, .ref (g.2.2.1 0)), (1, .int a1)] := hl
  unfold fX11_unpaidDays at hf
  refine lv_aload_n hx hb dX11_unpaidDays_0 rfl (lv_at hl 0 rfl) ?_
  refine fg_X11_7 (k2 := 1) C hw ic1_0 rfl dX11_unpaidDays_1 ?_
  refine lv_sipush (v := (792 : Int32)) hx hb dX11_unpaidDays_4 (by decide) ?_
  refine lv_bipush (v := (10 : Int32)) hx hb dX11_unpaidDays_7 (by decide) ?_
  refine lv_iload_n hx hb dX11_unpaidDays_9 rfl (lv_at hl 1 rfl) ?_
  refine lv_imul hx hb dX11_unpaidDays_10 ?_
  refine lv_iadd hx hb dX11_unpaidDays_11 ?_
  refine lv_iconst (v := (3 : Int32)) hx hb dX11_unpaidDays_12 (by decide) ?_
  refine lv_iadd hx hb dX11_unpaidDays_13 ?_
  obtain ⟨q_1, hf⟩ := x_gE hf
  refine x_ald C hw ic1_1 q_1 rfl dX11_unpaidDays_14 ?_
  refine lv_topi (fun x2_2 ex2_2 => ?_)
  have hf := x_lE ex2_2 hf
  refine lv_istore_n (lv' := [(2, .int x2_2), (0, .ref (g.2.2.1 0)), (1, .int a1)]) hx hb dX11_unpaidDays_15 rfl hl (by decide) rfl (fun ls hl => ?_)
  refine lv_iload_n hx hb dX11_unpaidDays_16 rfl (lv_at hl 0 rfl) ?_
  refine lv_if_ne (tgt := 24) hx hb dX11_unpaidDays_17 (by decide) (fun q_3 => ?_) (fun q_3 => ?_)
  · have hf := x_iN hf q_3
    refine lv_aload_n hx hb dX11_unpaidDays_24 rfl (lv_at hl 1 rfl) ?_
    refine lv_iload_n hx hb dX11_unpaidDays_25 rfl (lv_at hl 2 rfl) ?_
    obtain ⟨tv_6, tM_4, c_5, hf⟩ := x_bE hf
    refine x_vI C hw hl.1 [.int a1] [] (mX11_unpaid l g c_5) lk_X11_210 ic1_0 (by decide) rfl (by decide) rfl (Nat.le_of_ble_eq_true rfl) ⟨Nat.zero_le _, Nat.zero_le _⟩ dX11_unpaidDays_26 (fun v_6 M_4 H locs hN hw => ?_)
    obtain ⟨rfl, rfl⟩ := hN
    refine lv_iload_n hx hb dX11_unpaidDays_29 rfl (lv_at hl 0 rfl) ?_
    refine lv_iadd hx hb dX11_unpaidDays_30 ?_
    refine lv_iconst (v := (1 : Int32)) hx hb dX11_unpaidDays_31 (by decide) ?_
    refine lv_isub hx hb dX11_unpaidDays_32 ?_
    refine lv_iload_n hx hb dX11_unpaidDays_33 rfl (lv_at hl 0 rfl) ?_
    obtain ⟨q_7, hf⟩ := x_dE hf
    refine lv_idiv hx hb dX11_unpaidDays_34 q_7 ?_
    exact ret hf dX11_unpaidDays_35 hw
  · have hf := x_iP hf q_3
    refine lv_iconst (v := (0 : Int32)) hx hb dX11_unpaidDays_20 (by decide) ?_
    refine lv_goto (tgt := 35) hx hb dX11_unpaidDays_21 (by decide) ?_
    exact ret hf dX11_unpaidDays_35 hw
noncomputable def fX11_deedsOf_L5 (a1 : Int32) (a2 : Int32) : Nat → xM → Int32 → Int32 → Option (Int32 × xM)
  | 0, _, _, _ => none
  | n_4 + 1, M_3, x3_1, x4_2 => if (M_3 1 19) ≤ x4_2 then (some (x3_1, M_3)) else (x_g (((642 : Int32) + ((5 : Int32) * x4_2)) + (4 : Int32)) 1675 (x_l (fun (M_11 : xM) (z_9 : Int32) => x_l (x3_1 + z_9) fun x3_12 => x_l (x4_2 + (1 : Int32)) fun x4_13 => fX11_deedsOf_L5 a1 a2 n_4 M_11 x3_12 x4_13) fun k64_10 => x_l (fun (M_15 : xM) => k64_10 M_15 (0 : Int32)) fun k63_14 => if (M_3 1 (((642 : Int32) + ((5 : Int32) * x4_2)) + (4 : Int32)).toNatClampNeg) = a1 then (x_l (fun (M_18 : xM) => k64_10 M_18 (1 : Int32)) fun k59_17 => if a2 = (-1 : Int32) then (k59_17 M_3) else (x_g ((642 : Int32) + ((5 : Int32) * x4_2)) 1675 (if (M_3 1 ((642 : Int32) + ((5 : Int32) * x4_2)).toNatClampNeg) = a2 then (k59_17 M_3) else (k63_14 M_3)))) else (k63_14 M_3)))
noncomputable def fX11_deedsOf (M : xM) (a1 : Int32) (a2 : Int32) : Option (Int32 × xM) := fX11_deedsOf_L5 a1 a2 x_FU M (0 : Int32) (0 : Int32)
set_option maxRecDepth 100000 in
set_option maxHeartbeats 4000000 in
theorem mX11_deedsOf (l : Launch) (g : xG) {a1 : Int32} {a2 : Int32} {r : Int32} {M' : xM}  {M : xM} (hf : fX11_deedsOf M a1 a2 = some (r, M')) : x_cI l g 1 yX11_deedsOf cX11_deedsOf 5 .int 0 0 [.ref (g.2.2.1 0), .int a1, .int a2] M (fun v N => v = r ∧ N = M') := by
  refine x_stI RX11 (by decide) rfl (Nat.le_of_ble_eq_true rfl) ?_
  intro p e s m args below meth c Q ls C hw ret hl
  obtain ⟨hx, hb, hml, hown, hB, -⟩ := id C
  have hl : lv_has ls 5 [(0, .ref (g.2.2.1 0)), (1, .int a1), (2, .int a2)] := hl
  unfold fX11_deedsOf at hf
  refine lv_iconst (v := (0 : Int32)) hx hb dX11_deedsOf_0 (by decide) ?_
  refine lv_istore_n (lv' := [(3, .int (0 : Int32)), (0, .ref (g.2.2.1 0)), (1, .int a1), (2, .int a2)]) hx hb dX11_deedsOf_1 rfl hl (by decide) rfl (fun ls hl => ?_)
  refine lv_iconst (v := (0 : Int32)) hx hb dX11_deedsOf_2 (by decide) ?_
  refine lv_istore (lv' := [(4, .int (0 : Int32)), (3, .int (0 : Int32)), (0, .ref (g.2.2.1 0)), (1, .int a1), (2, .int a2)]) hx hb dX11_deedsOf_3 hl (by decide) rfl (fun ls hl => ?_)
  have hL_22 : ∀ (n_4 : Nat) (H : Heap) (locs : List Loc) (M_3 : xM) (x3_1 : Int32) (x4_2 : Int32) (ls : Array Slot) , lv_has ls 5 [(0, .ref (g.2.2.1 0)), (1, .int a1), (2, .int a2), (3, .int x3_1), (4, .int x4_2)] → x_w g 1 s H locs M_3 → fX11_deedsOf_L5 a1 a2 n_4 M_3 x3_1 x4_2 = some (r, M') → W p l e (x_rm 0 0) s m args below meth c H locs 0 0 Q (F0 m 5 ls []) := by
    intro n_4
    induction n_4 with
    | zero =>
      intro H locs M_3 x3_1 x4_2 ls  hl hw hf
      rw [fX11_deedsOf_L5] at hf
      cases hf
    | succ n_4 ih_5 =>
      intro H locs M_3 x3_1 x4_2 ls  hl hw hf
      rw [fX11_deedsOf_L5] at hf
      refine lv_iload hx hb dX11_deedsOf_5 (lv_at hl 4 rfl) ?_
      refine lv_aload_n hx hb dX11_deedsOf_7 rfl (lv_at hl 0 rfl) ?_
      refine fg_X11_7 (k2 := 1) C hw ic1_0 rfl dX11_deedsOf_8 ?_
      refine lv_bipush (v := (19 : Int32)) hx hb dX11_deedsOf_11 (by decide) ?_
      refine x_ald (j := 19) C hw ic1_1 (x_inl rfl) rfl dX11_deedsOf_13 ?_
      refine lv_icmp_ge (tgt := 72) hx hb dX11_deedsOf_14 (by decide) (fun q_7 => ?_) (fun q_7 => ?_)
      · have hf := x_iP hf q_7
        refine lv_iload_n hx hb dX11_deedsOf_72 rfl (lv_at hl 3 rfl) ?_
        exact ret hf dX11_deedsOf_73 hw
      · have hf := x_iN hf q_7
        refine lv_iload_n hx hb dX11_deedsOf_17 rfl (lv_at hl 3 rfl) ?_
        refine lv_aload_n hx hb dX11_deedsOf_18 rfl (lv_at hl 0 rfl) ?_
        refine fg_X11_7 (k2 := 1) C hw ic1_0 rfl dX11_deedsOf_19 ?_
        refine lv_sipush (v := (642 : Int32)) hx hb dX11_deedsOf_22 (by decide) ?_
        refine lv_iconst (v := (5 : Int32)) hx hb dX11_deedsOf_25 (by decide) ?_
        refine lv_iload hx hb dX11_deedsOf_26 (lv_at hl 4 rfl) ?_
        refine lv_imul hx hb dX11_deedsOf_28 ?_
        refine lv_iadd hx hb dX11_deedsOf_29 ?_
        refine lv_iconst (v := (4 : Int32)) hx hb dX11_deedsOf_30 (by decide) ?_
        refine lv_iadd hx hb dX11_deedsOf_31 ?_
        obtain ⟨q_8, hf⟩ := x_gE hf
        refine x_ald C hw ic1_1 q_8 rfl dX11_deedsOf_32 ?_
        refine lv_iload_n hx hb dX11_deedsOf_33 rfl (lv_at hl 1 rfl) ?_
        obtain ⟨k64_10, ek64_10, hf⟩ := x_jE hf
        have hk64_10 : ∀ (H : Heap) (locs : List Loc) (M_11 : xM) (z_9 : Int32) (ls : Array Slot) , lv_has ls 5 [(0, .ref (g.2.2.1 0)), (1, .int a1), (2, .int a2), (4, .int x4_2)] → x_w g 1 s H locs M_11 → k64_10 M_11 z_9 = some (r, M') → W p l e (x_rm 0 0) s m args below meth c H locs 0 0 Q (F0 m 64 ls [.int z_9, .int x3_1]) := by
          intro H locs M_11 z_9 ls  hl hw hf
          rw [ek64_10] at hf
          refine lv_iadd hx hb dX11_deedsOf_64 ?_
          refine lv_topi (fun x3_12 ex3_12 => ?_)
          have hf := x_lE ex3_12 hf
          refine lv_istore_n (lv' := [(3, .int x3_12), (0, .ref (g.2.2.1 0)), (1, .int a1), (2, .int a2), (4, .int x4_2)]) hx hb dX11_deedsOf_65 rfl hl (by decide) rfl (fun ls hl => ?_)
          obtain ⟨x4_13, ex4_13⟩ : ∃ z : Int32, z = (x4_2 + (1 : Int32)) := ⟨_, rfl⟩
          have hf := x_lE ex4_13 hf
          refine lv_iinc (v := x4_13) (lv' := [(4, .int x4_13), (3, .int x3_12), (0, .ref (g.2.2.1 0)), (1, .int a1), (2, .int a2)]) hx hb dX11_deedsOf_66 hl (k := 4) rfl (by rw [ex4_13]; rfl) (by decide) rfl (fun ls hl => ?_)
          refine lv_goto (tgt := 5) hx hb dX11_deedsOf_69 (by decide) ?_
          exact ih_5 _ _ _ _ _ _ (lv_sub hl [2, 3, 4, 1, 0] rfl) hw hf
        obtain ⟨k63_14, ek63_14, hf⟩ := x_jE hf
        have hk63_14 : ∀ (H : Heap) (locs : List Loc) (M_15 : xM)  (ls : Array Slot) , lv_has ls 5 [(0, .ref (g.2.2.1 0)), (1, .int a1), (2, .int a2), (4, .int x4_2)] → x_w g 1 s H locs M_15 → k63_14 M_15 = some (r, M') → W p l e (x_rm 0 0) s m args below meth c H locs 0 0 Q (F0 m 63 ls [.int x3_1]) := by
          intro H locs M_15  ls  hl hw hf
          rw [ek63_14] at hf
          refine lv_iconst (v := (0 : Int32)) hx hb dX11_deedsOf_63 (by decide) ?_
          exact hk64_10 _ _ _ _ _ (lv_sub hl [0, 1, 2, 3] rfl) hw hf
        refine lv_icmp_ne (tgt := 63) hx hb dX11_deedsOf_34 (by decide) (fun q_16 => ?_) (fun q_16 => ?_)
        · have hf := x_iN hf q_16
          exact hk63_14 _ _ _ _ (lv_sub hl [0, 1, 2, 4] rfl) hw hf
        · have hf := x_iP hf q_16
          refine lv_iload_n hx hb dX11_deedsOf_37 rfl (lv_at hl 2 rfl) ?_
          refine lv_iconst (v := (-1 : Int32)) hx hb dX11_deedsOf_38 (by decide) ?_
          obtain ⟨k59_17, ek59_17, hf⟩ := x_jE hf
          have hk59_17 : ∀ (H : Heap) (locs : List Loc) (M_18 : xM)  (ls : Array Slot) , lv_has ls 5 [(0, .ref (g.2.2.1 0)), (1, .int a1), (2, .int a2), (4, .int x4_2)] → x_w g 1 s H locs M_18 → k59_17 M_18 = some (r, M') → W p l e (x_rm 0 0) s m args below meth c H locs 0 0 Q (F0 m 59 ls [.int x3_1]) := by
            intro H locs M_18  ls  hl hw hf
            rw [ek59_17] at hf
            refine lv_iconst (v := (1 : Int32)) hx hb dX11_deedsOf_59 (by decide) ?_
            refine lv_goto (tgt := 64) hx hb dX11_deedsOf_60 (by decide) ?_
            exact hk64_10 _ _ _ _ _ (lv_sub hl [0, 1, 2, 3] rfl) hw hf
          refine lv_icmp_eq (tgt := 59) hx hb dX11_deedsOf_39 (by decide) (fun q_19 => ?_) (fun q_19 => ?_)
          · have hf := x_iP hf q_19
            exact hk59_17 _ _ _ _ (lv_sub hl [0, 1, 2, 4] rfl) hw hf
          · have hf := x_iN hf q_19
            refine lv_aload_n hx hb dX11_deedsOf_42 rfl (lv_at hl 0 rfl) ?_
            refine fg_X11_7 (k2 := 1) C hw ic1_0 rfl dX11_deedsOf_43 ?_
            refine lv_sipush (v := (642 : Int32)) hx hb dX11_deedsOf_46 (by decide) ?_
            refine lv_iconst (v := (5 : Int32)) hx hb dX11_deedsOf_49 (by decide) ?_
            refine lv_iload hx hb dX11_deedsOf_50 (lv_at hl 4 rfl) ?_
            refine lv_imul hx hb dX11_deedsOf_52 ?_
            refine lv_iadd hx hb dX11_deedsOf_53 ?_
            obtain ⟨q_20, hf⟩ := x_gE hf
            refine x_ald C hw ic1_1 q_20 rfl dX11_deedsOf_54 ?_
            refine lv_iload_n hx hb dX11_deedsOf_55 rfl (lv_at hl 2 rfl) ?_
            refine lv_icmp_ne (tgt := 63) hx hb dX11_deedsOf_56 (by decide) (fun q_21 => ?_) (fun q_21 => ?_)
            · have hf := x_iN hf q_21
              exact hk63_14 _ _ _ _ (lv_sub hl [0, 1, 2, 4] rfl) hw hf
            · have hf := x_iP hf q_21
              exact hk59_17 _ _ _ _ (lv_sub hl [0, 1, 2, 4] rfl) hw hf
  exact hL_22 _ _ _ _ _ _ _ (lv_sub hl [2, 3, 4, 1, 0] rfl) hw hf
noncomputable def fX11_flatOf_L4 (a1 : Int32) : Nat → xM → Int32 → Int32 → Option (Int32 × xM)
  | 0, _, _, _ => none
  | n_4 + 1, M_3, x2_1, x3_2 => if (4 : Int32) ≤ x3_2 then (some (x2_1, M_3)) else (x_b (fX11_deedsOf M_3 a1 x3_2) fun v_9 M_7 => x_g ((24 : Int32) + x3_2) 1675 (x_l (x2_1 + (v_9 * (M_7 1 ((24 : Int32) + x3_2).toNatClampNeg))) fun x2_11 => x_l (x3_2 + (1 : Int32)) fun x3_12 => fX11_flatOf_L4 a1 n_4 M_7 x2_11 x3_12))
noncomputable def fX11_flatOf (M : xM) (a1 : Int32) : Option (Int32 × xM) := fX11_flatOf_L4 a1 x_FU M (0 : Int32) (0 : Int32)
set_option maxRecDepth 100000 in
set_option maxHeartbeats 4000000 in
theorem mX11_flatOf (l : Launch) (g : xG) {a1 : Int32} {r : Int32} {M' : xM}  {M : xM} (hf : fX11_flatOf M a1 = some (r, M')) : x_cI l g 1 yX11_flatOf cX11_flatOf 4 .int 1 24 [.ref (g.2.2.1 0), .int a1] M (fun v N => v = r ∧ N = M') := by
  refine x_stI RX11 (by decide) rfl (Nat.le_of_ble_eq_true rfl) ?_
  intro p e s m args below meth c Q ls C hw ret hl
  obtain ⟨hx, hb, hml, hown, hB, -⟩ := id C
  have hl : lv_has ls 4 [(0, .ref (g.2.2.1 0)), (1, .int a1)] := hl
  unfold fX11_flatOf at hf
  refine lv_iconst (v := (0 : Int32)) hx hb dX11_flatOf_0 (by decide) ?_
  refine lv_istore_n (lv' := [(2, .int (0 : Int32)), (0, .ref (g.2.2.1 0)), (1, .int a1)]) hx hb dX11_flatOf_1 rfl hl (by decide) rfl (fun ls hl => ?_)
  refine lv_iconst (v := (0 : Int32)) hx hb dX11_flatOf_2 (by decide) ?_
  refine lv_istore_n (lv' := [(3, .int (0 : Int32)), (2, .int (0 : Int32)), (0, .ref (g.2.2.1 0)), (1, .int a1)]) hx hb dX11_flatOf_3 rfl hl (by decide) rfl (fun ls hl => ?_)
  have hL_13 : ∀ (n_4 : Nat) (H : Heap) (locs : List Loc) (M_3 : xM) (x2_1 : Int32) (x3_2 : Int32) (ls : Array Slot) , lv_has ls 4 [(0, .ref (g.2.2.1 0)), (1, .int a1), (2, .int x2_1), (3, .int x3_2)] → x_w g 1 s H locs M_3 → fX11_flatOf_L4 a1 n_4 M_3 x2_1 x3_2 = some (r, M') → W p l e (x_rm 1 24) s m args below meth c H locs 0 0 Q (F0 m 4 ls []) := by
    intro n_4
    induction n_4 with
    | zero =>
      intro H locs M_3 x2_1 x3_2 ls  hl hw hf
      rw [fX11_flatOf_L4] at hf
      cases hf
    | succ n_4 ih_5 =>
      intro H locs M_3 x2_1 x3_2 ls  hl hw hf
      rw [fX11_flatOf_L4] at hf
      refine lv_iload_n hx hb dX11_flatOf_4 rfl (lv_at hl 3 rfl) ?_
      refine lv_iconst (v := (4 : Int32)) hx hb dX11_flatOf_5 (by decide) ?_
      refine lv_icmp_ge (tgt := 34) hx hb dX11_flatOf_6 (by decide) (fun q_6 => ?_) (fun q_6 => ?_)
      · have hf := x_iP hf q_6
        refine lv_iload_n hx hb dX11_flatOf_34 rfl (lv_at hl 2 rfl) ?_
        exact ret hf dX11_flatOf_35 hw
      · have hf := x_iN hf q_6
        refine lv_iload_n hx hb dX11_flatOf_9 rfl (lv_at hl 2 rfl) ?_
        refine lv_aload_n hx hb dX11_flatOf_10 rfl (lv_at hl 0 rfl) ?_
        refine lv_iload_n hx hb dX11_flatOf_11 rfl (lv_at hl 1 rfl) ?_
        refine lv_iload_n hx hb dX11_flatOf_12 rfl (lv_at hl 3 rfl) ?_
        obtain ⟨tv_9, tM_7, c_8, hf⟩ := x_bE hf
        refine x_vI C hw hl.1 [.int a1, .int x3_2] [.int x2_1] (mX11_deedsOf l g c_8) lk_X11_213 ic1_0 (by decide) rfl (by decide) rfl (Nat.le_of_ble_eq_true rfl) ⟨Nat.zero_le _, Nat.zero_le _⟩ dX11_flatOf_13 (fun v_9 M_7 H locs hN hw => ?_)
        obtain ⟨rfl, rfl⟩ := hN
        refine lv_aload_n hx hb dX11_flatOf_16 rfl (lv_at hl 0 rfl) ?_
        refine fg_X11_7 (k2 := 1) C hw ic1_0 rfl dX11_flatOf_17 ?_
        refine lv_bipush (v := (24 : Int32)) hx hb dX11_flatOf_20 (by decide) ?_
        refine lv_iload_n hx hb dX11_flatOf_22 rfl (lv_at hl 3 rfl) ?_
        refine lv_iadd hx hb dX11_flatOf_23 ?_
        obtain ⟨q_10, hf⟩ := x_gE hf
        refine x_ald C hw ic1_1 q_10 rfl dX11_flatOf_24 ?_
        refine lv_imul hx hb dX11_flatOf_25 ?_
        refine lv_iadd hx hb dX11_flatOf_26 ?_
        refine lv_topi (fun x2_11 ex2_11 => ?_)
        have hf := x_lE ex2_11 hf
        refine lv_istore_n (lv' := [(2, .int x2_11), (0, .ref (g.2.2.1 0)), (1, .int a1), (3, .int x3_2)]) hx hb dX11_flatOf_27 rfl hl (by decide) rfl (fun ls hl => ?_)
        obtain ⟨x3_12, ex3_12⟩ : ∃ z : Int32, z = (x3_2 + (1 : Int32)) := ⟨_, rfl⟩
        have hf := x_lE ex3_12 hf
        refine lv_iinc (v := x3_12) (lv' := [(3, .int x3_12), (2, .int x2_11), (0, .ref (g.2.2.1 0)), (1, .int a1)]) hx hb dX11_flatOf_28 hl (k := 3) rfl (by rw [ex3_12]; rfl) (by decide) rfl (fun ls hl => ?_)
        refine lv_goto (tgt := 4) hx hb dX11_flatOf_31 (by decide) ?_
        exact ih_5 _ _ _ _ _ _ (lv_sub hl [2, 3, 1, 0] rfl) hw hf
  exact hL_13 _ _ _ _ _ _ _ (lv_sub hl [2, 3, 1, 0] rfl) hw hf
noncomputable def fX11_share (M : xM) (a1 : Int32) (a2 : Int32) : Option (Int32 × xM) := x_g ((792 : Int32) + ((10 : Int32) * a1)) 1675 (x_l (M 1 ((792 : Int32) + ((10 : Int32) * a1)).toNatClampNeg) fun x3_2 => x_g (((792 : Int32) + ((10 : Int32) * a1)) + (1 : Int32)) 1675 (x_l (M 1 (((792 : Int32) + ((10 : Int32) * a1)) + (1 : Int32)).toNatClampNeg) fun x4_4 => x_b (fX11_earns M x3_2 x4_4 x4_4) fun v_7 M_5 => x_b (fX11_more M_5 (1 : Int32) v_7) fun v_10 M_8 => x_dL (v_10.toInt64) (x_l (((1000 : Int64) * (a2.toInt64)) / (v_10.toInt64)) fun x5_12 => if (lg_cmp x5_12 (9999999 : Int64)) ≤ 0 then (some ((x5_12.toInt32), M_8)) else (some ((9999999 : Int32), M_8)))))
set_option maxRecDepth 100000 in
set_option maxHeartbeats 4000000 in
theorem mX11_share (l : Launch) (g : xG) {a1 : Int32} {a2 : Int32} {r : Int32} {M' : xM}  {M : xM} (hf : fX11_share M a1 a2 = some (r, M')) : x_cI l g 1 yX11_share cX11_share 7 .int 3 78 [.ref (g.2.2.1 0), .int a1, .int a2] M (fun v N => v = r ∧ N = M') := by
  refine x_stI RX11 (by decide) rfl (Nat.le_of_ble_eq_true rfl) ?_
  intro p e s m args below meth c Q ls C hw ret hl
  obtain ⟨hx, hb, hml, hown, hB, -⟩ := id C
  have hl : lv_has ls 7 [(0, .ref (g.2.2.1 0)), (1, .int a1), (2, .int a2)] := hl
  unfold fX11_share at hf
  refine lv_aload_n hx hb dX11_share_0 rfl (lv_at hl 0 rfl) ?_
  refine fg_X11_7 (k2 := 1) C hw ic1_0 rfl dX11_share_1 ?_
  refine lv_sipush (v := (792 : Int32)) hx hb dX11_share_4 (by decide) ?_
  refine lv_bipush (v := (10 : Int32)) hx hb dX11_share_7 (by decide) ?_
  refine lv_iload_n hx hb dX11_share_9 rfl (lv_at hl 1 rfl) ?_
  refine lv_imul hx hb dX11_share_10 ?_
  refine lv_iadd hx hb dX11_share_11 ?_
  obtain ⟨q_1, hf⟩ := x_gE hf
  refine x_ald C hw ic1_1 q_1 rfl dX11_share_12 ?_
  refine lv_topi (fun x3_2 ex3_2 => ?_)
  have hf := x_lE ex3_2 hf
  refine lv_istore_n (lv' := [(3, .int x3_2), (0, .ref (g.2.2.1 0)), (1, .int a1), (2, .int a2)]) hx hb dX11_share_13 rfl hl (by decide) rfl (fun ls hl => ?_)
  refine lv_aload_n hx hb dX11_share_14 rfl (lv_at hl 1 rfl) ?_
  refine fg_X11_7 (k2 := 1) C hw ic1_0 rfl dX11_share_15 ?_
  refine lv_sipush (v := (792 : Int32)) hx hb dX11_share_18 (by decide) ?_
  refine lv_bipush (v := (10 : Int32)) hx hb dX11_share_21 (by decide) ?_
  refine lv_iload_n hx hb dX11_share_23 rfl (lv_at hl 2 rfl) ?_
  refine lv_imul hx hb dX11_share_24 ?_
  refine lv_iadd hx hb dX11_share_25 ?_
  refine lv_iconst (v := (1 : Int32)) hx hb dX11_share_26 (by decide) ?_
  refine lv_iadd hx hb dX11_share_27 ?_
  obtain ⟨q_3, hf⟩ := x_gE hf
  refine x_ald C hw ic1_1 q_3 rfl dX11_share_28 ?_
  refine lv_topi (fun x4_4 ex4_4 => ?_)
  have hf := x_lE ex4_4 hf
  refine lv_istore (lv' := [(4, .int x4_4), (3, .int x3_2), (0, .ref (g.2.2.1 0)), (1, .int a1), (2, .int a2)]) hx hb dX11_share_29 hl (by decide) rfl (fun ls hl => ?_)
  refine lv_ldc2 hx hb hown (hB _ mkl_X11_216) dX11_share_31 ?_
  refine lv_iload_n hx hb dX11_share_34 rfl (lv_at hl 4 rfl) ?_
  refine lv_i2l hx hb dX11_share_35 rfl ?_
  refine lv_lmul hx hb dX11_share_36 ?_
  refine lv_iconst (v := (1 : Int32)) hx hb dX11_share_37 (by decide) ?_
  refine lv_aload_n hx hb dX11_share_38 rfl (lv_at hl 2 rfl) ?_
  refine lv_iload_n hx hb dX11_share_39 rfl (lv_at hl 1 rfl) ?_
  refine lv_iload hx hb dX11_share_40 (lv_at hl 0 rfl) ?_
  refine lv_iload hx hb dX11_share_42 (lv_at hl 0 rfl) ?_
  obtain ⟨tv_7, tM_5, c_6, hf⟩ := x_bE hf
  refine x_vI C hw hl.1 [.int x3_2, .int x4_4, .int x4_4] [.int (1 : Int32), .long ((1000 : Int64) * (a2.toInt64))] (mX11_earns l g c_6) lk_X11_83 ic1_0 (by decide) rfl (by decide) rfl (Nat.le_of_ble_eq_true rfl) ⟨Nat.zero_le _, Nat.zero_le _⟩ dX11_share_44 (fun v_7 M_5 H locs hN hw => ?_)
  obtain ⟨rfl, rfl⟩ := hN
  obtain ⟨tv_10, tM_8, c_9, hf⟩ := x_bE hf
  refine x_sI C hw hl.1 [.int (1 : Int32), .int v_7] [.long ((1000 : Int64) * (a2.toInt64))] (mX11_more l g c_9) lk_X11_75 (by decide) rfl (Nat.le_of_ble_eq_true rfl) ⟨Nat.zero_le _, Nat.zero_le _⟩ dX11_share_47 (fun v_10 M_8 H locs hN hw => ?_)
  obtain ⟨rfl, rfl⟩ := hN
  refine lv_i2l hx hb dX11_share_50 rfl ?_
  obtain ⟨q_11, hf⟩ := x_dLE hf
  refine lv_ldiv hx hb dX11_share_51 q_11 ?_
  refine lv_topl (fun x5_12 ex5_12 => ?_)
  have hf := x_lE ex5_12 hf
  refine lv_lstore (lv' := [(5, .long x5_12), (4, .int x4_4), (3, .int x3_2), (0, .ref (g.2.2.1 0)), (1, .int a1), (2, .int a2)]) hx hb dX11_share_52 hl (by decide) rfl (fun ls hl => ?_)
  refine lv_lload hx hb dX11_share_54 (lv_at hl 0 rfl) ?_
  refine lv_ldc2 hx hb hown (hB _ mkl_X11_218) dX11_share_56 ?_
  refine W.lcmp hx hb dX11_share_59 ?_
  refine lv_if_le (tgt := 68) hx hb dX11_share_60 (by decide) (fun q_13 => ?_) (fun q_13 => ?_)
  · have hf := x_iP hf q_13
    refine lv_lload hx hb dX11_share_68 (lv_at hl 0 rfl) ?_
    refine lv_l2i hx hb dX11_share_70 rfl ?_
    exact ret hf dX11_share_71 hw
  · have hf := x_iN hf q_13
    refine lv_ldc hx hb hown (hB _ mk_X11_220) dX11_share_63 ?_
    refine lv_goto (tgt := 71) hx hb dX11_share_65 (by decide) ?_
    exact ret hf dX11_share_71 hw
noncomputable def fX11_about (M : xM) (a1 : Int32) (a2 : Int32) : Option (Int32 × xM) := x_b (fX11_isJudgment M a1) fun v_3 M_1 => if v_3 = 0 then (some ((-1000000001 : Int32), M_1)) else (x_b (fX11_in M_1 a2 (0 : Int32) (13 : Int32)) fun v_7 M_5 => if v_7 = 0 then (some ((-1000000001 : Int32), M_5)) else (x_l ((792 : Int32) + ((10 : Int32) * a1)) fun x3_9 => if a2 = (0 : Int32) then (x_g x3_9 1675 (some ((M_5 1 x3_9.toNatClampNeg), M_5))) else (if a2 = (1 : Int32) then (x_g (x3_9 + (1 : Int32)) 1675 (some ((M_5 1 (x3_9 + (1 : Int32)).toNatClampNeg), M_5))) else (if a2 = (2 : Int32) then (x_g (x3_9 + (2 : Int32)) 1675 (some ((M_5 1 (x3_9 + (2 : Int32)).toNatClampNeg), M_5))) else (if a2 = (3 : Int32) then (x_g (x3_9 + (3 : Int32)) 1675 (some ((M_5 1 (x3_9 + (3 : Int32)).toNatClampNeg), M_5))) else (if a2 = (4 : Int32) then (x_b (fX11_fine M_5 a1) fun v_21 M_19 => some (v_21, M_19)) else (if a2 = (5 : Int32) then (x_g (x3_9 + (4 : Int32)) 1675 (some ((M_5 1 (x3_9 + (4 : Int32)).toNatClampNeg), M_5))) else (if a2 = (6 : Int32) then (x_b (fX11_unpaid M_5 a1) fun v_27 M_25 => some (v_27, M_25)) else (if a2 = (7 : Int32) then (x_b (fX11_unpaidDays M_5 a1) fun v_31 M_29 => some (v_31, M_29)) else (if a2 = (8 : Int32) then (x_g (x3_9 + (5 : Int32)) 1675 (some ((M_5 1 (x3_9 + (5 : Int32)).toNatClampNeg), M_5))) else (if a2 = (9 : Int32) then (x_g (x3_9 + (7 : Int32)) 1675 (some ((M_5 1 (x3_9 + (7 : Int32)).toNatClampNeg), M_5))) else (if a2 = (10 : Int32) then (x_b (fX11_deedsOf M_5 a1 (-1 : Int32)) fun v_39 M_37 => some (v_39, M_37)) else (if a2 = (11 : Int32) then (x_b (fX11_fine M_5 a1) fun v_43 M_41 => x_b (fX11_share M_41 a1 v_43) fun v_46 M_44 => some (v_46, M_44)) else (if a2 = (12 : Int32) then (x_b (fX11_flatOf M_5 a1) fun v_50 M_48 => x_b (fX11_share M_48 a1 v_50) fun v_53 M_51 => some (v_53, M_51)) else (x_g (x3_9 + (1 : Int32)) 1675 (some (((M_5 1 (x3_9 + (1 : Int32)).toNatClampNeg) + (M_5 1 13)), M_5)))))))))))))))))
set_option maxRecDepth 100000 in
set_option maxHeartbeats 4000000 in
theorem mX11_about (l : Launch) (g : xG) {a1 : Int32} {a2 : Int32} {r : Int32} {M' : xM}  {M : xM} (hf : fX11_about M a1 a2 = some (r, M')) : x_cI l g 1 yX11_about cX11_about 4 .int 4 104 [.ref (g.2.2.1 0), .int a1, .int a2] M (fun v N => v = r ∧ N = M') := by
  refine x_stI RX11 (by decide) rfl (Nat.le_of_ble_eq_true rfl) ?_
  intro p e s m args below meth c Q ls C hw ret hl
  obtain ⟨hx, hb, hml, hown, hB, -⟩ := id C
  have hl : lv_has ls 4 [(0, .ref (g.2.2.1 0)), (1, .int a1), (2, .int a2)] := hl
  unfold fX11_about at hf
  refine lv_aload_n hx hb dX11_about_0 rfl (lv_at hl 0 rfl) ?_
  refine lv_iload_n hx hb dX11_about_1 rfl (lv_at hl 1 rfl) ?_
  obtain ⟨tv_3, tM_1, c_2, hf⟩ := x_bE hf
  refine x_vI C hw hl.1 [.int a1] [] (mX11_isJudgment l g c_2) lk_X11_221 ic1_0 (by decide) rfl (by decide) rfl (Nat.le_of_ble_eq_true rfl) ⟨Nat.zero_le _, Nat.zero_le _⟩ dX11_about_2 (fun v_3 M_1 H locs hN hw => ?_)
  obtain ⟨rfl, rfl⟩ := hN
  refine lv_if_eq (tgt := 18) hx hb dX11_about_5 (by decide) (fun q_4 => ?_) (fun q_4 => ?_)
  · have hf := x_iP hf q_4
    refine lv_ldc hx hb hown (hB _ mk_X11_60) dX11_about_18 ?_
    exact ret hf dX11_about_20 hw
  · have hf := x_iN hf q_4
    refine lv_iload_n hx hb dX11_about_8 rfl (lv_at hl 2 rfl) ?_
    refine lv_iconst (v := (0 : Int32)) hx hb dX11_about_9 (by decide) ?_
    refine lv_bipush (v := (13 : Int32)) hx hb dX11_about_10 (by decide) ?_
    obtain ⟨tv_7, tM_5, c_6, hf⟩ := x_bE hf
    refine x_sI C hw hl.1 [.int a2, .int (0 : Int32), .int (13 : Int32)] [] (mX11_in l g c_6) lk_X11_56 (by decide) rfl (Nat.le_of_ble_eq_true rfl) ⟨Nat.zero_le _, Nat.zero_le _⟩ dX11_about_12 (fun v_7 M_5 H locs hN hw => ?_)
    obtain ⟨rfl, rfl⟩ := hN
    refine lv_if_ne (tgt := 21) hx hb dX11_about_15 (by decide) (fun q_8 => ?_) (fun q_8 => ?_)
    · have hf := x_iN hf q_8
      refine lv_sipush (v := (792 : Int32)) hx hb dX11_about_21 (by decide) ?_
      refine lv_bipush (v := (10 : Int32)) hx hb dX11_about_24 (by decide) ?_
      refine lv_iload_n hx hb dX11_about_26 rfl (lv_at hl 1 rfl) ?_
      refine lv_imul hx hb dX11_about_27 ?_
      refine lv_iadd hx hb dX11_about_28 ?_
      refine lv_topi (fun x3_9 ex3_9 => ?_)
      have hf := x_lE ex3_9 hf
      refine lv_istore_n (lv' := [(3, .int x3_9), (0, .ref (g.2.2.1 0)), (1, .int a1), (2, .int a2)]) hx hb dX11_about_29 rfl hl (by decide) rfl (fun ls hl => ?_)
      refine lv_iload_n hx hb dX11_about_30 rfl (lv_at hl 3 rfl) ?_
      by_cases q_10 : a2 = (0 : Int32)
      · have hf := x_iP hf q_10
        refine lv_tableIn (off := 65) (tgt := 96) hx hb dX11_about_31 (by rw [q_10]; decide) (by rw [q_10]; decide) (by rw [q_10]; rfl) (by decide) ?_
        refine lv_aload_n hx hb dX11_about_96 rfl (lv_at hl 1 rfl) ?_
        refine fg_X11_7 (k2 := 1) C hw ic1_0 rfl dX11_about_97 ?_
        refine lv_iload_n hx hb dX11_about_100 rfl (lv_at hl 0 rfl) ?_
        obtain ⟨q_11, hf⟩ := x_gE hf
        refine x_ald C hw ic1_1 q_11 rfl dX11_about_101 ?_
        exact ret hf dX11_about_102 hw
      have hf := x_iN hf q_10
      by_cases q_12 : a2 = (1 : Int32)
      · have hf := x_iP hf q_12
        refine lv_tableIn (off := 72) (tgt := 103) hx hb dX11_about_31 (by rw [q_12]; decide) (by rw [q_12]; decide) (by rw [q_12]; rfl) (by decide) ?_
        refine lv_aload_n hx hb dX11_about_103 rfl (lv_at hl 1 rfl) ?_
        refine fg_X11_7 (k2 := 1) C hw ic1_0 rfl dX11_about_104 ?_
        refine lv_iload_n hx hb dX11_about_107 rfl (lv_at hl 0 rfl) ?_
        refine lv_iconst (v := (1 : Int32)) hx hb dX11_about_108 (by decide) ?_
        refine lv_iadd hx hb dX11_about_109 ?_
        obtain ⟨q_13, hf⟩ := x_gE hf
        refine x_ald C hw ic1_1 q_13 rfl dX11_about_110 ?_
        exact ret hf dX11_about_111 hw
      have hf := x_iN hf q_12
      by_cases q_14 : a2 = (2 : Int32)
      · have hf := x_iP hf q_14
        refine lv_tableIn (off := 81) (tgt := 112) hx hb dX11_about_31 (by rw [q_14]; decide) (by rw [q_14]; decide) (by rw [q_14]; rfl) (by decide) ?_
        refine lv_aload_n hx hb dX11_about_112 rfl (lv_at hl 1 rfl) ?_
        refine fg_X11_7 (k2 := 1) C hw ic1_0 rfl dX11_about_113 ?_
        refine lv_iload_n hx hb dX11_about_116 rfl (lv_at hl 0 rfl) ?_
        refine lv_iconst (v := (2 : Int32)) hx hb dX11_about_117 (by decide) ?_
        refine lv_iadd hx hb dX11_about_118 ?_
        obtain ⟨q_15, hf⟩ := x_gE hf
        refine x_ald C hw ic1_1 q_15 rfl dX11_about_119 ?_
        exact ret hf dX11_about_120 hw
      have hf := x_iN hf q_14
      by_cases q_16 : a2 = (3 : Int32)
      · have hf := x_iP hf q_16
        refine lv_tableIn (off := 90) (tgt := 121) hx hb dX11_about_31 (by rw [q_16]; decide) (by rw [q_16]; decide) (by rw [q_16]; rfl) (by decide) ?_
        refine lv_aload_n hx hb dX11_about_121 rfl (lv_at hl 1 rfl) ?_
        refine fg_X11_7 (k2 := 1) C hw ic1_0 rfl dX11_about_122 ?_
        refine lv_iload_n hx hb dX11_about_125 rfl (lv_at hl 0 rfl) ?_
        refine lv_iconst (v := (3 : Int32)) hx hb dX11_about_126 (by decide) ?_
        refine lv_iadd hx hb dX11_about_127 ?_
        obtain ⟨q_17, hf⟩ := x_gE hf
        refine x_ald C hw ic1_1 q_17 rfl dX11_about_128 ?_
        exact ret hf dX11_about_129 hw
      have hf := x_iN hf q_16
      by_cases q_18 : a2 = (4 : Int32)
      · have hf := x_iP hf q_18
        refine lv_tableIn (off := 99) (tgt := 130) hx hb dX11_about_31 (by rw [q_18]; decide) (by rw [q_18]; decide) (by rw [q_18]; rfl) (by decide) ?_
        refine lv_aload_n hx hb dX11_about_130 rfl (lv_at hl 1 rfl) ?_
        refine lv_iload_n hx hb dX11_about_131 rfl (lv_at hl 2 rfl) ?_
        obtain ⟨tv_21, tM_19, c_20, hf⟩ := x_bE hf
        refine x_vI C hw hl.1 [.int a1] [] (mX11_fine l g c_20) lk_X11_207 ic1_0 (by decide) rfl (by decide) rfl (Nat.le_of_ble_eq_true rfl) ⟨Nat.zero_le _, Nat.zero_le _⟩ dX11_about_132 (fun v_21 M_19 H locs hN hw => ?_)
        obtain ⟨rfl, rfl⟩ := hN
        exact ret hf dX11_about_135 hw
      have hf := x_iN hf q_18
      by_cases q_22 : a2 = (5 : Int32)
      · have hf := x_iP hf q_22
        refine lv_tableIn (off := 105) (tgt := 136) hx hb dX11_about_31 (by rw [q_22]; decide) (by rw [q_22]; decide) (by rw [q_22]; rfl) (by decide) ?_
        refine lv_aload_n hx hb dX11_about_136 rfl (lv_at hl 1 rfl) ?_
        refine fg_X11_7 (k2 := 1) C hw ic1_0 rfl dX11_about_137 ?_
        refine lv_iload_n hx hb dX11_about_140 rfl (lv_at hl 0 rfl) ?_
        refine lv_iconst (v := (4 : Int32)) hx hb dX11_about_141 (by decide) ?_
        refine lv_iadd hx hb dX11_about_142 ?_
        obtain ⟨q_23, hf⟩ := x_gE hf
        refine x_ald C hw ic1_1 q_23 rfl dX11_about_143 ?_
        exact ret hf dX11_about_144 hw
      have hf := x_iN hf q_22
      by_cases q_24 : a2 = (6 : Int32)
      · have hf := x_iP hf q_24
        refine lv_tableIn (off := 114) (tgt := 145) hx hb dX11_about_31 (by rw [q_24]; decide) (by rw [q_24]; decide) (by rw [q_24]; rfl) (by decide) ?_
        refine lv_aload_n hx hb dX11_about_145 rfl (lv_at hl 1 rfl) ?_
        refine lv_iload_n hx hb dX11_about_146 rfl (lv_at hl 2 rfl) ?_
        obtain ⟨tv_27, tM_25, c_26, hf⟩ := x_bE hf
        refine x_vI C hw hl.1 [.int a1] [] (mX11_unpaid l g c_26) lk_X11_210 ic1_0 (by decide) rfl (by decide) rfl (Nat.le_of_ble_eq_true rfl) ⟨Nat.zero_le _, Nat.zero_le _⟩ dX11_about_147 (fun v_27 M_25 H locs hN hw => ?_)
        obtain ⟨rfl, rfl⟩ := hN
        exact ret hf dX11_about_150 hw
      have hf := x_iN hf q_24
      by_cases q_28 : a2 = (7 : Int32)
      · have hf := x_iP hf q_28
        refine lv_tableIn (off := 120) (tgt := 151) hx hb dX11_about_31 (by rw [q_28]; decide) (by rw [q_28]; decide) (by rw [q_28]; rfl) (by decide) ?_
        refine lv_aload_n hx hb dX11_about_151 rfl (lv_at hl 1 rfl) ?_
        refine lv_iload_n hx hb dX11_about_152 rfl (lv_at hl 2 rfl) ?_
        obtain ⟨tv_31, tM_29, c_30, hf⟩ := x_bE hf
        refine x_vI C hw hl.1 [.int a1] [] (mX11_unpaidDays l g c_30) lk_X11_224 ic1_0 (by decide) rfl (by decide) rfl (Nat.le_of_ble_eq_true rfl) ⟨Nat.zero_le _, Nat.zero_le _⟩ dX11_about_153 (fun v_31 M_29 H locs hN hw => ?_)
        obtain ⟨rfl, rfl⟩ := hN
        exact ret hf dX11_about_156 hw
      have hf := x_iN hf q_28
      by_cases q_32 : a2 = (8 : Int32)
      · have hf := x_iP hf q_32
        refine lv_tableIn (off := 126) (tgt := 157) hx hb dX11_about_31 (by rw [q_32]; decide) (by rw [q_32]; decide) (by rw [q_32]; rfl) (by decide) ?_
        refine lv_aload_n hx hb dX11_about_157 rfl (lv_at hl 1 rfl) ?_
        refine fg_X11_7 (k2 := 1) C hw ic1_0 rfl dX11_about_158 ?_
        refine lv_iload_n hx hb dX11_about_161 rfl (lv_at hl 0 rfl) ?_
        refine lv_iconst (v := (5 : Int32)) hx hb dX11_about_162 (by decide) ?_
        refine lv_iadd hx hb dX11_about_163 ?_
        obtain ⟨q_33, hf⟩ := x_gE hf
        refine x_ald C hw ic1_1 q_33 rfl dX11_about_164 ?_
        exact ret hf dX11_about_165 hw
      have hf := x_iN hf q_32
      by_cases q_34 : a2 = (9 : Int32)
      · have hf := x_iP hf q_34
        refine lv_tableIn (off := 135) (tgt := 166) hx hb dX11_about_31 (by rw [q_34]; decide) (by rw [q_34]; decide) (by rw [q_34]; rfl) (by decide) ?_
        refine lv_aload_n hx hb dX11_about_166 rfl (lv_at hl 1 rfl) ?_
        refine fg_X11_7 (k2 := 1) C hw ic1_0 rfl dX11_about_167 ?_
        refine lv_iload_n hx hb dX11_about_170 rfl (lv_at hl 0 rfl) ?_
        refine lv_bipush (v := (7 : Int32)) hx hb dX11_about_171 (by decide) ?_
        refine lv_iadd hx hb dX11_about_173 ?_
        obtain ⟨q_35, hf⟩ := x_gE hf
        refine x_ald C hw ic1_1 q_35 rfl dX11_about_174 ?_
        exact ret hf dX11_about_175 hw
      have hf := x_iN hf q_34
      by_cases q_36 : a2 = (10 : Int32)
      · have hf := x_iP hf q_36
        refine lv_tableIn (off := 145) (tgt := 176) hx hb dX11_about_31 (by rw [q_36]; decide) (by rw [q_36]; decide) (by rw [q_36]; rfl) (by decide) ?_
        refine lv_aload_n hx hb dX11_about_176 rfl (lv_at hl 1 rfl) ?_
        refine lv_iload_n hx hb dX11_about_177 rfl (lv_at hl 2 rfl) ?_
        refine lv_iconst (v := (-1 : Int32)) hx hb dX11_about_178 (by decide) ?_
        obtain ⟨tv_39, tM_37, c_38, hf⟩ := x_bE hf
        refine x_vI C hw hl.1 [.int a1, .int (-1 : Int32)] [] (mX11_deedsOf l g c_38) lk_X11_213 ic1_0 (by decide) rfl (by decide) rfl (Nat.le_of_ble_eq_true rfl) ⟨Nat.zero_le _, Nat.zero_le _⟩ dX11_about_179 (fun v_39 M_37 H locs hN hw => ?_)
        obtain ⟨rfl, rfl⟩ := hN
        exact ret hf dX11_about_182 hw
      have hf := x_iN hf q_36
      by_cases q_40 : a2 = (11 : Int32)
      · have hf := x_iP hf q_40
        refine lv_tableIn (off := 152) (tgt := 183) hx hb dX11_about_31 (by rw [q_40]; decide) (by rw [q_40]; decide) (by rw [q_40]; rfl) (by decide) ?_
        refine lv_aload_n hx hb dX11_about_183 rfl (lv_at hl 1 rfl) ?_
        refine lv_iload_n hx hb dX11_about_184 rfl (lv_at hl 2 rfl) ?_
        refine lv_aload_n hx hb dX11_about_185 rfl (lv_at hl 1 rfl) ?_
        refine lv_iload_n hx hb dX11_about_186 rfl (lv_at hl 2 rfl) ?_
        obtain ⟨tv_43, tM_41, c_42, hf⟩ := x_bE hf
        refine x_vI C hw hl.1 [.int a1] [.int a1, .ref (g.2.2.1 0)] (mX11_fine l g c_42) lk_X11_207 ic1_0 (by decide) rfl (by decide) rfl (Nat.le_of_ble_eq_true rfl) ⟨Nat.zero_le _, Nat.zero_le _⟩ dX11_about_187 (fun v_43 M_41 H locs hN hw => ?_)
        obtain ⟨rfl, rfl⟩ := hN
        obtain ⟨tv_46, tM_44, c_45, hf⟩ := x_bE hf
        refine x_vI C hw hl.1 [.int a1, .int v_43] [] (mX11_share l g c_45) lk_X11_227 ic1_0 (by decide) rfl (by decide) rfl (Nat.le_of_ble_eq_true rfl) ⟨Nat.zero_le _, Nat.zero_le _⟩ dX11_about_190 (fun v_46 M_44 H locs hN hw => ?_)
        obtain ⟨rfl, rfl⟩ := hN
        exact ret hf dX11_about_193 hw
      have hf := x_iN hf q_40
      by_cases q_47 : a2 = (12 : Int32)
      · have hf := x_iP hf q_47
        refine lv_tableIn (off := 163) (tgt := 194) hx hb dX11_about_31 (by rw [q_47]; decide) (by rw [q_47]; decide) (by rw [q_47]; rfl) (by decide) ?_
        refine lv_aload_n hx hb dX11_about_194 rfl (lv_at hl 1 rfl) ?_
        refine lv_iload_n hx hb dX11_about_195 rfl (lv_at hl 2 rfl) ?_
        refine lv_aload_n hx hb dX11_about_196 rfl (lv_at hl 1 rfl) ?_
        refine lv_iload_n hx hb dX11_about_197 rfl (lv_at hl 2 rfl) ?_
        obtain ⟨tv_50, tM_48, c_49, hf⟩ := x_bE hf
        refine x_vI C hw hl.1 [.int a1] [.int a1, .ref (g.2.2.1 0)] (mX11_flatOf l g c_49) lk_X11_230 ic1_0 (by decide) rfl (by decide) rfl (Nat.le_of_ble_eq_true rfl) ⟨Nat.zero_le _, Nat.zero_le _⟩ dX11_about_198 (fun v_50 M_48 H locs hN hw => ?_)
        obtain ⟨rfl, rfl⟩ := hN
        obtain ⟨tv_53, tM_51, c_52, hf⟩ := x_bE hf
        refine x_vI C hw hl.1 [.int a1, .int v_50] [] (mX11_share l g c_52) lk_X11_227 ic1_0 (by decide) rfl (by decide) rfl (Nat.le_of_ble_eq_true rfl) ⟨Nat.zero_le _, Nat.zero_le _⟩ dX11_about_201 (fun v_53 M_51 H locs hN hw => ?_)
        obtain ⟨rfl, rfl⟩ := hN
        exact ret hf dX11_about_204 hw
      have hf := x_iN hf q_47
      have tq_10 := lv_neT (a := 0) q_10 rfl
      have tq_12 := lv_neT (a := 1) q_12 rfl
      have tq_14 := lv_neT (a := 2) q_14 rfl
      have tq_16 := lv_neT (a := 3) q_16 rfl
      have tq_18 := lv_neT (a := 4) q_18 rfl
      have tq_22 := lv_neT (a := 5) q_22 rfl
      have tq_24 := lv_neT (a := 6) q_24 rfl
      have tq_28 := lv_neT (a := 7) q_28 rfl
      have tq_32 := lv_neT (a := 8) q_32 rfl
      have tq_34 := lv_neT (a := 9) q_34 rfl
      have tq_36 := lv_neT (a := 10) q_36 rfl
      have tq_40 := lv_neT (a := 11) q_40 rfl
      have tq_47 := lv_neT (a := 12) q_47 rfl
      refine lv_tableOut (tgt := 205) hx hb dX11_about_31 (by omega) (by decide) ?_
      refine lv_aload_n hx hb dX11_about_205 rfl (lv_at hl 1 rfl) ?_
      refine fg_X11_7 (k2 := 1) C hw ic1_0 rfl dX11_about_206 ?_
      refine lv_iload_n hx hb dX11_about_209 rfl (lv_at hl 0 rfl) ?_
      refine lv_iconst (v := (1 : Int32)) hx hb dX11_about_210 (by decide) ?_
      refine lv_iadd hx hb dX11_about_211 ?_
      obtain ⟨q_54, hf⟩ := x_gE hf
      refine x_ald C hw ic1_1 q_54 rfl dX11_about_212 ?_
      refine lv_aload_n hx hb dX11_about_213 rfl (lv_at hl 1 rfl) ?_
      refine fg_X11_7 (k2 := 1) C hw ic1_0 rfl dX11_about_214 ?_
      refine lv_bipush (v := (13 : Int32)) hx hb dX11_about_217 (by decide) ?_
      refine x_ald (j := 13) C hw ic1_1 (x_inl rfl) rfl dX11_about_219 ?_
      refine lv_iadd hx hb dX11_about_220 ?_
      exact ret hf dX11_about_221 hw
    · have hf := x_iP hf q_8
      refine lv_ldc hx hb hown (hB _ mk_X11_60) dX11_about_18 ?_
      exact ret hf dX11_about_20 hw
noncomputable def fX11_isTurned (M : xM) (a1 : Int32) : Option (Int32 × xM) := x_g (((792 : Int32) + ((10 : Int32) * a1)) + (5 : Int32)) 1675 (if (M 1 (((792 : Int32) + ((10 : Int32) * a1)) + (5 : Int32)).toNatClampNeg) = (3 : Int32) then (some ((1 : Int32), M)) else (some ((0 : Int32), M)))
set_option maxRecDepth 100000 in
set_option maxHeartbeats 4000000 in
theorem mX11_isTurned (l : Launch) (g : xG) {a1 : Int32} {r : Int32} {M' : xM}  {M : xM} (hf : fX11_isTurned M a1 = some (r, M')) : x_cI l g 1 yX11_isTurned cX11_isTurned 2 .boolean 0 0 [.ref (g.2.2.1 0), .int a1] M (fun v N => v = r ∧ N = M') := by
  refine x_stZ RX11 (by decide) rfl (Nat.le_of_ble_eq_true rfl) ?_
  intro p e s m args below meth c Q ls C hw ret hl
  obtain ⟨hx, hb, hml, hown, hB, -⟩ := id C
  have hl : lv_has ls 2 [(0, .ref (g.2.2.1 0)), (1, .int a1)] := hl
  unfold fX11_isTurned at hf
  refine lv_aload_n hx hb dX11_isTurned_0 rfl (lv_at hl 0 rfl) ?_
  refine fg_X11_7 (k2 := 1) C hw ic1_0 rfl dX11_isTurned_1 ?_
  refine lv_sipush (v := (792 : Int32)) hx hb dX11_isTurned_4 (by decide) ?_
  refine lv_bipush (v := (10 : Int32)) hx hb dX11_isTurned_7 (by decide) ?_
  refine lv_iload_n hx hb dX11_isTurned_9 rfl (lv_at hl 1 rfl) ?_
  refine lv_imul hx hb dX11_isTurned_10 ?_
  refine lv_iadd hx hb dX11_isTurned_11 ?_
  refine lv_iconst (v := (5 : Int32)) hx hb dX11_isTurned_12 (by decide) ?_
  refine lv_iadd hx hb dX11_isTurned_13 ?_
  obtain ⟨q_1, hf⟩ := x_gE hf
  refine x_ald C hw ic1_1 q_1 rfl dX11_isTurned_14 ?_
  refine lv_iconst (v := (3 : Int32)) hx hb dX11_isTurned_15 (by decide) ?_
  refine lv_icmp_ne (tgt := 23) hx hb dX11_isTurned_16 (by decide) (fun q_2 => ?_) (fun q_2 => ?_)
  · have hf := x_iN hf q_2
    refine lv_iconst (v := (0 : Int32)) hx hb dX11_isTurned_23 (by decide) ?_
    exact ret ((x_zl0 _).trans hf) dX11_isTurned_24 hw
  · have hf := x_iP hf q_2
    refine lv_iconst (v := (1 : Int32)) hx hb dX11_isTurned_19 (by decide) ?_
    refine lv_goto (tgt := 24) hx hb dX11_isTurned_20 (by decide) ?_
    exact ret ((x_zl1 _).trans hf) dX11_isTurned_24 hw
noncomputable def fX11_isLate (M : xM) (a1 : Int32) (a2 : Int32) : Option (Int32 × xM) := x_g (((792 : Int32) + ((10 : Int32) * a1)) + (1 : Int32)) 1675 (if ((M 1 0) - (M 1 (((792 : Int32) + ((10 : Int32) * a1)) + (1 : Int32)).toNatClampNeg)) ≤ a2 then (some ((0 : Int32), M)) else (some ((1 : Int32), M)))
set_option maxRecDepth 100000 in
set_option maxHeartbeats 4000000 in
theorem mX11_isLate (l : Launch) (g : xG) {a1 : Int32} {a2 : Int32} {r : Int32} {M' : xM}  {M : xM} (hf : fX11_isLate M a1 a2 = some (r, M')) : x_cI l g 1 yX11_isLate cX11_isLate 3 .boolean 0 0 [.ref (g.2.2.1 0), .int a1, .int a2] M (fun v N => v = r ∧ N = M') := by
  refine x_stZ RX11 (by decide) rfl (Nat.le_of_ble_eq_true rfl) ?_
  intro p e s m args below meth c Q ls C hw ret hl
  obtain ⟨hx, hb, hml, hown, hB, -⟩ := id C
  have hl : lv_has ls 3 [(0, .ref (g.2.2.1 0)), (1, .int a1), (2, .int a2)] := hl
  unfold fX11_isLate at hf
  refine lv_aload_n hx hb dX11_isLate_0 rfl (lv_at hl 0 rfl) ?_
  refine fg_X11_7 (k2 := 1) C hw ic1_0 rfl dX11_isLate_1 ?_
  refine lv_iconst (v := (0 : Int32)) hx hb dX11_isLate_4 (by decide) ?_
  refine x_ald (j := 0) C hw ic1_1 (x_inl rfl) rfl dX11_isLate_5 ?_
  refine lv_aload_n hx hb dX11_isLate_6 rfl (lv_at hl 0 rfl) ?_
  refine fg_X11_7 (k2 := 1) C hw ic1_0 rfl dX11_isLate_7 ?_
  refine lv_sipush (v := (792 : Int32)) hx hb dX11_isLate_10 (by decide) ?_
  refine lv_bipush (v := (10 : Int32)) hx hb dX11_isLate_13 (by decide) ?_
  refine lv_iload_n hx hb dX11_isLate_15 rfl (lv_at hl 1 rfl) ?_
  refine lv_imul hx hb dX11_isLate_16 ?_
  refine lv_iadd hx hb dX11_isLate_17 ?_
  refine lv_iconst (v := (1 : Int32)) hx hb dX11_isLate_18 (by decide) ?_
  refine lv_iadd hx hb dX11_isLate_19 ?_
  obtain ⟨q_2, hf⟩ := x_gE hf
  refine x_ald C hw ic1_1 q_2 rfl dX11_isLate_20 ?_
  refine lv_isub hx hb dX11_isLate_21 ?_
  refine lv_iload_n hx hb dX11_isLate_22 rfl (lv_at hl 2 rfl) ?_
  refine lv_icmp_le (tgt := 30) hx hb dX11_isLate_23 (by decide) (fun q_3 => ?_) (fun q_3 => ?_)
  · have hf := x_iP hf q_3
    refine lv_iconst (v := (0 : Int32)) hx hb dX11_isLate_30 (by decide) ?_
    exact ret ((x_zl0 _).trans hf) dX11_isLate_31 hw
  · have hf := x_iN hf q_3
    refine lv_iconst (v := (1 : Int32)) hx hb dX11_isLate_26 (by decide) ?_
    refine lv_goto (tgt := 31) hx hb dX11_isLate_27 (by decide) ?_
    exact ret ((x_zl1 _).trans hf) dX11_isLate_31 hw
