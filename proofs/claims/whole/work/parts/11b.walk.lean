noncomputable def fX11_deed (M : xM) (a1 : Int32) (a2 : Int32) (a3 : Int32) (a4 : Int32) : Option (Int32 × xM) := x_b (fX11_in M a1 (0 : Int32) (3 : Int32)) fun v_3 M_1 => if v_3 = 0 then (some ((-1000000001 : Int32), M_1)) else (x_b (fX11_isPerson M_1 a2) fun v_7 M_5 => if v_7 = 0 then (some ((-1000000001 : Int32), M_5)) else (x_b (fX11_in M_5 a3 (0 : Int32) (M_5 1 0)) fun v_12 M_10 => if v_12 = 0 then (some ((-1000000001 : Int32), M_10)) else (x_b (fX11_in M_10 a4 (1 : Int32) (100 : Int32)) fun v_16 M_14 => if v_16 = 0 then (some ((-1000000001 : Int32), M_14)) else (if (M_14 1 19) = (30 : Int32) then (some ((-1000000003 : Int32), M_14)) else (x_l ((642 : Int32) + ((5 : Int32) * (M_14 1 19))) fun x5_21 => x_g x5_21 1675 (x_l (x_up M_14 1 x5_21.toNatClampNeg a1) fun M_23 => x_g (x5_21 + (1 : Int32)) 1675 (x_l (x_up M_23 1 (x5_21 + (1 : Int32)).toNatClampNeg a2) fun M_25 => x_g (x5_21 + (2 : Int32)) 1675 (x_l (x_up M_25 1 (x5_21 + (2 : Int32)).toNatClampNeg a3) fun M_27 => x_g (x5_21 + (3 : Int32)) 1675 (x_l (x_up M_27 1 (x5_21 + (3 : Int32)).toNatClampNeg a4) fun M_29 => x_g (x5_21 + (4 : Int32)) 1675 (x_l (x_up M_29 1 (x5_21 + (4 : Int32)).toNatClampNeg (-1 : Int32)) fun M_31 => x_l (x_up M_31 1 19 ((M_31 1 19) + (1 : Int32))) fun M_34 => some (((M_34 1 19) - (1 : Int32)), M_34)))))))))))
set_option maxRecDepth 100000 in
set_option maxHeartbeats 4000000 in
theorem mX11_deed (l : Launch) (g : xG) {a1 : Int32} {a2 : Int32} {a3 : Int32} {a4 : Int32} {r : Int32} {M' : xM}  {M : xM} (hf : fX11_deed M a1 a2 a3 a4 = some (r, M')) : x_cI l g 1 yX11_deed cX11_deed 6 .int 2 43 [.ref (g.2.2.1 0), .int a1, .int a2, .int a3, .int a4] M (fun v N => v = r ∧ N = M') := by
  refine x_stI RX11 (by decide) rfl (Nat.le_of_ble_eq_true rfl) ?_
  intro p e s m args below meth c Q ls C hw ret hl
  obtain ⟨hx, hb, hml, hown, hB, -⟩ := id C
  have hl : lv_has ls 6 [(0, .ref (g.2.2.1 0)), (1, .int a1), (2, .int a2), (3, .int a3), (4, .int a4)] := hl
  unfold fX11_deed at hf
  refine lv_iload_n hx hb dX11_deed_0 rfl (lv_at hl 1 rfl) ?_
  refine lv_iconst (v := (0 : Int32)) hx hb dX11_deed_1 (by decide) ?_
  refine lv_iconst (v := (3 : Int32)) hx hb dX11_deed_2 (by decide) ?_
  obtain ⟨tv_3, tM_1, c_2, hf⟩ := x_bE hf
  refine x_sI C hw hl.1 [.int a1, .int (0 : Int32), .int (3 : Int32)] [] (mX11_in l g c_2) lk_X11_56 (by decide) rfl (Nat.le_of_ble_eq_true rfl) ⟨Nat.zero_le _, Nat.zero_le _⟩ dX11_deed_3 (fun v_3 M_1 H locs hN hw => ?_)
  obtain ⟨rfl, rfl⟩ := hN
  refine lv_if_eq (tgt := 42) hx hb dX11_deed_6 (by decide) (fun q_4 => ?_) (fun q_4 => ?_)
  · have hf := x_iP hf q_4
    refine lv_ldc hx hb hown (hB _ mk_X11_60) dX11_deed_42 ?_
    exact ret hf dX11_deed_44 hw
  · have hf := x_iN hf q_4
    refine lv_aload_n hx hb dX11_deed_9 rfl (lv_at hl 0 rfl) ?_
    refine lv_iload_n hx hb dX11_deed_10 rfl (lv_at hl 2 rfl) ?_
    obtain ⟨tv_7, tM_5, c_6, hf⟩ := x_bE hf
    refine x_vI C hw hl.1 [.int a2] [] (mX11_isPerson l g c_6) lk_X11_62 ic1_0 (by decide) rfl (by decide) rfl (Nat.le_of_ble_eq_true rfl) ⟨Nat.zero_le _, Nat.zero_le _⟩ dX11_deed_11 (fun v_7 M_5 H locs hN hw => ?_)
    obtain ⟨rfl, rfl⟩ := hN
    refine lv_if_eq (tgt := 42) hx hb dX11_deed_14 (by decide) (fun q_8 => ?_) (fun q_8 => ?_)
    · have hf := x_iP hf q_8
      refine lv_ldc hx hb hown (hB _ mk_X11_60) dX11_deed_42 ?_
      exact ret hf dX11_deed_44 hw
    · have hf := x_iN hf q_8
      refine lv_iload_n hx hb dX11_deed_17 rfl (lv_at hl 3 rfl) ?_
      refine lv_iconst (v := (0 : Int32)) hx hb dX11_deed_18 (by decide) ?_
      refine lv_aload_n hx hb dX11_deed_19 rfl (lv_at hl 0 rfl) ?_
      refine fg_X11_7 (k2 := 1) C hw ic1_0 rfl dX11_deed_20 ?_
      refine lv_iconst (v := (0 : Int32)) hx hb dX11_deed_23 (by decide) ?_
      refine x_ald (j := 0) C hw ic1_1 (x_inl rfl) rfl dX11_deed_24 ?_
      obtain ⟨tv_12, tM_10, c_11, hf⟩ := x_bE hf
      refine x_sI C hw hl.1 [.int a3, .int (0 : Int32), .int (M_5 1 0)] [] (mX11_in l g c_11) lk_X11_56 (by decide) rfl (Nat.le_of_ble_eq_true rfl) ⟨Nat.zero_le _, Nat.zero_le _⟩ dX11_deed_25 (fun v_12 M_10 H locs hN hw => ?_)
      obtain ⟨rfl, rfl⟩ := hN
      refine lv_if_eq (tgt := 42) hx hb dX11_deed_28 (by decide) (fun q_13 => ?_) (fun q_13 => ?_)
      · have hf := x_iP hf q_13
        refine lv_ldc hx hb hown (hB _ mk_X11_60) dX11_deed_42 ?_
        exact ret hf dX11_deed_44 hw
      · have hf := x_iN hf q_13
        refine lv_iload hx hb dX11_deed_31 (lv_at hl 4 rfl) ?_
        refine lv_iconst (v := (1 : Int32)) hx hb dX11_deed_33 (by decide) ?_
        refine lv_bipush (v := (100 : Int32)) hx hb dX11_deed_34 (by decide) ?_
        obtain ⟨tv_16, tM_14, c_15, hf⟩ := x_bE hf
        refine x_sI C hw hl.1 [.int a4, .int (1 : Int32), .int (100 : Int32)] [] (mX11_in l g c_15) lk_X11_56 (by decide) rfl (Nat.le_of_ble_eq_true rfl) ⟨Nat.zero_le _, Nat.zero_le _⟩ dX11_deed_36 (fun v_16 M_14 H locs hN hw => ?_)
        obtain ⟨rfl, rfl⟩ := hN
        refine lv_if_ne (tgt := 45) hx hb dX11_deed_39 (by decide) (fun q_17 => ?_) (fun q_17 => ?_)
        · have hf := x_iN hf q_17
          refine lv_aload_n hx hb dX11_deed_45 rfl (lv_at hl 0 rfl) ?_
          refine fg_X11_7 (k2 := 1) C hw ic1_0 rfl dX11_deed_46 ?_
          refine lv_bipush (v := (19 : Int32)) hx hb dX11_deed_49 (by decide) ?_
          refine x_ald (j := 19) C hw ic1_1 (x_inl rfl) rfl dX11_deed_51 ?_
          refine lv_bipush (v := (30 : Int32)) hx hb dX11_deed_52 (by decide) ?_
          refine lv_icmp_ne (tgt := 60) hx hb dX11_deed_54 (by decide) (fun q_19 => ?_) (fun q_19 => ?_)
          · have hf := x_iN hf q_19
            refine lv_sipush (v := (642 : Int32)) hx hb dX11_deed_60 (by decide) ?_
            refine lv_iconst (v := (5 : Int32)) hx hb dX11_deed_63 (by decide) ?_
            refine lv_aload_n hx hb dX11_deed_64 rfl (lv_at hl 0 rfl) ?_
            refine fg_X11_7 (k2 := 1) C hw ic1_0 rfl dX11_deed_65 ?_
            refine lv_bipush (v := (19 : Int32)) hx hb dX11_deed_68 (by decide) ?_
            refine x_ald (j := 19) C hw ic1_1 (x_inl rfl) rfl dX11_deed_70 ?_
            refine lv_imul hx hb dX11_deed_71 ?_
            refine lv_iadd hx hb dX11_deed_72 ?_
            refine lv_topi (fun x5_21 ex5_21 => ?_)
            have hf := x_lE ex5_21 hf
            refine lv_istore (lv' := [(5, .int x5_21), (0, .ref (g.2.2.1 0)), (1, .int a1), (2, .int a2), (3, .int a3), (4, .int a4)]) hx hb dX11_deed_73 hl (by decide) rfl (fun ls hl => ?_)
            refine lv_aload_n hx hb dX11_deed_75 rfl (lv_at hl 1 rfl) ?_
            refine fg_X11_7 (k2 := 1) C hw ic1_0 rfl dX11_deed_76 ?_
            refine lv_iload hx hb dX11_deed_79 (lv_at hl 0 rfl) ?_
            refine lv_iload_n hx hb dX11_deed_81 rfl (lv_at hl 2 rfl) ?_
            obtain ⟨q_22, hf⟩ := x_gE hf
            refine x_ast C hw ic1_1 q_22 rfl dX11_deed_82 (fun H locs hw => ?_)
            obtain ⟨M_23, eM_23⟩ : ∃ z, z = (x_up M_14 1 x5_21.toNatClampNeg a1) := ⟨_, rfl⟩
            rw [← eM_23] at hw
            have hf := x_lE eM_23 hf
            refine lv_aload_n hx hb dX11_deed_83 rfl (lv_at hl 1 rfl) ?_
            refine fg_X11_7 (k2 := 1) C hw ic1_0 rfl dX11_deed_84 ?_
            refine lv_iload hx hb dX11_deed_87 (lv_at hl 0 rfl) ?_
            refine lv_iconst (v := (1 : Int32)) hx hb dX11_deed_89 (by decide) ?_
            refine lv_iadd hx hb dX11_deed_90 ?_
            refine lv_iload_n hx hb dX11_deed_91 rfl (lv_at hl 3 rfl) ?_
            obtain ⟨q_24, hf⟩ := x_gE hf
            refine x_ast C hw ic1_1 q_24 rfl dX11_deed_92 (fun H locs hw => ?_)
            obtain ⟨M_25, eM_25⟩ : ∃ z, z = (x_up M_23 1 (x5_21 + (1 : Int32)).toNatClampNeg a2) := ⟨_, rfl⟩
            rw [← eM_25] at hw
            have hf := x_lE eM_25 hf
            refine lv_aload_n hx hb dX11_deed_93 rfl (lv_at hl 1 rfl) ?_
            refine fg_X11_7 (k2 := 1) C hw ic1_0 rfl dX11_deed_94 ?_
            refine lv_iload hx hb dX11_deed_97 (lv_at hl 0 rfl) ?_
            refine lv_iconst (v := (2 : Int32)) hx hb dX11_deed_99 (by decide) ?_
            refine lv_iadd hx hb dX11_deed_100 ?_
            refine lv_iload_n hx hb dX11_deed_101 rfl (lv_at hl 4 rfl) ?_
            obtain ⟨q_26, hf⟩ := x_gE hf
            refine x_ast C hw ic1_1 q_26 rfl dX11_deed_102 (fun H locs hw => ?_)
            obtain ⟨M_27, eM_27⟩ : ∃ z, z = (x_up M_25 1 (x5_21 + (2 : Int32)).toNatClampNeg a3) := ⟨_, rfl⟩
            rw [← eM_27] at hw
            have hf := x_lE eM_27 hf
            refine lv_aload_n hx hb dX11_deed_103 rfl (lv_at hl 1 rfl) ?_
            refine fg_X11_7 (k2 := 1) C hw ic1_0 rfl dX11_deed_104 ?_
            refine lv_iload hx hb dX11_deed_107 (lv_at hl 0 rfl) ?_
            refine lv_iconst (v := (3 : Int32)) hx hb dX11_deed_109 (by decide) ?_
            refine lv_iadd hx hb dX11_deed_110 ?_
            refine lv_iload hx hb dX11_deed_111 (lv_at hl 5 rfl) ?_
            obtain ⟨q_28, hf⟩ := x_gE hf
            refine x_ast C hw ic1_1 q_28 rfl dX11_deed_113 (fun H locs hw => ?_)
            obtain ⟨M_29, eM_29⟩ : ∃ z, z = (x_up M_27 1 (x5_21 + (3 : Int32)).toNatClampNeg a4) := ⟨_, rfl⟩
            rw [← eM_29] at hw
            have hf := x_lE eM_29 hf
            refine lv_aload_n hx hb dX11_deed_114 rfl (lv_at hl 1 rfl) ?_
            refine fg_X11_7 (k2 := 1) C hw ic1_0 rfl dX11_deed_115 ?_
            refine lv_iload hx hb dX11_deed_118 (lv_at hl 0 rfl) ?_
            refine lv_iconst (v := (4 : Int32)) hx hb dX11_deed_120 (by decide) ?_
            refine lv_iadd hx hb dX11_deed_121 ?_
            refine lv_iconst (v := (-1 : Int32)) hx hb dX11_deed_122 (by decide) ?_
            obtain ⟨q_30, hf⟩ := x_gE hf
            refine x_ast C hw ic1_1 q_30 rfl dX11_deed_123 (fun H locs hw => ?_)
            obtain ⟨M_31, eM_31⟩ : ∃ z, z = (x_up M_29 1 (x5_21 + (4 : Int32)).toNatClampNeg (-1 : Int32)) := ⟨_, rfl⟩
            rw [← eM_31] at hw
            have hf := x_lE eM_31 hf
            refine lv_aload_n hx hb dX11_deed_124 rfl (lv_at hl 1 rfl) ?_
            refine fg_X11_7 (k2 := 1) C hw ic1_0 rfl dX11_deed_125 ?_
            refine lv_bipush (v := (19 : Int32)) hx hb dX11_deed_128 (by decide) ?_
            refine lv_dup2_11 hx hb dX11_deed_130 rfl rfl ?_
            refine x_ald (j := 19) C hw ic1_1 (x_inl rfl) rfl dX11_deed_131 ?_
            refine lv_iconst (v := (1 : Int32)) hx hb dX11_deed_132 (by decide) ?_
            refine lv_iadd hx hb dX11_deed_133 ?_
            refine x_ast (j := 19) C hw ic1_1 (x_inl rfl) rfl dX11_deed_134 (fun H locs hw => ?_)
            obtain ⟨M_34, eM_34⟩ : ∃ z, z = (x_up M_31 1 19 ((M_31 1 19) + (1 : Int32))) := ⟨_, rfl⟩
            rw [← eM_34] at hw
            have hf := x_lE eM_34 hf
            refine lv_aload_n hx hb dX11_deed_135 rfl (lv_at hl 1 rfl) ?_
            refine fg_X11_7 (k2 := 1) C hw ic1_0 rfl dX11_deed_136 ?_
            refine lv_bipush (v := (19 : Int32)) hx hb dX11_deed_139 (by decide) ?_
            refine x_ald (j := 19) C hw ic1_1 (x_inl rfl) rfl dX11_deed_141 ?_
            refine lv_iconst (v := (1 : Int32)) hx hb dX11_deed_142 (by decide) ?_
            refine lv_isub hx hb dX11_deed_143 ?_
            exact ret hf dX11_deed_144 hw
          · have hf := x_iP hf q_19
            refine lv_ldc hx hb hown (hB _ mk_X11_61) dX11_deed_57 ?_
            exact ret hf dX11_deed_59 hw
        · have hf := x_iP hf q_17
          refine lv_ldc hx hb hown (hB _ mk_X11_60) dX11_deed_42 ?_
          exact ret hf dX11_deed_44 hw
noncomputable def fX11_isOf (M : xM) (a1 : Int32) (a2 : Int32) : Option (Int32 × xM) := x_b (fX11_isDeed M a1) fun v_3 M_1 => if v_3 = 0 then (some ((-1000000001 : Int32), M_1)) else (x_b (fX11_in M_1 a2 (0 : Int32) (3 : Int32)) fun v_7 M_5 => if v_7 = 0 then (some ((-1000000001 : Int32), M_5)) else (x_g ((642 : Int32) + ((5 : Int32) * a1)) 1675 (x_l (M_5 1 ((642 : Int32) + ((5 : Int32) * a1)).toNatClampNeg) fun x3_10 => x_l (fun (M_12 : xM) => some ((1 : Int32), M_12)) fun k52_11 => if a2 = 0 then (k52_11 M_5) else (if x3_10 = a2 then (k52_11 M_5) else (x_l (fun (M_16 : xM) => some ((0 : Int32), M_16)) fun k56_15 => if a2 = (2 : Int32) then (if x3_10 = (3 : Int32) then (k52_11 M_5) else (k56_15 M_5)) else (k56_15 M_5))))))
set_option maxRecDepth 100000 in
set_option maxHeartbeats 4000000 in
theorem mX11_isOf (l : Launch) (g : xG) {a1 : Int32} {a2 : Int32} {r : Int32} {M' : xM}  {M : xM} (hf : fX11_isOf M a1 a2 = some (r, M')) : x_cI l g 1 yX11_isOf cX11_isOf 4 .int 2 43 [.ref (g.2.2.1 0), .int a1, .int a2] M (fun v N => v = r ∧ N = M') := by
  refine x_stI RX11 (by decide) rfl (Nat.le_of_ble_eq_true rfl) ?_
  intro p e s m args below meth c Q ls C hw ret hl
  obtain ⟨hx, hb, hml, hown, hB, -⟩ := id C
  have hl : lv_has ls 4 [(0, .ref (g.2.2.1 0)), (1, .int a1), (2, .int a2)] := hl
  unfold fX11_isOf at hf
  refine lv_aload_n hx hb dX11_isOf_0 rfl (lv_at hl 0 rfl) ?_
  refine lv_iload_n hx hb dX11_isOf_1 rfl (lv_at hl 1 rfl) ?_
  obtain ⟨tv_3, tM_1, c_2, hf⟩ := x_bE hf
  refine x_vI C hw hl.1 [.int a1] [] (mX11_isDeed l g c_2) lk_X11_90 ic1_0 (by decide) rfl (by decide) rfl (Nat.le_of_ble_eq_true rfl) ⟨Nat.zero_le _, Nat.zero_le _⟩ dX11_isOf_2 (fun v_3 M_1 H locs hN hw => ?_)
  obtain ⟨rfl, rfl⟩ := hN
  refine lv_if_eq (tgt := 17) hx hb dX11_isOf_5 (by decide) (fun q_4 => ?_) (fun q_4 => ?_)
  · have hf := x_iP hf q_4
    refine lv_ldc hx hb hown (hB _ mk_X11_60) dX11_isOf_17 ?_
    exact ret hf dX11_isOf_19 hw
  · have hf := x_iN hf q_4
    refine lv_iload_n hx hb dX11_isOf_8 rfl (lv_at hl 2 rfl) ?_
    refine lv_iconst (v := (0 : Int32)) hx hb dX11_isOf_9 (by decide) ?_
    refine lv_iconst (v := (3 : Int32)) hx hb dX11_isOf_10 (by decide) ?_
    obtain ⟨tv_7, tM_5, c_6, hf⟩ := x_bE hf
    refine x_sI C hw hl.1 [.int a2, .int (0 : Int32), .int (3 : Int32)] [] (mX11_in l g c_6) lk_X11_56 (by decide) rfl (Nat.le_of_ble_eq_true rfl) ⟨Nat.zero_le _, Nat.zero_le _⟩ dX11_isOf_11 (fun v_7 M_5 H locs hN hw => ?_)
    obtain ⟨rfl, rfl⟩ := hN
    refine lv_if_ne (tgt := 20) hx hb dX11_isOf_14 (by decide) (fun q_8 => ?_) (fun q_8 => ?_)
    · have hf := x_iN hf q_8
      refine lv_aload_n hx hb dX11_isOf_20 rfl (lv_at hl 0 rfl) ?_
      refine fg_X11_7 (k2 := 1) C hw ic1_0 rfl dX11_isOf_21 ?_
      refine lv_sipush (v := (642 : Int32)) hx hb dX11_isOf_24 (by decide) ?_
      refine lv_iconst (v := (5 : Int32)) hx hb dX11_isOf_27 (by decide) ?_
      refine lv_iload_n hx hb dX11_isOf_28 rfl (lv_at hl 1 rfl) ?_
      refine lv_imul hx hb dX11_isOf_29 ?_
      refine lv_iadd hx hb dX11_isOf_30 ?_
      obtain ⟨q_9, hf⟩ := x_gE hf
      refine x_ald C hw ic1_1 q_9 rfl dX11_isOf_31 ?_
      refine lv_topi (fun x3_10 ex3_10 => ?_)
      have hf := x_lE ex3_10 hf
      refine lv_istore_n (lv' := [(3, .int x3_10), (0, .ref (g.2.2.1 0)), (1, .int a1), (2, .int a2)]) hx hb dX11_isOf_32 rfl hl (by decide) rfl (fun ls hl => ?_)
      refine lv_iload_n hx hb dX11_isOf_33 rfl (lv_at hl 3 rfl) ?_
      obtain ⟨k52_11, ek52_11, hf⟩ := x_jE hf
      have hk52_11 : ∀ (H : Heap) (locs : List Loc) (M_12 : xM)  (ls : Array Slot) , lv_has ls 4 [] → x_w g 1 s H locs M_12 → k52_11 M_12 = some (r, M') → W p l e (x_rm 2 43) s m args below meth c H locs 0 0 Q (F0 m 52 ls []) := by
        intro H locs M_12  ls  hl hw hf
        rw [ek52_11] at hf
        refine lv_iconst (v := (1 : Int32)) hx hb dX11_isOf_52 (by decide) ?_
        refine lv_goto (tgt := 57) hx hb dX11_isOf_53 (by decide) ?_
        exact ret hf dX11_isOf_57 hw
      refine lv_if_eq (tgt := 52) hx hb dX11_isOf_34 (by decide) (fun q_13 => ?_) (fun q_13 => ?_)
      · have hf := x_iP hf q_13
        exact hk52_11 _ _ _ _ (lv_sub hl [] rfl) hw hf
      · have hf := x_iN hf q_13
        refine lv_iload_n hx hb dX11_isOf_37 rfl (lv_at hl 0 rfl) ?_
        refine lv_iload_n hx hb dX11_isOf_38 rfl (lv_at hl 3 rfl) ?_
        refine lv_icmp_eq (tgt := 52) hx hb dX11_isOf_39 (by decide) (fun q_14 => ?_) (fun q_14 => ?_)
        · have hf := x_iP hf q_14
          exact hk52_11 _ _ _ _ (lv_sub hl [] rfl) hw hf
        · have hf := x_iN hf q_14
          refine lv_iload_n hx hb dX11_isOf_42 rfl (lv_at hl 3 rfl) ?_
          refine lv_iconst (v := (2 : Int32)) hx hb dX11_isOf_43 (by decide) ?_
          obtain ⟨k56_15, ek56_15, hf⟩ := x_jE hf
          have hk56_15 : ∀ (H : Heap) (locs : List Loc) (M_16 : xM)  (ls : Array Slot) , lv_has ls 4 [] → x_w g 1 s H locs M_16 → k56_15 M_16 = some (r, M') → W p l e (x_rm 2 43) s m args below meth c H locs 0 0 Q (F0 m 56 ls []) := by
            intro H locs M_16  ls  hl hw hf
            rw [ek56_15] at hf
            refine lv_iconst (v := (0 : Int32)) hx hb dX11_isOf_56 (by decide) ?_
            exact ret hf dX11_isOf_57 hw
          refine lv_icmp_ne (tgt := 56) hx hb dX11_isOf_44 (by decide) (fun q_17 => ?_) (fun q_17 => ?_)
          · have hf := x_iN hf q_17
            exact hk56_15 _ _ _ _ (lv_sub hl [] rfl) hw hf
          · have hf := x_iP hf q_17
            refine lv_iload_n hx hb dX11_isOf_47 rfl (lv_at hl 0 rfl) ?_
            refine lv_iconst (v := (3 : Int32)) hx hb dX11_isOf_48 (by decide) ?_
            refine lv_icmp_ne (tgt := 56) hx hb dX11_isOf_49 (by decide) (fun q_18 => ?_) (fun q_18 => ?_)
            · have hf := x_iN hf q_18
              exact hk56_15 _ _ _ _ (lv_sub hl [] rfl) hw hf
            · have hf := x_iP hf q_18
              exact hk52_11 _ _ _ _ (lv_sub hl [] rfl) hw hf
    · have hf := x_iP hf q_8
      refine lv_ldc hx hb hown (hB _ mk_X11_60) dX11_isOf_17 ?_
      exact ret hf dX11_isOf_19 hw
noncomputable def fX11_past_L13 (x2_1 : Int32) : Nat → xM → Int32 → Int32 → Option (Int32 × xM)
  | 0, _, _, _ => none
  | n_5 + 1, M_4, x3_2, x4_3 => if (M_4 1 20) ≤ x4_3 then (some (x3_2, M_4)) else (x_g (x2_1 + (2 : Int32)) 1675 (x_g (((792 : Int32) + ((10 : Int32) * x4_3)) + (1 : Int32)) 1675 (x_l ((M_4 1 (x2_1 + (2 : Int32)).toNatClampNeg) - (M_4 1 (((792 : Int32) + ((10 : Int32) * x4_3)) + (1 : Int32)).toNatClampNeg)) fun x5_11 => x_g ((792 : Int32) + ((10 : Int32) * x4_3)) 1675 (x_g (x2_1 + (1 : Int32)) 1675 (x_l (fun (M_16 : xM) (z_14 : Int32) => x_l (x3_2 + z_14) fun x3_17 => x_l (x4_3 + (1 : Int32)) fun x4_18 => fX11_past_L13 x2_1 n_5 M_16 x3_17 x4_18) fun k98_15 => x_l (fun (M_20 : xM) => k98_15 M_20 (0 : Int32)) fun k97_19 => if (M_4 1 ((792 : Int32) + ((10 : Int32) * x4_3)).toNatClampNeg) = (M_4 1 (x2_1 + (1 : Int32)).toNatClampNeg) then (x_b (fX11_in M_4 x5_11 (1 : Int32) (M_4 1 2)) fun v_25 M_23 => if v_25 = 0 then (k97_19 M_23) else (k98_15 M_23 (1 : Int32))) else (k97_19 M_4))))))
noncomputable def fX11_past (M : xM) (a1 : Int32) : Option (Int32 × xM) := x_l ((642 : Int32) + ((5 : Int32) * a1)) fun x2_1 => fX11_past_L13 x2_1 x_FU M (0 : Int32) (0 : Int32)
set_option maxRecDepth 100000 in
set_option maxHeartbeats 4000000 in
theorem mX11_past (l : Launch) (g : xG) {a1 : Int32} {r : Int32} {M' : xM}  {M : xM} (hf : fX11_past M a1 = some (r, M')) : x_cI l g 1 yX11_past cX11_past 6 .int 1 22 [.ref (g.2.2.1 0), .int a1] M (fun v N => v = r ∧ N = M') := by
  refine x_stI RX11 (by decide) rfl (Nat.le_of_ble_eq_true rfl) ?_
  intro p e s m args below meth c Q ls C hw ret hl
  obtain ⟨hx, hb, hml, hown, hB, -⟩ := id C
  have hl : lv_has ls 6 [(0, .ref (g.2.2.1 0)), (1, .int a1)] := hl
  unfold fX11_past at hf
  refine lv_sipush (v := (642 : Int32)) hx hb dX11_past_0 (by decide) ?_
  refine lv_iconst (v := (5 : Int32)) hx hb dX11_past_3 (by decide) ?_
  refine lv_iload_n hx hb dX11_past_4 rfl (lv_at hl 1 rfl) ?_
  refine lv_imul hx hb dX11_past_5 ?_
  refine lv_iadd hx hb dX11_past_6 ?_
  refine lv_topi (fun x2_1 ex2_1 => ?_)
  have hf := x_lE ex2_1 hf
  refine lv_istore_n (lv' := [(2, .int x2_1), (0, .ref (g.2.2.1 0)), (1, .int a1)]) hx hb dX11_past_7 rfl hl (by decide) rfl (fun ls hl => ?_)
  refine lv_iconst (v := (0 : Int32)) hx hb dX11_past_8 (by decide) ?_
  refine lv_istore_n (lv' := [(3, .int (0 : Int32)), (2, .int x2_1), (0, .ref (g.2.2.1 0)), (1, .int a1)]) hx hb dX11_past_9 rfl hl (by decide) rfl (fun ls hl => ?_)
  refine lv_iconst (v := (0 : Int32)) hx hb dX11_past_10 (by decide) ?_
  refine lv_istore (lv' := [(4, .int (0 : Int32)), (3, .int (0 : Int32)), (2, .int x2_1), (0, .ref (g.2.2.1 0)), (1, .int a1)]) hx hb dX11_past_11 hl (by decide) rfl (fun ls hl => ?_)
  have hL_27 : ∀ (n_5 : Nat) (H : Heap) (locs : List Loc) (M_4 : xM) (x3_2 : Int32) (x4_3 : Int32) (ls : Array Slot) , lv_has ls 6 [(2, .int x2_1), (0, .ref (g.2.2.1 0)), (3, .int x3_2), (4, .int x4_3)] → x_w g 1 s H locs M_4 → fX11_past_L13 x2_1 n_5 M_4 x3_2 x4_3 = some (r, M') → W p l e (x_rm 1 22) s m args below meth c H locs 0 0 Q (F0 m 13 ls []) := by
    intro n_5
    induction n_5 with
    | zero =>
      intro H locs M_4 x3_2 x4_3 ls  hl hw hf
      rw [fX11_past_L13] at hf
      cases hf
    | succ n_5 ih_6 =>
      intro H locs M_4 x3_2 x4_3 ls  hl hw hf
      rw [fX11_past_L13] at hf
      refine lv_iload hx hb dX11_past_13 (lv_at hl 3 rfl) ?_
      refine lv_aload_n hx hb dX11_past_15 rfl (lv_at hl 1 rfl) ?_
      refine fg_X11_7 (k2 := 1) C hw ic1_0 rfl dX11_past_16 ?_
      refine lv_bipush (v := (20 : Int32)) hx hb dX11_past_19 (by decide) ?_
      refine x_ald (j := 20) C hw ic1_1 (x_inl rfl) rfl dX11_past_21 ?_
      refine lv_icmp_ge (tgt := 106) hx hb dX11_past_22 (by decide) (fun q_8 => ?_) (fun q_8 => ?_)
      · have hf := x_iP hf q_8
        refine lv_iload_n hx hb dX11_past_106 rfl (lv_at hl 2 rfl) ?_
        exact ret hf dX11_past_107 hw
      · have hf := x_iN hf q_8
        refine lv_aload_n hx hb dX11_past_25 rfl (lv_at hl 1 rfl) ?_
        refine fg_X11_7 (k2 := 1) C hw ic1_0 rfl dX11_past_26 ?_
        refine lv_iload_n hx hb dX11_past_29 rfl (lv_at hl 0 rfl) ?_
        refine lv_iconst (v := (2 : Int32)) hx hb dX11_past_30 (by decide) ?_
        refine lv_iadd hx hb dX11_past_31 ?_
        obtain ⟨q_9, hf⟩ := x_gE hf
        refine x_ald C hw ic1_1 q_9 rfl dX11_past_32 ?_
        refine lv_aload_n hx hb dX11_past_33 rfl (lv_at hl 1 rfl) ?_
        refine fg_X11_7 (k2 := 1) C hw ic1_0 rfl dX11_past_34 ?_
        refine lv_sipush (v := (792 : Int32)) hx hb dX11_past_37 (by decide) ?_
        refine lv_bipush (v := (10 : Int32)) hx hb dX11_past_40 (by decide) ?_
        refine lv_iload hx hb dX11_past_42 (lv_at hl 3 rfl) ?_
        refine lv_imul hx hb dX11_past_44 ?_
        refine lv_iadd hx hb dX11_past_45 ?_
        refine lv_iconst (v := (1 : Int32)) hx hb dX11_past_46 (by decide) ?_
        refine lv_iadd hx hb dX11_past_47 ?_
        obtain ⟨q_10, hf⟩ := x_gE hf
        refine x_ald C hw ic1_1 q_10 rfl dX11_past_48 ?_
        refine lv_isub hx hb dX11_past_49 ?_
        refine lv_topi (fun x5_11 ex5_11 => ?_)
        have hf := x_lE ex5_11 hf
        refine lv_istore (lv' := [(5, .int x5_11), (2, .int x2_1), (0, .ref (g.2.2.1 0)), (3, .int x3_2), (4, .int x4_3)]) hx hb dX11_past_50 hl (by decide) rfl (fun ls hl => ?_)
        refine lv_iload_n hx hb dX11_past_52 rfl (lv_at hl 3 rfl) ?_
        refine lv_aload_n hx hb dX11_past_53 rfl (lv_at hl 2 rfl) ?_
        refine fg_X11_7 (k2 := 1) C hw ic1_0 rfl dX11_past_54 ?_
        refine lv_sipush (v := (792 : Int32)) hx hb dX11_past_57 (by decide) ?_
        refine lv_bipush (v := (10 : Int32)) hx hb dX11_past_60 (by decide) ?_
        refine lv_iload hx hb dX11_past_62 (lv_at hl 4 rfl) ?_
        refine lv_imul hx hb dX11_past_64 ?_
        refine lv_iadd hx hb dX11_past_65 ?_
        obtain ⟨q_12, hf⟩ := x_gE hf
        refine x_ald C hw ic1_1 q_12 rfl dX11_past_66 ?_
        refine lv_aload_n hx hb dX11_past_67 rfl (lv_at hl 2 rfl) ?_
        refine fg_X11_7 (k2 := 1) C hw ic1_0 rfl dX11_past_68 ?_
        refine lv_iload_n hx hb dX11_past_71 rfl (lv_at hl 1 rfl) ?_
        refine lv_iconst (v := (1 : Int32)) hx hb dX11_past_72 (by decide) ?_
        refine lv_iadd hx hb dX11_past_73 ?_
        obtain ⟨q_13, hf⟩ := x_gE hf
        refine x_ald C hw ic1_1 q_13 rfl dX11_past_74 ?_
        obtain ⟨k98_15, ek98_15, hf⟩ := x_jE hf
        have hk98_15 : ∀ (H : Heap) (locs : List Loc) (M_16 : xM) (z_14 : Int32) (ls : Array Slot) , lv_has ls 6 [(2, .int x2_1), (0, .ref (g.2.2.1 0)), (4, .int x4_3)] → x_w g 1 s H locs M_16 → k98_15 M_16 z_14 = some (r, M') → W p l e (x_rm 1 22) s m args below meth c H locs 0 0 Q (F0 m 98 ls [.int z_14, .int x3_2]) := by
          intro H locs M_16 z_14 ls  hl hw hf
          rw [ek98_15] at hf
          refine lv_iadd hx hb dX11_past_98 ?_
          refine lv_topi (fun x3_17 ex3_17 => ?_)
          have hf := x_lE ex3_17 hf
          refine lv_istore_n (lv' := [(3, .int x3_17), (2, .int x2_1), (0, .ref (g.2.2.1 0)), (4, .int x4_3)]) hx hb dX11_past_99 rfl hl (by decide) rfl (fun ls hl => ?_)
          obtain ⟨x4_18, ex4_18⟩ : ∃ z : Int32, z = (x4_3 + (1 : Int32)) := ⟨_, rfl⟩
          have hf := x_lE ex4_18 hf
          refine lv_iinc (v := x4_18) (lv' := [(4, .int x4_18), (3, .int x3_17), (2, .int x2_1), (0, .ref (g.2.2.1 0))]) hx hb dX11_past_100 hl (k := 3) rfl (by rw [ex4_18]; rfl) (by decide) rfl (fun ls hl => ?_)
          refine lv_goto (tgt := 13) hx hb dX11_past_103 (by decide) ?_
          exact ih_6 _ _ _ _ _ _ (lv_sub hl [2, 3, 1, 0] rfl) hw hf
        obtain ⟨k97_19, ek97_19, hf⟩ := x_jE hf
        have hk97_19 : ∀ (H : Heap) (locs : List Loc) (M_20 : xM)  (ls : Array Slot) , lv_has ls 6 [(2, .int x2_1), (0, .ref (g.2.2.1 0)), (4, .int x4_3)] → x_w g 1 s H locs M_20 → k97_19 M_20 = some (r, M') → W p l e (x_rm 1 22) s m args below meth c H locs 0 0 Q (F0 m 97 ls [.int x3_2]) := by
          intro H locs M_20  ls  hl hw hf
          rw [ek97_19] at hf
          refine lv_iconst (v := (0 : Int32)) hx hb dX11_past_97 (by decide) ?_
          exact hk98_15 _ _ _ _ _ (lv_sub hl [0, 1, 2] rfl) hw hf
        refine lv_icmp_ne (tgt := 97) hx hb dX11_past_75 (by decide) (fun q_21 => ?_) (fun q_21 => ?_)
        · have hf := x_iN hf q_21
          exact hk97_19 _ _ _ _ (lv_sub hl [1, 2, 4] rfl) hw hf
        · have hf := x_iP hf q_21
          refine lv_iload hx hb dX11_past_78 (lv_at hl 0 rfl) ?_
          refine lv_iconst (v := (1 : Int32)) hx hb dX11_past_80 (by decide) ?_
          refine lv_aload_n hx hb dX11_past_81 rfl (lv_at hl 2 rfl) ?_
          refine fg_X11_7 (k2 := 1) C hw ic1_0 rfl dX11_past_82 ?_
          refine lv_iconst (v := (2 : Int32)) hx hb dX11_past_85 (by decide) ?_
          refine x_ald (j := 2) C hw ic1_1 (x_inl rfl) rfl dX11_past_86 ?_
          obtain ⟨tv_25, tM_23, c_24, hf⟩ := x_bE hf
          refine x_sI C hw hl.1 [.int x5_11, .int (1 : Int32), .int (M_4 1 2)] [.int x3_2] (mX11_in l g c_24) lk_X11_56 (by decide) rfl (Nat.le_of_ble_eq_true rfl) ⟨Nat.zero_le _, Nat.zero_le _⟩ dX11_past_87 (fun v_25 M_23 H locs hN hw => ?_)
          obtain ⟨rfl, rfl⟩ := hN
          refine lv_if_eq (tgt := 97) hx hb dX11_past_90 (by decide) (fun q_26 => ?_) (fun q_26 => ?_)
          · have hf := x_iP hf q_26
            exact hk97_19 _ _ _ _ (lv_sub hl [1, 2, 4] rfl) hw hf
          · have hf := x_iN hf q_26
            refine lv_iconst (v := (1 : Int32)) hx hb dX11_past_93 (by decide) ?_
            refine lv_goto (tgt := 98) hx hb dX11_past_94 (by decide) ?_
            exact hk98_15 _ _ _ _ _ (lv_sub hl [1, 2, 4] rfl) hw hf
  exact hL_27 _ _ _ _ _ _ _ (lv_sub hl [2, 3, 1, 0] rfl) hw hf
noncomputable def fX11_told (M : xM) (a1 : Int32) (a2 : Int32) : Option (Int32 × xM) := x_b (fX11_isDeed M a1) fun v_3 M_1 => if v_3 = 0 then (some ((-1000000001 : Int32), M_1)) else (x_b (fX11_in M_1 a2 (0 : Int32) (5 : Int32)) fun v_7 M_5 => if v_7 = 0 then (some ((-1000000001 : Int32), M_5)) else (if a2 = (4 : Int32) then (x_b (fX11_past M_5 a1) fun v_18 M_16 => some (v_18, M_16)) else (if a2 = (5 : Int32) then (x_g (((642 : Int32) + ((5 : Int32) * a1)) + (4 : Int32)) 1675 (x_b (fX11_orNone M_5 (M_5 1 (((642 : Int32) + ((5 : Int32) * a1)) + (4 : Int32)).toNatClampNeg)) fun v_15 M_13 => some (v_15, M_13))) else (x_g (((642 : Int32) + ((5 : Int32) * a1)) + a2) 1675 (some ((M_5 1 (((642 : Int32) + ((5 : Int32) * a1)) + a2).toNatClampNeg), M_5))))))
set_option maxRecDepth 100000 in
set_option maxHeartbeats 4000000 in
theorem mX11_told (l : Launch) (g : xG) {a1 : Int32} {a2 : Int32} {r : Int32} {M' : xM}  {M : xM} (hf : fX11_told M a1 a2 = some (r, M')) : x_cI l g 1 yX11_told cX11_told 3 .int 2 47 [.ref (g.2.2.1 0), .int a1, .int a2] M (fun v N => v = r ∧ N = M') := by
  refine x_stI RX11 (by decide) rfl (Nat.le_of_ble_eq_true rfl) ?_
  intro p e s m args below meth c Q ls C hw ret hl
  obtain ⟨hx, hb, hml, hown, hB, -⟩ := id C
  have hl : lv_has ls 3 [(0, .ref (g.2.2.1 0)), (1, .int a1), (2, .int a2)] := hl
  unfold fX11_told at hf
  refine lv_aload_n hx hb dX11_told_0 rfl (lv_at hl 0 rfl) ?_
  refine lv_iload_n hx hb dX11_told_1 rfl (lv_at hl 1 rfl) ?_
  obtain ⟨tv_3, tM_1, c_2, hf⟩ := x_bE hf
  refine x_vI C hw hl.1 [.int a1] [] (mX11_isDeed l g c_2) lk_X11_90 ic1_0 (by decide) rfl (by decide) rfl (Nat.le_of_ble_eq_true rfl) ⟨Nat.zero_le _, Nat.zero_le _⟩ dX11_told_2 (fun v_3 M_1 H locs hN hw => ?_)
  obtain ⟨rfl, rfl⟩ := hN
  refine lv_if_eq (tgt := 17) hx hb dX11_told_5 (by decide) (fun q_4 => ?_) (fun q_4 => ?_)
  · have hf := x_iP hf q_4
    refine lv_ldc hx hb hown (hB _ mk_X11_60) dX11_told_17 ?_
    exact ret hf dX11_told_19 hw
  · have hf := x_iN hf q_4
    refine lv_iload_n hx hb dX11_told_8 rfl (lv_at hl 2 rfl) ?_
    refine lv_iconst (v := (0 : Int32)) hx hb dX11_told_9 (by decide) ?_
    refine lv_iconst (v := (5 : Int32)) hx hb dX11_told_10 (by decide) ?_
    obtain ⟨tv_7, tM_5, c_6, hf⟩ := x_bE hf
    refine x_sI C hw hl.1 [.int a2, .int (0 : Int32), .int (5 : Int32)] [] (mX11_in l g c_6) lk_X11_56 (by decide) rfl (Nat.le_of_ble_eq_true rfl) ⟨Nat.zero_le _, Nat.zero_le _⟩ dX11_told_11 (fun v_7 M_5 H locs hN hw => ?_)
    obtain ⟨rfl, rfl⟩ := hN
    refine lv_if_ne (tgt := 20) hx hb dX11_told_14 (by decide) (fun q_8 => ?_) (fun q_8 => ?_)
    · have hf := x_iN hf q_8
      refine lv_iload_n hx hb dX11_told_20 rfl (lv_at hl 2 rfl) ?_
      refine lv_iconst (v := (4 : Int32)) hx hb dX11_told_21 (by decide) ?_
      refine lv_icmp_ne (tgt := 33) hx hb dX11_told_22 (by decide) (fun q_9 => ?_) (fun q_9 => ?_)
      · have hf := x_iN hf q_9
        refine lv_iload_n hx hb dX11_told_33 rfl (lv_at hl 2 rfl) ?_
        refine lv_iconst (v := (5 : Int32)) hx hb dX11_told_34 (by decide) ?_
        refine lv_icmp_ne (tgt := 58) hx hb dX11_told_35 (by decide) (fun q_10 => ?_) (fun q_10 => ?_)
        · have hf := x_iN hf q_10
          refine lv_aload_n hx hb dX11_told_58 rfl (lv_at hl 0 rfl) ?_
          refine fg_X11_7 (k2 := 1) C hw ic1_0 rfl dX11_told_59 ?_
          refine lv_sipush (v := (642 : Int32)) hx hb dX11_told_62 (by decide) ?_
          refine lv_iconst (v := (5 : Int32)) hx hb dX11_told_65 (by decide) ?_
          refine lv_iload_n hx hb dX11_told_66 rfl (lv_at hl 1 rfl) ?_
          refine lv_imul hx hb dX11_told_67 ?_
          refine lv_iadd hx hb dX11_told_68 ?_
          refine lv_iload_n hx hb dX11_told_69 rfl (lv_at hl 2 rfl) ?_
          refine lv_iadd hx hb dX11_told_70 ?_
          obtain ⟨q_11, hf⟩ := x_gE hf
          refine x_ald C hw ic1_1 q_11 rfl dX11_told_71 ?_
          exact ret hf dX11_told_72 hw
        · have hf := x_iP hf q_10
          refine lv_aload_n hx hb dX11_told_38 rfl (lv_at hl 0 rfl) ?_
          refine fg_X11_7 (k2 := 1) C hw ic1_0 rfl dX11_told_39 ?_
          refine lv_sipush (v := (642 : Int32)) hx hb dX11_told_42 (by decide) ?_
          refine lv_iconst (v := (5 : Int32)) hx hb dX11_told_45 (by decide) ?_
          refine lv_iload_n hx hb dX11_told_46 rfl (lv_at hl 1 rfl) ?_
          refine lv_imul hx hb dX11_told_47 ?_
          refine lv_iadd hx hb dX11_told_48 ?_
          refine lv_iconst (v := (4 : Int32)) hx hb dX11_told_49 (by decide) ?_
          refine lv_iadd hx hb dX11_told_50 ?_
          obtain ⟨q_12, hf⟩ := x_gE hf
          refine x_ald C hw ic1_1 q_12 rfl dX11_told_51 ?_
          obtain ⟨tv_15, tM_13, c_14, hf⟩ := x_bE hf
          refine x_sI C hw hl.1 [.int (M_5 1 (((642 : Int32) + ((5 : Int32) * a1)) + (4 : Int32)).toNatClampNeg)] [] (mX11_orNone l g c_14) lk_X11_96 (by decide) rfl (Nat.le_of_ble_eq_true rfl) ⟨Nat.zero_le _, Nat.zero_le _⟩ dX11_told_52 (fun v_15 M_13 H locs hN hw => ?_)
          obtain ⟨rfl, rfl⟩ := hN
          refine lv_goto (tgt := 72) hx hb dX11_told_55 (by decide) ?_
          exact ret hf dX11_told_72 hw
      · have hf := x_iP hf q_9
        refine lv_aload_n hx hb dX11_told_25 rfl (lv_at hl 0 rfl) ?_
        refine lv_iload_n hx hb dX11_told_26 rfl (lv_at hl 1 rfl) ?_
        obtain ⟨tv_18, tM_16, c_17, hf⟩ := x_bE hf
        refine x_vI C hw hl.1 [.int a1] [] (mX11_past l g c_17) lk_X11_93 ic1_0 (by decide) rfl (by decide) rfl (Nat.le_of_ble_eq_true rfl) ⟨Nat.zero_le _, Nat.zero_le _⟩ dX11_told_27 (fun v_18 M_16 H locs hN hw => ?_)
        obtain ⟨rfl, rfl⟩ := hN
        refine lv_goto (tgt := 72) hx hb dX11_told_30 (by decide) ?_
        exact ret hf dX11_told_72 hw
    · have hf := x_iP hf q_8
      refine lv_ldc hx hb hown (hB _ mk_X11_60) dX11_told_17 ?_
      exact ret hf dX11_told_19 hw
noncomputable def fX11_flat (M : xM) (a1 : Int32) (a2 : Int32) : Option (Int32 × xM) := x_b (fX11_in M a1 (0 : Int32) (3 : Int32)) fun v_3 M_1 => if v_3 = 0 then (some ((-1000000001 : Int32), M_1)) else (x_b (fX11_in M_1 a2 (0 : Int32) (9999 : Int32)) fun v_7 M_5 => if v_7 = 0 then (some ((-1000000001 : Int32), M_5)) else (x_g ((24 : Int32) + a1) 1675 (x_l (M_5 1 ((24 : Int32) + a1).toNatClampNeg) fun x3_10 => x_g ((24 : Int32) + a1) 1675 (x_l (x_up M_5 1 ((24 : Int32) + a1).toNatClampNeg a2) fun M_12 => some (x3_10, M_12)))))
set_option maxRecDepth 100000 in
set_option maxHeartbeats 4000000 in
theorem mX11_flat (l : Launch) (g : xG) {a1 : Int32} {a2 : Int32} {r : Int32} {M' : xM}  {M : xM} (hf : fX11_flat M a1 a2 = some (r, M')) : x_cI l g 1 yX11_flat cX11_flat 4 .int 1 22 [.ref (g.2.2.1 0), .int a1, .int a2] M (fun v N => v = r ∧ N = M') := by
  refine x_stI RX11 (by decide) rfl (Nat.le_of_ble_eq_true rfl) ?_
  intro p e s m args below meth c Q ls C hw ret hl
  obtain ⟨hx, hb, hml, hown, hB, -⟩ := id C
  have hl : lv_has ls 4 [(0, .ref (g.2.2.1 0)), (1, .int a1), (2, .int a2)] := hl
  unfold fX11_flat at hf
  refine lv_iload_n hx hb dX11_flat_0 rfl (lv_at hl 1 rfl) ?_
  refine lv_iconst (v := (0 : Int32)) hx hb dX11_flat_1 (by decide) ?_
  refine lv_iconst (v := (3 : Int32)) hx hb dX11_flat_2 (by decide) ?_
  obtain ⟨tv_3, tM_1, c_2, hf⟩ := x_bE hf
  refine x_sI C hw hl.1 [.int a1, .int (0 : Int32), .int (3 : Int32)] [] (mX11_in l g c_2) lk_X11_56 (by decide) rfl (Nat.le_of_ble_eq_true rfl) ⟨Nat.zero_le _, Nat.zero_le _⟩ dX11_flat_3 (fun v_3 M_1 H locs hN hw => ?_)
  obtain ⟨rfl, rfl⟩ := hN
  refine lv_if_eq (tgt := 20) hx hb dX11_flat_6 (by decide) (fun q_4 => ?_) (fun q_4 => ?_)
  · have hf := x_iP hf q_4
    refine lv_ldc hx hb hown (hB _ mk_X11_60) dX11_flat_20 ?_
    exact ret hf dX11_flat_22 hw
  · have hf := x_iN hf q_4
    refine lv_iload_n hx hb dX11_flat_9 rfl (lv_at hl 2 rfl) ?_
    refine lv_iconst (v := (0 : Int32)) hx hb dX11_flat_10 (by decide) ?_
    refine lv_sipush (v := (9999 : Int32)) hx hb dX11_flat_11 (by decide) ?_
    obtain ⟨tv_7, tM_5, c_6, hf⟩ := x_bE hf
    refine x_sI C hw hl.1 [.int a2, .int (0 : Int32), .int (9999 : Int32)] [] (mX11_in l g c_6) lk_X11_56 (by decide) rfl (Nat.le_of_ble_eq_true rfl) ⟨Nat.zero_le _, Nat.zero_le _⟩ dX11_flat_14 (fun v_7 M_5 H locs hN hw => ?_)
    obtain ⟨rfl, rfl⟩ := hN
    refine lv_if_ne (tgt := 23) hx hb dX11_flat_17 (by decide) (fun q_8 => ?_) (fun q_8 => ?_)
    · have hf := x_iN hf q_8
      refine lv_aload_n hx hb dX11_flat_23 rfl (lv_at hl 0 rfl) ?_
      refine fg_X11_7 (k2 := 1) C hw ic1_0 rfl dX11_flat_24 ?_
      refine lv_bipush (v := (24 : Int32)) hx hb dX11_flat_27 (by decide) ?_
      refine lv_iload_n hx hb dX11_flat_29 rfl (lv_at hl 1 rfl) ?_
      refine lv_iadd hx hb dX11_flat_30 ?_
      obtain ⟨q_9, hf⟩ := x_gE hf
      refine x_ald C hw ic1_1 q_9 rfl dX11_flat_31 ?_
      refine lv_topi (fun x3_10 ex3_10 => ?_)
      have hf := x_lE ex3_10 hf
      refine lv_istore_n (lv' := [(3, .int x3_10), (0, .ref (g.2.2.1 0)), (1, .int a1), (2, .int a2)]) hx hb dX11_flat_32 rfl hl (by decide) rfl (fun ls hl => ?_)
      refine lv_aload_n hx hb dX11_flat_33 rfl (lv_at hl 1 rfl) ?_
      refine fg_X11_7 (k2 := 1) C hw ic1_0 rfl dX11_flat_34 ?_
      refine lv_bipush (v := (24 : Int32)) hx hb dX11_flat_37 (by decide) ?_
      refine lv_iload_n hx hb dX11_flat_39 rfl (lv_at hl 2 rfl) ?_
      refine lv_iadd hx hb dX11_flat_40 ?_
      refine lv_iload_n hx hb dX11_flat_41 rfl (lv_at hl 3 rfl) ?_
      obtain ⟨q_11, hf⟩ := x_gE hf
      refine x_ast C hw ic1_1 q_11 rfl dX11_flat_42 (fun H locs hw => ?_)
      obtain ⟨M_12, eM_12⟩ : ∃ z, z = (x_up M_5 1 ((24 : Int32) + a1).toNatClampNeg a2) := ⟨_, rfl⟩
      rw [← eM_12] at hw
      have hf := x_lE eM_12 hf
      refine lv_iload_n hx hb dX11_flat_43 rfl (lv_at hl 0 rfl) ?_
      exact ret hf dX11_flat_44 hw
    · have hf := x_iP hf q_8
      refine lv_ldc hx hb hown (hB _ mk_X11_60) dX11_flat_20 ?_
      exact ret hf dX11_flat_22 hw
noncomputable def fX11_feed_L18 (a1 : Int32) (a2 : Int32) (a3 : Int32) (k84_2 : xM → Option (Int32 × xM)) : Nat → xM → Int32 → Option (Int32 × xM)
  | 0, _, _ => none
  | n_7 + 1, M_6, x4_5 => if (12 : Int32) ≤ x4_5 then (k84_2 M_6) else (x_l (fun (M_12 : xM) (z_10 : Int32) => x_g ((M_12 0 4) + x4_5) 120 (x_l (x_up M_12 3 ((M_12 0 4) + x4_5).toNatClampNeg ((z_10 >>> (((24 : Int32) - ((x4_5 - x4_5 / (4 : Int32) * (4 : Int32)) * (8 : Int32))) &&& 31)) &&& (255 : Int32))) fun M_15 => x_l (x4_5 + (1 : Int32)) fun x4_16 => fX11_feed_L18 a1 a2 a3 k84_2 n_7 M_15 x4_16)) fun k47_11 => if (4 : Int32) ≤ x4_5 then (if (8 : Int32) ≤ x4_5 then (k47_11 M_6 a3) else (k47_11 M_6 a2)) else (k47_11 M_6 a1))
noncomputable def fX11_feed (M : xM) (a1 : Int32) (a2 : Int32) (a3 : Int32) : Option (Int32 × xM) := if ((M 0 4) + (12 : Int32)) ≤ (120 : Int32) then (x_l (fun (M_3 : xM) => x_l (x_up M_3 0 4 ((M_3 0 4) + (12 : Int32))) fun M_4 => some ((M_4 0 4), M_4)) fun k84_2 => fX11_feed_L18 a1 a2 a3 k84_2 x_FU M (0 : Int32)) else (some ((-1000000003 : Int32), M))
set_option maxRecDepth 100000 in
set_option maxHeartbeats 4000000 in
theorem mX11_feed (l : Launch) (g : xG) {a1 : Int32} {a2 : Int32} {a3 : Int32} {r : Int32} {M' : xM}  {M : xM} (hf : fX11_feed M a1 a2 a3 = some (r, M')) : x_cI l g 1 yX11_feed cX11_feed 6 .int 0 0 [.ref (g.2.2.1 0), .int a1, .int a2, .int a3] M (fun v N => v = r ∧ N = M') := by
  refine x_stI RX11 (by decide) rfl (Nat.le_of_ble_eq_true rfl) ?_
  intro p e s m args below meth c Q ls C hw ret hl
  obtain ⟨hx, hb, hml, hown, hB, -⟩ := id C
  have hl : lv_has ls 6 [(0, .ref (g.2.2.1 0)), (1, .int a1), (2, .int a2), (3, .int a3)] := hl
  unfold fX11_feed at hf
  refine lv_aload_n hx hb dX11_feed_0 rfl (lv_at hl 0 rfl) ?_
  refine fg_X11_99 C hw ic1_0 dX11_feed_1 ?_
  refine lv_bipush (v := (12 : Int32)) hx hb dX11_feed_4 (by decide) ?_
  refine lv_iadd hx hb dX11_feed_6 ?_
  refine lv_bipush (v := (120 : Int32)) hx hb dX11_feed_7 (by decide) ?_
  refine lv_icmp_le (tgt := 15) hx hb dX11_feed_9 (by decide) (fun q_1 => ?_) (fun q_1 => ?_)
  · have hf := x_iP hf q_1
    refine lv_iconst (v := (0 : Int32)) hx hb dX11_feed_15 (by decide) ?_
    refine lv_istore (lv' := [(4, .int (0 : Int32)), (0, .ref (g.2.2.1 0)), (1, .int a1), (2, .int a2), (3, .int a3)]) hx hb dX11_feed_16 hl (by decide) rfl (fun ls hl => ?_)
    obtain ⟨k84_2, ek84_2, hf⟩ := x_jE hf
    have hk84_2 : ∀ (H : Heap) (locs : List Loc) (M_3 : xM)  (ls : Array Slot) , lv_has ls 6 [(0, .ref (g.2.2.1 0))] → x_w g 1 s H locs M_3 → k84_2 M_3 = some (r, M') → W p l e (x_rm 0 0) s m args below meth c H locs 0 0 Q (F0 m 84 ls []) := by
      intro H locs M_3  ls  hl hw hf
      rw [ek84_2] at hf
      refine lv_aload_n hx hb dX11_feed_84 rfl (lv_at hl 0 rfl) ?_
      refine lv_dup hx hb dX11_feed_85 rfl ?_
      refine fg_X11_99 C hw ic1_0 dX11_feed_86 ?_
      refine lv_bipush (v := (12 : Int32)) hx hb dX11_feed_89 (by decide) ?_
      refine lv_iadd hx hb dX11_feed_91 ?_
      refine fp_X11_99 C hw ic1_0 dX11_feed_92 (fun H locs hw => ?_)
      obtain ⟨M_4, eM_4⟩ : ∃ z, z = (x_up M_3 0 4 ((M_3 0 4) + (12 : Int32))) := ⟨_, rfl⟩
      rw [← eM_4] at hw
      have hf := x_lE eM_4 hf
      refine lv_aload_n hx hb dX11_feed_95 rfl (lv_at hl 0 rfl) ?_
      refine fg_X11_99 C hw ic1_0 dX11_feed_96 ?_
      exact ret hf dX11_feed_99 hw
    have hL_19 : ∀ (n_7 : Nat) (H : Heap) (locs : List Loc) (M_6 : xM) (x4_5 : Int32) (ls : Array Slot) , lv_has ls 6 [(0, .ref (g.2.2.1 0)), (1, .int a1), (2, .int a2), (3, .int a3), (4, .int x4_5)] → x_w g 1 s H locs M_6 → fX11_feed_L18 a1 a2 a3 k84_2 n_7 M_6 x4_5 = some (r, M') → W p l e (x_rm 0 0) s m args below meth c H locs 0 0 Q (F0 m 18 ls []) := by
      intro n_7
      induction n_7 with
      | zero =>
        intro H locs M_6 x4_5 ls  hl hw hf
        rw [fX11_feed_L18] at hf
        cases hf
      | succ n_7 ih_8 =>
        intro H locs M_6 x4_5 ls  hl hw hf
        rw [fX11_feed_L18] at hf
        refine lv_iload hx hb dX11_feed_18 (lv_at hl 4 rfl) ?_
        refine lv_bipush (v := (12 : Int32)) hx hb dX11_feed_20 (by decide) ?_
        refine lv_icmp_ge (tgt := 84) hx hb dX11_feed_22 (by decide) (fun q_9 => ?_) (fun q_9 => ?_)
        · have hf := x_iP hf q_9
          exact hk84_2 _ _ _ _ (lv_sub hl [0] rfl) hw hf
        · have hf := x_iN hf q_9
          refine lv_iload hx hb dX11_feed_25 (lv_at hl 4 rfl) ?_
          refine lv_iconst (v := (4 : Int32)) hx hb dX11_feed_27 (by decide) ?_
          obtain ⟨k47_11, ek47_11, hf⟩ := x_jE hf
          have hk47_11 : ∀ (H : Heap) (locs : List Loc) (M_12 : xM) (z_10 : Int32) (ls : Array Slot) , lv_has ls 6 [(0, .ref (g.2.2.1 0)), (1, .int a1), (2, .int a2), (3, .int a3), (4, .int x4_5)] → x_w g 1 s H locs M_12 → k47_11 M_12 z_10 = some (r, M') → W p l e (x_rm 0 0) s m args below meth c H locs 0 0 Q (F0 m 47 ls [.int z_10]) := by
            intro H locs M_12 z_10 ls  hl hw hf
            rw [ek47_11] at hf
            refine lv_istore (lv' := [(5, .int z_10), (0, .ref (g.2.2.1 0)), (1, .int a1), (2, .int a2), (3, .int a3), (4, .int x4_5)]) hx hb dX11_feed_47 hl (by decide) rfl (fun ls hl => ?_)
            refine lv_aload_n hx hb dX11_feed_49 rfl (lv_at hl 1 rfl) ?_
            refine fg_X11_16 (k2 := 3) C hw ic1_0 rfl dX11_feed_50 ?_
            refine lv_aload_n hx hb dX11_feed_53 rfl (lv_at hl 1 rfl) ?_
            refine fg_X11_99 C hw ic1_0 dX11_feed_54 ?_
            refine lv_iload hx hb dX11_feed_57 (lv_at hl 5 rfl) ?_
            refine lv_iadd hx hb dX11_feed_59 ?_
            refine lv_iload hx hb dX11_feed_60 (lv_at hl 0 rfl) ?_
            refine lv_bipush (v := (24 : Int32)) hx hb dX11_feed_62 (by decide) ?_
            refine lv_iload hx hb dX11_feed_64 (lv_at hl 5 rfl) ?_
            refine lv_iconst (v := (4 : Int32)) hx hb dX11_feed_66 (by decide) ?_
            refine lv_irem hx hb dX11_feed_67 (by decide) ?_
            refine lv_bipush (v := (8 : Int32)) hx hb dX11_feed_68 (by decide) ?_
            refine lv_imul hx hb dX11_feed_70 ?_
            refine lv_isub hx hb dX11_feed_71 ?_
            refine lv_ishr hx hb dX11_feed_72 ?_
            refine lv_sipush (v := (255 : Int32)) hx hb dX11_feed_73 (by decide) ?_
            refine lv_iand hx hb dX11_feed_76 ?_
            obtain ⟨q_14, hf⟩ := x_gE hf
            refine x_ast C hw ic1_3 q_14 rfl dX11_feed_77 (fun H locs hw => ?_)
            obtain ⟨M_15, eM_15⟩ : ∃ z, z = (x_up M_12 3 ((M_12 0 4) + x4_5).toNatClampNeg ((z_10 >>> (((24 : Int32) - ((x4_5 - x4_5 / (4 : Int32) * (4 : Int32)) * (8 : Int32))) &&& 31)) &&& (255 : Int32))) := ⟨_, rfl⟩
            rw [← eM_15] at hw
            have hf := x_lE eM_15 hf
            obtain ⟨x4_16, ex4_16⟩ : ∃ z : Int32, z = (x4_5 + (1 : Int32)) := ⟨_, rfl⟩
            have hf := x_lE ex4_16 hf
            refine lv_iinc (v := x4_16) (lv' := [(4, .int x4_16), (5, .int z_10), (0, .ref (g.2.2.1 0)), (1, .int a1), (2, .int a2), (3, .int a3)]) hx hb dX11_feed_78 hl (k := 5) rfl (by rw [ex4_16]; rfl) (by decide) rfl (fun ls hl => ?_)
            refine lv_goto (tgt := 18) hx hb dX11_feed_81 (by decide) ?_
            exact ih_8 _ _ _ _ _ (lv_sub hl [2, 3, 4, 5, 0] rfl) hw hf
          refine lv_icmp_ge (tgt := 35) hx hb dX11_feed_28 (by decide) (fun q_17 => ?_) (fun q_17 => ?_)
          · have hf := x_iP hf q_17
            refine lv_iload hx hb dX11_feed_35 (lv_at hl 4 rfl) ?_
            refine lv_bipush (v := (8 : Int32)) hx hb dX11_feed_37 (by decide) ?_
            refine lv_icmp_ge (tgt := 46) hx hb dX11_feed_39 (by decide) (fun q_18 => ?_) (fun q_18 => ?_)
            · have hf := x_iP hf q_18
              refine lv_iload_n hx hb dX11_feed_46 rfl (lv_at hl 3 rfl) ?_
              exact hk47_11 _ _ _ _ _ (lv_sub hl [0, 1, 2, 3, 4] rfl) hw hf
            · have hf := x_iN hf q_18
              refine lv_iload_n hx hb dX11_feed_42 rfl (lv_at hl 2 rfl) ?_
              refine lv_goto (tgt := 47) hx hb dX11_feed_43 (by decide) ?_
              exact hk47_11 _ _ _ _ _ (lv_sub hl [0, 1, 2, 3, 4] rfl) hw hf
          · have hf := x_iN hf q_17
            refine lv_iload_n hx hb dX11_feed_31 rfl (lv_at hl 1 rfl) ?_
            refine lv_goto (tgt := 47) hx hb dX11_feed_32 (by decide) ?_
            exact hk47_11 _ _ _ _ _ (lv_sub hl [0, 1, 2, 3, 4] rfl) hw hf
    exact hL_19 _ _ _ _ _ _ (lv_sub hl [1, 2, 3, 4, 0] rfl) hw hf
  · have hf := x_iN hf q_1
    refine lv_ldc hx hb hown (hB _ mk_X11_61) dX11_feed_12 ?_
    exact ret hf dX11_feed_14 hw
noncomputable def fX11_trim (M : xM) (a1 : Int32) : Option (Int32 × xM) := x_b (fX11_in M a1 (0 : Int32) (M 0 4)) fun v_3 M_1 => if v_3 = 0 then (some ((-1000000001 : Int32), M_1)) else (x_l (x_up M_1 0 4 a1) fun M_5 => some (a1, M_5))
set_option maxRecDepth 100000 in
set_option maxHeartbeats 4000000 in
theorem mX11_trim (l : Launch) (g : xG) {a1 : Int32} {r : Int32} {M' : xM}  {M : xM} (hf : fX11_trim M a1 = some (r, M')) : x_cI l g 1 yX11_trim cX11_trim 2 .int 1 22 [.ref (g.2.2.1 0), .int a1] M (fun v N => v = r ∧ N = M') := by
  refine x_stI RX11 (by decide) rfl (Nat.le_of_ble_eq_true rfl) ?_
  intro p e s m args below meth c Q ls C hw ret hl
  obtain ⟨hx, hb, hml, hown, hB, -⟩ := id C
  have hl : lv_has ls 2 [(0, .ref (g.2.2.1 0)), (1, .int a1)] := hl
  unfold fX11_trim at hf
  refine lv_iload_n hx hb dX11_trim_0 rfl (lv_at hl 1 rfl) ?_
  refine lv_iconst (v := (0 : Int32)) hx hb dX11_trim_1 (by decide) ?_
  refine lv_aload_n hx hb dX11_trim_2 rfl (lv_at hl 0 rfl) ?_
  refine fg_X11_99 C hw ic1_0 dX11_trim_3 ?_
  obtain ⟨tv_3, tM_1, c_2, hf⟩ := x_bE hf
  refine x_sI C hw hl.1 [.int a1, .int (0 : Int32), .int (M 0 4)] [] (mX11_in l g c_2) lk_X11_56 (by decide) rfl (Nat.le_of_ble_eq_true rfl) ⟨Nat.zero_le _, Nat.zero_le _⟩ dX11_trim_6 (fun v_3 M_1 H locs hN hw => ?_)
  obtain ⟨rfl, rfl⟩ := hN
  refine lv_if_ne (tgt := 15) hx hb dX11_trim_9 (by decide) (fun q_4 => ?_) (fun q_4 => ?_)
  · have hf := x_iN hf q_4
    refine lv_aload_n hx hb dX11_trim_15 rfl (lv_at hl 0 rfl) ?_
    refine lv_iload_n hx hb dX11_trim_16 rfl (lv_at hl 1 rfl) ?_
    refine fp_X11_99 C hw ic1_0 dX11_trim_17 (fun H locs hw => ?_)
    obtain ⟨M_5, eM_5⟩ : ∃ z, z = (x_up M_1 0 4 a1) := ⟨_, rfl⟩
    rw [← eM_5] at hw
    have hf := x_lE eM_5 hf
    refine lv_iload_n hx hb dX11_trim_20 rfl (lv_at hl 1 rfl) ?_
    exact ret hf dX11_trim_21 hw
  · have hf := x_iP hf q_4
    refine lv_ldc hx hb hown (hB _ mk_X11_60) dX11_trim_12 ?_
    exact ret hf dX11_trim_14 hw
noncomputable def fX11_wrong (M : xM)  : Option (xM) := x_l (fun (M_2 : xM) => x_l (x_up M_2 0 10 (1 : Int32)) fun M_3 => some M_3) fun k15_1 => if (M 0 10) = 0 then (x_l (x_up M 0 9 (M 0 5)) fun M_5 => k15_1 M_5) else (k15_1 M)
set_option maxRecDepth 100000 in
set_option maxHeartbeats 4000000 in
theorem mX11_wrong (l : Launch) (g : xG)  {M' : xM}  {M : xM} (hf : fX11_wrong M  = some M') : x_cV l g 1 yX11_wrong cX11_wrong 1 0 0 [.ref (g.2.2.1 0)] M (fun N => N = M') := by
  refine x_stV RX11 (by decide) rfl (Nat.le_of_ble_eq_true rfl) ?_
  intro p e s m args below meth c Q ls C hw ret hl
  obtain ⟨hx, hb, hml, hown, hB, -⟩ := id C
  have hl : lv_has ls 1 [(0, .ref (g.2.2.1 0))] := hl
  unfold fX11_wrong at hf
  refine lv_aload_n hx hb dX11_wrong_0 rfl (lv_at hl 0 rfl) ?_
  refine fg_X11_103 C hw ic1_0 dX11_wrong_1 ?_
  obtain ⟨k15_1, ek15_1, hf⟩ := x_jE hf
  have hk15_1 : ∀ (H : Heap) (locs : List Loc) (M_2 : xM)  (ls : Array Slot) , lv_has ls 1 [(0, .ref (g.2.2.1 0))] → x_w g 1 s H locs M_2 → k15_1 M_2 = some M' → W p l e (x_rm 0 0) s m args below meth c H locs 0 0 Q (F0 m 15 ls []) := by
    intro H locs M_2  ls  hl hw hf
    rw [ek15_1] at hf
    refine lv_aload_n hx hb dX11_wrong_15 rfl (lv_at hl 0 rfl) ?_
    refine lv_iconst (v := (1 : Int32)) hx hb dX11_wrong_16 (by decide) ?_
    refine fp_X11_103 C hw (⟨rfl, rfl⟩ : _ ∧ _) ic1_0 dX11_wrong_17 (fun H locs hw => ?_)
    obtain ⟨M_3, eM_3⟩ : ∃ z, z = (x_up M_2 0 10 (1 : Int32)) := ⟨_, rfl⟩
    rw [← eM_3] at hw
    have hf := x_lE eM_3 hf
    exact ret hf dX11_wrong_20 hw
  refine lv_if_ne (tgt := 15) hx hb dX11_wrong_4 (by decide) (fun q_4 => ?_) (fun q_4 => ?_)
  · have hf := x_iN hf q_4
    exact hk15_1 _ _ _ _ (lv_sub hl [0] rfl) hw hf
  · have hf := x_iP hf q_4
    refine lv_aload_n hx hb dX11_wrong_7 rfl (lv_at hl 0 rfl) ?_
    refine lv_aload_n hx hb dX11_wrong_8 rfl (lv_at hl 0 rfl) ?_
    refine fg_X11_107 C hw ic1_0 dX11_wrong_9 ?_
    refine fp_X11_110 C hw ic1_0 dX11_wrong_12 (fun H locs hw => ?_)
    obtain ⟨M_5, eM_5⟩ : ∃ z, z = (x_up M 0 9 (M 0 5)) := ⟨_, rfl⟩
    rw [← eM_5] at hw
    have hf := x_lE eM_5 hf
    exact hk15_1 _ _ _ _ (lv_sub hl [0] rfl) hw hf
noncomputable def fX11_sortOf (M : xM) (a1 : Int32) : Option (Int32 × xM) := x_b (fX11_in M a1 (97 : Int32) (122 : Int32)) fun v_3 M_1 => if v_3 = 0 then (x_b (fX11_in M_1 a1 (48 : Int32) (57 : Int32)) fun v_7 M_5 => if v_7 = 0 then (some ((3 : Int32), M_5)) else (some ((2 : Int32), M_5))) else (some ((1 : Int32), M_1))
set_option maxRecDepth 100000 in
set_option maxHeartbeats 4000000 in
theorem mX11_sortOf (l : Launch) (g : xG) {a1 : Int32} {r : Int32} {M' : xM}  {M : xM} (hf : fX11_sortOf M a1 = some (r, M')) : x_cI l g 1 yX11_sortOf cX11_sortOf 1 .int 1 22 [.int a1] M (fun v N => v = r ∧ N = M') := by
  refine x_stI RX11 (by decide) rfl (Nat.le_of_ble_eq_true rfl) ?_
  intro p e s m args below meth c Q ls C hw ret hl
  obtain ⟨hx, hb, hml, hown, hB, -⟩ := id C
  have hl : lv_has ls 1 [(0, .int a1)] := hl
  unfold fX11_sortOf at hf
  refine lv_iload_n hx hb dX11_sortOf_0 rfl (lv_at hl 0 rfl) ?_
  refine lv_bipush (v := (97 : Int32)) hx hb dX11_sortOf_1 (by decide) ?_
  refine lv_bipush (v := (122 : Int32)) hx hb dX11_sortOf_3 (by decide) ?_
  obtain ⟨tv_3, tM_1, c_2, hf⟩ := x_bE hf
  refine x_sI C hw hl.1 [.int a1, .int (97 : Int32), .int (122 : Int32)] [] (mX11_in l g c_2) lk_X11_56 (by decide) rfl (Nat.le_of_ble_eq_true rfl) ⟨Nat.zero_le _, Nat.zero_le _⟩ dX11_sortOf_5 (fun v_3 M_1 H locs hN hw => ?_)
  obtain ⟨rfl, rfl⟩ := hN
  refine lv_if_eq (tgt := 15) hx hb dX11_sortOf_8 (by decide) (fun q_4 => ?_) (fun q_4 => ?_)
  · have hf := x_iP hf q_4
    refine lv_iload_n hx hb dX11_sortOf_15 rfl (lv_at hl 0 rfl) ?_
    refine lv_bipush (v := (48 : Int32)) hx hb dX11_sortOf_16 (by decide) ?_
    refine lv_bipush (v := (57 : Int32)) hx hb dX11_sortOf_18 (by decide) ?_
    obtain ⟨tv_7, tM_5, c_6, hf⟩ := x_bE hf
    refine x_sI C hw hl.1 [.int a1, .int (48 : Int32), .int (57 : Int32)] [] (mX11_in l g c_6) lk_X11_56 (by decide) rfl (Nat.le_of_ble_eq_true rfl) ⟨Nat.zero_le _, Nat.zero_le _⟩ dX11_sortOf_20 (fun v_7 M_5 H locs hN hw => ?_)
    obtain ⟨rfl, rfl⟩ := hN
    refine lv_if_eq (tgt := 30) hx hb dX11_sortOf_23 (by decide) (fun q_8 => ?_) (fun q_8 => ?_)
    · have hf := x_iP hf q_8
      refine lv_iconst (v := (3 : Int32)) hx hb dX11_sortOf_30 (by decide) ?_
      exact ret hf dX11_sortOf_31 hw
    · have hf := x_iN hf q_8
      refine lv_iconst (v := (2 : Int32)) hx hb dX11_sortOf_26 (by decide) ?_
      refine lv_goto (tgt := 31) hx hb dX11_sortOf_27 (by decide) ?_
      exact ret hf dX11_sortOf_31 hw
  · have hf := x_iN hf q_4
    refine lv_iconst (v := (1 : Int32)) hx hb dX11_sortOf_11 (by decide) ?_
    refine lv_goto (tgt := 31) hx hb dX11_sortOf_12 (by decide) ?_
    exact ret hf dX11_sortOf_31 hw
noncomputable def fX11_next_L144 (k202_16 : xM → Option (xM)) : Nat → xM → Option (xM)
  | 0, _ => none
  | n_26 + 1, M_25 => if (M_25 0 8) = (3 : Int32) then (k202_16 M_25) else (if (M_25 0 7) ≤ (M_25 0 6) then (k202_16 M_25) else (if (M_25 0 8) = 0 then (k202_16 M_25) else (x_g (M_25 0 6) 120 (x_b (fX11_sortOf M_25 (M_25 3 (M_25 0 6).toNatClampNeg)) fun v_34 M_32 => if v_34 = (M_32 0 8) then (x_l (x_up M_32 0 6 ((M_32 0 6) + (1 : Int32))) fun M_36 => fX11_next_L144 k202_16 n_26 M_36) else (k202_16 M_32)))))
noncomputable def fX11_next_L21 (k59_4 : xM → Option (xM)) : Nat → xM → Option (xM)
  | 0, _ => none
  | n_51 + 1, M_50 => if (M_50 0 7) ≤ (M_50 0 5) then (k59_4 M_50) else (x_g (M_50 0 5) 120 (if (M_50 3 (M_50 0 5).toNatClampNeg) = (32 : Int32) then (x_l (x_up M_50 0 5 ((M_50 0 5) + (1 : Int32))) fun M_56 => fX11_next_L21 k59_4 n_51 M_56) else (k59_4 M_50)))
noncomputable def fX11_next (M : xM)  : Option (xM) := if (M 0 10) = 0 then (x_l (M 0 6) fun x1_2 => x_l (x_up M 0 5 (M 0 6)) fun M_3 => x_l (fun (M_5 : xM) => x_l (x_up M_5 0 6 (M_5 0 5)) fun M_6 => x_l (fun (M_9 : xM) (z_7 : Int32) => x_l (fun (M_12 : xM) (z_10 : Int32) => x_l (x_up M_12 0 8 z_10) fun M_13 => x_l (fun (M_15 : xM) => x_l (fun (M_17 : xM) => if z_7 = 0 then (some M_17) else (x_l (fun (M_20 : xM) => x_v (fX11_wrong M_20) fun M_21 => some M_21) fun k222_19 => if (M_17 0 8) = (1 : Int32) then (k222_19 M_17) else (if (M_17 0 8) = (2 : Int32) then (k222_19 M_17) else (some M_17)))) fun k202_16 => fX11_next_L144 k202_16 x_FU M_15) fun k144_14 => if (M_13 0 8) = 0 then (k144_14 M_13) else (x_l (x_up M_13 0 6 ((M_13 0 6) + (1 : Int32))) fun M_39 => k144_14 M_39)) fun k124_11 => if (M_9 0 5) = (M_9 0 7) then (k124_11 M_9 (0 : Int32)) else (x_g (M_9 0 5) 120 (x_b (fX11_sortOf M_9 (M_9 3 (M_9 0 5).toNatClampNeg)) fun v_44 M_42 => k124_11 M_42 v_44))) fun k95_8 => x_l (fun (M_46 : xM) => k95_8 M_46 (0 : Int32)) fun k94_45 => if (M_6 0 5) = x1_2 then (if (M_6 0 8) = 0 then (k94_45 M_6) else (if (M_6 0 8) = (3 : Int32) then (k94_45 M_6) else (k95_8 M_6 (1 : Int32)))) else (k94_45 M_6)) fun k59_4 => fX11_next_L21 k59_4 x_FU M_3) else (some M)
set_option maxRecDepth 100000 in
set_option maxHeartbeats 4000000 in
theorem mX11_next (l : Launch) (g : xG)  {M' : xM}  {M : xM} (hf : fX11_next M  = some M') : x_cV l g 1 yX11_next cX11_next 3 2 42 [.ref (g.2.2.1 0)] M (fun N => N = M') := by
  refine x_stV RX11 (by decide) rfl (Nat.le_of_ble_eq_true rfl) ?_
  intro p e s m args below meth c Q ls C hw ret hl
  obtain ⟨hx, hb, hml, hown, hB, -⟩ := id C
  have hl : lv_has ls 3 [(0, .ref (g.2.2.1 0))] := hl
  unfold fX11_next at hf
  refine lv_aload_n hx hb dX11_next_0 rfl (lv_at hl 0 rfl) ?_
  refine fg_X11_103 C hw ic1_0 dX11_next_1 ?_
  refine lv_if_eq (tgt := 8) hx hb dX11_next_4 (by decide) (fun q_1 => ?_) (fun q_1 => ?_)
  · have hf := x_iP hf q_1
    refine lv_aload_n hx hb dX11_next_8 rfl (lv_at hl 0 rfl) ?_
    refine fg_X11_113 C hw ic1_0 dX11_next_9 ?_
    refine lv_topi (fun x1_2 ex1_2 => ?_)
    have hf := x_lE ex1_2 hf
    refine lv_istore_n (lv' := [(1, .int x1_2), (0, .ref (g.2.2.1 0))]) hx hb dX11_next_12 rfl hl (by decide) rfl (fun ls hl => ?_)
    refine lv_aload_n hx hb dX11_next_13 rfl (lv_at hl 1 rfl) ?_
    refine lv_aload_n hx hb dX11_next_14 rfl (lv_at hl 1 rfl) ?_
    refine fg_X11_113 C hw ic1_0 dX11_next_15 ?_
    refine fp_X11_107 C hw ic1_0 dX11_next_18 (fun H locs hw => ?_)
    obtain ⟨M_3, eM_3⟩ : ∃ z, z = (x_up M 0 5 (M 0 6)) := ⟨_, rfl⟩
    rw [← eM_3] at hw
    have hf := x_lE eM_3 hf
    obtain ⟨k59_4, ek59_4, hf⟩ := x_jE hf
    have hk59_4 : ∀ (H : Heap) (locs : List Loc) (M_5 : xM)  (ls : Array Slot) , lv_has ls 3 [(1, .int x1_2), (0, .ref (g.2.2.1 0))] → x_w g 1 s H locs M_5 → k59_4 M_5 = some M' → W p l e (x_rm 2 42) s m args below meth c H locs 0 0 Q (F0 m 59 ls []) := by
      intro H locs M_5  ls  hl hw hf
      rw [ek59_4] at hf
      refine lv_aload_n hx hb dX11_next_59 rfl (lv_at hl 1 rfl) ?_
      refine lv_aload_n hx hb dX11_next_60 rfl (lv_at hl 1 rfl) ?_
      refine fg_X11_107 C hw ic1_0 dX11_next_61 ?_
      refine fp_X11_113 C hw ic1_0 dX11_next_64 (fun H locs hw => ?_)
      obtain ⟨M_6, eM_6⟩ : ∃ z, z = (x_up M_5 0 6 (M_5 0 5)) := ⟨_, rfl⟩
      rw [← eM_6] at hw
      have hf := x_lE eM_6 hf
      refine lv_aload_n hx hb dX11_next_67 rfl (lv_at hl 1 rfl) ?_
      refine fg_X11_107 C hw ic1_0 dX11_next_68 ?_
      refine lv_iload_n hx hb dX11_next_71 rfl (lv_at hl 0 rfl) ?_
      obtain ⟨k95_8, ek95_8, hf⟩ := x_jE hf
      have hk95_8 : ∀ (H : Heap) (locs : List Loc) (M_9 : xM) (z_7 : Int32) (ls : Array Slot) , lv_has ls 3 [(0, .ref (g.2.2.1 0))] → x_w g 1 s H locs M_9 → k95_8 M_9 z_7 = some M' → W p l e (x_rm 2 42) s m args below meth c H locs 0 0 Q (F0 m 95 ls [.int z_7]) := by
        intro H locs M_9 z_7 ls  hl hw hf
        rw [ek95_8] at hf
        refine lv_istore_n (lv' := [(2, .int z_7), (0, .ref (g.2.2.1 0))]) hx hb dX11_next_95 rfl hl (by decide) rfl (fun ls hl => ?_)
        refine lv_aload_n hx hb dX11_next_96 rfl (lv_at hl 1 rfl) ?_
        refine lv_aload_n hx hb dX11_next_97 rfl (lv_at hl 1 rfl) ?_
        refine fg_X11_107 C hw ic1_0 dX11_next_98 ?_
        refine lv_aload_n hx hb dX11_next_101 rfl (lv_at hl 1 rfl) ?_
        refine fg_X11_116 C hw ic1_0 dX11_next_102 ?_
        obtain ⟨k124_11, ek124_11, hf⟩ := x_jE hf
        have hk124_11 : ∀ (H : Heap) (locs : List Loc) (M_12 : xM) (z_10 : Int32) (ls : Array Slot) , lv_has ls 3 [(2, .int z_7), (0, .ref (g.2.2.1 0))] → x_w g 1 s H locs M_12 → k124_11 M_12 z_10 = some M' → W p l e (x_rm 2 42) s m args below meth c H locs 0 0 Q (F0 m 124 ls [.int z_10, .ref (g.2.2.1 0)]) := by
          intro H locs M_12 z_10 ls  hl hw hf
          rw [ek124_11] at hf
          refine fp_X11_119 C hw ic1_0 dX11_next_124 (fun H locs hw => ?_)
          obtain ⟨M_13, eM_13⟩ : ∃ z, z = (x_up M_12 0 8 z_10) := ⟨_, rfl⟩
          rw [← eM_13] at hw
          have hf := x_lE eM_13 hf
          refine lv_aload_n hx hb dX11_next_127 rfl (lv_at hl 1 rfl) ?_
          refine fg_X11_119 C hw ic1_0 dX11_next_128 ?_
          obtain ⟨k144_14, ek144_14, hf⟩ := x_jE hf
          have hk144_14 : ∀ (H : Heap) (locs : List Loc) (M_15 : xM)  (ls : Array Slot) , lv_has ls 3 [(2, .int z_7), (0, .ref (g.2.2.1 0))] → x_w g 1 s H locs M_15 → k144_14 M_15 = some M' → W p l e (x_rm 2 42) s m args below meth c H locs 0 0 Q (F0 m 144 ls []) := by
            intro H locs M_15  ls  hl hw hf
            rw [ek144_14] at hf
            obtain ⟨k202_16, ek202_16, hf⟩ := x_jE hf
            have hk202_16 : ∀ (H : Heap) (locs : List Loc) (M_17 : xM)  (ls : Array Slot) , lv_has ls 3 [(2, .int z_7), (0, .ref (g.2.2.1 0))] → x_w g 1 s H locs M_17 → k202_16 M_17 = some M' → W p l e (x_rm 2 42) s m args below meth c H locs 0 0 Q (F0 m 202 ls []) := by
              intro H locs M_17  ls  hl hw hf
              rw [ek202_16] at hf
              refine lv_iload_n hx hb dX11_next_202 rfl (lv_at hl 0 rfl) ?_
              refine lv_if_eq (tgt := 226) hx hb dX11_next_203 (by decide) (fun q_18 => ?_) (fun q_18 => ?_)
              · have hf := x_iP hf q_18
                exact ret hf dX11_next_226 hw
              · have hf := x_iN hf q_18
                refine lv_aload_n hx hb dX11_next_206 rfl (lv_at hl 1 rfl) ?_
                refine fg_X11_119 C hw ic1_0 dX11_next_207 ?_
                refine lv_iconst (v := (1 : Int32)) hx hb dX11_next_210 (by decide) ?_
                obtain ⟨k222_19, ek222_19, hf⟩ := x_jE hf
                have hk222_19 : ∀ (H : Heap) (locs : List Loc) (M_20 : xM)  (ls : Array Slot) , lv_has ls 3 [(0, .ref (g.2.2.1 0))] → x_w g 1 s H locs M_20 → k222_19 M_20 = some M' → W p l e (x_rm 2 42) s m args below meth c H locs 0 0 Q (F0 m 222 ls []) := by
                  intro H locs M_20  ls  hl hw hf
                  rw [ek222_19] at hf
                  refine lv_aload_n hx hb dX11_next_222 rfl (lv_at hl 0 rfl) ?_
                  obtain ⟨tM_21, c_22, hf⟩ := x_vE hf
                  refine x_vV C hw hl.1 [] [] (mX11_wrong l g c_22) lk_X11_125 ic1_0 (by decide) rfl (by decide) rfl (Nat.le_of_ble_eq_true rfl) ⟨Nat.zero_le _, Nat.zero_le _⟩ dX11_next_223 (fun M_21 H locs hN hw => ?_)
                  obtain rfl := hN
                  exact ret hf dX11_next_226 hw
                refine lv_icmp_eq (tgt := 222) hx hb dX11_next_211 (by decide) (fun q_23 => ?_) (fun q_23 => ?_)
                · have hf := x_iP hf q_23
                  exact hk222_19 _ _ _ _ (lv_sub hl [1] rfl) hw hf
                · have hf := x_iN hf q_23
                  refine lv_aload_n hx hb dX11_next_214 rfl (lv_at hl 1 rfl) ?_
                  refine fg_X11_119 C hw ic1_0 dX11_next_215 ?_
                  refine lv_iconst (v := (2 : Int32)) hx hb dX11_next_218 (by decide) ?_
                  refine lv_icmp_ne (tgt := 226) hx hb dX11_next_219 (by decide) (fun q_24 => ?_) (fun q_24 => ?_)
                  · have hf := x_iN hf q_24
                    exact ret hf dX11_next_226 hw
                  · have hf := x_iP hf q_24
                    exact hk222_19 _ _ _ _ (lv_sub hl [1] rfl) hw hf
            have hL_37 : ∀ (n_26 : Nat) (H : Heap) (locs : List Loc) (M_25 : xM)  (ls : Array Slot) , lv_has ls 3 [(2, .int z_7), (0, .ref (g.2.2.1 0))] → x_w g 1 s H locs M_25 → fX11_next_L144 k202_16 n_26 M_25 = some M' → W p l e (x_rm 2 42) s m args below meth c H locs 0 0 Q (F0 m 144 ls []) := by
              intro n_26
              induction n_26 with
              | zero =>
                intro H locs M_25  ls  hl hw hf
                rw [fX11_next_L144] at hf
                cases hf
              | succ n_26 ih_27 =>
                intro H locs M_25  ls  hl hw hf
                rw [fX11_next_L144] at hf
                refine lv_aload_n hx hb dX11_next_144 rfl (lv_at hl 1 rfl) ?_
                refine fg_X11_119 C hw ic1_0 dX11_next_145 ?_
                refine lv_iconst (v := (3 : Int32)) hx hb dX11_next_148 (by decide) ?_
                refine lv_icmp_eq (tgt := 202) hx hb dX11_next_149 (by decide) (fun q_28 => ?_) (fun q_28 => ?_)
                · have hf := x_iP hf q_28
                  exact hk202_16 _ _ _ _ (lv_sub hl [0, 1] rfl) hw hf
                · have hf := x_iN hf q_28
                  refine lv_aload_n hx hb dX11_next_152 rfl (lv_at hl 1 rfl) ?_
                  refine fg_X11_113 C hw ic1_0 dX11_next_153 ?_
                  refine lv_aload_n hx hb dX11_next_156 rfl (lv_at hl 1 rfl) ?_
                  refine fg_X11_116 C hw ic1_0 dX11_next_157 ?_
                  refine lv_icmp_ge (tgt := 202) hx hb dX11_next_160 (by decide) (fun q_29 => ?_) (fun q_29 => ?_)
                  · have hf := x_iP hf q_29
                    exact hk202_16 _ _ _ _ (lv_sub hl [0, 1] rfl) hw hf
                  · have hf := x_iN hf q_29
                    refine lv_aload_n hx hb dX11_next_163 rfl (lv_at hl 1 rfl) ?_
                    refine fg_X11_119 C hw ic1_0 dX11_next_164 ?_
                    refine lv_if_eq (tgt := 202) hx hb dX11_next_167 (by decide) (fun q_30 => ?_) (fun q_30 => ?_)
                    · have hf := x_iP hf q_30
                      exact hk202_16 _ _ _ _ (lv_sub hl [0, 1] rfl) hw hf
                    · have hf := x_iN hf q_30
                      refine lv_aload_n hx hb dX11_next_170 rfl (lv_at hl 1 rfl) ?_
                      refine fg_X11_16 (k2 := 3) C hw ic1_0 rfl dX11_next_171 ?_
                      refine lv_aload_n hx hb dX11_next_174 rfl (lv_at hl 1 rfl) ?_
                      refine fg_X11_113 C hw ic1_0 dX11_next_175 ?_
                      obtain ⟨q_31, hf⟩ := x_gE hf
                      refine x_ald C hw ic1_3 q_31 rfl dX11_next_178 ?_
                      obtain ⟨tv_34, tM_32, c_33, hf⟩ := x_bE hf
                      refine x_sI C hw hl.1 [.int (M_25 3 (M_25 0 6).toNatClampNeg)] [] (mX11_sortOf l g c_33) lk_X11_122 (by decide) rfl (Nat.le_of_ble_eq_true rfl) ⟨Nat.zero_le _, Nat.zero_le _⟩ dX11_next_179 (fun v_34 M_32 H locs hN hw => ?_)
                      obtain ⟨rfl, rfl⟩ := hN
                      refine lv_aload_n hx hb dX11_next_182 rfl (lv_at hl 1 rfl) ?_
                      refine fg_X11_119 C hw ic1_0 dX11_next_183 ?_
                      refine lv_icmp_ne (tgt := 202) hx hb dX11_next_186 (by decide) (fun q_35 => ?_) (fun q_35 => ?_)
                      · have hf := x_iN hf q_35
                        exact hk202_16 _ _ _ _ (lv_sub hl [0, 1] rfl) hw hf
                      · have hf := x_iP hf q_35
                        refine lv_aload_n hx hb dX11_next_189 rfl (lv_at hl 1 rfl) ?_
                        refine lv_dup hx hb dX11_next_190 rfl ?_
                        refine fg_X11_113 C hw ic1_0 dX11_next_191 ?_
                        refine lv_iconst (v := (1 : Int32)) hx hb dX11_next_194 (by decide) ?_
                        refine lv_iadd hx hb dX11_next_195 ?_
                        refine fp_X11_113 C hw ic1_0 dX11_next_196 (fun H locs hw => ?_)
                        obtain ⟨M_36, eM_36⟩ : ∃ z, z = (x_up M_32 0 6 ((M_32 0 6) + (1 : Int32))) := ⟨_, rfl⟩
                        rw [← eM_36] at hw
                        have hf := x_lE eM_36 hf
                        refine lv_goto (tgt := 144) hx hb dX11_next_199 (by decide) ?_
                        exact ih_27 _ _ _ _ (lv_sub hl [0, 1] rfl) hw hf
            exact hL_37 _ _ _ _ _ (lv_sub hl [0, 1] rfl) hw hf
          refine lv_if_eq (tgt := 144) hx hb dX11_next_131 (by decide) (fun q_38 => ?_) (fun q_38 => ?_)
          · have hf := x_iP hf q_38
            exact hk144_14 _ _ _ _ (lv_sub hl [0, 1] rfl) hw hf
          · have hf := x_iN hf q_38
            refine lv_aload_n hx hb dX11_next_134 rfl (lv_at hl 1 rfl) ?_
            refine lv_dup hx hb dX11_next_135 rfl ?_
            refine fg_X11_113 C hw ic1_0 dX11_next_136 ?_
            refine lv_iconst (v := (1 : Int32)) hx hb dX11_next_139 (by decide) ?_
            refine lv_iadd hx hb dX11_next_140 ?_
            refine fp_X11_113 C hw ic1_0 dX11_next_141 (fun H locs hw => ?_)
            obtain ⟨M_39, eM_39⟩ : ∃ z, z = (x_up M_13 0 6 ((M_13 0 6) + (1 : Int32))) := ⟨_, rfl⟩
            rw [← eM_39] at hw
            have hf := x_lE eM_39 hf
            exact hk144_14 _ _ _ _ (lv_sub hl [0, 1] rfl) hw hf
        refine lv_icmp_ne (tgt := 112) hx hb dX11_next_105 (by decide) (fun q_40 => ?_) (fun q_40 => ?_)
        · have hf := x_iN hf q_40
          refine lv_aload_n hx hb dX11_next_112 rfl (lv_at hl 1 rfl) ?_
          refine fg_X11_16 (k2 := 3) C hw ic1_0 rfl dX11_next_113 ?_
          refine lv_aload_n hx hb dX11_next_116 rfl (lv_at hl 1 rfl) ?_
          refine fg_X11_107 C hw ic1_0 dX11_next_117 ?_
          obtain ⟨q_41, hf⟩ := x_gE hf
          refine x_ald C hw ic1_3 q_41 rfl dX11_next_120 ?_
          obtain ⟨tv_44, tM_42, c_43, hf⟩ := x_bE hf
          refine x_sI C hw hl.1 [.int (M_9 3 (M_9 0 5).toNatClampNeg)] [.ref (g.2.2.1 0)] (mX11_sortOf l g c_43) lk_X11_122 (by decide) rfl (Nat.le_of_ble_eq_true rfl) ⟨Nat.zero_le _, Nat.zero_le _⟩ dX11_next_121 (fun v_44 M_42 H locs hN hw => ?_)
          obtain ⟨rfl, rfl⟩ := hN
          exact hk124_11 _ _ _ _ _ (lv_sub hl [0, 1] rfl) hw hf
        · have hf := x_iP hf q_40
          refine lv_iconst (v := (0 : Int32)) hx hb dX11_next_108 (by decide) ?_
          refine lv_goto (tgt := 124) hx hb dX11_next_109 (by decide) ?_
          exact hk124_11 _ _ _ _ _ (lv_sub hl [0, 1] rfl) hw hf
      obtain ⟨k94_45, ek94_45, hf⟩ := x_jE hf
      have hk94_45 : ∀ (H : Heap) (locs : List Loc) (M_46 : xM)  (ls : Array Slot) , lv_has ls 3 [(0, .ref (g.2.2.1 0))] → x_w g 1 s H locs M_46 → k94_45 M_46 = some M' → W p l e (x_rm 2 42) s m args below meth c H locs 0 0 Q (F0 m 94 ls []) := by
        intro H locs M_46  ls  hl hw hf
        rw [ek94_45] at hf
        refine lv_iconst (v := (0 : Int32)) hx hb dX11_next_94 (by decide) ?_
        exact hk95_8 _ _ _ _ _ (lv_sub hl [0] rfl) hw hf
      refine lv_icmp_ne (tgt := 94) hx hb dX11_next_72 (by decide) (fun q_47 => ?_) (fun q_47 => ?_)
      · have hf := x_iN hf q_47
        exact hk94_45 _ _ _ _ (lv_sub hl [1] rfl) hw hf
      · have hf := x_iP hf q_47
        refine lv_aload_n hx hb dX11_next_75 rfl (lv_at hl 1 rfl) ?_
        refine fg_X11_119 C hw ic1_0 dX11_next_76 ?_
        refine lv_if_eq (tgt := 94) hx hb dX11_next_79 (by decide) (fun q_48 => ?_) (fun q_48 => ?_)
        · have hf := x_iP hf q_48
          exact hk94_45 _ _ _ _ (lv_sub hl [1] rfl) hw hf
        · have hf := x_iN hf q_48
          refine lv_aload_n hx hb dX11_next_82 rfl (lv_at hl 1 rfl) ?_
          refine fg_X11_119 C hw ic1_0 dX11_next_83 ?_
          refine lv_iconst (v := (3 : Int32)) hx hb dX11_next_86 (by decide) ?_
          refine lv_icmp_eq (tgt := 94) hx hb dX11_next_87 (by decide) (fun q_49 => ?_) (fun q_49 => ?_)
          · have hf := x_iP hf q_49
            exact hk94_45 _ _ _ _ (lv_sub hl [1] rfl) hw hf
          · have hf := x_iN hf q_49
            refine lv_iconst (v := (1 : Int32)) hx hb dX11_next_90 (by decide) ?_
            refine lv_goto (tgt := 95) hx hb dX11_next_91 (by decide) ?_
            exact hk95_8 _ _ _ _ _ (lv_sub hl [1] rfl) hw hf
    have hL_57 : ∀ (n_51 : Nat) (H : Heap) (locs : List Loc) (M_50 : xM)  (ls : Array Slot) , lv_has ls 3 [(1, .int x1_2), (0, .ref (g.2.2.1 0))] → x_w g 1 s H locs M_50 → fX11_next_L21 k59_4 n_51 M_50 = some M' → W p l e (x_rm 2 42) s m args below meth c H locs 0 0 Q (F0 m 21 ls []) := by
      intro n_51
      induction n_51 with
      | zero =>
        intro H locs M_50  ls  hl hw hf
        rw [fX11_next_L21] at hf
        cases hf
      | succ n_51 ih_52 =>
        intro H locs M_50  ls  hl hw hf
        rw [fX11_next_L21] at hf
        refine lv_aload_n hx hb dX11_next_21 rfl (lv_at hl 1 rfl) ?_
        refine fg_X11_107 C hw ic1_0 dX11_next_22 ?_
        refine lv_aload_n hx hb dX11_next_25 rfl (lv_at hl 1 rfl) ?_
        refine fg_X11_116 C hw ic1_0 dX11_next_26 ?_
        refine lv_icmp_ge (tgt := 59) hx hb dX11_next_29 (by decide) (fun q_53 => ?_) (fun q_53 => ?_)
        · have hf := x_iP hf q_53
          exact hk59_4 _ _ _ _ (lv_sub hl [0, 1] rfl) hw hf
        · have hf := x_iN hf q_53
          refine lv_aload_n hx hb dX11_next_32 rfl (lv_at hl 1 rfl) ?_
          refine fg_X11_16 (k2 := 3) C hw ic1_0 rfl dX11_next_33 ?_
          refine lv_aload_n hx hb dX11_next_36 rfl (lv_at hl 1 rfl) ?_
          refine fg_X11_107 C hw ic1_0 dX11_next_37 ?_
          obtain ⟨q_54, hf⟩ := x_gE hf
          refine x_ald C hw ic1_3 q_54 rfl dX11_next_40 ?_
          refine lv_bipush (v := (32 : Int32)) hx hb dX11_next_41 (by decide) ?_
          refine lv_icmp_ne (tgt := 59) hx hb dX11_next_43 (by decide) (fun q_55 => ?_) (fun q_55 => ?_)
          · have hf := x_iN hf q_55
            exact hk59_4 _ _ _ _ (lv_sub hl [0, 1] rfl) hw hf
          · have hf := x_iP hf q_55
            refine lv_aload_n hx hb dX11_next_46 rfl (lv_at hl 1 rfl) ?_
            refine lv_dup hx hb dX11_next_47 rfl ?_
            refine fg_X11_107 C hw ic1_0 dX11_next_48 ?_
            refine lv_iconst (v := (1 : Int32)) hx hb dX11_next_51 (by decide) ?_
            refine lv_iadd hx hb dX11_next_52 ?_
            refine fp_X11_107 C hw ic1_0 dX11_next_53 (fun H locs hw => ?_)
            obtain ⟨M_56, eM_56⟩ : ∃ z, z = (x_up M_50 0 5 ((M_50 0 5) + (1 : Int32))) := ⟨_, rfl⟩
            rw [← eM_56] at hw
            have hf := x_lE eM_56 hf
            refine lv_goto (tgt := 21) hx hb dX11_next_56 (by decide) ?_
            exact ih_52 _ _ _ _ (lv_sub hl [0, 1] rfl) hw hf
    exact hL_57 _ _ _ _ _ (lv_sub hl [0, 1] rfl) hw hf
  · have hf := x_iN hf q_1
    exact ret hf dX11_next_7 hw
noncomputable def fX11_isSign (M : xM) (a1 : Int32) : Option (Int32 × xM) := x_l (fun (M_2 : xM) => some ((0 : Int32), M_2)) fun k25_1 => if (M 0 8) = (3 : Int32) then (x_g (M 0 5) 120 (if (M 3 (M 0 5).toNatClampNeg) = a1 then (some ((1 : Int32), M)) else (k25_1 M))) else (k25_1 M)
set_option maxRecDepth 100000 in
set_option maxHeartbeats 4000000 in
theorem mX11_isSign (l : Launch) (g : xG) {a1 : Int32} {r : Int32} {M' : xM}  {M : xM} (hf : fX11_isSign M a1 = some (r, M')) : x_cI l g 1 yX11_isSign cX11_isSign 2 .boolean 0 0 [.ref (g.2.2.1 0), .int a1] M (fun v N => v = r ∧ N = M') := by
  refine x_stZ RX11 (by decide) rfl (Nat.le_of_ble_eq_true rfl) ?_
  intro p e s m args below meth c Q ls C hw ret hl
  obtain ⟨hx, hb, hml, hown, hB, -⟩ := id C
  have hl : lv_has ls 2 [(0, .ref (g.2.2.1 0)), (1, .int a1)] := hl
  unfold fX11_isSign at hf
  refine lv_aload_n hx hb dX11_isSign_0 rfl (lv_at hl 0 rfl) ?_
  refine fg_X11_119 C hw ic1_0 dX11_isSign_1 ?_
  refine lv_iconst (v := (3 : Int32)) hx hb dX11_isSign_4 (by decide) ?_
  obtain ⟨k25_1, ek25_1, hf⟩ := x_jE hf
  have hk25_1 : ∀ (H : Heap) (locs : List Loc) (M_2 : xM)  (ls : Array Slot) , lv_has ls 2 [] → x_w g 1 s H locs M_2 → k25_1 M_2 = some (r, M') → W p l e (x_rm 0 0) s m args below meth c H locs 0 0 Q (F0 m 25 ls []) := by
    intro H locs M_2  ls  hl hw hf
    rw [ek25_1] at hf
    refine lv_iconst (v := (0 : Int32)) hx hb dX11_isSign_25 (by decide) ?_
    exact ret ((x_zl0 _).trans hf) dX11_isSign_26 hw
  refine lv_icmp_ne (tgt := 25) hx hb dX11_isSign_5 (by decide) (fun q_3 => ?_) (fun q_3 => ?_)
  · have hf := x_iN hf q_3
    exact hk25_1 _ _ _ _ (lv_sub hl [] rfl) hw hf
  · have hf := x_iP hf q_3
    refine lv_aload_n hx hb dX11_isSign_8 rfl (lv_at hl 0 rfl) ?_
    refine fg_X11_16 (k2 := 3) C hw ic1_0 rfl dX11_isSign_9 ?_
    refine lv_aload_n hx hb dX11_isSign_12 rfl (lv_at hl 0 rfl) ?_
    refine fg_X11_107 C hw ic1_0 dX11_isSign_13 ?_
    obtain ⟨q_4, hf⟩ := x_gE hf
    refine x_ald C hw ic1_3 q_4 rfl dX11_isSign_16 ?_
    refine lv_iload_n hx hb dX11_isSign_17 rfl (lv_at hl 1 rfl) ?_
    refine lv_icmp_ne (tgt := 25) hx hb dX11_isSign_18 (by decide) (fun q_5 => ?_) (fun q_5 => ?_)
    · have hf := x_iN hf q_5
      exact hk25_1 _ _ _ _ (lv_sub hl [] rfl) hw hf
    · have hf := x_iP hf q_5
      refine lv_iconst (v := (1 : Int32)) hx hb dX11_isSign_21 (by decide) ?_
      refine lv_goto (tgt := 26) hx hb dX11_isSign_22 (by decide) ?_
      exact ret ((x_zl1 _).trans hf) dX11_isSign_26 hw
noncomputable def fX11_isLetter (M : xM) (a1 : Int32) (a2 : Int32) : Option (Int32 × xM) := if a2 = 0 then (if a1 = (M 0 6) then (some ((1 : Int32), M)) else (some ((0 : Int32), M))) else (x_l (fun (M_3 : xM) => some ((0 : Int32), M_3)) fun k42_2 => if (M 0 6) ≤ a1 then (k42_2 M) else (x_g a1 120 (if (M 3 a1.toNatClampNeg) = a2 then (some ((1 : Int32), M)) else (k42_2 M))))
set_option maxRecDepth 100000 in
set_option maxHeartbeats 4000000 in
theorem mX11_isLetter (l : Launch) (g : xG) {a1 : Int32} {a2 : Int32} {r : Int32} {M' : xM}  {M : xM} (hf : fX11_isLetter M a1 a2 = some (r, M')) : x_cI l g 1 yX11_isLetter cX11_isLetter 3 .boolean 0 0 [.ref (g.2.2.1 0), .int a1, .int a2] M (fun v N => v = r ∧ N = M') := by
  refine x_stZ RX11 (by decide) rfl (Nat.le_of_ble_eq_true rfl) ?_
  intro p e s m args below meth c Q ls C hw ret hl
  obtain ⟨hx, hb, hml, hown, hB, -⟩ := id C
  have hl : lv_has ls 3 [(0, .ref (g.2.2.1 0)), (1, .int a1), (2, .int a2)] := hl
  unfold fX11_isLetter at hf
  refine lv_iload_n hx hb dX11_isLetter_0 rfl (lv_at hl 2 rfl) ?_
  refine lv_if_ne (tgt := 20) hx hb dX11_isLetter_1 (by decide) (fun q_1 => ?_) (fun q_1 => ?_)
  · have hf := x_iN hf q_1
    refine lv_iload_n hx hb dX11_isLetter_20 rfl (lv_at hl 1 rfl) ?_
    refine lv_aload_n hx hb dX11_isLetter_21 rfl (lv_at hl 0 rfl) ?_
    refine fg_X11_113 C hw ic1_0 dX11_isLetter_22 ?_
    obtain ⟨k42_2, ek42_2, hf⟩ := x_jE hf
    have hk42_2 : ∀ (H : Heap) (locs : List Loc) (M_3 : xM)  (ls : Array Slot) , lv_has ls 3 [] → x_w g 1 s H locs M_3 → k42_2 M_3 = some (r, M') → W p l e (x_rm 0 0) s m args below meth c H locs 0 0 Q (F0 m 42 ls []) := by
      intro H locs M_3  ls  hl hw hf
      rw [ek42_2] at hf
      refine lv_iconst (v := (0 : Int32)) hx hb dX11_isLetter_42 (by decide) ?_
      exact ret ((x_zl0 _).trans hf) dX11_isLetter_43 hw
    refine lv_icmp_ge (tgt := 42) hx hb dX11_isLetter_25 (by decide) (fun q_4 => ?_) (fun q_4 => ?_)
    · have hf := x_iP hf q_4
      exact hk42_2 _ _ _ _ (lv_sub hl [] rfl) hw hf
    · have hf := x_iN hf q_4
      refine lv_aload_n hx hb dX11_isLetter_28 rfl (lv_at hl 0 rfl) ?_
      refine fg_X11_16 (k2 := 3) C hw ic1_0 rfl dX11_isLetter_29 ?_
      refine lv_iload_n hx hb dX11_isLetter_32 rfl (lv_at hl 1 rfl) ?_
      obtain ⟨q_5, hf⟩ := x_gE hf
      refine x_ald C hw ic1_3 q_5 rfl dX11_isLetter_33 ?_
      refine lv_iload_n hx hb dX11_isLetter_34 rfl (lv_at hl 2 rfl) ?_
      refine lv_icmp_ne (tgt := 42) hx hb dX11_isLetter_35 (by decide) (fun q_6 => ?_) (fun q_6 => ?_)
      · have hf := x_iN hf q_6
        exact hk42_2 _ _ _ _ (lv_sub hl [] rfl) hw hf
      · have hf := x_iP hf q_6
        refine lv_iconst (v := (1 : Int32)) hx hb dX11_isLetter_38 (by decide) ?_
        refine lv_goto (tgt := 43) hx hb dX11_isLetter_39 (by decide) ?_
        exact ret ((x_zl1 _).trans hf) dX11_isLetter_43 hw
  · have hf := x_iP hf q_1
    refine lv_iload_n hx hb dX11_isLetter_4 rfl (lv_at hl 1 rfl) ?_
    refine lv_aload_n hx hb dX11_isLetter_5 rfl (lv_at hl 0 rfl) ?_
    refine fg_X11_113 C hw ic1_0 dX11_isLetter_6 ?_
    refine lv_icmp_ne (tgt := 16) hx hb dX11_isLetter_9 (by decide) (fun q_7 => ?_) (fun q_7 => ?_)
    · have hf := x_iN hf q_7
      refine lv_iconst (v := (0 : Int32)) hx hb dX11_isLetter_16 (by decide) ?_
      refine lv_goto (tgt := 43) hx hb dX11_isLetter_17 (by decide) ?_
      exact ret ((x_zl0 _).trans hf) dX11_isLetter_43 hw
    · have hf := x_iP hf q_7
      refine lv_iconst (v := (1 : Int32)) hx hb dX11_isLetter_12 (by decide) ?_
      refine lv_goto (tgt := 43) hx hb dX11_isLetter_13 (by decide) ?_
      exact ret ((x_zl1 _).trans hf) dX11_isLetter_43 hw
noncomputable def fX11_isWord (M : xM) (a1 : Int32) (a2 : Int32) (a3 : Int32) (a4 : Int32) (a5 : Int32) : Option (Int32 × xM) := x_l (fun (M_3 : xM) (z_1 : Int32) => x_l (fun (M_6 : xM) (z_4 : Int32) => x_l (fun (M_8 : xM) => some ((0 : Int32), M_8)) fun k133_7 => if z_4 = 0 then (k133_7 M_6) else (x_l (fun (M_11 : xM) => x_l (fun (M_13 : xM) => some ((1 : Int32), M_13)) fun k129_12 => if a5 = 0 then (k129_12 M_11) else (if (M_11 0 6) = ((M_11 0 5) + (5 : Int32)) then (k129_12 M_11) else (k133_7 M_11))) fun k111_10 => if a4 = 0 then (k111_10 M_6) else (x_b (fX11_isLetter M_6 ((M_6 0 5) + (4 : Int32)) a5) fun v_19 M_17 => if v_19 = 0 then (k133_7 M_17) else (k111_10 M_17)))) fun k84_5 => x_l (fun (M_22 : xM) => k84_5 M_22 (0 : Int32)) fun k83_21 => if z_1 = 0 then (k83_21 M_3) else (x_l (fun (M_25 : xM) => k84_5 M_25 (1 : Int32)) fun k79_24 => if a3 = 0 then (k79_24 M_3) else (x_b (fX11_isLetter M_3 ((M_3 0 5) + (3 : Int32)) a4) fun v_29 M_27 => if v_29 = 0 then (k83_21 M_27) else (k79_24 M_27)))) fun k53_2 => x_l (fun (M_32 : xM) => k53_2 M_32 (0 : Int32)) fun k52_31 => if (M 0 8) = (1 : Int32) then (x_b (fX11_isLetter M (M 0 5) a1) fun v_36 M_34 => if v_36 = 0 then (k52_31 M_34) else (x_b (fX11_isLetter M_34 ((M_34 0 5) + (1 : Int32)) a2) fun v_40 M_38 => if v_40 = 0 then (k52_31 M_38) else (x_b (fX11_isLetter M_38 ((M_38 0 5) + (2 : Int32)) a3) fun v_44 M_42 => if v_44 = 0 then (k52_31 M_42) else (k53_2 M_42 (1 : Int32))))) else (k52_31 M)
set_option maxRecDepth 100000 in
set_option maxHeartbeats 4000000 in
theorem mX11_isWord (l : Launch) (g : xG) {a1 : Int32} {a2 : Int32} {a3 : Int32} {a4 : Int32} {a5 : Int32} {r : Int32} {M' : xM}  {M : xM} (hf : fX11_isWord M a1 a2 a3 a4 a5 = some (r, M')) : x_cI l g 1 yX11_isWord cX11_isWord 7 .boolean 1 22 [.ref (g.2.2.1 0), .int a1, .int a2, .int a3, .int a4, .int a5] M (fun v N => v = r ∧ N = M') := by
  refine x_stZ RX11 (by decide) rfl (Nat.le_of_ble_eq_true rfl) ?_
  intro p e s m args below meth c Q ls C hw ret hl
  obtain ⟨hx, hb, hml, hown, hB, -⟩ := id C
  have hl : lv_has ls 7 [(0, .ref (g.2.2.1 0)), (1, .int a1), (2, .int a2), (3, .int a3), (4, .int a4), (5, .int a5)] := hl
  unfold fX11_isWord at hf
  refine lv_aload_n hx hb dX11_isWord_0 rfl (lv_at hl 0 rfl) ?_
  refine fg_X11_119 C hw ic1_0 dX11_isWord_1 ?_
  refine lv_iconst (v := (1 : Int32)) hx hb dX11_isWord_4 (by decide) ?_
  obtain ⟨k53_2, ek53_2, hf⟩ := x_jE hf
  have hk53_2 : ∀ (H : Heap) (locs : List Loc) (M_3 : xM) (z_1 : Int32) (ls : Array Slot) , lv_has ls 7 [(0, .ref (g.2.2.1 0)), (3, .int a3), (4, .int a4), (5, .int a5)] → x_w g 1 s H locs M_3 → k53_2 M_3 z_1 = some (r, M') → W p l e (x_rm 1 22) s m args below meth c H locs 0 0 Q (F0 m 53 ls [.int z_1]) := by
    intro H locs M_3 z_1 ls  hl hw hf
    rw [ek53_2] at hf
    refine lv_istore (lv' := [(6, .int z_1), (0, .ref (g.2.2.1 0)), (3, .int a3), (4, .int a4), (5, .int a5)]) hx hb dX11_isWord_53 hl (by decide) rfl (fun ls hl => ?_)
    refine lv_iload hx hb dX11_isWord_55 (lv_at hl 0 rfl) ?_
    obtain ⟨k84_5, ek84_5, hf⟩ := x_jE hf
    have hk84_5 : ∀ (H : Heap) (locs : List Loc) (M_6 : xM) (z_4 : Int32) (ls : Array Slot) , lv_has ls 7 [(0, .ref (g.2.2.1 0)), (4, .int a4), (5, .int a5)] → x_w g 1 s H locs M_6 → k84_5 M_6 z_4 = some (r, M') → W p l e (x_rm 1 22) s m args below meth c H locs 0 0 Q (F0 m 84 ls [.int z_4]) := by
      intro H locs M_6 z_4 ls  hl hw hf
      rw [ek84_5] at hf
      refine lv_istore (lv' := [(6, .int z_4), (0, .ref (g.2.2.1 0)), (4, .int a4), (5, .int a5)]) hx hb dX11_isWord_84 hl (by decide) rfl (fun ls hl => ?_)
      refine lv_iload hx hb dX11_isWord_86 (lv_at hl 0 rfl) ?_
      obtain ⟨k133_7, ek133_7, hf⟩ := x_jE hf
      have hk133_7 : ∀ (H : Heap) (locs : List Loc) (M_8 : xM)  (ls : Array Slot) , lv_has ls 7 [] → x_w g 1 s H locs M_8 → k133_7 M_8 = some (r, M') → W p l e (x_rm 1 22) s m args below meth c H locs 0 0 Q (F0 m 133 ls []) := by
        intro H locs M_8  ls  hl hw hf
        rw [ek133_7] at hf
        refine lv_iconst (v := (0 : Int32)) hx hb dX11_isWord_133 (by decide) ?_
        exact ret ((x_zl0 _).trans hf) dX11_isWord_134 hw
      refine lv_if_eq (tgt := 133) hx hb dX11_isWord_88 (by decide) (fun q_9 => ?_) (fun q_9 => ?_)
      · have hf := x_iP hf q_9
        exact hk133_7 _ _ _ _ (lv_sub hl [] rfl) hw hf
      · have hf := x_iN hf q_9
        refine lv_iload hx hb dX11_isWord_91 (lv_at hl 2 rfl) ?_
        obtain ⟨k111_10, ek111_10, hf⟩ := x_jE hf
        have hk111_10 : ∀ (H : Heap) (locs : List Loc) (M_11 : xM)  (ls : Array Slot) , lv_has ls 7 [(0, .ref (g.2.2.1 0)), (5, .int a5)] → x_w g 1 s H locs M_11 → k111_10 M_11 = some (r, M') → W p l e (x_rm 1 22) s m args below meth c H locs 0 0 Q (F0 m 111 ls []) := by
          intro H locs M_11  ls  hl hw hf
          rw [ek111_10] at hf
          refine lv_iload hx hb dX11_isWord_111 (lv_at hl 1 rfl) ?_
          obtain ⟨k129_12, ek129_12, hf⟩ := x_jE hf
          have hk129_12 : ∀ (H : Heap) (locs : List Loc) (M_13 : xM)  (ls : Array Slot) , lv_has ls 7 [] → x_w g 1 s H locs M_13 → k129_12 M_13 = some (r, M') → W p l e (x_rm 1 22) s m args below meth c H locs 0 0 Q (F0 m 129 ls []) := by
            intro H locs M_13  ls  hl hw hf
            rw [ek129_12] at hf
            refine lv_iconst (v := (1 : Int32)) hx hb dX11_isWord_129 (by decide) ?_
            refine lv_goto (tgt := 134) hx hb dX11_isWord_130 (by decide) ?_
            exact ret ((x_zl1 _).trans hf) dX11_isWord_134 hw
          refine lv_if_eq (tgt := 129) hx hb dX11_isWord_113 (by decide) (fun q_14 => ?_) (fun q_14 => ?_)
          · have hf := x_iP hf q_14
            exact hk129_12 _ _ _ _ (lv_sub hl [] rfl) hw hf
          · have hf := x_iN hf q_14
            refine lv_aload_n hx hb dX11_isWord_116 rfl (lv_at hl 0 rfl) ?_
            refine fg_X11_113 C hw ic1_0 dX11_isWord_117 ?_
            refine lv_aload_n hx hb dX11_isWord_120 rfl (lv_at hl 0 rfl) ?_
            refine fg_X11_107 C hw ic1_0 dX11_isWord_121 ?_
            refine lv_iconst (v := (5 : Int32)) hx hb dX11_isWord_124 (by decide) ?_
            refine lv_iadd hx hb dX11_isWord_125 ?_
            refine lv_icmp_ne (tgt := 133) hx hb dX11_isWord_126 (by decide) (fun q_15 => ?_) (fun q_15 => ?_)
            · have hf := x_iN hf q_15
              exact hk133_7 _ _ _ _ (lv_sub hl [] rfl) hw hf
            · have hf := x_iP hf q_15
              exact hk129_12 _ _ _ _ (lv_sub hl [] rfl) hw hf
        refine lv_if_eq (tgt := 111) hx hb dX11_isWord_93 (by decide) (fun q_16 => ?_) (fun q_16 => ?_)
        · have hf := x_iP hf q_16
          exact hk111_10 _ _ _ _ (lv_sub hl [1, 3] rfl) hw hf
        · have hf := x_iN hf q_16
          refine lv_aload_n hx hb dX11_isWord_96 rfl (lv_at hl 1 rfl) ?_
          refine lv_aload_n hx hb dX11_isWord_97 rfl (lv_at hl 1 rfl) ?_
          refine fg_X11_107 C hw ic1_0 dX11_isWord_98 ?_
          refine lv_iconst (v := (4 : Int32)) hx hb dX11_isWord_101 (by decide) ?_
          refine lv_iadd hx hb dX11_isWord_102 ?_
          refine lv_iload hx hb dX11_isWord_103 (lv_at hl 3 rfl) ?_
          obtain ⟨tv_19, tM_17, c_18, hf⟩ := x_bE hf
          refine x_vI C hw hl.1 [.int ((M_6 0 5) + (4 : Int32)), .int a5] [] (mX11_isLetter l g c_18) lk_X11_128 ic1_0 (by decide) rfl (by decide) rfl (Nat.le_of_ble_eq_true rfl) ⟨Nat.zero_le _, Nat.zero_le _⟩ dX11_isWord_105 (fun v_19 M_17 H locs hN hw => ?_)
          obtain ⟨rfl, rfl⟩ := hN
          refine lv_if_eq (tgt := 133) hx hb dX11_isWord_108 (by decide) (fun q_20 => ?_) (fun q_20 => ?_)
          · have hf := x_iP hf q_20
            exact hk133_7 _ _ _ _ (lv_sub hl [] rfl) hw hf
          · have hf := x_iN hf q_20
            exact hk111_10 _ _ _ _ (lv_sub hl [1, 3] rfl) hw hf
    obtain ⟨k83_21, ek83_21, hf⟩ := x_jE hf
    have hk83_21 : ∀ (H : Heap) (locs : List Loc) (M_22 : xM)  (ls : Array Slot) , lv_has ls 7 [(0, .ref (g.2.2.1 0)), (4, .int a4), (5, .int a5)] → x_w g 1 s H locs M_22 → k83_21 M_22 = some (r, M') → W p l e (x_rm 1 22) s m args below meth c H locs 0 0 Q (F0 m 83 ls []) := by
      intro H locs M_22  ls  hl hw hf
      rw [ek83_21] at hf
      refine lv_iconst (v := (0 : Int32)) hx hb dX11_isWord_83 (by decide) ?_
      exact hk84_5 _ _ _ _ _ (lv_sub hl [0, 1, 2] rfl) hw hf
    refine lv_if_eq (tgt := 83) hx hb dX11_isWord_57 (by decide) (fun q_23 => ?_) (fun q_23 => ?_)
    · have hf := x_iP hf q_23
      exact hk83_21 _ _ _ _ (lv_sub hl [1, 3, 4] rfl) hw hf
    · have hf := x_iN hf q_23
      refine lv_iload_n hx hb dX11_isWord_60 rfl (lv_at hl 2 rfl) ?_
      obtain ⟨k79_24, ek79_24, hf⟩ := x_jE hf
      have hk79_24 : ∀ (H : Heap) (locs : List Loc) (M_25 : xM)  (ls : Array Slot) , lv_has ls 7 [(0, .ref (g.2.2.1 0)), (4, .int a4), (5, .int a5)] → x_w g 1 s H locs M_25 → k79_24 M_25 = some (r, M') → W p l e (x_rm 1 22) s m args below meth c H locs 0 0 Q (F0 m 79 ls []) := by
        intro H locs M_25  ls  hl hw hf
        rw [ek79_24] at hf
        refine lv_iconst (v := (1 : Int32)) hx hb dX11_isWord_79 (by decide) ?_
        refine lv_goto (tgt := 84) hx hb dX11_isWord_80 (by decide) ?_
        exact hk84_5 _ _ _ _ _ (lv_sub hl [0, 1, 2] rfl) hw hf
      refine lv_if_eq (tgt := 79) hx hb dX11_isWord_61 (by decide) (fun q_26 => ?_) (fun q_26 => ?_)
      · have hf := x_iP hf q_26
        exact hk79_24 _ _ _ _ (lv_sub hl [1, 3, 4] rfl) hw hf
      · have hf := x_iN hf q_26
        refine lv_aload_n hx hb dX11_isWord_64 rfl (lv_at hl 1 rfl) ?_
        refine lv_aload_n hx hb dX11_isWord_65 rfl (lv_at hl 1 rfl) ?_
        refine fg_X11_107 C hw ic1_0 dX11_isWord_66 ?_
        refine lv_iconst (v := (3 : Int32)) hx hb dX11_isWord_69 (by decide) ?_
        refine lv_iadd hx hb dX11_isWord_70 ?_
        refine lv_iload hx hb dX11_isWord_71 (lv_at hl 3 rfl) ?_
        obtain ⟨tv_29, tM_27, c_28, hf⟩ := x_bE hf
        refine x_vI C hw hl.1 [.int ((M_3 0 5) + (3 : Int32)), .int a4] [] (mX11_isLetter l g c_28) lk_X11_128 ic1_0 (by decide) rfl (by decide) rfl (Nat.le_of_ble_eq_true rfl) ⟨Nat.zero_le _, Nat.zero_le _⟩ dX11_isWord_73 (fun v_29 M_27 H locs hN hw => ?_)
        obtain ⟨rfl, rfl⟩ := hN
        refine lv_if_eq (tgt := 83) hx hb dX11_isWord_76 (by decide) (fun q_30 => ?_) (fun q_30 => ?_)
        · have hf := x_iP hf q_30
          exact hk83_21 _ _ _ _ (lv_sub hl [1, 3, 4] rfl) hw hf
        · have hf := x_iN hf q_30
          exact hk79_24 _ _ _ _ (lv_sub hl [1, 3, 4] rfl) hw hf
  obtain ⟨k52_31, ek52_31, hf⟩ := x_jE hf
  have hk52_31 : ∀ (H : Heap) (locs : List Loc) (M_32 : xM)  (ls : Array Slot) , lv_has ls 7 [(0, .ref (g.2.2.1 0)), (3, .int a3), (4, .int a4), (5, .int a5)] → x_w g 1 s H locs M_32 → k52_31 M_32 = some (r, M') → W p l e (x_rm 1 22) s m args below meth c H locs 0 0 Q (F0 m 52 ls []) := by
    intro H locs M_32  ls  hl hw hf
    rw [ek52_31] at hf
    refine lv_iconst (v := (0 : Int32)) hx hb dX11_isWord_52 (by decide) ?_
    exact hk53_2 _ _ _ _ _ (lv_sub hl [0, 1, 2, 3] rfl) hw hf
  refine lv_icmp_ne (tgt := 52) hx hb dX11_isWord_5 (by decide) (fun q_33 => ?_) (fun q_33 => ?_)
  · have hf := x_iN hf q_33
    exact hk52_31 _ _ _ _ (lv_sub hl [0, 3, 4, 5] rfl) hw hf
  · have hf := x_iP hf q_33
    refine lv_aload_n hx hb dX11_isWord_8 rfl (lv_at hl 0 rfl) ?_
    refine lv_aload_n hx hb dX11_isWord_9 rfl (lv_at hl 0 rfl) ?_
    refine fg_X11_107 C hw ic1_0 dX11_isWord_10 ?_
    refine lv_iload_n hx hb dX11_isWord_13 rfl (lv_at hl 1 rfl) ?_
    obtain ⟨tv_36, tM_34, c_35, hf⟩ := x_bE hf
    refine x_vI C hw hl.1 [.int (M 0 5), .int a1] [] (mX11_isLetter l g c_35) lk_X11_128 ic1_0 (by decide) rfl (by decide) rfl (Nat.le_of_ble_eq_true rfl) ⟨Nat.zero_le _, Nat.zero_le _⟩ dX11_isWord_14 (fun v_36 M_34 H locs hN hw => ?_)
    obtain ⟨rfl, rfl⟩ := hN
    refine lv_if_eq (tgt := 52) hx hb dX11_isWord_17 (by decide) (fun q_37 => ?_) (fun q_37 => ?_)
    · have hf := x_iP hf q_37
      exact hk52_31 _ _ _ _ (lv_sub hl [0, 3, 4, 5] rfl) hw hf
    · have hf := x_iN hf q_37
      refine lv_aload_n hx hb dX11_isWord_20 rfl (lv_at hl 0 rfl) ?_
      refine lv_aload_n hx hb dX11_isWord_21 rfl (lv_at hl 0 rfl) ?_
      refine fg_X11_107 C hw ic1_0 dX11_isWord_22 ?_
      refine lv_iconst (v := (1 : Int32)) hx hb dX11_isWord_25 (by decide) ?_
      refine lv_iadd hx hb dX11_isWord_26 ?_
      refine lv_iload_n hx hb dX11_isWord_27 rfl (lv_at hl 2 rfl) ?_
      obtain ⟨tv_40, tM_38, c_39, hf⟩ := x_bE hf
      refine x_vI C hw hl.1 [.int ((M_34 0 5) + (1 : Int32)), .int a2] [] (mX11_isLetter l g c_39) lk_X11_128 ic1_0 (by decide) rfl (by decide) rfl (Nat.le_of_ble_eq_true rfl) ⟨Nat.zero_le _, Nat.zero_le _⟩ dX11_isWord_28 (fun v_40 M_38 H locs hN hw => ?_)
      obtain ⟨rfl, rfl⟩ := hN
      refine lv_if_eq (tgt := 52) hx hb dX11_isWord_31 (by decide) (fun q_41 => ?_) (fun q_41 => ?_)
      · have hf := x_iP hf q_41
        exact hk52_31 _ _ _ _ (lv_sub hl [0, 3, 4, 5] rfl) hw hf
      · have hf := x_iN hf q_41
        refine lv_aload_n hx hb dX11_isWord_34 rfl (lv_at hl 0 rfl) ?_
        refine lv_aload_n hx hb dX11_isWord_35 rfl (lv_at hl 0 rfl) ?_
        refine fg_X11_107 C hw ic1_0 dX11_isWord_36 ?_
        refine lv_iconst (v := (2 : Int32)) hx hb dX11_isWord_39 (by decide) ?_
        refine lv_iadd hx hb dX11_isWord_40 ?_
        refine lv_iload_n hx hb dX11_isWord_41 rfl (lv_at hl 3 rfl) ?_
        obtain ⟨tv_44, tM_42, c_43, hf⟩ := x_bE hf
        refine x_vI C hw hl.1 [.int ((M_38 0 5) + (2 : Int32)), .int a3] [] (mX11_isLetter l g c_43) lk_X11_128 ic1_0 (by decide) rfl (by decide) rfl (Nat.le_of_ble_eq_true rfl) ⟨Nat.zero_le _, Nat.zero_le _⟩ dX11_isWord_42 (fun v_44 M_42 H locs hN hw => ?_)
        obtain ⟨rfl, rfl⟩ := hN
        refine lv_if_eq (tgt := 52) hx hb dX11_isWord_45 (by decide) (fun q_45 => ?_) (fun q_45 => ?_)
        · have hf := x_iP hf q_45
          exact hk52_31 _ _ _ _ (lv_sub hl [0, 3, 4, 5] rfl) hw hf
        · have hf := x_iN hf q_45
          refine lv_iconst (v := (1 : Int32)) hx hb dX11_isWord_48 (by decide) ?_
          refine lv_goto (tgt := 53) hx hb dX11_isWord_49 (by decide) ?_
          exact hk53_2 _ _ _ _ _ (lv_sub hl [0, 3, 4, 5] rfl) hw hf
noncomputable def fX11_emit (M : xM) (a1 : Int32) (a2 : Int32) : Option (xM) := x_l ((((241 : Int32) * (M 0 11)) + (1 : Int32)) + ((2 : Int32) * (M 0 12))) fun x3_1 => x_g x3_1 723 (x_l (x_up M 4 x3_1.toNatClampNeg a1) fun M_3 => x_g (x3_1 + (1 : Int32)) 723 (x_l (x_up M_3 4 (x3_1 + (1 : Int32)).toNatClampNeg a2) fun M_5 => x_l (x_up M_5 0 12 ((M_5 0 12) + (1 : Int32))) fun M_6 => some M_6))
set_option maxRecDepth 100000 in
set_option maxHeartbeats 4000000 in
theorem mX11_emit (l : Launch) (g : xG) {a1 : Int32} {a2 : Int32} {M' : xM}  {M : xM} (hf : fX11_emit M a1 a2 = some M') : x_cV l g 1 yX11_emit cX11_emit 4 0 0 [.ref (g.2.2.1 0), .int a1, .int a2] M (fun N => N = M') := by
  refine x_stV RX11 (by decide) rfl (Nat.le_of_ble_eq_true rfl) ?_
  intro p e s m args below meth c Q ls C hw ret hl
  obtain ⟨hx, hb, hml, hown, hB, -⟩ := id C
  have hl : lv_has ls 4 [(0, .ref (g.2.2.1 0)), (1, .int a1), (2, .int a2)] := hl
  unfold fX11_emit at hf
  refine lv_sipush (v := (241 : Int32)) hx hb dX11_emit_0 (by decide) ?_
  refine lv_aload_n hx hb dX11_emit_3 rfl (lv_at hl 0 rfl) ?_
  refine fg_X11_132 C hw ic1_0 dX11_emit_4 ?_
  refine lv_imul hx hb dX11_emit_7 ?_
  refine lv_iconst (v := (1 : Int32)) hx hb dX11_emit_8 (by decide) ?_
  refine lv_iadd hx hb dX11_emit_9 ?_
  refine lv_iconst (v := (2 : Int32)) hx hb dX11_emit_10 (by decide) ?_
  refine lv_aload_n hx hb dX11_emit_11 rfl (lv_at hl 0 rfl) ?_
  refine fg_X11_135 C hw ic1_0 dX11_emit_12 ?_
  refine lv_imul hx hb dX11_emit_15 ?_
  refine lv_iadd hx hb dX11_emit_16 ?_
  refine lv_topi (fun x3_1 ex3_1 => ?_)
  have hf := x_lE ex3_1 hf
  refine lv_istore_n (lv' := [(3, .int x3_1), (0, .ref (g.2.2.1 0)), (1, .int a1), (2, .int a2)]) hx hb dX11_emit_17 rfl hl (by decide) rfl (fun ls hl => ?_)
  refine lv_aload_n hx hb dX11_emit_18 rfl (lv_at hl 1 rfl) ?_
  refine fg_X11_19 (k2 := 4) C hw ic1_0 rfl dX11_emit_19 ?_
  refine lv_iload_n hx hb dX11_emit_22 rfl (lv_at hl 0 rfl) ?_
  refine lv_iload_n hx hb dX11_emit_23 rfl (lv_at hl 2 rfl) ?_
  obtain ⟨q_2, hf⟩ := x_gE hf
  refine x_ast C hw ic1_4 q_2 rfl dX11_emit_24 (fun H locs hw => ?_)
  obtain ⟨M_3, eM_3⟩ : ∃ z, z = (x_up M 4 x3_1.toNatClampNeg a1) := ⟨_, rfl⟩
  rw [← eM_3] at hw
  have hf := x_lE eM_3 hf
  refine lv_aload_n hx hb dX11_emit_25 rfl (lv_at hl 1 rfl) ?_
  refine fg_X11_19 (k2 := 4) C hw ic1_0 rfl dX11_emit_26 ?_
  refine lv_iload_n hx hb dX11_emit_29 rfl (lv_at hl 0 rfl) ?_
  refine lv_iconst (v := (1 : Int32)) hx hb dX11_emit_30 (by decide) ?_
  refine lv_iadd hx hb dX11_emit_31 ?_
  refine lv_iload_n hx hb dX11_emit_32 rfl (lv_at hl 3 rfl) ?_
  obtain ⟨q_4, hf⟩ := x_gE hf
  refine x_ast C hw ic1_4 q_4 rfl dX11_emit_33 (fun H locs hw => ?_)
  obtain ⟨M_5, eM_5⟩ : ∃ z, z = (x_up M_3 4 (x3_1 + (1 : Int32)).toNatClampNeg a2) := ⟨_, rfl⟩
  rw [← eM_5] at hw
  have hf := x_lE eM_5 hf
  refine lv_aload_n hx hb dX11_emit_34 rfl (lv_at hl 1 rfl) ?_
  refine lv_dup hx hb dX11_emit_35 rfl ?_
  refine fg_X11_135 C hw ic1_0 dX11_emit_36 ?_
  refine lv_iconst (v := (1 : Int32)) hx hb dX11_emit_39 (by decide) ?_
  refine lv_iadd hx hb dX11_emit_40 ?_
  refine fp_X11_135 C hw ic1_0 dX11_emit_41 (fun H locs hw => ?_)
  obtain ⟨M_6, eM_6⟩ : ∃ z, z = (x_up M_5 0 12 ((M_5 0 12) + (1 : Int32))) := ⟨_, rfl⟩
  rw [← eM_6] at hw
  have hf := x_lE eM_6 hf
  exact ret hf dX11_emit_44 hw
noncomputable def fX11_works_L0 (a1 : Int32) : Nat → xM → Option (xM)
  | 0, _ => none
  | n_2 + 1, M_1 => if (M_1 0 16) ≤ 0 then (some M_1) else (x_g ((M_1 0 16) - (1 : Int32)) 130 (if (M_1 5 ((M_1 0 16) - (1 : Int32)).toNatClampNeg) < (10 : Int32) then (some M_1) else (x_g ((M_1 0 16) - (1 : Int32)) 130 (if ((M_1 5 ((M_1 0 16) - (1 : Int32)).toNatClampNeg) / (10 : Int32)) < a1 then (some M_1) else (x_l (x_up M_1 0 16 ((M_1 0 16) - (1 : Int32))) fun M_10 => x_g (M_10 0 16) 130 (x_v (fX11_emit M_10 (M_10 5 (M_10 0 16).toNatClampNeg) (0 : Int32)) fun M_12 => fX11_works_L0 a1 n_2 M_12))))))
noncomputable def fX11_works (M : xM) (a1 : Int32) : Option (xM) := fX11_works_L0 a1 x_FU M
set_option maxRecDepth 100000 in
set_option maxHeartbeats 4000000 in
theorem mX11_works (l : Launch) (g : xG) {a1 : Int32} {M' : xM}  {M : xM} (hf : fX11_works M a1 = some M') : x_cV l g 1 yX11_works cX11_works 2 1 23 [.ref (g.2.2.1 0), .int a1] M (fun N => N = M') := by
  refine x_stV RX11 (by decide) rfl (Nat.le_of_ble_eq_true rfl) ?_
  intro p e s m args below meth c Q ls C hw ret hl
  obtain ⟨hx, hb, hml, hown, hB, -⟩ := id C
  have hl : lv_has ls 2 [(0, .ref (g.2.2.1 0)), (1, .int a1)] := hl
  unfold fX11_works at hf
  have hL_14 : ∀ (n_2 : Nat) (H : Heap) (locs : List Loc) (M_1 : xM)  (ls : Array Slot) , lv_has ls 2 [(0, .ref (g.2.2.1 0)), (1, .int a1)] → x_w g 1 s H locs M_1 → fX11_works_L0 a1 n_2 M_1 = some M' → W p l e (x_rm 1 23) s m args below meth c H locs 0 0 Q (F0 m 0 ls []) := by
    intro n_2
    induction n_2 with
    | zero =>
      intro H locs M_1  ls  hl hw hf
      rw [fX11_works_L0] at hf
      cases hf
    | succ n_2 ih_3 =>
      intro H locs M_1  ls  hl hw hf
      rw [fX11_works_L0] at hf
      refine lv_aload_n hx hb dX11_works_0 rfl (lv_at hl 0 rfl) ?_
      refine fg_X11_138 C hw ic1_0 dX11_works_1 ?_
      refine lv_if_le (tgt := 68) hx hb dX11_works_4 (by decide) (fun q_4 => ?_) (fun q_4 => ?_)
      · have hf := x_iP hf q_4
        exact ret hf dX11_works_68 hw
      · have hf := x_iN hf q_4
        refine lv_aload_n hx hb dX11_works_7 rfl (lv_at hl 0 rfl) ?_
        refine fg_X11_22 (k2 := 5) C hw ic1_0 rfl dX11_works_8 ?_
        refine lv_aload_n hx hb dX11_works_11 rfl (lv_at hl 0 rfl) ?_
        refine fg_X11_138 C hw ic1_0 dX11_works_12 ?_
        refine lv_iconst (v := (1 : Int32)) hx hb dX11_works_15 (by decide) ?_
        refine lv_isub hx hb dX11_works_16 ?_
        obtain ⟨q_5, hf⟩ := x_gE hf
        refine x_ald C hw ic1_5 q_5 rfl dX11_works_17 ?_
        refine lv_bipush (v := (10 : Int32)) hx hb dX11_works_18 (by decide) ?_
        refine lv_icmp_lt (tgt := 68) hx hb dX11_works_20 (by decide) (fun q_6 => ?_) (fun q_6 => ?_)
        · have hf := x_iP hf q_6
          exact ret hf dX11_works_68 hw
        · have hf := x_iN hf q_6
          refine lv_aload_n hx hb dX11_works_23 rfl (lv_at hl 0 rfl) ?_
          refine fg_X11_22 (k2 := 5) C hw ic1_0 rfl dX11_works_24 ?_
          refine lv_aload_n hx hb dX11_works_27 rfl (lv_at hl 0 rfl) ?_
          refine fg_X11_138 C hw ic1_0 dX11_works_28 ?_
          refine lv_iconst (v := (1 : Int32)) hx hb dX11_works_31 (by decide) ?_
          refine lv_isub hx hb dX11_works_32 ?_
          obtain ⟨q_7, hf⟩ := x_gE hf
          refine x_ald C hw ic1_5 q_7 rfl dX11_works_33 ?_
          refine lv_bipush (v := (10 : Int32)) hx hb dX11_works_34 (by decide) ?_
          refine lv_idiv hx hb dX11_works_36 (by decide) ?_
          refine lv_iload_n hx hb dX11_works_37 rfl (lv_at hl 1 rfl) ?_
          refine lv_icmp_lt (tgt := 68) hx hb dX11_works_38 (by decide) (fun q_9 => ?_) (fun q_9 => ?_)
          · have hf := x_iP hf q_9
            exact ret hf dX11_works_68 hw
          · have hf := x_iN hf q_9
            refine lv_aload_n hx hb dX11_works_41 rfl (lv_at hl 0 rfl) ?_
            refine lv_dup hx hb dX11_works_42 rfl ?_
            refine fg_X11_138 C hw ic1_0 dX11_works_43 ?_
            refine lv_iconst (v := (1 : Int32)) hx hb dX11_works_46 (by decide) ?_
            refine lv_isub hx hb dX11_works_47 ?_
            refine fp_X11_138 C hw ic1_0 dX11_works_48 (fun H locs hw => ?_)
            obtain ⟨M_10, eM_10⟩ : ∃ z, z = (x_up M_1 0 16 ((M_1 0 16) - (1 : Int32))) := ⟨_, rfl⟩
            rw [← eM_10] at hw
            have hf := x_lE eM_10 hf
            refine lv_aload_n hx hb dX11_works_51 rfl (lv_at hl 0 rfl) ?_
            refine lv_aload_n hx hb dX11_works_52 rfl (lv_at hl 0 rfl) ?_
            refine fg_X11_22 (k2 := 5) C hw ic1_0 rfl dX11_works_53 ?_
            refine lv_aload_n hx hb dX11_works_56 rfl (lv_at hl 0 rfl) ?_
            refine fg_X11_138 C hw ic1_0 dX11_works_57 ?_
            obtain ⟨q_11, hf⟩ := x_gE hf
            refine x_ald C hw ic1_5 q_11 rfl dX11_works_60 ?_
            refine lv_iconst (v := (0 : Int32)) hx hb dX11_works_61 (by decide) ?_
            obtain ⟨tM_12, c_13, hf⟩ := x_vE hf
            refine x_vV C hw hl.1 [.int (M_10 5 (M_10 0 16).toNatClampNeg), .int (0 : Int32)] [] (mX11_emit l g c_13) lk_X11_141 ic1_0 (by decide) rfl (by decide) rfl (Nat.le_of_ble_eq_true rfl) ⟨Nat.zero_le _, Nat.zero_le _⟩ dX11_works_62 (fun M_12 H locs hN hw => ?_)
            obtain rfl := hN
            refine lv_goto (tgt := 0) hx hb dX11_works_65 (by decide) ?_
            exact ih_3 _ _ _ _ (lv_sub hl [0, 1] rfl) hw hf
  exact hL_14 _ _ _ _ _ (lv_sub hl [0, 1] rfl) hw hf
noncomputable def fX11_parted_L0  : Nat → xM → Option (xM)
  | 0, _ => none
  | n_2 + 1, M_1 => if (M_1 0 16) ≤ 0 then (some M_1) else (x_g ((M_1 0 16) - (1 : Int32)) 130 (if (M_1 5 ((M_1 0 16) - (1 : Int32)).toNatClampNeg) = (3 : Int32) then (x_l (x_up M_1 0 16 ((M_1 0 16) - (1 : Int32))) fun M_7 => x_l (x_up M_7 0 18 ((M_7 0 18) - (1 : Int32))) fun M_8 => x_v (fX11_emit M_8 (3 : Int32) (0 : Int32)) fun M_9 => fX11_parted_L0 n_2 M_9) else (some M_1)))
noncomputable def fX11_parted (M : xM)  : Option (xM) := fX11_parted_L0 x_FU M
set_option maxRecDepth 100000 in
set_option maxHeartbeats 4000000 in
theorem mX11_parted (l : Launch) (g : xG)  {M' : xM}  {M : xM} (hf : fX11_parted M  = some M') : x_cV l g 1 yX11_parted cX11_parted 1 1 23 [.ref (g.2.2.1 0)] M (fun N => N = M') := by
  refine x_stV RX11 (by decide) rfl (Nat.le_of_ble_eq_true rfl) ?_
  intro p e s m args below meth c Q ls C hw ret hl
  obtain ⟨hx, hb, hml, hown, hB, -⟩ := id C
  have hl : lv_has ls 1 [(0, .ref (g.2.2.1 0))] := hl
  unfold fX11_parted at hf
  have hL_11 : ∀ (n_2 : Nat) (H : Heap) (locs : List Loc) (M_1 : xM)  (ls : Array Slot) , lv_has ls 1 [(0, .ref (g.2.2.1 0))] → x_w g 1 s H locs M_1 → fX11_parted_L0 n_2 M_1 = some M' → W p l e (x_rm 1 23) s m args below meth c H locs 0 0 Q (F0 m 0 ls []) := by
    intro n_2
    induction n_2 with
    | zero =>
      intro H locs M_1  ls  hl hw hf
      rw [fX11_parted_L0] at hf
      cases hf
    | succ n_2 ih_3 =>
      intro H locs M_1  ls  hl hw hf
      rw [fX11_parted_L0] at hf
      refine lv_aload_n hx hb dX11_parted_0 rfl (lv_at hl 0 rfl) ?_
      refine fg_X11_138 C hw ic1_0 dX11_parted_1 ?_
      refine lv_if_le (tgt := 51) hx hb dX11_parted_4 (by decide) (fun q_4 => ?_) (fun q_4 => ?_)
      · have hf := x_iP hf q_4
        exact ret hf dX11_parted_51 hw
      · have hf := x_iN hf q_4
        refine lv_aload_n hx hb dX11_parted_7 rfl (lv_at hl 0 rfl) ?_
        refine fg_X11_22 (k2 := 5) C hw ic1_0 rfl dX11_parted_8 ?_
        refine lv_aload_n hx hb dX11_parted_11 rfl (lv_at hl 0 rfl) ?_
        refine fg_X11_138 C hw ic1_0 dX11_parted_12 ?_
        refine lv_iconst (v := (1 : Int32)) hx hb dX11_parted_15 (by decide) ?_
        refine lv_isub hx hb dX11_parted_16 ?_
        obtain ⟨q_5, hf⟩ := x_gE hf
        refine x_ald C hw ic1_5 q_5 rfl dX11_parted_17 ?_
        refine lv_iconst (v := (3 : Int32)) hx hb dX11_parted_18 (by decide) ?_
        refine lv_icmp_ne (tgt := 51) hx hb dX11_parted_19 (by decide) (fun q_6 => ?_) (fun q_6 => ?_)
        · have hf := x_iN hf q_6
          exact ret hf dX11_parted_51 hw
        · have hf := x_iP hf q_6
          refine lv_aload_n hx hb dX11_parted_22 rfl (lv_at hl 0 rfl) ?_
          refine lv_dup hx hb dX11_parted_23 rfl ?_
          refine fg_X11_138 C hw ic1_0 dX11_parted_24 ?_
          refine lv_iconst (v := (1 : Int32)) hx hb dX11_parted_27 (by decide) ?_
          refine lv_isub hx hb dX11_parted_28 ?_
          refine fp_X11_138 C hw ic1_0 dX11_parted_29 (fun H locs hw => ?_)
          obtain ⟨M_7, eM_7⟩ : ∃ z, z = (x_up M_1 0 16 ((M_1 0 16) - (1 : Int32))) := ⟨_, rfl⟩
          rw [← eM_7] at hw
          have hf := x_lE eM_7 hf
          refine lv_aload_n hx hb dX11_parted_32 rfl (lv_at hl 0 rfl) ?_
          refine lv_dup hx hb dX11_parted_33 rfl ?_
          refine fg_X11_145 C hw ic1_0 dX11_parted_34 ?_
          refine lv_iconst (v := (1 : Int32)) hx hb dX11_parted_37 (by decide) ?_
          refine lv_isub hx hb dX11_parted_38 ?_
          refine fp_X11_145 C hw ic1_0 dX11_parted_39 (fun H locs hw => ?_)
          obtain ⟨M_8, eM_8⟩ : ∃ z, z = (x_up M_7 0 18 ((M_7 0 18) - (1 : Int32))) := ⟨_, rfl⟩
          rw [← eM_8] at hw
          have hf := x_lE eM_8 hf
          refine lv_aload_n hx hb dX11_parted_42 rfl (lv_at hl 0 rfl) ?_
          refine lv_iconst (v := (3 : Int32)) hx hb dX11_parted_43 (by decide) ?_
          refine lv_iconst (v := (0 : Int32)) hx hb dX11_parted_44 (by decide) ?_
          obtain ⟨tM_9, c_10, hf⟩ := x_vE hf
          refine x_vV C hw hl.1 [.int (3 : Int32), .int (0 : Int32)] [] (mX11_emit l g c_10) lk_X11_141 ic1_0 (by decide) rfl (by decide) rfl (Nat.le_of_ble_eq_true rfl) ⟨Nat.zero_le _, Nat.zero_le _⟩ dX11_parted_45 (fun M_9 H locs hN hw => ?_)
          obtain rfl := hN
          refine lv_goto (tgt := 0) hx hb dX11_parted_48 (by decide) ?_
          exact ih_3 _ _ _ _ (lv_sub hl [0] rfl) hw hf
  exact hL_11 _ _ _ _ _ (lv_sub hl [0] rfl) hw hf
