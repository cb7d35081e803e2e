noncomputable def fX11_appeal (M : xM) (a1 : Int32) (a2 : Int32) (a3 : Int32) : Option (Int32 × xM) := x_b (fX11_isJudgment M a1) fun v_3 M_1 => if v_3 = 0 then (some ((-1000000001 : Int32), M_1)) else (x_b (fX11_in M_1 a2 (0 : Int32) (1 : Int32)) fun v_7 M_5 => if v_7 = 0 then (some ((-1000000001 : Int32), M_5)) else (x_l (fun (M_11 : xM) (z_9 : Int32) => x_b (fX11_in M_11 a3 (0 : Int32) z_9) fun v_14 M_12 => if v_14 = 0 then (some ((-1000000001 : Int32), M_12)) else (x_l ((792 : Int32) + ((10 : Int32) * a1)) fun x4_16 => x_b (fX11_isLate M_12 a1 (M_12 1 9)) fun v_20 M_18 => if v_20 = 0 then (x_g (x4_16 + (8 : Int32)) 1675 (if (((M_18 1 (x4_16 + (8 : Int32)).toNatClampNeg) >>> (a2 &&& 31)) &&& (1 : Int32)) = (1 : Int32) then (some ((-1000000002 : Int32), M_18)) else (x_b (fX11_isTurned M_18 a1) fun v_26 M_24 => if v_26 = 0 then (x_g ((x4_16 + (2 : Int32)) + a2) 1675 (x_l (M_24 1 ((x4_16 + (2 : Int32)) + a2).toNatClampNeg) fun x5_29 => x_g ((x4_16 + (2 : Int32)) + a2) 1675 (x_l (x_up M_24 1 ((x4_16 + (2 : Int32)) + a2).toNatClampNeg a3) fun M_31 => x_g (x4_16 + (8 : Int32)) 1675 (x_g (x4_16 + (8 : Int32)) 1675 (x_l (x_up M_31 1 (x4_16 + (8 : Int32)).toNatClampNeg ((M_31 1 (x4_16 + (8 : Int32)).toNatClampNeg) ||| ((1 : Int32) <<< (a2 &&& 31)))) fun M_34 => some (x5_29, M_34)))))) else (some ((-1000000002 : Int32), M_24))))) else (some ((-1000000002 : Int32), M_18)))) fun k39_10 => if a2 = 0 then (k39_10 M_5 (M_5 1 4)) else (k39_10 M_5 (M_5 1 8))))
set_option maxRecDepth 100000 in
set_option maxHeartbeats 4000000 in
theorem mX11_appeal (l : Launch) (g : xG) {a1 : Int32} {a2 : Int32} {a3 : Int32} {r : Int32} {M' : xM}  {M : xM} (hf : fX11_appeal M a1 a2 a3 = some (r, M')) : x_cI l g 1 yX11_appeal cX11_appeal 6 .int 2 43 [.ref (g.2.2.1 0), .int a1, .int a2, .int a3] M (fun v N => v = r ∧ N = M') := by
  refine x_stI RX11 (by decide) rfl (Nat.le_of_ble_eq_true rfl) ?_
  intro p e s m args below meth c Q ls C hw ret hl
  obtain ⟨hx, hb, hml, hown, hB, -⟩ := id C
  have hl : lv_has ls 6 [(0, .ref (g.2.2.1 0)), (1, .int a1), (2, .int a2), (3, .int a3)] := hl
  unfold fX11_appeal at hf
  refine lv_aload_n hx hb dX11_appeal_0 rfl (lv_at hl 0 rfl) ?_
  refine lv_iload_n hx hb dX11_appeal_1 rfl (lv_at hl 1 rfl) ?_
  obtain ⟨tv_3, tM_1, c_2, hf⟩ := x_bE hf
  refine x_vI C hw hl.1 [.int a1] [] (mX11_isJudgment l g c_2) lk_X11_221 ic1_0 (by decide) rfl (by decide) rfl (Nat.le_of_ble_eq_true rfl) ⟨Nat.zero_le _, Nat.zero_le _⟩ dX11_appeal_2 (fun v_3 M_1 H locs hN hw => ?_)
  obtain ⟨rfl, rfl⟩ := hN
  refine lv_if_eq (tgt := 45) hx hb dX11_appeal_5 (by decide) (fun q_4 => ?_) (fun q_4 => ?_)
  · have hf := x_iP hf q_4
    refine lv_ldc hx hb hown (hB _ mk_X11_60) dX11_appeal_45 ?_
    exact ret hf dX11_appeal_47 hw
  · have hf := x_iN hf q_4
    refine lv_iload_n hx hb dX11_appeal_8 rfl (lv_at hl 2 rfl) ?_
    refine lv_iconst (v := (0 : Int32)) hx hb dX11_appeal_9 (by decide) ?_
    refine lv_iconst (v := (1 : Int32)) hx hb dX11_appeal_10 (by decide) ?_
    obtain ⟨tv_7, tM_5, c_6, hf⟩ := x_bE hf
    refine x_sI C hw hl.1 [.int a2, .int (0 : Int32), .int (1 : Int32)] [] (mX11_in l g c_6) lk_X11_56 (by decide) rfl (Nat.le_of_ble_eq_true rfl) ⟨Nat.zero_le _, Nat.zero_le _⟩ dX11_appeal_11 (fun v_7 M_5 H locs hN hw => ?_)
    obtain ⟨rfl, rfl⟩ := hN
    refine lv_if_eq (tgt := 45) hx hb dX11_appeal_14 (by decide) (fun q_8 => ?_) (fun q_8 => ?_)
    · have hf := x_iP hf q_8
      refine lv_ldc hx hb hown (hB _ mk_X11_60) dX11_appeal_45 ?_
      exact ret hf dX11_appeal_47 hw
    · have hf := x_iN hf q_8
      refine lv_iload_n hx hb dX11_appeal_17 rfl (lv_at hl 3 rfl) ?_
      refine lv_iconst (v := (0 : Int32)) hx hb dX11_appeal_18 (by decide) ?_
      refine lv_iload_n hx hb dX11_appeal_19 rfl (lv_at hl 2 rfl) ?_
      obtain ⟨k39_10, ek39_10, hf⟩ := x_jE hf
      have hk39_10 : ∀ (H : Heap) (locs : List Loc) (M_11 : xM) (z_9 : Int32) (ls : Array Slot) , lv_has ls 6 [(0, .ref (g.2.2.1 0)), (1, .int a1), (2, .int a2), (3, .int a3)] → x_w g 1 s H locs M_11 → k39_10 M_11 z_9 = some (r, M') → W p l e (x_rm 2 43) s m args below meth c H locs 0 0 Q (F0 m 39 ls [.int z_9, .int (0 : Int32), .int a3]) := by
        intro H locs M_11 z_9 ls  hl hw hf
        rw [ek39_10] at hf
        obtain ⟨tv_14, tM_12, c_13, hf⟩ := x_bE hf
        refine x_sI C hw hl.1 [.int a3, .int (0 : Int32), .int z_9] [] (mX11_in l g c_13) lk_X11_56 (by decide) rfl (Nat.le_of_ble_eq_true rfl) ⟨Nat.zero_le _, Nat.zero_le _⟩ dX11_appeal_39 (fun v_14 M_12 H locs hN hw => ?_)
        obtain ⟨rfl, rfl⟩ := hN
        refine lv_if_ne (tgt := 48) hx hb dX11_appeal_42 (by decide) (fun q_15 => ?_) (fun q_15 => ?_)
        · have hf := x_iN hf q_15
          refine lv_sipush (v := (792 : Int32)) hx hb dX11_appeal_48 (by decide) ?_
          refine lv_bipush (v := (10 : Int32)) hx hb dX11_appeal_51 (by decide) ?_
          refine lv_iload_n hx hb dX11_appeal_53 rfl (lv_at hl 1 rfl) ?_
          refine lv_imul hx hb dX11_appeal_54 ?_
          refine lv_iadd hx hb dX11_appeal_55 ?_
          refine lv_topi (fun x4_16 ex4_16 => ?_)
          have hf := x_lE ex4_16 hf
          refine lv_istore (lv' := [(4, .int x4_16), (0, .ref (g.2.2.1 0)), (1, .int a1), (2, .int a2), (3, .int a3)]) hx hb dX11_appeal_56 hl (by decide) rfl (fun ls hl => ?_)
          refine lv_aload_n hx hb dX11_appeal_58 rfl (lv_at hl 1 rfl) ?_
          refine lv_iload_n hx hb dX11_appeal_59 rfl (lv_at hl 2 rfl) ?_
          refine lv_aload_n hx hb dX11_appeal_60 rfl (lv_at hl 1 rfl) ?_
          refine fg_X11_7 (k2 := 1) C hw ic1_0 rfl dX11_appeal_61 ?_
          refine lv_bipush (v := (9 : Int32)) hx hb dX11_appeal_64 (by decide) ?_
          refine x_ald (j := 9) C hw ic1_1 (x_inl rfl) rfl dX11_appeal_66 ?_
          obtain ⟨tv_20, tM_18, c_19, hf⟩ := x_bE hf
          refine x_vI C hw hl.1 [.int a1, .int (M_12 1 9)] [] (mX11_isLate l g c_19) lk_X11_233 ic1_0 (by decide) rfl (by decide) rfl (Nat.le_of_ble_eq_true rfl) ⟨Nat.zero_le _, Nat.zero_le _⟩ dX11_appeal_67 (fun v_20 M_18 H locs hN hw => ?_)
          obtain ⟨rfl, rfl⟩ := hN
          refine lv_if_ne (tgt := 99) hx hb dX11_appeal_70 (by decide) (fun q_21 => ?_) (fun q_21 => ?_)
          · have hf := x_iN hf q_21
            refine lv_ldc hx hb hown (hB _ mk_X11_69) dX11_appeal_99 ?_
            exact ret hf dX11_appeal_101 hw
          · have hf := x_iP hf q_21
            refine lv_aload_n hx hb dX11_appeal_73 rfl (lv_at hl 1 rfl) ?_
            refine fg_X11_7 (k2 := 1) C hw ic1_0 rfl dX11_appeal_74 ?_
            refine lv_iload hx hb dX11_appeal_77 (lv_at hl 0 rfl) ?_
            refine lv_bipush (v := (8 : Int32)) hx hb dX11_appeal_79 (by decide) ?_
            refine lv_iadd hx hb dX11_appeal_81 ?_
            obtain ⟨q_22, hf⟩ := x_gE hf
            refine x_ald C hw ic1_1 q_22 rfl dX11_appeal_82 ?_
            refine lv_iload_n hx hb dX11_appeal_83 rfl (lv_at hl 3 rfl) ?_
            refine lv_ishr hx hb dX11_appeal_84 ?_
            refine lv_iconst (v := (1 : Int32)) hx hb dX11_appeal_85 (by decide) ?_
            refine lv_iand hx hb dX11_appeal_86 ?_
            refine lv_iconst (v := (1 : Int32)) hx hb dX11_appeal_87 (by decide) ?_
            refine lv_icmp_eq (tgt := 99) hx hb dX11_appeal_88 (by decide) (fun q_23 => ?_) (fun q_23 => ?_)
            · have hf := x_iP hf q_23
              refine lv_ldc hx hb hown (hB _ mk_X11_69) dX11_appeal_99 ?_
              exact ret hf dX11_appeal_101 hw
            · have hf := x_iN hf q_23
              refine lv_aload_n hx hb dX11_appeal_91 rfl (lv_at hl 1 rfl) ?_
              refine lv_iload_n hx hb dX11_appeal_92 rfl (lv_at hl 2 rfl) ?_
              obtain ⟨tv_26, tM_24, c_25, hf⟩ := x_bE hf
              refine x_vI C hw hl.1 [.int a1] [] (mX11_isTurned l g c_25) lk_X11_236 ic1_0 (by decide) rfl (by decide) rfl (Nat.le_of_ble_eq_true rfl) ⟨Nat.zero_le _, Nat.zero_le _⟩ dX11_appeal_93 (fun v_26 M_24 H locs hN hw => ?_)
              obtain ⟨rfl, rfl⟩ := hN
              refine lv_if_eq (tgt := 102) hx hb dX11_appeal_96 (by decide) (fun q_27 => ?_) (fun q_27 => ?_)
              · have hf := x_iP hf q_27
                refine lv_aload_n hx hb dX11_appeal_102 rfl (lv_at hl 1 rfl) ?_
                refine fg_X11_7 (k2 := 1) C hw ic1_0 rfl dX11_appeal_103 ?_
                refine lv_iload hx hb dX11_appeal_106 (lv_at hl 0 rfl) ?_
                refine lv_iconst (v := (2 : Int32)) hx hb dX11_appeal_108 (by decide) ?_
                refine lv_iadd hx hb dX11_appeal_109 ?_
                refine lv_iload_n hx hb dX11_appeal_110 rfl (lv_at hl 3 rfl) ?_
                refine lv_iadd hx hb dX11_appeal_111 ?_
                obtain ⟨q_28, hf⟩ := x_gE hf
                refine x_ald C hw ic1_1 q_28 rfl dX11_appeal_112 ?_
                refine lv_topi (fun x5_29 ex5_29 => ?_)
                have hf := x_lE ex5_29 hf
                refine lv_istore (lv' := [(5, .int x5_29), (4, .int x4_16), (0, .ref (g.2.2.1 0)), (1, .int a1), (2, .int a2), (3, .int a3)]) hx hb dX11_appeal_113 hl (by decide) rfl (fun ls hl => ?_)
                refine lv_aload_n hx hb dX11_appeal_115 rfl (lv_at hl 2 rfl) ?_
                refine fg_X11_7 (k2 := 1) C hw ic1_0 rfl dX11_appeal_116 ?_
                refine lv_iload hx hb dX11_appeal_119 (lv_at hl 1 rfl) ?_
                refine lv_iconst (v := (2 : Int32)) hx hb dX11_appeal_121 (by decide) ?_
                refine lv_iadd hx hb dX11_appeal_122 ?_
                refine lv_iload_n hx hb dX11_appeal_123 rfl (lv_at hl 4 rfl) ?_
                refine lv_iadd hx hb dX11_appeal_124 ?_
                refine lv_iload_n hx hb dX11_appeal_125 rfl (lv_at hl 5 rfl) ?_
                obtain ⟨q_30, hf⟩ := x_gE hf
                refine x_ast C hw ic1_1 q_30 rfl dX11_appeal_126 (fun H locs hw => ?_)
                obtain ⟨M_31, eM_31⟩ : ∃ z, z = (x_up M_24 1 ((x4_16 + (2 : Int32)) + a2).toNatClampNeg a3) := ⟨_, rfl⟩
                rw [← eM_31] at hw
                have hf := x_lE eM_31 hf
                refine lv_aload_n hx hb dX11_appeal_127 rfl (lv_at hl 2 rfl) ?_
                refine fg_X11_7 (k2 := 1) C hw ic1_0 rfl dX11_appeal_128 ?_
                refine lv_iload hx hb dX11_appeal_131 (lv_at hl 1 rfl) ?_
                refine lv_bipush (v := (8 : Int32)) hx hb dX11_appeal_133 (by decide) ?_
                refine lv_iadd hx hb dX11_appeal_135 ?_
                refine lv_dup2_11 hx hb dX11_appeal_136 rfl rfl ?_
                obtain ⟨q_32, hf⟩ := x_gE hf
                refine x_ald C hw ic1_1 q_32 rfl dX11_appeal_137 ?_
                refine lv_iconst (v := (1 : Int32)) hx hb dX11_appeal_138 (by decide) ?_
                refine lv_iload_n hx hb dX11_appeal_139 rfl (lv_at hl 4 rfl) ?_
                refine lv_ishl hx hb dX11_appeal_140 ?_
                refine lv_ior hx hb dX11_appeal_141 ?_
                obtain ⟨q_33, hf⟩ := x_gE hf
                refine x_ast C hw ic1_1 q_33 rfl dX11_appeal_142 (fun H locs hw => ?_)
                obtain ⟨M_34, eM_34⟩ : ∃ z, z = (x_up M_31 1 (x4_16 + (8 : Int32)).toNatClampNeg ((M_31 1 (x4_16 + (8 : Int32)).toNatClampNeg) ||| ((1 : Int32) <<< (a2 &&& 31)))) := ⟨_, rfl⟩
                rw [← eM_34] at hw
                have hf := x_lE eM_34 hf
                refine lv_iload hx hb dX11_appeal_143 (lv_at hl 0 rfl) ?_
                exact ret hf dX11_appeal_145 hw
              · have hf := x_iN hf q_27
                refine lv_ldc hx hb hown (hB _ mk_X11_69) dX11_appeal_99 ?_
                exact ret hf dX11_appeal_101 hw
        · have hf := x_iP hf q_15
          refine lv_ldc hx hb hown (hB _ mk_X11_60) dX11_appeal_45 ?_
          exact ret hf dX11_appeal_47 hw
      refine lv_if_ne (tgt := 32) hx hb dX11_appeal_20 (by decide) (fun q_35 => ?_) (fun q_35 => ?_)
      · have hf := x_iN hf q_35
        refine lv_aload_n hx hb dX11_appeal_32 rfl (lv_at hl 0 rfl) ?_
        refine fg_X11_7 (k2 := 1) C hw ic1_0 rfl dX11_appeal_33 ?_
        refine lv_bipush (v := (8 : Int32)) hx hb dX11_appeal_36 (by decide) ?_
        refine x_ald (j := 8) C hw ic1_1 (x_inl rfl) rfl dX11_appeal_38 ?_
        exact hk39_10 _ _ _ _ _ (lv_sub hl [0, 1, 2, 3] rfl) hw hf
      · have hf := x_iP hf q_35
        refine lv_aload_n hx hb dX11_appeal_23 rfl (lv_at hl 0 rfl) ?_
        refine fg_X11_7 (k2 := 1) C hw ic1_0 rfl dX11_appeal_24 ?_
        refine lv_iconst (v := (4 : Int32)) hx hb dX11_appeal_27 (by decide) ?_
        refine x_ald (j := 4) C hw ic1_1 (x_inl rfl) rfl dX11_appeal_28 ?_
        refine lv_goto (tgt := 39) hx hb dX11_appeal_29 (by decide) ?_
        exact hk39_10 _ _ _ _ _ (lv_sub hl [0, 1, 2, 3] rfl) hw hf
noncomputable def fX11_reopen (M : xM) (a1 : Int32) : Option (Int32 × xM) := x_b (fX11_isJudgment M a1) fun v_3 M_1 => if v_3 = 0 then (some ((-1000000001 : Int32), M_1)) else (x_b (fX11_isLate M_1 a1 (M_1 1 10)) fun v_8 M_6 => if v_8 = 0 then (x_b (fX11_isTurned M_6 a1) fun v_12 M_10 => if v_12 = 0 then (if (M_10 1 21) = 0 then (some ((-1000000002 : Int32), M_10)) else (x_l ((792 : Int32) + ((10 : Int32) * a1)) fun x2_16 => x_g x2_16 1675 (x_g (x2_16 + (1 : Int32)) 1675 (x_b (fX11_sumOf M_10 (M_10 1 x2_16.toNatClampNeg) (M_10 1 (x2_16 + (1 : Int32)).toNatClampNeg) (M_10 1 0)) fun v_22 M_20 => x_g (x2_16 + (3 : Int32)) 1675 (x_l (x_up M_20 1 (x2_16 + (3 : Int32)).toNatClampNeg v_22) fun M_24 => x_g (x2_16 + (3 : Int32)) 1675 (some ((M_24 1 (x2_16 + (3 : Int32)).toNatClampNeg), M_24))))))) else (some ((-1000000002 : Int32), M_10))) else (some ((-1000000002 : Int32), M_6)))
set_option maxRecDepth 100000 in
set_option maxHeartbeats 4000000 in
theorem mX11_reopen (l : Launch) (g : xG) {a1 : Int32} {r : Int32} {M' : xM}  {M : xM} (hf : fX11_reopen M a1 = some (r, M')) : x_cI l g 1 yX11_reopen cX11_reopen 3 .int 4 101 [.ref (g.2.2.1 0), .int a1] M (fun v N => v = r ∧ N = M') := by
  refine x_stI RX11 (by decide) rfl (Nat.le_of_ble_eq_true rfl) ?_
  intro p e s m args below meth c Q ls C hw ret hl
  obtain ⟨hx, hb, hml, hown, hB, -⟩ := id C
  have hl : lv_has ls 3 [(0, .ref (g.2.2.1 0)), (1, .int a1)] := hl
  unfold fX11_reopen at hf
  refine lv_aload_n hx hb dX11_reopen_0 rfl (lv_at hl 0 rfl) ?_
  refine lv_iload_n hx hb dX11_reopen_1 rfl (lv_at hl 1 rfl) ?_
  obtain ⟨tv_3, tM_1, c_2, hf⟩ := x_bE hf
  refine x_vI C hw hl.1 [.int a1] [] (mX11_isJudgment l g c_2) lk_X11_221 ic1_0 (by decide) rfl (by decide) rfl (Nat.le_of_ble_eq_true rfl) ⟨Nat.zero_le _, Nat.zero_le _⟩ dX11_reopen_2 (fun v_3 M_1 H locs hN hw => ?_)
  obtain ⟨rfl, rfl⟩ := hN
  refine lv_if_ne (tgt := 11) hx hb dX11_reopen_5 (by decide) (fun q_4 => ?_) (fun q_4 => ?_)
  · have hf := x_iN hf q_4
    refine lv_aload_n hx hb dX11_reopen_11 rfl (lv_at hl 0 rfl) ?_
    refine lv_iload_n hx hb dX11_reopen_12 rfl (lv_at hl 1 rfl) ?_
    refine lv_aload_n hx hb dX11_reopen_13 rfl (lv_at hl 0 rfl) ?_
    refine fg_X11_7 (k2 := 1) C hw ic1_0 rfl dX11_reopen_14 ?_
    refine lv_bipush (v := (10 : Int32)) hx hb dX11_reopen_17 (by decide) ?_
    refine x_ald (j := 10) C hw ic1_1 (x_inl rfl) rfl dX11_reopen_19 ?_
    obtain ⟨tv_8, tM_6, c_7, hf⟩ := x_bE hf
    refine x_vI C hw hl.1 [.int a1, .int (M_1 1 10)] [] (mX11_isLate l g c_7) lk_X11_233 ic1_0 (by decide) rfl (by decide) rfl (Nat.le_of_ble_eq_true rfl) ⟨Nat.zero_le _, Nat.zero_le _⟩ dX11_reopen_20 (fun v_8 M_6 H locs hN hw => ?_)
    obtain ⟨rfl, rfl⟩ := hN
    refine lv_if_ne (tgt := 44) hx hb dX11_reopen_23 (by decide) (fun q_9 => ?_) (fun q_9 => ?_)
    · have hf := x_iN hf q_9
      refine lv_ldc hx hb hown (hB _ mk_X11_69) dX11_reopen_44 ?_
      exact ret hf dX11_reopen_46 hw
    · have hf := x_iP hf q_9
      refine lv_aload_n hx hb dX11_reopen_26 rfl (lv_at hl 0 rfl) ?_
      refine lv_iload_n hx hb dX11_reopen_27 rfl (lv_at hl 1 rfl) ?_
      obtain ⟨tv_12, tM_10, c_11, hf⟩ := x_bE hf
      refine x_vI C hw hl.1 [.int a1] [] (mX11_isTurned l g c_11) lk_X11_236 ic1_0 (by decide) rfl (by decide) rfl (Nat.le_of_ble_eq_true rfl) ⟨Nat.zero_le _, Nat.zero_le _⟩ dX11_reopen_28 (fun v_12 M_10 H locs hN hw => ?_)
      obtain ⟨rfl, rfl⟩ := hN
      refine lv_if_ne (tgt := 44) hx hb dX11_reopen_31 (by decide) (fun q_13 => ?_) (fun q_13 => ?_)
      · have hf := x_iN hf q_13
        refine lv_ldc hx hb hown (hB _ mk_X11_69) dX11_reopen_44 ?_
        exact ret hf dX11_reopen_46 hw
      · have hf := x_iP hf q_13
        refine lv_aload_n hx hb dX11_reopen_34 rfl (lv_at hl 0 rfl) ?_
        refine fg_X11_7 (k2 := 1) C hw ic1_0 rfl dX11_reopen_35 ?_
        refine lv_bipush (v := (21 : Int32)) hx hb dX11_reopen_38 (by decide) ?_
        refine x_ald (j := 21) C hw ic1_1 (x_inl rfl) rfl dX11_reopen_40 ?_
        refine lv_if_ne (tgt := 47) hx hb dX11_reopen_41 (by decide) (fun q_15 => ?_) (fun q_15 => ?_)
        · have hf := x_iN hf q_15
          refine lv_sipush (v := (792 : Int32)) hx hb dX11_reopen_47 (by decide) ?_
          refine lv_bipush (v := (10 : Int32)) hx hb dX11_reopen_50 (by decide) ?_
          refine lv_iload_n hx hb dX11_reopen_52 rfl (lv_at hl 1 rfl) ?_
          refine lv_imul hx hb dX11_reopen_53 ?_
          refine lv_iadd hx hb dX11_reopen_54 ?_
          refine lv_topi (fun x2_16 ex2_16 => ?_)
          have hf := x_lE ex2_16 hf
          refine lv_istore_n (lv' := [(2, .int x2_16), (0, .ref (g.2.2.1 0)), (1, .int a1)]) hx hb dX11_reopen_55 rfl hl (by decide) rfl (fun ls hl => ?_)
          refine lv_aload_n hx hb dX11_reopen_56 rfl (lv_at hl 1 rfl) ?_
          refine fg_X11_7 (k2 := 1) C hw ic1_0 rfl dX11_reopen_57 ?_
          refine lv_iload_n hx hb dX11_reopen_60 rfl (lv_at hl 0 rfl) ?_
          refine lv_iconst (v := (3 : Int32)) hx hb dX11_reopen_61 (by decide) ?_
          refine lv_iadd hx hb dX11_reopen_62 ?_
          refine lv_aload_n hx hb dX11_reopen_63 rfl (lv_at hl 1 rfl) ?_
          refine lv_aload_n hx hb dX11_reopen_64 rfl (lv_at hl 1 rfl) ?_
          refine fg_X11_7 (k2 := 1) C hw ic1_0 rfl dX11_reopen_65 ?_
          refine lv_iload_n hx hb dX11_reopen_68 rfl (lv_at hl 0 rfl) ?_
          obtain ⟨q_17, hf⟩ := x_gE hf
          refine x_ald C hw ic1_1 q_17 rfl dX11_reopen_69 ?_
          refine lv_aload_n hx hb dX11_reopen_70 rfl (lv_at hl 1 rfl) ?_
          refine fg_X11_7 (k2 := 1) C hw ic1_0 rfl dX11_reopen_71 ?_
          refine lv_iload_n hx hb dX11_reopen_74 rfl (lv_at hl 0 rfl) ?_
          refine lv_iconst (v := (1 : Int32)) hx hb dX11_reopen_75 (by decide) ?_
          refine lv_iadd hx hb dX11_reopen_76 ?_
          obtain ⟨q_18, hf⟩ := x_gE hf
          refine x_ald C hw ic1_1 q_18 rfl dX11_reopen_77 ?_
          refine lv_aload_n hx hb dX11_reopen_78 rfl (lv_at hl 1 rfl) ?_
          refine fg_X11_7 (k2 := 1) C hw ic1_0 rfl dX11_reopen_79 ?_
          refine lv_iconst (v := (0 : Int32)) hx hb dX11_reopen_82 (by decide) ?_
          refine x_ald (j := 0) C hw ic1_1 (x_inl rfl) rfl dX11_reopen_83 ?_
          obtain ⟨tv_22, tM_20, c_21, hf⟩ := x_bE hf
          refine x_vI C hw hl.1 [.int (M_10 1 x2_16.toNatClampNeg), .int (M_10 1 (x2_16 + (1 : Int32)).toNatClampNeg), .int (M_10 1 0)] [.int (x2_16 + (3 : Int32)), .ref (g.2.2.1 1)] (mX11_sumOf l g c_21) lk_X11_201 ic1_0 (by decide) rfl (by decide) rfl (Nat.le_of_ble_eq_true rfl) ⟨Nat.zero_le _, Nat.zero_le _⟩ dX11_reopen_84 (fun v_22 M_20 H locs hN hw => ?_)
          obtain ⟨rfl, rfl⟩ := hN
          obtain ⟨q_23, hf⟩ := x_gE hf
          refine x_ast C hw ic1_1 q_23 rfl dX11_reopen_87 (fun H locs hw => ?_)
          obtain ⟨M_24, eM_24⟩ : ∃ z, z = (x_up M_20 1 (x2_16 + (3 : Int32)).toNatClampNeg v_22) := ⟨_, rfl⟩
          rw [← eM_24] at hw
          have hf := x_lE eM_24 hf
          refine lv_aload_n hx hb dX11_reopen_88 rfl (lv_at hl 1 rfl) ?_
          refine fg_X11_7 (k2 := 1) C hw ic1_0 rfl dX11_reopen_89 ?_
          refine lv_iload_n hx hb dX11_reopen_92 rfl (lv_at hl 0 rfl) ?_
          refine lv_iconst (v := (3 : Int32)) hx hb dX11_reopen_93 (by decide) ?_
          refine lv_iadd hx hb dX11_reopen_94 ?_
          obtain ⟨q_25, hf⟩ := x_gE hf
          refine x_ald C hw ic1_1 q_25 rfl dX11_reopen_95 ?_
          exact ret hf dX11_reopen_96 hw
        · have hf := x_iP hf q_15
          refine lv_ldc hx hb hown (hB _ mk_X11_69) dX11_reopen_44 ?_
          exact ret hf dX11_reopen_46 hw
  · have hf := x_iP hf q_4
    refine lv_ldc hx hb hown (hB _ mk_X11_60) dX11_reopen_8 ?_
    exact ret hf dX11_reopen_10 hw
noncomputable def fX11_pay (M : xM) (a1 : Int32) (a2 : Int32) : Option (Int32 × xM) := x_b (fX11_isJudgment M a1) fun v_3 M_1 => if v_3 = 0 then (some ((-1000000001 : Int32), M_1)) else (x_b (fX11_in M_1 a2 (1 : Int32) (9999999 : Int32)) fun v_7 M_5 => if v_7 = 0 then (some ((-1000000001 : Int32), M_5)) else (x_b (fX11_isTurned M_5 a1) fun v_11 M_9 => if v_11 = 0 then (x_b (fX11_unpaid M_9 a1) fun v_15 M_13 => x_b (fX11_less M_13 a2 v_15) fun v_18 M_16 => x_g (((792 : Int32) + ((10 : Int32) * a1)) + (4 : Int32)) 1675 (x_g (((792 : Int32) + ((10 : Int32) * a1)) + (4 : Int32)) 1675 (x_l (x_up M_16 1 (((792 : Int32) + ((10 : Int32) * a1)) + (4 : Int32)).toNatClampNeg ((M_16 1 (((792 : Int32) + ((10 : Int32) * a1)) + (4 : Int32)).toNatClampNeg) + v_18)) fun M_21 => some ((a2 - v_18), M_21)))) else (some ((-1000000002 : Int32), M_9))))
set_option maxRecDepth 100000 in
set_option maxHeartbeats 4000000 in
theorem mX11_pay (l : Launch) (g : xG) {a1 : Int32} {a2 : Int32} {r : Int32} {M' : xM}  {M : xM} (hf : fX11_pay M a1 a2 = some (r, M')) : x_cI l g 1 yX11_pay cX11_pay 4 .int 2 43 [.ref (g.2.2.1 0), .int a1, .int a2] M (fun v N => v = r ∧ N = M') := by
  refine x_stI RX11 (by decide) rfl (Nat.le_of_ble_eq_true rfl) ?_
  intro p e s m args below meth c Q ls C hw ret hl
  obtain ⟨hx, hb, hml, hown, hB, -⟩ := id C
  have hl : lv_has ls 4 [(0, .ref (g.2.2.1 0)), (1, .int a1), (2, .int a2)] := hl
  unfold fX11_pay at hf
  refine lv_aload_n hx hb dX11_pay_0 rfl (lv_at hl 0 rfl) ?_
  refine lv_iload_n hx hb dX11_pay_1 rfl (lv_at hl 1 rfl) ?_
  obtain ⟨tv_3, tM_1, c_2, hf⟩ := x_bE hf
  refine x_vI C hw hl.1 [.int a1] [] (mX11_isJudgment l g c_2) lk_X11_221 ic1_0 (by decide) rfl (by decide) rfl (Nat.le_of_ble_eq_true rfl) ⟨Nat.zero_le _, Nat.zero_le _⟩ dX11_pay_2 (fun v_3 M_1 H locs hN hw => ?_)
  obtain ⟨rfl, rfl⟩ := hN
  refine lv_if_eq (tgt := 18) hx hb dX11_pay_5 (by decide) (fun q_4 => ?_) (fun q_4 => ?_)
  · have hf := x_iP hf q_4
    refine lv_ldc hx hb hown (hB _ mk_X11_60) dX11_pay_18 ?_
    exact ret hf dX11_pay_20 hw
  · have hf := x_iN hf q_4
    refine lv_iload_n hx hb dX11_pay_8 rfl (lv_at hl 2 rfl) ?_
    refine lv_iconst (v := (1 : Int32)) hx hb dX11_pay_9 (by decide) ?_
    refine lv_ldc hx hb hown (hB _ mk_X11_220) dX11_pay_10 ?_
    obtain ⟨tv_7, tM_5, c_6, hf⟩ := x_bE hf
    refine x_sI C hw hl.1 [.int a2, .int (1 : Int32), .int (9999999 : Int32)] [] (mX11_in l g c_6) lk_X11_56 (by decide) rfl (Nat.le_of_ble_eq_true rfl) ⟨Nat.zero_le _, Nat.zero_le _⟩ dX11_pay_12 (fun v_7 M_5 H locs hN hw => ?_)
    obtain ⟨rfl, rfl⟩ := hN
    refine lv_if_ne (tgt := 21) hx hb dX11_pay_15 (by decide) (fun q_8 => ?_) (fun q_8 => ?_)
    · have hf := x_iN hf q_8
      refine lv_aload_n hx hb dX11_pay_21 rfl (lv_at hl 0 rfl) ?_
      refine lv_iload_n hx hb dX11_pay_22 rfl (lv_at hl 1 rfl) ?_
      obtain ⟨tv_11, tM_9, c_10, hf⟩ := x_bE hf
      refine x_vI C hw hl.1 [.int a1] [] (mX11_isTurned l g c_10) lk_X11_236 ic1_0 (by decide) rfl (by decide) rfl (Nat.le_of_ble_eq_true rfl) ⟨Nat.zero_le _, Nat.zero_le _⟩ dX11_pay_23 (fun v_11 M_9 H locs hN hw => ?_)
      obtain ⟨rfl, rfl⟩ := hN
      refine lv_if_eq (tgt := 32) hx hb dX11_pay_26 (by decide) (fun q_12 => ?_) (fun q_12 => ?_)
      · have hf := x_iP hf q_12
        refine lv_iload_n hx hb dX11_pay_32 rfl (lv_at hl 2 rfl) ?_
        refine lv_aload_n hx hb dX11_pay_33 rfl (lv_at hl 0 rfl) ?_
        refine lv_iload_n hx hb dX11_pay_34 rfl (lv_at hl 1 rfl) ?_
        obtain ⟨tv_15, tM_13, c_14, hf⟩ := x_bE hf
        refine x_vI C hw hl.1 [.int a1] [.int a2] (mX11_unpaid l g c_14) lk_X11_210 ic1_0 (by decide) rfl (by decide) rfl (Nat.le_of_ble_eq_true rfl) ⟨Nat.zero_le _, Nat.zero_le _⟩ dX11_pay_35 (fun v_15 M_13 H locs hN hw => ?_)
        obtain ⟨rfl, rfl⟩ := hN
        obtain ⟨tv_18, tM_16, c_17, hf⟩ := x_bE hf
        refine x_sI C hw hl.1 [.int a2, .int v_15] [] (mX11_less l g c_17) lk_X11_195 (by decide) rfl (Nat.le_of_ble_eq_true rfl) ⟨Nat.zero_le _, Nat.zero_le _⟩ dX11_pay_38 (fun v_18 M_16 H locs hN hw => ?_)
        obtain ⟨rfl, rfl⟩ := hN
        refine lv_istore_n (lv' := [(3, .int v_18), (0, .ref (g.2.2.1 0)), (1, .int a1), (2, .int a2)]) hx hb dX11_pay_41 rfl hl (by decide) rfl (fun ls hl => ?_)
        refine lv_aload_n hx hb dX11_pay_42 rfl (lv_at hl 1 rfl) ?_
        refine fg_X11_7 (k2 := 1) C hw ic1_0 rfl dX11_pay_43 ?_
        refine lv_sipush (v := (792 : Int32)) hx hb dX11_pay_46 (by decide) ?_
        refine lv_bipush (v := (10 : Int32)) hx hb dX11_pay_49 (by decide) ?_
        refine lv_iload_n hx hb dX11_pay_51 rfl (lv_at hl 2 rfl) ?_
        refine lv_imul hx hb dX11_pay_52 ?_
        refine lv_iadd hx hb dX11_pay_53 ?_
        refine lv_iconst (v := (4 : Int32)) hx hb dX11_pay_54 (by decide) ?_
        refine lv_iadd hx hb dX11_pay_55 ?_
        refine lv_dup2_11 hx hb dX11_pay_56 rfl rfl ?_
        obtain ⟨q_19, hf⟩ := x_gE hf
        refine x_ald C hw ic1_1 q_19 rfl dX11_pay_57 ?_
        refine lv_iload_n hx hb dX11_pay_58 rfl (lv_at hl 0 rfl) ?_
        refine lv_iadd hx hb dX11_pay_59 ?_
        obtain ⟨q_20, hf⟩ := x_gE hf
        refine x_ast C hw ic1_1 q_20 rfl dX11_pay_60 (fun H locs hw => ?_)
        obtain ⟨M_21, eM_21⟩ : ∃ z, z = (x_up M_16 1 (((792 : Int32) + ((10 : Int32) * a1)) + (4 : Int32)).toNatClampNeg ((M_16 1 (((792 : Int32) + ((10 : Int32) * a1)) + (4 : Int32)).toNatClampNeg) + v_18)) := ⟨_, rfl⟩
        rw [← eM_21] at hw
        have hf := x_lE eM_21 hf
        refine lv_iload_n hx hb dX11_pay_61 rfl (lv_at hl 3 rfl) ?_
        refine lv_iload_n hx hb dX11_pay_62 rfl (lv_at hl 0 rfl) ?_
        refine lv_isub hx hb dX11_pay_63 ?_
        exact ret hf dX11_pay_64 hw
      · have hf := x_iN hf q_12
        refine lv_ldc hx hb hown (hB _ mk_X11_69) dX11_pay_29 ?_
        exact ret hf dX11_pay_31 hw
    · have hf := x_iP hf q_8
      refine lv_ldc hx hb hown (hB _ mk_X11_60) dX11_pay_18 ?_
      exact ret hf dX11_pay_20 hw
noncomputable def fX11_back (M : xM) (a1 : Int32) : Option (Int32 × xM) := x_b (fX11_isJudgment M a1) fun v_3 M_1 => if v_3 = 0 then (some ((-1000000001 : Int32), M_1)) else (x_l ((792 : Int32) + ((10 : Int32) * a1)) fun x2_5 => x_g (x2_5 + (4 : Int32)) 1675 (x_b (fX11_fine M_1 a1) fun v_9 M_7 => x_l ((M_1 1 (x2_5 + (4 : Int32)).toNatClampNeg) - v_9) fun x3_10 => if 0 < x3_10 then (x_b (fX11_fine M_7 a1) fun v_14 M_12 => x_g (x2_5 + (4 : Int32)) 1675 (x_l (x_up M_12 1 (x2_5 + (4 : Int32)).toNatClampNeg v_14) fun M_16 => x_g (x2_5 + (1 : Int32)) 1675 (some ((x3_10 + (((((x3_10.toInt64) * ((M_16 1 11).toInt64)) * (((M_16 1 0) - (M_16 1 (x2_5 + (1 : Int32)).toNatClampNeg)).toInt64)) / (36500 : Int64)).toInt32)), M_16)))) else (some ((-1000000002 : Int32), M_7))))
set_option maxRecDepth 100000 in
set_option maxHeartbeats 4000000 in
theorem mX11_back (l : Launch) (g : xG) {a1 : Int32} {r : Int32} {M' : xM}  {M : xM} (hf : fX11_back M a1 = some (r, M')) : x_cI l g 1 yX11_back cX11_back 4 .int 2 43 [.ref (g.2.2.1 0), .int a1] M (fun v N => v = r ∧ N = M') := by
  refine x_stI RX11 (by decide) rfl (Nat.le_of_ble_eq_true rfl) ?_
  intro p e s m args below meth c Q ls C hw ret hl
  obtain ⟨hx, hb, hml, hown, hB, -⟩ := id C
  have hl : lv_has ls 4 [(0, .ref (g.2.2.1 0)), (1, .int a1)] := hl
  unfold fX11_back at hf
  refine lv_aload_n hx hb dX11_back_0 rfl (lv_at hl 0 rfl) ?_
  refine lv_iload_n hx hb dX11_back_1 rfl (lv_at hl 1 rfl) ?_
  obtain ⟨tv_3, tM_1, c_2, hf⟩ := x_bE hf
  refine x_vI C hw hl.1 [.int a1] [] (mX11_isJudgment l g c_2) lk_X11_221 ic1_0 (by decide) rfl (by decide) rfl (Nat.le_of_ble_eq_true rfl) ⟨Nat.zero_le _, Nat.zero_le _⟩ dX11_back_2 (fun v_3 M_1 H locs hN hw => ?_)
  obtain ⟨rfl, rfl⟩ := hN
  refine lv_if_ne (tgt := 11) hx hb dX11_back_5 (by decide) (fun q_4 => ?_) (fun q_4 => ?_)
  · have hf := x_iN hf q_4
    refine lv_sipush (v := (792 : Int32)) hx hb dX11_back_11 (by decide) ?_
    refine lv_bipush (v := (10 : Int32)) hx hb dX11_back_14 (by decide) ?_
    refine lv_iload_n hx hb dX11_back_16 rfl (lv_at hl 1 rfl) ?_
    refine lv_imul hx hb dX11_back_17 ?_
    refine lv_iadd hx hb dX11_back_18 ?_
    refine lv_topi (fun x2_5 ex2_5 => ?_)
    have hf := x_lE ex2_5 hf
    refine lv_istore_n (lv' := [(2, .int x2_5), (0, .ref (g.2.2.1 0)), (1, .int a1)]) hx hb dX11_back_19 rfl hl (by decide) rfl (fun ls hl => ?_)
    refine lv_aload_n hx hb dX11_back_20 rfl (lv_at hl 1 rfl) ?_
    refine fg_X11_7 (k2 := 1) C hw ic1_0 rfl dX11_back_21 ?_
    refine lv_iload_n hx hb dX11_back_24 rfl (lv_at hl 0 rfl) ?_
    refine lv_iconst (v := (4 : Int32)) hx hb dX11_back_25 (by decide) ?_
    refine lv_iadd hx hb dX11_back_26 ?_
    obtain ⟨q_6, hf⟩ := x_gE hf
    refine x_ald C hw ic1_1 q_6 rfl dX11_back_27 ?_
    refine lv_aload_n hx hb dX11_back_28 rfl (lv_at hl 1 rfl) ?_
    refine lv_iload_n hx hb dX11_back_29 rfl (lv_at hl 2 rfl) ?_
    obtain ⟨tv_9, tM_7, c_8, hf⟩ := x_bE hf
    refine x_vI C hw hl.1 [.int a1] [.int (M_1 1 (x2_5 + (4 : Int32)).toNatClampNeg)] (mX11_fine l g c_8) lk_X11_207 ic1_0 (by decide) rfl (by decide) rfl (Nat.le_of_ble_eq_true rfl) ⟨Nat.zero_le _, Nat.zero_le _⟩ dX11_back_30 (fun v_9 M_7 H locs hN hw => ?_)
    obtain ⟨rfl, rfl⟩ := hN
    refine lv_isub hx hb dX11_back_33 ?_
    refine lv_topi (fun x3_10 ex3_10 => ?_)
    have hf := x_lE ex3_10 hf
    refine lv_istore_n (lv' := [(3, .int x3_10), (2, .int x2_5), (0, .ref (g.2.2.1 0)), (1, .int a1)]) hx hb dX11_back_34 rfl hl (by decide) rfl (fun ls hl => ?_)
    refine lv_iload_n hx hb dX11_back_35 rfl (lv_at hl 0 rfl) ?_
    refine lv_if_gt (tgt := 42) hx hb dX11_back_36 (by decide) (fun q_11 => ?_) (fun q_11 => ?_)
    · have hf := x_iP hf q_11
      refine lv_aload_n hx hb dX11_back_42 rfl (lv_at hl 2 rfl) ?_
      refine fg_X11_7 (k2 := 1) C hw ic1_0 rfl dX11_back_43 ?_
      refine lv_iload_n hx hb dX11_back_46 rfl (lv_at hl 1 rfl) ?_
      refine lv_iconst (v := (4 : Int32)) hx hb dX11_back_47 (by decide) ?_
      refine lv_iadd hx hb dX11_back_48 ?_
      refine lv_aload_n hx hb dX11_back_49 rfl (lv_at hl 2 rfl) ?_
      refine lv_iload_n hx hb dX11_back_50 rfl (lv_at hl 3 rfl) ?_
      obtain ⟨tv_14, tM_12, c_13, hf⟩ := x_bE hf
      refine x_vI C hw hl.1 [.int a1] [.int (x2_5 + (4 : Int32)), .ref (g.2.2.1 1)] (mX11_fine l g c_13) lk_X11_207 ic1_0 (by decide) rfl (by decide) rfl (Nat.le_of_ble_eq_true rfl) ⟨Nat.zero_le _, Nat.zero_le _⟩ dX11_back_51 (fun v_14 M_12 H locs hN hw => ?_)
      obtain ⟨rfl, rfl⟩ := hN
      obtain ⟨q_15, hf⟩ := x_gE hf
      refine x_ast C hw ic1_1 q_15 rfl dX11_back_54 (fun H locs hw => ?_)
      obtain ⟨M_16, eM_16⟩ : ∃ z, z = (x_up M_12 1 (x2_5 + (4 : Int32)).toNatClampNeg v_14) := ⟨_, rfl⟩
      rw [← eM_16] at hw
      have hf := x_lE eM_16 hf
      refine lv_iload_n hx hb dX11_back_55 rfl (lv_at hl 0 rfl) ?_
      refine lv_iload_n hx hb dX11_back_56 rfl (lv_at hl 0 rfl) ?_
      refine lv_i2l hx hb dX11_back_57 rfl ?_
      refine lv_aload_n hx hb dX11_back_58 rfl (lv_at hl 2 rfl) ?_
      refine fg_X11_7 (k2 := 1) C hw ic1_0 rfl dX11_back_59 ?_
      refine lv_bipush (v := (11 : Int32)) hx hb dX11_back_62 (by decide) ?_
      refine x_ald (j := 11) C hw ic1_1 (x_inl rfl) rfl dX11_back_64 ?_
      refine lv_i2l hx hb dX11_back_65 rfl ?_
      refine lv_lmul hx hb dX11_back_66 ?_
      refine lv_aload_n hx hb dX11_back_67 rfl (lv_at hl 2 rfl) ?_
      refine fg_X11_7 (k2 := 1) C hw ic1_0 rfl dX11_back_68 ?_
      refine lv_iconst (v := (0 : Int32)) hx hb dX11_back_71 (by decide) ?_
      refine x_ald (j := 0) C hw ic1_1 (x_inl rfl) rfl dX11_back_72 ?_
      refine lv_aload_n hx hb dX11_back_73 rfl (lv_at hl 2 rfl) ?_
      refine fg_X11_7 (k2 := 1) C hw ic1_0 rfl dX11_back_74 ?_
      refine lv_iload_n hx hb dX11_back_77 rfl (lv_at hl 1 rfl) ?_
      refine lv_iconst (v := (1 : Int32)) hx hb dX11_back_78 (by decide) ?_
      refine lv_iadd hx hb dX11_back_79 ?_
      obtain ⟨q_19, hf⟩ := x_gE hf
      refine x_ald C hw ic1_1 q_19 rfl dX11_back_80 ?_
      refine lv_isub hx hb dX11_back_81 ?_
      refine lv_i2l hx hb dX11_back_82 rfl ?_
      refine lv_lmul hx hb dX11_back_83 ?_
      refine lv_ldc2 hx hb hown (hB _ mkl_X11_239) dX11_back_84 ?_
      refine lv_ldiv hx hb dX11_back_87 (by decide) ?_
      refine lv_l2i hx hb dX11_back_88 rfl ?_
      refine lv_iadd hx hb dX11_back_89 ?_
      exact ret hf dX11_back_90 hw
    · have hf := x_iN hf q_11
      refine lv_ldc hx hb hown (hB _ mk_X11_69) dX11_back_39 ?_
      exact ret hf dX11_back_41 hw
  · have hf := x_iP hf q_4
    refine lv_ldc hx hb hown (hB _ mk_X11_60) dX11_back_8 ?_
    exact ret hf dX11_back_10 hw
noncomputable def fX11_step (M : xM) (a1 : Int32) : Option (Int32 × xM) := x_b (fX11_isJudgment M a1) fun v_3 M_1 => if v_3 = 0 then (some ((-1000000001 : Int32), M_1)) else (x_l ((792 : Int32) + ((10 : Int32) * a1)) fun x2_5 => x_b (fX11_isTurned M_1 a1) fun v_8 M_6 => if v_8 = 0 then (x_b (fX11_unpaid M_6 a1) fun v_12 M_10 => if v_12 = 0 then (some ((-1000000002 : Int32), M_10)) else (x_g (x2_5 + (6 : Int32)) 1675 (if ((M_10 1 0) - (M_10 1 (x2_5 + (6 : Int32)).toNatClampNeg)) < (M_10 1 12) then (some ((-1000000002 : Int32), M_10)) else (x_g (x2_5 + (5 : Int32)) 1675 (x_l (fun (M_20 : xM) => x_g (x2_5 + (5 : Int32)) 1675 (x_g (x2_5 + (5 : Int32)) 1675 (x_l (x_up M_20 1 (x2_5 + (5 : Int32)).toNatClampNeg ((M_20 1 (x2_5 + (5 : Int32)).toNatClampNeg) + (1 : Int32))) fun M_23 => x_g (x2_5 + (6 : Int32)) 1675 (x_l (x_up M_23 1 (x2_5 + (6 : Int32)).toNatClampNeg (M_23 1 0)) fun M_26 => x_b (fX11_isTurned M_26 a1) fun v_29 M_27 => x_l (fun (M_31 : xM) => x_g (x2_5 + (5 : Int32)) 1675 (some ((M_31 1 (x2_5 + (5 : Int32)).toNatClampNeg), M_31))) fun k183_30 => if v_29 = 0 then (k183_30 M_27) else (x_b (fX11_unpaidDays M_27 a1) fun v_36 M_34 => x_l (x_up M_34 7 117 v_36) fun M_38 => x_g x2_5 1675 (x_b (fX11_isYoung M_38 (M_38 1 x2_5.toNatClampNeg)) fun v_42 M_40 => x_l (fun (M_45 : xM) (z_43 : Int32) => x_l (x_up M_45 7 121 z_43) fun M_47 => x_b (fX11_worked M_47 (2 : Int32)) fun v_50 M_48 => x_b (fX11_more M_48 v_50 (0 : Int32)) fun v_53 M_51 => x_b (fX11_less M_51 v_53 (9999 : Int32)) fun v_56 M_54 => x_g (x2_5 + (7 : Int32)) 1675 (x_l (x_up M_54 1 (x2_5 + (7 : Int32)).toNatClampNeg v_56) fun M_58 => k183_30 M_58)) fun k158_44 => if v_42 = 0 then (k158_44 M_40 (0 : Int32)) else (k158_44 M_40 (1 : Int32)))))))) fun k87_19 => if (M_10 1 (x2_5 + (5 : Int32)).toNatClampNeg) = (2 : Int32) then (if (M_10 1 21) = 0 then (some ((-1000000002 : Int32), M_10)) else (k87_19 M_10)) else (k87_19 M_10)))))) else (some ((-1000000002 : Int32), M_6)))
set_option maxRecDepth 100000 in
set_option maxHeartbeats 4000000 in
theorem mX11_step (l : Launch) (g : xG) {a1 : Int32} {r : Int32} {M' : xM}  {M : xM} (hf : fX11_step M a1 = some (r, M')) : x_cI l g 1 yX11_step cX11_step 3 .int 3 64 [.ref (g.2.2.1 0), .int a1] M (fun v N => v = r ∧ N = M') := by
  refine x_stI RX11 (by decide) rfl (Nat.le_of_ble_eq_true rfl) ?_
  intro p e s m args below meth c Q ls C hw ret hl
  obtain ⟨hx, hb, hml, hown, hB, -⟩ := id C
  have hl : lv_has ls 3 [(0, .ref (g.2.2.1 0)), (1, .int a1)] := hl
  unfold fX11_step at hf
  refine lv_aload_n hx hb dX11_step_0 rfl (lv_at hl 0 rfl) ?_
  refine lv_iload_n hx hb dX11_step_1 rfl (lv_at hl 1 rfl) ?_
  obtain ⟨tv_3, tM_1, c_2, hf⟩ := x_bE hf
  refine x_vI C hw hl.1 [.int a1] [] (mX11_isJudgment l g c_2) lk_X11_221 ic1_0 (by decide) rfl (by decide) rfl (Nat.le_of_ble_eq_true rfl) ⟨Nat.zero_le _, Nat.zero_le _⟩ dX11_step_2 (fun v_3 M_1 H locs hN hw => ?_)
  obtain ⟨rfl, rfl⟩ := hN
  refine lv_if_ne (tgt := 11) hx hb dX11_step_5 (by decide) (fun q_4 => ?_) (fun q_4 => ?_)
  · have hf := x_iN hf q_4
    refine lv_sipush (v := (792 : Int32)) hx hb dX11_step_11 (by decide) ?_
    refine lv_bipush (v := (10 : Int32)) hx hb dX11_step_14 (by decide) ?_
    refine lv_iload_n hx hb dX11_step_16 rfl (lv_at hl 1 rfl) ?_
    refine lv_imul hx hb dX11_step_17 ?_
    refine lv_iadd hx hb dX11_step_18 ?_
    refine lv_topi (fun x2_5 ex2_5 => ?_)
    have hf := x_lE ex2_5 hf
    refine lv_istore_n (lv' := [(2, .int x2_5), (0, .ref (g.2.2.1 0)), (1, .int a1)]) hx hb dX11_step_19 rfl hl (by decide) rfl (fun ls hl => ?_)
    refine lv_aload_n hx hb dX11_step_20 rfl (lv_at hl 1 rfl) ?_
    refine lv_iload_n hx hb dX11_step_21 rfl (lv_at hl 2 rfl) ?_
    obtain ⟨tv_8, tM_6, c_7, hf⟩ := x_bE hf
    refine x_vI C hw hl.1 [.int a1] [] (mX11_isTurned l g c_7) lk_X11_236 ic1_0 (by decide) rfl (by decide) rfl (Nat.le_of_ble_eq_true rfl) ⟨Nat.zero_le _, Nat.zero_le _⟩ dX11_step_22 (fun v_8 M_6 H locs hN hw => ?_)
    obtain ⟨rfl, rfl⟩ := hN
    refine lv_if_ne (tgt := 84) hx hb dX11_step_25 (by decide) (fun q_9 => ?_) (fun q_9 => ?_)
    · have hf := x_iN hf q_9
      refine lv_ldc hx hb hown (hB _ mk_X11_69) dX11_step_84 ?_
      exact ret hf dX11_step_86 hw
    · have hf := x_iP hf q_9
      refine lv_aload_n hx hb dX11_step_28 rfl (lv_at hl 1 rfl) ?_
      refine lv_iload_n hx hb dX11_step_29 rfl (lv_at hl 2 rfl) ?_
      obtain ⟨tv_12, tM_10, c_11, hf⟩ := x_bE hf
      refine x_vI C hw hl.1 [.int a1] [] (mX11_unpaid l g c_11) lk_X11_210 ic1_0 (by decide) rfl (by decide) rfl (Nat.le_of_ble_eq_true rfl) ⟨Nat.zero_le _, Nat.zero_le _⟩ dX11_step_30 (fun v_12 M_10 H locs hN hw => ?_)
      obtain ⟨rfl, rfl⟩ := hN
      refine lv_if_eq (tgt := 84) hx hb dX11_step_33 (by decide) (fun q_13 => ?_) (fun q_13 => ?_)
      · have hf := x_iP hf q_13
        refine lv_ldc hx hb hown (hB _ mk_X11_69) dX11_step_84 ?_
        exact ret hf dX11_step_86 hw
      · have hf := x_iN hf q_13
        refine lv_aload_n hx hb dX11_step_36 rfl (lv_at hl 1 rfl) ?_
        refine fg_X11_7 (k2 := 1) C hw ic1_0 rfl dX11_step_37 ?_
        refine lv_iconst (v := (0 : Int32)) hx hb dX11_step_40 (by decide) ?_
        refine x_ald (j := 0) C hw ic1_1 (x_inl rfl) rfl dX11_step_41 ?_
        refine lv_aload_n hx hb dX11_step_42 rfl (lv_at hl 1 rfl) ?_
        refine fg_X11_7 (k2 := 1) C hw ic1_0 rfl dX11_step_43 ?_
        refine lv_iload_n hx hb dX11_step_46 rfl (lv_at hl 0 rfl) ?_
        refine lv_bipush (v := (6 : Int32)) hx hb dX11_step_47 (by decide) ?_
        refine lv_iadd hx hb dX11_step_49 ?_
        obtain ⟨q_15, hf⟩ := x_gE hf
        refine x_ald C hw ic1_1 q_15 rfl dX11_step_50 ?_
        refine lv_isub hx hb dX11_step_51 ?_
        refine lv_aload_n hx hb dX11_step_52 rfl (lv_at hl 1 rfl) ?_
        refine fg_X11_7 (k2 := 1) C hw ic1_0 rfl dX11_step_53 ?_
        refine lv_bipush (v := (12 : Int32)) hx hb dX11_step_56 (by decide) ?_
        refine x_ald (j := 12) C hw ic1_1 (x_inl rfl) rfl dX11_step_58 ?_
        refine lv_icmp_lt (tgt := 84) hx hb dX11_step_59 (by decide) (fun q_17 => ?_) (fun q_17 => ?_)
        · have hf := x_iP hf q_17
          refine lv_ldc hx hb hown (hB _ mk_X11_69) dX11_step_84 ?_
          exact ret hf dX11_step_86 hw
        · have hf := x_iN hf q_17
          refine lv_aload_n hx hb dX11_step_62 rfl (lv_at hl 1 rfl) ?_
          refine fg_X11_7 (k2 := 1) C hw ic1_0 rfl dX11_step_63 ?_
          refine lv_iload_n hx hb dX11_step_66 rfl (lv_at hl 0 rfl) ?_
          refine lv_iconst (v := (5 : Int32)) hx hb dX11_step_67 (by decide) ?_
          refine lv_iadd hx hb dX11_step_68 ?_
          obtain ⟨q_18, hf⟩ := x_gE hf
          refine x_ald C hw ic1_1 q_18 rfl dX11_step_69 ?_
          refine lv_iconst (v := (2 : Int32)) hx hb dX11_step_70 (by decide) ?_
          obtain ⟨k87_19, ek87_19, hf⟩ := x_jE hf
          have hk87_19 : ∀ (H : Heap) (locs : List Loc) (M_20 : xM)  (ls : Array Slot) , lv_has ls 3 [(2, .int x2_5), (0, .ref (g.2.2.1 0)), (1, .int a1)] → x_w g 1 s H locs M_20 → k87_19 M_20 = some (r, M') → W p l e (x_rm 3 64) s m args below meth c H locs 0 0 Q (F0 m 87 ls []) := by
            intro H locs M_20  ls  hl hw hf
            rw [ek87_19] at hf
            refine lv_aload_n hx hb dX11_step_87 rfl (lv_at hl 1 rfl) ?_
            refine fg_X11_7 (k2 := 1) C hw ic1_0 rfl dX11_step_88 ?_
            refine lv_iload_n hx hb dX11_step_91 rfl (lv_at hl 0 rfl) ?_
            refine lv_iconst (v := (5 : Int32)) hx hb dX11_step_92 (by decide) ?_
            refine lv_iadd hx hb dX11_step_93 ?_
            refine lv_dup2_11 hx hb dX11_step_94 rfl rfl ?_
            obtain ⟨q_21, hf⟩ := x_gE hf
            refine x_ald C hw ic1_1 q_21 rfl dX11_step_95 ?_
            refine lv_iconst (v := (1 : Int32)) hx hb dX11_step_96 (by decide) ?_
            refine lv_iadd hx hb dX11_step_97 ?_
            obtain ⟨q_22, hf⟩ := x_gE hf
            refine x_ast C hw ic1_1 q_22 rfl dX11_step_98 (fun H locs hw => ?_)
            obtain ⟨M_23, eM_23⟩ : ∃ z, z = (x_up M_20 1 (x2_5 + (5 : Int32)).toNatClampNeg ((M_20 1 (x2_5 + (5 : Int32)).toNatClampNeg) + (1 : Int32))) := ⟨_, rfl⟩
            rw [← eM_23] at hw
            have hf := x_lE eM_23 hf
            refine lv_aload_n hx hb dX11_step_99 rfl (lv_at hl 1 rfl) ?_
            refine fg_X11_7 (k2 := 1) C hw ic1_0 rfl dX11_step_100 ?_
            refine lv_iload_n hx hb dX11_step_103 rfl (lv_at hl 0 rfl) ?_
            refine lv_bipush (v := (6 : Int32)) hx hb dX11_step_104 (by decide) ?_
            refine lv_iadd hx hb dX11_step_106 ?_
            refine lv_aload_n hx hb dX11_step_107 rfl (lv_at hl 1 rfl) ?_
            refine fg_X11_7 (k2 := 1) C hw ic1_0 rfl dX11_step_108 ?_
            refine lv_iconst (v := (0 : Int32)) hx hb dX11_step_111 (by decide) ?_
            refine x_ald (j := 0) C hw ic1_1 (x_inl rfl) rfl dX11_step_112 ?_
            obtain ⟨q_25, hf⟩ := x_gE hf
            refine x_ast C hw ic1_1 q_25 rfl dX11_step_113 (fun H locs hw => ?_)
            obtain ⟨M_26, eM_26⟩ : ∃ z, z = (x_up M_23 1 (x2_5 + (6 : Int32)).toNatClampNeg (M_23 1 0)) := ⟨_, rfl⟩
            rw [← eM_26] at hw
            have hf := x_lE eM_26 hf
            refine lv_aload_n hx hb dX11_step_114 rfl (lv_at hl 1 rfl) ?_
            refine lv_iload_n hx hb dX11_step_115 rfl (lv_at hl 2 rfl) ?_
            obtain ⟨tv_29, tM_27, c_28, hf⟩ := x_bE hf
            refine x_vI C hw hl.1 [.int a1] [] (mX11_isTurned l g c_28) lk_X11_236 ic1_0 (by decide) rfl (by decide) rfl (Nat.le_of_ble_eq_true rfl) ⟨Nat.zero_le _, Nat.zero_le _⟩ dX11_step_116 (fun v_29 M_27 H locs hN hw => ?_)
            obtain ⟨rfl, rfl⟩ := hN
            obtain ⟨k183_30, ek183_30, hf⟩ := x_jE hf
            have hk183_30 : ∀ (H : Heap) (locs : List Loc) (M_31 : xM)  (ls : Array Slot) , lv_has ls 3 [(2, .int x2_5), (0, .ref (g.2.2.1 0))] → x_w g 1 s H locs M_31 → k183_30 M_31 = some (r, M') → W p l e (x_rm 3 64) s m args below meth c H locs 0 0 Q (F0 m 183 ls []) := by
              intro H locs M_31  ls  hl hw hf
              rw [ek183_30] at hf
              refine lv_aload_n hx hb dX11_step_183 rfl (lv_at hl 1 rfl) ?_
              refine fg_X11_7 (k2 := 1) C hw ic1_0 rfl dX11_step_184 ?_
              refine lv_iload_n hx hb dX11_step_187 rfl (lv_at hl 0 rfl) ?_
              refine lv_iconst (v := (5 : Int32)) hx hb dX11_step_188 (by decide) ?_
              refine lv_iadd hx hb dX11_step_189 ?_
              obtain ⟨q_32, hf⟩ := x_gE hf
              refine x_ald C hw ic1_1 q_32 rfl dX11_step_190 ?_
              exact ret hf dX11_step_191 hw
            refine lv_if_eq (tgt := 183) hx hb dX11_step_119 (by decide) (fun q_33 => ?_) (fun q_33 => ?_)
            · have hf := x_iP hf q_33
              exact hk183_30 _ _ _ _ (lv_sub hl [0, 1] rfl) hw hf
            · have hf := x_iN hf q_33
              refine lv_aload_n hx hb dX11_step_122 rfl (lv_at hl 1 rfl) ?_
              refine fg_X11_28 (k2 := 7) C hw ic1_0 rfl dX11_step_123 ?_
              refine lv_bipush (v := (117 : Int32)) hx hb dX11_step_126 (by decide) ?_
              refine lv_aload_n hx hb dX11_step_128 rfl (lv_at hl 1 rfl) ?_
              refine lv_iload_n hx hb dX11_step_129 rfl (lv_at hl 2 rfl) ?_
              obtain ⟨tv_36, tM_34, c_35, hf⟩ := x_bE hf
              refine x_vI C hw hl.1 [.int a1] [.int (117 : Int32), .ref (g.2.2.1 7)] (mX11_unpaidDays l g c_35) lk_X11_224 ic1_0 (by decide) rfl (by decide) rfl (Nat.le_of_ble_eq_true rfl) ⟨Nat.zero_le _, Nat.zero_le _⟩ dX11_step_130 (fun v_36 M_34 H locs hN hw => ?_)
              obtain ⟨rfl, rfl⟩ := hN
              refine x_ast (j := 117) C hw ic1_7 (x_inl rfl) rfl dX11_step_133 (fun H locs hw => ?_)
              obtain ⟨M_38, eM_38⟩ : ∃ z, z = (x_up M_34 7 117 v_36) := ⟨_, rfl⟩
              rw [← eM_38] at hw
              have hf := x_lE eM_38 hf
              refine lv_aload_n hx hb dX11_step_134 rfl (lv_at hl 1 rfl) ?_
              refine fg_X11_28 (k2 := 7) C hw ic1_0 rfl dX11_step_135 ?_
              refine lv_bipush (v := (121 : Int32)) hx hb dX11_step_138 (by decide) ?_
              refine lv_aload_n hx hb dX11_step_140 rfl (lv_at hl 1 rfl) ?_
              refine lv_aload_n hx hb dX11_step_141 rfl (lv_at hl 1 rfl) ?_
              refine fg_X11_7 (k2 := 1) C hw ic1_0 rfl dX11_step_142 ?_
              refine lv_iload_n hx hb dX11_step_145 rfl (lv_at hl 0 rfl) ?_
              obtain ⟨q_39, hf⟩ := x_gE hf
              refine x_ald C hw ic1_1 q_39 rfl dX11_step_146 ?_
              obtain ⟨tv_42, tM_40, c_41, hf⟩ := x_bE hf
              refine x_vI C hw hl.1 [.int (M_38 1 x2_5.toNatClampNeg)] [.int (121 : Int32), .ref (g.2.2.1 7)] (mX11_isYoung l g c_41) lk_X11_66 ic1_0 (by decide) rfl (by decide) rfl (Nat.le_of_ble_eq_true rfl) ⟨Nat.zero_le _, Nat.zero_le _⟩ dX11_step_147 (fun v_42 M_40 H locs hN hw => ?_)
              obtain ⟨rfl, rfl⟩ := hN
              obtain ⟨k158_44, ek158_44, hf⟩ := x_jE hf
              have hk158_44 : ∀ (H : Heap) (locs : List Loc) (M_45 : xM) (z_43 : Int32) (ls : Array Slot) , lv_has ls 3 [(2, .int x2_5), (0, .ref (g.2.2.1 0))] → x_w g 1 s H locs M_45 → k158_44 M_45 z_43 = some (r, M') → W p l e (x_rm 3 64) s m args below meth c H locs 0 0 Q (F0 m 158 ls [.int z_43, .int (121 : Int32), .ref (g.2.2.1 7)]) := by
                intro H locs M_45 z_43 ls  hl hw hf
                rw [ek158_44] at hf
                refine x_ast (j := 121) C hw ic1_7 (x_inl rfl) rfl dX11_step_158 (fun H locs hw => ?_)
                obtain ⟨M_47, eM_47⟩ : ∃ z, z = (x_up M_45 7 121 z_43) := ⟨_, rfl⟩
                rw [← eM_47] at hw
                have hf := x_lE eM_47 hf
                refine lv_aload_n hx hb dX11_step_159 rfl (lv_at hl 1 rfl) ?_
                refine fg_X11_7 (k2 := 1) C hw ic1_0 rfl dX11_step_160 ?_
                refine lv_iload_n hx hb dX11_step_163 rfl (lv_at hl 0 rfl) ?_
                refine lv_bipush (v := (7 : Int32)) hx hb dX11_step_164 (by decide) ?_
                refine lv_iadd hx hb dX11_step_166 ?_
                refine lv_aload_n hx hb dX11_step_167 rfl (lv_at hl 1 rfl) ?_
                refine lv_iconst (v := (2 : Int32)) hx hb dX11_step_168 (by decide) ?_
                obtain ⟨tv_50, tM_48, c_49, hf⟩ := x_bE hf
                refine x_vI C hw hl.1 [.int (2 : Int32)] [.int (x2_5 + (7 : Int32)), .ref (g.2.2.1 1)] (mX11_worked l g c_49) lk_X11_192 ic1_0 (by decide) rfl (by decide) rfl (Nat.le_of_ble_eq_true rfl) ⟨Nat.zero_le _, Nat.zero_le _⟩ dX11_step_169 (fun v_50 M_48 H locs hN hw => ?_)
                obtain ⟨rfl, rfl⟩ := hN
                refine lv_iconst (v := (0 : Int32)) hx hb dX11_step_172 (by decide) ?_
                obtain ⟨tv_53, tM_51, c_52, hf⟩ := x_bE hf
                refine x_sI C hw hl.1 [.int v_50, .int (0 : Int32)] [.int (x2_5 + (7 : Int32)), .ref (g.2.2.1 1)] (mX11_more l g c_52) lk_X11_75 (by decide) rfl (Nat.le_of_ble_eq_true rfl) ⟨Nat.zero_le _, Nat.zero_le _⟩ dX11_step_173 (fun v_53 M_51 H locs hN hw => ?_)
                obtain ⟨rfl, rfl⟩ := hN
                refine lv_sipush (v := (9999 : Int32)) hx hb dX11_step_176 (by decide) ?_
                obtain ⟨tv_56, tM_54, c_55, hf⟩ := x_bE hf
                refine x_sI C hw hl.1 [.int v_53, .int (9999 : Int32)] [.int (x2_5 + (7 : Int32)), .ref (g.2.2.1 1)] (mX11_less l g c_55) lk_X11_195 (by decide) rfl (Nat.le_of_ble_eq_true rfl) ⟨Nat.zero_le _, Nat.zero_le _⟩ dX11_step_179 (fun v_56 M_54 H locs hN hw => ?_)
                obtain ⟨rfl, rfl⟩ := hN
                obtain ⟨q_57, hf⟩ := x_gE hf
                refine x_ast C hw ic1_1 q_57 rfl dX11_step_182 (fun H locs hw => ?_)
                obtain ⟨M_58, eM_58⟩ : ∃ z, z = (x_up M_54 1 (x2_5 + (7 : Int32)).toNatClampNeg v_56) := ⟨_, rfl⟩
                rw [← eM_58] at hw
                have hf := x_lE eM_58 hf
                exact hk183_30 _ _ _ _ (lv_sub hl [0, 1] rfl) hw hf
              refine lv_if_eq (tgt := 157) hx hb dX11_step_150 (by decide) (fun q_59 => ?_) (fun q_59 => ?_)
              · have hf := x_iP hf q_59
                refine lv_iconst (v := (0 : Int32)) hx hb dX11_step_157 (by decide) ?_
                exact hk158_44 _ _ _ _ _ (lv_sub hl [0, 1] rfl) hw hf
              · have hf := x_iN hf q_59
                refine lv_iconst (v := (1 : Int32)) hx hb dX11_step_153 (by decide) ?_
                refine lv_goto (tgt := 158) hx hb dX11_step_154 (by decide) ?_
                exact hk158_44 _ _ _ _ _ (lv_sub hl [0, 1] rfl) hw hf
          refine lv_icmp_ne (tgt := 87) hx hb dX11_step_71 (by decide) (fun q_60 => ?_) (fun q_60 => ?_)
          · have hf := x_iN hf q_60
            exact hk87_19 _ _ _ _ (lv_sub hl [0, 1, 2] rfl) hw hf
          · have hf := x_iP hf q_60
            refine lv_aload_n hx hb dX11_step_74 rfl (lv_at hl 1 rfl) ?_
            refine fg_X11_7 (k2 := 1) C hw ic1_0 rfl dX11_step_75 ?_
            refine lv_bipush (v := (21 : Int32)) hx hb dX11_step_78 (by decide) ?_
            refine x_ald (j := 21) C hw ic1_1 (x_inl rfl) rfl dX11_step_80 ?_
            refine lv_if_ne (tgt := 87) hx hb dX11_step_81 (by decide) (fun q_62 => ?_) (fun q_62 => ?_)
            · have hf := x_iN hf q_62
              exact hk87_19 _ _ _ _ (lv_sub hl [0, 1, 2] rfl) hw hf
            · have hf := x_iP hf q_62
              refine lv_ldc hx hb hown (hB _ mk_X11_69) dX11_step_84 ?_
              exact ret hf dX11_step_86 hw
  · have hf := x_iP hf q_4
    refine lv_ldc hx hb hown (hB _ mk_X11_60) dX11_step_8 ?_
    exact ret hf dX11_step_10 hw
noncomputable def fX11_work (M : xM) (a1 : Int32) (a2 : Int32) : Option (Int32 × xM) := x_b (fX11_isJudgment M a1) fun v_3 M_1 => if v_3 = 0 then (some ((-1000000001 : Int32), M_1)) else (x_b (fX11_in M_1 a2 (1 : Int32) (9999 : Int32)) fun v_7 M_5 => if v_7 = 0 then (some ((-1000000001 : Int32), M_5)) else (x_l (((792 : Int32) + ((10 : Int32) * a1)) + (7 : Int32)) fun x3_9 => x_b (fX11_isTurned M_5 a1) fun v_12 M_10 => if v_12 = 0 then (some ((-1000000002 : Int32), M_10)) else (x_g x3_9 1675 (if a2 ≤ (M_10 1 x3_9.toNatClampNeg) then (x_g x3_9 1675 (x_g x3_9 1675 (x_l (x_up M_10 1 x3_9.toNatClampNeg ((M_10 1 x3_9.toNatClampNeg) - a2)) fun M_18 => x_g x3_9 1675 (some ((M_18 1 x3_9.toNatClampNeg), M_18))))) else (some ((-1000000002 : Int32), M_10))))))
set_option maxRecDepth 100000 in
set_option maxHeartbeats 4000000 in
theorem mX11_work (l : Launch) (g : xG) {a1 : Int32} {a2 : Int32} {r : Int32} {M' : xM}  {M : xM} (hf : fX11_work M a1 a2 = some (r, M')) : x_cI l g 1 yX11_work cX11_work 4 .int 2 43 [.ref (g.2.2.1 0), .int a1, .int a2] M (fun v N => v = r ∧ N = M') := by
  refine x_stI RX11 (by decide) rfl (Nat.le_of_ble_eq_true rfl) ?_
  intro p e s m args below meth c Q ls C hw ret hl
  obtain ⟨hx, hb, hml, hown, hB, -⟩ := id C
  have hl : lv_has ls 4 [(0, .ref (g.2.2.1 0)), (1, .int a1), (2, .int a2)] := hl
  unfold fX11_work at hf
  refine lv_aload_n hx hb dX11_work_0 rfl (lv_at hl 0 rfl) ?_
  refine lv_iload_n hx hb dX11_work_1 rfl (lv_at hl 1 rfl) ?_
  obtain ⟨tv_3, tM_1, c_2, hf⟩ := x_bE hf
  refine x_vI C hw hl.1 [.int a1] [] (mX11_isJudgment l g c_2) lk_X11_221 ic1_0 (by decide) rfl (by decide) rfl (Nat.le_of_ble_eq_true rfl) ⟨Nat.zero_le _, Nat.zero_le _⟩ dX11_work_2 (fun v_3 M_1 H locs hN hw => ?_)
  obtain ⟨rfl, rfl⟩ := hN
  refine lv_if_eq (tgt := 19) hx hb dX11_work_5 (by decide) (fun q_4 => ?_) (fun q_4 => ?_)
  · have hf := x_iP hf q_4
    refine lv_ldc hx hb hown (hB _ mk_X11_60) dX11_work_19 ?_
    exact ret hf dX11_work_21 hw
  · have hf := x_iN hf q_4
    refine lv_iload_n hx hb dX11_work_8 rfl (lv_at hl 2 rfl) ?_
    refine lv_iconst (v := (1 : Int32)) hx hb dX11_work_9 (by decide) ?_
    refine lv_sipush (v := (9999 : Int32)) hx hb dX11_work_10 (by decide) ?_
    obtain ⟨tv_7, tM_5, c_6, hf⟩ := x_bE hf
    refine x_sI C hw hl.1 [.int a2, .int (1 : Int32), .int (9999 : Int32)] [] (mX11_in l g c_6) lk_X11_56 (by decide) rfl (Nat.le_of_ble_eq_true rfl) ⟨Nat.zero_le _, Nat.zero_le _⟩ dX11_work_13 (fun v_7 M_5 H locs hN hw => ?_)
    obtain ⟨rfl, rfl⟩ := hN
    refine lv_if_ne (tgt := 22) hx hb dX11_work_16 (by decide) (fun q_8 => ?_) (fun q_8 => ?_)
    · have hf := x_iN hf q_8
      refine lv_sipush (v := (792 : Int32)) hx hb dX11_work_22 (by decide) ?_
      refine lv_bipush (v := (10 : Int32)) hx hb dX11_work_25 (by decide) ?_
      refine lv_iload_n hx hb dX11_work_27 rfl (lv_at hl 1 rfl) ?_
      refine lv_imul hx hb dX11_work_28 ?_
      refine lv_iadd hx hb dX11_work_29 ?_
      refine lv_bipush (v := (7 : Int32)) hx hb dX11_work_30 (by decide) ?_
      refine lv_iadd hx hb dX11_work_32 ?_
      refine lv_topi (fun x3_9 ex3_9 => ?_)
      have hf := x_lE ex3_9 hf
      refine lv_istore_n (lv' := [(3, .int x3_9), (0, .ref (g.2.2.1 0)), (1, .int a1), (2, .int a2)]) hx hb dX11_work_33 rfl hl (by decide) rfl (fun ls hl => ?_)
      refine lv_aload_n hx hb dX11_work_34 rfl (lv_at hl 1 rfl) ?_
      refine lv_iload_n hx hb dX11_work_35 rfl (lv_at hl 2 rfl) ?_
      obtain ⟨tv_12, tM_10, c_11, hf⟩ := x_bE hf
      refine x_vI C hw hl.1 [.int a1] [] (mX11_isTurned l g c_11) lk_X11_236 ic1_0 (by decide) rfl (by decide) rfl (Nat.le_of_ble_eq_true rfl) ⟨Nat.zero_le _, Nat.zero_le _⟩ dX11_work_36 (fun v_12 M_10 H locs hN hw => ?_)
      obtain ⟨rfl, rfl⟩ := hN
      refine lv_if_eq (tgt := 52) hx hb dX11_work_39 (by decide) (fun q_13 => ?_) (fun q_13 => ?_)
      · have hf := x_iP hf q_13
        refine lv_ldc hx hb hown (hB _ mk_X11_69) dX11_work_52 ?_
        exact ret hf dX11_work_54 hw
      · have hf := x_iN hf q_13
        refine lv_aload_n hx hb dX11_work_42 rfl (lv_at hl 1 rfl) ?_
        refine fg_X11_7 (k2 := 1) C hw ic1_0 rfl dX11_work_43 ?_
        refine lv_iload_n hx hb dX11_work_46 rfl (lv_at hl 0 rfl) ?_
        obtain ⟨q_14, hf⟩ := x_gE hf
        refine x_ald C hw ic1_1 q_14 rfl dX11_work_47 ?_
        refine lv_iload_n hx hb dX11_work_48 rfl (lv_at hl 3 rfl) ?_
        refine lv_icmp_ge (tgt := 55) hx hb dX11_work_49 (by decide) (fun q_15 => ?_) (fun q_15 => ?_)
        · have hf := x_iP hf q_15
          refine lv_aload_n hx hb dX11_work_55 rfl (lv_at hl 1 rfl) ?_
          refine fg_X11_7 (k2 := 1) C hw ic1_0 rfl dX11_work_56 ?_
          refine lv_iload_n hx hb dX11_work_59 rfl (lv_at hl 0 rfl) ?_
          refine lv_dup2_11 hx hb dX11_work_60 rfl rfl ?_
          obtain ⟨q_16, hf⟩ := x_gE hf
          refine x_ald C hw ic1_1 q_16 rfl dX11_work_61 ?_
          refine lv_iload_n hx hb dX11_work_62 rfl (lv_at hl 3 rfl) ?_
          refine lv_isub hx hb dX11_work_63 ?_
          obtain ⟨q_17, hf⟩ := x_gE hf
          refine x_ast C hw ic1_1 q_17 rfl dX11_work_64 (fun H locs hw => ?_)
          obtain ⟨M_18, eM_18⟩ : ∃ z, z = (x_up M_10 1 x3_9.toNatClampNeg ((M_10 1 x3_9.toNatClampNeg) - a2)) := ⟨_, rfl⟩
          rw [← eM_18] at hw
          have hf := x_lE eM_18 hf
          refine lv_aload_n hx hb dX11_work_65 rfl (lv_at hl 1 rfl) ?_
          refine fg_X11_7 (k2 := 1) C hw ic1_0 rfl dX11_work_66 ?_
          refine lv_iload_n hx hb dX11_work_69 rfl (lv_at hl 0 rfl) ?_
          obtain ⟨q_19, hf⟩ := x_gE hf
          refine x_ald C hw ic1_1 q_19 rfl dX11_work_70 ?_
          exact ret hf dX11_work_71 hw
        · have hf := x_iN hf q_15
          refine lv_ldc hx hb hown (hB _ mk_X11_69) dX11_work_52 ?_
          exact ret hf dX11_work_54 hw
    · have hf := x_iP hf q_8
      refine lv_ldc hx hb hown (hB _ mk_X11_60) dX11_work_19 ?_
      exact ret hf dX11_work_21 hw
noncomputable def fX11_roomOf (M : xM) (a1 : Int32) (a2 : Int32) : Option (Int32 × xM) := x_l ((M 1 0) + ((30 : Int32) * a2)) fun x3_2 => x_b (fX11_earns M a1 x3_2 (M 1 0)) fun v_6 M_4 => x_b (fX11_whatOf M_4 a1 (1 : Int32) x3_2 (M_4 1 0)) fun v_11 M_9 => x_b (fX11_whatOf M_9 a1 (3 : Int32) x3_2 (M_9 1 0)) fun v_15 M_13 => x_l ((v_6 - ((M_4 1 14) * ((1 : Int32) + v_11))) - v_15) fun x4_16 => if 0 < x4_16 then (some (((x4_16 * (M_13 1 15)) / (100 : Int32)), M_13)) else (some ((0 : Int32), M_13))
set_option maxRecDepth 100000 in
set_option maxHeartbeats 4000000 in
theorem mX11_roomOf (l : Launch) (g : xG) {a1 : Int32} {a2 : Int32} {r : Int32} {M' : xM}  {M : xM} (hf : fX11_roomOf M a1 a2 = some (r, M')) : x_cI l g 1 yX11_roomOf cX11_roomOf 5 .int 3 78 [.ref (g.2.2.1 0), .int a1, .int a2] M (fun v N => v = r ∧ N = M') := by
  refine x_stI RX11 (by decide) rfl (Nat.le_of_ble_eq_true rfl) ?_
  intro p e s m args below meth c Q ls C hw ret hl
  obtain ⟨hx, hb, hml, hown, hB, -⟩ := id C
  have hl : lv_has ls 5 [(0, .ref (g.2.2.1 0)), (1, .int a1), (2, .int a2)] := hl
  unfold fX11_roomOf at hf
  refine lv_aload_n hx hb dX11_roomOf_0 rfl (lv_at hl 0 rfl) ?_
  refine fg_X11_7 (k2 := 1) C hw ic1_0 rfl dX11_roomOf_1 ?_
  refine lv_iconst (v := (0 : Int32)) hx hb dX11_roomOf_4 (by decide) ?_
  refine x_ald (j := 0) C hw ic1_1 (x_inl rfl) rfl dX11_roomOf_5 ?_
  refine lv_bipush (v := (30 : Int32)) hx hb dX11_roomOf_6 (by decide) ?_
  refine lv_iload_n hx hb dX11_roomOf_8 rfl (lv_at hl 2 rfl) ?_
  refine lv_imul hx hb dX11_roomOf_9 ?_
  refine lv_iadd hx hb dX11_roomOf_10 ?_
  refine lv_topi (fun x3_2 ex3_2 => ?_)
  have hf := x_lE ex3_2 hf
  refine lv_istore_n (lv' := [(3, .int x3_2), (0, .ref (g.2.2.1 0)), (1, .int a1), (2, .int a2)]) hx hb dX11_roomOf_11 rfl hl (by decide) rfl (fun ls hl => ?_)
  refine lv_aload_n hx hb dX11_roomOf_12 rfl (lv_at hl 1 rfl) ?_
  refine lv_iload_n hx hb dX11_roomOf_13 rfl (lv_at hl 2 rfl) ?_
  refine lv_iload_n hx hb dX11_roomOf_14 rfl (lv_at hl 0 rfl) ?_
  refine lv_aload_n hx hb dX11_roomOf_15 rfl (lv_at hl 1 rfl) ?_
  refine fg_X11_7 (k2 := 1) C hw ic1_0 rfl dX11_roomOf_16 ?_
  refine lv_iconst (v := (0 : Int32)) hx hb dX11_roomOf_19 (by decide) ?_
  refine x_ald (j := 0) C hw ic1_1 (x_inl rfl) rfl dX11_roomOf_20 ?_
  obtain ⟨tv_6, tM_4, c_5, hf⟩ := x_bE hf
  refine x_vI C hw hl.1 [.int a1, .int x3_2, .int (M 1 0)] [] (mX11_earns l g c_5) lk_X11_83 ic1_0 (by decide) rfl (by decide) rfl (Nat.le_of_ble_eq_true rfl) ⟨Nat.zero_le _, Nat.zero_le _⟩ dX11_roomOf_21 (fun v_6 M_4 H locs hN hw => ?_)
  obtain ⟨rfl, rfl⟩ := hN
  refine lv_aload_n hx hb dX11_roomOf_24 rfl (lv_at hl 1 rfl) ?_
  refine fg_X11_7 (k2 := 1) C hw ic1_0 rfl dX11_roomOf_25 ?_
  refine lv_bipush (v := (14 : Int32)) hx hb dX11_roomOf_28 (by decide) ?_
  refine x_ald (j := 14) C hw ic1_1 (x_inl rfl) rfl dX11_roomOf_30 ?_
  refine lv_iconst (v := (1 : Int32)) hx hb dX11_roomOf_31 (by decide) ?_
  refine lv_aload_n hx hb dX11_roomOf_32 rfl (lv_at hl 1 rfl) ?_
  refine lv_iload_n hx hb dX11_roomOf_33 rfl (lv_at hl 2 rfl) ?_
  refine lv_iconst (v := (1 : Int32)) hx hb dX11_roomOf_34 (by decide) ?_
  refine lv_iload_n hx hb dX11_roomOf_35 rfl (lv_at hl 0 rfl) ?_
  refine lv_aload_n hx hb dX11_roomOf_36 rfl (lv_at hl 1 rfl) ?_
  refine fg_X11_7 (k2 := 1) C hw ic1_0 rfl dX11_roomOf_37 ?_
  refine lv_iconst (v := (0 : Int32)) hx hb dX11_roomOf_40 (by decide) ?_
  refine x_ald (j := 0) C hw ic1_1 (x_inl rfl) rfl dX11_roomOf_41 ?_
  obtain ⟨tv_11, tM_9, c_10, hf⟩ := x_bE hf
  refine x_vI C hw hl.1 [.int a1, .int (1 : Int32), .int x3_2, .int (M_4 1 0)] [.int (1 : Int32), .int (M_4 1 14), .int v_6] (mX11_whatOf l g c_10) lk_X11_71 ic1_0 (by decide) rfl (by decide) rfl (Nat.le_of_ble_eq_true rfl) ⟨Nat.zero_le _, Nat.zero_le _⟩ dX11_roomOf_42 (fun v_11 M_9 H locs hN hw => ?_)
  obtain ⟨rfl, rfl⟩ := hN
  refine lv_iadd hx hb dX11_roomOf_45 ?_
  refine lv_imul hx hb dX11_roomOf_46 ?_
  refine lv_isub hx hb dX11_roomOf_47 ?_
  refine lv_aload_n hx hb dX11_roomOf_48 rfl (lv_at hl 1 rfl) ?_
  refine lv_iload_n hx hb dX11_roomOf_49 rfl (lv_at hl 2 rfl) ?_
  refine lv_iconst (v := (3 : Int32)) hx hb dX11_roomOf_50 (by decide) ?_
  refine lv_iload_n hx hb dX11_roomOf_51 rfl (lv_at hl 0 rfl) ?_
  refine lv_aload_n hx hb dX11_roomOf_52 rfl (lv_at hl 1 rfl) ?_
  refine fg_X11_7 (k2 := 1) C hw ic1_0 rfl dX11_roomOf_53 ?_
  refine lv_iconst (v := (0 : Int32)) hx hb dX11_roomOf_56 (by decide) ?_
  refine x_ald (j := 0) C hw ic1_1 (x_inl rfl) rfl dX11_roomOf_57 ?_
  obtain ⟨tv_15, tM_13, c_14, hf⟩ := x_bE hf
  refine x_vI C hw hl.1 [.int a1, .int (3 : Int32), .int x3_2, .int (M_9 1 0)] [.int (v_6 - ((M_4 1 14) * ((1 : Int32) + v_11)))] (mX11_whatOf l g c_14) lk_X11_71 ic1_0 (by decide) rfl (by decide) rfl (Nat.le_of_ble_eq_true rfl) ⟨Nat.zero_le _, Nat.zero_le _⟩ dX11_roomOf_58 (fun v_15 M_13 H locs hN hw => ?_)
  obtain ⟨rfl, rfl⟩ := hN
  refine lv_isub hx hb dX11_roomOf_61 ?_
  refine lv_topi (fun x4_16 ex4_16 => ?_)
  have hf := x_lE ex4_16 hf
  refine lv_istore (lv' := [(4, .int x4_16), (3, .int x3_2), (0, .ref (g.2.2.1 0)), (1, .int a1), (2, .int a2)]) hx hb dX11_roomOf_62 hl (by decide) rfl (fun ls hl => ?_)
  refine lv_iload hx hb dX11_roomOf_64 (lv_at hl 0 rfl) ?_
  refine lv_if_gt (tgt := 73) hx hb dX11_roomOf_66 (by decide) (fun q_17 => ?_) (fun q_17 => ?_)
  · have hf := x_iP hf q_17
    refine lv_iload hx hb dX11_roomOf_73 (lv_at hl 0 rfl) ?_
    refine lv_aload_n hx hb dX11_roomOf_75 rfl (lv_at hl 2 rfl) ?_
    refine fg_X11_7 (k2 := 1) C hw ic1_0 rfl dX11_roomOf_76 ?_
    refine lv_bipush (v := (15 : Int32)) hx hb dX11_roomOf_79 (by decide) ?_
    refine x_ald (j := 15) C hw ic1_1 (x_inl rfl) rfl dX11_roomOf_81 ?_
    refine lv_imul hx hb dX11_roomOf_82 ?_
    refine lv_bipush (v := (100 : Int32)) hx hb dX11_roomOf_83 (by decide) ?_
    refine lv_idiv hx hb dX11_roomOf_85 (by decide) ?_
    exact ret hf dX11_roomOf_86 hw
  · have hf := x_iN hf q_17
    refine lv_iconst (v := (0 : Int32)) hx hb dX11_roomOf_69 (by decide) ?_
    refine lv_goto (tgt := 86) hx hb dX11_roomOf_70 (by decide) ?_
    exact ret hf dX11_roomOf_86 hw
noncomputable def fX11_findDues_L110 (x3_25 : Int32) (k166_28 : xM → Int32 → Option (xM)) : Nat → xM → Int32 → Option (xM)
  | 0, _, _ => none
  | n_40 + 1, M_39, x4_38 => if x4_38 ≤ 0 then (k166_28 M_39 x4_38) else (x_g (x4_38 - (1 : Int32)) 16 (if (M_39 9 (x4_38 - (1 : Int32)).toNatClampNeg) ≤ x3_25 then (k166_28 M_39 x4_38) else (x_g (x4_38 - (1 : Int32)) 16 (x_g x4_38 16 (x_l (x_up M_39 9 x4_38.toNatClampNeg (M_39 9 (x4_38 - (1 : Int32)).toNatClampNeg)) fun M_47 => x_g (x4_38 - (1 : Int32)) 16 (x_g x4_38 16 (x_l (x_up M_47 10 x4_38.toNatClampNeg (M_47 10 (x4_38 - (1 : Int32)).toNatClampNeg)) fun M_50 => x_l (x4_38 + (-1 : Int32)) fun x4_51 => fX11_findDues_L110 x3_25 k166_28 n_40 M_50 x4_51)))))))
noncomputable def fX11_findDues_L33 (a1 : Int32) : Nat → xM → Int32 → Option (xM)
  | 0, _, _ => none
  | n_6 + 1, M_5, x2_4 => if (M_5 1 20) ≤ x2_4 then (some M_5) else (x_g ((792 : Int32) + ((10 : Int32) * x2_4)) 1675 (x_l (fun (M_12 : xM) => x_l (x2_4 + (1 : Int32)) fun x2_13 => fX11_findDues_L33 a1 n_6 M_12 x2_13) fun k196_11 => if (M_5 1 ((792 : Int32) + ((10 : Int32) * x2_4)).toNatClampNeg) = a1 then (x_b (fX11_unpaid M_5 x2_4) fun v_17 M_15 => if v_17 = 0 then (k196_11 M_15) else (x_b (fX11_isTurned M_15 x2_4) fun v_21 M_19 => if v_21 = 0 then (x_g (((792 : Int32) + ((10 : Int32) * x2_4)) + (1 : Int32)) 1675 (x_l ((M_19 1 (((792 : Int32) + ((10 : Int32) * x2_4)) + (1 : Int32)).toNatClampNeg) + (M_19 1 13)) fun x3_25 => x_l (M_19 0 24) fun x4_26 => x_l (fun (M_29 : xM) (x4_27 : Int32) => x_g x4_27 16 (x_l (x_up M_29 9 x4_27.toNatClampNeg x3_25) fun M_31 => x_b (fX11_unpaid M_31 x2_4) fun v_34 M_32 => x_g x4_27 16 (x_l (x_up M_32 10 x4_27.toNatClampNeg v_34) fun M_36 => x_l (x_up M_36 0 24 ((M_36 0 24) + (1 : Int32))) fun M_37 => k196_11 M_37))) fun k166_28 => fX11_findDues_L110 x3_25 k166_28 x_FU M_19 x4_26)) else (k196_11 M_19))) else (k196_11 M_5)))
noncomputable def fX11_findDues_L2 (a1 : Int32) (k26_1 : xM → Option (xM)) : Nat → xM → Int32 → Option (xM)
  | 0, _, _ => none
  | n_56 + 1, M_55, x2_54 => if (24 : Int32) ≤ x2_54 then (k26_1 M_55) else (x_b (fX11_roomOf M_55 a1 x2_54) fun v_61 M_59 => x_g x2_54 24 (x_l (x_up M_59 8 x2_54.toNatClampNeg v_61) fun M_63 => x_l (x2_54 + (1 : Int32)) fun x2_64 => fX11_findDues_L2 a1 k26_1 n_56 M_63 x2_64))
noncomputable def fX11_findDues (M : xM) (a1 : Int32) : Option (xM) := x_l (fun (M_2 : xM) => x_l (x_up M_2 0 24 (0 : Int32)) fun M_3 => fX11_findDues_L33 a1 x_FU M_3 (0 : Int32)) fun k26_1 => fX11_findDues_L2 a1 k26_1 x_FU M (0 : Int32)
set_option maxRecDepth 100000 in
set_option maxHeartbeats 4000000 in
theorem mX11_findDues (l : Launch) (g : xG) {a1 : Int32} {M' : xM}  {M : xM} (hf : fX11_findDues M a1 = some M') : x_cV l g 1 yX11_findDues cX11_findDues 5 4 102 [.ref (g.2.2.1 0), .int a1] M (fun N => N = M') := by
  refine x_stV RX11 (by decide) rfl (Nat.le_of_ble_eq_true rfl) ?_
  intro p e s m args below meth c Q ls C hw ret hl
  obtain ⟨hx, hb, hml, hown, hB, -⟩ := id C
  have hl : lv_has ls 5 [(0, .ref (g.2.2.1 0)), (1, .int a1)] := hl
  unfold fX11_findDues at hf
  refine lv_iconst (v := (0 : Int32)) hx hb dX11_findDues_0 (by decide) ?_
  refine lv_istore_n (lv' := [(2, .int (0 : Int32)), (0, .ref (g.2.2.1 0)), (1, .int a1)]) hx hb dX11_findDues_1 rfl hl (by decide) rfl (fun ls hl => ?_)
  obtain ⟨k26_1, ek26_1, hf⟩ := x_jE hf
  have hk26_1 : ∀ (H : Heap) (locs : List Loc) (M_2 : xM)  (ls : Array Slot) , lv_has ls 5 [(0, .ref (g.2.2.1 0)), (1, .int a1)] → x_w g 1 s H locs M_2 → k26_1 M_2 = some M' → W p l e (x_rm 4 102) s m args below meth c H locs 0 0 Q (F0 m 26 ls []) := by
    intro H locs M_2  ls  hl hw hf
    rw [ek26_1] at hf
    refine lv_aload_n hx hb dX11_findDues_26 rfl (lv_at hl 0 rfl) ?_
    refine lv_iconst (v := (0 : Int32)) hx hb dX11_findDues_27 (by decide) ?_
    refine fp_X11_244 C hw ic1_0 dX11_findDues_28 (fun H locs hw => ?_)
    obtain ⟨M_3, eM_3⟩ : ∃ z, z = (x_up M_2 0 24 (0 : Int32)) := ⟨_, rfl⟩
    rw [← eM_3] at hw
    have hf := x_lE eM_3 hf
    refine lv_iconst (v := (0 : Int32)) hx hb dX11_findDues_31 (by decide) ?_
    refine lv_istore_n (lv' := [(2, .int (0 : Int32)), (0, .ref (g.2.2.1 0)), (1, .int a1)]) hx hb dX11_findDues_32 rfl hl (by decide) rfl (fun ls hl => ?_)
    have hL_53 : ∀ (n_6 : Nat) (H : Heap) (locs : List Loc) (M_5 : xM) (x2_4 : Int32) (ls : Array Slot) , lv_has ls 5 [(0, .ref (g.2.2.1 0)), (1, .int a1), (2, .int x2_4)] → x_w g 1 s H locs M_5 → fX11_findDues_L33 a1 n_6 M_5 x2_4 = some M' → W p l e (x_rm 4 102) s m args below meth c H locs 0 0 Q (F0 m 33 ls []) := by
      intro n_6
      induction n_6 with
      | zero =>
        intro H locs M_5 x2_4 ls  hl hw hf
        rw [fX11_findDues_L33] at hf
        cases hf
      | succ n_6 ih_7 =>
        intro H locs M_5 x2_4 ls  hl hw hf
        rw [fX11_findDues_L33] at hf
        refine lv_iload_n hx hb dX11_findDues_33 rfl (lv_at hl 2 rfl) ?_
        refine lv_aload_n hx hb dX11_findDues_34 rfl (lv_at hl 0 rfl) ?_
        refine fg_X11_7 (k2 := 1) C hw ic1_0 rfl dX11_findDues_35 ?_
        refine lv_bipush (v := (20 : Int32)) hx hb dX11_findDues_38 (by decide) ?_
        refine x_ald (j := 20) C hw ic1_1 (x_inl rfl) rfl dX11_findDues_40 ?_
        refine lv_icmp_ge (tgt := 202) hx hb dX11_findDues_41 (by decide) (fun q_9 => ?_) (fun q_9 => ?_)
        · have hf := x_iP hf q_9
          exact ret hf dX11_findDues_202 hw
        · have hf := x_iN hf q_9
          refine lv_aload_n hx hb dX11_findDues_44 rfl (lv_at hl 0 rfl) ?_
          refine fg_X11_7 (k2 := 1) C hw ic1_0 rfl dX11_findDues_45 ?_
          refine lv_sipush (v := (792 : Int32)) hx hb dX11_findDues_48 (by decide) ?_
          refine lv_bipush (v := (10 : Int32)) hx hb dX11_findDues_51 (by decide) ?_
          refine lv_iload_n hx hb dX11_findDues_53 rfl (lv_at hl 2 rfl) ?_
          refine lv_imul hx hb dX11_findDues_54 ?_
          refine lv_iadd hx hb dX11_findDues_55 ?_
          obtain ⟨q_10, hf⟩ := x_gE hf
          refine x_ald C hw ic1_1 q_10 rfl dX11_findDues_56 ?_
          refine lv_iload_n hx hb dX11_findDues_57 rfl (lv_at hl 1 rfl) ?_
          obtain ⟨k196_11, ek196_11, hf⟩ := x_jE hf
          have hk196_11 : ∀ (H : Heap) (locs : List Loc) (M_12 : xM)  (ls : Array Slot) , lv_has ls 5 [(0, .ref (g.2.2.1 0)), (1, .int a1), (2, .int x2_4)] → x_w g 1 s H locs M_12 → k196_11 M_12 = some M' → W p l e (x_rm 4 102) s m args below meth c H locs 0 0 Q (F0 m 196 ls []) := by
            intro H locs M_12  ls  hl hw hf
            rw [ek196_11] at hf
            obtain ⟨x2_13, ex2_13⟩ : ∃ z : Int32, z = (x2_4 + (1 : Int32)) := ⟨_, rfl⟩
            have hf := x_lE ex2_13 hf
            refine lv_iinc (v := x2_13) (lv' := [(2, .int x2_13), (0, .ref (g.2.2.1 0)), (1, .int a1)]) hx hb dX11_findDues_196 hl (k := 2) rfl (by rw [ex2_13]; rfl) (by decide) rfl (fun ls hl => ?_)
            refine lv_goto (tgt := 33) hx hb dX11_findDues_199 (by decide) ?_
            exact ih_7 _ _ _ _ _ (lv_sub hl [1, 2, 0] rfl) hw hf
          refine lv_icmp_ne (tgt := 196) hx hb dX11_findDues_58 (by decide) (fun q_14 => ?_) (fun q_14 => ?_)
          · have hf := x_iN hf q_14
            exact hk196_11 _ _ _ _ (lv_sub hl [0, 1, 2] rfl) hw hf
          · have hf := x_iP hf q_14
            refine lv_aload_n hx hb dX11_findDues_61 rfl (lv_at hl 0 rfl) ?_
            refine lv_iload_n hx hb dX11_findDues_62 rfl (lv_at hl 2 rfl) ?_
            obtain ⟨tv_17, tM_15, c_16, hf⟩ := x_bE hf
            refine x_vI C hw hl.1 [.int x2_4] [] (mX11_unpaid l g c_16) lk_X11_210 ic1_0 (by decide) rfl (by decide) rfl (Nat.le_of_ble_eq_true rfl) ⟨Nat.zero_le _, Nat.zero_le _⟩ dX11_findDues_63 (fun v_17 M_15 H locs hN hw => ?_)
            obtain ⟨rfl, rfl⟩ := hN
            refine lv_if_eq (tgt := 196) hx hb dX11_findDues_66 (by decide) (fun q_18 => ?_) (fun q_18 => ?_)
            · have hf := x_iP hf q_18
              exact hk196_11 _ _ _ _ (lv_sub hl [0, 1, 2] rfl) hw hf
            · have hf := x_iN hf q_18
              refine lv_aload_n hx hb dX11_findDues_69 rfl (lv_at hl 0 rfl) ?_
              refine lv_iload_n hx hb dX11_findDues_70 rfl (lv_at hl 2 rfl) ?_
              obtain ⟨tv_21, tM_19, c_20, hf⟩ := x_bE hf
              refine x_vI C hw hl.1 [.int x2_4] [] (mX11_isTurned l g c_20) lk_X11_236 ic1_0 (by decide) rfl (by decide) rfl (Nat.le_of_ble_eq_true rfl) ⟨Nat.zero_le _, Nat.zero_le _⟩ dX11_findDues_71 (fun v_21 M_19 H locs hN hw => ?_)
              obtain ⟨rfl, rfl⟩ := hN
              refine lv_if_eq (tgt := 80) hx hb dX11_findDues_74 (by decide) (fun q_22 => ?_) (fun q_22 => ?_)
              · have hf := x_iP hf q_22
                refine lv_aload_n hx hb dX11_findDues_80 rfl (lv_at hl 0 rfl) ?_
                refine fg_X11_7 (k2 := 1) C hw ic1_0 rfl dX11_findDues_81 ?_
                refine lv_sipush (v := (792 : Int32)) hx hb dX11_findDues_84 (by decide) ?_
                refine lv_bipush (v := (10 : Int32)) hx hb dX11_findDues_87 (by decide) ?_
                refine lv_iload_n hx hb dX11_findDues_89 rfl (lv_at hl 2 rfl) ?_
                refine lv_imul hx hb dX11_findDues_90 ?_
                refine lv_iadd hx hb dX11_findDues_91 ?_
                refine lv_iconst (v := (1 : Int32)) hx hb dX11_findDues_92 (by decide) ?_
                refine lv_iadd hx hb dX11_findDues_93 ?_
                obtain ⟨q_23, hf⟩ := x_gE hf
                refine x_ald C hw ic1_1 q_23 rfl dX11_findDues_94 ?_
                refine lv_aload_n hx hb dX11_findDues_95 rfl (lv_at hl 0 rfl) ?_
                refine fg_X11_7 (k2 := 1) C hw ic1_0 rfl dX11_findDues_96 ?_
                refine lv_bipush (v := (13 : Int32)) hx hb dX11_findDues_99 (by decide) ?_
                refine x_ald (j := 13) C hw ic1_1 (x_inl rfl) rfl dX11_findDues_101 ?_
                refine lv_iadd hx hb dX11_findDues_102 ?_
                refine lv_topi (fun x3_25 ex3_25 => ?_)
                have hf := x_lE ex3_25 hf
                refine lv_istore_n (lv' := [(3, .int x3_25), (0, .ref (g.2.2.1 0)), (1, .int a1), (2, .int x2_4)]) hx hb dX11_findDues_103 rfl hl (by decide) rfl (fun ls hl => ?_)
                refine lv_aload_n hx hb dX11_findDues_104 rfl (lv_at hl 1 rfl) ?_
                refine fg_X11_244 C hw ic1_0 dX11_findDues_105 ?_
                refine lv_topi (fun x4_26 ex4_26 => ?_)
                have hf := x_lE ex4_26 hf
                refine lv_istore (lv' := [(4, .int x4_26), (3, .int x3_25), (0, .ref (g.2.2.1 0)), (1, .int a1), (2, .int x2_4)]) hx hb dX11_findDues_108 hl (by decide) rfl (fun ls hl => ?_)
                obtain ⟨k166_28, ek166_28, hf⟩ := x_jE hf
                have hk166_28 : ∀ (H : Heap) (locs : List Loc) (M_29 : xM) (x4_27 : Int32) (ls : Array Slot) , lv_has ls 5 [(3, .int x3_25), (0, .ref (g.2.2.1 0)), (1, .int a1), (2, .int x2_4), (4, .int x4_27)] → x_w g 1 s H locs M_29 → k166_28 M_29 x4_27 = some M' → W p l e (x_rm 4 102) s m args below meth c H locs 0 0 Q (F0 m 166 ls []) := by
                  intro H locs M_29 x4_27 ls  hl hw hf
                  rw [ek166_28] at hf
                  refine lv_aload_n hx hb dX11_findDues_166 rfl (lv_at hl 1 rfl) ?_
                  refine fg_X11_34 (k2 := 9) C hw ic1_0 rfl dX11_findDues_167 ?_
                  refine lv_iload hx hb dX11_findDues_170 (lv_at hl 4 rfl) ?_
                  refine lv_iload_n hx hb dX11_findDues_172 rfl (lv_at hl 0 rfl) ?_
                  obtain ⟨q_30, hf⟩ := x_gE hf
                  refine x_ast C hw ic1_9 q_30 rfl dX11_findDues_173 (fun H locs hw => ?_)
                  obtain ⟨M_31, eM_31⟩ : ∃ z, z = (x_up M_29 9 x4_27.toNatClampNeg x3_25) := ⟨_, rfl⟩
                  rw [← eM_31] at hw
                  have hf := x_lE eM_31 hf
                  refine lv_aload_n hx hb dX11_findDues_174 rfl (lv_at hl 1 rfl) ?_
                  refine fg_X11_37 (k2 := 10) C hw ic1_0 rfl dX11_findDues_175 ?_
                  refine lv_iload hx hb dX11_findDues_178 (lv_at hl 4 rfl) ?_
                  refine lv_aload_n hx hb dX11_findDues_180 rfl (lv_at hl 1 rfl) ?_
                  refine lv_iload_n hx hb dX11_findDues_181 rfl (lv_at hl 3 rfl) ?_
                  obtain ⟨tv_34, tM_32, c_33, hf⟩ := x_bE hf
                  refine x_vI C hw hl.1 [.int x2_4] [.int x4_27, .ref (g.2.2.1 10)] (mX11_unpaid l g c_33) lk_X11_210 ic1_0 (by decide) rfl (by decide) rfl (Nat.le_of_ble_eq_true rfl) ⟨Nat.zero_le _, Nat.zero_le _⟩ dX11_findDues_182 (fun v_34 M_32 H locs hN hw => ?_)
                  obtain ⟨rfl, rfl⟩ := hN
                  obtain ⟨q_35, hf⟩ := x_gE hf
                  refine x_ast C hw ic1_10 q_35 rfl dX11_findDues_185 (fun H locs hw => ?_)
                  obtain ⟨M_36, eM_36⟩ : ∃ z, z = (x_up M_32 10 x4_27.toNatClampNeg v_34) := ⟨_, rfl⟩
                  rw [← eM_36] at hw
                  have hf := x_lE eM_36 hf
                  refine lv_aload_n hx hb dX11_findDues_186 rfl (lv_at hl 1 rfl) ?_
                  refine lv_dup hx hb dX11_findDues_187 rfl ?_
                  refine fg_X11_244 C hw ic1_0 dX11_findDues_188 ?_
                  refine lv_iconst (v := (1 : Int32)) hx hb dX11_findDues_191 (by decide) ?_
                  refine lv_iadd hx hb dX11_findDues_192 ?_
                  refine fp_X11_244 C hw ic1_0 dX11_findDues_193 (fun H locs hw => ?_)
                  obtain ⟨M_37, eM_37⟩ : ∃ z, z = (x_up M_36 0 24 ((M_36 0 24) + (1 : Int32))) := ⟨_, rfl⟩
                  rw [← eM_37] at hw
                  have hf := x_lE eM_37 hf
                  exact hk196_11 _ _ _ _ (lv_sub hl [1, 2, 3] rfl) hw hf
                have hL_52 : ∀ (n_40 : Nat) (H : Heap) (locs : List Loc) (M_39 : xM) (x4_38 : Int32) (ls : Array Slot) , lv_has ls 5 [(3, .int x3_25), (0, .ref (g.2.2.1 0)), (1, .int a1), (2, .int x2_4), (4, .int x4_38)] → x_w g 1 s H locs M_39 → fX11_findDues_L110 x3_25 k166_28 n_40 M_39 x4_38 = some M' → W p l e (x_rm 4 102) s m args below meth c H locs 0 0 Q (F0 m 110 ls []) := by
                  intro n_40
                  induction n_40 with
                  | zero =>
                    intro H locs M_39 x4_38 ls  hl hw hf
                    rw [fX11_findDues_L110] at hf
                    cases hf
                  | succ n_40 ih_41 =>
                    intro H locs M_39 x4_38 ls  hl hw hf
                    rw [fX11_findDues_L110] at hf
                    refine lv_iload hx hb dX11_findDues_110 (lv_at hl 4 rfl) ?_
                    refine lv_if_le (tgt := 166) hx hb dX11_findDues_112 (by decide) (fun q_42 => ?_) (fun q_42 => ?_)
                    · have hf := x_iP hf q_42
                      exact hk166_28 _ _ _ _ _ (lv_sub hl [0, 1, 2, 3, 4] rfl) hw hf
                    · have hf := x_iN hf q_42
                      refine lv_aload_n hx hb dX11_findDues_115 rfl (lv_at hl 1 rfl) ?_
                      refine fg_X11_34 (k2 := 9) C hw ic1_0 rfl dX11_findDues_116 ?_
                      refine lv_iload hx hb dX11_findDues_119 (lv_at hl 4 rfl) ?_
                      refine lv_iconst (v := (1 : Int32)) hx hb dX11_findDues_121 (by decide) ?_
                      refine lv_isub hx hb dX11_findDues_122 ?_
                      obtain ⟨q_43, hf⟩ := x_gE hf
                      refine x_ald C hw ic1_9 q_43 rfl dX11_findDues_123 ?_
                      refine lv_iload_n hx hb dX11_findDues_124 rfl (lv_at hl 0 rfl) ?_
                      refine lv_icmp_le (tgt := 166) hx hb dX11_findDues_125 (by decide) (fun q_44 => ?_) (fun q_44 => ?_)
                      · have hf := x_iP hf q_44
                        exact hk166_28 _ _ _ _ _ (lv_sub hl [0, 1, 2, 3, 4] rfl) hw hf
                      · have hf := x_iN hf q_44
                        refine lv_aload_n hx hb dX11_findDues_128 rfl (lv_at hl 1 rfl) ?_
                        refine fg_X11_34 (k2 := 9) C hw ic1_0 rfl dX11_findDues_129 ?_
                        refine lv_iload hx hb dX11_findDues_132 (lv_at hl 4 rfl) ?_
                        refine lv_aload_n hx hb dX11_findDues_134 rfl (lv_at hl 1 rfl) ?_
                        refine fg_X11_34 (k2 := 9) C hw ic1_0 rfl dX11_findDues_135 ?_
                        refine lv_iload hx hb dX11_findDues_138 (lv_at hl 4 rfl) ?_
                        refine lv_iconst (v := (1 : Int32)) hx hb dX11_findDues_140 (by decide) ?_
                        refine lv_isub hx hb dX11_findDues_141 ?_
                        obtain ⟨q_45, hf⟩ := x_gE hf
                        refine x_ald C hw ic1_9 q_45 rfl dX11_findDues_142 ?_
                        obtain ⟨q_46, hf⟩ := x_gE hf
                        refine x_ast C hw ic1_9 q_46 rfl dX11_findDues_143 (fun H locs hw => ?_)
                        obtain ⟨M_47, eM_47⟩ : ∃ z, z = (x_up M_39 9 x4_38.toNatClampNeg (M_39 9 (x4_38 - (1 : Int32)).toNatClampNeg)) := ⟨_, rfl⟩
                        rw [← eM_47] at hw
                        have hf := x_lE eM_47 hf
                        refine lv_aload_n hx hb dX11_findDues_144 rfl (lv_at hl 1 rfl) ?_
                        refine fg_X11_37 (k2 := 10) C hw ic1_0 rfl dX11_findDues_145 ?_
                        refine lv_iload hx hb dX11_findDues_148 (lv_at hl 4 rfl) ?_
                        refine lv_aload_n hx hb dX11_findDues_150 rfl (lv_at hl 1 rfl) ?_
                        refine fg_X11_37 (k2 := 10) C hw ic1_0 rfl dX11_findDues_151 ?_
                        refine lv_iload hx hb dX11_findDues_154 (lv_at hl 4 rfl) ?_
                        refine lv_iconst (v := (1 : Int32)) hx hb dX11_findDues_156 (by decide) ?_
                        refine lv_isub hx hb dX11_findDues_157 ?_
                        obtain ⟨q_48, hf⟩ := x_gE hf
                        refine x_ald C hw ic1_10 q_48 rfl dX11_findDues_158 ?_
                        obtain ⟨q_49, hf⟩ := x_gE hf
                        refine x_ast C hw ic1_10 q_49 rfl dX11_findDues_159 (fun H locs hw => ?_)
                        obtain ⟨M_50, eM_50⟩ : ∃ z, z = (x_up M_47 10 x4_38.toNatClampNeg (M_47 10 (x4_38 - (1 : Int32)).toNatClampNeg)) := ⟨_, rfl⟩
                        rw [← eM_50] at hw
                        have hf := x_lE eM_50 hf
                        obtain ⟨x4_51, ex4_51⟩ : ∃ z : Int32, z = (x4_38 + (-1 : Int32)) := ⟨_, rfl⟩
                        have hf := x_lE ex4_51 hf
                        refine lv_iinc (v := x4_51) (lv' := [(4, .int x4_51), (3, .int x3_25), (0, .ref (g.2.2.1 0)), (1, .int a1), (2, .int x2_4)]) hx hb dX11_findDues_160 hl (k := 4) rfl (by rw [ex4_51]; rfl) (by decide) rfl (fun ls hl => ?_)
                        refine lv_goto (tgt := 110) hx hb dX11_findDues_163 (by decide) ?_
                        exact ih_41 _ _ _ _ _ (lv_sub hl [1, 2, 3, 4, 0] rfl) hw hf
                exact hL_52 _ _ _ _ _ _ (lv_sub hl [1, 2, 3, 4, 0] rfl) hw hf
              · have hf := x_iN hf q_22
                refine lv_goto (tgt := 196) hx hb dX11_findDues_77 (by decide) ?_
                exact hk196_11 _ _ _ _ (lv_sub hl [0, 1, 2] rfl) hw hf
    exact hL_53 _ _ _ _ _ _ (lv_sub hl [1, 2, 0] rfl) hw hf
  have hL_65 : ∀ (n_56 : Nat) (H : Heap) (locs : List Loc) (M_55 : xM) (x2_54 : Int32) (ls : Array Slot) , lv_has ls 5 [(0, .ref (g.2.2.1 0)), (1, .int a1), (2, .int x2_54)] → x_w g 1 s H locs M_55 → fX11_findDues_L2 a1 k26_1 n_56 M_55 x2_54 = some M' → W p l e (x_rm 4 102) s m args below meth c H locs 0 0 Q (F0 m 2 ls []) := by
    intro n_56
    induction n_56 with
    | zero =>
      intro H locs M_55 x2_54 ls  hl hw hf
      rw [fX11_findDues_L2] at hf
      cases hf
    | succ n_56 ih_57 =>
      intro H locs M_55 x2_54 ls  hl hw hf
      rw [fX11_findDues_L2] at hf
      refine lv_iload_n hx hb dX11_findDues_2 rfl (lv_at hl 2 rfl) ?_
      refine lv_bipush (v := (24 : Int32)) hx hb dX11_findDues_3 (by decide) ?_
      refine lv_icmp_ge (tgt := 26) hx hb dX11_findDues_5 (by decide) (fun q_58 => ?_) (fun q_58 => ?_)
      · have hf := x_iP hf q_58
        exact hk26_1 _ _ _ _ (lv_sub hl [0, 1] rfl) hw hf
      · have hf := x_iN hf q_58
        refine lv_aload_n hx hb dX11_findDues_8 rfl (lv_at hl 0 rfl) ?_
        refine fg_X11_31 (k2 := 8) C hw ic1_0 rfl dX11_findDues_9 ?_
        refine lv_iload_n hx hb dX11_findDues_12 rfl (lv_at hl 2 rfl) ?_
        refine lv_aload_n hx hb dX11_findDues_13 rfl (lv_at hl 0 rfl) ?_
        refine lv_iload_n hx hb dX11_findDues_14 rfl (lv_at hl 1 rfl) ?_
        refine lv_iload_n hx hb dX11_findDues_15 rfl (lv_at hl 2 rfl) ?_
        obtain ⟨tv_61, tM_59, c_60, hf⟩ := x_bE hf
        refine x_vI C hw hl.1 [.int a1, .int x2_54] [.int x2_54, .ref (g.2.2.1 8)] (mX11_roomOf l g c_60) lk_X11_241 ic1_0 (by decide) rfl (by decide) rfl (Nat.le_of_ble_eq_true rfl) ⟨Nat.zero_le _, Nat.zero_le _⟩ dX11_findDues_16 (fun v_61 M_59 H locs hN hw => ?_)
        obtain ⟨rfl, rfl⟩ := hN
        obtain ⟨q_62, hf⟩ := x_gE hf
        refine x_ast C hw ic1_8 q_62 rfl dX11_findDues_19 (fun H locs hw => ?_)
        obtain ⟨M_63, eM_63⟩ : ∃ z, z = (x_up M_59 8 x2_54.toNatClampNeg v_61) := ⟨_, rfl⟩
        rw [← eM_63] at hw
        have hf := x_lE eM_63 hf
        obtain ⟨x2_64, ex2_64⟩ : ∃ z : Int32, z = (x2_54 + (1 : Int32)) := ⟨_, rfl⟩
        have hf := x_lE ex2_64 hf
        refine lv_iinc (v := x2_64) (lv' := [(2, .int x2_64), (0, .ref (g.2.2.1 0)), (1, .int a1)]) hx hb dX11_findDues_20 hl (k := 2) rfl (by rw [ex2_64]; rfl) (by decide) rfl (fun ls hl => ?_)
        refine lv_goto (tgt := 2) hx hb dX11_findDues_23 (by decide) ?_
        exact ih_57 _ _ _ _ _ (lv_sub hl [1, 2, 0] rfl) hw hf
  exact hL_65 _ _ _ _ _ _ (lv_sub hl [1, 2, 0] rfl) hw hf
noncomputable def fX11_holds_L33 (a1 : Int32) (x7_4 : Int32) (k83_13 : xM → Int64 → Int32 → Option (Int32 × xM)) : Nat → xM → Int64 → Int32 → Option (Int32 × xM)
  | 0, _, _, _ => none
  | n_20 + 1, M_19, x2_17, x4_18 => if (24 : Int32) ≤ x4_18 then (k83_13 M_19 x2_17 x4_18) else (x_g x7_4 16 (if (M_19 9 x7_4.toNatClampNeg) < ((M_19 1 0) + ((30 : Int32) * x4_18)) then (k83_13 M_19 x2_17 x4_18) else (x_g x4_18 24 (x_b (fX11_less M_19 (M_19 8 x4_18.toNatClampNeg) a1) fun v_29 M_27 => x_l (x2_17 + (v_29.toInt64)) fun x2_30 => x_l (x4_18 + (1 : Int32)) fun x4_31 => fX11_holds_L33 a1 x7_4 k83_13 n_20 M_27 x2_30 x4_31))))
noncomputable def fX11_holds_L11 (a1 : Int32) : Nat → xM → Int64 → Int32 → Int64 → Int32 → Option (Int32 × xM)
  | 0, _, _, _, _, _ => none
  | n_6 + 1, M_5, x2_1, x4_2, x5_3, x7_4 => if (M_5 0 24) ≤ x7_4 then (some ((1 : Int32), M_5)) else (x_g x7_4 16 (x_l (x5_3 + ((M_5 10 x7_4.toNatClampNeg).toInt64)) fun x5_10 => x_l (fun (M_14 : xM) (x2_11 : Int64) (x4_12 : Int32) => if 0 ≤ (lg_cmp x2_11 x5_10) then (x_l (x7_4 + (1 : Int32)) fun x7_16 => fX11_holds_L11 a1 n_6 M_14 x2_11 x4_12 x5_10 x7_16) else (some ((0 : Int32), M_14))) fun k83_13 => fX11_holds_L33 a1 x7_4 k83_13 x_FU M_5 x2_1 x4_2))
noncomputable def fX11_holds (M : xM) (a1 : Int32) : Option (Int32 × xM) := fX11_holds_L11 a1 x_FU M (0 : Int64) (0 : Int32) (0 : Int64) (0 : Int32)
set_option maxRecDepth 100000 in
set_option maxHeartbeats 4000000 in
theorem mX11_holds (l : Launch) (g : xG) {a1 : Int32} {r : Int32} {M' : xM}  {M : xM} (hf : fX11_holds M a1 = some (r, M')) : x_cI l g 1 yX11_holds cX11_holds 8 .boolean 1 21 [.ref (g.2.2.1 0), .int a1] M (fun v N => v = r ∧ N = M') := by
  refine x_stZ RX11 (by decide) rfl (Nat.le_of_ble_eq_true rfl) ?_
  intro p e s m args below meth c Q ls C hw ret hl
  obtain ⟨hx, hb, hml, hown, hB, -⟩ := id C
  have hl : lv_has ls 8 [(0, .ref (g.2.2.1 0)), (1, .int a1)] := hl
  unfold fX11_holds at hf
  refine lv_lconst (v := 0) hx hb dX11_holds_0 (by decide) ?_
  refine lv_lstore_n (lv' := [(2, .long (0 : Int64)), (0, .ref (g.2.2.1 0)), (1, .int a1)]) hx hb dX11_holds_1 rfl hl (by decide) rfl (fun ls hl => ?_)
  refine lv_iconst (v := (0 : Int32)) hx hb dX11_holds_2 (by decide) ?_
  refine lv_istore (lv' := [(4, .int (0 : Int32)), (2, .long (0 : Int64)), (0, .ref (g.2.2.1 0)), (1, .int a1)]) hx hb dX11_holds_3 hl (by decide) rfl (fun ls hl => ?_)
  refine lv_lconst (v := 0) hx hb dX11_holds_5 (by decide) ?_
  refine lv_lstore (lv' := [(5, .long (0 : Int64)), (4, .int (0 : Int32)), (2, .long (0 : Int64)), (0, .ref (g.2.2.1 0)), (1, .int a1)]) hx hb dX11_holds_6 hl (by decide) rfl (fun ls hl => ?_)
  refine lv_iconst (v := (0 : Int32)) hx hb dX11_holds_8 (by decide) ?_
  refine lv_istore (lv' := [(7, .int (0 : Int32)), (5, .long (0 : Int64)), (4, .int (0 : Int32)), (2, .long (0 : Int64)), (0, .ref (g.2.2.1 0)), (1, .int a1)]) hx hb dX11_holds_9 hl (by decide) rfl (fun ls hl => ?_)
  have hL_33 : ∀ (n_6 : Nat) (H : Heap) (locs : List Loc) (M_5 : xM) (x2_1 : Int64) (x4_2 : Int32) (x5_3 : Int64) (x7_4 : Int32) (ls : Array Slot) , lv_has ls 8 [(0, .ref (g.2.2.1 0)), (1, .int a1), (2, .long x2_1), (4, .int x4_2), (5, .long x5_3), (7, .int x7_4)] → x_w g 1 s H locs M_5 → fX11_holds_L11 a1 n_6 M_5 x2_1 x4_2 x5_3 x7_4 = some (r, M') → W p l e (x_rm 1 21) s m args below meth c H locs 0 0 Q (F0 m 11 ls []) := by
    intro n_6
    induction n_6 with
    | zero =>
      intro H locs M_5 x2_1 x4_2 x5_3 x7_4 ls  hl hw hf
      rw [fX11_holds_L11] at hf
      cases hf
    | succ n_6 ih_7 =>
      intro H locs M_5 x2_1 x4_2 x5_3 x7_4 ls  hl hw hf
      rw [fX11_holds_L11] at hf
      refine lv_iload hx hb dX11_holds_11 (lv_at hl 5 rfl) ?_
      refine lv_aload_n hx hb dX11_holds_13 rfl (lv_at hl 0 rfl) ?_
      refine fg_X11_244 C hw ic1_0 dX11_holds_14 ?_
      refine lv_icmp_ge (tgt := 98) hx hb dX11_holds_17 (by decide) (fun q_8 => ?_) (fun q_8 => ?_)
      · have hf := x_iP hf q_8
        refine lv_iconst (v := (1 : Int32)) hx hb dX11_holds_98 (by decide) ?_
        exact ret ((x_zl1 _).trans hf) dX11_holds_99 hw
      · have hf := x_iN hf q_8
        refine lv_lload hx hb dX11_holds_20 (lv_at hl 4 rfl) ?_
        refine lv_aload_n hx hb dX11_holds_22 rfl (lv_at hl 0 rfl) ?_
        refine fg_X11_37 (k2 := 10) C hw ic1_0 rfl dX11_holds_23 ?_
        refine lv_iload hx hb dX11_holds_26 (lv_at hl 5 rfl) ?_
        obtain ⟨q_9, hf⟩ := x_gE hf
        refine x_ald C hw ic1_10 q_9 rfl dX11_holds_28 ?_
        refine lv_i2l hx hb dX11_holds_29 rfl ?_
        refine lv_ladd hx hb dX11_holds_30 ?_
        refine lv_topl (fun x5_10 ex5_10 => ?_)
        have hf := x_lE ex5_10 hf
        refine lv_lstore (lv' := [(5, .long x5_10), (0, .ref (g.2.2.1 0)), (1, .int a1), (2, .long x2_1), (4, .int x4_2), (7, .int x7_4)]) hx hb dX11_holds_31 hl (by decide) rfl (fun ls hl => ?_)
        obtain ⟨k83_13, ek83_13, hf⟩ := x_jE hf
        have hk83_13 : ∀ (H : Heap) (locs : List Loc) (M_14 : xM) (x2_11 : Int64) (x4_12 : Int32) (ls : Array Slot) , lv_has ls 8 [(5, .long x5_10), (0, .ref (g.2.2.1 0)), (1, .int a1), (7, .int x7_4), (2, .long x2_11), (4, .int x4_12)] → x_w g 1 s H locs M_14 → k83_13 M_14 x2_11 x4_12 = some (r, M') → W p l e (x_rm 1 21) s m args below meth c H locs 0 0 Q (F0 m 83 ls []) := by
          intro H locs M_14 x2_11 x4_12 ls  hl hw hf
          rw [ek83_13] at hf
          refine lv_lload_n hx hb dX11_holds_83 rfl (lv_at hl 4 rfl) ?_
          refine lv_lload hx hb dX11_holds_84 (lv_at hl 0 rfl) ?_
          refine W.lcmp hx hb dX11_holds_86 ?_
          refine lv_if_ge (tgt := 92) hx hb dX11_holds_87 (by decide) (fun q_15 => ?_) (fun q_15 => ?_)
          · have hf := x_iP hf q_15
            obtain ⟨x7_16, ex7_16⟩ : ∃ z : Int32, z = (x7_4 + (1 : Int32)) := ⟨_, rfl⟩
            have hf := x_lE ex7_16 hf
            refine lv_iinc (v := x7_16) (lv' := [(7, .int x7_16), (5, .long x5_10), (0, .ref (g.2.2.1 0)), (1, .int a1), (2, .long x2_11), (4, .int x4_12)]) hx hb dX11_holds_92 hl (k := 3) rfl (by rw [ex7_16]; rfl) (by decide) rfl (fun ls hl => ?_)
            refine lv_goto (tgt := 11) hx hb dX11_holds_95 (by decide) ?_
            exact ih_7 _ _ _ _ _ _ _ _ (lv_sub hl [2, 3, 4, 5, 1, 0] rfl) hw hf
          · have hf := x_iN hf q_15
            refine lv_iconst (v := (0 : Int32)) hx hb dX11_holds_90 (by decide) ?_
            exact ret ((x_zl0 _).trans hf) dX11_holds_91 hw
        have hL_32 : ∀ (n_20 : Nat) (H : Heap) (locs : List Loc) (M_19 : xM) (x2_17 : Int64) (x4_18 : Int32) (ls : Array Slot) , lv_has ls 8 [(5, .long x5_10), (0, .ref (g.2.2.1 0)), (1, .int a1), (7, .int x7_4), (2, .long x2_17), (4, .int x4_18)] → x_w g 1 s H locs M_19 → fX11_holds_L33 a1 x7_4 k83_13 n_20 M_19 x2_17 x4_18 = some (r, M') → W p l e (x_rm 1 21) s m args below meth c H locs 0 0 Q (F0 m 33 ls []) := by
          intro n_20
          induction n_20 with
          | zero =>
            intro H locs M_19 x2_17 x4_18 ls  hl hw hf
            rw [fX11_holds_L33] at hf
            cases hf
          | succ n_20 ih_21 =>
            intro H locs M_19 x2_17 x4_18 ls  hl hw hf
            rw [fX11_holds_L33] at hf
            refine lv_iload hx hb dX11_holds_33 (lv_at hl 5 rfl) ?_
            refine lv_bipush (v := (24 : Int32)) hx hb dX11_holds_35 (by decide) ?_
            refine lv_icmp_ge (tgt := 83) hx hb dX11_holds_37 (by decide) (fun q_22 => ?_) (fun q_22 => ?_)
            · have hf := x_iP hf q_22
              exact hk83_13 _ _ _ _ _ _ (lv_sub hl [0, 1, 2, 3, 4, 5] rfl) hw hf
            · have hf := x_iN hf q_22
              refine lv_aload_n hx hb dX11_holds_40 rfl (lv_at hl 1 rfl) ?_
              refine fg_X11_7 (k2 := 1) C hw ic1_0 rfl dX11_holds_41 ?_
              refine lv_iconst (v := (0 : Int32)) hx hb dX11_holds_44 (by decide) ?_
              refine x_ald (j := 0) C hw ic1_1 (x_inl rfl) rfl dX11_holds_45 ?_
              refine lv_bipush (v := (30 : Int32)) hx hb dX11_holds_46 (by decide) ?_
              refine lv_iload hx hb dX11_holds_48 (lv_at hl 5 rfl) ?_
              refine lv_imul hx hb dX11_holds_50 ?_
              refine lv_iadd hx hb dX11_holds_51 ?_
              refine lv_aload_n hx hb dX11_holds_52 rfl (lv_at hl 1 rfl) ?_
              refine fg_X11_34 (k2 := 9) C hw ic1_0 rfl dX11_holds_53 ?_
              refine lv_iload hx hb dX11_holds_56 (lv_at hl 3 rfl) ?_
              obtain ⟨q_24, hf⟩ := x_gE hf
              refine x_ald C hw ic1_9 q_24 rfl dX11_holds_58 ?_
              refine lv_icmp_gt (tgt := 83) hx hb dX11_holds_59 (by decide) (fun q_25 => ?_) (fun q_25 => ?_)
              · have hf := x_iP hf q_25
                exact hk83_13 _ _ _ _ _ _ (lv_sub hl [0, 1, 2, 3, 4, 5] rfl) hw hf
              · have hf := x_iN hf q_25
                refine lv_lload_n hx hb dX11_holds_62 rfl (lv_at hl 4 rfl) ?_
                refine lv_aload_n hx hb dX11_holds_63 rfl (lv_at hl 1 rfl) ?_
                refine fg_X11_31 (k2 := 8) C hw ic1_0 rfl dX11_holds_64 ?_
                refine lv_iload hx hb dX11_holds_67 (lv_at hl 5 rfl) ?_
                obtain ⟨q_26, hf⟩ := x_gE hf
                refine x_ald C hw ic1_8 q_26 rfl dX11_holds_69 ?_
                refine lv_iload_n hx hb dX11_holds_70 rfl (lv_at hl 2 rfl) ?_
                obtain ⟨tv_29, tM_27, c_28, hf⟩ := x_bE hf
                refine x_sI C hw hl.1 [.int (M_19 8 x4_18.toNatClampNeg), .int a1] [.long x2_17] (mX11_less l g c_28) lk_X11_195 (by decide) rfl (Nat.le_of_ble_eq_true rfl) ⟨Nat.zero_le _, Nat.zero_le _⟩ dX11_holds_71 (fun v_29 M_27 H locs hN hw => ?_)
                obtain ⟨rfl, rfl⟩ := hN
                refine lv_i2l hx hb dX11_holds_74 rfl ?_
                refine lv_ladd hx hb dX11_holds_75 ?_
                refine lv_topl (fun x2_30 ex2_30 => ?_)
                have hf := x_lE ex2_30 hf
                refine lv_lstore_n (lv' := [(2, .long x2_30), (5, .long x5_10), (0, .ref (g.2.2.1 0)), (1, .int a1), (7, .int x7_4), (4, .int x4_18)]) hx hb dX11_holds_76 rfl hl (by decide) rfl (fun ls hl => ?_)
                obtain ⟨x4_31, ex4_31⟩ : ∃ z : Int32, z = (x4_18 + (1 : Int32)) := ⟨_, rfl⟩
                have hf := x_lE ex4_31 hf
                refine lv_iinc (v := x4_31) (lv' := [(4, .int x4_31), (2, .long x2_30), (5, .long x5_10), (0, .ref (g.2.2.1 0)), (1, .int a1), (7, .int x7_4)]) hx hb dX11_holds_77 hl (k := 5) rfl (by rw [ex4_31]; rfl) (by decide) rfl (fun ls hl => ?_)
                refine lv_goto (tgt := 33) hx hb dX11_holds_80 (by decide) ?_
                exact ih_21 _ _ _ _ _ _ (lv_sub hl [2, 3, 4, 5, 1, 0] rfl) hw hf
        exact hL_32 _ _ _ _ _ _ _ (lv_sub hl [0, 1, 2, 5, 3, 4] rfl) hw hf
  exact hL_33 _ _ _ _ _ _ _ _ _ (lv_sub hl [4, 5, 3, 2, 1, 0] rfl) hw hf
noncomputable def fX11_findLevel_L29  : Nat → xM → Int32 → Int32 → Option (Int32 × xM)
  | 0, _, _, _ => none
  | n_11 + 1, M_10, x2_8, x3_9 => if (x3_9 - x2_8) ≤ (1 : Int32) then (some (x3_9, M_10)) else (x_l ((x2_8 + x3_9) / (2 : Int32)) fun x4_15 => x_b (fX11_holds M_10 x4_15) fun v_18 M_16 => x_l (fun (M_22 : xM) (x2_19 : Int32) (x3_20 : Int32) => fX11_findLevel_L29 n_11 M_22 x2_19 x3_20) fun k61_21 => if v_18 = 0 then (k61_21 M_16 x4_15 x3_9) else (k61_21 M_16 x2_8 x4_15))
noncomputable def fX11_findLevel (M : xM) (a1 : Int32) : Option (Int32 × xM) := x_v (fX11_findDues M a1) fun M_1 => if (M_1 0 24) = 0 then (some ((0 : Int32), M_1)) else (x_b (fX11_holds M_1 (200000 : Int32)) fun v_6 M_4 => if v_6 = 0 then (some ((-1 : Int32), M_4)) else (fX11_findLevel_L29 x_FU M_4 (0 : Int32) (200000 : Int32)))
set_option maxRecDepth 100000 in
set_option maxHeartbeats 4000000 in
theorem mX11_findLevel (l : Launch) (g : xG) {a1 : Int32} {r : Int32} {M' : xM}  {M : xM} (hf : fX11_findLevel M a1 = some (r, M')) : x_cI l g 1 yX11_findLevel cX11_findLevel 5 .int 5 126 [.ref (g.2.2.1 0), .int a1] M (fun v N => v = r ∧ N = M') := by
  refine x_stI RX11 (by decide) rfl (Nat.le_of_ble_eq_true rfl) ?_
  intro p e s m args below meth c Q ls C hw ret hl
  obtain ⟨hx, hb, hml, hown, hB, -⟩ := id C
  have hl : lv_has ls 5 [(0, .ref (g.2.2.1 0)), (1, .int a1)] := hl
  unfold fX11_findLevel at hf
  refine lv_aload_n hx hb dX11_findLevel_0 rfl (lv_at hl 0 rfl) ?_
  refine lv_iload_n hx hb dX11_findLevel_1 rfl (lv_at hl 1 rfl) ?_
  obtain ⟨tM_1, c_2, hf⟩ := x_vE hf
  refine x_vV C hw hl.1 [.int a1] [] (mX11_findDues l g c_2) lk_X11_247 ic1_0 (by decide) rfl (by decide) rfl (Nat.le_of_ble_eq_true rfl) ⟨Nat.zero_le _, Nat.zero_le _⟩ dX11_findLevel_2 (fun M_1 H locs hN hw => ?_)
  obtain rfl := hN
  refine lv_aload_n hx hb dX11_findLevel_5 rfl (lv_at hl 0 rfl) ?_
  refine fg_X11_244 C hw ic1_0 dX11_findLevel_6 ?_
  refine lv_if_ne (tgt := 14) hx hb dX11_findLevel_9 (by decide) (fun q_3 => ?_) (fun q_3 => ?_)
  · have hf := x_iN hf q_3
    refine lv_iconst (v := (0 : Int32)) hx hb dX11_findLevel_14 (by decide) ?_
    refine lv_istore_n (lv' := [(2, .int (0 : Int32)), (0, .ref (g.2.2.1 0)), (1, .int a1)]) hx hb dX11_findLevel_15 rfl hl (by decide) rfl (fun ls hl => ?_)
    refine lv_ldc hx hb hown (hB _ mk_X11_250) dX11_findLevel_16 ?_
    refine lv_istore_n (lv' := [(3, .int (200000 : Int32)), (2, .int (0 : Int32)), (0, .ref (g.2.2.1 0)), (1, .int a1)]) hx hb dX11_findLevel_18 rfl hl (by decide) rfl (fun ls hl => ?_)
    refine lv_aload_n hx hb dX11_findLevel_19 rfl (lv_at hl 2 rfl) ?_
    refine lv_iload_n hx hb dX11_findLevel_20 rfl (lv_at hl 0 rfl) ?_
    obtain ⟨tv_6, tM_4, c_5, hf⟩ := x_bE hf
    refine x_vI C hw hl.1 [.int (200000 : Int32)] [] (mX11_holds l g c_5) lk_X11_251 ic1_0 (by decide) rfl (by decide) rfl (Nat.le_of_ble_eq_true rfl) ⟨Nat.zero_le _, Nat.zero_le _⟩ dX11_findLevel_21 (fun v_6 M_4 H locs hN hw => ?_)
    obtain ⟨rfl, rfl⟩ := hN
    refine lv_if_ne (tgt := 29) hx hb dX11_findLevel_24 (by decide) (fun q_7 => ?_) (fun q_7 => ?_)
    · have hf := x_iN hf q_7
      have hL_24 : ∀ (n_11 : Nat) (H : Heap) (locs : List Loc) (M_10 : xM) (x2_8 : Int32) (x3_9 : Int32) (ls : Array Slot) , lv_has ls 5 [(0, .ref (g.2.2.1 0)), (2, .int x2_8), (3, .int x3_9)] → x_w g 1 s H locs M_10 → fX11_findLevel_L29 n_11 M_10 x2_8 x3_9 = some (r, M') → W p l e (x_rm 5 126) s m args below meth c H locs 0 0 Q (F0 m 29 ls []) := by
        intro n_11
        induction n_11 with
        | zero =>
          intro H locs M_10 x2_8 x3_9 ls  hl hw hf
          rw [fX11_findLevel_L29] at hf
          cases hf
        | succ n_11 ih_12 =>
          intro H locs M_10 x2_8 x3_9 ls  hl hw hf
          rw [fX11_findLevel_L29] at hf
          refine lv_iload_n hx hb dX11_findLevel_29 rfl (lv_at hl 2 rfl) ?_
          refine lv_iload_n hx hb dX11_findLevel_30 rfl (lv_at hl 1 rfl) ?_
          refine lv_isub hx hb dX11_findLevel_31 ?_
          refine lv_iconst (v := (1 : Int32)) hx hb dX11_findLevel_32 (by decide) ?_
          refine lv_icmp_le (tgt := 64) hx hb dX11_findLevel_33 (by decide) (fun q_13 => ?_) (fun q_13 => ?_)
          · have hf := x_iP hf q_13
            refine lv_iload_n hx hb dX11_findLevel_64 rfl (lv_at hl 2 rfl) ?_
            exact ret hf dX11_findLevel_65 hw
          · have hf := x_iN hf q_13
            refine lv_iload_n hx hb dX11_findLevel_36 rfl (lv_at hl 1 rfl) ?_
            refine lv_iload_n hx hb dX11_findLevel_37 rfl (lv_at hl 2 rfl) ?_
            refine lv_iadd hx hb dX11_findLevel_38 ?_
            refine lv_iconst (v := (2 : Int32)) hx hb dX11_findLevel_39 (by decide) ?_
            refine lv_idiv hx hb dX11_findLevel_40 (by decide) ?_
            refine lv_topi (fun x4_15 ex4_15 => ?_)
            have hf := x_lE ex4_15 hf
            refine lv_istore (lv' := [(4, .int x4_15), (0, .ref (g.2.2.1 0)), (2, .int x2_8), (3, .int x3_9)]) hx hb dX11_findLevel_41 hl (by decide) rfl (fun ls hl => ?_)
            refine lv_aload_n hx hb dX11_findLevel_43 rfl (lv_at hl 1 rfl) ?_
            refine lv_iload hx hb dX11_findLevel_44 (lv_at hl 0 rfl) ?_
            obtain ⟨tv_18, tM_16, c_17, hf⟩ := x_bE hf
            refine x_vI C hw hl.1 [.int x4_15] [] (mX11_holds l g c_17) lk_X11_251 ic1_0 (by decide) rfl (by decide) rfl (Nat.le_of_ble_eq_true rfl) ⟨Nat.zero_le _, Nat.zero_le _⟩ dX11_findLevel_46 (fun v_18 M_16 H locs hN hw => ?_)
            obtain ⟨rfl, rfl⟩ := hN
            obtain ⟨k61_21, ek61_21, hf⟩ := x_jE hf
            have hk61_21 : ∀ (H : Heap) (locs : List Loc) (M_22 : xM) (x2_19 : Int32) (x3_20 : Int32) (ls : Array Slot) , lv_has ls 5 [(0, .ref (g.2.2.1 0)), (2, .int x2_19), (3, .int x3_20)] → x_w g 1 s H locs M_22 → k61_21 M_22 x2_19 x3_20 = some (r, M') → W p l e (x_rm 5 126) s m args below meth c H locs 0 0 Q (F0 m 61 ls []) := by
              intro H locs M_22 x2_19 x3_20 ls  hl hw hf
              rw [ek61_21] at hf
              refine lv_goto (tgt := 29) hx hb dX11_findLevel_61 (by decide) ?_
              exact ih_12 _ _ _ _ _ _ (lv_sub hl [0, 1, 2] rfl) hw hf
            refine lv_if_eq (tgt := 58) hx hb dX11_findLevel_49 (by decide) (fun q_23 => ?_) (fun q_23 => ?_)
            · have hf := x_iP hf q_23
              refine lv_iload hx hb dX11_findLevel_58 (lv_at hl 0 rfl) ?_
              refine lv_istore_n (lv' := [(2, .int x4_15), (4, .int x4_15), (0, .ref (g.2.2.1 0)), (3, .int x3_9)]) hx hb dX11_findLevel_60 rfl hl (by decide) rfl (fun ls hl => ?_)
              exact hk61_21 _ _ _ _ _ _ (lv_sub hl [2, 0, 3] rfl) hw hf
            · have hf := x_iN hf q_23
              refine lv_iload hx hb dX11_findLevel_52 (lv_at hl 0 rfl) ?_
              refine lv_istore_n (lv' := [(3, .int x4_15), (4, .int x4_15), (0, .ref (g.2.2.1 0)), (2, .int x2_8)]) hx hb dX11_findLevel_54 rfl hl (by decide) rfl (fun ls hl => ?_)
              refine lv_goto (tgt := 61) hx hb dX11_findLevel_55 (by decide) ?_
              exact hk61_21 _ _ _ _ _ _ (lv_sub hl [2, 3, 0] rfl) hw hf
      exact hL_24 _ _ _ _ _ _ _ (lv_sub hl [2, 1, 0] rfl) hw hf
    · have hf := x_iP hf q_7
      refine lv_iconst (v := (-1 : Int32)) hx hb dX11_findLevel_27 (by decide) ?_
      exact ret hf dX11_findLevel_28 hw
  · have hf := x_iP hf q_3
    refine lv_iconst (v := (0 : Int32)) hx hb dX11_findLevel_12 (by decide) ?_
    exact ret hf dX11_findLevel_13 hw
noncomputable def fX11_level (M : xM) (a1 : Int32) : Option (Int32 × xM) := x_b (fX11_isPerson M a1) fun v_3 M_1 => if v_3 = 0 then (some ((-1000000001 : Int32), M_1)) else (x_b (fX11_findLevel M_1 a1) fun v_7 M_5 => if v_7 = (-1 : Int32) then (some ((-1000000002 : Int32), M_5)) else (some (v_7, M_5)))
set_option maxRecDepth 100000 in
set_option maxHeartbeats 4000000 in
theorem mX11_level (l : Launch) (g : xG) {a1 : Int32} {r : Int32} {M' : xM}  {M : xM} (hf : fX11_level M a1 = some (r, M')) : x_cI l g 1 yX11_level cX11_level 3 .int 6 150 [.ref (g.2.2.1 0), .int a1] M (fun v N => v = r ∧ N = M') := by
  refine x_stI RX11 (by decide) rfl (Nat.le_of_ble_eq_true rfl) ?_
  intro p e s m args below meth c Q ls C hw ret hl
  obtain ⟨hx, hb, hml, hown, hB, -⟩ := id C
  have hl : lv_has ls 3 [(0, .ref (g.2.2.1 0)), (1, .int a1)] := hl
  unfold fX11_level at hf
  refine lv_aload_n hx hb dX11_level_0 rfl (lv_at hl 0 rfl) ?_
  refine lv_iload_n hx hb dX11_level_1 rfl (lv_at hl 1 rfl) ?_
  obtain ⟨tv_3, tM_1, c_2, hf⟩ := x_bE hf
  refine x_vI C hw hl.1 [.int a1] [] (mX11_isPerson l g c_2) lk_X11_62 ic1_0 (by decide) rfl (by decide) rfl (Nat.le_of_ble_eq_true rfl) ⟨Nat.zero_le _, Nat.zero_le _⟩ dX11_level_2 (fun v_3 M_1 H locs hN hw => ?_)
  obtain ⟨rfl, rfl⟩ := hN
  refine lv_if_ne (tgt := 11) hx hb dX11_level_5 (by decide) (fun q_4 => ?_) (fun q_4 => ?_)
  · have hf := x_iN hf q_4
    refine lv_aload_n hx hb dX11_level_11 rfl (lv_at hl 0 rfl) ?_
    refine lv_iload_n hx hb dX11_level_12 rfl (lv_at hl 1 rfl) ?_
    obtain ⟨tv_7, tM_5, c_6, hf⟩ := x_bE hf
    refine x_vI C hw hl.1 [.int a1] [] (mX11_findLevel l g c_6) lk_X11_254 ic1_0 (by decide) rfl (by decide) rfl (Nat.le_of_ble_eq_true rfl) ⟨Nat.zero_le _, Nat.zero_le _⟩ dX11_level_13 (fun v_7 M_5 H locs hN hw => ?_)
    obtain ⟨rfl, rfl⟩ := hN
    refine lv_istore_n (lv' := [(2, .int v_7), (0, .ref (g.2.2.1 0)), (1, .int a1)]) hx hb dX11_level_16 rfl hl (by decide) rfl (fun ls hl => ?_)
    refine lv_iload_n hx hb dX11_level_17 rfl (lv_at hl 0 rfl) ?_
    refine lv_iconst (v := (-1 : Int32)) hx hb dX11_level_18 (by decide) ?_
    refine lv_icmp_ne (tgt := 27) hx hb dX11_level_19 (by decide) (fun q_8 => ?_) (fun q_8 => ?_)
    · have hf := x_iN hf q_8
      refine lv_iload_n hx hb dX11_level_27 rfl (lv_at hl 0 rfl) ?_
      exact ret hf dX11_level_28 hw
    · have hf := x_iP hf q_8
      refine lv_ldc hx hb hown (hB _ mk_X11_69) dX11_level_22 ?_
      refine lv_goto (tgt := 28) hx hb dX11_level_24 (by decide) ?_
      exact ret hf dX11_level_28 hw
  · have hf := x_iP hf q_4
    refine lv_ldc hx hb hown (hB _ mk_X11_60) dX11_level_8 ?_
    exact ret hf dX11_level_10 hw
noncomputable def fX11_layPays_L34 (a1 : Int32) : Nat → xM → Int64 → Int32 → Option (xM)
  | 0, _, _, _ => none
  | n_7 + 1, M_6, x2_4, x4_5 => if (24 : Int32) ≤ x4_5 then (some M_6) else (x_g x4_5 24 (x_b (fX11_less M_6 (M_6 8 x4_5.toNatClampNeg) a1) fun v_13 M_11 => x_l (fun (M_16 : xM) (z_14 : Int32) => x_g x4_5 24 (x_l (x_up M_16 11 x4_5.toNatClampNeg z_14) fun M_18 => x_g x4_5 24 (x_l (x2_4 - ((M_18 11 x4_5.toNatClampNeg).toInt64)) fun x2_20 => x_l (x4_5 + (1 : Int32)) fun x4_21 => fX11_layPays_L34 a1 n_7 M_18 x2_20 x4_21))) fun k75_15 => if 0 ≤ (lg_cmp (v_13.toInt64) x2_4) then (k75_15 M_11 (x2_4.toInt32)) else (k75_15 M_11 v_13)))
noncomputable def fX11_layPays_L5 (k31_2 : xM → Int64 → Option (xM)) : Nat → xM → Int64 → Int32 → Option (xM)
  | 0, _, _, _ => none
  | n_27 + 1, M_26, x2_24, x4_25 => if (M_26 0 24) ≤ x4_25 then (k31_2 M_26 x2_24) else (x_g x4_25 16 (x_l (x2_24 + ((M_26 10 x4_25.toNatClampNeg).toInt64)) fun x2_31 => x_l (x4_25 + (1 : Int32)) fun x4_32 => fX11_layPays_L5 k31_2 n_27 M_26 x2_31 x4_32))
noncomputable def fX11_layPays (M : xM) (a1 : Int32) : Option (xM) := x_l (fun (M_3 : xM) (x2_1 : Int64) => fX11_layPays_L34 a1 x_FU M_3 x2_1 (0 : Int32)) fun k31_2 => fX11_layPays_L5 k31_2 x_FU M (0 : Int64) (0 : Int32)
set_option maxRecDepth 100000 in
set_option maxHeartbeats 4000000 in
theorem mX11_layPays (l : Launch) (g : xG) {a1 : Int32} {M' : xM}  {M : xM} (hf : fX11_layPays M a1 = some M') : x_cV l g 1 yX11_layPays cX11_layPays 6 1 21 [.ref (g.2.2.1 0), .int a1] M (fun N => N = M') := by
  refine x_stV RX11 (by decide) rfl (Nat.le_of_ble_eq_true rfl) ?_
  intro p e s m args below meth c Q ls C hw ret hl
  obtain ⟨hx, hb, hml, hown, hB, -⟩ := id C
  have hl : lv_has ls 6 [(0, .ref (g.2.2.1 0)), (1, .int a1)] := hl
  unfold fX11_layPays at hf
  refine lv_lconst (v := 0) hx hb dX11_layPays_0 (by decide) ?_
  refine lv_lstore_n (lv' := [(2, .long (0 : Int64)), (0, .ref (g.2.2.1 0)), (1, .int a1)]) hx hb dX11_layPays_1 rfl hl (by decide) rfl (fun ls hl => ?_)
  refine lv_iconst (v := (0 : Int32)) hx hb dX11_layPays_2 (by decide) ?_
  refine lv_istore (lv' := [(4, .int (0 : Int32)), (2, .long (0 : Int64)), (0, .ref (g.2.2.1 0)), (1, .int a1)]) hx hb dX11_layPays_3 hl (by decide) rfl (fun ls hl => ?_)
  obtain ⟨k31_2, ek31_2, hf⟩ := x_jE hf
  have hk31_2 : ∀ (H : Heap) (locs : List Loc) (M_3 : xM) (x2_1 : Int64) (ls : Array Slot) , lv_has ls 6 [(0, .ref (g.2.2.1 0)), (1, .int a1), (2, .long x2_1)] → x_w g 1 s H locs M_3 → k31_2 M_3 x2_1 = some M' → W p l e (x_rm 1 21) s m args below meth c H locs 0 0 Q (F0 m 31 ls []) := by
    intro H locs M_3 x2_1 ls  hl hw hf
    rw [ek31_2] at hf
    refine lv_iconst (v := (0 : Int32)) hx hb dX11_layPays_31 (by decide) ?_
    refine lv_istore (lv' := [(4, .int (0 : Int32)), (0, .ref (g.2.2.1 0)), (1, .int a1), (2, .long x2_1)]) hx hb dX11_layPays_32 hl (by decide) rfl (fun ls hl => ?_)
    have hL_23 : ∀ (n_7 : Nat) (H : Heap) (locs : List Loc) (M_6 : xM) (x2_4 : Int64) (x4_5 : Int32) (ls : Array Slot) , lv_has ls 6 [(0, .ref (g.2.2.1 0)), (1, .int a1), (2, .long x2_4), (4, .int x4_5)] → x_w g 1 s H locs M_6 → fX11_layPays_L34 a1 n_7 M_6 x2_4 x4_5 = some M' → W p l e (x_rm 1 21) s m args below meth c H locs 0 0 Q (F0 m 34 ls []) := by
      intro n_7
      induction n_7 with
      | zero =>
        intro H locs M_6 x2_4 x4_5 ls  hl hw hf
        rw [fX11_layPays_L34] at hf
        cases hf
      | succ n_7 ih_8 =>
        intro H locs M_6 x2_4 x4_5 ls  hl hw hf
        rw [fX11_layPays_L34] at hf
        refine lv_iload hx hb dX11_layPays_34 (lv_at hl 3 rfl) ?_
        refine lv_bipush (v := (24 : Int32)) hx hb dX11_layPays_36 (by decide) ?_
        refine lv_icmp_ge (tgt := 93) hx hb dX11_layPays_38 (by decide) (fun q_9 => ?_) (fun q_9 => ?_)
        · have hf := x_iP hf q_9
          exact ret hf dX11_layPays_93 hw
        · have hf := x_iN hf q_9
          refine lv_aload_n hx hb dX11_layPays_41 rfl (lv_at hl 0 rfl) ?_
          refine fg_X11_31 (k2 := 8) C hw ic1_0 rfl dX11_layPays_42 ?_
          refine lv_iload hx hb dX11_layPays_45 (lv_at hl 3 rfl) ?_
          obtain ⟨q_10, hf⟩ := x_gE hf
          refine x_ald C hw ic1_8 q_10 rfl dX11_layPays_47 ?_
          refine lv_iload_n hx hb dX11_layPays_48 rfl (lv_at hl 1 rfl) ?_
          obtain ⟨tv_13, tM_11, c_12, hf⟩ := x_bE hf
          refine x_sI C hw hl.1 [.int (M_6 8 x4_5.toNatClampNeg), .int a1] [] (mX11_less l g c_12) lk_X11_195 (by decide) rfl (Nat.le_of_ble_eq_true rfl) ⟨Nat.zero_le _, Nat.zero_le _⟩ dX11_layPays_49 (fun v_13 M_11 H locs hN hw => ?_)
          obtain ⟨rfl, rfl⟩ := hN
          refine lv_istore (lv' := [(5, .int v_13), (0, .ref (g.2.2.1 0)), (1, .int a1), (2, .long x2_4), (4, .int x4_5)]) hx hb dX11_layPays_52 hl (by decide) rfl (fun ls hl => ?_)
          refine lv_aload_n hx hb dX11_layPays_54 rfl (lv_at hl 1 rfl) ?_
          refine fg_X11_40 (k2 := 11) C hw ic1_0 rfl dX11_layPays_55 ?_
          refine lv_iload hx hb dX11_layPays_58 (lv_at hl 4 rfl) ?_
          refine lv_iload hx hb dX11_layPays_60 (lv_at hl 0 rfl) ?_
          refine lv_i2l hx hb dX11_layPays_62 rfl ?_
          refine lv_lload_n hx hb dX11_layPays_63 rfl (lv_at hl 3 rfl) ?_
          refine W.lcmp hx hb dX11_layPays_64 ?_
          obtain ⟨k75_15, ek75_15, hf⟩ := x_jE hf
          have hk75_15 : ∀ (H : Heap) (locs : List Loc) (M_16 : xM) (z_14 : Int32) (ls : Array Slot) , lv_has ls 6 [(0, .ref (g.2.2.1 0)), (1, .int a1), (2, .long x2_4), (4, .int x4_5)] → x_w g 1 s H locs M_16 → k75_15 M_16 z_14 = some M' → W p l e (x_rm 1 21) s m args below meth c H locs 0 0 Q (F0 m 75 ls [.int z_14, .int x4_5, .ref (g.2.2.1 11)]) := by
            intro H locs M_16 z_14 ls  hl hw hf
            rw [ek75_15] at hf
            obtain ⟨q_17, hf⟩ := x_gE hf
            refine x_ast C hw ic1_11 q_17 rfl dX11_layPays_75 (fun H locs hw => ?_)
            obtain ⟨M_18, eM_18⟩ : ∃ z, z = (x_up M_16 11 x4_5.toNatClampNeg z_14) := ⟨_, rfl⟩
            rw [← eM_18] at hw
            have hf := x_lE eM_18 hf
            refine lv_lload_n hx hb dX11_layPays_76 rfl (lv_at hl 2 rfl) ?_
            refine lv_aload_n hx hb dX11_layPays_77 rfl (lv_at hl 0 rfl) ?_
            refine fg_X11_40 (k2 := 11) C hw ic1_0 rfl dX11_layPays_78 ?_
            refine lv_iload hx hb dX11_layPays_81 (lv_at hl 3 rfl) ?_
            obtain ⟨q_19, hf⟩ := x_gE hf
            refine x_ald C hw ic1_11 q_19 rfl dX11_layPays_83 ?_
            refine lv_i2l hx hb dX11_layPays_84 rfl ?_
            refine lv_lsub hx hb dX11_layPays_85 ?_
            refine lv_topl (fun x2_20 ex2_20 => ?_)
            have hf := x_lE ex2_20 hf
            refine lv_lstore_n (lv' := [(2, .long x2_20), (0, .ref (g.2.2.1 0)), (1, .int a1), (4, .int x4_5)]) hx hb dX11_layPays_86 rfl hl (by decide) rfl (fun ls hl => ?_)
            obtain ⟨x4_21, ex4_21⟩ : ∃ z : Int32, z = (x4_5 + (1 : Int32)) := ⟨_, rfl⟩
            have hf := x_lE ex4_21 hf
            refine lv_iinc (v := x4_21) (lv' := [(4, .int x4_21), (2, .long x2_20), (0, .ref (g.2.2.1 0)), (1, .int a1)]) hx hb dX11_layPays_87 hl (k := 3) rfl (by rw [ex4_21]; rfl) (by decide) rfl (fun ls hl => ?_)
            refine lv_goto (tgt := 34) hx hb dX11_layPays_90 (by decide) ?_
            exact ih_8 _ _ _ _ _ _ (lv_sub hl [2, 3, 1, 0] rfl) hw hf
          refine lv_if_ge (tgt := 73) hx hb dX11_layPays_65 (by decide) (fun q_22 => ?_) (fun q_22 => ?_)
          · have hf := x_iP hf q_22
            refine lv_lload_n hx hb dX11_layPays_73 rfl (lv_at hl 3 rfl) ?_
            refine lv_l2i hx hb dX11_layPays_74 rfl ?_
            exact hk75_15 _ _ _ _ _ (lv_sub hl [1, 2, 3, 4] rfl) hw hf
          · have hf := x_iN hf q_22
            refine lv_iload hx hb dX11_layPays_68 (lv_at hl 0 rfl) ?_
            refine lv_goto (tgt := 75) hx hb dX11_layPays_70 (by decide) ?_
            exact hk75_15 _ _ _ _ _ (lv_sub hl [1, 2, 3, 4] rfl) hw hf
    exact hL_23 _ _ _ _ _ _ _ (lv_sub hl [1, 2, 3, 0] rfl) hw hf
  have hL_33 : ∀ (n_27 : Nat) (H : Heap) (locs : List Loc) (M_26 : xM) (x2_24 : Int64) (x4_25 : Int32) (ls : Array Slot) , lv_has ls 6 [(0, .ref (g.2.2.1 0)), (1, .int a1), (2, .long x2_24), (4, .int x4_25)] → x_w g 1 s H locs M_26 → fX11_layPays_L5 k31_2 n_27 M_26 x2_24 x4_25 = some M' → W p l e (x_rm 1 21) s m args below meth c H locs 0 0 Q (F0 m 5 ls []) := by
    intro n_27
    induction n_27 with
    | zero =>
      intro H locs M_26 x2_24 x4_25 ls  hl hw hf
      rw [fX11_layPays_L5] at hf
      cases hf
    | succ n_27 ih_28 =>
      intro H locs M_26 x2_24 x4_25 ls  hl hw hf
      rw [fX11_layPays_L5] at hf
      refine lv_iload hx hb dX11_layPays_5 (lv_at hl 3 rfl) ?_
      refine lv_aload_n hx hb dX11_layPays_7 rfl (lv_at hl 0 rfl) ?_
      refine fg_X11_244 C hw ic1_0 dX11_layPays_8 ?_
      refine lv_icmp_ge (tgt := 31) hx hb dX11_layPays_11 (by decide) (fun q_29 => ?_) (fun q_29 => ?_)
      · have hf := x_iP hf q_29
        exact hk31_2 _ _ _ _ _ (lv_sub hl [0, 1, 2] rfl) hw hf
      · have hf := x_iN hf q_29
        refine lv_lload_n hx hb dX11_layPays_14 rfl (lv_at hl 2 rfl) ?_
        refine lv_aload_n hx hb dX11_layPays_15 rfl (lv_at hl 0 rfl) ?_
        refine fg_X11_37 (k2 := 10) C hw ic1_0 rfl dX11_layPays_16 ?_
        refine lv_iload hx hb dX11_layPays_19 (lv_at hl 3 rfl) ?_
        obtain ⟨q_30, hf⟩ := x_gE hf
        refine x_ald C hw ic1_10 q_30 rfl dX11_layPays_21 ?_
        refine lv_i2l hx hb dX11_layPays_22 rfl ?_
        refine lv_ladd hx hb dX11_layPays_23 ?_
        refine lv_topl (fun x2_31 ex2_31 => ?_)
        have hf := x_lE ex2_31 hf
        refine lv_lstore_n (lv' := [(2, .long x2_31), (0, .ref (g.2.2.1 0)), (1, .int a1), (4, .int x4_25)]) hx hb dX11_layPays_24 rfl hl (by decide) rfl (fun ls hl => ?_)
        obtain ⟨x4_32, ex4_32⟩ : ∃ z : Int32, z = (x4_25 + (1 : Int32)) := ⟨_, rfl⟩
        have hf := x_lE ex4_32 hf
        refine lv_iinc (v := x4_32) (lv' := [(4, .int x4_32), (2, .long x2_31), (0, .ref (g.2.2.1 0)), (1, .int a1)]) hx hb dX11_layPays_25 hl (k := 3) rfl (by rw [ex4_32]; rfl) (by decide) rfl (fun ls hl => ?_)
        refine lv_goto (tgt := 5) hx hb dX11_layPays_28 (by decide) ?_
        exact ih_28 _ _ _ _ _ _ (lv_sub hl [2, 3, 1, 0] rfl) hw hf
  exact hL_33 _ _ _ _ _ _ _ (lv_sub hl [2, 3, 1, 0] rfl) hw hf
noncomputable def fX11_month (M : xM) (a1 : Int32) (a2 : Int32) : Option (Int32 × xM) := x_b (fX11_isPerson M a1) fun v_3 M_1 => if v_3 = 0 then (some ((-1000000001 : Int32), M_1)) else (x_b (fX11_in M_1 a2 (0 : Int32) (23 : Int32)) fun v_7 M_5 => if v_7 = 0 then (some ((-1000000001 : Int32), M_5)) else (x_b (fX11_findLevel M_5 a1) fun v_11 M_9 => if v_11 = (-1 : Int32) then (some ((-1000000002 : Int32), M_9)) else (x_v (fX11_layPays M_9 v_11) fun M_13 => x_g a2 24 (some ((M_13 11 a2.toNatClampNeg), M_13)))))
set_option maxRecDepth 100000 in
set_option maxHeartbeats 4000000 in
theorem mX11_month (l : Launch) (g : xG) {a1 : Int32} {a2 : Int32} {r : Int32} {M' : xM}  {M : xM} (hf : fX11_month M a1 a2 = some (r, M')) : x_cI l g 1 yX11_month cX11_month 4 .int 6 150 [.ref (g.2.2.1 0), .int a1, .int a2] M (fun v N => v = r ∧ N = M') := by
  refine x_stI RX11 (by decide) rfl (Nat.le_of_ble_eq_true rfl) ?_
  intro p e s m args below meth c Q ls C hw ret hl
  obtain ⟨hx, hb, hml, hown, hB, -⟩ := id C
  have hl : lv_has ls 4 [(0, .ref (g.2.2.1 0)), (1, .int a1), (2, .int a2)] := hl
  unfold fX11_month at hf
  refine lv_aload_n hx hb dX11_month_0 rfl (lv_at hl 0 rfl) ?_
  refine lv_iload_n hx hb dX11_month_1 rfl (lv_at hl 1 rfl) ?_
  obtain ⟨tv_3, tM_1, c_2, hf⟩ := x_bE hf
  refine x_vI C hw hl.1 [.int a1] [] (mX11_isPerson l g c_2) lk_X11_62 ic1_0 (by decide) rfl (by decide) rfl (Nat.le_of_ble_eq_true rfl) ⟨Nat.zero_le _, Nat.zero_le _⟩ dX11_month_2 (fun v_3 M_1 H locs hN hw => ?_)
  obtain ⟨rfl, rfl⟩ := hN
  refine lv_if_eq (tgt := 18) hx hb dX11_month_5 (by decide) (fun q_4 => ?_) (fun q_4 => ?_)
  · have hf := x_iP hf q_4
    refine lv_ldc hx hb hown (hB _ mk_X11_60) dX11_month_18 ?_
    exact ret hf dX11_month_20 hw
  · have hf := x_iN hf q_4
    refine lv_iload_n hx hb dX11_month_8 rfl (lv_at hl 2 rfl) ?_
    refine lv_iconst (v := (0 : Int32)) hx hb dX11_month_9 (by decide) ?_
    refine lv_bipush (v := (23 : Int32)) hx hb dX11_month_10 (by decide) ?_
    obtain ⟨tv_7, tM_5, c_6, hf⟩ := x_bE hf
    refine x_sI C hw hl.1 [.int a2, .int (0 : Int32), .int (23 : Int32)] [] (mX11_in l g c_6) lk_X11_56 (by decide) rfl (Nat.le_of_ble_eq_true rfl) ⟨Nat.zero_le _, Nat.zero_le _⟩ dX11_month_12 (fun v_7 M_5 H locs hN hw => ?_)
    obtain ⟨rfl, rfl⟩ := hN
    refine lv_if_ne (tgt := 21) hx hb dX11_month_15 (by decide) (fun q_8 => ?_) (fun q_8 => ?_)
    · have hf := x_iN hf q_8
      refine lv_aload_n hx hb dX11_month_21 rfl (lv_at hl 0 rfl) ?_
      refine lv_iload_n hx hb dX11_month_22 rfl (lv_at hl 1 rfl) ?_
      obtain ⟨tv_11, tM_9, c_10, hf⟩ := x_bE hf
      refine x_vI C hw hl.1 [.int a1] [] (mX11_findLevel l g c_10) lk_X11_254 ic1_0 (by decide) rfl (by decide) rfl (Nat.le_of_ble_eq_true rfl) ⟨Nat.zero_le _, Nat.zero_le _⟩ dX11_month_23 (fun v_11 M_9 H locs hN hw => ?_)
      obtain ⟨rfl, rfl⟩ := hN
      refine lv_istore_n (lv' := [(3, .int v_11), (0, .ref (g.2.2.1 0)), (1, .int a1), (2, .int a2)]) hx hb dX11_month_26 rfl hl (by decide) rfl (fun ls hl => ?_)
      refine lv_iload_n hx hb dX11_month_27 rfl (lv_at hl 0 rfl) ?_
      refine lv_iconst (v := (-1 : Int32)) hx hb dX11_month_28 (by decide) ?_
      refine lv_icmp_ne (tgt := 35) hx hb dX11_month_29 (by decide) (fun q_12 => ?_) (fun q_12 => ?_)
      · have hf := x_iN hf q_12
        refine lv_aload_n hx hb dX11_month_35 rfl (lv_at hl 1 rfl) ?_
        refine lv_iload_n hx hb dX11_month_36 rfl (lv_at hl 0 rfl) ?_
        obtain ⟨tM_13, c_14, hf⟩ := x_vE hf
        refine x_vV C hw hl.1 [.int v_11] [] (mX11_layPays l g c_14) lk_X11_257 ic1_0 (by decide) rfl (by decide) rfl (Nat.le_of_ble_eq_true rfl) ⟨Nat.zero_le _, Nat.zero_le _⟩ dX11_month_37 (fun M_13 H locs hN hw => ?_)
        obtain rfl := hN
        refine lv_aload_n hx hb dX11_month_40 rfl (lv_at hl 1 rfl) ?_
        refine fg_X11_40 (k2 := 11) C hw ic1_0 rfl dX11_month_41 ?_
        refine lv_iload_n hx hb dX11_month_44 rfl (lv_at hl 3 rfl) ?_
        obtain ⟨q_15, hf⟩ := x_gE hf
        refine x_ald C hw ic1_11 q_15 rfl dX11_month_45 ?_
        exact ret hf dX11_month_46 hw
      · have hf := x_iP hf q_12
        refine lv_ldc hx hb hown (hB _ mk_X11_69) dX11_month_32 ?_
        exact ret hf dX11_month_34 hw
    · have hf := x_iP hf q_8
      refine lv_ldc hx hb hown (hB _ mk_X11_60) dX11_month_18 ?_
      exact ret hf dX11_month_20 hw
